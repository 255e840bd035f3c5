theorem iTy0 {ty : FieldType} (h : iTyOk 0 ty = true) : ty = .int := by
  cases ty <;> first | rfl | (exact (nomatch (h : false = true)))
theorem iTy1 {ty : FieldType} (h : iTyOk 1 ty = true) : ty = .boolean := by
  cases ty <;> first | rfl | (exact (nomatch (h : false = true)))
theorem iTy2n {ty : FieldType} {b : Nat} (h : iTyOk 2 ty = true) : narrow ty (cv (vr b)) = cv (vr b) := by
  by_cases hb : b = 0
  · subst hb
    cases ty <;> first | rfl | (exact (nomatch (h : false = true)))
  · rw [cv_r hb]
    cases ty <;> first | rfl | (exact (nomatch (h : false = true)))
theorem iTy2f {ty : FieldType} {b : Nat} (h : iTyOk 2 ty = true) : fits ty (cv (vr b)) = true := by
  by_cases hb : b = 0
  · subst hb
    cases ty <;> first | rfl | (exact (nomatch (h : false = true)))
  · rw [cv_r hb]
    cases ty <;> first | rfl | (exact (nomatch (h : false = true)))
theorem iFn {j kc f : Nat} (h : (!(kT kc f).2.2.2 || (decide ((iY j).name = "<init>") && decide (iOw j = kR kc))) = true) : (kT kc f).2.2.2 = false ∨ ((iY j).name = "<init>" ∧ iOw j = kR kc) := by
  rw [Bool.or_eq_true, Bool.and_eq_true, decide_eq_true_eq, decide_eq_true_eq] at h
  rcases h with h | h
  · exact Or.inl (by simpa using h)
  · exact Or.inr h
theorem iF0_I {σ : iS} {kc f a : Nat} {x : Int32} (h : kY kc f = .int ∨ kY kc f = .boolean) : ∀ g, g < kN kc → iFv (kY kc g) (sI (wI σ (kc * 32 + f) a x) (kc * 32 + g) a) (sR (wI σ (kc * 32 + f) a x) (kc * 32 + g) a) = if g = f then cv (vi x) else iFv (kY kc g) (sI σ (kc * 32 + g) a) (sR σ (kc * 32 + g) a) := by
  intro g _
  by_cases hg : g = f
  · subst hg
    rw [if_pos rfl]
    have e1 : sI (wI σ (kc * 32 + g) a x) (kc * 32 + g) a = x := by simp [sI, wI, u2]
    rw [e1]
    rcases h with h | h <;> rw [h] <;> rfl
  · rw [if_neg hg]
    have e1 : sI (wI σ (kc * 32 + f) a x) (kc * 32 + g) a = sI σ (kc * 32 + g) a := by
      have : ¬ (kc * 32 + g = kc * 32 + f) := by omega
      simp [sI, wI, u2, hg]
    rw [e1]
    rfl
theorem iF0_R {σ : iS} {kc f a b : Nat} (h : iTyOk 2 (kY kc f) = true) : ∀ g, g < kN kc → iFv (kY kc g) (sI (wR σ (kc * 32 + f) a b) (kc * 32 + g) a) (sR (wR σ (kc * 32 + f) a b) (kc * 32 + g) a) = if g = f then cv (vr b) else iFv (kY kc g) (sI σ (kc * 32 + g) a) (sR σ (kc * 32 + g) a) := by
  intro g _
  by_cases hg : g = f
  · subst hg
    rw [if_pos rfl]
    have e1 : sR (wR σ (kc * 32 + g) a b) (kc * 32 + g) a = b := by simp [sR, wR, u2]
    rw [e1, iFv_t h]
    rfl
  · rw [if_neg hg]
    have e1 : sR (wR σ (kc * 32 + f) a b) (kc * 32 + g) a = sR σ (kc * 32 + g) a := by
      have : ¬ (kc * 32 + g = kc * 32 + f) := by omega
      simp [sR, wR, u2, hg]
    rw [e1]
    rfl
/-- a branch's target is no negative number -/
theorem iOff0 {pc : Nat} {off : Int} (h : decide (0 ≤ (pc : Int) + off) = true) : ∃ t : Nat, (pc : Int) + off = (t : Int) := by
  rw [decide_eq_true_eq] at h
  exact ⟨((pc : Int) + off).toNat, by omega⟩

/-! every step that goes on -/
/-- from here the run ends with o, σ': the room is counted, and the real machine does so -/
def iG2 (D : iD) (base : Nat) (l : Launch) (o : iO) (σe : iS) (j pc : Nat) (ls st : List iV) (σ : iS) : Prop := (sX σ ≤ sX σe ∧ sS σ ≤ sS σe) ∧ ∀ (p : Program) (e : Env) (R : Room) (s : State) (m : MethodId) (args : Array Value) (below : List Frame) (meth : Method) (c : Code) (x0 s0 : Nat), iCtx D p s m meth c j → iKy D base s → s.heap.size + 1 = x0 → x0 ≤ sX σ → s0 ≤ sS σ → rF j ≤ R.frames → rL j ≤ R.locals → sX σe - x0 ≤ R.cells → sS σe - s0 ≤ R.slots → j < 140 → iWG D base l p e R s m args below meth c x0 s0 o σe j pc ls st σ
section GO
variable {D : iD} {base : Nat} {l : Launch} {o : iO} {σe : iS} {j pc len : Nat} {ls st : List iV} {σ : iS} {y : iT}
/-- what comes behind the step: it goes on; it has ended; it has called -/
def iK1 (D : iD) (base : Nat) (l : Launch) (o : iO) (σe : iS) (j : Nat) (y : iT) : Prop := ∀ (pc' : Nat) (ls' st' : List iV) (σ1 : iS), y = .inl (pc', ls', st', σ1) → iG2 D base l o σe j pc' ls' st' σ1
def iK2 (o : iO) (σe : iS) (y : iT) : Prop := ∀ (o2 : iO) (σ2 : iS), y = .inr (.inl (o2, σ2)) → o = o2 ∧ σe = σ2
def iK3 (D : iD) (base : Nat) (l : Launch) (o : iO) (σe : iS) (j pc len : Nat) (ls : List iV) (σ : iS) (y : iT) : Prop := ∀ (j' : Nat) (as rest : List iV), y = .inr (.inr (j', as, rest)) → ∃ (o1 : iO) (σ1 : iS), (j' < 140 → j' ≠ 137 → as.length ≤ mL j' → (∀ v ∈ as, ∀ w, v ≠ vl w) → iMt D base l j' as σ o1 σ1) ∧ (sX σ ≤ sX σ1 ∧ sS σ ≤ sS σ1) ∧ (sX σ1 ≤ sX σe ∧ sS σ1 ≤ sS σe) ∧ (∀ v, o1 = .inl v → iG2 D base l o σe j (pc + len) ls (v.toList ++ rest) σ1) ∧ (∀ x a h, o1 = .inr (x, a) → mH j pc x = some h → iG2 D base l o σe j h ls [vr a] σ1) ∧ (∀ x a, o1 = .inr (x, a) → mH j pc x = none → mHn j = true ∧ o = .inr (x, a) ∧ σe = σ1)
theorem iJ_inv {off : Int} (h : iJ pc off ls st σ = some y) : ∃ t : Nat, (pc : Int) + off = (t : Int) ∧ y = .inl (t, ls, st, σ) := by
  unfold iJ at h
  split at h
  · next t ht => cases h; exact ⟨t, ht, rfl⟩
  · cases h
theorem iB_inv {c : Prop} {t f : Option iT} (h : iB c t f = some y) : (c ∧ t = some y) ∨ (¬ c ∧ f = some y) := by
  by_cases hc : c
  · rw [iB_t hc] at h; exact Or.inl ⟨hc, h⟩
  · rw [iB_f hc] at h; exact Or.inr ⟨hc, h⟩

theorem ig_iconst {v : Int} (hc : iC j pc = some (.iconst v, len)) (hs : ist j pc (.iconst v) len ls st σ = some y) (K1 : iK1 D base l o σe j y) (K2 : iK2 o σe y) (K3 : iK3 D base l o σe j pc len ls σ y) (hl : l.stackTraces = false) : iG2 D base l o σe j pc ls st σ := by
  unfold ist istep at hs
  cases hs
  have K := K1 _ _ _ _ rfl
  exact ⟨K.1, fun p e R s m args below meth c x0 s0 C Ky z h1 h2 h3 h4 h5 h6 h7 => sd_iconst C hc (K.2 p e R s m args below meth c x0 s0 C Ky z h1 h2 h3 h4 h5 h6 h7)⟩

theorem ig_bipush {v : Int} (hc : iC j pc = some (.bipush v, len)) (hs : ist j pc (.bipush v) len ls st σ = some y) (K1 : iK1 D base l o σe j y) (K2 : iK2 o σe y) (K3 : iK3 D base l o σe j pc len ls σ y) (hl : l.stackTraces = false) : iG2 D base l o σe j pc ls st σ := by
  unfold ist istep at hs
  cases hs
  have K := K1 _ _ _ _ rfl
  exact ⟨K.1, fun p e R s m args below meth c x0 s0 C Ky z h1 h2 h3 h4 h5 h6 h7 => sd_bipush C hc (K.2 p e R s m args below meth c x0 s0 C Ky z h1 h2 h3 h4 h5 h6 h7)⟩

theorem ig_sipush {v : Int} (hc : iC j pc = some (.sipush v, len)) (hs : ist j pc (.sipush v) len ls st σ = some y) (K1 : iK1 D base l o σe j y) (K2 : iK2 o σe y) (K3 : iK3 D base l o σe j pc len ls σ y) (hl : l.stackTraces = false) : iG2 D base l o σe j pc ls st σ := by
  unfold ist istep at hs
  cases hs
  have K := K1 _ _ _ _ rfl
  exact ⟨K.1, fun p e R s m args below meth c x0 s0 C Ky z h1 h2 h3 h4 h5 h6 h7 => sd_sipush C hc (K.2 p e R s m args below meth c x0 s0 C Ky z h1 h2 h3 h4 h5 h6 h7)⟩

theorem ig_null  (hc : iC j pc = some (.aconst_null, len)) (hs : ist j pc (.aconst_null) len ls st σ = some y) (K1 : iK1 D base l o σe j y) (K2 : iK2 o σe y) (K3 : iK3 D base l o σe j pc len ls σ y) (hl : l.stackTraces = false) : iG2 D base l o σe j pc ls st σ := by
  unfold ist istep at hs
  cases hs
  have K := K1 _ _ _ _ rfl
  exact ⟨K.1, fun p e R s m args below meth c x0 s0 C Ky z h1 h2 h3 h4 h5 h6 h7 => sd_null C hc (K.2 p e R s m args below meth c x0 s0 C Ky z h1 h2 h3 h4 h5 h6 h7)⟩

theorem ig_iload {q : Nat} (hc : iC j pc = some (.iload q, len)) (hs : ist j pc (.iload q) len ls st σ = some y) (K1 : iK1 D base l o σe j y) (K2 : iK2 o σe y) (K3 : iK3 D base l o σe j pc len ls σ y) (hl : l.stackTraces = false) : iG2 D base l o σe j pc ls st σ := by
  unfold ist istep at hs
  dsimp only at hs
  split at hs
  · next x hx => cases hs; have K := K1 _ _ _ _ rfl; exact ⟨K.1, fun p e R s m args below meth c x0 s0 C Ky z h1 h2 h3 h4 h5 h6 h7 => sd_iload C hc hx (K.2 p e R s m args below meth c x0 s0 C Ky z h1 h2 h3 h4 h5 h6 h7)⟩
  · cases hs

theorem ig_iload_n {q : Fin 4} (hc : iC j pc = some (.iload_n q, len)) (hs : ist j pc (.iload_n q) len ls st σ = some y) (K1 : iK1 D base l o σe j y) (K2 : iK2 o σe y) (K3 : iK3 D base l o σe j pc len ls σ y) (hl : l.stackTraces = false) : iG2 D base l o σe j pc ls st σ := by
  unfold ist istep at hs
  dsimp only at hs
  split at hs
  · next x hx => cases hs; have K := K1 _ _ _ _ rfl; exact ⟨K.1, fun p e R s m args below meth c x0 s0 C Ky z h1 h2 h3 h4 h5 h6 h7 => sd_iload_n C hc hx (K.2 p e R s m args below meth c x0 s0 C Ky z h1 h2 h3 h4 h5 h6 h7)⟩
  · cases hs

theorem ig_aload {q : Nat} (hc : iC j pc = some (.aload q, len)) (hs : ist j pc (.aload q) len ls st σ = some y) (K1 : iK1 D base l o σe j y) (K2 : iK2 o σe y) (K3 : iK3 D base l o σe j pc len ls σ y) (hl : l.stackTraces = false) : iG2 D base l o σe j pc ls st σ := by
  unfold ist istep at hs
  dsimp only at hs
  split at hs
  · next x hx => cases hs; have K := K1 _ _ _ _ rfl; exact ⟨K.1, fun p e R s m args below meth c x0 s0 C Ky z h1 h2 h3 h4 h5 h6 h7 => sd_aload C hc hx (K.2 p e R s m args below meth c x0 s0 C Ky z h1 h2 h3 h4 h5 h6 h7)⟩
  · cases hs

theorem ig_aload_n {q : Fin 4} (hc : iC j pc = some (.aload_n q, len)) (hs : ist j pc (.aload_n q) len ls st σ = some y) (K1 : iK1 D base l o σe j y) (K2 : iK2 o σe y) (K3 : iK3 D base l o σe j pc len ls σ y) (hl : l.stackTraces = false) : iG2 D base l o σe j pc ls st σ := by
  unfold ist istep at hs
  dsimp only at hs
  split at hs
  · next x hx => cases hs; have K := K1 _ _ _ _ rfl; exact ⟨K.1, fun p e R s m args below meth c x0 s0 C Ky z h1 h2 h3 h4 h5 h6 h7 => sd_aload_n C hc hx (K.2 p e R s m args below meth c x0 s0 C Ky z h1 h2 h3 h4 h5 h6 h7)⟩
  · cases hs

theorem ig_iinc {q : Nat} {v : Int} (hc : iC j pc = some (.iinc q v, len)) (hs : ist j pc (.iinc q v) len ls st σ = some y) (K1 : iK1 D base l o σe j y) (K2 : iK2 o σe y) (K3 : iK3 D base l o σe j pc len ls σ y) (hl : l.stackTraces = false) : iG2 D base l o σe j pc ls st σ := by
  unfold ist istep at hs
  dsimp only at hs
  split at hs
  · next x hx => cases hs; have K := K1 _ _ _ _ rfl; exact ⟨K.1, fun p e R s m args below meth c x0 s0 C Ky z h1 h2 h3 h4 h5 h6 h7 => sd_iinc C hc hx (K.2 p e R s m args below meth c x0 s0 C Ky z h1 h2 h3 h4 h5 h6 h7)⟩
  · cases hs

theorem ig_istore {q : Nat} (hc : iC j pc = some (.istore q, len)) (hs : ist j pc (.istore q) len ls st σ = some y) (K1 : iK1 D base l o σe j y) (K2 : iK2 o σe y) (K3 : iK3 D base l o σe j pc len ls σ y) (hl : l.stackTraces = false) : iG2 D base l o σe j pc ls st σ := by
  unfold ist istep at hs
  dsimp only at hs
  split at hs
  · obtain ⟨hq, hs⟩ := iG_s hs
    cases hs
    have K := K1 _ _ _ _ rfl
    exact ⟨K.1, fun p e R s m args below meth c x0 s0 C Ky z h1 h2 h3 h4 h5 h6 h7 => sd_istore C hc hq (K.2 p e R s m args below meth c x0 s0 C Ky z h1 h2 h3 h4 h5 h6 h7)⟩
  · cases hs

theorem ig_istore_n {q : Fin 4} (hc : iC j pc = some (.istore_n q, len)) (hs : ist j pc (.istore_n q) len ls st σ = some y) (K1 : iK1 D base l o σe j y) (K2 : iK2 o σe y) (K3 : iK3 D base l o σe j pc len ls σ y) (hl : l.stackTraces = false) : iG2 D base l o σe j pc ls st σ := by
  unfold ist istep at hs
  dsimp only at hs
  split at hs
  · obtain ⟨hq, hs⟩ := iG_s hs
    cases hs
    have K := K1 _ _ _ _ rfl
    exact ⟨K.1, fun p e R s m args below meth c x0 s0 C Ky z h1 h2 h3 h4 h5 h6 h7 => sd_istore_n C hc hq (K.2 p e R s m args below meth c x0 s0 C Ky z h1 h2 h3 h4 h5 h6 h7)⟩
  · cases hs

theorem ig_astore {q : Nat} (hc : iC j pc = some (.astore q, len)) (hs : ist j pc (.astore q) len ls st σ = some y) (K1 : iK1 D base l o σe j y) (K2 : iK2 o σe y) (K3 : iK3 D base l o σe j pc len ls σ y) (hl : l.stackTraces = false) : iG2 D base l o σe j pc ls st σ := by
  unfold ist istep at hs
  dsimp only at hs
  split at hs
  · obtain ⟨hq, hs⟩ := iG_s hs
    cases hs
    have K := K1 _ _ _ _ rfl
    exact ⟨K.1, fun p e R s m args below meth c x0 s0 C Ky z h1 h2 h3 h4 h5 h6 h7 => sd_astore C hc hq (K.2 p e R s m args below meth c x0 s0 C Ky z h1 h2 h3 h4 h5 h6 h7)⟩
  · cases hs

theorem ig_astore_n {q : Fin 4} (hc : iC j pc = some (.astore_n q, len)) (hs : ist j pc (.astore_n q) len ls st σ = some y) (K1 : iK1 D base l o σe j y) (K2 : iK2 o σe y) (K3 : iK3 D base l o σe j pc len ls σ y) (hl : l.stackTraces = false) : iG2 D base l o σe j pc ls st σ := by
  unfold ist istep at hs
  dsimp only at hs
  split at hs
  · obtain ⟨hq, hs⟩ := iG_s hs
    cases hs
    have K := K1 _ _ _ _ rfl
    exact ⟨K.1, fun p e R s m args below meth c x0 s0 C Ky z h1 h2 h3 h4 h5 h6 h7 => sd_astore_n C hc hq (K.2 p e R s m args below meth c x0 s0 C Ky z h1 h2 h3 h4 h5 h6 h7)⟩
  · cases hs

theorem ig_iadd  (hc : iC j pc = some (.iadd, len)) (hs : ist j pc (.iadd) len ls st σ = some y) (K1 : iK1 D base l o σe j y) (K2 : iK2 o σe y) (K3 : iK3 D base l o σe j pc len ls σ y) (hl : l.stackTraces = false) : iG2 D base l o σe j pc ls st σ := by
  unfold ist istep at hs
  dsimp only at hs
  split at hs
  · cases hs; have K := K1 _ _ _ _ rfl; exact ⟨K.1, fun p e R s m args below meth c x0 s0 C Ky z h1 h2 h3 h4 h5 h6 h7 => sd_iadd C hc (K.2 p e R s m args below meth c x0 s0 C Ky z h1 h2 h3 h4 h5 h6 h7)⟩
  · cases hs

theorem ig_isub  (hc : iC j pc = some (.isub, len)) (hs : ist j pc (.isub) len ls st σ = some y) (K1 : iK1 D base l o σe j y) (K2 : iK2 o σe y) (K3 : iK3 D base l o σe j pc len ls σ y) (hl : l.stackTraces = false) : iG2 D base l o σe j pc ls st σ := by
  unfold ist istep at hs
  dsimp only at hs
  split at hs
  · cases hs; have K := K1 _ _ _ _ rfl; exact ⟨K.1, fun p e R s m args below meth c x0 s0 C Ky z h1 h2 h3 h4 h5 h6 h7 => sd_isub C hc (K.2 p e R s m args below meth c x0 s0 C Ky z h1 h2 h3 h4 h5 h6 h7)⟩
  · cases hs

theorem ig_imul  (hc : iC j pc = some (.imul, len)) (hs : ist j pc (.imul) len ls st σ = some y) (K1 : iK1 D base l o σe j y) (K2 : iK2 o σe y) (K3 : iK3 D base l o σe j pc len ls σ y) (hl : l.stackTraces = false) : iG2 D base l o σe j pc ls st σ := by
  unfold ist istep at hs
  dsimp only at hs
  split at hs
  · cases hs; have K := K1 _ _ _ _ rfl; exact ⟨K.1, fun p e R s m args below meth c x0 s0 C Ky z h1 h2 h3 h4 h5 h6 h7 => sd_imul C hc (K.2 p e R s m args below meth c x0 s0 C Ky z h1 h2 h3 h4 h5 h6 h7)⟩
  · cases hs

theorem ig_iand  (hc : iC j pc = some (.iand, len)) (hs : ist j pc (.iand) len ls st σ = some y) (K1 : iK1 D base l o σe j y) (K2 : iK2 o σe y) (K3 : iK3 D base l o σe j pc len ls σ y) (hl : l.stackTraces = false) : iG2 D base l o σe j pc ls st σ := by
  unfold ist istep at hs
  dsimp only at hs
  split at hs
  · cases hs; have K := K1 _ _ _ _ rfl; exact ⟨K.1, fun p e R s m args below meth c x0 s0 C Ky z h1 h2 h3 h4 h5 h6 h7 => sd_iand C hc (K.2 p e R s m args below meth c x0 s0 C Ky z h1 h2 h3 h4 h5 h6 h7)⟩
  · cases hs

theorem ig_i2l  (hc : iC j pc = some (.i2l, len)) (hs : ist j pc (.i2l) len ls st σ = some y) (K1 : iK1 D base l o σe j y) (K2 : iK2 o σe y) (K3 : iK3 D base l o σe j pc len ls σ y) (hl : l.stackTraces = false) : iG2 D base l o σe j pc ls st σ := by
  unfold ist istep at hs
  dsimp only at hs
  split at hs
  · cases hs; have K := K1 _ _ _ _ rfl; exact ⟨K.1, fun p e R s m args below meth c x0 s0 C Ky z h1 h2 h3 h4 h5 h6 h7 => sd_i2l C hc (K.2 p e R s m args below meth c x0 s0 C Ky z h1 h2 h3 h4 h5 h6 h7)⟩
  · cases hs

theorem ig_dup2  (hc : iC j pc = some (.dup2, len)) (hs : ist j pc (.dup2) len ls st σ = some y) (K1 : iK1 D base l o σe j y) (K2 : iK2 o σe y) (K3 : iK3 D base l o σe j pc len ls σ y) (hl : l.stackTraces = false) : iG2 D base l o σe j pc ls st σ := by
  unfold ist istep at hs
  dsimp only at hs
  split at hs
  · cases hs; have K := K1 _ _ _ _ rfl; exact ⟨K.1, fun p e R s m args below meth c x0 s0 C Ky z h1 h2 h3 h4 h5 h6 h7 => sd_dup2 C hc (K.2 p e R s m args below meth c x0 s0 C Ky z h1 h2 h3 h4 h5 h6 h7)⟩
  · cases hs

theorem ig_idiv  (hc : iC j pc = some (.idiv, len)) (hs : ist j pc (.idiv) len ls st σ = some y) (K1 : iK1 D base l o σe j y) (K2 : iK2 o σe y) (K3 : iK3 D base l o σe j pc len ls σ y) (hl : l.stackTraces = false) : iG2 D base l o σe j pc ls st σ := by
  unfold ist istep at hs
  dsimp only at hs
  split at hs
  · obtain ⟨hq, hs⟩ := iG_s hs
    cases hs
    have K := K1 _ _ _ _ rfl
    exact ⟨K.1, fun p e R s m args below meth c x0 s0 C Ky z h1 h2 h3 h4 h5 h6 h7 => sd_idiv C hc hq (K.2 p e R s m args below meth c x0 s0 C Ky z h1 h2 h3 h4 h5 h6 h7)⟩
  · cases hs

theorem ig_irem  (hc : iC j pc = some (.irem, len)) (hs : ist j pc (.irem) len ls st σ = some y) (K1 : iK1 D base l o σe j y) (K2 : iK2 o σe y) (K3 : iK3 D base l o σe j pc len ls σ y) (hl : l.stackTraces = false) : iG2 D base l o σe j pc ls st σ := by
  unfold ist istep at hs
  dsimp only at hs
  split at hs
  · obtain ⟨hq, hs⟩ := iG_s hs
    cases hs
    have K := K1 _ _ _ _ rfl
    exact ⟨K.1, fun p e R s m args below meth c x0 s0 C Ky z h1 h2 h3 h4 h5 h6 h7 => sd_irem C hc hq (K.2 p e R s m args below meth c x0 s0 C Ky z h1 h2 h3 h4 h5 h6 h7)⟩
  · cases hs

theorem ig_dup  (hc : iC j pc = some (.dup, len)) (hs : ist j pc (.dup) len ls st σ = some y) (K1 : iK1 D base l o σe j y) (K2 : iK2 o σe y) (K3 : iK3 D base l o σe j pc len ls σ y) (hl : l.stackTraces = false) : iG2 D base l o σe j pc ls st σ := by
  unfold ist istep at hs
  dsimp only at hs
  split at hs
  · cases hs; have K := K1 _ _ _ _ rfl; exact ⟨K.1, fun p e R s m args below meth c x0 s0 C Ky z h1 h2 h3 h4 h5 h6 h7 => sd_dup_i C hc (K.2 p e R s m args below meth c x0 s0 C Ky z h1 h2 h3 h4 h5 h6 h7)⟩
  · cases hs; have K := K1 _ _ _ _ rfl; exact ⟨K.1, fun p e R s m args below meth c x0 s0 C Ky z h1 h2 h3 h4 h5 h6 h7 => sd_dup_r C hc (K.2 p e R s m args below meth c x0 s0 C Ky z h1 h2 h3 h4 h5 h6 h7)⟩
  · cases hs

theorem ig_pop  (hc : iC j pc = some (.pop, len)) (hs : ist j pc (.pop) len ls st σ = some y) (K1 : iK1 D base l o σe j y) (K2 : iK2 o σe y) (K3 : iK3 D base l o σe j pc len ls σ y) (hl : l.stackTraces = false) : iG2 D base l o σe j pc ls st σ := by
  unfold ist istep at hs
  dsimp only at hs
  split at hs
  · cases hs; have K := K1 _ _ _ _ rfl; exact ⟨K.1, fun p e R s m args below meth c x0 s0 C Ky z h1 h2 h3 h4 h5 h6 h7 => sd_pop_i C hc (K.2 p e R s m args below meth c x0 s0 C Ky z h1 h2 h3 h4 h5 h6 h7)⟩
  · cases hs; have K := K1 _ _ _ _ rfl; exact ⟨K.1, fun p e R s m args below meth c x0 s0 C Ky z h1 h2 h3 h4 h5 h6 h7 => sd_pop_r C hc (K.2 p e R s m args below meth c x0 s0 C Ky z h1 h2 h3 h4 h5 h6 h7)⟩
  · cases hs

theorem ig_lcmp  (hc : iC j pc = some (.lcmp, len)) (hs : ist j pc (.lcmp) len ls st σ = some y) (K1 : iK1 D base l o σe j y) (K2 : iK2 o σe y) (K3 : iK3 D base l o σe j pc len ls σ y) (hl : l.stackTraces = false) : iG2 D base l o σe j pc ls st σ := by
  unfold ist istep at hs
  dsimp only at hs
  split at hs
  · next y x rest =>
    rcases iB_inv hs with ⟨q1, hs⟩ | ⟨q1, hs⟩
    · cases hs; have K := K1 _ _ _ _ rfl; exact ⟨K.1, fun p e R s m args below meth c x0 s0 C Ky z h1 h2 h3 h4 h5 h6 h7 => sd_lcmp C hc (fun r a1 _ _ => by rw [a1 q1]; exact K.2 p e R s m args below meth c x0 s0 C Ky z h1 h2 h3 h4 h5 h6 h7)⟩
    · rcases iB_inv hs with ⟨q2, hs⟩ | ⟨q2, hs⟩
      · cases hs; have K := K1 _ _ _ _ rfl; exact ⟨K.1, fun p e R s m args below meth c x0 s0 C Ky z h1 h2 h3 h4 h5 h6 h7 => sd_lcmp C hc (fun r _ a2 _ => by rw [a2 q1 q2]; exact K.2 p e R s m args below meth c x0 s0 C Ky z h1 h2 h3 h4 h5 h6 h7)⟩
      · cases hs; have K := K1 _ _ _ _ rfl; exact ⟨K.1, fun p e R s m args below meth c x0 s0 C Ky z h1 h2 h3 h4 h5 h6 h7 => sd_lcmp C hc (fun r _ _ a3 => by rw [a3 q1 q2]; exact K.2 p e R s m args below meth c x0 s0 C Ky z h1 h2 h3 h4 h5 h6 h7)⟩
  · cases hs

theorem ig_goto {off : Int} (hc : iC j pc = some (.goto off, len)) (hs : ist j pc (.goto off) len ls st σ = some y) (K1 : iK1 D base l o σe j y) (K2 : iK2 o σe y) (K3 : iK3 D base l o σe j pc len ls σ y) (hl : l.stackTraces = false) : iG2 D base l o σe j pc ls st σ := by
  unfold ist istep at hs
  obtain ⟨t, ht, hs⟩ := iJ_inv hs
  cases hs
  have K := K1 _ _ _ _ rfl
  exact ⟨K.1, fun p e R s m args below meth c x0 s0 C Ky z h1 h2 h3 h4 h5 h6 h7 => sd_goto C hc ht (K.2 p e R s m args below meth c x0 s0 C Ky z h1 h2 h3 h4 h5 h6 h7)⟩

theorem ig_if_eq {off : Int} (hc : iC j pc = some (.ifCond .eq off, len)) (hs : ist j pc (.ifCond .eq off) len ls st σ = some y) (K1 : iK1 D base l o σe j y) (K2 : iK2 o σe y) (K3 : iK3 D base l o σe j pc len ls σ y) (hl : l.stackTraces = false) : iG2 D base l o σe j pc ls st σ := by
  rcases st with _ | ⟨v, rest⟩
  · exact nomatch (show (none : Option iT) = some y from hs)
  rcases v with x1 | v
  · have hs : iB (x1 = 0) (iJ pc off ls rest σ) (iGo (pc + len) ls rest σ) = some y := hs
    rcases iB_inv hs with ⟨q1, hs⟩ | ⟨q1, hs⟩
    · obtain ⟨t, ht, hs⟩ := iJ_inv hs
      cases hs
      have K := K1 _ _ _ _ rfl
      exact ⟨K.1, fun p e R s m args below meth c x0 s0 C Ky z h1 h2 h3 h4 h5 h6 h7 => sd_if_eq C hc ht (fun _ => K.2 p e R s m args below meth c x0 s0 C Ky z h1 h2 h3 h4 h5 h6 h7) (fun q => absurd q1 q)⟩
    · cases hs
      have K := K1 _ _ _ _ rfl
      obtain ⟨t, ht⟩ := iOff0 (iOkA hc)
      exact ⟨K.1, fun p e R s m args below meth c x0 s0 C Ky z h1 h2 h3 h4 h5 h6 h7 => sd_if_eq C hc ht (fun q => absurd q q1) (fun _ => K.2 p e R s m args below meth c x0 s0 C Ky z h1 h2 h3 h4 h5 h6 h7)⟩
  · exact nomatch (show (none : Option iT) = some y from hs)

theorem ig_icmp_eq {off : Int} (hc : iC j pc = some (.if_icmp .eq off, len)) (hs : ist j pc (.if_icmp .eq off) len ls st σ = some y) (K1 : iK1 D base l o σe j y) (K2 : iK2 o σe y) (K3 : iK3 D base l o σe j pc len ls σ y) (hl : l.stackTraces = false) : iG2 D base l o σe j pc ls st σ := by
  rcases st with _ | ⟨v, rest⟩
  · exact nomatch (show (none : Option iT) = some y from hs)
  rcases v with y1 | v
  · rcases rest with _ | ⟨w, rest⟩
    · exact nomatch (show (none : Option iT) = some y from hs)
    · rcases w with x1 | w
      · have hs : iB (x1 = y1) (iJ pc off ls rest σ) (iGo (pc + len) ls rest σ) = some y := hs
        rcases iB_inv hs with ⟨q1, hs⟩ | ⟨q1, hs⟩
        · obtain ⟨t, ht, hs⟩ := iJ_inv hs
          cases hs
          have K := K1 _ _ _ _ rfl
          exact ⟨K.1, fun p e R s m args below meth c x0 s0 C Ky z h1 h2 h3 h4 h5 h6 h7 => sd_icmp_eq C hc ht (fun _ => K.2 p e R s m args below meth c x0 s0 C Ky z h1 h2 h3 h4 h5 h6 h7) (fun q => absurd q1 q)⟩
        · cases hs
          have K := K1 _ _ _ _ rfl
          obtain ⟨t, ht⟩ := iOff0 (iOkA hc)
          exact ⟨K.1, fun p e R s m args below meth c x0 s0 C Ky z h1 h2 h3 h4 h5 h6 h7 => sd_icmp_eq C hc ht (fun q => absurd q q1) (fun _ => K.2 p e R s m args below meth c x0 s0 C Ky z h1 h2 h3 h4 h5 h6 h7)⟩
      · exact nomatch (show (none : Option iT) = some y from hs)
  · exact nomatch (show (none : Option iT) = some y from hs)

theorem ig_if_ne {off : Int} (hc : iC j pc = some (.ifCond .ne off, len)) (hs : ist j pc (.ifCond .ne off) len ls st σ = some y) (K1 : iK1 D base l o σe j y) (K2 : iK2 o σe y) (K3 : iK3 D base l o σe j pc len ls σ y) (hl : l.stackTraces = false) : iG2 D base l o σe j pc ls st σ := by
  rcases st with _ | ⟨v, rest⟩
  · exact nomatch (show (none : Option iT) = some y from hs)
  rcases v with x1 | v
  · have hs : iB (x1 ≠ 0) (iJ pc off ls rest σ) (iGo (pc + len) ls rest σ) = some y := hs
    rcases iB_inv hs with ⟨q1, hs⟩ | ⟨q1, hs⟩
    · obtain ⟨t, ht, hs⟩ := iJ_inv hs
      cases hs
      have K := K1 _ _ _ _ rfl
      exact ⟨K.1, fun p e R s m args below meth c x0 s0 C Ky z h1 h2 h3 h4 h5 h6 h7 => sd_if_ne C hc ht (fun _ => K.2 p e R s m args below meth c x0 s0 C Ky z h1 h2 h3 h4 h5 h6 h7) (fun q => absurd q1 q)⟩
    · cases hs
      have K := K1 _ _ _ _ rfl
      obtain ⟨t, ht⟩ := iOff0 (iOkA hc)
      exact ⟨K.1, fun p e R s m args below meth c x0 s0 C Ky z h1 h2 h3 h4 h5 h6 h7 => sd_if_ne C hc ht (fun q => absurd q q1) (fun _ => K.2 p e R s m args below meth c x0 s0 C Ky z h1 h2 h3 h4 h5 h6 h7)⟩
  · exact nomatch (show (none : Option iT) = some y from hs)

theorem ig_icmp_ne {off : Int} (hc : iC j pc = some (.if_icmp .ne off, len)) (hs : ist j pc (.if_icmp .ne off) len ls st σ = some y) (K1 : iK1 D base l o σe j y) (K2 : iK2 o σe y) (K3 : iK3 D base l o σe j pc len ls σ y) (hl : l.stackTraces = false) : iG2 D base l o σe j pc ls st σ := by
  rcases st with _ | ⟨v, rest⟩
  · exact nomatch (show (none : Option iT) = some y from hs)
  rcases v with y1 | v
  · rcases rest with _ | ⟨w, rest⟩
    · exact nomatch (show (none : Option iT) = some y from hs)
    · rcases w with x1 | w
      · have hs : iB (x1 ≠ y1) (iJ pc off ls rest σ) (iGo (pc + len) ls rest σ) = some y := hs
        rcases iB_inv hs with ⟨q1, hs⟩ | ⟨q1, hs⟩
        · obtain ⟨t, ht, hs⟩ := iJ_inv hs
          cases hs
          have K := K1 _ _ _ _ rfl
          exact ⟨K.1, fun p e R s m args below meth c x0 s0 C Ky z h1 h2 h3 h4 h5 h6 h7 => sd_icmp_ne C hc ht (fun _ => K.2 p e R s m args below meth c x0 s0 C Ky z h1 h2 h3 h4 h5 h6 h7) (fun q => absurd q1 q)⟩
        · cases hs
          have K := K1 _ _ _ _ rfl
          obtain ⟨t, ht⟩ := iOff0 (iOkA hc)
          exact ⟨K.1, fun p e R s m args below meth c x0 s0 C Ky z h1 h2 h3 h4 h5 h6 h7 => sd_icmp_ne C hc ht (fun q => absurd q q1) (fun _ => K.2 p e R s m args below meth c x0 s0 C Ky z h1 h2 h3 h4 h5 h6 h7)⟩
      · exact nomatch (show (none : Option iT) = some y from hs)
  · exact nomatch (show (none : Option iT) = some y from hs)

theorem ig_if_lt {off : Int} (hc : iC j pc = some (.ifCond .lt off, len)) (hs : ist j pc (.ifCond .lt off) len ls st σ = some y) (K1 : iK1 D base l o σe j y) (K2 : iK2 o σe y) (K3 : iK3 D base l o σe j pc len ls σ y) (hl : l.stackTraces = false) : iG2 D base l o σe j pc ls st σ := by
  rcases st with _ | ⟨v, rest⟩
  · exact nomatch (show (none : Option iT) = some y from hs)
  rcases v with x1 | v
  · have hs : iB (x1 < 0) (iJ pc off ls rest σ) (iGo (pc + len) ls rest σ) = some y := hs
    rcases iB_inv hs with ⟨q1, hs⟩ | ⟨q1, hs⟩
    · obtain ⟨t, ht, hs⟩ := iJ_inv hs
      cases hs
      have K := K1 _ _ _ _ rfl
      exact ⟨K.1, fun p e R s m args below meth c x0 s0 C Ky z h1 h2 h3 h4 h5 h6 h7 => sd_if_lt C hc ht (fun _ => K.2 p e R s m args below meth c x0 s0 C Ky z h1 h2 h3 h4 h5 h6 h7) (fun q => absurd q1 q)⟩
    · cases hs
      have K := K1 _ _ _ _ rfl
      obtain ⟨t, ht⟩ := iOff0 (iOkA hc)
      exact ⟨K.1, fun p e R s m args below meth c x0 s0 C Ky z h1 h2 h3 h4 h5 h6 h7 => sd_if_lt C hc ht (fun q => absurd q q1) (fun _ => K.2 p e R s m args below meth c x0 s0 C Ky z h1 h2 h3 h4 h5 h6 h7)⟩
  · exact nomatch (show (none : Option iT) = some y from hs)

theorem ig_icmp_lt {off : Int} (hc : iC j pc = some (.if_icmp .lt off, len)) (hs : ist j pc (.if_icmp .lt off) len ls st σ = some y) (K1 : iK1 D base l o σe j y) (K2 : iK2 o σe y) (K3 : iK3 D base l o σe j pc len ls σ y) (hl : l.stackTraces = false) : iG2 D base l o σe j pc ls st σ := by
  rcases st with _ | ⟨v, rest⟩
  · exact nomatch (show (none : Option iT) = some y from hs)
  rcases v with y1 | v
  · rcases rest with _ | ⟨w, rest⟩
    · exact nomatch (show (none : Option iT) = some y from hs)
    · rcases w with x1 | w
      · have hs : iB (x1 < y1) (iJ pc off ls rest σ) (iGo (pc + len) ls rest σ) = some y := hs
        rcases iB_inv hs with ⟨q1, hs⟩ | ⟨q1, hs⟩
        · obtain ⟨t, ht, hs⟩ := iJ_inv hs
          cases hs
          have K := K1 _ _ _ _ rfl
          exact ⟨K.1, fun p e R s m args below meth c x0 s0 C Ky z h1 h2 h3 h4 h5 h6 h7 => sd_icmp_lt C hc ht (fun _ => K.2 p e R s m args below meth c x0 s0 C Ky z h1 h2 h3 h4 h5 h6 h7) (fun q => absurd q1 q)⟩
        · cases hs
          have K := K1 _ _ _ _ rfl
          obtain ⟨t, ht⟩ := iOff0 (iOkA hc)
          exact ⟨K.1, fun p e R s m args below meth c x0 s0 C Ky z h1 h2 h3 h4 h5 h6 h7 => sd_icmp_lt C hc ht (fun q => absurd q q1) (fun _ => K.2 p e R s m args below meth c x0 s0 C Ky z h1 h2 h3 h4 h5 h6 h7)⟩
      · exact nomatch (show (none : Option iT) = some y from hs)
  · exact nomatch (show (none : Option iT) = some y from hs)

theorem ig_if_ge {off : Int} (hc : iC j pc = some (.ifCond .ge off, len)) (hs : ist j pc (.ifCond .ge off) len ls st σ = some y) (K1 : iK1 D base l o σe j y) (K2 : iK2 o σe y) (K3 : iK3 D base l o σe j pc len ls σ y) (hl : l.stackTraces = false) : iG2 D base l o σe j pc ls st σ := by
  rcases st with _ | ⟨v, rest⟩
  · exact nomatch (show (none : Option iT) = some y from hs)
  rcases v with x1 | v
  · have hs : iB (0 ≤ x1) (iJ pc off ls rest σ) (iGo (pc + len) ls rest σ) = some y := hs
    rcases iB_inv hs with ⟨q1, hs⟩ | ⟨q1, hs⟩
    · obtain ⟨t, ht, hs⟩ := iJ_inv hs
      cases hs
      have K := K1 _ _ _ _ rfl
      exact ⟨K.1, fun p e R s m args below meth c x0 s0 C Ky z h1 h2 h3 h4 h5 h6 h7 => sd_if_ge C hc ht (fun _ => K.2 p e R s m args below meth c x0 s0 C Ky z h1 h2 h3 h4 h5 h6 h7) (fun q => absurd q1 q)⟩
    · cases hs
      have K := K1 _ _ _ _ rfl
      obtain ⟨t, ht⟩ := iOff0 (iOkA hc)
      exact ⟨K.1, fun p e R s m args below meth c x0 s0 C Ky z h1 h2 h3 h4 h5 h6 h7 => sd_if_ge C hc ht (fun q => absurd q q1) (fun _ => K.2 p e R s m args below meth c x0 s0 C Ky z h1 h2 h3 h4 h5 h6 h7)⟩
  · exact nomatch (show (none : Option iT) = some y from hs)

theorem ig_icmp_ge {off : Int} (hc : iC j pc = some (.if_icmp .ge off, len)) (hs : ist j pc (.if_icmp .ge off) len ls st σ = some y) (K1 : iK1 D base l o σe j y) (K2 : iK2 o σe y) (K3 : iK3 D base l o σe j pc len ls σ y) (hl : l.stackTraces = false) : iG2 D base l o σe j pc ls st σ := by
  rcases st with _ | ⟨v, rest⟩
  · exact nomatch (show (none : Option iT) = some y from hs)
  rcases v with y1 | v
  · rcases rest with _ | ⟨w, rest⟩
    · exact nomatch (show (none : Option iT) = some y from hs)
    · rcases w with x1 | w
      · have hs : iB (y1 ≤ x1) (iJ pc off ls rest σ) (iGo (pc + len) ls rest σ) = some y := hs
        rcases iB_inv hs with ⟨q1, hs⟩ | ⟨q1, hs⟩
        · obtain ⟨t, ht, hs⟩ := iJ_inv hs
          cases hs
          have K := K1 _ _ _ _ rfl
          exact ⟨K.1, fun p e R s m args below meth c x0 s0 C Ky z h1 h2 h3 h4 h5 h6 h7 => sd_icmp_ge C hc ht (fun _ => K.2 p e R s m args below meth c x0 s0 C Ky z h1 h2 h3 h4 h5 h6 h7) (fun q => absurd q1 q)⟩
        · cases hs
          have K := K1 _ _ _ _ rfl
          obtain ⟨t, ht⟩ := iOff0 (iOkA hc)
          exact ⟨K.1, fun p e R s m args below meth c x0 s0 C Ky z h1 h2 h3 h4 h5 h6 h7 => sd_icmp_ge C hc ht (fun q => absurd q q1) (fun _ => K.2 p e R s m args below meth c x0 s0 C Ky z h1 h2 h3 h4 h5 h6 h7)⟩
      · exact nomatch (show (none : Option iT) = some y from hs)
  · exact nomatch (show (none : Option iT) = some y from hs)

theorem ig_if_gt {off : Int} (hc : iC j pc = some (.ifCond .gt off, len)) (hs : ist j pc (.ifCond .gt off) len ls st σ = some y) (K1 : iK1 D base l o σe j y) (K2 : iK2 o σe y) (K3 : iK3 D base l o σe j pc len ls σ y) (hl : l.stackTraces = false) : iG2 D base l o σe j pc ls st σ := by
  rcases st with _ | ⟨v, rest⟩
  · exact nomatch (show (none : Option iT) = some y from hs)
  rcases v with x1 | v
  · have hs : iB (0 < x1) (iJ pc off ls rest σ) (iGo (pc + len) ls rest σ) = some y := hs
    rcases iB_inv hs with ⟨q1, hs⟩ | ⟨q1, hs⟩
    · obtain ⟨t, ht, hs⟩ := iJ_inv hs
      cases hs
      have K := K1 _ _ _ _ rfl
      exact ⟨K.1, fun p e R s m args below meth c x0 s0 C Ky z h1 h2 h3 h4 h5 h6 h7 => sd_if_gt C hc ht (fun _ => K.2 p e R s m args below meth c x0 s0 C Ky z h1 h2 h3 h4 h5 h6 h7) (fun q => absurd q1 q)⟩
    · cases hs
      have K := K1 _ _ _ _ rfl
      obtain ⟨t, ht⟩ := iOff0 (iOkA hc)
      exact ⟨K.1, fun p e R s m args below meth c x0 s0 C Ky z h1 h2 h3 h4 h5 h6 h7 => sd_if_gt C hc ht (fun q => absurd q q1) (fun _ => K.2 p e R s m args below meth c x0 s0 C Ky z h1 h2 h3 h4 h5 h6 h7)⟩
  · exact nomatch (show (none : Option iT) = some y from hs)

theorem ig_icmp_gt {off : Int} (hc : iC j pc = some (.if_icmp .gt off, len)) (hs : ist j pc (.if_icmp .gt off) len ls st σ = some y) (K1 : iK1 D base l o σe j y) (K2 : iK2 o σe y) (K3 : iK3 D base l o σe j pc len ls σ y) (hl : l.stackTraces = false) : iG2 D base l o σe j pc ls st σ := by
  rcases st with _ | ⟨v, rest⟩
  · exact nomatch (show (none : Option iT) = some y from hs)
  rcases v with y1 | v
  · rcases rest with _ | ⟨w, rest⟩
    · exact nomatch (show (none : Option iT) = some y from hs)
    · rcases w with x1 | w
      · have hs : iB (y1 < x1) (iJ pc off ls rest σ) (iGo (pc + len) ls rest σ) = some y := hs
        rcases iB_inv hs with ⟨q1, hs⟩ | ⟨q1, hs⟩
        · obtain ⟨t, ht, hs⟩ := iJ_inv hs
          cases hs
          have K := K1 _ _ _ _ rfl
          exact ⟨K.1, fun p e R s m args below meth c x0 s0 C Ky z h1 h2 h3 h4 h5 h6 h7 => sd_icmp_gt C hc ht (fun _ => K.2 p e R s m args below meth c x0 s0 C Ky z h1 h2 h3 h4 h5 h6 h7) (fun q => absurd q1 q)⟩
        · cases hs
          have K := K1 _ _ _ _ rfl
          obtain ⟨t, ht⟩ := iOff0 (iOkA hc)
          exact ⟨K.1, fun p e R s m args below meth c x0 s0 C Ky z h1 h2 h3 h4 h5 h6 h7 => sd_icmp_gt C hc ht (fun q => absurd q q1) (fun _ => K.2 p e R s m args below meth c x0 s0 C Ky z h1 h2 h3 h4 h5 h6 h7)⟩
      · exact nomatch (show (none : Option iT) = some y from hs)
  · exact nomatch (show (none : Option iT) = some y from hs)

theorem ig_if_le {off : Int} (hc : iC j pc = some (.ifCond .le off, len)) (hs : ist j pc (.ifCond .le off) len ls st σ = some y) (K1 : iK1 D base l o σe j y) (K2 : iK2 o σe y) (K3 : iK3 D base l o σe j pc len ls σ y) (hl : l.stackTraces = false) : iG2 D base l o σe j pc ls st σ := by
  rcases st with _ | ⟨v, rest⟩
  · exact nomatch (show (none : Option iT) = some y from hs)
  rcases v with x1 | v
  · have hs : iB (x1 ≤ 0) (iJ pc off ls rest σ) (iGo (pc + len) ls rest σ) = some y := hs
    rcases iB_inv hs with ⟨q1, hs⟩ | ⟨q1, hs⟩
    · obtain ⟨t, ht, hs⟩ := iJ_inv hs
      cases hs
      have K := K1 _ _ _ _ rfl
      exact ⟨K.1, fun p e R s m args below meth c x0 s0 C Ky z h1 h2 h3 h4 h5 h6 h7 => sd_if_le C hc ht (fun _ => K.2 p e R s m args below meth c x0 s0 C Ky z h1 h2 h3 h4 h5 h6 h7) (fun q => absurd q1 q)⟩
    · cases hs
      have K := K1 _ _ _ _ rfl
      obtain ⟨t, ht⟩ := iOff0 (iOkA hc)
      exact ⟨K.1, fun p e R s m args below meth c x0 s0 C Ky z h1 h2 h3 h4 h5 h6 h7 => sd_if_le C hc ht (fun q => absurd q q1) (fun _ => K.2 p e R s m args below meth c x0 s0 C Ky z h1 h2 h3 h4 h5 h6 h7)⟩
  · exact nomatch (show (none : Option iT) = some y from hs)

theorem ig_icmp_le {off : Int} (hc : iC j pc = some (.if_icmp .le off, len)) (hs : ist j pc (.if_icmp .le off) len ls st σ = some y) (K1 : iK1 D base l o σe j y) (K2 : iK2 o σe y) (K3 : iK3 D base l o σe j pc len ls σ y) (hl : l.stackTraces = false) : iG2 D base l o σe j pc ls st σ := by
  rcases st with _ | ⟨v, rest⟩
  · exact nomatch (show (none : Option iT) = some y from hs)
  rcases v with y1 | v
  · rcases rest with _ | ⟨w, rest⟩
    · exact nomatch (show (none : Option iT) = some y from hs)
    · rcases w with x1 | w
      · have hs : iB (x1 ≤ y1) (iJ pc off ls rest σ) (iGo (pc + len) ls rest σ) = some y := hs
        rcases iB_inv hs with ⟨q1, hs⟩ | ⟨q1, hs⟩
        · obtain ⟨t, ht, hs⟩ := iJ_inv hs
          cases hs
          have K := K1 _ _ _ _ rfl
          exact ⟨K.1, fun p e R s m args below meth c x0 s0 C Ky z h1 h2 h3 h4 h5 h6 h7 => sd_icmp_le C hc ht (fun _ => K.2 p e R s m args below meth c x0 s0 C Ky z h1 h2 h3 h4 h5 h6 h7) (fun q => absurd q1 q)⟩
        · cases hs
          have K := K1 _ _ _ _ rfl
          obtain ⟨t, ht⟩ := iOff0 (iOkA hc)
          exact ⟨K.1, fun p e R s m args below meth c x0 s0 C Ky z h1 h2 h3 h4 h5 h6 h7 => sd_icmp_le C hc ht (fun q => absurd q q1) (fun _ => K.2 p e R s m args below meth c x0 s0 C Ky z h1 h2 h3 h4 h5 h6 h7)⟩
      · exact nomatch (show (none : Option iT) = some y from hs)
  · exact nomatch (show (none : Option iT) = some y from hs)

theorem ig_ifnull {off : Int} (hc : iC j pc = some (.ifnull off, len)) (hs : ist j pc (.ifnull off) len ls st σ = some y) (K1 : iK1 D base l o σe j y) (K2 : iK2 o σe y) (K3 : iK3 D base l o σe j pc len ls σ y) (hl : l.stackTraces = false) : iG2 D base l o σe j pc ls st σ := by
  rcases st with _ | ⟨v, rest⟩
  · exact nomatch (show (none : Option iT) = some y from hs)
  rcases v with v | x1 | v
  · exact nomatch (show (none : Option iT) = some y from hs)
  · have hs : iB (x1 = 0) (iJ pc off ls rest σ) (iGo (pc + len) ls rest σ) = some y := hs
    rcases iB_inv hs with ⟨q1, hs⟩ | ⟨q1, hs⟩
    · obtain ⟨t, ht, hs⟩ := iJ_inv hs
      cases hs
      have K := K1 _ _ _ _ rfl
      exact ⟨K.1, fun p e R s m args below meth c x0 s0 C Ky z h1 h2 h3 h4 h5 h6 h7 => sd_ifnull C hc ht (fun _ => K.2 p e R s m args below meth c x0 s0 C Ky z h1 h2 h3 h4 h5 h6 h7) (fun q => absurd q1 q)⟩
    · cases hs
      have K := K1 _ _ _ _ rfl
      obtain ⟨t, ht⟩ := iOff0 (iOkA hc)
      exact ⟨K.1, fun p e R s m args below meth c x0 s0 C Ky z h1 h2 h3 h4 h5 h6 h7 => sd_ifnull C hc ht (fun q => absurd q q1) (fun _ => K.2 p e R s m args below meth c x0 s0 C Ky z h1 h2 h3 h4 h5 h6 h7)⟩
  · exact nomatch (show (none : Option iT) = some y from hs)

theorem ig_ifnonnull {off : Int} (hc : iC j pc = some (.ifnonnull off, len)) (hs : ist j pc (.ifnonnull off) len ls st σ = some y) (K1 : iK1 D base l o σe j y) (K2 : iK2 o σe y) (K3 : iK3 D base l o σe j pc len ls σ y) (hl : l.stackTraces = false) : iG2 D base l o σe j pc ls st σ := by
  rcases st with _ | ⟨v, rest⟩
  · exact nomatch (show (none : Option iT) = some y from hs)
  rcases v with v | x1 | v
  · exact nomatch (show (none : Option iT) = some y from hs)
  · have hs : iB (x1 ≠ 0) (iJ pc off ls rest σ) (iGo (pc + len) ls rest σ) = some y := hs
    rcases iB_inv hs with ⟨q1, hs⟩ | ⟨q1, hs⟩
    · obtain ⟨t, ht, hs⟩ := iJ_inv hs
      cases hs
      have K := K1 _ _ _ _ rfl
      exact ⟨K.1, fun p e R s m args below meth c x0 s0 C Ky z h1 h2 h3 h4 h5 h6 h7 => sd_ifnonnull C hc ht (fun _ => K.2 p e R s m args below meth c x0 s0 C Ky z h1 h2 h3 h4 h5 h6 h7) (fun q => absurd q1 q)⟩
    · cases hs
      have K := K1 _ _ _ _ rfl
      obtain ⟨t, ht⟩ := iOff0 (iOkA hc)
      exact ⟨K.1, fun p e R s m args below meth c x0 s0 C Ky z h1 h2 h3 h4 h5 h6 h7 => sd_ifnonnull C hc ht (fun q => absurd q q1) (fun _ => K.2 p e R s m args below meth c x0 s0 C Ky z h1 h2 h3 h4 h5 h6 h7)⟩
  · exact nomatch (show (none : Option iT) = some y from hs)

theorem ig_tsw {d lo hi : Int} {offs : Array Int} (hc : iC j pc = some (.tableswitch d lo hi offs, len)) (hs : ist j pc (.tableswitch d lo hi offs) len ls st σ = some y) (K1 : iK1 D base l o σe j y) (K2 : iK2 o σe y) (K3 : iK3 D base l o σe j pc len ls σ y) (hl : l.stackTraces = false) : iG2 D base l o σe j pc ls st σ := by
  unfold ist istep at hs
  dsimp only at hs
  split at hs
  · rcases iB_inv hs with ⟨q1, hs⟩ | ⟨q1, hs⟩
    · obtain ⟨t, ht, hs⟩ := iJ_inv hs
      cases hs
      have K := K1 _ _ _ _ rfl
      exact ⟨K.1, fun p e R s m args below meth c x0 s0 C Ky z h1 h2 h3 h4 h5 h6 h7 => sd_tableO C hc q1 ht (K.2 p e R s m args below meth c x0 s0 C Ky z h1 h2 h3 h4 h5 h6 h7)⟩
    · split at hs
      · next off hoff =>
        obtain ⟨t, ht, hs⟩ := iJ_inv hs
        cases hs
        have K := K1 _ _ _ _ rfl
        exact ⟨K.1, fun p e R s m args below meth c x0 s0 C Ky z h1 h2 h3 h4 h5 h6 h7 => sd_tableI C hc q1 hoff ht (K.2 p e R s m args below meth c x0 s0 C Ky z h1 h2 h3 h4 h5 h6 h7)⟩
      · cases hs
  · cases hs

theorem ig_lsw {d : Int} {ps : Array (Int × Int)} (hc : iC j pc = some (.lookupswitch d ps, len)) (hs : ist j pc (.lookupswitch d ps) len ls st σ = some y) (K1 : iK1 D base l o σe j y) (K2 : iK2 o σe y) (K3 : iK3 D base l o σe j pc len ls σ y) (hl : l.stackTraces = false) : iG2 D base l o σe j pc ls st σ := by
  unfold ist istep at hs
  dsimp only at hs
  split at hs
  · obtain ⟨hq, hs⟩ := iG_s hs
    obtain ⟨t, ht, hs⟩ := iJ_inv hs
    cases hs
    have K := K1 _ _ _ _ rfl
    exact ⟨K.1, fun p e R s m args below meth c x0 s0 C Ky z h1 h2 h3 h4 h5 h6 h7 => sd_lookup C hc hq ht (K.2 p e R s m args below meth c x0 s0 C Ky z h1 h2 h3 h4 h5 h6 h7)⟩
  · cases hs

theorem ig_getf {k : Nat} (hc : iC j pc = some (.getfield k, len)) (hs : ist j pc (.getfield k) len ls st σ = some y) (K1 : iK1 D base l o σe j y) (K2 : iK2 o σe y) (K3 : iK3 D base l o σe j pc len ls σ y) (hl : l.stackTraces = false) : iG2 D base l o σe j pc ls st σ := by
  unfold ist istep at hs
  dsimp only at hs
  split at hs
  · next kc f t a rest hF =>
    obtain ⟨hk, hs⟩ := iG_s hs
    have hv : (some (Sum.inl (pc + len, ls, iVv t (sI σ (kc * 32 + f) a) (sR σ (kc * 32 + f) a) :: rest, σ)) : Option iT) = some y := by
      rw [← hs]
      rcases t with _ | _ | _ | t <;> rfl
    cases hv
    have K := K1 _ _ _ _ rfl
    exact ⟨K.1, fun p e R s m args below meth c x0 s0 C Ky z h1 h2 h3 h4 h5 h6 h7 => sd_getf C hc hF hk (K.2 p e R s m args below meth c x0 s0 C Ky z h1 h2 h3 h4 h5 h6 h7)⟩
  · cases hs

theorem ig_putf {k : Nat} (hc : iC j pc = some (.putfield k, len)) (hs : ist j pc (.putfield k) len ls st σ = some y) (K1 : iK1 D base l o σe j y) (K2 : iK2 o σe y) (K3 : iK3 D base l o σe j pc len ls σ y) (hl : l.stackTraces = false) : iG2 D base l o σe j pc ls st σ := by
  unfold ist istep at hs
  have hok : iFnOk j k = true := iOkA hc
  unfold iFnOk at hok
  dsimp only at hs
  split at hs
  · next kc f x a rest hF =>
    obtain ⟨hk, hs⟩ := iG_s hs
    cases hs
    have K := K1 _ _ _ _ rfl
    rw [hF] at hok
    have hty := (iFx hF).2.2.2
    exact ⟨K.1, fun p e R s m args below meth c x0 s0 C Ky z h1 h2 h3 h4 h5 h6 h7 => sd_putf (σ' := wI σ (kc * 32 + f) a x) C hc hF (iFn hok) hk (by rw [iTy0 hty]; rfl) (by rw [iTy0 hty]; rfl) rfl rfl (fun _ => rfl) (fun b hb => iSame_wI hb) (iF0_I (Or.inl (iTy0 hty))) (K.2 p e R s m args below meth c x0 s0 C Ky z h1 h2 h3 h4 h5 h6 h7)⟩
  · next kc f x a rest hF =>
    obtain ⟨⟨hk, hbo⟩, hs⟩ := iG_s hs
    cases hs
    have K := K1 _ _ _ _ rfl
    rw [hF] at hok
    have hty := (iFx hF).2.2.2
    exact ⟨K.1, fun p e R s m args below meth c x0 s0 C Ky z h1 h2 h3 h4 h5 h6 h7 => sd_putf (σ' := wI σ (kc * 32 + f) a x) C hc hF (iFn hok) hk (by rw [iTy1 hty]; rcases hbo with rfl | rfl <;> rfl) (by rw [iTy1 hty]; rcases hbo with rfl | rfl <;> rfl) rfl rfl (fun _ => rfl) (fun b hb => iSame_wI hb) (iF0_I (Or.inr (iTy1 hty))) (K.2 p e R s m args below meth c x0 s0 C Ky z h1 h2 h3 h4 h5 h6 h7)⟩
  · next kc f x a rest hF =>
    obtain ⟨hk, hs⟩ := iG_s hs
    cases hs
    have K := K1 _ _ _ _ rfl
    rw [hF] at hok
    have hty := (iFx hF).2.2.2
    exact ⟨K.1, fun p e R s m args below meth c x0 s0 C Ky z h1 h2 h3 h4 h5 h6 h7 => sd_putf (σ' := wR σ (kc * 32 + f) a x) C hc hF (iFn hok) hk (iTy2n hty) (iTy2f hty) rfl rfl (fun _ => rfl) (fun b hb => iSame_wR hb) (iF0_R hty) (K.2 p e R s m args below meth c x0 s0 C Ky z h1 h2 h3 h4 h5 h6 h7)⟩
  · cases hs

theorem ig_alen  (hc : iC j pc = some (.arraylength, len)) (hs : ist j pc (.arraylength) len ls st σ = some y) (K1 : iK1 D base l o σe j y) (K2 : iK2 o σe y) (K3 : iK3 D base l o σe j pc len ls σ y) (hl : l.stackTraces = false) : iG2 D base l o σe j pc ls st σ := by
  unfold ist istep at hs
  dsimp only at hs
  split at hs
  · obtain ⟨hq, hs⟩ := iG_s hs
    cases hs
    have K := K1 _ _ _ _ rfl
    exact ⟨K.1, fun p e R s m args below meth c x0 s0 C Ky z h1 h2 h3 h4 h5 h6 h7 => sd_alen C hc hq (K.2 p e R s m args below meth c x0 s0 C Ky z h1 h2 h3 h4 h5 h6 h7)⟩
  · cases hs

theorem ig_iaload  (hc : iC j pc = some (.iaload, len)) (hs : ist j pc (.iaload) len ls st σ = some y) (K1 : iK1 D base l o σe j y) (K2 : iK2 o σe y) (K3 : iK3 D base l o σe j pc len ls σ y) (hl : l.stackTraces = false) : iG2 D base l o σe j pc ls st σ := by
  unfold ist istep at hs
  dsimp only at hs
  split at hs
  · obtain ⟨⟨q1, q2⟩, hs⟩ := iG_s hs
    cases hs
    have K := K1 _ _ _ _ rfl
    exact ⟨K.1, fun p e R s m args below meth c x0 s0 C Ky z h1 h2 h3 h4 h5 h6 h7 => sd_iald C hc q1 q2 (K.2 p e R s m args below meth c x0 s0 C Ky z h1 h2 h3 h4 h5 h6 h7)⟩
  · cases hs

theorem ig_baload  (hc : iC j pc = some (.baload, len)) (hs : ist j pc (.baload) len ls st σ = some y) (K1 : iK1 D base l o σe j y) (K2 : iK2 o σe y) (K3 : iK3 D base l o σe j pc len ls σ y) (hl : l.stackTraces = false) : iG2 D base l o σe j pc ls st σ := by
  unfold ist istep at hs
  dsimp only at hs
  split at hs
  · obtain ⟨⟨q1, q2⟩, hs⟩ := iG_s hs
    cases hs
    have K := K1 _ _ _ _ rfl
    exact ⟨K.1, fun p e R s m args below meth c x0 s0 C Ky z h1 h2 h3 h4 h5 h6 h7 => sd_bald C hc q1 q2 (K.2 p e R s m args below meth c x0 s0 C Ky z h1 h2 h3 h4 h5 h6 h7)⟩
  · cases hs

theorem ig_laload  (hc : iC j pc = some (.laload, len)) (hs : ist j pc (.laload) len ls st σ = some y) (K1 : iK1 D base l o σe j y) (K2 : iK2 o σe y) (K3 : iK3 D base l o σe j pc len ls σ y) (hl : l.stackTraces = false) : iG2 D base l o σe j pc ls st σ := by
  unfold ist istep at hs
  dsimp only at hs
  split at hs
  · obtain ⟨⟨q1, q2⟩, hs⟩ := iG_s hs
    cases hs
    have K := K1 _ _ _ _ rfl
    exact ⟨K.1, fun p e R s m args below meth c x0 s0 C Ky z h1 h2 h3 h4 h5 h6 h7 => sd_lald C hc q1 q2 (K.2 p e R s m args below meth c x0 s0 C Ky z h1 h2 h3 h4 h5 h6 h7)⟩
  · cases hs

theorem ig_aaload  (hc : iC j pc = some (.aaload, len)) (hs : ist j pc (.aaload) len ls st σ = some y) (K1 : iK1 D base l o σe j y) (K2 : iK2 o σe y) (K3 : iK3 D base l o σe j pc len ls σ y) (hl : l.stackTraces = false) : iG2 D base l o σe j pc ls st σ := by
  unfold ist istep at hs
  dsimp only at hs
  split at hs
  · obtain ⟨⟨q1, q2⟩, hs⟩ := iG_s hs
    cases hs
    have K := K1 _ _ _ _ rfl
    exact ⟨K.1, fun p e R s m args below meth c x0 s0 C Ky z h1 h2 h3 h4 h5 h6 h7 => sd_aald C hc q1 q2 (K.2 p e R s m args below meth c x0 s0 C Ky z h1 h2 h3 h4 h5 h6 h7)⟩
  · cases hs

theorem ig_iastore  (hc : iC j pc = some (.iastore, len)) (hs : ist j pc (.iastore) len ls st σ = some y) (K1 : iK1 D base l o σe j y) (K2 : iK2 o σe y) (K3 : iK3 D base l o σe j pc len ls σ y) (hl : l.stackTraces = false) : iG2 D base l o σe j pc ls st σ := by
  unfold ist istep at hs
  dsimp only at hs
  split at hs
  · obtain ⟨⟨q1, q2⟩, hs⟩ := iG_s hs
    cases hs
    have K := K1 _ _ _ _ rfl
    exact ⟨K.1, fun p e R s m args below meth c x0 s0 C Ky z h1 h2 h3 h4 h5 h6 h7 => sd_iast C hc q1 q2 (K.2 p e R s m args below meth c x0 s0 C Ky z h1 h2 h3 h4 h5 h6 h7)⟩
  · cases hs

theorem ig_lastore  (hc : iC j pc = some (.lastore, len)) (hs : ist j pc (.lastore) len ls st σ = some y) (K1 : iK1 D base l o σe j y) (K2 : iK2 o σe y) (K3 : iK3 D base l o σe j pc len ls σ y) (hl : l.stackTraces = false) : iG2 D base l o σe j pc ls st σ := by
  unfold ist istep at hs
  dsimp only at hs
  split at hs
  · obtain ⟨⟨q1, q2⟩, hs⟩ := iG_s hs
    cases hs
    have K := K1 _ _ _ _ rfl
    exact ⟨K.1, fun p e R s m args below meth c x0 s0 C Ky z h1 h2 h3 h4 h5 h6 h7 => sd_last C hc q1 q2 (K.2 p e R s m args below meth c x0 s0 C Ky z h1 h2 h3 h4 h5 h6 h7)⟩
  · cases hs

theorem ig_bastore  (hc : iC j pc = some (.bastore, len)) (hs : ist j pc (.bastore) len ls st σ = some y) (K1 : iK1 D base l o σe j y) (K2 : iK2 o σe y) (K3 : iK3 D base l o σe j pc len ls σ y) (hl : l.stackTraces = false) : iG2 D base l o σe j pc ls st σ := by
  unfold ist istep at hs
  dsimp only at hs
  split at hs
  · obtain ⟨⟨q1, q2, q3⟩, hs⟩ := iG_s hs
    cases hs
    have K := K1 _ _ _ _ rfl
    exact ⟨K.1, fun p e R s m args below meth c x0 s0 C Ky z h1 h2 h3 h4 h5 h6 h7 => sd_bast C hc q1 q2 q3 (K.2 p e R s m args below meth c x0 s0 C Ky z h1 h2 h3 h4 h5 h6 h7)⟩
  · cases hs

theorem ig_aastore  (hc : iC j pc = some (.aastore, len)) (hs : ist j pc (.aastore) len ls st σ = some y) (K1 : iK1 D base l o σe j y) (K2 : iK2 o σe y) (K3 : iK3 D base l o σe j pc len ls σ y) (hl : l.stackTraces = false) : iG2 D base l o σe j pc ls st σ := by
  unfold ist istep at hs
  dsimp only at hs
  split at hs
  · obtain ⟨⟨q1, q2, q3⟩, hs⟩ := iG_s hs
    cases hs
    have K := K1 _ _ _ _ rfl
    exact ⟨K.1, fun p e R s m args below meth c x0 s0 C Ky z h1 h2 h3 h4 h5 h6 h7 => sd_aast C hc q1 q2 q3 (K.2 p e R s m args below meth c x0 s0 C Ky z h1 h2 h3 h4 h5 h6 h7)⟩
  · cases hs

theorem ig_new {k : Nat} (hc : iC j pc = some (.new k, len)) (hs : ist j pc (.new k) len ls st σ = some y) (K1 : iK1 D base l o σe j y) (K2 : iK2 o σe y) (K3 : iK3 D base l o σe j pc len ls σ y) (hl : l.stackTraces = false) : iG2 D base l o σe j pc ls st σ := by
  unfold ist istep at hs
  dsimp only at hs
  split at hs
  · next x hE =>
    obtain ⟨hq, hs⟩ := iG_s hs
    injection hs with hs
    obtain ⟨rfl, rfl⟩ := K2 _ _ hs.symm
    have e1 : sX (nO σ (200 + x) 6) = sX σ + 1 := rfl
    have e2 : sS (nO σ (200 + x) 6) = sS σ + 6 := rfl
    exact ⟨⟨by omega, by omega⟩, fun p e R s m args below meth c x0 s0 C Ky z h1 h2 h3 h4 h5 h6 h7 => sd_throw C hl Ky.2.2.1 hc hE hq h3 h4 z h1 h2 (by omega) (by omega)⟩
  · split at hs
    · next kc n hN =>
      cases hs
      have K := K1 _ _ _ _ rfl
      have e1 : sX (nO σ kc n) = sX σ + 1 := rfl
      have e2 : sS (nO σ kc n) = sS σ + n := rfl
      have k1 := K.1.1
      have k2 := K.1.2
      exact ⟨⟨by omega, by omega⟩, fun p e R s m args below meth c x0 s0 C Ky z h1 h2 h3 h4 h5 h6 h7 => sd_new C hc hN h1 h2 (by omega) (by omega) (K.2 p e R s m args below meth c x0 s0 C Ky z (by omega) (by omega) h3 h4 h5 h6 h7)⟩
    · cases hs

theorem ig_newA {t : ArrayType} (hc : iC j pc = some (.newarray t, len)) (hs : ist j pc (.newarray t) len ls st σ = some y) (K1 : iK1 D base l o σe j y) (K2 : iK2 o σe y) (K3 : iK3 D base l o σe j pc len ls σ y) (hl : l.stackTraces = false) : iG2 D base l o σe j pc ls st σ := by
  unfold ist istep at hs
  dsimp only at hs
  split at hs
  · next x rest =>
    obtain ⟨⟨q1, q2⟩, hs⟩ := iG_s hs
    cases hs
    have K := K1 _ _ _ _ rfl
    have e1 : sX (nA σ 101 x.toNatClampNeg) = sX σ + 1 := rfl
    have e2 : sS (nA σ 101 x.toNatClampNeg) = sS σ + x.toNatClampNeg := rfl
    have k1 := K.1.1
    have k2 := K.1.2
    refine ⟨⟨by omega, by omega⟩, fun p e R s m args below meth c x0 s0 C Ky z h1 h2 h3 h4 h5 h6 h7 => sd_newA C hc rfl kac_int q1 q2 (by decide) h1 h2 (by omega) (by omega) (by decide) (fun cA hcA => ?_) (K.2 p e R s m args below meth c x0 s0 C Ky z (by omega) (by omega) h3 h4 h5 h6 h7)⟩
    have hcc : cA = D.2.1 := Option.some.inj (hcA.symm.trans (iT0 C.2.2.2.2.2.2.2.2.1).2)
    subst hcc
    exact iAt_101 (by simp [sK, nA, u1]) (by simp [sN, sA, nA, u1, uz]; rfl)
  · next x rest =>
    obtain ⟨⟨q1, q2⟩, hs⟩ := iG_s hs
    cases hs
    have K := K1 _ _ _ _ rfl
    have e1 : sX (nA σ 102 x.toNatClampNeg) = sX σ + 1 := rfl
    have e2 : sS (nA σ 102 x.toNatClampNeg) = sS σ + x.toNatClampNeg := rfl
    have k1 := K.1.1
    have k2 := K.1.2
    refine ⟨⟨by omega, by omega⟩, fun p e R s m args below meth c x0 s0 C Ky z h1 h2 h3 h4 h5 h6 h7 => sd_newA C hc rfl kac_bool q1 q2 (by decide) h1 h2 (by omega) (by omega) (by decide) (fun cA hcA => ?_) (K.2 p e R s m args below meth c x0 s0 C Ky z (by omega) (by omega) h3 h4 h5 h6 h7)⟩
    have hcc : cA = D.2.2.1 := Option.some.inj (hcA.symm.trans (iT1 C.2.2.2.2.2.2.2.2.1).2)
    subst hcc
    exact iAt_102 (by simp [sK, nA, u1]) (by simp [sN, sA, nA, u1, uz]; rfl)
  · next x rest =>
    obtain ⟨⟨q1, q2⟩, hs⟩ := iG_s hs
    cases hs
    have K := K1 _ _ _ _ rfl
    have e1 : sX (nA σ 103 x.toNatClampNeg) = sX σ + 1 := rfl
    have e2 : sS (nA σ 103 x.toNatClampNeg) = sS σ + x.toNatClampNeg := rfl
    have k1 := K.1.1
    have k2 := K.1.2
    refine ⟨⟨by omega, by omega⟩, fun p e R s m args below meth c x0 s0 C Ky z h1 h2 h3 h4 h5 h6 h7 => sd_newA C hc rfl kac_long q1 q2 (by decide) h1 h2 (by omega) (by omega) (by decide) (fun cA hcA => ?_) (K.2 p e R s m args below meth c x0 s0 C Ky z (by omega) (by omega) h3 h4 h5 h6 h7)⟩
    have hcc : cA = D.2.2.2.1 := Option.some.inj (hcA.symm.trans (iT2 C.2.2.2.2.2.2.2.2.1).2)
    subst hcc
    exact iAt_103 (by simp [sK, nA, u1]) (by simp [sN, sL, nA, u1, uz]; rfl)
  · cases hs

theorem ig_newV {k : Nat} (hc : iC j pc = some (.anewarray k, len)) (hs : ist j pc (.anewarray k) len ls st σ = some y) (K1 : iK1 D base l o σe j y) (K2 : iK2 o σe y) (K3 : iK3 D base l o σe j pc len ls σ y) (hl : l.stackTraces = false) : iG2 D base l o σe j pc ls st σ := by
  unfold ist istep at hs
  dsimp only at hs
  split at hs
  · next q x rest hV =>
    obtain ⟨⟨q1, q2⟩, hs⟩ := iG_s hs
    cases hs
    have K := K1 _ _ _ _ rfl
    have e1 : sX (nA σ (110 + q) x.toNatClampNeg) = sX σ + 1 := rfl
    have e2 : sS (nA σ (110 + q) x.toNatClampNeg) = sS σ + x.toNatClampNeg := rfl
    have k1 := K.1.1
    have k2 := K.1.2
    exact ⟨⟨by omega, by omega⟩, fun p e R s m args below meth c x0 s0 C Ky z h1 h2 h3 h4 h5 h6 h7 => sd_newV C hc hV q1 q2 h1 h2 (by omega) (by omega) (K.2 p e R s m args below meth c x0 s0 C Ky z (by omega) (by omega) h3 h4 h5 h6 h7)⟩
  · cases hs

theorem ig_ireturn  (hc : iC j pc = some (.ireturn, len)) (hs : ist j pc (.ireturn) len ls st σ = some y) (K1 : iK1 D base l o σe j y) (K2 : iK2 o σe y) (K3 : iK3 D base l o σe j pc len ls σ y) (hl : l.stackTraces = false) : iG2 D base l o σe j pc ls st σ := by
  unfold ist istep at hs
  dsimp only at hs
  split at hs
  · obtain ⟨hq, hs⟩ := iG_s hs
    injection hs with hs
    obtain ⟨rfl, rfl⟩ := K2 _ _ hs.symm
    exact ⟨⟨Nat.le_refl _, Nat.le_refl _⟩, fun p e R s m args below meth c x0 s0 C Ky z h1 h2 h3 h4 h5 h6 h7 => sd_iret C hc hq⟩
  · cases hs

theorem ig_areturn  (hc : iC j pc = some (.areturn, len)) (hs : ist j pc (.areturn) len ls st σ = some y) (K1 : iK1 D base l o σe j y) (K2 : iK2 o σe y) (K3 : iK3 D base l o σe j pc len ls σ y) (hl : l.stackTraces = false) : iG2 D base l o σe j pc ls st σ := by
  unfold ist istep at hs
  dsimp only at hs
  split at hs
  · injection hs with hs
    obtain ⟨rfl, rfl⟩ := K2 _ _ hs.symm
    exact ⟨⟨Nat.le_refl _, Nat.le_refl _⟩, fun p e R s m args below meth c x0 s0 C Ky z h1 h2 h3 h4 h5 h6 h7 => sd_aret C hc⟩
  · cases hs

theorem ig_return_  (hc : iC j pc = some (.return_, len)) (hs : ist j pc (.return_) len ls st σ = some y) (K1 : iK1 D base l o σe j y) (K2 : iK2 o σe y) (K3 : iK3 D base l o σe j pc len ls σ y) (hl : l.stackTraces = false) : iG2 D base l o σe j pc ls st σ := by
  unfold ist istep at hs
  dsimp only at hs
  split at hs
  · injection hs with hs
    obtain ⟨rfl, rfl⟩ := K2 _ _ hs.symm
    exact ⟨⟨Nat.le_refl _, Nat.le_refl _⟩, fun p e R s m args below meth c x0 s0 C Ky z h1 h2 h3 h4 h5 h6 h7 => sd_vret C hc⟩
  · cases hs

theorem inol_m : ∀ {l : List iV}, inol l = true → ∀ v ∈ l, ∀ w, v ≠ vl w
  | [], _, v, hv, _ => by cases hv
  | .inl x :: r, h, v, hv, w => by
    rcases List.mem_cons.mp hv with rfl | hv
    · exact fun z => by cases z
    · exact inol_m (l := r) h v hv w
  | .inr (.inl a) :: r, h, v, hv, w => by
    rcases List.mem_cons.mp hv with rfl | hv
    · exact fun z => by cases z
    · exact inol_m (l := r) h v hv w
  | .inr (.inr y) :: r, h, v, hv, w => by cases (h : false = true)
theorem iCl0 {j sp k q n r : Nat} (hM : pM (mO j) k = some (q, n, r)) (hok : iClOk j sp k = true) (h9 : q ≠ 999) : rF q + 1 ≤ rF j ∧ 8 + (mL q + 11) + rL q ≤ rL j ∧ n ≤ mL q ∧ (sp = 1 → (iY q).name ≠ "<init>") ∧ (sp = 2 → (iY q).name = "<init>") := by
  unfold iClOk at hok
  rw [hM] at hok
  dsimp only at hok
  rw [if_neg (fun h => h9 (Nat.eq_of_beq_eq_true h)), Bool.and_eq_true, Bool.and_eq_true, Bool.and_eq_true] at hok
  obtain ⟨⟨⟨a1, a2⟩, a3⟩, a4⟩ := hok
  refine ⟨Nat.le_of_ble_eq_true a1, Nat.le_of_ble_eq_true a2, Nat.le_of_ble_eq_true a3, fun h => ?_, fun h => ?_⟩
  · subst h; exact of_decide_eq_true a4
  · subst h; exact of_decide_eq_true a4
theorem iCl9 {j sp k q n r : Nat} (hM : pM (mO j) k = some (q, n, r)) (hok : iClOk j sp k = true) (hs : sp ≠ 2) : q ≠ 999 := by
  intro h
  subst h
  unfold iClOk at hok
  rw [hM] at hok
  have hok2 : (Nat.beq sp 2 && Nat.ble 1 (rF j) && Nat.ble 20 (rL j)) = true := hok
  rw [Bool.and_eq_true, Bool.and_eq_true] at hok2
  exact hs (Nat.eq_of_beq_eq_true hok2.1.1)
/-- a callee whose link is a nest mate's has no handlers -/
theorem iNst {w k q : Nat} (hq : q < 140) (h : Cond.methodLinkNest (iO_ w) k (iY q) "TextVerbs" ∈ lw_tbl) : iHh q = [] := by
  have h1 := List.all_eq_true.mp kNest _ h
  have h2 : (iY q).cls ≠ "TextVerbsLaw" := of_decide_eq_true h1
  rcases iHow q hq with h3 | h3
  · rw [iHm, List.isEmpty_iff.mp h3]; rfl
  · exact absurd ((iOwY q hq).1.symm.trans h3) h2
theorem iCW_c {q : Nat} (h : iHh q = []) : iCW q = .code (iY q) (iBy q) (mL q) (iRt q) := by
  unfold iCW
  rw [h]
  rfl
theorem iHl {q n : Nat} {as : List iV} (h : (parseMethodDescriptor (iY q).desc).map (fun d => d.parameters.length) = some n) (hn : as.length = n) : ∀ sig, parseMethodDescriptor (iY q).desc = some sig → (as.map cv).length = sig.parameters.length := by
  intro sig hs
  rw [hs] at h
  rw [List.length_map, hn]
  exact (Option.some.inj h).symm
theorem ig_stat {k : Nat} (hc : iC j pc = some (.invokestatic k, len)) (hs : ist j pc (.invokestatic k) len ls st σ = some y) (K1 : iK1 D base l o σe j y) (K2 : iK2 o σe y) (K3 : iK3 D base l o σe j pc len ls σ y) (hl : l.stackTraces = false) : iG2 D base l o σe j pc ls st σ := by
  unfold ist istep at hs
  dsimp only at hs
  split at hs
  · next j' n hM =>
    obtain ⟨⟨⟨q1, q2⟩, q3⟩, hs⟩ := iG_s hs
    have hq9 : j' ≠ 999 := iCl9 hM (iOkA hc) (by decide)
    injection hs with hs
    obtain ⟨o1, σ1, hmt, ⟨m1, m2⟩, ⟨m3, m4⟩, k1, k2, k3⟩ := K3 _ _ _ hs.symm
    obtain ⟨hd, hn⟩ := iDec hc
    cases iLen1 hn
    rcases iMx hM with ⟨h8, -⟩ | ⟨hj1, hj2, hlk, hkd, hini, ⟨y1, y2, y3⟩, hrc⟩
    · exact absurd h8 hq9
    obtain ⟨r1, r2, r3, r4, r5⟩ := iCl0 hM (iOkA hc) hq9
    refine ⟨⟨by omega, by omega⟩, fun p e R s m args below meth c x0 s0 C Ky z h1 h2 h3 h4 h5 h6 h7 => ?_⟩
    intro H locs arr hR hO hL hA
    obtain ⟨cx, cb, -, -, co, cm, -, ct, cK, -⟩ := id C
    have hlen : ((st.take n).reverse).length = n := by rw [List.length_reverse, List.length_take]; omega
    have hmt' := hmt hj1 hj2 (by rw [hlen]; exact r3) (fun v hv => inol_m q3 v (List.mem_reverse.mp hv))
    have hbk := iBack (p := p) (e := e) (below := below) (s := s) (sargs := args) (R := R) hmt' (by omega) (by omega) (cwA _ hj1 hj2) hini
    refine iAfter (as := (st.take n).reverse) (rest := st.drop n) C h7 Ky h1 h2 m1 m2 hO hL hA (fun T hT X => ?_) (fun v hv => (k1 v hv).2 p e R s m args below meth c x0 s0 C Ky z (by omega) (by omega) h3 h4 h5 h6 h7) (fun x a h hx hh _ => (k2 x a h hx hh).2 p e R s m args below meth c x0 s0 C Ky z (by omega) (by omega) h3 h4 h5 h6 h7) k3
    have hpre := iPre_of (T := T) (locs := locs) (cells := sX σ - x0) (slots := sS σ - s0) (R := R) (as := (st.take n).reverse) (σ1 := σ1) Ky hR hO hT (by omega) (by omega)
    have hcw : (iCW j').before args s = true := ct.use (cwA _ hj1 hj2) (iCW_g _) args
    have hd' : decode c.code pc = .ok (.invokestatic k, 3) := by rw [cb]; exact hd
    have hwt : 2 * 0 + (((st.drop n).map cv).map fun v => v.category).sum ≤ 8 := by rw [isum_cat]; omega
    have hsz : arr.size = c.maxLocals := by rw [cm]; exact hA.1
    have hstk : st.map cv = ((st.take n).reverse.map cv).reverse ++ (st.drop n).map cv := by rw [List.map_reverse, List.reverse_reverse, ← List.map_append, List.take_append_drop]
    have hkd2 : Cond.static (iY j') ∈ lw_tbl := by
      rcases hkd with ⟨-, h⟩ | ⟨h, -⟩
      · exact h
      · exact absurd rfl h
    rcases hlk with hlk | hlk
    · by_cases hem : (iHh j').isEmpty = true
      · rw [iCW_c (List.isEmpty_iff.mp hem)] at hcw
        exact vx_callS X cx co (ct.use hlk rfl args) (ct.use hkd2 rfl args) (ct.use hini rfl args) hcw ⟨y1, y2⟩ hbk (g := F0 m pc arr (st.map cv)) rfl hsz (iHl y3 hlen) hstk hwt hd' hpre
      · unfold iCW at hcw
        rw [if_neg hem] at hcw
        exact vx_callSX X cx co (ct.use hlk rfl args) (ct.use hkd2 rfl args) (ct.use hini rfl args) hcw ⟨y1, y2⟩ hbk (g := F0 m pc arr (st.map cv)) rfl hsz (iHl y3 hlen) hstk hwt hd' hpre
    · rw [iCW_c (iNst hj1 hlk)] at hcw
      exact ix_callSN X cx co (ct.use hlk rfl args) (ct.use hkd2 rfl args) (ct.use hini rfl args) hcw ⟨y1, y2⟩ hbk (g := F0 m pc arr (st.map cv)) rfl hsz (iHl y3 hlen) hstk hwt hd' hpre
  · cases hs
theorem ig_virt {k : Nat} (hc : iC j pc = some (.invokevirtual k, len)) (hs : ist j pc (.invokevirtual k) len ls st σ = some y) (K1 : iK1 D base l o σe j y) (K2 : iK2 o σe y) (K3 : iK3 D base l o σe j pc len ls σ y) (hl : l.stackTraces = false) : iG2 D base l o σe j pc ls st σ := by
  unfold ist istep at hs
  dsimp only at hs
  split at hs
  · next j' n rc hM =>
    split at hs
    · next a as hab =>
      obtain ⟨⟨⟨⟨q1, q2⟩, q3⟩, hka9⟩, hs⟩ := iG_s hs
      have hq9 : j' ≠ 999 := iCl9 hM (iOkA hc) (by decide)
      injection hs with hs
      obtain ⟨o1, σ1, hmt, ⟨m1, m2⟩, ⟨m3, m4⟩, k1, k2, k3⟩ := K3 _ _ _ hs.symm
      obtain ⟨hd, hn⟩ := iDec hc
      cases iLen1 hn
      rcases iMx hM with ⟨h8, -⟩ | ⟨hj1, hj2, hlk, hkd, hini, ⟨y1, y2, y3⟩, hrc⟩
      · exact absurd h8 hq9
      obtain ⟨r1, r2, r3, r4, r5⟩ := iCl0 hM (iOkA hc) hq9
      refine ⟨⟨by omega, by omega⟩, fun p e R s m args below meth c x0 s0 C Ky z h1 h2 h3 h4 h5 h6 h7 => ?_⟩
      intro H locs arr hR hO hL hA
      obtain ⟨cx, cb, -, -, co, cm, -, ct, cK, -⟩ := id C
      have hlen : (vr a :: as).length = n := by rw [← hab, List.length_reverse, List.length_take]; omega
      have hnol : ∀ v ∈ vr a :: as, ∀ w, v ≠ vl w := fun v hv => inol_m q3 v (List.mem_reverse.mp (by rw [hab]; exact hv))
      have hmt' := hmt hj1 hj2 (by rw [hlen]; exact r3) hnol
      have hbk := iBack (p := p) (e := e) (below := below) (s := s) (sargs := args) (R := R) hmt' (by omega) (by omega) (cwA _ hj1 hj2) hini
      have hka : sK σ a ≠ 0 := by omega
      have ha0 := (hR.lt hka).1
      obtain ⟨hrc1, hrc2, hrc3⟩ := hrc (by omega)
      refine iAfter (as := vr a :: as) (rest := st.drop n) C h7 Ky h1 h2 m1 m2 hO hL hA (fun T hT X => ?_) (fun v hv => (k1 v hv).2 p e R s m args below meth c x0 s0 C Ky z (by omega) (by omega) h3 h4 h5 h6 h7) (fun x a h hx hh _ => (k2 x a h hx hh).2 p e R s m args below meth c x0 s0 C Ky z (by omega) (by omega) h3 h4 h5 h6 h7) k3
      have hpre := iPre_of (T := T) (locs := locs) (cells := sX σ - x0) (slots := sS σ - s0) (R := R) (as := vr a :: as) (σ1 := σ1) Ky hR hO hT (by omega) (by omega)
      have hcw : (iCW j').before args s = true := ct.use (cwA _ hj1 hj2) (iCW_g _) args
      have hd' : decode c.code pc = .ok (.invokevirtual k, 3) := by rw [cb]; exact hd
      have hwt : 2 * 0 + (((st.drop n).map cv).map fun v => v.category).sum ≤ 8 := by rw [isum_cat]; omega
      have hsz : arr.size = c.maxLocals := by rw [cm]; exact hA.1
      have hav : ((vr a :: as).map cv).toArray = (Value.ref (a - 1) :: as.map cv).toArray := by rw [List.map_cons, cv_r ha0]
      have hstk : st.map cv = (as.map cv).reverse ++ .ref (a - 1) :: (st.drop n).map cv := by
        have e9 : st.take n = (vr a :: as).reverse := by rw [← hab, List.reverse_reverse]
        conv => lhs; rw [← List.take_append_drop n st, List.map_append, e9]
        rw [List.reverse_cons, List.map_append, List.map_reverse, List.map_cons, List.map_nil, cv_r ha0, List.append_assoc]
        rfl
      have hl2 : as.length = n - 1 := by rw [← hlen]; rfl
      rw [if_neg (by omega)] at y3
      obtain ⟨hkd1, hsel⟩ : Cond.instanceMethod (iY j') ∈ lw_tbl ∧ Cond.selects (kR (rc + 1)) (iY j') (iY j') ∈ lw_tbl := by
        rcases hkd with ⟨h, -⟩ | ⟨-, h, h' | h'⟩
        · omega
        · exact absurd h' (r4 rfl)
        · exact ⟨h, h'⟩
      obtain ⟨cellB, b1, b2, b3, -⟩ := (hR.2.2.2.2.2 a).1 (by omega) (by omega)
      rw [hka9] at b2
      have hcls : s.vm.findClass (kR (rc + 1)) = some cellB.cls := by rw [b2]; exact (cK.1 (rc + 1 - 1) _ (kw_vw (by omega) (by omega))).2.1
      have hobj : cellB.vm.isStatics = false := by rw [b3]; rfl
      unfold iCR
      rw [hav] at hpre ⊢
      rcases hlk with hlk | hlk
      · by_cases hem : (iHh j').isEmpty = true
        · rw [iCW_c (List.isEmpty_iff.mp hem)] at hcw
          exact vx_callV X cx (C := kR (rc + 1)) co (ct.use hlk rfl args) (ct.use hkd1 rfl args) (ct.use hsel rfl args) hcw ⟨y1, y2⟩ hbk (by rw [hT]; exact b1) hobj hcls (g := F0 m pc arr (st.map cv)) rfl hsz (iHl y3 hl2) hstk hwt hd' hpre
        · unfold iCW at hcw
          rw [if_neg hem] at hcw
          exact vx_callVX X cx (C := kR (rc + 1)) co (ct.use hlk rfl args) (ct.use hkd1 rfl args) (ct.use hsel rfl args) hcw ⟨y1, y2⟩ hbk (by rw [hT]; exact b1) hobj hcls (g := F0 m pc arr (st.map cv)) rfl hsz (iHl y3 hl2) hstk hwt hd' hpre
      · have n1 : (decide ((iY j').name = "<init>") || decide ((iY j').name = "widthOf")) = true := List.all_eq_true.mp kNest2 _ hlk
        have n2 : (iY j').name ≠ "widthOf" := of_decide_eq_true (List.all_eq_true.mp kInst2 _ hkd1)
        rw [Bool.or_eq_true, decide_eq_true_eq, decide_eq_true_eq] at n1
        exact absurd n1 (fun z => z.elim (r4 rfl) n2)
    · cases hs
  · cases hs
theorem ig_spec {k : Nat} (hc : iC j pc = some (.invokespecial k, len)) (hs : ist j pc (.invokespecial k) len ls st σ = some y) (K1 : iK1 D base l o σe j y) (K2 : iK2 o σe y) (K3 : iK3 D base l o σe j pc len ls σ y) (hl : l.stackTraces = false) : iG2 D base l o σe j pc ls st σ := by
  unfold ist istep at hs
  dsimp only at hs
  split at hs
  · next n r hM =>
    split at hs
    · obtain ⟨⟨q1, q2⟩, hs⟩ := iG_s hs
      cases hs
      have K := K1 _ _ _ _ rfl
      exact ⟨K.1, fun p e R s m args below meth c x0 s0 C Ky z h1 h2 h3 h4 h5 h6 h7 => sd_oinit C hc hM h3 h4 q1 q2 (K.2 p e R s m args below meth c x0 s0 C Ky z h1 h2 h3 h4 h5 h6 h7)⟩
    · cases hs
  · next j' n rc hne hM =>
    split at hs
    · next a as hab =>
      obtain ⟨⟨⟨⟨q1, q2⟩, q3⟩, hka9⟩, hs⟩ := iG_s hs
      have hq9 : j' ≠ 999 := fun z => by first | exact hne z | exact hne _ _ (by rw [z])
      injection hs with hs
      obtain ⟨o1, σ1, hmt, ⟨m1, m2⟩, ⟨m3, m4⟩, k1, k2, k3⟩ := K3 _ _ _ hs.symm
      obtain ⟨hd, hn⟩ := iDec hc
      cases iLen1 hn
      rcases iMx hM with ⟨h8, -⟩ | ⟨hj1, hj2, hlk, hkd, hini, ⟨y1, y2, y3⟩, hrc⟩
      · exact absurd h8 hq9
      obtain ⟨r1, r2, r3, r4, r5⟩ := iCl0 hM (iOkA hc) hq9
      refine ⟨⟨by omega, by omega⟩, fun p e R s m args below meth c x0 s0 C Ky z h1 h2 h3 h4 h5 h6 h7 => ?_⟩
      intro H locs arr hR hO hL hA
      obtain ⟨cx, cb, -, -, co, cm, -, ct, cK, -⟩ := id C
      have hlen : (vr a :: as).length = n := by rw [← hab, List.length_reverse, List.length_take]; omega
      have hnol : ∀ v ∈ vr a :: as, ∀ w, v ≠ vl w := fun v hv => inol_m q3 v (List.mem_reverse.mp (by rw [hab]; exact hv))
      have hmt' := hmt hj1 hj2 (by rw [hlen]; exact r3) hnol
      have hbk := iBack (p := p) (e := e) (below := below) (s := s) (sargs := args) (R := R) hmt' (by omega) (by omega) (cwA _ hj1 hj2) hini
      have hka : sK σ a ≠ 0 := by omega
      have ha0 := (hR.lt hka).1
      obtain ⟨hrc1, hrc2, hrc3⟩ := hrc (by omega)
      refine iAfter (as := vr a :: as) (rest := st.drop n) C h7 Ky h1 h2 m1 m2 hO hL hA (fun T hT X => ?_) (fun v hv => (k1 v hv).2 p e R s m args below meth c x0 s0 C Ky z (by omega) (by omega) h3 h4 h5 h6 h7) (fun x a h hx hh _ => (k2 x a h hx hh).2 p e R s m args below meth c x0 s0 C Ky z (by omega) (by omega) h3 h4 h5 h6 h7) k3
      have hpre := iPre_of (T := T) (locs := locs) (cells := sX σ - x0) (slots := sS σ - s0) (R := R) (as := vr a :: as) (σ1 := σ1) Ky hR hO hT (by omega) (by omega)
      have hcw : (iCW j').before args s = true := ct.use (cwA _ hj1 hj2) (iCW_g _) args
      have hd' : decode c.code pc = .ok (.invokespecial k, 3) := by rw [cb]; exact hd
      have hwt : 2 * 0 + (((st.drop n).map cv).map fun v => v.category).sum ≤ 8 := by rw [isum_cat]; omega
      have hsz : arr.size = c.maxLocals := by rw [cm]; exact hA.1
      have hav : ((vr a :: as).map cv).toArray = (Value.ref (a - 1) :: as.map cv).toArray := by rw [List.map_cons, cv_r ha0]
      have hstk : st.map cv = (as.map cv).reverse ++ .ref (a - 1) :: (st.drop n).map cv := by
        have e9 : st.take n = (vr a :: as).reverse := by rw [← hab, List.reverse_reverse]
        conv => lhs; rw [← List.take_append_drop n st, List.map_append, e9]
        rw [List.reverse_cons, List.map_append, List.map_reverse, List.map_cons, List.map_nil, cv_r ha0, List.append_assoc]
        rfl
      have hl2 : as.length = n - 1 := by rw [← hlen]; rfl
      rw [if_neg (by omega)] at y3
      have hkd1 : Cond.instanceMethod (iY j') ∈ lw_tbl := by
        rcases hkd with ⟨h, -⟩ | ⟨-, h, -⟩
        · omega
        · exact h
      have hin := r5 rfl
      obtain ⟨hh0, hrt⟩ := kIni j' hj1 hin
      rw [iCW_c hh0, hrt] at hcw
      unfold iCR
      rw [hav] at hpre ⊢
      rcases hlk with hlk | hlk
      · exact ix_callI X cx co hin (ct.use hlk rfl args) (ct.use hkd1 rfl args) hcw ⟨y1, y2⟩ hbk (g := F0 m pc arr (st.map cv)) rfl hsz (iHl y3 hl2) hstk hwt hd' hpre
      · exact ix_callIN X cx co hin (ct.use hlk rfl args) (ct.use hkd1 rfl args) hcw ⟨y1, y2⟩ hbk (g := F0 m pc arr (st.map cv)) rfl hsz (iHl y3 hl2) hstk hwt hd' hpre
    · cases hs
  · cases hs

theorem iStep {i : Instr} (hc : iC j pc = some (i, len)) (hs : ist j pc i len ls st σ = some y) (K1 : iK1 D base l o σe j y) (K2 : iK2 o σe y) (K3 : iK3 D base l o σe j pc len ls σ y) (hl : l.stackTraces = false) : iG2 D base l o σe j pc ls st σ := by
  cases i
  case iconst => exact ig_iconst hc hs K1 K2 K3 hl
  case bipush => exact ig_bipush hc hs K1 K2 K3 hl
  case sipush => exact ig_sipush hc hs K1 K2 K3 hl
  case aconst_null => exact ig_null hc hs K1 K2 K3 hl
  case iload => exact ig_iload hc hs K1 K2 K3 hl
  case iload_n => exact ig_iload_n hc hs K1 K2 K3 hl
  case aload => exact ig_aload hc hs K1 K2 K3 hl
  case aload_n => exact ig_aload_n hc hs K1 K2 K3 hl
  case iinc => exact ig_iinc hc hs K1 K2 K3 hl
  case istore => exact ig_istore hc hs K1 K2 K3 hl
  case istore_n => exact ig_istore_n hc hs K1 K2 K3 hl
  case astore => exact ig_astore hc hs K1 K2 K3 hl
  case astore_n => exact ig_astore_n hc hs K1 K2 K3 hl
  case iadd => exact ig_iadd hc hs K1 K2 K3 hl
  case isub => exact ig_isub hc hs K1 K2 K3 hl
  case imul => exact ig_imul hc hs K1 K2 K3 hl
  case iand => exact ig_iand hc hs K1 K2 K3 hl
  case i2l => exact ig_i2l hc hs K1 K2 K3 hl
  case dup2 => exact ig_dup2 hc hs K1 K2 K3 hl
  case idiv => exact ig_idiv hc hs K1 K2 K3 hl
  case irem => exact ig_irem hc hs K1 K2 K3 hl
  case dup => exact ig_dup hc hs K1 K2 K3 hl
  case pop => exact ig_pop hc hs K1 K2 K3 hl
  case lcmp => exact ig_lcmp hc hs K1 K2 K3 hl
  case goto => exact ig_goto hc hs K1 K2 K3 hl
  case ifnull => exact ig_ifnull hc hs K1 K2 K3 hl
  case ifnonnull => exact ig_ifnonnull hc hs K1 K2 K3 hl
  case tableswitch => exact ig_tsw hc hs K1 K2 K3 hl
  case lookupswitch => exact ig_lsw hc hs K1 K2 K3 hl
  case getfield => exact ig_getf hc hs K1 K2 K3 hl
  case putfield => exact ig_putf hc hs K1 K2 K3 hl
  case arraylength => exact ig_alen hc hs K1 K2 K3 hl
  case iaload => exact ig_iaload hc hs K1 K2 K3 hl
  case baload => exact ig_baload hc hs K1 K2 K3 hl
  case laload => exact ig_laload hc hs K1 K2 K3 hl
  case aaload => exact ig_aaload hc hs K1 K2 K3 hl
  case iastore => exact ig_iastore hc hs K1 K2 K3 hl
  case lastore => exact ig_lastore hc hs K1 K2 K3 hl
  case bastore => exact ig_bastore hc hs K1 K2 K3 hl
  case aastore => exact ig_aastore hc hs K1 K2 K3 hl
  case new => exact ig_new hc hs K1 K2 K3 hl
  case newarray => exact ig_newA hc hs K1 K2 K3 hl
  case anewarray => exact ig_newV hc hs K1 K2 K3 hl
  case invokespecial => exact ig_spec hc hs K1 K2 K3 hl
  case invokestatic => exact ig_stat hc hs K1 K2 K3 hl
  case invokevirtual => exact ig_virt hc hs K1 K2 K3 hl
  case ireturn => exact ig_ireturn hc hs K1 K2 K3 hl
  case areturn => exact ig_areturn hc hs K1 K2 K3 hl
  case return_ => exact ig_return_ hc hs K1 K2 K3 hl
  case ifCond cd off =>
    cases cd
    · exact ig_if_eq hc hs K1 K2 K3 hl
    · exact ig_if_ne hc hs K1 K2 K3 hl
    · exact ig_if_lt hc hs K1 K2 K3 hl
    · exact ig_if_ge hc hs K1 K2 K3 hl
    · exact ig_if_gt hc hs K1 K2 K3 hl
    · exact ig_if_le hc hs K1 K2 K3 hl
  case if_icmp cd off =>
    cases cd
    · exact ig_icmp_eq hc hs K1 K2 K3 hl
    · exact ig_icmp_ne hc hs K1 K2 K3 hl
    · exact ig_icmp_lt hc hs K1 K2 K3 hl
    · exact ig_icmp_ge hc hs K1 K2 K3 hl
    · exact ig_icmp_gt hc hs K1 K2 K3 hl
    · exact ig_icmp_le hc hs K1 K2 K3 hl
  all_goals exact (nomatch (show (none : Option iT) = some _ from hs))
end GO
