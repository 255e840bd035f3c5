/-! THE RUN, and what it gives: ca (a call), wp (from a place on). -/
def iC (j pc : Nat) : Option (Instr × Nat) := (((mC j)[pc / 64]?).getD []).lookup pc
def ipad (j : Nat) (as : List iV) : List iV := as ++ List.replicate (mL j - as.length) (vl 0)
noncomputable def ist (j pc : Nat) (i : Instr) (len : Nat) (ls st : List iV) (σ : iS) : Option iT := istep (pF (mO j)) (pM (mO j)) (pN (mO j)) (pV (mO j)) (mE j pc) (mR j) pc i len ls st σ
noncomputable def irun : Nat → Nat → Nat → List iV → List iV → iS → Option (iO × iS)
  | 0, _, _, _, _, _ => none
  | n + 1, j, pc, ls, st, σ => match iC j pc with
    | none => none
    | some (i, len) => match ist j pc i len ls st σ with
      | none => none
      | some (.inl (pc', ls', st', σ')) => irun n j pc' ls' st' σ'
      | some (.inr (.inl r)) => some r
      | some (.inr (.inr (j', as, rest))) => match irun n j' 0 (ipad j' as) [] σ with
        | none => none
        | some (.inl v, σ1) => irun n j (pc + len) ls (v.toList ++ rest) σ1
        | some (.inr (e, a), σ1) => match mH j pc e with
          | some h => irun n j h ls [vr a] σ1
          | none => if mHn j = true then some (.inr (e, a), σ1) else none
theorem irun_s (n : Nat) : ∀ (j pc : Nat) (ls st : List iV) (σ : iS) (r : iO × iS), irun n j pc ls st σ = some r → irun (n + 1) j pc ls st σ = some r := by
  induction n with
  | zero => intro j pc ls st σ r h; simp [irun] at h
  | succ n ih =>
    intro j pc ls st σ r h
    rw [irun] at h ⊢
    cases hc : iC j pc with
    | none => rw [hc] at h; cases h
    | some q =>
      obtain ⟨i, len⟩ := q
      rw [hc] at h
      (try dsimp only at h); (try dsimp only)
      cases hs : ist j pc i len ls st σ with
      | none => rw [hs] at h; cases h
      | some y =>
        rw [hs] at h
        (try dsimp only at h); (try dsimp only)
        rcases y with ⟨pc', ls', st', σ'⟩ | y | ⟨j', as, rest⟩
        · exact ih _ _ _ _ _ _ h
        · exact h
        · (try dsimp only at h); (try dsimp only)
          cases hr : irun n j' 0 (ipad j' as) [] σ with
          | none => rw [hr] at h; cases h
          | some z =>
            rw [hr] at h
            rw [ih _ _ _ _ _ _ hr]
            (try dsimp only at h); (try dsimp only)
            rcases z with ⟨v | ⟨e, a⟩, σ1⟩
            · exact ih _ _ _ _ _ _ h
            · (try dsimp only at h); (try dsimp only)
              cases hh : mH j pc e with
              | none => rw [hh] at h; exact h
              | some hp => rw [hh] at h; exact ih _ _ _ _ _ _ h
theorem irun_le {n m : Nat} (hm : n ≤ m) {j pc : Nat} {ls st : List iV} {σ : iS} {r : iO × iS} (h : irun n j pc ls st σ = some r) : irun m j pc ls st σ = some r := by
  induction hm with
  | refl => exact h
  | step _ ih => exact irun_s _ _ _ _ _ _ _ ih
def wp (j pc : Nat) (ls st : List iV) (σ : iS) (Q : iO → iS → Prop) : Prop := ∃ (n : Nat) (o : iO) (σ' : iS), irun n j pc ls st σ = some (o, σ') ∧ Q o σ'
def ca (j : Nat) (as : List iV) (σ : iS) (Q : iO → iS → Prop) : Prop := wp j 0 (ipad j as) [] σ Q
theorem wp_mono {j pc : Nat} {ls st : List iV} {σ : iS} {Q Q' : iO → iS → Prop} (h : wp j pc ls st σ Q) (hq : ∀ o σ', Q o σ' → Q' o σ') : wp j pc ls st σ Q' := by
  obtain ⟨n, o, σ', h1, h2⟩ := h
  exact ⟨n, o, σ', h1, hq _ _ h2⟩
theorem ca_mono {j : Nat} {as : List iV} {σ : iS} {Q Q' : iO → iS → Prop} (h : ca j as σ Q) (hq : ∀ o σ', Q o σ' → Q' o σ') : ca j as σ Q' := wp_mono h hq
section WP
variable {j pc : Nat} {ls st : List iV} {σ : iS} {Q : iO → iS → Prop} {i : Instr} {len : Nat}
theorem w_go {pc' : Nat} {ls' st' : List iV} {σ' : iS} (h : iC j pc = some (i, len)) (hs : ist j pc i len ls st σ = some (.inl (pc', ls', st', σ'))) (k : wp j pc' ls' st' σ' Q) : wp j pc ls st σ Q := by
  obtain ⟨n, o, τ, h1, h2⟩ := k
  exact ⟨n + 1, o, τ, by rw [irun, h]; dsimp only; rw [hs]; exact h1, h2⟩
theorem w_gd {c : Prop} {t : Option iT} {pc' : Nat} {ls' st' : List iV} {σ' : iS} (h : iC j pc = some (i, len)) (hs : ist j pc i len ls st σ = iG c t) (ht : t = some (.inl (pc', ls', st', σ'))) (hc : c) (k : wp j pc' ls' st' σ' Q) : wp j pc ls st σ Q := w_go h (by rw [hs, iG_t hc]; exact ht) k
theorem w_br {c : Prop} {t f : Option iT} {pc1 pc2 : Nat} {ls1 st1 ls2 st2 : List iV} {σ1 σ2 : iS} (h : iC j pc = some (i, len)) (hs : ist j pc i len ls st σ = iB c t f) (ht : t = some (.inl (pc1, ls1, st1, σ1))) (hf : f = some (.inl (pc2, ls2, st2, σ2))) (k1 : c → wp j pc1 ls1 st1 σ1 Q) (k2 : ¬ c → wp j pc2 ls2 st2 σ2 Q) : wp j pc ls st σ Q := by
  by_cases hc : c
  · exact w_go h (by rw [hs, iB_t hc]; exact ht) (k1 hc)
  · exact w_go h (by rw [hs, iB_f hc]; exact hf) (k2 hc)
theorem w_ret {r : iO × iS} (h : iC j pc = some (i, len)) (hs : ist j pc i len ls st σ = some (.inr (.inl r))) (k : Q r.1 r.2) : wp j pc ls st σ Q := ⟨1, r.1, r.2, by rw [irun, h]; dsimp only; rw [hs], k⟩
theorem w_retG {c : Prop} {t : Option iT} {r : iO × iS} (h : iC j pc = some (i, len)) (hs : ist j pc i len ls st σ = iG c t) (ht : t = some (.inr (.inl r))) (hc : c) (k : Q r.1 r.2) : wp j pc ls st σ Q := w_ret h (by rw [hs, iG_t hc]; exact ht) k
/-- what a caller makes of its callee's end -/
def w_K (j pc len : Nat) (ls rest : List iV) (Q : iO → iS → Prop) : iO → iS → Prop := fun o σ1 => match o with
  | .inl v => wp j (pc + len) ls (v.toList ++ rest) σ1 Q
  | .inr (e, a) => match mH j pc e with
    | some h => wp j h ls [vr a] σ1 Q
    | none => mHn j = true ∧ Q (.inr (e, a)) σ1
theorem w_call {j' : Nat} {as rest : List iV} (h : iC j pc = some (i, len)) (hs : ist j pc i len ls st σ = some (.inr (.inr (j', as, rest)))) (k : ca j' as σ (w_K j pc len ls rest Q)) : wp j pc ls st σ Q := by
  obtain ⟨n, o, τ, h1, h2⟩ := k
  rcases o with v | ⟨e, a⟩
  · obtain ⟨n2, o2, τ2, g1, g2⟩ := h2
    refine ⟨max n n2 + 1, o2, τ2, ?_, g2⟩
    rw [irun, h]; dsimp only; rw [hs]; dsimp only
    rw [irun_le (Nat.le_max_left n n2) h1]
    exact irun_le (Nat.le_max_right n n2) g1
  · dsimp only [w_K] at h2
    cases hh : mH j pc e with
    | none =>
      rw [hh] at h2
      refine ⟨n + 1, .inr (e, a), τ, ?_, h2.2⟩
      rw [irun, h]; dsimp only; rw [hs]; dsimp only
      rw [h1]; dsimp only; rw [hh]; dsimp only; rw [if_pos h2.1]
    | some hp =>
      rw [hh] at h2
      obtain ⟨n2, o2, τ2, g1, g2⟩ := h2
      refine ⟨max n n2 + 1, o2, τ2, ?_, g2⟩
      rw [irun, h]; dsimp only; rw [hs]; dsimp only
      rw [irun_le (Nat.le_max_left n n2) h1]; dsimp only; rw [hh]
      exact irun_le (Nat.le_max_right n n2) g1
theorem w_callG {c : Prop} {t : Option iT} {j' : Nat} {as rest : List iV} (h : iC j pc = some (i, len)) (hs : ist j pc i len ls st σ = iG c t) (ht : t = some (.inr (.inr (j', as, rest)))) (hc : c) (k : ca j' as σ (w_K j pc len ls rest Q)) : wp j pc ls st σ Q := w_call h (by rw [hs, iG_t hc]; exact ht) k
theorem w_ic {v : Int} {x : Int32} (h : iC j pc = some (.iconst v, len)) (hv : Int32.ofInt v = x) (k : wp j (pc + len) ls (vi x :: st) σ Q) : wp j pc ls st σ Q := by
  subst hv
  exact w_go h rfl k
theorem w_bp {v : Int} {x : Int32} (h : iC j pc = some (.bipush v, len)) (hv : (Int8.ofInt v).toInt32 = x) (k : wp j (pc + len) ls (vi x :: st) σ Q) : wp j pc ls st σ Q := by
  subst hv
  exact w_go h rfl k
theorem w_sp {v : Int} {x : Int32} (h : iC j pc = some (.sipush v, len)) (hv : (Int16.ofInt v).toInt32 = x) (k : wp j (pc + len) ls (vi x :: st) σ Q) : wp j pc ls st σ Q := by
  subst hv
  exact w_go h rfl k
theorem w_inc {v : Int} {n : Nat} {x y : Int32} (h : iC j pc = some (.iinc n v, len)) (hn : ls[n]? = some (vi x)) (hv : Int32.ofInt v = y) (k : wp j (pc + len) (ls.set n (vi (x + y))) st σ Q) : wp j pc ls st σ Q := by
  subst hv
  exact w_go h (by unfold ist istep; dsimp only; rw [hn]) k
theorem w_lc {x y : Int64} {rest : List iV} (h : iC j pc = some (.lcmp, len)) (hst : st = vl y :: vl x :: rest) (k1 : x = y → wp j (pc + len) ls (vi 0 :: rest) σ Q) (k2 : ¬ x = y → ∀ r : Int32, r ≠ 0 → wp j (pc + len) ls (vi r :: rest) σ Q) : wp j pc ls st σ Q := by
  subst hst
  by_cases hc : x = y
  · exact w_go h (iB_t hc) (k1 hc)
  · by_cases hd : x < y
    · exact w_go h ((iB_f hc).trans (iB_t hd)) (k2 hc (-1) (by decide))
    · exact w_go h ((iB_f hc).trans (iB_f hd)) (k2 hc 1 (by decide))
/-- a long comparison, then ifeq -/
theorem w_lcE {x y : Int64} {rest : List iV} {off : Int} {len2 : Nat} {pc1 : Nat} (h : iC j pc = some (.lcmp, len)) (hst : st = vl y :: vl x :: rest) (h2 : iC j (pc + len) = some (.ifCond .eq off, len2)) (hj : iJ (pc + len) off ls rest σ = some (.inl (pc1, ls, rest, σ))) (k1 : x = y → wp j pc1 ls rest σ Q) (k2 : ¬ x = y → wp j (pc + len + len2) ls rest σ Q) : wp j pc ls st σ Q :=
  w_lc h hst (fun c => w_go h2 ((iB_t rfl).trans hj) (k1 c)) (fun c r hr => w_go h2 (iB_f hr) (k2 c))
theorem w_lcN {x y : Int64} {rest : List iV} {off : Int} {len2 : Nat} {pc1 : Nat} (h : iC j pc = some (.lcmp, len)) (hst : st = vl y :: vl x :: rest) (h2 : iC j (pc + len) = some (.ifCond .ne off, len2)) (hj : iJ (pc + len) off ls rest σ = some (.inl (pc1, ls, rest, σ))) (k1 : x = y → wp j (pc + len + len2) ls rest σ Q) (k2 : ¬ x = y → wp j pc1 ls rest σ Q) : wp j pc ls st σ Q :=
  w_lc h hst (fun c => w_go h2 (iB_f (fun q => q rfl)) (k1 c)) (fun c r hr => w_go h2 ((iB_t hr).trans hj) (k2 c))
theorem w_tbI {d lo hi off : Int} {offs : Array Int} {x : Int32} {rest : List iV} {pc1 : Nat} (h : iC j pc = some (.tableswitch d lo hi offs, len)) (h1 : ¬ x.toInt < lo) (h2 : ¬ hi < x.toInt) (ho : offs[(x.toInt - lo).toNat]? = some off) (hj : iJ pc off ls rest σ = some (.inl (pc1, ls, rest, σ))) (k : wp j pc1 ls rest σ Q) : wp j pc ls (vi x :: rest) σ Q :=
  w_go h ((iB_f (fun q => q.elim h1 h2)).trans (by rw [ho]; exact hj)) k
theorem w_tbO {d lo hi : Int} {offs : Array Int} {x : Int32} {rest : List iV} {pc1 : Nat} (h : iC j pc = some (.tableswitch d lo hi offs, len)) (h1 : x.toInt < lo ∨ hi < x.toInt) (hj : iJ pc d ls rest σ = some (.inl (pc1, ls, rest, σ))) (k : wp j pc1 ls rest σ Q) : wp j pc ls (vi x :: rest) σ Q :=
  w_go h ((iB_t h1).trans hj) k
theorem w_lk {d : Int} {ps : Array (Int × Int)} {x : Int32} {rest : List iV} {tgt : Nat} (h : iC j pc = some (.lookupswitch d ps, len)) (hp : (ps.toList.zip (ps.toList.drop 1)).all (fun (a, next) => a.1 < next.1) = true) (ho : (pc : Int) + Op.lookupswitch.offset ps.toList d x.toInt = (tgt : Int)) (k : wp j tgt ls rest σ Q) : wp j pc ls (vi x :: rest) σ Q :=
  w_go h ((iG_t hp).trans (by unfold iJ; rw [ho])) k
/-- a callee's end that is an int, a reference, nothing; what is thrown goes on -/
abbrev cI (f : Int32 → iS → Prop) (Q : iO → iS → Prop) : iO → iS → Prop := fun o σ1 => match o with
  | .inl (some (.inl r)) => f r σ1
  | .inr ea => Q (.inr ea) σ1
  | _ => False
abbrev cA (f : Nat → iS → Prop) (Q : iO → iS → Prop) : iO → iS → Prop := fun o σ1 => match o with
  | .inl (some (.inr (.inl r))) => f r σ1
  | .inr ea => Q (.inr ea) σ1
  | _ => False
abbrev cV (f : iS → Prop) (Q : iO → iS → Prop) : iO → iS → Prop := fun o σ1 => match o with
  | .inl none => f σ1
  | .inr ea => Q (.inr ea) σ1
  | _ => False
abbrev hI (f : Int32 → iS → Prop) (g : Nat → Nat → iS → Prop) : iO → iS → Prop := fun o σ1 => match o with
  | .inl (some (.inl r)) => f r σ1
  | .inr (e, a) => g e a σ1
  | _ => False
abbrev hV (f : iS → Prop) (g : Nat → Nat → iS → Prop) : iO → iS → Prop := fun o σ1 => match o with
  | .inl none => f σ1
  | .inr (e, a) => g e a σ1
  | _ => False
variable {c : Prop} {t : Option iT} {j' : Nat} {as rest : List iV}
theorem w_cI {f : Int32 → iS → Prop} (h : iC j pc = some (i, len)) (hs : ist j pc i len ls st σ = iG c t) (ht : t = some (.inr (.inr (j', as, rest)))) (hc : c) (hz : mHn j = true) (hh : ∀ e, mH j pc e = none) (k : ca j' as σ (cI f Q)) (kf : ∀ r σ1, f r σ1 → wp j (pc + len) ls (vi r :: rest) σ1 Q) : wp j pc ls st σ Q :=
  w_callG h hs ht hc (ca_mono k (fun o σ1 hq => by
    match o, hq with
    | .inl (some (.inl r)), hq => exact kf r σ1 hq
    | .inr (e, a), hq => dsimp only [w_K]; rw [hh e]; exact ⟨hz, hq⟩))
theorem w_cA {f : Nat → iS → Prop} (h : iC j pc = some (i, len)) (hs : ist j pc i len ls st σ = iG c t) (ht : t = some (.inr (.inr (j', as, rest)))) (hc : c) (hz : mHn j = true) (hh : ∀ e, mH j pc e = none) (k : ca j' as σ (cA f Q)) (kf : ∀ r σ1, f r σ1 → wp j (pc + len) ls (vr r :: rest) σ1 Q) : wp j pc ls st σ Q :=
  w_callG h hs ht hc (ca_mono k (fun o σ1 hq => by
    match o, hq with
    | .inl (some (.inr (.inl r))), hq => exact kf r σ1 hq
    | .inr (e, a), hq => dsimp only [w_K]; rw [hh e]; exact ⟨hz, hq⟩))
theorem w_cV {f : iS → Prop} (h : iC j pc = some (i, len)) (hs : ist j pc i len ls st σ = iG c t) (ht : t = some (.inr (.inr (j', as, rest)))) (hc : c) (hz : mHn j = true) (hh : ∀ e, mH j pc e = none) (k : ca j' as σ (cV f Q)) (kf : ∀ σ1, f σ1 → wp j (pc + len) ls rest σ1 Q) : wp j pc ls st σ Q :=
  w_callG h hs ht hc (ca_mono k (fun o σ1 hq => by
    match o, hq with
    | .inl none, hq => exact kf σ1 hq
    | .inr (e, a), hq => dsimp only [w_K]; rw [hh e]; exact ⟨hz, hq⟩))
theorem w_hI {f : Int32 → iS → Prop} {g : Nat → Nat → iS → Prop} (h : iC j pc = some (i, len)) (hs : ist j pc i len ls st σ = iG c t) (ht : t = some (.inr (.inr (j', as, rest)))) (hc : c) (k : ca j' as σ (hI f g)) (kf : ∀ r σ1, f r σ1 → wp j (pc + len) ls (vi r :: rest) σ1 Q) (kg : ∀ e a σ1, g e a σ1 → w_K j pc len ls rest Q (.inr (e, a)) σ1) : wp j pc ls st σ Q :=
  w_callG h hs ht hc (ca_mono k (fun o σ1 hq => by
    match o, hq with
    | .inl (some (.inl r)), hq => exact kf r σ1 hq
    | .inr (e, a), hq => exact kg e a σ1 hq))
theorem w_hV {f : iS → Prop} {g : Nat → Nat → iS → Prop} (h : iC j pc = some (i, len)) (hs : ist j pc i len ls st σ = iG c t) (ht : t = some (.inr (.inr (j', as, rest)))) (hc : c) (k : ca j' as σ (hV f g)) (kf : ∀ σ1, f σ1 → wp j (pc + len) ls rest σ1 Q) (kg : ∀ e a σ1, g e a σ1 → w_K j pc len ls rest Q (.inr (e, a)) σ1) : wp j pc ls st σ Q :=
  w_callG h hs ht hc (ca_mono k (fun o σ1 hq => by
    match o, hq with
    | .inl none, hq => exact kf σ1 hq
    | .inr (e, a), hq => exact kg e a σ1 hq))
/-- one catch (of number 1), two catches (of 1 and 2) -/
theorem b_h1 {e a p1 : Nat} (h1 : mH j pc 1 = some p1) (k : (e = 1 → wp j p1 ls [vr a] σ Q) ∧ (e = 1)) : w_K j pc len ls rest Q (.inr (e, a)) σ := by
  obtain ⟨k1, rfl⟩ := k
  dsimp only [w_K]
  rw [h1]
  exact k1 rfl
theorem b_h2 {e a p1 p2 : Nat} (h1 : mH j pc 1 = some p1) (h2 : mH j pc 2 = some p2) (k : (e = 1 → wp j p1 ls [vr a] σ Q) ∧ (e = 2 → wp j p2 ls [vr a] σ Q) ∧ (e = 1 ∨ e = 2)) : w_K j pc len ls rest Q (.inr (e, a)) σ := by
  obtain ⟨k1, k2, rfl | rfl⟩ := k
  · dsimp only [w_K]; rw [h1]; exact k1 rfl
  · dsimp only [w_K]; rw [h2]; exact k2 rfl
end WP
