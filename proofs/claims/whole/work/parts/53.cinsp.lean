/-! LAYER 2: a pass of the class over a text. -/
/-- what a pass leaves alone -/
def st0 (σ σ' : iS) (X : Nat) : Prop := (sR σ' = sR σ ∧ sB σ' = sB σ ∧ sK σ' = sK σ ∧ sN σ' = sN σ ∧ sX σ' = sX σ ∧ sS σ' = sS σ) ∧ (∀ f b, (f < 134 ∨ 137 < f) → sI σ' f b = sI σ f b) ∧ (∀ f b, fo X b → sI σ' f b = sI σ f b) ∧ ∀ b k, b ≠ X + 4 → b ≠ X + 5 → sA σ' b k = sA σ b k
section ST
variable {σ τ τ' : iS} {X : Nat}
theorem st0_0 : st0 σ σ X := ⟨⟨rfl, rfl, rfl, rfl, rfl, rfl⟩, fun _ _ _ => rfl, fun _ _ _ => rfl, fun _ _ _ _ => rfl⟩
theorem st0_t (h : st0 σ τ X) (h' : st0 τ τ' X) : st0 σ τ' X := by
  obtain ⟨⟨a1, a2, a3, a4, a5, a6⟩, a7, a8, a9⟩ := h
  obtain ⟨⟨b1, b2, b3, b4, b5, b6⟩, b7, b8, b9⟩ := h'
  exact ⟨⟨b1.trans a1, b2.trans a2, b3.trans a3, b4.trans a4, b5.trans a5, b6.trans a6⟩, fun f b h => (b7 f b h).trans (a7 f b h), fun f b h => (b8 f b h).trans (a8 f b h), fun b k h1 h2 => (b9 b k h1 h2).trans (a9 b k h1 h2)⟩
theorem st0_I {f b : Nat} {x : Int32} (hf : 134 ≤ f ∧ f ≤ 137) (hb : ¬ fo X b) : st0 τ (wI τ f b x) X :=
  ⟨⟨rfl, rfl, rfl, rfl, rfl, rfl⟩, fun g a h => wI_n (fun q => by omega), fun g a h => wI_n (fun q => hb (q.2 ▸ h)), fun _ _ _ _ => rfl⟩
theorem st0_A {b k : Nat} {x : Int32} (hb : b = X + 4 ∨ b = X + 5) : st0 τ (wA τ b k x) X :=
  ⟨⟨rfl, rfl, rfl, rfl, rfl, rfl⟩, fun _ _ _ => rfl, fun _ _ _ => rfl, fun a i h1 h2 => if_neg (fun q => by omega)⟩
theorem st0_V {b : Nat} {x : Nat → Int32} (hb : b = X + 4 ∨ b = X + 5) : st0 τ (wV τ b x) X :=
  ⟨⟨rfl, rfl, rfl, rfl, rfl, rfl⟩, fun _ _ _ => rfl, fun _ _ _ => rfl, fun a i h1 h2 => wV_o (fun q => by omega) i⟩
theorem wA_f {b i : Nat} {x : Int32} : sA (wA τ b i x) b = u1 (sA τ b) i x := by
  funext k
  unfold u1
  by_cases h : k = i
  · subst h; rw [if_pos rfl]; exact wA_s
  · rw [if_neg h]; exact wA_k h
theorem wA_fo {a b i : Nat} {x : Int32} (h : a ≠ b) : sA (wA τ b i x) a = sA τ a := funext (fun _ => wA_o h)
theorem wV_f {b : Nat} {x : Nat → Int32} : sA (wV τ b x) b = x := funext (fun k => wV_A τ b x k)
theorem wV_fo {a b : Nat} {x : Nat → Int32} (h : a ≠ b) : sA (wV τ b x) a = sA τ a := funext (fun k => wV_o h k)
end ST
def tY (σ : iS) (X a n : Nat) (f : Nat → Int32) : Prop := tX σ a n f ∧ X + 41 < sR σ 64 a
def tOY (σ : iS) (X b : Nat) (o : Bool) (m : Nat) (g : Nat → Int32) : Prop := (o = false → b = 0) ∧ (o = true → b ≠ 0 ∧ tY σ X b m g)
/-- what the class's phrase at a says -/
def phC (σ : iS) (X a : Nat) (q : phD) (n : Nat) (f : Nat → Int32) : Prop :=
  (X + 41 < a ∧ sK σ a = 4 ∧ sI σ 128 a = nI (kdD q) ∧ kdD q < 4 ∧ sI σ 133 a = nI (wD q) ∧ 1 ≤ wD q ∧ wD q ≤ 60) ∧ (kdD q = 0 → sR σ 129 a = 0) ∧ (kdD q ≠ 0 → sR σ 129 a ≠ 0 ∧ tY σ X (sR σ 129 a) (wD q) (pgD q)) ∧
  (rpD q = false → sR σ 131 a = 0 ∧ sI σ 130 a = nI (tqD q) ∧ tqD q < 10) ∧ (rpD q = true → sR σ 131 a ≠ 0 ∧ tY σ X (sR σ 131 a) (wD q) (ppD q)) ∧ sK σ (sR σ 132 a) = 3 ∧
  (∃ o n' g, tOY σ X (sR σ 96 (sR σ 132 a)) o n' g ∧ beD q = rb f n o g n') ∧ ∃ o n' g, tOY σ X (sR σ 97 (sR σ 132 a)) o n' g ∧ enD q = re f n o g n'
section IN
variable {σ σ' : iS} {X : Nat} {Q : iO → iS → Prop} {a t n : Nat} {f : Nat → Int32} {q : phD}
theorem tY_s (h : tY σ X a n f) (hq : st0 σ σ' X) : tX σ' a n f := by
  unfold tX
  rw [hq.1.1, hq.1.2.2.1, hq.1.2.2.2.1]
  exact ⟨h.1.1, h.1.2.1, h.1.2.2.1, h.1.2.2.2.1, fun k hk => by rw [hq.2.2.2 _ _ (by have := h.2; omega) (by have := h.2; omega)]; exact h.1.2.2.2.2 k hk⟩
theorem tOY_s {b : Nat} {o : Bool} (h : tOY σ X b o n f) (hq : st0 σ σ' X) : tO σ' b o n f := ⟨h.1, fun e => ⟨(h.2 e).1, tY_s (h.2 e).2 hq⟩⟩
theorem i_start (hp : phC σ X a q n f) (ht : tY σ X t n f) (hq : st0 σ σ' X) (h : Q (.inl none) (wI (wI (wI σ' 134 a (nI (beD q))) 135 a (nI (enD q))) 136 a (nI (beD q)))) : ca J_Phrase_startIn [vr a, vr t] σ' Q := by
  obtain ⟨⟨h1, h2, h3, h4, h5, h6, h7⟩, h8, h9, h10, h11, h12, ⟨o1, n1, g1, h13, h14⟩, o2, n2, g2, h15, h16⟩ := hp
  have hf : ¬ fo X a := fo_n (by omega)
  have k4 : sK σ' a = 4 := by rw [hq.1.2.2.1]; exact h2
  have k3 : sK σ' (sR σ 132 a) = 3 := by rw [hq.1.2.2.1]; exact h12
  have t1 := tOY_s h13 hq
  refine b_Phrase_startIn_0 ⟨k4, ?_⟩
  rw [hq.1.1]
  refine ⟨k3, g_begin k3 (tY_s ht hq) (by rw [hq.1.1]; exact t1) ⟨k4, fun σ2 e2 => ?_⟩⟩
  have q2 : st0 σ σ2 X := by rw [e2]; exact st0_t hq (st0_I (by decide) hf)
  have k32 : sK σ2 (sR σ 132 a) = 3 := by rw [q2.1.2.2.1]; exact h12
  have k42 : sK σ2 a = 4 := by rw [q2.1.2.2.1]; exact h2
  have t2 := tOY_s h15 q2
  rw [q2.1.1]
  refine ⟨k42, k32, g_end k32 (tY_s ht q2) (by rw [q2.1.1]; exact t2) ⟨k42, fun σ4 e4 => ?_⟩⟩
  have k44 : sK σ4 a = 4 := by rw [e4, pI_K]; exact k42
  have i4 : sI σ4 134 a = nI (beD q) := by rw [e4, wI_o (by decide), e2, wI_s, h14]
  rw [i4]
  refine ⟨k44, k44, fun σ5 e5 => ?_⟩
  rw [e5, e4, e2, ← h14, ← h16]
  exact h
theorem i_match (hp : phC σ X a q n f) (ht : tY σ X t n f) (hq : st0 σ σ' X) {ld pl : Nat} {dn : Bool} (h134 : sI σ' 134 a = nI (beD q)) (h135 : sI σ' 135 a = nI (enD q)) (h136 : sI σ' 136 a = nI ld) (h137 : sI σ' 137 a = bI dn) (hpl : pl < n) (hld : ld ≤ 120) (h : Q (.inl (some (vi (bP (mtQ q f ld dn pl))))) σ') : ca J_Phrase_matches [vr a, vr t, vi (nI pl)] σ' Q := by
  obtain ⟨⟨h1, h2, h3, h4, h5, h6, h7⟩, h8, h9, h10, h11, h12, ⟨o1, n1, g1, h13, h14⟩, o2, n2, g2, h15, h16⟩ := hp
  have hn := ht.1.2.2.2.1
  have hbe : beD q ≤ n := by rw [h14]; exact rb_le _ _ _ _ _
  have hen : enD q ≤ n := by rw [h16]; exact re_le _ _ _ _ _
  have k4 : sK σ' a = 4 := by rw [hq.1.2.2.1]; exact h2
  have i128 : sI σ' 128 a = nI (kdD q) := by rw [hq.2.1 _ _ (by decide)]; exact h3
  have i133 : sI σ' 133 a = nI (wD q) := by rw [hq.2.1 _ _ (by decide)]; exact h5
  have no : ¬ mtQ q f ld dn pl → Q (.inl (some (vi 0))) σ' := fun c => by rw [bP_f c] at h; exact h
  have yes : mtQ q f ld dn pl → wp J_Phrase_matches 77 [vr a, vr t, vi (nI pl)] [] σ' Q := fun c => by
    rw [bP_t c] at h
    exact b_Phrase_matches_77 (b_Phrase_matches_82 ⟨Or.inr rfl, h⟩)
  have s3 : beD q ≤ pl → pl + wD q ≤ enD q → (kdD q = 2 → ld = pl) → (kdD q = 3 → dn = false) → wp J_Phrase_matches 58 [vr a, vr t, vi (nI pl)] [] σ' Q := by
    intro c1 c2 c3 c4
    refine b_Phrase_matches_58 ⟨k4, ?_⟩
    rw [hq.1.1]
    refine ⟨fun c => yes ⟨c1, c2, c3, c4, fun e => absurd c (h9 e).1⟩, fun c => ⟨k4, (tY_s ht hq).1, ?_⟩⟩
    have e : kdD q ≠ 0 := fun e => c (h8 e)
    refine t_holds (tY_s ht hq) (tY_s (h9 e).2 hq) (by omega) ⟨fun c5 => b_Phrase_matches_82 ⟨Or.inl rfl, no (fun w => ?_)⟩, fun c5 => yes ⟨c1, c2, c3, c4, fun _ => ?_⟩⟩
    · rw [bP_0] at c5
      exact c5 ⟨by omega, w.2.2.2.2 e⟩
    · rw [bP_0] at c5
      exact (Classical.not_not.mp c5).2
  have s2 : beD q ≤ pl → pl + wD q ≤ enD q → (kdD q = 2 → ld = pl) → wp J_Phrase_matches 41 [vr a, vr t, vi (nI pl)] [] σ' Q := by
    intro c1 c2 c3
    refine b_Phrase_matches_41 ⟨k4, ?_⟩
    rw [i128, h137]
    refine ⟨fun c => s3 c1 c2 c3 (fun e => absurd (by rw [e]; rfl) c), fun c => ⟨k4, fun c4 => s3 c1 c2 c3 (fun _ => ?_), fun c4 => ⟨Or.inl rfl, no (fun w => c4 ?_)⟩⟩⟩
    · cases dn with
      | false => rfl
      | true => exact absurd c4 (by decide)
    · have c := Classical.not_not.mp c
      rw [lit_3, n_eq (by omega) (by decide)] at c
      rw [w.2.2.2.1 c]
      rfl
  refine b_Phrase_matches_0 ⟨k4, ?_⟩
  rw [h134, h135, h136, i128, i133, nI_add, n_lt (by omega) (by omega), n_le (by omega) (by omega), n_eq (by omega) (by omega)]
  refine ⟨fun c => b_Phrase_matches_21 ⟨Or.inl rfl, no (fun w => by have := w.1; omega)⟩, fun c1 => ⟨k4, k4, fun c2 => ⟨k4, fun c3 => s2 (by omega) c2 (fun e => absurd (by rw [e]; rfl) c3), fun c3 => ⟨k4, fun c4 => s2 (by omega) c2 (fun _ => c4.symm), fun c4 => ⟨Or.inl rfl, no (fun w => c4 ?_)⟩⟩⟩, fun c2 => b_Phrase_matches_21 ⟨Or.inl rfl, no (fun w => c2 w.2.1)⟩⟩⟩
  have c3 := Classical.not_not.mp c3
  rw [lit_2, n_eq (by omega) (by decide)] at c3
  exact (w.2.2.1 c3).symm
/-- the phrases' marks in a pass -/
def phF (σ σ' : iS) (X : Nat) (B : Nat → phD) (P : Nat) (rep : Bool) (ld : Nat → Nat) (dn : Nat → Bool) : Prop :=
  ∀ p, p < P → sI σ' 134 (sB σ (X + 3) p) = nI (beD (B p)) ∧ sI σ' 135 (sB σ (X + 3) p) = nI (enD (B p)) ∧ (rpD (B p) = rep → sI σ' 136 (sB σ (X + 3) p) = nI (ld p) ∧ sI σ' 137 (sB σ (X + 3) p) = bI (dn p)) ∧ (rpD (B p) ≠ rep → sI σ' 137 (sB σ (X + 3) p) = sI σ 137 (sB σ (X + 3) p))
variable {B : Nat → phD} {P : Nat} {rep : Bool} {ld : Nat → Nat} {dn : Nat → Bool}
theorem i_first (hs : sh σ X) (hP : sI σ 161 (X + 2) = nI P) (hP2 : P ≤ 20) (hC : ∀ p, p < P → phC σ X (sB σ (X + 3) p) (B p) n f) (ht : tY σ X t n f) (hq : st0 σ σ' X) (hF : phF σ σ' X B P rep ld dn) {pl : Nat} (hpl : pl < n) (hld : ∀ p, p < P → ld p ≤ 120) (h0 : lf (mtP B f rep ld dn pl) P 0 = P → Q (.inl (some (vr 0))) σ') (h1 : ∀ p, p < P → lf (mtP B f rep ld dn pl) P 0 = p → mtP B f rep ld dn pl p → Q (.inl (some (vr (sB σ (X + 3) p)))) σ') : ca J_Inspection_firstMatch [vr (X + 2), vr t, vi (nI pl), vi (bI rep)] σ' Q := by
  have k2 : sK σ' (X + 2) = 5 := by rw [hq.1.2.2.1]; exact sh_k2 hs
  have i161 : sI σ' 161 (X + 2) = nI P := by rw [hq.2.1 _ _ (by decide)]; exact hP
  have L : ∀ d p, p + d = P → lf (mtP B f rep ld dn pl) P 0 = lf (mtP B f rep ld dn pl) d p → ∀ l5 : iV, wp J_Inspection_firstMatch 3 [vr (X + 2), vr t, vi (nI pl), vi (bI rep), vi (nI p), l5] [] σ' Q := by
    intro d
    induction d with
    | zero =>
      intro p hp hl l5
      refine b_Inspection_firstMatch_3 ⟨k2, ?_⟩
      rw [i161, n_le (by omega) (by omega)]
      refine ⟨fun _ => h0 ?_, fun c => by omega⟩
      rw [hl, lf_0]; omega
    | succ d ih =>
      intro p hp hl l5
      refine b_Inspection_firstMatch_3 ⟨k2, ?_⟩
      obtain ⟨f1, f2, f3, f4⟩ := hF p (by omega)
      have C := hC p (by omega)
      have k4 : sK σ' (sB σ (X + 3) p) = 4 := by rw [hq.1.2.2.1]; exact C.1.2.1
      rw [i161, n_le (by omega) (by omega), hq.1.1, e_160 hs, hq.1.2.1, nI_clamp (by omega)]
      have skip : ¬ mtP B f rep ld dn pl p → wp J_Inspection_firstMatch 43 [vr (X + 2), vr t, vi (nI pl), vi (bI rep), vi (nI p), vr (sB σ (X + 3) p)] [] σ' Q := fun c => by
        refine b_Inspection_firstMatch_43 ?_
        rw [n_s1]
        refine ih (p + 1) (by omega) ?_ _
        rw [hl, lf_f c]
      have rest : ∀ r2 : Int32, r2 = bI (rpD (B p)) → (r2 ≠ bI rep → wp J_Inspection_firstMatch 43 [vr (X + 2), vr t, vi (nI pl), vi (bI rep), vi (nI p), vr (sB σ (X + 3) p)] [] σ' Q) ∧ (¬ (r2 ≠ bI rep) → sK σ' (sB σ (X + 3) p) = 4 ∧ ca J_Phrase_matches [vr (sB σ (X + 3) p), vr t, vi (nI pl)] σ' (cI (fun r4 σ4 => (r4 = 0 → wp J_Inspection_firstMatch 43 [vr (X + 2), vr t, vi (nI pl), vi (bI rep), vi (nI p), vr (sB σ (X + 3) p)] [] σ4 Q) ∧ (¬ (r4 = 0) → Q (.inl (some (vr (sB σ (X + 3) p)))) σ4)) Q)) := by
        intro r2 hr
        subst hr
        by_cases er : rpD (B p) = rep
        · refine ⟨fun c => absurd (by rw [er]) c, fun _ => ⟨k4, i_match C ht hq f1 f2 (f3 er).1 (f3 er).2 hpl (hld p (by omega)) ⟨fun c => skip (fun w => ?_), fun c => ?_⟩⟩⟩
          · rw [bP_0] at c
            exact c w.2
          · rw [bP_0] at c
            have w : mtP B f rep ld dn pl p := ⟨er, Classical.not_not.mp c⟩
            refine h1 p (by omega) ?_ w
            rw [hl, lf_t w]
        · refine ⟨fun _ => skip (fun w => er w.1), fun c => ?_⟩
          have c := Classical.not_not.mp c
          exfalso
          revert er c
          cases rpD (B p) <;> cases rep <;> decide
      refine ⟨fun c => by omega, fun _ => ⟨k2, ⟨?_, ?_⟩, k4, b_Phrase_isReplacing_0 ⟨k4, ?_⟩⟩⟩
      · rw [hq.1.2.2.1, sh_k3 hs]; decide
      · rw [hq.1.2.2.2.1, sh_n3 hs]; exact n_in (by omega) (by decide)
      · rw [hq.1.1]
        cases er : rpD (B p) with
        | false => exact ⟨fun _ => b_Phrase_isReplacing_12 ⟨Or.inl rfl, rest 0 (by rw [er]; rfl)⟩, fun c => absurd (C.2.2.2.1 er).1 c⟩
        | true => exact ⟨fun c => absurd c (C.2.2.2.2.1 er).1, fun _ => b_Phrase_isReplacing_12 ⟨Or.inr rfl, rest 1 (by rw [er]; rfl)⟩⟩
  exact b_Inspection_firstMatch_0 (L P 0 (by omega) rfl _)
theorem i_act0 (hs : sh σ X) (hp : phC σ X a q n f) (hq : st0 σ σ' X) (hr : rpD q = false) {x : Int32} (h : Q (.inl none) (wA σ' (X + 4) (tqD q) (sA σ' (X + 4) (tqD q) + 1))) : ca J_Inspection_act [vr (X + 2), vr a, vi x] σ' Q := by
  obtain ⟨r1, r2, r3⟩ := hp.2.2.2.1 hr
  have k4 : sK σ' a = 4 := by rw [hq.1.2.2.1]; exact hp.1.2.1
  have k2 : sK σ' (X + 2) = 5 := by rw [hq.1.2.2.1]; exact sh_k2 hs
  have i130 : sI σ' 130 a = nI (tqD q) := by rw [hq.2.1 _ _ (by decide)]; exact r2
  refine b_Inspection_act_0 ⟨k4, ?_⟩
  rw [hq.1.1, i130, e_162 hs, hq.1.2.2.1, hq.1.2.2.2.1, sh_k4 hs, sh_n4 hs, nI_clamp (by omega)]
  refine ⟨fun c => absurd r1 c, fun _ => ⟨sh_k2 hs, hp.1.2.1, ⟨rfl, n_in (by omega) (by decide)⟩, ⟨rfl, n_in (by omega) (by decide)⟩, fun σ2 e2 => ?_⟩⟩
  subst e2
  exact h
theorem i_act1 (hs : sh σ X) (hp : phC σ X a q n f) (hq : st0 σ σ' X) (hr : rpD q = true) {pl : Nat} (hw : pl + wD q ≤ 60) (h : Q (.inl none) (wV σ' (X + 5) (pt (sA σ' (X + 5)) pl (wD q) (ppD q)))) : ca J_Inspection_act [vr (X + 2), vr a, vi (nI pl)] σ' Q := by
  obtain ⟨r1, r2⟩ := hp.2.2.2.2.1 hr
  have k2 : ∀ g, sK (wV σ' (X + 5) g) (X + 2) = 5 := fun g => by show sK σ' (X + 2) = 5; rw [hq.1.2.2.1]; exact sh_k2 hs
  have k4 : ∀ g, sK (wV σ' (X + 5) g) a = 4 := fun g => by show sK σ' a = 4; rw [hq.1.2.2.1]; exact hp.1.2.1
  have i133 : ∀ g, sI (wV σ' (X + 5) g) 133 a = nI (wD q) := fun g => by show sI σ' 133 a = _; rw [hq.2.1 _ _ (by decide)]; exact hp.1.2.2.2.2.1
  have r131 : ∀ g, sR (wV σ' (X + 5) g) 131 a = sR σ 131 a := fun g => by show sR σ' 131 a = _; rw [hq.1.1]
  have r163 : ∀ g, sR (wV σ' (X + 5) g) 163 (X + 2) = X + 5 := fun g => by show sR σ' 163 (X + 2) = _; rw [hq.1.1]; exact e_163 hs
  have k5 : ∀ g, sK (wV σ' (X + 5) g) (X + 5) = 101 := fun g => by show sK σ' (X + 5) = 101; rw [hq.1.2.2.1]; exact sh_k5 hs
  have n5 : ∀ g, sN (wV σ' (X + 5) g) (X + 5) = 60 := fun g => by show sN σ' (X + 5) = 60; rw [hq.1.2.2.2.1]; exact sh_n5 hs
  have L : ∀ d k, k + d = wD q → wp J_Inspection_act 23 [vr (X + 2), vr a, vi (nI pl), vi (nI k)] [] (wV σ' (X + 5) (pt (sA σ' (X + 5)) pl k (ppD q))) Q := by
    intro d
    induction d with
    | zero =>
      intro k hk
      have hk : k = wD q := by omega
      subst hk
      refine b_Inspection_act_23 ⟨k4 _, ?_⟩
      rw [i133, n_le (by omega) (by omega)]
      exact ⟨fun _ => h, fun c => by omega⟩
    | succ d ih =>
      intro k hk
      have tt := tY_s r2 (st0_t hq (st0_V (b := X + 5) (x := pt (sA σ' (X + 5)) pl k (ppD q)) (Or.inr rfl)))
      refine b_Inspection_act_23 ⟨k4 _, ?_⟩
      rw [i133, n_le (by omega) (by omega), r131, r163, k5, n5, tt.2.2.1, tt.2.1, nI_add, nI_clamp (by omega), nI_clamp (by omega), tt.2.2.2.2 k (by omega), wV_w, n_s1]
      refine ⟨fun c => by omega, fun _ => ⟨k2 _, k4 _, tt.1, ⟨rfl, n_in (by omega) (by omega)⟩, ⟨rfl, n_in (by omega) (by decide)⟩, fun σ2 e2 => ?_⟩⟩
      subst e2
      have e : wV σ' (X + 5) (fun j => if j = pl + k then ppD q k else pt (sA σ' (X + 5)) pl k (ppD q) j) = wV σ' (X + 5) (pt (sA σ' (X + 5)) pl (k + 1) (ppD q)) := by
        refine wV_c (fun j => ?_)
        unfold pt
        by_cases e1 : j = pl + k
        · rw [if_pos e1, if_pos ⟨by omega, by omega⟩, show j - pl = k by omega]
        · rw [if_neg e1]
          by_cases e2 : pl ≤ j ∧ j < pl + k
          · rw [if_pos e2, if_pos ⟨by omega, by omega⟩]
          · rw [if_neg e2, if_neg (fun w => by omega)]
      rw [e]
      exact ih (k + 1) (by omega)
  refine b_Inspection_act_0 ⟨by rw [hq.1.2.2.1]; exact hp.1.2.1, ?_⟩
  rw [hq.1.1]
  refine ⟨fun _ => ?_, fun c => absurd r1 c⟩
  have h0 := L (wD q) 0 (by omega)
  have e : wV σ' (X + 5) (pt (sA σ' (X + 5)) pl 0 (ppD q)) = σ' := by
    have e0 : pt (sA σ' (X + 5)) pl 0 (ppD q) = sA σ' (X + 5) := funext (fun k => if_neg (fun w => by omega))
    rw [e0, wV_s]
  rw [e] at h0
  exact h0
end IN
