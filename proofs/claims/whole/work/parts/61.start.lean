/-! THE START: what the constructors make. -/
/-- what lies from X on: kinds l, lengths ln, references r, objects ob with zero ints, arrays ar of zeros, null references zl, set ints js -/
def zI (σ0 σ : iS) (X c w : Nat) (l ln : List (Nat × Nat)) (r : List (Nat × Nat × Nat)) (ob ar : List Nat) (zl : List (Nat × Nat)) (js : List (Nat × Nat × Int32)) : Prop :=
  sX σ = X + c ∧ sS σ = w ∧ (∀ q ∈ l, q.1 < c ∧ sK σ (X + q.1) = q.2) ∧ (∀ q ∈ ln, q.1 < c ∧ sN σ (X + q.1) = q.2) ∧ (∀ q ∈ r, q.2.1 < c ∧ sR σ q.1 (X + q.2.1) = X + q.2.2) ∧ (∀ i ∈ ob, i < c ∧ ∀ f, f ≠ 325 → f ≠ 326 → sI σ f (X + i) = 0) ∧ (∀ i ∈ ar, i < c ∧ ∀ k, sA σ (X + i) k = 0) ∧ (∀ q ∈ zl, q.2 < c ∧ sR σ q.1 (X + q.2) = 0) ∧ (∀ q ∈ js, q.2.1 < c ∧ sI σ q.1 (X + q.2.1) = q.2.2) ∧ ∀ a, a < X → sK σ a = sK σ0 a ∧ sN σ a = sN σ0 a ∧ ∀ k, sA σ a k = sA σ0 a k
section ZI
variable {σ0 σ : iS} {X c w c' w' : Nat} {l ln : List (Nat × Nat)} {r : List (Nat × Nat × Nat)} {ob ar : List Nat} {zl : List (Nat × Nat)} {js : List (Nat × Nat × Int32)}
theorem z_0 (h : sX σ = X) (h2 : sS σ = 0) : zI σ σ X 0 0 [] [] [] [] [] [] [] :=
  ⟨h, h2, fun _ q => absurd q List.not_mem_nil, fun _ q => absurd q List.not_mem_nil, fun _ q => absurd q List.not_mem_nil, fun _ q => absurd q List.not_mem_nil, fun _ q => absurd q List.not_mem_nil, fun _ q => absurd q List.not_mem_nil, fun _ q => absurd q List.not_mem_nil, fun _ _ => ⟨rfl, rfl, fun _ => rfl⟩⟩
theorem z_O {k n : Nat} (hc : c + 1 = c') (hw : w + n = w') (h : zI σ0 σ X c w l ln r ob ar zl js) : zI σ0 (nO σ k n) X c' w' ((c, k) :: l) ln r (c :: ob) ar ((34, c) :: (35, c) :: zl) js := by
  subst hc
  subst hw
  obtain ⟨h1, h2, h3, h4, h5, h6, h7, h8, h9, h10⟩ := h
  have ne : ∀ {i}, i < c → X + i ≠ sX σ := fun hi => by omega
  refine ⟨by rw [nO_X, h1]; omega, by rw [nO_S, h2], fun q hq => ?_, fun q hq => ?_, fun q hq => ?_, fun i hi => ?_, fun i hi => ?_, fun q hq => ?_, fun q hq => ?_, fun a ha => ?_⟩
  · rcases List.mem_cons.mp hq with e | e
    · subst e
      refine ⟨by simp, ?_⟩
      show sK (nO σ k n) (X + c) = k
      rw [← h1]; exact nO_Ks
    · obtain ⟨q1, q2⟩ := h3 q e
      exact ⟨by omega, by rw [nO_K (ne q1)]; exact q2⟩
  · obtain ⟨q1, q2⟩ := h4 q hq
    exact ⟨by omega, by rw [nO_N]; exact q2⟩
  · obtain ⟨q1, q2⟩ := h5 q hq
    exact ⟨by omega, by rw [nO_R (ne q1)]; exact q2⟩
  · rcases List.mem_cons.mp hi with e | e
    · subst e
      refine ⟨by omega, fun f _ _ => ?_⟩
      rw [← h1]; exact nO_Is
    · obtain ⟨q1, q2⟩ := h6 i e
      exact ⟨by omega, fun f f1 f2 => by rw [nO_I (ne q1)]; exact q2 f f1 f2⟩
  · obtain ⟨q1, q2⟩ := h7 i hi
    exact ⟨by omega, fun k => by rw [nO_A]; exact q2 k⟩
  · have fr : ∀ f, sR (nO σ k n) f (X + c) = 0 := fun f => by rw [← h1]; exact nO_Rs
    rcases List.mem_cons.mp hq with e | e
    · subst e
      exact ⟨by simp, fr 34⟩
    · rcases List.mem_cons.mp e with e | e
      · subst e
        exact ⟨by simp, fr 35⟩
      · obtain ⟨q1, q2⟩ := h8 q e
        exact ⟨by omega, by rw [nO_R (ne q1)]; exact q2⟩
  · obtain ⟨q1, q2⟩ := h9 q hq
    exact ⟨by omega, by rw [nO_I (ne q1)]; exact q2⟩
  · obtain ⟨q1, q2, q3⟩ := h10 a ha
    exact ⟨by rw [nO_K (by omega)]; exact q1, by rw [nO_N]; exact q2, fun k => by rw [nO_A]; exact q3 k⟩
theorem z_N {k n : Nat} (hc : c + 1 = c') (hw : w + n = w') (h : zI σ0 σ X c w l ln r ob ar zl js) : zI σ0 (nA σ k n) X c' w' ((c, k) :: l) ((c, n) :: ln) r ob (c :: ar) zl js := by
  subst hc
  subst hw
  obtain ⟨h1, h2, h3, h4, h5, h6, h7, h8, h9, h10⟩ := h
  have ne : ∀ {i}, i < c → X + i ≠ sX σ := fun hi => by omega
  refine ⟨by show sX σ + 1 = _; omega, by show sS σ + n = _; omega, fun q hq => ?_, fun q hq => ?_, fun q hq => ?_, fun i hi => ?_, fun i hi => ?_, fun q hq => ?_, fun q hq => ?_, fun a ha => ?_⟩
  · rcases List.mem_cons.mp hq with e | e
    · subst e
      refine ⟨by simp, ?_⟩
      show sK (nA σ k n) (X + c) = k
      rw [← h1]; exact nA_Ks
    · obtain ⟨q1, q2⟩ := h3 q e
      exact ⟨by omega, by rw [nA_K (ne q1)]; exact q2⟩
  · rcases List.mem_cons.mp hq with e | e
    · subst e
      refine ⟨by simp, ?_⟩
      show sN (nA σ k n) (X + c) = n
      rw [← h1]; exact nA_Ns
    · obtain ⟨q1, q2⟩ := h4 q e
      exact ⟨by omega, by rw [nA_N (ne q1)]; exact q2⟩
  · obtain ⟨q1, q2⟩ := h5 q hq
    exact ⟨by omega, q2⟩
  · obtain ⟨q1, q2⟩ := h6 i hi
    exact ⟨by omega, q2⟩
  · rcases List.mem_cons.mp hi with e | e
    · subst e
      refine ⟨by omega, fun k' => ?_⟩
      rw [← h1]; exact nA_As
    · obtain ⟨q1, q2⟩ := h7 i e
      exact ⟨by omega, fun k' => by rw [nA_A (ne q1)]; exact q2 k'⟩
  · obtain ⟨q1, q2⟩ := h8 q hq
    exact ⟨by omega, q2⟩
  · obtain ⟨q1, q2⟩ := h9 q hq
    exact ⟨by omega, q2⟩
  · obtain ⟨q1, q2, q3⟩ := h10 a ha
    exact ⟨by rw [nA_K (by omega)]; exact q1, by rw [nA_N (by omega)]; exact q2, fun k => by rw [nA_A (by omega)]; exact q3 k⟩
theorem z_R {f i j a v : Nat} (ha : a = X + i) (hv : v = X + j) (hi : i < c) (h5' : ∀ q ∈ r, ¬ (q.1 = f ∧ q.2.1 = i)) (h8' : ∀ q ∈ zl, ¬ (q.1 = f ∧ q.2 = i)) (h : zI σ0 σ X c w l ln r ob ar zl js) : zI σ0 (wR σ f a v) X c w l ln ((f, i, j) :: r) ob ar zl js := by
  subst ha
  subst hv
  obtain ⟨h1, h2, h3, h4, h5, h6, h7, h8, h9, h10⟩ := h
  refine ⟨h1, h2, h3, h4, fun q hq => ?_, h6, h7, fun q hq => ⟨(h8 q hq).1, ?_⟩, h9, h10⟩
  · rcases List.mem_cons.mp hq with e | e
    · subst e
      exact ⟨hi, wR_s⟩
    · have hn := h5' q e
      exact ⟨(h5 q e).1, by rw [wR_n (fun z => hn ⟨z.1, by omega⟩)]; exact (h5 q e).2⟩
  · have hn := h8' q hq
    rw [wR_n (fun z => hn ⟨z.1, by omega⟩)]; exact (h8 q hq).2
theorem z_I {f i a : Nat} {x : Int32} (ha : a = X + i) (hf : f = 325 ∨ f = 326) (hi : i < c) (h9' : ∀ q ∈ js, ¬ (q.1 = f ∧ q.2.1 = i)) (h : zI σ0 σ X c w l ln r ob ar zl js) : zI σ0 (wI σ f a x) X c w l ln r ob ar zl ((f, i, x) :: js) := by
  subst ha
  obtain ⟨h1, h2, h3, h4, h5, h6, h7, h8, h9, h10⟩ := h
  refine ⟨h1, h2, h3, h4, h5, fun j hj => ⟨(h6 j hj).1, fun g g1 g2 => ?_⟩, h7, h8, fun q hq => ?_, h10⟩
  · rw [wI_o (by omega)]; exact (h6 j hj).2 g g1 g2
  · rcases List.mem_cons.mp hq with e | e
    · subst e
      exact ⟨hi, wI_s⟩
    · have hn := h9' q e
      exact ⟨(h9 q e).1, by rw [wI_n (fun z => hn ⟨z.1, by omega⟩)]; exact (h9 q e).2⟩
end ZI
theorem cl_1 : (1 : Int32).toNatClampNeg = 1 := by decide +kernel
theorem cl_8 : (8 : Int32).toNatClampNeg = 8 := by decide +kernel
theorem cl_10 : (10 : Int32).toNatClampNeg = 10 := by decide +kernel
theorem cl_20 : (20 : Int32).toNatClampNeg = 20 := by decide +kernel
theorem cl_40 : (40 : Int32).toNatClampNeg = 40 := by decide +kernel
theorem cl_60 : (60 : Int32).toNatClampNeg = 60 := by decide +kernel
theorem cl_600 : (600 : Int32).toNatClampNeg = 600 := by decide +kernel
theorem cl_2400 : (2400 : Int32).toNatClampNeg = 2400 := by decide +kernel
/-- lay and which: none -/
def lw2 (m : Nat → Nat → Int32) (p : Nat) : Nat → Nat → Int32 := fun c k => if (c = 18 ∨ c = 19) ∧ k < p then -1 else m c k
theorem lw2_0 (m : Nat → Nat → Int32) : lw2 m 0 = m := by
  funext c k
  exact if_neg (fun q => Nat.not_lt_zero k q.2)
theorem lw2_n (m : Nat → Nat → Int32) (p : Nat) : u2 (u2 (lw2 m p) 18 p (-1)) 19 p (-1) = lw2 m (p + 1) := by
  funext c k
  unfold u2 lw2
  by_cases h1 : c = 19 ∧ k = p
  · rw [if_pos h1, if_pos ⟨Or.inr h1.1, by omega⟩]
  · rw [if_neg h1]
    by_cases h2 : c = 18 ∧ k = p
    · rw [if_pos h2, if_pos ⟨Or.inl h2.1, by omega⟩]
    · rw [if_neg h2]
      by_cases h3 : (c = 18 ∨ c = 19) ∧ k < p
      · rw [if_pos h3, if_pos ⟨h3.1, by omega⟩]
      · rw [if_neg h3, if_neg (fun q => by omega)]
theorem m_initL {σ : iS} {M : Nat} {s : Nat → Int32} {m : Nat → Nat → Int32} {Q : iO → iS → Prop} (hm : mS σ M) : ∀ d p, p + d = 20 → Q (.inl none) (mw σ M s (lw2 m 20)) → wp J_M_init 203 [vr M, vi (nI p)] [] (mw σ M s (lw2 m p)) Q := by
  intro d
  induction d with
  | zero =>
    intro p hp h
    have hp : p = 20 := by omega
    subst hp
    refine b_M_init_203 ⟨fun _ => h, fun c => absurd (by decide) c⟩
  | succ d ih =>
    intro p hp h
    refine b_M_init_203 ?_
    rw [lit_20, n_le (by decide) (by omega), r_343 hm, k_343 hm, n_343 hm, nI_clamp (by omega), w_343]
    refine ⟨fun c => by omega, fun _ => ⟨hm.1, ⟨rfl, n_in (by omega) (by decide)⟩, fun σ2 e2 => ?_⟩⟩
    subst e2
    rw [r_344 hm, k_344 hm, n_344 hm, w_344, lw2_n, n_s1]
    refine ⟨hm.1, ⟨rfl, n_in (by omega) (by decide)⟩, fun σ3 e3 => ?_⟩
    subst e3
    exact ih (p + 1) (by omega) h
section ZF
variable {b L X : Nat} {xs : Nat → Int32} {τ : iS} {c w : Nat} {l ln : List (Nat × Nat)} {r : List (Nat × Nat × Nat)} {ob ar : List Nat} {zl : List (Nat × Nat)} {js : List (Nat × Nat × Int32)} {σ0 : iS}
theorem mS_z (h : zI σ0 τ X c w l ln r ob ar zl js) (hk : (17, 10) ∈ l) (hc : ∀ q ∈ mAr, ((q.1, 17, 17 + q.2.1) ∈ r ∧ (17 + q.2.1, q.2.2.1) ∈ l) ∧ (17 + q.2.1, q.2.2.2) ∈ ln) : mS τ (X + 17) := by
  obtain ⟨-, -, g3, g4, g5, -⟩ := h
  refine ⟨(g3 _ hk).2, fun q hq => ?_⟩
  obtain ⟨⟨q1, q2⟩, q3⟩ := hc q hq
  rw [Nat.add_assoc]
  exact ⟨(g5 _ q1).2, (g3 _ q2).2, (g4 _ q3).2⟩
theorem z_LI (h : zI (i0 b L xs X) τ X 41 6143 l ln r ob ar zl js) (hb : b < X) (c1 : ∀ q ∈ xCe, q ∈ l) (c2 : ∀ q ∈ xLe, q ∈ ln) (c3 : ∀ q ∈ xRe, q ∈ r) (hm : mS τ (X + 17)) (c5 : ∀ i ∈ [0, 2, 6, 8, 17], i ∈ ob) (c6 : ∀ i, (i = 4 ∨ (18 ≤ i ∧ i ≤ 40)) → i ∈ ar) (c7 : (34, 0) ∈ zl ∧ (35, 0) ∈ zl) (c8 : (325, 17, -1) ∈ js ∧ (326, 17, -1) ∈ js) :
    LI b L xs X (nA (mw τ (X + 17) (fun f => sI τ f (X + 17)) (lw2 (fun c k => sA τ (X + 17 + c) k) 20)) 103 1) := by
  obtain ⟨g1, g2, g3, g4, g5, g6, g7, g8, g9, g10⟩ := h
  obtain ⟨k1, k2, k3⟩ := g10 b hb
  have d1 : ∀ q ∈ xCe, q.1 ≤ 16 := by decide
  have d2 : ∀ q ∈ xLe, q.1 ≤ 16 := by decide
  have iz : ∀ i, i ∈ [0, 2, 6, 8, 17] → ∀ f, f ≠ 325 → f ≠ 326 → sI τ f (X + i) = 0 := fun i hi => (g6 i (c5 i hi)).2
  have az : ∀ i, (i = 4 ∨ (18 ≤ i ∧ i ≤ 40)) → ∀ k, sA τ (X + i) k = 0 := fun i hi => (g7 i (c6 i hi)).2
  have sz : ∀ f, f ≠ 325 → f ≠ 326 → sI τ f (X + 17) = 0 := iz 17 (by decide)
  have i5 : sI τ 325 (X + 17) = -1 := (g9 _ c8.1).2
  have i6 : sI τ 326 (X + 17) = -1 := (g9 _ c8.2).2
  have mz : ∀ c k, 1 ≤ c → c ≤ 23 → c ≠ 18 → c ≠ 19 → lw2 (fun c k => sA τ (X + 17 + c) k) 20 c k = 0 := fun c k h1 h2 h3 h4 => by
    unfold lw2
    rw [if_neg (fun q => by omega)]
    show sA τ (X + 17 + c) k = 0
    rw [Nat.add_assoc]; exact az _ (Or.inr ⟨by omega, by omega⟩) k
  have mn : ∀ c k, c = 18 ∨ c = 19 → k < 20 → lw2 (fun c k => sA τ (X + 17 + c) k) 20 c k = -1 := fun c k h1 h2 => if_pos ⟨h1, h2⟩
  have hl : lw (mw τ (X + 17) (fun f => sI τ f (X + 17)) (lw2 (fun c k => sA τ (X + 17 + c) k) 20)) b L xs X (fun f => sI τ f (X + 17)) (lw2 (fun c k => sA τ (X + 17 + c) k) 20) → True := fun _ => trivial
  revert mz mn hl
  generalize lw2 (fun c k => sA τ (X + 17 + c) k) 20 = m
  intro mz mn _
  have xr : sX (mw τ (X + 17) (fun f => sI τ f (X + 17)) m) = X + 41 := g1
  have rI : ∀ f a, sI (mw τ (X + 17) (fun f => sI τ f (X + 17)) m) f a = sI τ f a := fun f a => by
    by_cases e : a = X + 17
    · subst e; exact if_pos rfl
    · exact if_neg e
  have rA : ∀ a k, ¬ (X + 17 < a ∧ a ≤ X + 40) → sA (mw τ (X + 17) (fun f => sI τ f (X + 17)) m) a k = sA τ a k := fun a k e => if_neg (fun q => e ⟨q.1, by omega⟩)
  have rM : ∀ c k, 0 < c → c ≤ 23 → sA (mw τ (X + 17) (fun f => sI τ f (X + 17)) m) (X + 17 + c) k = m c k := fun c k h1 h2 => mw_a h1 h2 k
  have rK : sK (mw τ (X + 17) (fun f => sI τ f (X + 17)) m) = sK τ := rfl
  have rN : sN (mw τ (X + 17) (fun f => sI τ f (X + 17)) m) = sN τ := rfl
  have rR : sR (mw τ (X + 17) (fun f => sI τ f (X + 17)) m) = sR τ := rfl
  revert xr rI rA rM rK rN rR
  generalize mw τ (X + 17) (fun f => sI τ f (X + 17)) m = ρ
  intro xr rI rA rM rK rN rR
  have nI' : ∀ f a, sI (nA ρ 103 1) f a = sI τ f a := rI
  have nR' : ∀ f a, sR (nA ρ 103 1) f a = sR τ f a := fun f a => by show sR ρ f a = _; rw [rR]
  have nK' : ∀ a, a ≠ X + 41 → sK (nA ρ 103 1) a = sK τ a := fun a ha => by rw [nA_K (by omega), rK]
  have nN' : ∀ a, a ≠ X + 41 → sN (nA ρ 103 1) a = sN τ a := fun a ha => by rw [nA_N (by omega), rN]
  have nA' : ∀ a k, a ≠ X + 41 → ¬ (X + 17 < a ∧ a ≤ X + 40) → sA (nA ρ 103 1) a k = sA τ a k := fun a k ha h => by rw [nA_A (by omega)]; exact rA a k h
  refine ⟨(fun f => sI τ f (X + 17)), m, 0, (fun _ => 0), 0, (fun _ => 0), ?_, ?_⟩
  · refine ⟨⟨hb, ?_, ?_, fun k => ?_⟩, ⟨?_, ?_⟩, ⟨?_, fun q hq => ?_⟩, fun f => nI' f _, fun c k h1 h2 => ?_⟩
    · rw [nK' b (by omega), k1]; exact if_pos rfl
    · rw [nN' b (by omega), k2]; rfl
    · rw [nA' b k (by omega) (by omega), k3]; rfl
    · rw [← xr]; exact nA_Ks
    · rw [← xr]; exact nA_Ns
    · rw [nK' _ (by omega)]; exact hm.1
    · have hA : ∀ q ∈ mAr, q.2.1 ≤ 23 := by decide
      have := hA q hq
      rw [nR', nK' _ (by omega), nN' _ (by omega)]; exact hm.2 q hq
    · rw [nA_A (by omega)]; exact rM c k h1 h2
  · refine ⟨⟨⟨by omega, ?_⟩, fun q hq => ?_, fun q hq => ?_, fun q hq => ?_⟩, ⟨?_, by decide, ?_, fun j hj => absurd hj (Nat.not_lt_zero j), fun i j hi => absurd hi (Nat.not_lt_zero i)⟩, fun j k hj => absurd hj (Nat.not_lt_zero j), ⟨Or.inl ⟨?_, i5⟩, Or.inl ⟨?_, i6⟩⟩, ⟨0, by decide, ?_, ?_, fun j hj => absurd hj (Nat.not_lt_zero j), fun i j hi => absurd hi (Nat.not_lt_zero i)⟩, fun k hk => ?_, ⟨0, by decide, ?_, ?_, fun j hj => absurd hj (Nat.not_lt_zero j)⟩, ⟨0, by decide, ?_, ?_, fun j hj => absurd hj (Nat.not_lt_zero j)⟩, ⟨0, by decide, ?_, ?_, fun j hj => absurd hj (Nat.not_lt_zero j)⟩, ⟨0, by decide, ?_, fun j hj => absurd hj (Nat.not_lt_zero j), fun i _ hi => ⟨mn 18 i (Or.inl rfl) hi, mn 19 i (Or.inr rfl) hi⟩⟩, ?_, ⟨?_, by decide, ?_, fun j hj => absurd hj (Nat.not_lt_zero j), fun i j hi => absurd hi (Nat.not_lt_zero i)⟩, fun j hj => absurd hj (Nat.not_lt_zero j), fun j k hj => absurd hj (Nat.not_lt_zero j), fun j k _ _ _ => mz 21 _ (by decide) (by decide) (by decide) (by decide)⟩
    · show X + 41 < sX ρ + 1
      omega
    · have := d1 q hq
      rw [nK' _ (by omega)]; exact (g3 q (c1 q hq)).2
    · have := d2 q hq
      rw [nN' _ (by omega)]; exact (g4 q (c2 q hq)).2
    · rw [nR']; exact (g5 q (c3 q hq)).2
    · exact sz 324 (by decide) (by decide)
    · rw [nI']; exact iz 0 (by decide) 33 (by decide) (by decide)
    · rw [nR']; exact (g8 _ c7.1).2
    · rw [nR']; exact (g8 _ c7.2).2
    · exact sz 336 (by decide) (by decide)
    · rw [nI']; exact iz 2 (by decide) 161 (by decide) (by decide)
    · rw [nA' _ _ (by omega) (by omega), az 4 (Or.inl rfl), mz 13 _ (by decide) (by decide) (by decide) (by decide)]
    · exact sz 340 (by decide) (by decide)
    · rw [nI']; exact iz 6 (by decide) 225 (by decide) (by decide)
    · exact sz 346 (by decide) (by decide)
    · rw [nI']; exact iz 8 (by decide) 258 (by decide) (by decide)
    · exact sz 347 (by decide) (by decide)
    · rw [nI']; exact iz 8 (by decide) 260 (by decide) (by decide)
    · rw [nI']; exact iz 8 (by decide) 264 (by decide) (by decide)
    · show sI (nA ρ 103 1) 39 X = sI τ 348 (X + 17)
      rw [nI', sz 348 (by decide) (by decide)]; exact iz 0 (by decide) 39 (by decide) (by decide)
    · exact sz 352 (by decide) (by decide)
    · rw [nI']; exact iz 0 (by decide) 41 (by decide) (by decide)
end ZF
theorem ar_all {l : List Nat} (h : ∀ k, k < 23 → 18 + k ∈ l) (h4 : 4 ∈ l) : ∀ i, (i = 4 ∨ (18 ≤ i ∧ i ≤ 40)) → i ∈ l := fun i hi => by
  rcases hi with rfl | ⟨a, c⟩
  · exact h4
  · have e := h (i - 18) (by omega)
    rw [show 18 + (i - 18) = i by omega] at e
    exact e
theorem l_start {b L X : Nat} {xs : Nat → Int32} {Q : iO → iS → Prop} (hb0 : b ≠ 0) (hbX : b < X) (H : ∀ σ, LI b L xs X σ → sX σ ≤ X + 42 → sS σ ≤ 6144 → wp J_L_law 23 [vr b, vr X, vr (X + 17), vr (X + 41), vi (nI 0), vl 0, vl 0] [] σ Q) : ca J_L_law [vr b] (i0 b L xs X) Q := by
  have hX0 : X ≠ 0 := by omega
  obtain ⟨τ0, hτ⟩ : ∃ τ0, τ0 = i0 b L xs X := ⟨_, rfl⟩
  have x0 : sX τ0 = X := by rw [hτ]; rfl
  have s0' : sS τ0 = 0 := by rw [hτ]; rfl
  rw [← hτ]
  have h0 := z_0 (X := X) (σ := τ0) x0 s0'
  refine b_L_law_0 (fun τ1 e1 => ?_)
  have h1 := z_O (k := 1) (n := 10) (c' := 1) (w' := 10) rfl rfl h0
  rw [← e1] at h1
  rw [x0]
  refine ⟨(h1.2.2.1 (0, 1) (by decide)).2, b_X_init_0 ⟨hX0, ⟨by decide, by decide⟩, fun τ2 e2 => ?_⟩⟩
  rw [cl_40] at e2
  have h2 := z_N (k := 112) (n := 40) (c' := 2) (w' := 50) rfl rfl h1
  rw [← e2] at h2
  refine ⟨(h2.2.2.1 (0, 1) (by decide)).2, fun τ3 e3 => ?_⟩
  have h3 := z_R (f := 32) (i := 0) (j := 1) (a := X) (v := sX τ1) rfl h1.1 (by decide) (by decide) (by decide) h2
  rw [← e3] at h3
  intro τ4 e4
  have h4 := z_O (k := 5) (n := 4) (c' := 3) (w' := 54) rfl rfl h3
  rw [← e4] at h4
  have a3 : sX τ3 = X + 2 := h3.1
  rw [a3]
  refine ⟨(h4.2.2.1 (2, 5) (by decide)).2, b_Inspection_init_0 ⟨by omega, ⟨by decide, by decide⟩, fun τ5 e5 => ?_⟩⟩
  rw [cl_20] at e5
  have h5 := z_N (k := 114) (n := 20) (c' := 4) (w' := 74) rfl rfl h4
  rw [← e5] at h5
  refine ⟨(h5.2.2.1 (2, 5) (by decide)).2, fun τ6 e6 => ?_⟩
  have h6 := z_R (f := 160) (i := 2) (j := 3) (a := (X + 2)) (v := sX τ4) rfl h4.1 (by decide) (by decide) (by decide) h5
  rw [← e6] at h6
  refine ⟨⟨by decide, by decide⟩, fun τ7 e7 => ?_⟩
  rw [cl_10] at e7
  have h7 := z_N (k := 101) (n := 10) (c' := 5) (w' := 84) rfl rfl h6
  rw [← e7] at h7
  refine ⟨(h7.2.2.1 (2, 5) (by decide)).2, fun τ8 e8 => ?_⟩
  have h8 := z_R (f := 162) (i := 2) (j := 4) (a := (X + 2)) (v := sX τ6) rfl h6.1 (by decide) (by decide) (by decide) h7
  rw [← e8] at h8
  refine ⟨⟨by decide, by decide⟩, fun τ9 e9 => ?_⟩
  rw [cl_60] at e9
  have h9 := z_N (k := 101) (n := 60) (c' := 6) (w' := 144) rfl rfl h8
  rw [← e9] at h9
  refine ⟨(h9.2.2.1 (2, 5) (by decide)).2, fun τ10 e10 => ?_⟩
  have h10 := z_R (f := 163) (i := 2) (j := 5) (a := (X + 2)) (v := sX τ8) rfl h8.1 (by decide) (by decide) (by decide) h9
  rw [← e10] at h10
  dsimp only [cV]
  refine ⟨(h10.2.2.1 (0, 1) (by decide)).2, fun τ11 e11 => ?_⟩
  have h11 := z_R (f := 36) (i := 0) (j := 2) (a := X) (v := X + 2) rfl rfl (by decide) (by decide) (by decide) h10
  rw [← e11] at h11
  intro τ12 e12
  have h12 := z_O (k := 7) (n := 3) (c' := 7) (w' := 147) rfl rfl h11
  rw [← e12] at h12
  have a11 : sX τ11 = X + 6 := h11.1
  rw [a11]
  refine ⟨(h12.2.2.1 (6, 7) (by decide)).2, b_Joining_init_0 ⟨by omega, ⟨by decide, by decide⟩, fun τ13 e13 => ?_⟩⟩
  rw [cl_20] at e13
  have h13 := z_N (k := 116) (n := 20) (c' := 8) (w' := 167) rfl rfl h12
  rw [← e13] at h13
  refine ⟨(h13.2.2.1 (6, 7) (by decide)).2, fun τ14 e14 => ?_⟩
  have h14 := z_R (f := 224) (i := 6) (j := 7) (a := (X + 6)) (v := sX τ12) rfl h12.1 (by decide) (by decide) (by decide) h13
  rw [← e14] at h14
  dsimp only [cV]
  refine ⟨(h14.2.2.1 (0, 1) (by decide)).2, fun τ15 e15 => ?_⟩
  have h15 := z_R (f := 37) (i := 0) (j := 6) (a := X) (v := X + 6) rfl rfl (by decide) (by decide) (by decide) h14
  rw [← e15] at h15
  intro τ16 e16
  have h16 := z_O (k := 8) (n := 11) (c' := 9) (w' := 178) rfl rfl h15
  rw [← e16] at h16
  have a15 : sX τ15 = X + 8 := h15.1
  rw [a15]
  refine ⟨(h16.2.2.1 (8, 8) (by decide)).2, b_Splitting_init_0 ⟨by omega, ⟨by decide, by decide⟩, fun τ17 e17 => ?_⟩⟩
  rw [cl_8] at e17
  have h17 := z_N (k := 112) (n := 8) (c' := 10) (w' := 186) rfl rfl h16
  rw [← e17] at h17
  refine ⟨(h17.2.2.1 (8, 8) (by decide)).2, fun τ18 e18 => ?_⟩
  have h18 := z_R (f := 256) (i := 8) (j := 9) (a := (X + 8)) (v := sX τ16) rfl h16.1 (by decide) (by decide) (by decide) h17
  rw [← e18] at h18
  refine ⟨⟨by decide, by decide⟩, fun τ19 e19 => ?_⟩
  rw [cl_8] at e19
  have h19 := z_N (k := 102) (n := 8) (c' := 11) (w' := 194) rfl rfl h18
  rw [← e19] at h19
  refine ⟨(h19.2.2.1 (8, 8) (by decide)).2, fun τ20 e20 => ?_⟩
  have h20 := z_R (f := 257) (i := 8) (j := 10) (a := (X + 8)) (v := sX τ18) rfl h18.1 (by decide) (by decide) (by decide) h19
  rw [← e20] at h20
  refine ⟨⟨by decide, by decide⟩, fun τ21 e21 => ?_⟩
  rw [cl_20] at e21
  have h21 := z_N (k := 112) (n := 20) (c' := 12) (w' := 214) rfl rfl h20
  rw [← e21] at h21
  refine ⟨(h21.2.2.1 (8, 8) (by decide)).2, fun τ22 e22 => ?_⟩
  have h22 := z_R (f := 259) (i := 8) (j := 11) (a := (X + 8)) (v := sX τ20) rfl h20.1 (by decide) (by decide) (by decide) h21
  rw [← e22] at h22
  refine ⟨⟨by decide, by decide⟩, fun τ23 e23 => ?_⟩
  rw [cl_20] at e23
  have h23 := z_N (k := 101) (n := 20) (c' := 13) (w' := 234) rfl rfl h22
  rw [← e23] at h23
  refine ⟨(h23.2.2.1 (8, 8) (by decide)).2, fun τ24 e24 => ?_⟩
  have h24 := z_R (f := 261) (i := 8) (j := 12) (a := (X + 8)) (v := sX τ22) rfl h22.1 (by decide) (by decide) (by decide) h23
  rw [← e24] at h24
  refine ⟨⟨by decide, by decide⟩, fun τ25 e25 => ?_⟩
  rw [cl_20] at e25
  have h25 := z_N (k := 101) (n := 20) (c' := 14) (w' := 254) rfl rfl h24
  rw [← e25] at h25
  refine ⟨(h25.2.2.1 (8, 8) (by decide)).2, fun τ26 e26 => ?_⟩
  have h26 := z_R (f := 262) (i := 8) (j := 13) (a := (X + 8)) (v := sX τ24) rfl h24.1 (by decide) (by decide) (by decide) h25
  rw [← e26] at h26
  refine ⟨⟨by decide, by decide⟩, fun τ27 e27 => ?_⟩
  rw [cl_20] at e27
  have h27 := z_N (k := 101) (n := 20) (c' := 15) (w' := 274) rfl rfl h26
  rw [← e27] at h27
  refine ⟨(h27.2.2.1 (8, 8) (by decide)).2, fun τ28 e28 => ?_⟩
  have h28 := z_R (f := 263) (i := 8) (j := 14) (a := (X + 8)) (v := sX τ26) rfl h26.1 (by decide) (by decide) (by decide) h27
  rw [← e28] at h28
  refine b_Splitting_init_54 ⟨⟨by decide, by decide⟩, fun τ29 e29 => ?_⟩
  rw [cl_60] at e29
  have h29 := z_N (k := 101) (n := 60) (c' := 16) (w' := 334) rfl rfl h28
  rw [← e29] at h29
  refine ⟨(h29.2.2.1 (8, 8) (by decide)).2, fun τ30 e30 => ?_⟩
  have h30 := z_R (f := 266) (i := 8) (j := 15) (a := (X + 8)) (v := sX τ28) rfl h28.1 (by decide) (by decide) (by decide) h29
  rw [← e30] at h30
  dsimp only [cV]
  refine ⟨(h30.2.2.1 (0, 1) (by decide)).2, fun τ31 e31 => ?_⟩
  have h31 := z_R (f := 38) (i := 0) (j := 8) (a := X) (v := X + 8) rfl rfl (by decide) (by decide) (by decide) h30
  rw [← e31] at h31
  refine ⟨⟨by decide, by decide⟩, fun τ32 e32 => ?_⟩
  rw [cl_10] at e32
  have h32 := z_N (k := 119) (n := 10) (c' := 17) (w' := 344) rfl rfl h31
  rw [← e32] at h32
  refine ⟨(h32.2.2.1 (0, 1) (by decide)).2, fun τ33 e33 => ?_⟩
  have h33 := z_R (f := 40) (i := 0) (j := 16) (a := X) (v := sX τ31) rfl h31.1 (by decide) (by decide) (by decide) h32
  rw [← e33] at h33
  refine b_X_init_55 ?_
  dsimp only [cV]
  intro τ34 e34
  have h34 := z_O (k := 10) (n := 33) (c' := 18) (w' := 377) rfl rfl h33
  rw [← e34] at h34
  have a33 : sX τ33 = X + 17 := h33.1
  rw [a33]
  refine ⟨(h34.2.2.1 (17, 10) (by decide)).2, b_M_init_0 ⟨by omega, ⟨by decide, by decide⟩, fun τ35 e35 => ?_⟩⟩
  rw [cl_2400] at e35
  have h35 := z_N (k := 101) (n := 2400) (c' := 19) (w' := 2777) rfl rfl h34
  rw [← e35] at h35
  refine ⟨(h35.2.2.1 (17, 10) (by decide)).2, fun τ36 e36 => ?_⟩
  have h36 := z_R (f := 321) (i := 17) (j := 18) (a := (X + 17)) (v := sX τ34) rfl h34.1 (by decide) (by decide) (by decide) h35
  rw [← e36] at h36
  refine ⟨⟨by decide, by decide⟩, fun τ37 e37 => ?_⟩
  rw [cl_2400] at e37
  have h37 := z_N (k := 101) (n := 2400) (c' := 20) (w' := 5177) rfl rfl h36
  rw [← e37] at h37
  refine ⟨(h37.2.2.1 (17, 10) (by decide)).2, fun τ38 e38 => ?_⟩
  have h38 := z_R (f := 322) (i := 17) (j := 19) (a := (X + 17)) (v := sX τ36) rfl h36.1 (by decide) (by decide) (by decide) h37
  rw [← e38] at h38
  refine ⟨⟨by decide, by decide⟩, fun τ39 e39 => ?_⟩
  rw [cl_40] at e39
  have h39 := z_N (k := 101) (n := 40) (c' := 21) (w' := 5217) rfl rfl h38
  rw [← e39] at h39
  refine ⟨(h39.2.2.1 (17, 10) (by decide)).2, fun τ40 e40 => ?_⟩
  have h40 := z_R (f := 323) (i := 17) (j := 20) (a := (X + 17)) (v := sX τ38) rfl h38.1 (by decide) (by decide) (by decide) h39
  rw [← e40] at h40
  refine ⟨(h40.2.2.1 (17, 10) (by decide)).2, fun τ41 e41 => ?_⟩
  have h41 := z_I (f := 325) (i := 17) (a := (X + 17)) (x := -1) rfl (by decide) (by decide) (by decide) h40
  rw [← e41] at h41
  refine ⟨(h41.2.2.1 (17, 10) (by decide)).2, fun τ42 e42 => ?_⟩
  have h42 := z_I (f := 326) (i := 17) (a := (X + 17)) (x := -1) rfl (by decide) (by decide) (by decide) h41
  rw [← e42] at h42
  refine ⟨⟨by decide, by decide⟩, fun τ43 e43 => ?_⟩
  rw [cl_20] at e43
  have h43 := z_N (k := 101) (n := 20) (c' := 22) (w' := 5237) rfl rfl h42
  rw [← e43] at h43
  refine ⟨(h43.2.2.1 (17, 10) (by decide)).2, fun τ44 e44 => ?_⟩
  have h44 := z_R (f := 327) (i := 17) (j := 21) (a := (X + 17)) (v := sX τ42) rfl h42.1 (by decide) (by decide) (by decide) h43
  rw [← e44] at h44
  refine b_M_init_48 ⟨⟨by decide, by decide⟩, fun τ45 e45 => ?_⟩
  rw [cl_20] at e45
  have h45 := z_N (k := 101) (n := 20) (c' := 23) (w' := 5257) rfl rfl h44
  rw [← e45] at h45
  refine ⟨(h45.2.2.1 (17, 10) (by decide)).2, fun τ46 e46 => ?_⟩
  have h46 := z_R (f := 328) (i := 17) (j := 22) (a := (X + 17)) (v := sX τ44) rfl h44.1 (by decide) (by decide) (by decide) h45
  rw [← e46] at h46
  refine ⟨⟨by decide, by decide⟩, fun τ47 e47 => ?_⟩
  rw [cl_20] at e47
  have h47 := z_N (k := 101) (n := 20) (c' := 24) (w' := 5277) rfl rfl h46
  rw [← e47] at h47
  refine ⟨(h47.2.2.1 (17, 10) (by decide)).2, fun τ48 e48 => ?_⟩
  have h48 := z_R (f := 329) (i := 17) (j := 23) (a := (X + 17)) (v := sX τ46) rfl h46.1 (by decide) (by decide) (by decide) h47
  rw [← e48] at h48
  refine ⟨⟨by decide, by decide⟩, fun τ49 e49 => ?_⟩
  rw [cl_20] at e49
  have h49 := z_N (k := 101) (n := 20) (c' := 25) (w' := 5297) rfl rfl h48
  rw [← e49] at h49
  refine ⟨(h49.2.2.1 (17, 10) (by decide)).2, fun τ50 e50 => ?_⟩
  have h50 := z_R (f := 330) (i := 17) (j := 24) (a := (X + 17)) (v := sX τ48) rfl h48.1 (by decide) (by decide) (by decide) h49
  rw [← e50] at h50
  refine ⟨⟨by decide, by decide⟩, fun τ51 e51 => ?_⟩
  rw [cl_20] at e51
  have h51 := z_N (k := 101) (n := 20) (c' := 26) (w' := 5317) rfl rfl h50
  rw [← e51] at h51
  refine ⟨(h51.2.2.1 (17, 10) (by decide)).2, fun τ52 e52 => ?_⟩
  have h52 := z_R (f := 331) (i := 17) (j := 25) (a := (X + 17)) (v := sX τ50) rfl h50.1 (by decide) (by decide) (by decide) h51
  rw [← e52] at h52
  refine ⟨⟨by decide, by decide⟩, fun τ53 e53 => ?_⟩
  rw [cl_20] at e53
  have h53 := z_N (k := 101) (n := 20) (c' := 27) (w' := 5337) rfl rfl h52
  rw [← e53] at h53
  refine ⟨(h53.2.2.1 (17, 10) (by decide)).2, fun τ54 e54 => ?_⟩
  have h54 := z_R (f := 332) (i := 17) (j := 26) (a := (X + 17)) (v := sX τ52) rfl h52.1 (by decide) (by decide) (by decide) h53
  rw [← e54] at h54
  refine ⟨⟨by decide, by decide⟩, fun τ55 e55 => ?_⟩
  rw [cl_20] at e55
  have h55 := z_N (k := 101) (n := 20) (c' := 28) (w' := 5357) rfl rfl h54
  rw [← e55] at h55
  refine ⟨(h55.2.2.1 (17, 10) (by decide)).2, fun τ56 e56 => ?_⟩
  have h56 := z_R (f := 333) (i := 17) (j := 27) (a := (X + 17)) (v := sX τ54) rfl h54.1 (by decide) (by decide) (by decide) h55
  rw [← e56] at h56
  refine ⟨⟨by decide, by decide⟩, fun τ57 e57 => ?_⟩
  rw [cl_20] at e57
  have h57 := z_N (k := 101) (n := 20) (c' := 29) (w' := 5377) rfl rfl h56
  rw [← e57] at h57
  refine ⟨(h57.2.2.1 (17, 10) (by decide)).2, fun τ58 e58 => ?_⟩
  have h58 := z_R (f := 334) (i := 17) (j := 28) (a := (X + 17)) (v := sX τ56) rfl h56.1 (by decide) (by decide) (by decide) h57
  rw [← e58] at h58
  refine b_M_init_104 ⟨⟨by decide, by decide⟩, fun τ59 e59 => ?_⟩
  rw [cl_20] at e59
  have h59 := z_N (k := 102) (n := 20) (c' := 30) (w' := 5397) rfl rfl h58
  rw [← e59] at h59
  refine ⟨(h59.2.2.1 (17, 10) (by decide)).2, fun τ60 e60 => ?_⟩
  have h60 := z_R (f := 335) (i := 17) (j := 29) (a := (X + 17)) (v := sX τ58) rfl h58.1 (by decide) (by decide) (by decide) h59
  rw [← e60] at h60
  refine ⟨⟨by decide, by decide⟩, fun τ61 e61 => ?_⟩
  rw [cl_10] at e61
  have h61 := z_N (k := 101) (n := 10) (c' := 31) (w' := 5407) rfl rfl h60
  rw [← e61] at h61
  refine ⟨(h61.2.2.1 (17, 10) (by decide)).2, fun τ62 e62 => ?_⟩
  have h62 := z_R (f := 337) (i := 17) (j := 30) (a := (X + 17)) (v := sX τ60) rfl h60.1 (by decide) (by decide) (by decide) h61
  rw [← e62] at h62
  refine ⟨⟨by decide, by decide⟩, fun τ63 e63 => ?_⟩
  rw [cl_20] at e63
  have h63 := z_N (k := 101) (n := 20) (c' := 32) (w' := 5427) rfl rfl h62
  rw [← e63] at h63
  refine ⟨(h63.2.2.1 (17, 10) (by decide)).2, fun τ64 e64 => ?_⟩
  have h64 := z_R (f := 338) (i := 17) (j := 31) (a := (X + 17)) (v := sX τ62) rfl h62.1 (by decide) (by decide) (by decide) h63
  rw [← e64] at h64
  refine ⟨⟨by decide, by decide⟩, fun τ65 e65 => ?_⟩
  rw [cl_20] at e65
  have h65 := z_N (k := 101) (n := 20) (c' := 33) (w' := 5447) rfl rfl h64
  rw [← e65] at h65
  refine ⟨(h65.2.2.1 (17, 10) (by decide)).2, fun τ66 e66 => ?_⟩
  have h66 := z_R (f := 339) (i := 17) (j := 32) (a := (X + 17)) (v := sX τ64) rfl h64.1 (by decide) (by decide) (by decide) h65
  rw [← e66] at h66
  refine ⟨⟨by decide, by decide⟩, fun τ67 e67 => ?_⟩
  rw [cl_8] at e67
  have h67 := z_N (k := 101) (n := 8) (c' := 34) (w' := 5455) rfl rfl h66
  rw [← e67] at h67
  refine ⟨(h67.2.2.1 (17, 10) (by decide)).2, fun τ68 e68 => ?_⟩
  have h68 := z_R (f := 341) (i := 17) (j := 33) (a := (X + 17)) (v := sX τ66) rfl h66.1 (by decide) (by decide) (by decide) h67
  rw [← e68] at h68
  refine ⟨⟨by decide, by decide⟩, fun τ69 e69 => ?_⟩
  rw [cl_20] at e69
  have h69 := z_N (k := 101) (n := 20) (c' := 35) (w' := 5475) rfl rfl h68
  rw [← e69] at h69
  refine ⟨(h69.2.2.1 (17, 10) (by decide)).2, fun τ70 e70 => ?_⟩
  have h70 := z_R (f := 342) (i := 17) (j := 34) (a := (X + 17)) (v := sX τ68) rfl h68.1 (by decide) (by decide) (by decide) h69
  rw [← e70] at h70
  refine ⟨⟨by decide, by decide⟩, fun τ71 e71 => ?_⟩
  rw [cl_20] at e71
  have h71 := z_N (k := 101) (n := 20) (c' := 36) (w' := 5495) rfl rfl h70
  rw [← e71] at h71
  refine ⟨(h71.2.2.1 (17, 10) (by decide)).2, fun τ72 e72 => ?_⟩
  have h72 := z_R (f := 343) (i := 17) (j := 35) (a := (X + 17)) (v := sX τ70) rfl h70.1 (by decide) (by decide) (by decide) h71
  rw [← e72] at h72
  refine b_M_init_160 ⟨⟨by decide, by decide⟩, fun τ73 e73 => ?_⟩
  rw [cl_20] at e73
  have h73 := z_N (k := 101) (n := 20) (c' := 37) (w' := 5515) rfl rfl h72
  rw [← e73] at h73
  refine ⟨(h73.2.2.1 (17, 10) (by decide)).2, fun τ74 e74 => ?_⟩
  have h74 := z_R (f := 344) (i := 17) (j := 36) (a := (X + 17)) (v := sX τ72) rfl h72.1 (by decide) (by decide) (by decide) h73
  rw [← e74] at h74
  refine ⟨⟨by decide, by decide⟩, fun τ75 e75 => ?_⟩
  rw [cl_8] at e75
  have h75 := z_N (k := 102) (n := 8) (c' := 38) (w' := 5523) rfl rfl h74
  rw [← e75] at h75
  refine ⟨(h75.2.2.1 (17, 10) (by decide)).2, fun τ76 e76 => ?_⟩
  have h76 := z_R (f := 345) (i := 17) (j := 37) (a := (X + 17)) (v := sX τ74) rfl h74.1 (by decide) (by decide) (by decide) h75
  rw [← e76] at h76
  refine ⟨⟨by decide, by decide⟩, fun τ77 e77 => ?_⟩
  rw [cl_600] at e77
  have h77 := z_N (k := 101) (n := 600) (c' := 39) (w' := 6123) rfl rfl h76
  rw [← e77] at h77
  refine ⟨(h77.2.2.1 (17, 10) (by decide)).2, fun τ78 e78 => ?_⟩
  have h78 := z_R (f := 349) (i := 17) (j := 38) (a := (X + 17)) (v := sX τ76) rfl h76.1 (by decide) (by decide) (by decide) h77
  rw [← e78] at h78
  refine ⟨⟨by decide, by decide⟩, fun τ79 e79 => ?_⟩
  rw [cl_10] at e79
  have h79 := z_N (k := 101) (n := 10) (c' := 40) (w' := 6133) rfl rfl h78
  rw [← e79] at h79
  refine ⟨(h79.2.2.1 (17, 10) (by decide)).2, fun τ80 e80 => ?_⟩
  have h80 := z_R (f := 350) (i := 17) (j := 39) (a := (X + 17)) (v := sX τ78) rfl h78.1 (by decide) (by decide) (by decide) h79
  rw [← e80] at h80
  refine ⟨⟨by decide, by decide⟩, fun τ81 e81 => ?_⟩
  rw [cl_10] at e81
  have h81 := z_N (k := 101) (n := 10) (c' := 41) (w' := 6143) rfl rfl h80
  rw [← e81] at h81
  refine ⟨(h81.2.2.1 (17, 10) (by decide)).2, fun τ82 e82 => ?_⟩
  have h82 := z_R (f := 351) (i := 17) (j := 40) (a := (X + 17)) (v := sX τ80) rfl h80.1 (by decide) (by decide) (by decide) h81
  rw [← e82] at h82
  have hm : mS τ82 (X + 17) := mS_z h82 (by decide) (by decide)
  have hI := z_LI (b := b) (L := L) (xs := xs) (hτ ▸ h82) hbX (by decide) (by decide) (by decide) hm (by decide) (ar_all (by decide) (by decide)) ⟨by decide, by decide⟩ ⟨List.mem_cons_of_mem _ List.mem_cons_self, List.mem_cons_self⟩
  have Z := m_initL (σ := τ82) (M := X + 17) (s := fun f => sI τ82 f (X + 17)) (m := fun c k => sA τ82 (X + 17 + c) k) (Q := cV (fun σ4 => (¬ (1 : Int32) < 0 ∧ (1 : Int32).toNatClampNeg ≤ 100000) ∧ (∀ σ5, σ5 = nA σ4 103 (1 : Int32).toNatClampNeg → wp J_L_law 23 [vr b, vr X, vr (X + 17), vr (sX σ4), vi (0 : Int32), vl 0, vl 0] [] σ5 Q)) Q) hm 20 0 (by decide) ⟨⟨by decide, by decide⟩, fun σ5 e5 => ?_⟩
  · rw [lw2_0, mw_s] at Z
    exact Z
  · rw [e5, cl_1]
    have x5 : sX (mw τ82 (X + 17) (fun f => sI τ82 f (X + 17)) (lw2 (fun c k => sA τ82 (X + 17 + c) k) 20)) = X + 41 := h82.1
    rw [x5]
    refine H _ hI ?_ ?_
    · show sX τ82 + 1 ≤ X + 42
      rw [h82.1]; omega
    · show sS τ82 + 1 ≤ 6144
      rw [h82.2.1]; decide
