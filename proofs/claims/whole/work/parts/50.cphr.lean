/-! LAYER 2: tally, replace of the class. -/
section PT
variable {τ : iS}
theorem pI_R {g b : Nat} {x : Int32} : sR (wI τ g b x) = sR τ := rfl
theorem pI_A {g b : Nat} {x : Int32} : sA (wI τ g b x) = sA τ := rfl
theorem pI_B {g b : Nat} {x : Int32} : sB (wI τ g b x) = sB τ := rfl
theorem pI_K {g b : Nat} {x : Int32} : sK (wI τ g b x) = sK τ := rfl
theorem pI_N {g b : Nat} {x : Int32} : sN (wI τ g b x) = sN τ := rfl
theorem pI_X {g b : Nat} {x : Int32} : sX (wI τ g b x) = sX τ := rfl
theorem pI_S {g b : Nat} {x : Int32} : sS (wI τ g b x) = sS τ := rfl
theorem pR_I {g b x : Nat} : sI (wR τ g b x) = sI τ := rfl
theorem pR_A {g b x : Nat} : sA (wR τ g b x) = sA τ := rfl
theorem pR_B {g b x : Nat} : sB (wR τ g b x) = sB τ := rfl
theorem pR_K {g b x : Nat} : sK (wR τ g b x) = sK τ := rfl
theorem pR_N {g b x : Nat} : sN (wR τ g b x) = sN τ := rfl
theorem pR_X {g b x : Nat} : sX (wR τ g b x) = sX τ := rfl
theorem pR_S {g b x : Nat} : sS (wR τ g b x) = sS τ := rfl
theorem pA_I {g b : Nat} {x : Int32} : sI (wA τ g b x) = sI τ := rfl
theorem pA_R {g b : Nat} {x : Int32} : sR (wA τ g b x) = sR τ := rfl
theorem pA_B {g b : Nat} {x : Int32} : sB (wA τ g b x) = sB τ := rfl
theorem pA_K {g b : Nat} {x : Int32} : sK (wA τ g b x) = sK τ := rfl
theorem pA_N {g b : Nat} {x : Int32} : sN (wA τ g b x) = sN τ := rfl
theorem pA_X {g b : Nat} {x : Int32} : sX (wA τ g b x) = sX τ := rfl
theorem pA_S {g b : Nat} {x : Int32} : sS (wA τ g b x) = sS τ := rfl
theorem pB_I {g b x : Nat} : sI (wB τ g b x) = sI τ := rfl
theorem pB_R {g b x : Nat} : sR (wB τ g b x) = sR τ := rfl
theorem pB_A {g b x : Nat} : sA (wB τ g b x) = sA τ := rfl
theorem pB_K {g b x : Nat} : sK (wB τ g b x) = sK τ := rfl
theorem pB_N {g b x : Nat} : sN (wB τ g b x) = sN τ := rfl
theorem pB_X {g b x : Nat} : sX (wB τ g b x) = sX τ := rfl
theorem pB_S {g b x : Nat} : sS (wB τ g b x) = sS τ := rfl
theorem pV_I {b : Nat} {x : Nat → Int32} : sI (wV τ b x) = sI τ := rfl
theorem pV_R {b : Nat} {x : Nat → Int32} : sR (wV τ b x) = sR τ := rfl
theorem pV_B {b : Nat} {x : Nat → Int32} : sB (wV τ b x) = sB τ := rfl
theorem pV_K {b : Nat} {x : Nat → Int32} : sK (wV τ b x) = sK τ := rfl
theorem pV_N {b : Nat} {x : Nat → Int32} : sN (wV τ b x) = sN τ := rfl
theorem pV_X {b : Nat} {x : Nat → Int32} : sX (wV τ b x) = sX τ := rfl
theorem pV_S {b : Nat} {x : Nat → Int32} : sS (wV τ b x) = sS τ := rfl
theorem nO_A {k n : Nat} : sA (nO τ k n) = sA τ := rfl
theorem nO_B {k n : Nat} : sB (nO τ k n) = sB τ := rfl
theorem nO_N {k n : Nat} : sN (nO τ k n) = sN τ := rfl
theorem nO_X {k n : Nat} : sX (nO τ k n) = sX τ + 1 := rfl
theorem nO_S {k n : Nat} : sS (nO τ k n) = sS τ + n := rfl
theorem wR_n {f g a b x : Nat} (h : ¬ (f = g ∧ a = b)) : sR (wR τ g b x) f a = sR τ f a := if_neg h
theorem wI_n {f g a b : Nat} {x : Int32} (h : ¬ (f = g ∧ a = b)) : sI (wI τ g b x) f a = sI τ f a := if_neg h
end PT
/-- a region, taken -/
def rgA (σ τ : iS) (X : Nat) : Prop :=
  (∀ f b, b < sX σ → f ≠ 34 → f ≠ 35 → sR τ f b = sR σ f b) ∧ (sR τ 34 X = 0 ∧ sR τ 35 X = 0) ∧ (sR τ 96 (sX σ) = sR σ 34 X ∧ sR τ 97 (sX σ) = sR σ 35 X) ∧ (∀ f b, b < sX σ → sI τ f b = sI σ f b) ∧ (sA τ = sA σ ∧ sB τ = sB σ) ∧ ((∀ b, b < sX σ → sK τ b = sK σ b) ∧ sK τ (sX σ) = 3) ∧ sN τ = sN σ ∧ sX τ = sX σ + 1 ∧ sS τ = sS σ + 2
/-- a phrase at a, its fields set -/
def phA (τ τ' : iS) (a : Nat) (kd cn wd : Int32) (so pu rg : Nat) : Prop :=
  (∀ f b, ¬ (b = a ∧ (f = 129 ∨ f = 131 ∨ f = 132)) → sR τ' f b = sR τ f b) ∧ (sR τ' 129 a = so ∧ sR τ' 131 a = pu ∧ sR τ' 132 a = rg) ∧ (∀ f b, ¬ (b = a ∧ (f = 128 ∨ f = 130 ∨ f = 133)) → sI τ' f b = sI τ f b) ∧ (sI τ' 128 a = kd ∧ sI τ' 130 a = cn ∧ sI τ' 133 a = wd) ∧ sA τ' = sA τ ∧ sB τ' = sB τ ∧ sK τ' = sK τ ∧ sN τ' = sN τ ∧ sX τ' = sX τ ∧ sS τ' = sS τ
/-- a phrase with its region, collected -/
def phT (σ τ : iS) (X P : Nat) (kd cn wd : Int32) (so pu : Nat) : Prop :=
  fp X σ τ [161] (fun _ => False) (fun a => a = X + 3) true 2 12 ∧ sX τ = sX σ + 2 ∧ (sK τ (sX σ) = 4 ∧ sK τ (sX σ + 1) = 3) ∧ (sI τ 128 (sX σ) = kd ∧ sI τ 130 (sX σ) = cn ∧ sI τ 133 (sX σ) = wd ∧ sI τ 137 (sX σ) = 0) ∧ (sR τ 129 (sX σ) = so ∧ sR τ 131 (sX σ) = pu ∧ sR τ 132 (sX σ) = sX σ + 1) ∧ (sR τ 96 (sX σ + 1) = sR σ 34 X ∧ sR τ 97 (sX σ + 1) = sR σ 35 X) ∧ (sR τ 34 X = 0 ∧ sR τ 35 X = 0) ∧ (sB τ (X + 3) P = sX σ ∧ ∀ j, j ≠ P → sB τ (X + 3) j = sB σ (X + 3) j) ∧ sI τ 161 (X + 2) = nI (P + 1)
section CT
variable {X : Nat} {σ τ : iS} {s : Nat → Int32} {m : Nat → Nat → Int32} {N T : Nat} {z y : Nat → Nat} {Q : iO → iS → Prop} {P a : Nat} {kd cn wd : Int32} {so pu rg : Nat}
theorem x_region (k1 : sK σ X = 1) (hX : X < sX σ) (h : ∀ τ, rgA σ τ X → Q (.inl (some (vr (sX σ)))) τ) : ca J_X_takeRegion [vr X] σ Q := by
  refine b_X_takeRegion_0 (fun σ1 e1 => ?_)
  have k1' : sK σ1 X = 1 := by rw [e1, nO_K (by omega)]; exact k1
  have k3 : sK σ1 (sX σ) = 3 := by rw [e1]; exact nO_Ks
  have r34 : sR σ1 34 X = sR σ 34 X := by rw [e1, nO_R (by omega)]
  have r35 : sR σ1 35 X = sR σ 35 X := by rw [e1, nO_R (by omega)]
  rw [r34, r35]
  refine ⟨k1', k1', k3, b_Region_init_0 ⟨by omega, k3, fun σ2 e2 => ⟨by rw [e2, pR_K]; exact k3, fun σ3 e3 => ⟨by rw [e3, pR_K, e2, pR_K]; exact k1', fun σ4 e4 => ⟨by rw [e4, pR_K, e3, pR_K, e2, pR_K]; exact k1', fun σ5 e5 => h σ5 ?_⟩⟩⟩⟩⟩
  refine ⟨fun f b hb h1 h2 => ?_, ⟨?_, ?_⟩, ⟨?_, ?_⟩, fun f b hb => ?_, ⟨?_, ?_⟩, ⟨fun b hb => ?_, ?_⟩, ?_, ?_, ?_⟩
  · rw [e5, wR_o h2, e4, wR_o h1, e3, wR_n (fun q => by omega), e2, wR_n (fun q => by omega), e1, nO_R (by omega)]
  · rw [e5, wR_o (by decide), e4, wR_s]
  · rw [e5, wR_s]
  · rw [e5, wR_o (by decide), e4, wR_o (by decide), e3, wR_o (by decide), e2, wR_s]
  · rw [e5, wR_o (by decide), e4, wR_o (by decide), e3, wR_s]
  · rw [e5, pR_I, e4, pR_I, e3, pR_I, e2, pR_I, e1, nO_I (by omega)]
  · rw [e5, pR_A, e4, pR_A, e3, pR_A, e2, pR_A, e1, nO_A]
  · rw [e5, pR_B, e4, pR_B, e3, pR_B, e2, pR_B, e1, nO_B]
  · rw [e5, pR_K, e4, pR_K, e3, pR_K, e2, pR_K, e1, nO_K (by omega)]
  · rw [e5, pR_K, e4, pR_K, e3, pR_K, e2, pR_K]; exact k3
  · rw [e5, pR_N, e4, pR_N, e3, pR_N, e2, pR_N, e1, nO_N]
  · rw [e5, pR_X, e4, pR_X, e3, pR_X, e2, pR_X, e1, nO_X]
  · rw [e5, pR_S, e4, pR_S, e3, pR_S, e2, pR_S, e1, nO_S]
theorem p_init (ha : a ≠ 0) (hk : sK τ a = 4) (hw : (so = 0 ∧ wd = 1) ∨ (so ≠ 0 ∧ sK τ so = 2 ∧ iArr (sK τ (sR τ 64 so)) = true ∧ wd = nI (sN τ (sR τ 64 so)))) (h : ∀ τ', phA τ τ' a kd cn wd so pu rg → Q (.inl none) τ') : ca J_Phrase_init [vr a, vi kd, vr so, vi cn, vr pu, vr rg] τ Q := by
  refine b_Phrase_init_0 ⟨ha, hk, fun σ1 e1 => ⟨by rw [e1, pI_K]; exact hk, fun σ2 e2 => ⟨by rw [e2, pR_K, e1, pI_K]; exact hk, fun σ3 e3 => ⟨by rw [e3, pI_K, e2, pR_K, e1, pI_K]; exact hk, fun σ4 e4 => ⟨by rw [e4, pR_K, e3, pI_K, e2, pR_K, e1, pI_K]; exact hk, fun σ5 e5 => ?_⟩⟩⟩⟩⟩
  have eK : sK σ5 = sK τ := by rw [e5, pR_K, e4, pR_K, e3, pI_K, e2, pR_K, e1, pI_K]
  have eN : sN σ5 = sN τ := by rw [e5, pR_N, e4, pR_N, e3, pI_N, e2, pR_N, e1, pI_N]
  have eR : ∀ f b, ¬ (b = a ∧ (f = 129 ∨ f = 131 ∨ f = 132)) → sR σ5 f b = sR τ f b := fun f b hn => by
    rw [e5, wR_n (fun q => hn ⟨q.2, by omega⟩), e4, wR_n (fun q => hn ⟨q.2, by omega⟩), e3, pI_R, e2, wR_n (fun q => hn ⟨q.2, by omega⟩), e1, pI_R]
  have fin : sK σ5 a = 4 ∧ ∀ σ7, σ7 = wI σ5 133 a wd → Q (.inl none) σ7 := by
    refine ⟨by rw [eK]; exact hk, fun σ7 e7 => h σ7 ⟨fun f b hn => ?_, ⟨?_, ?_, ?_⟩, fun f b hn => ?_, ⟨?_, ?_, ?_⟩, ?_, ?_, ?_, ?_, ?_, ?_⟩⟩
    · rw [e7, pI_R]; exact eR f b hn
    · rw [e7, pI_R, e5, wR_o (by decide), e4, wR_o (by decide), e3, pI_R, e2, wR_s]
    · rw [e7, pI_R, e5, wR_o (by decide), e4, wR_s]
    · rw [e7, pI_R, e5, wR_s]
    · rw [e7, wI_n (fun q => hn ⟨q.2, by omega⟩), e5, pR_I, e4, pR_I, e3, wI_n (fun q => hn ⟨q.2, by omega⟩), e2, pR_I, e1, wI_n (fun q => hn ⟨q.2, by omega⟩)]
    · rw [e7, wI_o (by decide), e5, pR_I, e4, pR_I, e3, wI_o (by decide), e2, pR_I, e1, wI_s]
    · rw [e7, wI_o (by decide), e5, pR_I, e4, pR_I, e3, wI_s]
    · rw [e7, wI_s]
    · rw [e7, pI_A, e5, pR_A, e4, pR_A, e3, pI_A, e2, pR_A, e1, pI_A]
    · rw [e7, pI_B, e5, pR_B, e4, pR_B, e3, pI_B, e2, pR_B, e1, pI_B]
    · rw [e7, pI_K]; exact eK
    · rw [e7, pI_N]; exact eN
    · rw [e7, pI_X, e5, pR_X, e4, pR_X, e3, pI_X, e2, pR_X, e1, pI_X]
    · rw [e7, pI_S, e5, pR_S, e4, pR_S, e3, pI_S, e2, pR_S, e1, pI_S]
  rcases hw with ⟨rfl, rfl⟩ | ⟨w1, w2, w3, w4⟩
  · exact x_width0 fin
  · have r64 : sR σ5 64 so = sR τ 64 so := eR 64 so (fun q => by omega)
    refine b_X_widthOf_0 ⟨fun _ => ⟨by rw [eK]; exact w2, b_Text_size_0 ⟨by rw [eK]; exact w2, by rw [r64, eK]; exact w3, b_X_widthOf_12 ?_⟩⟩, fun c => absurd w1 c⟩
    rw [r64, eN, ← w4]
    exact fin
theorem phM_o {c p : Nat} {a b d : Int32} (h : p ≠ P) : phM s m P a b d c p = m c p := by
  unfold phM u2
  rw [if_neg (fun q => h q.2), if_neg (fun q => h q.2), if_neg (fun q => h q.2), if_neg (fun q => h q.2), if_neg (fun q => h q.2)]
theorem phM_c {c : Nat} {a b d : Int32} (h : c ∉ [4, 5, 6, 7, 8]) (k : Nat) : phM s m P a b d c k = m c k := by
  unfold phM
  rw [u2_o (fun e => h (by rw [e]; decide)), u2_o (fun e => h (by rw [e]; decide)), u2_o (fun e => h (by rw [e]; decide)), u2_o (fun e => h (by rw [e]; decide)), u2_o (fun e => h (by rw [e]; decide))]
theorem ph_w (hJ : CJ σ X s m N z T y) (hT : phT σ τ X P kd cn wd so pu) (hP1 : s 336 = nI P) (hP2 : P < 20) {k : Nat} {rp : Bool} {a b c : Int32} (hk : k < 4) (hkd : kd = nI k) (ha : a = nI (k + if rp then 10 else 0))
    (h0 : k = 0 → so = 0 ∧ wd = nI 1) (h1 : k ≠ 0 → ∃ j, j < N ∧ 0 < z j ∧ so = sB σ (X + 1) j ∧ b = nI j ∧ wd = nI (z j)) (h2 : rp = false → pu = 0 ∧ ∃ q, q < 10 ∧ cn = nI q ∧ c = nI q) (h3 : rp = true → ∃ i, i < N ∧ pu = sB σ (X + 1) i ∧ c = nI i ∧ wd = nI (z i)) :
    CJ τ X (u1 (u1 (u1 s 325 (-1)) 326 (-1)) 336 (nI (P + 1))) (phM s m P a b c) N z T y := by
  obtain ⟨J1, J2, J3, J4, J5, J6, J7, J8, J9, J10, J11, J12, J13, J14⟩ := id hJ
  have hX := J1.1.2
  obtain ⟨q, tX', ⟨tk4, tk3⟩, ⟨t128, t130, t133, t137⟩, ⟨t129, t131, t132⟩, ⟨t96, t97⟩, ⟨t34, t35⟩, ⟨tBs, tBo⟩, t161⟩ := hT
  have K : kx X σ τ s (u1 (u1 (u1 s 325 (-1)) 326 (-1)) 336 (nI (P + 1))) m (phM s m P a b c) [161] (fun _ => False) (fun a => a = X + 3) true [325, 326, 336] [4, 5, 6, 7, 8] := ⟨q.1, fun f hf => by rw [u1_o (fun e => hf (by rw [e]; decide)), u1_o (fun e => hf (by rw [e]; decide)), u1_o (fun e => hf (by rw [e]; decide))], fun c hc i => phM_c hc i⟩
  have t := tm2_0 (N := N) (z := z) K (show ¬ (X + 1 = X + 3) by omega)
  obtain ⟨P', p1, p2, p3, p4, p5⟩ := id J5
  have eP : P' = P := by
    rw [p2, n_eq (by omega) (by omega)] at hP1
    exact hP1
  subst eP
  have S1 : cSp τ X (u1 (u1 (u1 s 325 (-1)) 326 (-1)) 336 (nI (P' + 1))) N z := by
    refine ⟨Or.inl ⟨t34, ?_⟩, Or.inl ⟨t35, ?_⟩⟩
    · rw [u1_o (by decide), u1_o (by decide), u1_s]
    · rw [u1_o (by decide), u1_s]
  have S2 : cPh τ X (u1 (u1 (u1 s 325 (-1)) 326 (-1)) 336 (nI (P' + 1))) (phM s m P' a b c) N z := by
    refine ⟨P' + 1, by omega, u1_s _ _ _, t161, fun p hp => ?_, fun p p' hp hp' => ?_⟩
    · by_cases e : p = P'
      · subst e
        rw [tBs]
        unfold phI
        rw [t132, tk4, t137, tk3, t96, t97, t128, t129, t130, t131, t133]
        have e4 : phM s m p a b c 4 p = a := by unfold phM; rw [u2_o (by decide), u2_o (by decide), u2_o (by decide), u2_o (by decide), u2_s]
        have e5 : phM s m p a b c 5 p = b := by unfold phM; rw [u2_o (by decide), u2_o (by decide), u2_o (by decide), u2_s]
        have e6 : phM s m p a b c 6 p = c := by unfold phM; rw [u2_o (by decide), u2_o (by decide), u2_s]
        have e7 : phM s m p a b c 7 p = s 325 := by unfold phM; rw [u2_o (by decide), u2_s]
        have e8 : phM s m p a b c 8 p = s 326 := by unfold phM; rw [u2_s]
        rw [e4, e5, e6, e7, e8]
        refine ⟨⟨by omega, by omega, rfl, rfl⟩, ⟨by omega, by omega, rfl⟩, bd_c J4.1 t, bd_c J4.2 t, k, rp, hk, ha, hkd, h0, fun e => ?_, h2, fun e => ?_⟩
        · obtain ⟨j, j1, j2, j3, j4, j5⟩ := h1 e
          exact ⟨j, j1, j2, by rw [(t.2 j j1).2]; exact j3, j4, j5⟩
        · obtain ⟨j, j1, j3, j4, j5⟩ := h3 e
          exact ⟨j, j1, by rw [(t.2 j j1).2]; exact j3, j4, j5⟩
      · rw [tBo p e]
        exact phI_c (p4 p (by omega)) K t (by decide) (fun c _ => phM_o e)
    · by_cases e1 : p = P'
      · by_cases e2 : p' = P'
        · intro _; omega
        · subst e1
          rw [tBs, tBo p' e2]
          have := (p4 p' (by omega)).1
          intro q; omega
      · by_cases e2 : p' = P'
        · subst e2
          rw [tBs, tBo p e1]
          have := (p4 p (by omega)).1
          intro q; omega
        · rw [tBo p e1, tBo p' e2]
          exact p5 p p' (by omega) (by omega)
  exact ⟨sh_c J1 K.1, cTs_c J2 K (by decide) (show ¬ (X + 1 = X + 3) by omega) (by decide) (by decide), cSg_c J3 J2 K (show ¬ (X + 1 = X + 3) by omega) (fun _ _ e => e) (by decide), S1, S2, cCo_c J6 K (fun e => e) (by decide), cPa_c J7 K t (by decide) (show ¬ (X + 7 = X + 3) by omega) (by decide) (by decide), cDe_c J8 K t (by decide) (fun e => e) (show ¬ (X + 9 = X + 3) by omega) (by decide) (by decide), cRc_c (z := z) (z' := z) J9 K t (by decide) (show ¬ (X + 11 = X + 3) by omega) (by decide) (by decide), cRs_c J10 K (by decide) ⟨(fun e => e), (fun e => e)⟩ (by decide), cPo_c J11 K (by decide) (by decide), cBs_c J12 K (by decide) (show ¬ (X + 16 = X + 3) by omega) (by decide) (by decide), cIx_c J13 J12 K (by decide) (show ¬ (X + 16 = X + 3) by omega) (by decide), cKy_c J14 J12 K (show ¬ (X + 16 = X + 3) by omega) (fun _ _ e => e) (by decide)⟩
/-- the last steps of tally and replace -/
theorem x_col (hJ : CJ σ X s m N z T y) (hP1 : s 336 = nI P) (hP2 : P < 20) (hw : (so = 0 ∧ wd = 1) ∨ ∃ j, j < N ∧ so = sB σ (X + 1) j ∧ wd = nI (z j)) (h : ∀ τ, phT σ τ X P kd cn wd so pu → Q (.inl (some (vi (nI (P + 1))))) τ) :
    ∀ σ5, σ5 = nO σ 4 10 → sK σ5 X = 1 ∧ ca J_X_takeRegion [vr X] σ5 (cA (fun r6 σ6 => sK σ6 (sX σ) = 4 ∧ ca J_Phrase_init [vr (sX σ), vi kd, vr so, vi cn, vr pu, vr r6] σ6 (cV (fun σ7 => sK σ7 (X + 2) = 5 ∧ ca J_Inspection_collect [vr (X + 2), vr (sX σ)] σ7 (cI (fun r8 σ8 => Q (.inl (some (vi r8))) σ8) Q)) Q)) Q) := by
  obtain ⟨J1, J2, J3, J4, J5, J6, J7, J8, J9, J10, J11, J12, J13, J14⟩ := id hJ
  have hX := J1.1.2
  obtain ⟨P', p1, p2, p3, p4, p5⟩ := id J5
  have eP : P' = P := by
    rw [p2, n_eq (by omega) (by omega)] at hP1
    exact hP1
  subst eP
  intro σ5 e5
  have x5 : sX σ5 = sX σ + 1 := by rw [e5, nO_X]
  have k5 : sK σ5 X = 1 := by rw [e5, nO_K (by omega)]; exact sh_k0 J1
  refine ⟨k5, x_region k5 (by omega) (fun τ1 ⟨a1, ⟨a2, a3⟩, ⟨a4, a5⟩, a6, ⟨a7, a8⟩, ⟨a9, a10⟩, a11, a12, a13⟩ => ?_)⟩
  have K4 : sK τ1 (sX σ) = 4 := by rw [a9 _ (by omega), e5]; exact nO_Ks
  refine ⟨K4, p_init (wd := wd) (by omega) K4 ?_ (fun τ2 ⟨b1, ⟨b2, b3, b4⟩, b5, ⟨b6, b7, b8⟩, b9, b10, b11, b12, b13, b14⟩ => ?_)⟩
  · rcases hw with hw | ⟨j, j1, j2, j3⟩
    · exact Or.inl hw
    · obtain ⟨⟨g1, g2⟩, g3, g4, g5, g6, g7, g8⟩ := J2.2.2.2.1 j j1
      have r64 : sR τ1 64 so = so + 1 := by rw [a1 _ _ (by omega) (by decide) (by decide), e5, nO_R (by omega), j2]; exact g4
      refine Or.inr ⟨by omega, ?_, ?_, ?_⟩
      · rw [a9 _ (by omega), e5, nO_K (by omega), j2]; exact g3
      · rw [r64, a9 _ (by omega), e5, nO_K (by omega), j2, g5]; rfl
      · rw [r64, a11, e5, nO_N, j2, g6]; exact j3
  · have Kk : ∀ b, b < sX σ → sK τ2 b = sK σ b := fun b hb => by rw [b11, a9 _ (by omega), e5, nO_K (by omega)]
    have KN : sN τ2 = sN σ := by rw [b12, a11, e5, nO_N]
    have KB : sB τ2 = sB σ := by rw [b10, a8, e5, nO_B]
    have KA : sA τ2 = sA σ := by rw [b9, a7, e5, nO_A]
    have KI : ∀ f b, b < sX σ → sI τ2 f b = sI σ f b := fun f b hb => by rw [b5 f b (fun q => by omega), a6 f b (by omega), e5, nO_I (by omega)]
    have KR : ∀ f b, b < sX σ → f ≠ 34 → f ≠ 35 → sR τ2 f b = sR σ f b := fun f b hb f1 f2 => by rw [b1 f b (fun q => by omega), a1 f b (by omega) f1 f2, e5, nO_R (by omega)]
    have k2 : sK τ2 (X + 2) = 5 := by rw [Kk _ (by omega)]; exact sh_k2 J1
    have k4 : sK τ2 (sX σ) = 4 := by rw [b11]; exact K4
    refine ⟨k2, b_Inspection_collect_0 ⟨k2, k2, ?_⟩⟩
    rw [KR 160 (X + 2) (by omega) (by decide) (by decide), e_160 J1, Kk (X + 3) (by omega), sh_k3 J1, KN, sh_n3 J1, KI 161 (X + 2) (by omega), p3, nI_clamp (by omega), k4]
    refine ⟨⟨⟨by decide, by decide⟩, Or.inr rfl, n_in (by omega) (by decide)⟩, fun τ3 c1 => ?_⟩
    have i3 : sI τ3 161 (X + 2) = nI P' := by rw [c1, pB_I, KI 161 (X + 2) (by omega)]; exact p3
    have k3 : sK τ3 (X + 2) = 5 := by rw [c1, pB_K]; exact k2
    rw [i3, n_s1]
    refine ⟨k3, k3, fun τ4 c2 => ?_⟩
    have i4 : sI τ4 161 (X + 2) = nI (P' + 1) := by rw [c2, wI_s]
    rw [i4]
    refine ⟨by rw [c2, pI_K]; exact k3, h τ4 ?_⟩
    have x4 : sX τ4 = sX σ + 2 := by rw [c2, pI_X, c1, pB_X, b13, a12, x5]
    have R4 : ∀ f b, sR τ4 f b = sR τ2 f b := fun f b => by rw [c2, pI_R, c1, pB_R]
    have I4 : ∀ f b, f ≠ 161 → sI τ4 f b = sI τ2 f b := fun f b hf => by rw [c2, wI_o hf, c1, pB_I]
    have K4' : sK τ4 = sK τ2 := by rw [c2, pI_K, c1, pB_K]
    refine ⟨⟨⟨hX, by omega, fun b hb => ⟨by rw [K4']; exact Kk b hb, by rw [c2, pI_N, c1, pB_N, KN]⟩, fun f b hb hr => ?_, fun f b hb hf hI => ?_, fun b k hb _ _ => by rw [c2, pI_A, c1, pB_A, KA], fun b k hb hB => ?_⟩, by omega, ?_, fun f b hf => ?_, fun b k _ => by rw [c2, pI_A, c1, pB_A, KA]⟩, x4, ⟨?_, ?_⟩, ⟨?_, ?_, ?_, ?_⟩, ⟨?_, ?_, ?_⟩, ⟨?_, ?_⟩, ⟨?_, ?_⟩, ⟨?_, fun j hj => ?_⟩, i4⟩
    · rw [R4]; exact KR f b hb (hr rfl).1 (hr rfl).2
    · rw [I4 f b (fun e => hI (by rw [e]; decide))]; exact KI f b hb
    · rw [c2, pI_B, c1, wB_o hB, KB]
    · rw [c2, pI_S, c1, pB_S, b14, a13, e5, nO_S]; omega
    · have hb := fo_x hX hf
      by_cases e : f = 161
      · subst e
        rw [c2, wI_k (fun e => fo_m (by omega) (by omega) (e ▸ hf)), c1, pB_I]; exact KI _ b hb
      · rw [I4 f b e]; exact KI f b hb
    · rw [K4']; exact k4
    · rw [K4', b11, ← x5]; exact a10
    · rw [I4 _ _ (by decide)]; exact b6
    · rw [I4 _ _ (by decide)]; exact b7
    · rw [I4 _ _ (by decide)]; exact b8
    · rw [I4 _ _ (by decide), b5 _ _ (fun q => by omega), a6 _ _ (by omega), e5, nO_Is]
    · rw [R4]; exact b2
    · rw [R4]; exact b3
    · rw [R4, ← x5]; exact b4
    · rw [R4, b1 _ _ (fun q => by omega), ← x5, a4, e5, nO_R (by omega)]
    · rw [R4, b1 _ _ (fun q => by omega), ← x5, a5, e5, nO_R (by omega)]
    · rw [R4, b1 _ _ (fun q => by omega)]; exact a2
    · rw [R4, b1 _ _ (fun q => by omega)]; exact a3
    · rw [c2, pI_B, c1, wB_s]
    · rw [c2, pI_B, c1, wB_k hj, KB]
theorem x_roomp (hs : sh σ X) (hP : cPh σ X s m N z) (h2 : s 336 = nI 20 → Q (.inr (2, sX σ)) (nO σ 202 6)) (h0 : ∀ P, s 336 = nI P → P < 20 → Q (.inl none) σ) : ca J_X_checkRoomForPhrase [vr X] σ Q := by
  obtain ⟨P, p1, p2, p3, p4⟩ := hP
  refine b_X_checkRoomForPhrase_0 ⟨sh_k0 hs, ?_⟩
  rw [e_36 hs, p3, lit_20, n_lt (by omega) (by decide)]
  exact ⟨sh_k2 hs, fun c => h0 P p2 c, fun c => h2 (by rw [p2, show P = 20 by omega])⟩
theorem x_tally (hJ : CJ σ X s m N z T y) {x w v : Int32} (h1 : ¬ taOk N z x w v → Q (.inr (1, sX σ)) (nO σ 201 6)) (h2 : taOk N z x w v → s 336 = nI 20 → Q (.inr (2, sX σ)) (nO σ 202 6)) (h0 : ∀ P, taOk N z x w v → s 336 = nI P → P < 20 → ∀ σ', gd X σ σ' → CJ σ' X (u1 (u1 (u1 s 325 (-1)) 326 (-1)) 336 (nI (P + 1))) (phM s m P x w v) N z T y → Q (.inl (some (vi (nI (P + 1))))) σ') : ca J_X_tally [vr X, vi x, vi w, vi v] σ Q := by
  obtain ⟨J1, J2, J3, J4, J5, J6, J7, J8, J9, J10, J11, J12, J13, J14⟩ := id hJ
  have go : ∀ k so wd, k ≤ 2 → x = nI k → (k = 0 → so = 0 ∧ wd = nI 1) → (k ≠ 0 → ∃ j, j < N ∧ 0 < z j ∧ so = sB σ (X + 1) j ∧ w = nI j ∧ wd = nI (z j)) → ca J_X_checkCounter [vi v] σ (cV (fun σ3 => sK σ3 X = 1 ∧ ca J_X_checkRoomForPhrase [vr X] σ3 (cV (fun σ4 => sK σ4 X = 1 ∧ ((∀ σ5, σ5 = nO σ4 4 10 → sK σ5 X = 1 ∧ ca J_X_takeRegion [vr X] σ5 (cA (fun r6 σ6 => sK σ6 (sX σ4) = 4 ∧ ca J_Phrase_init [vr (sX σ4), vi x, vr so, vi v, vr 0, vr r6] σ6 (cV (fun σ7 => sK σ7 (sR σ4 36 X) = 5 ∧ ca J_Inspection_collect [vr (sR σ4 36 X), vr (sX σ4)] σ7 (cI (fun r8 σ8 => Q (.inl (some (vi r8))) σ8) Q)) Q)) Q)))) Q)) Q) := by
    intro k so wd hk hx c0 c1
    refine x_cc (fun c => h1 (fun q => c q.2)) (fun q hq hv => ⟨sh_k0 J1, ?_⟩)
    have ok : taOk N z x w v := ⟨⟨k, hk, hx, fun e => by obtain ⟨j, j1, j2, j3, j4, j5⟩ := c1 e; exact ⟨j, ⟨j1, j4⟩, j2⟩⟩, q, hq, hv⟩
    refine x_roomp J1 J5 (fun e => h2 ok e) (fun P hP1 hP2 => ⟨sh_k0 J1, ?_⟩)
    rw [e_36 J1]
    refine x_col (wd := wd) hJ hP1 hP2 ?_ (fun τ hτ => h0 P ok hP1 hP2 τ (gd_of hτ.1 (by decide) (by decide)) ?_)
    · by_cases e : k = 0
      · exact Or.inl ⟨(c0 e).1, by rw [(c0 e).2]; rfl⟩
      · obtain ⟨j, j1, j2, j3, j4, j5⟩ := c1 e
        exact Or.inr ⟨j, j1, j3, j5⟩
    · exact ph_w (rp := false) hJ hτ hP1 hP2 (show k < 4 by omega) hx (by rw [hx]; rfl) c0 c1 (fun _ => ⟨rfl, q, by omega, hv, hv⟩) (fun e => absurd e (by decide))
  refine b_X_tally_0 ?_
  rw [lit_2]
  refine x_kind (by decide) (fun c => h1 (fun ⟨⟨k, q1, q2, _⟩, _⟩ => c ⟨k, q1, q2⟩)) (fun k hk hx => ⟨sh_k0 J1, x_sought J1 J2 (fun c => h1 (fun ⟨⟨k', q1, q2, q3⟩, _⟩ => ?_)) (fun c => ?_) (fun j c hj hw hz => ?_)⟩)
  · refine c.2 (q3 (fun e => c.1 ?_))
    rw [q2, e]; rfl
  · refine go k 0 (nI 1) hk hx (fun _ => ⟨rfl, rfl⟩) (fun e => ?_)
    rw [hx, lit_0, n_eq (by omega) (by decide)] at c
    exact absurd c e
  · refine go k _ (nI (z j)) hk hx (fun e => ?_) (fun e => ⟨j, hj, hz, rfl, hw, rfl⟩)
    rw [hx, e] at c
    exact absurd rfl c
theorem x_replace (hJ : CJ σ X s m N z T y) {x w v : Int32} (h1 : ¬ reOk N z x w v → Q (.inr (1, sX σ)) (nO σ 201 6)) (h2 : reOk N z x w v → s 336 = nI 20 → Q (.inr (2, sX σ)) (nO σ 202 6)) (h0 : ∀ P, reOk N z x w v → s 336 = nI P → P < 20 → ∀ σ', gd X σ σ' → CJ σ' X (u1 (u1 (u1 s 325 (-1)) 326 (-1)) 336 (nI (P + 1))) (phM s m P (10 + x) w v) N z T y → Q (.inl (some (vi (nI (P + 1))))) σ') : ca J_X_replace [vr X, vi x, vi w, vi v] σ Q := by
  obtain ⟨J1, J2, J3, J4, J5, J6, J7, J8, J9, J10, J11, J12, J13, J14⟩ := id hJ
  have hN := J2.2.1
  have go : ∀ k so wd, k ≤ 3 → x = nI k → (k = 0 → so = 0 ∧ wd = 1) → (k ≠ 0 → ∃ j, j < N ∧ 0 < z j ∧ so = sB σ (X + 1) j ∧ w = nI j ∧ wd = z j) → wd ≤ 60 → ca J_X_knownText [vr X, vi v] σ (cA (fun r3 σ3 => sK σ3 r3 = 2 ∧ ca J_Text_size [vr r3] σ3 (cI (fun r4 σ4 => ca J_X_widthOf [vr so] σ4 (cI (fun r5 σ5 => (r4 = r5 → sK σ5 X = 1 ∧ ca J_X_checkRoomForPhrase [vr X] σ5 (cV (fun σ7 => sK σ7 X = 1 ∧ ((∀ σ8, σ8 = nO σ7 4 10 → sK σ8 X = 1 ∧ ca J_X_takeRegion [vr X] σ8 (cA (fun r9 σ9 => sK σ9 (sX σ7) = 4 ∧ ca J_Phrase_init [vr (sX σ7), vi x, vr so, vi (-1 : Int32), vr r3, vr r9] σ9 (cV (fun σ10 => sK σ10 (sR σ7 36 X) = 5 ∧ ca J_Inspection_collect [vr (sR σ7 36 X), vr (sX σ7)] σ10 (cI (fun r11 σ11 => Q (.inl (some (vi r11))) σ11) Q)) Q)) Q)))) Q)) ∧ (¬ (r4 = r5) → Q (.inr (1, sX σ5)) (nO σ5 201 6))) Q)) Q)) Q) := by
    intro k so wd hk hx c0 c1 hwd
    refine x_known J1 J2 (fun c => h1 (fun ⟨_, _, _, i, q, _⟩ => c ⟨i, q⟩)) (fun i hi hv => ⟨(J2.2.2.2.1 i hi).2.1, tX_size J2 hi ?_⟩)
    have zi := (J2.2.2.2.1 i hi).2.2.2.2.2.2
    have fin : ∀ r5 : Int32, r5 = nI wd → (nI (z i) = r5 → sK σ X = 1 ∧ ca J_X_checkRoomForPhrase [vr X] σ (cV (fun σ7 => sK σ7 X = 1 ∧ ((∀ σ8, σ8 = nO σ7 4 10 → sK σ8 X = 1 ∧ ca J_X_takeRegion [vr X] σ8 (cA (fun r9 σ9 => sK σ9 (sX σ7) = 4 ∧ ca J_Phrase_init [vr (sX σ7), vi x, vr so, vi (-1 : Int32), vr (sB σ (X + 1) i), vr r9] σ9 (cV (fun σ10 => sK σ10 (sR σ7 36 X) = 5 ∧ ca J_Inspection_collect [vr (sR σ7 36 X), vr (sX σ7)] σ10 (cI (fun r11 σ11 => Q (.inl (some (vi r11))) σ11) Q)) Q)) Q)))) Q)) ∧ (¬ (nI (z i) = r5) → Q (.inr (1, sX σ)) (nO σ 201 6)) := by
      intro r5 hr
      subst hr
      rw [n_eq (by omega) (by omega)]
      refine ⟨fun e => ⟨sh_k0 J1, ?_⟩, fun e => h1 (fun ⟨k', q1, q2, i', ⟨q3, q4⟩, q5⟩ => ?_)⟩
      · have ok : reOk N z x w v := by
          refine ⟨k, hk, hx, i, ⟨hi, hv⟩, ?_⟩
          by_cases ek : k = 0
          · exact Or.inl ⟨ek, by rw [e]; exact (c0 ek).2⟩
          · obtain ⟨j, j1, j2, j3, j4, j5⟩ := c1 ek
            exact Or.inr ⟨ek, j, ⟨j1, j4⟩, j2, by rw [e]; exact j5⟩
        refine x_roomp J1 J5 (fun e => h2 ok e) (fun P hP1 hP2 => ⟨sh_k0 J1, ?_⟩)
        rw [e_36 J1]
        refine x_col (wd := nI wd) hJ hP1 hP2 ?_ (fun τ hτ => h0 P ok hP1 hP2 τ (gd_of hτ.1 (by decide) (by decide)) ?_)
        · by_cases ek : k = 0
          · exact Or.inl ⟨(c0 ek).1, by rw [(c0 ek).2]; rfl⟩
          · obtain ⟨j, j1, j2, j3, j4, j5⟩ := c1 ek
            exact Or.inr ⟨j, j1, j3, by rw [j5]⟩
        · refine ph_w (rp := true) hJ hτ hP1 hP2 (show k < 4 by omega) hx ?_ (fun ek => ⟨(c0 ek).1, by rw [(c0 ek).2]⟩) (fun ek => ?_) (fun e => absurd e (by decide)) (fun _ => ⟨i, hi, rfl, hv, by rw [e]⟩)
          · rw [hx, lit_10, nI_add]
            exact congrArg nI (Nat.add_comm 10 k)
          · obtain ⟨j, j1, j2, j3, j4, j5⟩ := c1 ek
            exact ⟨j, j1, j2, j3, j4, by rw [j5]⟩
      · rw [hx, n_eq (by omega) (by omega)] at q2
        subst q2
        rw [hv, n_eq (by omega) (by omega)] at q4
        subst q4
        rcases q5 with ⟨q6, q7⟩ | ⟨q6, j, ⟨j1, j2⟩, j3, j4⟩
        · exact e (by rw [q7, (c0 q6).2])
        · obtain ⟨j', r1, r2, r3, r4, r5⟩ := c1 q6
          rw [r4, n_eq (by omega) (by omega)] at j2
          subst j2
          exact e (by rw [j4, r5])
    by_cases ek : k = 0
    · have e0 := c0 ek
      rw [e0.1]
      refine x_width0 ?_
      have f0 := fin 1 (by rw [e0.2]; rfl)
      rw [e0.1] at f0
      exact f0
    · obtain ⟨j, r1, r2, r3, r4, r5⟩ := c1 ek
      rw [r3]
      refine x_width1 J2 r1 ?_
      have f0 := fin (nI (z j)) (by rw [r5])
      rw [r3] at f0
      exact f0
  refine b_X_replace_0 ?_
  rw [lit_3]
  refine x_kind (by decide) (fun c => h1 (fun ⟨k, q1, q2, _⟩ => c ⟨k, q1, q2⟩)) (fun k hk hx => ⟨sh_k0 J1, x_sought J1 J2 (fun c => h1 (fun ⟨k', q1, q2, i, q3, q4⟩ => ?_)) (fun c => ⟨sh_k0 J1, ?_⟩) (fun j c hj hw hz => ⟨sh_k0 J1, ?_⟩)⟩)
  · rcases q4 with ⟨q5, q6⟩ | ⟨q5, j, q6, q7, q8⟩
    · exact c.1 (by rw [q2, q5]; rfl)
    · exact c.2 ⟨j, q6, q7⟩
  · refine go k 0 1 hk hx (fun _ => ⟨rfl, rfl⟩) (fun e => ?_) (by decide)
    rw [hx, lit_0, n_eq (by omega) (by decide)] at c
    exact absurd c e
  · refine go k _ (z j) hk hx (fun e => ?_) (fun e => ⟨j, hj, hz, rfl, hw, rfl⟩) (J2.2.2.2.1 j hj).2.2.2.2.2.2
    rw [hx, e] at c
    exact absurd rfl c
end CT
