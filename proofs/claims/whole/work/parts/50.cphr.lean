/-! LAYER 2: tally, replace of the class. -/
section CT
variable {X : Nat} {σ τ : iS} {s : Nat → Int32} {m : Nat → Nat → Int32} {N T : Nat} {z y : Nat → Nat} {Q : iO → iS → Prop}
theorem pI_R {g b f a : Nat} {x : Int32} : sR (wI τ g b x) f a = sR τ f a := rfl
theorem pB_R {g b f a x : Nat} : sR (wB τ g b x) f a = sR τ f a := rfl
theorem pR_I {g b f a x : Nat} : sI (wR τ g b x) f a = sI τ f a := rfl
theorem pB_I {g b f a x : Nat} : sI (wB τ g b x) f a = sI τ f a := rfl
/-- a phrase with its region, collected -/
def phS (σ : iS) (X P : Nat) (kd cn wd : Int32) (so pu : Nat) : iS := wI (wB (wI (wR (wR (wI (wR (wI (wR (wR (wR (wR (nO (nO σ 4 10) 3 2) 96 (sX σ + 1) (sR σ 34 X)) 97 (sX σ + 1) (sR σ 35 X)) 34 X 0) 35 X 0) 128 (sX σ) kd) 129 (sX σ) so) 130 (sX σ) cn) 131 (sX σ) pu) 132 (sX σ) (sX σ + 1)) 133 (sX σ) wd) (X + 3) P (sX σ)) 161 (X + 2) (nI (P + 1))
variable {P : Nat} {kd cn wd : Int32} {so pu : Nat}
theorem phS_q (h : X + 41 < sX σ) : fp X σ (phS σ X P kd cn wd so pu) [161] (fun _ => False) (fun a => a = X + 3) true 2 12 :=
  fp_I (fp_B (fp_I (fp_R (fp_R (fp_I (fp_R (fp_I (fp_R (fp_R (fp_R (fp_R (fp_O (fp_O (fp_0 h))) (Or.inl (Nat.le_succ _))) (Or.inl (Nat.le_succ _))) (Or.inr ⟨rfl, Or.inl rfl⟩)) (Or.inr ⟨rfl, Or.inr rfl⟩)) (Or.inl (Nat.le_refl _))) (Or.inl (Nat.le_refl _))) (Or.inl (Nat.le_refl _))) (Or.inl (Nat.le_refl _))) (Or.inl (Nat.le_refl _))) (Or.inl (Nat.le_refl _))) (Or.inr rfl)) (Or.inr ⟨by decide, fo_m (by omega) (by omega)⟩)
theorem phS_128 : sI (phS σ X P kd cn wd so pu) 128 (sX σ) = kd := by unfold phS; rw [wI_o (by decide), pB_I, wI_o (by decide), pR_I, pR_I, wI_o (by decide), pR_I, wI_s]
theorem phS_130 : sI (phS σ X P kd cn wd so pu) 130 (sX σ) = cn := by unfold phS; rw [wI_o (by decide), pB_I, wI_o (by decide), pR_I, pR_I, wI_s]
theorem phS_133 : sI (phS σ X P kd cn wd so pu) 133 (sX σ) = wd := by unfold phS; rw [wI_o (by decide), pB_I, wI_s]
theorem phS_137 : sI (phS σ X P kd cn wd so pu) 137 (sX σ) = 0 := by
  unfold phS
  rw [wI_o (by decide), pB_I, wI_o (by decide), pR_I, pR_I, wI_o (by decide), pR_I, wI_o (by decide), pR_I, pR_I, pR_I, pR_I, nO_I (fun e => by have e : sX σ = sX σ + 1 := e; omega), nO_Is]
theorem phS_129 : sR (phS σ X P kd cn wd so pu) 129 (sX σ) = so := by unfold phS; rw [pI_R, pB_R, pI_R, wR_o (by decide), wR_o (by decide), pI_R, wR_s]
theorem phS_131 : sR (phS σ X P kd cn wd so pu) 131 (sX σ) = pu := by unfold phS; rw [pI_R, pB_R, pI_R, wR_o (by decide), wR_s]
theorem phS_132 : sR (phS σ X P kd cn wd so pu) 132 (sX σ) = sX σ + 1 := by unfold phS; rw [pI_R, pB_R, pI_R, wR_s]
theorem phS_96 : sR (phS σ X P kd cn wd so pu) 96 (sX σ + 1) = sR σ 34 X := by unfold phS; rw [pI_R, pB_R, pI_R, wR_o (by decide), wR_o (by decide), pI_R, wR_o (by decide), pI_R, wR_o (by decide), wR_o (by decide), wR_o (by decide), wR_s]
theorem phS_97 : sR (phS σ X P kd cn wd so pu) 97 (sX σ + 1) = sR σ 35 X := by unfold phS; rw [pI_R, pB_R, pI_R, wR_o (by decide), wR_o (by decide), pI_R, wR_o (by decide), pI_R, wR_o (by decide), wR_o (by decide), wR_s]
theorem phS_34 : sR (phS σ X P kd cn wd so pu) 34 X = 0 := by unfold phS; rw [pI_R, pB_R, pI_R, wR_o (by decide), wR_o (by decide), pI_R, wR_o (by decide), pI_R, wR_o (by decide), wR_s]
theorem phS_35 : sR (phS σ X P kd cn wd so pu) 35 X = 0 := by unfold phS; rw [pI_R, pB_R, pI_R, wR_o (by decide), wR_o (by decide), pI_R, wR_o (by decide), pI_R, wR_s]
theorem phS_k4 : sK (phS σ X P kd cn wd so pu) (sX σ) = 4 := by
  show sK (nO (nO σ 4 10) 3 2) (sX σ) = 4
  rw [nO_K (fun e => by have e : sX σ = sX σ + 1 := e; omega), nO_Ks]
theorem phS_k3 : sK (phS σ X P kd cn wd so pu) (sX σ + 1) = 3 := nO_Ks (τ := nO σ 4 10)
theorem phS_Bs : sB (phS σ X P kd cn wd so pu) (X + 3) P = sX σ := wB_s (τ := wI (wR (wR (wI (wR (wI (wR (wR (wR (wR (nO (nO σ 4 10) 3 2) 96 (sX σ + 1) (sR σ 34 X)) 97 (sX σ + 1) (sR σ 35 X)) 34 X 0) 35 X 0) 128 (sX σ) kd) 129 (sX σ) so) 130 (sX σ) cn) 131 (sX σ) pu) 132 (sX σ) (sX σ + 1)) 133 (sX σ) wd)
theorem phS_Bo {j : Nat} (h : j ≠ P) : sB (phS σ X P kd cn wd so pu) (X + 3) j = sB σ (X + 3) j := if_neg (fun q => h q.2)
theorem phM_o {c p : Nat} {a b d : Int32} (h : p ≠ P) : phM s m P a b d c p = m c p := by
  unfold phM u2
  rw [if_neg (fun q => h q.2), if_neg (fun q => h q.2), if_neg (fun q => h q.2), if_neg (fun q => h q.2), if_neg (fun q => h q.2)]
theorem phM_c {c : Nat} {a b d : Int32} (h : c ∉ [4, 5, 6, 7, 8]) (k : Nat) : phM s m P a b d c k = m c k := by
  unfold phM
  rw [u2_o (fun e => h (by rw [e]; decide)), u2_o (fun e => h (by rw [e]; decide)), u2_o (fun e => h (by rw [e]; decide)), u2_o (fun e => h (by rw [e]; decide)), u2_o (fun e => h (by rw [e]; decide))]
theorem ph_w (hJ : CJ σ X s m N z T y) (hP1 : s 336 = nI P) (hP2 : P < 20) {k : Nat} {rp : Bool} {a b c : Int32} (hk : k < 4) (hkd : kd = nI k) (ha : a = nI (k + if rp then 10 else 0))
    (h0 : k = 0 → so = 0 ∧ wd = nI 1) (h1 : k ≠ 0 → ∃ j, j < N ∧ 0 < z j ∧ so = sB σ (X + 1) j ∧ b = nI j ∧ wd = nI (z j)) (h2 : rp = false → pu = 0 ∧ ∃ q, q < 10 ∧ cn = nI q ∧ c = nI q) (h3 : rp = true → ∃ i, i < N ∧ pu = sB σ (X + 1) i ∧ c = nI i ∧ wd = nI (z i)) :
    CJ (phS σ X P kd cn wd so pu) X (u1 (u1 (u1 s 325 (-1)) 326 (-1)) 336 (nI (P + 1))) (phM s m P a b c) N z T y := by
  obtain ⟨J1, J2, J3, J4, J5, J6, J7, J8, J9, J10, J11, J12, J13, J14⟩ := id hJ
  have hX := J1.1.2
  have q := phS_q (P := P) (kd := kd) (cn := cn) (wd := wd) (so := so) (pu := pu) hX
  have K : kx X σ (phS σ X P kd cn wd so pu) s (u1 (u1 (u1 s 325 (-1)) 326 (-1)) 336 (nI (P + 1))) m (phM s m P a b c) [161] (fun _ => False) (fun a => a = X + 3) true [325, 326, 336] [4, 5, 6, 7, 8] := ⟨q.1, fun f hf => by rw [u1_o (fun e => hf (by rw [e]; decide)), u1_o (fun e => hf (by rw [e]; decide)), u1_o (fun e => hf (by rw [e]; decide))], fun c hc i => phM_c hc i⟩
  have t := tm2_0 (N := N) (z := z) K (show ¬ (X + 1 = X + 3) by omega)
  obtain ⟨P', p1, p2, p3, p4, p5⟩ := id J5
  have eP : P' = P := by
    rw [p2, n_eq (by omega) (by omega)] at hP1
    exact hP1
  subst eP
  have S1 : cSp (phS σ X P' kd cn wd so pu) X (u1 (u1 (u1 s 325 (-1)) 326 (-1)) 336 (nI (P' + 1))) N z := by
    refine ⟨Or.inl ⟨phS_34, ?_⟩, Or.inl ⟨phS_35, ?_⟩⟩
    · rw [u1_o (by decide), u1_o (by decide), u1_s]
    · rw [u1_o (by decide), u1_s]
  have S2 : cPh (phS σ X P' kd cn wd so pu) X (u1 (u1 (u1 s 325 (-1)) 326 (-1)) 336 (nI (P' + 1))) (phM s m P' a b c) N z := by
    refine ⟨P' + 1, by omega, u1_s _ _ _, wI_s, fun p hp => ?_, fun p p' hp hp' => ?_⟩
    · by_cases e : p = P'
      · subst e
        rw [phS_Bs]
        unfold phI
        rw [phS_132, phS_k4, phS_137, phS_k3, phS_96, phS_97, phS_128, phS_129, phS_130, phS_131, phS_133]
        have e4 : phM s m p a b c 4 p = a := by unfold phM; rw [u2_o (by decide), u2_o (by decide), u2_o (by decide), u2_o (by decide), u2_s]
        have e5 : phM s m p a b c 5 p = b := by unfold phM; rw [u2_o (by decide), u2_o (by decide), u2_o (by decide), u2_s]
        have e6 : phM s m p a b c 6 p = c := by unfold phM; rw [u2_o (by decide), u2_o (by decide), u2_s]
        have e7 : phM s m p a b c 7 p = s 325 := by unfold phM; rw [u2_o (by decide), u2_s]
        have e8 : phM s m p a b c 8 p = s 326 := by unfold phM; rw [u2_s]
        rw [e4, e5, e6, e7, e8]
        refine ⟨⟨by omega, ?_, rfl, rfl⟩, ⟨by omega, Nat.lt_succ_self _, rfl⟩, bd_c J4.1 t, bd_c J4.2 t, k, rp, hk, ha, hkd, h0, fun e => ?_, h2, fun e => ?_⟩
        · show sX σ < sX σ + 1 + 1; omega
        · obtain ⟨j, j1, j2, j3, j4, j5⟩ := h1 e
          exact ⟨j, j1, j2, by rw [(t.2 j j1).2]; exact j3, j4, j5⟩
        · obtain ⟨j, j1, j3, j4, j5⟩ := h3 e
          exact ⟨j, j1, by rw [(t.2 j j1).2]; exact j3, j4, j5⟩
      · rw [phS_Bo e]
        exact phI_c (p4 p (by omega)) K t (by decide) (fun c _ => phM_o e)
    · by_cases e1 : p = P'
      · by_cases e2 : p' = P'
        · intro _; omega
        · subst e1
          rw [phS_Bs, phS_Bo e2]
          have := (p4 p' (by omega)).1
          intro q; omega
      · by_cases e2 : p' = P'
        · subst e2
          rw [phS_Bs, phS_Bo e1]
          have := (p4 p (by omega)).1
          intro q; omega
        · rw [phS_Bo e1, phS_Bo e2]
          exact p5 p p' (by omega) (by omega)
  exact ⟨sh_c J1 K.1, cTs_c J2 K (by decide) (show ¬ (X + 1 = X + 3) by omega) (by decide) (by decide), cSg_c J3 J2 K (show ¬ (X + 1 = X + 3) by omega) (fun _ _ e => e) (by decide), S1, S2, cCo_c J6 K (fun e => e) (by decide), cPa_c J7 K t (by decide) (show ¬ (X + 7 = X + 3) by omega) (by decide) (by decide), cDe_c J8 K t (by decide) (fun e => e) (show ¬ (X + 9 = X + 3) by omega) (by decide) (by decide), cRc_c (z := z) (z' := z) J9 K t (by decide) (show ¬ (X + 11 = X + 3) by omega) (by decide) (by decide), cRs_c J10 K (by decide) ⟨(fun e => e), (fun e => e)⟩ (by decide), cPo_c J11 K (by decide) (by decide), cBs_c J12 K (by decide) (show ¬ (X + 16 = X + 3) by omega) (by decide) (by decide), cIx_c J13 J12 K (by decide) (show ¬ (X + 16 = X + 3) by omega) (by decide), cKy_c J14 J12 K (show ¬ (X + 16 = X + 3) by omega) (fun _ _ e => e) (by decide)⟩
/-- the last steps of tally and replace -/
theorem x_col (hJ : CJ σ X s m N z T y) (hP1 : s 336 = nI P) (hP2 : P < 20) {x1 x3 : Int32} {r2 r3 : Nat} (hw : ∀ τ : iS, ∀ Q' : iO → iS → Prop, fp X σ τ [161] (fun _ => False) (fun a => a = X + 3) true 2 12 → Q' (.inl (some (vi wd))) τ → ca J_X_widthOf [vr r2] τ Q') (h : Q (.inl (some (vi (nI (P + 1))))) (phS σ X P x1 x3 wd r2 r3)) :
    ∀ σ5, σ5 = nO σ 4 10 → sK σ5 X = 1 ∧ ca J_X_takeRegion [vr X] σ5 (cA (fun r6 σ6 => sK σ6 (sX σ) = 4 ∧ ca J_Phrase_init [vr (sX σ), vi x1, vr r2, vi x3, vr r3, vr r6] σ6 (cV (fun σ7 => sK σ7 (X + 2) = 5 ∧ ca J_Inspection_collect [vr (X + 2), vr (sX σ)] σ7 (cI (fun r8 σ8 => Q (.inl (some (vi r8))) σ8) Q)) Q)) Q) := by
  obtain ⟨J1, J2, J3, J4, J5, J6, J7, J8, J9, J10, J11, J12, J13, J14⟩ := id hJ
  have hX := J1.1.2
  obtain ⟨P', p1, p2, p3, p4, p5⟩ := id J5
  have eP : P' = P := by
    rw [p2, n_eq (by omega) (by omega)] at hP1
    exact hP1
  subst eP
  intro σ5 e5
  subst e5
  have q1 : fp X σ (nO σ 4 10) [161] (fun _ => False) (fun a => a = X + 3) true 1 10 := fp_O (fp_0 hX)
  have H1 := sh_c J1 q1.1
  refine ⟨sh_k0 H1, b_X_takeRegion_0 (fun σ1 e1 => ?_)⟩
  subst e1
  have q2 := fp_O (k := 3) (n := 2) q1
  have H2 := sh_c J1 q2.1
  have r34 : sR (nO (nO σ 4 10) 3 2) 34 X = sR σ 34 X := by rw [nO_R (fun e => by have e : X = sX σ + 1 := e; omega), nO_R (by omega)]
  have r35 : sR (nO (nO σ 4 10) 3 2) 35 X = sR σ 35 X := by rw [nO_R (fun e => by have e : X = sX σ + 1 := e; omega), nO_R (by omega)]
  rw [r34, r35]
  refine ⟨sh_k0 H2, sh_k0 H2, nO_Ks (τ := nO σ 4 10), b_Region_init_0 ⟨Nat.succ_ne_zero _, nO_Ks (τ := nO σ 4 10), fun σ3 e3 => ⟨by subst e3; exact nO_Ks (τ := nO σ 4 10), fun σ4 e4 => ?_⟩⟩⟩
  subst e3
  subst e4
  have q4 := fp_R (g := 97) (b := sX σ + 1) (x := sR σ 35 X) (fp_R (g := 96) (b := sX σ + 1) (x := sR σ 34 X) q2 (Or.inl (Nat.le_succ _))) (Or.inl (Nat.le_succ _))
  have H4 := sh_c J1 q4.1
  have k4 : sK (nO (nO σ 4 10) 3 2) (sX σ) = 4 := by
    rw [nO_K (fun e => by have e : sX σ = sX σ + 1 := e; omega), nO_Ks]
  refine ⟨sh_k0 H4, fun σ5 e5 => ⟨by subst e5; exact sh_k0 H4, fun σ6 e6 => ?_⟩⟩
  subst e5
  subst e6
  refine ⟨k4, b_Phrase_init_0 ⟨by omega, k4, fun σ7 e7 => ⟨by subst e7; exact k4, fun σ8 e8 => ⟨by subst e7; subst e8; exact k4, fun σ9 e9 => ⟨by subst e7; subst e8; subst e9; exact k4, fun σ10 e10 => ⟨by subst e7; subst e8; subst e9; subst e10; exact k4, fun σ11 e11 => ?_⟩⟩⟩⟩⟩⟩
  subst e7; subst e8; subst e9; subst e10; subst e11
  have q11 := fp_R (g := 132) (b := sX σ) (x := sX σ + 1) (fp_R (g := 131) (b := sX σ) (x := r3) (fp_I (g := 130) (b := sX σ) (x := x3) (fp_R (g := 129) (b := sX σ) (x := r2) (fp_I (g := 128) (b := sX σ) (x := x1) (fp_R (g := 35) (b := X) (x := 0) (fp_R (g := 34) (b := X) (x := 0) q4 (Or.inr ⟨rfl, Or.inl rfl⟩)) (Or.inr ⟨rfl, Or.inr rfl⟩)) (Or.inl (Nat.le_refl _))) (Or.inl (Nat.le_refl _))) (Or.inl (Nat.le_refl _))) (Or.inl (Nat.le_refl _))) (Or.inl (Nat.le_refl _))
  refine hw _ _ q11 ⟨k4, fun σ12 e12 => ?_⟩
  subst e12
  have q12 := fp_I (g := 133) (b := sX σ) (x := wd) q11 (Or.inl (Nat.le_refl _))
  have H12 := sh_c J1 q12.1
  have c161 := (q12.1.2.2.2.2.1 161 (X + 2) (by omega) (fo_m (by omega) (by omega)))
  have i161 : sI (wI (wR (wR (wI (wR (wI (wR (wR (wR (wR (nO (nO σ 4 10) 3 2) 96 (sX σ + 1) (sR σ 34 X)) 97 (sX σ + 1) (sR σ 35 X)) 34 X 0) 35 X 0) 128 (sX σ) x1) 129 (sX σ) r2) 130 (sX σ) x3) 131 (sX σ) r3) 132 (sX σ) (sX σ + 1)) 133 (sX σ) wd) 161 (X + 2) = nI P' := by
    rw [wI_o (by decide), pR_I, pR_I, wI_o (by decide), pR_I, wI_o (by decide), pR_I, pR_I, pR_I, pR_I, nO_I (fun e => by have e : X + 2 = sX σ + 1 := e; omega), nO_I (by omega)]
    exact p3
  refine ⟨sh_k2 H12, b_Inspection_collect_0 ⟨sh_k2 H12, sh_k2 H12, ?_⟩⟩
  have j1 := e_160 H12
  have j2 := sh_k3 H12
  have j3 := sh_n3 H12
  refine ⟨⟨⟨?_, ?_⟩, Or.inr ?_, ?_⟩, fun σ13 e13 => ?_⟩
  · refine Nat.le_of_le_of_eq (by decide : 110 ≤ 114) (Eq.trans j2.symm ?_)
    exact congrArg (sK _) j1.symm
  · refine Nat.lt_of_le_of_lt (Nat.le_of_eq (Eq.trans (congrArg (sK _) j1) j2)) (by decide)
  · refine Eq.trans (congrArg (· + 110) k4) ?_
    exact Eq.trans j2.symm (congrArg (sK _) j1.symm)
  · have k5 := n_in (show P' < 20 by omega) (by decide)
    rw [← j3, ← i161, ← j1] at k5
    exact k5
  · have e13 : σ13 = wB (wI (wR (wR (wI (wR (wI (wR (wR (wR (wR (nO (nO σ 4 10) 3 2) 96 (sX σ + 1) (sR σ 34 X)) 97 (sX σ + 1) (sR σ 35 X)) 34 X 0) 35 X 0) 128 (sX σ) x1) 129 (sX σ) r2) 130 (sX σ) x3) 131 (sX σ) r3) 132 (sX σ) (sX σ + 1)) 133 (sX σ) wd) (X + 3) P' (sX σ) := by
      refine Eq.trans e13 ?_
      have e1 := congrArg Int32.toNatClampNeg i161
      rw [nI_clamp (by omega)] at e1
      exact congr (congrArg (fun a => wB _ a) j1) e1 ▸ rfl
    subst e13
    refine ⟨sh_k2 H12, sh_k2 H12, fun σ14 e14 => ?_⟩
    have e14 : σ14 = phS σ X P' x1 x3 wd r2 r3 := by
      refine Eq.trans e14 ?_
      exact congrArg (wI _ 161 (X + 2)) (Eq.trans (congrArg (· + (1 : Int32)) i161) (n_s1 P'))
    subst e14
    refine ⟨sh_k2 H12, ?_⟩
    have e15 : sI (phS σ X P' x1 x3 wd r2 r3) 161 (X + 2) = nI (P' + 1) := wI_s
    dsimp only [cI]
    rw [e15]
    exact h
end CT
