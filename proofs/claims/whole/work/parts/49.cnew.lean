/-! LAYER 2: text, table, tally, replace of the class: what makes objects. -/
section CN
variable {X : Nat} {σ : iS} {s : Nat → Int32} {m : Nat → Nat → Int32} {N T : Nat} {z y : Nat → Nat} {Q : iO → iS → Prop}
theorem a_fillL {a n : Nat} {x : Int32} (hk : sK σ a = 101) (hn : sN σ a = n) (hn2 : n < 2 ^ 31) : ∀ d p, p + d = n → Q (.inl none) (wV σ a (fun k => if k < n then x else sA σ a k)) → wp J_Arrays_fill 5 [vr a, vi x, vi (nI p), vi (nI n)] [] (wV σ a (fun k => if k < p then x else sA σ a k)) Q := by
  intro d
  induction d with
  | zero =>
    intro p hp h
    have hp : p = n := by omega
    subst hp
    exact b_Arrays_fill_5 ⟨fun _ => h, fun c => absurd (nI_le (Nat.le_refl _) hn2) c⟩
  | succ d ih =>
    intro p hp h
    refine b_Arrays_fill_5 ?_
    rw [n_le hn2 (by omega), nI_clamp (by omega), n_s1]
    refine ⟨fun c => by omega, fun _ => ⟨⟨hk, ?_⟩, fun σ2 e2 => ?_⟩⟩
    · show iIn (nI p) (sN σ a)
      rw [hn]; exact n_in (by omega) hn2
    · subst e2
      have e := wV_n (σ := σ) (b := a) (p := p) (v := fun _ => x) (h := sA σ a)
      rw [e]
      exact ih (p + 1) (by omega) h
theorem a_fill {a n : Nat} {x : Int32} (hk : sK σ a = 101) (hn : sN σ a = n) (hn2 : n < 2 ^ 31) (h : Q (.inl none) (wV σ a (fun k => if k < n then x else sA σ a k))) : ca J_Arrays_fill [vr a, vi x] σ Q := by
  refine b_Arrays_fill_0 ⟨by rw [hk]; rfl, ?_⟩
  rw [hn]
  have h0 := a_fillL (Q := Q) (x := x) hk hn hn2 n 0 (by omega) h
  have e : wV σ a (fun k => if k < 0 then x else sA σ a k) = σ := by
    rw [wV_c (h' := sA σ a) (fun k => if_neg (Nat.not_lt_zero k)), wV_s]
  rw [e] at h0
  exact h0
theorem tm_o {c p : Nat} (hc : c ≠ 1) (k : Nat) : tm m N p c k = m c k := if_neg (fun q => hc q.1)
theorem text_w (hJ : CJ σ X s m N z T y) (hN : N < 40) {n : Nat} (hn : n ≤ 60) {f : Nat → Int32} (hf : ∀ k, k < n → f k = 32) : fp X σ (wI (wB (wV (wR (nA (nO σ 2 1) 101 n) 64 (sX σ) (sX σ + 1)) (sX σ + 1) f) (X + 1) N (sX σ)) 33 X (nI (N + 1))) [33] (fun _ => False) (fun a => a = X + 1) false 2 61 ∧ CJ (wI (wB (wV (wR (nA (nO σ 2 1) 101 n) 64 (sX σ) (sX σ + 1)) (sX σ + 1) f) (X + 1) N (sX σ)) 33 X (nI (N + 1))) X (u1 s 324 (nI (N + 1))) (tm (u2 m 3 N (nI n)) N n) (N + 1) (u1 z N n) T y := by
  obtain ⟨J1, J2, J3, J4, J5, J6, J7, J8, J9, J10, J11, J12, J13, J14⟩ := id hJ
  have hX := J1.1.2
  have q : fp X σ (wI (wB (wV (wR (nA (nO σ 2 1) 101 n) 64 (sX σ) (sX σ + 1)) (sX σ + 1) f) (X + 1) N (sX σ)) 33 X (nI (N + 1))) [33] (fun _ => False) (fun a => a = X + 1) false 2 61 := fp_w (fp_I (fp_B (fp_V (fp_R (fp_N (fp_O (fp_0 hX))) (Or.inl (Nat.le_refl _))) (Or.inl (Nat.le_succ _))) (Or.inr rfl)) (Or.inr ⟨by decide, fo_m (by omega) (by omega)⟩)) (by omega) (by omega)
  have K : kx X σ (wI (wB (wV (wR (nA (nO σ 2 1) 101 n) 64 (sX σ) (sX σ + 1)) (sX σ + 1) f) (X + 1) N (sX σ)) 33 X (nI (N + 1))) s (u1 s 324 (nI (N + 1))) m (tm (u2 m 3 N (nI n)) N n) [33] (fun _ => False) (fun a => a = X + 1) false [324] [1, 3] := ⟨q.1, fun f hf => u1_o (fun e => hf (by rw [e]; decide)), fun c hc i => by rw [tm_o (fun e => hc (by rw [e]; decide)), u2_o (fun e => hc (by rw [e]; decide))]⟩
  have eN : sB (wI (wB (wV (wR (nA (nO σ 2 1) 101 n) 64 (sX σ) (sX σ + 1)) (sX σ + 1) f) (X + 1) N (sX σ)) 33 X (nI (N + 1))) (X + 1) N = sX σ := wB_s (τ := wV (wR (nA (nO σ 2 1) 101 n) 64 (sX σ) (sX σ + 1)) (sX σ + 1) f)
  have eo : ∀ j, j ≠ N → sB (wI (wB (wV (wR (nA (nO σ 2 1) 101 n) 64 (sX σ) (sX σ + 1)) (sX σ + 1) f) (X + 1) N (sX σ)) 33 X (nI (N + 1))) (X + 1) j = sB σ (X + 1) j := fun j hj => by
    show sB (wB (wV (wR (nA (nO σ 2 1) 101 n) 64 (sX σ) (sX σ + 1)) (sX σ + 1) f) (X + 1) N (sX σ)) (X + 1) j = sB σ (X + 1) j
    rw [wB_k hj]
    show sB (nA (nO σ 2 1) 101 n) (X + 1) j = sB σ (X + 1) j
    rw [nA_B (fun e => by have e : X + 1 = sX σ + 1 := e; omega)]
    rfl
  have t : tm2 X σ (wI (wB (wV (wR (nA (nO σ 2 1) 101 n) 64 (sX σ) (sX σ + 1)) (sX σ + 1) f) (X + 1) N (sX σ)) 33 X (nI (N + 1))) N z (N + 1) (u1 z N n) := ⟨Nat.le_succ _, fun j hj => ⟨u1_o (by omega), eo j (by omega)⟩⟩
  have S1 : cTs (wI (wB (wV (wR (nA (nO σ 2 1) 101 n) 64 (sX σ) (sX σ + 1)) (sX σ + 1) f) (X + 1) N (sX σ)) 33 X (nI (N + 1))) X (u1 s 324 (nI (N + 1))) (tm (u2 m 3 N (nI n)) N n) (N + 1) (u1 z N n) := by
    refine ⟨u1_s _ _ _, by omega, wI_s, fun j hj => ?_, fun i j hi hj => ?_⟩
    · by_cases e : j = N
      · subst e
        rw [eN, u1_s]
        refine ⟨⟨by omega, Nat.lt_succ_self _⟩, ?_, ?_, ?_, ?_, ?_, hn⟩
        · show sK (nA (nO σ 2 1) 101 n) (sX σ) = 2
          rw [nA_K (fun e => by have e : sX σ = sX σ + 1 := e; omega), nO_Ks]
        · exact wR_s (τ := nA (nO σ 2 1) 101 n)
        · exact nA_Ks (τ := nO σ 2 1)
        · exact nA_Ns (τ := nO σ 2 1)
        · rw [tm_o (by decide), u2_s]
      · obtain ⟨⟨g1, g2⟩, g3, g4, g5, g6, g7, g8⟩ := J2.2.2.2.1 j (by omega)
        rw [eo j e, u1_o e, (q.1.2.2.1 _ (show sB σ (X + 1) j < sX σ by omega)).1, (q.1.2.2.1 _ g2).1, (q.1.2.2.1 _ g2).2, q.1.2.2.2.1 _ _ (show sB σ (X + 1) j < sX σ by omega) (fun _ => by decide), tm_o (by decide), u2_k e]
        exact ⟨⟨g1, Nat.lt_of_lt_of_le g2 q.1.2.1⟩, g3, g4, g5, g6, g7, g8⟩
    · by_cases e1 : i = N
      · by_cases e2 : j = N
        · intro _; omega
        · subst e1
          rw [eN, eo j e2]
          have := (J2.2.2.2.1 j (by omega)).1
          intro q; omega
      · by_cases e2 : j = N
        · subst e2
          rw [eN, eo i e1]
          have := (J2.2.2.2.1 i (by omega)).1
          intro q; omega
        · rw [eo i e1, eo j e2]
          exact J2.2.2.2.2 i j (by omega) (by omega)
  have S2 : cSg (wI (wB (wV (wR (nA (nO σ 2 1) 101 n) 64 (sX σ) (sX σ + 1)) (sX σ + 1) f) (X + 1) N (sX σ)) 33 X (nI (N + 1))) X (tm (u2 m 3 N (nI n)) N n) (N + 1) (u1 z N n) := by
    intro j k hj hk
    by_cases e : j = N
    · subst e
      rw [u1_s] at hk
      rw [eN]
      show sA (wV (wR (nA (nO σ 2 1) 101 n) 64 (sX σ) (sX σ + 1)) (sX σ + 1) f) (sX σ + 1) k = _
      rw [wV_A, hf k hk]
      exact (if_pos ⟨rfl, by omega, by omega⟩).symm
    · rw [u1_o e] at hk
      obtain ⟨⟨g1, g2⟩, g3, g4, g5, g6, g7, g8⟩ := J2.2.2.2.1 j (by omega)
      rw [eo j e, q.1.2.2.2.2.2.1 _ _ g2 (fo_n (by omega)) (fun e => e), J3 j k (by omega) hk]
      refine (Eq.trans (if_neg (fun q => ?_)) (u2_o (by decide) _)).symm
      omega
  exact ⟨q, ⟨sh_c J1 K.1, S1, S2, cSp_c J4 K t rfl (by decide), cPh_c J5 K t (by decide) (show ¬ (X + 3 = X + 1) by omega) (by decide) (by decide), cCo_c J6 K (fun e => e) (by decide), cPa_c J7 K t (by decide) (show ¬ (X + 7 = X + 1) by omega) (by decide) (by decide), cDe_c J8 K t (by decide) (fun e => e) (show ¬ (X + 9 = X + 1) by omega) (by decide) (by decide), cRc_c (z := z) (z' := (u1 z N n)) J9 K t (by decide) (show ¬ (X + 11 = X + 1) by omega) (by decide) (by decide), cRs_c J10 K (by decide) ⟨(fun e => e), (fun e => e)⟩ (by decide), cPo_c J11 K (by decide) (by decide), cBs_c J12 K (by decide) (show ¬ (X + 16 = X + 1) by omega) (by decide) (by decide), cIx_c J13 J12 K (by decide) (show ¬ (X + 16 = X + 1) by omega) (by decide), cKy_c J14 J12 K (show ¬ (X + 16 = X + 1) by omega) (fun _ _ e => e) (by decide)⟩⟩
theorem x_text (hJ : CJ σ X s m N z T y) {x : Int32} (h1 : (¬ ∃ n, n ≤ 60 ∧ x = nI n) → Q (.inr (1, sX σ)) (nO σ 201 6)) (h2 : (∃ n, n ≤ 60 ∧ x = nI n) → N = 40 → Q (.inr (2, sX σ)) (nO σ 202 6)) (h0 : ∀ n, n ≤ 60 → x = nI n → N < 40 → ∀ σ', gd X σ σ' → CJ σ' X (u1 s 324 (nI (N + 1))) (tm (u2 m 3 N (nI n)) N n) (N + 1) (u1 z N n) T y → Q (.inl (some (vi (nI N)))) σ') : ca J_X_text [vr X, vi x] σ Q := by
  obtain ⟨J1, J2, J3, J4, J5, J6, J7, J8, J9, J10, J11, J12, J13, J14⟩ := id hJ
  have hX := J1.1.2
  have hN := J2.2.1
  refine b_X_text_0 ?_
  rw [lit_60, lit_40]
  refine ⟨fun c => b_X_text_10 (h1 (fun ⟨n, q1, q2⟩ => by subst q2; exact nI_pos (by omega) c)), fun c => ⟨fun c2 => ⟨sh_k0 J1, ?_⟩, fun c2 => b_X_text_10 (h1 (fun ⟨n, q1, q2⟩ => by subst q2; exact c2 (nI_le q1 (by decide))))⟩⟩
  obtain ⟨n, hn, rfl⟩ := n_le' (a := 60) (by decide) c c2
  rw [J2.2.2.1, e_32 J1, n_lt (by omega) (by decide)]
  refine ⟨fun c3 => ⟨sh_k0 J1, sh_k0 J1, fun σ4 e4 => ⟨by subst e4; exact nO_Ks, ?_⟩⟩, fun c3 => h2 ⟨n, hn, rfl⟩ (by omega)⟩
  subst e4
  refine b_Text_init_0 ⟨by omega, ⟨nI_pos (by omega), by rw [nI_clamp (by omega)]; omega⟩, ?_⟩
  rw [nI_clamp (by omega)]
  intro σ1 e1
  subst e1
  have k1 : sK (nA (nO σ 2 1) 101 n) (sX σ) = 2 := by
    rw [nA_K (fun e => by have e : sX σ = sX σ + 1 := e; omega), nO_Ks]
  refine ⟨k1, fun σ2 e2 => ⟨by subst e2; exact k1, ?_⟩⟩
  subst e2
  rw [wR_s]
  refine a_fill (n := n) (nA_Ks (τ := nO σ 2 1)) (nA_Ns (τ := nO σ 2 1)) (by omega) ?_
  have W := text_w hJ c3 hn (f := fun k => if k < n then 32 else sA (wR (nA (nO σ 2 1) 101 n) 64 (sX σ) (sX (nO σ 2 1))) (sX (nO σ 2 1)) k) (fun k hk => if_pos hk)
  have q0 : fp X σ (wV (wR (nA (nO σ 2 1) 101 n) 64 (sX σ) (sX σ + 1)) (sX σ + 1) (fun k => if k < n then 32 else sA (wR (nA (nO σ 2 1) 101 n) 64 (sX σ) (sX (nO σ 2 1))) (sX (nO σ 2 1)) k)) [33] (fun _ => False) (fun a => a = X + 1) false 2 (1 + n) := fp_w (fp_V (fp_R (fp_N (fp_O (fp_0 hX))) (Or.inl (Nat.le_refl _))) (Or.inl (Nat.le_succ _))) (by omega) (by omega)
  have H0 := sh_c J1 q0.1
  have k2 := sh_k1 H0
  have k3 := sh_n1 H0
  dsimp only [cV]
  refine ⟨⟨⟨?_, ?_⟩, Or.inr ?_, ?_⟩, fun σ6 e6 => ?_⟩
  · exact k2 ▸ (by decide : 110 ≤ 112)
  · exact k2 ▸ (by decide : 112 < 200)
  · refine Eq.trans ?_ k2.symm
    exact congrArg (· + 110) k1
  · have k4 := n_in (show N < 40 by omega) (by decide)
    rw [← k3] at k4
    exact k4
  · rw [nI_clamp (by omega)] at e6
    subst e6
    have q1 := fp_B (b := X + 1) (i := N) (x := sX σ) q0 (Or.inr rfl)
    have H1 := sh_c J1 q1.1
    refine ⟨sh_k0 H1, sh_k0 H1, fun σ7 e7 => ?_⟩
    have c33 : sI (wB (wV (wR (nA (nO σ 2 1) 101 n) 64 (sX σ) (sX σ + 1)) (sX σ + 1) (fun k => if k < n then 32 else sA (wR (nA (nO σ 2 1) 101 n) 64 (sX σ) (sX (nO σ 2 1))) (sX (nO σ 2 1)) k)) (X + 1) N (sX σ)) 33 X = nI N := by
      show sI (nO σ 2 1) 33 X = nI N
      rw [nO_I (by omega)]; exact J2.2.2.1
    have e8 : σ7 = wI (wB (wV (wR (nA (nO σ 2 1) 101 n) 64 (sX σ) (sX σ + 1)) (sX σ + 1) (fun k => if k < n then 32 else sA (wR (nA (nO σ 2 1) 101 n) 64 (sX σ) (sX (nO σ 2 1))) (sX (nO σ 2 1)) k)) (X + 1) N (sX σ)) 33 X (nI (N + 1)) := by
      rw [e7]
      refine congrArg (wI _ 33 X) ?_
      exact Eq.trans (congrArg (· + (1 : Int32)) c33) (n_s1 N)
    subst e8
    have H2 := sh_c J1 W.1.1
    refine ⟨sh_k0 H2, ?_⟩
    rw [wI_s, nI_pred]
    exact h0 n hn rfl c3 _ (gd_of W.1 (by decide) (by decide)) W.2
theorem table_w (hJ : CJ σ X s m N z T y) (hT : T < 10) {n : Nat} (hn1 : 1 ≤ n) (hn : n ≤ 60) : fp X σ (wI (wB (wR (nA (wI (nO σ 9 2) 289 (sX σ) 1) 101 n) 288 (sX σ) (sX σ + 1)) (X + 16) T (sX σ)) 41 X (nI (T + 1))) [41, 289] (fun _ => False) (fun a => a = X + 16) false 2 62 ∧ CJ (wI (wB (wR (nA (wI (nO σ 9 2) 289 (sX σ) 1) 101 n) 288 (sX σ) (sX σ + 1)) (X + 16) T (sX σ)) 41 X (nI (T + 1))) X (u1 s 352 (nI (T + 1))) (u2 (u2 m 22 T (nI n)) 23 T 1) N z (T + 1) (u1 y T n) := by
  obtain ⟨J1, J2, J3, J4, J5, J6, J7, J8, J9, J10, J11, J12, J13, J14⟩ := id hJ
  have hX := J1.1.2
  have q : fp X σ (wI (wB (wR (nA (wI (nO σ 9 2) 289 (sX σ) 1) 101 n) 288 (sX σ) (sX σ + 1)) (X + 16) T (sX σ)) 41 X (nI (T + 1))) [41, 289] (fun _ => False) (fun a => a = X + 16) false 2 62 := fp_w (fp_I (fp_B (fp_R (fp_N (fp_I (fp_O (fp_0 hX)) (Or.inl (Nat.le_refl _)))) (Or.inl (Nat.le_refl _))) (Or.inr rfl)) (Or.inr ⟨by decide, fo_m (by omega) (by omega)⟩)) (by omega) (by omega)
  have K : kx X σ (wI (wB (wR (nA (wI (nO σ 9 2) 289 (sX σ) 1) 101 n) 288 (sX σ) (sX σ + 1)) (X + 16) T (sX σ)) 41 X (nI (T + 1))) s (u1 s 352 (nI (T + 1))) m (u2 (u2 m 22 T (nI n)) 23 T 1) [41, 289] (fun _ => False) (fun a => a = X + 16) false [352] [22, 23] := ⟨q.1, fun f hf => u1_o (fun e => hf (by rw [e]; decide)), fun c hc i => by rw [u2_o (fun e => hc (by rw [e]; decide)), u2_o (fun e => hc (by rw [e]; decide))]⟩
  have eN : sB (wI (wB (wR (nA (wI (nO σ 9 2) 289 (sX σ) 1) 101 n) 288 (sX σ) (sX σ + 1)) (X + 16) T (sX σ)) 41 X (nI (T + 1))) (X + 16) T = sX σ := wB_s (τ := wR (nA (wI (nO σ 9 2) 289 (sX σ) 1) 101 n) 288 (sX σ) (sX σ + 1))
  have eo : ∀ j, j ≠ T → sB (wI (wB (wR (nA (wI (nO σ 9 2) 289 (sX σ) 1) 101 n) 288 (sX σ) (sX σ + 1)) (X + 16) T (sX σ)) 41 X (nI (T + 1))) (X + 16) j = sB σ (X + 16) j := fun j hj => by
    show sB (wB (wR (nA (wI (nO σ 9 2) 289 (sX σ) 1) 101 n) 288 (sX σ) (sX σ + 1)) (X + 16) T (sX σ)) (X + 16) j = sB σ (X + 16) j
    rw [wB_k hj]
    show sB (nA (wI (nO σ 9 2) 289 (sX σ) 1) 101 n) (X + 16) j = sB σ (X + 16) j
    rw [nA_B (fun e => by have e : X + 16 = sX σ + 1 := e; omega)]
    rfl
  have t := tm2_0 (N := N) (z := z) K (show ¬ (X + 1 = X + 16) by omega)
  have S1 : cBs (wI (wB (wR (nA (wI (nO σ 9 2) 289 (sX σ) 1) 101 n) 288 (sX σ) (sX σ + 1)) (X + 16) T (sX σ)) 41 X (nI (T + 1))) X (u1 s 352 (nI (T + 1))) (u2 (u2 m 22 T (nI n)) 23 T 1) (T + 1) (u1 y T n) := by
    refine ⟨u1_s _ _ _, by omega, wI_s, fun j hj => ?_, fun i j hi hj => ?_⟩
    · by_cases e : j = T
      · subst e
        rw [eN, u1_s]
        refine ⟨⟨by omega, Nat.lt_succ_self _⟩, ?_, ?_, ?_, ?_, ?_, hn1, hn⟩
        · show sK (nA (wI (nO σ 9 2) 289 (sX σ) 1) 101 n) (sX σ) = 9
          rw [nA_K (fun e => by have e : sX σ = sX σ + 1 := e; omega)]
          exact nO_Ks
        · exact wR_s (τ := nA (wI (nO σ 9 2) 289 (sX σ) 1) 101 n)
        · exact nA_Ks (τ := (wI (nO σ 9 2) 289 (sX σ) 1))
        · exact nA_Ns (τ := (wI (nO σ 9 2) 289 (sX σ) 1))
        · rw [u2_o (by decide), u2_s]
      · obtain ⟨⟨g1, g2⟩, g3, g4, g5, g6, g7, g8⟩ := J12.2.2.2.1 j (by omega)
        rw [eo j e, u1_o e, (q.1.2.2.1 _ (show sB σ (X + 16) j < sX σ by omega)).1, (q.1.2.2.1 _ g2).1, (q.1.2.2.1 _ g2).2, q.1.2.2.2.1 _ _ (show sB σ (X + 16) j < sX σ by omega) (fun _ => by decide), u2_o (by decide), u2_k e]
        exact ⟨⟨g1, Nat.lt_of_lt_of_le g2 q.1.2.1⟩, g3, g4, g5, g6, g7, g8⟩
    · by_cases e1 : i = T
      · by_cases e2 : j = T
        · intro _; omega
        · subst e1
          rw [eN, eo j e2]
          have := (J12.2.2.2.1 j (by omega)).1
          intro q; omega
      · by_cases e2 : j = T
        · subst e2
          rw [eN, eo i e1]
          have := (J12.2.2.2.1 i (by omega)).1
          intro q; omega
        · rw [eo i e1, eo j e2]
          exact J12.2.2.2.2 i j (by omega) (by omega)
  have S2 : cIx (wI (wB (wR (nA (wI (nO σ 9 2) 289 (sX σ) 1) 101 n) 288 (sX σ) (sX σ + 1)) (X + 16) T (sX σ)) 41 X (nI (T + 1))) X (u2 (u2 m 22 T (nI n)) 23 T 1) (T + 1) (u1 y T n) := by
    intro j hj
    by_cases e : j = T
    · subst e
      rw [eN, u1_s, u2_s]
      refine ⟨1, ⟨by omega, hn1⟩, ?_, lit_1⟩
      rw [wI_o (by decide)]
      show sI (wI (nO σ 9 2) 289 (sX σ) 1) 289 (sX σ) = nI 1
      rw [wI_s]
      exact lit_1
    · obtain ⟨⟨g1, g2⟩, -⟩ := J12.2.2.2.1 j (by omega)
      rw [eo j e, u1_o e, u2_k e, u2_o (by decide), wI_o (by decide)]
      show ∃ i, (1 ≤ i ∧ i ≤ y j) ∧ sI (wI (nO σ 9 2) 289 (sX σ) 1) 289 (sB σ (X + 16) j) = nI i ∧ m 23 j = nI i
      rw [wI_k (by omega), nO_I (by omega)]
      exact J13 j (by omega)
  have S3 : cKy (wI (wB (wR (nA (wI (nO σ 9 2) 289 (sX σ) 1) 101 n) 288 (sX σ) (sX σ + 1)) (X + 16) T (sX σ)) 41 X (nI (T + 1))) X (u2 (u2 m 22 T (nI n)) 23 T 1) (T + 1) (u1 y T n) := by
    refine ⟨fun j k hj hk => ?_, fun j k h1 h2 h3 => ?_⟩
    · by_cases e : j = T
      · subst e
        rw [u1_s] at hk
        rw [eN, u2_o (by decide), u2_o (by decide)]
        show sA (nA (wI (nO σ 9 2) 289 (sX σ) 1) 101 n) (sX σ + 1) k = _
        rw [J14.2 j k (Nat.le_refl _) hT (by omega)]
        exact nA_As (τ := (wI (nO σ 9 2) 289 (sX σ) 1))
      · rw [u1_o e] at hk
        obtain ⟨⟨g1, g2⟩, -⟩ := J12.2.2.2.1 j (by omega)
        rw [eo j e, q.1.2.2.2.2.2.1 _ _ g2 (fo_n (by omega)) (fun e => e), J14.1 j k (by omega) hk, u2_o (by decide), u2_o (by decide)]
    · rw [u2_o (by decide), u2_o (by decide)]
      exact J14.2 j k (by omega) h2 h3
  exact ⟨q, ⟨sh_c J1 K.1, cTs_c J2 K (by decide) (show ¬ (X + 1 = X + 16) by omega) (by decide) (by decide), cSg_c J3 J2 K (show ¬ (X + 1 = X + 16) by omega) (fun _ _ e => e) (by decide), cSp_c J4 K t rfl (by decide), cPh_c J5 K t (by decide) (show ¬ (X + 3 = X + 16) by omega) (by decide) (by decide), cCo_c J6 K (fun e => e) (by decide), cPa_c J7 K t (by decide) (show ¬ (X + 7 = X + 16) by omega) (by decide) (by decide), cDe_c J8 K t (by decide) (fun e => e) (show ¬ (X + 9 = X + 16) by omega) (by decide) (by decide), cRc_c (z := z) (z' := z) J9 K t (by decide) (show ¬ (X + 11 = X + 16) by omega) (by decide) (by decide), cRs_c J10 K (by decide) ⟨(fun e => e), (fun e => e)⟩ (by decide), cPo_c J11 K (by decide) (by decide), S1, S2, S3⟩⟩
theorem x_table (hJ : CJ σ X s m N z T y) {x : Int32} (h1 : (¬ ∃ n, n < 60 ∧ x = nI (n + 1)) → Q (.inr (1, sX σ)) (nO σ 201 6)) (h2 : (∃ n, n < 60 ∧ x = nI (n + 1)) → T = 10 → Q (.inr (2, sX σ)) (nO σ 202 6)) (h0 : ∀ n, n < 60 → x = nI (n + 1) → T < 10 → ∀ σ', gd X σ σ' → CJ σ' X (u1 s 352 (nI (T + 1))) (u2 (u2 m 22 T (nI (n + 1))) 23 T 1) N z (T + 1) (u1 y T (n + 1)) → Q (.inl (some (vi (nI T)))) σ') : ca J_X_table [vr X, vi x] σ Q := by
  obtain ⟨J1, J2, J3, J4, J5, J6, J7, J8, J9, J10, J11, J12, J13, J14⟩ := id hJ
  have hX := J1.1.2
  have hN := J12.2.1
  refine b_X_table_0 ?_
  rw [lit_60, lit_10, lit_1]
  refine ⟨fun c => b_X_table_11 (h1 (fun ⟨n, q1, q2⟩ => by subst q2; rw [n_lt (by omega) (by decide)] at c; omega)), fun c => ⟨fun c2 => ⟨sh_k0 J1, ?_⟩, fun c2 => b_X_table_11 (h1 (fun ⟨n, q1, q2⟩ => by subst q2; exact c2 (nI_le (by omega) (by decide))))⟩⟩
  have c0 : ¬ x < 0 := fun q => c (Int32.lt_trans q (by decide))
  obtain ⟨n', hn', rfl⟩ := n_le' (a := 60) (by decide) c0 c2
  rw [n_lt (by omega) (by decide)] at c
  obtain ⟨n, rfl⟩ : ∃ n, n' = n + 1 := ⟨n' - 1, by omega⟩
  rw [J12.2.2.1, e_40 J1, n_lt (by omega) (by decide)]
  refine ⟨fun c3 => ⟨sh_k0 J1, sh_k0 J1, fun σ4 e4 => ⟨by subst e4; exact nO_Ks, ?_⟩⟩, fun c3 => h2 ⟨n, by omega, rfl⟩ (by omega)⟩
  subst e4
  refine b_Table_init_0 ⟨by omega, nO_Ks, fun σ1 e1 => ?_⟩
  subst e1
  refine ⟨⟨nI_pos (by omega), by rw [nI_clamp (by omega)]; omega⟩, ?_⟩
  rw [nI_clamp (by omega)]
  intro σ2 e2
  subst e2
  have k1 : sK (nA (wI (nO σ 9 2) 289 (sX σ) 1) 101 (n + 1)) (sX σ) = 9 := by
    rw [nA_K (fun e => by have e : sX σ = sX σ + 1 := e; omega)]
    exact nO_Ks
  refine ⟨k1, fun σ3 e3 => ?_⟩
  subst e3
  have W := table_w hJ c3 (n := n + 1) (by omega) (by omega)
  have q0 : fp X σ (wR (nA (wI (nO σ 9 2) 289 (sX σ) 1) 101 (n + 1)) 288 (sX σ) (sX σ + 1)) [41, 289] (fun _ => False) (fun a => a = X + 16) false 2 62 := fp_w (fp_R (fp_N (fp_I (fp_O (fp_0 hX)) (Or.inl (Nat.le_refl _)))) (Or.inl (Nat.le_refl _))) (by omega) (by omega)
  have H0 := sh_c J1 q0.1
  have k2 := sh_k16 H0
  have k3 := sh_n16 H0
  dsimp only [cV]
  refine ⟨⟨⟨?_, ?_⟩, Or.inr ?_, ?_⟩, fun σ6 e6 => ?_⟩
  · exact k2 ▸ (by decide : 110 ≤ 119)
  · exact k2 ▸ (by decide : 119 < 200)
  · refine Eq.trans ?_ k2.symm
    exact congrArg (· + 110) k1
  · have k4 := n_in (show T < 10 by omega) (by decide)
    rw [← k3] at k4
    exact k4
  · rw [nI_clamp (by omega)] at e6
    subst e6
    have q1 := fp_B (b := X + 16) (i := T) (x := sX σ) q0 (Or.inr rfl)
    have H1 := sh_c J1 q1.1
    refine ⟨sh_k0 H1, sh_k0 H1, fun σ7 e7 => ?_⟩
    have c41 : sI (wB (wR (nA (wI (nO σ 9 2) 289 (sX σ) 1) 101 (n + 1)) 288 (sX σ) (sX σ + 1)) (X + 16) T (sX σ)) 41 X = nI T := by
      show sI (wI (nO σ 9 2) 289 (sX σ) 1) 41 X = nI T
      rw [wI_o (by decide), nO_I (by omega)]; exact J12.2.2.1
    have e8 : σ7 = wI (wB (wR (nA (wI (nO σ 9 2) 289 (sX σ) 1) 101 (n + 1)) 288 (sX σ) (sX σ + 1)) (X + 16) T (sX σ)) 41 X (nI (T + 1)) := by
      rw [e7]
      refine congrArg (wI _ 41 X) ?_
      exact Eq.trans (congrArg (· + nI 1) c41) (n_s1 T)
    subst e8
    have H2 := sh_c J1 W.1.1
    refine ⟨sh_k0 H2, ?_⟩
    rw [wI_s]
    have e9 : nI (T + 1) - nI 1 = nI T := nI_pred T
    rw [e9]
    exact h0 n (by omega) rfl c3 _ (gd_of W.1 (by decide) (by decide)) W.2
end CN
