/-! LAYER 2: split of the class: handing out; from its start. -/
/-- the state of a split: all signs are G -/
def so (σ σ' : iS) (X N : Nat) (z : Nat → Nat) (G : Nat → Int32) : Prop :=
  (sR σ' = sR σ ∧ sB σ' = sB σ ∧ sK σ' = sK σ ∧ sN σ' = sN σ ∧ sX σ' = sX σ ∧ sS σ' = sS σ) ∧ (∀ f b, ¬ (b = X + 8 ∧ (f = 258 ∨ f = 260 ∨ f = 264 ∨ f = 265)) → sI σ' f b = sI σ f b) ∧ (∀ b k, ¬ (X + 12 ≤ b ∧ b ≤ X + 15) → (∀ l, l < N → b ≠ sB σ (X + 1) l + 1) → sA σ' b k = sA σ b k) ∧ ∀ l k, l < N → k < z l → sA σ' (sB σ (X + 1) l + 1) k = G (60 * l + k)
section SP2
variable {X : Nat} {σ σ' : iS} {s : Nat → Int32} {m : Nat → Nat → Int32} {N T : Nat} {z y : Nat → Nat} {Q : iO → iS → Prop} {t D R a0 : Nat} {E : Nat → deD} {rv : Nat → Nat} {G : Nat → Int32}
theorem so_L {ln : Nat → Int32} (hT : cTs σ X s m N z) (h : so σ σ' X N z G) : so σ (wV σ' (X + 15) ln) X N z G := by
  obtain ⟨h1, h2, h3, h4⟩ := h
  refine ⟨h1, h2, fun b k hb hl => ?_, fun l k hl hk => ?_⟩
  · rw [wV_o (by omega)]; exact h3 b k hb hl
  · have := (hT.2.2.2.1 l hl).1
    rw [wV_o (by omega)]; exact h4 l k hl hk
theorem so_W {i : Nat} {g G' : Nat → Int32} (hT : cTs σ X s m N z) (hi : i < N) (h : so σ σ' X N z G) (hg : ∀ k, k < z i → g k = G' (60 * i + k)) (ho : ∀ l, l < N → l ≠ i → ∀ k, k < z l → G' (60 * l + k) = G (60 * l + k)) : so σ (wV σ' (sB σ (X + 1) i + 1) g) X N z G' := by
  obtain ⟨h1, h2, h3, h4⟩ := h
  refine ⟨h1, h2, fun b k hb hl => ?_, fun l k hl hk => ?_⟩
  · rw [wV_o (hl i hi)]; exact h3 b k hb hl
  · by_cases e : l = i
    · subst e; rw [wV_A]; exact hg k hk
    · rw [wV_o (fun q => e (hT.2.2.2.2 l i hl hi (by omega))), ho l hl e k hk]; exact h4 l k hl hk
theorem sh_o (h : sh σ X) (hq : so σ σ' X N z G) : sh σ' X := by
  unfold sh
  rw [hq.1.1, hq.1.2.2.1, hq.1.2.2.2.1, hq.1.2.2.2.2.1]
  exact h
theorem s_handL (hs : sh σ X) (hT : cTs σ X s m N z) {n V : Nat} {f : Nat → Int32} (hn : n ≤ 60) (ha0 : a0 ≤ n) (hV : V ≤ 20) (hrv : ∀ r, r < V → rv r < N ∧ sB σ (X + 11) r = sB σ (X + 1) (rv r)) {σc : iS} (hc4 : sI σc 264 (X + 8) = nI V) {tx : Nat}
    (h : ∀ σ'', so σ σ'' X N z (spH f n E D rv z a0 G V) → pq σ'' X f n E D (fun x => z (rv x)) a0 V → sI σ'' = sI σc → Q (.inl none) σ'') :
    ∀ d r σ', r + d = V → so σ σ' X N z (spH f n E D rv z a0 G r) → pq σ' X f n E D (fun x => z (rv x)) a0 V → sI σ' = sI σc → (∀ k, k < n → sA σ' (X + 15) k = f k) → wp J_Splitting_handOut 10 [vr (X + 8), vr tx, vi (nI r)] [] σ' Q := by
  intro d
  induction d with
  | zero =>
    intro r σ' hd hq hp hI hl
    have hd : r = V := by omega
    subst hd
    refine b_Splitting_handOut_10 ⟨sh_k8 (sh_o hs hq), ?_⟩
    rw [hI, hc4, n_le (by omega) (by omega)]
    exact ⟨fun _ => h σ' hq hp hI, fun c => by omega⟩
  | succ d ih =>
    intro r σ' hd hq hp hI hl
    have S := sh_o hs hq
    obtain ⟨r1, r2⟩ := hrv r (by omega)
    have tr := tX_g hT hq.1.1 hq.1.2.2.1 hq.1.2.2.2.1 hq.2.2.2 r1
    have zr := tr.2.2.2.1
    have g1 := (hT.2.2.2.1 _ r1).1
    have g4 := (hT.2.2.2.1 _ r1).2.2.1
    have pb := spP_b f n E D (fun x => z (rv x)) a0 ha0 r
    have eb := spE_b f n E D (z (rv r)) (spP f n E D (fun x => z (rv x)) a0 r) pb
    refine b_Splitting_handOut_10 ⟨sh_k8 S, ?_⟩
    rw [hI, hc4, n_le (by omega) (by omega), e_259 S, e_261 S, e_262 S, e_266 S, sh_k11 S, sh_n11 S, sh_k12 S, sh_n12 S, sh_k13 S, sh_n13 S, nI_clamp (by omega), (hp r (by omega)).1, (hp r (by omega)).2.1, hq.1.2.1, r2]
    refine ⟨fun c => by omega, fun _ => ⟨sh_k8 S, ⟨⟨by decide, by decide⟩, n_in (by omega) (by decide)⟩, sh_k8 S, sh_k8 S, ⟨rfl, n_in (by omega) (by decide)⟩, sh_k8 S, ⟨rfl, n_in (by omega) (by decide)⟩, tr.1, ?_⟩⟩
    have r64 : sR σ' 64 (sB σ (X + 1) (rv r)) = sB σ (X + 1) (rv r) + 1 := by rw [hq.1.1]; exact g4
    refine t_fill (q := spP f n E D (fun x => z (rv x)) a0 r) (L := spE f n E D (z (rv r)) (spP f n E D (fun x => z (rv x)) a0 r) - spP f n E D (fun x => z (rv x)) a0 r) tr (sh_k15 S) (sh_n15 S) (by rw [r64]; omega) (by omega) ?_
    dsimp only [cV]
    rw [n_s1, r64]
    refine ih (r + 1) _ (by omega) ?_ (fun i hi => ?_) hI (fun k hk => ?_)
    · refine so_W hT r1 hq (fun k hk => ?_) (fun l hl' hne k hk => ?_)
      · rw [if_pos hk]
        show _ = mv _ _ _ _ _ _ _
        unfold mv
        rw [if_pos (show 60 * rv r ≤ 60 * rv r + k ∧ 60 * rv r + k < 60 * rv r + z (rv r) from ⟨by omega, by omega⟩), Nat.add_sub_cancel_left]
        by_cases c : k < spE f n E D (z (rv r)) (spP f n E D (fun x => z (rv x)) a0 r) - spP f n E D (fun x => z (rv x)) a0 r
        · rw [if_pos c, if_pos c]; exact hl _ (by omega)
        · rw [if_neg c, if_neg c]
      · have := (hT.2.2.2.1 l hl').2.2.2.2.2.2
        exact if_neg (fun e => by omega)
    · rw [wV_o (by omega), wV_o (by omega), wV_o (by omega)]; exact hp i hi
    · rw [wV_o (by omega)]; exact hl k hk
theorem s_hand (hs : sh σ X) (hT : cTs σ X s m N z) (ht : t < N) {V : Nat} (ha0 : a0 ≤ z t) (hV : V ≤ 20) (hrv : ∀ r, r < V → rv r < N ∧ sB σ (X + 11) r = sB σ (X + 1) (rv r)) {σc : iS} (hc4 : sI σc 264 (X + 8) = nI V) (hq : so σ σc X N z (m 1)) (hp : pq σc X (fun k => m 1 (60 * t + k)) (z t) E D (fun x => z (rv x)) a0 V)
    (h : ∀ σ'', so σ σ'' X N z (spH (fun k => m 1 (60 * t + k)) (z t) E D rv z a0 (m 1) V) → pq σ'' X (fun k => m 1 (60 * t + k)) (z t) E D (fun x => z (rv x)) a0 V → sI σ'' = sI σc → Q (.inl none) σ'') : ca J_Splitting_handOut [vr (X + 8), vr (sB σ (X + 1) t)] σc Q := by
  have S := sh_o hs hq
  have tt := tX_g hT hq.1.1 hq.1.2.2.1 hq.1.2.2.2.1 hq.2.2.2 ht
  have g1 := (hT.2.2.2.1 t ht).1
  have r64 : sR σc 64 (sB σ (X + 1) t) = sB σ (X + 1) t + 1 := by rw [hq.1.1]; exact (hT.2.2.2.1 t ht).2.2.1
  refine b_Splitting_handOut_0 ⟨sh_k8 S, tt.1, ?_⟩
  rw [e_266 S]
  refine t_copy tt (sh_k15 S) (sh_n15 S) (by rw [r64]; omega) ?_
  refine s_handL (G := m 1) hs hT tt.2.2.2.1 ha0 hV hrv hc4 h V 0 _ (by omega) (so_L hT hq) (fun i hi => ?_) rfl (fun k hk => ?_)
  · rw [wV_o (by omega), wV_o (by omega), wV_o (by omega)]; exact hp i hi
  · rw [wV_A]; exact if_pos hk
theorem split_w (hJ : CJ σ X s m N z T y) (hq : so σ σ' X N z G) {V : Nat} {v : Int32} (hV : V ≤ 20) (h4 : sI σ' 264 (X + 8) = nI V) : gd X σ (wI (wI (wI σ' 258 (X + 8) 0) 260 (X + 8) 0) 39 X v) ∧ ∀ m', kq m m' → (∀ l k, l < N → k < z l → m' 1 (60 * l + k) = G (60 * l + k)) → (∀ i, i < V → m' 18 i = sA σ' (X + 13) i ∧ m' 19 i = sA σ' (X + 14) i) → (∀ i, V ≤ i → i < 20 → m' 18 i = -1 ∧ m' 19 i = -1) → CJ (wI (wI (wI σ' 258 (X + 8) 0) 260 (X + 8) 0) 39 X v) X (u1 (u1 (u1 s 346 0) 347 0) 348 v) m' N z T y := by
  obtain ⟨J1, J2, J3, J4, J5, J6, J7, J8, J9, J10, J11, J12, J13, J14⟩ := id hJ
  have hX := J1.1.2
  obtain ⟨⟨a1, a2, a3, a4, a5, a6⟩, b1, b3, b4⟩ := id hq
  have tb : ∀ l, l < N → X + 41 < sB σ (X + 1) l := fun l hl => (J2.2.2.2.1 l hl).1.1
  have q1 : fp X σ σ' [39, 258, 260, 264, 265] (fun a => (X + 12 ≤ a ∧ a ≤ X + 15) ∨ ∃ l, l < N ∧ a = sB σ (X + 1) l + 1) (fun _ => False) false 0 0 := by
    refine ⟨⟨hX, by omega, fun b _ => ⟨by rw [a3], by rw [a4]⟩, fun f b _ _ => by rw [a1], fun f b _ _ hf => b1 f b (fun e => ?_), fun b k _ _ hb => b3 b k (fun e => hb (Or.inl e)) (fun l hl e => hb (Or.inr ⟨l, hl, e⟩)), fun b k _ _ => by rw [a2]⟩, by omega, by omega, fun f b hf => b1 f b (fun e => fo_m (by omega) (by omega) (e.1 ▸ hf)), fun b k hf => b3 b k (fun e => fo_m (by omega) (by omega) hf) (fun l hl e => fo_n (by have := tb l hl; omega) hf)⟩
    rcases e.2 with e | e | e | e
    · exact hf (by rw [e]; decide)
    · exact hf (by rw [e]; decide)
    · exact hf (by rw [e]; decide)
    · exact hf (by rw [e]; decide)
  have q : fp X σ (wI (wI (wI σ' 258 (X + 8) 0) 260 (X + 8) 0) 39 X v) [39, 258, 260, 264, 265] (fun a => (X + 12 ≤ a ∧ a ≤ X + 15) ∨ ∃ l, l < N ∧ a = sB σ (X + 1) l + 1) (fun _ => False) false 0 0 := fp_I (fp_I (fp_I q1 (Or.inr ⟨by decide, fo_m (by omega) (by omega)⟩)) (Or.inr ⟨by decide, fo_m (by omega) (by omega)⟩)) (Or.inr ⟨by decide, fo_m (by omega) (by omega)⟩)
  refine ⟨gd_of q (by decide) (by decide), fun m' mk m1 m2 m3 => ?_⟩
  have K : kx X σ (wI (wI (wI σ' 258 (X + 8) 0) 260 (X + 8) 0) 39 X v) s (u1 (u1 (u1 s 346 0) 347 0) 348 v) m m' [39, 258, 260, 264, 265] (fun a => (X + 12 ≤ a ∧ a ≤ X + 15) ∨ ∃ l, l < N ∧ a = sB σ (X + 1) l + 1) (fun _ => False) false [346, 347, 348] [1, 2, 18, 19] := ⟨q.1, fun f hf => by rw [u1_o (fun e => hf (by rw [e]; decide)), u1_o (fun e => hf (by rw [e]; decide)), u1_o (fun e => hf (by rw [e]; decide))], fun c hc k => mk.2 c (fun e => hc (by rw [e]; decide)) (fun e => hc (by rw [e]; decide)) (fun e => hc (by rw [e]; decide)) (fun e => hc (by rw [e]; decide)) k⟩
  have t2 := tm2_0 (N := N) (z := z) K (fun e => e)
  have nx : ∀ b, b < X + 12 → ¬ (fun a => (X + 12 ≤ a ∧ a ≤ X + 15) ∨ ∃ l, l < N ∧ a = sB σ (X + 1) l + 1) b := fun b hb e => by
    rcases e with e | ⟨l, hl, e⟩
    · omega
    · have := tb l hl; omega
  have kx2 : ∀ i, i < T → ¬ (fun a => (X + 12 ≤ a ∧ a ≤ X + 15) ∨ ∃ l, l < N ∧ a = sB σ (X + 1) l + 1) (sB σ (X + 16) i + 1) := fun i hi e => by
    have := (J12.2.2.2.1 i hi).1
    rcases e with e | ⟨l, hl, e⟩
    · omega
    · exact tb_ne J2 J12 hl hi (by omega)
  have S1 : cSg (wI (wI (wI σ' 258 (X + 8) 0) 260 (X + 8) 0) 39 X v) X m' N z := fun l k hl hk => by
    rw [pI_B, pI_B, pI_B, a2, pI_A, pI_A, pI_A, m1 l k hl hk]; exact b4 l k hl hk
  have S2 : cDe (wI (wI (wI σ' 258 (X + 8) 0) 260 (X + 8) 0) 39 X v) X (u1 (u1 (u1 s 346 0) 347 0) 348 v) m' N z := ⟨0, by decide, by rw [u1_o (by decide), u1_o (by decide), u1_s]; rfl, by rw [wI_o (by decide), wI_o (by decide), wI_s]; rfl, fun p hp => absurd hp (Nat.not_lt_zero p)⟩
  have S3 : cRc (wI (wI (wI σ' 258 (X + 8) 0) 260 (X + 8) 0) 39 X v) X (u1 (u1 (u1 s 346 0) 347 0) 348 v) m' N := ⟨0, by decide, by rw [u1_o (by decide), u1_s]; rfl, by rw [wI_o (by decide), wI_s]; rfl, fun p hp => absurd hp (Nat.not_lt_zero p)⟩
  have S4 : cRs (wI (wI (wI σ' 258 (X + 8) 0) 260 (X + 8) 0) 39 X v) X m' := ⟨V, hV, by rw [wI_o (by decide), wI_o (by decide), wI_o (by decide)]; exact h4, fun i hi => by rw [pI_A, pI_A, pI_A]; exact m2 i hi, m3⟩
  have S5 : cPo (wI (wI (wI σ' 258 (X + 8) 0) 260 (X + 8) 0) 39 X v) X (u1 (u1 (u1 s 346 0) 347 0) 348 v) := by
    unfold cPo
    rw [wI_s, u1_s]
  exact ⟨sh_c J1 K.1, cTs_c J2 K (by decide) (fun e => e) (by decide) (by decide), S1, cSp_c J4 K t2 rfl (by decide), cPh_c J5 K t2 (by decide) (fun e => e) (by decide) (by decide), cCo_c J6 K (nx (X + 4) (by omega)) (by decide), cPa_c J7 K t2 (by decide) (fun e => e) (by decide) (by decide), S2, S3, S4, S5, cBs_c J12 K (by decide) (fun e => e) (by decide) (by decide), cIx_c J13 J12 K (by decide) (fun e => e) (by decide), cKy_c J14 J12 K (fun e => e) kx2 (by decide)⟩
theorem x_split (hJ : CJ σ X s m N z T y) {x w : Int32} (h1 : (¬ ∃ j, j < N ∧ x = nI j) → Q (.inr (1, sX σ)) (nO σ 201 6)) (hB : ∀ t, t < N → x = nI t → (¬ ∃ a, a < z t ∧ w = nI (a + 1)) → ∀ σ', gd X σ σ' → (∀ m', kq m m' → (∀ k, m' 1 k = m 1 k) → (∀ k, m' 18 k = rsF (m 18) (m 18) 0 k) → (∀ k, m' 19 k = rsF (m 19) (m 19) 0 k) → CJ σ' X (u1 (u1 (u1 s 346 0) 347 0) 348 w) m' N z T y) → Q (.inl (some (vi (-1)))) σ')
    (h0 : ∀ t D E R rv a0, t < N → x = nI t → s 346 = nI D → D ≤ 8 → (∀ d, d < D → deM m (E d) d) → s 347 = nI R → R ≤ 20 → (∀ r, r < R → m 17 r = nI (rv r) ∧ rv r < N) → a0 < z t → w = nI (a0 + 1) → ∀ σ', gd X σ σ' → (∀ m', kq m m' → (∀ k, m' 1 k = (spH (fun k => m 1 (60 * t + k)) (z t) E D rv z a0 (m 1) (spV (fun k => m 1 (60 * t + k)) (z t) E D R (fun x => z (rv x)) a0)) k) → (∀ k, m' 18 k = rsF (m 18) (fun r => nI (spE (fun k => m 1 (60 * t + k)) (z t) E D (z (rv r)) (spP (fun k => m 1 (60 * t + k)) (z t) E D (fun x => z (rv x)) a0 r) - spP (fun k => m 1 (60 * t + k)) (z t) E D (fun x => z (rv x)) a0 r)) (spV (fun k => m 1 (60 * t + k)) (z t) E D R (fun x => z (rv x)) a0) k) → (∀ k, m' 19 k = rsF (m 19) (fun r => en D (spW (fun k => m 1 (60 * t + k)) (z t) E D (spE (fun k => m 1 (60 * t + k)) (z t) E D (z (rv r)) (spP (fun k => m 1 (60 * t + k)) (z t) E D (fun x => z (rv x)) a0 r)))) (spV (fun k => m 1 (60 * t + k)) (z t) E D R (fun x => z (rv x)) a0) k) → CJ σ' X (u1 (u1 (u1 s 346 0) 347 0) 348 (nI ((spP (fun k => m 1 (60 * t + k)) (z t) E D (fun x => z (rv x)) a0 (spV (fun k => m 1 (60 * t + k)) (z t) E D R (fun x => z (rv x)) a0)) + 1))) m' N z T y) → Q (.inl (some (vi (if (spP (fun k => m 1 (60 * t + k)) (z t) E D (fun x => z (rv x)) a0 (spV (fun k => m 1 (60 * t + k)) (z t) E D R (fun x => z (rv x)) a0)) < z t then -1 else nI ((spP (fun k => m 1 (60 * t + k)) (z t) E D (fun x => z (rv x)) a0 (spV (fun k => m 1 (60 * t + k)) (z t) E D R (fun x => z (rv x)) a0)) + 1))))) σ') : ca J_X_split [vr X, vi x, vi w] σ Q := by
  obtain ⟨J1, J2, J3, J4, J5, J6, J7, J8, J9, J10, J11, J12, J13, J14⟩ := id hJ
  have hX := J1.1.2
  obtain ⟨D, d1, d2, d3, d4⟩ := id J8
  obtain ⟨R, r1, r2, r3, r4⟩ := id J9
  refine b_X_split_0 ⟨sh_k0 J1, sh_k0 J1, x_known J1 J2 h1 (fun t ht hx => ?_)⟩
  have ch : ∃ E : Nat → deD, ∀ d, d < D → deS σ X d (E d) ∧ deM m (E d) d := by
    refine Classical.axiomOfChoice (r := fun d q => d < D → deS σ X d q ∧ deM m q d) (fun d => ?_)
    by_cases hd : d < D
    · obtain ⟨⟨l, l1, l2, l3, l4⟩, b, b1, b2⟩ := d4 d hd
      exact ⟨(z l, fun k => m 1 (60 * l + k), b), fun _ => ⟨⟨by rw [l3]; exact tY_of J2 J3 l1, l2, b1⟩, l, l4, mX_of J2 l1, l2, b2⟩⟩
    · exact ⟨(0, fun _ => 0, false), fun e => absurd e hd⟩
  obtain ⟨E, hE⟩ := ch
  have ch2 : ∃ rv : Nat → Nat, ∀ r, r < R → rv r < N ∧ sB σ (X + 11) r = sB σ (X + 1) (rv r) ∧ m 17 r = nI (rv r) := by
    refine Classical.axiomOfChoice (r := fun r i => r < R → i < N ∧ sB σ (X + 11) r = sB σ (X + 1) i ∧ m 17 r = nI i) (fun r => ?_)
    by_cases hr : r < R
    · obtain ⟨i, i1, i2, i3⟩ := r4 r hr
      exact ⟨i, fun _ => ⟨i1, i2, i3⟩⟩
    · exact ⟨0, fun e => absurd e hr⟩
  obtain ⟨rv, hrv⟩ := ch2
  have zt := (J2.2.2.2.1 t ht).2.2.2.2.2.2
  rw [e_38 J1]
  have fin : ∀ (r : Bool) σ' v, (∃ G, so σ σ' X N z G) → sI σ' 265 (X + 8) = v → Q (.inl (some (vi (if r then v else -1)))) (wI (wI (wI σ' 258 (X + 8) 0) 260 (X + 8) 0) 39 X v) → ∀ x2 : Int32, wp J_Splitting_takeApart 52 [vr (X + 8), vr (sB σ (X + 1) t), vi x2, vi (bI r)] [] σ' (cI (fun r2 σ2 => sK σ2 X = 1 ∧ (sK σ2 (sR σ2 38 X) = 8 ∧ (sK σ2 X = 1 ∧ (∀ σ3, σ3 = wI σ2 39 X (sI σ2 265 (sR σ2 38 X)) → (r2 = 0 → wp J_X_split 37 [vr X, vi x, vi w, vi r2] [vi (-1 : Int32)] σ3 Q) ∧ (¬ (r2 = 0) → sK σ3 X = 1 ∧ (wp J_X_split 37 [vr X, vi x, vi w, vi r2] [vi (sI σ3 39 X)] σ3 Q)))))) Q) := by
    intro r σ' v ⟨G, hq⟩ h5 H x2
    have S := sh_o J1 hq
    refine b_Splitting_takeApart_52 ⟨sh_k8 S, fun σ1 e1 => ⟨by rw [e1, pI_K]; exact sh_k8 S, fun σ2 e2 => ⟨bI_b r, ?_⟩⟩⟩
    have k0 : sK σ2 X = 1 := by rw [e2, pI_K, e1, pI_K]; exact sh_k0 S
    have k8 : sK σ2 (X + 8) = 8 := by rw [e2, pI_K, e1, pI_K]; exact sh_k8 S
    dsimp only [cI]
    rw [show sR σ2 38 X = X + 8 by rw [e2, pI_R, e1, pI_R]; exact e_38 S, show sI σ2 265 (X + 8) = v by rw [e2, wI_o (by decide), e1, wI_o (by decide)]; exact h5]
    refine ⟨k0, k8, k0, fun σ3 e3 => ⟨fun c => b_X_split_37 ?_, fun c => ⟨by rw [e3, pI_K]; exact k0, b_X_split_37 ?_⟩⟩⟩
    · rw [e3, e2, e1]
      cases r with
      | false => exact H
      | true => exact absurd c (by decide)
    · rw [e3, wI_s, e2, e1]
      cases r with
      | false => exact absurd rfl c
      | true => exact H
  refine ⟨sh_k8 J1, b_Splitting_takeApart_0 ⟨sh_k8 J1, fun σ1 e1 => ⟨by rw [e1, pI_K]; exact sh_k8 J1, fun σ2 e2 => ?_⟩⟩⟩
  have q0 : sc σ σ2 X := by rw [e2, e1]; exact sc_t (sc_I (Or.inl rfl)) (sc_I (Or.inr rfl))
  have S2 := sh_z J1 q0
  have A2 : sA σ2 = sA σ := by rw [e2, pI_A, e1, pI_A]
  have i264 : sI σ2 264 (X + 8) = 0 := by rw [e2, wI_o (by decide), e1, wI_s]
  have i265 : sI σ2 265 (X + 8) = w := by rw [e2, wI_s]
  have hq2 : so σ σ2 X N z (m 1) := ⟨q0.1, fun f b hf => q0.2.1 f b (fun e => hf ⟨e.1, Or.inr (Or.inr e.2)⟩), fun b k _ _ => by rw [A2], fun l k hl hk => by rw [A2]; exact J3 l k hl hk⟩
  have tt := tY_z (tY_of J2 J3 ht) q0
  have bad : (¬ ∃ a, a < z t ∧ w = nI (a + 1)) → wp J_Splitting_takeApart 52 [vr (X + 8), vr (sB σ (X + 1) t), vi w, vi (0 : Int32)] [] σ2 _ := fun c => by
    have W := split_w (V := 0) (v := w) hJ hq2 (by decide) (by rw [i264]; rfl)
    refine fin false σ2 w ⟨m 1, hq2⟩ i265 (hB t ht hx c _ W.1 (fun m' mk m1 m2 m3 => W.2 m' mk (fun l k _ _ => m1 _) (fun i hi => absurd hi (Nat.not_lt_zero i)) (fun i _ hi => ⟨?_, ?_⟩))) w
    · rw [m2]; unfold rsF; rw [if_neg (Nat.not_lt_zero i), if_pos hi]
    · rw [m3]; unfold rsF; rw [if_neg (Nat.not_lt_zero i), if_pos hi]
  refine ⟨fun c => bad (fun ⟨a, q1, q2⟩ => ?_), fun c => ⟨tt.1.1, t_size tt.1 ?_⟩⟩
  · rw [q2, lit_1, n_lt (by omega) (by decide)] at c
    omega
  · have hw : ¬ w < 0 := fun q => c (Int32.lt_trans q (by decide))
    obtain ⟨k, hk, hwk⟩ := n_of hw
    rw [hwk, lit_1, n_lt hk (by decide)] at c
    refine ⟨fun c2 => bad (fun ⟨a, q1, q2⟩ => ?_), fun c2 => ⟨sh_k8 S2, ?_⟩⟩
    · rw [q2, n_lt (by omega) (by omega)] at c2
      omega
    · rw [hwk, n_lt (by omega) hk] at c2
      obtain ⟨a0, rfl⟩ : ∃ a, k = a + 1 := ⟨k - 1, by omega⟩
      have hV : 0 ≤ (spV (fun k => m 1 (60 * t + k)) (z t) E D R (fun x => z (rv x)) a0) ∧ (spV (fun k => m 1 (60 * t + k)) (z t) E D R (fun x => z (rv x)) a0) ≤ 0 + R := lf_le (fun r => ¬ spP (fun k => m 1 (60 * t + k)) (z t) E D (fun x => z (rv x)) a0 r < z t) R 0
      have hb := spP_b (fun k => m 1 (60 * t + k)) (z t) E D (fun x => z (rv x)) a0 (by omega) (spV (fun k => m 1 (60 * t + k)) (z t) E D R (fun x => z (rv x)) a0)
      refine s_pieces (R := R) (a0 := a0) (zr := (fun x => z (rv x))) (gr := fun r k => m 1 (60 * rv r + k)) S2 (by rw [q0.2.1 258 _ (by omega)]; exact d3) d1 (fun d hd => deS_z (hE d hd).1 q0) (by rw [q0.2.1 260 _ (by omega)]; exact r3) r1 (fun r hr => ?_) tt (by omega) i264 (by rw [i265]; exact hwk) (fun σc qc pc c4 c5 => ?_)
      · rw [q0.1.2.1, (hrv r hr).2.1]
        exact tY_z (tY_of J2 J3 (hrv r hr).1) q0
      · have hqc : so σ σc X N z (m 1) := by
          have q3 := sc_t q0 qc
          refine ⟨q3.1, fun f b hf => q3.2.1 f b (fun e => hf ⟨e.1, Or.inr (Or.inr e.2)⟩), fun b k hb1 _ => q3.2.2 b k (fun e => hb1 (by omega)), fun l k hl hk => ?_⟩
          have := (J2.2.2.2.1 l hl).1
          rw [q3.2.2 _ _ (by omega)]; exact J3 l k hl hk
        refine ⟨sh_k8 (sh_o J1 hqc), s_hand J1 J2 ht (by omega) (by omega) (fun r hr => ⟨(hrv r (by omega)).1, (hrv r (by omega)).2.1⟩) c4 hqc pc (fun σh qh ph hI => ?_)⟩
        have th := tX_g J2 qh.1.1 qh.1.2.2.1 qh.1.2.2.2.1 qh.2.2.2 ht
        have c4' : sI σh 264 (X + 8) = nI (spV (fun k => m 1 (60 * t + k)) (z t) E D R (fun x => z (rv x)) a0) := by rw [hI]; exact c4
        have c5' : sI σh 265 (X + 8) = nI ((spP (fun k => m 1 (60 * t + k)) (z t) E D (fun x => z (rv x)) a0 (spV (fun k => m 1 (60 * t + k)) (z t) E D R (fun x => z (rv x)) a0)) + 1) := by rw [hI]; exact c5
        have W := split_w (v := nI ((spP (fun k => m 1 (60 * t + k)) (z t) E D (fun x => z (rv x)) a0 (spV (fun k => m 1 (60 * t + k)) (z t) E D R (fun x => z (rv x)) a0)) + 1)) hJ qh (by omega) c4'
        have H := h0 t D E R rv a0 ht hx d2 d1 (fun d hd => (hE d hd).2) r2 r1 (fun r hr => ⟨(hrv r hr).2.2, (hrv r hr).1⟩) (by omega) hwk _ W.1 (fun m' mk m1 m2 m3 => W.2 m' mk (fun l k _ _ => m1 _) (fun i hi => ⟨?_, ?_⟩) (fun i hi hi2 => ⟨?_, ?_⟩))
        · refine ⟨sh_k8 (sh_o J1 qh), th.1, t_size th ?_⟩
          dsimp only [cI]
          rw [c5', n_le (by omega) (by omega)]
          refine ⟨fun c3 => b_Splitting_takeApart_51 (fin false σh _ ⟨_, qh⟩ c5' ?_ w), fun c3 => b_Splitting_takeApart_51 (fin true σh _ ⟨_, qh⟩ c5' ?_ w)⟩
          · rw [if_pos (show (spP (fun k => m 1 (60 * t + k)) (z t) E D (fun x => z (rv x)) a0 (spV (fun k => m 1 (60 * t + k)) (z t) E D R (fun x => z (rv x)) a0)) < z t by omega)] at H
            exact H
          · rw [if_neg (show ¬ (spP (fun k => m 1 (60 * t + k)) (z t) E D (fun x => z (rv x)) a0 (spV (fun k => m 1 (60 * t + k)) (z t) E D R (fun x => z (rv x)) a0)) < z t by omega)] at H
            exact H
        · rw [m2]; unfold rsF; rw [if_pos hi]; exact (ph i hi).2.1.symm
        · rw [m3]; unfold rsF; rw [if_pos hi]; exact (ph i hi).2.2.symm
        · rw [m2]; unfold rsF; rw [if_neg (by omega), if_pos hi2]
        · rw [m3]; unfold rsF; rw [if_neg (by omega), if_pos hi2]
end SP2
