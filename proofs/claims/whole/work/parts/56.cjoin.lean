/-! LAYER 2: join of the class. -/
/-- the state while text t is written: all signs G, the pointer v -/
def jn (σ σ' : iS) (X t N : Nat) (z : Nat → Nat) (G : Nat → Int32) (v : Int32) : Prop :=
  (sR σ' = sR σ ∧ sB σ' = sB σ ∧ sK σ' = sK σ ∧ sN σ' = sN σ ∧ sX σ' = sX σ ∧ sS σ' = sS σ) ∧ (∀ f b, ¬ (b = X + 6 ∧ (f = 225 ∨ f = 226)) → sI σ' f b = sI σ f b) ∧ (sI σ' 226 (X + 6) = v ∧ sI σ' 225 (X + 6) = 0) ∧ (∀ b k, b ≠ sB σ (X + 1) t + 1 → sA σ' b k = sA σ b k) ∧ ∀ l k, l < N → k < z l → sA σ' (sB σ (X + 1) l + 1) k = G (60 * l + k)
/-- what the class's part at a says -/
def paC (σ : iS) (X N a : Nat) (q : paD) : Prop := sK σ a = 6 ∧ q.1 < N ∧ sR σ 192 a = sB σ (X + 1) q.1 ∧ (q.2.1 = false → sR σ 193 a = 0) ∧ (q.2.1 = true → q.2.2 < N ∧ sR σ 193 a = sB σ (X + 1) q.2.2)
section CJn
variable {X : Nat} {σ σ' : iS} {s : Nat → Int32} {m : Nat → Nat → Int32} {N T : Nat} {z y : Nat → Nat} {Q : iO → iS → Prop} {t a : Nat} {G : Nat → Int32} {v : Int32}
theorem tX_g (hT : cTs σ X s m N z) (e1 : sR σ' = sR σ) (e2 : sK σ' = sK σ) (e3 : sN σ' = sN σ) (hS : ∀ l k, l < N → k < z l → sA σ' (sB σ (X + 1) l + 1) k = G (60 * l + k)) {j : Nat} (hj : j < N) : tX σ' (sB σ (X + 1) j) (z j) (fun k => G (60 * j + k)) := by
  obtain ⟨⟨g1, g2⟩, g3, g4, g5, g6, g7, g8⟩ := hT.2.2.2.1 j hj
  unfold tX
  rw [e1, e2, e3, g4]
  exact ⟨g3, g5, g6, g8, fun k hk => hS j k hj hk⟩
theorem p_len (hT : cTs σ X s m N z) (hn : jn σ σ' X t N z G v) {q : paD} (hp : paC σ X N a q) (h : Q (.inl (some (vi (nI (paL z q G))))) σ') : ca J_Part_length [vr a] σ' Q := by
  obtain ⟨⟨a1, a2, a3, a4, a5, a6⟩, b1, ⟨b2, b2'⟩, b3, b4⟩ := hn
  obtain ⟨c1, c2, c3, c4, c5⟩ := hp
  have k6 : sK σ' a = 6 := by rw [a3]; exact c1
  have tq := tX_g hT a1 a3 a4 b4 c2
  have hz := tq.2.2.2.1
  unfold paL at h
  have fin : ∀ x : Int32, (x = -1 ∧ re (fun k => G (60 * q.1 + k)) (z q.1) q.2.1 (fun k => G (60 * q.2.2 + k)) (z q.2.2) = z q.1) ∨ (x ≠ -1 ∧ x = nI (re (fun k => G (60 * q.1 + k)) (z q.1) q.2.1 (fun k => G (60 * q.2.2 + k)) (z q.2.2))) → wp J_Part_length 22 [vr a, vl 0] [vi x] σ' Q := by
    intro x hx
    refine b_Part_length_22 ⟨fun c => b_Part_length_39 ?_, fun c => ⟨k6, ?_⟩⟩
    · rcases hx with ⟨e, -⟩ | ⟨-, e⟩
      · exact absurd e c
      · rw [e]; exact h
    · rcases hx with ⟨-, e⟩ | ⟨e, -⟩
      · rw [a1, c3]
        rw [e] at h
        exact ⟨tq.1, t_size tq (b_Part_length_39 h)⟩
      · exact absurd e c
  refine b_Part_length_0 ⟨k6, ?_⟩
  rw [a1, c3]
  cases eo : q.2.1 with
  | false =>
    refine ⟨fun c => absurd (c4 eo) c, fun _ => fin (-1) (Or.inl ⟨rfl, ?_⟩)⟩
    unfold re
    rw [eo]; rfl
  | true =>
    obtain ⟨c6, c7⟩ := c5 eo
    have tl := tX_g hT a1 a3 a4 b4 c6
    rw [c7]
    refine ⟨fun _ => ⟨k6, k6, tq.1, t_fpo tq tl (fin _ ?_)⟩, fun c => absurd (show sB σ (X + 1) q.2.2 ≠ 0 by have := (hT.2.2.2.1 _ c6).1; omega) c⟩
    have hl := lf_le (ocP (fun k => G (60 * q.1 + k)) (z q.1) (fun k => G (60 * q.2.2 + k)) (z q.2.2)) (z q.1) 0
    have er : re (fun k => G (60 * q.1 + k)) (z q.1) q.2.1 (fun k => G (60 * q.2.2 + k)) (z q.2.2) = lf (ocP (fun k => G (60 * q.1 + k)) (z q.1) (fun k => G (60 * q.2.2 + k)) (z q.2.2)) (z q.1) 0 := by
      unfold re
      rw [eo]; rfl
    rw [er]
    by_cases e : lf (ocP (fun k => G (60 * q.1 + k)) (z q.1) (fun k => G (60 * q.2.2 + k)) (z q.2.2)) (z q.1) 0 = z q.1
    · rw [e, en_N]; exact Or.inl ⟨rfl, rfl⟩
    · rw [en_r e]; exact Or.inr ⟨n_m1 (by omega), rfl⟩
/-- one sign is put -/
theorem jn_w (hT : cTs σ X s m N z) (ht : t < N) {k : Nat} {x w : Int32} (hk : k < z t) (hn : jn σ σ' X t N z G v) : jn σ (wI (wA σ' (sB σ (X + 1) t + 1) k x) 226 (X + 6) w) X t N z (u1 G (60 * t + k) x) w := by
  obtain ⟨⟨a1, a2, a3, a4, a5, a6⟩, b1, ⟨b2, b2'⟩, b3, b4⟩ := hn
  refine ⟨⟨a1, a2, a3, a4, a5, a6⟩, fun f b hf => ?_, ⟨wI_s, by rw [wI_o (by decide)]; exact b2'⟩, fun b i hb => ?_, fun l i hl hi => ?_⟩
  · rw [wI_n (fun e => hf ⟨e.2, Or.inr e.1⟩)]; exact b1 f b hf
  · rw [pI_A, wA_o hb]; exact b3 b i hb
  · have zl := (hT.2.2.2.1 l hl).2.2.2.2.2.2
    have zt := (hT.2.2.2.1 t ht).2.2.2.2.2.2
    rw [pI_A]
    by_cases e : l = t
    · subst e
      by_cases e2 : i = k
      · subst e2; rw [wA_s, u1_s]
      · rw [wA_k e2, u1_o (by omega)]; exact b4 l i hl hi
    · rw [wA_o (fun q => e (hT.2.2.2.2 l t hl ht (by omega))), u1_o (by omega)]; exact b4 l i hl hi
theorem j_part (hs : sh σ X) (hT : cTs σ X s m N z) (ht : t < N) {q : paD} {p : Nat} (hp : paC σ X N p q) {L : Nat} (hL : L ≤ z q.1) : ∀ d k a G σ', k + d = L → 1 ≤ a → a ≤ z t + 1 → jn σ σ' X t N z G (nI a) → (∀ σ'', jn σ σ'' X t N z (j1 t (z t) q.1 d k a G).2.2 (nI (j1 t (z t) q.1 d k a G).2.1) → Q (.inl (some (vi (bI (j1 t (z t) q.1 d k a G).1)))) σ'') → wp J_Joining_putPart 8 [vr (X + 6), vr p, vr (sB σ (X + 1) t), vi (nI L), vi (nI k)] [] σ' Q := by
  obtain ⟨c1, c2, c3, c4, c5⟩ := id hp
  have zi := (hT.2.2.2.1 _ c2).2.2.2.2.2.2
  have zt := (hT.2.2.2.1 t ht).2.2.2.2.2.2
  intro d
  induction d with
  | zero =>
    intro k a G σ' hk ha1 ha2 hn h
    refine b_Joining_putPart_8 ⟨fun _ => ⟨Or.inr rfl, h σ' hn⟩, fun c => ?_⟩
    rw [n_le (by omega) (by omega)] at c
    omega
  | succ d ih =>
    intro k a G σ' hk ha1 ha2 hn h
    obtain ⟨⟨a1, a2, a3, a4, a5, a6⟩, b1, ⟨b2, b2'⟩, b3, b4⟩ := id hn
    have tt := tX_g hT a1 a3 a4 b4 ht
    have ti := tX_g hT a1 a3 a4 b4 c2
    have k7 : sK σ' (X + 6) = 7 := by rw [a3]; exact sh_k6 hs
    have r64 : sR σ' 64 (sB σ (X + 1) t) = sB σ (X + 1) t + 1 := by rw [a1]; exact (hT.2.2.2.1 t ht).2.2.1
    refine b_Joining_putPart_8 ⟨fun c => ?_, fun _ => ⟨k7, tt.1, t_size tt ?_⟩⟩
    · rw [n_le (by omega) (by omega)] at c
      omega
    · dsimp only [cI]
      rw [b2, n_le (by omega) (by omega)]
      unfold j1 at h
      refine ⟨fun c => ⟨tt.1, k7, by rw [a3]; exact c1, ?_⟩, fun c => ?_⟩
      · rw [if_neg (by omega)] at h
        rw [show sR σ' 192 p = sB σ (X + 1) q.1 by rw [a1]; exact c3, ti.2.1, ti.2.2.1, tt.2.1, tt.2.2.1, n_p1 ha1, nI_clamp (by omega), nI_clamp (by omega), ti.2.2.2.2 k (by omega), r64]
        refine ⟨ti.1, ⟨rfl, n_in (by omega) (by omega)⟩, ⟨rfl, n_in (by omega) (by omega)⟩, fun σ4 e4 => ?_⟩
        have k74 : sK σ4 (X + 6) = 7 := by rw [e4, pA_K]; exact k7
        rw [show sI σ4 226 (X + 6) = nI a by rw [e4, pA_I]; exact b2, n_s1]
        refine ⟨k74, k74, fun σ5 e5 => ?_⟩
        rw [n_s1]
        refine ih (k + 1) (a + 1) _ σ5 (by omega) (by omega) (by omega) ?_ h
        rw [e5, e4]
        exact jn_w hT ht (by omega) hn
      · rw [if_pos (by omega)] at h
        exact ⟨Or.inl rfl, h σ' hn⟩
theorem j_parts (hs : sh σ X) (hT : cTs σ X s m N z) (ht : t < N) {P : Nat} (hP2 : P ≤ 20) {C : Nat → paD} (hC : ∀ p, p < P → paC σ X N (sB σ (X + 7) p) (C p)) {x2 : Int32} : ∀ d p a G σ', p + d = P → 1 ≤ a → a ≤ z t + 1 → jn σ σ' X t N z G (nI a) → (∀ σ'', jn σ σ'' X t N z (jA z C t (z t) d p a G).2.2 (nI (jA z C t (z t) d p a G).2.1) → Q (.inl (some (vi (bI (jA z C t (z t) d p a G).1)))) σ'') → wp J_Joining_putInto 33 [vr (X + 6), vr (sB σ (X + 1) t), vi x2, vi (nI P), vi (nI p)] [] σ' Q := by
  intro d
  induction d with
  | zero =>
    intro p a G σ' hk ha1 ha2 hn h
    refine b_Joining_putInto_33 ⟨fun _ => ⟨Or.inr rfl, h σ' hn⟩, fun c => ?_⟩
    rw [n_le (by omega) (by omega)] at c
    omega
  | succ d ih =>
    intro p a G σ' hk ha1 ha2 hn h
    obtain ⟨⟨a1, a2, a3, a4, a5, a6⟩, b1, ⟨b2, b2'⟩, b3, b4⟩ := id hn
    have k7 : sK σ' (X + 6) = 7 := by rw [a3]; exact sh_k6 hs
    have c0 := hC p (by omega)
    refine b_Joining_putInto_33 ⟨fun c => ?_, fun _ => ⟨k7, ?_⟩⟩
    · rw [n_le (by omega) (by omega)] at c
      omega
    · rw [a1, e_224 hs, a3, sh_k7 hs, a4, sh_n7 hs, a2, nI_clamp (by omega)]
      refine ⟨⟨⟨by decide, by decide⟩, n_in (by omega) (by decide)⟩, sh_k6 hs, b_Joining_putPart_0 ⟨by rw [a3]; exact c0.1, p_len hT hn c0 ?_⟩⟩
      have hb := j1_b t (z t) (C p).1 (paL z (C p) G) 0 a G ha2 ha1
      refine j_part (L := paL z (C p) G) hs hT ht c0 (re_le _ _ _ _ _) (paL z (C p) G) 0 a G σ' (Nat.zero_add _) ha1 ha2 hn (fun σ'' hn' => ?_)
      unfold jA at h
      cases er : (j1 t (z t) (C p).1 (paL z (C p) G) 0 a G).1 with
      | false =>
        rw [er] at h
        rw [if_neg (by decide), er] at h
        exact ⟨fun c => absurd rfl c, fun _ => ⟨Or.inl rfl, h σ'' hn'⟩⟩
      | true =>
        rw [er] at h
        rw [if_pos rfl] at h
        refine ⟨fun _ => ?_, fun c => absurd (show bI true ≠ 0 by decide) c⟩
        rw [n_s1]
        exact ih (p + 1) _ _ σ'' (by omega) hb.2 hb.1 hn' h
theorem pa_d (hT : cTs σ X s m N z) {p : Nat} (h : paI σ X m N z a p) : ∃ q : paD, paC σ X N a q ∧ paM m N q p := by
  obtain ⟨⟨h1, h2⟩, h3, ⟨i, g1, g2, g3⟩, h5⟩ := h
  obtain ⟨o, l, o1, o2⟩ := bd_e h5
  exact ⟨(i, o, l), ⟨h3, g1, g2, fun e => (o1 e).1, fun e => ⟨(o2 e).1, (o2 e).2.1⟩⟩, g1, g3, fun e => (o1 e).2, fun e => ⟨(o2 e).2.2, (o2 e).1⟩⟩
theorem join_w (hJ : CJ σ X s m N z T y) (ht : t < N) {σ2 : iS} (hn : jn σ σ2 X t N z G v) : gd X σ (wI σ2 39 X (sI σ2 226 (X + 6))) ∧ CJ (wI σ2 39 X (sI σ2 226 (X + 6))) X (u1 (u1 s 340 0) 348 v) (gW m G) N z T y := by
  obtain ⟨J1, J2, J3, J4, J5, J6, J7, J8, J9, J10, J11, J12, J13, J14⟩ := id hJ
  have hX := J1.1.2
  obtain ⟨⟨a1, a2, a3, a4, a5, a6⟩, b1, ⟨b2, b2'⟩, b3, b4⟩ := id hn
  have g1 := (J2.2.2.2.1 t ht).1
  have q1 : fp X σ σ2 [39, 225, 226] (fun a => a = sB σ (X + 1) t + 1) (fun _ => False) false 0 0 := ⟨⟨hX, by omega, fun b _ => ⟨by rw [a3], by rw [a4]⟩, fun f b _ _ => by rw [a1], fun f b _ _ hf => b1 f b (fun e => hf (by rcases e.2 with e | e <;> (rw [e]; decide))), fun b k _ _ hb => b3 b k hb, fun b k _ _ => by rw [a2]⟩, by omega, by omega, fun f b hf => b1 f b (fun e => fo_m (by omega) (by omega) (e.1 ▸ hf)), fun b k hf => b3 b k (fun e => fo_n (by omega) (e ▸ hf))⟩
  have q : fp X σ (wI σ2 39 X (sI σ2 226 (X + 6))) [39, 225, 226] (fun a => a = sB σ (X + 1) t + 1) (fun _ => False) false 0 0 := fp_I q1 (Or.inr ⟨by decide, fo_m (by omega) (by omega)⟩)
  have K : kx X σ (wI σ2 39 X (sI σ2 226 (X + 6))) s (u1 (u1 s 340 0) 348 v) m (gW m G) [39, 225, 226] (fun a => a = sB σ (X + 1) t + 1) (fun _ => False) false [340, 348] [1] := ⟨q.1, fun f hf => by rw [u1_o (fun e => hf (by rw [e]; decide)), u1_o (fun e => hf (by rw [e]; decide))], fun c hc k => gW_o (fun e => hc (by rw [e]; decide)) k⟩
  have t2 := tm2_0 (N := N) (z := z) K (fun e => e)
  have S1 : cSg (wI σ2 39 X (sI σ2 226 (X + 6))) X (gW m G) N z := fun l k hl hk => by
    rw [pI_B, a2, pI_A, gW_1]; exact b4 l k hl hk
  have S2 : cPa (wI σ2 39 X (sI σ2 226 (X + 6))) X (u1 (u1 s 340 0) 348 v) (gW m G) N z := ⟨0, by decide, by rw [u1_o (by decide), u1_s]; rfl, by rw [wI_o (by decide), b2']; rfl, fun p hp => absurd hp (Nat.not_lt_zero p)⟩
  have S3 : cPo (wI σ2 39 X (sI σ2 226 (X + 6))) X (u1 (u1 s 340 0) 348 v) := by
    unfold cPo
    rw [wI_s, u1_s, b2]
  exact ⟨gd_of q (by decide) (by decide), ⟨sh_c J1 K.1, cTs_c J2 K (by decide) (fun e => e) (by decide) (by decide), S1, cSp_c J4 K t2 rfl (by decide), cPh_c J5 K t2 (by decide) (fun e => e) (by decide) (by decide), cCo_c J6 K (show ¬ (X + 4 = sB σ (X + 1) t + 1) by omega) (by decide), S2, cDe_c J8 K t2 (by decide) (show ¬ (X + 10 = sB σ (X + 1) t + 1) by omega) (fun e => e) (by decide) (by decide), cRc_c (z := z) (z' := z) J9 K t2 (by decide) (fun e => e) (by decide) (by decide), cRs_c J10 K (by decide) ⟨(show ¬ (X + 13 = sB σ (X + 1) t + 1) by omega), (show ¬ (X + 14 = sB σ (X + 1) t + 1) by omega)⟩ (by decide), S3, cBs_c J12 K (by decide) (fun e => e) (by decide) (by decide), cIx_c J13 J12 K (by decide) (fun e => e) (by decide), cKy_c J14 J12 K (fun e => e) (fun i hi => by have d1 := (J12.2.2.2.1 i hi).1; have d2 := tb_ne J2 J12 ht hi; exact (show ¬ (sB σ (X + 16) i + 1 = sB σ (X + 1) t + 1) by omega)) (by decide)⟩⟩
theorem x_join (hJ : CJ σ X s m N z T y) {x w : Int32} (h1 : (¬ ∃ j, j < N ∧ x = nI j) → Q (.inr (1, sX σ)) (nO σ 201 6)) (hB : ∀ t, t < N → x = nI t → (¬ ∃ a, a < z t ∧ w = nI (a + 1)) → ∀ σ', gd X σ σ' → CJ σ' X (u1 (u1 s 340 0) 348 w) m N z T y → Q (.inl (some (vi (-1)))) σ')
    (h0 : ∀ t P C a, t < N → x = nI t → s 340 = nI P → P ≤ 20 → (∀ p, p < P → paM m N (C p) p) → a < z t → w = nI (a + 1) → ∀ R, jA z C t (z t) P 0 (a + 1) (m 1) = R → ∀ σ', gd X σ σ' → CJ σ' X (u1 (u1 s 340 0) 348 (nI R.2.1)) (gW m R.2.2) N z T y → Q (.inl (some (vi (if R.1 then nI R.2.1 else -1)))) σ') : ca J_X_join [vr X, vi x, vi w] σ Q := by
  obtain ⟨J1, J2, J3, J4, J5, J6, J7, J8, J9, J10, J11, J12, J13, J14⟩ := id hJ
  have hX := J1.1.2
  obtain ⟨P, p1, p2, p3, p4⟩ := id J7
  refine b_X_join_0 ⟨sh_k0 J1, sh_k0 J1, x_known J1 J2 h1 (fun t ht hx => ?_)⟩
  have ch : ∃ C : Nat → paD, ∀ p, p < P → paC σ X N (sB σ (X + 7) p) (C p) ∧ paM m N (C p) p := by
    refine Classical.axiomOfChoice (r := fun p q => p < P → paC σ X N (sB σ (X + 7) p) q ∧ paM m N q p) (fun p => ?_)
    by_cases hp : p < P
    · obtain ⟨q, q1⟩ := pa_d J2 (p4 p hp)
      exact ⟨q, fun _ => q1⟩
    · exact ⟨(0, false, 0), fun e => absurd e hp⟩
  obtain ⟨C, hC⟩ := ch
  have zt := (J2.2.2.2.1 t ht).2.2.2.2.2.2
  rw [e_37 J1]
  have fin : ∀ (r : Bool) σ2 G v, jn σ σ2 X t N z G v → (∀ σ', gd X σ σ' → CJ σ' X (u1 (u1 s 340 0) 348 v) (gW m G) N z T y → Q (.inl (some (vi (if r then v else -1)))) σ') → cI (fun r2 σ2 => sK σ2 X = 1 ∧ (sK σ2 (sR σ2 37 X) = 7 ∧ (sK σ2 X = 1 ∧ (∀ σ3, σ3 = wI σ2 39 X (sI σ2 226 (sR σ2 37 X)) → (r2 = 0 → wp J_X_join 37 [vr X, vi x, vi w, vi r2] [vi (-1 : Int32)] σ3 Q) ∧ (¬ (r2 = 0) → sK σ3 X = 1 ∧ (wp J_X_join 37 [vr X, vi x, vi w, vi r2] [vi (sI σ3 39 X)] σ3 Q)))))) Q (.inl (some (vi (bI r)))) σ2 := by
    intro r σ2 G v hn H
    have W := join_w hJ ht hn
    have h2 := H _ W.1 W.2
    have k0 : sK σ2 X = 1 := by rw [hn.1.2.2.1]; exact sh_k0 J1
    have k6 : sK σ2 (X + 6) = 7 := by rw [hn.1.2.2.1]; exact sh_k6 J1
    dsimp only [cI]
    rw [hn.1.1, e_37 J1]
    refine ⟨k0, k6, k0, fun σ3 e3 => ⟨fun c => b_X_join_37 ?_, fun c => ⟨by rw [e3, pI_K]; exact k0, b_X_join_37 ?_⟩⟩⟩
    · rw [e3]
      cases r with
      | false => exact h2
      | true => exact absurd c (by decide)
    · rw [e3, wI_s]
      cases r with
      | false => exact absurd rfl c
      | true =>
        rw [hn.2.2.1.1]
        rw [hn.2.2.1.1] at h2
        exact h2
  refine ⟨sh_k6 J1, b_Joining_putInto_0 ⟨sh_k6 J1, sh_k6 J1, fun σ1 e1 => ⟨by rw [e1, pI_K]; exact sh_k6 J1, fun σ2 e2 => ?_⟩⟩⟩
  have hn : jn σ σ2 X t N z (m 1) w := by
    refine ⟨?_, fun f b hf => ?_, ⟨?_, ?_⟩, fun b k _ => ?_, fun l k hl hk => ?_⟩
    · rw [e2, e1]; exact ⟨rfl, rfl, rfl, rfl, rfl, rfl⟩
    · rw [e2, wI_n (fun e => hf ⟨e.2, Or.inr e.1⟩), e1, wI_n (fun e => hf ⟨e.2, Or.inl e.1⟩)]
    · rw [e2, wI_s]
    · rw [e2, wI_o (by decide), e1, wI_s]
    · rw [e2, pI_A, e1, pI_A]
    · rw [e2, pI_A, e1, pI_A]; exact J3 l k hl hk
  have bad : (¬ ∃ a, a < z t ∧ w = nI (a + 1)) → ∀ l4 : iV, wp J_Joining_putInto 28 [vr (X + 6), vr (sB σ (X + 1) t), vi w, vi (sI σ 225 (X + 6)), l4] [] σ2 _ := fun c l4 => b_Joining_putInto_28 ⟨Or.inl rfl, fin false σ2 (m 1) w hn (fun σ' d1 d2 => by rw [gW_s] at d2; exact hB t ht hx c σ' d1 d2)⟩
  have tt := tX_g J2 hn.1.1 hn.1.2.2.1 hn.1.2.2.2.1 hn.2.2.2.2 ht
  refine ⟨fun c => bad (fun ⟨a, q1, q2⟩ => ?_) _, fun c => ⟨tt.1, t_size tt ?_⟩⟩
  · rw [q2, lit_1, n_lt (by omega) (by decide)] at c
    omega
  · have hw : ¬ w < 0 := fun q => c (Int32.lt_trans q (by decide))
    obtain ⟨k, hk, hwk⟩ := n_of hw
    rw [hwk, lit_1, n_lt hk (by decide)] at c
    refine ⟨fun c2 => ?_, fun c2 => bad (fun ⟨a, q1, q2⟩ => ?_) _⟩
    · rw [hwk, n_le hk (by omega)] at c2
      obtain ⟨a, rfl⟩ : ∃ a, k = a + 1 := ⟨k - 1, by omega⟩
      rw [p3]
      refine j_parts J1 J2 ht p1 (fun p hp => (hC p hp).1) P 0 (a + 1) (m 1) σ2 (by omega) (by omega) (by omega) (by rw [← hwk]; exact hn) (fun σ'' hn' => ?_)
      exact fin _ σ'' _ _ hn' (fun σ' d1 d2 => h0 t P C a ht hx p2 p1 (fun p hp => (hC p hp).2) (by omega) hwk _ rfl σ' d1 d2)
    · rw [q2, n_le (by omega) (by omega)] at c2
      omega
end CJn
