/-! LAYER 2: set, at, span, counter, part, delimiter, receiver, result, pointer, row, index of the class. -/
theorem lit_255 : (255 : Int32) = nI 255 := by decide +kernel
/-- what the law needs of a call: kinds, lengths, references stay; the model and the script stay; a little room is used -/
def gd (X : Nat) (σ σ' : iS) : Prop := (∀ a, a < sX σ → sK σ' a = sK σ a ∧ sN σ' a = sN σ a) ∧ (∀ f a, a < sX σ → f ≠ 34 → f ≠ 35 → sR σ' f a = sR σ f a) ∧ sX σ ≤ sX σ' ∧ ff X σ σ' 3 100
theorem gd_of {X : Nat} {σ σ' : iS} {I : List Nat} {A B : Nat → Prop} {r : Bool} {e w : Nat} (h : fp X σ σ' I A B r e w) (he : e ≤ 3) (hw : w ≤ 100) : gd X σ σ' :=
  ⟨h.1.2.2.1, fun f a ha h1 h2 => h.1.2.2.2.1 f a ha (fun _ => ⟨h1, h2⟩), h.1.2.1, (fp_w h he hw).2⟩
section CP
variable {X : Nat} {σ : iS} {s : Nat → Int32} {m : Nat → Nat → Int32} {N T : Nat} {z y : Nat → Nat} {Q : iO → iS → Prop}
theorem sg_w {σ' : iS} {m' : Nat → Nat → Int32} {j : Nat} (h : cSg σ X m N z) (hB : ∀ i, sB σ' (X + 1) i = sB σ (X + 1) i) (hj1 : ∀ q, q < z j → sA σ' (sB σ (X + 1) j + 1) q = m' 1 (60 * j + q)) (ho : ∀ i, i < N → i ≠ j → ∀ q, q < z i → sA σ' (sB σ (X + 1) i + 1) q = sA σ (sB σ (X + 1) i + 1) q ∧ m' 1 (60 * i + q) = m 1 (60 * i + q)) : cSg σ' X m' N z := by
  intro i q hi hq
  rw [hB]
  by_cases e : i = j
  · subst e; exact hj1 q hq
  · rw [(ho i hi e q hq).1, (ho i hi e q hq).2]; exact h i q hi hq
theorem ky_w {σ' : iS} {m' : Nat → Nat → Int32} {j : Nat} (hjT : j < T) (h : cKy σ X m T y) (hB : ∀ i, sB σ' (X + 16) i = sB σ (X + 16) i) (hj1 : ∀ q, q < y j → sA σ' (sB σ (X + 16) j + 1) q = m' 21 (60 * j + q)) (ho : ∀ i, i < T → i ≠ j → ∀ q, q < y i → sA σ' (sB σ (X + 16) i + 1) q = sA σ (sB σ (X + 16) i + 1) q) (hm : ∀ i, i ≠ j → ∀ q, q < 60 → m' 21 (60 * i + q) = m 21 (60 * i + q)) (hy : ∀ i, i < T → y i ≤ 60) : cKy σ' X m' T y := by
  refine ⟨fun i q hi hq => ?_, fun i q h1 h2 h3 => by rw [hm i (by omega) q h3]; exact h.2 i q h1 h2 h3⟩
  rw [hB]
  by_cases e : i = j
  · subst e; exact hj1 q hq
  · rw [ho i hi e q hq, hm i e q (Nat.lt_of_lt_of_le hq (hy i hi))]; exact h.1 i q hi hq
theorem tb_ne (h1 : cTs σ X s m N z) (h2 : cBs σ X s m T y) {i j : Nat} (hi : i < N) (hj : j < T) : sB σ (X + 1) i ≠ sB σ (X + 16) j := fun e => by
  have a := (h1.2.2.2.1 i hi).2.1
  have b := (h2.2.2.2.1 j hj).2.1
  rw [e, b] at a
  exact absurd a (by decide)
theorem x_set (hJ : CJ σ X s m N z T y) {x w v : Int32} (h1 : ¬ ((∃ j, (j < N ∧ x = nI j) ∧ ∃ k, k < z j ∧ w = nI k) ∧ ∃ b, b ≤ 255 ∧ v = nI b) → Q (.inr (1, sX σ)) (nO σ 201 6)) (h0 : ∀ j k b, j < N → x = nI j → k < z j → w = nI k → b ≤ 255 → v = nI b → ∀ σ', gd X σ σ' → CJ σ' X s (u2 m 1 (60 * j + k) (nI b)) N z T y → Q (.inl none) σ') : ca J_X_set [vr X, vi x, vi w, vi v] σ Q := by
  obtain ⟨J1, J2, J3, J4, J5, J6, J7, J8, J9, J10, J11, J12, J13, J14⟩ := id hJ
  refine b_X_set_0 ⟨sh_k0 J1, x_place J1 J2 (fun c => h1 (fun q => c q.1)) (fun j k hj hx hk hw => ?_)⟩
  obtain ⟨⟨g1, g2⟩, g3, g4, g5, g6, g7, g8⟩ := J2.2.2.2.1 j hj
  have hN := J2.2.1
  have bad : (v < 0 ∨ ¬ v ≤ nI 255) → wp J_X_set 19 [vr X, vi x, vi w, vi v, vr (sB σ (X + 1) j)] [] σ Q := fun c => by
    refine b_X_set_19 (h1 (fun ⟨_, b, q1, q2⟩ => ?_))
    subst q2
    rcases c with c | c
    · exact nI_pos (by omega) c
    · rw [n_le (by omega) (by decide)] at c; exact c q1
  dsimp only [cA]
  rw [lit_255]
  refine ⟨fun c => bad (Or.inl c), fun c => ⟨fun c2 => ⟨g3, ?_⟩, fun c2 => bad (Or.inr c2)⟩⟩
  rw [g4, g5, g6, hw, nI_clamp (by omega)]
  refine ⟨⟨rfl, n_in hk (by omega)⟩, fun σ4 e4 => ?_⟩
  subst e4
  obtain ⟨b, hb, hv⟩ := n_le' (a := 255) (by decide) c c2
  have q : fp X σ (wA σ (sB σ (X + 1) j + 1) k v) [] (fun a => a = sB σ (X + 1) j + 1) (fun _ => False) false 0 0 := fp_A (fp_0 J1.1.2) (Or.inr ⟨rfl, fo_n (by omega)⟩)
  have K : kx X σ (wA σ (sB σ (X + 1) j + 1) k v) s s m (u2 m 1 (60 * j + k) (nI b)) [] (fun a => a = sB σ (X + 1) j + 1) (fun _ => False) false [] [1] := ⟨q.1, fun _ _ => rfl, fun c hc i => u2_o (fun e => hc (by rw [e]; decide)) i⟩
  have t := tm2_0 (N := N) (z := z) K (fun e => e)
  have S : cSg (wA σ (sB σ (X + 1) j + 1) k v) X (u2 m 1 (60 * j + k) (nI b)) N z := by
    refine sg_w (j := j) J3 (fun _ => rfl) (fun q hq => ?_) (fun i hi hij q hq => ⟨wA_o (fun e => hij (J2.2.2.2.2 i j hi hj (by omega))), u2_k ?_⟩)
    · by_cases e : q = k
      · subst e; rw [wA_s, u2_s]; exact hv
      · rw [wA_k e, u2_k (by omega)]; exact J3 j q hj hq
    · have := (J2.2.2.2.1 i hi).2.2.2.2.2.2
      omega
  exact h0 j k b hj hx hk hw hb hv _ (gd_of q (by decide) (by decide)) ⟨sh_c J1 K.1, cTs_c J2 K (by decide) (fun e => e) (by decide) (by decide), S, cSp_c J4 K t rfl (by decide), cPh_c J5 K t (by decide) (fun e => e) (by decide) (by decide), cCo_c J6 K (show ¬ (X + 4 = sB σ (X + 1) j + 1) by omega) (by decide), cPa_c J7 K t (by decide) (fun e => e) (by decide) (by decide), cDe_c J8 K t (by decide) (show ¬ (X + 10 = sB σ (X + 1) j + 1) by omega) (fun e => e) (by decide) (by decide), cRc_c (z := z) (z' := z) J9 K t (by decide) (fun e => e) (by decide) (by decide), cRs_c J10 K (by decide) ⟨(show ¬ (X + 13 = sB σ (X + 1) j + 1) by omega), (show ¬ (X + 14 = sB σ (X + 1) j + 1) by omega)⟩ (by decide), cPo_c J11 K (by decide) (by decide), cBs_c J12 K (by decide) (fun e => e) (by decide) (by decide), cIx_c J13 J12 K (by decide) (fun e => e) (by decide), cKy_c J14 J12 K (fun e => e) (fun i hi => by have d1 := (J12.2.2.2.1 i hi).1; have d2 := tb_ne J2 J12 hj hi; exact (show ¬ (sB σ (X + 16) i + 1 = sB σ (X + 1) j + 1) by omega)) (by decide)⟩
theorem x_at (hJ : CJ σ X s m N z T y) {x w : Int32} (h1 : (¬ ∃ j, (j < N ∧ x = nI j) ∧ ∃ k, k < z j ∧ w = nI k) → Q (.inr (1, sX σ)) (nO σ 201 6)) (h0 : ∀ j k, j < N → x = nI j → k < z j → w = nI k → Q (.inl (some (vi (m 1 (60 * j + k))))) σ) : ca J_X_at [vr X, vi x, vi w] σ Q := by
  obtain ⟨J1, J2, J3, J4, J5, J6, J7, J8, J9, J10, J11, J12, J13, J14⟩ := id hJ
  refine b_X_at_0 ⟨sh_k0 J1, x_place J1 J2 h1 (fun j k hj hx hk hw => ?_)⟩
  obtain ⟨⟨g1, g2⟩, g3, g4, g5, g6, g7, g8⟩ := J2.2.2.2.1 j hj
  refine ⟨g3, ?_⟩
  rw [g4, g5, g6, hw, nI_clamp (by omega), J3 j k hj hk]
  exact ⟨⟨rfl, n_in hk (by omega)⟩, h0 j k hj hx hk hw⟩
theorem x_span (hJ : CJ σ X s m N z T y) {x w : Int32} (h1 : (¬ ∃ j, (j < N ∧ w = nI j) ∧ 0 < z j) → Q (.inr (1, sX σ)) (nO σ 201 6)) (h0 : ∀ j, j < N → w = nI j → 0 < z j → ∀ σ', gd X σ σ' → CJ σ' X (u1 s (if x = 0 then 326 else 325) (nI j)) m N z T y → Q (.inl none) σ') : ca J_X_span [vr X, vi x, vi w] σ Q := by
  obtain ⟨J1, J2, J3, J4, J5, J6, J7, J8, J9, J10, J11, J12, J13, J14⟩ := id hJ
  refine b_X_span_0 ⟨sh_k0 J1, x_filled J1 J2 h1 (fun j hj hw hz => ⟨fun c => ⟨sh_k0 J1, fun σ3 e3 => ?_⟩, fun c => ⟨sh_k0 J1, fun σ3 e3 => ?_⟩⟩)⟩
  · subst e3
    have q : fp X σ (wR σ 35 X (sB σ (X + 1) j)) [] (fun _ => False) (fun _ => False) true 0 0 := fp_R (fp_0 J1.1.2) (Or.inr ⟨rfl, by decide⟩)
    have K : kx X σ (wR σ 35 X (sB σ (X + 1) j)) s (u1 s 326 (nI j)) m m [] (fun _ => False) (fun _ => False) true [326] [] := ⟨q.1, fun f hf => u1_o (fun e => hf (by rw [e]; decide)), fun _ _ _ => rfl⟩
    have t := tm2_0 (N := N) (z := z) K (fun e => e)
    refine b_X_span_23 (h0 j hj hw hz _ (gd_of q (by decide) (by decide)) ?_)
    rw [if_pos c]
    exact ⟨sh_c J1 K.1, cTs_c J2 K (by decide) (fun e => e) (by decide) (by decide), cSg_c J3 J2 K (fun e => e) (fun _ _ e => e) (by decide), ⟨by rw [wR_o (by decide), u1_o (by decide)]; exact bd_c (σ' := wR σ 35 X (sB σ (X + 1) j)) J4.1 t, by rw [wR_s, u1_s]; exact Or.inr ⟨j, hj, hz, rfl, rfl⟩⟩, cPh_c J5 K t (by decide) (fun e => e) (by decide) (by decide), cCo_c J6 K (fun e => e) (by decide), cPa_c J7 K t (by decide) (fun e => e) (by decide) (by decide), cDe_c J8 K t (by decide) (fun e => e) (fun e => e) (by decide) (by decide), cRc_c (z := z) (z' := z) J9 K t (by decide) (fun e => e) (by decide) (by decide), cRs_c J10 K (by decide) ⟨(fun e => e), (fun e => e)⟩ (by decide), cPo_c J11 K (by decide) (by decide), cBs_c J12 K (by decide) (fun e => e) (by decide) (by decide), cIx_c J13 J12 K (by decide) (fun e => e) (by decide), cKy_c J14 J12 K (fun e => e) (fun _ _ e => e) (by decide)⟩
  · subst e3
    have q : fp X σ (wR σ 34 X (sB σ (X + 1) j)) [] (fun _ => False) (fun _ => False) true 0 0 := fp_R (fp_0 J1.1.2) (Or.inr ⟨rfl, by decide⟩)
    have K : kx X σ (wR σ 34 X (sB σ (X + 1) j)) s (u1 s 325 (nI j)) m m [] (fun _ => False) (fun _ => False) true [325] [] := ⟨q.1, fun f hf => u1_o (fun e => hf (by rw [e]; decide)), fun _ _ _ => rfl⟩
    have t := tm2_0 (N := N) (z := z) K (fun e => e)
    refine b_X_span_23 (h0 j hj hw hz _ (gd_of q (by decide) (by decide)) ?_)
    rw [if_neg c]
    exact ⟨sh_c J1 K.1, cTs_c J2 K (by decide) (fun e => e) (by decide) (by decide), cSg_c J3 J2 K (fun e => e) (fun _ _ e => e) (by decide), ⟨by rw [wR_s, u1_s]; exact Or.inr ⟨j, hj, hz, rfl, rfl⟩, by rw [wR_o (by decide), u1_o (by decide)]; exact bd_c (σ' := wR σ 34 X (sB σ (X + 1) j)) J4.2 t⟩, cPh_c J5 K t (by decide) (fun e => e) (by decide) (by decide), cCo_c J6 K (fun e => e) (by decide), cPa_c J7 K t (by decide) (fun e => e) (by decide) (by decide), cDe_c J8 K t (by decide) (fun e => e) (fun e => e) (by decide) (by decide), cRc_c (z := z) (z' := z) J9 K t (by decide) (fun e => e) (by decide) (by decide), cRs_c J10 K (by decide) ⟨(fun e => e), (fun e => e)⟩ (by decide), cPo_c J11 K (by decide) (by decide), cBs_c J12 K (by decide) (fun e => e) (by decide) (by decide), cIx_c J13 J12 K (by decide) (fun e => e) (by decide), cKy_c J14 J12 K (fun e => e) (fun _ _ e => e) (by decide)⟩
theorem x_counter (hJ : CJ σ X s m N z T y) {x : Int32} (h1 : (¬ ∃ q, q ≤ 9 ∧ x = nI q) → Q (.inr (1, sX σ)) (nO σ 201 6)) (h0 : ∀ k, k ≤ 9 → x = nI k → ∀ σ', gd X σ σ' → CJ σ' X s (u2 m 13 k 0) N z T y → Q (.inl (some (vi (m 13 k)))) σ') : ca J_X_counter [vr X, vi x] σ Q := by
  obtain ⟨J1, J2, J3, J4, J5, J6, J7, J8, J9, J10, J11, J12, J13, J14⟩ := id hJ
  refine b_X_counter_0 (x_cc h1 (fun k hk hx => ⟨sh_k0 J1, ?_⟩))
  rw [e_36 J1]
  refine ⟨sh_k2 J1, b_Inspection_takeCount_0 ⟨sh_k2 J1, ?_⟩⟩
  rw [e_162 J1, sh_k4 J1, sh_n4 J1, hx, nI_clamp (by omega), J6 k (by omega)]
  refine ⟨⟨rfl, n_in (by omega) (by decide)⟩, sh_k2 J1, ⟨rfl, n_in (by omega) (by decide)⟩, fun σ1 e1 => ?_⟩
  subst e1
  have q : fp X σ (wA σ (X + 4) k 0) [] (fun a => a = X + 4) (fun _ => False) false 0 0 := fp_A (fp_0 J1.1.2) (Or.inr ⟨rfl, fo_m (by omega) (by omega)⟩)
  have K : kx X σ (wA σ (X + 4) k 0) s s m (u2 m 13 k 0) [] (fun a => a = X + 4) (fun _ => False) false [] [13] := ⟨q.1, fun _ _ => rfl, fun c hc i => u2_o (fun e => hc (by rw [e]; decide)) i⟩
  have t := tm2_0 (N := N) (z := z) K (fun e => e)
  have S : cCo (wA σ (X + 4) k 0) X (u2 m 13 k 0) := fun i hi => by
    by_cases e : i = k
    · subst e; rw [wA_s, u2_s]
    · rw [wA_k e, u2_k e]; exact J6 i hi
  exact h0 k hk hx _ (gd_of q (by decide) (by decide)) ⟨sh_c J1 K.1, cTs_c J2 K (by decide) (fun e => e) (by decide) (by decide), cSg_c J3 J2 K (fun e => e) (fun i hi => by have d1 := (J2.2.2.2.1 i hi).1; exact (show ¬ (sB σ (X + 1) i + 1 = X + 4) by omega)) (by decide), cSp_c J4 K t rfl (by decide), cPh_c J5 K t (by decide) (fun e => e) (by decide) (by decide), S, cPa_c J7 K t (by decide) (fun e => e) (by decide) (by decide), cDe_c J8 K t (by decide) (show ¬ (X + 10 = X + 4) by omega) (fun e => e) (by decide) (by decide), cRc_c (z := z) (z' := z) J9 K t (by decide) (fun e => e) (by decide) (by decide), cRs_c J10 K (by decide) ⟨(show ¬ (X + 13 = X + 4) by omega), (show ¬ (X + 14 = X + 4) by omega)⟩ (by decide), cPo_c J11 K (by decide) (by decide), cBs_c J12 K (by decide) (fun e => e) (by decide) (by decide), cIx_c J13 J12 K (by decide) (fun e => e) (by decide), cKy_c J14 J12 K (fun e => e) (fun i hi => by have d1 := (J12.2.2.2.1 i hi).1; exact (show ¬ (sB σ (X + 16) i + 1 = X + 4) by omega)) (by decide)⟩
theorem x_part (hJ : CJ σ X s m N z T y) {x w : Int32} (h1 : ¬ paOk N z x w → Q (.inr (1, sX σ)) (nO σ 201 6)) (h2 : paOk N z x w → s 340 = nI 20 → Q (.inr (2, sX σ)) (nO σ 202 6)) (h0 : ∀ P, paOk N z x w → s 340 = nI P → P < 20 → ∀ σ', gd X σ σ' → CJ σ' X (u1 s 340 (nI (P + 1))) (u2 (u2 m 14 P x) 15 P w) N z T y → Q (.inl (some (vi (nI (P + 1))))) σ') : ca J_X_part [vr X, vi x, vi w] σ Q := by
  obtain ⟨J1, J2, J3, J4, J5, J6, J7, J8, J9, J10, J11, J12, J13, J14⟩ := id hJ
  have hX := J1.1.2
  obtain ⟨P, p1, p2, p3, p4⟩ := id J7
  have go : ∀ i l, i < N → x = nI i → bd σ X N z l w → wp J_X_part 20 [vr X, vi x, vi w, vr (sB σ (X + 1) i), vl 0] [vr l] σ Q := by
    intro i l hi hx hb
    have ok : paOk N z x w := ⟨⟨i, hi, hx⟩, by
      rcases hb with ⟨-, e⟩ | ⟨j, q1, q2, q3, q4⟩
      · exact Or.inl e
      · exact Or.inr ⟨j, ⟨q1, q4⟩, q2⟩⟩
    refine b_X_part_20 ⟨sh_k0 J1, ?_⟩
    rw [e_37 J1, p3, lit_20, n_lt (by omega) (by decide)]
    refine ⟨sh_k6 J1, fun c => ⟨sh_k0 J1, fun σ2 e2 => ?_⟩, fun c => h2 ok (by rw [p2, show P = 20 by omega])⟩
    subst e2
    refine ⟨nO_Ks, b_Part_init_0 ⟨by omega, nO_Ks, fun σ3 e3 => ⟨by subst e3; exact nO_Ks, fun σ4 e4 => ?_⟩⟩⟩
    subst e3
    subst e4
    have q0 : fp X σ (wR (wR (nO σ 6 2) 192 (sX σ) (sB σ (X + 1) i)) 193 (sX σ) l) [225] (fun _ => False) (fun a => a = X + 7) false 1 2 := fp_R (fp_R (fp_O (fp_0 hX)) (Or.inl (Nat.le_refl _))) (Or.inl (Nat.le_refl _))
    have H := sh_c J1 q0.1
    have c225 : sI (wR (wR (nO σ 6 2) 192 (sX σ) (sB σ (X + 1) i)) 193 (sX σ) l) 225 (X + 6) = nI P := by
      show sI (nO σ 6 2) 225 (X + 6) = nI P
      rw [nO_I (by omega)]; exact p3
    refine ⟨sh_k6 H, b_Joining_collect_0 ⟨sh_k6 H, sh_k6 H, ?_⟩⟩
    rw [e_224 H, sh_k7 H, sh_n7 H, c225, nI_clamp (by omega)]
    refine ⟨⟨⟨by decide, by decide⟩, Or.inr (by rw [show sK (wR (wR (nO σ 6 2) 192 (sX σ) (sB σ (X + 1) i)) 193 (sX σ) l) (sX σ) = 6 from nO_Ks]), n_in (by omega) (by decide)⟩, fun σ5 e5 => ?_⟩
    subst e5
    have q1 := fp_B (b := X + 7) (i := P) (x := sX σ) q0 (Or.inr rfl)
    have H1 := sh_c J1 q1.1
    refine ⟨sh_k6 H1, sh_k6 H1, fun σ6 e6 => ?_⟩
    have q2 := fp_I (g := 225) (b := X + 6) (x := nI (P + 1)) q1 (Or.inr ⟨by decide, fo_m (by omega) (by omega)⟩)
    rw [show sI (wB (wR (wR (nO σ 6 2) 192 (sX σ) (sB σ (X + 1) i)) 193 (sX σ) l) (X + 7) P (sX σ)) 225 (X + 6) = nI P from c225, n_s1] at e6
    subst e6
    have H2 := sh_c J1 q2.1
    rw [wI_s]
    refine ⟨sh_k6 H2, h0 P ok p2 c _ (gd_of q2 (by decide) (by decide)) ?_⟩
    have K : kx X σ (wI (wB (wR (wR (nO σ 6 2) 192 (sX σ) (sB σ (X + 1) i)) 193 (sX σ) l) (X + 7) P (sX σ)) 225 (X + 6) (nI (P + 1))) s (u1 s 340 (nI (P + 1))) m (u2 (u2 m 14 P x) 15 P w) [225] (fun _ => False) (fun a => a = X + 7) false [340] [14, 15] := ⟨q2.1, fun f hf => u1_o (fun e => hf (by rw [e]; decide)), fun c hc i => by rw [u2_o (fun e => hc (by rw [e]; decide)), u2_o (fun e => hc (by rw [e]; decide))]⟩
    have t := tm2_0 (N := N) (z := z) K (show ¬ (X + 1 = X + 7) by omega)
    have S : cPa (wI (wB (wR (wR (nO σ 6 2) 192 (sX σ) (sB σ (X + 1) i)) 193 (sX σ) l) (X + 7) P (sX σ)) 225 (X + 6) (nI (P + 1))) X (u1 s 340 (nI (P + 1))) (u2 (u2 m 14 P x) 15 P w) N z := by
      refine ⟨P + 1, by omega, u1_s _ _ _, wI_s, fun p hp => ?_⟩
      show paI _ X _ N z (sB (wB (wR (wR (nO σ 6 2) 192 (sX σ) (sB σ (X + 1) i)) 193 (sX σ) l) (X + 7) P (sX σ)) (X + 7) p) p
      by_cases e : p = P
      · subst e
        rw [wB_s]
        refine ⟨⟨by omega, Nat.lt_succ_self _⟩, nO_Ks, ⟨i, hi, ?_, ?_⟩, ?_⟩
        · show sR (wR (wR (nO σ 6 2) 192 (sX σ) (sB σ (X + 1) i)) 193 (sX σ) l) 192 (sX σ) = sB (wB (wR (wR (nO σ 6 2) 192 (sX σ) (sB σ (X + 1) i)) 193 (sX σ) l) (X + 7) p (sX σ)) (X + 1) i
          rw [wR_o (by decide), wR_s, wB_o (by omega)]
          rfl
        · rw [u2_o (by decide), u2_s]; exact hx
        · show bd _ X N z (sR (wR (wR (nO σ 6 2) 192 (sX σ) (sB σ (X + 1) i)) 193 (sX σ) l) 193 (sX σ)) _
          rw [wR_s, u2_s]
          exact bd_c hb t
      · rw [wB_k e]
        exact paI_c (p4 p (by omega)) K t (fun c hc => by
          have e1 : ∀ c, u2 (u2 m 14 P x) 15 P w c p = m c p := fun c => by
            unfold u2
            rw [if_neg (fun q => e q.2), if_neg (fun q => e q.2)]
          exact e1 c)
    exact ⟨sh_c J1 K.1, cTs_c J2 K (by decide) (show ¬ (X + 1 = X + 7) by omega) (by decide) (by decide), cSg_c J3 J2 K (show ¬ (X + 1 = X + 7) by omega) (fun _ _ e => e) (by decide), cSp_c J4 K t rfl (by decide), cPh_c J5 K t (by decide) (show ¬ (X + 3 = X + 7) by omega) (by decide) (by decide), cCo_c J6 K (fun e => e) (by decide), S, cDe_c J8 K t (by decide) (fun e => e) (show ¬ (X + 9 = X + 7) by omega) (by decide) (by decide), cRc_c (z := z) (z' := z) J9 K t (by decide) (show ¬ (X + 11 = X + 7) by omega) (by decide) (by decide), cRs_c J10 K (by decide) ⟨(fun e => e), (fun e => e)⟩ (by decide), cPo_c J11 K (by decide) (by decide), cBs_c J12 K (by decide) (show ¬ (X + 16 = X + 7) by omega) (by decide) (by decide), cIx_c J13 J12 K (by decide) (show ¬ (X + 16 = X + 7) by omega) (by decide), cKy_c J14 J12 K (show ¬ (X + 16 = X + 7) by omega) (fun _ _ e => e) (by decide)⟩
  refine b_X_part_0 ⟨sh_k0 J1, x_known J1 J2 (fun c => h1 (fun q => c q.1)) (fun i hi hx => ⟨fun c => ⟨sh_k0 J1, x_filled J1 J2 (fun c2 => h1 (fun q => ?_)) (fun l hl hw hz => go i _ hi hx (Or.inr ⟨l, hl, hz, rfl, hw⟩))⟩, fun c => go i 0 hi hx (Or.inl ⟨rfl, Classical.not_not.mp c⟩)⟩)⟩
  rcases q.2 with q | q
  · exact c q
  · exact c2 q
theorem x_pointer (hJ : CJ σ X s m N z T y) (h : Q (.inl (some (vi (s 348)))) σ) : ca J_X_pointer [vr X] σ Q := by
  refine b_X_pointer_0 ⟨sh_k0 hJ.1, ?_⟩
  rw [show sI σ 39 X = s 348 from hJ.2.2.2.2.2.2.2.2.2.2.1]
  exact h
theorem x_result (hJ : CJ σ X s m N z T y) {x w : Int32} (h : Q (.inl (some (vi (rsV m x w)))) σ) : ca J_X_result [vr X, vi x, vi w] σ Q := by
  have J1 := hJ.1
  obtain ⟨V, v1, v2, v3, v4⟩ := hJ.2.2.2.2.2.2.2.2.2.1
  have no : (¬ ∃ i, i < V ∧ x = nI i) → rsV m x w = -1 := fun q => by
    unfold rsV
    by_cases e : ∃ i, i < 20 ∧ x = nI i
    · obtain ⟨i, i1, i2⟩ := e
      rw [if_pos ⟨i, i1, i2⟩, i2, nI_clamp (by omega)]
      have hi : V ≤ i := Nat.le_of_not_lt (fun z => q ⟨i, z, i2⟩)
      rw [(v4 i hi i1).1, (v4 i hi i1).2]
      split
      · rfl
      · split
        · rfl
        · rfl
    · rw [if_neg e]
  have bad : (x < 0 ∨ ¬ x < nI V) → wp J_X_result 15 [vr X, vi x, vi w] [] σ Q := fun c => by
    rw [no (n_no (by omega) c)] at h
    exact b_X_result_15 h
  refine b_X_result_0 ⟨fun c => bad (Or.inl c), fun c => ⟨sh_k0 J1, ?_⟩⟩
  rw [e_38 J1, v2]
  refine ⟨sh_k8 J1, fun c2 => ?_, fun c2 => bad (Or.inr c2)⟩
  obtain ⟨i, hi, rfl⟩ := n_ge (by omega) c c2
  have e : rsV m (nI i) w = if w = 0 then m 18 i else if w = 1 then m 19 i else -1 := by
    unfold rsV
    rw [if_pos ⟨i, by omega, rfl⟩, nI_clamp (by omega)]
  rw [e] at h
  refine ⟨fun c3 => b_X_result_44 ⟨sh_k0 J1, ?_⟩, fun c3 => b_X_result_54 ⟨sh_k0 J1, ?_⟩, fun c3 => b_X_result_64 ?_⟩
  · rw [e_38 J1, e_262 J1, sh_k13 J1, sh_n13 J1, nI_clamp (by omega), ← (v3 i hi).1]
    rw [if_pos c3] at h
    exact ⟨sh_k8 J1, ⟨rfl, n_in (by omega) (by decide)⟩, h⟩
  · rw [e_38 J1, e_263 J1, sh_k14 J1, sh_n14 J1, nI_clamp (by omega), ← (v3 i hi).2]
    rw [if_neg (by rw [c3]; decide), if_pos c3] at h
    exact ⟨sh_k8 J1, ⟨rfl, n_in (by omega) (by decide)⟩, h⟩
  · rw [if_neg c3.1, if_neg c3.2] at h
    exact h
theorem x_delimiter (hJ : CJ σ X s m N z T y) {x w : Int32} (hw : iBool w) (h1 : (¬ ∃ j, (j < N ∧ x = nI j) ∧ 0 < z j) → Q (.inr (1, sX σ)) (nO σ 201 6)) (h2 : (∃ j, (j < N ∧ x = nI j) ∧ 0 < z j) → s 346 = nI 8 → Q (.inr (2, sX σ)) (nO σ 202 6)) (h0 : ∀ D, (∃ j, (j < N ∧ x = nI j) ∧ 0 < z j) → s 346 = nI D → D < 8 → ∀ σ', gd X σ σ' → CJ σ' X (u1 s 346 (nI (D + 1))) (u2 (u2 m 16 D x) 20 D w) N z T y → Q (.inl (some (vi (nI (D + 1))))) σ') : ca J_X_delimiter [vr X, vi x, vi w] σ Q := by
  obtain ⟨J1, J2, J3, J4, J5, J6, J7, J8, J9, J10, J11, J12, J13, J14⟩ := id hJ
  have hX := J1.1.2
  obtain ⟨D, p1, p2, p3, p4⟩ := id J8
  refine b_X_delimiter_0 ⟨sh_k0 J1, x_filled J1 J2 h1 (fun l hl hx hz => ⟨sh_k0 J1, ?_⟩)⟩
  have ok : ∃ j, (j < N ∧ x = nI j) ∧ 0 < z j := ⟨l, ⟨hl, hx⟩, hz⟩
  rw [e_38 J1, p3, lit_8, n_lt (by omega) (by decide)]
  refine ⟨sh_k8 J1, fun c => ⟨sh_k0 J1, sh_k8 J1, b_Splitting_collectDelimiter_0 ⟨sh_k8 J1, sh_k8 J1, ?_⟩⟩, fun c => h2 ok (by rw [p2, show D = 8 by omega])⟩
  rw [e_256 J1, sh_k9 J1, sh_n9 J1, p3, nI_clamp (by omega)]
  refine ⟨⟨⟨by decide, by decide⟩, Or.inr (by rw [(J2.2.2.2.1 l hl).2.1]), n_in (by omega) (by decide)⟩, fun σ1 e1 => ?_⟩
  subst e1
  have q1 : fp X σ (wB σ (X + 9) D (sB σ (X + 1) l)) [258] (fun a => a = X + 10) (fun a => a = X + 9) false 0 0 := fp_B (fp_0 hX) (Or.inr rfl)
  have H1 := sh_c J1 q1.1
  rw [e_257 H1, sh_k10 H1, sh_n10 H1, show sI (wB σ (X + 9) D (sB σ (X + 1) l)) 258 (X + 8) = nI D from p3, nI_clamp (by omega)]
  refine ⟨sh_k8 H1, sh_k8 H1, ⟨rfl, hw, n_in (by omega) (by decide)⟩, fun σ2 e2 => ?_⟩
  subst e2
  have q2 := fp_A (b := X + 10) (i := D) (x := w) q1 (Or.inr ⟨rfl, fo_m (by omega) (by omega)⟩)
  have H2 := sh_c J1 q2.1
  refine ⟨sh_k8 H2, sh_k8 H2, fun σ3 e3 => ?_⟩
  rw [show sI (wA (wB σ (X + 9) D (sB σ (X + 1) l)) (X + 10) D w) 258 (X + 8) = nI D from p3, n_s1] at e3
  subst e3
  have q3 := fp_I (g := 258) (b := X + 8) (x := nI (D + 1)) q2 (Or.inr ⟨by decide, fo_m (by omega) (by omega)⟩)
  have H3 := sh_c J1 q3.1
  rw [wI_s]
  refine ⟨sh_k8 H3, h0 D ok p2 c _ (gd_of q3 (by decide) (by decide)) ?_⟩
  have K : kx X σ (wI (wA (wB σ (X + 9) D (sB σ (X + 1) l)) (X + 10) D w) 258 (X + 8) (nI (D + 1))) s (u1 s 346 (nI (D + 1))) m (u2 (u2 m 16 D x) 20 D w) [258] (fun a => a = X + 10) (fun a => a = X + 9) false [346] [16, 20] := ⟨q3.1, fun f hf => u1_o (fun e => hf (by rw [e]; decide)), fun c hc i => by rw [u2_o (fun e => hc (by rw [e]; decide)), u2_o (fun e => hc (by rw [e]; decide))]⟩
  have t := tm2_0 (N := N) (z := z) K (show ¬ (X + 1 = X + 9) by omega)
  have S : cDe (wI (wA (wB σ (X + 9) D (sB σ (X + 1) l)) (X + 10) D w) 258 (X + 8) (nI (D + 1))) X (u1 s 346 (nI (D + 1))) (u2 (u2 m 16 D x) 20 D w) N z := by
    refine ⟨D + 1, by omega, u1_s _ _ _, wI_s, fun d hd => ?_⟩
    show (∃ l', l' < N ∧ 0 < z l' ∧ sB (wB σ (X + 9) D (sB σ (X + 1) l)) (X + 9) d = sB (wB σ (X + 9) D (sB σ (X + 1) l)) (X + 1) l' ∧ u2 (u2 m 16 D x) 20 D w 16 d = nI l') ∧ ∃ b, sA (wA (wB σ (X + 9) D (sB σ (X + 1) l)) (X + 10) D w) (X + 10) d = bI b ∧ u2 (u2 m 16 D x) 20 D w 20 d = bI b
    by_cases e : d = D
    · subst e
      refine ⟨⟨l, hl, hz, by rw [wB_s, wB_o (by omega)], by rw [u2_o (by decide), u2_s]; exact hx⟩, decide (w ≠ 0), ?_⟩
      rw [wA_s, u2_s]
      rcases hw with rfl | rfl
      · exact ⟨rfl, rfl⟩
      · exact ⟨rfl, rfl⟩
    · obtain ⟨⟨l', r1, r2, r3, r4⟩, b, r5, r6⟩ := p4 d (by omega)
      refine ⟨⟨l', r1, r2, by rw [wB_k e, wB_o (by omega)]; exact r3, by rw [u2_o (by decide), u2_k e]; exact r4⟩, b, ?_, ?_⟩
      · rw [wA_k e]; exact r5
      · rw [u2_k e, u2_o (by decide)]; exact r6
  exact ⟨sh_c J1 K.1, cTs_c J2 K (by decide) (show ¬ (X + 1 = X + 9) by omega) (by decide) (by decide), cSg_c J3 J2 K (show ¬ (X + 1 = X + 9) by omega) (fun i hi => by have d1 := (J2.2.2.2.1 i hi).1; exact (show ¬ (sB σ (X + 1) i + 1 = X + 10) by omega)) (by decide), cSp_c J4 K t rfl (by decide), cPh_c J5 K t (by decide) (show ¬ (X + 3 = X + 9) by omega) (by decide) (by decide), cCo_c J6 K (show ¬ (X + 4 = X + 10) by omega) (by decide), cPa_c J7 K t (by decide) (show ¬ (X + 7 = X + 9) by omega) (by decide) (by decide), S, cRc_c (z := z) (z' := z) J9 K t (by decide) (show ¬ (X + 11 = X + 9) by omega) (by decide) (by decide), cRs_c J10 K (by decide) ⟨(show ¬ (X + 13 = X + 10) by omega), (show ¬ (X + 14 = X + 10) by omega)⟩ (by decide), cPo_c J11 K (by decide) (by decide), cBs_c J12 K (by decide) (show ¬ (X + 16 = X + 9) by omega) (by decide) (by decide), cIx_c J13 J12 K (by decide) (show ¬ (X + 16 = X + 9) by omega) (by decide), cKy_c J14 J12 K (show ¬ (X + 16 = X + 9) by omega) (fun i hi => by have d1 := (J12.2.2.2.1 i hi).1; exact (show ¬ (sB σ (X + 16) i + 1 = X + 10) by omega)) (by decide)⟩
theorem x_receiver (hJ : CJ σ X s m N z T y) {x : Int32} (h1 : (¬ ∃ j, j < N ∧ x = nI j) → Q (.inr (1, sX σ)) (nO σ 201 6)) (h2 : (∃ j, j < N ∧ x = nI j) → s 347 = nI 20 → Q (.inr (2, sX σ)) (nO σ 202 6)) (h0 : ∀ R, (∃ j, j < N ∧ x = nI j) → s 347 = nI R → R < 20 → ∀ σ', gd X σ σ' → CJ σ' X (u1 s 347 (nI (R + 1))) (u2 m 17 R x) N z T y → Q (.inl (some (vi (nI (R + 1))))) σ') : ca J_X_receiver [vr X, vi x] σ Q := by
  obtain ⟨J1, J2, J3, J4, J5, J6, J7, J8, J9, J10, J11, J12, J13, J14⟩ := id hJ
  have hX := J1.1.2
  obtain ⟨R, p1, p2, p3, p4⟩ := id J9
  refine b_X_receiver_0 ⟨sh_k0 J1, x_known J1 J2 h1 (fun l hl hx => ⟨sh_k0 J1, ?_⟩)⟩
  have ok : ∃ j, j < N ∧ x = nI j := ⟨l, hl, hx⟩
  rw [e_38 J1, p3, lit_20, n_lt (by omega) (by decide)]
  refine ⟨sh_k8 J1, fun c => ⟨sh_k0 J1, sh_k8 J1, b_Splitting_collectReceiver_0 ⟨sh_k8 J1, sh_k8 J1, ?_⟩⟩, fun c => h2 ok (by rw [p2, show R = 20 by omega])⟩
  rw [e_259 J1, sh_k11 J1, sh_n11 J1, p3, nI_clamp (by omega)]
  refine ⟨⟨⟨by decide, by decide⟩, Or.inr (by rw [(J2.2.2.2.1 l hl).2.1]), n_in (by omega) (by decide)⟩, fun σ1 e1 => ?_⟩
  subst e1
  have q1 : fp X σ (wB σ (X + 11) R (sB σ (X + 1) l)) [260] (fun _ => False) (fun a => a = X + 11) false 0 0 := fp_B (fp_0 hX) (Or.inr rfl)
  have H1 := sh_c J1 q1.1
  refine ⟨sh_k8 H1, sh_k8 H1, fun σ3 e3 => ?_⟩
  rw [show sI (wB σ (X + 11) R (sB σ (X + 1) l)) 260 (X + 8) = nI R from p3, n_s1] at e3
  subst e3
  have q3 := fp_I (g := 260) (b := X + 8) (x := nI (R + 1)) q1 (Or.inr ⟨by decide, fo_m (by omega) (by omega)⟩)
  have H3 := sh_c J1 q3.1
  rw [wI_s]
  refine ⟨sh_k8 H3, h0 R ok p2 c _ (gd_of q3 (by decide) (by decide)) ?_⟩
  have K : kx X σ (wI (wB σ (X + 11) R (sB σ (X + 1) l)) 260 (X + 8) (nI (R + 1))) s (u1 s 347 (nI (R + 1))) m (u2 m 17 R x) [260] (fun _ => False) (fun a => a = X + 11) false [347] [17] := ⟨q3.1, fun f hf => u1_o (fun e => hf (by rw [e]; decide)), fun c hc i => u2_o (fun e => hc (by rw [e]; decide)) i⟩
  have t := tm2_0 (N := N) (z := z) K (show ¬ (X + 1 = X + 11) by omega)
  have S : cRc (wI (wB σ (X + 11) R (sB σ (X + 1) l)) 260 (X + 8) (nI (R + 1))) X (u1 s 347 (nI (R + 1))) (u2 m 17 R x) N := by
    refine ⟨R + 1, by omega, u1_s _ _ _, wI_s, fun d hd => ?_⟩
    show ∃ l', l' < N ∧ sB (wB σ (X + 11) R (sB σ (X + 1) l)) (X + 11) d = sB (wB σ (X + 11) R (sB σ (X + 1) l)) (X + 1) l' ∧ u2 m 17 R x 17 d = nI l'
    by_cases e : d = R
    · subst e
      exact ⟨l, hl, by rw [wB_s, wB_o (by omega)], by rw [u2_s]; exact hx⟩
    · obtain ⟨l', r1, r3, r4⟩ := p4 d (by omega)
      exact ⟨l', r1, by rw [wB_k e, wB_o (by omega)]; exact r3, by rw [u2_k e]; exact r4⟩
  exact ⟨sh_c J1 K.1, cTs_c J2 K (by decide) (show ¬ (X + 1 = X + 11) by omega) (by decide) (by decide), cSg_c J3 J2 K (show ¬ (X + 1 = X + 11) by omega) (fun _ _ e => e) (by decide), cSp_c J4 K t rfl (by decide), cPh_c J5 K t (by decide) (show ¬ (X + 3 = X + 11) by omega) (by decide) (by decide), cCo_c J6 K (fun e => e) (by decide), cPa_c J7 K t (by decide) (show ¬ (X + 7 = X + 11) by omega) (by decide) (by decide), cDe_c J8 K t (by decide) (fun e => e) (show ¬ (X + 9 = X + 11) by omega) (by decide) (by decide), S, cRs_c J10 K (by decide) ⟨(fun e => e), (fun e => e)⟩ (by decide), cPo_c J11 K (by decide) (by decide), cBs_c J12 K (by decide) (show ¬ (X + 16 = X + 11) by omega) (by decide) (by decide), cIx_c J13 J12 K (by decide) (show ¬ (X + 16 = X + 11) by omega) (by decide), cKy_c J14 J12 K (show ¬ (X + 16 = X + 11) by omega) (fun _ _ e => e) (by decide)⟩
theorem x_rowc (hJ : CJ σ X s m N z T y) {x w v : Int32} (h1 : (¬ ∃ j, (j < T ∧ x = nI j) ∧ ∃ k, k < y j ∧ w = nI (k + 1)) → Q (.inr (1, sX σ)) (nO σ 201 6)) (h0 : ∀ j k, j < T → x = nI j → k < y j → w = nI (k + 1) → ∀ σ', gd X σ σ' → CJ σ' X s (u2 m 21 (60 * j + k) v) N z T y → Q (.inl (some (vi (m 21 (60 * j + k))))) σ') : ca J_X_row [vr X, vi x, vi w, vi v] σ Q := by
  obtain ⟨J1, J2, J3, J4, J5, J6, J7, J8, J9, J10, J11, J12, J13, J14⟩ := id hJ
  refine b_X_row_0 ⟨sh_k0 J1, x_row J1 J12 h1 (fun j k hj hx hk hw => ?_)⟩
  obtain ⟨⟨g1, g2⟩, g3, g4, g5, g6, g7, g8, g9⟩ := J12.2.2.2.1 j hj
  refine ⟨g3, ?_⟩
  rw [g4, g5, g6, hw, nI_pred, nI_clamp (by omega), J14.1 j k hj hk]
  refine ⟨⟨rfl, n_in hk (by omega)⟩, g3, ⟨rfl, n_in hk (by omega)⟩, fun σ2 e2 => ?_⟩
  subst e2
  have hT := J12.2.1
  have q : fp X σ (wA σ (sB σ (X + 16) j + 1) k v) [] (fun a => a = sB σ (X + 16) j + 1) (fun _ => False) false 0 0 := fp_A (fp_0 J1.1.2) (Or.inr ⟨rfl, fo_n (by omega)⟩)
  have K : kx X σ (wA σ (sB σ (X + 16) j + 1) k v) s s m (u2 m 21 (60 * j + k) v) [] (fun a => a = sB σ (X + 16) j + 1) (fun _ => False) false [] [21] := ⟨q.1, fun _ _ => rfl, fun c hc i => u2_o (fun e => hc (by rw [e]; decide)) i⟩
  have t := tm2_0 (N := N) (z := z) K (fun e => e)
  have S : cKy (wA σ (sB σ (X + 16) j + 1) k v) X (u2 m 21 (60 * j + k) v) T y := by
    refine ky_w hj J14 (fun _ => rfl) (fun q hq => ?_) (fun i hi hij q hq => wA_o (fun e => hij (J12.2.2.2.2 i j hi hj (by omega)))) (fun i hij q hq => u2_k (by omega)) (fun i hi => (J12.2.2.2.1 i hi).2.2.2.2.2.2.2)
    by_cases e : q = k
    · subst e; rw [wA_s, u2_s]
    · rw [wA_k e, u2_k (by omega)]; exact J14.1 j q hj hq
  exact h0 j k hj hx hk hw _ (gd_of q (by decide) (by decide)) ⟨sh_c J1 K.1, cTs_c J2 K (by decide) (fun e => e) (by decide) (by decide), cSg_c J3 J2 K (fun e => e) (fun i hi => by have d1 := (J2.2.2.2.1 i hi).1; have d2 := tb_ne J2 J12 hi hj; exact (show ¬ (sB σ (X + 1) i + 1 = sB σ (X + 16) j + 1) by omega)) (by decide), cSp_c J4 K t rfl (by decide), cPh_c J5 K t (by decide) (fun e => e) (by decide) (by decide), cCo_c J6 K (show ¬ (X + 4 = sB σ (X + 16) j + 1) by omega) (by decide), cPa_c J7 K t (by decide) (fun e => e) (by decide) (by decide), cDe_c J8 K t (by decide) (show ¬ (X + 10 = sB σ (X + 16) j + 1) by omega) (fun e => e) (by decide) (by decide), cRc_c (z := z) (z' := z) J9 K t (by decide) (fun e => e) (by decide) (by decide), cRs_c J10 K (by decide) ⟨(show ¬ (X + 13 = sB σ (X + 16) j + 1) by omega), (show ¬ (X + 14 = sB σ (X + 16) j + 1) by omega)⟩ (by decide), cPo_c J11 K (by decide) (by decide), cBs_c J12 K (by decide) (fun e => e) (by decide) (by decide), cIx_c J13 J12 K (by decide) (fun e => e) (by decide), S⟩
theorem ix_w (hJ : CJ σ X s m N z T y) {j k : Nat} (hj : j < T) (hk : k < y j) : gd X σ (wI σ 289 (sB σ (X + 16) j) (nI (k + 1))) ∧ CJ (wI σ 289 (sB σ (X + 16) j) (nI (k + 1))) X s (u2 m 23 j (nI (k + 1))) N z T y := by
  obtain ⟨J1, J2, J3, J4, J5, J6, J7, J8, J9, J10, J11, J12, J13, J14⟩ := id hJ
  obtain ⟨⟨g1, g2⟩, g3, g4, g5, g6, g7, g8, g9⟩ := J12.2.2.2.1 j hj
  have q : fp X σ (wI σ 289 (sB σ (X + 16) j) (nI (k + 1))) [289] (fun _ => False) (fun _ => False) false 0 0 := fp_I (fp_0 J1.1.2) (Or.inr ⟨by decide, fo_n (by omega)⟩)
  have K : kx X σ (wI σ 289 (sB σ (X + 16) j) (nI (k + 1))) s s m (u2 m 23 j (nI (k + 1))) [289] (fun _ => False) (fun _ => False) false [] [23] := ⟨q.1, fun _ _ => rfl, fun c hc i => u2_o (fun e => hc (by rw [e]; decide)) i⟩
  have t := tm2_0 (N := N) (z := z) K (fun e => e)
  have S : cIx (wI σ 289 (sB σ (X + 16) j) (nI (k + 1))) X (u2 m 23 j (nI (k + 1))) T y := by
    intro i hi
    by_cases e : i = j
    · subst e
      refine ⟨k + 1, ⟨by omega, by omega⟩, ?_, u2_s _ _ _ _⟩
      show sI (wI σ 289 (sB σ (X + 16) i) (nI (k + 1))) 289 (sB σ (X + 16) i) = nI (k + 1)
      rw [wI_s]
    · obtain ⟨v, v1, v2, v3⟩ := J13 i hi
      refine ⟨v, v1, ?_, by rw [u2_k e]; exact v3⟩
      show sI (wI σ 289 (sB σ (X + 16) j) (nI (k + 1))) 289 (sB σ (X + 16) i) = nI v
      rw [wI_k (fun q => e (J12.2.2.2.2 i j hi hj q))]
      exact v2
  exact ⟨gd_of q (by decide) (by decide), ⟨sh_c J1 K.1, cTs_c J2 K (by decide) (fun e => e) (by decide) (by decide), cSg_c J3 J2 K (fun e => e) (fun _ _ e => e) (by decide), cSp_c J4 K t rfl (by decide), cPh_c J5 K t (by decide) (fun e => e) (by decide) (by decide), cCo_c J6 K (fun e => e) (by decide), cPa_c J7 K t (by decide) (fun e => e) (by decide) (by decide), cDe_c J8 K t (by decide) (fun e => e) (fun e => e) (by decide) (by decide), cRc_c (z := z) (z' := z) J9 K t (by decide) (fun e => e) (by decide) (by decide), cRs_c J10 K (by decide) ⟨(fun e => e), (fun e => e)⟩ (by decide), cPo_c J11 K (by decide) (by decide), cBs_c J12 K (by decide) (fun e => e) (by decide) (by decide), S, cKy_c J14 J12 K (fun e => e) (fun _ _ e => e) (by decide)⟩⟩
theorem x_index (hJ : CJ σ X s m N z T y) {x w : Int32} (h1 : (¬ ∃ j, (j < T ∧ x = nI j) ∧ ∃ k, k < y j ∧ w = nI (k + 1)) → Q (.inr (1, sX σ)) (nO σ 201 6)) (h0 : ∀ j k, j < T → x = nI j → k < y j → w = nI (k + 1) → ∀ σ', gd X σ σ' → CJ σ' X s (u2 m 23 j (nI (k + 1))) N z T y → Q (.inl (some (vi (m 23 j)))) σ') : ca J_X_index [vr X, vi x, vi w] σ Q := by
  obtain ⟨J1, J2, J3, J4, J5, J6, J7, J8, J9, J10, J11, J12, J13, J14⟩ := id hJ
  refine b_X_index_0 ⟨sh_k0 J1, x_row J1 J12 h1 (fun j k hj hx hk hw => ?_)⟩
  obtain ⟨⟨g1, g2⟩, g3, -⟩ := J12.2.2.2.1 j hj
  obtain ⟨i, i1, i2, i3⟩ := J13 j hj
  refine ⟨g3, g3, fun σ2 e2 => ?_⟩
  rw [hw] at e2
  subst e2
  rw [i2, ← i3]
  exact h0 j k hj hx hk hw _ (ix_w hJ hj hk).1 (ix_w hJ hj hk).2
end CP
