/-! LAYER 2: inspect of the class, from its start. -/
section IX
variable {X : Nat} {σ : iS} {s : Nat → Int32} {m : Nat → Nat → Int32} {N T : Nat} {z y : Nat → Nat} {Q : iO → iS → Prop}
theorem st0_fp {σ' : iS} {I : List Nat} {A B : Nat → Prop} {r : Bool} (h : st0 σ σ' X) (hX : X + 41 < sX σ) (hA : A (X + 4) ∧ A (X + 5)) (hI : ∀ f, f ∉ I → f < 134 ∨ 137 < f) : fp X σ σ' I A B r 0 0 := by
  obtain ⟨⟨a1, a2, a3, a4, a5, a6⟩, a7, a8, a9⟩ := h
  exact ⟨⟨hX, by omega, fun b _ => ⟨by rw [a3], by rw [a4]⟩, fun f b _ _ => by rw [a1], fun f b _ _ hf => a7 f b (hI f hf), fun b k _ _ hb => a9 b k (fun e => hb (e ▸ hA.1)) (fun e => hb (e ▸ hA.2)), fun b k _ _ => by rw [a2]⟩, by omega, by omega, a8, fun b k hf => a9 b k (fun e => fo_m (by omega) (by omega) (e ▸ hf)) (fun e => fo_m (by omega) (by omega) (e ▸ hf))⟩
theorem tY_of (hT : cTs σ X s m N z) (hS : cSg σ X m N z) {j : Nat} (hj : j < N) : tY σ X (sB σ (X + 1) j) (z j) (fun k => m 1 (60 * j + k)) := by
  obtain ⟨⟨g1, g2⟩, g3, g4, -⟩ := hT.2.2.2.1 j hj
  exact ⟨tX_of hT hS hj, by rw [g4]; omega⟩
/-- what a phrase says, to both -/
theorem ph_d (hT : cTs σ X s m N z) (hS : cSg σ X m N z) {a p n : Nat} {f : Nat → Int32} (h : phI σ X m N z a p) : ∃ q : phD, phC σ X a q n f ∧ phOk m f n q p := by
  obtain ⟨⟨h1, h2, h3, h4⟩, ⟨h5, h6, h7⟩, h8, h9, k, rp, h10, h11, h12, h13, h14, h15, h16⟩ := h
  obtain ⟨oa, la, o1, o2⟩ := bd_e h8
  obtain ⟨ob, lb, o3, o4⟩ := bd_e h9
  have nz : ∀ j, j < N → sB σ (X + 1) j ≠ 0 := fun j hj => by have := (hT.2.2.2.1 j hj).1; omega
  have zb : ∀ j, j < N → z j ≤ 60 := fun j hj => (hT.2.2.2.1 j hj).2.2.2.2.2.2
  have W : ∃ wd pg, sI σ 133 a = nI wd ∧ (1 ≤ wd ∧ wd ≤ 60) ∧ (k = 0 → wd = 1 ∧ sR σ 129 a = 0) ∧ (k ≠ 0 → (sR σ 129 a ≠ 0 ∧ tY σ X (sR σ 129 a) wd pg) ∧ ∃ j, m 5 p = nI j ∧ mX m 1 j wd pg) := by
    by_cases e : k = 0
    · exact ⟨1, fun _ => 0, (h13 e).2, by decide, fun _ => ⟨rfl, (h13 e).1⟩, fun q => absurd e q⟩
    · obtain ⟨j, j1, j2, j3, j4, j5⟩ := h14 e
      exact ⟨z j, fun x => m 1 (60 * j + x), j5, ⟨j2, zb j j1⟩, fun q => absurd q e, fun _ => ⟨by rw [j3]; exact ⟨nz j j1, tY_of hT hS j1⟩, j, j4, mX_of hT j1⟩⟩
  obtain ⟨wd, pg, w1, w2, w3, w4⟩ := W
  have V : ∃ tq pp, (rp = false → (sR σ 131 a = 0 ∧ sI σ 130 a = nI tq ∧ tq < 10) ∧ m 6 p = nI tq) ∧ (rp = true → (sR σ 131 a ≠ 0 ∧ tY σ X (sR σ 131 a) wd pp) ∧ ∃ i, m 6 p = nI i ∧ mX m 1 i wd pp) := by
    cases rp with
    | false =>
      obtain ⟨r1, q, r2, r3, r4⟩ := h15 rfl
      exact ⟨q, fun _ => 0, fun _ => ⟨⟨r1, r3, r2⟩, r4⟩, fun e => absurd e (by decide)⟩
    | true =>
      obtain ⟨i, r1, r2, r3, r4⟩ := h16 rfl
      have e : z i = wd := by
        rw [w1, n_eq (by omega) (by have := zb i r1; omega)] at r4
        exact r4.symm
      refine ⟨0, fun x => m 1 (60 * i + x), fun e => absurd e (by decide), fun _ => ⟨?_, i, r3, ?_⟩⟩
      · rw [r2, ← e]; exact ⟨nz i r1, tY_of hT hS r1⟩
      · rw [← e]; exact mX_of hT r1
  obtain ⟨tq, pp, v1, v2⟩ := V
  refine ⟨(k, rp, wd, pg, rb f n oa (fun x => m 1 (60 * la + x)) (z la), re f n ob (fun x => m 1 (60 * lb + x)) (z lb), tq, pp), ⟨⟨h1, h3, h12, h10, w1, w2.1, w2.2⟩, fun e => (w3 e).2, fun e => (w4 e).1, fun e => (v1 e).1, fun e => (v2 e).1, h7, ⟨oa, z la, fun x => m 1 (60 * la + x), ⟨fun e => (o1 e).1, fun e => ?_⟩, rfl⟩, ob, z lb, fun x => m 1 (60 * lb + x), ⟨fun e => (o3 e).1, fun e => ?_⟩, rfl⟩, h11, h10, fun e => (w3 e).1, fun e => (w4 e).2, fun e => ⟨(v1 e).2, (v1 e).1.2.2⟩, fun e => (v2 e).2, ⟨oa, z la, fun x => m 1 (60 * la + x), ⟨fun e => (o1 e).2, fun e => ⟨la, (o2 e).2.2, mX_of hT (o2 e).1⟩⟩, rfl⟩, ⟨ob, z lb, fun x => m 1 (60 * lb + x), ⟨fun e => (o3 e).2, fun e => ⟨lb, (o4 e).2.2, mX_of hT (o4 e).1⟩⟩, rfl⟩, w2.1, w2.2⟩
  · obtain ⟨y1, y2, y3⟩ := o2 e
    rw [y2]; exact ⟨nz la y1, tY_of hT hS y1⟩
  · obtain ⟨y1, y2, y3⟩ := o4 e
    rw [y2]; exact ⟨nz lb y1, tY_of hT hS y1⟩
theorem x_inspect (hJ : CJ σ X s m N z T y) {x : Int32} (h1 : (¬ ∃ j, j < N ∧ x = nI j) → Q (.inr (1, sX σ)) (nO σ 201 6)) (h0 : ∀ t, t < N → x = nI t → ∀ P B, s 336 = nI P → P ≤ 20 → (∀ p, p < P → phOk m (fun k => m 1 (60 * t + k)) (z t) (B p) p) → ∀ σ', gd X σ σ' → (∀ m', (∀ c, c ≠ 1 → c ≠ 2 → ¬ (9 ≤ c ∧ c ≤ 13) → ∀ k, m' c k = m c k) → (∀ k, m' 13 k = inC B P (fun k => m 1 (60 * t + k)) (z t) (m 13) k) → (∀ k, m' 1 k = sgW m t (z t) (inR B P (fun k => m 1 (60 * t + k)) (z t) (m 13)).2.2 1 k) → CJ σ' X (u1 s 336 0) m' N z T y) → Q (.inl (some (vi (nI (inR B P (fun k => m 1 (60 * t + k)) (z t) (m 13)).1)))) σ') : ca J_X_inspect [vr X, vi x] σ Q := by
  obtain ⟨J1, J2, J3, J4, J5, J6, J7, J8, J9, J10, J11, J12, J13, J14⟩ := id hJ
  have hX := J1.1.2
  obtain ⟨P, p1, p2, p3, p4, p5⟩ := id J5
  refine b_X_inspect_0 ⟨sh_k0 J1, sh_k0 J1, x_known J1 J2 h1 (fun t ht hx => ?_)⟩
  have ch : ∃ B : Nat → phD, ∀ p, p < P → phC σ X (sB σ (X + 3) p) (B p) (z t) (fun k => m 1 (60 * t + k)) ∧ phOk m (fun k => m 1 (60 * t + k)) (z t) (B p) p := by
    refine Classical.axiomOfChoice (r := fun p q => p < P → phC σ X (sB σ (X + 3) p) q (z t) (fun k => m 1 (60 * t + k)) ∧ phOk m (fun k => m 1 (60 * t + k)) (z t) q p) (fun p => ?_)
    by_cases hp : p < P
    · obtain ⟨q, q1⟩ := ph_d (n := z t) (f := (fun k => m 1 (60 * t + k))) J2 J3 (p4 p hp)
      exact ⟨q, fun _ => q1⟩
    · exact ⟨(0, false, 0, fun _ => 0, 0, 0, 0, fun _ => 0), fun e => absurd e hp⟩
  obtain ⟨B, hB⟩ := ch
  obtain ⟨⟨g1, g2⟩, g3, g4, g5, g6, g7, g8⟩ := J2.2.2.2.1 t ht
  rw [e_36 J1]
  refine ⟨sh_k2 J1, i_through (B := B) (cs := m 13) J1 p3 p1 (fun p hp => (hB p hp).1) p5 (tY_of J2 J3 ht) (fun p hp => (p4 p hp).1.2.2.2) J6 (fun σ2 g q2 c4 cg => ?_)⟩
  rw [g4]
  have q1 : fp X σ σ2 [134, 135, 136, 137, 161] (fun a => a = X + 4 ∨ a = X + 5 ∨ a = sB σ (X + 1) t + 1) (fun _ => False) false 0 0 := st0_fp q2 hX ⟨Or.inl rfl, Or.inr (Or.inl rfl)⟩ (fun f hf => by
    by_cases e : f < 134 ∨ 137 < f
    · exact e
    · exfalso
      have e3 : f = 134 ∨ f = 135 ∨ f = 136 ∨ f = 137 := by omega
      rcases e3 with rfl | rfl | rfl | rfl
      · exact hf (by decide)
      · exact hf (by decide)
      · exact hf (by decide)
      · exact hf (by decide))
  have q : fp X σ (wI (wV σ2 (sB σ (X + 1) t + 1) g) 161 (X + 2) 0) [134, 135, 136, 137, 161] (fun a => a = X + 4 ∨ a = X + 5 ∨ a = sB σ (X + 1) t + 1) (fun _ => False) false 0 0 := fp_I (fp_V q1 (Or.inr ⟨Or.inr (Or.inr rfl), fo_n (by omega)⟩)) (Or.inr ⟨by decide, fo_m (by omega) (by omega)⟩)
  refine h0 t ht hx P B p2 p1 (fun p hp => (hB p hp).2) _ (gd_of q (by decide) (by decide)) (fun m' m1 m2 m3 => ?_)
  have K : kx X σ (wI (wV σ2 (sB σ (X + 1) t + 1) g) 161 (X + 2) 0) s (u1 s 336 0) m m' [134, 135, 136, 137, 161] (fun a => a = X + 4 ∨ a = X + 5 ∨ a = sB σ (X + 1) t + 1) (fun _ => False) false [336] [1, 2, 9, 10, 11, 12, 13] := ⟨q.1, fun f hf => u1_o (fun e => hf (by rw [e]; decide)), fun c hc k => m1 c (fun e => hc (by rw [e]; decide)) (fun e => hc (by rw [e]; decide)) (fun e => by
    have e3 : c = 9 ∨ c = 10 ∨ c = 11 ∨ c = 12 ∨ c = 13 := by omega
    rcases e3 with rfl | rfl | rfl | rfl | rfl
    · exact hc (by decide)
    · exact hc (by decide)
    · exact hc (by decide)
    · exact hc (by decide)
    · exact hc (by decide)) k⟩
  have t2 := tm2_0 (N := N) (z := z) K (fun e => e)
  have S1 : cSg (wI (wV σ2 (sB σ (X + 1) t + 1) g) 161 (X + 2) 0) X m' N z := by
    refine sg_w (j := t) J3 (fun l => by rw [pI_B, pV_B, q2.1.2.1]) (fun k hk => ?_) (fun l hl hlt k hk => ⟨?_, ?_⟩)
    · rw [pI_A, wV_A, m3, sgW_i hk]; exact cg k hk
    · have := (J2.2.2.2.1 l hl).1
      rw [pI_A, wV_o (fun e => hlt (J2.2.2.2.2 l t hl ht (by omega))), q2.2.2.2 _ _ (by omega) (by omega)]
    · have := (J2.2.2.2.1 l hl).2.2.2.2.2.2
      rw [m3]
      exact if_neg (fun e => by omega)
  have S2 : cPh (wI (wV σ2 (sB σ (X + 1) t + 1) g) 161 (X + 2) 0) X (u1 s 336 0) m' N z := ⟨0, by decide, by rw [u1_s]; rfl, by rw [wI_s]; rfl, fun p hp => absurd hp (Nat.not_lt_zero p), fun p p' hp => absurd hp (Nat.not_lt_zero p)⟩
  have S3 : cCo (wI (wV σ2 (sB σ (X + 1) t + 1) g) 161 (X + 2) 0) X m' := fun k hk => by
    rw [pI_A, wV_o (by omega), m2]; exact c4 k hk
  exact ⟨sh_c J1 K.1, cTs_c J2 K (by decide) (fun e => e) (by decide) (by decide), S1, cSp_c J4 K t2 rfl (by decide), S2, S3, cPa_c J7 K t2 (by decide) (fun e => e) (by decide) (by decide), cDe_c J8 K t2 (by decide) (show ¬ (X + 10 = X + 4 ∨ X + 10 = X + 5 ∨ X + 10 = sB σ (X + 1) t + 1) by omega) (fun e => e) (by decide) (by decide), cRc_c (z := z) (z' := z) J9 K t2 (by decide) (fun e => e) (by decide) (by decide), cRs_c J10 K (by decide) ⟨(show ¬ (X + 13 = X + 4 ∨ X + 13 = X + 5 ∨ X + 13 = sB σ (X + 1) t + 1) by omega), (show ¬ (X + 14 = X + 4 ∨ X + 14 = X + 5 ∨ X + 14 = sB σ (X + 1) t + 1) by omega)⟩ (by decide), cPo_c J11 K (by decide) (by decide), cBs_c J12 K (by decide) (fun e => e) (by decide) (by decide), cIx_c J13 J12 K (by decide) (fun e => e) (by decide), cKy_c J14 J12 K (fun e => e) (fun i hi => by have d1 := (J12.2.2.2.1 i hi).1; have d2 := tb_ne J2 J12 ht hi; exact (show ¬ (sB σ (X + 16) i + 1 = X + 4 ∨ sB σ (X + 16) i + 1 = X + 5 ∨ sB σ (X + 16) i + 1 = sB σ (X + 1) t + 1) by omega)) (by decide)⟩
end IX
