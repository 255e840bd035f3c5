/-! THE LAW: what holds between two calls; one call on either side. -/
def lw (σ : iS) (b L : Nat) (xs : Nat → Int32) (X : Nat) (s : Nat → Int32) (m : Nat → Nat → Int32) : Prop :=
  (b < X ∧ sK σ b = 100 ∧ sN σ b = L ∧ ∀ k, sA σ b k = xs k) ∧ (sK σ (X + 41) = 103 ∧ sN σ (X + 41) = 1) ∧ mS σ (X + 17) ∧ (∀ f, sI σ f (X + 17) = s f) ∧ ∀ c k, 0 < c → c ≤ 23 → sA σ (X + 17 + c) k = m c k
def LI (b L : Nat) (xs : Nat → Int32) (X : Nat) (σ : iS) : Prop := ∃ s m N z T y, lw σ b L xs X s m ∧ CJ σ X s m N z T y
/-- the loop goes on -/
def lH (b L : Nat) (xs : Nat → Int32) (X i : Nat) (σ : iS) (Q : iO → iS → Prop) : Prop := ∀ σ', LI b L xs X σ' → sX σ' ≤ sX σ + 3 → sS σ' ≤ sS σ + 100 → ∀ l5 l6 : iV, wp J_L_law 1494 [vr b, vr X, vr (X + 17), vr (X + 41), vi (nI i), l5, l6] [] σ' Q
section LW
variable {b L X i : Nat} {xs : Nat → Int32} {σ σ' : iS} {s s' : Nat → Int32} {m m' : Nat → Nat → Int32} {N T : Nat} {z y : Nat → Nat} {Q : iO → iS → Prop}
theorem mw_e {M : Nat} (h1 : ∀ f, sI σ f M = s f) (h2 : ∀ c k, 0 < c → c ≤ 23 → sA σ (M + c) k = m c k) : mw σ M s m = σ := by
  have e1 : (fun f a => if a = M then s f else sI σ f a) = sI σ := by
    funext f a
    by_cases ha : a = M
    · rw [if_pos ha, ha, h1]
    · rw [if_neg ha]
  have e2 : (fun a k => if M < a ∧ a ≤ M + 23 then m (a - M) k else sA σ a k) = sA σ := by
    funext a k
    by_cases ha : M < a ∧ a ≤ M + 23
    · rw [if_pos ha, ← h2 (a - M) k (by omega) (by omega), show M + (a - M) = a by omega]
    · rw [if_neg ha]
  show ((fun f a => if a = M then s f else sI σ f a), sR σ, (fun a k => if M < a ∧ a ≤ M + 23 then m (a - M) k else sA σ a k), sB σ, sL σ, sK σ, sN σ, sX σ, sS σ) = σ
  rw [e1, e2]
  rfl
theorem ca_mw {j : Nat} {as : List iV} (hl : lw σ b L xs X s m) (h : ca j as (mw σ (X + 17) s m) Q) : ca j as σ Q := by
  rw [mw_e hl.2.2.2.1 hl.2.2.2.2] at h
  exact h
theorem lw_g (h : lw σ b L xs X s m) (hX : X + 41 < sX σ) (hg : gd X σ σ') : lw σ' b L xs X s m := by
  obtain ⟨⟨h1, h2, h3, h4⟩, ⟨h5, h6⟩, ⟨h7, h8⟩, h9, h10⟩ := h
  obtain ⟨g1, g2, g3, g4, g5, g6, g7⟩ := hg
  have hA : ∀ q ∈ mAr, q.1 ≠ 34 ∧ q.1 ≠ 35 ∧ q.2.1 ≤ 23 := by decide
  refine ⟨⟨h1, ?_, ?_, fun k => ?_⟩, ⟨?_, ?_⟩, ⟨?_, fun q hq => ?_⟩, fun f => ?_, fun c k c1 c2 => ?_⟩
  · rw [(g1 b (by omega)).1]; exact h2
  · rw [(g1 b (by omega)).2]; exact h3
  · rw [g7 b k (Or.inl h1)]; exact h4 k
  · rw [(g1 _ hX).1]; exact h5
  · rw [(g1 _ hX).2]; exact h6
  · rw [(g1 _ (by omega)).1]; exact h7
  · obtain ⟨q1, q2, q3⟩ := hA q hq
    rw [g2 _ _ (by omega) q1 q2, (g1 _ (by omega)).1, (g1 _ (by omega)).2]; exact h8 q hq
  · rw [g6 f _ (Or.inr ⟨by omega, by omega⟩)]; exact h9 f
  · rw [g7 _ k (Or.inr ⟨by omega, by omega⟩)]; exact h10 c k c1 c2
theorem gd_x {k : Nat} (hX : X + 41 < sX σ) : gd X σ (nO σ k 6) := gd_of (I := []) (A := fun _ => False) (B := fun _ => False) (r := false) (fp_O (fp_0 hX)) (by decide) (by decide)
theorem gd_0 (hX : X + 41 < sX σ) : gd X σ σ := gd_of (I := []) (A := fun _ => False) (B := fun _ => False) (r := false) (fp_0 hX) (by decide) (by decide)
theorem lw_L {a k : Nat} {v : Int64} (h : lw σ b L xs X s m) : lw (wL σ a k v) b L xs X s m := ⟨h.1, h.2.1, ⟨h.2.2.1.1, h.2.2.1.2⟩, h.2.2.2.1, h.2.2.2.2⟩
theorem lw_m (h : lw σ b L xs X s m) : lw (mw σ (X + 17) s' m') b L xs X s' m' := by
  obtain ⟨⟨h1, h2, h3, h4⟩, h5, h7, h9, h10⟩ := h
  refine ⟨⟨h1, h2, h3, fun k => ?_⟩, h5, ⟨h7.1, h7.2⟩, fun f => mw_i f, fun c k c1 c2 => mw_a c1 c2 k⟩
  exact Eq.trans (if_neg (fun q => by omega)) (h4 k)
theorem CJ_L {a k : Nat} {v : Int64} (h : CJ σ X s m N z T y) : CJ (wL σ a k v) X s m N z T y :=
  CJ_c h ⟨⟨h.1.1.2, Nat.le_refl _, fun _ _ => ⟨rfl, rfl⟩, fun _ _ _ _ => rfl, fun _ _ _ _ _ => rfl, fun _ _ _ _ _ => rfl, fun _ _ _ _ => rfl⟩, fun _ _ => rfl, fun _ _ _ => rfl⟩
theorem s3_0 {v : Int32} : ∀ f, f ≠ 320 → u1 s 320 v f = s f := fun f hf => u1_o hf
theorem s3_u {g : Nat} {v : Int32} (h : ∀ f, f ≠ 320 → s' f = s f) : ∀ f, f ≠ 320 → u1 s' g v f = u1 s g v f := fun f hf => by
  unfold u1
  split
  · rfl
  · exact h f hf
theorem m3_0 : ∀ c, c ≠ 2 → ¬ (9 ≤ c ∧ c ≤ 12) → ∀ k, m c k = m c k := fun _ _ _ _ => rfl
theorem rd {k : Nat} (hl : lw σ b L xs X s m) (hi : i + 4 ≤ L) (hL : L ≤ 2048) (hk : k < 4) : sK σ b = 100 ∧ iIn (nI (i + k)) (sN σ b) := ⟨hl.1.2.1, by rw [hl.1.2.2.1]; exact n_in (by omega) (by omega)⟩
theorem va {k : Nat} (hl : lw σ b L xs X s m) (hi : i + 4 ≤ L) (hL : L ≤ 2048) (hk : k < 4) : sA σ b (nI (i + k)).toNatClampNeg = xs (i + k) := by rw [nI_clamp (by omega)]; exact hl.1.2.2.2 _
theorem i_1 : nI i + (1 : Int32) = nI (i + 1) := n_s1 i
theorem i_2 : nI i + (2 : Int32) = nI (i + 2) := by rw [lit_2, nI_add]
theorem i_3 : nI i + (3 : Int32) = nI (i + 3) := by rw [lit_3, nI_add]
/-- the end of a comparison: with an answer; without one -/
theorem t_end {k r2 : Int32} {W F : iS → Prop} (hl : lw σ b L xs X s m) (e : s' 320 = k) (ho : k = 0 → sL σ (X + 41) (0 : Int32).toNatClampNeg = r2.toInt64) (h : W (mw σ (X + 17) s' m')) :
    sK (mw σ (X + 17) s' m') (X + 17) = 10 ∧ ca J_M_thrown [vr (X + 17)] (mw σ (X + 17) s' m') (cI (fun r3 σ3 => (r3 = k → (k ≠ 0 → W σ3) ∧ (¬ (k ≠ 0) → (sK σ3 (X + 41) = 103 ∧ iIn (0 : Int32) (sN σ3 (X + 41))) ∧ ((sL σ3 (X + 41) (0 : Int32).toNatClampNeg = r2.toInt64 → W σ3) ∧ (¬ sL σ3 (X + 41) (0 : Int32).toNatClampNeg = r2.toInt64 → F σ3)))) ∧ (¬ (r3 = k) → F σ3)) Q) := by
  refine ⟨hl.2.2.1.1, m_thrown hl.2.2.1 ⟨fun _ => ⟨fun _ => h, fun c => ⟨⟨hl.2.1.1, ?_⟩, fun _ => h, fun q => absurd (ho (Classical.not_not.mp c)) q⟩⟩, fun q => absurd e q⟩⟩
  show iIn 0 (sN σ (X + 41))
  rw [hl.2.1.2]
  exact n_in (k := 0) (by decide) (by decide)
theorem t_endV {k : Int32} {W F : iS → Prop} (hl : lw σ b L xs X s m) (e : s' 320 = k) (h : W (mw σ (X + 17) s' m')) :
    sK (mw σ (X + 17) s' m') (X + 17) = 10 ∧ ca J_M_thrown [vr (X + 17)] (mw σ (X + 17) s' m') (cI (fun r3 σ3 => (r3 = k → W σ3) ∧ (¬ (r3 = k) → F σ3)) Q) :=
  ⟨hl.2.2.1.1, m_thrown hl.2.2.1 ⟨fun _ => h, fun q => absurd e q⟩⟩
theorem o_out (hl : lw σ b L xs X s m) : sK σ (X + 41) = 103 ∧ iIn (0 : Int32) (sN σ (X + 41)) := ⟨hl.2.1.1, by rw [hl.2.1.2]; exact n_in (k := 0) (by decide) (by decide)⟩
theorem o_L {a k : Nat} {v : Int64} : sL (wL σ a k v) a k = v := if_pos ⟨rfl, rfl⟩
theorem H_t {k : Nat} {v : Int32} (hl : lw σ b L xs X s m) (hJ : CJ σ X s m N z T y) (H : lH b L xs X i σ Q) {l5 l6 : iV} : wp J_L_law 1494 [vr b, vr X, vr (X + 17), vr (X + 41), vi (nI i), l5, l6] [] (mw (nO σ k 6) (X + 17) (u1 s 320 v) m) Q :=
  H _ ⟨_, _, N, z, T, y, lw_m (lw_g hl hJ.1.1.2 (gd_x hJ.1.1.2)), CJ_m (CJ_x hJ) s3_0 m3_0⟩ (show sX σ + 1 ≤ sX σ + 3 by omega) (show sS σ + 6 ≤ sS σ + 100 by omega) _ _
theorem H_o {s1 : Nat → Int32} {m1 : Nat → Nat → Int32} {v : Int64} {k : Nat} (hl : lw σ b L xs X s m) (hX : X + 41 < sX σ) (hg : gd X σ σ') (hJ : CJ σ' X s1 m1 N z T y) (H : lH b L xs X i σ Q) (hs : ∀ f, f ≠ 320 → s' f = s1 f) (hm : ∀ c, c ≠ 2 → ¬ (9 ≤ c ∧ c ≤ 12) → ∀ k, m' c k = m1 c k) {l5 l6 : iV} : wp J_L_law 1494 [vr b, vr X, vr (X + 17), vr (X + 41), vi (nI i), l5, l6] [] (mw (wL σ' (X + 41) k v) (X + 17) s' m') Q :=
  H _ ⟨_, _, N, z, T, y, lw_m (lw_L (lw_g hl hX hg)), CJ_m (CJ_L hJ) hs hm⟩ hg.2.2.2.1 hg.2.2.2.2.1 _ _
theorem H_v {s1 : Nat → Int32} {m1 : Nat → Nat → Int32} (hl : lw σ b L xs X s m) (hX : X + 41 < sX σ) (hg : gd X σ σ') (hJ : CJ σ' X s1 m1 N z T y) (H : lH b L xs X i σ Q) (hs : ∀ f, f ≠ 320 → s' f = s1 f) (hm : ∀ c, c ≠ 2 → ¬ (9 ≤ c ∧ c ≤ 12) → ∀ k, m' c k = m1 c k) {l5 l6 : iV} : wp J_L_law 1494 [vr b, vr X, vr (X + 17), vr (X + 41), vi (nI i), l5, l6] [] (mw σ' (X + 17) s' m') Q :=
  H _ ⟨_, _, N, z, T, y, lw_m (lw_g hl hX hg), CJ_m hJ hs hm⟩ hg.2.2.2.1 hg.2.2.2.2.1 _ _
theorem l_text (hl : lw σ b L xs X s m) (hJ : CJ σ X s m N z T y) (hi : i + 4 ≤ L) (hL : L ≤ 2048) (H : lH b L xs X i σ Q) {l5 l6 : iV} : wp J_L_law 136 [vr b, vr X, vr (X + 17), vr (X + 41), vi (nI i), l5, l6] [] σ Q := by
  have hX := hJ.1.1.2
  have J2 := hJ.2.1
  have J12 := hJ.2.2.2.2.2.2.2.2.2.2.2.1
  have hZ := mZ_of J2
  have hr : ∀ j, j < T → m 22 j = nI (y j) ∧ y j ≤ 60 := fun j hj => ⟨(J12.2.2.2.1 j hj).2.2.2.2.2.1, (J12.2.2.2.1 j hj).2.2.2.2.2.2.2⟩
  refine b_L_law_136 ?_
  rw [i_1, va (k := 1) hl hi hL (by decide)]
  refine ⟨rd (k := 1) hl hi hL (by decide), b_L_text_0 ⟨sh_k0 hJ.1, x_text hJ (fun c => ⟨fun _ => ?_, (fun e => absurd e (by decide)), Or.inl rfl⟩) (fun c cN => ⟨(fun e => absurd e (by decide)), fun _ => ?_, Or.inr rfl⟩) (fun n hn hx hN σ' hg hJ' => ?_)⟩⟩
  · have l1 : lw (nO σ 201 6) b L xs X s m := lw_g hl hX (gd_x hX)
    refine b_L_text_12 ?_
    dsimp only [cI]
    rw [va (k := 1) l1 hi hL (by decide)]
    exact ⟨rd (k := 1) l1 hi hL (by decide), l1.2.2.1.1, ca_mw l1 (m_text1 l1.2.2.1 c (t_end l1 (u1_s _ _ _) (fun e => absurd e (by decide)) (b_L_law_189 (H_t hl hJ H))))⟩
  · obtain ⟨n, hn, hx⟩ := c
    have l1 : lw (nO σ 202 6) b L xs X s m := lw_g hl hX (gd_x hX)
    refine b_L_text_15 ?_
    dsimp only [cI]
    rw [va (k := 1) l1 hi hL (by decide)]
    exact ⟨rd (k := 1) l1 hi hL (by decide), l1.2.2.1.1, ca_mw l1 (by rw [hx]; exact m_text2 l1.2.2.1 hn (by rw [J2.1, cN]) (t_end l1 (u1_s _ _ _) (fun e => absurd e (by decide)) (b_L_law_189 (H_t hl hJ H))))⟩
  · have l' := lw_g hl hX hg
    refine ⟨o_out l', fun σ2 e2 => ?_⟩
    subst e2
    have l2 : lw (wL σ' (X + 41) (0 : Int32).toNatClampNeg (nI N).toInt64) b L xs X s m := lw_L l'
    dsimp only [cI]
    rw [va (k := 1) l2 hi hL (by decide), hx]
    exact ⟨rd (k := 1) l2 hi hL (by decide), l2.2.2.1.1, ca_mw l2 (m_text0 l2.2.2.1 hn J2.1 hN (t_end l2 (by rw [u1_o (by decide), u1_s]) (fun _ => o_L) (b_L_law_189 (H_o hl hX hg hJ' H (s3_u s3_0) m3_0))))⟩
theorem l_set (hl : lw σ b L xs X s m) (hJ : CJ σ X s m N z T y) (hi : i + 4 ≤ L) (hL : L ≤ 2048) (H : lH b L xs X i σ Q) {l5 l6 : iV} : wp J_L_law 192 [vr b, vr X, vr (X + 17), vr (X + 41), vi (nI i), l5, l6] [] σ Q := by
  have hX := hJ.1.1.2
  have J2 := hJ.2.1
  have J12 := hJ.2.2.2.2.2.2.2.2.2.2.2.1
  have hZ := mZ_of J2
  have hr : ∀ j, j < T → m 22 j = nI (y j) ∧ y j ≤ 60 := fun j hj => ⟨(J12.2.2.2.1 j hj).2.2.2.2.2.1, (J12.2.2.2.1 j hj).2.2.2.2.2.2.2⟩
  refine b_L_law_192 ?_
  rw [i_1, i_2, i_3, va (k := 1) hl hi hL (by decide), va (k := 2) hl hi hL (by decide), va (k := 3) hl hi hL (by decide)]
  refine ⟨rd (k := 1) hl hi hL (by decide), rd (k := 2) hl hi hL (by decide), rd (k := 3) hl hi hL (by decide), b_L_set_0 ⟨sh_k0 hJ.1, x_set hJ (fun c => ⟨fun _ => ?_, rfl⟩) (fun j k q hj hx hk hw hq hv σ' hg hJ' => ?_)⟩⟩
  · have l1 : lw (nO σ 201 6) b L xs X s m := lw_g hl hX (gd_x hX)
    refine b_L_set_10 ?_
    dsimp only [cI]
    rw [va (k := 1) l1 hi hL (by decide), va (k := 2) l1 hi hL (by decide), va (k := 3) l1 hi hL (by decide)]
    exact ⟨rd (k := 1) l1 hi hL (by decide), rd (k := 2) l1 hi hL (by decide), rd (k := 3) l1 hi hL (by decide), l1.2.2.1.1, ca_mw l1 (m_set1 l1.2.2.1 hZ c (t_endV l1 (u1_s _ _ _) (H_t hl hJ H)))⟩
  · have l' := lw_g hl hX hg
    dsimp only [hV, cI]
    rw [va (k := 1) l' hi hL (by decide), va (k := 2) l' hi hL (by decide), va (k := 3) l' hi hL (by decide), hx, hw, hv]
    exact ⟨rd (k := 1) l' hi hL (by decide), rd (k := 2) l' hi hL (by decide), rd (k := 3) l' hi hL (by decide), l'.2.2.1.1, ca_mw l' (m_set0 l'.2.2.1 hZ hj hk hq (t_endV l' (by rw [u1_s]) (H_v hl hX hg hJ' H s3_0 m3_0)))⟩
theorem l_at (hl : lw σ b L xs X s m) (hJ : CJ σ X s m N z T y) (hi : i + 4 ≤ L) (hL : L ≤ 2048) (H : lH b L xs X i σ Q) {l5 l6 : iV} : wp J_L_law 252 [vr b, vr X, vr (X + 17), vr (X + 41), vi (nI i), l5, l6] [] σ Q := by
  have hX := hJ.1.1.2
  have J2 := hJ.2.1
  have J12 := hJ.2.2.2.2.2.2.2.2.2.2.2.1
  have hZ := mZ_of J2
  have hr : ∀ j, j < T → m 22 j = nI (y j) ∧ y j ≤ 60 := fun j hj => ⟨(J12.2.2.2.1 j hj).2.2.2.2.2.1, (J12.2.2.2.1 j hj).2.2.2.2.2.2.2⟩
  refine b_L_law_252 ?_
  rw [i_1, i_2, va (k := 1) hl hi hL (by decide), va (k := 2) hl hi hL (by decide)]
  refine ⟨rd (k := 1) hl hi hL (by decide), rd (k := 2) hl hi hL (by decide), b_L_at_0 ⟨sh_k0 hJ.1, x_at hJ (fun c => ⟨fun _ => ?_, rfl⟩) (fun j k hj hx hk hw => ?_)⟩⟩
  · have l1 : lw (nO σ 201 6) b L xs X s m := lw_g hl hX (gd_x hX)
    refine b_L_at_13 ?_
    dsimp only [cI]
    rw [va (k := 1) l1 hi hL (by decide), va (k := 2) l1 hi hL (by decide)]
    exact ⟨rd (k := 1) l1 hi hL (by decide), rd (k := 2) l1 hi hL (by decide), l1.2.2.1.1, ca_mw l1 (m_at1 l1.2.2.1 hZ c (t_end l1 (u1_s _ _ _) (fun e => absurd e (by decide)) (b_L_law_317 (H_t hl hJ H))))⟩
  · have hg := gd_0 hX
    have hJ' := hJ
    have l' := lw_g hl hX hg
    refine ⟨o_out l', fun σ2 e2 => ?_⟩
    subst e2
    have l2 : lw (wL σ (X + 41) (0 : Int32).toNatClampNeg (m 1 (60 * j + k)).toInt64) b L xs X s m := lw_L l'
    dsimp only [cI]
    rw [va (k := 1) l2 hi hL (by decide), va (k := 2) l2 hi hL (by decide), hx, hw]
    exact ⟨rd (k := 1) l2 hi hL (by decide), rd (k := 2) l2 hi hL (by decide), l2.2.2.1.1, ca_mw l2 (m_at0 l2.2.2.1 hZ hj hk (t_end l2 (by rw [u1_s]) (fun _ => o_L) (b_L_law_317 (H_o hl hX hg hJ' H s3_0 m3_0))))⟩
theorem l_tally (hl : lw σ b L xs X s m) (hJ : CJ σ X s m N z T y) (hi : i + 4 ≤ L) (hL : L ≤ 2048) (H : lH b L xs X i σ Q) {l5 l6 : iV} : wp J_L_law 384 [vr b, vr X, vr (X + 17), vr (X + 41), vi (nI i), l5, l6] [] σ Q := by
  have hX := hJ.1.1.2
  have J2 := hJ.2.1
  have J12 := hJ.2.2.2.2.2.2.2.2.2.2.2.1
  have hZ := mZ_of J2
  have hr : ∀ j, j < T → m 22 j = nI (y j) ∧ y j ≤ 60 := fun j hj => ⟨(J12.2.2.2.1 j hj).2.2.2.2.2.1, (J12.2.2.2.1 j hj).2.2.2.2.2.2.2⟩
  refine b_L_law_384 ?_
  rw [i_1, i_2, i_3, va (k := 1) hl hi hL (by decide), va (k := 2) hl hi hL (by decide), va (k := 3) hl hi hL (by decide)]
  refine ⟨rd (k := 1) hl hi hL (by decide), rd (k := 2) hl hi hL (by decide), rd (k := 3) hl hi hL (by decide), b_L_tally_0 ⟨sh_k0 hJ.1, x_tally hJ (fun c => ⟨fun _ => ?_, (fun e => absurd e (by decide)), Or.inl rfl⟩) (fun c cP => ⟨(fun e => absurd e (by decide)), fun _ => ?_, Or.inr rfl⟩) (fun P c hP hP2 σ' hg hJ' => ?_)⟩⟩
  · have l1 : lw (nO σ 201 6) b L xs X s m := lw_g hl hX (gd_x hX)
    refine b_L_tally_15 ?_
    dsimp only [cI]
    rw [va (k := 1) l1 hi hL (by decide), va (k := 2) l1 hi hL (by decide), va (k := 3) l1 hi hL (by decide)]
    exact ⟨rd (k := 1) l1 hi hL (by decide), rd (k := 2) l1 hi hL (by decide), rd (k := 3) l1 hi hL (by decide), l1.2.2.1.1, ca_mw l1 (m_tally1 l1.2.2.1 hZ c (t_end l1 (u1_s _ _ _) (fun e => absurd e (by decide)) (b_L_law_461 (H_t hl hJ H))))⟩
  · have l1 : lw (nO σ 202 6) b L xs X s m := lw_g hl hX (gd_x hX)
    refine b_L_tally_19 ?_
    dsimp only [cI]
    rw [va (k := 1) l1 hi hL (by decide), va (k := 2) l1 hi hL (by decide), va (k := 3) l1 hi hL (by decide)]
    exact ⟨rd (k := 1) l1 hi hL (by decide), rd (k := 2) l1 hi hL (by decide), rd (k := 3) l1 hi hL (by decide), l1.2.2.1.1, ca_mw l1 (m_tally2 l1.2.2.1 hZ c cP (t_end l1 (u1_s _ _ _) (fun e => absurd e (by decide)) (b_L_law_461 (H_t hl hJ H))))⟩
  · have l' := lw_g hl hX hg
    refine ⟨o_out l', fun σ2 e2 => ?_⟩
    subst e2
    have l2 : lw (wL σ' (X + 41) (0 : Int32).toNatClampNeg (nI (P + 1)).toInt64) b L xs X s m := lw_L l'
    dsimp only [cI]
    rw [va (k := 1) l2 hi hL (by decide), va (k := 2) l2 hi hL (by decide), va (k := 3) l2 hi hL (by decide)]
    exact ⟨rd (k := 1) l2 hi hL (by decide), rd (k := 2) l2 hi hL (by decide), rd (k := 3) l2 hi hL (by decide), l2.2.2.1.1, ca_mw l2 (m_tally0 l2.2.2.1 hZ c hP hP2 (t_end l2 (by rw [u1_o (by decide), u1_o (by decide), u1_o (by decide), u1_s]) (fun _ => o_L) (b_L_law_461 (H_o hl hX hg hJ' H (s3_u (s3_u (s3_u s3_0))) m3_0))))⟩
theorem l_replace (hl : lw σ b L xs X s m) (hJ : CJ σ X s m N z T y) (hi : i + 4 ≤ L) (hL : L ≤ 2048) (H : lH b L xs X i σ Q) {l5 l6 : iV} : wp J_L_law 464 [vr b, vr X, vr (X + 17), vr (X + 41), vi (nI i), l5, l6] [] σ Q := by
  have hX := hJ.1.1.2
  have J2 := hJ.2.1
  have J12 := hJ.2.2.2.2.2.2.2.2.2.2.2.1
  have hZ := mZ_of J2
  have hr : ∀ j, j < T → m 22 j = nI (y j) ∧ y j ≤ 60 := fun j hj => ⟨(J12.2.2.2.1 j hj).2.2.2.2.2.1, (J12.2.2.2.1 j hj).2.2.2.2.2.2.2⟩
  refine b_L_law_464 ?_
  rw [i_1, i_2, i_3, va (k := 1) hl hi hL (by decide), va (k := 2) hl hi hL (by decide), va (k := 3) hl hi hL (by decide)]
  refine ⟨rd (k := 1) hl hi hL (by decide), rd (k := 2) hl hi hL (by decide), rd (k := 3) hl hi hL (by decide), b_L_replace_0 ⟨sh_k0 hJ.1, x_replace hJ (fun c => ⟨fun _ => ?_, (fun e => absurd e (by decide)), Or.inl rfl⟩) (fun c cP => ⟨(fun e => absurd e (by decide)), fun _ => ?_, Or.inr rfl⟩) (fun P c hP hP2 σ' hg hJ' => ?_)⟩⟩
  · have l1 : lw (nO σ 201 6) b L xs X s m := lw_g hl hX (gd_x hX)
    refine b_L_replace_15 ?_
    dsimp only [cI]
    rw [va (k := 1) l1 hi hL (by decide), va (k := 2) l1 hi hL (by decide), va (k := 3) l1 hi hL (by decide)]
    exact ⟨rd (k := 1) l1 hi hL (by decide), rd (k := 2) l1 hi hL (by decide), rd (k := 3) l1 hi hL (by decide), l1.2.2.1.1, ca_mw l1 (m_replace1 l1.2.2.1 hZ c (t_end l1 (u1_s _ _ _) (fun e => absurd e (by decide)) (b_L_law_541 (H_t hl hJ H))))⟩
  · have l1 : lw (nO σ 202 6) b L xs X s m := lw_g hl hX (gd_x hX)
    refine b_L_replace_19 ?_
    dsimp only [cI]
    rw [va (k := 1) l1 hi hL (by decide), va (k := 2) l1 hi hL (by decide), va (k := 3) l1 hi hL (by decide)]
    exact ⟨rd (k := 1) l1 hi hL (by decide), rd (k := 2) l1 hi hL (by decide), rd (k := 3) l1 hi hL (by decide), l1.2.2.1.1, ca_mw l1 (m_replace2 l1.2.2.1 hZ c cP (t_end l1 (u1_s _ _ _) (fun e => absurd e (by decide)) (b_L_law_541 (H_t hl hJ H))))⟩
  · have l' := lw_g hl hX hg
    refine ⟨o_out l', fun σ2 e2 => ?_⟩
    subst e2
    have l2 : lw (wL σ' (X + 41) (0 : Int32).toNatClampNeg (nI (P + 1)).toInt64) b L xs X s m := lw_L l'
    dsimp only [cI]
    rw [va (k := 1) l2 hi hL (by decide), va (k := 2) l2 hi hL (by decide), va (k := 3) l2 hi hL (by decide)]
    exact ⟨rd (k := 1) l2 hi hL (by decide), rd (k := 2) l2 hi hL (by decide), rd (k := 3) l2 hi hL (by decide), l2.2.2.1.1, ca_mw l2 (m_replace0 l2.2.2.1 hZ c hP hP2 (t_end l2 (by rw [u1_o (by decide), u1_o (by decide), u1_o (by decide), u1_s]) (fun _ => o_L) (b_L_law_541 (H_o hl hX hg hJ' H (s3_u (s3_u (s3_u s3_0))) m3_0))))⟩
theorem l_counter (hl : lw σ b L xs X s m) (hJ : CJ σ X s m N z T y) (hi : i + 4 ≤ L) (hL : L ≤ 2048) (H : lH b L xs X i σ Q) {l5 l6 : iV} : wp J_L_law 680 [vr b, vr X, vr (X + 17), vr (X + 41), vi (nI i), l5, l6] [] σ Q := by
  have hX := hJ.1.1.2
  have J2 := hJ.2.1
  have J12 := hJ.2.2.2.2.2.2.2.2.2.2.2.1
  have hZ := mZ_of J2
  have hr : ∀ j, j < T → m 22 j = nI (y j) ∧ y j ≤ 60 := fun j hj => ⟨(J12.2.2.2.1 j hj).2.2.2.2.2.1, (J12.2.2.2.1 j hj).2.2.2.2.2.2.2⟩
  refine b_L_law_680 ?_
  rw [i_1, va (k := 1) hl hi hL (by decide)]
  refine ⟨rd (k := 1) hl hi hL (by decide), b_L_counter_0 ⟨sh_k0 hJ.1, x_counter hJ (fun c => ⟨fun _ => ?_, rfl⟩) (fun k hk hx σ' hg hJ' => ?_)⟩⟩
  · have l1 : lw (nO σ 201 6) b L xs X s m := lw_g hl hX (gd_x hX)
    refine b_L_counter_12 ?_
    dsimp only [cI]
    rw [va (k := 1) l1 hi hL (by decide)]
    exact ⟨rd (k := 1) l1 hi hL (by decide), l1.2.2.1.1, ca_mw l1 (m_counter1 l1.2.2.1 c (t_end l1 (u1_s _ _ _) (fun e => absurd e (by decide)) (b_L_law_733 (H_t hl hJ H))))⟩
  · have l' := lw_g hl hX hg
    refine ⟨o_out l', fun σ2 e2 => ?_⟩
    subst e2
    have l2 : lw (wL σ' (X + 41) (0 : Int32).toNatClampNeg (m 13 k).toInt64) b L xs X s m := lw_L l'
    dsimp only [cI]
    rw [va (k := 1) l2 hi hL (by decide), hx]
    exact ⟨rd (k := 1) l2 hi hL (by decide), l2.2.2.1.1, ca_mw l2 (m_counter0 l2.2.2.1 hk (t_end l2 (by rw [u1_s]) (fun _ => o_L) (b_L_law_733 (H_o hl hX hg hJ' H s3_0 m3_0))))⟩
theorem l_part (hl : lw σ b L xs X s m) (hJ : CJ σ X s m N z T y) (hi : i + 4 ≤ L) (hL : L ≤ 2048) (H : lH b L xs X i σ Q) {l5 l6 : iV} : wp J_L_law 736 [vr b, vr X, vr (X + 17), vr (X + 41), vi (nI i), l5, l6] [] σ Q := by
  have hX := hJ.1.1.2
  have J2 := hJ.2.1
  have J12 := hJ.2.2.2.2.2.2.2.2.2.2.2.1
  have hZ := mZ_of J2
  have hr : ∀ j, j < T → m 22 j = nI (y j) ∧ y j ≤ 60 := fun j hj => ⟨(J12.2.2.2.1 j hj).2.2.2.2.2.1, (J12.2.2.2.1 j hj).2.2.2.2.2.2.2⟩
  refine b_L_law_736 ?_
  rw [i_1, i_2, va (k := 1) hl hi hL (by decide), va (k := 2) hl hi hL (by decide)]
  refine ⟨rd (k := 1) hl hi hL (by decide), rd (k := 2) hl hi hL (by decide), b_L_part_0 ⟨sh_k0 hJ.1, x_part hJ (fun c => ⟨fun _ => ?_, (fun e => absurd e (by decide)), Or.inl rfl⟩) (fun c cP => ⟨(fun e => absurd e (by decide)), fun _ => ?_, Or.inr rfl⟩) (fun P c hP hP2 σ' hg hJ' => ?_)⟩⟩
  · have l1 : lw (nO σ 201 6) b L xs X s m := lw_g hl hX (gd_x hX)
    refine b_L_part_13 ?_
    dsimp only [cI]
    rw [va (k := 1) l1 hi hL (by decide), va (k := 2) l1 hi hL (by decide)]
    exact ⟨rd (k := 1) l1 hi hL (by decide), rd (k := 2) l1 hi hL (by decide), l1.2.2.1.1, ca_mw l1 (m_part1 l1.2.2.1 hZ c (t_end l1 (u1_s _ _ _) (fun e => absurd e (by decide)) (b_L_law_801 (H_t hl hJ H))))⟩
  · have l1 : lw (nO σ 202 6) b L xs X s m := lw_g hl hX (gd_x hX)
    refine b_L_part_17 ?_
    dsimp only [cI]
    rw [va (k := 1) l1 hi hL (by decide), va (k := 2) l1 hi hL (by decide)]
    exact ⟨rd (k := 1) l1 hi hL (by decide), rd (k := 2) l1 hi hL (by decide), l1.2.2.1.1, ca_mw l1 (m_part2 l1.2.2.1 hZ c cP (t_end l1 (u1_s _ _ _) (fun e => absurd e (by decide)) (b_L_law_801 (H_t hl hJ H))))⟩
  · have l' := lw_g hl hX hg
    refine ⟨o_out l', fun σ2 e2 => ?_⟩
    subst e2
    have l2 : lw (wL σ' (X + 41) (0 : Int32).toNatClampNeg (nI (P + 1)).toInt64) b L xs X s m := lw_L l'
    dsimp only [cI]
    rw [va (k := 1) l2 hi hL (by decide), va (k := 2) l2 hi hL (by decide)]
    exact ⟨rd (k := 1) l2 hi hL (by decide), rd (k := 2) l2 hi hL (by decide), l2.2.2.1.1, ca_mw l2 (m_part0 l2.2.2.1 hZ c hP hP2 (t_end l2 (by rw [u1_o (by decide), u1_s]) (fun _ => o_L) (b_L_law_801 (H_o hl hX hg hJ' H (s3_u s3_0) m3_0))))⟩
theorem l_receiver (hl : lw σ b L xs X s m) (hJ : CJ σ X s m N z T y) (hi : i + 4 ≤ L) (hL : L ≤ 2048) (H : lH b L xs X i σ Q) {l5 l6 : iV} : wp J_L_law 956 [vr b, vr X, vr (X + 17), vr (X + 41), vi (nI i), l5, l6] [] σ Q := by
  have hX := hJ.1.1.2
  have J2 := hJ.2.1
  have J12 := hJ.2.2.2.2.2.2.2.2.2.2.2.1
  have hZ := mZ_of J2
  have hr : ∀ j, j < T → m 22 j = nI (y j) ∧ y j ≤ 60 := fun j hj => ⟨(J12.2.2.2.1 j hj).2.2.2.2.2.1, (J12.2.2.2.1 j hj).2.2.2.2.2.2.2⟩
  refine b_L_law_956 ?_
  rw [i_1, va (k := 1) hl hi hL (by decide)]
  refine ⟨rd (k := 1) hl hi hL (by decide), b_L_receiver_0 ⟨sh_k0 hJ.1, x_receiver hJ (fun c => ⟨fun _ => ?_, (fun e => absurd e (by decide)), Or.inl rfl⟩) (fun c cP => ⟨(fun e => absurd e (by decide)), fun _ => ?_, Or.inr rfl⟩) (fun P c hP hP2 σ' hg hJ' => ?_)⟩⟩
  · have l1 : lw (nO σ 201 6) b L xs X s m := lw_g hl hX (gd_x hX)
    refine b_L_receiver_12 ?_
    dsimp only [cI]
    rw [va (k := 1) l1 hi hL (by decide)]
    exact ⟨rd (k := 1) l1 hi hL (by decide), l1.2.2.1.1, ca_mw l1 (m_receiver1 l1.2.2.1 J2.1 J2.2.1 c (t_end l1 (u1_s _ _ _) (fun e => absurd e (by decide)) (b_L_law_1009 (H_t hl hJ H))))⟩
  · have l1 : lw (nO σ 202 6) b L xs X s m := lw_g hl hX (gd_x hX)
    refine b_L_receiver_15 ?_
    dsimp only [cI]
    rw [va (k := 1) l1 hi hL (by decide)]
    exact ⟨rd (k := 1) l1 hi hL (by decide), l1.2.2.1.1, ca_mw l1 (m_receiver2 l1.2.2.1 J2.1 J2.2.1 c cP (t_end l1 (u1_s _ _ _) (fun e => absurd e (by decide)) (b_L_law_1009 (H_t hl hJ H))))⟩
  · have l' := lw_g hl hX hg
    refine ⟨o_out l', fun σ2 e2 => ?_⟩
    subst e2
    have l2 : lw (wL σ' (X + 41) (0 : Int32).toNatClampNeg (nI (P + 1)).toInt64) b L xs X s m := lw_L l'
    dsimp only [cI]
    rw [va (k := 1) l2 hi hL (by decide)]
    exact ⟨rd (k := 1) l2 hi hL (by decide), l2.2.2.1.1, ca_mw l2 (m_receiver0 l2.2.2.1 J2.1 J2.2.1 c hP hP2 (t_end l2 (by rw [u1_o (by decide), u1_s]) (fun _ => o_L) (b_L_law_1009 (H_o hl hX hg hJ' H (s3_u s3_0) m3_0))))⟩
theorem l_table (hl : lw σ b L xs X s m) (hJ : CJ σ X s m N z T y) (hi : i + 4 ≤ L) (hL : L ≤ 2048) (H : lH b L xs X i σ Q) {l5 l6 : iV} : wp J_L_law 1130 [vr b, vr X, vr (X + 17), vr (X + 41), vi (nI i), l5, l6] [] σ Q := by
  have hX := hJ.1.1.2
  have J2 := hJ.2.1
  have J12 := hJ.2.2.2.2.2.2.2.2.2.2.2.1
  have hZ := mZ_of J2
  have hr : ∀ j, j < T → m 22 j = nI (y j) ∧ y j ≤ 60 := fun j hj => ⟨(J12.2.2.2.1 j hj).2.2.2.2.2.1, (J12.2.2.2.1 j hj).2.2.2.2.2.2.2⟩
  refine b_L_law_1130 ?_
  rw [i_1, va (k := 1) hl hi hL (by decide)]
  refine ⟨rd (k := 1) hl hi hL (by decide), b_L_table_0 ⟨sh_k0 hJ.1, x_table hJ (fun c => ⟨fun _ => ?_, (fun e => absurd e (by decide)), Or.inl rfl⟩) (fun c cT => ⟨(fun e => absurd e (by decide)), fun _ => ?_, Or.inr rfl⟩) (fun n hn hx hT σ' hg hJ' => ?_)⟩⟩
  · have l1 : lw (nO σ 201 6) b L xs X s m := lw_g hl hX (gd_x hX)
    refine b_L_table_12 ?_
    dsimp only [cI]
    rw [va (k := 1) l1 hi hL (by decide)]
    exact ⟨rd (k := 1) l1 hi hL (by decide), l1.2.2.1.1, ca_mw l1 (m_table1 l1.2.2.1 c (t_end l1 (u1_s _ _ _) (fun e => absurd e (by decide)) (b_L_law_1183 (H_t hl hJ H))))⟩
  · obtain ⟨n, hn, hx⟩ := c
    have l1 : lw (nO σ 202 6) b L xs X s m := lw_g hl hX (gd_x hX)
    refine b_L_table_15 ?_
    dsimp only [cI]
    rw [va (k := 1) l1 hi hL (by decide)]
    exact ⟨rd (k := 1) l1 hi hL (by decide), l1.2.2.1.1, ca_mw l1 (by rw [hx]; exact m_table2 l1.2.2.1 hn (by rw [J12.1, cT]) (t_end l1 (u1_s _ _ _) (fun e => absurd e (by decide)) (b_L_law_1183 (H_t hl hJ H))))⟩
  · have l' := lw_g hl hX hg
    refine ⟨o_out l', fun σ2 e2 => ?_⟩
    subst e2
    have l2 : lw (wL σ' (X + 41) (0 : Int32).toNatClampNeg (nI T).toInt64) b L xs X s m := lw_L l'
    dsimp only [cI]
    rw [va (k := 1) l2 hi hL (by decide), hx]
    exact ⟨rd (k := 1) l2 hi hL (by decide), l2.2.2.1.1, ca_mw l2 (m_table0 l2.2.2.1 hn J12.1 hT (t_end l2 (by rw [u1_o (by decide), u1_s]) (fun _ => o_L) (b_L_law_1183 (H_o hl hX hg hJ' H (s3_u s3_0) m3_0))))⟩
theorem l_row (hl : lw σ b L xs X s m) (hJ : CJ σ X s m N z T y) (hi : i + 4 ≤ L) (hL : L ≤ 2048) (H : lH b L xs X i σ Q) {l5 l6 : iV} : wp J_L_law 1186 [vr b, vr X, vr (X + 17), vr (X + 41), vi (nI i), l5, l6] [] σ Q := by
  have hX := hJ.1.1.2
  have J2 := hJ.2.1
  have J12 := hJ.2.2.2.2.2.2.2.2.2.2.2.1
  have hZ := mZ_of J2
  have hr : ∀ j, j < T → m 22 j = nI (y j) ∧ y j ≤ 60 := fun j hj => ⟨(J12.2.2.2.1 j hj).2.2.2.2.2.1, (J12.2.2.2.1 j hj).2.2.2.2.2.2.2⟩
  refine b_L_law_1186 ?_
  rw [i_1, i_2, i_3, va (k := 1) hl hi hL (by decide), va (k := 2) hl hi hL (by decide), va (k := 3) hl hi hL (by decide)]
  refine ⟨rd (k := 1) hl hi hL (by decide), rd (k := 2) hl hi hL (by decide), rd (k := 3) hl hi hL (by decide), b_L_row_0 ⟨sh_k0 hJ.1, x_rowc hJ (fun c => ⟨fun _ => ?_, rfl⟩) (fun j k hj hx hk hw σ' hg hJ' => ?_)⟩⟩
  · have l1 : lw (nO σ 201 6) b L xs X s m := lw_g hl hX (gd_x hX)
    refine b_L_row_15 ?_
    dsimp only [cI]
    rw [va (k := 1) l1 hi hL (by decide), va (k := 2) l1 hi hL (by decide), va (k := 3) l1 hi hL (by decide)]
    exact ⟨rd (k := 1) l1 hi hL (by decide), rd (k := 2) l1 hi hL (by decide), rd (k := 3) l1 hi hL (by decide), l1.2.2.1.1, ca_mw l1 (m_row1 l1.2.2.1 J12.1 J12.2.1 hr c (t_end l1 (u1_s _ _ _) (fun e => absurd e (by decide)) (b_L_law_1263 (H_t hl hJ H))))⟩
  · have l' := lw_g hl hX hg
    refine ⟨o_out l', fun σ2 e2 => ?_⟩
    subst e2
    have l2 : lw (wL σ' (X + 41) (0 : Int32).toNatClampNeg (m 21 (60 * j + k)).toInt64) b L xs X s m := lw_L l'
    dsimp only [cI]
    rw [va (k := 1) l2 hi hL (by decide), va (k := 2) l2 hi hL (by decide), va (k := 3) l2 hi hL (by decide), hx, hw]
    exact ⟨rd (k := 1) l2 hi hL (by decide), rd (k := 2) l2 hi hL (by decide), rd (k := 3) l2 hi hL (by decide), l2.2.2.1.1, ca_mw l2 (m_row0 l2.2.2.1 J12.1 J12.2.1 hr hj hk (t_end l2 (by rw [u1_s]) (fun _ => o_L) (b_L_law_1263 (H_o hl hX hg hJ' H s3_0 m3_0))))⟩
theorem l_index (hl : lw σ b L xs X s m) (hJ : CJ σ X s m N z T y) (hi : i + 4 ≤ L) (hL : L ≤ 2048) (H : lH b L xs X i σ Q) {l5 l6 : iV} : wp J_L_law 1266 [vr b, vr X, vr (X + 17), vr (X + 41), vi (nI i), l5, l6] [] σ Q := by
  have hX := hJ.1.1.2
  have J2 := hJ.2.1
  have J12 := hJ.2.2.2.2.2.2.2.2.2.2.2.1
  have hZ := mZ_of J2
  have hr : ∀ j, j < T → m 22 j = nI (y j) ∧ y j ≤ 60 := fun j hj => ⟨(J12.2.2.2.1 j hj).2.2.2.2.2.1, (J12.2.2.2.1 j hj).2.2.2.2.2.2.2⟩
  refine b_L_law_1266 ?_
  rw [i_1, i_2, va (k := 1) hl hi hL (by decide), va (k := 2) hl hi hL (by decide)]
  refine ⟨rd (k := 1) hl hi hL (by decide), rd (k := 2) hl hi hL (by decide), b_L_index_0 ⟨sh_k0 hJ.1, x_index hJ (fun c => ⟨fun _ => ?_, rfl⟩) (fun j k hj hx hk hw σ' hg hJ' => ?_)⟩⟩
  · have l1 : lw (nO σ 201 6) b L xs X s m := lw_g hl hX (gd_x hX)
    refine b_L_index_13 ?_
    dsimp only [cI]
    rw [va (k := 1) l1 hi hL (by decide), va (k := 2) l1 hi hL (by decide)]
    exact ⟨rd (k := 1) l1 hi hL (by decide), rd (k := 2) l1 hi hL (by decide), l1.2.2.1.1, ca_mw l1 (m_index1 l1.2.2.1 J12.1 J12.2.1 hr c (t_end l1 (u1_s _ _ _) (fun e => absurd e (by decide)) (b_L_law_1331 (H_t hl hJ H))))⟩
  · have l' := lw_g hl hX hg
    refine ⟨o_out l', fun σ2 e2 => ?_⟩
    subst e2
    have l2 : lw (wL σ' (X + 41) (0 : Int32).toNatClampNeg (m 23 j).toInt64) b L xs X s m := lw_L l'
    dsimp only [cI]
    rw [va (k := 1) l2 hi hL (by decide), va (k := 2) l2 hi hL (by decide), hx, hw]
    exact ⟨rd (k := 1) l2 hi hL (by decide), rd (k := 2) l2 hi hL (by decide), l2.2.2.1.1, ca_mw l2 (m_index0 l2.2.2.1 J12.1 J12.2.1 hr hj hk (t_end l2 (by rw [u1_s]) (fun _ => o_L) (b_L_law_1331 (H_o hl hX hg hJ' H s3_0 m3_0))))⟩
theorem l_result (hl : lw σ b L xs X s m) (hJ : CJ σ X s m N z T y) (hi : i + 4 ≤ L) (hL : L ≤ 2048) (H : lH b L xs X i σ Q) {l5 l6 : iV} : wp J_L_law 1080 [vr b, vr X, vr (X + 17), vr (X + 41), vi (nI i), l5, l6] [] σ Q := by
  have hX := hJ.1.1.2
  have J2 := hJ.2.1
  have J12 := hJ.2.2.2.2.2.2.2.2.2.2.2.1
  have hZ := mZ_of J2
  have hr : ∀ j, j < T → m 22 j = nI (y j) ∧ y j ≤ 60 := fun j hj => ⟨(J12.2.2.2.1 j hj).2.2.2.2.2.1, (J12.2.2.2.1 j hj).2.2.2.2.2.2.2⟩
  have hg := gd_0 hX
  refine b_L_law_1080 ?_
  rw [i_1, i_2, va (k := 1) hl hi hL (by decide), va (k := 2) hl hi hL (by decide)]
  refine ⟨rd (k := 1) hl hi hL (by decide), rd (k := 2) hl hi hL (by decide), sh_k0 hJ.1, x_result hJ ?_⟩
  dsimp only [cI]
  rw [va (k := 1) hl hi hL (by decide), va (k := 2) hl hi hL (by decide)]
  exact ⟨rd (k := 1) hl hi hL (by decide), rd (k := 2) hl hi hL (by decide), hl.2.2.1.1, ca_mw hl (m_result hl.2.2.1 ⟨fun _ => H_v hl hX hg hJ H s3_0 m3_0, fun q => absurd rfl q⟩)⟩
theorem l_pointer (hl : lw σ b L xs X s m) (hJ : CJ σ X s m N z T y) (hi : i + 4 ≤ L) (hL : L ≤ 2048) (H : lH b L xs X i σ Q) {l5 l6 : iV} : wp J_L_law 1117 [vr b, vr X, vr (X + 17), vr (X + 41), vi (nI i), l5, l6] [] σ Q := by
  have hX := hJ.1.1.2
  have J2 := hJ.2.1
  have J12 := hJ.2.2.2.2.2.2.2.2.2.2.2.1
  have hZ := mZ_of J2
  have hr : ∀ j, j < T → m 22 j = nI (y j) ∧ y j ≤ 60 := fun j hj => ⟨(J12.2.2.2.1 j hj).2.2.2.2.2.1, (J12.2.2.2.1 j hj).2.2.2.2.2.2.2⟩
  have hg := gd_0 hX
  exact b_L_law_1117 ⟨sh_k0 hJ.1, x_pointer hJ ⟨hl.2.2.1.1, ca_mw hl (m_pointer hl.2.2.1 ⟨fun _ => H_v hl hX hg hJ H s3_0 m3_0, fun q => absurd rfl q⟩)⟩⟩
end LW
