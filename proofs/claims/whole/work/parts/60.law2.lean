/-! THE LAW: the calls with a boolean, and the long ones. -/
section LW2
variable {b L X i : Nat} {xs : Nat → Int32} {σ σ' : iS} {s s' : Nat → Int32} {m m' : Nat → Nat → Int32} {N T : Nat} {z y : Nat → Nat} {Q : iO → iS → Prop}
theorem mO_r {x : Int32} {o : Bool} {n : Nat} {g : Nat → Int32} (h : mO' m 1 x o n g) : mO' (rmb m 2400) 2 x o n g := ⟨h.1, fun e => by obtain ⟨i, a1, a2⟩ := h.2 e; exact ⟨i, a1, mX_rmb a2⟩⟩
theorem sg_r {t n : Nat} {g : Nat → Int32} : ∀ c, c ≠ 2 → ¬ (9 ≤ c ∧ c ≤ 12) → ∀ k, sgW (rmb m 2400) t n g c k = sgW m t n g c k := fun c hc _ k => by
  unfold sgW
  split
  · rfl
  · exact rmb_o hc k
theorem l_inspect (hl : lw σ b L xs X s m) (hJ : CJ σ X s m N z T y) (hi : i + 4 ≤ L) (hL : L ≤ 2048) (H : lH b L xs X i σ Q) {l5 l6 : iV} : wp J_L_law 544 [vr b, vr X, vr (X + 17), vr (X + 41), vi (nI i), l5, l6] [] σ Q := by
  have hX := hJ.1.1.2
  have J2 := hJ.2.1
  have J12 := hJ.2.2.2.2.2.2.2.2.2.2.2.1
  have hZ := mZ_of J2
  have hr : ∀ j, j < T → m 22 j = nI (y j) ∧ y j ≤ 60 := fun j hj => ⟨(J12.2.2.2.1 j hj).2.2.2.2.2.1, (J12.2.2.2.1 j hj).2.2.2.2.2.2.2⟩
  refine b_L_law_544 ?_
  rw [i_1, va (k := 1) hl hi hL (by decide)]
  refine ⟨rd (k := 1) hl hi hL (by decide), b_L_inspect_0 ⟨sh_k0 hJ.1, x_inspect hJ (fun c => ⟨fun _ => ?_, rfl⟩) (fun t ht hx P B hP hP2 hB σ' hg hC => ?_)⟩⟩
  · have l1 : lw (nO σ 201 6) b L xs X s m := lw_g hl hX (gd_x hX)
    refine b_L_inspect_12 ?_
    dsimp only [cI]
    rw [va (k := 1) l1 hi hL (by decide)]
    exact ⟨rd (k := 1) l1 hi hL (by decide), l1.2.2.1.1, ca_mw l1 (m_inspect1 l1.2.2.1 J2.1 J2.2.1 c (t_end l1 (u1_s _ _ _) (fun e => absurd e (by decide)) (b_L_law_597 (H_t hl hJ H))))⟩
  · have l' := lw_g hl hX hg
    refine ⟨o_out l', fun σ2 e2 => ?_⟩
    subst e2
    have l2 : lw (wL σ' (X + 41) (0 : Int32).toNatClampNeg (nI (inR B P (fun k => m 1 (60 * t + k)) (z t) (m 13)).1).toInt64) b L xs X s m := lw_L l'
    dsimp only [cI]
    rw [va (k := 1) l2 hi hL (by decide), hx]
    exact ⟨rd (k := 1) l2 hi hL (by decide), l2.2.2.1.1, ca_mw l2 (m_inspect0 l2.2.2.1 J2.1 J2.2.1 ht (mX_of J2 ht) hP hP2 hB (fun mm a1 a2 a3 => t_end l2 (by rw [u1_o (by decide), u1_s]) (fun _ => o_L) (b_L_law_597 (H_o hl hX hg (hC mm a1 a2 a3) H (s3_u s3_0) m3_0))))⟩
theorem l_convert (hl : lw σ b L xs X s m) (hJ : CJ σ X s m N z T y) (hi : i + 4 ≤ L) (hL : L ≤ 2048) (H : lH b L xs X i σ Q) {l5 l6 : iV} : wp J_L_law 600 [vr b, vr X, vr (X + 17), vr (X + 41), vi (nI i), l5, l6] [] σ Q := by
  have hX := hJ.1.1.2
  have J2 := hJ.2.1
  have J12 := hJ.2.2.2.2.2.2.2.2.2.2.2.1
  have hZ := mZ_of J2
  have hr : ∀ j, j < T → m 22 j = nI (y j) ∧ y j ≤ 60 := fun j hj => ⟨(J12.2.2.2.1 j hj).2.2.2.2.2.1, (J12.2.2.2.1 j hj).2.2.2.2.2.2.2⟩
  refine b_L_law_600 ?_
  rw [i_1, i_2, i_3, va (k := 1) hl hi hL (by decide), va (k := 2) hl hi hL (by decide), va (k := 3) hl hi hL (by decide)]
  refine ⟨rd (k := 1) hl hi hL (by decide), rd (k := 2) hl hi hL (by decide), rd (k := 3) hl hi hL (by decide), b_L_convert_0 ⟨sh_k0 hJ.1, x_convert hJ (fun c => ⟨fun _ => ?_, rfl⟩) (fun t p j ht hx hp hw hj hv ez oa ob na nb ga gb ha hb σ' hg hJ' => ?_)⟩⟩
  · have l1 : lw (nO σ 201 6) b L xs X s m := lw_g hl hX (gd_x hX)
    refine b_L_convert_15 ?_
    dsimp only [cI]
    rw [va (k := 1) l1 hi hL (by decide), va (k := 2) l1 hi hL (by decide), va (k := 3) l1 hi hL (by decide)]
    exact ⟨rd (k := 1) l1 hi hL (by decide), rd (k := 2) l1 hi hL (by decide), rd (k := 3) l1 hi hL (by decide), l1.2.2.1.1, ca_mw l1 (m_convert1 l1.2.2.1 hZ c (t_end l1 (u1_s _ _ _) (fun e => absurd e (by decide)) (b_L_law_677 (H_t hl hJ H))))⟩
  · have xj := mX_of J2 hj
    rw [← ez] at xj
    have l' := lw_g hl hX hg
    refine ⟨o_out l', fun σ2 e2 => ?_⟩
    subst e2
    have l2 : lw (wL σ' (X + 41) (0 : Int32).toNatClampNeg (nI (cvt (fun k => m 1 (60 * t + k)) (fun k => m 1 (60 * p + k)) (fun k => m 1 (60 * j + k)) (z p) (re (fun k => m 1 (60 * t + k)) (z t) ob gb nb - rb (fun k => m 1 (60 * t + k)) (z t) oa ga na) (rb (fun k => m 1 (60 * t + k)) (z t) oa ga na) (fun k => m 1 (60 * t + k)) 0).1).toInt64) b L xs X s m := lw_L l'
    dsimp only [cI]
    rw [va (k := 1) l2 hi hL (by decide), va (k := 2) l2 hi hL (by decide), va (k := 3) l2 hi hL (by decide), hx, hw, hv]
    exact ⟨rd (k := 1) l2 hi hL (by decide), rd (k := 2) l2 hi hL (by decide), rd (k := 3) l2 hi hL (by decide), l2.2.2.1.1, ca_mw l2 (m_convert0 l2.2.2.1 hZ ht hp hj ez (mX_of J2 ht) (mX_of J2 hp) xj (mO_r ha) (mO_r hb) (t_end l2 (by rw [u1_o (by decide), u1_o (by decide), u1_s]) (fun _ => o_L) (b_L_law_677 (H_o hl hX hg hJ' H (s3_u (s3_u s3_0)) sg_r))))⟩
theorem l_join (hl : lw σ b L xs X s m) (hJ : CJ σ X s m N z T y) (hi : i + 4 ≤ L) (hL : L ≤ 2048) (H : lH b L xs X i σ Q) {l5 l6 : iV} : wp J_L_law 804 [vr b, vr X, vr (X + 17), vr (X + 41), vi (nI i), l5, l6] [] σ Q := by
  have hX := hJ.1.1.2
  have J2 := hJ.2.1
  have J12 := hJ.2.2.2.2.2.2.2.2.2.2.2.1
  have hZ := mZ_of J2
  have hr : ∀ j, j < T → m 22 j = nI (y j) ∧ y j ≤ 60 := fun j hj => ⟨(J12.2.2.2.1 j hj).2.2.2.2.2.1, (J12.2.2.2.1 j hj).2.2.2.2.2.2.2⟩
  refine b_L_law_804 ?_
  rw [i_1, i_2, va (k := 1) hl hi hL (by decide), va (k := 2) hl hi hL (by decide)]
  refine ⟨rd (k := 1) hl hi hL (by decide), rd (k := 2) hl hi hL (by decide), b_L_join_0 ⟨sh_k0 hJ.1, x_join hJ (fun c => ⟨fun _ => ?_, rfl⟩) (fun t ht hx c σ' hg hJ' => ?_) (fun t P C a ht hx hP hP2 hC ha hw R hR σ' hg hJ' => ?_)⟩⟩
  · have l1 : lw (nO σ 201 6) b L xs X s m := lw_g hl hX (gd_x hX)
    refine b_L_join_13 ?_
    dsimp only [cI]
    rw [va (k := 1) l1 hi hL (by decide), va (k := 2) l1 hi hL (by decide)]
    exact ⟨rd (k := 1) l1 hi hL (by decide), rd (k := 2) l1 hi hL (by decide), l1.2.2.1.1, ca_mw l1 (m_join1 l1.2.2.1 J2.1 J2.2.1 c (t_end l1 (u1_s _ _ _) (fun e => absurd e (by decide)) (b_L_law_869 (H_t hl hJ H))))⟩
  · have l' := lw_g hl hX hg
    refine ⟨o_out l', fun σ2 e2 => ?_⟩
    subst e2
    have l2 : lw (wL σ' (X + 41) (0 : Int32).toNatClampNeg (-1 : Int32).toInt64) b L xs X s m := lw_L l'
    dsimp only [cI]
    rw [va (k := 1) l2 hi hL (by decide), va (k := 2) l2 hi hL (by decide), hx]
    exact ⟨rd (k := 1) l2 hi hL (by decide), rd (k := 2) l2 hi hL (by decide), l2.2.2.1.1, ca_mw l2 (m_joinB l2.2.2.1 hZ ht c (t_end l2 (by rw [u1_o (by decide), u1_o (by decide), u1_s]) (fun _ => o_L) (b_L_law_869 (H_o hl hX hg hJ' H (s3_u (s3_u s3_0)) m3_0))))⟩
  · have l' := lw_g hl hX hg
    refine ⟨o_out l', fun σ2 e2 => ?_⟩
    subst e2
    have l2 : lw (wL σ' (X + 41) (0 : Int32).toNatClampNeg (if R.1 then nI R.2.1 else -1).toInt64) b L xs X s m := lw_L l'
    dsimp only [cI]
    rw [va (k := 1) l2 hi hL (by decide), va (k := 2) l2 hi hL (by decide), hx, hw]
    exact ⟨rd (k := 1) l2 hi hL (by decide), rd (k := 2) l2 hi hL (by decide), l2.2.2.1.1, ca_mw l2 (m_join0 l2.2.2.1 hZ ht hP hP2 hC ha (fun R' hR' => by have e := hR.symm.trans hR'; subst e; exact t_end l2 (by rw [u1_o (by decide), u1_o (by decide), u1_s]) (fun _ => o_L) (b_L_law_869 (H_o hl hX hg hJ' H (s3_u (s3_u s3_0)) m3_0))))⟩
theorem l_split (hl : lw σ b L xs X s m) (hJ : CJ σ X s m N z T y) (hi : i + 4 ≤ L) (hL : L ≤ 2048) (H : lH b L xs X i σ Q) {l5 l6 : iV} : wp J_L_law 1012 [vr b, vr X, vr (X + 17), vr (X + 41), vi (nI i), l5, l6] [] σ Q := by
  have hX := hJ.1.1.2
  have J2 := hJ.2.1
  have J12 := hJ.2.2.2.2.2.2.2.2.2.2.2.1
  have hZ := mZ_of J2
  have hr : ∀ j, j < T → m 22 j = nI (y j) ∧ y j ≤ 60 := fun j hj => ⟨(J12.2.2.2.1 j hj).2.2.2.2.2.1, (J12.2.2.2.1 j hj).2.2.2.2.2.2.2⟩
  refine b_L_law_1012 ?_
  rw [i_1, i_2, va (k := 1) hl hi hL (by decide), va (k := 2) hl hi hL (by decide)]
  refine ⟨rd (k := 1) hl hi hL (by decide), rd (k := 2) hl hi hL (by decide), b_L_split_0 ⟨sh_k0 hJ.1, x_split hJ (fun c => ⟨fun _ => ?_, rfl⟩) (fun t ht hx c σ' hg hC => ?_) (fun t D E R rv a0 ht hx hD hD2 hE hR hR2 hrv ha0 hw σ' hg hC => ?_)⟩⟩
  · have l1 : lw (nO σ 201 6) b L xs X s m := lw_g hl hX (gd_x hX)
    refine b_L_split_13 ?_
    dsimp only [cI]
    rw [va (k := 1) l1 hi hL (by decide), va (k := 2) l1 hi hL (by decide)]
    exact ⟨rd (k := 1) l1 hi hL (by decide), rd (k := 2) l1 hi hL (by decide), l1.2.2.1.1, ca_mw l1 (m_split1 l1.2.2.1 J2.1 J2.2.1 c (t_end l1 (u1_s _ _ _) (fun e => absurd e (by decide)) (b_L_law_1077 (H_t hl hJ H))))⟩
  · have l' := lw_g hl hX hg
    refine ⟨o_out l', fun σ2 e2 => ?_⟩
    subst e2
    have l2 : lw (wL σ' (X + 41) (0 : Int32).toNatClampNeg (-1 : Int32).toInt64) b L xs X s m := lw_L l'
    dsimp only [cI]
    rw [va (k := 1) l2 hi hL (by decide), va (k := 2) l2 hi hL (by decide), hx]
    exact ⟨rd (k := 1) l2 hi hL (by decide), rd (k := 2) l2 hi hL (by decide), l2.2.2.1.1, ca_mw l2 (m_splitB l2.2.2.1 hZ ht c (fun mm a1 a2 a3 a4 => t_end l2 (by rw [u1_o (by decide), u1_o (by decide), u1_o (by decide), u1_s]) (fun _ => o_L) (b_L_law_1077 (H_o hl hX hg (hC mm a1 a2 a3 a4) H (s3_u (s3_u (s3_u s3_0))) m3_0))))⟩
  · have l' := lw_g hl hX hg
    refine ⟨o_out l', fun σ2 e2 => ?_⟩
    subst e2
    have l2 : lw (wL σ' (X + 41) (0 : Int32).toNatClampNeg (if (spP (fun k => m 1 (60 * t + k)) (z t) E D (fun x => z (rv x)) a0 (spV (fun k => m 1 (60 * t + k)) (z t) E D R (fun x => z (rv x)) a0)) < z t then -1 else nI ((spP (fun k => m 1 (60 * t + k)) (z t) E D (fun x => z (rv x)) a0 (spV (fun k => m 1 (60 * t + k)) (z t) E D R (fun x => z (rv x)) a0)) + 1)).toInt64) b L xs X s m := lw_L l'
    dsimp only [cI]
    rw [va (k := 1) l2 hi hL (by decide), va (k := 2) l2 hi hL (by decide), hx, hw]
    exact ⟨rd (k := 1) l2 hi hL (by decide), rd (k := 2) l2 hi hL (by decide), l2.2.2.1.1, ca_mw l2 (m_split0 l2.2.2.1 hZ ht (mX_of J2 ht) hD hD2 hE hR hR2 hrv ha0 (fun mm a1 a2 a3 a4 => t_end l2 (by rw [u1_o (by decide), u1_o (by decide), u1_o (by decide), u1_s]) (fun _ => o_L) (b_L_law_1077 (H_o hl hX hg (hC mm a1 a2 a3 a4) H (s3_u (s3_u (s3_u s3_0))) m3_0))))⟩
theorem l_span2 (hl : lw σ b L xs X s m) (hJ : CJ σ X s m N z T y) (hi : i + 4 ≤ L) (hL : L ≤ 2048) (H : lH b L xs X i σ Q) {l5 l6 : iV} {bx : Int32} (hb : (xs (i + 1) = 0 → bx = 0) ∧ (xs (i + 1) ≠ 0 → bx = 1)) : wp J_L_law 335 [vr b, vr X, vr (X + 17), vr (X + 41), vi (nI i), l5, l6] [vi bx, vr X] σ Q := by
  have hX := hJ.1.1.2
  have J2 := hJ.2.1
  have J12 := hJ.2.2.2.2.2.2.2.2.2.2.2.1
  have hZ := mZ_of J2
  have hr : ∀ j, j < T → m 22 j = nI (y j) ∧ y j ≤ 60 := fun j hj => ⟨(J12.2.2.2.1 j hj).2.2.2.2.2.1, (J12.2.2.2.1 j hj).2.2.2.2.2.2.2⟩
  refine b_L_law_335 ?_
  rw [i_1, i_2, va (k := 2) hl hi hL (by decide)]
  refine ⟨rd (k := 2) hl hi hL (by decide), b_L_span_0 ⟨sh_k0 hJ.1, x_span hJ (fun c => ⟨fun _ => ?_, rfl⟩) (fun j hj hw hz σ' hg hJ' => ?_)⟩⟩
  · have l1 : lw (nO σ 201 6) b L xs X s m := lw_g hl hX (gd_x hX)
    refine b_L_span_9 ?_
    have go : wp J_L_law 361 [vr b, vr X, vr (X + 17), vr (X + 41), vi (nI i), vi 1, l6] [vi bx, vr (X + 17)] (nO σ 201 6) Q := by
      refine b_L_law_361 ?_
      rw [i_2, va (k := 2) l1 hi hL (by decide)]
      exact ⟨rd (k := 2) l1 hi hL (by decide), l1.2.2.1.1, ca_mw l1 (m_span1 l1.2.2.1 hZ c (t_endV l1 (u1_s _ _ _) (H_t hl hJ H)))⟩
    dsimp only [cI]
    rw [va (k := 1) l1 hi hL (by decide)]
    refine ⟨rd (k := 1) l1 hi hL (by decide), fun c2 => by have e := hb.1 c2; subst e; exact go, fun c2 => by have e := hb.2 c2; subst e; exact go⟩
  · have l' := lw_g hl hX hg
    have go : wp J_L_law 361 [vr b, vr X, vr (X + 17), vr (X + 41), vi (nI i), vi 0, l6] [vi bx, vr (X + 17)] σ' Q := by
      refine b_L_law_361 ?_
      rw [i_2, va (k := 2) l' hi hL (by decide), hw]
      exact ⟨rd (k := 2) l' hi hL (by decide), l'.2.2.1.1, ca_mw l' (m_span0 l'.2.2.1 hZ hj hz (t_endV l' (by split <;> (rw [u1_o (by decide), u1_s])) (H_v hl hX hg hJ' H (s3_u s3_0) m3_0)))⟩
    dsimp only [hV, cI]
    rw [va (k := 1) l' hi hL (by decide)]
    refine ⟨rd (k := 1) l' hi hL (by decide), fun c2 => by have e := hb.1 c2; subst e; exact go, fun c2 => by have e := hb.2 c2; subst e; exact go⟩
theorem l_span (hl : lw σ b L xs X s m) (hJ : CJ σ X s m N z T y) (hi : i + 4 ≤ L) (hL : L ≤ 2048) (H : lH b L xs X i σ Q) {l5 l6 : iV} : wp J_L_law 320 [vr b, vr X, vr (X + 17), vr (X + 41), vi (nI i), l5, l6] [] σ Q := by
  refine b_L_law_320 ?_
  rw [i_1, va (k := 1) hl hi hL (by decide)]
  exact ⟨rd (k := 1) hl hi hL (by decide), fun c => l_span2 hl hJ hi hL H ⟨fun _ => rfl, fun q => absurd c q⟩, fun c => l_span2 hl hJ hi hL H ⟨fun q => absurd q c, fun _ => rfl⟩⟩
theorem l_delimiter2 (hl : lw σ b L xs X s m) (hJ : CJ σ X s m N z T y) (hi : i + 4 ≤ L) (hL : L ≤ 2048) (H : lH b L xs X i σ Q) {l5 l6 : iV} {bx : Int32} (hb : (xs (i + 2) = 0 → bx = 0) ∧ (xs (i + 2) ≠ 0 → bx = 1)) : wp J_L_law 893 [vr b, vr X, vr (X + 17), vr (X + 41), vi (nI i), l5, l6] [vi bx, vi (xs (i + 1)), vr X] σ Q := by
  have hX := hJ.1.1.2
  have J2 := hJ.2.1
  have J12 := hJ.2.2.2.2.2.2.2.2.2.2.2.1
  have hZ := mZ_of J2
  have hr : ∀ j, j < T → m 22 j = nI (y j) ∧ y j ≤ 60 := fun j hj => ⟨(J12.2.2.2.1 j hj).2.2.2.2.2.1, (J12.2.2.2.1 j hj).2.2.2.2.2.2.2⟩
  have hbb : iBool bx := by
    by_cases c : xs (i + 2) = 0
    · exact Or.inl (hb.1 c)
    · exact Or.inr (hb.2 c)
  refine b_L_law_893 ?_
  rw [i_1, i_2]
  refine b_L_delimiter_0 ⟨sh_k0 hJ.1, x_delimiter hJ hbb (fun c => ⟨fun _ => ?_, (fun e => absurd e (by decide)), Or.inl rfl⟩) (fun c cP => ⟨(fun e => absurd e (by decide)), fun _ => ?_, Or.inr rfl⟩) (fun D c hD hD2 σ' hg hJ' => ?_)⟩
  · have l1 : lw (nO σ 201 6) b L xs X s m := lw_g hl hX (gd_x hX)
    refine b_L_delimiter_13 ?_
    have go : wp J_L_law 920 [vr b, vr X, vr (X + 17), vr (X + 41), vi (nI i), vi 1, l6] [vi bx, vi (xs (i + 1)), vr (X + 17)] (nO σ 201 6) Q := by
      refine b_L_law_920 ?_
      exact ⟨l1.2.2.1.1, ca_mw l1 (m_delimiter1 l1.2.2.1 hZ c (t_end l1 (u1_s _ _ _) (fun e => absurd e (by decide)) (b_L_law_953 (H_t hl hJ H))))⟩
    dsimp only [cI]
    rw [va (k := 1) l1 hi hL (by decide), va (k := 2) l1 hi hL (by decide)]
    refine ⟨rd (k := 1) l1 hi hL (by decide), rd (k := 2) l1 hi hL (by decide), fun c2 => by have e := hb.1 c2; subst e; exact go, fun c2 => by have e := hb.2 c2; subst e; exact go⟩
  · have l1 : lw (nO σ 202 6) b L xs X s m := lw_g hl hX (gd_x hX)
    refine b_L_delimiter_17 ?_
    have go : wp J_L_law 920 [vr b, vr X, vr (X + 17), vr (X + 41), vi (nI i), vi 2, l6] [vi bx, vi (xs (i + 1)), vr (X + 17)] (nO σ 202 6) Q := by
      refine b_L_law_920 ?_
      exact ⟨l1.2.2.1.1, ca_mw l1 (m_delimiter2 l1.2.2.1 hZ c cP (t_end l1 (u1_s _ _ _) (fun e => absurd e (by decide)) (b_L_law_953 (H_t hl hJ H))))⟩
    dsimp only [cI]
    rw [va (k := 1) l1 hi hL (by decide), va (k := 2) l1 hi hL (by decide)]
    refine ⟨rd (k := 1) l1 hi hL (by decide), rd (k := 2) l1 hi hL (by decide), fun c2 => by have e := hb.1 c2; subst e; exact go, fun c2 => by have e := hb.2 c2; subst e; exact go⟩
  · have l' := lw_g hl hX hg
    refine ⟨o_out l', fun σ2 e2 => ?_⟩
    subst e2
    have l2 : lw (wL σ' (X + 41) (0 : Int32).toNatClampNeg (nI (D + 1)).toInt64) b L xs X s m := lw_L l'
    have go : wp J_L_law 920 [vr b, vr X, vr (X + 17), vr (X + 41), vi (nI i), vi 0, l6] [vi bx, vi (xs (i + 1)), vr (X + 17)] (wL σ' (X + 41) (0 : Int32).toNatClampNeg (nI (D + 1)).toInt64) Q := by
      refine b_L_law_920 ?_
      exact ⟨l2.2.2.1.1, ca_mw l2 (m_delimiter0 l2.2.2.1 hZ c hbb hD hD2 (t_end l2 (by rw [u1_o (by decide), u1_s]) (fun _ => o_L) (b_L_law_953 (H_o hl hX hg hJ' H (s3_u s3_0) m3_0))))⟩
    dsimp only [cI]
    rw [va (k := 1) l2 hi hL (by decide), va (k := 2) l2 hi hL (by decide)]
    refine ⟨rd (k := 1) l2 hi hL (by decide), rd (k := 2) l2 hi hL (by decide), fun c2 => by have e := hb.1 c2; subst e; exact go, fun c2 => by have e := hb.2 c2; subst e; exact go⟩
theorem l_delimiter (hl : lw σ b L xs X s m) (hJ : CJ σ X s m N z T y) (hi : i + 4 ≤ L) (hL : L ≤ 2048) (H : lH b L xs X i σ Q) {l5 l6 : iV} : wp J_L_law 872 [vr b, vr X, vr (X + 17), vr (X + 41), vi (nI i), l5, l6] [] σ Q := by
  refine b_L_law_872 ?_
  rw [i_1, i_2, va (k := 1) hl hi hL (by decide), va (k := 2) hl hi hL (by decide)]
  exact ⟨rd (k := 1) hl hi hL (by decide), rd (k := 2) hl hi hL (by decide), fun c => l_delimiter2 hl hJ hi hL H ⟨fun _ => rfl, fun q => absurd c q⟩, fun c => l_delimiter2 hl hJ hi hL H ⟨fun q => absurd q c, fun _ => rfl⟩⟩
theorem l_search2 (hl : lw σ b L xs X s m) (hJ : CJ σ X s m N z T y) (hi : i + 4 ≤ L) (hL : L ≤ 2048) (H : lH b L xs X i σ Q) {l5 l6 : iV} {bx : Int32} (hb : (xs (i + 2) = 0 → bx = 0) ∧ (xs (i + 2) ≠ 0 → bx = 1)) : wp J_L_law 1355 [vr b, vr X, vr (X + 17), vr (X + 41), vi (nI i), l5, l6] [vi bx, vi (xs (i + 1)), vr X] σ Q := by
  have hX := hJ.1.1.2
  have J2 := hJ.2.1
  have J12 := hJ.2.2.2.2.2.2.2.2.2.2.2.1
  have hZ := mZ_of J2
  have hr : ∀ j, j < T → m 22 j = nI (y j) ∧ y j ≤ 60 := fun j hj => ⟨(J12.2.2.2.1 j hj).2.2.2.2.2.1, (J12.2.2.2.1 j hj).2.2.2.2.2.2.2⟩
  refine b_L_law_1355 ?_
  rw [i_1, i_2, i_3, va (k := 3) hl hi hL (by decide)]
  refine ⟨rd (k := 3) hl hi hL (by decide), b_L_search_0 ⟨sh_k0 hJ.1, x_search hJ (fun c => ⟨fun _ => ?_, rfl⟩) (fun j ix hj hx hix hix1 hix2 v hv σ' hg hJ' => ?_)⟩⟩
  · have l1 : lw (nO σ 201 6) b L xs X s m := lw_g hl hX (gd_x hX)
    refine b_L_search_15 ?_
    have go : wp J_L_law 1388 [vr b, vr X, vr (X + 17), vr (X + 41), vi (nI i), vi 1, l6] [vi bx, vi (xs (i + 1)), vr (X + 17)] (nO σ 201 6) Q := by
      refine b_L_law_1388 ?_
      rw [i_3, va (k := 3) l1 hi hL (by decide)]
      exact ⟨rd (k := 3) l1 hi hL (by decide), l1.2.2.1.1, ca_mw l1 (m_search1 l1.2.2.1 J12.1 J12.2.1 c (t_end l1 (u1_s _ _ _) (fun e => absurd e (by decide)) (b_L_law_1427 (H_t hl hJ H))))⟩
    dsimp only [cI]
    rw [va (k := 1) l1 hi hL (by decide), va (k := 2) l1 hi hL (by decide)]
    refine ⟨rd (k := 1) l1 hi hL (by decide), rd (k := 2) l1 hi hL (by decide), fun c2 => by have e := hb.1 c2; subst e; exact go, fun c2 => by have e := hb.2 c2; subst e; exact go⟩
  · have l' := lw_g hl hX hg
    refine ⟨o_out l', fun σ2 e2 => ?_⟩
    subst e2
    have l2 : lw (wL σ' (X + 41) (0 : Int32).toNatClampNeg (nI v).toInt64) b L xs X s m := lw_L l'
    have go : wp J_L_law 1388 [vr b, vr X, vr (X + 17), vr (X + 41), vi (nI i), vi 0, l6] [vi bx, vi (xs (i + 1)), vr (X + 17)] (wL σ' (X + 41) (0 : Int32).toNatClampNeg (nI v).toInt64) Q := by
      refine b_L_law_1388 ?_
      rw [i_3, va (k := 3) l2 hi hL (by decide), hx]
      refine ⟨rd (k := 3) l2 hi hL (by decide), l2.2.2.1.1, ca_mw l2 (m_search0 l2.2.2.1 J12.1 J12.2.1 hj (hr j hj).1 (hr j hj).2 (fun k _ => rfl) hix hix1 hix2 (fun v' hv' => ?_))⟩
      have e := hv.trans hv'.symm
      subst e
      exact t_end l2 (u1_s _ _ _) (fun _ => o_L) (b_L_law_1427 (H_o hl hX hg hJ' H s3_0 m3_0))
    dsimp only [cI]
    rw [va (k := 1) l2 hi hL (by decide), va (k := 2) l2 hi hL (by decide)]
    refine ⟨rd (k := 1) l2 hi hL (by decide), rd (k := 2) l2 hi hL (by decide), fun c2 => by have e := hb.1 c2; subst e; exact go, fun c2 => by have e := hb.2 c2; subst e; exact go⟩
theorem l_search (hl : lw σ b L xs X s m) (hJ : CJ σ X s m N z T y) (hi : i + 4 ≤ L) (hL : L ≤ 2048) (H : lH b L xs X i σ Q) {l5 l6 : iV} : wp J_L_law 1334 [vr b, vr X, vr (X + 17), vr (X + 41), vi (nI i), l5, l6] [] σ Q := by
  refine b_L_law_1334 ?_
  rw [i_1, i_2, va (k := 1) hl hi hL (by decide), va (k := 2) hl hi hL (by decide)]
  exact ⟨rd (k := 1) hl hi hL (by decide), rd (k := 2) hl hi hL (by decide), fun c => l_search2 hl hJ hi hL H ⟨fun _ => rfl, fun q => absurd c q⟩, fun c => l_search2 hl hJ hi hL H ⟨fun q => absurd q c, fun _ => rfl⟩⟩
theorem l_sort2 (hl : lw σ b L xs X s m) (hJ : CJ σ X s m N z T y) (hi : i + 4 ≤ L) (hL : L ≤ 2048) (H : lH b L xs X i σ Q) {l5 l6 : iV} {bx : Int32} (hb : (xs (i + 2) = 0 → bx = 0) ∧ (xs (i + 2) ≠ 0 → bx = 1)) : wp J_L_law 1451 [vr b, vr X, vr (X + 17), vr (X + 41), vi (nI i), l5, l6] [vi bx, vi (xs (i + 1)), vr X] σ Q := by
  have hX := hJ.1.1.2
  have J2 := hJ.2.1
  have J12 := hJ.2.2.2.2.2.2.2.2.2.2.2.1
  have hZ := mZ_of J2
  have hr : ∀ j, j < T → m 22 j = nI (y j) ∧ y j ≤ 60 := fun j hj => ⟨(J12.2.2.2.1 j hj).2.2.2.2.2.1, (J12.2.2.2.1 j hj).2.2.2.2.2.2.2⟩
  refine b_L_law_1451 ?_
  rw [i_1, i_2]
  refine b_L_sort_0 ⟨sh_k0 hJ.1, x_sort hJ (fun c => ⟨fun _ => ?_, rfl⟩) (fun j hj hx f f1 f2 σ' hg hC => ?_)⟩
  · have l1 : lw (nO σ 201 6) b L xs X s m := lw_g hl hX (gd_x hX)
    refine b_L_sort_9 ?_
    have go : wp J_L_law 1477 [vr b, vr X, vr (X + 17), vr (X + 41), vi (nI i), vi 1, l6] [vi bx, vi (xs (i + 1)), vr (X + 17)] (nO σ 201 6) Q := by
      refine b_L_law_1477 ?_
      exact ⟨l1.2.2.1.1, ca_mw l1 (m_sort1 l1.2.2.1 J12.1 J12.2.1 c (t_endV l1 (u1_s _ _ _) (H_t hl hJ H)))⟩
    dsimp only [cI]
    rw [va (k := 1) l1 hi hL (by decide), va (k := 2) l1 hi hL (by decide)]
    refine ⟨rd (k := 1) l1 hi hL (by decide), rd (k := 2) l1 hi hL (by decide), fun c2 => by have e := hb.1 c2; subst e; exact go, fun c2 => by have e := hb.2 c2; subst e; exact go⟩
  · have l' := lw_g hl hX hg
    have go : wp J_L_law 1477 [vr b, vr X, vr (X + 17), vr (X + 41), vi (nI i), vi 0, l6] [vi bx, vi (xs (i + 1)), vr (X + 17)] σ' Q := by
      refine b_L_law_1477 ?_
      rw [hx]
      exact ⟨l'.2.2.1.1, ca_mw l' (m_sort0 l'.2.2.1 J12.1 J12.2.1 hj (hr j hj).1 (J12.2.2.2.1 j hj).2.2.2.2.2.2.1 (hr j hj).2 (fun f' g1 g2 => t_endV l' (u1_s _ _ _) (H_v hl hX hg (hC f' (fun k hk => srt_u (y j) g1 f1 (fun v => (g2 v).trans (f2 v).symm) k hk)) H s3_0 m3_0)))⟩
    dsimp only [hV, cI]
    rw [va (k := 1) l' hi hL (by decide), va (k := 2) l' hi hL (by decide)]
    refine ⟨rd (k := 1) l' hi hL (by decide), rd (k := 2) l' hi hL (by decide), fun c2 => by have e := hb.1 c2; subst e; exact go, fun c2 => by have e := hb.2 c2; subst e; exact go⟩
theorem l_sort (hl : lw σ b L xs X s m) (hJ : CJ σ X s m N z T y) (hi : i + 4 ≤ L) (hL : L ≤ 2048) (H : lH b L xs X i σ Q) {l5 l6 : iV} : wp J_L_law 1430 [vr b, vr X, vr (X + 17), vr (X + 41), vi (nI i), l5, l6] [] σ Q := by
  refine b_L_law_1430 ?_
  rw [i_1, i_2, va (k := 1) hl hi hL (by decide), va (k := 2) hl hi hL (by decide)]
  exact ⟨rd (k := 1) hl hi hL (by decide), rd (k := 2) hl hi hL (by decide), fun c => l_sort2 hl hJ hi hL H ⟨fun _ => rfl, fun q => absurd c q⟩, fun c => l_sort2 hl hJ hi hL H ⟨fun q => absurd q c, fun _ => rfl⟩⟩
end LW2
