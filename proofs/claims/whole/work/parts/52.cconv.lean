/-! LAYER 2: convert of the class. -/
section CX
variable {X : Nat} {σ : iS} {s : Nat → Int32} {m : Nat → Nat → Int32} {N T : Nat} {z y : Nat → Nat} {Q : iO → iS → Prop}
theorem tX_V {a b n : Nat} {f h : Nat → Int32} (ht : tX σ a n f) (hb : sR σ 64 a ≠ b) : tX (wV σ b h) a n f :=
  ⟨ht.1, ht.2.1, ht.2.2.1, ht.2.2.2.1, fun k hk => Eq.trans (wV_o (σ := σ) hb k) (ht.2.2.2.2 k hk)⟩
theorem tO_V {a b n : Nat} {o : Bool} {f h : Nat → Int32} (ht : tO σ a o n f) (hb : o = true → sR σ 64 a ≠ b) : tO (wV σ b h) a o n f :=
  ⟨ht.1, fun e => ⟨(ht.2 e).1, tX_V (ht.2 e).2 (hb e)⟩⟩
theorem cvt_c {f gf gt : Nat → Int32} {mf n : Nat} : ∀ d q hs hs' c, (∀ k, k < n → hs k = hs' k) → (cvt f gf gt mf d q hs c).1 = (cvt f gf gt mf d q hs' c).1 ∧ ∀ k, k < n → (cvt f gf gt mf d q hs c).2 k = (cvt f gf gt mf d q hs' c).2 k
  | 0, q, hs, hs', c, h => ⟨rfl, h⟩
  | d + 1, q, hs, hs', c, h => by
    unfold cvt
    split
    · exact cvt_c d (q + 1) hs hs' c h
    · refine cvt_c d (q + 1) _ _ (c + 1) (fun k hk => ?_)
      unfold u1
      split
      · rfl
      · exact h k hk
variable {t i j r n mf na nb : Nat} {f gf gt ga gb : Nat → Int32} {oa ob : Bool}
theorem i_exchL (hs : sh σ X) (ht : tX σ t n f) (hto : sR σ 64 t ≠ X + 5) (hi : tX σ i mf gf) (hio : sR σ 64 i ≠ X + 5) (hj : tX σ j mf gt) (hjo : sR σ 64 j ≠ X + 5) {e : Nat} (he : e ≤ n) {x5 : Int32} : ∀ d q ln c, d = e - q → q ≤ 60 → (∀ g, (∀ k, k < n → g k = (cvt f gf gt mf d q ln c).2 k) → Q (.inl (some (vi (nI (cvt f gf gt mf d q ln c).1)))) (wV (wV σ (X + 5) (cvt f gf gt mf d q ln c).2) (sR σ 64 t) g)) → ∀ l9 : iV, wp J_Inspection_exchange 29 [vr (X + 2), vr t, vr r, vr i, vr j, vi x5, vi (nI e), vi (nI c), vi (nI q), l9] [] (wV σ (X + 5) ln) Q := by
  have hn := ht.2.2.2.1
  have hm := hi.2.2.2.1
  have k2 : ∀ h, sK (wV σ (X + 5) h) (X + 2) = 5 := fun h => sh_k2 hs
  have e163 : ∀ h, sR (wV σ (X + 5) h) 163 (X + 2) = X + 5 := fun h => e_163 hs
  intro d
  induction d with
  | zero =>
    intro q ln c hd hq h l9
    have hT := tX_V (h := ln) ht hto
    refine b_Inspection_exchange_29 ⟨fun _ => ⟨k2 ln, hT.1, t_size hT ⟨hT.1, ?_⟩⟩, fun c => ?_⟩
    · rw [e163 ln]
      refine t_fill (q := 0) (L := n) hT (sh_k5 hs) (sh_n5 hs) hto (by omega) (h _ (fun k hk => ?_))
      rw [if_pos hk, if_pos hk, Nat.zero_add, wV_A]
      rfl
    · rw [n_le (by omega) (by omega)] at c
      omega
  | succ d ih =>
    intro q ln c hd hq h l9
    have hT := tX_V (h := ln) ht hto
    have hI := tX_V (h := ln) hi hio
    have hJ' := tX_V (h := ln) hj hjo
    refine b_Inspection_exchange_29 ⟨fun c => ?_, fun _ => ⟨hT.1, ⟨hT.2.1, ?_⟩, hI.1, ?_⟩⟩
    · rw [n_le (by omega) (by omega)] at c
      omega
    · rw [hT.2.2.1]; exact n_in (by omega) (by omega)
    · rw [nI_clamp (by omega), hT.2.2.2.2 q (by omega)]
      refine t_fps hI ?_
      unfold cvt at h
      by_cases el : lf (fun j => gf j = f q) mf 0 = mf
      · rw [el, en_N]
        rw [if_pos el] at h
        refine ⟨fun _ => b_Inspection_exchange_73 ?_, fun q => absurd rfl q⟩
        rw [n_s1]
        exact ih (q + 1) ln c (by omega) (by omega) h _
      · have hl := lf_le (fun j => gf j = f q) mf 0
        rw [en_r el]
        rw [if_neg el] at h
        refine ⟨fun e => absurd e (n_m1 (by omega)), fun _ => ⟨k2 ln, hJ'.1, ⟨hJ'.2.1, ?_⟩, ?_⟩⟩
        · rw [hJ'.2.2.1]; exact n_in (by omega) (by omega)
        · rw [e163 ln, nI_clamp (by omega), hJ'.2.2.2.2 _ (by omega), wV_w, n_s1]
          refine ⟨⟨sh_k5 hs, ?_⟩, fun σ6 e6 => b_Inspection_exchange_73 ?_⟩
          · rw [show sN (wV σ (X + 5) ln) (X + 5) = 60 from sh_n5 hs]
            exact n_in (by omega) (by decide)
          · subst e6
            rw [n_s1]
            exact ih (q + 1) _ (c + 1) (by omega) (by omega) h _
theorem i_exch (hs : sh σ X) (ht : tX σ t n f) (hto : sR σ 64 t ≠ X + 5) (hi : tX σ i mf gf) (hio : sR σ 64 i ≠ X + 5) (hj : tX σ j mf gt) (hjo : sR σ 64 j ≠ X + 5) (hr : sK σ r = 3) (ha : tO σ (sR σ 96 r) oa na ga) (hao : oa = true → sR σ 64 (sR σ 96 r) ≠ X + 5) (hb : tO σ (sR σ 97 r) ob nb gb) (hbo : ob = true → sR σ 64 (sR σ 97 r) ≠ X + 5)
    (h : ∀ ln g, (∀ k, k < n → g k = (cvt f gf gt mf (re f n ob gb nb - rb f n oa ga na) (rb f n oa ga na) f 0).2 k) → Q (.inl (some (vi (nI (cvt f gf gt mf (re f n ob gb nb - rb f n oa ga na) (rb f n oa ga na) f 0).1)))) (wV (wV σ (X + 5) ln) (sR σ 64 t) g)) : ca J_Inspection_exchange [vr (X + 2), vr t, vr r, vr i, vr j] σ Q := by
  have hn := ht.2.2.2.1
  refine b_Inspection_exchange_0 ⟨sh_k2 hs, ht.1, ?_⟩
  rw [e_163 hs]
  refine t_copy ht (sh_k5 hs) (sh_n5 hs) hto ⟨hr, g_begin hr (tX_V ht hto) (tO_V ha hao) ⟨hr, g_end hr (tX_V ht hto) (tO_V hb hbo) ?_⟩⟩
  have C := cvt_c (f := f) (gf := gf) (gt := gt) (mf := mf) (n := n) (re f n ob gb nb - rb f n oa ga na) (rb f n oa ga na) (fun k => if k < n then f k else sA σ (X + 5) k) f 0 (fun k hk => if_pos hk)
  refine i_exchL (e := re f n ob gb nb) hs ht hto hi hio hj hjo (re_le _ _ _ _ _) _ (rb f n oa ga na) _ 0 rfl (by have := rb_le f n oa ga na; omega) (fun g hg => ?_) _
  rw [C.1]
  exact h _ g (fun k hk => by rw [hg k hk]; exact C.2 k hk)
/-- a bound: none, or text j -/
theorem bd_e {a : Nat} {x : Int32} (h : bd σ X N z a x) : ∃ (o : Bool) (j : Nat), (o = false → a = 0 ∧ x = -1) ∧ (o = true → j < N ∧ a = sB σ (X + 1) j ∧ x = nI j) := by
  rcases h with h | ⟨j, h1, h2, h3, h4⟩
  · exact ⟨false, 0, fun _ => h, fun e => absurd e (by decide)⟩
  · exact ⟨true, j, fun e => absurd e (by decide), fun _ => ⟨h1, h3, h4⟩⟩
theorem tX_f {σ' : iS} {I : List Nat} {A B : Nat → Prop} {r : Bool} {a n : Nat} {f : Nat → Int32} (h : tX σ a n f) (q : fq X σ σ' I A B r) (ha : a < sX σ) (ha2 : sR σ 64 a < sX σ) (hf : ¬ fo X (sR σ 64 a)) (hA : ¬ A (sR σ 64 a)) : tX σ' a n f := by
  unfold tX
  rw [q.2.2.2.1 64 a ha (fun _ => by decide), (q.2.2.1 _ ha).1, (q.2.2.1 _ ha2).1, (q.2.2.1 _ ha2).2]
  exact ⟨h.1, h.2.1, h.2.2.1, h.2.2.2.1, fun k hk => by rw [q.2.2.2.2.2.1 _ _ ha2 hf hA]; exact h.2.2.2.2 k hk⟩
theorem rg_fp {τ : iS} {A B : Nat → Prop} {I : List Nat} (h : rgA σ τ X) (hX : X + 41 < sX σ) : fp X σ τ I A B true 1 2 := by
  obtain ⟨a1, ⟨a2, a3⟩, ⟨a4, a5⟩, a6, ⟨a7, a8⟩, ⟨a9, a10⟩, a11, a12, a13⟩ := h
  exact ⟨⟨hX, by omega, fun b hb => ⟨a9 b hb, by rw [a11]⟩, fun f b hb hr => a1 f b hb (hr rfl).1 (hr rfl).2, fun f b hb _ _ => a6 f b hb, fun b k _ _ _ => by rw [a7], fun b k _ _ => by rw [a8]⟩, by omega, by omega, fun f b hf => a6 f b (fo_x hX hf), fun b k _ => by rw [a7]⟩
theorem x_convert (hJ : CJ σ X s m N z T y) {x w v : Int32} (h1 : ¬ cvOk N z x w v → Q (.inr (1, sX σ)) (nO σ 201 6)) (h0 : ∀ t i j, t < N → x = nI t → i < N → w = nI i → j < N → v = nI j → z i = z j → ∀ (oa ob : Bool) (na nb : Nat) (ga gb : Nat → Int32), mO' m 1 (s 325) oa na ga → mO' m 1 (s 326) ob nb gb → ∀ σ', gd X σ σ' → CJ σ' X (u1 (u1 s 325 (-1)) 326 (-1)) (sgW m t (z t) (cvt (fun k => m 1 (60 * t + k)) (fun k => m 1 (60 * i + k)) (fun k => m 1 (60 * j + k)) (z i) (re (fun k => m 1 (60 * t + k)) (z t) ob gb nb - rb (fun k => m 1 (60 * t + k)) (z t) oa ga na) (rb (fun k => m 1 (60 * t + k)) (z t) oa ga na) (fun k => m 1 (60 * t + k)) 0).2) N z T y → Q (.inl (some (vi (nI (cvt (fun k => m 1 (60 * t + k)) (fun k => m 1 (60 * i + k)) (fun k => m 1 (60 * j + k)) (z i) (re (fun k => m 1 (60 * t + k)) (z t) ob gb nb - rb (fun k => m 1 (60 * t + k)) (z t) oa ga na) (rb (fun k => m 1 (60 * t + k)) (z t) oa ga na) (fun k => m 1 (60 * t + k)) 0).1)))) σ') : ca J_X_convert [vr X, vi x, vi w, vi v] σ Q := by
  obtain ⟨J1, J2, J3, J4, J5, J6, J7, J8, J9, J10, J11, J12, J13, J14⟩ := id hJ
  have hX := J1.1.2
  have hN := J2.2.1
  refine b_X_convert_0 ⟨sh_k0 J1, x_known J1 J2 (fun c => h1 (fun ⟨t, i, j, q1, q2, q3, q4⟩ => c ⟨t, q1⟩)) (fun t ht hx => ⟨sh_k0 J1, x_known J1 J2 (fun c => h1 (fun ⟨t, i, j, q1, q2, q3, q4⟩ => c ⟨i, q2⟩)) (fun i hi hw => ⟨sh_k0 J1, x_known J1 J2 (fun c => h1 (fun ⟨t, i, j, q1, q2, q3, q4⟩ => c ⟨j, q3⟩)) (fun j hj hv => ⟨(J2.2.2.2.1 i hi).2.1, tX_size J2 hi ⟨(J2.2.2.2.1 j hj).2.1, tX_size J2 hj ?_⟩⟩)⟩)⟩)⟩
  have zi := (J2.2.2.2.1 i hi).2.2.2.2.2.2
  have zj := (J2.2.2.2.1 j hj).2.2.2.2.2.2
  dsimp only [cI]
  rw [n_eq (by omega) (by omega), e_36 J1]
  refine ⟨fun ez => ⟨sh_k0 J1, sh_k0 J1, x_region (sh_k0 J1) (by omega) (fun τ hτ => ?_)⟩, fun ez => h1 (fun ⟨t', i', j', ⟨q1, q2⟩, ⟨q3, q4⟩, ⟨q5, q6⟩, q7⟩ => ?_)⟩
  · have q0 : fp X σ τ [] (fun a => a = X + 5 ∨ a = sB σ (X + 1) t + 1) (fun _ => False) true 1 2 := rg_fp hτ hX
    obtain ⟨a1, ⟨a2, a3⟩, ⟨a4, a5⟩, a6, ⟨a7, a8⟩, ⟨a9, a10⟩, a11, a12, a13⟩ := id hτ
    have H := sh_c J1 q0.1
    have tt : ∀ l, l < N → tX τ (sB σ (X + 1) l) (z l) (fun k => m 1 (60 * l + k)) ∧ sR τ 64 (sB σ (X + 1) l) = sB σ (X + 1) l + 1 ∧ X + 41 < sB σ (X + 1) l := fun l hl => by
      obtain ⟨⟨g1, g2⟩, g3, g4, g5, g6, g7, g8⟩ := J2.2.2.2.1 l hl
      have qf : fp X σ τ [] (fun _ => False) (fun _ => False) true 1 2 := rg_fp hτ hX
      refine ⟨tX_f (tX_of J2 J3 hl) qf.1 (by omega) (by rw [g4]; exact g2) (by rw [g4]; exact fo_n (by omega)) (fun e => e), ?_, g1⟩
      rw [a1 _ _ (by omega) (by decide) (by decide)]; exact g4
    obtain ⟨oa, la, o1, o2⟩ := bd_e J4.1
    obtain ⟨ob, lb, o3, o4⟩ := bd_e J4.2
    have ta : tO τ (sR τ 96 (sX σ)) oa (z la) (fun k => m 1 (60 * la + k)) := ⟨fun e => by rw [a4]; exact (o1 e).1, fun e => by
      obtain ⟨p1, p2, p3⟩ := o2 e
      rw [a4, p2]
      exact ⟨by have := (tt la p1).2.2; omega, (tt la p1).1⟩⟩
    have tb : tO τ (sR τ 97 (sX σ)) ob (z lb) (fun k => m 1 (60 * lb + k)) := ⟨fun e => by rw [a5]; exact (o3 e).1, fun e => by
      obtain ⟨p1, p2, p3⟩ := o4 e
      rw [a5, p2]
      exact ⟨by have := (tt lb p1).2.2; omega, (tt lb p1).1⟩⟩
    have ti := (tt i hi).1
    have tj := (tt j hj).1
    rw [← ez] at tj
    refine ⟨sh_k2 H, i_exch H (tt t ht).1 (by rw [(tt t ht).2.1]; have := (tt t ht).2.2; omega) ti (by rw [(tt i hi).2.1]; have := (tt i hi).2.2; omega) tj (by rw [(tt j hj).2.1]; have := (tt j hj).2.2; omega) a10 ta (fun e => ?_) tb (fun e => ?_) (fun ln g hg => ?_)⟩
    · obtain ⟨p1, p2, p3⟩ := o2 e
      rw [a4, p2, (tt la p1).2.1]
      have := (tt la p1).2.2
      omega
    · obtain ⟨p1, p2, p3⟩ := o4 e
      rw [a5, p2, (tt lb p1).2.1]
      have := (tt lb p1).2.2
      omega
    · rw [(tt t ht).2.1]
      have g1 := (tt t ht).2.2
      have q : fp X σ (wV (wV τ (X + 5) ln) (sB σ (X + 1) t + 1) g) [] (fun a => a = X + 5 ∨ a = sB σ (X + 1) t + 1) (fun _ => False) true 1 2 := fp_V (fp_V q0 (Or.inr ⟨Or.inl rfl, fo_m (by omega) (by omega)⟩)) (Or.inr ⟨Or.inr rfl, fo_n (by omega)⟩)
      refine h0 t i j ht hx hi hw hj hv ez oa ob (z la) (z lb) (fun k => m 1 (60 * la + k)) (fun k => m 1 (60 * lb + k)) ⟨fun e => (o1 e).2, fun e => ⟨la, (o2 e).2.2, mX_of J2 (o2 e).1⟩⟩ ⟨fun e => (o3 e).2, fun e => ⟨lb, (o4 e).2.2, mX_of J2 (o4 e).1⟩⟩ _ (gd_of q (by decide) (by decide)) ?_
      revert hg
      generalize (cvt (fun k => m 1 (60 * t + k)) (fun k => m 1 (60 * i + k)) (fun k => m 1 (60 * j + k)) (z i) (re (fun k => m 1 (60 * t + k)) (z t) ob (fun k => m 1 (60 * lb + k)) (z lb) - rb (fun k => m 1 (60 * t + k)) (z t) oa (fun k => m 1 (60 * la + k)) (z la)) (rb (fun k => m 1 (60 * t + k)) (z t) oa (fun k => m 1 (60 * la + k)) (z la)) (fun k => m 1 (60 * t + k)) 0) = cv
      intro hg
      have K : kx X σ (wV (wV τ (X + 5) ln) (sB σ (X + 1) t + 1) g) s (u1 (u1 s 325 (-1)) 326 (-1)) m (sgW m t (z t) cv.2) [] (fun a => a = X + 5 ∨ a = sB σ (X + 1) t + 1) (fun _ => False) true [325, 326] [1] := ⟨q.1, fun f hf => by rw [u1_o (fun e => hf (by rw [e]; decide)), u1_o (fun e => hf (by rw [e]; decide))], fun c hc k => sgW_o (fun e => hc (by rw [e]; decide)) k⟩
      have t2 := tm2_0 (N := N) (z := z) K (fun e => e)
      have S : cSg (wV (wV τ (X + 5) ln) (sB σ (X + 1) t + 1) g) X (sgW m t (z t) cv.2) N z := by
        refine sg_w (j := t) J3 (fun l => by rw [pV_B, pV_B, a8]) (fun k hk => ?_) (fun l hl hlt k hk => ⟨?_, if_neg (fun e => ?_)⟩)
        · rw [wV_A, sgW_i hk]; exact hg k hk
        · rw [wV_o (fun e => hlt (J2.2.2.2.2 l t hl ht (by omega))), wV_o (by have := (tt l hl).2.2; omega), a7]
        · have := (J2.2.2.2.1 l hl).2.2.2.2.2.2
          have := (J2.2.2.2.1 t ht).2.2.2.2.2.2
          omega
      have S2 : cSp (wV (wV τ (X + 5) ln) (sB σ (X + 1) t + 1) g) X (u1 (u1 s 325 (-1)) 326 (-1)) N z := by
        refine ⟨Or.inl ⟨by rw [pV_R, pV_R]; exact a2, ?_⟩, Or.inl ⟨by rw [pV_R, pV_R]; exact a3, ?_⟩⟩
        · rw [u1_o (by decide), u1_s]
        · rw [u1_s]
      exact ⟨sh_c J1 K.1, cTs_c J2 K (by decide) (fun e => e) (by decide) (by decide), S, S2, cPh_c J5 K t2 (by decide) (fun e => e) (by decide) (by decide), cCo_c J6 K (show ¬ (X + 4 = X + 5 ∨ X + 4 = sB σ (X + 1) t + 1) by omega) (by decide), cPa_c J7 K t2 (by decide) (fun e => e) (by decide) (by decide), cDe_c J8 K t2 (by decide) (show ¬ (X + 10 = X + 5 ∨ X + 10 = sB σ (X + 1) t + 1) by omega) (fun e => e) (by decide) (by decide), cRc_c (z := z) (z' := z) J9 K t2 (by decide) (fun e => e) (by decide) (by decide), cRs_c J10 K (by decide) ⟨(show ¬ (X + 13 = X + 5 ∨ X + 13 = sB σ (X + 1) t + 1) by omega), (show ¬ (X + 14 = X + 5 ∨ X + 14 = sB σ (X + 1) t + 1) by omega)⟩ (by decide), cPo_c J11 K (by decide) (by decide), cBs_c J12 K (by decide) (fun e => e) (by decide) (by decide), cIx_c J13 J12 K (by decide) (fun e => e) (by decide), cKy_c J14 J12 K (fun e => e) (fun i hi => by have d1 := (J12.2.2.2.1 i hi).1; have d2 := tb_ne J2 J12 ht hi; exact (show ¬ (sB σ (X + 16) i + 1 = X + 5 ∨ sB σ (X + 16) i + 1 = sB σ (X + 1) t + 1) by omega)) (by decide)⟩
  · rw [hw, n_eq (by omega) (by omega)] at q4
    rw [hv, n_eq (by omega) (by omega)] at q6
    subst q4
    subst q6
    exact ez q7
end CX
