/-! LAYER 2: inspect of the class. -/
section IG
variable {σ σ' : iS} {X : Nat} {Q : iO → iS → Prop} {t n : Nat} {f : Nat → Int32} {B : Nat → phD} {P : Nat} {rep : Bool}
theorem i_note {a : Nat} {x : Int32} {w : Int32} (k4 : sK σ' a = 4) (i3 : sI σ' 133 a = w) (h : Q (.inl none) (wI (wI σ' 136 a (x + w)) 137 a 1)) : ca J_Phrase_noteMatch [vr a, vi x] σ' Q := by
  refine b_Phrase_noteMatch_0 ⟨k4, k4, ?_⟩
  rw [i3]
  intro σ1 e1
  refine ⟨⟨by rw [e1, pI_K]; exact k4, Or.inr rfl⟩, fun σ2 e2 => ?_⟩
  rw [e2, e1]
  exact h
theorem i_goL (hs : sh σ X) (hP : sI σ 161 (X + 2) = nI P) (hP2 : P ≤ 20) (hC : ∀ p, p < P → phC σ X (sB σ (X + 3) p) (B p) n f) (hi : ∀ p p', p < P → p' < P → sB σ (X + 3) p = sB σ (X + 3) p' → p = p') (ht : tY σ X t n f) (R : Nat × (Nat → Int32) × (Nat → Int32))
    (h : ∀ σ'', st0 σ σ'' X → sA σ'' (X + 4) = R.2.1 → sA σ'' (X + 5) = R.2.2 → (∀ p, p < P → rpD (B p) ≠ rep → sI σ'' 137 (sB σ (X + 3) p) = sI σ 137 (sB σ (X + 3) p)) → Q (.inl (some (vi (nI R.1)))) σ'') :
    ∀ d a nx ld dn cs ln ac, a + d = n → nx ≤ 120 → (∀ p, p < P → ld p ≤ 120) → ps B P f rep d a nx ld dn cs ln ac = R → ∀ σ', st0 σ σ' X → phF σ σ' X B P rep ld dn → sA σ' (X + 4) = cs → sA σ' (X + 5) = ln → ∀ l6 : iV, wp J_Inspection_goOver 34 [vr (X + 2), vr t, vi (bI rep), vi (nI ac), vi (nI nx), vi (nI a), l6] [] σ' Q := by
  have hn := ht.1.2.2.2.1
  intro d
  induction d with
  | zero =>
    intro a nx ld dn cs ln ac ha hnx hld hR σ' hq hF h4 h5 l6
    have tt := tY_s ht hq
    subst hR
    refine b_Inspection_goOver_34 ⟨tt.1, t_size tt ?_⟩
    dsimp only [cI]
    rw [n_le (by omega) (by omega)]
    exact ⟨fun _ => h σ' hq h4 h5 (fun p hp hr => (hF p hp).2.2.2 hr), fun c => by omega⟩
  | succ d ih =>
    intro a nx ld dn cs ln ac ha hnx hld hR σ' hq hF h4 h5 l6
    have tt := tY_s ht hq
    have k2 : sK σ' (X + 2) = 5 := by rw [hq.1.2.2.1]; exact sh_k2 hs
    have skip : ps B P f rep d (a + 1) nx ld dn cs ln ac = R → wp J_Inspection_goOver 62 [vr (X + 2), vr t, vi (bI rep), vi (nI ac), vi (nI nx), vi (nI a), l6] [vr 0] σ' Q := fun e => by
      refine b_Inspection_goOver_62 ⟨fun _ => b_Inspection_goOver_97 ?_, fun c => absurd rfl c⟩
      rw [n_s1]
      exact ih (a + 1) nx ld dn cs ln ac (by omega) hnx hld e σ' hq hF h4 h5 _
    refine b_Inspection_goOver_34 ⟨tt.1, t_size tt ?_⟩
    dsimp only [cI]
    rw [n_le (by omega) (by omega), n_le (by omega) (by omega)]
    refine ⟨fun c => by omega, fun _ => ⟨fun c => ⟨k2, i_first hs hP hP2 hC ht hq hF (by omega) hld (fun e => ?_) (fun p hp e w => ?_)⟩, fun c => ?_⟩⟩
    · exact skip (by rw [← hR, ps_n (by omega) e])
    · have C := hC p hp
      have hab : ¬ fo X (sB σ (X + 3) p) := fo_n (by have := C.1.1; omega)
      have hwn : a + wD (B p) ≤ n := by
        obtain ⟨-, -, -, -, -, -, -, o2, n2, g2, -, h16⟩ := C
        have := w.2.2.1
        have := re_le f n o2 g2 n2
        omega
      have k4 : sK σ' (sB σ (X + 3) p) = 4 := by rw [hq.1.2.2.1]; exact C.1.2.1
      have i3 : sI σ' 133 (sB σ (X + 3) p) = nI (wD (B p)) := by rw [hq.2.1 _ _ (by decide)]; exact C.1.2.2.2.2.1
      have hR' := hR
      rw [ps_m (by omega) e (by omega)] at hR'
      refine b_Inspection_goOver_62 ⟨fun c => absurd c (by have := C.1.1; omega), fun _ => ⟨k4, i_note k4 i3 ?_⟩⟩
      rw [nI_add]
      have q1 : st0 σ' (wI σ' 136 (sB σ (X + 3) p) (nI (a + wD (B p)))) X := st0_I (by decide) hab
      have q2 : st0 σ (wI (wI σ' 136 (sB σ (X + 3) p) (nI (a + wD (B p)))) 137 (sB σ (X + 3) p) 1) X := st0_t hq (st0_t q1 (st0_I (by decide) hab))
      have A4 : sA (wI (wI σ' 136 (sB σ (X + 3) p) (nI (a + wD (B p)))) 137 (sB σ (X + 3) p) 1) = sA σ' := by rw [pI_A, pI_A]
      have F2 : phF σ (wI (wI σ' 136 (sB σ (X + 3) p) (nI (a + wD (B p)))) 137 (sB σ (X + 3) p) 1) X B P rep (u1 ld p (a + wD (B p))) (u1 dn p true) := by
        intro p' hp'
        obtain ⟨f1, f2, f3, f4⟩ := hF p' hp'
        rw [wI_o (by decide), wI_o (by decide), wI_o (by decide), wI_o (by decide), wI_o (show (136 : Nat) ≠ 137 by decide)]
        by_cases ep : p' = p
        · subst ep
          rw [u1_s, u1_s, wI_s, wI_s]
          exact ⟨f1, f2, fun _ => ⟨rfl, rfl⟩, fun e => absurd w.1 e⟩
        · have hne : sB σ (X + 3) p' ≠ sB σ (X + 3) p := fun e => ep (hi p' p hp' hp e)
          rw [u1_o ep, u1_o ep, wI_k hne, wI_k hne, wI_o (by decide)]
          exact ⟨f1, f2, f3, f4⟩
      have ld2 : ∀ p', p' < P → u1 ld p (a + wD (B p)) p' ≤ 120 := fun p' hp' => by
        unfold u1
        split
        · omega
        · exact hld p' hp'
      revert q2 A4 F2
      generalize wI (wI σ' 136 (sB σ (X + 3) p) (nI (a + wD (B p)))) 137 (sB σ (X + 3) p) 1 = σ2
      intro q2 A4 F2
      have k22 : sK σ2 (X + 2) = 5 := by rw [q2.1.2.2.1]; exact sh_k2 hs
      refine ⟨k22, ?_⟩
      have fin : ∀ σ3, st0 σ2 σ3 X → (∀ g b, sI σ3 g b = sI σ2 g b) → sA σ3 (X + 4) = (if rep then cs else u1 cs (tqD (B p)) (cs (tqD (B p)) + 1)) → sA σ3 (X + 5) = (if rep then pt ln a (wD (B p)) (ppD (B p)) else ln) → sK σ3 (sB σ (X + 3) p) = 4 ∧ wp J_Inspection_goOver 97 [vr (X + 2), vr t, vi (bI rep), vi (nI ac + (1 : Int32)), vi (nI a + sI σ3 133 (sB σ (X + 3) p)), vi (nI a), vr (sB σ (X + 3) p)] [] σ3 Q := by
        intro σ3 q3 hI a4 a5
        have q4 := st0_t q2 q3
        refine ⟨by rw [q4.1.2.2.1]; exact C.1.2.1, ?_⟩
        rw [q4.2.1 133 _ (by decide), C.1.2.2.2.2.1, nI_add, n_s1]
        refine b_Inspection_goOver_97 ?_
        rw [n_s1]
        refine ih (a + 1) (a + wD (B p)) _ _ _ _ (ac + 1) (by omega) (by omega) ld2 hR' σ3 q4 (fun p' hp' => ?_) a4 a5 _
        rw [hI, hI, hI, hI]
        exact F2 p' hp'
      rcases Bool.eq_false_or_eq_true rep with er | er
      · refine i_act1 hs C q2 (by rw [w.1, er]) (by omega) (fin (wV σ2 (X + 5) (pt (sA σ2 (X + 5)) a (wD (B p)) (ppD (B p)))) (st0_V (Or.inr rfl)) (fun _ _ => rfl) ?_ ?_)
        · rw [wV_fo (by omega), A4, h4, if_pos er]
        · rw [wV_f, A4, h5, if_pos er]
      · refine i_act0 hs C q2 (by rw [w.1, er]) (fin (wA σ2 (X + 4) (tqD (B p)) (sA σ2 (X + 4) (tqD (B p)) + 1)) (st0_A (Or.inl rfl)) (fun _ _ => rfl) ?_ ?_)
        · rw [wA_f, A4, h4, if_neg (by rw [er]; decide)]
        · rw [wA_fo (by omega), A4, h5, if_neg (by rw [er]; decide)]
    · exact skip (by rw [← hR, ps_s (by omega)])
theorem i_go (hs : sh σ X) (hP : sI σ 161 (X + 2) = nI P) (hP2 : P ≤ 20) (hC : ∀ p, p < P → phC σ X (sB σ (X + 3) p) (B p) n f) (hi : ∀ p p', p < P → p' < P → sB σ (X + 3) p = sB σ (X + 3) p' → p = p') (ht : tY σ X t n f) (h137 : ∀ p, p < P → rpD (B p) = rep → sI σ 137 (sB σ (X + 3) p) = 0) (R : Nat × (Nat → Int32) × (Nat → Int32)) (hR : ps B P f rep n 0 0 (fun p => beD (B p)) (fun _ => false) (sA σ (X + 4)) (sA σ (X + 5)) 0 = R)
    (h : ∀ σ'', st0 σ σ'' X → sA σ'' (X + 4) = R.2.1 → sA σ'' (X + 5) = R.2.2 → (∀ p, p < P → rpD (B p) ≠ rep → sI σ'' 137 (sB σ (X + 3) p) = sI σ 137 (sB σ (X + 3) p)) → Q (.inl (some (vi (nI R.1)))) σ'') : ca J_Inspection_goOver [vr (X + 2), vr t, vi (bI rep)] σ Q := by
  have hn := ht.1.2.2.2.1
  have L : ∀ d k, k + d = P → ∀ σ', st0 σ σ' X → (∀ p, p < k → sI σ' 134 (sB σ (X + 3) p) = nI (beD (B p)) ∧ sI σ' 135 (sB σ (X + 3) p) = nI (enD (B p)) ∧ sI σ' 136 (sB σ (X + 3) p) = nI (beD (B p))) → (∀ p, p < P → sI σ' 137 (sB σ (X + 3) p) = sI σ 137 (sB σ (X + 3) p)) → sA σ' = sA σ → ∀ l4 l5 l6 : iV, wp J_Inspection_goOver 2 [vr (X + 2), vr t, vi (bI rep), vi (nI k), l4, l5, l6] [] σ' Q := by
    intro d
    induction d with
    | zero =>
      intro k hk σ' hq h3 h7 hA l4 l5 l6
      have k2 : sK σ' (X + 2) = 5 := by rw [hq.1.2.2.1]; exact sh_k2 hs
      refine b_Inspection_goOver_2 ⟨k2, ?_⟩
      rw [hq.2.1 161 _ (by decide), hP, n_le (by omega) (by omega)]
      refine ⟨fun _ => ?_, fun c => by omega⟩
      refine i_goL hs hP hP2 hC hi ht R h n 0 0 (fun p => beD (B p)) (fun _ => false) (sA σ (X + 4)) (sA σ (X + 5)) 0 (by omega) (by omega) (fun p hp => ?_) hR σ' hq (fun p hp => ?_) (by rw [hA]) (by rw [hA]) _
      · obtain ⟨-, -, -, -, -, -, ⟨o1, n1, g1, -, h14⟩, -⟩ := hC p hp
        have := rb_le f n o1 g1 n1
        omega
      · obtain ⟨y1, y2, y3⟩ := h3 p (by omega)
        exact ⟨y1, y2, fun e => ⟨y3, by rw [h7 p hp, h137 p hp e]; rfl⟩, fun _ => h7 p hp⟩
    | succ d ih =>
      intro k hk σ' hq h3 h7 hA l4 l5 l6
      have k2 : sK σ' (X + 2) = 5 := by rw [hq.1.2.2.1]; exact sh_k2 hs
      have C := hC k (by omega)
      have hab : ¬ fo X (sB σ (X + 3) k) := fo_n (by have := C.1.1; omega)
      refine b_Inspection_goOver_2 ⟨k2, ?_⟩
      rw [hq.2.1 161 _ (by decide), hP, n_le (by omega) (by omega), hq.1.1, e_160 hs, hq.1.2.1, hq.1.2.2.1, sh_k3 hs, hq.1.2.2.2.1, sh_n3 hs, nI_clamp (by omega)]
      refine ⟨fun c => by omega, fun _ => ⟨sh_k2 hs, ⟨⟨by decide, by decide⟩, n_in (by omega) (by decide)⟩, C.1.2.1, i_start C ht hq ?_⟩⟩
      dsimp only [cV]
      rw [n_s1]
      have q1 : st0 σ' (wI σ' 134 (sB σ (X + 3) k) (nI (beD (B k)))) X := st0_I (by decide) hab
      have q2 : st0 σ' (wI (wI σ' 134 (sB σ (X + 3) k) (nI (beD (B k)))) 135 (sB σ (X + 3) k) (nI (enD (B k)))) X := st0_t q1 (st0_I (by decide) hab)
      have q3 : st0 σ' (wI (wI (wI σ' 134 (sB σ (X + 3) k) (nI (beD (B k)))) 135 (sB σ (X + 3) k) (nI (enD (B k)))) 136 (sB σ (X + 3) k) (nI (beD (B k)))) X := st0_t q2 (st0_I (by decide) hab)
      refine ih (k + 1) (by omega) _ (st0_t hq q3) (fun p hp => ?_) (fun p hp => ?_) (by rw [pI_A, pI_A, pI_A]; exact hA) _ _ _
      · by_cases ep : p = k
        · subst ep
          refine ⟨?_, ?_, ?_⟩
          · rw [wI_o (by decide), wI_o (by decide), wI_s]
          · rw [wI_o (by decide), wI_s]
          · rw [wI_s]
        · have hne : sB σ (X + 3) p ≠ sB σ (X + 3) k := fun e => ep (hi p k (by omega) (by omega) e)
          obtain ⟨y1, y2, y3⟩ := h3 p (by omega)
          refine ⟨?_, ?_, ?_⟩
          · rw [wI_o (by decide), wI_o (by decide), wI_k hne]; exact y1
          · rw [wI_o (by decide), wI_k hne, wI_o (by decide)]; exact y2
          · rw [wI_k hne, wI_o (by decide), wI_o (by decide)]; exact y3
      · rw [wI_o (by decide), wI_o (by decide), wI_o (by decide)]; exact h7 p hp
  exact b_Inspection_goOver_0 (L P 0 (by omega) σ st0_0 (fun p hp => by omega) (fun p hp => rfl) rfl _ _ _)
theorem tY_y {a : Nat} (h : tY σ X a n f) (hq : st0 σ σ' X) : tY σ' X a n f := ⟨tY_s h hq, by rw [hq.1.1]; exact h.2⟩
theorem tOY_y {b : Nat} {o : Bool} (h : tOY σ X b o n f) (hq : st0 σ σ' X) : tOY σ' X b o n f := ⟨h.1, fun e => ⟨(h.2 e).1, tY_y (h.2 e).2 hq⟩⟩
theorem phC_y {a : Nat} {q : phD} (h : phC σ X a q n f) (hq : st0 σ σ' X) : phC σ' X a q n f := by
  obtain ⟨⟨h1, h2, h3, h4, h5, h6, h7⟩, h8, h9, h10, h11, h12, ⟨o1, n1, g1, h13, h14⟩, o2, n2, g2, h15, h16⟩ := h
  unfold phC
  rw [hq.1.1, hq.1.2.2.1, hq.2.1 128 _ (by decide), hq.2.1 133 _ (by decide), hq.2.1 130 _ (by decide)]
  exact ⟨⟨h1, h2, h3, h4, h5, h6, h7⟩, h8, fun e => ⟨(h9 e).1, tY_y (h9 e).2 hq⟩, h10, fun e => ⟨(h11 e).1, tY_y (h11 e).2 hq⟩, h12, ⟨o1, n1, g1, tOY_y h13 hq, h14⟩, o2, n2, g2, tOY_y h15 hq, h16⟩
theorem sh_y (h : sh σ X) (hq : st0 σ σ' X) : sh σ' X := by
  unfold sh
  rw [hq.1.1, hq.1.2.2.1, hq.1.2.2.2.1, hq.1.2.2.2.2.1]
  exact h
/-- two passes that begin alike end alike -/
theorem ps_c (htq : ∀ p, p < P → rpD (B p) = false → tqD (B p) < 10) : ∀ d a nx ld dn cs cs' hs hs' ac, (∀ k, k < 10 → cs k = cs' k) → (∀ k, k < n → hs k = hs' k) → (ps B P f rep d a nx ld dn cs hs ac).1 = (ps B P f rep d a nx ld dn cs' hs' ac).1 ∧ (∀ k, k < 10 → (ps B P f rep d a nx ld dn cs hs ac).2.1 k = (ps B P f rep d a nx ld dn cs' hs' ac).2.1 k) ∧ ∀ k, k < n → (ps B P f rep d a nx ld dn cs hs ac).2.2 k = (ps B P f rep d a nx ld dn cs' hs' ac).2.2 k
  | 0, a, nx, ld, dn, cs, cs', hs, hs', ac, h1, h2 => ⟨rfl, h1, h2⟩
  | d + 1, a, nx, ld, dn, cs, cs', hs, hs', ac, h1, h2 => by
    by_cases c : a < nx
    · rw [ps_s c, ps_s c]
      exact ps_c htq d (a + 1) nx ld dn cs cs' hs hs' ac h1 h2
    · by_cases c2 : lf (mtP B f rep ld dn a) P 0 = P
      · rw [ps_n c c2, ps_n c c2]
        exact ps_c htq d (a + 1) nx ld dn cs cs' hs hs' ac h1 h2
      · rw [ps_m c rfl c2, ps_m c rfl c2]
        have hl := lf_le (mtP B f rep ld dn a) P 0
        have hm := lf_at (mtP B f rep ld dn a) P 0 (by omega)
        refine ps_c htq d (a + 1) _ _ _ _ _ _ _ (ac + 1) (fun k hk => ?_) (fun k hk => ?_)
        · rcases Bool.eq_false_or_eq_true rep with er | er
          · rw [if_pos er, if_pos er]; exact h1 k hk
          · rw [if_neg (by rw [er]; decide), if_neg (by rw [er]; decide)]
            have hq := htq _ (show lf (mtP B f rep ld dn a) P 0 < P by omega) (by rw [hm.1, er])
            unfold u1
            by_cases e : k = tqD (B (lf (mtP B f rep ld dn a) P 0))
            · rw [if_pos e, if_pos e, h1 _ hq]
            · rw [if_neg e, if_neg e]; exact h1 k hk
        · rcases Bool.eq_false_or_eq_true rep with er | er
          · rw [if_pos er, if_pos er]
            unfold pt
            split
            · rfl
            · exact h2 k hk
          · rw [if_neg (by rw [er]; decide), if_neg (by rw [er]; decide)]; exact h2 k hk
theorem i_through (hs : sh σ X) (hP : sI σ 161 (X + 2) = nI P) (hP2 : P ≤ 20) (hC : ∀ p, p < P → phC σ X (sB σ (X + 3) p) (B p) n f) (hi : ∀ p p', p < P → p' < P → sB σ (X + 3) p = sB σ (X + 3) p' → p = p') (ht : tY σ X t n f) (h137 : ∀ p, p < P → sI σ 137 (sB σ (X + 3) p) = 0) {cs : Nat → Int32} (hcs : ∀ k, k < 10 → sA σ (X + 4) k = cs k)
    (h : ∀ σ2 g, st0 σ σ2 X → (∀ k, k < 10 → sA σ2 (X + 4) k = inC B P f n cs k) → (∀ k, k < n → g k = (inR B P f n cs).2.2 k) → Q (.inl (some (vi (nI (inR B P f n cs).1)))) (wI (wV σ2 (sR σ 64 t) g) 161 (X + 2) 0)) : ca J_Inspection_goThrough [vr (X + 2), vr t] σ Q := by
  have hn := ht.1.2.2.2.1
  have hto : sR σ 64 t ≠ X + 5 := by have := ht.2; omega
  have htq : ∀ p, p < P → rpD (B p) = false → tqD (B p) < 10 := fun p hp e => ((hC p hp).2.2.2.1 e).2.2
  refine b_Inspection_goThrough_0 ⟨sh_k2 hs, ht.1.1, ?_⟩
  rw [e_163 hs]
  refine t_copy ht.1 (sh_k5 hs) (sh_n5 hs) hto ?_
  have q0 : st0 σ (wV σ (X + 5) (fun k => if k < n then f k else sA σ (X + 5) k)) X := st0_V (Or.inr rfl)
  have A4 : sA (wV σ (X + 5) (fun k => if k < n then f k else sA σ (X + 5) k)) (X + 4) = sA σ (X + 4) := wV_fo (by omega)
  have A5 : sA (wV σ (X + 5) (fun k => if k < n then f k else sA σ (X + 5) k)) (X + 5) = fun k => if k < n then f k else sA σ (X + 5) k := wV_f
  have I0 : ∀ g b, sI (wV σ (X + 5) (fun k => if k < n then f k else sA σ (X + 5) k)) g b = sI σ g b := fun g b => by rw [pV_I]
  revert q0 A4 A5 I0
  generalize wV σ (X + 5) (fun k => if k < n then f k else sA σ (X + 5) k) = σ0
  intro q0 A4 A5 I0
  have e3 : ∀ {σ1 : iS}, st0 σ σ1 X → sB σ1 (X + 3) = sB σ (X + 3) := fun q => by rw [q.1.2.1]
  refine ⟨sh_k2 (sh_y hs q0), i_go (rep := false) (B := B) (P := P) (n := n) (f := f) (sh_y hs q0) (by rw [I0]; exact hP) hP2 (fun p hp => ?_) (fun p p' h1 h2 => ?_) (tY_y ht q0) (fun p hp _ => ?_) _ rfl (fun σ1 q1 r4 r5 r7 => ?_)⟩
  · rw [e3 q0]; exact phC_y (hC p hp) q0
  · rw [e3 q0]; exact hi p p' h1 h2
  · rw [e3 q0, I0]; exact h137 p hp
  · have p1 := st0_t q0 q1
    rw [e3 q0] at r7
    have C1 := ps_c (f := f) (rep := false) (n := n) htq n 0 0 (fun p => beD (B p)) (fun _ => false) (sA σ0 (X + 4)) cs (sA σ0 (X + 5)) f 0 (fun k hk => by rw [A4]; exact hcs k hk) (fun k hk => by rw [A5]; exact if_pos hk)
    rw [ps_f] at r5
    refine ⟨sh_k2 (sh_y hs p1), i_go (rep := true) (B := B) (P := P) (n := n) (f := f) (sh_y hs p1) (by rw [p1.2.1 161 _ (by decide)]; exact hP) hP2 (fun p hp => ?_) (fun p p' h1 h2 => ?_) (tY_y ht p1) (fun p hp er => ?_) _ rfl (fun σ2 q2 s4 s5 s7 => ?_)⟩
    · rw [e3 p1]; exact phC_y (hC p hp) p1
    · rw [e3 p1]; exact hi p p' h1 h2
    · rw [e3 p1, r7 p hp (by rw [er]; decide), I0]; exact h137 p hp
    · have p2 := st0_t p1 q2
      have C2 := ps_c (f := f) (rep := true) (n := n) htq n 0 0 (fun p => beD (B p)) (fun _ => false) (sA σ1 (X + 4)) (inC B P f n cs) (sA σ1 (X + 5)) f 0 (fun k hk => by rw [r4]; exact C1.2.1 k hk) (fun k hk => by rw [r5, A5]; exact if_pos hk)
      have tt := tY_s ht p2
      refine ⟨sh_k2 (sh_y hs p2), tt.1, t_size tt ⟨tt.1, ?_⟩⟩
      rw [p2.1.1, e_163 hs]
      refine t_fill (q := 0) (L := n) tt (sh_k5 (sh_y hs p2)) (sh_n5 (sh_y hs p2)) (by rw [p2.1.1]; exact hto) (by omega) ?_
      have k22 : sK σ2 (X + 2) = 5 := sh_k2 (sh_y hs p2)
      refine ⟨k22, fun σ6 e6 => ?_⟩
      rw [e6, p2.1.1, C2.1]
      refine h σ2 _ p2 (fun k hk => ?_) (fun k hk => ?_)
      · rw [s4, ps_t, r4]; exact C1.2.1 k hk
      · rw [if_pos hk, if_pos hk, Nat.zero_add, s5]
        exact C2.2.2 k hk
end IG
