/-! LAYER 2: split of the class: cutting. -/
/-- what the class's delimiter d says -/
def deS (σ : iS) (X d : Nat) (q : deD) : Prop := tY σ X (sB σ (X + 9) d) q.1 q.2.1 ∧ 1 ≤ q.1 ∧ sA σ (X + 10) d = bI q.2.2
/-- a piece is kept -/
def kpS (σ : iS) (X k : Nat) (b c g : Int32) : iS := wA (wA (wA σ (X + 12) k b) (X + 13) k c) (X + 14) k g
/-- what the cutting leaves alone -/
def sc (σ σ' : iS) (X : Nat) : Prop := (sR σ' = sR σ ∧ sB σ' = sB σ ∧ sK σ' = sK σ ∧ sN σ' = sN σ ∧ sX σ' = sX σ ∧ sS σ' = sS σ) ∧ (∀ f b, ¬ (b = X + 8 ∧ (f = 264 ∨ f = 265)) → sI σ' f b = sI σ f b) ∧ ∀ b k, ¬ (X + 12 ≤ b ∧ b ≤ X + 14) → sA σ' b k = sA σ b k
section SP1
variable {X : Nat} {σ σ' σ'' : iS} {Q : iO → iS → Prop} {tx n D : Nat} {f : Nat → Int32} {E : Nat → deD}
theorem sc_0 : sc σ σ X := ⟨⟨rfl, rfl, rfl, rfl, rfl, rfl⟩, fun _ _ _ => rfl, fun _ _ _ => rfl⟩
theorem sc_t (h : sc σ σ' X) (h' : sc σ' σ'' X) : sc σ σ'' X := by
  obtain ⟨⟨a1, a2, a3, a4, a5, a6⟩, a7, a9⟩ := h
  obtain ⟨⟨b1, b2, b3, b4, b5, b6⟩, b7, b9⟩ := h'
  exact ⟨⟨b1.trans a1, b2.trans a2, b3.trans a3, b4.trans a4, b5.trans a5, b6.trans a6⟩, fun f b h => (b7 f b h).trans (a7 f b h), fun b k h1 => (b9 b k h1).trans (a9 b k h1)⟩
theorem sc_I {g : Nat} {x : Int32} (hg : g = 264 ∨ g = 265) : sc σ (wI σ g (X + 8) x) X :=
  ⟨⟨rfl, rfl, rfl, rfl, rfl, rfl⟩, fun f b h => wI_n (fun e => h ⟨e.2, by rw [e.1]; exact hg⟩), fun _ _ _ => rfl⟩
theorem sc_K {k : Nat} {b c g : Int32} : sc σ (kpS σ X k b c g) X :=
  ⟨⟨rfl, rfl, rfl, rfl, rfl, rfl⟩, fun _ _ _ => rfl, fun a i h => by unfold kpS; rw [wA_o (by omega), wA_o (by omega), wA_o (by omega)]⟩
theorem tY_z {a m : Nat} {g : Nat → Int32} (h : tY σ X a m g) (hq : sc σ σ' X) : tY σ' X a m g := by
  unfold tY tX
  rw [hq.1.1, hq.1.2.2.1, hq.1.2.2.2.1]
  exact ⟨⟨h.1.1, h.1.2.1, h.1.2.2.1, h.1.2.2.2.1, fun k hk => by rw [hq.2.2 _ _ (by have := h.2; omega)]; exact h.1.2.2.2.2 k hk⟩, h.2⟩
theorem deS_z {d : Nat} {q : deD} (h : deS σ X d q) (hq : sc σ σ' X) : deS σ' X d q := by
  unfold deS
  rw [hq.1.2.1, hq.2.2 _ _ (by omega)]
  exact ⟨tY_z h.1 hq, h.2.1, h.2.2⟩
theorem sh_z (h : sh σ X) (hq : sc σ σ' X) : sh σ' X := by
  unfold sh
  rw [hq.1.1, hq.1.2.2.1, hq.1.2.2.2.1, hq.1.2.2.2.2.1]
  exact h
theorem s_at (hs : sh σ X) (hD : sI σ 258 (X + 8) = nI D) (hD2 : D ≤ 8) (hE : ∀ d, d < D → deS σ X d (E d)) (tt : tY σ X tx n f) {e : Nat} (he : e ≤ n) (h : Q (.inl (some (vi (en D (lf (hP f n E e) D 0))))) σ) : ca J_Splitting_delimiterAt [vr (X + 8), vr tx, vi (nI e)] σ Q := by
  have L : ∀ d k, k + d = D → lf (hP f n E e) D 0 = lf (hP f n E e) d k → wp J_Splitting_delimiterAt 2 [vr (X + 8), vr tx, vi (nI e), vi (nI k)] [] σ Q := by
    intro d
    induction d with
    | zero =>
      intro k hk hl
      refine b_Splitting_delimiterAt_2 ⟨sh_k8 hs, ?_⟩
      rw [hD, n_le (by omega) (by omega)]
      rw [hl, lf_0, show k = D by omega, en_N] at h
      exact ⟨fun _ => h, fun c => by omega⟩
    | succ d ih =>
      intro k hk hl
      have hd := hE k (by omega)
      refine b_Splitting_delimiterAt_2 ⟨sh_k8 hs, ?_⟩
      rw [hD, n_le (by omega) (by omega), e_256 hs, sh_k9 hs, sh_n9 hs, nI_clamp (by omega)]
      refine ⟨fun c => by omega, fun _ => ⟨sh_k8 hs, ⟨⟨by decide, by decide⟩, n_in (by omega) (by decide)⟩, tt.1.1, t_holds tt.1 hd.1.1 he ⟨fun c => ?_, fun c => ?_⟩⟩⟩
      · rw [bP_0] at c
        have c : ¬ hP f n E e k := c
        rw [n_s1]
        exact ih (k + 1) (by omega) (by rw [hl, lf_f c])
      · rw [bP_0] at c
        have c : hP f n E e k := Classical.not_not.mp c
        rw [hl, lf_t c, en_r (by omega)] at h
        exact h
  exact b_Splitting_delimiterAt_0 (L D 0 (by omega) rfl)
theorem s_behind (hs : sh σ X) (hD2 : D ≤ 8) (hE : ∀ d, d < D → deS σ X d (E d)) (tt : tY σ X tx n f) {e d : Nat} (hd : d < D) (hh : hP f n E e d) (h : Q (.inl (some (vi (nI (if (E d).2.2 = true then rq1 (ocP f n (E d).2.1 (E d).1) (E d).1 n (e + (E d).1) else e + (E d).1))))) σ) : ca J_Splitting_placeBehind [vr (X + 8), vr tx, vi (nI e), vi (nI d)] σ Q := by
  have hn := tt.1.2.2.2.1
  obtain ⟨d1, d2, d3⟩ := hE d hd
  have d4 := d1.1.2.2.2.1
  have hh1 := hh.1
  have L : (E d).2.2 = true → ∀ g k a, k + g = n → a ≤ n → rq1 (ocP f n (E d).2.1 (E d).1) (E d).1 n (e + (E d).1) = rq1 (ocP f n (E d).2.1 (E d).1) (E d).1 g a → wp J_Splitting_placeBehind 29 [vr (X + 8), vr tx, vi (nI e), vi (nI d), vr (sB σ (X + 9) d), vi (nI a), vi (nI k)] [] σ Q := by
    intro eb g
    rw [if_pos eb] at h
    induction g with
    | zero =>
      intro k a hk ha hr
      refine b_Splitting_placeBehind_29 ⟨tt.1.1, t_size tt.1 ?_⟩
      dsimp only [cI]
      rw [n_le (by omega) (by omega)]
      rw [hr] at h
      exact ⟨fun _ => b_Splitting_placeBehind_65 h, fun c => by omega⟩
    | succ g ih =>
      intro k a hk ha hr
      refine b_Splitting_placeBehind_29 ⟨tt.1.1, t_size tt.1 ?_⟩
      dsimp only [cI]
      rw [n_le (by omega) (by omega)]
      refine ⟨fun c => by omega, fun _ => ⟨tt.1.1, t_holds tt.1 d1.1 ha ⟨fun c => ?_, fun c => ⟨d1.1.1, t_size d1.1 ?_⟩⟩⟩⟩
      · rw [bP_0] at c
        rw [hr, rq1_f c] at h
        exact b_Splitting_placeBehind_65 h
      · rw [bP_0] at c
        have c := Classical.not_not.mp c
        dsimp only [cI]
        rw [nI_add, n_s1]
        exact ih (k + 1) (a + (E d).1) (by omega) c.1 (by rw [hr, rq1_t c])
  refine b_Splitting_placeBehind_0 ⟨sh_k8 hs, ?_⟩
  rw [e_256 hs, sh_k9 hs, sh_n9 hs, nI_clamp (by omega)]
  refine ⟨⟨⟨by decide, by decide⟩, n_in (by omega) (by decide)⟩, d1.1.1, t_size d1.1 ⟨sh_k8 hs, ?_⟩⟩
  rw [e_257 hs, sh_k10 hs, sh_n10 hs, d3, nI_add]
  refine ⟨⟨rfl, n_in (by omega) (by decide)⟩, fun c => b_Splitting_placeBehind_65 ?_, fun c => L ?_ n 0 (e + (E d).1) (by omega) hh1 rfl⟩
  · cases eb : (E d).2.2 with
    | false =>
      rw [eb, if_neg (by decide)] at h
      exact h
    | true =>
      rw [eb] at c
      exact absurd c (by decide)
  · cases eb : (E d).2.2 with
    | false =>
      rw [eb] at c
      exact absurd rfl c
    | true => rfl
theorem s_keep (hs : sh σ X) {k : Nat} {b c g : Int32} (hk : k < 20) (h : Q (.inl none) (kpS σ X k b c g)) : ca J_Splitting_keepPiece [vr (X + 8), vi (nI k), vi b, vi c, vi g] σ Q := by
  refine b_Splitting_keepPiece_0 ⟨sh_k8 hs, ?_⟩
  rw [e_261 hs, sh_k12 hs, sh_n12 hs, nI_clamp (by omega)]
  refine ⟨⟨rfl, n_in (by omega) (by decide)⟩, fun σ1 e1 => ?_⟩
  have k8 : sK σ1 (X + 8) = 8 := by rw [e1, pA_K]; exact sh_k8 hs
  rw [show sR σ1 262 (X + 8) = X + 13 by rw [e1, pA_R]; exact e_262 hs, show sK σ1 (X + 13) = 101 by rw [e1, pA_K]; exact sh_k13 hs, show sN σ1 (X + 13) = 20 by rw [e1, pA_N]; exact sh_n13 hs]
  refine ⟨k8, ⟨rfl, n_in (by omega) (by decide)⟩, fun σ2 e2 => ?_⟩
  have k82 : sK σ2 (X + 8) = 8 := by rw [e2, pA_K]; exact k8
  rw [show sR σ2 263 (X + 8) = X + 14 by rw [e2, pA_R, e1, pA_R]; exact e_263 hs, show sK σ2 (X + 14) = 101 by rw [e2, pA_K, e1, pA_K]; exact sh_k14 hs, show sN σ2 (X + 14) = 20 by rw [e2, pA_N, e1, pA_N]; exact sh_n14 hs]
  refine ⟨k82, ⟨rfl, n_in (by omega) (by decide)⟩, fun σ3 e3 => ?_⟩
  rw [e3, e2, e1]
  exact h
theorem s_size (hs : sh σ X) (tt : tY σ X tx n f) {zr a k : Nat} {g : Nat → Int32} (tr : tY σ X (sB σ (X + 11) k) zr g) (hk : k < 20) (ha : a < n) (h : Q (.inl (some (vi (nI (spN f n E 0 (spE f n E 0 zr a) (spW f n E 0 (spE f n E 0 zr a))))))) (kpS σ X k (nI a) (nI (spE f n E 0 zr a - a)) (en 0 (spW f n E 0 (spE f n E 0 zr a))))) : ca J_Splitting_cutBySize [vr (X + 8), vr tx, vi (nI a), vi (nI k)] σ Q := by
  have hn := tt.1.2.2.2.1
  have hz := tr.1.2.2.2.1
  have eb := spE_b f n E 0 zr a (by omega)
  have w0 : spW f n E 0 (spE f n E 0 zr a) = 0 := by have := spW_b f n E 0 (spE f n E 0 zr a); omega
  have n0 : spN f n E 0 (spE f n E 0 zr a) 0 = spE f n E 0 zr a := by unfold spN; rw [if_pos rfl]
  rw [w0, n0, en_N] at h
  refine b_Splitting_cutBySize_0 ⟨sh_k8 hs, ?_⟩
  rw [e_259 hs, sh_k11 hs, sh_n11 hs, nI_clamp (by omega)]
  refine ⟨⟨⟨by decide, by decide⟩, n_in (by omega) (by decide)⟩, tr.1.1, t_size tr.1 ⟨tt.1.1, t_size tt.1 ?_⟩⟩
  dsimp only [cI]
  rw [n_sub (by omega)]
  have fin : ∀ L, L = spE f n E 0 zr a - a → wp J_Math_min 10 [vi (nI zr), vi (nI (n - a))] [vi (nI L)] σ (cI (fun r3 σ3 => sK σ3 (X + 8) = 8 ∧ ca J_Splitting_keepPiece [vr (X + 8), vi (nI k), vi (nI a), vi r3, vi (-1 : Int32)] σ3 (cV (fun σ4 => Q (.inl (some (vi (nI a + r3)))) σ4) Q)) Q) := by
    intro L hL
    refine b_Math_min_10 ⟨sh_k8 hs, s_keep hs hk ?_⟩
    dsimp only [cV]
    rw [nI_add, hL, show a + (spE f n E 0 zr a - a) = spE f n E 0 zr a by omega]
    exact h
  refine b_Math_min_0 ?_
  rw [n_lt (by omega) (by omega)]
  refine ⟨fun c => fin (n - a) ?_, fun c => fin zr ?_⟩
  · unfold spE
    rw [if_pos rfl, if_neg (by omega)]
  · unfold spE
    rw [if_pos rfl]
    split
    · omega
    · omega
theorem s_delim (hs : sh σ X) (hD : sI σ 258 (X + 8) = nI D) (hD2 : D ≤ 8) (hD0 : D ≠ 0) (hE : ∀ d, d < D → deS σ X d (E d)) (tt : tY σ X tx n f) {zr a k : Nat} (hk : k < 20) (ha : a < n) (h : Q (.inl (some (vi (nI (spN f n E D (spE f n E D zr a) (spW f n E D (spE f n E D zr a))))))) (kpS σ X k (nI a) (nI (spE f n E D zr a - a)) (en D (spW f n E D (spE f n E D zr a))))) : ca J_Splitting_cutByDelimiter [vr (X + 8), vr tx, vi (nI a), vi (nI k)] σ Q := by
  have hn := tt.1.2.2.2.1
  have ee : spE f n E D zr a = lf (fun e => lf (hP f n E e) D 0 ≠ D) (n - a) a := by unfold spE; rw [if_neg hD0]
  have L : ∀ d e, e + d = n → a ≤ e → spE f n E D zr a = lf (fun e => lf (hP f n E e) D 0 ≠ D) d e → ∀ l5 : iV, wp J_Splitting_cutByDelimiter 3 [vr (X + 8), vr tx, vi (nI a), vi (nI k), vi (nI e), l5] [] σ Q := by
    intro d
    induction d with
    | zero =>
      intro e he hae hl l5
      have en' : spE f n E D zr a = n := by rw [hl, lf_0]; omega
      have w0 : spW f n E D (spE f n E D zr a) = D := by unfold spW; rw [en', if_neg (by omega)]
      have n0 : spN f n E D (spE f n E D zr a) D = n := by unfold spN; rw [if_pos rfl, en']
      rw [w0, n0, en_N, en'] at h
      refine b_Splitting_cutByDelimiter_3 ⟨tt.1.1, t_size tt.1 ?_⟩
      dsimp only [cI]
      rw [n_le (by omega) (by omega)]
      refine ⟨fun _ => ⟨tt.1.1, t_size tt.1 ⟨sh_k8 hs, ?_⟩⟩, fun c => by omega⟩
      rw [n_sub (by omega)]
      have t2 := tY_z tt (sc_K (k := k) (b := nI a) (c := nI (n - a)) (g := -1))
      exact s_keep hs hk ⟨t2.1.1, t_size t2.1 h⟩
    | succ d ih =>
      intro e he hae hl l5
      refine b_Splitting_cutByDelimiter_3 ⟨tt.1.1, t_size tt.1 ?_⟩
      dsimp only [cI]
      rw [n_le (by omega) (by omega)]
      refine ⟨fun c => by omega, fun _ => ⟨sh_k8 hs, s_at hs hD hD2 hE tt (by omega) ?_⟩⟩
      have hl' := lf_le (hP f n E e) D 0
      by_cases c : lf (hP f n E e) D 0 = D
      · rw [c, en_N]
        refine ⟨fun _ => ?_, fun q => absurd rfl q⟩
        rw [n_s1]
        exact ih (e + 1) (by omega) (by omega) (by rw [hl, lf_f (fun q => q c)]) _
      · have e1 : spE f n E D zr a = e := by rw [hl, lf_t c]
        have w1 : spW f n E D e = lf (hP f n E e) D 0 := by unfold spW; rw [if_pos (by omega)]
        rw [e1, w1] at h
        have hh := lf_at (hP f n E e) D 0 (by omega)
        revert h hh hl' c
        generalize lf (hP f n E e) D 0 = d'
        intro h hl' c hh
        rw [en_r c]
        rw [en_r c] at h
        refine ⟨fun q => absurd q (n_m1 (by omega)), fun _ => ⟨sh_k8 hs, ?_⟩⟩
        rw [n_sub hae]
        refine s_keep hs hk ⟨sh_k8 hs, ?_⟩
        have q2 := sc_K (σ := σ) (X := X) (k := k) (b := nI a) (c := nI (e - a)) (g := nI d')
        refine s_behind (sh_z hs q2) hD2 (fun d hd => deS_z (hE d hd) q2) (tY_z tt q2) (d := d') (by omega) hh ?_
        unfold spN at h
        rw [if_neg c] at h
        exact h
  exact b_Splitting_cutByDelimiter_0 (L (n - a) a (by omega) (Nat.le_refl _) ee _)
/-- the pieces kept so far -/
def pq (σ : iS) (X : Nat) (f : Nat → Int32) (n : Nat) (E : Nat → deD) (D : Nat) (zr : Nat → Nat) (a0 r : Nat) : Prop :=
  ∀ i, i < r → sA σ (X + 12) i = nI (spP f n E D zr a0 i) ∧ sA σ (X + 13) i = nI (spE f n E D (zr i) (spP f n E D zr a0 i) - spP f n E D zr a0 i) ∧ sA σ (X + 14) i = en D (spW f n E D (spE f n E D (zr i) (spP f n E D zr a0 i)))
variable {R a0 : Nat} {zr : Nat → Nat} {gr : Nat → Nat → Int32}
theorem s_piecesL (hs : sh σ X) (hD : sI σ 258 (X + 8) = nI D) (hD2 : D ≤ 8) (hE : ∀ d, d < D → deS σ X d (E d)) (hR : sI σ 260 (X + 8) = nI R) (hR2 : R ≤ 20) (hr : ∀ r, r < R → tY σ X (sB σ (X + 11) r) (zr r) (gr r)) (tt : tY σ X tx n f) (ha0 : a0 ≤ n)
    (h : ∀ σ'', sc σ σ'' X → pq σ'' X f n E D zr a0 (spV f n E D R zr a0) → sI σ'' 264 (X + 8) = nI (spV f n E D R zr a0) → sI σ'' 265 (X + 8) = nI (spP f n E D zr a0 (spV f n E D R zr a0) + 1) → Q (.inl none) σ'') :
    ∀ d r σ', r + d = spV f n E D R zr a0 → sc σ σ' X → pq σ' X f n E D zr a0 r → sI σ' 264 (X + 8) = nI r → wp J_Splitting_cutPieces 9 [vr (X + 8), vr tx, vi (nI (spP f n E D zr a0 r)), vi (nI r)] [] σ' Q := by
  have hn := tt.1.2.2.2.1
  have hV : 0 ≤ spV f n E D R zr a0 ∧ spV f n E D R zr a0 ≤ 0 + R := lf_le (fun r => ¬ spP f n E D zr a0 r < n) R 0
  intro d
  induction d with
  | zero =>
    intro r σ' hd hq hp h4
    have hd : r = spV f n E D R zr a0 := by omega
    subst hd
    have hb := spP_b f n E D zr a0 ha0 (spV f n E D R zr a0)
    have k8 : sK σ' (X + 8) = 8 := sh_k8 (sh_z hs hq)
    have ex : wp J_Splitting_cutPieces 63 [vr (X + 8), vr tx, vi (nI (spP f n E D zr a0 (spV f n E D R zr a0))), vi (nI (spV f n E D R zr a0))] [] σ' Q := by
      refine b_Splitting_cutPieces_63 ⟨k8, fun σ1 e1 => ?_⟩
      rw [e1, n_s1]
      refine h _ (sc_t hq (sc_I (Or.inr rfl))) (fun i hi => ?_) ?_ wI_s
      · rw [pI_A]; exact hp i hi
      · rw [wI_o (by decide)]; exact h4
    refine b_Splitting_cutPieces_9 ⟨k8, ?_⟩
    rw [hq.2.1 260 _ (by omega), hR, n_le (by omega) (by omega)]
    have t2 := (tY_z tt hq).1
    refine ⟨fun _ => ex, fun c => ⟨t2.1, t_size t2 ⟨fun _ => ex, fun c2 => ?_⟩⟩⟩
    rw [n_le (by omega) (by omega)] at c2
    exact absurd (show spP f n E D zr a0 (spV f n E D R zr a0) < n by omega) (lf_at (fun r => ¬ spP f n E D zr a0 r < n) R 0 (show spV f n E D R zr a0 < 0 + R by omega))
  | succ d ih =>
    intro r σ' hd hq hp h4
    have hlt : spP f n E D zr a0 r < n := Classical.not_not.mp (lf_no (fun r => ¬ spP f n E D zr a0 r < n) R 0 r (Nat.zero_le _) (show r < spV f n E D R zr a0 by omega))
    have S := sh_z hs hq
    have k8 : sK σ' (X + 8) = 8 := sh_k8 S
    have t2 := tY_z tt hq
    have i258 : sI σ' 258 (X + 8) = nI D := by rw [hq.2.1 258 _ (by omega)]; exact hD
    have nx : spP f n E D zr a0 (r + 1) = spN f n E D (spE f n E D (zr r) (spP f n E D zr a0 r)) (spW f n E D (spE f n E D (zr r) (spP f n E D zr a0 r))) := by
      rw [spP, if_pos hlt]
    have fin : wp J_Splitting_cutPieces 49 [vr (X + 8), vr tx, vi (nI (spP f n E D zr a0 r)), vi (nI r)] [vi (nI (spN f n E D (spE f n E D (zr r) (spP f n E D zr a0 r)) (spW f n E D (spE f n E D (zr r) (spP f n E D zr a0 r)))))] (kpS σ' X r (nI (spP f n E D zr a0 r)) (nI (spE f n E D (zr r) (spP f n E D zr a0 r) - spP f n E D zr a0 r)) (en D (spW f n E D (spE f n E D (zr r) (spP f n E D zr a0 r))))) Q := by
      have q2 := sc_t hq (sc_K (σ := σ') (X := X) (k := r) (b := nI (spP f n E D zr a0 r)) (c := nI (spE f n E D (zr r) (spP f n E D zr a0 r) - spP f n E D zr a0 r)) (g := en D (spW f n E D (spE f n E D (zr r) (spP f n E D zr a0 r)))))
      refine b_Splitting_cutPieces_49 ⟨sh_k8 (sh_z hs q2), fun σ1 e1 => ?_⟩
      rw [n_s1] at e1 ⊢
      rw [← nx]
      refine ih (r + 1) σ1 (by omega) (by rw [e1]; exact sc_t q2 (sc_I (Or.inl rfl))) (fun i hi => ?_) (by rw [e1, wI_s])
      rw [e1, pI_A]
      unfold kpS
      rw [wA_o (show X + 12 ≠ X + 14 by omega), wA_o (show X + 12 ≠ X + 13 by omega), wA_o (show X + 13 ≠ X + 14 by omega)]
      by_cases e : i = r
      · subst e
        rw [wA_s, wA_s, wA_s]
        exact ⟨rfl, rfl, rfl⟩
      · rw [wA_k e, wA_k e, wA_k e, wA_o (show X + 13 ≠ X + 12 by omega), wA_o (show X + 14 ≠ X + 13 by omega), wA_o (show X + 14 ≠ X + 12 by omega)]
        exact hp i (by omega)
    refine b_Splitting_cutPieces_9 ⟨k8, ?_⟩
    rw [hq.2.1 260 _ (by omega), hR, n_le (by omega) (by omega)]
    refine ⟨fun c => by omega, fun _ => ⟨t2.1.1, t_size t2.1 ?_⟩⟩
    dsimp only [cI]
    rw [n_le (by omega) (by omega), i258]
    refine ⟨fun c => by omega, fun _ => ⟨k8, fun c => ⟨k8, ?_⟩, fun c => ⟨k8, ?_⟩⟩⟩
    · have c0 : D ≠ 0 := fun q => c (by rw [q]; rfl)
      exact s_delim (zr := zr r) S i258 hD2 c0 (fun d hd => deS_z (hE d hd) hq) t2 (by omega) hlt fin
    · have c0 : D = 0 := by
        have c := Classical.not_not.mp c
        rw [lit_0, n_eq (by omega) (by decide)] at c
        exact c
      subst c0
      have t3 := tY_z (hr r (by omega)) hq
      rw [← hq.1.2.1] at t3
      exact s_size (E := E) (zr := zr r) S t2 t3 (by omega) hlt fin
theorem s_pieces (hs : sh σ X) (hD : sI σ 258 (X + 8) = nI D) (hD2 : D ≤ 8) (hE : ∀ d, d < D → deS σ X d (E d)) (hR : sI σ 260 (X + 8) = nI R) (hR2 : R ≤ 20) (hr : ∀ r, r < R → tY σ X (sB σ (X + 11) r) (zr r) (gr r)) (tt : tY σ X tx n f) (ha0 : a0 ≤ n) (h4 : sI σ 264 (X + 8) = 0) (h5 : sI σ 265 (X + 8) = nI (a0 + 1))
    (h : ∀ σ'', sc σ σ'' X → pq σ'' X f n E D zr a0 (spV f n E D R zr a0) → sI σ'' 264 (X + 8) = nI (spV f n E D R zr a0) → sI σ'' 265 (X + 8) = nI (spP f n E D zr a0 (spV f n E D R zr a0) + 1) → Q (.inl none) σ'') : ca J_Splitting_cutPieces [vr (X + 8), vr tx] σ Q := by
  refine b_Splitting_cutPieces_0 ⟨sh_k8 hs, ?_⟩
  rw [h5, nI_pred]
  exact s_piecesL hs hD hD2 hE hR hR2 hr tt ha0 h (spV f n E D R zr a0) 0 σ (by omega) sc_0 (fun i hi => by omega) (by rw [h4]; rfl)
end SP1
