/-! LAYER 2: split of the model, whole. -/
/-- results: r of them, -1 for the others of 20 -/
def rsF (old : Nat → Int32) (v : Nat → Int32) (r : Nat) : Nat → Int32 := fun k => if k < r then v k else if k < 20 then -1 else old k
theorem rsF_u {old v : Nat → Int32} {r : Nat} (hr : r < 20) : ∀ k, (if k = r then v r else rsF old v r k) = rsF old v (r + 1) k := by
  intro k
  unfold rsF
  by_cases h1 : k = r
  · subst h1
    rw [if_pos rfl, if_pos (by omega)]
  · rw [if_neg h1]
    by_cases h2 : k < r
    · rw [if_pos h2, if_pos (by omega)]
    · rw [if_neg h2, if_neg (show ¬ k < r + 1 by omega)]
section MS2
variable {σ : iS} {M : Nat} {s : Nat → Int32} {m : Nat → Nat → Int32} {Q : iO → iS → Prop} {N : Nat} {z : Nat → Nat} {t n D R a0 : Nat} {f : Nat → Int32} {E : Nat → deD} {rv : Nat → Nat}
theorem m_split1 (hm : mS σ M) (hz : s 324 = nI N) (hN : N ≤ 40) {x y : Int32} (hx : ¬ ∃ j, j < N ∧ x = nI j) (h : Q (.inl (some (vi 0))) (mw σ M (u1 s 320 1) m)) : ca J_M_split [vr M, vi x, vi y] (mw σ M s m) Q := by
  refine b_M_split_0 ⟨hm.1, m_isText hm hz hN ⟨fun c => ?_, fun _ => b_M_split_14 ⟨hm.1, m_fails1 hm (by decide) ⟨fun c => c_10 c, fun _ => h⟩⟩⟩⟩
  rw [bP_f hx] at c
  exact c_00 c
/-- the old results are forgotten -/
theorem m_splitF (hm : mS σ M) {x1 y : Int32} {l4 l5 l6 l7 l8 : iV} (h : ∀ mm, kq m mm → (∀ k, mm 1 k = m 1 k) → (∀ k, mm 18 k = rsF (m 18) (m 18) 0 k) → (∀ k, mm 19 k = rsF (m 19) (m 19) 0 k) → wp J_M_split 29 [vr M, vi x1, vi y, vi (nI 20), l4, l5, l6, l7, l8] [] (mw σ M s mm) Q) : ∀ d p, p + d = 20 → ∀ mm, kq m mm → (∀ k, mm 1 k = m 1 k) → (∀ k, mm 18 k = if k < p then -1 else m 18 k) → (∀ k, mm 19 k = if k < p then -1 else m 19 k) → wp J_M_split 29 [vr M, vi x1, vi y, vi (nI p), l4, l5, l6, l7, l8] [] (mw σ M s mm) Q := by
  intro d
  induction d with
  | zero =>
    intro p hp mm h1 h2 h3 h4
    have hp : p = 20 := by omega
    subst hp
    refine h mm h1 h2 (fun k => ?_) (fun k => ?_)
    · rw [h3]; unfold rsF; rw [if_neg (Nat.not_lt_zero k)]
    · rw [h4]; unfold rsF; rw [if_neg (Nat.not_lt_zero k)]
  | succ d ih =>
    intro p hp mm h1 h2 h3 h4
    refine b_M_split_29 ⟨fun c => ?_, fun _ => ⟨hm.1, ?_⟩⟩
    · rw [lit_20, n_le (by decide) (by omega)] at c
      omega
    · rw [r_343 hm, k_343 hm, n_343 hm, nI_clamp (by omega), w_343]
      refine ⟨⟨rfl, n_in (by omega) (by decide)⟩, fun σ4 hh => ?_⟩
      subst hh
      rw [r_344 hm, k_344 hm, n_344 hm, w_344, n_s1]
      refine ⟨hm.1, ⟨rfl, n_in (by omega) (by decide)⟩, fun σ5 hh => ?_⟩
      subst hh
      refine ih (p + 1) (by omega) _ (kq_u (kq_u h1 (Or.inr (Or.inl rfl))) (Or.inr (Or.inr rfl))) (fun k => by rw [u2_o (by decide), u2_o (by decide)]; exact h2 k) (fun k => ?_) (fun k => ?_)
      · rw [u2_o (by decide)]
        by_cases hk : k = p
        · subst hk; rw [u2_s, if_pos (by omega)]
        · rw [u2_k hk, h3]
          by_cases hk2 : k < p
          · rw [if_pos hk2, if_pos (by omega)]
          · rw [if_neg hk2, if_neg (by omega)]
      · by_cases hk : k = p
        · subst hk; rw [u2_s, if_pos (by omega)]
        · rw [u2_k hk, u2_o (by decide), h4]
          by_cases hk2 : k < p
          · rw [if_pos hk2, if_pos (by omega)]
          · rw [if_neg hk2, if_neg (by omega)]
/-- the end: x3 the place, good -/
theorem m_splitE (hm : mS σ M) {mm : Nat → Nat → Int32} (ht2 : mm 3 t = nI n) (ht1 : t < 40) (hn : n ≤ 60) {a : Nat} (ha : a ≤ n) {x2 x5 : Int32} {l6 l7 l8 : iV} (h : Q (.inl (some (vi (if a < n then -1 else nI (a + 1))))) (mw σ M (u1 (u1 (u1 s 346 0) 347 0) 348 (nI (a + 1))) mm)) : wp J_M_split 349 [vr M, vi (nI t), vi x2, vi (nI a), vi 1, vi x5, l6, l7, l8] [] (mw σ M s mm) Q := by
  refine b_M_split_349 ⟨hm.1, fun σ1 h1 => ?_⟩
  subst h1
  rw [mw_wi]
  refine ⟨hm.1, fun σ2 h2 => ?_⟩
  subst h2
  rw [mw_wi]
  refine ⟨fun c => c_10 c, fun _ => b_M_split_372 ⟨hm.1, fun σ3 h3 => ?_⟩⟩
  subst h3
  rw [mw_wi, n_s1]
  refine ⟨fun c => c_10 c, fun _ => ⟨hm.1, ?_⟩⟩
  rw [r_323 hm, k_323 hm, n_323 hm, a_323, nI_clamp (by omega), ht2, n_lt (by omega) (by omega)]
  refine ⟨⟨rfl, n_in (by omega) (by decide)⟩, fun c => ?_, fun c => ?_⟩
  · rw [if_pos c] at h
    exact b_M_split_396 (b_M_split_397 h)
  · rw [if_neg c] at h
    exact b_M_split_397 h
theorem m_splitB0 (hm : mS σ M) {mm : Nat → Nat → Int32} {x1 x3 y x5 : Int32} {l6 l7 l8 : iV} (h : Q (.inl (some (vi (-1)))) (mw σ M (u1 (u1 (u1 s 346 0) 347 0) 348 y) mm)) : wp J_M_split 349 [vr M, vi x1, vi y, vi x3, vi 0, vi x5, l6, l7, l8] [] (mw σ M s mm) Q := by
  refine b_M_split_349 ⟨hm.1, fun σ1 h1 => ?_⟩
  subst h1
  rw [mw_wi]
  refine ⟨hm.1, fun σ2 h2 => ?_⟩
  subst h2
  rw [mw_wi]
  refine ⟨fun _ => b_M_split_372 ⟨hm.1, fun σ3 h3 => ?_⟩, fun c => absurd rfl c⟩
  subst h3
  rw [mw_wi]
  exact ⟨fun _ => b_M_split_396 (b_M_split_397 h), fun c => absurd rfl c⟩
/-- the end of a piece by delimiters -/
theorem m_split172 (hm : mS σ M) {mm : Nat → Nat → Int32} (hk : kq m mm) (hD : s 346 = nI D) (hD2 : D ≤ 8) (hE : ∀ d, d < D → deM m (E d) d) (ht : mX m 1 t n f) {x2 x3 x4 x5 x7 : Int32} {l8 : iV} : ∀ d e, e + d = n → wp J_M_split 200 [vr M, vi (nI t), vi x2, vi x3, vi x4, vi x5, vi (nI (lf (fun e => lf (hP f n E e) D 0 ≠ D) d e)), vi x7, l8] [] (mw σ M s mm) Q → wp J_M_split 172 [vr M, vi (nI t), vi x2, vi x3, vi x4, vi x5, vi (nI e), vi x7, l8] [] (mw σ M s mm) Q := by
  obtain ⟨t1, t2, t3, t4⟩ := id ht
  intro d
  induction d with
  | zero =>
    intro e he h
    refine b_M_split_172 ⟨hm.1, ?_⟩
    rw [r_323 hm, k_323 hm, n_323 hm, a_323, nI_clamp (by omega), hk.2 3 (by decide) (by decide) (by decide) (by decide), t2, n_le (by omega) (by omega)]
    exact ⟨⟨rfl, n_in (by omega) (by decide)⟩, fun _ => h, fun c => by omega⟩
  | succ d ih =>
    intro e he h
    have hl := lf_le (hP f n E e) D 0
    refine b_M_split_172 ⟨hm.1, ?_⟩
    rw [r_323 hm, k_323 hm, n_323 hm, a_323, nI_clamp (by omega), hk.2 3 (by decide) (by decide) (by decide) (by decide), t2, n_le (by omega) (by omega)]
    refine ⟨⟨rfl, n_in (by omega) (by decide)⟩, fun c => by omega, fun _ => ⟨hm.1, m_here hm hk hD hD2 hE ht (by omega) ⟨fun c => ?_, fun c => ?_⟩⟩⟩
    · by_cases e1 : lf (hP f n E e) D 0 = D
      · rw [e1, en_N] at c; exact absurd rfl c
      · rw [lf_t (P := fun e => lf (hP f n E e) D 0 ≠ D) e1] at h
        exact h
    · by_cases e1 : lf (hP f n E e) D 0 = D
      · rw [lf_f (P := fun e => lf (hP f n E e) D 0 ≠ D) (fun q => q e1)] at h
        rw [n_s1]
        exact ih (e + 1) (by omega) h
      · rw [en_r e1] at c
        exact absurd (n_m1 (by omega)) c
theorem m_splitL (hm : mS σ M) (hN : N ≤ 40) (hz : ∀ j, j < N → m 3 j = nI (z j) ∧ z j ≤ 60) (ht : mX m 1 t n f) (hD : s 346 = nI D) (hD2 : D ≤ 8) (hE : ∀ d, d < D → deM m (E d) d) (hR : s 347 = nI R) (hR2 : R ≤ 20) (hrv : ∀ r, r < R → m 17 r = nI (rv r) ∧ rv r < N) (ha0 : a0 ≤ n) {x2 : Int32}
    (h : ∀ mm, kq m mm → (∀ k, mm 1 k = spH f n E D rv z a0 (m 1) (spV f n E D R (fun x => z (rv x)) a0) k) → (∀ k, mm 18 k = rsF (m 18) (fun r => nI (spE f n E D (z (rv r)) (spP f n E D (fun x => z (rv x)) a0 r) - spP f n E D (fun x => z (rv x)) a0 r)) (spV f n E D R (fun x => z (rv x)) a0) k) → (∀ k, mm 19 k = rsF (m 19) (fun r => en D (spW f n E D (spE f n E D (z (rv r)) (spP f n E D (fun x => z (rv x)) a0 r)))) (spV f n E D R (fun x => z (rv x)) a0) k) →
      Q (.inl (some (vi (if spP f n E D (fun x => z (rv x)) a0 (spV f n E D R (fun x => z (rv x)) a0) < n then -1 else nI (spP f n E D (fun x => z (rv x)) a0 (spV f n E D R (fun x => z (rv x)) a0) + 1))))) (mw σ M (u1 (u1 (u1 s 346 0) 347 0) 348 (nI (spP f n E D (fun x => z (rv x)) a0 (spV f n E D R (fun x => z (rv x)) a0) + 1))) mm)) :
    ∀ d r, r + d = spV f n E D R (fun x => z (rv x)) a0 → ∀ mm, kq m mm → (∀ k, mm 1 k = spH f n E D rv z a0 (m 1) r k) → (∀ k, mm 18 k = rsF (m 18) (fun r => nI (spE f n E D (z (rv r)) (spP f n E D (fun x => z (rv x)) a0 r) - spP f n E D (fun x => z (rv x)) a0 r)) r k) → (∀ k, mm 19 k = rsF (m 19) (fun r => en D (spW f n E D (spE f n E D (z (rv r)) (spP f n E D (fun x => z (rv x)) a0 r)))) r k) → ∀ l6 l7 l8 : iV, wp J_M_split 84 [vr M, vi (nI t), vi x2, vi (nI (spP f n E D (fun x => z (rv x)) a0 r)), vi 1, vi (nI r), l6, l7, l8] [] (mw σ M s mm) Q := by
  obtain ⟨t1, t2, t3, t4⟩ := id ht
  have hV := lf_le (fun r => ¬ spP f n E D (fun x => z (rv x)) a0 r < n) R 0
  have hVe : lf (fun r => ¬ spP f n E D (fun x => z (rv x)) a0 r < n) R 0 = spV f n E D R (fun x => z (rv x)) a0 := rfl
  rw [hVe] at hV
  intro d
  induction d with
  | zero =>
    intro r hr mm k1 k2 k3 k4 l6 l7 l8
    have hpb := spP_b f n E D (fun x => z (rv x)) a0 ha0 r
    have hr : r = spV f n E D R (fun x => z (rv x)) a0 := by omega
    have e3 : mm 3 t = nI n := by rw [k1.2 3 (by decide) (by decide) (by decide) (by decide)]; exact t2
    have fin : wp J_M_split 349 [vr M, vi (nI t), vi x2, vi (nI (spP f n E D (fun x => z (rv x)) a0 r)), vi 1, vi (nI r), l6, l7, l8] [] (mw σ M s mm) Q := by
      refine m_splitE hm e3 t1 t3 hpb ?_
      subst hr
      exact h mm k1 k2 k3 k4
    refine b_M_split_84 ⟨hm.1, ?_⟩
    rw [mw_i, hR, n_le (by omega) (by omega)]
    refine ⟨fun _ => fin, fun c => ⟨fun c => c_10 c, fun _ => ⟨hm.1, ?_⟩⟩⟩
    rw [r_323 hm, k_323 hm, n_323 hm, a_323, nI_clamp (by omega), e3, n_le (by omega) (by omega)]
    refine ⟨⟨rfl, n_in (by omega) (by decide)⟩, fun _ => fin, fun c2 => ?_⟩
    have h1 := lf_at (fun r => ¬ spP f n E D (fun x => z (rv x)) a0 r < n) R 0
    rw [hVe, ← hr] at h1
    exact absurd (by omega) (h1 (by omega))
  | succ d ih =>
    intro r hr mm k1 k2 k3 k4 l6 l7 l8
    have hpb := spP_b f n E D (fun x => z (rv x)) a0 ha0 r
    have hlt : spP f n E D (fun x => z (rv x)) a0 r < n := by
      have h1 := lf_no (fun r => ¬ spP f n E D (fun x => z (rv x)) a0 r < n) R 0 r (by omega)
      rw [hVe] at h1
      exact Classical.not_not.mp (h1 (by omega))
    obtain ⟨v1, v2⟩ := hrv r (by omega)
    obtain ⟨z1, z2⟩ := hz _ v2
    have eP : spP f n E D (fun x => z (rv x)) a0 (r + 1) = spN f n E D (spE f n E D (z (rv r)) (spP f n E D (fun x => z (rv x)) a0 r)) (spW f n E D (spE f n E D (z (rv r)) (spP f n E D (fun x => z (rv x)) a0 r))) := by
      conv => lhs; unfold spP
      rw [if_pos hlt]
    have eH : ∀ k, spH f n E D rv z a0 (m 1) (r + 1) k = mv (spH f n E D rv z a0 (m 1) r) f (rv r) (z (rv r)) (spP f n E D (fun x => z (rv x)) a0 r) (spE f n E D (z (rv r)) (spP f n E D (fun x => z (rv x)) a0 r) - spP f n E D (fun x => z (rv x)) a0 r) k := fun k => rfl
    obtain ⟨q, hq⟩ : ∃ q, q = spP f n E D (fun x => z (rv x)) a0 r := ⟨_, rfl⟩
    obtain ⟨e, he⟩ : ∃ e, e = spE f n E D (z (rv r)) q := ⟨_, rfl⟩
    have heb := spE_b f n E D (z (rv r)) q (by omega)
    rw [← hq, ← he] at eP
    rw [← hq] at hlt hpb eH ⊢
    rw [← he] at heb eH
    have e3 : ∀ k, mm 3 k = m 3 k := k1.2 3 (by decide) (by decide) (by decide) (by decide)
    have e17 : mm 17 r = nI (rv r) := by rw [k1.2 17 (by decide) (by decide) (by decide) (by decide)]; exact v1
    have fin : ∀ l8 : iV, wp J_M_split 224 [vr M, vi (nI t), vi x2, vi (nI q), vi 1, vi (nI r), vi (nI e), vi (en D (spW f n E D e)), l8] [] (mw σ M s mm) Q := by
      intro l8
      refine b_M_split_224 ⟨hm.1, ?_⟩
      rw [r_342 hm, k_342 hm, n_342 hm, a_342, nI_clamp (by omega), e17, n_sub heb.1]
      refine ⟨⟨rfl, n_in (by omega) (by decide)⟩, hm.1, m_move hm k1 ht (by omega) z1 z2 (by omega) (fun mm2 y1 y2 y3 => ?_)⟩
      dsimp only [cV]
      rw [r_343 hm, k_343 hm, n_343 hm, w_343]
      refine ⟨hm.1, ⟨rfl, n_in (by omega) (by decide)⟩, fun σ2 hh => ?_⟩
      subst hh
      rw [r_344 hm, k_344 hm, n_344 hm, w_344]
      refine ⟨hm.1, ⟨rfl, n_in (by omega) (by decide)⟩, fun σ3 hh => ?_⟩
      subst hh
      have w1 : kq m (u2 (u2 mm2 18 r (nI (e - q))) 19 r (en D (spW f n E D e))) := kq_u (kq_u y1 (Or.inr (Or.inl rfl))) (Or.inr (Or.inr rfl))
      have next : ∀ l6 l7 l8 : iV, wp J_M_split 84 [vr M, vi (nI t), vi x2, vi (nI (spN f n E D e (spW f n E D e))), vi 1, vi (nI (r + 1)), l6, l7, l8] [] (mw σ M s (u2 (u2 mm2 18 r (nI (e - q))) 19 r (en D (spW f n E D e)))) Q := by
        intro l6 l7 l8
        rw [← eP]
        refine ih (r + 1) (by omega) _ w1 (fun k => ?_) (fun k => ?_) (fun k => ?_) l6 l7 l8
        · rw [u2_o (by decide), u2_o (by decide), y3, eH]
          unfold mv
          by_cases hr2 : 60 * rv r ≤ k ∧ k < 60 * rv r + z (rv r)
          · rw [if_pos hr2, if_pos hr2]
          · rw [if_neg hr2, if_neg hr2]; exact k2 k
        · rw [u2_o (by decide), ← rsF_u (by omega)]
          by_cases hk : k = r
          · subst hk
            rw [u2_s, if_pos rfl, ← hq, ← he]
          · rw [u2_k hk, if_neg hk, y2 18 (by decide)]; exact k3 k
        · rw [← rsF_u (by omega)]
          by_cases hk : k = r
          · subst hk
            rw [u2_s, if_pos rfl, ← hq, ← he]
          · rw [u2_k hk, if_neg hk, u2_o (by decide), y2 19 (by decide)]; exact k4 k
      have hWb := spW_b f n E D e
      by_cases hW : spW f n E D e = D
      · rw [hW, en_N]
        rw [hW, en_N] at next
        have e5 : spN f n E D e D = e := by unfold spN; rw [if_pos rfl]
        rw [e5] at next
        refine ⟨fun _ => b_M_split_275 (b_M_split_277 ⟨fun _ => ?_, fun c => absurd rfl c⟩), fun c => absurd rfl c⟩
        rw [n_s1]
        exact next _ _ _
      · obtain ⟨d1, d2, d3⟩ := spW_h hW
        rw [en_r hW]
        rw [en_r hW] at next w1
        refine ⟨fun c => absurd c (n_m1 (by omega)), fun _ => b_M_split_275 ?_⟩
        refine m_behind (E := E) (D := D) hm w1 hE hD2 ht d3 n e (by omega) d1 (fun x8 => ?_)
        rw [n_s1]
        have e5 : spN f n E D e (spW f n E D e) = if (E (spW f n E D e)).2.2 = true then rq1 (ocP f n (E (spW f n E D e)).2.1 (E (spW f n E D e)).1) (E (spW f n E D e)).1 n (e + (E (spW f n E D e)).1) else e + (E (spW f n E D e)).1 := by
          conv => lhs; unfold spN
          rw [if_neg hW]
        rw [← e5]
        exact next _ _ _
    refine b_M_split_84 ⟨hm.1, ?_⟩
    rw [mw_i, mw_i, hR, hD, n_le (by omega) (by omega), r_323 hm, k_323 hm, n_323 hm, r_342 hm, k_342 hm, n_342 hm, a_342, a_323, a_323, nI_clamp (by omega), nI_clamp (by omega), e17, nI_clamp (by omega), e3, e3, t2, z1, nI_add, n_le (by omega) (by omega), n_le (by omega) (by omega)]
    refine ⟨fun c => by omega, fun _ => ⟨fun c => c_10 c, fun _ => ⟨hm.1, ⟨rfl, n_in (by omega) (by decide)⟩, fun c => by omega, fun _ => ⟨hm.1, fun c => ?_, fun c => ⟨hm.1, hm.1, ⟨rfl, n_in (by omega) (by decide)⟩, ⟨rfl, n_in (by omega) (by decide)⟩, hm.1, ⟨rfl, n_in (by omega) (by decide)⟩, fun c2 => ⟨hm.1, ⟨rfl, n_in (by omega) (by decide)⟩, b_M_split_167 ?_⟩, fun c2 => ⟨hm.1, hm.1, ⟨rfl, n_in (by omega) (by decide)⟩, ⟨rfl, n_in (by omega) (by decide)⟩, b_M_split_167 ?_⟩⟩⟩⟩⟩⟩
    · have hD0 : D ≠ 0 := fun q => c (by rw [q]; rfl)
      refine m_split172 hm k1 hD hD2 hE ht (n - q) q (by omega) ?_
      have e6 : lf (fun e => lf (hP f n E e) D 0 ≠ D) (n - q) q = e := by
        rw [he]
        unfold spE
        rw [if_neg hD0]
      rw [e6]
      refine b_M_split_200 ⟨hm.1, ?_⟩
      rw [r_323 hm, k_323 hm, n_323 hm, a_323, nI_clamp (by omega), e3, t2, n_le (by omega) (by omega)]
      refine ⟨⟨rfl, n_in (by omega) (by decide)⟩, fun c2 => b_M_split_222 ?_, fun c2 => ⟨hm.1, m_here hm k1 hD hD2 hE ht (by omega) (b_M_split_222 ?_)⟩⟩
      · have e7 : spW f n E D e = D := by unfold spW; rw [if_neg (by omega)]
        have h9 := fin l8
        rw [e7, en_N] at h9
        exact h9
      · have e7 : spW f n E D e = lf (hP f n E e) D 0 := by unfold spW; rw [if_pos (by omega)]
        have h9 := fin l8
        rw [e7] at h9
        exact h9
    · have c := Classical.not_not.mp c
      rw [lit_0, n_eq (by omega) (by decide)] at c
      have e7 : e = n := by rw [he]; unfold spE; rw [if_pos c, if_neg (by omega)]
      have e8 : spW f n E D e = D := by unfold spW; rw [if_neg (by omega)]
      have h9 := fin l8
      rw [e8, en_N, e7] at h9
      exact h9
    · have c := Classical.not_not.mp c
      rw [lit_0, n_eq (by omega) (by decide)] at c
      have e7 : e = q + z (rv r) := by rw [he]; unfold spE; rw [if_pos c, if_pos (by omega)]
      have e8 : spW f n E D e = D := by
        unfold spW
        have := lf_le (hP f n E e) D 0
        split <;> omega
      have h9 := fin l8
      rw [e8, en_N, e7] at h9
      exact h9
end MS2
