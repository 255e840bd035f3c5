/-! LAYER 2: join of the model. -/
/-- all the signs -/
def gW (m : Nat → Nat → Int32) (G : Nat → Int32) : Nat → Nat → Int32 := fun c k => if c = 1 then G k else m c k
theorem gW_1 (m : Nat → Nat → Int32) (G : Nat → Int32) (k : Nat) : gW m G 1 k = G k := if_pos rfl
theorem gW_o {m : Nat → Nat → Int32} {G : Nat → Int32} {c : Nat} (h : c ≠ 1) (k : Nat) : gW m G c k = m c k := if_neg h
theorem gW_u (m : Nat → Nat → Int32) (G : Nat → Int32) (k : Nat) (v : Int32) : u2 (gW m G) 1 k v = gW m (u1 G k v) := by
  funext c q
  unfold u2 gW u1
  by_cases hc : c = 1
  · by_cases hq : q = k
    · rw [if_pos ⟨hc, hq⟩, if_pos hc, if_pos hq]
    · rw [if_neg (fun z => hq z.2), if_pos hc, if_pos hc, if_neg hq]
  · rw [if_neg (fun z => hc z.1), if_neg hc, if_neg hc]
theorem gW_s (m : Nat → Nat → Int32) : gW m (m 1) = m := by
  funext c k
  by_cases hc : c = 1
  · subst hc; exact if_pos rfl
  · exact if_neg hc
/-- a part: its text, whether it has a limit, the limit's text -/
abbrev paD : Type := Nat × Bool × Nat
noncomputable def paL (z : Nat → Nat) (q : paD) (G : Nat → Int32) : Nat := re (fun k => G (60 * q.1 + k)) (z q.1) q.2.1 (fun k => G (60 * q.2.2 + k)) (z q.2.2)
/-- d signs of text i from k on, put into text t from a on -/
def j1 (t n i : Nat) : Nat → Nat → Nat → (Nat → Int32) → Bool × Nat × (Nat → Int32)
  | 0, _, a, G => (true, a, G)
  | d + 1, k, a, G => if n < a then (false, a, G) else j1 t n i d (k + 1) (a + 1) (u1 G (60 * t + (a - 1)) (G (60 * i + k)))
noncomputable def jA (z : Nat → Nat) (C : Nat → paD) (t n : Nat) : Nat → Nat → Nat → (Nat → Int32) → Bool × Nat × (Nat → Int32)
  | 0, _, a, G => (true, a, G)
  | d + 1, p, a, G => if (j1 t n (C p).1 (paL z (C p) G) 0 a G).1 = true then jA z C t n d (p + 1) (j1 t n (C p).1 (paL z (C p) G) 0 a G).2.1 (j1 t n (C p).1 (paL z (C p) G) 0 a G).2.2 else j1 t n (C p).1 (paL z (C p) G) 0 a G
theorem j1_b (t n i : Nat) : ∀ d k a G, a ≤ n + 1 → 1 ≤ a → (j1 t n i d k a G).2.1 ≤ n + 1 ∧ 1 ≤ (j1 t n i d k a G).2.1
  | 0, k, a, G => fun h h1 => ⟨h, h1⟩
  | d + 1, k, a, G => fun h h1 => by
    unfold j1
    split
    · exact ⟨h, h1⟩
    · exact j1_b t n i d (k + 1) (a + 1) _ (by omega) (by omega)
theorem jA_b (z : Nat → Nat) (C : Nat → paD) (t n : Nat) : ∀ d p a G, a ≤ n + 1 → 1 ≤ a → (jA z C t n d p a G).2.1 ≤ n + 1 ∧ 1 ≤ (jA z C t n d p a G).2.1
  | 0, p, a, G => fun h h1 => ⟨h, h1⟩
  | d + 1, p, a, G => fun h h1 => by
    have hj := j1_b t n (C p).1 (paL z (C p) G) 0 a G h h1
    unfold jA
    split
    · exact jA_b z C t n d (p + 1) _ _ hj.1 hj.2
    · exact hj
section MJ
variable {σ : iS} {M : Nat} {s : Nat → Int32} {m : Nat → Nat → Int32} {Q : iO → iS → Prop} {N : Nat} {z : Nat → Nat} {t : Nat}
theorem m_join1 (hm : mS σ M) (hz : s 324 = nI N) (hN : N ≤ 40) {x y : Int32} (hx : ¬ ∃ j, j < N ∧ x = nI j) (h : Q (.inl (some (vi 0))) (mw σ M (u1 s 320 1) m)) : ca J_M_join [vr M, vi x, vi y] (mw σ M s m) Q := by
  refine b_M_join_0 ⟨hm.1, m_isText hm hz hN ⟨fun c => ?_, fun _ => b_M_join_14 ⟨hm.1, m_fails1 hm (by decide) ⟨fun c => c_10 c, fun _ => h⟩⟩⟩⟩
  rw [bP_f hx] at c
  exact c_00 c
theorem m_joinE (hm : mS σ M) {x1 x2 x3 x5 : Int32} {good : Bool} {l6 l7 l8 : iV} (h : Q (.inl (some (vi (if good then x3 else -1)))) (mw σ M (u1 (u1 s 340 0) 348 x3) m)) : wp J_M_join 208 [vr M, vi x1, vi x2, vi x3, vi (bI good), vi x5, l6, l7, l8] [] (mw σ M s m) Q := by
  refine b_M_join_208 ⟨hm.1, fun σ1 h1 => ?_⟩
  subst h1
  rw [mw_wi]
  refine ⟨hm.1, fun σ2 h2 => ?_⟩
  subst h2
  rw [mw_wi]
  cases good with
  | false => exact ⟨fun _ => b_M_join_228 h, fun c => absurd rfl c⟩
  | true => exact ⟨fun c => c_10 c, fun _ => b_M_join_228 h⟩
/-- a pointer that isn't in the text -/
theorem m_joinB (hm : mS σ M) (hz : mZ s m N z) (ht : t < N) {y : Int32} (hy : ¬ ∃ a, a < z t ∧ y = nI (a + 1)) (h : Q (.inl (some (vi (-1)))) (mw σ M (u1 (u1 (u1 s 320 0) 340 0) 348 y) m)) : ca J_M_join [vr M, vi (nI t), vi y] (mw σ M s m) Q := by
  have hN := hz.2.1
  obtain ⟨z1, z2⟩ := hz.2.2 t ht
  have bad : wp J_M_join 44 [vr M, vi (nI t), vi y, vi y, vl 0, vl 0, vl 0, vl 0, vl 0] [] (mw σ M (u1 s 320 0) m) Q := by
    refine b_M_join_44 (b_M_join_45 (b_M_join_50 ⟨hm.1, fun _ => m_joinE (good := false) hm h, fun _ => ⟨fun _ => m_joinE (good := false) hm h, fun c => absurd rfl c⟩⟩))
  refine b_M_join_0 ⟨hm.1, m_isText hm hz.1 hN ⟨fun _ => b_M_join_14 ⟨hm.1, m_fails0 hm ⟨fun _ => ⟨fun _ => bad, fun c => ⟨hm.1, ?_⟩⟩, fun c => absurd rfl c⟩⟩, fun c => ?_⟩⟩
  · have hy0 : ¬ y < 0 := fun q => c (Int32.lt_trans q (by decide))
    obtain ⟨k, hk, rfl⟩ := n_of hy0
    rw [lit_1, n_lt hk (by decide)] at c
    rw [r_323 hm, k_323 hm, n_323 hm, a_323, nI_clamp (by omega), z1, n_lt (by omega) hk]
    exact ⟨⟨rfl, n_in (by omega) (by decide)⟩, fun _ => bad, fun c2 => absurd ⟨k - 1, by omega, by rw [show k - 1 + 1 = k by omega]⟩ hy⟩
  · rw [bP_t ⟨t, ht, rfl⟩] at c
    exact c_11 c
theorem m_joinI (hm : mS σ M) (hN : N ≤ 40) (hz : ∀ j, j < N → m 3 j = nI (z j) ∧ z j ≤ 60) (ht : t < N) {i L : Nat} (hi : i < N) (hL : L ≤ z i) {x2 x5 : Int32} : ∀ d k a G, k + d = L → 1 ≤ a → a ≤ z t + 1 → ∀ R, j1 t (z t) i d k a G = R → (∀ x8 : Int32, wp J_M_join 202 [vr M, vi (nI t), vi x2, vi (nI R.2.1), vi (bI R.1), vi x5, vi (nI i), vi (nI L), vi x8] [] (mw σ M s (gW m R.2.2)) Q) → wp J_M_join 130 [vr M, vi (nI t), vi x2, vi (nI a), vi 1, vi x5, vi (nI i), vi (nI L), vi (nI k)] [] (mw σ M s (gW m G)) Q := by
  obtain ⟨z1, z2⟩ := hz t ht
  obtain ⟨z3, z4⟩ := hz i hi
  intro d
  induction d with
  | zero =>
    intro k a G hk ha ha2 R hR h
    have e : R = (true, a, G) := hR.symm
    subst e
    refine b_M_join_130 ⟨fun _ => h _, fun c => ?_⟩
    rw [n_le (by omega) (by omega)] at c
    omega
  | succ d ih =>
    intro k a G hk ha ha2 R hR h
    refine b_M_join_130 ⟨fun c => ?_, fun _ => ⟨fun c => c_10 c, fun _ => ⟨hm.1, ?_⟩⟩⟩
    · rw [n_le (by omega) (by omega)] at c
      omega
    · rw [r_323 hm, k_323 hm, n_323 hm, a_323, nI_clamp (by omega), gW_o (by decide), z1, n_lt (by omega) (by omega)]
      refine ⟨⟨rfl, n_in (by omega) (by decide)⟩, fun c => b_M_join_157 ⟨fun c => c_00 c, fun _ => b_M_join_196 ?_⟩, fun c => b_M_join_157 ⟨fun _ => ⟨hm.1, hm.1, ?_⟩, fun c => c_11 c⟩⟩
      · have e : R = (false, a, G) := by rw [← hR]; unfold j1; rw [if_pos c]
        subst e
        exact b_M_join_130 ⟨fun _ => h _, fun _ => ⟨fun _ => h _, fun c => absurd rfl c⟩⟩
      · rw [r_321 hm, k_321 hm, n_321 hm, lit_60, n_mul, n_mul, nI_add, nI_add, n_p1 (by omega), nI_clamp (by omega), nI_clamp (by omega), a_321, w_321, gW_1, gW_u, n_s1, show 60 * t + a - 1 = 60 * t + (a - 1) by omega]
        refine ⟨⟨rfl, n_in (by omega) (by decide)⟩, ⟨rfl, n_in (by omega) (by decide)⟩, fun σ2 h2 => b_M_join_196 ?_⟩
        subst h2
        rw [n_s1]
        refine ih (k + 1) (a + 1) _ (by omega) (by omega) (by omega) R ?_ h
        rw [← hR]
        conv => rhs; unfold j1
        rw [if_neg c]
/-- what the model's memory says of part p -/
def paM (m : Nat → Nat → Int32) (N : Nat) (q : paD) (p : Nat) : Prop := q.1 < N ∧ m 14 p = nI q.1 ∧ (q.2.1 = false → m 15 p = -1) ∧ (q.2.1 = true → m 15 p = nI q.2.2 ∧ q.2.2 < N)
theorem m_joinP (hm : mS σ M) (hN : N ≤ 40) (hz : ∀ j, j < N → m 3 j = nI (z j) ∧ z j ≤ 60) (ht : t < N) {P : Nat} (hP : s 340 = nI P) (hP2 : P ≤ 20) {C : Nat → paD} (hC : ∀ p, p < P → paM m N (C p) p) {x2 : Int32} : ∀ d p a G, p + d = P → 1 ≤ a → a ≤ z t + 1 → ∀ R, jA z C t (z t) d p a G = R → Q (.inl (some (vi (if R.1 then nI R.2.1 else -1)))) (mw σ M (u1 (u1 s 340 0) 348 (nI R.2.1)) (gW m R.2.2)) → ∀ l6 l7 l8 : iV, wp J_M_join 50 [vr M, vi (nI t), vi x2, vi (nI a), vi 1, vi (nI p), l6, l7, l8] [] (mw σ M s (gW m G)) Q := by
  obtain ⟨z1, z2⟩ := hz t ht
  intro d
  induction d with
  | zero =>
    intro p a G hp ha ha2 R hR h l6 l7 l8
    have e : R = (true, a, G) := hR.symm
    subst e
    refine b_M_join_50 ⟨hm.1, ?_⟩
    rw [mw_i, hP, n_le (by omega) (by omega)]
    exact ⟨fun _ => m_joinE (good := true) hm h, fun c => by omega⟩
  | succ d ih =>
    intro p a G hp ha ha2 R hR h l6 l7 l8
    obtain ⟨c1, c2, c3, c4⟩ := hC p (by omega)
    obtain ⟨z3, z4⟩ := hz _ c1
    have hmi : mX (gW m G) 1 (C p).1 (z (C p).1) (fun k => G (60 * (C p).1 + k)) := ⟨by omega, by rw [gW_o (by decide)]; exact z3, z4, fun k _ => gW_1 m G _⟩
    have hend : ∀ x7 : Int32, wp J_M_join 125 [vr M, vi (nI t), vi x2, vi (nI a), vi 1, vi (nI p), vi (nI (C p).1), vi x7, l8] [vi (nI (paL z (C p) G))] (mw σ M s (gW m G)) Q := by
      intro x7
      refine b_M_join_125 ?_
      have hle : paL z (C p) G ≤ z (C p).1 := re_le _ _ _ _ _
      refine m_joinI hm hN hz ht c1 hle (paL z (C p) G) 0 a G (by omega) ha ha2 _ rfl (fun x8 => b_M_join_202 ?_)
      have hb := j1_b t (z t) (C p).1 (paL z (C p) G) 0 a G ha2 ha
      unfold jA at hR
      cases hj : (j1 t (z t) (C p).1 (paL z (C p) G) 0 a G).1 with
      | false =>
        rw [if_neg (by rw [hj]; decide)] at hR
        rw [← hR, hj] at h
        rw [n_s1]
        exact b_M_join_50 ⟨hm.1, fun _ => m_joinE (good := false) hm h, fun _ => ⟨fun _ => m_joinE (good := false) hm h, fun c => absurd rfl c⟩⟩
      | true =>
        rw [if_pos hj] at hR
        rw [n_s1]
        exact ih (p + 1) _ _ (by omega) hb.2 hb.1 R hR h _ _ _
    have noend : paL z (C p) G = z (C p).1 → wp J_M_join 105 [vr M, vi (nI t), vi x2, vi (nI a), vi 1, vi (nI p), vi (nI (C p).1), l7, l8] [vi (-1)] (mw σ M s (gW m G)) Q := by
      intro e
      refine b_M_join_105 ⟨fun c => absurd rfl c, fun _ => ⟨hm.1, ?_⟩⟩
      rw [r_323 hm, k_323 hm, n_323 hm, a_323, nI_clamp (by omega), gW_o (by decide), z3, ← e]
      exact ⟨⟨rfl, n_in (by omega) (by decide)⟩, hend _⟩
    refine b_M_join_50 ⟨hm.1, ?_⟩
    rw [mw_i, hP, n_le (by omega) (by omega), r_338 hm, k_338 hm, n_338 hm, r_339 hm, k_339 hm, n_339 hm, r_321 hm, a_338, a_339, nI_clamp (by omega), gW_o (by decide), gW_o (by decide), c2]
    refine ⟨fun c => by omega, fun _ => ⟨fun c => c_10 c, fun _ => ⟨hm.1, ⟨rfl, n_in (by omega) (by decide)⟩, hm.1, ⟨rfl, n_in (by omega) (by decide)⟩, fun c => ⟨hm.1, hm.1, ⟨rfl, n_in (by omega) (by decide)⟩, hm.1, ?_⟩, fun c => noend ?_⟩⟩⟩
    · cases ho : (C p).2.1 with
      | false => exact absurd (c3 ho) c
      | true =>
        obtain ⟨d1, d2⟩ := c4 ho
        obtain ⟨z5, z6⟩ := hz _ d2
        have hml : mX (gW m G) 1 (C p).2.2 (z (C p).2.2) (fun k => G (60 * (C p).2.2 + k)) := ⟨by omega, by rw [gW_o (by decide)]; exact z5, z6, fun k _ => gW_1 m G _⟩
        rw [d1]
        refine m_first hm (Or.inl rfl) hml hmi ?_
        dsimp only [cI]
        have hl := lf_le (ocP (fun k => G (60 * (C p).1 + k)) (z (C p).1) (fun k => G (60 * (C p).2.2 + k)) (z (C p).2.2)) (z (C p).1) 0
        have e9 : paL z (C p) G = lf (ocP (fun k => G (60 * (C p).1 + k)) (z (C p).1) (fun k => G (60 * (C p).2.2 + k)) (z (C p).2.2)) (z (C p).1) 0 := by
          unfold paL re
          rw [ho, if_pos rfl]
        rw [← e9]
        rw [← e9] at hl
        by_cases e : paL z (C p) G = z (C p).1
        · rw [e, en_N]
          exact noend e
        · rw [en_r e]
          exact b_M_join_105 ⟨fun _ => hend _, fun c => absurd (n_m1 (by omega)) c⟩
    · have c := Classical.not_not.mp c
      cases ho : (C p).2.1 with
      | true => exact absurd ((c4 ho).1.symm.trans c) (n_m1 (by have := (c4 ho).2; omega))
      | false =>
        unfold paL re
        rw [ho, if_neg (by decide)]
theorem m_join0 (hm : mS σ M) (hz : mZ s m N z) (ht : t < N) {P : Nat} (hP : s 340 = nI P) (hP2 : P ≤ 20) {C : Nat → paD} (hC : ∀ p, p < P → paM m N (C p) p) {a : Nat} (ha : a < z t) (h : ∀ R, jA z C t (z t) P 0 (a + 1) (m 1) = R → Q (.inl (some (vi (if R.1 then nI R.2.1 else -1)))) (mw σ M (u1 (u1 (u1 s 320 0) 340 0) 348 (nI R.2.1)) (gW m R.2.2))) : ca J_M_join [vr M, vi (nI t), vi (nI (a + 1))] (mw σ M s m) Q := by
  have hN := hz.2.1
  obtain ⟨z1, z2⟩ := hz.2.2 t ht
  refine b_M_join_0 ⟨hm.1, m_isText hm hz.1 hN ⟨fun _ => b_M_join_14 ⟨hm.1, m_fails0 hm ⟨fun _ => ⟨fun c => ?_, fun c => ⟨hm.1, ?_⟩⟩, fun c => absurd rfl c⟩⟩, fun c => ?_⟩⟩
  · rw [lit_1, n_lt (by omega) (by decide)] at c
    omega
  · rw [r_323 hm, k_323 hm, n_323 hm, a_323, nI_clamp (by omega), z1, n_lt (by omega) (by omega)]
    refine ⟨⟨rfl, n_in (by omega) (by decide)⟩, fun c2 => by omega, fun _ => b_M_join_45 ?_⟩
    have h0 := m_joinP (Q := Q) (s := u1 s 320 0) (x2 := nI (a + 1)) hm hN hz.2.2 ht (by rw [u1_o (by decide)]; exact hP) hP2 hC P 0 (a + 1) (m 1) (by omega) (by omega) (by omega) _ rfl (h _ rfl) (vl 0) (vl 0) (vl 0)
    rw [gW_s] at h0
    exact h0
  · rw [bP_t ⟨t, ht, rfl⟩] at c
    exact c_11 c
end MJ
