/-! LAYER 2: split from its start; search of the model. -/
section MS3
variable {σ : iS} {M : Nat} {s : Nat → Int32} {m : Nat → Nat → Int32} {Q : iO → iS → Prop} {N : Nat} {z : Nat → Nat} {t n D R a0 : Nat} {f : Nat → Int32} {E : Nat → deD} {rv : Nat → Nat}
/-- a pointer that isn't in the text -/
theorem m_splitB (hm : mS σ M) (hz : mZ s m N z) (htN : t < N) {y : Int32} (hy : ¬ ∃ a, a < z t ∧ y = nI (a + 1)) (h : ∀ mm, kq m mm → (∀ k, mm 1 k = m 1 k) → (∀ k, mm 18 k = rsF (m 18) (m 18) 0 k) → (∀ k, mm 19 k = rsF (m 19) (m 19) 0 k) → Q (.inl (some (vi (-1)))) (mw σ M (u1 (u1 (u1 (u1 s 320 0) 346 0) 347 0) 348 y) mm)) : ca J_M_split [vr M, vi (nI t), vi y] (mw σ M s m) Q := by
  have hN := hz.2.1
  obtain ⟨z1, z2⟩ := hz.2.2 t htN
  refine b_M_split_0 ⟨hm.1, m_isText hm hz.1 hN ⟨fun _ => b_M_split_14 ⟨hm.1, m_fails0 hm ⟨fun _ => ⟨hm.1, m_remember hm ?_⟩, fun c => absurd rfl c⟩⟩, fun c => ?_⟩⟩
  · refine m_splitF hm (fun mm k1 k2 k3 k4 => ?_) 20 0 (by omega) _ ⟨fun k hk => rmb_2 m hk, fun c h1 h2 _ _ k => rmb_o h2 k⟩ (fun k => rmb_o (by decide) k) (fun k => by rw [if_neg (Nat.not_lt_zero k)]; exact rmb_o (by decide) k) (fun k => by rw [if_neg (Nat.not_lt_zero k)]; exact rmb_o (by decide) k)
    have bad : ∀ x3 : Int32, wp J_M_split 78 [vr M, vi (nI t), vi y, vi x3, vl 0, vl 0, vl 0, vl 0, vl 0] [] (mw σ M (u1 s 320 0) mm) Q := fun x3 =>
      b_M_split_78 (b_M_split_79 (b_M_split_84 ⟨hm.1, fun _ => m_splitB0 hm (h mm k1 k2 k3 k4), fun _ => ⟨fun _ => m_splitB0 hm (h mm k1 k2 k3 k4), fun c => absurd rfl c⟩⟩))
    refine b_M_split_29 ⟨fun _ => ⟨fun _ => bad _, fun c => ⟨hm.1, ?_⟩⟩, fun c => absurd (by rw [lit_20]; exact nI_le (Nat.le_refl _) (by decide)) c⟩
    have hy0 : ¬ y < 0 := fun q => c (Int32.lt_trans q (by decide))
    obtain ⟨k, hk, rfl⟩ := n_of hy0
    rw [lit_1, n_lt hk (by decide)] at c
    rw [r_323 hm, k_323 hm, n_323 hm, a_323, nI_clamp (by omega), k1.2 3 (by decide) (by decide) (by decide) (by decide), z1, n_lt (by omega) hk]
    exact ⟨⟨rfl, n_in (by omega) (by decide)⟩, fun _ => bad _, fun c2 => absurd ⟨k - 1, by omega, by rw [show k - 1 + 1 = k by omega]⟩ hy⟩
  · rw [bP_t ⟨t, htN, rfl⟩] at c
    exact c_11 c
theorem m_split0 (hm : mS σ M) (hz : mZ s m N z) (htN : t < N) (ht : mX m 1 t n f) (hD : s 346 = nI D) (hD2 : D ≤ 8) (hE : ∀ d, d < D → deM m (E d) d) (hR : s 347 = nI R) (hR2 : R ≤ 20) (hrv : ∀ r, r < R → m 17 r = nI (rv r) ∧ rv r < N) (ha0 : a0 < n)
    (h : ∀ mm, kq m mm → (∀ k, mm 1 k = spH f n E D rv z a0 (m 1) (spV f n E D R (fun x => z (rv x)) a0) k) → (∀ k, mm 18 k = rsF (m 18) (fun r => nI (spE f n E D (z (rv r)) (spP f n E D (fun x => z (rv x)) a0 r) - spP f n E D (fun x => z (rv x)) a0 r)) (spV f n E D R (fun x => z (rv x)) a0) k) → (∀ k, mm 19 k = rsF (m 19) (fun r => en D (spW f n E D (spE f n E D (z (rv r)) (spP f n E D (fun x => z (rv x)) a0 r)))) (spV f n E D R (fun x => z (rv x)) a0) k) →
      Q (.inl (some (vi (if spP f n E D (fun x => z (rv x)) a0 (spV f n E D R (fun x => z (rv x)) a0) < n then -1 else nI (spP f n E D (fun x => z (rv x)) a0 (spV f n E D R (fun x => z (rv x)) a0) + 1))))) (mw σ M (u1 (u1 (u1 (u1 s 320 0) 346 0) 347 0) 348 (nI (spP f n E D (fun x => z (rv x)) a0 (spV f n E D R (fun x => z (rv x)) a0) + 1))) mm)) : ca J_M_split [vr M, vi (nI t), vi (nI (a0 + 1))] (mw σ M s m) Q := by
  have hN := hz.2.1
  obtain ⟨t1, t2, t3, t4⟩ := id ht
  have hD' : (u1 s 320 0) 346 = nI D := by rw [u1_o (by decide)]; exact hD
  have hR' : (u1 s 320 0) 347 = nI R := by rw [u1_o (by decide)]; exact hR
  refine b_M_split_0 ⟨hm.1, m_isText hm hz.1 hN ⟨fun _ => b_M_split_14 ⟨hm.1, m_fails0 hm ⟨fun _ => ⟨hm.1, m_remember hm ?_⟩, fun c => absurd rfl c⟩⟩, fun c => ?_⟩⟩
  · refine m_splitF hm (fun mm k1 k2 k3 k4 => ?_) 20 0 (by omega) _ ⟨fun k hk => rmb_2 m hk, fun c h1 h2 _ _ k => rmb_o h2 k⟩ (fun k => rmb_o (by decide) k) (fun k => by rw [if_neg (Nat.not_lt_zero k)]; exact rmb_o (by decide) k) (fun k => by rw [if_neg (Nat.not_lt_zero k)]; exact rmb_o (by decide) k)
    refine b_M_split_29 ⟨fun _ => ⟨fun c => ?_, fun c => ⟨hm.1, ?_⟩⟩, fun c => absurd (by rw [lit_20]; exact nI_le (Nat.le_refl _) (by decide)) c⟩
    · rw [lit_1, n_lt (by omega) (by decide)] at c
      omega
    · rw [r_323 hm, k_323 hm, n_323 hm, a_323, nI_clamp (by omega), k1.2 3 (by decide) (by decide) (by decide) (by decide), t2, n_lt (by omega) (by omega), nI_pred]
      refine ⟨⟨rfl, n_in (by omega) (by decide)⟩, fun c2 => by omega, fun _ => b_M_split_79 ?_⟩
      exact m_splitL (x2 := nI (a0 + 1)) hm hN hz.2.2 ht hD' hD2 hE hR' hR2 hrv (by omega) h (spV f n E D R (fun x => z (rv x)) a0) 0 (by omega) mm k1 k2 (fun k => by rw [k3]; rfl) (fun k => by rw [k4]; rfl) (vl 0) (vl 0) (vl 0)
  · rw [bP_t ⟨t, htN, rfl⟩] at c
    exact c_11 c
end MS3
/-! search -/
/-- in halves, among the places from lo to below hi: the row, or 0 -/
def bs (K : Nat → Int32) (key : Int32) : Nat → Nat → Nat → Nat
  | 0, _, _ => 0
  | d + 1, lo, hi => if lo < hi then (if K ((lo + hi - 1) / 2) = key then (lo + hi - 1) / 2 + 1 else if key < K ((lo + hi - 1) / 2) then bs K key d lo ((lo + hi - 1) / 2) else bs K key d ((lo + hi - 1) / 2 + 1) hi) else 0
theorem bs_u (K : Nat → Int32) (key : Int32) : ∀ d d' lo hi, hi - lo ≤ d → hi - lo ≤ d' → bs K key d lo hi = bs K key d' lo hi
  | 0, 0, lo, hi => fun _ _ => rfl
  | 0, d' + 1, lo, hi => fun h1 h2 => by
    unfold bs
    rw [if_neg (by omega)]
  | d + 1, 0, lo, hi => fun h1 h2 => by
    unfold bs
    rw [if_neg (by omega)]
  | d + 1, d' + 1, lo, hi => fun h1 h2 => by
    unfold bs
    by_cases h : lo < hi
    · rw [if_pos h, if_pos h]
      by_cases c1 : K ((lo + hi - 1) / 2) = key
      · rw [if_pos c1, if_pos c1]
      · rw [if_neg c1, if_neg c1]
        by_cases c2 : key < K ((lo + hi - 1) / 2)
        · rw [if_pos c2, if_pos c2]
          exact bs_u K key d d' lo _ (by omega) (by omega)
        · rw [if_neg c2, if_neg c2]
          exact bs_u K key d d' _ hi (by omega) (by omega)
    · rw [if_neg h, if_neg h]
theorem bs_b (K : Nat → Int32) (key : Int32) : ∀ d lo hi, bs K key d lo hi ≤ hi
  | 0, lo, hi => Nat.zero_le _
  | d + 1, lo, hi => by
    unfold bs
    split
    · split
      · omega
      · split
        · have := bs_b K key d lo ((lo + hi - 1) / 2)
          omega
        · exact bs_b K key d _ hi
    · omega
/-- one by one from row c on (c from 1): the row, or 0 -/
noncomputable def sq (K : Nat → Int32) (key : Int32) (n c : Nat) : Nat := if lf (fun i => K i = key) (n - (c - 1)) (c - 1) = n then 0 else lf (fun i => K i = key) (n - (c - 1)) (c - 1) + 1
theorem n_half {a b : Nat} (h : a + b < 2 ^ 31) : (nI a + nI b) / (2 : Int32) = nI ((a + b) / 2) := by
  rw [nI_add]
  apply Int32.toInt_inj.mp
  rw [Int32.toInt_div, nI_toInt h, nI_toInt (by omega)]
  have h2 : (2 : Int32).toInt = 2 := by decide
  rw [h2]
  have e : ((a + b : Nat) : Int).tdiv 2 = (((a + b) / 2 : Nat) : Int) := by
    rw [Int.tdiv_eq_ediv_of_nonneg (by omega)]
    omega
  rw [e]
  have hb : -(2 ^ 31 : Int) ≤ (((a + b) / 2 : Nat) : Int) ∧ (((a + b) / 2 : Nat) : Int) < 2 ^ 31 := by omega
  rw [Int.bmod_eq_of_le (by omega) (by omega)]
section MSE
variable {σ : iS} {M : Nat} {s : Nat → Int32} {m : Nat → Nat → Int32} {Q : iO → iS → Prop} {N : Nat} {z : Nat → Nat} {t n : Nat} {K : Nat → Int32} {key : Int32}
theorem m_search1 (hm : mS σ M) (hz : s 352 = nI N) (hN : N ≤ 10) {x y w : Int32} (hx : ¬ ∃ j, j < N ∧ x = nI j) (h : Q (.inl (some (vi 0))) (mw σ M (u1 s 320 1) m)) : ca J_M_search [vr M, vi x, vi y, vi w] (mw σ M s m) Q := by
  refine b_M_search_0 ⟨hm.1, m_isTable hm hz hN ⟨fun c => ?_, fun _ => b_M_search_14 ⟨hm.1, m_fails1 hm (by decide) ⟨fun c => c_10 c, fun _ => h⟩⟩⟩⟩
  rw [bP_f hx] at c
  exact c_00 c
/-- the end: what is found becomes the index -/
theorem m_searchE (hm : mS σ M) (ht : t < 10) {v : Nat} (hv : v ≤ 60) {x2 x3 x5 x6 x7 : Int32} {l8 : iV} (h : Q (.inl (some (vi (nI v)))) (mw σ M s (if v = 0 then m else u2 m 23 t (nI v)))) : wp J_M_search 172 [vr M, vi (nI t), vi x2, vi x3, vi (nI v), vi x5, vi x6, vi x7, l8] [] (mw σ M s m) Q := by
  refine b_M_search_172 ⟨fun c => ?_, fun c => ⟨hm.1, ?_⟩⟩
  · rw [lit_0, n_le (by omega) (by decide)] at c
    rw [if_pos (by omega)] at h
    exact b_M_search_185 h
  · rw [lit_0, n_le (by omega) (by decide)] at c
    rw [if_neg (by omega)] at h
    rw [r_351 hm, k_351 hm, n_351 hm, nI_clamp (by omega), w_351]
    refine ⟨⟨rfl, n_in (by omega) (by decide)⟩, fun σ2 h2 => ?_⟩
    subst h2
    exact b_M_search_185 h
/-- in halves -/
theorem m_searchH (hm : mS σ M) (ht : t < 10) (hn : m 22 t = nI n) (hn2 : n ≤ 60) (hK : ∀ k, k < n → m 21 (60 * t + k) = K k) {ix : Nat} (hi : m 23 t = nI ix) (hix : ix ≤ 60) {x2 : Int32} (hx2 : x2 ≠ 0) : ∀ d lo hi, hi - lo ≤ d → lo ≤ n → hi ≤ n → (Q (.inl (some (vi (nI (bs K key d lo hi))))) (mw σ M s (if bs K key d lo hi = 0 then m else u2 m 23 t (nI (bs K key d lo hi))))) → ∀ l7 l8 : iV, wp J_M_search 37 [vr M, vi (nI t), vi x2, vi key, vi (nI 0), vi (nI (lo + 1)), vi (nI hi), l7, l8] [] (mw σ M s m) Q := by
  have fin : ∀ v, v ≤ 60 → (Q (.inl (some (vi (nI v)))) (mw σ M s (if v = 0 then m else u2 m 23 t (nI v)))) → ∀ (x5 x6 : Int32) (l7 l8 : iV), wp J_M_search 116 [vr M, vi (nI t), vi x2, vi key, vi (nI v), vi x5, vi x6, l7, l8] [] (mw σ M s m) Q := by
    intro v hv h x5 x6 l7 l8
    refine b_M_search_116 ⟨hm.1, ?_⟩
    rw [r_350 hm, k_350 hm, n_350 hm, a_350, nI_clamp (by omega), hn]
    refine ⟨⟨rfl, n_in (by omega) (by decide)⟩, b_M_search_124 ⟨hm.1, ?_⟩⟩
    rw [r_351 hm, k_351 hm, n_351 hm]
    exact ⟨⟨rfl, n_in (by omega) (by decide)⟩, fun _ => m_searchE hm ht hv h, fun _ => ⟨fun _ => m_searchE hm ht hv h, fun c => absurd hx2 c⟩⟩
  intro d
  induction d with
  | zero =>
    intro lo hi hd h1 h2 h l7 l8
    refine b_M_search_37 ⟨fun c => absurd c hx2, fun _ => ⟨fun c => c_00 c, fun _ => ⟨fun _ => fin 0 (by omega) h _ _ _ _, fun c => ?_⟩⟩⟩
    rw [n_lt (by omega) (by omega)] at c
    omega
  | succ d ih =>
    intro lo hi hd h1 h2 h l7 l8
    refine b_M_search_37 ⟨fun c => absurd c hx2, fun _ => ⟨fun c => c_00 c, fun _ => ⟨fun c => ?_, fun c => ⟨by decide, hm.1, ?_⟩⟩⟩⟩
    · rw [n_lt (by omega) (by omega)] at c
      unfold bs at h
      rw [if_neg (by omega)] at h
      exact fin 0 (by omega) h _ _ _ _
    · rw [n_lt (by omega) (by omega)] at c
      have e1 : (lo + 1 + hi) / 2 = (lo + hi - 1) / 2 + 1 := by omega
      unfold bs at h
      rw [if_pos (by omega)] at h
      obtain ⟨mid, hmid⟩ : ∃ mid, mid = (lo + hi - 1) / 2 := ⟨_, rfl⟩
      rw [← hmid] at h e1
      have hm1 : lo ≤ mid ∧ mid < hi := by omega
      rw [n_half (by omega), e1, r_349 hm, k_349 hm, n_349 hm, lit_60, n_mul, nI_add, n_p1 (by omega), show 60 * t + (mid + 1) - 1 = 60 * t + mid by omega, nI_clamp (by omega), a_349, hK mid (by omega)]
      refine ⟨⟨rfl, n_in (by omega) (by decide)⟩, fun c1 => ?_, fun c1 => ?_⟩
      · rw [if_neg c1] at h
        refine b_M_search_90 ⟨fun c2 => b_M_search_113 ?_, fun c2 => b_M_search_113 ?_⟩
        · rw [if_neg (Int32.not_lt.mpr c2)] at h
          rw [n_s1]
          exact ih (mid + 1) hi (by omega) (by omega) h2 h _ _
        · rw [if_pos (Int32.not_le.mp c2)] at h
          rw [nI_pred]
          exact ih lo mid (by omega) h1 (by omega) h _ _
      · have c1 := Classical.not_not.mp c1
        rw [if_pos c1] at h
        refine b_M_search_90 ⟨fun c2 => b_M_search_113 ?_, fun c2 => ?_⟩
        · refine b_M_search_37 ⟨fun c => absurd c hx2, fun _ => ⟨fun _ => fin (mid + 1) (by omega) h _ _ _ _, fun c => ?_⟩⟩
          have c := Classical.not_not.mp c
          rw [lit_0, n_eq (by omega) (by decide)] at c
          omega
        · rw [c1] at c2
          exact absurd (Int32.le_refl _) c2
/-- one by one -/
theorem m_searchS (hm : mS σ M) (ht : t < 10) (hn : m 22 t = nI n) (hn2 : n ≤ 60) (hK : ∀ k, k < n → m 21 (60 * t + k) = K k) {ix : Nat} (hi : m 23 t = nI ix) (hix1 : 1 ≤ ix) (hix : ix ≤ n) (h : Q (.inl (some (vi (nI (sq K key n ix))))) (mw σ M s (if sq K key n ix = 0 then m else u2 m 23 t (nI (sq K key n ix))))) {x5 x6 : Int32} {l8 : iV} : ∀ k, ix - 1 ≤ k → k ≤ n → wp J_M_search 124 [vr M, vi (nI t), vi 0, vi key, vi (nI (if lf (fun i => K i = key) (n - k) k = n then 0 else lf (fun i => K i = key) (n - k) k + 1)), vi x5, vi x6, vi (nI k), l8] [] (mw σ M s m) Q := by
  intro k
  induction k with
  | zero =>
    intro h1 h2
    have hix0 : ix = 1 := by omega
    subst hix0
    refine b_M_search_124 ⟨hm.1, ?_⟩
    rw [r_351 hm, k_351 hm, n_351 hm, a_351, nI_clamp (by omega), hi, n_lt (by omega) (by omega)]
    refine ⟨⟨rfl, n_in (by omega) (by decide)⟩, fun _ => ?_, fun c => by omega⟩
    have hl := lf_le (fun i => K i = key) n 0
    refine m_searchE hm ht ?_ h
    rw [Nat.sub_zero]
    split <;> omega
  | succ k ih =>
    intro h1 h2
    refine b_M_search_124 ⟨hm.1, ?_⟩
    rw [r_351 hm, k_351 hm, n_351 hm, a_351, nI_clamp (by omega), hi, n_lt (by omega) (by omega)]
    refine ⟨⟨rfl, n_in (by omega) (by decide)⟩, fun c => ?_, fun c => ⟨fun c => c_00 c, fun _ => ⟨hm.1, ?_⟩⟩⟩
    · have e : k + 1 = ix - 1 := by omega
      have hl := lf_le (fun i => K i = key) (n - (k + 1)) (k + 1)
      refine m_searchE hm ht ?_ ?_
      · split <;> omega
      · unfold sq at h
        rw [← e] at h
        exact h
    · have hb := ih (by omega) (by omega)
      have hl := lf_le (fun i => K i = key) (n - (k + 1)) (k + 1)
      rw [r_349 hm, k_349 hm, n_349 hm, lit_60, n_mul, nI_add, n_p1 (by omega), show 60 * t + (k + 1) - 1 = 60 * t + k by omega, nI_clamp (by omega), a_349, hK k (by omega)]
      rw [lf_b (P := fun i => K i = key) (by omega)] at hb
      refine ⟨⟨rfl, n_in (by omega) (by decide)⟩, fun c2 => b_M_search_164 ?_, fun c2 => b_M_search_164 ?_⟩
      · rw [if_neg c2] at hb
        rw [n_pm (by omega), Nat.add_sub_cancel]
        exact hb
      · rw [if_pos (Classical.not_not.mp c2), if_neg (by omega)] at hb
        rw [n_pm (by omega), Nat.add_sub_cancel]
        exact hb
theorem m_search0 (hm : mS σ M) (hz : s 352 = nI N) (hN : N ≤ 10) (ht : t < N) (hn : m 22 t = nI n) (hn2 : n ≤ 60) (hK : ∀ k, k < n → m 21 (60 * t + k) = K k) {ix : Nat} (hi : m 23 t = nI ix) (hix1 : 1 ≤ ix) (hix : ix ≤ n) {x2 : Int32} (h : ∀ v, v = (if x2 = 0 then sq K key n ix else bs K key n 0 n) → Q (.inl (some (vi (nI v)))) (mw σ M (u1 s 320 0) (if v = 0 then m else u2 m 23 t (nI v)))) : ca J_M_search [vr M, vi (nI t), vi x2, vi key] (mw σ M s m) Q := by
  refine b_M_search_0 ⟨hm.1, m_isTable hm hz hN ⟨fun _ => b_M_search_14 ⟨hm.1, m_fails0 hm ⟨fun _ => ⟨hm.1, ?_⟩, fun c => absurd rfl c⟩⟩, fun c => ?_⟩⟩
  · rw [r_350 hm, k_350 hm, n_350 hm, a_350, nI_clamp (by omega), hn]
    refine ⟨⟨rfl, n_in (by omega) (by decide)⟩, ?_⟩
    by_cases hx : x2 = 0
    · subst hx
      have h9 := h _ rfl
      rw [if_pos rfl] at h9
      refine b_M_search_37 ⟨fun _ => b_M_search_116 ⟨hm.1, ?_⟩, fun c => absurd rfl c⟩
      rw [r_350 hm, k_350 hm, n_350 hm, a_350, nI_clamp (by omega), hn]
      refine ⟨⟨rfl, n_in (by omega) (by decide)⟩, ?_⟩
      have h0 := m_searchS (Q := Q) (s := u1 s 320 0) (x5 := 1) (x6 := nI n) (l8 := vl 0) hm (by omega) hn hn2 hK hi hix1 hix h9 n (by omega) (Nat.le_refl _)
      rw [Nat.sub_self, lf_0, if_pos rfl] at h0
      exact h0
    · have h9 := h _ rfl
      rw [if_neg hx] at h9
      exact m_searchH (s := u1 s 320 0) hm (by omega) hn hn2 hK hi (by omega) hx n 0 n (by omega) (by omega) (Nat.le_refl _) h9 (vl 0) (vl 0)
  · rw [bP_t ⟨t, ht, rfl⟩] at c
    exact c_11 c
end MSE
