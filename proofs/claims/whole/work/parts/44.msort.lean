/-! LAYER 2: order, permutations; sort of the model. -/
def le2 (x a b : Int32) : Prop := if x = 0 then a ≤ b else b ≤ a
theorem le2_t {x a b c : Int32} (h1 : le2 x a b) (h2 : le2 x b c) : le2 x a c := by
  unfold le2 at h1 h2 ⊢
  by_cases q : x = 0
  · rw [if_pos q] at h1 h2 ⊢; exact Int32.le_trans h1 h2
  · rw [if_neg q] at h1 h2 ⊢; exact Int32.le_trans h2 h1
theorem le2_a {x a b : Int32} (h1 : le2 x a b) (h2 : le2 x b a) : a = b := by
  unfold le2 at h1 h2
  by_cases q : x = 0
  · rw [if_pos q] at h1 h2; exact Int32.le_antisymm h1 h2
  · rw [if_neg q] at h1 h2; exact Int32.le_antisymm h2 h1
theorem le2_n {x a b : Int32} (h : ¬ le2 x a b) : le2 x b a := by
  unfold le2 at h ⊢
  by_cases q : x = 0
  · rw [if_pos q] at h ⊢; exact Int32.le_of_lt (Int32.not_le.mp h)
  · rw [if_neg q] at h ⊢; exact Int32.le_of_lt (Int32.not_le.mp h)
theorem le2_r (x a : Int32) : le2 x a a := by
  unfold le2
  by_cases q : x = 0
  · rw [if_pos q]; exact Int32.le_refl a
  · rw [if_neg q]; exact Int32.le_refl a
/-- how often v is among the first n -/
def iv (a v : Int32) : Nat := if a = v then 1 else 0
def cnt (f : Nat → Int32) : Nat → Int32 → Nat
  | 0, _ => 0
  | n + 1, v => cnt f n v + iv (f n) v
theorem cnt_c {f g : Nat → Int32} : ∀ (n : Nat) (v : Int32), (∀ k, k < n → f k = g k) → cnt f n v = cnt g n v
  | 0, _, _ => rfl
  | n + 1, v, h => by
    show cnt f n v + iv (f n) v = cnt g n v + iv (g n) v
    rw [cnt_c n v (fun k hk => h k (by omega)), h n (by omega)]
theorem cnt_u {f : Nat → Int32} {x v : Int32} : ∀ (n k : Nat), k < n → cnt (u1 f k x) n v + iv (f k) v = cnt f n v + iv x v
  | 0, k, h => by omega
  | n + 1, k, h => by
    show cnt (u1 f k x) n v + iv (u1 f k x n) v + iv (f k) v = cnt f n v + iv (f n) v + iv x v
    by_cases e : k = n
    · subst e
      rw [u1_s, cnt_c (g := f) k v (fun q hq => u1_o (by omega))]
      omega
    · have h1 := cnt_u (f := f) (x := x) (v := v) n k (by omega)
      rw [u1_o (fun q => e q.symm)]
      omega
theorem cnt_s {f : Nat → Int32} {n j : Nat} (h : j + 1 < n) (v : Int32) : cnt (u1 (u1 f j (f (j + 1))) (j + 1) (f j)) n v = cnt f n v := by
  have h1 := cnt_u (f := f) (x := f (j + 1)) (v := v) n j (by omega)
  have h2 := cnt_u (f := u1 f j (f (j + 1))) (x := f j) (v := v) n (j + 1) h
  rw [u1_o (by omega)] at h2
  omega
theorem cnt_p {f : Nat → Int32} {v : Int32} : ∀ n, 0 < cnt f n v → ∃ i, i < n ∧ f i = v
  | 0, h => absurd h (Nat.lt_irrefl 0)
  | n + 1, h => by
    have h : 0 < cnt f n v + iv (f n) v := h
    by_cases e : f n = v
    · exact ⟨n, by omega, e⟩
    · have e2 : iv (f n) v = 0 := if_neg e
      obtain ⟨i, h1, h2⟩ := cnt_p (f := f) (v := v) n (by omega)
      exact ⟨i, by omega, h2⟩
theorem cnt_1 {f : Nat → Int32} {n : Nat} : 0 < cnt f (n + 1) (f n) := by
  show 0 < cnt f n (f n) + iv (f n) (f n)
  have e : iv (f n) (f n) = 1 := if_pos rfl
  omega
def srt (x : Int32) (n : Nat) (f : Nat → Int32) : Prop := ∀ p q, p < q → q < n → le2 x (f p) (f q)
/-- two rows in order, with the same elements, are one -/
theorem srt_u {x : Int32} {f g : Nat → Int32} : ∀ n, srt x n f → srt x n g → (∀ v, cnt f n v = cnt g n v) → ∀ k, k < n → f k = g k
  | 0, _, _, _, k, hk => by omega
  | n + 1, hf, hg, hc, k, hk => by
    have hl : ∀ i, i < n + 1 → le2 x (f i) (f n) := fun i hi => by
      by_cases e : i = n
      · subst e; exact le2_r x _
      · exact hf i n (by omega) (by omega)
    have hl' : ∀ i, i < n + 1 → le2 x (g i) (g n) := fun i hi => by
      by_cases e : i = n
      · subst e; exact le2_r x _
      · exact hg i n (by omega) (by omega)
    obtain ⟨i, i1, i2⟩ := cnt_p (f := g) (v := f n) (n + 1) (by rw [← hc]; exact cnt_1)
    obtain ⟨j, j1, j2⟩ := cnt_p (f := f) (v := g n) (n + 1) (by rw [hc]; exact cnt_1)
    have e : f n = g n := le2_a (by rw [← i2]; exact hl' i i1) (by rw [← j2]; exact hl j j1)
    by_cases hkn : k = n
    · rw [hkn]; exact e
    · refine srt_u n (fun p q h1 h2 => hf p q h1 (by omega)) (fun p q h1 h2 => hg p q h1 (by omega)) (fun v => ?_) k (by omega)
      have h1 : cnt f n v + iv (f n) v = cnt g n v + iv (g n) v := hc v
      rw [e] at h1
      omega
/-- table t's keys are f -/
def kW (m : Nat → Nat → Int32) (t n : Nat) (f : Nat → Int32) : Nat → Nat → Int32 := fun c k => if c = 21 ∧ 60 * t ≤ k ∧ k < 60 * t + n then f (k - 60 * t) else m c k
theorem kW_o {m : Nat → Nat → Int32} {t n c : Nat} {f : Nat → Int32} (hc : c ≠ 21) (k : Nat) : kW m t n f c k = m c k := if_neg (fun q => hc q.1)
theorem kW_i {m : Nat → Nat → Int32} {t n q : Nat} {f : Nat → Int32} (hq : q < n) : kW m t n f 21 (60 * t + q) = f q := by
  unfold kW
  rw [if_pos ⟨rfl, by omega, by omega⟩, Nat.add_sub_cancel_left]
theorem kW_u {m : Nat → Nat → Int32} {t n q : Nat} {f : Nat → Int32} {v : Int32} (hq : q < n) : u2 (kW m t n f) 21 (60 * t + q) v = kW m t n (u1 f q v) := by
  funext c k
  unfold u2 kW u1
  by_cases hc : c = 21
  · by_cases hk : k = 60 * t + q
    · have h1 : 60 * t ≤ k ∧ k < 60 * t + n := by omega
      have h2 : k - 60 * t = q := by omega
      rw [if_pos ⟨hc, hk⟩, if_pos ⟨hc, h1⟩, if_pos h2]
    · by_cases h1 : 60 * t ≤ k ∧ k < 60 * t + n
      · have h2 : ¬ k - 60 * t = q := by omega
        rw [if_neg (fun z => hk z.2), if_pos ⟨hc, h1⟩, if_pos ⟨hc, h1⟩, if_neg h2]
      · rw [if_neg (fun z => hk z.2), if_neg (fun z => h1 z.2), if_neg (fun z => h1 z.2)]
  · rw [if_neg (fun z => hc z.1), if_neg (fun z => hc z.1), if_neg (fun z => hc z.1)]
theorem kW_s {m : Nat → Nat → Int32} {t n : Nat} : kW m t n (fun k => m 21 (60 * t + k)) = m := by
  funext c k
  unfold kW
  by_cases hc : c = 21 ∧ 60 * t ≤ k ∧ k < 60 * t + n
  · rw [if_pos hc, hc.1]
    show m 21 (60 * t + (k - 60 * t)) = m 21 k
    rw [show 60 * t + (k - 60 * t) = k by omega]
  · rw [if_neg hc]
theorem u1_i {α : Type} (f : Nat → α) (a : Nat) : u1 f a (f a) = f := by
  funext k
  unfold u1
  by_cases h : k = a
  · rw [if_pos h, h]
  · rw [if_neg h]
def bq (x : Int32) (n i : Nat) (f : Nat → Int32) : Prop := ∀ p q, p < q → q < n → n < q + i → le2 x (f p) (f q)
section SO
variable {σ : iS} {M : Nat} {s : Nat → Int32} {m : Nat → Nat → Int32} {Q : iO → iS → Prop} {N t n : Nat} {x2 : Int32}
theorem m_sort1 (hm : mS σ M) (hz : s 352 = nI N) (hN : N ≤ 10) {x y : Int32} (hx : ¬ ∃ j, j < N ∧ x = nI j) (h : Q (.inl none) (mw σ M (u1 s 320 1) m)) : ca J_M_sort [vr M, vi x, vi y] (mw σ M s m) Q := by
  refine b_M_sort_0 ⟨hm.1, m_isTable hm hz hN ⟨fun c => ?_, fun _ => b_M_sort_14 ⟨hm.1, m_fails1 hm (by decide) ⟨fun c => c_10 c, fun _ => h⟩⟩⟩⟩
  rw [bP_f hx] at c
  exact c_00 c
theorem m_sort109 (hm : mS σ M) (ht : t < 10) (hn2 : n ≤ 60) {x3 : Int32} {j : Nat} (hj : j + 1 < n) {f : Nat → Int32} {tr : Int32} (htr : tr = 0 ∨ tr = 1) {l7 : iV}
    (h : ∀ l5 l6 l7 : iV, wp J_M_sort 40 [vr M, vi (nI t), vi x2, vi x3, vi (nI (60 * t + (j + 1))), l5, l6, l7] [] (mw σ M s (kW m t n (if tr = 0 then f else u1 (u1 f j (f (j + 1))) (j + 1) (f j)))) Q) :
    wp J_M_sort 109 [vr M, vi (nI t), vi x2, vi x3, vi (nI (60 * t + j)), vi (f j), vi (f (j + 1)), l7] [vi tr] (mw σ M s (kW m t n f)) Q := by
  have go : ∀ x y : Int32, (if tr = 0 then f else u1 (u1 f j (f (j + 1))) (j + 1) (f j)) = u1 (u1 f j x) (j + 1) y → wp J_M_sort 150 [vr M, vi (nI t), vi x2, vi x3, vi (nI (60 * t + j)), vi (f j), vi (f (j + 1)), vi tr] [vi y, vi (nI (60 * t + j) + (1 : Int32)), vr (M + 21)] (mw σ M s (kW m t n (u1 f j x))) Q := by
    intro x y e
    refine b_M_sort_150 ?_
    rw [k_349 hm, n_349 hm, n_s1, nI_clamp (by omega), w_349, show 60 * t + j + 1 = 60 * t + (j + 1) by omega, kW_u hj, ← e]
    refine ⟨⟨rfl, n_in (by omega) (by decide)⟩, fun σ1 h1 => ?_⟩
    subst h1
    exact h _ _ _
  refine b_M_sort_109 ⟨hm.1, ?_⟩
  rw [r_349 hm]
  refine ⟨fun c => b_M_sort_129 ?_, fun c => b_M_sort_129 ?_⟩
  · rw [k_349 hm, n_349 hm, nI_clamp (by omega), w_349, kW_u (by omega)]
    refine ⟨⟨rfl, n_in (by omega) (by decide)⟩, fun σ1 h1 => ?_⟩
    subst h1
    rw [r_349 hm]
    refine ⟨hm.1, fun _ => go _ _ ?_, fun q => absurd c q⟩
    rw [if_pos c, u1_i]
    exact (u1_i f (j + 1)).symm
  · rw [k_349 hm, n_349 hm, nI_clamp (by omega), w_349, kW_u (by omega)]
    refine ⟨⟨rfl, n_in (by omega) (by decide)⟩, fun σ1 h1 => ?_⟩
    subst h1
    rw [r_349 hm]
    refine ⟨hm.1, fun q => absurd q c, fun _ => go _ _ ?_⟩
    rw [if_neg c]
theorem m_sort40 (hm : mS σ M) (ht : t < 10) (hn : m 22 t = nI n) (hn2 : n ≤ 60) {i : Nat} (hi : 1 ≤ i) (K : Nat → Int32)
    (h : ∀ f, bq x2 n (i + 1) f → (∀ v, cnt f n v = cnt K n v) → ∀ l4 l5 l6 l7 : iV, wp J_M_sort 24 [vr M, vi (nI t), vi x2, vi (nI (i + 1)), l4, l5, l6, l7] [] (mw σ M s (kW m t n f)) Q) :
    ∀ d j f, j + d + i = n → bq x2 n i f → (∀ p, p < j → le2 x2 (f p) (f j)) → (∀ v, cnt f n v = cnt K n v) → ∀ l5 l6 l7 : iV, wp J_M_sort 40 [vr M, vi (nI t), vi x2, vi (nI i), vi (nI (60 * t + j)), l5, l6, l7] [] (mw σ M s (kW m t n f)) Q := by
  intro d
  induction d with
  | zero =>
    intro j f hd hb hp hc l5 l6 l7
    refine b_M_sort_40 ⟨hm.1, ?_⟩
    rw [r_350 hm, k_350 hm, n_350 hm, a_350, nI_clamp (by omega), kW_o (by decide), hn, lit_60, n_mul, nI_add, n_sub (by omega), n_le (by omega) (by omega), n_s1]
    refine ⟨⟨rfl, n_in (by omega) (by decide)⟩, fun _ => h f (fun p q h1 h2 h3 => ?_) hc _ _ _ _, fun c => by omega⟩
    by_cases e : n < q + i
    · exact hb p q h1 h2 e
    · have e : q = j := by omega
      subst e
      exact hp p h1
  | succ d ih =>
    intro j f hd hb hp hc l5 l6 l7
    refine b_M_sort_40 ⟨hm.1, ?_⟩
    rw [r_350 hm, k_350 hm, n_350 hm, a_350, r_349 hm, k_349 hm, n_349 hm, nI_clamp (by omega), kW_o (by decide), hn, lit_60, n_mul, nI_add, n_sub (by omega), n_le (by omega) (by omega), nI_clamp (by omega), n_s1, n_s1, nI_clamp (by omega), a_349, a_349, kW_i (by omega), show 60 * t + j + 1 = 60 * t + (j + 1) by omega, kW_i (by omega)]
    have no : le2 x2 (f j) (f (j + 1)) → wp J_M_sort 109 [vr M, vi (nI t), vi x2, vi (nI i), vi (nI (60 * t + j)), vi (f j), vi (f (j + 1)), l7] [vi 0] (mw σ M s (kW m t n f)) Q := fun c => by
      refine m_sort109 hm ht hn2 (by omega) (Or.inl rfl) (fun l5 l6 l7 => ?_)
      rw [if_pos rfl]
      refine ih (j + 1) f (by omega) hb (fun p h1 => ?_) hc _ _ _
      by_cases e : p = j
      · subst e; exact c
      · exact le2_t (hp p (by omega)) c
    have yes : ¬ le2 x2 (f j) (f (j + 1)) → wp J_M_sort 109 [vr M, vi (nI t), vi x2, vi (nI i), vi (nI (60 * t + j)), vi (f j), vi (f (j + 1)), l7] [vi 1] (mw σ M s (kW m t n f)) Q := fun c => by
      refine m_sort109 hm ht hn2 (by omega) (Or.inr rfl) (fun l5 l6 l7 => ?_)
      rw [if_neg (by decide)]
      refine ih (j + 1) _ (by omega) (fun p q h1 h2 h3 => ?_) (fun p h1 => ?_) (fun v => ?_) _ _ _
      · rw [u1_o (show q ≠ j + 1 by omega), u1_o (show q ≠ j by omega)]
        by_cases e1 : p = j + 1
        · subst e1; rw [u1_s]; exact hb j q (by omega) h2 h3
        · by_cases e2 : p = j
          · subst e2; rw [u1_o (by omega), u1_s]; exact hb (p + 1) q (by omega) h2 h3
          · rw [u1_o e1, u1_o e2]; exact hb p q h1 h2 h3
      · rw [u1_s]
        by_cases e : p = j
        · subst e; rw [u1_o (by omega), u1_s]; exact le2_n c
        · rw [u1_o (show p ≠ j + 1 by omega), u1_o e]; exact hp p (by omega)
      · rw [cnt_s (by omega)]; exact hc v
    refine ⟨⟨rfl, n_in (by omega) (by decide)⟩, fun c => by omega, fun _ => ⟨hm.1, ⟨rfl, n_in (by omega) (by decide)⟩, hm.1, ⟨rfl, n_in (by omega) (by decide)⟩, fun c => ⟨fun c2 => no ?_, fun c2 => yes ?_⟩, fun c => ⟨fun c2 => no ?_, fun c2 => yes ?_⟩⟩⟩
    · unfold le2; rw [if_pos c]; exact c2
    · unfold le2; rw [if_pos c]; exact c2
    · unfold le2; rw [if_neg c]; exact c2
    · unfold le2; rw [if_neg c]; exact c2
theorem m_sort24 (hm : mS σ M) (ht : t < 10) (hn : m 22 t = nI n) (hn2 : n ≤ 60) (K : Nat → Int32) (h : ∀ f, srt x2 n f → (∀ v, cnt f n v = cnt K n v) → Q (.inl none) (mw σ M s (kW m t n f))) :
    ∀ d i f, i + d = n → 1 ≤ i → bq x2 n i f → (∀ v, cnt f n v = cnt K n v) → ∀ l4 l5 l6 l7 : iV, wp J_M_sort 24 [vr M, vi (nI t), vi x2, vi (nI i), l4, l5, l6, l7] [] (mw σ M s (kW m t n f)) Q := by
  intro d
  induction d with
  | zero =>
    intro i f hd hi hb hc l4 l5 l6 l7
    refine b_M_sort_24 ⟨hm.1, ?_⟩
    rw [r_350 hm, k_350 hm, n_350 hm, a_350, nI_clamp (by omega), kW_o (by decide), hn, n_le (by omega) (by omega)]
    exact ⟨⟨rfl, n_in (by omega) (by decide)⟩, fun _ => h f (fun p q h1 h2 => hb p q h1 h2 (by omega)) hc, fun c => by omega⟩
  | succ d ih =>
    intro i f hd hi hb hc l4 l5 l6 l7
    refine b_M_sort_24 ⟨hm.1, ?_⟩
    rw [r_350 hm, k_350 hm, n_350 hm, a_350, nI_clamp (by omega), kW_o (by decide), hn, n_le (by omega) (by omega), lit_60, n_mul]
    refine ⟨⟨rfl, n_in (by omega) (by decide)⟩, fun c => by omega, fun _ => ?_⟩
    exact m_sort40 hm ht hn hn2 hi K (fun f' b1 b2 l4 l5 l6 l7 => ih (i + 1) f' (by omega) (by omega) b1 b2 l4 l5 l6 l7) (n - i) 0 f (by omega) hb (fun p hp => by omega) hc _ _ _
theorem m_sort0 (hm : mS σ M) (hz : s 352 = nI N) (hN : N ≤ 10) (ht : t < N) (hn : m 22 t = nI n) (hn1 : 1 ≤ n) (hn2 : n ≤ 60) (h : ∀ f, srt x2 n f → (∀ v, cnt f n v = cnt (fun k => m 21 (60 * t + k)) n v) → Q (.inl none) (mw σ M (u1 s 320 0) (kW m t n f))) : ca J_M_sort [vr M, vi (nI t), vi x2] (mw σ M s m) Q := by
  refine b_M_sort_0 ⟨hm.1, m_isTable hm hz hN ⟨fun _ => b_M_sort_14 ⟨hm.1, m_fails0 hm ⟨fun _ => ?_, fun c => absurd rfl c⟩⟩, fun c => ?_⟩⟩
  · have h0 := m_sort24 (s := u1 s 320 0) (m := m) (x2 := x2) hm (show t < 10 by omega) hn hn2 (fun k => m 21 (60 * t + k)) h (n - 1) 1 (fun k => m 21 (60 * t + k)) (by omega) (by omega) (fun p q h1 h2 h3 => by omega) (fun v => rfl) (vl 0) (vl 0) (vl 0) (vl 0)
    rw [kW_s] at h0
    exact h0
  · rw [bP_t ⟨t, ht, rfl⟩] at c
    exact c_11 c
end SO
