/-! LAYER 2: the model's small methods. -/
/-- u1, u2 read -/
theorem u1_s {α : Type} (f : Nat → α) (a : Nat) (x : α) : u1 f a x a = x := if_pos rfl
theorem u1_o {α : Type} {f : Nat → α} {a b : Nat} {x : α} (h : b ≠ a) : u1 f a x b = f b := if_neg h
theorem u2_s {α : Type} (f : Nat → Nat → α) (a i : Nat) (x : α) : u2 f a i x a i = x := if_pos ⟨rfl, rfl⟩
theorem u2_o {α : Type} {f : Nat → Nat → α} {a i b : Nat} {x : α} (h : b ≠ a) (k : Nat) : u2 f a i x b k = f b k := if_neg (fun q => h q.1)
theorem u2_k {α : Type} {f : Nat → Nat → α} {a i k : Nat} {x : α} (h : k ≠ i) : u2 f a i x a k = f a k := if_neg (fun q => h q.2)
theorem lit_60 : (60 : Int32) = nI 60 := by decide +kernel
theorem lit_40 : (40 : Int32) = nI 40 := by decide +kernel
theorem lit_20 : (20 : Int32) = nI 20 := by decide +kernel
theorem lit_10 : (10 : Int32) = nI 10 := by decide +kernel
theorem lit_9 : (9 : Int32) = nI 9 := by decide +kernel
theorem lit_8 : (8 : Int32) = nI 8 := by decide +kernel
theorem lit_3 : (3 : Int32) = nI 3 := by decide +kernel
theorem lit_2 : (2 : Int32) = nI 2 := by decide +kernel
theorem lit_1 : (1 : Int32) = nI 1 := by decide +kernel
theorem lit_0 : (0 : Int32) = nI 0 := by decide +kernel
/-- the texts that the model has: N of them, their sizes z -/
def mZ (s : Nat → Int32) (m : Nat → Nat → Int32) (N : Nat) (z : Nat → Nat) : Prop := s 324 = nI N ∧ N ≤ 40 ∧ ∀ j, j < N → m 3 j = nI (z j) ∧ z j ≤ 60
section ML
variable {σ : iS} {M : Nat} {s : Nat → Int32} {m : Nat → Nat → Int32} {Q : iO → iS → Prop} {N : Nat} {z : Nat → Nat}
theorem m_thrown (hm : mS σ M) (h : Q (.inl (some (vi (s 320)))) (mw σ M s m)) : ca J_M_thrown [vr M] (mw σ M s m) Q :=
  b_M_thrown_0 ⟨hm.1, by rw [mw_i]; exact h⟩
theorem m_fails0 (hm : mS σ M) (h : Q (.inl (some (vi 0))) (mw σ M (u1 s 320 0) m)) : ca J_M_fails [vr M, vi 0, vi 0] (mw σ M s m) Q := by
  refine b_M_fails_0 ⟨fun _ => ⟨fun _ => b_M_fails_18 ⟨hm.1, fun σ1 h1 => ?_⟩, fun c => absurd rfl c⟩, fun c => absurd rfl c⟩
  subst h1
  rw [mw_wi, mw_i, u1_s]
  exact ⟨hm.1, fun _ => b_M_fails_33 ⟨Or.inl rfl, h⟩, fun c => absurd (by decide) c⟩
theorem m_fails1 (hm : mS σ M) {x y : Int32} (hx : x ≠ 0) (h : Q (.inl (some (vi 1))) (mw σ M (u1 s 320 1) m)) : ca J_M_fails [vr M, vi x, vi y] (mw σ M s m) Q := by
  refine b_M_fails_0 ⟨fun c => absurd c hx, fun _ => b_M_fails_18 ⟨hm.1, fun σ1 h1 => ?_⟩⟩
  subst h1
  rw [mw_wi, mw_i, u1_s]
  exact ⟨hm.1, fun c => absurd c (by decide), fun _ => b_M_fails_33 ⟨Or.inr rfl, h⟩⟩
theorem m_fails2 (hm : mS σ M) {y : Int32} (hy : y ≠ 0) (h : Q (.inl (some (vi 1))) (mw σ M (u1 s 320 2) m)) : ca J_M_fails [vr M, vi 0, vi y] (mw σ M s m) Q := by
  refine b_M_fails_0 ⟨fun _ => ⟨fun c => absurd c hy, fun _ => b_M_fails_18 ⟨hm.1, fun σ1 h1 => ?_⟩⟩, fun c => absurd rfl c⟩
  subst h1
  rw [mw_wi, mw_i, u1_s]
  exact ⟨hm.1, fun c => absurd c (by decide), fun _ => b_M_fails_33 ⟨Or.inr rfl, h⟩⟩
theorem m_isText (hm : mS σ M) (hz : s 324 = nI N) (hN : N ≤ 40) {x : Int32} (h : Q (.inl (some (vi (bP (∃ j, j < N ∧ x = nI j))))) (mw σ M s m)) : ca J_M_isText [vr M, vi x] (mw σ M s m) Q := by
  refine b_M_isText_0 ⟨fun c => ?_, fun c => ⟨hm.1, ?_⟩⟩
  · rw [bP_f (fun ⟨j, h1, h2⟩ => by subst h2; exact nI_pos (by omega) c)] at h
    exact b_M_isText_16 (b_M_isText_17 ⟨Or.inl rfl, h⟩)
  · obtain ⟨j, hj, rfl⟩ := n_of c
    rw [mw_i, hz, n_le (by omega) hj]
    refine ⟨fun c2 => ?_, fun c2 => ?_⟩
    · rw [bP_f (fun ⟨i, h1, h2⟩ => by rw [n_eq hj (by omega)] at h2; omega)] at h
      exact b_M_isText_16 (b_M_isText_17 ⟨Or.inl rfl, h⟩)
    · rw [bP_t ⟨j, by omega, rfl⟩] at h
      exact b_M_isText_17 ⟨Or.inr rfl, h⟩
theorem m_isFull (hm : mS σ M) (hz : mZ s m N z) {x : Int32} (h : Q (.inl (some (vi (bP (∃ j, (j < N ∧ x = nI j) ∧ 0 < z j))))) (mw σ M s m)) : ca J_M_isFull [vr M, vi x] (mw σ M s m) Q := by
  have hN := hz.2.1
  refine b_M_isFull_0 ⟨hm.1, m_isText hm hz.1 hN ⟨fun c => ?_, fun c => ⟨hm.1, ?_⟩⟩⟩
  · rw [bP_0] at c
    rw [bP_f (fun ⟨j, h1, _⟩ => c ⟨j, h1⟩)] at h
    exact b_M_isFull_21 (b_M_isFull_22 ⟨Or.inl rfl, h⟩)
  · rw [bP_0] at c
    obtain ⟨j, hj, rfl⟩ := Classical.not_not.mp c
    obtain ⟨z1, z2⟩ := hz.2.2 j hj
    rw [r_323 hm, k_323 hm, n_323 hm, a_323, nI_clamp (by omega), z1, lit_0, n_le (by omega) (by omega)]
    refine ⟨⟨rfl, n_in (by omega) (by decide)⟩, fun c2 => ?_, fun c2 => ?_⟩
    · rw [bP_f (fun ⟨i, ⟨h1, h2⟩, h3⟩ => by rw [n_eq (by omega) (by omega)] at h2; subst h2; omega)] at h
      exact b_M_isFull_21 (b_M_isFull_22 ⟨Or.inl rfl, h⟩)
    · rw [bP_t ⟨j, ⟨hj, rfl⟩, by omega⟩] at h
      exact b_M_isFull_22 ⟨Or.inr rfl, h⟩
theorem m_isPlace (hm : mS σ M) (hz : mZ s m N z) {x y : Int32} (h : Q (.inl (some (vi (bP (∃ j, (j < N ∧ x = nI j) ∧ ∃ k, k < z j ∧ y = nI k))))) (mw σ M s m)) : ca J_M_isPlace [vr M, vi x, vi y] (mw σ M s m) Q := by
  have hN := hz.2.1
  refine b_M_isPlace_0 ⟨hm.1, m_isText hm hz.1 hN ⟨fun c => ?_, fun c => ⟨fun c1 => ?_, fun c1 => ⟨hm.1, ?_⟩⟩⟩⟩
  · rw [bP_0] at c
    rw [bP_f (fun ⟨j, h1, _⟩ => c ⟨j, h1⟩)] at h
    exact b_M_isPlace_26 (b_M_isPlace_27 ⟨Or.inl rfl, h⟩)
  · rw [bP_f (fun ⟨j, ⟨h1, _⟩, k, h2, h3⟩ => by have := (hz.2.2 j h1).2; subst h3; exact nI_pos (by omega) c1)] at h
    exact b_M_isPlace_26 (b_M_isPlace_27 ⟨Or.inl rfl, h⟩)
  · rw [bP_0] at c
    obtain ⟨j, hj, rfl⟩ := Classical.not_not.mp c
    obtain ⟨k, hk, rfl⟩ := n_of c1
    obtain ⟨z1, z2⟩ := hz.2.2 j hj
    rw [r_323 hm, k_323 hm, n_323 hm, a_323, nI_clamp (by omega), z1, n_le (by omega) (by omega)]
    refine ⟨⟨rfl, n_in (by omega) (by decide)⟩, fun c2 => ?_, fun c2 => ?_⟩
    · rw [bP_f (fun ⟨i, ⟨h1, h2⟩, q, h3, h4⟩ => by rw [n_eq (by omega) (by omega)] at h2; subst h2; rw [n_eq hk (by omega)] at h4; omega)] at h
      exact b_M_isPlace_26 (b_M_isPlace_27 ⟨Or.inl rfl, h⟩)
    · rw [bP_t ⟨j, ⟨hj, rfl⟩, k, by omega, rfl⟩] at h
      exact b_M_isPlace_27 ⟨Or.inr rfl, h⟩
/-- the signs kept aside -/
def rmb (m : Nat → Nat → Int32) (p : Nat) : Nat → Nat → Int32 := fun c k => if c = 2 ∧ k < p then m 1 k else m c k
theorem rmb_0 (m : Nat → Nat → Int32) : rmb m 0 = m := by
  funext c k
  exact if_neg (fun q => Nat.not_lt_zero k q.2)
theorem rmb_n (m : Nat → Nat → Int32) (p : Nat) : u2 (rmb m p) 2 p (m 1 p) = rmb m (p + 1) := by
  funext c k
  unfold u2 rmb
  by_cases hc : c = 2
  · by_cases hk : k = p
    · simp [hc, hk]
    · by_cases hk2 : k < p
      · have hk3 : k < p + 1 := by omega
        simp [hc, hk, hk2, hk3]
      · have hk3 : ¬ k < p + 1 := by omega
        simp [hc, hk, hk2, hk3]
  · simp [hc]
theorem m_rememberL (hm : mS σ M) : ∀ d p, p + d = 2400 → Q (.inl none) (mw σ M s (rmb m 2400)) → wp J_M_remember 2 [vr M, vi (nI p)] [] (mw σ M s (rmb m p)) Q := by
  intro d
  induction d with
  | zero =>
    intro p hp h
    have hp : p = 2400 := by omega
    subst hp
    refine b_M_remember_2 ⟨hm.1, ?_⟩
    rw [r_322 hm, k_322 hm, n_322 hm, n_le (by decide) (by decide)]
    exact ⟨rfl, fun _ => h, fun c => by omega⟩
  | succ d ih =>
    intro p hp h
    refine b_M_remember_2 ⟨hm.1, ?_⟩
    rw [r_322 hm, r_321 hm, k_322 hm, n_322 hm, k_321 hm, n_321 hm, a_321, nI_clamp (by omega), n_le (by decide) (by omega), n_s1, w_322]
    refine ⟨rfl, fun c => by omega, fun _ => ⟨hm.1, hm.1, ⟨rfl, n_in (by omega) (by decide)⟩, ⟨rfl, n_in (by omega) (by decide)⟩, fun σ2 h2 => ?_⟩⟩
    subst h2
    have e : rmb m p 1 p = m 1 p := if_neg (fun q => absurd q.1 (by decide))
    rw [e, rmb_n]
    exact ih (p + 1) (by omega) h
theorem m_remember (hm : mS σ M) (h : Q (.inl none) (mw σ M s (rmb m 2400))) : ca J_M_remember [vr M] (mw σ M s m) Q := by
  refine b_M_remember_0 ?_
  have h0 := m_rememberL (Q := Q) (s := s) (m := m) hm 2400 0 (by omega) h
  rw [rmb_0] at h0
  exact h0
/-- a text in a square c (1: signs, 2: before) -/
def mX (m : Nat → Nat → Int32) (c i n : Nat) (f : Nat → Int32) : Prop := i < 40 ∧ m 3 i = nI n ∧ n ≤ 60 ∧ ∀ k, k < n → m c (60 * i + k) = f k
variable {i j n n' p e c : Nat} {f g : Nat → Int32}
theorem m_occursL (hm : mS σ M) (hc : c = 1 ∨ c = 2) (hi : mX m c i n' g) (hj : mX m c j n f) (he : e ≤ n) (hp : p + n' ≤ e) (h : Q (.inl (some (vi (bP (ocP f e g n' p))))) (mw σ M s m)) : ∀ d k, k + d = n' → (∀ q, q < k → f (p + q) = g q) → wp J_M_occurs 24 [vr M, vr (M + c), vi (nI i), vi (nI j), vi (nI p), vi (nI e), vi 1, vi (nI k)] [] (mw σ M s m) Q := by
  obtain ⟨i1, i2, i3, i4⟩ := hi
  obtain ⟨j1, j2, j3, j4⟩ := hj
  have hk1 : sK (mw σ M s m) (M + c) = 101 := by rcases hc with rfl | rfl; exact k_321 hm; exact k_322 hm
  have hn1 : sN (mw σ M s m) (M + c) = 2400 := by rcases hc with rfl | rfl; exact n_321 hm; exact n_322 hm
  have ha1 : ∀ k, sA (mw σ M s m) (M + c) k = m c k := fun k => by rcases hc with rfl | rfl; exact a_321 k; exact a_322 k
  intro d
  induction d with
  | zero =>
    intro k hk hq
    have hk : k = n' := by omega
    subst hk
    refine b_M_occurs_24 ⟨hm.1, ?_⟩
    rw [r_323 hm, k_323 hm, n_323 hm, a_323, nI_clamp (by omega), i2, n_le (by omega) (by omega)]
    refine ⟨⟨rfl, n_in (by omega) (by decide)⟩, fun _ => b_M_occurs_77 ⟨Or.inr rfl, ?_⟩, fun c => by omega⟩
    rw [bP_t ⟨hp, hq⟩] at h
    exact h
  | succ d ih =>
    intro k hk hq
    refine b_M_occurs_24 ⟨hm.1, ?_⟩
    rw [r_323 hm, k_323 hm, n_323 hm, a_323, nI_clamp (by omega), i2, n_le (by omega) (by omega), hk1, hn1, lit_60, n_mul, n_mul, nI_add, nI_add, nI_add, ha1, ha1, nI_clamp (by omega), nI_clamp (by omega)]
    refine ⟨⟨rfl, n_in (by omega) (by decide)⟩, fun c => by omega, fun _ => ⟨fun c => absurd c (by decide), fun _ => ⟨⟨rfl, n_in (by omega) (by decide)⟩, ⟨rfl, n_in (by omega) (by decide)⟩, fun c3 => b_M_occurs_69 ?_, fun c3 => b_M_occurs_69 ?_⟩⟩⟩
    · rw [i4 k (by omega), Nat.add_assoc, j4 (p + k) (by omega)] at c3
      rw [bP_f (fun z => c3 (z.2 k (by omega)).symm)] at h
      refine b_M_occurs_24 ⟨hm.1, ?_⟩
      rw [r_323 hm, k_323 hm, n_323 hm]
      exact ⟨⟨rfl, n_in (by omega) (by decide)⟩, fun _ => b_M_occurs_77 ⟨Or.inl rfl, h⟩, fun _ => ⟨fun _ => b_M_occurs_77 ⟨Or.inl rfl, h⟩, fun c => absurd rfl c⟩⟩
    · have c3 := Classical.not_not.mp c3
      rw [i4 k (by omega), Nat.add_assoc, j4 (p + k) (by omega)] at c3
      rw [n_s1]
      refine ih (k + 1) (by omega) (fun q h1 => ?_)
      by_cases h2 : q = k
      · subst h2; exact c3.symm
      · exact hq q (by omega)
theorem m_occurs (hm : mS σ M) (hc : c = 1 ∨ c = 2) (hi : mX m c i n' g) (hj : mX m c j n f) (he : e ≤ n) (hp : p ≤ 60) (h : Q (.inl (some (vi (bP (ocP f e g n' p))))) (mw σ M s m)) : ca J_M_occurs [vr M, vr (M + c), vi (nI i), vi (nI j), vi (nI p), vi (nI e)] (mw σ M s m) Q := by
  obtain ⟨i1, i2, i3, i4⟩ := id hi
  obtain ⟨j1, j2, j3, j4⟩ := id hj
  refine b_M_occurs_0 ⟨hm.1, ?_⟩
  rw [r_323 hm, k_323 hm, n_323 hm, a_323, nI_clamp (by omega), i2, nI_add, n_lt (by omega) (by omega)]
  refine ⟨⟨rfl, n_in (by omega) (by decide)⟩, fun c2 => b_M_occurs_19 ?_, fun c2 => b_M_occurs_19 ?_⟩
  · rw [bP_f (fun z => by have := z.1; omega)] at h
    refine b_M_occurs_24 ⟨hm.1, ?_⟩
    rw [r_323 hm, k_323 hm, n_323 hm]
    exact ⟨⟨rfl, n_in (by omega) (by decide)⟩, fun _ => b_M_occurs_77 ⟨Or.inl rfl, h⟩, fun _ => ⟨fun _ => b_M_occurs_77 ⟨Or.inl rfl, h⟩, fun c => absurd rfl c⟩⟩
  · exact m_occursL hm hc hi hj he (by omega) h n' 0 (by omega) (fun q hq => by omega)
theorem m_firstL (hm : mS σ M) (hc : c = 1 ∨ c = 2) (hi : mX m c i n' g) (hj : mX m c j n f) : ∀ d p, p + d = n → Q (.inl (some (vi (en n (lf (ocP f n g n') d p))))) (mw σ M s m) → wp J_M_first 3 [vr M, vr (M + c), vi (nI i), vi (nI j), vi (nI p)] [] (mw σ M s m) Q := by
  obtain ⟨j1, j2, j3, j4⟩ := id hj
  intro d
  induction d with
  | zero =>
    intro p hp h
    have hp : p = n := by omega
    subst hp
    refine b_M_first_3 ⟨hm.1, ?_⟩
    rw [r_323 hm, k_323 hm, n_323 hm, a_323, nI_clamp (by omega), j2, n_le (by omega) (by omega)]
    rw [lf_0, en_N] at h
    exact ⟨⟨rfl, n_in (by omega) (by decide)⟩, fun _ => h, fun c => by omega⟩
  | succ d ih =>
    intro p hp h
    refine b_M_first_3 ⟨hm.1, ?_⟩
    rw [r_323 hm, k_323 hm, n_323 hm, a_323, nI_clamp (by omega), j2, n_le (by omega) (by omega)]
    refine ⟨⟨rfl, n_in (by omega) (by decide)⟩, fun c => by omega, fun _ => ⟨hm.1, ⟨rfl, n_in (by omega) (by decide)⟩, hm.1, m_occurs hm hc hi hj (Nat.le_refl _) (by omega) ⟨fun c2 => ?_, fun c2 => ?_⟩⟩⟩
    · rw [bP_0] at c2
      rw [lf_f c2] at h
      rw [n_s1]
      exact ih (p + 1) (by omega) h
    · rw [bP_0] at c2
      rw [lf_t (Classical.not_not.mp c2), en_r (by omega)] at h
      exact h
theorem m_first (hm : mS σ M) (hc : c = 1 ∨ c = 2) (hi : mX m c i n' g) (hj : mX m c j n f) (h : Q (.inl (some (vi (en n (lf (ocP f n g n') n 0))))) (mw σ M s m)) : ca J_M_first [vr M, vr (M + c), vi (nI i), vi (nI j)] (mw σ M s m) Q :=
  b_M_first_0 (m_firstL hm hc hi hj n 0 (by omega) h)
/-- a bound as the model has it: -1, or a text -/
def mO' (m : Nat → Nat → Int32) (c : Nat) (x : Int32) (o : Bool) (n' : Nat) (g : Nat → Int32) : Prop := (o = false → x = -1) ∧ (o = true → ∃ i, x = nI i ∧ mX m c i n' g)
variable {o : Bool}
theorem m_beginOf (hm : mS σ M) (hj : mX m 2 j n f) {x : Int32} (hx : mO' m 2 x o n' g) (h : Q (.inl (some (vi (nI (rb f n o g n'))))) (mw σ M s m)) : ca J_M_beginOf [vr M, vi (nI j), vi x] (mw σ M s m) Q := by
  obtain ⟨j1, j2, j3, j4⟩ := id hj
  cases o with
  | false =>
    rw [hx.1 rfl]
    refine b_M_beginOf_0 ⟨fun c => absurd rfl c, fun _ => ?_⟩
    unfold rb at h
    rw [if_neg (by decide)] at h
    exact h
  | true =>
    obtain ⟨i, rfl, hi⟩ := hx.2 rfl
    obtain ⟨i1, i2, i3, i4⟩ := id hi
    have hl := lf_le (ocP f n g n') n 0
    refine b_M_beginOf_0 ⟨fun _ => ⟨hm.1, hm.1, ?_⟩, fun c => absurd (n_m1 (by omega)) c⟩
    rw [r_322 hm]
    refine m_first hm (Or.inr rfl) hi hj ?_
    dsimp only [cI]
    rw [r_323 hm, k_323 hm, n_323 hm, a_323, a_323, nI_clamp (by omega), nI_clamp (by omega), i2, j2]
    unfold rb at h
    rw [if_pos rfl] at h
    by_cases e : lf (ocP f n g n') n 0 = n
    · rw [e, en_N]
      rw [if_pos e] at h
      exact ⟨fun c => absurd rfl c, fun _ => ⟨hm.1, ⟨rfl, n_in (by omega) (by decide)⟩, b_M_beginOf_40 h⟩⟩
    · rw [en_r e, nI_add]
      rw [if_neg e] at h
      exact ⟨fun _ => ⟨hm.1, ⟨rfl, n_in (by omega) (by decide)⟩, b_M_beginOf_40 h⟩, fun c => absurd (n_m1 (by omega)) c⟩
theorem m_endOf (hm : mS σ M) (hj : mX m 2 j n f) {x : Int32} (hx : mO' m 2 x o n' g) (h : Q (.inl (some (vi (nI (re f n o g n'))))) (mw σ M s m)) : ca J_M_endOf [vr M, vi (nI j), vi x] (mw σ M s m) Q := by
  obtain ⟨j1, j2, j3, j4⟩ := id hj
  have none : re f n o g n' = n → wp J_M_endOf 19 [vr M, vi (nI j), vi x, vl 0] [vi (-1 : Int32)] (mw σ M s m) Q := by
    intro e
    refine b_M_endOf_19 ⟨fun c => absurd rfl c, fun _ => ⟨hm.1, ?_⟩⟩
    rw [r_323 hm, k_323 hm, n_323 hm, a_323, nI_clamp (by omega), j2]
    rw [e] at h
    exact ⟨⟨rfl, n_in (by omega) (by decide)⟩, b_M_endOf_35 h⟩
  cases o with
  | false =>
    rw [hx.1 rfl] at none ⊢
    exact b_M_endOf_0 ⟨fun c => absurd rfl c, fun _ => none rfl⟩
  | true =>
    obtain ⟨i, rfl, hi⟩ := hx.2 rfl
    obtain ⟨i1, i2, i3, i4⟩ := id hi
    have hl := lf_le (ocP f n g n') n 0
    refine b_M_endOf_0 ⟨fun _ => ⟨hm.1, hm.1, ?_⟩, fun c => absurd (n_m1 (by omega)) c⟩
    rw [r_322 hm]
    refine m_first hm (Or.inr rfl) hi hj ?_
    by_cases e : lf (ocP f n g n') n 0 = n
    · rw [e, en_N]
      exact none e
    · rw [en_r e]
      exact b_M_endOf_19 ⟨fun _ => b_M_endOf_35 h, fun c => absurd (n_m1 (by omega)) c⟩
theorem m_isTable (hm : mS σ M) (hz : s 352 = nI N) (hN : N ≤ 10) {x : Int32} (h : Q (.inl (some (vi (bP (∃ j, j < N ∧ x = nI j))))) (mw σ M s m)) : ca J_M_isTable [vr M, vi x] (mw σ M s m) Q := by
  refine b_M_isTable_0 ⟨fun c => ?_, fun c => ⟨hm.1, ?_⟩⟩
  · rw [bP_f (fun ⟨j, h1, h2⟩ => by subst h2; exact nI_pos (by omega) c)] at h
    exact b_M_isTable_16 (b_M_isTable_17 ⟨Or.inl rfl, h⟩)
  · obtain ⟨j, hj, rfl⟩ := n_of c
    rw [mw_i, hz, n_le (by omega) hj]
    refine ⟨fun c2 => ?_, fun c2 => ?_⟩
    · rw [bP_f (fun ⟨i, h1, h2⟩ => by rw [n_eq hj (by omega)] at h2; omega)] at h
      exact b_M_isTable_16 (b_M_isTable_17 ⟨Or.inl rfl, h⟩)
    · rw [bP_t ⟨j, by omega, rfl⟩] at h
      exact b_M_isTable_17 ⟨Or.inr rfl, h⟩
theorem m_isRow (hm : mS σ M) (hz : s 352 = nI N) (hN : N ≤ 10) (hr : ∀ j, j < N → m 22 j = nI (z j) ∧ z j ≤ 60) {x y : Int32} (h : Q (.inl (some (vi (bP (∃ j, (j < N ∧ x = nI j) ∧ ∃ k, k < z j ∧ y = nI (k + 1)))))) (mw σ M s m)) : ca J_M_isRow [vr M, vi x, vi y] (mw σ M s m) Q := by
  refine b_M_isRow_0 ⟨hm.1, m_isTable hm hz hN ⟨fun c => ?_, fun c => ⟨fun c1 => ?_, fun c1 => ⟨hm.1, ?_⟩⟩⟩⟩
  · rw [bP_0] at c
    rw [bP_f (fun ⟨j, h1, _⟩ => c ⟨j, h1⟩)] at h
    exact b_M_isRow_27 (b_M_isRow_28 ⟨Or.inl rfl, h⟩)
  · rw [bP_f (fun ⟨j, ⟨h1, _⟩, k, h2, h3⟩ => by have := (hr j h1).2; subst h3; rw [lit_1, n_lt (by omega) (by decide)] at c1; omega)] at h
    exact b_M_isRow_27 (b_M_isRow_28 ⟨Or.inl rfl, h⟩)
  · rw [bP_0] at c
    obtain ⟨j, hj, rfl⟩ := Classical.not_not.mp c
    have hy : ¬ y < 0 := fun q => c1 (Int32.lt_trans q (by decide))
    obtain ⟨k, hk, rfl⟩ := n_of hy
    rw [lit_1, n_lt hk (by decide)] at c1
    obtain ⟨z1, z2⟩ := hr j hj
    rw [r_350 hm, k_350 hm, n_350 hm, a_350, nI_clamp (by omega), z1, n_lt (by omega) (by omega)]
    refine ⟨⟨rfl, n_in (by omega) (by decide)⟩, fun c2 => ?_, fun c2 => ?_⟩
    · rw [bP_f (fun ⟨i, ⟨h1, h2⟩, q, h3, h4⟩ => by rw [n_eq (by omega) (by omega)] at h2; subst h2; rw [n_eq hk (by omega)] at h4; omega)] at h
      exact b_M_isRow_27 (b_M_isRow_28 ⟨Or.inl rfl, h⟩)
    · rw [bP_t ⟨j, ⟨hj, rfl⟩, k - 1, by omega, by rw [show k - 1 + 1 = k by omega]⟩] at h
      exact b_M_isRow_28 ⟨Or.inr rfl, h⟩
end ML
