/-! LAYER 2: the model's calls that have no search in them. -/
theorem c_10 {P : Prop} (h : (1 : Int32) = 0) : P := absurd h (by decide)
theorem c_11 {P : Prop} (h : ¬ ((1 : Int32) ≠ 0)) : P := absurd (by decide) h
theorem c_00 {P : Prop} (h : (0 : Int32) ≠ 0) : P := absurd rfl h
section MP
variable {σ : iS} {M : Nat} {s : Nat → Int32} {m : Nat → Nat → Int32} {Q : iO → iS → Prop} {N : Nat} {z : Nat → Nat}
/-! text -/
def tm (m : Nat → Nat → Int32) (N p : Nat) : Nat → Nat → Int32 := fun c k => if c = 1 ∧ 60 * N ≤ k ∧ k < 60 * N + p then 32 else m c k
theorem tm_0 (m : Nat → Nat → Int32) (N : Nat) : tm m N 0 = m := by
  funext c k
  exact if_neg (fun q => by omega)
theorem tm_n (m : Nat → Nat → Int32) (N p : Nat) : u2 (tm m N p) 1 (60 * N + p) 32 = tm m N (p + 1) := by
  funext c k
  unfold u2 tm
  by_cases hc : c = 1
  · by_cases hk : k = 60 * N + p
    · simp [hc, hk]
    · by_cases hk2 : 60 * N ≤ k ∧ k < 60 * N + p
      · have hk3 : 60 * N ≤ k ∧ k < 60 * N + (p + 1) := by omega
        simp [hc, hk, hk2, hk3]
      · have hk3 : ¬ (60 * N ≤ k ∧ k < 60 * N + (p + 1)) := by omega
        simp [hc, hk, hk2, hk3]
  · simp [hc]
theorem m_text1 (hm : mS σ M) {x : Int32} (hx : ¬ ∃ n, n ≤ 60 ∧ x = nI n) (h : Q (.inl (some (vi 0))) (mw σ M (u1 s 320 1) m)) : ca J_M_text [vr M, vi x] (mw σ M s m) Q := by
  have bad : wp J_M_text 10 [vr M, vi x, vl 0, vl 0] [] (mw σ M s m) Q := b_M_text_10 (b_M_text_15 ⟨fun _ => b_M_text_35 (b_M_text_36 ⟨hm.1, m_fails1 hm (by decide) ⟨fun c => c_10 c, fun _ => h⟩⟩), fun c => c_11 c⟩)
  refine b_M_text_0 ⟨fun _ => bad, fun c => ⟨fun c2 => ?_, fun _ => bad⟩⟩
  rw [lit_60] at c2
  exact absurd (n_le' (by decide) c c2) hx
theorem m_text2 (hm : mS σ M) {n : Nat} (hn : n ≤ 60) (hN : s 324 = nI 40) (h : Q (.inl (some (vi 0))) (mw σ M (u1 s 320 2) m)) : ca J_M_text [vr M, vi (nI n)] (mw σ M s m) Q := by
  refine b_M_text_0 ⟨fun c => absurd c (nI_pos (by omega)), fun _ => ⟨fun _ => b_M_text_15 ⟨fun c => c_00 c, fun _ => ⟨hm.1, ?_⟩⟩, fun c => ?_⟩⟩
  · rw [mw_i, hN]
    exact ⟨fun c => absurd lit_40.symm c, fun _ => b_M_text_36 ⟨hm.1, m_fails2 hm (by decide) ⟨fun c => c_10 c, fun _ => h⟩⟩⟩
  · rw [lit_60, n_le (by omega) (by decide)] at c
    omega
theorem m_textL (hm : mS σ M) {n : Nat} (hn : n ≤ 60) (hN : s 324 = nI N) (hN4 : N < 40) {x2 : Int32} : ∀ d p, p + d = n → Q (.inl (some (vi (nI N)))) (mw σ M (u1 s 324 (nI (N + 1))) (tm m N n)) → wp J_M_text 56 [vr M, vi (nI n), vi x2, vi (nI p)] [] (mw σ M s (tm m N p)) Q := by
  intro d
  induction d with
  | zero =>
    intro p hp h
    have hp : p = n := by omega
    subst hp
    refine b_M_text_56 ⟨fun _ => ⟨hm.1, hm.1, fun σ2 h2 => ?_⟩, fun c => ?_⟩
    · subst h2
      rw [mw_i, mw_wi, mw_i, u1_s, hN, n_s1, nI_pred]
      exact ⟨hm.1, h⟩
    · rw [n_le (by omega) (by omega)] at c; omega
  | succ d ih =>
    intro p hp h
    refine b_M_text_56 ⟨fun c => ?_, fun _ => ⟨hm.1, hm.1, ?_⟩⟩
    · rw [n_le (by omega) (by omega)] at c; omega
    · rw [mw_i, hN, r_321 hm, k_321 hm, n_321 hm, lit_60, n_mul, nI_add, nI_clamp (by omega), w_321, tm_n, n_s1]
      refine ⟨⟨rfl, n_in (by omega) (by decide)⟩, fun σ3 h3 => ?_⟩
      subst h3
      exact ih (p + 1) (by omega) h
theorem m_text0 (hm : mS σ M) {n : Nat} (hn : n ≤ 60) (hN : s 324 = nI N) (hN4 : N < 40) (h : Q (.inl (some (vi (nI N)))) (mw σ M (u1 (u1 s 320 0) 324 (nI (N + 1))) (tm (u2 m 3 N (nI n)) N n))) : ca J_M_text [vr M, vi (nI n)] (mw σ M s m) Q := by
  refine b_M_text_0 ⟨fun c => absurd c (nI_pos (by omega)), fun _ => ⟨fun _ => b_M_text_15 ⟨fun c => c_00 c, fun _ => ⟨hm.1, ?_⟩⟩, fun c => ?_⟩⟩
  · rw [mw_i, hN, lit_40]
    refine ⟨fun _ => b_M_text_35 (b_M_text_36 ⟨hm.1, m_fails0 hm ⟨fun _ => ⟨hm.1, hm.1, ?_⟩, fun c => absurd rfl c⟩⟩), fun c => ?_⟩
    · have e : (u1 s 320 0) 324 = nI N := by rw [u1_o (by decide)]; exact hN
      rw [mw_i, e, r_323 hm, k_323 hm, n_323 hm, nI_clamp (by omega), w_323]
      refine ⟨⟨rfl, n_in (by omega) (by decide)⟩, fun σ3 h3 => ?_⟩
      subst h3
      have h0 := m_textL (Q := Q) (s := u1 s 320 0) (m := u2 m 3 N (nI n)) (x2 := 0) hm hn e hN4 n 0 (by omega) h
      rw [tm_0] at h0
      exact h0
    · have c := Classical.not_not.mp c
      rw [n_eq (by omega) (by decide)] at c
      omega
  · rw [lit_60, n_le (by omega) (by decide)] at c
    omega
/-! set, at -/
theorem m_set1 (hm : mS σ M) (hz : mZ s m N z) {x y v : Int32} (hx : ¬ ((∃ j, (j < N ∧ x = nI j) ∧ ∃ k, k < z j ∧ y = nI k) ∧ ∃ b, b ≤ 255 ∧ v = nI b)) (h : Q (.inl none) (mw σ M (u1 s 320 1) m)) : ca J_M_set [vr M, vi x, vi y, vi v] (mw σ M s m) Q := by
  have bad : wp J_M_set 21 [vr M, vi x, vi y, vi v] [vr M] (mw σ M s m) Q := b_M_set_21 (b_M_set_26 ⟨hm.1, m_fails1 hm (by decide) ⟨fun c => c_10 c, fun _ => h⟩⟩)
  refine b_M_set_0 ⟨hm.1, m_isPlace hm hz ⟨fun _ => bad, fun c => ⟨fun _ => bad, fun c2 => ⟨fun c3 => ?_, fun _ => bad⟩⟩⟩⟩
  rw [bP_0] at c
  exact absurd ⟨Classical.not_not.mp c, n_le' (a := 255) (by decide) c2 c3⟩ hx
theorem m_set0 (hm : mS σ M) (hz : mZ s m N z) {j k b : Nat} (hj : j < N) (hk : k < z j) (hb : b ≤ 255) (h : Q (.inl none) (mw σ M (u1 s 320 0) (u2 m 1 (60 * j + k) (nI b)))) : ca J_M_set [vr M, vi (nI j), vi (nI k), vi (nI b)] (mw σ M s m) Q := by
  have hN := hz.2.1
  have hz2 := (hz.2.2 j hj).2
  refine b_M_set_0 ⟨hm.1, m_isPlace hm hz ⟨fun c => ?_, fun _ => ⟨fun c => absurd c (nI_pos (by omega)), fun _ => ⟨fun _ => b_M_set_26 ⟨hm.1, m_fails0 hm ⟨fun _ => ⟨hm.1, ?_⟩, fun c => absurd rfl c⟩⟩, fun c => ?_⟩⟩⟩⟩
  · rw [bP_0] at c
    exact absurd ⟨j, ⟨hj, rfl⟩, k, hk, rfl⟩ c
  · rw [r_321 hm, k_321 hm, n_321 hm, lit_60, n_mul, nI_add, nI_clamp (by omega), w_321]
    refine ⟨⟨rfl, n_in (by omega) (by decide)⟩, fun σ3 h3 => ?_⟩
    subst h3
    exact h
  · rw [show (255 : Int32) = nI 255 by decide +kernel, n_le (by omega) (by decide)] at c
    omega
theorem m_at1 (hm : mS σ M) (hz : mZ s m N z) {x y : Int32} (hx : ¬ ∃ j, (j < N ∧ x = nI j) ∧ ∃ k, k < z j ∧ y = nI k) (h : Q (.inl (some (vi 0))) (mw σ M (u1 s 320 1) m)) : ca J_M_at [vr M, vi x, vi y] (mw σ M s m) Q := by
  refine b_M_at_0 ⟨hm.1, m_isPlace hm hz ⟨fun c => ?_, fun _ => b_M_at_15 ⟨hm.1, m_fails1 hm (by decide) ⟨fun c => c_10 c, fun _ => h⟩⟩⟩⟩
  rw [bP_f hx] at c
  exact c_00 c
theorem m_at0 (hm : mS σ M) (hz : mZ s m N z) {j k : Nat} (hj : j < N) (hk : k < z j) (h : Q (.inl (some (vi (m 1 (60 * j + k))))) (mw σ M (u1 s 320 0) m)) : ca J_M_at [vr M, vi (nI j), vi (nI k)] (mw σ M s m) Q := by
  have hN := hz.2.1
  have hz2 := (hz.2.2 j hj).2
  refine b_M_at_0 ⟨hm.1, m_isPlace hm hz ⟨fun _ => b_M_at_15 ⟨hm.1, m_fails0 hm ⟨fun _ => ⟨hm.1, ?_⟩, fun c => absurd rfl c⟩⟩, fun c => ?_⟩⟩
  · rw [r_321 hm, k_321 hm, n_321 hm, lit_60, n_mul, nI_add, nI_clamp (by omega), a_321]
    exact ⟨⟨rfl, n_in (by omega) (by decide)⟩, h⟩
  · rw [bP_t ⟨j, ⟨hj, rfl⟩, k, hk, rfl⟩] at c
    exact c_11 c
/-! span -/
theorem m_span1 (hm : mS σ M) (hz : mZ s m N z) {x y : Int32} (hx : ¬ ∃ j, (j < N ∧ y = nI j) ∧ 0 < z j) (h : Q (.inl none) (mw σ M (u1 s 320 1) m)) : ca J_M_span [vr M, vi x, vi y] (mw σ M s m) Q := by
  refine b_M_span_0 ⟨hm.1, m_isFull hm hz ⟨fun c => ?_, fun _ => b_M_span_14 ⟨hm.1, m_fails1 hm (by decide) ⟨fun c => c_10 c, fun _ => h⟩⟩⟩⟩
  rw [bP_f hx] at c
  exact c_00 c
theorem m_span0 (hm : mS σ M) (hz : mZ s m N z) {x : Int32} {j : Nat} (hj : j < N) (hk : 0 < z j) (h : Q (.inl none) (mw σ M (u1 (u1 s 320 0) (if x = 0 then 326 else 325) (nI j)) m)) : ca J_M_span [vr M, vi x, vi (nI j)] (mw σ M s m) Q := by
  refine b_M_span_0 ⟨hm.1, m_isFull hm hz ⟨fun _ => b_M_span_14 ⟨hm.1, m_fails0 hm ⟨fun _ => ⟨fun c => ⟨hm.1, fun σ4 h4 => ?_⟩, fun c => ⟨hm.1, fun σ4 h4 => ?_⟩⟩, fun c => absurd rfl c⟩⟩, fun c => ?_⟩⟩
  · subst h4
    rw [mw_wi]
    rw [if_pos c] at h
    exact b_M_span_39 h
  · subst h4
    rw [mw_wi]
    rw [if_neg c] at h
    exact b_M_span_39 h
  · rw [bP_t ⟨j, ⟨hj, rfl⟩, hk⟩] at c
    exact c_11 c
/-! phrases -/
def phM (s : Nat → Int32) (m : Nat → Nat → Int32) (P : Nat) (a b c : Int32) : Nat → Nat → Int32 := u2 (u2 (u2 (u2 (u2 m 4 P a) 5 P b) 6 P c) 7 P (s 325)) 8 P (s 326)
theorem m_phrase (hm : mS σ M) {P : Nat} (hP : s 336 = nI P) (hP2 : P < 20) {a b c : Int32} (h : Q (.inl (some (vi (nI (P + 1))))) (mw σ M (u1 (u1 (u1 s 325 (-1)) 326 (-1)) 336 (nI (P + 1))) (phM s m P a b c))) : ca J_M_phrase [vr M, vi a, vi b, vi c] (mw σ M s m) Q := by
  have g : ∀ K : Nat, K = 20 → iIn (nI P) K := fun K hK => by subst hK; exact n_in (by omega) (by decide)
  refine b_M_phrase_0 ⟨hm.1, hm.1, ?_⟩
  rw [mw_i, hP, r_327 hm, k_327 hm, n_327 hm, nI_clamp (by omega), w_327]
  refine ⟨⟨rfl, g _ rfl⟩, fun σ1 h1 => ?_⟩
  subst h1
  rw [mw_i, hP, r_328 hm, k_328 hm, n_328 hm, nI_clamp (by omega), w_328]
  refine ⟨hm.1, hm.1, ⟨rfl, g _ rfl⟩, fun σ2 h2 => ?_⟩
  subst h2
  rw [mw_i, hP, r_329 hm, k_329 hm, n_329 hm, nI_clamp (by omega), w_329]
  refine ⟨hm.1, hm.1, ⟨rfl, g _ rfl⟩, fun σ3 h3 => ?_⟩
  subst h3
  rw [mw_i, mw_i, hP, r_330 hm, k_330 hm, n_330 hm, nI_clamp (by omega), w_330]
  refine ⟨hm.1, hm.1, hm.1, ⟨rfl, g _ rfl⟩, fun σ4 h4 => ?_⟩
  subst h4
  rw [mw_i, mw_i, hP, r_331 hm, k_331 hm, n_331 hm, nI_clamp (by omega), w_331]
  refine ⟨hm.1, hm.1, hm.1, ⟨rfl, g _ rfl⟩, fun σ5 h5 => ?_⟩
  subst h5
  rw [mw_wi]
  refine ⟨hm.1, fun σ6 h6 => ?_⟩
  subst h6
  rw [mw_wi]
  refine ⟨hm.1, fun σ7 h7 => ?_⟩
  subst h7
  have e : u1 (u1 s 325 (-1)) 326 (-1) 336 = nI P := by rw [u1_o (by decide), u1_o (by decide)]; exact hP
  rw [mw_i, e, n_s1, mw_wi]
  refine ⟨hm.1, hm.1, fun σ8 h8 => ?_⟩
  subst h8
  rw [mw_i, u1_s]
  exact ⟨hm.1, h⟩
/-- what a tallying call must keep to -/
def taOk (N : Nat) (z : Nat → Nat) (x y w : Int32) : Prop := (∃ k, k ≤ 2 ∧ x = nI k ∧ (k ≠ 0 → ∃ j, (j < N ∧ y = nI j) ∧ 0 < z j)) ∧ ∃ q, q ≤ 9 ∧ w = nI q
theorem m_tally1 (hm : mS σ M) (hz : mZ s m N z) {x y w : Int32} (hx : ¬ taOk N z x y w) (h : Q (.inl (some (vi 0))) (mw σ M (u1 s 320 1) m)) : ca J_M_tally [vr M, vi x, vi y, vi w] (mw σ M s m) Q := by
  have bad : wp J_M_tally 31 [vr M, vi x, vi y, vi w, vl 0] [] (mw σ M s m) Q := b_M_tally_31 (b_M_tally_36 ⟨fun _ => b_M_tally_59 (b_M_tally_60 ⟨hm.1, m_fails1 hm (by decide) ⟨fun c => c_10 c, fun _ => h⟩⟩), fun c => c_11 c⟩)
  have go : (∃ k, k ≤ 2 ∧ x = nI k ∧ (k ≠ 0 → ∃ j, (j < N ∧ y = nI j) ∧ 0 < z j)) → wp J_M_tally 21 [vr M, vi x, vi y, vi w, vl 0] [] (mw σ M s m) Q := fun hk =>
    b_M_tally_21 ⟨fun _ => bad, fun c => ⟨fun c2 => absurd ⟨hk, by rw [lit_9] at c2; exact n_le' (by decide) c c2⟩ hx, fun _ => bad⟩⟩
  refine b_M_tally_0 ⟨fun _ => bad, fun c => ⟨fun _ => bad, fun c2 => ?_⟩⟩
  rw [lit_2] at c2
  obtain ⟨k, hk, rfl⟩ := n_le' (a := 2) (by decide) c (Int32.not_lt.mp c2)
  refine ⟨fun c3 => ?_, fun c3 => ⟨hm.1, m_isFull hm hz ⟨fun _ => bad, fun c4 => ?_⟩⟩⟩
  · rw [lit_0, n_le (by omega) (by decide)] at c3
    exact go ⟨k, hk, rfl, fun q => absurd (by omega) q⟩
  · rw [bP_0] at c4
    exact go ⟨k, hk, rfl, fun _ => Classical.not_not.mp c4⟩
theorem m_tallyG (hm : mS σ M) (hz : mZ s m N z) {x y w : Int32} (hx : taOk N z x y w) (h : wp J_M_tally 36 [vr M, vi x, vi y, vi w, vl 0] [vi 0] (mw σ M s m) Q) : ca J_M_tally [vr M, vi x, vi y, vi w] (mw σ M s m) Q := by
  obtain ⟨⟨k, hk, rfl, hk2⟩, q, hq, rfl⟩ := hx
  have go : wp J_M_tally 21 [vr M, vi (nI k), vi y, vi (nI q), vl 0] [] (mw σ M s m) Q := b_M_tally_21 ⟨fun c => absurd c (nI_pos (by omega)), fun _ => ⟨fun _ => h, fun c => absurd (by rw [lit_9]; exact nI_le hq (by decide)) c⟩⟩
  refine b_M_tally_0 ⟨fun c => absurd c (nI_pos (by omega)), fun _ => ⟨fun c => ?_, fun _ => ⟨fun _ => go, fun c => ⟨hm.1, m_isFull hm hz ⟨fun c2 => ?_, fun _ => go⟩⟩⟩⟩⟩
  · rw [lit_2, n_lt (by decide) (by omega)] at c
    omega
  · rw [lit_0, n_le (by omega) (by decide)] at c
    rw [bP_0] at c2
    exact absurd (hk2 (by omega)) c2
theorem m_tally2 (hm : mS σ M) (hz : mZ s m N z) {x y w : Int32} (hx : taOk N z x y w) (hP : s 336 = nI 20) (h : Q (.inl (some (vi 0))) (mw σ M (u1 s 320 2) m)) : ca J_M_tally [vr M, vi x, vi y, vi w] (mw σ M s m) Q := by
  refine m_tallyG hm hz hx (b_M_tally_36 ⟨fun c => c_00 c, fun _ => ⟨hm.1, ?_⟩⟩)
  rw [mw_i, hP]
  exact ⟨fun c => absurd lit_20.symm c, fun _ => b_M_tally_60 ⟨hm.1, m_fails2 hm (by decide) ⟨fun c => c_10 c, fun _ => h⟩⟩⟩
theorem m_tally0 (hm : mS σ M) (hz : mZ s m N z) {x y w : Int32} (hx : taOk N z x y w) {P : Nat} (hP : s 336 = nI P) (hP2 : P < 20) (h : Q (.inl (some (vi (nI (P + 1))))) (mw σ M (u1 (u1 (u1 (u1 s 320 0) 325 (-1)) 326 (-1)) 336 (nI (P + 1))) (phM s m P x y w))) : ca J_M_tally [vr M, vi x, vi y, vi w] (mw σ M s m) Q := by
  refine m_tallyG hm hz hx (b_M_tally_36 ⟨fun c => c_00 c, fun _ => ⟨hm.1, ?_⟩⟩)
  rw [mw_i, hP, lit_20]
  refine ⟨fun _ => b_M_tally_59 (b_M_tally_60 ⟨hm.1, m_fails0 hm ⟨fun _ => ⟨hm.1, m_phrase hm (P := P) (by rw [u1_o (by decide)]; exact hP) hP2 ?_⟩, fun c => absurd rfl c⟩⟩), fun c => ?_⟩
  · exact h
  · have c := Classical.not_not.mp c
    rw [n_eq (by omega) (by decide)] at c
    omega
/-- what a replacing call must keep to -/
def reOk (N : Nat) (z : Nat → Nat) (x y w : Int32) : Prop := ∃ k, k ≤ 3 ∧ x = nI k ∧ ∃ i, (i < N ∧ w = nI i) ∧ ((k = 0 ∧ z i = 1) ∨ (k ≠ 0 ∧ ∃ j, (j < N ∧ y = nI j) ∧ 0 < z j ∧ z i = z j))
theorem m_replace1 (hm : mS σ M) (hz : mZ s m N z) {x y w : Int32} (hx : ¬ reOk N z x y w) (h : Q (.inl (some (vi 0))) (mw σ M (u1 s 320 1) m)) : ca J_M_replace [vr M, vi x, vi y, vi w] (mw σ M s m) Q := by
  have hN := hz.2.1
  have bad : wp J_M_replace 52 [vr M, vi x, vi y, vi w, vl 0] [] (mw σ M s m) Q := b_M_replace_52 (b_M_replace_57 ⟨fun _ => b_M_replace_80 (b_M_replace_81 ⟨hm.1, m_fails1 hm (by decide) ⟨fun c => c_10 c, fun _ => h⟩⟩), fun c => c_11 c⟩)
  have go : ∀ k, k ≤ 3 → x = nI k → (k ≠ 0 → ∃ j, (j < N ∧ y = nI j) ∧ 0 < z j) → wp J_M_replace 21 [vr M, vi x, vi y, vi w, vl 0] [] (mw σ M s m) Q := by
    intro k hk hk1 hk2
    refine b_M_replace_21 ⟨hm.1, m_isText hm hz.1 hN ⟨fun _ => bad, fun c => ⟨hm.1, ?_⟩⟩⟩
    rw [bP_0] at c
    obtain ⟨i, hi, rfl⟩ := Classical.not_not.mp c
    obtain ⟨z1, z2⟩ := hz.2.2 i hi
    subst hk1
    rw [r_323 hm, k_323 hm, n_323 hm, a_323, a_323, nI_clamp (by omega), z1]
    refine ⟨⟨rfl, n_in (by omega) (by decide)⟩, fun c2 => ?_, fun c2 => ?_⟩
    · rw [lit_0] at c2
      obtain ⟨j, ⟨hj, rfl⟩, hj2⟩ := hk2 (fun q => c2 (by rw [q]))
      obtain ⟨z3, z4⟩ := hz.2.2 j hj
      rw [nI_clamp (by omega), z3]
      refine ⟨hm.1, ⟨rfl, n_in (by omega) (by decide)⟩, b_M_replace_49 ⟨fun c3 => ?_, fun _ => bad⟩⟩
      rw [n_eq (by omega) (by omega)] at c3
      exact absurd ⟨k, hk, rfl, i, ⟨hi, rfl⟩, Or.inr ⟨fun q => c2 (by rw [q]), j, ⟨hj, rfl⟩, hj2, c3⟩⟩ hx
    · have c2 := Classical.not_not.mp c2
      rw [lit_0, n_eq (by omega) (by decide)] at c2
      refine b_M_replace_49 ⟨fun c3 => ?_, fun _ => bad⟩
      rw [lit_1, n_eq (by omega) (by decide)] at c3
      exact absurd ⟨k, hk, rfl, i, ⟨hi, rfl⟩, Or.inl ⟨c2, c3⟩⟩ hx
  refine b_M_replace_0 ⟨fun _ => bad, fun c => ⟨fun _ => bad, fun c2 => ?_⟩⟩
  rw [lit_3] at c2
  obtain ⟨k, hk, hk1⟩ := n_le' (a := 3) (by decide) c (Int32.not_lt.mp c2)
  refine ⟨fun c3 => ?_, fun c3 => ⟨hm.1, m_isFull hm hz ⟨fun _ => bad, fun c4 => ?_⟩⟩⟩
  · rw [hk1, lit_0, n_le (by omega) (by decide)] at c3
    exact go k hk hk1 (fun q => absurd (by omega) q)
  · rw [bP_0] at c4
    exact go k hk hk1 (fun _ => Classical.not_not.mp c4)
theorem m_replaceG (hm : mS σ M) (hz : mZ s m N z) {x y w : Int32} (hx : reOk N z x y w) (h : wp J_M_replace 57 [vr M, vi x, vi y, vi w, vl 0] [vi 0] (mw σ M s m) Q) : ca J_M_replace [vr M, vi x, vi y, vi w] (mw σ M s m) Q := by
  have hN := hz.2.1
  obtain ⟨k, hk, rfl, i, ⟨hi, rfl⟩, hk2⟩ := hx
  obtain ⟨z1, z2⟩ := hz.2.2 i hi
  have go : wp J_M_replace 21 [vr M, vi (nI k), vi y, vi (nI i), vl 0] [] (mw σ M s m) Q := by
    refine b_M_replace_21 ⟨hm.1, m_isText hm hz.1 hN ⟨fun c => ?_, fun _ => ⟨hm.1, ?_⟩⟩⟩
    · rw [bP_0] at c
      exact absurd ⟨i, hi, rfl⟩ c
    · rw [r_323 hm, k_323 hm, n_323 hm, a_323, a_323, nI_clamp (by omega), z1]
      refine ⟨⟨rfl, n_in (by omega) (by decide)⟩, fun c2 => ?_, fun c2 => ?_⟩
      · rcases hk2 with ⟨rfl, -⟩ | ⟨-, j, ⟨hj, rfl⟩, hj2, he⟩
        · exact absurd rfl c2
        · obtain ⟨z3, z4⟩ := hz.2.2 j hj
          rw [nI_clamp (by omega), z3]
          exact ⟨hm.1, ⟨rfl, n_in (by omega) (by decide)⟩, b_M_replace_49 ⟨fun _ => h, fun c3 => absurd (by rw [he]) c3⟩⟩
      · have c2 := Classical.not_not.mp c2
        rw [lit_0, n_eq (by omega) (by decide)] at c2
        rcases hk2 with ⟨-, he⟩ | ⟨hk2, -⟩
        · exact b_M_replace_49 ⟨fun _ => h, fun c3 => absurd (by rw [he]; rfl) c3⟩
        · exact absurd c2 hk2
  refine b_M_replace_0 ⟨fun c => absurd c (nI_pos (by omega)), fun _ => ⟨fun c => ?_, fun _ => ⟨fun _ => go, fun c => ⟨hm.1, m_isFull hm hz ⟨fun c2 => ?_, fun _ => go⟩⟩⟩⟩⟩
  · rw [lit_3, n_lt (by decide) (by omega)] at c
    omega
  · rw [lit_0, n_le (by omega) (by decide)] at c
    rw [bP_0] at c2
    rcases hk2 with ⟨rfl, -⟩ | ⟨-, j, hj, hj2, -⟩
    · omega
    · exact absurd ⟨j, hj, hj2⟩ c2
theorem m_replace2 (hm : mS σ M) (hz : mZ s m N z) {x y w : Int32} (hx : reOk N z x y w) (hP : s 336 = nI 20) (h : Q (.inl (some (vi 0))) (mw σ M (u1 s 320 2) m)) : ca J_M_replace [vr M, vi x, vi y, vi w] (mw σ M s m) Q := by
  refine m_replaceG hm hz hx (b_M_replace_57 ⟨fun c => c_00 c, fun _ => ⟨hm.1, ?_⟩⟩)
  rw [mw_i, hP]
  exact ⟨fun c => absurd lit_20.symm c, fun _ => b_M_replace_81 ⟨hm.1, m_fails2 hm (by decide) ⟨fun c => c_10 c, fun _ => h⟩⟩⟩
theorem m_replace0 (hm : mS σ M) (hz : mZ s m N z) {x y w : Int32} (hx : reOk N z x y w) {P : Nat} (hP : s 336 = nI P) (hP2 : P < 20) (h : Q (.inl (some (vi (nI (P + 1))))) (mw σ M (u1 (u1 (u1 (u1 s 320 0) 325 (-1)) 326 (-1)) 336 (nI (P + 1))) (phM s m P (10 + x) y w))) : ca J_M_replace [vr M, vi x, vi y, vi w] (mw σ M s m) Q := by
  refine m_replaceG hm hz hx (b_M_replace_57 ⟨fun c => c_00 c, fun _ => ⟨hm.1, ?_⟩⟩)
  rw [mw_i, hP, lit_20]
  refine ⟨fun _ => b_M_replace_80 (b_M_replace_81 ⟨hm.1, m_fails0 hm ⟨fun _ => ⟨hm.1, m_phrase hm (P := P) (by rw [u1_o (by decide)]; exact hP) hP2 ?_⟩, fun c => absurd rfl c⟩⟩), fun c => ?_⟩
  · exact h
  · have c := Classical.not_not.mp c
    rw [n_eq (by omega) (by decide)] at c
    omega
/-! counter -/
theorem m_counter1 (hm : mS σ M) {x : Int32} (hx : ¬ ∃ q, q ≤ 9 ∧ x = nI q) (h : Q (.inl (some (vi 0))) (mw σ M (u1 s 320 1) m)) : ca J_M_counter [vr M, vi x] (mw σ M s m) Q := by
  have bad : wp J_M_counter 11 [vr M, vi x, vl 0] [vr M] (mw σ M s m) Q := b_M_counter_11 (b_M_counter_16 ⟨hm.1, m_fails1 hm (by decide) ⟨fun c => c_10 c, fun _ => h⟩⟩)
  refine b_M_counter_0 ⟨fun _ => bad, fun c => ⟨fun c2 => ?_, fun _ => bad⟩⟩
  rw [lit_9] at c2
  exact absurd (n_le' (by decide) c c2) hx
theorem m_counter0 (hm : mS σ M) {q : Nat} (hq : q ≤ 9) (h : Q (.inl (some (vi (m 13 q)))) (mw σ M (u1 s 320 0) (u2 m 13 q 0))) : ca J_M_counter [vr M, vi (nI q)] (mw σ M s m) Q := by
  refine b_M_counter_0 ⟨fun c => absurd c (nI_pos (by omega)), fun _ => ⟨fun _ => b_M_counter_16 ⟨hm.1, m_fails0 hm ⟨fun _ => ⟨hm.1, ?_⟩, fun c => absurd rfl c⟩⟩, fun c => absurd (by rw [lit_9]; exact nI_le hq (by decide)) c⟩⟩
  rw [r_337 hm, k_337 hm, n_337 hm, a_337, nI_clamp (by omega), w_337]
  refine ⟨⟨rfl, n_in (by omega) (by decide)⟩, hm.1, ⟨rfl, n_in (by omega) (by decide)⟩, fun σ3 h3 => ?_⟩
  subst h3
  exact h
end MP
