/-! LAYER 2: the model's over from its start, inspect. -/
section PS2
variable {B : Nat → phD} {P : Nat} {f : Nat → Int32}
theorem ps_f : ∀ (d a nx : Nat) (ld : Nat → Nat) (dn : Nat → Bool) (cs hs : Nat → Int32) (ac : Nat), (ps B P f false d a nx ld dn cs hs ac).2.2 = hs
  | 0, a, nx, ld, dn, cs, hs, ac => rfl
  | d + 1, a, nx, ld, dn, cs, hs, ac => by
    by_cases h : a < nx
    · rw [ps_s h]; exact ps_f d (a + 1) nx ld dn cs hs ac
    · by_cases h2 : lf (mtP B f false ld dn a) P 0 = P
      · rw [ps_n h h2]; exact ps_f d (a + 1) nx ld dn cs hs ac
      · rw [ps_m h rfl h2]; exact ps_f d (a + 1) _ _ _ _ hs (ac + 1)
theorem ps_t : ∀ (d a nx : Nat) (ld : Nat → Nat) (dn : Nat → Bool) (cs hs : Nat → Int32) (ac : Nat), (ps B P f true d a nx ld dn cs hs ac).2.1 = cs
  | 0, a, nx, ld, dn, cs, hs, ac => rfl
  | d + 1, a, nx, ld, dn, cs, hs, ac => by
    by_cases h : a < nx
    · rw [ps_s h]; exact ps_t d (a + 1) nx ld dn cs hs ac
    · by_cases h2 : lf (mtP B f true ld dn a) P 0 = P
      · rw [ps_n h h2]; exact ps_t d (a + 1) nx ld dn cs hs ac
      · rw [ps_m h rfl h2]; exact ps_t d (a + 1) _ _ _ cs _ (ac + 1)
end PS2
section MI
variable {σ : iS} {M : Nat} {s : Nat → Int32} {m : Nat → Nat → Int32} {Q : iO → iS → Prop} {B : Nat → phD} {P : Nat} {f : Nat → Int32} {n t : Nat} {rep : Bool} {N : Nat} {z : Nat → Nat}
theorem m_over1 (hm : mS σ M) (ht : mX m 1 t n f) (hP : s 336 = nI P) (hP2 : P ≤ 20) (hB : ∀ p, p < P → phOk m f n (B p) p) (h : ∀ mm', oI m B P t n (fun p => beD (B p)) (fun _ => false) (m 13) f mm' → ∀ l5 l6 : iV, wp J_M_over 78 [vr M, vi (nI t), vi (bI rep), vi (nI 0), vi (nI 0), l5, l6] [] (mw σ M s mm') Q) :
    ∀ d p, p + d = P → ∀ mm', kp m mm' → (∀ x, x < p → mm' 9 x = nI (beD (B x)) ∧ mm' 10 x = nI (enD (B x)) ∧ mm' 11 x = nI (beD (B x)) ∧ mm' 12 x = bI false) → (∀ k, mm' 13 k = m 13 k) → (∀ k, mm' 1 k = m 1 k) → ∀ l4 l5 l6 : iV, wp J_M_over 6 [vr M, vi (nI t), vi (bI rep), vi (nI p), l4, l5, l6] [] (mw σ M s mm') Q := by
  intro d
  induction d with
  | zero =>
    intro p hp mm' h1 h2 h3 h4 l4 l5 l6
    have hp : p = P := by omega
    subst hp
    refine b_M_over_6 ⟨hm.1, ?_⟩
    rw [mw_i, hP, n_le (by omega) (by omega)]
    refine ⟨fun _ => h mm' ⟨h1, h2, h3, fun k => ?_⟩ _ _, fun c => by omega⟩
    rw [h4, sgW_s (fun k hk => ht.2.2.2 k hk)]
  | succ d ih =>
    intro p hp mm' h1 h2 h3 h4 l4 l5 l6
    obtain ⟨b1, b2, b3, b4, b5, b6, ⟨o1, n1, g1, b7, b8⟩, ⟨o2, n2, g2, b9, b10⟩, b11, b12⟩ := hB p (by omega)
    refine b_M_over_6 ⟨hm.1, ?_⟩
    rw [mw_i, hP, n_le (by omega) (by omega)]
    refine ⟨fun c => by omega, fun _ => ⟨hm.1, hm.1, ?_⟩⟩
    rw [r_330 hm, k_330 hm, n_330 hm, a_330, nI_clamp (by omega), h1.2 7 (by decide) (by decide) (by decide), r_332 hm]
    refine ⟨⟨rfl, n_in (by omega) (by decide)⟩, hm.1, m_beginOf hm (kp_mX h1 ht) (kp_mO h1 b7) ?_⟩
    dsimp only [cI]
    rw [k_332 hm, n_332 hm, w_332, ← b8]
    refine ⟨⟨rfl, n_in (by omega) (by decide)⟩, fun σ3 hh => ?_⟩
    subst hh
    have k1 := kp_u (c := 9) (k := p) (x := nI (beD (B p))) h1 (Or.inr (by decide))
    rw [r_331 hm, k_331 hm, n_331 hm, a_331, k1.2 8 (by decide) (by decide) (by decide), r_333 hm]
    refine ⟨hm.1, hm.1, ⟨rfl, n_in (by omega) (by decide)⟩, hm.1, m_endOf hm (kp_mX k1 ht) (kp_mO k1 b9) ?_⟩
    dsimp only [cI]
    rw [k_333 hm, n_333 hm, w_333, ← b10]
    refine ⟨⟨rfl, n_in (by omega) (by decide)⟩, fun σ5 hh => ?_⟩
    subst hh
    have k2 := kp_u (c := 10) (k := p) (x := nI (enD (B p))) k1 (Or.inr (by decide))
    rw [r_332 hm, k_332 hm, n_332 hm, a_332, r_334 hm, k_334 hm, n_334 hm, w_334, u2_o (by decide), u2_s]
    refine ⟨hm.1, hm.1, ⟨rfl, n_in (by omega) (by decide)⟩, ⟨rfl, n_in (by omega) (by decide)⟩, fun σ6 hh => ?_⟩
    subst hh
    have k3 := kp_u (c := 11) (k := p) (x := nI (beD (B p))) k2 (Or.inr (by decide))
    rw [r_335 hm, k_335 hm, n_335 hm, w_335, n_s1]
    refine ⟨hm.1, ⟨rfl, Or.inl rfl, n_in (by omega) (by decide)⟩, fun σ7 hh => ?_⟩
    subst hh
    have k4 := kp_u (c := 12) (k := p) (x := (0 : Int32)) k3 (Or.inr (by decide))
    refine ih (p + 1) (by omega) _ k4 (fun x hx => ?_) (fun k => ?_) (fun k => ?_) _ _ _
    · by_cases hxp : x = p
      · subst hxp
        refine ⟨?_, ?_, ?_, ?_⟩
        · rw [u2_o (by decide), u2_o (by decide), u2_o (by decide), u2_s]
        · rw [u2_o (by decide), u2_o (by decide), u2_s]
        · rw [u2_o (by decide), u2_s]
        · rw [u2_s]; rfl
      · obtain ⟨y1, y2, y3, y4⟩ := h2 x (by omega)
        refine ⟨?_, ?_, ?_, ?_⟩
        · rw [u2_o (by decide), u2_o (by decide), u2_o (by decide), u2_k hxp]; exact y1
        · rw [u2_o (by decide), u2_o (by decide), u2_k hxp, u2_o (by decide)]; exact y2
        · rw [u2_o (by decide), u2_k hxp, u2_o (by decide), u2_o (by decide)]; exact y3
        · rw [u2_k hxp, u2_o (by decide), u2_o (by decide), u2_o (by decide)]; exact y4
    · rw [u2_o (by decide), u2_o (by decide), u2_o (by decide), u2_o (by decide)]; exact h3 k
    · rw [u2_o (by decide), u2_o (by decide), u2_o (by decide), u2_o (by decide)]; exact h4 k
theorem m_over (hm : mS σ M) (ht : mX m 1 t n f) (hP : s 336 = nI P) (hP2 : P ≤ 20) (hB : ∀ p, p < P → phOk m f n (B p) p) (R : Nat × (Nat → Int32) × (Nat → Int32)) (hR : ps B P f rep n 0 0 (fun p => beD (B p)) (fun _ => false) (m 13) f 0 = R) (h : ∀ mm' ld dn, oI m B P t n ld dn R.2.1 R.2.2 mm' → Q (.inl (some (vi (nI R.1)))) (mw σ M s mm')) : ca J_M_over [vr M, vi (nI t), vi (bI rep)] (mw σ M s m) Q := by
  have hn := ht.2.2.1
  refine b_M_over_0 ⟨hm.1, m_remember hm ?_⟩
  refine m_over1 hm ht hP hP2 hB (fun mm' hI l5 l6 => ?_) P 0 (by omega) _ ⟨fun k hk => rmb_2 m hk, fun c h1 h2 _ k => rmb_o h2 k⟩ (fun x hx => by omega) (fun k => rmb_o (by decide) k) (fun k => rmb_o (by decide) k) _ _ _
  refine m_overL hm ht hP hP2 hB R h n n 0 0 (fun p => beD (B p)) (fun _ => false) (m 13) f 0 (Nat.le_refl _) rfl (Nat.zero_le _) (Nat.le_refl _) (Nat.le_refl _) (fun p hp => ?_) hR mm' hI l5 l6
  obtain ⟨-, -, -, -, -, -, ⟨o1, n1, g1, b7, b8⟩, -⟩ := hB p hp
  have := rb_le f n o1 g1 n1
  omega
theorem phOk_c {m mm : Nat → Nat → Int32} {f : Nat → Int32} {n : Nat} {q : phD} {p : Nat} (h1 : ∀ k, mm 1 k = m 1 k) (hc : ∀ c, 3 ≤ c → c ≤ 8 → ∀ k, mm c k = m c k) (h : phOk m f n q p) : phOk mm f n q p := by
  have hx : ∀ {j w : Nat} {g : Nat → Int32}, mX m 1 j w g → mX mm 1 j w g := fun h => ⟨h.1, by rw [hc 3 (by decide) (by decide)]; exact h.2.1, h.2.2.1, fun k hk => by rw [h1]; exact h.2.2.2 k hk⟩
  have ho : ∀ {x : Int32} {o : Bool} {w : Nat} {g : Nat → Int32}, mO' m 1 x o w g → mO' mm 1 x o w g := fun h => ⟨h.1, fun q => by obtain ⟨i, a1, a2⟩ := h.2 q; exact ⟨i, a1, hx a2⟩⟩
  obtain ⟨b1, b2, b3, b4, b5, b6, ⟨o1, n1, g1, b7, b8⟩, ⟨o2, n2, g2, b9, b10⟩, b11, b12⟩ := h
  refine ⟨by rw [hc 4 (by decide) (by decide)]; exact b1, b2, b3, fun q => ?_, fun q => ?_, fun q => ?_, ⟨o1, n1, g1, ?_, b8⟩, ⟨o2, n2, g2, ?_, b10⟩, b11, b12⟩
  · obtain ⟨j, j1, j2⟩ := b4 q
    exact ⟨j, by rw [hc 5 (by decide) (by decide)]; exact j1, hx j2⟩
  · rw [hc 6 (by decide) (by decide)]; exact b5 q
  · obtain ⟨j, j1, j2⟩ := b6 q
    exact ⟨j, by rw [hc 6 (by decide) (by decide)]; exact j1, hx j2⟩
  · rw [hc 7 (by decide) (by decide)]; exact ho b7
  · rw [hc 8 (by decide) (by decide)]; exact ho b9
/-- what inspect does: the counters, the number of acts with the text -/
noncomputable def inC (B : Nat → phD) (P : Nat) (f : Nat → Int32) (n : Nat) (cs : Nat → Int32) : Nat → Int32 := (ps B P f false n 0 0 (fun p => beD (B p)) (fun _ => false) cs f 0).2.1
noncomputable def inR (B : Nat → phD) (P : Nat) (f : Nat → Int32) (n : Nat) (cs : Nat → Int32) : Nat × (Nat → Int32) × (Nat → Int32) := ps B P f true n 0 0 (fun p => beD (B p)) (fun _ => false) (inC B P f n cs) f 0
theorem m_inspect1 (hm : mS σ M) (hz : s 324 = nI N) (hN : N ≤ 40) {x : Int32} (hx : ¬ ∃ j, j < N ∧ x = nI j) (h : Q (.inl (some (vi 0))) (mw σ M (u1 s 320 1) m)) : ca J_M_inspect [vr M, vi x] (mw σ M s m) Q := by
  refine b_M_inspect_0 ⟨hm.1, m_isText hm hz hN ⟨fun c => ?_, fun _ => b_M_inspect_14 ⟨hm.1, m_fails1 hm (by decide) ⟨fun c => c_10 c, fun _ => h⟩⟩⟩⟩
  rw [bP_f hx] at c
  exact c_00 c
theorem m_inspect0 (hm : mS σ M) (hz : s 324 = nI N) (hN : N ≤ 40) (htN : t < N) (ht : mX m 1 t n f) (hP : s 336 = nI P) (hP2 : P ≤ 20) (hB : ∀ p, p < P → phOk m f n (B p) p) (h : ∀ mm, (∀ c, c ≠ 1 → c ≠ 2 → ¬ (9 ≤ c ∧ c ≤ 13) → ∀ k, mm c k = m c k) → (∀ k, mm 13 k = inC B P f n (m 13) k) → (∀ k, mm 1 k = sgW m t n (inR B P f n (m 13)).2.2 1 k) → Q (.inl (some (vi (nI (inR B P f n (m 13)).1)))) (mw σ M (u1 (u1 s 320 0) 336 0) mm)) : ca J_M_inspect [vr M, vi (nI t)] (mw σ M s m) Q := by
  have hn := ht.2.2.1
  have e : (u1 s 320 0) 336 = nI P := by rw [u1_o (by decide)]; exact hP
  refine b_M_inspect_0 ⟨hm.1, m_isText hm hz hN ⟨fun _ => b_M_inspect_14 ⟨hm.1, m_fails0 hm ⟨fun _ => ⟨hm.1, ?_⟩, fun c => absurd rfl c⟩⟩, fun c => ?_⟩⟩
  · refine m_over (rep := false) hm ht e hP2 hB _ rfl (fun mm1 ld dn hI => ⟨hm.1, ?_⟩)
    have h11 : ∀ k, mm1 1 k = m 1 k := fun k => by
      rw [hI.2.2.2 k, ps_f, sgW_s (fun k hk => ht.2.2.2 k hk)]
    have h1c : ∀ c, 3 ≤ c → c ≤ 8 → ∀ k, mm1 c k = m c k := fun c c1 c2 k => hI.1.2 c (by omega) (by omega) (by omega) k
    have h13 : mm1 13 = inC B P f n (m 13) := funext hI.2.2.1
    have ht1 : mX mm1 1 t n f := ⟨ht.1, by rw [h1c 3 (by decide) (by decide)]; exact ht.2.1, hn, fun k hk => by rw [h11]; exact ht.2.2.2 k hk⟩
    refine m_over (rep := true) hm ht1 e hP2 (fun p hp => phOk_c h11 h1c (hB p hp)) (inR B P f n (m 13)) (by rw [h13]; rfl) (fun mm2 ld2 dn2 hI2 => ⟨hm.1, fun σ5 h5 => ?_⟩)
    subst h5
    rw [mw_wi]
    refine h mm2 (fun c c1 c2 c3 k => by rw [hI2.1.2 c c1 c2 c3 k]; exact hI.1.2 c c1 c2 c3 k) (fun k => ?_) (fun k => ?_)
    · rw [hI2.2.2.1 k]
      unfold inR
      rw [ps_t]
    · rw [hI2.2.2.2 k]
      unfold sgW
      by_cases hr : 1 = 1 ∧ 60 * t ≤ k ∧ k < 60 * t + n
      · rw [if_pos hr, if_pos hr]
      · rw [if_neg hr, if_neg hr]; exact h11 k
  · rw [bP_t ⟨t, htN, rfl⟩] at c
    exact c_11 c
end MI
