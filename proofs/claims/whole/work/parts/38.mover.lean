/-! LAYER 2: a pass over a text (inspect), and the model's over. -/
def bI (b : Bool) : Int32 := if b then 1 else 0
theorem bI_b (b : Bool) : iBool (bI b) := by cases b; exact Or.inl rfl; exact Or.inr rfl
/-- a phrase: kind, replacing, width, what is sought, begin, end, counter, what is put -/
abbrev phD : Type := Nat × Bool × Nat × (Nat → Int32) × Nat × Nat × Nat × (Nat → Int32)
def kdD (q : phD) : Nat := q.1
def rpD (q : phD) : Bool := q.2.1
def wD (q : phD) : Nat := q.2.2.1
def pgD (q : phD) : Nat → Int32 := q.2.2.2.1
def beD (q : phD) : Nat := q.2.2.2.2.1
def enD (q : phD) : Nat := q.2.2.2.2.2.1
def tqD (q : phD) : Nat := q.2.2.2.2.2.2.1
def ppD (q : phD) : Nat → Int32 := q.2.2.2.2.2.2.2
/-- the phrase matches at a place -/
def mtQ (q : phD) (f : Nat → Int32) (ld : Nat) (dn : Bool) (a : Nat) : Prop := beD q ≤ a ∧ a + wD q ≤ enD q ∧ (kdD q = 2 → ld = a) ∧ (kdD q = 3 → dn = false) ∧ (kdD q ≠ 0 → ∀ k, k < wD q → f (a + k) = pgD q k)
def mtP (B : Nat → phD) (f : Nat → Int32) (rep : Bool) (ld : Nat → Nat) (dn : Nat → Bool) (a p : Nat) : Prop := rpD (B p) = rep ∧ mtQ (B p) f (ld p) (dn p) a
/-- w signs g laid into hs from a on -/
def pt (hs : Nat → Int32) (a w : Nat) (g : Nat → Int32) : Nat → Int32 := fun k => if a ≤ k ∧ k < a + w then g (k - a) else hs k
noncomputable def ps (B : Nat → phD) (P : Nat) (f : Nat → Int32) (rep : Bool) : Nat → Nat → Nat → (Nat → Nat) → (Nat → Bool) → (Nat → Int32) → (Nat → Int32) → Nat → Nat × (Nat → Int32) × (Nat → Int32)
  | 0, _, _, _, _, cs, hs, ac => (ac, cs, hs)
  | d + 1, a, nx, ld, dn, cs, hs, ac => if a < nx then ps B P f rep d (a + 1) nx ld dn cs hs ac else if lf (mtP B f rep ld dn a) P 0 = P then ps B P f rep d (a + 1) nx ld dn cs hs ac else
      ps B P f rep d (a + 1) (a + wD (B (lf (mtP B f rep ld dn a) P 0))) (u1 ld (lf (mtP B f rep ld dn a) P 0) (a + wD (B (lf (mtP B f rep ld dn a) P 0)))) (u1 dn (lf (mtP B f rep ld dn a) P 0) true)
        (if rep then cs else u1 cs (tqD (B (lf (mtP B f rep ld dn a) P 0))) (cs (tqD (B (lf (mtP B f rep ld dn a) P 0))) + 1)) (if rep then pt hs a (wD (B (lf (mtP B f rep ld dn a) P 0))) (ppD (B (lf (mtP B f rep ld dn a) P 0))) else hs) (ac + 1)
section PS
variable {B : Nat → phD} {P : Nat} {f : Nat → Int32} {rep : Bool} {ld : Nat → Nat} {dn : Nat → Bool} {cs hs : Nat → Int32} {ac a nx d : Nat}
theorem ps_s (h : a < nx) : ps B P f rep (d + 1) a nx ld dn cs hs ac = ps B P f rep d (a + 1) nx ld dn cs hs ac := by
  rw [ps, if_pos h]
theorem ps_n (h : ¬ a < nx) (h2 : lf (mtP B f rep ld dn a) P 0 = P) : ps B P f rep (d + 1) a nx ld dn cs hs ac = ps B P f rep d (a + 1) nx ld dn cs hs ac := by
  rw [ps, if_neg h, if_pos h2]
theorem ps_m (h : ¬ a < nx) {p : Nat} (hp : lf (mtP B f rep ld dn a) P 0 = p) (h2 : p ≠ P) : ps B P f rep (d + 1) a nx ld dn cs hs ac = ps B P f rep d (a + 1) (a + wD (B p)) (u1 ld p (a + wD (B p))) (u1 dn p true) (if rep then cs else u1 cs (tqD (B p)) (cs (tqD (B p)) + 1)) (if rep then pt hs a (wD (B p)) (ppD (B p)) else hs) (ac + 1) := by
  subst hp
  rw [ps, if_neg h, if_neg h2]
theorem ps_j : ∀ (j d a : Nat), a + j ≤ nx → ps B P f rep (d + j) a nx ld dn cs hs ac = ps B P f rep d (a + j) nx ld dn cs hs ac
  | 0, d, a => fun _ => rfl
  | j + 1, d, a => fun h => by
    rw [← Nat.add_assoc, ps_s (by omega), ps_j j d (a + 1) (by omega)]
    rw [show a + 1 + j = a + (j + 1) by omega]
/-- the number of acts stays below the number of places -/
theorem ps_b : ∀ (d a nx : Nat) (ld : Nat → Nat) (dn : Nat → Bool) (cs hs : Nat → Int32) (ac : Nat), (ps B P f rep d a nx ld dn cs hs ac).1 ≤ ac + d
  | 0, a, nx, ld, dn, cs, hs, ac => Nat.le_refl _
  | d + 1, a, nx, ld, dn, cs, hs, ac => by
    by_cases h : a < nx
    · rw [ps_s h]
      have := ps_b d (a + 1) nx ld dn cs hs ac
      omega
    · by_cases h2 : lf (mtP B f rep ld dn a) P 0 = P
      · rw [ps_n h h2]
        have := ps_b d (a + 1) nx ld dn cs hs ac
        omega
      · rw [ps_m h rfl h2]
        refine Nat.le_trans (ps_b d (a + 1) _ _ _ _ _ (ac + 1)) (by omega)
end PS
theorem n_mod : ∀ k, k < 4 → ∀ b : Bool, nI (k + if b then 10 else 0) - nI (k + if b then 10 else 0) / (10 : Int32) * (10 : Int32) = nI k := by decide +kernel
theorem n_gt9 : ∀ k, k < 4 → ∀ b : Bool, (nI (k + if b then 10 else 0) ≤ (9 : Int32)) ↔ b = false := by decide +kernel
/-- what the model's memory says of phrase p, for a text f of n signs -/
def phOk (m : Nat → Nat → Int32) (f : Nat → Int32) (n : Nat) (q : phD) (p : Nat) : Prop :=
  m 4 p = nI (kdD q + if rpD q then 10 else 0) ∧ kdD q < 4 ∧ (kdD q = 0 → wD q = 1) ∧ (kdD q ≠ 0 → ∃ j, m 5 p = nI j ∧ mX m 1 j (wD q) (pgD q)) ∧ (rpD q = false → m 6 p = nI (tqD q) ∧ tqD q < 10) ∧ (rpD q = true → ∃ j, m 6 p = nI j ∧ mX m 1 j (wD q) (ppD q)) ∧
  (∃ o n' g, mO' m 1 (m 7 p) o n' g ∧ beD q = rb f n o g n') ∧ (∃ o n' g, mO' m 1 (m 8 p) o n' g ∧ enD q = re f n o g n') ∧ 1 ≤ wD q ∧ wD q ≤ 60
/-- what a pass leaves alone -/
def kp (m mm : Nat → Nat → Int32) : Prop := (∀ k, k < 2400 → mm 2 k = m 1 k) ∧ ∀ c, c ≠ 1 → c ≠ 2 → ¬ (9 ≤ c ∧ c ≤ 13) → ∀ k, mm c k = m c k
theorem kp_mX {m mm : Nat → Nat → Int32} {i n : Nat} {f : Nat → Int32} (hk : kp m mm) (h : mX m 1 i n f) : mX mm 2 i n f :=
  ⟨h.1, by rw [hk.2 3 (by decide) (by decide) (by decide)]; exact h.2.1, h.2.2.1, fun k h1 => by rw [hk.1 _ (by have := h.1; have := h.2.2.1; omega)]; exact h.2.2.2 k h1⟩
theorem kp_mO {m mm : Nat → Nat → Int32} {x : Int32} {o : Bool} {n : Nat} {g : Nat → Int32} (hk : kp m mm) (h : mO' m 1 x o n g) : mO' mm 2 x o n g :=
  ⟨h.1, fun q => by obtain ⟨i, h1, h2⟩ := h.2 q; exact ⟨i, h1, kp_mX hk h2⟩⟩
theorem kp_u {m mm : Nat → Nat → Int32} {c k : Nat} {x : Int32} (hk : kp m mm) (hc : c = 1 ∨ (9 ≤ c ∧ c ≤ 13)) : kp m (u2 mm c k x) :=
  ⟨fun q hq => by rw [u2_o (by omega)]; exact hk.1 q hq, fun c' h1 h2 h3 q => by rw [u2_o (by omega)]; exact hk.2 c' h1 h2 h3 q⟩
section MV
variable {σ : iS} {M : Nat} {s : Nat → Int32} {m mm : Nat → Nat → Int32} {Q : iO → iS → Prop} {B : Nat → phD} {P : Nat} {f : Nat → Int32} {n t : Nat} {rep : Bool}
theorem m_matches (hm : mS σ M) (hk : kp m mm) {p a ld : Nat} {dn : Bool} (hp : p < 20) (hB : phOk m f n (B p) p) (ht : mX m 1 t n f) (h9 : mm 9 p = nI (beD (B p))) (h10 : mm 10 p = nI (enD (B p))) (h11 : mm 11 p = nI ld) (h12 : mm 12 p = bI dn) (ha : a ≤ 60) (hl : ld ≤ 120) (h : Q (.inl (some (vi (bP (mtQ (B p) f ld dn a))))) (mw σ M s mm)) : ca J_M_matches [vr M, vi (nI p), vi (nI t), vi (nI a)] (mw σ M s mm) Q := by
  obtain ⟨b1, b2, b3, b4, b5, b6, ⟨o1, n1, g1, b7, b8⟩, ⟨o2, n2, g2, b9, b10⟩, b11, b12⟩ := hB
  have hn := ht.2.2.1
  have hbe : beD (B p) ≤ n := by rw [b8]; exact rb_le _ _ _ _ _
  have hen : enD (B p) ≤ n := by rw [b10]; exact re_le _ _ _ _ _
  have e4 : mm 4 p = nI (kdD (B p) + if rpD (B p) then 10 else 0) := by rw [hk.2 4 (by decide) (by decide) (by decide)]; exact b1
  have no : ¬ mtQ (B p) f ld dn a → wp J_M_matches 62 [vr M, vi (nI p), vi (nI t), vi (nI a), vi (nI (kdD (B p)))] [] (mw σ M s mm) Q := fun c => by
    rw [bP_f c] at h
    exact b_M_matches_62 ⟨Or.inl rfl, h⟩
  have yes : mtQ (B p) f ld dn a → wp J_M_matches 94 [vr M, vi (nI p), vi (nI t), vi (nI a), vi (nI (kdD (B p)))] [] (mw σ M s mm) Q := fun c => by
    rw [bP_t c] at h
    exact b_M_matches_94 (b_M_matches_99 ⟨Or.inr rfl, h⟩)
  have fin : beD (B p) ≤ a → a < enD (B p) → (kdD (B p) = 2 → ld = a) → (kdD (B p) = 3 → dn = false) → wp J_M_matches 64 [vr M, vi (nI p), vi (nI t), vi (nI a), vi (nI (kdD (B p)))] [] (mw σ M s mm) Q := by
    intro f1 f2 f3 f4
    refine b_M_matches_64 ⟨fun c => ?_, fun c => ⟨hm.1, hm.1, ?_⟩⟩
    · rw [lit_0, n_eq (by omega) (by decide)] at c
      exact yes ⟨f1, by rw [b3 c]; omega, f3, f4, fun q => absurd c q⟩
    · have hk0 : kdD (B p) ≠ 0 := fun q => c (by rw [q]; rfl)
      obtain ⟨j, j1, j2⟩ := b4 hk0
      rw [r_328 hm, k_328 hm, n_328 hm, r_333 hm, k_333 hm, n_333 hm, r_322 hm, a_328, a_333, nI_clamp (by omega), h10, hk.2 5 (by decide) (by decide) (by decide), j1]
      refine ⟨⟨rfl, n_in (by omega) (by decide)⟩, hm.1, ⟨rfl, n_in (by omega) (by decide)⟩, hm.1, m_occurs hm (Or.inr rfl) (kp_mX hk j2) (kp_mX hk ht) hen ha ⟨fun c2 => ?_, fun c2 => ?_⟩⟩
      · rw [bP_0] at c2
        rw [bP_f (fun q => c2 ⟨q.2.1, q.2.2.2.2 hk0⟩)] at h
        exact b_M_matches_99 ⟨Or.inl rfl, h⟩
      · rw [bP_0] at c2
        have c2 := Classical.not_not.mp c2
        exact yes ⟨f1, c2.1, f3, f4, fun _ => c2.2⟩
  have mid : beD (B p) ≤ a → a < enD (B p) → (kdD (B p) = 3 → dn = false) → wp J_M_matches 46 [vr M, vi (nI p), vi (nI t), vi (nI a), vi (nI (kdD (B p)))] [] (mw σ M s mm) Q := by
    intro f1 f2 f4
    refine b_M_matches_46 ⟨fun c => fin f1 f2 (fun q => absurd (by rw [q]; rfl) c) f4, fun c => ⟨hm.1, ?_⟩⟩
    have c := Classical.not_not.mp c
    rw [lit_2, n_eq (by omega) (by decide)] at c
    rw [r_334 hm, k_334 hm, n_334 hm, a_334, nI_clamp (by omega), h11, n_eq (by omega) (by omega)]
    exact ⟨⟨rfl, n_in (by omega) (by decide)⟩, fun q => fin f1 f2 (fun _ => q) f4, fun q => no (fun z => q (z.2.2.1 c))⟩
  refine b_M_matches_0 ⟨hm.1, ?_⟩
  rw [r_327 hm, k_327 hm, n_327 hm, r_332 hm, k_332 hm, n_332 hm, r_333 hm, k_333 hm, n_333 hm, r_335 hm, k_335 hm, n_335 hm, a_327, a_332, a_333, a_335, nI_clamp (by omega), h9, h10, h12, e4, n_mod _ b2, n_lt (by omega) (by omega), n_le (by omega) (by omega)]
  refine ⟨⟨rfl, n_in (by omega) (by decide)⟩, by decide, hm.1, ⟨rfl, n_in (by omega) (by decide)⟩, fun c => no (fun z => by have := z.1; omega), fun c1 => ⟨hm.1, ⟨rfl, n_in (by omega) (by decide)⟩, fun c => no (fun z => by have := z.2.1; omega), fun c2 => ⟨fun c3 => ?_, fun c3 => ⟨hm.1, ⟨rfl, n_in (by omega) (by decide)⟩, fun c4 => ?_, fun c4 => ?_⟩⟩⟩⟩
  · exact mid (by omega) (by omega) (fun q => absurd (by rw [q]; rfl) c3)
  · have c3 := Classical.not_not.mp c3
    rw [lit_3, n_eq (by omega) (by decide)] at c3
    refine no (fun z => c4 ?_)
    rw [z.2.2.2.1 c3]
    rfl
  · refine mid (by omega) (by omega) (fun _ => ?_)
    cases dn with
    | false => rfl
    | true => exact c_11 c4
/-- the memory in the pass: leads and done of the phrases, counters, the text -/
def oI (m : Nat → Nat → Int32) (B : Nat → phD) (P t n : Nat) (ld : Nat → Nat) (dn : Nat → Bool) (cs hs : Nat → Int32) (mm : Nat → Nat → Int32) : Prop :=
  kp m mm ∧ (∀ p, p < P → mm 9 p = nI (beD (B p)) ∧ mm 10 p = nI (enD (B p)) ∧ mm 11 p = nI (ld p) ∧ mm 12 p = bI (dn p)) ∧ (∀ k, mm 13 k = cs k) ∧ ∀ k, mm 1 k = sgW m t n hs 1 k
theorem m_act0 (hm : mS σ M) {p a w q : Nat} (hp : p < 20) (hq : mm 6 p = nI q) (hq2 : q < 10) (h : Q (.inl none) (mw σ M s (u2 mm 13 q (mm 13 q + 1)))) : ca J_M_act [vr M, vi (nI p), vi (nI t), vi (nI a), vi (nI w), vi 0] (mw σ M s mm) Q := by
  refine b_M_act_0 ⟨fun c => c_00 c, fun _ => ⟨hm.1, hm.1, ?_⟩⟩
  rw [r_329 hm, k_329 hm, n_329 hm, r_337 hm, k_337 hm, n_337 hm, a_329, nI_clamp (by omega), hq, nI_clamp (by omega), a_337, w_337]
  refine ⟨⟨rfl, n_in (by omega) (by decide)⟩, ⟨rfl, n_in (by omega) (by decide)⟩, ⟨rfl, n_in (by omega) (by decide)⟩, fun σ2 h2 => ?_⟩
  subst h2
  exact h
theorem m_act1L (hm : mS σ M) (hk : kp m mm) {p a w j : Nat} {g : Nat → Int32} (hp : p < 20) (ht : t < 40) (hn : n ≤ 60) (hj : m 6 p = nI j) (hg : mX m 1 j w g) (haw : a + w ≤ n) (h : ∀ mm', kp m mm' → (∀ c, c ≠ 1 → ∀ k, mm' c k = mm c k) → (∀ k, mm' 1 k = if 60 * t + a ≤ k ∧ k < 60 * t + a + w then g (k - (60 * t + a)) else mm 1 k) → Q (.inl none) (mw σ M s mm')) : ∀ d k, k + d = w → ∀ mm', kp m mm' → (∀ c, c ≠ 1 → ∀ k, mm' c k = mm c k) → (∀ q, mm' 1 q = if 60 * t + a ≤ q ∧ q < 60 * t + a + k then g (q - (60 * t + a)) else mm 1 q) → wp J_M_act 24 [vr M, vi (nI p), vi (nI t), vi (nI a), vi (nI w), vi 1, vi (nI k)] [] (mw σ M s mm') Q := by
  obtain ⟨g1, g2, g3, g4⟩ := id hg
  intro d
  induction d with
  | zero =>
    intro k hd mm' h1 h2 h3
    have hd : k = w := by omega
    subst hd
    refine b_M_act_24 ⟨fun _ => h mm' h1 h2 h3, fun c => ?_⟩
    rw [n_le (by omega) (by omega)] at c
    omega
  | succ d ih =>
    intro k hd mm' h1 h2 h3
    refine b_M_act_24 ⟨fun c => ?_, fun _ => ⟨hm.1, hm.1, hm.1, ?_⟩⟩
    · rw [n_le (by omega) (by omega)] at c
      omega
    · have e6 : mm' 6 p = nI j := by rw [h1.2 6 (by decide) (by decide) (by decide)]; exact hj
      rw [r_329 hm, k_329 hm, n_329 hm, r_322 hm, k_322 hm, n_322 hm, r_321 hm, k_321 hm, n_321 hm, a_329, nI_clamp (by omega), e6, lit_60, n_mul, n_mul, nI_add, nI_add, nI_add, nI_clamp (by omega), nI_clamp (by omega), a_322, w_321, n_s1, h1.1 _ (by omega), g4 k (by omega)]
      refine ⟨⟨rfl, n_in (by omega) (by decide)⟩, ⟨rfl, n_in (by omega) (by decide)⟩, ⟨rfl, n_in (by omega) (by decide)⟩, fun σ2 hh => ?_⟩
      subst hh
      refine ih (k + 1) (by omega) _ (kp_u h1 (Or.inl rfl)) (fun c hc q => by rw [u2_o hc]; exact h2 c hc q) (fun q => ?_)
      by_cases hq : q = 60 * t + a + k
      · subst hq
        rw [u2_s, if_pos ⟨by omega, by omega⟩, Nat.add_sub_cancel_left]
      · rw [u2_k hq, h3]
        by_cases hr : 60 * t + a ≤ q ∧ q < 60 * t + a + k
        · rw [if_pos hr, if_pos ⟨hr.1, by omega⟩]
        · rw [if_neg hr, if_neg (fun z => hr ⟨z.1, by omega⟩)]
theorem m_overL (hm : mS σ M) (ht : mX m 1 t n f) (hP : s 336 = nI P) (hP2 : P ≤ 20) (hB : ∀ p, p < P → phOk m f n (B p) p) (R : Nat × (Nat → Int32) × (Nat → Int32)) (h : ∀ mm' ld dn, oI m B P t n ld dn R.2.1 R.2.2 mm' → Q (.inl (some (vi (nI R.1)))) (mw σ M s mm')) :
    ∀ e d a nx ld dn cs hs ac, d ≤ e → d = n - a → a ≤ n → ac ≤ a → nx ≤ a → (∀ p, p < P → ld p ≤ 120) → ps B P f rep d a nx ld dn cs hs ac = R → ∀ mm', oI m B P t n ld dn cs hs mm' → ∀ l5 l6 : iV, wp J_M_over 78 [vr M, vi (nI t), vi (bI rep), vi (nI ac), vi (nI a), l5, l6] [] (mw σ M s mm') Q := by
  obtain ⟨t1, t2, t3, t4⟩ := id ht
  intro e
  induction e with
  | zero =>
    intro d a nx ld dn cs hs ac hde hd ha hac hnx hld hps mm' hI l5 l6
    have hd0 : d = 0 := by omega
    subst hd0
    refine b_M_over_78 ⟨hm.1, ?_⟩
    rw [r_323 hm, k_323 hm, n_323 hm, a_323, nI_clamp (by omega), hI.1.2 3 (by decide) (by decide) (by decide), t2, n_le (by omega) (by omega)]
    refine ⟨⟨rfl, n_in (by omega) (by decide)⟩, fun _ => ?_, fun c => by omega⟩
    have e1 : R = (ac, cs, hs) := hps.symm
    subst e1
    exact h mm' ld dn hI
  | succ e ih =>
    intro d a nx ld dn cs hs ac hde hd ha hac hnx hld hps mm' hI l5 l6
    refine b_M_over_78 ⟨hm.1, ?_⟩
    rw [r_323 hm, k_323 hm, n_323 hm, a_323, nI_clamp (by omega), hI.1.2 3 (by decide) (by decide) (by decide), t2, n_le (by omega) (by omega), mw_i, hP]
    refine ⟨⟨rfl, n_in (by omega) (by decide)⟩, fun c => ?_, fun c => ⟨hm.1, ?_⟩⟩
    · have hd0 : d = 0 := by omega
      subst hd0
      have e1 : R = (ac, cs, hs) := hps.symm
      subst e1
      exact h mm' ld dn hI
    · obtain ⟨d', rfl⟩ : ∃ d', d = d' + 1 := ⟨d - 1, by omega⟩
      have hlf := lf_le (mtP B f rep ld dn a) P 0
      -- the phrase is found
      have found : ∀ l6 : Int32, wp J_M_over 100 [vr M, vi (nI t), vi (bI rep), vi (nI ac), vi (nI a), vi (en P (lf (mtP B f rep ld dn a) P 0)), vi (-1)] [] (mw σ M s mm') Q := by
        intro _
        refine b_M_over_100 ⟨fun _ => ?_, fun c => absurd (by decide) c⟩
        by_cases hf : lf (mtP B f rep ld dn a) P 0 = P
        · rw [hf, en_N]
          refine ⟨fun _ => b_M_over_172 (b_M_over_188 ⟨fun _ => b_M_over_231 ?_, fun c => absurd rfl c⟩), fun c => absurd rfl c⟩
          rw [n_s1]
          rw [ps_n (by omega) hf] at hps
          exact ih d' (a + 1) nx ld dn cs hs ac (by omega) (by omega) (by omega) (by omega) (by omega) hld hps mm' hI _ _
        · obtain ⟨p, hp⟩ : ∃ p, lf (mtP B f rep ld dn a) P 0 = p := ⟨_, rfl⟩
          have hm1 := lf_at (mtP B f rep ld dn a) P 0 (by omega)
          rw [hp] at hm1 hf hlf
          rw [hp, en_r hf]
          have hpP : p < P := by omega
          obtain ⟨b1, b2, b3, b4, b5, b6, ⟨o1, n1, g1, b7, b8⟩, ⟨o2, n2, g2, b9, b10⟩, b11, b12⟩ := hB p hpP
          have hen : enD (B p) ≤ n := by rw [b10]; exact re_le _ _ _ _ _
          have haw := hm1.2.2.1
          have e4 : mm' 4 p = nI (kdD (B p) + if rpD (B p) then 10 else 0) := by rw [hI.1.2 4 (by decide) (by decide) (by decide)]; exact b1
          rw [ps_m (by omega) hp hf] at hps
          have hgo : ∀ mm2, oI m B P t n (u1 ld p (a + wD (B p))) (u1 dn p true) (if rep then cs else u1 cs (tqD (B p)) (cs (tqD (B p)) + 1)) (if rep then pt hs a (wD (B p)) (ppD (B p)) else hs) mm2 → ∀ l5 l6 : iV, wp J_M_over 78 [vr M, vi (nI t), vi (bI rep), vi (nI (ac + 1)), vi (nI (a + wD (B p))), l5, l6] [] (mw σ M s mm2) Q := by
            intro mm2 hI2 l5 l6
            have e5 : d' = (d' - (wD (B p) - 1)) + (wD (B p) - 1) := by omega
            rw [e5, ps_j (wD (B p) - 1) _ (a + 1) (by omega), show a + 1 + (wD (B p) - 1) = a + wD (B p) by omega] at hps
            refine ih _ (a + wD (B p)) _ _ _ _ _ (ac + 1) (by omega) (by omega) (by omega) (by omega) (Nat.le_refl _) (fun x hx => ?_) hps mm2 hI2 l5 l6
            by_cases hxp : x = p
            · subst hxp
              rw [u1_s]
              omega
            · rw [u1_o hxp]
              exact hld x hx
          have wide : wp J_M_over 188 [vr M, vi (nI t), vi (bI rep), vi (nI ac), vi (nI a), vi (nI p), vi (-1)] [vi (nI (wD (B p)))] (mw σ M s mm') Q := by
            refine b_M_over_188 ⟨fun c => absurd c (n_m1 (by omega)), fun _ => ⟨hm.1, ?_⟩⟩
            rw [r_335 hm, k_335 hm, n_335 hm, nI_clamp (by omega), w_335]
            refine ⟨⟨rfl, Or.inr rfl, n_in (by omega) (by decide)⟩, fun σ2 h2 => ?_⟩
            subst h2
            rw [r_334 hm, k_334 hm, n_334 hm, w_334, nI_add]
            refine ⟨hm.1, ⟨rfl, n_in (by omega) (by decide)⟩, fun σ3 h3 => ?_⟩
            subst h3
            refine ⟨hm.1, ?_⟩
            have hk2 : kp m (u2 (u2 mm' 12 p 1) 11 p (nI (a + wD (B p)))) := kp_u (kp_u hI.1 (Or.inr (by decide))) (Or.inr (by decide))
            have hph : ∀ x, x < P → u2 (u2 mm' 12 p 1) 11 p (nI (a + wD (B p))) 9 x = nI (beD (B x)) ∧ u2 (u2 mm' 12 p 1) 11 p (nI (a + wD (B p))) 10 x = nI (enD (B x)) ∧ u2 (u2 mm' 12 p 1) 11 p (nI (a + wD (B p))) 11 x = nI (u1 ld p (a + wD (B p)) x) ∧ u2 (u2 mm' 12 p 1) 11 p (nI (a + wD (B p))) 12 x = bI (u1 dn p true x) := by
              intro x hx
              obtain ⟨y1, y2, y3, y4⟩ := hI.2.1 x hx
              refine ⟨by rw [u2_o (by decide), u2_o (by decide)]; exact y1, by rw [u2_o (by decide), u2_o (by decide)]; exact y2, ?_, ?_⟩
              · by_cases hxp : x = p
                · subst hxp; rw [u2_s, u1_s]
                · rw [u2_k hxp, u2_o (by decide), u1_o hxp]; exact y3
              · by_cases hxp : x = p
                · subst hxp; rw [u2_o (by decide), u2_s, u1_s]; rfl
                · rw [u2_o (by decide), u2_k hxp, u1_o hxp]; exact y4
            have h13 : ∀ k, u2 (u2 mm' 12 p 1) 11 p (nI (a + wD (B p))) 13 k = cs k := fun k => by rw [u2_o (by decide), u2_o (by decide)]; exact hI.2.2.1 k
            have h1 : ∀ k, u2 (u2 mm' 12 p 1) 11 p (nI (a + wD (B p))) 1 k = sgW m t n hs 1 k := fun k => by rw [u2_o (by decide), u2_o (by decide)]; exact hI.2.2.2 k
            cases rep with
            | false =>
              obtain ⟨c1, c2⟩ := b5 hm1.1
              refine m_act0 hm (by omega) (by rw [hk2.2 6 (by decide) (by decide) (by decide)]; exact c1) c2 ?_
              dsimp only [cV]
              rw [n_s1]
              refine b_M_over_231 ?_
              rw [nI_add]
              refine hgo _ ⟨kp_u hk2 (Or.inr (by decide)), fun x hx => ?_, fun k => ?_, fun k => ?_⟩ _ _
              · rw [u2_o (by decide), u2_o (by decide), u2_o (by decide), u2_o (by decide)]
                exact hph x hx
              · by_cases hkq : k = tqD (B p)
                · subst hkq
                  rw [u2_s, h13, if_neg (by decide), u1_s]
                · rw [u2_k hkq, h13, if_neg (by decide), u1_o hkq]
              · rw [u2_o (by decide), h1]
                rfl
            | true =>
              obtain ⟨j, c1, c2⟩ := b6 hm1.1
              refine b_M_act_0 ⟨fun _ => ?_, fun c => c_11 c⟩
              refine m_act1L hm hk2 (by omega) t1 t3 c1 c2 (by omega) (fun mm3 k1 k2 k3 => ?_) (wD (B p)) 0 (by omega) _ hk2 (fun _ _ _ => rfl) (fun q => by rw [if_neg (fun z => by omega)])
              dsimp only [cV]
              rw [n_s1]
              refine b_M_over_231 ?_
              rw [nI_add]
              refine hgo _ ⟨k1, fun x hx => ?_, fun k => ?_, fun k => ?_⟩ _ _
              · rw [k2 9 (by decide), k2 10 (by decide), k2 11 (by decide), k2 12 (by decide)]
                exact hph x hx
              · rw [k2 13 (by decide), h13, if_pos rfl]
              · rw [k3, h1, if_pos rfl]
                unfold sgW pt
                by_cases hr2 : 60 * t + a ≤ k ∧ k < 60 * t + a + wD (B p)
                · rw [if_pos hr2, if_pos (show 1 = 1 ∧ 60 * t ≤ k ∧ k < 60 * t + n from ⟨rfl, by omega, by omega⟩), if_pos (show a ≤ k - 60 * t ∧ k - 60 * t < a + wD (B p) from ⟨by omega, by omega⟩), show k - (60 * t + a) = k - 60 * t - a by omega]
                · rw [if_neg hr2]
                  by_cases hr : 60 * t ≤ k ∧ k < 60 * t + n
                  · rw [if_pos (show 1 = 1 ∧ 60 * t ≤ k ∧ k < 60 * t + n from ⟨rfl, hr⟩), if_pos (show 1 = 1 ∧ 60 * t ≤ k ∧ k < 60 * t + n from ⟨rfl, hr⟩), if_neg (show ¬ (a ≤ k - 60 * t ∧ k - 60 * t < a + wD (B p)) from fun z => hr2 ⟨by omega, by omega⟩)]
                  · rw [if_neg (show ¬ (1 = 1 ∧ 60 * t ≤ k ∧ k < 60 * t + n) from fun z => hr z.2), if_neg (show ¬ (1 = 1 ∧ 60 * t ≤ k ∧ k < 60 * t + n) from fun z => hr z.2)]
          refine ⟨fun c => absurd c (n_m1 (by omega)), fun _ => ⟨hm.1, ?_⟩⟩
          rw [r_327 hm, k_327 hm, n_327 hm, r_328 hm, k_328 hm, n_328 hm, r_323 hm, k_323 hm, n_323 hm, a_327, a_328, nI_clamp (by omega), e4, n_mod _ b2, hI.1.2 5 (by decide) (by decide) (by decide), a_323]
          refine ⟨⟨rfl, n_in (by omega) (by decide)⟩, by decide, fun c => ⟨hm.1, hm.1, ⟨rfl, n_in (by omega) (by decide)⟩, ?_⟩, fun c => b_M_over_172 ?_⟩
          · have hk0 : kdD (B p) ≠ 0 := fun q => c (by rw [q]; rfl)
            obtain ⟨j, j1, j2⟩ := b4 hk0
            have := j2.1
            rw [j1, nI_clamp (by omega), hI.1.2 3 (by decide) (by decide) (by decide), j2.2.1]
            exact ⟨⟨rfl, n_in (by omega) (by decide)⟩, wide⟩
          · have c := Classical.not_not.mp c
            rw [lit_0, n_eq (by omega) (by decide)] at c
            have w1 := b3 c
            rw [w1] at wide
            exact wide
      -- the search, from the back
      have back : ∀ k, k ≤ P → wp J_M_over 100 [vr M, vi (nI t), vi (bI rep), vi (nI ac), vi (nI a), vi (en P (lf (mtP B f rep ld dn a) (P - k) k)), vi (nI k - 1)] [] (mw σ M s mm') Q := by
        intro k
        induction k with
        | zero =>
          intro _
          rw [show nI 0 - 1 = -1 by decide +kernel, Nat.sub_zero]
          exact found 0
        | succ k ihk =>
          intro hk
          have hb := ihk (by omega)
          obtain ⟨b1, b2, -⟩ := id (hB k (by omega))
          have e4 : mm' 4 k = nI (kdD (B k) + if rpD (B k) then 10 else 0) := by rw [hI.1.2 4 (by decide) (by decide) (by decide)]; exact b1
          have keep : ¬ mtP B f rep ld dn a k → wp J_M_over 143 [vr M, vi (nI t), vi (bI rep), vi (nI ac), vi (nI a), vi (en P (lf (mtP B f rep ld dn a) (P - (k + 1)) (k + 1))), vi (nI k)] [] (mw σ M s mm') Q := fun c2 => by
            refine b_M_over_143 (b_M_over_145 ?_)
            rw [lf_b (by omega), if_neg c2] at hb
            rw [show nI k + (-1 : Int32) = nI k - 1 by rw [Int32.sub_eq_add_neg]]
            exact hb
          have look : ∀ tx : Int32, tx = bI (rpD (B k)) → wp J_M_over 122 [vr M, vi (nI t), vi (bI rep), vi (nI ac), vi (nI a), vi (en P (lf (mtP B f rep ld dn a) (P - (k + 1)) (k + 1))), vi (nI k)] [vi tx] (mw σ M s mm') Q := by
            intro tx htx
            refine b_M_over_122 ⟨fun c2 => keep (fun z => c2 (by rw [htx, z.1])), fun c2 => ⟨hm.1, ?_⟩⟩
            have c2 := Classical.not_not.mp c2
            have hr : rpD (B k) = rep := by
              rw [htx] at c2
              cases hx : rpD (B k) <;> cases hy : rep <;> rw [hx, hy] at c2 <;> first | rfl | exact absurd c2 (by decide)
            obtain ⟨y1, y2, y3, y4⟩ := hI.2.1 k (by omega)
            refine m_matches hm hI.1 (by omega) (hB k (by omega)) ht y1 y2 y3 y4 (by omega) (hld k (by omega)) ⟨fun c3 => ?_, fun c3 => b_M_over_145 ?_⟩
            · rw [bP_0] at c3
              exact keep (fun z => c3 z.2)
            · rw [bP_0] at c3
              rw [lf_b (by omega), if_pos ⟨hr, Classical.not_not.mp c3⟩, en_r (by omega)] at hb
              rw [show nI k + (-1 : Int32) = nI k - 1 by rw [Int32.sub_eq_add_neg]]
              exact hb
          rw [nI_pred]
          refine b_M_over_100 ⟨fun c2 => absurd c2 (nI_pos (by omega)), fun _ => ⟨hm.1, ?_⟩⟩
          rw [r_327 hm, k_327 hm, n_327 hm, a_327, nI_clamp (by omega), e4, n_gt9 _ b2]
          refine ⟨⟨rfl, n_in (by omega) (by decide)⟩, fun c2 => look 0 (by rw [c2]; rfl), fun c2 => look 1 ?_⟩
          cases hx : rpD (B k) with
          | false => exact absurd hx c2
          | true => rfl
      have h0 := back P (Nat.le_refl _)
      rw [Nat.sub_self, lf_0, en_N] at h0
      exact h0
end MV
