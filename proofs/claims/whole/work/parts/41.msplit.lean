/-! LAYER 2: split of the model. -/
/-- a delimiter: its width, its signs, whether all of a row of them are meant -/
abbrev deD : Type := Nat × (Nat → Int32) × Bool
def hP (f : Nat → Int32) (n : Nat) (E : Nat → deD) (e d : Nat) : Prop := ocP f n (E d).2.1 (E d).1 e
/-- over and over, by w, while P -/
noncomputable def rq1 (P : Nat → Prop) (w : Nat) : Nat → Nat → Nat
  | 0, a => a
  | d + 1, a => @ite _ (P a) (Classical.propDecidable _) (rq1 P w d (a + w)) a
theorem rq1_t {P : Nat → Prop} {w d a : Nat} (h : P a) : rq1 P w (d + 1) a = rq1 P w d (a + w) := if_pos h
theorem rq1_f {P : Nat → Prop} {w d a : Nat} (h : ¬ P a) : rq1 P w (d + 1) a = a := if_neg h
theorem rq1_u {P : Nat → Prop} {w n : Nat} (hw : 1 ≤ w) (hP : ∀ a, P a → a + w ≤ n) : ∀ d d' a, n - a ≤ d → n - a ≤ d' → rq1 P w d a = rq1 P w d' a
  | 0, 0, a => fun _ _ => rfl
  | 0, d' + 1, a => fun h1 h2 => by
    rw [rq1_f (fun q => by have := hP a q; omega)]
    rfl
  | d + 1, 0, a => fun h1 h2 => by
    rw [rq1_f (fun q => by have := hP a q; omega)]
    rfl
  | d + 1, d' + 1, a => fun h1 h2 => by
    by_cases q : P a
    · have := hP a q
      rw [rq1_t q, rq1_t q]
      exact rq1_u hw hP d d' (a + w) (by omega) (by omega)
    · rw [rq1_f q, rq1_f q]
theorem rq1_b {P : Nat → Prop} {w n : Nat} (hP : ∀ a, P a → a + w ≤ n) : ∀ d a, a ≤ n → a ≤ rq1 P w d a ∧ rq1 P w d a ≤ n
  | 0, a => fun h => ⟨Nat.le_refl _, h⟩
  | d + 1, a => fun h => by
    by_cases q : P a
    · have h1 := hP a q
      rw [rq1_t q]
      have := rq1_b hP d (a + w) h1
      omega
    · rw [rq1_f q]
      exact ⟨Nat.le_refl _, h⟩
/-- where the piece from a on ends; which delimiter ends it (D: none); where the next one begins -/
noncomputable def spE (f : Nat → Int32) (n : Nat) (E : Nat → deD) (D zr a : Nat) : Nat := if D = 0 then (if a + zr < n then a + zr else n) else lf (fun e => lf (hP f n E e) D 0 ≠ D) (n - a) a
noncomputable def spW (f : Nat → Int32) (n : Nat) (E : Nat → deD) (D e : Nat) : Nat := if e < n then lf (hP f n E e) D 0 else D
noncomputable def spN (f : Nat → Int32) (n : Nat) (E : Nat → deD) (D e d : Nat) : Nat := if d = D then e else if (E d).2.2 = true then rq1 (ocP f n (E d).2.1 (E d).1) (E d).1 n (e + (E d).1) else e + (E d).1
/-- where piece r begins -/
noncomputable def spP (f : Nat → Int32) (n : Nat) (E : Nat → deD) (D : Nat) (zr : Nat → Nat) (a : Nat) : Nat → Nat
  | 0 => a
  | r + 1 => if spP f n E D zr a r < n then spN f n E D (spE f n E D (zr r) (spP f n E D zr a r)) (spW f n E D (spE f n E D (zr r) (spP f n E D zr a r))) else spP f n E D zr a r
/-- how many are served -/
noncomputable def spV (f : Nat → Int32) (n : Nat) (E : Nat → deD) (D R : Nat) (zr : Nat → Nat) (a : Nat) : Nat := lf (fun r => ¬ spP f n E D zr a r < n) R 0
theorem spE_b (f : Nat → Int32) (n : Nat) (E : Nat → deD) (D zr a : Nat) (h : a ≤ n) : a ≤ spE f n E D zr a ∧ spE f n E D zr a ≤ n := by
  unfold spE
  split
  · split <;> omega
  · have := lf_le (fun e => lf (hP f n E e) D 0 ≠ D) (n - a) a
    omega
theorem spW_b (f : Nat → Int32) (n : Nat) (E : Nat → deD) (D e : Nat) : spW f n E D e ≤ D := by
  unfold spW
  have := lf_le (hP f n E e) D 0
  split <;> omega
theorem spW_h {f : Nat → Int32} {n : Nat} {E : Nat → deD} {D e : Nat} (h : spW f n E D e ≠ D) : hP f n E e (spW f n E D e) ∧ e < n ∧ spW f n E D e < D := by
  unfold spW at h ⊢
  have hl := lf_le (hP f n E e) D 0
  by_cases c : e < n
  · rw [if_pos c] at h ⊢
    exact ⟨lf_at (hP f n E e) D 0 (by omega), c, by omega⟩
  · rw [if_neg c] at h
    exact absurd rfl h
theorem spN_b {f : Nat → Int32} {n : Nat} {E : Nat → deD} {D e : Nat} (he : e ≤ n) : e ≤ spN f n E D e (spW f n E D e) ∧ spN f n E D e (spW f n E D e) ≤ n := by
  unfold spN
  by_cases c : spW f n E D e = D
  · rw [if_pos c]; omega
  · rw [if_neg c]
    obtain ⟨h1, h2, h3⟩ := spW_h c
    have h4 := h1.1
    split
    · have := rq1_b (w := (E (spW f n E D e)).1) (n := n) (P := ocP f n (E (spW f n E D e)).2.1 (E (spW f n E D e)).1) (fun a q => q.1) n (e + (E (spW f n E D e)).1) h4
      omega
    · omega
theorem spP_b (f : Nat → Int32) (n : Nat) (E : Nat → deD) (D : Nat) (zr : Nat → Nat) (a : Nat) (h : a ≤ n) : ∀ r, spP f n E D zr a r ≤ n
  | 0 => h
  | r + 1 => by
    unfold spP
    split
    · exact (spN_b (spE_b f n E D (zr r) _ (spP_b f n E D zr a h r)).2).2
    · exact spP_b f n E D zr a h r
/-- a piece laid into a text -/
def mv (G : Nat → Int32) (f : Nat → Int32) (i zi b L : Nat) : Nat → Int32 := fun k => if 60 * i ≤ k ∧ k < 60 * i + zi then (if k - 60 * i < L then f (b + (k - 60 * i)) else 32) else G k
/-- the signs when r pieces are handed out; rv: the receivers -/
noncomputable def spH (f : Nat → Int32) (n : Nat) (E : Nat → deD) (D : Nat) (rv : Nat → Nat) (z : Nat → Nat) (a : Nat) (G : Nat → Int32) : Nat → Nat → Int32
  | 0 => G
  | r + 1 => mv (spH f n E D rv z a G r) f (rv r) (z (rv r)) (spP f n E D (fun x => z (rv x)) a r) (spE f n E D (z (rv r)) (spP f n E D (fun x => z (rv x)) a r) - spP f n E D (fun x => z (rv x)) a r)
def kq (m mm : Nat → Nat → Int32) : Prop := (∀ k, k < 2400 → mm 2 k = m 1 k) ∧ ∀ c, c ≠ 1 → c ≠ 2 → c ≠ 18 → c ≠ 19 → ∀ k, mm c k = m c k
theorem kq_mX {m mm : Nat → Nat → Int32} {i n : Nat} {f : Nat → Int32} (hk : kq m mm) (h : mX m 1 i n f) : mX mm 2 i n f :=
  ⟨h.1, by rw [hk.2 3 (by decide) (by decide) (by decide) (by decide)]; exact h.2.1, h.2.2.1, fun k h1 => by rw [hk.1 _ (by have := h.1; have := h.2.2.1; omega)]; exact h.2.2.2 k h1⟩
theorem kq_u {m mm : Nat → Nat → Int32} {c k : Nat} {x : Int32} (hk : kq m mm) (hc : c = 1 ∨ c = 18 ∨ c = 19) : kq m (u2 mm c k x) :=
  ⟨fun q hq => by rw [u2_o (by omega)]; exact hk.1 q hq, fun c' h1 h2 h3 h4 q => by rw [u2_o (by omega)]; exact hk.2 c' h1 h2 h3 h4 q⟩
/-- what the model's memory says of delimiter d -/
def deM (m : Nat → Nat → Int32) (q : deD) (d : Nat) : Prop := ∃ l, m 16 d = nI l ∧ mX m 1 l q.1 q.2.1 ∧ 1 ≤ q.1 ∧ m 20 d = bI q.2.2
section MSP
variable {σ : iS} {M : Nat} {s : Nat → Int32} {m mm : Nat → Nat → Int32} {Q : iO → iS → Prop} {N : Nat} {z : Nat → Nat} {t n D : Nat} {f : Nat → Int32} {E : Nat → deD}
theorem m_here (hm : mS σ M) (hk : kq m mm) (hD : s 346 = nI D) (hD2 : D ≤ 8) (hE : ∀ d, d < D → deM m (E d) d) (ht : mX m 1 t n f) {e : Nat} (he : e < n) (h : Q (.inl (some (vi (en D (lf (hP f n E e) D 0))))) (mw σ M s mm)) : ca J_M_here [vr M, vi (nI t), vi (nI e)] (mw σ M s mm) Q := by
  obtain ⟨t1, t2, t3, t4⟩ := id ht
  refine b_M_here_0 ⟨hm.1, ?_⟩
  rw [mw_i, hD]
  have back : ∀ k, k ≤ D → wp J_M_here 10 [vr M, vi (nI t), vi (nI e), vi (en D (lf (hP f n E e) (D - k) k)), vi (nI k - 1)] [] (mw σ M s mm) Q := by
    intro k
    induction k with
    | zero =>
      intro _
      rw [show nI 0 - 1 = -1 by decide +kernel, Nat.sub_zero]
      exact b_M_here_10 ⟨fun _ => h, fun c => absurd (by decide) c⟩
    | succ k ihk =>
      intro hkD
      have hb := ihk (by omega)
      obtain ⟨l, l1, l2, l3, l4⟩ := hE k (by omega)
      rw [nI_pred]
      refine b_M_here_10 ⟨fun c => absurd c (nI_pos (by omega)), fun _ => ⟨hm.1, hm.1, ?_⟩⟩
      rw [r_341 hm, k_341 hm, n_341 hm, r_323 hm, k_323 hm, n_323 hm, r_322 hm, a_341, a_323, nI_clamp (by omega), nI_clamp (by omega), hk.2 16 (by decide) (by decide) (by decide) (by decide), l1, hk.2 3 (by decide) (by decide) (by decide) (by decide), t2]
      refine ⟨⟨rfl, n_in (by omega) (by decide)⟩, hm.1, ⟨rfl, n_in (by omega) (by decide)⟩, hm.1, m_occurs hm (Or.inr rfl) (kq_mX hk l2) (kq_mX hk ht) (Nat.le_refl _) (by omega) ⟨fun c => b_M_here_47 ?_, fun c => b_M_here_47 ?_⟩⟩
      · rw [bP_0] at c
        rw [lf_b (by omega), if_neg (show ¬ hP f n E e k from c)] at hb
        rw [show nI k + (-1 : Int32) = nI k - 1 by rw [Int32.sub_eq_add_neg]]
        exact hb
      · rw [bP_0] at c
        rw [lf_b (by omega), if_pos (show hP f n E e k from Classical.not_not.mp c), en_r (by omega)] at hb
        rw [show nI k + (-1 : Int32) = nI k - 1 by rw [Int32.sub_eq_add_neg]]
        exact hb
  have h0 := back D (Nat.le_refl _)
  rw [Nat.sub_self, lf_0, en_N] at h0
  exact h0
theorem m_moveL (hm : mS σ M) (ht : mX m 1 t n f) {b L i zi : Nat} (hi : i < 40) (hzi : m 3 i = nI zi) (hzi2 : zi ≤ 60) (hbL : b + L ≤ n) (G0 : Nat → Int32) (h : ∀ mm', kq m mm' → (∀ c, c ≠ 1 → ∀ k, mm' c k = mm c k) → (∀ k, mm' 1 k = mv G0 f i zi b L k) → Q (.inl none) (mw σ M s mm')) : ∀ d k, k + d = zi → ∀ mm', kq m mm' → (∀ c, c ≠ 1 → ∀ k, mm' c k = mm c k) → (∀ q, mm' 1 q = if 60 * i ≤ q ∧ q < 60 * i + k then (if q - 60 * i < L then f (b + (q - 60 * i)) else 32) else G0 q) → wp J_M_move 3 [vr M, vi (nI t), vi (nI b), vi (nI L), vi (nI i), vi (nI k)] [] (mw σ M s mm') Q := by
  obtain ⟨t1, t2, t3, t4⟩ := id ht
  intro d
  induction d with
  | zero =>
    intro k hk mm' h1 h2 h3
    have hk : k = zi := by omega
    subst hk
    refine b_M_move_3 ⟨hm.1, ?_⟩
    rw [r_323 hm, k_323 hm, n_323 hm, a_323, nI_clamp (by omega), h1.2 3 (by decide) (by decide) (by decide) (by decide), hzi, n_le (by omega) (by omega)]
    exact ⟨⟨rfl, n_in (by omega) (by decide)⟩, fun _ => h mm' h1 h2 h3, fun c => by omega⟩
  | succ d ih =>
    intro k hk mm' h1 h2 h3
    have go : ∀ x : Int32, x = (if k < L then f (b + k) else 32) → wp J_M_move 52 [vr M, vi (nI t), vi (nI b), vi (nI L), vi (nI i), vi (nI k)] [vi x, vi (nI (60 * i + k)), vr (M + 1)] (mw σ M s mm') Q := by
      intro x hx
      refine b_M_move_52 ?_
      rw [k_321 hm, n_321 hm, nI_clamp (by omega), w_321, n_s1]
      refine ⟨⟨rfl, n_in (by omega) (by decide)⟩, fun σ1 hh => ?_⟩
      subst hh
      refine ih (k + 1) (by omega) _ (kq_u h1 (Or.inl rfl)) (fun c hc q => by rw [u2_o hc]; exact h2 c hc q) (fun q => ?_)
      by_cases hq : q = 60 * i + k
      · subst hq
        rw [u2_s, if_pos ⟨by omega, by omega⟩, Nat.add_sub_cancel_left, hx]
      · rw [u2_k hq, h3]
        by_cases hr : 60 * i ≤ q ∧ q < 60 * i + k
        · rw [if_pos hr, if_pos (show 60 * i ≤ q ∧ q < 60 * i + (k + 1) from ⟨hr.1, by omega⟩)]
        · rw [if_neg hr, if_neg (fun z => hr ⟨z.1, by omega⟩)]
    refine b_M_move_3 ⟨hm.1, ?_⟩
    rw [r_323 hm, k_323 hm, n_323 hm, a_323, nI_clamp (by omega), h1.2 3 (by decide) (by decide) (by decide) (by decide), hzi, n_le (by omega) (by omega), n_le (by omega) (by omega), lit_60, n_mul, n_mul, nI_add, nI_add, nI_add, r_321 hm, r_322 hm, k_322 hm, n_322 hm]
    refine ⟨⟨rfl, n_in (by omega) (by decide)⟩, fun c => by omega, fun _ => ⟨hm.1, fun c => go 32 (by rw [if_neg (by omega)]), fun c => ⟨hm.1, ⟨rfl, n_in (by omega) (by decide)⟩, go _ ?_⟩⟩⟩
    rw [nI_clamp (by omega), a_322, h1.1 _ (by omega), Nat.add_assoc, t4 _ (by omega), if_pos (by omega)]
theorem m_move (hm : mS σ M) (hk : kq m mm) (ht : mX m 1 t n f) {b L i zi : Nat} (hi : i < 40) (hzi : m 3 i = nI zi) (hzi2 : zi ≤ 60) (hbL : b + L ≤ n) (h : ∀ mm', kq m mm' → (∀ c, c ≠ 1 → ∀ k, mm' c k = mm c k) → (∀ k, mm' 1 k = mv (mm 1) f i zi b L k) → Q (.inl none) (mw σ M s mm')) : ca J_M_move [vr M, vi (nI t), vi (nI b), vi (nI L), vi (nI i)] (mw σ M s mm) Q :=
  b_M_move_0 (m_moveL hm ht hi hzi hzi2 hbL (mm 1) h zi 0 (by omega) mm hk (fun _ _ _ => rfl) (fun q => by rw [if_neg (fun z => by omega)]))
/-- behind the delimiter -/
theorem m_behind (hm : mS σ M) (hk : kq m mm) (hE : ∀ d, d < D → deM m (E d) d) (hD2 : D ≤ 8) (ht : mX m 1 t n f) {x2 x4 x5 x6 : Int32} {d : Nat} (hd : d < D) : ∀ g a, n - a ≤ g → ocP f n (E d).2.1 (E d).1 a → (∀ x8 : Int32, wp J_M_split 84 [vr M, vi (nI t), vi x2, vi (nI (if (E d).2.2 = true then rq1 (ocP f n (E d).2.1 (E d).1) (E d).1 n (a + (E d).1) else a + (E d).1)), vi x4, vi (x5 + 1), vi x6, vi (nI d), vi x8] [] (mw σ M s mm) Q) → wp J_M_split 277 [vr M, vi (nI t), vi x2, vi (nI a), vi x4, vi x5, vi x6, vi (nI d), vi 1] [] (mw σ M s mm) Q := by
  obtain ⟨t1, t2, t3, t4⟩ := id ht
  obtain ⟨l, l1, l2, l3, l4⟩ := hE d hd
  have hl := l2.1
  have hw := l2.2.2.1
  intro g
  induction g with
  | zero =>
    intro a ha ho
    have := ho.1
    omega
  | succ g ih =>
    intro a ha ho h
    have h1 := ho.1
    refine b_M_split_277 ⟨fun c => c_10 c, fun _ => ⟨hm.1, hm.1, ?_⟩⟩
    rw [r_341 hm, k_341 hm, n_341 hm, r_323 hm, k_323 hm, n_323 hm, r_345 hm, k_345 hm, n_345 hm, r_322 hm, a_341, a_345, nI_clamp (by omega), hk.2 16 (by decide) (by decide) (by decide) (by decide), l1, a_323, a_323, nI_clamp (by omega), nI_clamp (by omega), hk.2 3 (by decide) (by decide) (by decide) (by decide), hk.2 3 (by decide) (by decide) (by decide) (by decide), l2.2.1, t2, hk.2 20 (by decide) (by decide) (by decide) (by decide), l4, nI_add]
    refine ⟨⟨rfl, n_in (by omega) (by decide)⟩, ⟨rfl, n_in (by omega) (by decide)⟩, hm.1, ⟨rfl, n_in (by omega) (by decide)⟩, fun c => ?_, fun c => ⟨hm.1, hm.1, ⟨rfl, n_in (by omega) (by decide)⟩, hm.1, ⟨rfl, n_in (by omega) (by decide)⟩, hm.1, ?_⟩⟩
    · have hb : (E d).2.2 = false := by
        cases hx : (E d).2.2 with
        | false => rfl
        | true => rw [hx] at c; exact c_10 c
      rw [hb, if_neg (by decide)] at h
      exact b_M_split_337 (b_M_split_338 (b_M_split_277 ⟨fun _ => h _, fun c => absurd rfl c⟩))
    · have hb : (E d).2.2 = true := by
        cases hx : (E d).2.2 with
        | true => rfl
        | false => rw [hx] at c; exact absurd rfl c
      rw [hb, if_pos rfl] at h
      refine m_occurs hm (Or.inr rfl) (kq_mX hk l2) (kq_mX hk ht) (Nat.le_refl _) (by omega) ⟨fun c2 => ?_, fun c2 => ?_⟩
      · rw [bP_0] at c2
        have e : rq1 (ocP f n (E d).2.1 (E d).1) (E d).1 n (a + (E d).1) = a + (E d).1 := by
          rw [rq1_u (n := n) l3 (fun a q => q.1) n (n + 1) _ (by omega) (by omega), rq1_f c2]
        rw [e] at h
        exact b_M_split_337 (b_M_split_338 (b_M_split_277 ⟨fun _ => h _, fun c => absurd rfl c⟩))
      · rw [bP_0] at c2
        have c2 := Classical.not_not.mp c2
        refine b_M_split_338 (ih (a + (E d).1) (by omega) c2 ?_)
        rw [hb, if_pos rfl]
        have e : rq1 (ocP f n (E d).2.1 (E d).1) (E d).1 n (a + (E d).1) = rq1 (ocP f n (E d).2.1 (E d).1) (E d).1 n (a + (E d).1 + (E d).1) := by
          rw [rq1_u (n := n) l3 (fun a q => q.1) n (n + 1) _ (by omega) (by omega), rq1_t c2]
        rw [← e]
        exact h
end MSP
