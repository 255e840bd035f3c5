/-! LAYER 2, PURE: numbers, least places, bulk writes. -/
theorem n_sub {a b : Nat} (h : b ≤ a) : nI a - nI b = nI (a - b) := by
  obtain ⟨c, rfl⟩ := Nat.exists_eq_add_of_le h
  rw [Nat.add_sub_cancel_left, ← nI_add]
  have h1 : nI b + nI c - nI b = nI c := by
    rw [Int32.add_comm, Int32.add_sub_cancel]
  exact h1
theorem n_mul (a b : Nat) : nI a * nI b = nI (a * b) := (Int32.ofNat_mul a b).symm
theorem n_m1 {n : Nat} (h : n < 2 ^ 31) : nI n ≠ -1 := fun q => by
  have h1 := nI_pos' h
  rw [q] at h1
  exact absurd h1 (by decide)
theorem n_le {a b : Nat} (ha : a < 2 ^ 31) (hb : b < 2 ^ 31) : (nI a ≤ nI b) = (a ≤ b) := propext (nI_leI ha hb)
theorem n_lt {a b : Nat} (ha : a < 2 ^ 31) (hb : b < 2 ^ 31) : (nI a < nI b) = (a < b) := propext (nI_ltI ha hb)
theorem n_eq {a b : Nat} (ha : a < 2 ^ 31) (hb : b < 2 ^ 31) : (nI a = nI b) = (a = b) := propext (nI_eq ha hb)
theorem n_in {k N : Nat} (h : k < N) (hN : N < 2 ^ 31) : iIn (nI k) N := nI_in h hN
theorem n_s1 (a : Nat) : nI a + (1 : Int32) = nI (a + 1) := nI_1 a
theorem n_p1 {a : Nat} (h : 0 < a) : nI a - (1 : Int32) = nI (a - 1) := n_sub (b := 1) h
theorem n_pm {a : Nat} (h : 0 < a) : nI a + (-1 : Int32) = nI (a - 1) := by
  rw [← n_p1 h, Int32.sub_eq_add_neg]
theorem n_le' {x : Int32} {a : Nat} (ha : a < 2 ^ 31) (hx : ¬ x < 0) (h : x ≤ nI a) : ∃ j, j ≤ a ∧ x = nI j := nI_of2 (nI_toInt ha) hx h
theorem n_of {x : Int32} (h : ¬ x < 0) : ∃ j : Nat, j < 2 ^ 31 ∧ x = nI j := nI_of h
/-- a number for a place: none is -1 -/
def en (N r : Nat) : Int32 := if r = N then -1 else nI r
theorem en_N (N : Nat) : en N N = -1 := if_pos rfl
theorem en_r {N r : Nat} (h : r ≠ N) : en N r = nI r := if_neg h
/-- 1 or 0 -/
noncomputable def bP (P : Prop) : Int32 := @ite _ P (Classical.propDecidable P) 1 0
theorem bP_t {P : Prop} (h : P) : bP P = 1 := if_pos h
theorem bP_f {P : Prop} (h : ¬ P) : bP P = 0 := if_neg h
theorem bP_0 {P : Prop} : (bP P = 0) = ¬ P := by
  by_cases h : P
  · rw [bP_t h]; exact propext ⟨fun q => absurd q (by decide), fun q => absurd h q⟩
  · rw [bP_f h]; exact propext ⟨fun _ => h, fun _ => rfl⟩
theorem bP_b (P : Prop) : iBool (bP P) := by
  by_cases h : P
  · rw [bP_t h]; exact Or.inr rfl
  · rw [bP_f h]; exact Or.inl rfl
theorem bP_c {P Q : Prop} (h : P ↔ Q) : bP P = bP Q := by rw [propext h]
/-- the least of d places from p on with P, or p + d -/
noncomputable def lf (P : Nat → Prop) : Nat → Nat → Nat
  | 0, p => p
  | d + 1, p => @ite _ (P p) (Classical.propDecidable _) p (lf P d (p + 1))
theorem lf_0 (P : Nat → Prop) (p : Nat) : lf P 0 p = p := rfl
theorem lf_t {P : Nat → Prop} {d p : Nat} (h : P p) : lf P (d + 1) p = p := if_pos h
theorem lf_f {P : Nat → Prop} {d p : Nat} (h : ¬ P p) : lf P (d + 1) p = lf P d (p + 1) := if_neg h
theorem lf_le (P : Nat → Prop) : ∀ d p, p ≤ lf P d p ∧ lf P d p ≤ p + d
  | 0, p => ⟨Nat.le_refl _, Nat.le_refl _⟩
  | d + 1, p => by
    by_cases h : P p
    · rw [lf_t h]; omega
    · rw [lf_f h]
      have := lf_le P d (p + 1)
      omega
theorem lf_at (P : Nat → Prop) : ∀ d p, lf P d p < p + d → P (lf P d p)
  | 0, p => fun h => by rw [lf_0] at h; omega
  | d + 1, p => fun h => by
    by_cases hp : P p
    · rw [lf_t hp]; exact hp
    · rw [lf_f hp] at h ⊢
      exact lf_at P d (p + 1) (by omega)
theorem lf_no (P : Nat → Prop) : ∀ d p q, p ≤ q → q < lf P d p → ¬ P q
  | 0, p, q => fun h1 h2 => by rw [lf_0] at h2; omega
  | d + 1, p, q => fun h1 h2 => by
    by_cases hp : P p
    · rw [lf_t hp] at h2; omega
    · rw [lf_f hp] at h2
      by_cases hq : q = p
      · subst hq; exact hp
      · exact lf_no P d (p + 1) q (by omega) h2
theorem lf_u {P : Nat → Prop} {d p r : Nat} (h1 : p ≤ r) (h2 : r ≤ p + d) (h3 : r < p + d → P r) (h4 : ∀ q, p ≤ q → q < r → ¬ P q) : lf P d p = r := by
  have a1 := lf_le P d p
  by_cases c1 : lf P d p < r
  · exact absurd (lf_at P d p (by omega)) (h4 _ a1.1 c1)
  · by_cases c2 : r < lf P d p
    · exact absurd (h3 (by omega)) (lf_no P d p r h1 c2)
    · omega
theorem lf_c {P P' : Nat → Prop} : ∀ (d p : Nat), (∀ q, p ≤ q → q < p + d → (P q ↔ P' q)) → lf P d p = lf P' d p
  | 0, p => fun _ => rfl
  | d + 1, p => fun h => by
    have h0 := h p (Nat.le_refl _) (by omega)
    by_cases hp : P p
    · rw [lf_t hp, lf_t (h0.mp hp)]
    · rw [lf_f hp, lf_f (fun q => hp (h0.mpr q))]
      exact lf_c d (p + 1) (fun q h1 h2 => h q (by omega) (by omega))
/-- all of an array's elements at once -/
def wV (σ : iS) (b : Nat) (h : Nat → Int32) : iS := (sI σ, sR σ, (fun a k => if a = b then h k else sA σ a k), sB σ, sL σ, sK σ, sN σ, sX σ, sS σ)
theorem wV_s (σ : iS) (b : Nat) : wV σ b (sA σ b) = σ := by
  have h : (fun a k => if a = b then sA σ b k else sA σ a k) = sA σ := by
    funext a k
    by_cases q : a = b
    · subst q; exact if_pos rfl
    · exact if_neg q
  show (sI σ, sR σ, (fun a k => if a = b then sA σ b k else sA σ a k), sB σ, sL σ, sK σ, sN σ, sX σ, sS σ) = σ
  rw [h]
  rfl
theorem wV_A (σ : iS) (b : Nat) (h : Nat → Int32) (k : Nat) : sA (wV σ b h) b k = h k := if_pos rfl
theorem wV_o {σ : iS} {a b : Nat} {h : Nat → Int32} (hab : a ≠ b) (k : Nat) : sA (wV σ b h) a k = sA σ a k := if_neg hab
theorem wV_w (σ : iS) (b : Nat) (h : Nat → Int32) (k : Nat) (x : Int32) : wA (wV σ b h) b k x = wV σ b (fun q => if q = k then x else h q) := by
  have e : u2 (fun a k => if a = b then h k else sA σ a k) b k x = fun a q => if a = b then (if q = k then x else h q) else sA σ a q := by
    funext a q
    unfold u2
    by_cases ha : a = b
    · subst ha
      by_cases hq : q = k
      · subst hq; simp
      · simp [hq]
    · simp [ha]
  show (sI σ, sR σ, u2 (fun a k => if a = b then h k else sA σ a k) b k x, sB σ, sL σ, sK σ, sN σ, sX σ, sS σ) = _
  rw [e]
  rfl
theorem wV_1 (σ : iS) (b k : Nat) (x : Int32) : wA σ b k x = wV σ b (fun q => if q = k then x else sA σ b q) := by
  have h := wV_w σ b (sA σ b) k x
  rw [wV_s] at h
  exact h
theorem wV_c {σ : iS} {b : Nat} {h h' : Nat → Int32} (e : ∀ k, h k = h' k) : wV σ b h = wV σ b h' := by rw [show h = h' from funext e]
theorem wV_2 (σ : iS) (b : Nat) (h h' : Nat → Int32) : wV (wV σ b h) b h' = wV σ b h' := by
  have e : (fun a k => if a = b then h' k else (if a = b then h k else sA σ a k)) = fun a k => if a = b then h' k else sA σ a k := by
    funext a k
    by_cases q : a = b
    · simp [q]
    · simp [q]
  show (sI σ, sR σ, (fun a k => if a = b then h' k else (if a = b then h k else sA σ a k)), sB σ, sL σ, sK σ, sN σ, sX σ, sS σ) = _
  rw [e]
  rfl
/-- a write of one element behind others: the places below p -/
theorem wV_n {σ : iS} {b p : Nat} {v h : Nat → Int32} : wA (wV σ b (fun k => if k < p then v k else h k)) b p (v p) = wV σ b (fun k => if k < p + 1 then v k else h k) := by
  rw [wV_w]
  refine wV_c (fun k => ?_)
  by_cases h1 : k = p
  · subst h1; simp
  · by_cases h2 : k < p
    · simp [h1, h2, Nat.lt_succ_of_lt h2]
    · have h3 : ¬ k < p + 1 := by omega
      simp [h1, h2, h3]
