/-! LAYER 2: a text of the class, and what Text's methods answer. -/
/-- a text at a: n signs f -/
def tX (σ : iS) (a n : Nat) (f : Nat → Int32) : Prop := sK σ a = 2 ∧ sK σ (sR σ 64 a) = 101 ∧ sN σ (sR σ 64 a) = n ∧ n ≤ 60 ∧ ∀ k, k < n → sA σ (sR σ 64 a) k = f k
/-- m signs g lie in f at p, ahead of e -/
def ocP (f : Nat → Int32) (e : Nat) (g : Nat → Int32) (m p : Nat) : Prop := p + m ≤ e ∧ ∀ k, k < m → f (p + k) = g k
section TX
variable {σ : iS} {Q : iO → iS → Prop} {a b n m : Nat} {f g : Nat → Int32}
theorem tX.arr (h : tX σ a n f) : iArr (sK σ (sR σ 64 a)) = true := by rw [h.2.1]; rfl
theorem tX.lt (h : tX σ a n f) : n < 2 ^ 31 := Nat.lt_of_le_of_lt h.2.2.2.1 (by decide)
theorem t_size (ha : tX σ a n f) (h : Q (.inl (some (vi (nI n)))) σ) : ca J_Text_size [vr a] σ Q :=
  b_Text_size_0 ⟨ha.1, ha.arr, by rw [ha.2.2.1]; exact h⟩
theorem t_holdsL (ha : tX σ a n f) (hb : tX σ b m g) {p : Nat} (hp : p + m ≤ n) (h : Q (.inl (some (vi (bP (ocP f n g m p))))) σ) : ∀ d k, k + d = m → (∀ q, q < k → f (p + q) = g q) → wp J_Text_holds 26 [vr a, vr b, vi (nI p), vi (nI m), vi (nI k)] [] σ Q := by
  have hn := ha.lt
  have hm := hb.lt
  intro d
  induction d with
  | zero =>
    intro k hk hq
    refine b_Text_holds_26 ⟨fun _ => ⟨Or.inr rfl, ?_⟩, fun c => ?_⟩
    · have hk : k = m := by omega
      subst hk
      rw [bP_t ⟨hp, hq⟩] at h
      exact h
    · rw [n_le (by omega) (by omega)] at c
      omega
  | succ d ih =>
    intro k hk hq
    refine b_Text_holds_26 ⟨fun c => ?_, fun _ => ⟨ha.1, ⟨ha.2.1, ?_⟩, hb.1, ⟨hb.2.1, ?_⟩, ?_, ?_⟩⟩
    · rw [n_le (by omega) (by omega)] at c
      omega
    · rw [nI_add, ha.2.2.1]; exact n_in (by omega) hn
    · rw [hb.2.2.1]; exact n_in (by omega) hm
    · intro c
      rw [nI_add, nI_clamp (by omega), nI_clamp (by omega), ha.2.2.2.2 _ (by omega), hb.2.2.2.2 _ (by omega)] at c
      rw [n_s1]
      refine ih (k + 1) (by omega) (fun q h1 => ?_)
      by_cases h2 : q = k
      · subst h2; exact c
      · exact hq q (by omega)
    · intro c
      rw [nI_add, nI_clamp (by omega), nI_clamp (by omega), ha.2.2.2.2 _ (by omega), hb.2.2.2.2 _ (by omega)] at c
      rw [bP_f (fun z => c (z.2 k (by omega)))] at h
      exact ⟨Or.inl rfl, h⟩
theorem t_holds (ha : tX σ a n f) (hb : tX σ b m g) {p : Nat} (hp : p ≤ n) (h : Q (.inl (some (vi (bP (ocP f n g m p))))) σ) : ca J_Text_holds [vr a, vr b, vi (nI p)] σ Q := by
  have hn := ha.lt
  have hm := hb.lt
  refine b_Text_holds_0 ⟨hb.1, hb.arr, fun c => absurd c (nI_pos (by omega)), fun _ => ⟨ha.1, ha.arr, ?_⟩⟩
  rw [hb.2.2.1, ha.2.2.1, n_sub hp, n_le hm (by omega)]
  refine ⟨fun c => ?_, fun c => b_Text_holds_21 ⟨Or.inl rfl, ?_⟩⟩
  · exact t_holdsL ha hb (by omega) h m 0 (by omega) (fun q hq => by omega)
  · rw [bP_f (fun z => c (by have := z.1; omega))] at h
    exact h
theorem t_fpoL (ha : tX σ a n f) (hb : tX σ b m g) : ∀ d p, p + d = n → Q (.inl (some (vi (en n (lf (ocP f n g m) d p))))) σ → wp J_Text_firstPlaceOf 2 [vr a, vr b, vi (nI p)] [] σ Q := by
  have hn := ha.lt
  intro d
  induction d with
  | zero =>
    intro p hp h
    refine b_Text_firstPlaceOf_2 ⟨ha.1, ha.arr, ?_⟩
    rw [ha.2.2.1, n_le (by omega) (by omega)]
    refine ⟨fun _ => ?_, fun c => by omega⟩
    have hp : p = n := by omega
    subst hp
    rw [lf_0, en_N] at h
    exact h
  | succ d ih =>
    intro p hp h
    refine b_Text_firstPlaceOf_2 ⟨ha.1, ha.arr, ?_⟩
    rw [ha.2.2.1, n_le (by omega) (by omega)]
    refine ⟨fun c => by omega, fun _ => ⟨ha.1, t_holds ha hb (by omega) ?_⟩⟩
    refine ⟨fun c => ?_, fun c => ?_⟩
    · rw [bP_0] at c
      rw [lf_f c] at h
      rw [n_s1]
      exact ih (p + 1) (by omega) h
    · rw [bP_0] at c
      have c := Classical.not_not.mp c
      rw [lf_t c, en_r (by omega)] at h
      exact h
theorem t_fpo (ha : tX σ a n f) (hb : tX σ b m g) (h : Q (.inl (some (vi (en n (lf (ocP f n g m) n 0))))) σ) : ca J_Text_firstPlaceOf [vr a, vr b] σ Q :=
  b_Text_firstPlaceOf_0 (t_fpoL ha hb n 0 (by omega) h)
theorem t_fpsL (ha : tX σ a n f) {x : Int32} : ∀ d p, p + d = n → Q (.inl (some (vi (en n (lf (fun j => f j = x) d p))))) σ → wp J_Text_firstPlaceOfSign 2 [vr a, vi x, vi (nI p)] [] σ Q := by
  have hn := ha.lt
  intro d
  induction d with
  | zero =>
    intro p hp h
    refine b_Text_firstPlaceOfSign_2 ⟨ha.1, ha.arr, ?_⟩
    rw [ha.2.2.1, n_le (by omega) (by omega)]
    refine ⟨fun _ => ?_, fun c => by omega⟩
    have hp : p = n := by omega
    subst hp
    rw [lf_0, en_N] at h
    exact h
  | succ d ih =>
    intro p hp h
    refine b_Text_firstPlaceOfSign_2 ⟨ha.1, ha.arr, ?_⟩
    rw [ha.2.2.1, n_le (by omega) (by omega), nI_clamp (by omega), ha.2.2.2.2 _ (by omega)]
    refine ⟨fun c => by omega, fun _ => ⟨ha.1, ⟨ha.2.1, n_in (by omega) (by omega)⟩, fun c => ?_, fun c => ?_⟩⟩
    · rw [lf_f c] at h
      rw [n_s1]
      exact ih (p + 1) (by omega) h
    · rw [lf_t (Classical.not_not.mp c), en_r (by omega)] at h
      exact h
theorem t_fps (ha : tX σ a n f) {x : Int32} (h : Q (.inl (some (vi (en n (lf (fun j => f j = x) n 0))))) σ) : ca J_Text_firstPlaceOfSign [vr a, vi x] σ Q :=
  b_Text_firstPlaceOfSign_0 (t_fpsL ha n 0 (by omega) h)
/-- the signs, into a line of 60 -/
theorem t_copyL (ha : tX σ a n f) (hk : sK σ b = 101) (hN : sN σ b = 60) (hne : sR σ 64 a ≠ b) : ∀ d p, p + d = n → Q (.inl none) (wV σ b (fun k => if k < n then f k else sA σ b k)) → wp J_Text_copyTo 2 [vr a, vr b, vi (nI p)] [] (wV σ b (fun k => if k < p then f k else sA σ b k)) Q := by
  have hn := ha.lt
  have h60 := ha.2.2.2.1
  intro d
  induction d with
  | zero =>
    intro p hp h
    have hp : p = n := by omega
    subst hp
    refine b_Text_copyTo_2 ⟨ha.1, ha.arr, ?_⟩
    show (nI (sN σ (sR σ 64 a)) ≤ nI p → _) ∧ (¬ nI (sN σ (sR σ 64 a)) ≤ nI p → _)
    rw [ha.2.2.1, n_le (by omega) (by omega)]
    exact ⟨fun _ => b_Text_copyTo_32 h, fun c => by omega⟩
  | succ d ih =>
    intro p hp h
    refine b_Text_copyTo_2 ⟨ha.1, ha.arr, ?_⟩
    show (nI (sN σ (sR σ 64 a)) ≤ nI p → _) ∧ (¬ nI (sN σ (sR σ 64 a)) ≤ nI p → _)
    rw [ha.2.2.1, n_le (by omega) (by omega)]
    refine ⟨fun c => by omega, fun _ => ⟨?_, ?_, ?_⟩⟩
    · show iArr (sK σ b) = true
      rw [hk]; rfl
    · show nI (sN σ b) ≤ nI p → _
      rw [hN, n_le (by decide) (by omega)]
      intro c; omega
    · intro _
      refine ⟨ha.1, ⟨ha.2.1, ?_⟩, ⟨hk, ?_⟩, ?_⟩
      · show iIn (nI p) (sN σ (sR σ 64 a))
        rw [ha.2.2.1]; exact n_in (by omega) hn
      · show iIn (nI p) (sN σ b)
        rw [hN]; exact n_in (by omega) (by decide)
      · intro σ3 h3
        subst h3
        show wp J_Text_copyTo 2 [vr a, vr b, vi (nI p + 1)] [] (wA (wV σ b (fun k => if k < p then f k else sA σ b k)) b (nI p).toNatClampNeg (sA (wV σ b (fun k => if k < p then f k else sA σ b k)) (sR σ 64 a) (nI p).toNatClampNeg)) Q
        rw [nI_clamp (by omega), wV_o hne, ha.2.2.2.2 p (by omega), wV_n, n_s1]
        exact ih (p + 1) (by omega) h
theorem t_copy (ha : tX σ a n f) (hk : sK σ b = 101) (hN : sN σ b = 60) (hne : sR σ 64 a ≠ b) (h : Q (.inl none) (wV σ b (fun k => if k < n then f k else sA σ b k))) : ca J_Text_copyTo [vr a, vr b] σ Q := by
  refine b_Text_copyTo_0 ?_
  have h0 := t_copyL (Q := Q) ha hk hN hne n 0 (by omega) h
  have e : wV σ b (fun k => if k < 0 then f k else sA σ b k) = σ := by
    rw [wV_c (h' := sA σ b) (fun k => if_neg (Nat.not_lt_zero k)), wV_s]
  rw [e] at h0
  exact h0
/-- the signs out of a line from q on, L of them; blanks behind -/
theorem t_fillL (ha : tX σ a n f) (hk : sK σ b = 101) (hN : sN σ b = 60) (hne : sR σ 64 a ≠ b) {q L : Nat} (hq : q + L ≤ 60) : ∀ d p, p + d = n → Q (.inl none) (wV σ (sR σ 64 a) (fun k => if k < n then (if k < L then sA σ b (q + k) else 32) else sA σ (sR σ 64 a) k)) → wp J_Text_fillFrom 3 [vr a, vr b, vi (nI q), vi (nI L), vi (nI p)] [] (wV σ (sR σ 64 a) (fun k => if k < p then (if k < L then sA σ b (q + k) else 32) else sA σ (sR σ 64 a) k)) Q := by
  have hn := ha.lt
  have h60 := ha.2.2.2.1
  intro d
  induction d with
  | zero =>
    intro p hp h
    have hp : p = n := by omega
    subst hp
    refine b_Text_fillFrom_3 ⟨ha.1, ha.arr, ?_⟩
    show (nI (sN σ (sR σ 64 a)) ≤ nI p → _) ∧ (¬ nI (sN σ (sR σ 64 a)) ≤ nI p → _)
    rw [ha.2.2.1, n_le (by omega) (by omega)]
    exact ⟨fun _ => h, fun c => by omega⟩
  | succ d ih =>
    intro p hp h
    refine b_Text_fillFrom_3 ⟨ha.1, ha.arr, ?_⟩
    show (nI (sN σ (sR σ 64 a)) ≤ nI p → _) ∧ (¬ nI (sN σ (sR σ 64 a)) ≤ nI p → _)
    rw [ha.2.2.1, n_le (by omega) (by omega), n_le (by omega) (by omega)]
    have go : ∀ x : Int32, x = (if p < L then sA σ b (q + p) else 32) → wp J_Text_fillFrom 36 [vr a, vr b, vi (nI q), vi (nI L), vi (nI p)] [vi x, vi (nI p), vr (sR σ 64 a)] (wV σ (sR σ 64 a) (fun k => if k < p then (if k < L then sA σ b (q + k) else 32) else sA σ (sR σ 64 a) k)) Q := by
      intro x hx
      refine b_Text_fillFrom_36 ⟨⟨ha.2.1, ?_⟩, fun σ1 h1 => ?_⟩
      · show iIn (nI p) (sN σ (sR σ 64 a))
        rw [ha.2.2.1]; exact n_in (by omega) hn
      · subst h1
        rw [nI_clamp (by omega), hx, n_s1]
        have e := wV_n (σ := σ) (b := sR σ 64 a) (p := p) (v := fun k => if k < L then sA σ b (q + k) else 32) (h := sA σ (sR σ 64 a))
        rw [e]
        exact ih (p + 1) (by omega) h
    refine ⟨fun c => by omega, fun _ => ⟨ha.1, fun c => go 32 (by rw [if_neg (by omega)]), fun c => ⟨⟨hk, ?_⟩, ?_⟩⟩⟩
    · show iIn (nI q + nI p) (sN σ b)
      rw [hN, nI_add]; exact n_in (by omega) (by decide)
    · refine go _ ?_
      rw [nI_add, nI_clamp (by omega), wV_o (Ne.symm hne), if_pos (by omega)]
theorem t_fill (ha : tX σ a n f) (hk : sK σ b = 101) (hN : sN σ b = 60) (hne : sR σ 64 a ≠ b) {q L : Nat} (hq : q + L ≤ 60) (h : Q (.inl none) (wV σ (sR σ 64 a) (fun k => if k < n then (if k < L then sA σ b (q + k) else 32) else sA σ (sR σ 64 a) k))) : ca J_Text_fillFrom [vr a, vr b, vi (nI q), vi (nI L)] σ Q := by
  refine b_Text_fillFrom_0 ?_
  have h0 := t_fillL (Q := Q) ha hk hN hne hq n 0 (by omega) h
  have e : wV σ (sR σ 64 a) (fun k => if k < 0 then (if k < L then sA σ b (q + k) else 32) else sA σ (sR σ 64 a) k) = σ := by
    rw [wV_c (h' := sA σ (sR σ 64 a)) (fun k => if_neg (Nat.not_lt_zero k)), wV_s]
  rw [e] at h0
  exact h0
/-- where a region begins and ends: o says whether there is a bound -/
noncomputable def rb (f : Nat → Int32) (n : Nat) (o : Bool) (g : Nat → Int32) (m : Nat) : Nat := if o then (if lf (ocP f n g m) n 0 = n then n else lf (ocP f n g m) n 0 + m) else 0
noncomputable def re (f : Nat → Int32) (n : Nat) (o : Bool) (g : Nat → Int32) (m : Nat) : Nat := if o then lf (ocP f n g m) n 0 else n
theorem re_le (f : Nat → Int32) (n : Nat) (o : Bool) (g : Nat → Int32) (m : Nat) : re f n o g m ≤ n := by
  unfold re
  have := (lf_le (ocP f n g m) n 0).2
  split <;> omega
theorem rb_le (f : Nat → Int32) (n : Nat) (o : Bool) (g : Nat → Int32) (m : Nat) : rb f n o g m ≤ n := by
  unfold rb
  have h1 := (lf_le (ocP f n g m) n 0).2
  split
  · split
    · omega
    · next h2 => exact (lf_at (ocP f n g m) n 0 (by omega)).1
  · omega
/-- a bound: null, or a text -/
def tO (σ : iS) (b : Nat) (o : Bool) (m : Nat) (g : Nat → Int32) : Prop := (o = false → b = 0) ∧ (o = true → b ≠ 0 ∧ tX σ b m g)
variable {o : Bool}
theorem g_begin {r : Nat} (hr : sK σ r = 3) (ha : tX σ a n f) (hb : tO σ (sR σ 96 r) o m g) (h : Q (.inl (some (vi (nI (rb f n o g m))))) σ) : ca J_Region_beginIn [vr r, vr a] σ Q := by
  have hn := ha.lt
  refine b_Region_beginIn_0 ⟨hr, fun c => ⟨hr, ha.1, ?_⟩, fun c => ?_⟩
  · cases o with
    | false => exact absurd (hb.1 rfl) c
    | true =>
      obtain ⟨-, hb⟩ := hb.2 rfl
      refine t_fpo ha hb ⟨fun c2 => ⟨hr, hb.1, t_size hb ?_⟩, fun c2 => ⟨ha.1, t_size ha ?_⟩⟩
      · have hl := lf_le (ocP f n g m) n 0
        by_cases e : lf (ocP f n g m) n 0 = n
        · rw [e, en_N] at c2; exact absurd rfl c2
        · refine b_Region_beginIn_39 ?_
          rw [en_r e, nI_add]
          unfold rb at h
          rw [if_pos rfl, if_neg e] at h
          exact h
      · have hl := lf_le (ocP f n g m) n 0
        by_cases e : lf (ocP f n g m) n 0 = n
        · refine b_Region_beginIn_39 ?_
          unfold rb at h
          rw [if_pos rfl, if_pos e] at h
          exact h
        · rw [en_r e] at c2
          exact absurd (n_m1 (by omega)) c2
  · cases o with
    | false =>
      unfold rb at h
      rw [if_neg (by decide)] at h
      exact h
    | true => exact absurd (hb.2 rfl).1 c
theorem g_end {r : Nat} (hr : sK σ r = 3) (ha : tX σ a n f) (hb : tO σ (sR σ 97 r) o m g) (h : Q (.inl (some (vi (nI (re f n o g m))))) σ) : ca J_Region_endIn [vr r, vr a] σ Q := by
  have hn := ha.lt
  have none : re f n o g m = n → wp J_Region_endIn 19 [vr r, vr a, vl 0] [vi (-1 : Int32)] σ Q := by
    intro e
    refine b_Region_endIn_19 ⟨fun c => absurd rfl c, fun _ => ⟨ha.1, t_size ha (b_Region_endIn_33 ?_)⟩⟩
    rw [e] at h
    exact h
  refine b_Region_endIn_0 ⟨hr, fun c => ⟨hr, ha.1, ?_⟩, fun c => ?_⟩
  · cases o with
    | false => exact absurd (hb.1 rfl) c
    | true =>
      obtain ⟨-, hb⟩ := hb.2 rfl
      refine t_fpo ha hb ?_
      have hl := lf_le (ocP f n g m) n 0
      by_cases e : lf (ocP f n g m) n 0 = n
      · rw [e, en_N]
        exact none e
      · rw [en_r e]
        refine b_Region_endIn_19 ⟨fun _ => b_Region_endIn_33 h, fun c2 => absurd (n_m1 (by omega)) c2⟩
  · cases o with
    | false => exact none rfl
    | true => exact absurd (hb.2 rfl).1 c
end TX
