/-! LAYER 2: search, sort of the class. -/
/-- a table at b: its keys K, n of them -/
def tB (σ : iS) (b n : Nat) (K : Nat → Int32) : Prop := sK σ b = 9 ∧ sR σ 288 b = b + 1 ∧ sK σ (b + 1) = 101 ∧ sN σ (b + 1) = n ∧ (1 ≤ n ∧ n ≤ 60) ∧ ∀ k, k < n → sA σ (b + 1) k = K k
section CS
variable {X : Nat} {σ : iS} {s : Nat → Int32} {m : Nat → Nat → Int32} {N T : Nat} {z y : Nat → Nat} {Q : iO → iS → Prop} {b n : Nat} {K : Nat → Int32}
theorem tB_of (hT : cBs σ X s m T y) (hK : cKy σ X m T y) {j : Nat} (hj : j < T) : tB σ (sB σ (X + 16) j) (y j) (fun k => m 21 (60 * j + k)) := by
  obtain ⟨⟨g1, g2⟩, g3, g4, g5, g6, g7, g8, g9⟩ := hT.2.2.2.1 j hj
  exact ⟨g3, g4, g5, g6, ⟨g8, g9⟩, fun k hk => hK.1 j k hj hk⟩
theorem b_ordL (hb : tB σ b n K) {key : Int32} : ∀ d p, p + d = n → Q (.inl (some (vi (nI (if lf (fun i => K i = key) d p = n then 0 else lf (fun i => K i = key) d p + 1))))) σ → wp J_Table_findInOrder 7 [vr b, vi key, vi (nI p)] [] σ Q := by
  obtain ⟨b1, b2, b3, b4, ⟨b5, b6⟩, b7⟩ := hb
  intro d
  induction d with
  | zero =>
    intro p hp h
    refine b_Table_findInOrder_7 ⟨b1, ?_⟩
    rw [b2, b3, b4, n_le (by omega) (by omega)]
    rw [lf_0, if_pos (by omega)] at h
    exact ⟨rfl, fun _ => h, fun c => by omega⟩
  | succ d ih =>
    intro p hp h
    refine b_Table_findInOrder_7 ⟨b1, ?_⟩
    rw [b2, b3, b4, n_le (by omega) (by omega), nI_clamp (by omega), b7 p (by omega), n_s1]
    refine ⟨rfl, fun c => by omega, fun _ => ⟨b1, ⟨rfl, n_in (by omega) (by omega)⟩, fun c => ?_, fun c => ?_⟩⟩
    · rw [lf_f c] at h
      exact ih (p + 1) (by omega) h
    · rw [lf_t (Classical.not_not.mp c), if_neg (by omega)] at h
      exact h
theorem b_ord (hb : tB σ b n K) {key : Int32} {c : Nat} (hc : sI σ 289 b = nI c) (hc1 : 1 ≤ c) (hc2 : c ≤ n) (h : Q (.inl (some (vi (nI (sq K key n c))))) σ) : ca J_Table_findInOrder [vr b, vi key] σ Q := by
  refine b_Table_findInOrder_0 ⟨hb.1, ?_⟩
  rw [hc, n_p1 (by omega)]
  exact b_ordL hb (n - (c - 1)) (c - 1) (by omega) h
theorem b_halL (hb : tB σ b n K) {key : Int32} : ∀ d k lo hi, k + d = n → hi - lo ≤ d → lo ≤ n → hi ≤ n → Q (.inl (some (vi (nI (bs K key d lo hi))))) σ → ∀ l5 : iV, wp J_Table_findByHalves 13 [vr b, vi key, vi (nI lo), vi (nI hi - (1 : Int32)), vi (nI k), l5] [] σ Q := by
  obtain ⟨b1, b2, b3, b4, ⟨b5, b6⟩, b7⟩ := hb
  intro d
  induction d with
  | zero =>
    intro k lo hi hk hd hl hh h l5
    refine b_Table_findByHalves_13 ⟨b1, ?_⟩
    rw [b2, b3, b4, n_le (by omega) (by omega)]
    exact ⟨rfl, fun _ => b_Table_findByHalves_81 h, fun c => by omega⟩
  | succ d ih =>
    intro k lo hi hk hd hl hh h l5
    refine b_Table_findByHalves_13 ⟨b1, ?_⟩
    rw [b2, b3, b4, n_le (by omega) (by omega)]
    refine ⟨rfl, fun c => by omega, fun _ => ⟨fun c => ?_, fun c => ?_⟩⟩
    · have hn : ¬ lo < hi := fun q => by
        rw [n_p1 (by omega), n_lt (by omega) (by omega)] at c
        omega
      unfold bs at h
      rw [if_neg hn] at h
      exact b_Table_findByHalves_81 h
    · have hlt : lo < hi := by
        by_cases e : hi = 0
        · subst e
          exfalso
          refine c ?_
          have e1 : nI 0 - (1 : Int32) = -1 := by decide +kernel
          rw [e1]
          exact Int32.lt_of_lt_of_le (by decide : (-1 : Int32) < 0) (Int32.not_lt.mp (nI_pos (by omega)))
        · rw [n_p1 (by omega), n_lt (by omega) (by omega)] at c
          omega
      have em : (nI lo + (nI hi - (1 : Int32))) / (2 : Int32) = nI ((lo + hi - 1) / 2) := by
        rw [n_p1 (by omega), n_half (by omega), show lo + (hi - 1) = lo + hi - 1 by omega]
      rw [em, nI_clamp (by omega), b7 _ (by omega), n_s1]
      unfold bs at h
      rw [if_pos hlt] at h
      refine ⟨by decide, b1, ⟨rfl, n_in (by omega) (by omega)⟩, fun c1 => ⟨b1, ⟨rfl, n_in (by omega) (by omega)⟩, fun c2 => b_Table_findByHalves_75 ?_, fun c2 => b_Table_findByHalves_75 ?_⟩, fun c1 => ?_⟩
      · rw [if_neg (fun q => c1 q.symm), if_neg (Int32.not_lt.mpr c2)] at h
        rw [n_s1]
        exact ih (k + 1) ((lo + hi - 1) / 2 + 1) hi (by omega) (by omega) (by omega) hh h _
      · rw [if_neg (fun q => c1 q.symm), if_pos (Int32.not_le.mp c2)] at h
        rw [n_s1]
        exact ih (k + 1) lo ((lo + hi - 1) / 2) (by omega) (by omega) hl (by omega) h _
      · rw [if_pos (Classical.not_not.mp c1).symm] at h
        exact h
theorem b_hal (hb : tB σ b n K) {key : Int32} (h : Q (.inl (some (vi (nI (bs K key n 0 n))))) σ) : ca J_Table_findByHalves [vr b, vi key] σ Q := by
  refine b_Table_findByHalves_0 ⟨hb.1, ?_⟩
  rw [hb.2.1, hb.2.2.1, hb.2.2.2.1]
  exact ⟨rfl, b_halL hb n 0 0 n (by omega) (by omega) (by omega) (Nat.le_refl _) h _⟩
theorem sq_b (K : Nat → Int32) (key : Int32) (n c : Nat) (h1 : 1 ≤ c) (h2 : c ≤ n) : sq K key n c ≤ n := by
  unfold sq
  have := lf_le (fun i => K i = key) (n - (c - 1)) (c - 1)
  split
  · omega
  · omega
theorem x_search (hJ : CJ σ X s m N z T y) {x w key : Int32} (h1 : (¬ ∃ j, j < T ∧ x = nI j) → Q (.inr (1, sX σ)) (nO σ 201 6)) (h0 : ∀ j ix, j < T → x = nI j → m 23 j = nI ix → 1 ≤ ix → ix ≤ y j → ∀ v, v = (if w = 0 then sq (fun k => m 21 (60 * j + k)) key (y j) ix else bs (fun k => m 21 (60 * j + k)) key (y j) 0 (y j)) → ∀ σ', gd X σ σ' → CJ σ' X s (if v = 0 then m else u2 m 23 j (nI v)) N z T y → Q (.inl (some (vi (nI v)))) σ') : ca J_X_search [vr X, vi x, vi w, vi key] σ Q := by
  obtain ⟨J1, J2, J3, J4, J5, J6, J7, J8, J9, J10, J11, J12, J13, J14⟩ := id hJ
  refine b_X_search_0 ⟨sh_k0 J1, x_knownB J1 J12 h1 (fun j hj hx => ?_)⟩
  have tb := tB_of J12 J14 hj
  obtain ⟨ix, ⟨i1, i2⟩, i3, i4⟩ := J13 j hj
  have hy := tb.2.2.2.2.1
  have fin : ∀ v, v ≤ y j → v = (if w = 0 then sq (fun k => m 21 (60 * j + k)) key (y j) ix else bs (fun k => m 21 (60 * j + k)) key (y j) 0 (y j)) → wp J_X_search 26 [vr X, vi x, vi w, vi key, vr (sB σ (X + 16) j), vl 0] [vi (nI v)] σ Q := by
    intro v hv ev
    have H := h0 j ix hj hx i4 i1 i2 v ev
    refine b_X_search_26 ⟨fun c => b_X_search_40 ?_, fun c => ⟨tb.1, fun σ2 e2 => b_X_search_40 ?_⟩⟩
    · rw [lit_0, n_eq (by omega) (by decide)] at c
      refine H σ (gd_of (fp_0 (I := []) (A := fun _ => False) (B := fun _ => False) (r := false) J1.1.2) (by decide) (by decide)) ?_
      rw [if_pos c]
      exact hJ
    · have c0 : v ≠ 0 := fun q => c (by rw [q]; rfl)
      obtain ⟨k, rfl⟩ : ∃ k, v = k + 1 := ⟨v - 1, by omega⟩
      subst e2
      have W := ix_w hJ hj (k := k) (by omega)
      refine H _ W.1 ?_
      rw [if_neg c0]
      exact W.2
  refine ⟨fun c => ⟨tb.1, b_ord tb i3 i1 i2 (fin _ (sq_b _ _ _ _ i1 i2) (by rw [if_pos c]))⟩, fun c => ⟨tb.1, b_hal tb (fin _ (bs_b _ _ _ _ _) (by rw [if_neg c]))⟩⟩
/-! sort: one key after the other into its place -/
theorem b_ah {x0 x1 x2 : Int32} (h0 : le2 x2 x1 x0 → Q (.inl (some (vi 0))) σ) (h1 : ¬ le2 x2 x1 x0 → Q (.inl (some (vi 1))) σ) : ca J_Table_isAhead [vi x0, vi x1, vi x2] σ Q := by
  unfold le2 at h0 h1
  refine b_Table_isAhead_0 ⟨fun c => ?_, fun c => ?_⟩
  · rw [if_pos c] at h0 h1
    exact ⟨fun c2 => b_Table_isAhead_27 ⟨Or.inl rfl, h0 c2⟩, fun c2 => b_Table_isAhead_27 ⟨Or.inr rfl, h1 c2⟩⟩
  · rw [if_neg c] at h0 h1
    exact ⟨fun c2 => b_Table_isAhead_27 ⟨Or.inl rfl, h0 c2⟩, fun c2 => b_Table_isAhead_27 ⟨Or.inr rfl, h1 c2⟩⟩
theorem b_insL (hb : tB σ b n K) {x key : Int32} {p : Nat} (hp : p < n) (H : ∀ f, srt x (p + 1) f → (∀ v, cnt f n v = cnt K n v) → ∀ l3 l4 : iV, wp J_Table_putInOrder 2 [vr b, vi x, vi (nI (p + 1)), l3, l4] [] (wV σ (b + 1) f) Q) :
    ∀ h f, h ≤ p → (∀ i j, i < j → j ≤ p → i ≠ h → j ≠ h → le2 x (f i) (f j)) → (∀ j, h < j → j ≤ p → le2 x key (f j)) → (∀ v, cnt (u1 f h key) n v = cnt K n v) → wp J_Table_putInOrder 21 [vr b, vi x, vi (nI p), vi key, vi (nI h)] [] (wV σ (b + 1) f) Q := by
  obtain ⟨b1, b2, b3, b4, ⟨b5, b6⟩, b7⟩ := hb
  have q1 : ∀ f, sR (wV σ (b + 1) f) 288 b = b + 1 := fun f => b2
  have q2 : ∀ f, sK (wV σ (b + 1) f) (b + 1) = 101 := fun f => b3
  have q3 : ∀ f, sN (wV σ (b + 1) f) (b + 1) = n := fun f => b4
  have put : ∀ h f, h ≤ p → (∀ i j, i < j → j ≤ p → i ≠ h → j ≠ h → le2 x (f i) (f j)) → (∀ j, h < j → j ≤ p → le2 x key (f j)) → (∀ v, cnt (u1 f h key) n v = cnt K n v) → (∀ i, i < h → le2 x (f i) key) → wp J_Table_putInOrder 65 [vr b, vi x, vi (nI p), vi key, vi (nI h)] [] (wV σ (b + 1) f) Q := by
    intro h f hh g1 g2 g3 g4
    refine b_Table_putInOrder_65 ⟨b1, ?_⟩
    rw [q1, q2, q3, nI_clamp (by omega), wV_w, n_s1]
    refine ⟨⟨rfl, n_in (by omega) (by omega)⟩, fun σ1 e1 => ?_⟩
    subst e1
    refine H (u1 f h key) (fun i j hij hj => ?_) g3 _ _
    by_cases e1 : i = h
    · subst e1
      rw [u1_s, u1_o (by omega)]
      exact g2 j hij (by omega)
    · by_cases e2 : j = h
      · subst e2
        rw [u1_s, u1_o e1]
        exact g4 i hij
      · rw [u1_o e1, u1_o e2]
        exact g1 i j hij (by omega) e1 e2
  intro h
  induction h with
  | zero =>
    intro f hh g1 g2 g3
    refine b_Table_putInOrder_21 ⟨fun _ => put 0 f hh g1 g2 g3 (fun i hi => by omega), fun c => absurd (by decide) c⟩
  | succ h ih =>
    intro f hh g1 g2 g3
    refine b_Table_putInOrder_21 ⟨fun c => ?_, fun _ => ⟨b1, ?_⟩⟩
    · rw [lit_0, n_le (by omega) (by decide)] at c
      omega
    · rw [q1, q2, q3, nI_pred, nI_clamp (by omega), wV_A]
      refine ⟨⟨rfl, n_in (by omega) (by omega)⟩, b_ah (fun c => ⟨fun _ => put (h + 1) f hh g1 g2 g3 (fun i hi => ?_), fun q => absurd rfl q⟩) (fun c => ⟨fun q => absurd q (by decide), fun _ => ⟨b1, b1, ?_⟩⟩)⟩
      · by_cases e : i = h
        · subst e; exact c
        · exact le2_t (g1 i h (by omega) (by omega) (by omega) (by omega)) c
      · rw [q1, q2, q3, nI_clamp (by omega), wV_A, wV_w, n_pm (by omega), Nat.add_sub_cancel]
        refine ⟨⟨rfl, n_in (by omega) (by omega)⟩, ⟨rfl, n_in (by omega) (by omega)⟩, fun σ4 e4 => ?_⟩
        subst e4
        refine ih (u1 f (h + 1) (f h)) (by omega) (fun i j hij hj i1 j1 => ?_) (fun j hj1 hj2 => ?_) (fun v => ?_)
        · by_cases e1 : i = h + 1
          · subst e1
            rw [u1_s, u1_o (by omega)]
            exact g1 h j (by omega) hj (by omega) (by omega)
          · by_cases e2 : j = h + 1
            · subst e2
              rw [u1_s, u1_o e1]
              exact g1 i h (by omega) (by omega) (by omega) (by omega)
            · rw [u1_o e1, u1_o e2]
              exact g1 i j hij hj e1 e2
        · by_cases e2 : j = h + 1
          · subst e2
            rw [u1_s]
            exact le2_n c
          · rw [u1_o e2]
            exact g2 j (by omega) hj2
        · have c1 := cnt_u (f := u1 f (h + 1) (f h)) (x := key) (v := v) n h (by omega)
          have c2 := cnt_u (f := f) (x := f h) (v := v) n (h + 1) (by omega)
          have c3 := cnt_u (f := f) (x := key) (v := v) n (h + 1) (by omega)
          have c4 := g3 v
          rw [u1_o (by omega)] at c1
          omega
theorem b_srtL (hb : tB σ b n K) {x : Int32} (H : ∀ f, srt x n f → (∀ v, cnt f n v = cnt K n v) → Q (.inl none) (wV σ (b + 1) f)) : ∀ d p f, p + d = n → srt x p f → (∀ v, cnt f n v = cnt K n v) → ∀ l3 l4 : iV, wp J_Table_putInOrder 2 [vr b, vi x, vi (nI p), l3, l4] [] (wV σ (b + 1) f) Q := by
  obtain ⟨b1, b2, b3, b4, ⟨b5, b6⟩, b7⟩ := id hb
  have q1 : ∀ f, sR (wV σ (b + 1) f) 288 b = b + 1 := fun f => b2
  have q2 : ∀ f, sK (wV σ (b + 1) f) (b + 1) = 101 := fun f => b3
  have q3 : ∀ f, sN (wV σ (b + 1) f) (b + 1) = n := fun f => b4
  intro d
  induction d with
  | zero =>
    intro p f hp g1 g2 l3 l4
    have hp : p = n := by omega
    subst hp
    refine b_Table_putInOrder_2 ⟨b1, ?_⟩
    rw [q1, q2, q3, n_le (by omega) (by omega)]
    exact ⟨rfl, fun _ => H f g1 g2, fun c => by omega⟩
  | succ d ih =>
    intro p f hp g1 g2 l3 l4
    refine b_Table_putInOrder_2 ⟨b1, ?_⟩
    rw [q1, q2, q3, n_le (by omega) (by omega), nI_clamp (by omega), wV_A]
    refine ⟨rfl, fun c => by omega, fun _ => ⟨b1, ⟨rfl, n_in (by omega) (by omega)⟩, ?_⟩⟩
    refine b_insL hb (by omega) (fun f' r1 r2 l3 l4 => ih (p + 1) f' (by omega) r1 r2 l3 l4) p f (Nat.le_refl _) (fun i j hij hj i1 j1 => g1 i j hij (by omega)) (fun j hj1 hj2 => by omega) (fun v => ?_)
    rw [u1_i]
    exact g2 v
theorem b_srt (hb : tB σ b n K) {x : Int32} (H : ∀ f, srt x n f → (∀ v, cnt f n v = cnt K n v) → Q (.inl none) (wV σ (b + 1) f)) : ca J_Table_putInOrder [vr b, vi x] σ Q := by
  refine b_Table_putInOrder_0 ?_
  have h0 := b_srtL hb H (n - 1) 1 (sA σ (b + 1)) (by have := hb.2.2.2.2.1; omega) (fun i j h1 h2 => by omega) (fun v => cnt_c n v hb.2.2.2.2.2) (vl 0) (vl 0)
  rw [wV_s] at h0
  exact h0
theorem x_sort (hJ : CJ σ X s m N z T y) {x w : Int32} (h1 : (¬ ∃ j, j < T ∧ x = nI j) → Q (.inr (1, sX σ)) (nO σ 201 6)) (h0 : ∀ j, j < T → x = nI j → ∀ f, srt w (y j) f → (∀ v, cnt f (y j) v = cnt (fun k => m 21 (60 * j + k)) (y j) v) → ∀ σ', gd X σ σ' → (∀ f', (∀ k, k < y j → f' k = f k) → CJ σ' X s (kW m j (y j) f') N z T y) → Q (.inl none) σ') : ca J_X_sort [vr X, vi x, vi w] σ Q := by
  obtain ⟨J1, J2, J3, J4, J5, J6, J7, J8, J9, J10, J11, J12, J13, J14⟩ := id hJ
  refine b_X_sort_0 ⟨sh_k0 J1, x_knownB J1 J12 h1 (fun j hj hx => ?_)⟩
  have tb := tB_of J12 J14 hj
  obtain ⟨⟨g1, g2⟩, -⟩ := J12.2.2.2.1 j hj
  refine ⟨tb.1, b_srt tb (fun f f1 f2 => h0 j hj hx f f1 f2 _ ?_ (fun f' hf' => ?_))⟩
  · exact gd_of (I := []) (A := (fun a => a = sB σ (X + 16) j + 1)) (B := fun _ => False) (r := false) (fp_V (fp_0 J1.1.2) (Or.inr ⟨rfl, fo_n (by omega)⟩)) (by decide) (by decide)
  · have q : fp X σ (wV σ (sB σ (X + 16) j + 1) f) [] (fun a => a = sB σ (X + 16) j + 1) (fun _ => False) false 0 0 := fp_V (fp_0 J1.1.2) (Or.inr ⟨rfl, fo_n (by omega)⟩)
    have K : kx X σ (wV σ (sB σ (X + 16) j + 1) f) s s m (kW m j (y j) f') [] (fun a => a = sB σ (X + 16) j + 1) (fun _ => False) false [] [21] := ⟨q.1, fun _ _ => rfl, fun c hc i => kW_o (fun e => hc (by rw [e]; decide)) i⟩
    have t := tm2_0 (N := N) (z := z) K (fun e => e)
    have hy := tb.2.2.2.2.1
    have S : cKy (wV σ (sB σ (X + 16) j + 1) f) X (kW m j (y j) f') T y := by
      refine ky_w hj J14 (fun _ => rfl) (fun q hq => ?_) (fun i hi hij q hq => wV_o (fun e => hij (J12.2.2.2.2 i j hi hj (by omega))) q) (fun i hij q hq => if_neg (fun e => by omega)) (fun i hi => (J12.2.2.2.1 i hi).2.2.2.2.2.2.2)
      rw [wV_A, kW_i hq]
      exact (hf' q hq).symm
    exact ⟨sh_c J1 K.1, cTs_c J2 K (by decide) (fun e => e) (by decide) (by decide), cSg_c J3 J2 K (fun e => e) (fun i hi => by have d1 := (J2.2.2.2.1 i hi).1; have d2 := tb_ne J2 J12 hi hj; exact (show ¬ (sB σ (X + 1) i + 1 = sB σ (X + 16) j + 1) by omega)) (by decide), cSp_c J4 K t rfl (by decide), cPh_c J5 K t (by decide) (fun e => e) (by decide) (by decide), cCo_c J6 K (show ¬ (X + 4 = sB σ (X + 16) j + 1) by omega) (by decide), cPa_c J7 K t (by decide) (fun e => e) (by decide) (by decide), cDe_c J8 K t (by decide) (show ¬ (X + 10 = sB σ (X + 16) j + 1) by omega) (fun e => e) (by decide) (by decide), cRc_c (z := z) (z' := z) J9 K t (by decide) (fun e => e) (by decide) (by decide), cRs_c J10 K (by decide) ⟨(show ¬ (X + 13 = sB σ (X + 16) j + 1) by omega), (show ¬ (X + 14 = sB σ (X + 16) j + 1) by omega)⟩ (by decide), cPo_c J11 K (by decide) (by decide), cBs_c J12 K (by decide) (fun e => e) (by decide) (by decide), cIx_c J13 J12 K (by decide) (fun e => e) (by decide), S⟩
end CS
