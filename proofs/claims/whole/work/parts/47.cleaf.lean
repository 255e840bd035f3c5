/-! LAYER 2: the class's checks, and its calls that are short. -/
theorem n_ge {x : Int32} {a : Nat} (ha : a < 2 ^ 31) (h0 : ¬ x < 0) (h : x < nI a) : ∃ j, j < a ∧ x = nI j := by
  obtain ⟨j, hj, rfl⟩ := n_of h0
  rw [n_lt hj ha] at h
  exact ⟨j, h, rfl⟩
theorem n_no {x : Int32} {a : Nat} (ha : a < 2 ^ 31) (h : x < 0 ∨ ¬ x < nI a) : ¬ ∃ j, j < a ∧ x = nI j := fun ⟨j, h1, h2⟩ => by
  subst h2
  rcases h with h | h
  · exact nI_pos (by omega) h
  · rw [n_lt (by omega) ha] at h; omega
section CL
variable {X : Nat} {σ : iS} {s : Nat → Int32} {m : Nat → Nat → Int32} {N T : Nat} {z y : Nat → Nat} {Q : iO → iS → Prop}
theorem tX_of (hT : cTs σ X s m N z) (hS : cSg σ X m N z) {j : Nat} (hj : j < N) : tX σ (sB σ (X + 1) j) (z j) (fun k => m 1 (60 * j + k)) := by
  obtain ⟨⟨g1, g2⟩, g3, g4, g5, g6, g7, g8⟩ := hT.2.2.2.1 j hj
  unfold tX
  rw [g4]
  exact ⟨g3, g5, g6, g8, fun k hk => hS j k hj hk⟩
theorem mX_of (hT : cTs σ X s m N z) {j : Nat} (hj : j < N) : mX m 1 j (z j) (fun k => m 1 (60 * j + k)) := by
  obtain ⟨-, -, -, -, -, g7, g8⟩ := hT.2.2.2.1 j hj
  exact ⟨by have := hT.2.1; omega, g7, g8, fun k hk => rfl⟩
theorem mZ_of (hT : cTs σ X s m N z) : mZ s m N z := ⟨hT.1, hT.2.1, fun j hj => by obtain ⟨-, -, -, -, -, g7, g8⟩ := hT.2.2.2.1 j hj; exact ⟨g7, g8⟩⟩
theorem x_known (hs : sh σ X) (hT : cTs σ X s m N z) {x : Int32} (h1 : (¬ ∃ j, j < N ∧ x = nI j) → Q (.inr (1, sX σ)) (nO σ 201 6)) (h0 : ∀ j, j < N → x = nI j → Q (.inl (some (vr (sB σ (X + 1) j)))) σ) : ca J_X_knownText [vr X, vi x] σ Q := by
  have hN := hT.2.1
  refine b_X_knownText_0 ⟨fun c => b_X_knownText_12 (h1 (n_no (by omega) (Or.inl c))), fun c => ⟨sh_k0 hs, ?_⟩⟩
  rw [hT.2.2.1, e_32 hs, sh_k1 hs, sh_n1 hs]
  refine ⟨fun c2 => ⟨sh_k0 hs, ?_⟩, fun c2 => b_X_knownText_12 (h1 (n_no (by omega) (Or.inr c2)))⟩
  obtain ⟨j, hj, rfl⟩ := n_ge (by omega) c c2
  rw [nI_clamp (by omega)]
  exact ⟨⟨⟨by decide, by decide⟩, n_in (by omega) (by decide)⟩, h0 j hj rfl⟩
theorem tX_size (hT : cTs σ X s m N z) {j : Nat} (hj : j < N) (h : Q (.inl (some (vi (nI (z j))))) σ) : ca J_Text_size [vr (sB σ (X + 1) j)] σ Q := by
  obtain ⟨⟨g1, g2⟩, g3, g4, g5, g6, g7, g8⟩ := hT.2.2.2.1 j hj
  refine b_Text_size_0 ⟨g3, ?_⟩
  rw [g4, g5, g6]
  exact ⟨rfl, h⟩
theorem x_filled (hs : sh σ X) (hT : cTs σ X s m N z) {x : Int32} (h1 : (¬ ∃ j, (j < N ∧ x = nI j) ∧ 0 < z j) → Q (.inr (1, sX σ)) (nO σ 201 6)) (h0 : ∀ j, j < N → x = nI j → 0 < z j → Q (.inl (some (vr (sB σ (X + 1) j)))) σ) : ca J_X_filledText [vr X, vi x] σ Q := by
  have hN := hT.2.1
  refine b_X_filledText_0 ⟨sh_k0 hs, x_known hs hT (fun c => h1 (fun ⟨j, q, _⟩ => c ⟨j, q⟩)) (fun j hj hx => ?_)⟩
  obtain ⟨-, g3, -, -, -, -, g8⟩ := hT.2.2.2.1 j hj
  refine ⟨g3, tX_size hT hj ⟨fun c => h0 j hj hx ?_, fun c => h1 (fun ⟨i, ⟨q1, q2⟩, q3⟩ => ?_)⟩⟩
  · rw [lit_0] at c
    by_cases e : z j = 0
    · rw [e] at c; exact absurd rfl c
    · omega
  · have c := Classical.not_not.mp c
    rw [lit_0, n_eq (by omega) (by decide)] at c
    subst hx
    rw [n_eq (by omega) (by omega)] at q2
    subst q2
    omega
theorem x_place (hs : sh σ X) (hT : cTs σ X s m N z) {x w : Int32} (h1 : (¬ ∃ j, (j < N ∧ x = nI j) ∧ ∃ k, k < z j ∧ w = nI k) → Q (.inr (1, sX σ)) (nO σ 201 6)) (h0 : ∀ j k, j < N → x = nI j → k < z j → w = nI k → Q (.inl (some (vr (sB σ (X + 1) j)))) σ) : ca J_X_textWithPlace [vr X, vi x, vi w] σ Q := by
  have hN := hT.2.1
  refine b_X_textWithPlace_0 ⟨sh_k0 hs, x_known hs hT (fun c => h1 (fun ⟨j, q, _⟩ => c ⟨j, q⟩)) (fun j hj hx => ?_)⟩
  obtain ⟨-, g3, -, -, -, -, g8⟩ := hT.2.2.2.1 j hj
  have bad : (w < 0 ∨ ¬ w < nI (z j)) → wp J_X_textWithPlace 18 [vr X, vi x, vi w, vr (sB σ (X + 1) j)] [] σ Q := fun c => by
    refine b_X_textWithPlace_18 (h1 (fun ⟨i, ⟨q1, q2⟩, q3⟩ => ?_))
    subst hx
    rw [n_eq (by omega) (by omega)] at q2
    subst q2
    exact n_no (by omega) c q3
  refine ⟨fun c => bad (Or.inl c), fun c => ⟨g3, tX_size hT hj ⟨fun c2 => ?_, fun c2 => bad (Or.inr c2)⟩⟩⟩
  obtain ⟨k, hk, rfl⟩ := n_ge (by omega) c c2
  exact h0 j k hj hx hk rfl
theorem x_sought (hs : sh σ X) (hT : cTs σ X s m N z) {x w : Int32} (h1 : (x ≠ 0 ∧ ¬ ∃ j, (j < N ∧ w = nI j) ∧ 0 < z j) → Q (.inr (1, sX σ)) (nO σ 201 6)) (h0 : x = 0 → Q (.inl (some (vr 0))) σ) (h2 : ∀ j, x ≠ 0 → j < N → w = nI j → 0 < z j → Q (.inl (some (vr (sB σ (X + 1) j)))) σ) : ca J_X_soughtText [vr X, vi x, vi w] σ Q :=
  b_X_soughtText_0 ⟨fun c => ⟨sh_k0 hs, x_filled hs hT (fun q => h1 ⟨c, q⟩) (fun j hj hw hz => b_X_soughtText_13 (h2 j c hj hw hz))⟩, fun c => b_X_soughtText_13 (h0 (Classical.not_not.mp c))⟩
theorem x_width0 (h : Q (.inl (some (vi 1))) σ) : ca J_X_widthOf [vr 0] σ Q := b_X_widthOf_0 ⟨fun c => absurd rfl c, fun _ => b_X_widthOf_12 h⟩
theorem x_width1 (hT : cTs σ X s m N z) {j : Nat} (hj : j < N) (h : Q (.inl (some (vi (nI (z j))))) σ) : ca J_X_widthOf [vr (sB σ (X + 1) j)] σ Q := by
  obtain ⟨⟨g1, -⟩, g3, -⟩ := hT.2.2.2.1 j hj
  exact b_X_widthOf_0 ⟨fun _ => ⟨g3, tX_size hT hj (b_X_widthOf_12 h)⟩, fun c => absurd (show sB σ (X + 1) j ≠ 0 by omega) c⟩
theorem x_kind {x : Int32} {k : Nat} (hk : k < 2 ^ 31) (h1 : (¬ ∃ j, j ≤ k ∧ x = nI j) → Q (.inr (1, sX σ)) (nO σ 201 6)) (h0 : ∀ j, j ≤ k → x = nI j → Q (.inl none) σ) : ca J_X_checkKind [vi x, vi (nI k)] σ Q := by
  refine b_X_checkKind_0 ⟨fun c => b_X_checkKind_9 (h1 (fun ⟨j, q1, q2⟩ => by subst q2; exact nI_pos (by omega) c)), fun c => ⟨fun c2 => ?_, fun c2 => b_X_checkKind_9 (h1 (fun ⟨j, q1, q2⟩ => ?_))⟩⟩
  · obtain ⟨j, hj, hx⟩ := n_le' hk c c2
    exact h0 j hj hx
  · subst q2
    rw [n_le (by omega) hk] at c2
    exact c2 q1
theorem x_cc {x : Int32} (h1 : (¬ ∃ q, q ≤ 9 ∧ x = nI q) → Q (.inr (1, sX σ)) (nO σ 201 6)) (h0 : ∀ q, q ≤ 9 → x = nI q → Q (.inl none) σ) : ca J_X_checkCounter [vi x] σ Q := by
  refine b_X_checkCounter_0 ?_
  rw [lit_10]
  refine ⟨fun c => b_X_checkCounter_10 (h1 (fun ⟨j, q1, q2⟩ => n_no (a := 10) (by decide) (Or.inl c) ⟨j, by omega, q2⟩)), fun c => ⟨fun c2 => ?_, fun c2 => b_X_checkCounter_10 (h1 (fun ⟨j, q1, q2⟩ => n_no (a := 10) (by decide) (Or.inr c2) ⟨j, by omega, q2⟩))⟩⟩
  obtain ⟨j, hj, hx⟩ := n_ge (by decide) c c2
  exact h0 j (by omega) hx
theorem x_knownB (hs : sh σ X) (hT : cBs σ X s m T y) {x : Int32} (h1 : (¬ ∃ j, j < T ∧ x = nI j) → Q (.inr (1, sX σ)) (nO σ 201 6)) (h0 : ∀ j, j < T → x = nI j → Q (.inl (some (vr (sB σ (X + 16) j)))) σ) : ca J_X_knownTable [vr X, vi x] σ Q := by
  have hN := hT.2.1
  refine b_X_knownTable_0 ⟨fun c => b_X_knownTable_12 (h1 (n_no (by omega) (Or.inl c))), fun c => ⟨sh_k0 hs, ?_⟩⟩
  rw [hT.2.2.1, e_40 hs, sh_k16 hs, sh_n16 hs]
  refine ⟨fun c2 => ⟨sh_k0 hs, ?_⟩, fun c2 => b_X_knownTable_12 (h1 (n_no (by omega) (Or.inr c2)))⟩
  obtain ⟨j, hj, rfl⟩ := n_ge (by omega) c c2
  rw [nI_clamp (by omega)]
  exact ⟨⟨⟨by decide, by decide⟩, n_in (by omega) (by decide)⟩, h0 j hj rfl⟩
theorem x_row (hs : sh σ X) (hT : cBs σ X s m T y) {x w : Int32} (h1 : (¬ ∃ j, (j < T ∧ x = nI j) ∧ ∃ k, k < y j ∧ w = nI (k + 1)) → Q (.inr (1, sX σ)) (nO σ 201 6)) (h0 : ∀ j k, j < T → x = nI j → k < y j → w = nI (k + 1) → Q (.inl (some (vr (sB σ (X + 16) j)))) σ) : ca J_X_tableWithRow [vr X, vi x, vi w] σ Q := by
  have hN := hT.2.1
  refine b_X_tableWithRow_0 ⟨sh_k0 hs, x_knownB hs hT (fun c => h1 (fun ⟨j, q, _⟩ => c ⟨j, q⟩)) (fun j hj hx => ?_)⟩
  obtain ⟨-, g3, g4, g5, g6, g7, g8, g9⟩ := hT.2.2.2.1 j hj
  have bad : (∀ k, k < y j → w ≠ nI (k + 1)) → wp J_X_tableWithRow 20 [vr X, vi x, vi w, vr (sB σ (X + 16) j)] [] σ Q := fun c => by
    refine b_X_tableWithRow_20 (h1 (fun ⟨i, ⟨q1, q2⟩, k, q3, q4⟩ => ?_))
    subst hx
    rw [n_eq (by omega) (by omega)] at q2
    subst q2
    exact c k q3 q4
  refine ⟨fun c => bad (fun k hk e => ?_), fun c => ⟨g3, ?_⟩⟩
  · rw [e, lit_1, n_lt (by omega) (by decide)] at c
    omega
  · have hw : ¬ w < 0 := fun q => c (Int32.lt_trans q (by decide))
    obtain ⟨k, hk, rfl⟩ := n_of hw
    rw [lit_1, n_lt hk (by decide)] at c
    rw [g4, g5, g6, n_le hk (by omega)]
    refine ⟨rfl, fun c2 => h0 j (k - 1) hj hx (by omega) (by rw [show k - 1 + 1 = k by omega]), fun c2 => bad (fun k' hk' e => ?_)⟩
    rw [n_eq hk (by omega)] at e
    omega
end CL
