/-! THE LAW: its loop; the end. -/
theorem n_4 {L i : Nat} (hL : L ≤ 2048) (hi : i ≤ 2048) : (nI L - (4 : Int32) < nI i) = (L < i + 4) := by
  by_cases c : 4 ≤ L
  · rw [show (4 : Int32) = nI 4 by decide +kernel, n_sub c, n_lt (by omega) (by omega)]
    exact propext ⟨fun h => by omega, fun h => by omega⟩
  · have h0 : nI L - (4 : Int32) < 0 := by
      have e : L = 0 ∨ L = 1 ∨ L = 2 ∨ L = 3 := by omega
      rcases e with rfl | rfl | rfl | rfl <;> decide +kernel
    have h1 : (0 : Int32) ≤ nI i := Int32.not_lt.mp (nI_pos (by omega))
    exact propext ⟨fun _ => by omega, fun _ => Int32.lt_of_lt_of_le h0 h1⟩
theorem i_4 {i : Nat} : nI i + (4 : Int32) = nI (i + 4) := by rw [show (4 : Int32) = nI 4 by decide +kernel, nI_add]
theorem l_loop {b L X : Nat} {xs : Nat → Int32} (hL : L ≤ 2048) : ∀ d j σ, L ≤ 4 * j + 4 * d + 3 → 4 * j ≤ L → LI b L xs X σ → sX σ ≤ X + 42 + 3 * j → sS σ ≤ 6144 + 100 * j → ∀ l5 l6 : iV, wp J_L_law 23 [vr b, vr X, vr (X + 17), vr (X + 41), vi (nI (4 * j)), l5, l6] [] σ (fun o σ' => o = .inl (some (vi 1)) ∧ sX σ' ≤ X + 601024 ∧ sS σ' ≤ 7293034) := by
  intro d
  induction d with
  | zero =>
    intro j σ hd hj hI h1 h2 l5 l6
    obtain ⟨s, m, N, z, T, y, hl, hJ⟩ := hI
    refine b_L_law_23 ⟨by rw [hl.1.2.1]; rfl, ?_⟩
    rw [hl.1.2.2.1, n_4 hL (by omega)]
    exact ⟨fun _ => ⟨Or.inr rfl, rfl, by omega, by omega⟩, fun c => by omega⟩
  | succ d ih =>
    intro j σ hd hj hI h1 h2 l5 l6
    obtain ⟨s, m, N, z, T, y, hl, hJ⟩ := hI
    refine b_L_law_23 ⟨by rw [hl.1.2.1]; rfl, ?_⟩
    rw [hl.1.2.2.1, n_4 hL (by omega)]
    refine ⟨fun _ => ⟨Or.inr rfl, rfl, by omega, by omega⟩, fun c => ?_⟩
    have hi : 4 * j + 4 ≤ L := by omega
    have hH : lH b L xs X (4 * j) σ (fun o σ' => o = .inl (some (vi 1)) ∧ sX σ' ≤ X + 601024 ∧ sS σ' ≤ 7293034) := fun σ' hI' b1 b2 l5 l6 => by
      refine b_L_law_1494 ?_
      rw [i_4, show 4 * j + 4 = 4 * (j + 1) by omega]
      exact ih (j + 1) σ' (by omega) (by omega) hI' (by omega) (by omega) l5 l6
    refine ⟨⟨hl.1.2.1, n_in (by omega) (by omega)⟩, fun _ => l_text hl hJ hi hL hH, fun _ => l_set hl hJ hi hL hH, fun _ => l_at hl hJ hi hL hH, fun _ => l_span hl hJ hi hL hH, fun _ => l_tally hl hJ hi hL hH, fun _ => l_replace hl hJ hi hL hH, fun _ => l_inspect hl hJ hi hL hH, fun _ => l_convert hl hJ hi hL hH, fun _ => l_counter hl hJ hi hL hH, fun _ => l_part hl hJ hi hL hH, fun _ => l_join hl hJ hi hL hH, fun _ => l_delimiter hl hJ hi hL hH, fun _ => l_receiver hl hJ hi hL hH, fun _ => l_split hl hJ hi hL hH, fun _ => l_result hl hJ hi hL hH, fun _ => l_pointer hl hJ hi hL hH, fun _ => l_table hl hJ hi hL hH, fun _ => l_row hl hJ hi hL hH, fun _ => l_index hl hJ hi hL hH, fun _ => l_search hl hJ hi hL hH, fun _ => l_sort hl hJ hi hL hH, fun _ => ?_⟩
    exact hH σ ⟨s, m, N, z, T, y, hl, hJ⟩ (by omega) (by omega) l5 l6
theorem iLaw_ok : iLaw := fun b L X xs hb hbX hL => l_start hb hbX (fun σ hI h1 h2 => l_loop hL (L / 4) 0 σ (by omega) (by omega) hI (by omega) (by omega) _ _)
