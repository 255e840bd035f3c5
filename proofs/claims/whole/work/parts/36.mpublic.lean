/-! LAYER 2: part, delimiter, receiver, result, pointer, table, row, index of the model. -/
section MQ2
variable {σ : iS} {M : Nat} {s : Nat → Int32} {m : Nat → Nat → Int32} {Q : iO → iS → Prop} {N : Nat} {z : Nat → Nat}
def paOk (N : Nat) (z : Nat → Nat) (x y : Int32) : Prop := (∃ j, j < N ∧ x = nI j) ∧ (y = -1 ∨ ∃ j, (j < N ∧ y = nI j) ∧ 0 < z j)
theorem m_part1 (hm : mS σ M) (hz : mZ s m N z) {x y : Int32} (hx : ¬ paOk N z x y) (h : Q (.inl (some (vi 0))) (mw σ M (u1 s 320 1) m)) : ca J_M_part [vr M, vi x, vi y] (mw σ M s m) Q := by
  have bad : wp J_M_part 21 [vr M, vi x, vi y, vl 0] [] (mw σ M s m) Q := b_M_part_21 (b_M_part_26 ⟨fun _ => b_M_part_46 (b_M_part_47 ⟨hm.1, m_fails1 hm (by decide) ⟨fun c => c_10 c, fun _ => h⟩⟩), fun c => c_11 c⟩)
  refine b_M_part_0 ⟨hm.1, m_isText hm hz.1 hz.2.1 ⟨fun _ => bad, fun c => ⟨fun c2 => ?_, fun c2 => ⟨hm.1, m_isFull hm hz ⟨fun c3 => ?_, fun _ => bad⟩⟩⟩⟩⟩
  · rw [bP_0] at c
    exact absurd ⟨Classical.not_not.mp c, Or.inl c2⟩ hx
  · rw [bP_0] at c
    have c3 : ¬ (bP _ = 0) := c3
    rw [bP_0] at c3
    exact absurd ⟨Classical.not_not.mp c, Or.inr (Classical.not_not.mp c3)⟩ hx
theorem m_partG (hm : mS σ M) (hz : mZ s m N z) {x y : Int32} (hx : paOk N z x y) (h : wp J_M_part 26 [vr M, vi x, vi y, vl 0] [vi 0] (mw σ M s m) Q) : ca J_M_part [vr M, vi x, vi y] (mw σ M s m) Q := by
  obtain ⟨h1, h2⟩ := hx
  refine b_M_part_0 ⟨hm.1, m_isText hm hz.1 hz.2.1 ⟨fun c => ?_, fun _ => ⟨fun _ => b_M_part_25 h, fun c2 => ⟨hm.1, m_isFull hm hz ⟨fun _ => b_M_part_25 h, fun c3 => ?_⟩⟩⟩⟩⟩
  · rw [bP_0] at c
    exact absurd h1 c
  · rcases h2 with h2 | h2
    · exact absurd h2 c2
    · rw [bP_t h2] at c3
      exact c_11 c3
theorem m_part2 (hm : mS σ M) (hz : mZ s m N z) {x y : Int32} (hx : paOk N z x y) (hP : s 340 = nI 20) (h : Q (.inl (some (vi 0))) (mw σ M (u1 s 320 2) m)) : ca J_M_part [vr M, vi x, vi y] (mw σ M s m) Q := by
  refine m_partG hm hz hx (b_M_part_26 ⟨fun c => c_00 c, fun _ => ⟨hm.1, ?_⟩⟩)
  rw [mw_i, hP]
  exact ⟨fun c => absurd lit_20.symm c, fun _ => b_M_part_47 ⟨hm.1, m_fails2 hm (by decide) ⟨fun c => c_10 c, fun _ => h⟩⟩⟩
theorem m_part0 (hm : mS σ M) (hz : mZ s m N z) {x y : Int32} (hx : paOk N z x y) {P : Nat} (hP : s 340 = nI P) (hP2 : P < 20) (h : Q (.inl (some (vi (nI (P + 1))))) (mw σ M (u1 (u1 s 320 0) 340 (nI (P + 1))) (u2 (u2 m 14 P x) 15 P y))) : ca J_M_part [vr M, vi x, vi y] (mw σ M s m) Q := by
  refine m_partG hm hz hx (b_M_part_26 ⟨fun c => c_00 c, fun _ => ⟨hm.1, ?_⟩⟩)
  rw [mw_i, hP, lit_20]
  refine ⟨fun _ => b_M_part_46 (b_M_part_47 ⟨hm.1, m_fails0 hm ⟨fun _ => ⟨hm.1, hm.1, ?_⟩, fun c => absurd rfl c⟩⟩), fun c => ?_⟩
  · have e : (u1 s 320 0) 340 = nI P := by rw [u1_o (by decide)]; exact hP
    rw [mw_i, e, r_338 hm, k_338 hm, n_338 hm, nI_clamp (by omega), w_338]
    refine ⟨⟨rfl, n_in (by omega) (by decide)⟩, fun σ3 h3 => ?_⟩
    subst h3
    rw [mw_i, e, r_339 hm, k_339 hm, n_339 hm, nI_clamp (by omega), w_339]
    refine ⟨hm.1, hm.1, ⟨rfl, n_in (by omega) (by decide)⟩, fun σ4 h4 => ?_⟩
    subst h4
    rw [mw_i, e, n_s1, mw_wi]
    refine ⟨hm.1, hm.1, fun σ5 h5 => ?_⟩
    subst h5
    rw [mw_i, u1_s]
    exact ⟨hm.1, h⟩
  · have c := Classical.not_not.mp c
    rw [n_eq (by omega) (by decide)] at c
    omega
theorem m_delimiter1 (hm : mS σ M) (hz : mZ s m N z) {x y : Int32} (hx : ¬ ∃ j, (j < N ∧ x = nI j) ∧ 0 < z j) (h : Q (.inl (some (vi 0))) (mw σ M (u1 s 320 1) m)) : ca J_M_delimiter [vr M, vi x, vi y] (mw σ M s m) Q := by
  refine b_M_delimiter_0 ⟨hm.1, m_isFull hm hz ⟨fun c => ?_, fun _ => b_M_delimiter_13 ⟨fun _ => b_M_delimiter_33 (b_M_delimiter_34 ⟨hm.1, m_fails1 hm (by decide) ⟨fun c => c_10 c, fun _ => h⟩⟩), fun c => c_11 c⟩⟩⟩
  rw [bP_f hx] at c
  exact c_00 c
theorem m_delimiterG (hm : mS σ M) (hz : mZ s m N z) {x y : Int32} (hx : ∃ j, (j < N ∧ x = nI j) ∧ 0 < z j) (h : wp J_M_delimiter 13 [vr M, vi x, vi y, vl 0] [vi 0] (mw σ M s m) Q) : ca J_M_delimiter [vr M, vi x, vi y] (mw σ M s m) Q := by
  refine b_M_delimiter_0 ⟨hm.1, m_isFull hm hz ⟨fun _ => h, fun c => ?_⟩⟩
  rw [bP_t hx] at c
  exact c_11 c
theorem m_delimiter2 (hm : mS σ M) (hz : mZ s m N z) {x y : Int32} (hx : ∃ j, (j < N ∧ x = nI j) ∧ 0 < z j) (hP : s 346 = nI 8) (h : Q (.inl (some (vi 0))) (mw σ M (u1 s 320 2) m)) : ca J_M_delimiter [vr M, vi x, vi y] (mw σ M s m) Q := by
  refine m_delimiterG hm hz hx (b_M_delimiter_13 ⟨fun c => c_00 c, fun _ => ⟨hm.1, ?_⟩⟩)
  rw [mw_i, hP]
  exact ⟨fun c => absurd lit_8.symm c, fun _ => b_M_delimiter_34 ⟨hm.1, m_fails2 hm (by decide) ⟨fun c => c_10 c, fun _ => h⟩⟩⟩
theorem m_delimiter0 (hm : mS σ M) (hz : mZ s m N z) {x y : Int32} (hx : ∃ j, (j < N ∧ x = nI j) ∧ 0 < z j) (hy : iBool y) {P : Nat} (hP : s 346 = nI P) (hP2 : P < 8) (h : Q (.inl (some (vi (nI (P + 1))))) (mw σ M (u1 (u1 s 320 0) 346 (nI (P + 1))) (u2 (u2 m 16 P x) 20 P y))) : ca J_M_delimiter [vr M, vi x, vi y] (mw σ M s m) Q := by
  refine m_delimiterG hm hz hx (b_M_delimiter_13 ⟨fun c => c_00 c, fun _ => ⟨hm.1, ?_⟩⟩)
  rw [mw_i, hP, lit_8]
  refine ⟨fun _ => b_M_delimiter_33 (b_M_delimiter_34 ⟨hm.1, m_fails0 hm ⟨fun _ => ⟨hm.1, hm.1, ?_⟩, fun c => absurd rfl c⟩⟩), fun c => ?_⟩
  · have e : (u1 s 320 0) 346 = nI P := by rw [u1_o (by decide)]; exact hP
    rw [mw_i, e, r_341 hm, k_341 hm, n_341 hm, nI_clamp (by omega), w_341]
    refine ⟨⟨rfl, n_in (by omega) (by decide)⟩, fun σ3 h3 => ?_⟩
    subst h3
    rw [mw_i, e, r_345 hm, k_345 hm, n_345 hm, nI_clamp (by omega), w_345]
    refine ⟨hm.1, hm.1, ⟨rfl, hy, n_in (by omega) (by decide)⟩, fun σ4 h4 => ?_⟩
    subst h4
    rw [mw_i, e, n_s1, mw_wi]
    refine ⟨hm.1, hm.1, fun σ5 h5 => ?_⟩
    subst h5
    rw [mw_i, u1_s]
    exact ⟨hm.1, h⟩
  · have c := Classical.not_not.mp c
    rw [n_eq (by omega) (by decide)] at c
    omega
theorem m_receiver1 (hm : mS σ M) (hz : s 324 = nI N) (hN : N ≤ 40) {x : Int32} (hx : ¬ ∃ j, j < N ∧ x = nI j) (h : Q (.inl (some (vi 0))) (mw σ M (u1 s 320 1) m)) : ca J_M_receiver [vr M, vi x] (mw σ M s m) Q := by
  refine b_M_receiver_0 ⟨hm.1, m_isText hm hz hN ⟨fun c => ?_, fun _ => b_M_receiver_13 ⟨fun _ => b_M_receiver_33 (b_M_receiver_34 ⟨hm.1, m_fails1 hm (by decide) ⟨fun c => c_10 c, fun _ => h⟩⟩), fun c => c_11 c⟩⟩⟩
  rw [bP_f hx] at c
  exact c_00 c
theorem m_receiverG (hm : mS σ M) (hz : s 324 = nI N) (hN : N ≤ 40) {x : Int32} (hx : ∃ j, j < N ∧ x = nI j) (h : wp J_M_receiver 13 [vr M, vi x, vl 0] [vi 0] (mw σ M s m) Q) : ca J_M_receiver [vr M, vi x] (mw σ M s m) Q := by
  refine b_M_receiver_0 ⟨hm.1, m_isText hm hz hN ⟨fun _ => h, fun c => ?_⟩⟩
  rw [bP_t hx] at c
  exact c_11 c
theorem m_receiver2 (hm : mS σ M) (hz : s 324 = nI N) (hN : N ≤ 40) {x : Int32} (hx : ∃ j, j < N ∧ x = nI j) (hP : s 347 = nI 20) (h : Q (.inl (some (vi 0))) (mw σ M (u1 s 320 2) m)) : ca J_M_receiver [vr M, vi x] (mw σ M s m) Q := by
  refine m_receiverG hm hz hN hx (b_M_receiver_13 ⟨fun c => c_00 c, fun _ => ⟨hm.1, ?_⟩⟩)
  rw [mw_i, hP]
  exact ⟨fun c => absurd lit_20.symm c, fun _ => b_M_receiver_34 ⟨hm.1, m_fails2 hm (by decide) ⟨fun c => c_10 c, fun _ => h⟩⟩⟩
theorem m_receiver0 (hm : mS σ M) (hz : s 324 = nI N) (hN : N ≤ 40) {x : Int32} (hx : ∃ j, j < N ∧ x = nI j) {P : Nat} (hP : s 347 = nI P) (hP2 : P < 20) (h : Q (.inl (some (vi (nI (P + 1))))) (mw σ M (u1 (u1 s 320 0) 347 (nI (P + 1))) (u2 m 17 P x))) : ca J_M_receiver [vr M, vi x] (mw σ M s m) Q := by
  refine m_receiverG hm hz hN hx (b_M_receiver_13 ⟨fun c => c_00 c, fun _ => ⟨hm.1, ?_⟩⟩)
  rw [mw_i, hP, lit_20]
  refine ⟨fun _ => b_M_receiver_33 (b_M_receiver_34 ⟨hm.1, m_fails0 hm ⟨fun _ => ⟨hm.1, hm.1, ?_⟩, fun c => absurd rfl c⟩⟩), fun c => ?_⟩
  · have e : (u1 s 320 0) 347 = nI P := by rw [u1_o (by decide)]; exact hP
    rw [mw_i, e, r_342 hm, k_342 hm, n_342 hm, nI_clamp (by omega), w_342]
    refine ⟨⟨rfl, n_in (by omega) (by decide)⟩, fun σ3 h3 => ?_⟩
    subst h3
    rw [mw_i, e, n_s1, mw_wi]
    refine ⟨hm.1, hm.1, fun σ5 h5 => ?_⟩
    subst h5
    rw [mw_i, u1_s]
    exact ⟨hm.1, h⟩
  · have c := Classical.not_not.mp c
    rw [n_eq (by omega) (by decide)] at c
    omega
/-- what result answers -/
noncomputable def rsV (m : Nat → Nat → Int32) (x y : Int32) : Int32 := @ite _ (∃ i, i < 20 ∧ x = nI i) (Classical.propDecidable _) (if y = 0 then m 18 x.toNatClampNeg else if y = 1 then m 19 x.toNatClampNeg else -1) (-1)
theorem m_result (hm : mS σ M) {x y : Int32} (h : Q (.inl (some (vi (rsV m x y)))) (mw σ M (u1 s 320 0) m)) : ca J_M_result [vr M, vi x, vi y] (mw σ M s m) Q := by
  refine b_M_result_0 ⟨hm.1, fun σ1 h1 => ?_⟩
  subst h1
  rw [mw_wi]
  have bad : rsV m x y = -1 → wp J_M_result 24 [vr M, vi x, vi y] [] (mw σ M (u1 s 320 0) m) Q := fun e => by
    rw [e] at h
    exact b_M_result_24 (b_M_result_47 h)
  have ng : (¬ ∃ i, i < 20 ∧ x = nI i) → rsV m x y = -1 := fun q => if_neg q
  refine ⟨fun c => bad (ng (fun ⟨i, h1, h2⟩ => by subst h2; exact nI_pos (by omega) c)), fun c => ?_⟩
  obtain ⟨i, hi, rfl⟩ := n_of c
  rw [lit_20, n_le (by decide) hi]
  refine ⟨fun c2 => bad (ng (fun ⟨j, h1, h2⟩ => by rw [n_eq hi (by omega)] at h2; omega)), fun c2 => ?_⟩
  have e : rsV m (nI i) y = if y = 0 then m 18 i else if y = 1 then m 19 i else -1 := by
    unfold rsV
    rw [if_pos ⟨i, by omega, rfl⟩, nI_clamp (by omega)]
  refine ⟨fun c3 => bad ?_, fun c3 => ⟨fun c4 => ⟨fun c5 => ?_, fun c5 => ?_⟩, fun c4 => bad ?_⟩⟩
  · rw [e, if_neg (fun q => by rw [q] at c3; exact absurd c3 (by decide)), if_neg (fun q => by rw [q] at c3; exact absurd c3 (by decide))]
  · rw [lit_1] at c4
    obtain ⟨k, hk, rfl⟩ := n_le' (a := 1) (by decide) c3 c4
    rw [lit_0] at c5
    have hk1 : k = 1 := by
      by_cases hk0 : k = 0
      · subst hk0; exact absurd rfl c5
      · omega
    subst hk1
    rw [e, if_neg (by decide), if_pos lit_1.symm] at h
    rw [r_344 hm, k_344 hm, n_344 hm, a_344, nI_clamp (by omega)]
    exact ⟨hm.1, ⟨rfl, n_in (by omega) (by decide)⟩, b_M_result_47 h⟩
  · have c5 := Classical.not_not.mp c5
    rw [e, if_pos c5] at h
    rw [r_343 hm, k_343 hm, n_343 hm, a_343, nI_clamp (by omega)]
    exact ⟨hm.1, ⟨rfl, n_in (by omega) (by decide)⟩, b_M_result_47 h⟩
  · rw [e, if_neg (fun q => c4 (by rw [q]; decide)), if_neg (fun q => c4 (by rw [q]; decide))]
theorem m_pointer (hm : mS σ M) (h : Q (.inl (some (vi (s 348)))) (mw σ M (u1 s 320 0) m)) : ca J_M_pointer [vr M] (mw σ M s m) Q := by
  refine b_M_pointer_0 ⟨hm.1, fun σ1 h1 => ?_⟩
  subst h1
  rw [mw_wi, mw_i, u1_o (by decide)]
  exact ⟨hm.1, h⟩
theorem m_table1 (hm : mS σ M) {x : Int32} (hx : ¬ ∃ n, n < 60 ∧ x = nI (n + 1)) (h : Q (.inl (some (vi 0))) (mw σ M (u1 s 320 1) m)) : ca J_M_table [vr M, vi x] (mw σ M s m) Q := by
  have bad : wp J_M_table 11 [vr M, vi x, vl 0] [] (mw σ M s m) Q := b_M_table_11 (b_M_table_16 ⟨fun _ => b_M_table_36 (b_M_table_37 ⟨hm.1, m_fails1 hm (by decide) ⟨fun c => c_10 c, fun _ => h⟩⟩), fun c => c_11 c⟩)
  refine b_M_table_0 ⟨fun _ => bad, fun c => ⟨fun c2 => ?_, fun _ => bad⟩⟩
  rw [lit_60] at c2
  obtain ⟨k, hk, rfl⟩ := n_le' (by decide) (fun q => c (Int32.lt_trans q (by decide))) c2
  rw [lit_1, n_lt (by omega) (by decide)] at c
  exact absurd ⟨k - 1, by omega, by rw [show k - 1 + 1 = k by omega]⟩ hx
theorem m_tableG (hm : mS σ M) {n : Nat} (hn : n < 60) (h : wp J_M_table 16 [vr M, vi (nI (n + 1)), vl 0] [vi 0] (mw σ M s m) Q) : ca J_M_table [vr M, vi (nI (n + 1))] (mw σ M s m) Q := by
  refine b_M_table_0 ⟨fun c => ?_, fun _ => ⟨fun _ => h, fun c => ?_⟩⟩
  · rw [lit_1, n_lt (by omega) (by decide)] at c
    omega
  · rw [lit_60, n_le (by omega) (by decide)] at c
    omega
theorem m_table2 (hm : mS σ M) {n : Nat} (hn : n < 60) (hP : s 352 = nI 10) (h : Q (.inl (some (vi 0))) (mw σ M (u1 s 320 2) m)) : ca J_M_table [vr M, vi (nI (n + 1))] (mw σ M s m) Q := by
  refine m_tableG hm hn (b_M_table_16 ⟨fun c => c_00 c, fun _ => ⟨hm.1, ?_⟩⟩)
  rw [mw_i, hP]
  exact ⟨fun c => absurd lit_10.symm c, fun _ => b_M_table_37 ⟨hm.1, m_fails2 hm (by decide) ⟨fun c => c_10 c, fun _ => h⟩⟩⟩
theorem m_table0 (hm : mS σ M) {n : Nat} (hn : n < 60) {P : Nat} (hP : s 352 = nI P) (hP2 : P < 10) (h : Q (.inl (some (vi (nI P)))) (mw σ M (u1 (u1 s 320 0) 352 (nI (P + 1))) (u2 (u2 m 22 P (nI (n + 1))) 23 P 1))) : ca J_M_table [vr M, vi (nI (n + 1))] (mw σ M s m) Q := by
  refine m_tableG hm hn (b_M_table_16 ⟨fun c => c_00 c, fun _ => ⟨hm.1, ?_⟩⟩)
  rw [mw_i, hP, lit_10]
  refine ⟨fun _ => b_M_table_36 (b_M_table_37 ⟨hm.1, m_fails0 hm ⟨fun _ => ⟨hm.1, hm.1, ?_⟩, fun c => absurd rfl c⟩⟩), fun c => ?_⟩
  · have e : (u1 s 320 0) 352 = nI P := by rw [u1_o (by decide)]; exact hP
    rw [mw_i, e, r_350 hm, k_350 hm, n_350 hm, nI_clamp (by omega), w_350]
    refine ⟨⟨rfl, n_in (by omega) (by decide)⟩, fun σ3 h3 => ?_⟩
    subst h3
    rw [mw_i, e, r_351 hm, k_351 hm, n_351 hm, nI_clamp (by omega), w_351]
    refine ⟨hm.1, hm.1, ⟨rfl, n_in (by omega) (by decide)⟩, fun σ4 h4 => ?_⟩
    subst h4
    rw [mw_i, e, n_s1, mw_wi]
    refine ⟨hm.1, hm.1, fun σ5 h5 => ?_⟩
    subst h5
    rw [mw_i, u1_s, nI_pred]
    exact ⟨hm.1, h⟩
  · have c := Classical.not_not.mp c
    rw [n_eq (by omega) (by decide)] at c
    omega
theorem m_row1 (hm : mS σ M) (hz : s 352 = nI N) (hN : N ≤ 10) (hr : ∀ j, j < N → m 22 j = nI (z j) ∧ z j ≤ 60) {x y v : Int32} (hx : ¬ ∃ j, (j < N ∧ x = nI j) ∧ ∃ k, k < z j ∧ y = nI (k + 1)) (h : Q (.inl (some (vi 0))) (mw σ M (u1 s 320 1) m)) : ca J_M_row [vr M, vi x, vi y, vi v] (mw σ M s m) Q := by
  refine b_M_row_0 ⟨hm.1, m_isRow hm hz hN hr ⟨fun c => ?_, fun _ => b_M_row_15 ⟨hm.1, m_fails1 hm (by decide) ⟨fun c => c_10 c, fun _ => h⟩⟩⟩⟩
  rw [bP_f hx] at c
  exact c_00 c
theorem m_row0 (hm : mS σ M) (hz : s 352 = nI N) (hN : N ≤ 10) (hr : ∀ j, j < N → m 22 j = nI (z j) ∧ z j ≤ 60) {j k : Nat} {v : Int32} (hj : j < N) (hk : k < z j) (h : Q (.inl (some (vi (m 21 (60 * j + k))))) (mw σ M (u1 s 320 0) (u2 m 21 (60 * j + k) v))) : ca J_M_row [vr M, vi (nI j), vi (nI (k + 1)), vi v] (mw σ M s m) Q := by
  have hz2 := (hr j hj).2
  refine b_M_row_0 ⟨hm.1, m_isRow hm hz hN hr ⟨fun _ => b_M_row_15 ⟨hm.1, m_fails0 hm ⟨fun _ => ⟨hm.1, ?_⟩, fun c => absurd rfl c⟩⟩, fun c => ?_⟩⟩
  · rw [r_349 hm, k_349 hm, n_349 hm, lit_60, n_mul, nI_add, n_p1 (by omega), show 60 * j + (k + 1) - 1 = 60 * j + k by omega, nI_clamp (by omega), a_349, w_349]
    refine ⟨⟨rfl, n_in (by omega) (by decide)⟩, hm.1, ⟨rfl, n_in (by omega) (by decide)⟩, fun σ3 h3 => ?_⟩
    subst h3
    exact h
  · rw [bP_t ⟨j, ⟨hj, rfl⟩, k, hk, rfl⟩] at c
    exact c_11 c
theorem m_index1 (hm : mS σ M) (hz : s 352 = nI N) (hN : N ≤ 10) (hr : ∀ j, j < N → m 22 j = nI (z j) ∧ z j ≤ 60) {x y : Int32} (hx : ¬ ∃ j, (j < N ∧ x = nI j) ∧ ∃ k, k < z j ∧ y = nI (k + 1)) (h : Q (.inl (some (vi 0))) (mw σ M (u1 s 320 1) m)) : ca J_M_index [vr M, vi x, vi y] (mw σ M s m) Q := by
  refine b_M_index_0 ⟨hm.1, m_isRow hm hz hN hr ⟨fun c => ?_, fun _ => b_M_index_15 ⟨hm.1, m_fails1 hm (by decide) ⟨fun c => c_10 c, fun _ => h⟩⟩⟩⟩
  rw [bP_f hx] at c
  exact c_00 c
theorem m_index0 (hm : mS σ M) (hz : s 352 = nI N) (hN : N ≤ 10) (hr : ∀ j, j < N → m 22 j = nI (z j) ∧ z j ≤ 60) {j k : Nat} (hj : j < N) (hk : k < z j) (h : Q (.inl (some (vi (m 23 j)))) (mw σ M (u1 s 320 0) (u2 m 23 j (nI (k + 1))))) : ca J_M_index [vr M, vi (nI j), vi (nI (k + 1))] (mw σ M s m) Q := by
  refine b_M_index_0 ⟨hm.1, m_isRow hm hz hN hr ⟨fun _ => b_M_index_15 ⟨hm.1, m_fails0 hm ⟨fun _ => ⟨hm.1, ?_⟩, fun c => absurd rfl c⟩⟩, fun c => ?_⟩⟩
  · rw [r_351 hm, k_351 hm, n_351 hm, nI_clamp (by omega), a_351, w_351]
    refine ⟨⟨rfl, n_in (by omega) (by decide)⟩, hm.1, ⟨rfl, n_in (by omega) (by decide)⟩, fun σ3 h3 => ?_⟩
    subst h3
    exact h
  · rw [bP_t ⟨j, ⟨hj, rfl⟩, k, hk, rfl⟩] at c
    exact c_11 c
end MQ2
