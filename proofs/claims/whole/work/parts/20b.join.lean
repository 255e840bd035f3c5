/-! the rows of all methods and pools, joined: printed by gen5.py -/
theorem dmm_0 : ∀ ch ∈ mC 0, ∀ q ∈ ch, decode (iBy 0) q.1 = .ok q.2 ∧ iLen q.2.1 q.2.2 = true := by
  show ∀ ch ∈ mC_0, ∀ q ∈ ch, decode (iBy 0) q.1 = .ok q.2 ∧ iLen q.2.1 q.2.2 = true
  exact List.forall_mem_cons.mpr ⟨dm_0_0, fun _ h => absurd h List.not_mem_nil⟩
theorem dmm_1 : ∀ ch ∈ mC 1, ∀ q ∈ ch, decode (iBy 1) q.1 = .ok q.2 ∧ iLen q.2.1 q.2.2 = true := by
  show ∀ ch ∈ mC_1, ∀ q ∈ ch, decode (iBy 1) q.1 = .ok q.2 ∧ iLen q.2.1 q.2.2 = true
  exact List.forall_mem_cons.mpr ⟨dm_1_0, List.forall_mem_cons.mpr ⟨dm_1_1, fun _ h => absurd h List.not_mem_nil⟩⟩
theorem dmm_2 : ∀ ch ∈ mC 2, ∀ q ∈ ch, decode (iBy 2) q.1 = .ok q.2 ∧ iLen q.2.1 q.2.2 = true := by
  show ∀ ch ∈ mC_2, ∀ q ∈ ch, decode (iBy 2) q.1 = .ok q.2 ∧ iLen q.2.1 q.2.2 = true
  exact List.forall_mem_cons.mpr ⟨dm_2_0, fun _ h => absurd h List.not_mem_nil⟩
theorem dmm_3 : ∀ ch ∈ mC 3, ∀ q ∈ ch, decode (iBy 3) q.1 = .ok q.2 ∧ iLen q.2.1 q.2.2 = true := by
  show ∀ ch ∈ mC_3, ∀ q ∈ ch, decode (iBy 3) q.1 = .ok q.2 ∧ iLen q.2.1 q.2.2 = true
  exact List.forall_mem_cons.mpr ⟨dm_3_0, fun _ h => absurd h List.not_mem_nil⟩
theorem dmm_4 : ∀ ch ∈ mC 4, ∀ q ∈ ch, decode (iBy 4) q.1 = .ok q.2 ∧ iLen q.2.1 q.2.2 = true := by
  show ∀ ch ∈ mC_4, ∀ q ∈ ch, decode (iBy 4) q.1 = .ok q.2 ∧ iLen q.2.1 q.2.2 = true
  exact List.forall_mem_cons.mpr ⟨dm_4_0, fun _ h => absurd h List.not_mem_nil⟩
theorem dmm_5 : ∀ ch ∈ mC 5, ∀ q ∈ ch, decode (iBy 5) q.1 = .ok q.2 ∧ iLen q.2.1 q.2.2 = true := by
  show ∀ ch ∈ mC_5, ∀ q ∈ ch, decode (iBy 5) q.1 = .ok q.2 ∧ iLen q.2.1 q.2.2 = true
  exact List.forall_mem_cons.mpr ⟨dm_5_0, fun _ h => absurd h List.not_mem_nil⟩
theorem dmm_6 : ∀ ch ∈ mC 6, ∀ q ∈ ch, decode (iBy 6) q.1 = .ok q.2 ∧ iLen q.2.1 q.2.2 = true := by
  show ∀ ch ∈ mC_6, ∀ q ∈ ch, decode (iBy 6) q.1 = .ok q.2 ∧ iLen q.2.1 q.2.2 = true
  exact List.forall_mem_cons.mpr ⟨dm_6_0, List.forall_mem_cons.mpr ⟨dm_6_1, fun _ h => absurd h List.not_mem_nil⟩⟩
theorem dmm_7 : ∀ ch ∈ mC 7, ∀ q ∈ ch, decode (iBy 7) q.1 = .ok q.2 ∧ iLen q.2.1 q.2.2 = true := by
  show ∀ ch ∈ mC_7, ∀ q ∈ ch, decode (iBy 7) q.1 = .ok q.2 ∧ iLen q.2.1 q.2.2 = true
  exact List.forall_mem_cons.mpr ⟨dm_7_0, fun _ h => absurd h List.not_mem_nil⟩
theorem dmm_8 : ∀ ch ∈ mC 8, ∀ q ∈ ch, decode (iBy 8) q.1 = .ok q.2 ∧ iLen q.2.1 q.2.2 = true := by
  show ∀ ch ∈ mC_8, ∀ q ∈ ch, decode (iBy 8) q.1 = .ok q.2 ∧ iLen q.2.1 q.2.2 = true
  exact List.forall_mem_cons.mpr ⟨dm_8_0, fun _ h => absurd h List.not_mem_nil⟩
theorem dmm_9 : ∀ ch ∈ mC 9, ∀ q ∈ ch, decode (iBy 9) q.1 = .ok q.2 ∧ iLen q.2.1 q.2.2 = true := by
  show ∀ ch ∈ mC_9, ∀ q ∈ ch, decode (iBy 9) q.1 = .ok q.2 ∧ iLen q.2.1 q.2.2 = true
  exact List.forall_mem_cons.mpr ⟨dm_9_0, fun _ h => absurd h List.not_mem_nil⟩
theorem dmm_10 : ∀ ch ∈ mC 10, ∀ q ∈ ch, decode (iBy 10) q.1 = .ok q.2 ∧ iLen q.2.1 q.2.2 = true := by
  show ∀ ch ∈ mC_10, ∀ q ∈ ch, decode (iBy 10) q.1 = .ok q.2 ∧ iLen q.2.1 q.2.2 = true
  exact List.forall_mem_cons.mpr ⟨dm_10_0, fun _ h => absurd h List.not_mem_nil⟩
theorem dmm_11 : ∀ ch ∈ mC 11, ∀ q ∈ ch, decode (iBy 11) q.1 = .ok q.2 ∧ iLen q.2.1 q.2.2 = true := by
  show ∀ ch ∈ mC_11, ∀ q ∈ ch, decode (iBy 11) q.1 = .ok q.2 ∧ iLen q.2.1 q.2.2 = true
  exact List.forall_mem_cons.mpr ⟨dm_11_0, fun _ h => absurd h List.not_mem_nil⟩
theorem dmm_12 : ∀ ch ∈ mC 12, ∀ q ∈ ch, decode (iBy 12) q.1 = .ok q.2 ∧ iLen q.2.1 q.2.2 = true := by
  show ∀ ch ∈ mC_12, ∀ q ∈ ch, decode (iBy 12) q.1 = .ok q.2 ∧ iLen q.2.1 q.2.2 = true
  exact List.forall_mem_cons.mpr ⟨dm_12_0, fun _ h => absurd h List.not_mem_nil⟩
theorem dmm_13 : ∀ ch ∈ mC 13, ∀ q ∈ ch, decode (iBy 13) q.1 = .ok q.2 ∧ iLen q.2.1 q.2.2 = true := by
  show ∀ ch ∈ mC_13, ∀ q ∈ ch, decode (iBy 13) q.1 = .ok q.2 ∧ iLen q.2.1 q.2.2 = true
  exact List.forall_mem_cons.mpr ⟨dm_13_0, fun _ h => absurd h List.not_mem_nil⟩
theorem dmm_14 : ∀ ch ∈ mC 14, ∀ q ∈ ch, decode (iBy 14) q.1 = .ok q.2 ∧ iLen q.2.1 q.2.2 = true := by
  show ∀ ch ∈ mC_14, ∀ q ∈ ch, decode (iBy 14) q.1 = .ok q.2 ∧ iLen q.2.1 q.2.2 = true
  exact List.forall_mem_cons.mpr ⟨dm_14_0, fun _ h => absurd h List.not_mem_nil⟩
theorem dmm_15 : ∀ ch ∈ mC 15, ∀ q ∈ ch, decode (iBy 15) q.1 = .ok q.2 ∧ iLen q.2.1 q.2.2 = true := by
  show ∀ ch ∈ mC_15, ∀ q ∈ ch, decode (iBy 15) q.1 = .ok q.2 ∧ iLen q.2.1 q.2.2 = true
  exact List.forall_mem_cons.mpr ⟨dm_15_0, List.forall_mem_cons.mpr ⟨dm_15_1, fun _ h => absurd h List.not_mem_nil⟩⟩
theorem dmm_16 : ∀ ch ∈ mC 16, ∀ q ∈ ch, decode (iBy 16) q.1 = .ok q.2 ∧ iLen q.2.1 q.2.2 = true := by
  show ∀ ch ∈ mC_16, ∀ q ∈ ch, decode (iBy 16) q.1 = .ok q.2 ∧ iLen q.2.1 q.2.2 = true
  exact List.forall_mem_cons.mpr ⟨dm_16_0, fun _ h => absurd h List.not_mem_nil⟩
theorem dmm_17 : ∀ ch ∈ mC 17, ∀ q ∈ ch, decode (iBy 17) q.1 = .ok q.2 ∧ iLen q.2.1 q.2.2 = true := by
  show ∀ ch ∈ mC_17, ∀ q ∈ ch, decode (iBy 17) q.1 = .ok q.2 ∧ iLen q.2.1 q.2.2 = true
  exact List.forall_mem_cons.mpr ⟨dm_17_0, List.forall_mem_cons.mpr ⟨dm_17_1, fun _ h => absurd h List.not_mem_nil⟩⟩
theorem dmm_18 : ∀ ch ∈ mC 18, ∀ q ∈ ch, decode (iBy 18) q.1 = .ok q.2 ∧ iLen q.2.1 q.2.2 = true := by
  show ∀ ch ∈ mC_18, ∀ q ∈ ch, decode (iBy 18) q.1 = .ok q.2 ∧ iLen q.2.1 q.2.2 = true
  exact List.forall_mem_cons.mpr ⟨dm_18_0, fun _ h => absurd h List.not_mem_nil⟩
theorem dmm_19 : ∀ ch ∈ mC 19, ∀ q ∈ ch, decode (iBy 19) q.1 = .ok q.2 ∧ iLen q.2.1 q.2.2 = true := by
  show ∀ ch ∈ mC_19, ∀ q ∈ ch, decode (iBy 19) q.1 = .ok q.2 ∧ iLen q.2.1 q.2.2 = true
  exact List.forall_mem_cons.mpr ⟨dm_19_0, fun _ h => absurd h List.not_mem_nil⟩
theorem dmm_20 : ∀ ch ∈ mC 20, ∀ q ∈ ch, decode (iBy 20) q.1 = .ok q.2 ∧ iLen q.2.1 q.2.2 = true := by
  show ∀ ch ∈ mC_20, ∀ q ∈ ch, decode (iBy 20) q.1 = .ok q.2 ∧ iLen q.2.1 q.2.2 = true
  exact List.forall_mem_cons.mpr ⟨dm_20_0, fun _ h => absurd h List.not_mem_nil⟩
theorem dmm_21 : ∀ ch ∈ mC 21, ∀ q ∈ ch, decode (iBy 21) q.1 = .ok q.2 ∧ iLen q.2.1 q.2.2 = true := by
  show ∀ ch ∈ mC_21, ∀ q ∈ ch, decode (iBy 21) q.1 = .ok q.2 ∧ iLen q.2.1 q.2.2 = true
  exact List.forall_mem_cons.mpr ⟨dm_21_0, fun _ h => absurd h List.not_mem_nil⟩
theorem dmm_22 : ∀ ch ∈ mC 22, ∀ q ∈ ch, decode (iBy 22) q.1 = .ok q.2 ∧ iLen q.2.1 q.2.2 = true := by
  show ∀ ch ∈ mC_22, ∀ q ∈ ch, decode (iBy 22) q.1 = .ok q.2 ∧ iLen q.2.1 q.2.2 = true
  exact List.forall_mem_cons.mpr ⟨dm_22_0, fun _ h => absurd h List.not_mem_nil⟩
theorem dmm_23 : ∀ ch ∈ mC 23, ∀ q ∈ ch, decode (iBy 23) q.1 = .ok q.2 ∧ iLen q.2.1 q.2.2 = true := by
  show ∀ ch ∈ mC_23, ∀ q ∈ ch, decode (iBy 23) q.1 = .ok q.2 ∧ iLen q.2.1 q.2.2 = true
  exact List.forall_mem_cons.mpr ⟨dm_23_0, fun _ h => absurd h List.not_mem_nil⟩
theorem dmm_24 : ∀ ch ∈ mC 24, ∀ q ∈ ch, decode (iBy 24) q.1 = .ok q.2 ∧ iLen q.2.1 q.2.2 = true := by
  show ∀ ch ∈ mC_24, ∀ q ∈ ch, decode (iBy 24) q.1 = .ok q.2 ∧ iLen q.2.1 q.2.2 = true
  exact List.forall_mem_cons.mpr ⟨dm_24_0, fun _ h => absurd h List.not_mem_nil⟩
theorem dmm_25 : ∀ ch ∈ mC 25, ∀ q ∈ ch, decode (iBy 25) q.1 = .ok q.2 ∧ iLen q.2.1 q.2.2 = true := by
  show ∀ ch ∈ mC_25, ∀ q ∈ ch, decode (iBy 25) q.1 = .ok q.2 ∧ iLen q.2.1 q.2.2 = true
  exact List.forall_mem_cons.mpr ⟨dm_25_0, fun _ h => absurd h List.not_mem_nil⟩
theorem dmm_26 : ∀ ch ∈ mC 26, ∀ q ∈ ch, decode (iBy 26) q.1 = .ok q.2 ∧ iLen q.2.1 q.2.2 = true := by
  show ∀ ch ∈ mC_26, ∀ q ∈ ch, decode (iBy 26) q.1 = .ok q.2 ∧ iLen q.2.1 q.2.2 = true
  exact List.forall_mem_cons.mpr ⟨dm_26_0, fun _ h => absurd h List.not_mem_nil⟩
theorem dmm_27 : ∀ ch ∈ mC 27, ∀ q ∈ ch, decode (iBy 27) q.1 = .ok q.2 ∧ iLen q.2.1 q.2.2 = true := by
  show ∀ ch ∈ mC_27, ∀ q ∈ ch, decode (iBy 27) q.1 = .ok q.2 ∧ iLen q.2.1 q.2.2 = true
  exact List.forall_mem_cons.mpr ⟨dm_27_0, fun _ h => absurd h List.not_mem_nil⟩
theorem dmm_28 : ∀ ch ∈ mC 28, ∀ q ∈ ch, decode (iBy 28) q.1 = .ok q.2 ∧ iLen q.2.1 q.2.2 = true := by
  show ∀ ch ∈ mC_28, ∀ q ∈ ch, decode (iBy 28) q.1 = .ok q.2 ∧ iLen q.2.1 q.2.2 = true
  exact List.forall_mem_cons.mpr ⟨dm_28_0, fun _ h => absurd h List.not_mem_nil⟩
theorem dmm_29 : ∀ ch ∈ mC 29, ∀ q ∈ ch, decode (iBy 29) q.1 = .ok q.2 ∧ iLen q.2.1 q.2.2 = true := by
  show ∀ ch ∈ mC_29, ∀ q ∈ ch, decode (iBy 29) q.1 = .ok q.2 ∧ iLen q.2.1 q.2.2 = true
  exact List.forall_mem_cons.mpr ⟨dm_29_0, fun _ h => absurd h List.not_mem_nil⟩
theorem dmm_30 : ∀ ch ∈ mC 30, ∀ q ∈ ch, decode (iBy 30) q.1 = .ok q.2 ∧ iLen q.2.1 q.2.2 = true := by
  show ∀ ch ∈ mC_30, ∀ q ∈ ch, decode (iBy 30) q.1 = .ok q.2 ∧ iLen q.2.1 q.2.2 = true
  exact List.forall_mem_cons.mpr ⟨dm_30_0, fun _ h => absurd h List.not_mem_nil⟩
theorem dmm_31 : ∀ ch ∈ mC 31, ∀ q ∈ ch, decode (iBy 31) q.1 = .ok q.2 ∧ iLen q.2.1 q.2.2 = true := by
  show ∀ ch ∈ mC_31, ∀ q ∈ ch, decode (iBy 31) q.1 = .ok q.2 ∧ iLen q.2.1 q.2.2 = true
  exact List.forall_mem_cons.mpr ⟨dm_31_0, fun _ h => absurd h List.not_mem_nil⟩
theorem dmm_32 : ∀ ch ∈ mC 32, ∀ q ∈ ch, decode (iBy 32) q.1 = .ok q.2 ∧ iLen q.2.1 q.2.2 = true := by
  show ∀ ch ∈ mC_32, ∀ q ∈ ch, decode (iBy 32) q.1 = .ok q.2 ∧ iLen q.2.1 q.2.2 = true
  exact List.forall_mem_cons.mpr ⟨dm_32_0, fun _ h => absurd h List.not_mem_nil⟩
theorem dmm_33 : ∀ ch ∈ mC 33, ∀ q ∈ ch, decode (iBy 33) q.1 = .ok q.2 ∧ iLen q.2.1 q.2.2 = true := by
  show ∀ ch ∈ mC_33, ∀ q ∈ ch, decode (iBy 33) q.1 = .ok q.2 ∧ iLen q.2.1 q.2.2 = true
  exact List.forall_mem_cons.mpr ⟨dm_33_0, fun _ h => absurd h List.not_mem_nil⟩
theorem dmm_34 : ∀ ch ∈ mC 34, ∀ q ∈ ch, decode (iBy 34) q.1 = .ok q.2 ∧ iLen q.2.1 q.2.2 = true := by
  show ∀ ch ∈ mC_34, ∀ q ∈ ch, decode (iBy 34) q.1 = .ok q.2 ∧ iLen q.2.1 q.2.2 = true
  exact List.forall_mem_cons.mpr ⟨dm_34_0, fun _ h => absurd h List.not_mem_nil⟩
theorem dmm_35 : ∀ ch ∈ mC 35, ∀ q ∈ ch, decode (iBy 35) q.1 = .ok q.2 ∧ iLen q.2.1 q.2.2 = true := by
  show ∀ ch ∈ mC_35, ∀ q ∈ ch, decode (iBy 35) q.1 = .ok q.2 ∧ iLen q.2.1 q.2.2 = true
  exact List.forall_mem_cons.mpr ⟨dm_35_0, fun _ h => absurd h List.not_mem_nil⟩
theorem dmm_36 : ∀ ch ∈ mC 36, ∀ q ∈ ch, decode (iBy 36) q.1 = .ok q.2 ∧ iLen q.2.1 q.2.2 = true := by
  show ∀ ch ∈ mC_36, ∀ q ∈ ch, decode (iBy 36) q.1 = .ok q.2 ∧ iLen q.2.1 q.2.2 = true
  exact List.forall_mem_cons.mpr ⟨dm_36_0, fun _ h => absurd h List.not_mem_nil⟩
theorem dmm_37 : ∀ ch ∈ mC 37, ∀ q ∈ ch, decode (iBy 37) q.1 = .ok q.2 ∧ iLen q.2.1 q.2.2 = true := by
  show ∀ ch ∈ mC_37, ∀ q ∈ ch, decode (iBy 37) q.1 = .ok q.2 ∧ iLen q.2.1 q.2.2 = true
  exact List.forall_mem_cons.mpr ⟨dm_37_0, fun _ h => absurd h List.not_mem_nil⟩
theorem dmm_38 : ∀ ch ∈ mC 38, ∀ q ∈ ch, decode (iBy 38) q.1 = .ok q.2 ∧ iLen q.2.1 q.2.2 = true := by
  show ∀ ch ∈ mC_38, ∀ q ∈ ch, decode (iBy 38) q.1 = .ok q.2 ∧ iLen q.2.1 q.2.2 = true
  exact List.forall_mem_cons.mpr ⟨dm_38_0, fun _ h => absurd h List.not_mem_nil⟩
theorem dmm_39 : ∀ ch ∈ mC 39, ∀ q ∈ ch, decode (iBy 39) q.1 = .ok q.2 ∧ iLen q.2.1 q.2.2 = true := by
  show ∀ ch ∈ mC_39, ∀ q ∈ ch, decode (iBy 39) q.1 = .ok q.2 ∧ iLen q.2.1 q.2.2 = true
  exact List.forall_mem_cons.mpr ⟨dm_39_0, fun _ h => absurd h List.not_mem_nil⟩
theorem dmm_40 : ∀ ch ∈ mC 40, ∀ q ∈ ch, decode (iBy 40) q.1 = .ok q.2 ∧ iLen q.2.1 q.2.2 = true := by
  show ∀ ch ∈ mC_40, ∀ q ∈ ch, decode (iBy 40) q.1 = .ok q.2 ∧ iLen q.2.1 q.2.2 = true
  exact List.forall_mem_cons.mpr ⟨dm_40_0, fun _ h => absurd h List.not_mem_nil⟩
theorem dmm_41 : ∀ ch ∈ mC 41, ∀ q ∈ ch, decode (iBy 41) q.1 = .ok q.2 ∧ iLen q.2.1 q.2.2 = true := by
  show ∀ ch ∈ mC_41, ∀ q ∈ ch, decode (iBy 41) q.1 = .ok q.2 ∧ iLen q.2.1 q.2.2 = true
  exact List.forall_mem_cons.mpr ⟨dm_41_0, fun _ h => absurd h List.not_mem_nil⟩
theorem dmm_42 : ∀ ch ∈ mC 42, ∀ q ∈ ch, decode (iBy 42) q.1 = .ok q.2 ∧ iLen q.2.1 q.2.2 = true := by
  show ∀ ch ∈ mC_42, ∀ q ∈ ch, decode (iBy 42) q.1 = .ok q.2 ∧ iLen q.2.1 q.2.2 = true
  exact List.forall_mem_cons.mpr ⟨dm_42_0, fun _ h => absurd h List.not_mem_nil⟩
theorem dmm_43 : ∀ ch ∈ mC 43, ∀ q ∈ ch, decode (iBy 43) q.1 = .ok q.2 ∧ iLen q.2.1 q.2.2 = true := by
  show ∀ ch ∈ mC_43, ∀ q ∈ ch, decode (iBy 43) q.1 = .ok q.2 ∧ iLen q.2.1 q.2.2 = true
  exact List.forall_mem_cons.mpr ⟨dm_43_0, fun _ h => absurd h List.not_mem_nil⟩
theorem dmm_44 : ∀ ch ∈ mC 44, ∀ q ∈ ch, decode (iBy 44) q.1 = .ok q.2 ∧ iLen q.2.1 q.2.2 = true := by
  show ∀ ch ∈ mC_44, ∀ q ∈ ch, decode (iBy 44) q.1 = .ok q.2 ∧ iLen q.2.1 q.2.2 = true
  exact List.forall_mem_cons.mpr ⟨dm_44_0, fun _ h => absurd h List.not_mem_nil⟩
theorem dmm_45 : ∀ ch ∈ mC 45, ∀ q ∈ ch, decode (iBy 45) q.1 = .ok q.2 ∧ iLen q.2.1 q.2.2 = true := by
  show ∀ ch ∈ mC_45, ∀ q ∈ ch, decode (iBy 45) q.1 = .ok q.2 ∧ iLen q.2.1 q.2.2 = true
  exact List.forall_mem_cons.mpr ⟨dm_45_0, fun _ h => absurd h List.not_mem_nil⟩
theorem dmm_46 : ∀ ch ∈ mC 46, ∀ q ∈ ch, decode (iBy 46) q.1 = .ok q.2 ∧ iLen q.2.1 q.2.2 = true := by
  show ∀ ch ∈ mC_46, ∀ q ∈ ch, decode (iBy 46) q.1 = .ok q.2 ∧ iLen q.2.1 q.2.2 = true
  exact List.forall_mem_cons.mpr ⟨dm_46_0, List.forall_mem_cons.mpr ⟨dm_46_1, fun _ h => absurd h List.not_mem_nil⟩⟩
theorem dmm_47 : ∀ ch ∈ mC 47, ∀ q ∈ ch, decode (iBy 47) q.1 = .ok q.2 ∧ iLen q.2.1 q.2.2 = true := by
  show ∀ ch ∈ mC_47, ∀ q ∈ ch, decode (iBy 47) q.1 = .ok q.2 ∧ iLen q.2.1 q.2.2 = true
  exact List.forall_mem_cons.mpr ⟨dm_47_0, fun _ h => absurd h List.not_mem_nil⟩
theorem dmm_48 : ∀ ch ∈ mC 48, ∀ q ∈ ch, decode (iBy 48) q.1 = .ok q.2 ∧ iLen q.2.1 q.2.2 = true := by
  show ∀ ch ∈ mC_48, ∀ q ∈ ch, decode (iBy 48) q.1 = .ok q.2 ∧ iLen q.2.1 q.2.2 = true
  exact List.forall_mem_cons.mpr ⟨dm_48_0, fun _ h => absurd h List.not_mem_nil⟩
theorem dmm_49 : ∀ ch ∈ mC 49, ∀ q ∈ ch, decode (iBy 49) q.1 = .ok q.2 ∧ iLen q.2.1 q.2.2 = true := by
  show ∀ ch ∈ mC_49, ∀ q ∈ ch, decode (iBy 49) q.1 = .ok q.2 ∧ iLen q.2.1 q.2.2 = true
  exact List.forall_mem_cons.mpr ⟨dm_49_0, fun _ h => absurd h List.not_mem_nil⟩
theorem dmm_50 : ∀ ch ∈ mC 50, ∀ q ∈ ch, decode (iBy 50) q.1 = .ok q.2 ∧ iLen q.2.1 q.2.2 = true := by
  show ∀ ch ∈ mC_50, ∀ q ∈ ch, decode (iBy 50) q.1 = .ok q.2 ∧ iLen q.2.1 q.2.2 = true
  exact List.forall_mem_cons.mpr ⟨dm_50_0, fun _ h => absurd h List.not_mem_nil⟩
theorem dmm_51 : ∀ ch ∈ mC 51, ∀ q ∈ ch, decode (iBy 51) q.1 = .ok q.2 ∧ iLen q.2.1 q.2.2 = true := by
  show ∀ ch ∈ mC_51, ∀ q ∈ ch, decode (iBy 51) q.1 = .ok q.2 ∧ iLen q.2.1 q.2.2 = true
  exact List.forall_mem_cons.mpr ⟨dm_51_0, fun _ h => absurd h List.not_mem_nil⟩
theorem dmm_52 : ∀ ch ∈ mC 52, ∀ q ∈ ch, decode (iBy 52) q.1 = .ok q.2 ∧ iLen q.2.1 q.2.2 = true := by
  show ∀ ch ∈ mC_52, ∀ q ∈ ch, decode (iBy 52) q.1 = .ok q.2 ∧ iLen q.2.1 q.2.2 = true
  exact List.forall_mem_cons.mpr ⟨dm_52_0, List.forall_mem_cons.mpr ⟨dm_52_1, fun _ h => absurd h List.not_mem_nil⟩⟩
theorem dmm_53 : ∀ ch ∈ mC 53, ∀ q ∈ ch, decode (iBy 53) q.1 = .ok q.2 ∧ iLen q.2.1 q.2.2 = true := by
  show ∀ ch ∈ mC_53, ∀ q ∈ ch, decode (iBy 53) q.1 = .ok q.2 ∧ iLen q.2.1 q.2.2 = true
  exact List.forall_mem_cons.mpr ⟨dm_53_0, fun _ h => absurd h List.not_mem_nil⟩
theorem dmm_54 : ∀ ch ∈ mC 54, ∀ q ∈ ch, decode (iBy 54) q.1 = .ok q.2 ∧ iLen q.2.1 q.2.2 = true := by
  show ∀ ch ∈ mC_54, ∀ q ∈ ch, decode (iBy 54) q.1 = .ok q.2 ∧ iLen q.2.1 q.2.2 = true
  exact List.forall_mem_cons.mpr ⟨dm_54_0, fun _ h => absurd h List.not_mem_nil⟩
theorem dmm_55 : ∀ ch ∈ mC 55, ∀ q ∈ ch, decode (iBy 55) q.1 = .ok q.2 ∧ iLen q.2.1 q.2.2 = true := by
  show ∀ ch ∈ mC_55, ∀ q ∈ ch, decode (iBy 55) q.1 = .ok q.2 ∧ iLen q.2.1 q.2.2 = true
  exact List.forall_mem_cons.mpr ⟨dm_55_0, List.forall_mem_cons.mpr ⟨dm_55_1, fun _ h => absurd h List.not_mem_nil⟩⟩
theorem dmm_56 : ∀ ch ∈ mC 56, ∀ q ∈ ch, decode (iBy 56) q.1 = .ok q.2 ∧ iLen q.2.1 q.2.2 = true := by
  show ∀ ch ∈ mC_56, ∀ q ∈ ch, decode (iBy 56) q.1 = .ok q.2 ∧ iLen q.2.1 q.2.2 = true
  exact List.forall_mem_cons.mpr ⟨dm_56_0, fun _ h => absurd h List.not_mem_nil⟩
theorem dmm_57 : ∀ ch ∈ mC 57, ∀ q ∈ ch, decode (iBy 57) q.1 = .ok q.2 ∧ iLen q.2.1 q.2.2 = true := by
  show ∀ ch ∈ mC_57, ∀ q ∈ ch, decode (iBy 57) q.1 = .ok q.2 ∧ iLen q.2.1 q.2.2 = true
  exact List.forall_mem_cons.mpr ⟨dm_57_0, fun _ h => absurd h List.not_mem_nil⟩
theorem dmm_58 : ∀ ch ∈ mC 58, ∀ q ∈ ch, decode (iBy 58) q.1 = .ok q.2 ∧ iLen q.2.1 q.2.2 = true := by
  show ∀ ch ∈ mC_58, ∀ q ∈ ch, decode (iBy 58) q.1 = .ok q.2 ∧ iLen q.2.1 q.2.2 = true
  exact List.forall_mem_cons.mpr ⟨dm_58_0, fun _ h => absurd h List.not_mem_nil⟩
theorem dmm_59 : ∀ ch ∈ mC 59, ∀ q ∈ ch, decode (iBy 59) q.1 = .ok q.2 ∧ iLen q.2.1 q.2.2 = true := by
  show ∀ ch ∈ mC_59, ∀ q ∈ ch, decode (iBy 59) q.1 = .ok q.2 ∧ iLen q.2.1 q.2.2 = true
  exact List.forall_mem_cons.mpr ⟨dm_59_0, fun _ h => absurd h List.not_mem_nil⟩
theorem dmm_60 : ∀ ch ∈ mC 60, ∀ q ∈ ch, decode (iBy 60) q.1 = .ok q.2 ∧ iLen q.2.1 q.2.2 = true := by
  show ∀ ch ∈ mC_60, ∀ q ∈ ch, decode (iBy 60) q.1 = .ok q.2 ∧ iLen q.2.1 q.2.2 = true
  exact List.forall_mem_cons.mpr ⟨dm_60_0, fun _ h => absurd h List.not_mem_nil⟩
theorem dmm_61 : ∀ ch ∈ mC 61, ∀ q ∈ ch, decode (iBy 61) q.1 = .ok q.2 ∧ iLen q.2.1 q.2.2 = true := by
  show ∀ ch ∈ mC_61, ∀ q ∈ ch, decode (iBy 61) q.1 = .ok q.2 ∧ iLen q.2.1 q.2.2 = true
  exact List.forall_mem_cons.mpr ⟨dm_61_0, List.forall_mem_cons.mpr ⟨dm_61_1, fun _ h => absurd h List.not_mem_nil⟩⟩
theorem dmm_62 : ∀ ch ∈ mC 62, ∀ q ∈ ch, decode (iBy 62) q.1 = .ok q.2 ∧ iLen q.2.1 q.2.2 = true := by
  show ∀ ch ∈ mC_62, ∀ q ∈ ch, decode (iBy 62) q.1 = .ok q.2 ∧ iLen q.2.1 q.2.2 = true
  exact List.forall_mem_cons.mpr ⟨dm_62_0, fun _ h => absurd h List.not_mem_nil⟩
theorem dmm_63 : ∀ ch ∈ mC 63, ∀ q ∈ ch, decode (iBy 63) q.1 = .ok q.2 ∧ iLen q.2.1 q.2.2 = true := by
  show ∀ ch ∈ mC_63, ∀ q ∈ ch, decode (iBy 63) q.1 = .ok q.2 ∧ iLen q.2.1 q.2.2 = true
  exact List.forall_mem_cons.mpr ⟨dm_63_0, fun _ h => absurd h List.not_mem_nil⟩
theorem dmm_64 : ∀ ch ∈ mC 64, ∀ q ∈ ch, decode (iBy 64) q.1 = .ok q.2 ∧ iLen q.2.1 q.2.2 = true := by
  show ∀ ch ∈ mC_64, ∀ q ∈ ch, decode (iBy 64) q.1 = .ok q.2 ∧ iLen q.2.1 q.2.2 = true
  exact List.forall_mem_cons.mpr ⟨dm_64_0, fun _ h => absurd h List.not_mem_nil⟩
theorem dmm_65 : ∀ ch ∈ mC 65, ∀ q ∈ ch, decode (iBy 65) q.1 = .ok q.2 ∧ iLen q.2.1 q.2.2 = true := by
  show ∀ ch ∈ mC_65, ∀ q ∈ ch, decode (iBy 65) q.1 = .ok q.2 ∧ iLen q.2.1 q.2.2 = true
  exact List.forall_mem_cons.mpr ⟨dm_65_0, fun _ h => absurd h List.not_mem_nil⟩
theorem dmm_66 : ∀ ch ∈ mC 66, ∀ q ∈ ch, decode (iBy 66) q.1 = .ok q.2 ∧ iLen q.2.1 q.2.2 = true := by
  show ∀ ch ∈ mC_66, ∀ q ∈ ch, decode (iBy 66) q.1 = .ok q.2 ∧ iLen q.2.1 q.2.2 = true
  exact List.forall_mem_cons.mpr ⟨dm_66_0, List.forall_mem_cons.mpr ⟨dm_66_1, fun _ h => absurd h List.not_mem_nil⟩⟩
theorem dmm_67 : ∀ ch ∈ mC 67, ∀ q ∈ ch, decode (iBy 67) q.1 = .ok q.2 ∧ iLen q.2.1 q.2.2 = true := by
  show ∀ ch ∈ mC_67, ∀ q ∈ ch, decode (iBy 67) q.1 = .ok q.2 ∧ iLen q.2.1 q.2.2 = true
  exact List.forall_mem_cons.mpr ⟨dm_67_0, fun _ h => absurd h List.not_mem_nil⟩
theorem dmm_68 : ∀ ch ∈ mC 68, ∀ q ∈ ch, decode (iBy 68) q.1 = .ok q.2 ∧ iLen q.2.1 q.2.2 = true := by
  show ∀ ch ∈ mC_68, ∀ q ∈ ch, decode (iBy 68) q.1 = .ok q.2 ∧ iLen q.2.1 q.2.2 = true
  exact List.forall_mem_cons.mpr ⟨dm_68_0, List.forall_mem_cons.mpr ⟨dm_68_1, fun _ h => absurd h List.not_mem_nil⟩⟩
theorem dmm_69 : ∀ ch ∈ mC 69, ∀ q ∈ ch, decode (iBy 69) q.1 = .ok q.2 ∧ iLen q.2.1 q.2.2 = true := by
  show ∀ ch ∈ mC_69, ∀ q ∈ ch, decode (iBy 69) q.1 = .ok q.2 ∧ iLen q.2.1 q.2.2 = true
  exact List.forall_mem_cons.mpr ⟨dm_69_0, fun _ h => absurd h List.not_mem_nil⟩
theorem dmm_70 : ∀ ch ∈ mC 70, ∀ q ∈ ch, decode (iBy 70) q.1 = .ok q.2 ∧ iLen q.2.1 q.2.2 = true := by
  show ∀ ch ∈ mC_70, ∀ q ∈ ch, decode (iBy 70) q.1 = .ok q.2 ∧ iLen q.2.1 q.2.2 = true
  exact List.forall_mem_cons.mpr ⟨dm_70_0, fun _ h => absurd h List.not_mem_nil⟩
theorem dmm_71 : ∀ ch ∈ mC 71, ∀ q ∈ ch, decode (iBy 71) q.1 = .ok q.2 ∧ iLen q.2.1 q.2.2 = true := by
  show ∀ ch ∈ mC_71, ∀ q ∈ ch, decode (iBy 71) q.1 = .ok q.2 ∧ iLen q.2.1 q.2.2 = true
  exact List.forall_mem_cons.mpr ⟨dm_71_0, List.forall_mem_cons.mpr ⟨dm_71_1, fun _ h => absurd h List.not_mem_nil⟩⟩
theorem dmm_72 : ∀ ch ∈ mC 72, ∀ q ∈ ch, decode (iBy 72) q.1 = .ok q.2 ∧ iLen q.2.1 q.2.2 = true := by
  show ∀ ch ∈ mC_72, ∀ q ∈ ch, decode (iBy 72) q.1 = .ok q.2 ∧ iLen q.2.1 q.2.2 = true
  exact List.forall_mem_cons.mpr ⟨dm_72_0, fun _ h => absurd h List.not_mem_nil⟩
theorem dmm_73 : ∀ ch ∈ mC 73, ∀ q ∈ ch, decode (iBy 73) q.1 = .ok q.2 ∧ iLen q.2.1 q.2.2 = true := by
  show ∀ ch ∈ mC_73, ∀ q ∈ ch, decode (iBy 73) q.1 = .ok q.2 ∧ iLen q.2.1 q.2.2 = true
  exact List.forall_mem_cons.mpr ⟨dm_73_0, fun _ h => absurd h List.not_mem_nil⟩
theorem dmm_74 : ∀ ch ∈ mC 74, ∀ q ∈ ch, decode (iBy 74) q.1 = .ok q.2 ∧ iLen q.2.1 q.2.2 = true := by
  show ∀ ch ∈ mC_74, ∀ q ∈ ch, decode (iBy 74) q.1 = .ok q.2 ∧ iLen q.2.1 q.2.2 = true
  exact List.forall_mem_cons.mpr ⟨dm_74_0, fun _ h => absurd h List.not_mem_nil⟩
theorem dmm_75 : ∀ ch ∈ mC 75, ∀ q ∈ ch, decode (iBy 75) q.1 = .ok q.2 ∧ iLen q.2.1 q.2.2 = true := by
  show ∀ ch ∈ mC_75, ∀ q ∈ ch, decode (iBy 75) q.1 = .ok q.2 ∧ iLen q.2.1 q.2.2 = true
  exact List.forall_mem_cons.mpr ⟨dm_75_0, List.forall_mem_cons.mpr ⟨dm_75_1, fun _ h => absurd h List.not_mem_nil⟩⟩
theorem dmm_76 : ∀ ch ∈ mC 76, ∀ q ∈ ch, decode (iBy 76) q.1 = .ok q.2 ∧ iLen q.2.1 q.2.2 = true := by
  show ∀ ch ∈ mC_76, ∀ q ∈ ch, decode (iBy 76) q.1 = .ok q.2 ∧ iLen q.2.1 q.2.2 = true
  exact List.forall_mem_cons.mpr ⟨dm_76_0, List.forall_mem_cons.mpr ⟨dm_76_1, fun _ h => absurd h List.not_mem_nil⟩⟩
theorem dmm_77 : ∀ ch ∈ mC 77, ∀ q ∈ ch, decode (iBy 77) q.1 = .ok q.2 ∧ iLen q.2.1 q.2.2 = true := by
  show ∀ ch ∈ mC_77, ∀ q ∈ ch, decode (iBy 77) q.1 = .ok q.2 ∧ iLen q.2.1 q.2.2 = true
  exact List.forall_mem_cons.mpr ⟨dm_77_0, fun _ h => absurd h List.not_mem_nil⟩
theorem dmm_78 : ∀ ch ∈ mC 78, ∀ q ∈ ch, decode (iBy 78) q.1 = .ok q.2 ∧ iLen q.2.1 q.2.2 = true := by
  show ∀ ch ∈ mC_78, ∀ q ∈ ch, decode (iBy 78) q.1 = .ok q.2 ∧ iLen q.2.1 q.2.2 = true
  exact List.forall_mem_cons.mpr ⟨dm_78_0, List.forall_mem_cons.mpr ⟨dm_78_1, List.forall_mem_cons.mpr ⟨dm_78_2, List.forall_mem_cons.mpr ⟨dm_78_3, fun _ h => absurd h List.not_mem_nil⟩⟩⟩⟩
theorem dmm_79 : ∀ ch ∈ mC 79, ∀ q ∈ ch, decode (iBy 79) q.1 = .ok q.2 ∧ iLen q.2.1 q.2.2 = true := by
  show ∀ ch ∈ mC_79, ∀ q ∈ ch, decode (iBy 79) q.1 = .ok q.2 ∧ iLen q.2.1 q.2.2 = true
  exact List.forall_mem_cons.mpr ⟨dm_79_0, fun _ h => absurd h List.not_mem_nil⟩
theorem dmm_80 : ∀ ch ∈ mC 80, ∀ q ∈ ch, decode (iBy 80) q.1 = .ok q.2 ∧ iLen q.2.1 q.2.2 = true := by
  show ∀ ch ∈ mC_80, ∀ q ∈ ch, decode (iBy 80) q.1 = .ok q.2 ∧ iLen q.2.1 q.2.2 = true
  exact List.forall_mem_cons.mpr ⟨dm_80_0, fun _ h => absurd h List.not_mem_nil⟩
theorem dmm_81 : ∀ ch ∈ mC 81, ∀ q ∈ ch, decode (iBy 81) q.1 = .ok q.2 ∧ iLen q.2.1 q.2.2 = true := by
  show ∀ ch ∈ mC_81, ∀ q ∈ ch, decode (iBy 81) q.1 = .ok q.2 ∧ iLen q.2.1 q.2.2 = true
  exact List.forall_mem_cons.mpr ⟨dm_81_0, fun _ h => absurd h List.not_mem_nil⟩
theorem dmm_82 : ∀ ch ∈ mC 82, ∀ q ∈ ch, decode (iBy 82) q.1 = .ok q.2 ∧ iLen q.2.1 q.2.2 = true := by
  show ∀ ch ∈ mC_82, ∀ q ∈ ch, decode (iBy 82) q.1 = .ok q.2 ∧ iLen q.2.1 q.2.2 = true
  exact List.forall_mem_cons.mpr ⟨dm_82_0, fun _ h => absurd h List.not_mem_nil⟩
theorem dmm_83 : ∀ ch ∈ mC 83, ∀ q ∈ ch, decode (iBy 83) q.1 = .ok q.2 ∧ iLen q.2.1 q.2.2 = true := by
  show ∀ ch ∈ mC_83, ∀ q ∈ ch, decode (iBy 83) q.1 = .ok q.2 ∧ iLen q.2.1 q.2.2 = true
  exact List.forall_mem_cons.mpr ⟨dm_83_0, List.forall_mem_cons.mpr ⟨dm_83_1, fun _ h => absurd h List.not_mem_nil⟩⟩
theorem dmm_84 : ∀ ch ∈ mC 84, ∀ q ∈ ch, decode (iBy 84) q.1 = .ok q.2 ∧ iLen q.2.1 q.2.2 = true := by
  show ∀ ch ∈ mC_84, ∀ q ∈ ch, decode (iBy 84) q.1 = .ok q.2 ∧ iLen q.2.1 q.2.2 = true
  exact List.forall_mem_cons.mpr ⟨dm_84_0, fun _ h => absurd h List.not_mem_nil⟩
theorem dmm_85 : ∀ ch ∈ mC 85, ∀ q ∈ ch, decode (iBy 85) q.1 = .ok q.2 ∧ iLen q.2.1 q.2.2 = true := by
  show ∀ ch ∈ mC_85, ∀ q ∈ ch, decode (iBy 85) q.1 = .ok q.2 ∧ iLen q.2.1 q.2.2 = true
  exact List.forall_mem_cons.mpr ⟨dm_85_0, fun _ h => absurd h List.not_mem_nil⟩
theorem dmm_86 : ∀ ch ∈ mC 86, ∀ q ∈ ch, decode (iBy 86) q.1 = .ok q.2 ∧ iLen q.2.1 q.2.2 = true := by
  show ∀ ch ∈ mC_86, ∀ q ∈ ch, decode (iBy 86) q.1 = .ok q.2 ∧ iLen q.2.1 q.2.2 = true
  exact List.forall_mem_cons.mpr ⟨dm_86_0, fun _ h => absurd h List.not_mem_nil⟩
theorem dmm_87 : ∀ ch ∈ mC 87, ∀ q ∈ ch, decode (iBy 87) q.1 = .ok q.2 ∧ iLen q.2.1 q.2.2 = true := by
  show ∀ ch ∈ mC_87, ∀ q ∈ ch, decode (iBy 87) q.1 = .ok q.2 ∧ iLen q.2.1 q.2.2 = true
  exact List.forall_mem_cons.mpr ⟨dm_87_0, fun _ h => absurd h List.not_mem_nil⟩
theorem dmm_88 : ∀ ch ∈ mC 88, ∀ q ∈ ch, decode (iBy 88) q.1 = .ok q.2 ∧ iLen q.2.1 q.2.2 = true := by
  show ∀ ch ∈ mC_88, ∀ q ∈ ch, decode (iBy 88) q.1 = .ok q.2 ∧ iLen q.2.1 q.2.2 = true
  exact List.forall_mem_cons.mpr ⟨dm_88_0, List.forall_mem_cons.mpr ⟨dm_88_1, fun _ h => absurd h List.not_mem_nil⟩⟩
theorem dmm_89 : ∀ ch ∈ mC 89, ∀ q ∈ ch, decode (iBy 89) q.1 = .ok q.2 ∧ iLen q.2.1 q.2.2 = true := by
  show ∀ ch ∈ mC_89, ∀ q ∈ ch, decode (iBy 89) q.1 = .ok q.2 ∧ iLen q.2.1 q.2.2 = true
  exact List.forall_mem_cons.mpr ⟨dm_89_0, fun _ h => absurd h List.not_mem_nil⟩
theorem dmm_90 : ∀ ch ∈ mC 90, ∀ q ∈ ch, decode (iBy 90) q.1 = .ok q.2 ∧ iLen q.2.1 q.2.2 = true := by
  show ∀ ch ∈ mC_90, ∀ q ∈ ch, decode (iBy 90) q.1 = .ok q.2 ∧ iLen q.2.1 q.2.2 = true
  exact List.forall_mem_cons.mpr ⟨dm_90_0, fun _ h => absurd h List.not_mem_nil⟩
theorem dmm_91 : ∀ ch ∈ mC 91, ∀ q ∈ ch, decode (iBy 91) q.1 = .ok q.2 ∧ iLen q.2.1 q.2.2 = true := by
  show ∀ ch ∈ mC_91, ∀ q ∈ ch, decode (iBy 91) q.1 = .ok q.2 ∧ iLen q.2.1 q.2.2 = true
  exact List.forall_mem_cons.mpr ⟨dm_91_0, List.forall_mem_cons.mpr ⟨dm_91_1, fun _ h => absurd h List.not_mem_nil⟩⟩
theorem dmm_92 : ∀ ch ∈ mC 92, ∀ q ∈ ch, decode (iBy 92) q.1 = .ok q.2 ∧ iLen q.2.1 q.2.2 = true := by
  show ∀ ch ∈ mC_92, ∀ q ∈ ch, decode (iBy 92) q.1 = .ok q.2 ∧ iLen q.2.1 q.2.2 = true
  exact List.forall_mem_cons.mpr ⟨dm_92_0, List.forall_mem_cons.mpr ⟨dm_92_1, fun _ h => absurd h List.not_mem_nil⟩⟩
theorem dmm_93 : ∀ ch ∈ mC 93, ∀ q ∈ ch, decode (iBy 93) q.1 = .ok q.2 ∧ iLen q.2.1 q.2.2 = true := by
  show ∀ ch ∈ mC_93, ∀ q ∈ ch, decode (iBy 93) q.1 = .ok q.2 ∧ iLen q.2.1 q.2.2 = true
  exact List.forall_mem_cons.mpr ⟨dm_93_0, List.forall_mem_cons.mpr ⟨dm_93_1, fun _ h => absurd h List.not_mem_nil⟩⟩
theorem dmm_94 : ∀ ch ∈ mC 94, ∀ q ∈ ch, decode (iBy 94) q.1 = .ok q.2 ∧ iLen q.2.1 q.2.2 = true := by
  show ∀ ch ∈ mC_94, ∀ q ∈ ch, decode (iBy 94) q.1 = .ok q.2 ∧ iLen q.2.1 q.2.2 = true
  exact List.forall_mem_cons.mpr ⟨dm_94_0, fun _ h => absurd h List.not_mem_nil⟩
theorem dmm_95 : ∀ ch ∈ mC 95, ∀ q ∈ ch, decode (iBy 95) q.1 = .ok q.2 ∧ iLen q.2.1 q.2.2 = true := by
  show ∀ ch ∈ mC_95, ∀ q ∈ ch, decode (iBy 95) q.1 = .ok q.2 ∧ iLen q.2.1 q.2.2 = true
  exact List.forall_mem_cons.mpr ⟨dm_95_0, fun _ h => absurd h List.not_mem_nil⟩
theorem dmm_96 : ∀ ch ∈ mC 96, ∀ q ∈ ch, decode (iBy 96) q.1 = .ok q.2 ∧ iLen q.2.1 q.2.2 = true := by
  show ∀ ch ∈ mC_96, ∀ q ∈ ch, decode (iBy 96) q.1 = .ok q.2 ∧ iLen q.2.1 q.2.2 = true
  exact List.forall_mem_cons.mpr ⟨dm_96_0, List.forall_mem_cons.mpr ⟨dm_96_1, fun _ h => absurd h List.not_mem_nil⟩⟩
theorem dmm_97 : ∀ ch ∈ mC 97, ∀ q ∈ ch, decode (iBy 97) q.1 = .ok q.2 ∧ iLen q.2.1 q.2.2 = true := by
  show ∀ ch ∈ mC_97, ∀ q ∈ ch, decode (iBy 97) q.1 = .ok q.2 ∧ iLen q.2.1 q.2.2 = true
  exact List.forall_mem_cons.mpr ⟨dm_97_0, List.forall_mem_cons.mpr ⟨dm_97_1, List.forall_mem_cons.mpr ⟨dm_97_2, List.forall_mem_cons.mpr ⟨dm_97_3, fun _ h => absurd h List.not_mem_nil⟩⟩⟩⟩
theorem dmm_98 : ∀ ch ∈ mC 98, ∀ q ∈ ch, decode (iBy 98) q.1 = .ok q.2 ∧ iLen q.2.1 q.2.2 = true := by
  show ∀ ch ∈ mC_98, ∀ q ∈ ch, decode (iBy 98) q.1 = .ok q.2 ∧ iLen q.2.1 q.2.2 = true
  exact List.forall_mem_cons.mpr ⟨dm_98_0, List.forall_mem_cons.mpr ⟨dm_98_1, fun _ h => absurd h List.not_mem_nil⟩⟩
theorem dmm_99 : ∀ ch ∈ mC 99, ∀ q ∈ ch, decode (iBy 99) q.1 = .ok q.2 ∧ iLen q.2.1 q.2.2 = true := by
  show ∀ ch ∈ mC_99, ∀ q ∈ ch, decode (iBy 99) q.1 = .ok q.2 ∧ iLen q.2.1 q.2.2 = true
  exact List.forall_mem_cons.mpr ⟨dm_99_0, fun _ h => absurd h List.not_mem_nil⟩
theorem dmm_100 : ∀ ch ∈ mC 100, ∀ q ∈ ch, decode (iBy 100) q.1 = .ok q.2 ∧ iLen q.2.1 q.2.2 = true := by
  show ∀ ch ∈ mC_100, ∀ q ∈ ch, decode (iBy 100) q.1 = .ok q.2 ∧ iLen q.2.1 q.2.2 = true
  exact List.forall_mem_cons.mpr ⟨dm_100_0, List.forall_mem_cons.mpr ⟨dm_100_1, List.forall_mem_cons.mpr ⟨dm_100_2, List.forall_mem_cons.mpr ⟨dm_100_3, fun _ h => absurd h List.not_mem_nil⟩⟩⟩⟩
theorem dmm_101 : ∀ ch ∈ mC 101, ∀ q ∈ ch, decode (iBy 101) q.1 = .ok q.2 ∧ iLen q.2.1 q.2.2 = true := by
  show ∀ ch ∈ mC_101, ∀ q ∈ ch, decode (iBy 101) q.1 = .ok q.2 ∧ iLen q.2.1 q.2.2 = true
  exact List.forall_mem_cons.mpr ⟨dm_101_0, fun _ h => absurd h List.not_mem_nil⟩
theorem dmm_102 : ∀ ch ∈ mC 102, ∀ q ∈ ch, decode (iBy 102) q.1 = .ok q.2 ∧ iLen q.2.1 q.2.2 = true := by
  show ∀ ch ∈ mC_102, ∀ q ∈ ch, decode (iBy 102) q.1 = .ok q.2 ∧ iLen q.2.1 q.2.2 = true
  exact List.forall_mem_cons.mpr ⟨dm_102_0, List.forall_mem_cons.mpr ⟨dm_102_1, fun _ h => absurd h List.not_mem_nil⟩⟩
theorem dmm_103 : ∀ ch ∈ mC 103, ∀ q ∈ ch, decode (iBy 103) q.1 = .ok q.2 ∧ iLen q.2.1 q.2.2 = true := by
  show ∀ ch ∈ mC_103, ∀ q ∈ ch, decode (iBy 103) q.1 = .ok q.2 ∧ iLen q.2.1 q.2.2 = true
  exact List.forall_mem_cons.mpr ⟨dm_103_0, List.forall_mem_cons.mpr ⟨dm_103_1, List.forall_mem_cons.mpr ⟨dm_103_2, List.forall_mem_cons.mpr ⟨dm_103_3, fun _ h => absurd h List.not_mem_nil⟩⟩⟩⟩
theorem dmm_104 : ∀ ch ∈ mC 104, ∀ q ∈ ch, decode (iBy 104) q.1 = .ok q.2 ∧ iLen q.2.1 q.2.2 = true := by
  show ∀ ch ∈ mC_104, ∀ q ∈ ch, decode (iBy 104) q.1 = .ok q.2 ∧ iLen q.2.1 q.2.2 = true
  exact List.forall_mem_cons.mpr ⟨dm_104_0, List.forall_mem_cons.mpr ⟨dm_104_1, fun _ h => absurd h List.not_mem_nil⟩⟩
theorem dmm_105 : ∀ ch ∈ mC 105, ∀ q ∈ ch, decode (iBy 105) q.1 = .ok q.2 ∧ iLen q.2.1 q.2.2 = true := by
  show ∀ ch ∈ mC_105, ∀ q ∈ ch, decode (iBy 105) q.1 = .ok q.2 ∧ iLen q.2.1 q.2.2 = true
  exact List.forall_mem_cons.mpr ⟨dm_105_0, List.forall_mem_cons.mpr ⟨dm_105_1, fun _ h => absurd h List.not_mem_nil⟩⟩
theorem dmm_106 : ∀ ch ∈ mC 106, ∀ q ∈ ch, decode (iBy 106) q.1 = .ok q.2 ∧ iLen q.2.1 q.2.2 = true := by
  show ∀ ch ∈ mC_106, ∀ q ∈ ch, decode (iBy 106) q.1 = .ok q.2 ∧ iLen q.2.1 q.2.2 = true
  exact List.forall_mem_cons.mpr ⟨dm_106_0, fun _ h => absurd h List.not_mem_nil⟩
theorem dmm_107 : ∀ ch ∈ mC 107, ∀ q ∈ ch, decode (iBy 107) q.1 = .ok q.2 ∧ iLen q.2.1 q.2.2 = true := by
  show ∀ ch ∈ mC_107, ∀ q ∈ ch, decode (iBy 107) q.1 = .ok q.2 ∧ iLen q.2.1 q.2.2 = true
  exact List.forall_mem_cons.mpr ⟨dm_107_0, fun _ h => absurd h List.not_mem_nil⟩
theorem dmm_108 : ∀ ch ∈ mC 108, ∀ q ∈ ch, decode (iBy 108) q.1 = .ok q.2 ∧ iLen q.2.1 q.2.2 = true := by
  show ∀ ch ∈ mC_108, ∀ q ∈ ch, decode (iBy 108) q.1 = .ok q.2 ∧ iLen q.2.1 q.2.2 = true
  exact List.forall_mem_cons.mpr ⟨dm_108_0, List.forall_mem_cons.mpr ⟨dm_108_1, List.forall_mem_cons.mpr ⟨dm_108_2, List.forall_mem_cons.mpr ⟨dm_108_3, List.forall_mem_cons.mpr ⟨dm_108_4, List.forall_mem_cons.mpr ⟨dm_108_5, List.forall_mem_cons.mpr ⟨dm_108_6, fun _ h => absurd h List.not_mem_nil⟩⟩⟩⟩⟩⟩⟩
theorem dmm_109 : ∀ ch ∈ mC 109, ∀ q ∈ ch, decode (iBy 109) q.1 = .ok q.2 ∧ iLen q.2.1 q.2.2 = true := by
  show ∀ ch ∈ mC_109, ∀ q ∈ ch, decode (iBy 109) q.1 = .ok q.2 ∧ iLen q.2.1 q.2.2 = true
  exact List.forall_mem_cons.mpr ⟨dm_109_0, fun _ h => absurd h List.not_mem_nil⟩
theorem dmm_110 : ∀ ch ∈ mC 110, ∀ q ∈ ch, decode (iBy 110) q.1 = .ok q.2 ∧ iLen q.2.1 q.2.2 = true := by
  show ∀ ch ∈ mC_110, ∀ q ∈ ch, decode (iBy 110) q.1 = .ok q.2 ∧ iLen q.2.1 q.2.2 = true
  exact List.forall_mem_cons.mpr ⟨dm_110_0, fun _ h => absurd h List.not_mem_nil⟩
theorem dmm_111 : ∀ ch ∈ mC 111, ∀ q ∈ ch, decode (iBy 111) q.1 = .ok q.2 ∧ iLen q.2.1 q.2.2 = true := by
  show ∀ ch ∈ mC_111, ∀ q ∈ ch, decode (iBy 111) q.1 = .ok q.2 ∧ iLen q.2.1 q.2.2 = true
  exact List.forall_mem_cons.mpr ⟨dm_111_0, List.forall_mem_cons.mpr ⟨dm_111_1, fun _ h => absurd h List.not_mem_nil⟩⟩
theorem dmm_112 : ∀ ch ∈ mC 112, ∀ q ∈ ch, decode (iBy 112) q.1 = .ok q.2 ∧ iLen q.2.1 q.2.2 = true := by
  show ∀ ch ∈ mC_112, ∀ q ∈ ch, decode (iBy 112) q.1 = .ok q.2 ∧ iLen q.2.1 q.2.2 = true
  exact List.forall_mem_cons.mpr ⟨dm_112_0, fun _ h => absurd h List.not_mem_nil⟩
theorem dmm_113 : ∀ ch ∈ mC 113, ∀ q ∈ ch, decode (iBy 113) q.1 = .ok q.2 ∧ iLen q.2.1 q.2.2 = true := by
  show ∀ ch ∈ mC_113, ∀ q ∈ ch, decode (iBy 113) q.1 = .ok q.2 ∧ iLen q.2.1 q.2.2 = true
  exact List.forall_mem_cons.mpr ⟨dm_113_0, fun _ h => absurd h List.not_mem_nil⟩
theorem dmm_114 : ∀ ch ∈ mC 114, ∀ q ∈ ch, decode (iBy 114) q.1 = .ok q.2 ∧ iLen q.2.1 q.2.2 = true := by
  show ∀ ch ∈ mC_114, ∀ q ∈ ch, decode (iBy 114) q.1 = .ok q.2 ∧ iLen q.2.1 q.2.2 = true
  exact List.forall_mem_cons.mpr ⟨dm_114_0, fun _ h => absurd h List.not_mem_nil⟩
theorem dmm_115 : ∀ ch ∈ mC 115, ∀ q ∈ ch, decode (iBy 115) q.1 = .ok q.2 ∧ iLen q.2.1 q.2.2 = true := by
  show ∀ ch ∈ mC_115, ∀ q ∈ ch, decode (iBy 115) q.1 = .ok q.2 ∧ iLen q.2.1 q.2.2 = true
  exact List.forall_mem_cons.mpr ⟨dm_115_0, fun _ h => absurd h List.not_mem_nil⟩
theorem dmm_116 : ∀ ch ∈ mC 116, ∀ q ∈ ch, decode (iBy 116) q.1 = .ok q.2 ∧ iLen q.2.1 q.2.2 = true := by
  show ∀ ch ∈ mC_116, ∀ q ∈ ch, decode (iBy 116) q.1 = .ok q.2 ∧ iLen q.2.1 q.2.2 = true
  exact List.forall_mem_cons.mpr ⟨dm_116_0, List.forall_mem_cons.mpr ⟨dm_116_1, List.forall_mem_cons.mpr ⟨dm_116_2, fun _ h => absurd h List.not_mem_nil⟩⟩⟩
theorem dmm_117 : ∀ ch ∈ mC 117, ∀ q ∈ ch, decode (iBy 117) q.1 = .ok q.2 ∧ iLen q.2.1 q.2.2 = true := by
  show ∀ ch ∈ mC_117, ∀ q ∈ ch, decode (iBy 117) q.1 = .ok q.2 ∧ iLen q.2.1 q.2.2 = true
  exact List.forall_mem_cons.mpr ⟨dm_117_0, List.forall_mem_cons.mpr ⟨dm_117_1, List.forall_mem_cons.mpr ⟨dm_117_2, fun _ h => absurd h List.not_mem_nil⟩⟩⟩
theorem dmm_118 : ∀ ch ∈ mC 118, ∀ q ∈ ch, decode (iBy 118) q.1 = .ok q.2 ∧ iLen q.2.1 q.2.2 = true := by
  show ∀ ch ∈ mC_118, ∀ q ∈ ch, decode (iBy 118) q.1 = .ok q.2 ∧ iLen q.2.1 q.2.2 = true
  exact List.forall_mem_cons.mpr ⟨dm_118_0, fun _ h => absurd h List.not_mem_nil⟩
theorem dmm_119 : ∀ ch ∈ mC 119, ∀ q ∈ ch, decode (iBy 119) q.1 = .ok q.2 ∧ iLen q.2.1 q.2.2 = true := by
  show ∀ ch ∈ mC_119, ∀ q ∈ ch, decode (iBy 119) q.1 = .ok q.2 ∧ iLen q.2.1 q.2.2 = true
  exact List.forall_mem_cons.mpr ⟨dm_119_0, fun _ h => absurd h List.not_mem_nil⟩
theorem dmm_120 : ∀ ch ∈ mC 120, ∀ q ∈ ch, decode (iBy 120) q.1 = .ok q.2 ∧ iLen q.2.1 q.2.2 = true := by
  show ∀ ch ∈ mC_120, ∀ q ∈ ch, decode (iBy 120) q.1 = .ok q.2 ∧ iLen q.2.1 q.2.2 = true
  exact List.forall_mem_cons.mpr ⟨dm_120_0, fun _ h => absurd h List.not_mem_nil⟩
theorem dmm_121 : ∀ ch ∈ mC 121, ∀ q ∈ ch, decode (iBy 121) q.1 = .ok q.2 ∧ iLen q.2.1 q.2.2 = true := by
  show ∀ ch ∈ mC_121, ∀ q ∈ ch, decode (iBy 121) q.1 = .ok q.2 ∧ iLen q.2.1 q.2.2 = true
  exact List.forall_mem_cons.mpr ⟨dm_121_0, fun _ h => absurd h List.not_mem_nil⟩
theorem dmm_122 : ∀ ch ∈ mC 122, ∀ q ∈ ch, decode (iBy 122) q.1 = .ok q.2 ∧ iLen q.2.1 q.2.2 = true := by
  show ∀ ch ∈ mC_122, ∀ q ∈ ch, decode (iBy 122) q.1 = .ok q.2 ∧ iLen q.2.1 q.2.2 = true
  exact List.forall_mem_cons.mpr ⟨dm_122_0, fun _ h => absurd h List.not_mem_nil⟩
theorem dmm_123 : ∀ ch ∈ mC 123, ∀ q ∈ ch, decode (iBy 123) q.1 = .ok q.2 ∧ iLen q.2.1 q.2.2 = true := by
  show ∀ ch ∈ mC_123, ∀ q ∈ ch, decode (iBy 123) q.1 = .ok q.2 ∧ iLen q.2.1 q.2.2 = true
  exact List.forall_mem_cons.mpr ⟨dm_123_0, fun _ h => absurd h List.not_mem_nil⟩
theorem dmm_124 : ∀ ch ∈ mC 124, ∀ q ∈ ch, decode (iBy 124) q.1 = .ok q.2 ∧ iLen q.2.1 q.2.2 = true := by
  show ∀ ch ∈ mC_124, ∀ q ∈ ch, decode (iBy 124) q.1 = .ok q.2 ∧ iLen q.2.1 q.2.2 = true
  exact List.forall_mem_cons.mpr ⟨dm_124_0, fun _ h => absurd h List.not_mem_nil⟩
theorem dmm_125 : ∀ ch ∈ mC 125, ∀ q ∈ ch, decode (iBy 125) q.1 = .ok q.2 ∧ iLen q.2.1 q.2.2 = true := by
  show ∀ ch ∈ mC_125, ∀ q ∈ ch, decode (iBy 125) q.1 = .ok q.2 ∧ iLen q.2.1 q.2.2 = true
  exact List.forall_mem_cons.mpr ⟨dm_125_0, fun _ h => absurd h List.not_mem_nil⟩
theorem dmm_126 : ∀ ch ∈ mC 126, ∀ q ∈ ch, decode (iBy 126) q.1 = .ok q.2 ∧ iLen q.2.1 q.2.2 = true := by
  show ∀ ch ∈ mC_126, ∀ q ∈ ch, decode (iBy 126) q.1 = .ok q.2 ∧ iLen q.2.1 q.2.2 = true
  exact List.forall_mem_cons.mpr ⟨dm_126_0, fun _ h => absurd h List.not_mem_nil⟩
theorem dmm_127 : ∀ ch ∈ mC 127, ∀ q ∈ ch, decode (iBy 127) q.1 = .ok q.2 ∧ iLen q.2.1 q.2.2 = true := by
  show ∀ ch ∈ mC_127, ∀ q ∈ ch, decode (iBy 127) q.1 = .ok q.2 ∧ iLen q.2.1 q.2.2 = true
  exact List.forall_mem_cons.mpr ⟨dm_127_0, fun _ h => absurd h List.not_mem_nil⟩
theorem dmm_128 : ∀ ch ∈ mC 128, ∀ q ∈ ch, decode (iBy 128) q.1 = .ok q.2 ∧ iLen q.2.1 q.2.2 = true := by
  show ∀ ch ∈ mC_128, ∀ q ∈ ch, decode (iBy 128) q.1 = .ok q.2 ∧ iLen q.2.1 q.2.2 = true
  exact List.forall_mem_cons.mpr ⟨dm_128_0, fun _ h => absurd h List.not_mem_nil⟩
theorem dmm_129 : ∀ ch ∈ mC 129, ∀ q ∈ ch, decode (iBy 129) q.1 = .ok q.2 ∧ iLen q.2.1 q.2.2 = true := by
  show ∀ ch ∈ mC_129, ∀ q ∈ ch, decode (iBy 129) q.1 = .ok q.2 ∧ iLen q.2.1 q.2.2 = true
  exact List.forall_mem_cons.mpr ⟨dm_129_0, fun _ h => absurd h List.not_mem_nil⟩
theorem dmm_130 : ∀ ch ∈ mC 130, ∀ q ∈ ch, decode (iBy 130) q.1 = .ok q.2 ∧ iLen q.2.1 q.2.2 = true := by
  show ∀ ch ∈ mC_130, ∀ q ∈ ch, decode (iBy 130) q.1 = .ok q.2 ∧ iLen q.2.1 q.2.2 = true
  exact List.forall_mem_cons.mpr ⟨dm_130_0, fun _ h => absurd h List.not_mem_nil⟩
theorem dmm_131 : ∀ ch ∈ mC 131, ∀ q ∈ ch, decode (iBy 131) q.1 = .ok q.2 ∧ iLen q.2.1 q.2.2 = true := by
  show ∀ ch ∈ mC_131, ∀ q ∈ ch, decode (iBy 131) q.1 = .ok q.2 ∧ iLen q.2.1 q.2.2 = true
  exact List.forall_mem_cons.mpr ⟨dm_131_0, fun _ h => absurd h List.not_mem_nil⟩
theorem dmm_132 : ∀ ch ∈ mC 132, ∀ q ∈ ch, decode (iBy 132) q.1 = .ok q.2 ∧ iLen q.2.1 q.2.2 = true := by
  show ∀ ch ∈ mC_132, ∀ q ∈ ch, decode (iBy 132) q.1 = .ok q.2 ∧ iLen q.2.1 q.2.2 = true
  exact List.forall_mem_cons.mpr ⟨dm_132_0, fun _ h => absurd h List.not_mem_nil⟩
theorem dmm_133 : ∀ ch ∈ mC 133, ∀ q ∈ ch, decode (iBy 133) q.1 = .ok q.2 ∧ iLen q.2.1 q.2.2 = true := by
  show ∀ ch ∈ mC_133, ∀ q ∈ ch, decode (iBy 133) q.1 = .ok q.2 ∧ iLen q.2.1 q.2.2 = true
  exact List.forall_mem_cons.mpr ⟨dm_133_0, fun _ h => absurd h List.not_mem_nil⟩
theorem dmm_134 : ∀ ch ∈ mC 134, ∀ q ∈ ch, decode (iBy 134) q.1 = .ok q.2 ∧ iLen q.2.1 q.2.2 = true := by
  show ∀ ch ∈ mC_134, ∀ q ∈ ch, decode (iBy 134) q.1 = .ok q.2 ∧ iLen q.2.1 q.2.2 = true
  exact List.forall_mem_cons.mpr ⟨dm_134_0, fun _ h => absurd h List.not_mem_nil⟩
theorem dmm_135 : ∀ ch ∈ mC 135, ∀ q ∈ ch, decode (iBy 135) q.1 = .ok q.2 ∧ iLen q.2.1 q.2.2 = true := by
  show ∀ ch ∈ mC_135, ∀ q ∈ ch, decode (iBy 135) q.1 = .ok q.2 ∧ iLen q.2.1 q.2.2 = true
  exact List.forall_mem_cons.mpr ⟨dm_135_0, fun _ h => absurd h List.not_mem_nil⟩
theorem dmm_136 : ∀ ch ∈ mC 136, ∀ q ∈ ch, decode (iBy 136) q.1 = .ok q.2 ∧ iLen q.2.1 q.2.2 = true := by
  show ∀ ch ∈ mC_136, ∀ q ∈ ch, decode (iBy 136) q.1 = .ok q.2 ∧ iLen q.2.1 q.2.2 = true
  exact List.forall_mem_cons.mpr ⟨dm_136_0, fun _ h => absurd h List.not_mem_nil⟩
theorem dmm_137 : ∀ ch ∈ mC 137, ∀ q ∈ ch, decode (iBy 137) q.1 = .ok q.2 ∧ iLen q.2.1 q.2.2 = true := by
  show ∀ ch ∈ mC_137, ∀ q ∈ ch, decode (iBy 137) q.1 = .ok q.2 ∧ iLen q.2.1 q.2.2 = true
  exact List.forall_mem_cons.mpr ⟨dm_137_0, List.forall_mem_cons.mpr ⟨(fun _ h => absurd h List.not_mem_nil), List.forall_mem_cons.mpr ⟨dm_137_2, List.forall_mem_cons.mpr ⟨dm_137_3, List.forall_mem_cons.mpr ⟨dm_137_4, List.forall_mem_cons.mpr ⟨dm_137_5, List.forall_mem_cons.mpr ⟨dm_137_6, List.forall_mem_cons.mpr ⟨dm_137_7, List.forall_mem_cons.mpr ⟨dm_137_8, List.forall_mem_cons.mpr ⟨dm_137_9, List.forall_mem_cons.mpr ⟨dm_137_10, List.forall_mem_cons.mpr ⟨dm_137_11, List.forall_mem_cons.mpr ⟨dm_137_12, List.forall_mem_cons.mpr ⟨dm_137_13, List.forall_mem_cons.mpr ⟨dm_137_14, List.forall_mem_cons.mpr ⟨dm_137_15, List.forall_mem_cons.mpr ⟨dm_137_16, List.forall_mem_cons.mpr ⟨dm_137_17, List.forall_mem_cons.mpr ⟨dm_137_18, List.forall_mem_cons.mpr ⟨dm_137_19, List.forall_mem_cons.mpr ⟨dm_137_20, List.forall_mem_cons.mpr ⟨dm_137_21, List.forall_mem_cons.mpr ⟨dm_137_22, List.forall_mem_cons.mpr ⟨dm_137_23, fun _ h => absurd h List.not_mem_nil⟩⟩⟩⟩⟩⟩⟩⟩⟩⟩⟩⟩⟩⟩⟩⟩⟩⟩⟩⟩⟩⟩⟩⟩
theorem dmm_138 : ∀ ch ∈ mC 138, ∀ q ∈ ch, decode (iBy 138) q.1 = .ok q.2 ∧ iLen q.2.1 q.2.2 = true := by
  show ∀ ch ∈ mC_138, ∀ q ∈ ch, decode (iBy 138) q.1 = .ok q.2 ∧ iLen q.2.1 q.2.2 = true
  exact List.forall_mem_cons.mpr ⟨dm_138_0, fun _ h => absurd h List.not_mem_nil⟩
theorem dmm_139 : ∀ ch ∈ mC 139, ∀ q ∈ ch, decode (iBy 139) q.1 = .ok q.2 ∧ iLen q.2.1 q.2.2 = true := by
  show ∀ ch ∈ mC_139, ∀ q ∈ ch, decode (iBy 139) q.1 = .ok q.2 ∧ iLen q.2.1 q.2.2 = true
  exact List.forall_mem_cons.mpr ⟨dm_139_0, fun _ h => absurd h List.not_mem_nil⟩
theorem dmA : ∀ j : Nat, ∀ ch ∈ mC j, ∀ q ∈ ch, decode (iBy j) q.1 = .ok q.2 ∧ iLen q.2.1 q.2.2 = true
  | 0 => dmm_0
  | 1 => dmm_1
  | 2 => dmm_2
  | 3 => dmm_3
  | 4 => dmm_4
  | 5 => dmm_5
  | 6 => dmm_6
  | 7 => dmm_7
  | 8 => dmm_8
  | 9 => dmm_9
  | 10 => dmm_10
  | 11 => dmm_11
  | 12 => dmm_12
  | 13 => dmm_13
  | 14 => dmm_14
  | 15 => dmm_15
  | 16 => dmm_16
  | 17 => dmm_17
  | 18 => dmm_18
  | 19 => dmm_19
  | 20 => dmm_20
  | 21 => dmm_21
  | 22 => dmm_22
  | 23 => dmm_23
  | 24 => dmm_24
  | 25 => dmm_25
  | 26 => dmm_26
  | 27 => dmm_27
  | 28 => dmm_28
  | 29 => dmm_29
  | 30 => dmm_30
  | 31 => dmm_31
  | 32 => dmm_32
  | 33 => dmm_33
  | 34 => dmm_34
  | 35 => dmm_35
  | 36 => dmm_36
  | 37 => dmm_37
  | 38 => dmm_38
  | 39 => dmm_39
  | 40 => dmm_40
  | 41 => dmm_41
  | 42 => dmm_42
  | 43 => dmm_43
  | 44 => dmm_44
  | 45 => dmm_45
  | 46 => dmm_46
  | 47 => dmm_47
  | 48 => dmm_48
  | 49 => dmm_49
  | 50 => dmm_50
  | 51 => dmm_51
  | 52 => dmm_52
  | 53 => dmm_53
  | 54 => dmm_54
  | 55 => dmm_55
  | 56 => dmm_56
  | 57 => dmm_57
  | 58 => dmm_58
  | 59 => dmm_59
  | 60 => dmm_60
  | 61 => dmm_61
  | 62 => dmm_62
  | 63 => dmm_63
  | 64 => dmm_64
  | 65 => dmm_65
  | 66 => dmm_66
  | 67 => dmm_67
  | 68 => dmm_68
  | 69 => dmm_69
  | 70 => dmm_70
  | 71 => dmm_71
  | 72 => dmm_72
  | 73 => dmm_73
  | 74 => dmm_74
  | 75 => dmm_75
  | 76 => dmm_76
  | 77 => dmm_77
  | 78 => dmm_78
  | 79 => dmm_79
  | 80 => dmm_80
  | 81 => dmm_81
  | 82 => dmm_82
  | 83 => dmm_83
  | 84 => dmm_84
  | 85 => dmm_85
  | 86 => dmm_86
  | 87 => dmm_87
  | 88 => dmm_88
  | 89 => dmm_89
  | 90 => dmm_90
  | 91 => dmm_91
  | 92 => dmm_92
  | 93 => dmm_93
  | 94 => dmm_94
  | 95 => dmm_95
  | 96 => dmm_96
  | 97 => dmm_97
  | 98 => dmm_98
  | 99 => dmm_99
  | 100 => dmm_100
  | 101 => dmm_101
  | 102 => dmm_102
  | 103 => dmm_103
  | 104 => dmm_104
  | 105 => dmm_105
  | 106 => dmm_106
  | 107 => dmm_107
  | 108 => dmm_108
  | 109 => dmm_109
  | 110 => dmm_110
  | 111 => dmm_111
  | 112 => dmm_112
  | 113 => dmm_113
  | 114 => dmm_114
  | 115 => dmm_115
  | 116 => dmm_116
  | 117 => dmm_117
  | 118 => dmm_118
  | 119 => dmm_119
  | 120 => dmm_120
  | 121 => dmm_121
  | 122 => dmm_122
  | 123 => dmm_123
  | 124 => dmm_124
  | 125 => dmm_125
  | 126 => dmm_126
  | 127 => dmm_127
  | 128 => dmm_128
  | 129 => dmm_129
  | 130 => dmm_130
  | 131 => dmm_131
  | 132 => dmm_132
  | 133 => dmm_133
  | 134 => dmm_134
  | 135 => dmm_135
  | 136 => dmm_136
  | 137 => dmm_137
  | 138 => dmm_138
  | 139 => dmm_139
  | j + 140 => fun _ h => absurd (show _ ∈ ([] : List (List (Nat × Instr × Nat))) from h) List.not_mem_nil

theorem cdA : ∀ j : Nat, j < 140 → j ≠ 137 → iCO j
  | 0 => fun _ _ => cdo_0
  | 1 => fun _ _ => cdo_1
  | 2 => fun _ _ => cdo_2
  | 3 => fun _ _ => cdo_3
  | 4 => fun _ _ => cdo_4
  | 5 => fun _ _ => cdo_5
  | 6 => fun _ _ => cdo_6
  | 7 => fun _ _ => cdo_7
  | 8 => fun _ _ => cdo_8
  | 9 => fun _ _ => cdo_9
  | 10 => fun _ _ => cdo_10
  | 11 => fun _ _ => cdo_11
  | 12 => fun _ _ => cdo_12
  | 13 => fun _ _ => cdo_13
  | 14 => fun _ _ => cdo_14
  | 15 => fun _ _ => cdo_15
  | 16 => fun _ _ => cdo_16
  | 17 => fun _ _ => cdo_17
  | 18 => fun _ _ => cdo_18
  | 19 => fun _ _ => cdo_19
  | 20 => fun _ _ => cdo_20
  | 21 => fun _ _ => cdo_21
  | 22 => fun _ _ => cdo_22
  | 23 => fun _ _ => cdo_23
  | 24 => fun _ _ => cdo_24
  | 25 => fun _ _ => cdo_25
  | 26 => fun _ _ => cdo_26
  | 27 => fun _ _ => cdo_27
  | 28 => fun _ _ => cdo_28
  | 29 => fun _ _ => cdo_29
  | 30 => fun _ _ => cdo_30
  | 31 => fun _ _ => cdo_31
  | 32 => fun _ _ => cdo_32
  | 33 => fun _ _ => cdo_33
  | 34 => fun _ _ => cdo_34
  | 35 => fun _ _ => cdo_35
  | 36 => fun _ _ => cdo_36
  | 37 => fun _ _ => cdo_37
  | 38 => fun _ _ => cdo_38
  | 39 => fun _ _ => cdo_39
  | 40 => fun _ _ => cdo_40
  | 41 => fun _ _ => cdo_41
  | 42 => fun _ _ => cdo_42
  | 43 => fun _ _ => cdo_43
  | 44 => fun _ _ => cdo_44
  | 45 => fun _ _ => cdo_45
  | 46 => fun _ _ => cdo_46
  | 47 => fun _ _ => cdo_47
  | 48 => fun _ _ => cdo_48
  | 49 => fun _ _ => cdo_49
  | 50 => fun _ _ => cdo_50
  | 51 => fun _ _ => cdo_51
  | 52 => fun _ _ => cdo_52
  | 53 => fun _ _ => cdo_53
  | 54 => fun _ _ => cdo_54
  | 55 => fun _ _ => cdo_55
  | 56 => fun _ _ => cdo_56
  | 57 => fun _ _ => cdo_57
  | 58 => fun _ _ => cdo_58
  | 59 => fun _ _ => cdo_59
  | 60 => fun _ _ => cdo_60
  | 61 => fun _ _ => cdo_61
  | 62 => fun _ _ => cdo_62
  | 63 => fun _ _ => cdo_63
  | 64 => fun _ _ => cdo_64
  | 65 => fun _ _ => cdo_65
  | 66 => fun _ _ => cdo_66
  | 67 => fun _ _ => cdo_67
  | 68 => fun _ _ => cdo_68
  | 69 => fun _ _ => cdo_69
  | 70 => fun _ _ => cdo_70
  | 71 => fun _ _ => cdo_71
  | 72 => fun _ _ => cdo_72
  | 73 => fun _ _ => cdo_73
  | 74 => fun _ _ => cdo_74
  | 75 => fun _ _ => cdo_75
  | 76 => fun _ _ => cdo_76
  | 77 => fun _ _ => cdo_77
  | 78 => fun _ _ => cdo_78
  | 79 => fun _ _ => cdo_79
  | 80 => fun _ _ => cdo_80
  | 81 => fun _ _ => cdo_81
  | 82 => fun _ _ => cdo_82
  | 83 => fun _ _ => cdo_83
  | 84 => fun _ _ => cdo_84
  | 85 => fun _ _ => cdo_85
  | 86 => fun _ _ => cdo_86
  | 87 => fun _ _ => cdo_87
  | 88 => fun _ _ => cdo_88
  | 89 => fun _ _ => cdo_89
  | 90 => fun _ _ => cdo_90
  | 91 => fun _ _ => cdo_91
  | 92 => fun _ _ => cdo_92
  | 93 => fun _ _ => cdo_93
  | 94 => fun _ _ => cdo_94
  | 95 => fun _ _ => cdo_95
  | 96 => fun _ _ => cdo_96
  | 97 => fun _ _ => cdo_97
  | 98 => fun _ _ => cdo_98
  | 99 => fun _ _ => cdo_99
  | 100 => fun _ _ => cdo_100
  | 101 => fun _ _ => cdo_101
  | 102 => fun _ _ => cdo_102
  | 103 => fun _ _ => cdo_103
  | 104 => fun _ _ => cdo_104
  | 105 => fun _ _ => cdo_105
  | 106 => fun _ _ => cdo_106
  | 107 => fun _ _ => cdo_107
  | 108 => fun _ _ => cdo_108
  | 109 => fun _ _ => cdo_109
  | 110 => fun _ _ => cdo_110
  | 111 => fun _ _ => cdo_111
  | 112 => fun _ _ => cdo_112
  | 113 => fun _ _ => cdo_113
  | 114 => fun _ _ => cdo_114
  | 115 => fun _ _ => cdo_115
  | 116 => fun _ _ => cdo_116
  | 117 => fun _ _ => cdo_117
  | 118 => fun _ _ => cdo_118
  | 119 => fun _ _ => cdo_119
  | 120 => fun _ _ => cdo_120
  | 121 => fun _ _ => cdo_121
  | 122 => fun _ _ => cdo_122
  | 123 => fun _ _ => cdo_123
  | 124 => fun _ _ => cdo_124
  | 125 => fun _ _ => cdo_125
  | 126 => fun _ _ => cdo_126
  | 127 => fun _ _ => cdo_127
  | 128 => fun _ _ => cdo_128
  | 129 => fun _ _ => cdo_129
  | 130 => fun _ _ => cdo_130
  | 131 => fun _ _ => cdo_131
  | 132 => fun _ _ => cdo_132
  | 133 => fun _ _ => cdo_133
  | 134 => fun _ _ => cdo_134
  | 135 => fun _ _ => cdo_135
  | 136 => fun _ _ => cdo_136
  | 137 => fun _ h => absurd rfl h
  | 138 => fun _ _ => cdo_138
  | 139 => fun _ _ => cdo_139
  | j + 140 => fun h => absurd h (by omega)

theorem pFx_0 : ∀ q ∈ (pFs[0]?).getD [], iFO 0 q.1 q.2.1 q.2.2.1 q.2.2.2 := by
  show ∀ q ∈ ([(11, 1, 0, 2), (18, 1, 4, 2), (25, 1, 5, 2), (32, 1, 6, 2), (38, 1, 8, 2), (49, 1, 1, 0), (67, 2, 0, 2), (75, 1, 2, 2), (79, 1, 3, 2), (134, 7, 1, 0), (151, 7, 2, 0), (154, 1, 7, 0), (157, 8, 2, 0), (166, 8, 4, 0), (177, 8, 9, 0), (178, 8, 8, 0), (181, 8, 6, 2), (184, 8, 7, 2), (189, 1, 9, 0), (199, 9, 0, 2), (202, 9, 1, 0), (229, 5, 1, 0)] : List (Nat × Nat × Nat × Nat)), iFO 0 q.1 q.2.1 q.2.2.1 q.2.2.2
  exact List.forall_mem_cons.mpr ⟨fo_0_11, List.forall_mem_cons.mpr ⟨fo_0_18, List.forall_mem_cons.mpr ⟨fo_0_25, List.forall_mem_cons.mpr ⟨fo_0_32, List.forall_mem_cons.mpr ⟨fo_0_38, List.forall_mem_cons.mpr ⟨fo_0_49, List.forall_mem_cons.mpr ⟨fo_0_67, List.forall_mem_cons.mpr ⟨fo_0_75, List.forall_mem_cons.mpr ⟨fo_0_79, List.forall_mem_cons.mpr ⟨fo_0_134, List.forall_mem_cons.mpr ⟨fo_0_151, List.forall_mem_cons.mpr ⟨fo_0_154, List.forall_mem_cons.mpr ⟨fo_0_157, List.forall_mem_cons.mpr ⟨fo_0_166, List.forall_mem_cons.mpr ⟨fo_0_177, List.forall_mem_cons.mpr ⟨fo_0_178, List.forall_mem_cons.mpr ⟨fo_0_181, List.forall_mem_cons.mpr ⟨fo_0_184, List.forall_mem_cons.mpr ⟨fo_0_189, List.forall_mem_cons.mpr ⟨fo_0_199, List.forall_mem_cons.mpr ⟨fo_0_202, List.forall_mem_cons.mpr ⟨fo_0_229, fun _ h => absurd h List.not_mem_nil⟩⟩⟩⟩⟩⟩⟩⟩⟩⟩⟩⟩⟩⟩⟩⟩⟩⟩⟩⟩⟩⟩
theorem pFx_1 : ∀ q ∈ (pFs[1]?).getD [], iFO 1 q.1 q.2.1 q.2.2.1 q.2.2.2 := by
  show ∀ q ∈ ([(9, 2, 0, 2)] : List (Nat × Nat × Nat × Nat)), iFO 1 q.1 q.2.1 q.2.2.1 q.2.2.2
  exact List.forall_mem_cons.mpr ⟨fo_1_9, fun _ h => absurd h List.not_mem_nil⟩
theorem pFx_2 : ∀ q ∈ (pFs[2]?).getD [], iFO 2 q.1 q.2.1 q.2.2.1 q.2.2.2 := by
  show ∀ q ∈ ([(9, 3, 0, 2), (15, 3, 1, 2)] : List (Nat × Nat × Nat × Nat)), iFO 2 q.1 q.2.1 q.2.2.1 q.2.2.2
  exact List.forall_mem_cons.mpr ⟨fo_2_9, List.forall_mem_cons.mpr ⟨fo_2_15, fun _ h => absurd h List.not_mem_nil⟩⟩
theorem pFx_3 : ∀ q ∈ (pFs[3]?).getD [], iFO 3 q.1 q.2.1 q.2.2.1 q.2.2.2 := by
  show ∀ q ∈ ([(9, 4, 0, 0), (15, 4, 1, 2), (19, 4, 2, 0), (22, 4, 3, 2), (25, 4, 4, 2), (33, 4, 5, 0), (41, 4, 6, 0), (47, 4, 7, 0), (50, 4, 8, 0), (53, 4, 9, 1)] : List (Nat × Nat × Nat × Nat)), iFO 3 q.1 q.2.1 q.2.2.1 q.2.2.2
  exact List.forall_mem_cons.mpr ⟨fo_3_9, List.forall_mem_cons.mpr ⟨fo_3_15, List.forall_mem_cons.mpr ⟨fo_3_19, List.forall_mem_cons.mpr ⟨fo_3_22, List.forall_mem_cons.mpr ⟨fo_3_25, List.forall_mem_cons.mpr ⟨fo_3_33, List.forall_mem_cons.mpr ⟨fo_3_41, List.forall_mem_cons.mpr ⟨fo_3_47, List.forall_mem_cons.mpr ⟨fo_3_50, List.forall_mem_cons.mpr ⟨fo_3_53, fun _ h => absurd h List.not_mem_nil⟩⟩⟩⟩⟩⟩⟩⟩⟩⟩
theorem pFx_4 : ∀ q ∈ (pFs[4]?).getD [], iFO 4 q.1 q.2.1 q.2.2.1 q.2.2.2 := by
  show ∀ q ∈ ([(11, 5, 0, 2), (17, 5, 2, 2), (21, 5, 3, 2), (24, 5, 1, 0), (62, 4, 5, 0), (73, 4, 3, 2), (77, 4, 2, 0), (80, 2, 0, 2)] : List (Nat × Nat × Nat × Nat)), iFO 4 q.1 q.2.1 q.2.2.1 q.2.2.2
  exact List.forall_mem_cons.mpr ⟨fo_4_11, List.forall_mem_cons.mpr ⟨fo_4_17, List.forall_mem_cons.mpr ⟨fo_4_21, List.forall_mem_cons.mpr ⟨fo_4_24, List.forall_mem_cons.mpr ⟨fo_4_62, List.forall_mem_cons.mpr ⟨fo_4_73, List.forall_mem_cons.mpr ⟨fo_4_77, List.forall_mem_cons.mpr ⟨fo_4_80, fun _ h => absurd h List.not_mem_nil⟩⟩⟩⟩⟩⟩⟩⟩
theorem pFx_5 : ∀ q ∈ (pFs[5]?).getD [], iFO 5 q.1 q.2.1 q.2.2.1 q.2.2.2 := by
  show ∀ q ∈ ([(9, 6, 0, 2), (15, 6, 1, 2)] : List (Nat × Nat × Nat × Nat)), iFO 5 q.1 q.2.1 q.2.2.1 q.2.2.2
  exact List.forall_mem_cons.mpr ⟨fo_5_9, List.forall_mem_cons.mpr ⟨fo_5_15, fun _ h => absurd h List.not_mem_nil⟩⟩
theorem pFx_6 : ∀ q ∈ (pFs[6]?).getD [], iFO 6 q.1 q.2.1 q.2.2.1 q.2.2.2 := by
  show ∀ q ∈ ([(11, 7, 0, 2), (17, 7, 1, 0), (21, 7, 2, 0), (37, 2, 0, 2), (41, 6, 0, 2)] : List (Nat × Nat × Nat × Nat)), iFO 6 q.1 q.2.1 q.2.2.1 q.2.2.2
  exact List.forall_mem_cons.mpr ⟨fo_6_11, List.forall_mem_cons.mpr ⟨fo_6_17, List.forall_mem_cons.mpr ⟨fo_6_21, List.forall_mem_cons.mpr ⟨fo_6_37, List.forall_mem_cons.mpr ⟨fo_6_41, fun _ h => absurd h List.not_mem_nil⟩⟩⟩⟩⟩
theorem pFx_7 : ∀ q ∈ (pFs[7]?).getD [], iFO 7 q.1 q.2.1 q.2.2.1 q.2.2.2 := by
  show ∀ q ∈ ([(11, 8, 0, 2), (17, 8, 1, 2), (21, 8, 3, 2), (24, 8, 5, 2), (28, 8, 6, 2), (31, 8, 7, 2), (34, 8, 10, 2), (37, 8, 2, 0), (41, 8, 4, 0), (44, 8, 8, 0), (47, 8, 9, 0)] : List (Nat × Nat × Nat × Nat)), iFO 7 q.1 q.2.1 q.2.2.1 q.2.2.2
  exact List.forall_mem_cons.mpr ⟨fo_7_11, List.forall_mem_cons.mpr ⟨fo_7_17, List.forall_mem_cons.mpr ⟨fo_7_21, List.forall_mem_cons.mpr ⟨fo_7_24, List.forall_mem_cons.mpr ⟨fo_7_28, List.forall_mem_cons.mpr ⟨fo_7_31, List.forall_mem_cons.mpr ⟨fo_7_34, List.forall_mem_cons.mpr ⟨fo_7_37, List.forall_mem_cons.mpr ⟨fo_7_41, List.forall_mem_cons.mpr ⟨fo_7_44, List.forall_mem_cons.mpr ⟨fo_7_47, fun _ h => absurd h List.not_mem_nil⟩⟩⟩⟩⟩⟩⟩⟩⟩⟩⟩
theorem pFx_8 : ∀ q ∈ (pFs[8]?).getD [], iFO 8 q.1 q.2.1 q.2.2.1 q.2.2.2 := by
  show ∀ q ∈ ([(7, 9, 1, 0), (13, 9, 0, 2)] : List (Nat × Nat × Nat × Nat)), iFO 8 q.1 q.2.1 q.2.2.1 q.2.2.2
  exact List.forall_mem_cons.mpr ⟨fo_8_7, List.forall_mem_cons.mpr ⟨fo_8_13, fun _ h => absurd h List.not_mem_nil⟩⟩
theorem pFx_9 : ∀ q ∈ (pFs[9]?).getD [], iFO 9 q.1 q.2.1 q.2.2.1 q.2.2.2 := by
  show ∀ q ∈ ([(7, 10, 1, 2), (13, 10, 2, 2), (16, 10, 3, 2), (19, 10, 5, 0), (23, 10, 6, 0), (26, 10, 7, 2), (29, 10, 8, 2), (32, 10, 9, 2), (35, 10, 10, 2), (38, 10, 11, 2), (41, 10, 12, 2), (44, 10, 13, 2), (47, 10, 14, 2), (50, 10, 15, 2), (54, 10, 17, 2), (57, 10, 18, 2), (60, 10, 19, 2), (63, 10, 21, 2), (66, 10, 22, 2), (69, 10, 23, 2), (72, 10, 24, 2), (75, 10, 25, 2), (78, 10, 29, 2), (81, 10, 30, 2), (84, 10, 31, 2), (87, 10, 0, 0), (90, 10, 4, 0), (112, 10, 16, 0), (145, 10, 20, 0), (148, 10, 28, 0), (151, 10, 26, 0), (154, 10, 27, 0), (164, 10, 32, 0)] : List (Nat × Nat × Nat × Nat)), iFO 9 q.1 q.2.1 q.2.2.1 q.2.2.2
  exact List.forall_mem_cons.mpr ⟨fo_9_7, List.forall_mem_cons.mpr ⟨fo_9_13, List.forall_mem_cons.mpr ⟨fo_9_16, List.forall_mem_cons.mpr ⟨fo_9_19, List.forall_mem_cons.mpr ⟨fo_9_23, List.forall_mem_cons.mpr ⟨fo_9_26, List.forall_mem_cons.mpr ⟨fo_9_29, List.forall_mem_cons.mpr ⟨fo_9_32, List.forall_mem_cons.mpr ⟨fo_9_35, List.forall_mem_cons.mpr ⟨fo_9_38, List.forall_mem_cons.mpr ⟨fo_9_41, List.forall_mem_cons.mpr ⟨fo_9_44, List.forall_mem_cons.mpr ⟨fo_9_47, List.forall_mem_cons.mpr ⟨fo_9_50, List.forall_mem_cons.mpr ⟨fo_9_54, List.forall_mem_cons.mpr ⟨fo_9_57, List.forall_mem_cons.mpr ⟨fo_9_60, List.forall_mem_cons.mpr ⟨fo_9_63, List.forall_mem_cons.mpr ⟨fo_9_66, List.forall_mem_cons.mpr ⟨fo_9_69, List.forall_mem_cons.mpr ⟨fo_9_72, List.forall_mem_cons.mpr ⟨fo_9_75, List.forall_mem_cons.mpr ⟨fo_9_78, List.forall_mem_cons.mpr ⟨fo_9_81, List.forall_mem_cons.mpr ⟨fo_9_84, List.forall_mem_cons.mpr ⟨fo_9_87, List.forall_mem_cons.mpr ⟨fo_9_90, List.forall_mem_cons.mpr ⟨fo_9_112, List.forall_mem_cons.mpr ⟨fo_9_145, List.forall_mem_cons.mpr ⟨fo_9_148, List.forall_mem_cons.mpr ⟨fo_9_151, List.forall_mem_cons.mpr ⟨fo_9_154, List.forall_mem_cons.mpr ⟨fo_9_164, fun _ h => absurd h List.not_mem_nil⟩⟩⟩⟩⟩⟩⟩⟩⟩⟩⟩⟩⟩⟩⟩⟩⟩⟩⟩⟩⟩⟩⟩⟩⟩⟩⟩⟩⟩⟩⟩⟩⟩
theorem pFx_10 : ∀ q ∈ (pFs[10]?).getD [], iFO 10 q.1 q.2.1 q.2.2.1 q.2.2.2 := by
  show ∀ q ∈ ([] : List (Nat × Nat × Nat × Nat)), iFO 10 q.1 q.2.1 q.2.2.1 q.2.2.2
  exact fun _ h => absurd h List.not_mem_nil
theorem pFx_11 : ∀ q ∈ (pFs[11]?).getD [], iFO 11 q.1 q.2.1 q.2.2.1 q.2.2.2 := by
  show ∀ q ∈ ([] : List (Nat × Nat × Nat × Nat)), iFO 11 q.1 q.2.1 q.2.2.1 q.2.2.2
  exact fun _ h => absurd h List.not_mem_nil
theorem pFx_12 : ∀ q ∈ (pFs[12]?).getD [], iFO 12 q.1 q.2.1 q.2.2.1 q.2.2.2 := by
  show ∀ q ∈ ([] : List (Nat × Nat × Nat × Nat)), iFO 12 q.1 q.2.1 q.2.2.1 q.2.2.2
  exact fun _ h => absurd h List.not_mem_nil
theorem pFxA : ∀ w : Nat, ∀ q ∈ (pFs[w]?).getD [], iFO w q.1 q.2.1 q.2.2.1 q.2.2.2
  | 0 => pFx_0
  | 1 => pFx_1
  | 2 => pFx_2
  | 3 => pFx_3
  | 4 => pFx_4
  | 5 => pFx_5
  | 6 => pFx_6
  | 7 => pFx_7
  | 8 => pFx_8
  | 9 => pFx_9
  | 10 => pFx_10
  | 11 => pFx_11
  | 12 => pFx_12
  | w + 13 => fun _ h => absurd (show _ ∈ ([] : List (Nat × Nat × Nat × Nat)) from h) List.not_mem_nil

theorem pNx_0 : ∀ q ∈ (pNs[0]?).getD [], iNO 0 q.1 q.2.1 q.2.2 := by
  show ∀ q ∈ ([(9, 2, 1), (15, 5, 4), (22, 7, 3), (29, 8, 11), (36, 9, 2), (95, 4, 10), (139, 6, 2), (234, 3, 2)] : List (Nat × Nat × Nat)), iNO 0 q.1 q.2.1 q.2.2
  exact List.forall_mem_cons.mpr ⟨no_0_9, List.forall_mem_cons.mpr ⟨no_0_15, List.forall_mem_cons.mpr ⟨no_0_22, List.forall_mem_cons.mpr ⟨no_0_29, List.forall_mem_cons.mpr ⟨no_0_36, List.forall_mem_cons.mpr ⟨no_0_95, List.forall_mem_cons.mpr ⟨no_0_139, List.forall_mem_cons.mpr ⟨no_0_234, fun _ h => absurd h List.not_mem_nil⟩⟩⟩⟩⟩⟩⟩⟩
theorem pNx_1 : ∀ q ∈ (pNs[1]?).getD [], iNO 1 q.1 q.2.1 q.2.2 := by
  show ∀ q ∈ ([] : List (Nat × Nat × Nat)), iNO 1 q.1 q.2.1 q.2.2
  exact fun _ h => absurd h List.not_mem_nil
theorem pNx_2 : ∀ q ∈ (pNs[2]?).getD [], iNO 2 q.1 q.2.1 q.2.2 := by
  show ∀ q ∈ ([] : List (Nat × Nat × Nat)), iNO 2 q.1 q.2.1 q.2.2
  exact fun _ h => absurd h List.not_mem_nil
theorem pNx_3 : ∀ q ∈ (pNs[3]?).getD [], iNO 3 q.1 q.2.1 q.2.2 := by
  show ∀ q ∈ ([] : List (Nat × Nat × Nat)), iNO 3 q.1 q.2.1 q.2.2
  exact fun _ h => absurd h List.not_mem_nil
theorem pNx_4 : ∀ q ∈ (pNs[4]?).getD [], iNO 4 q.1 q.2.1 q.2.2 := by
  show ∀ q ∈ ([] : List (Nat × Nat × Nat)), iNO 4 q.1 q.2.1 q.2.2
  exact fun _ h => absurd h List.not_mem_nil
theorem pNx_5 : ∀ q ∈ (pNs[5]?).getD [], iNO 5 q.1 q.2.1 q.2.2 := by
  show ∀ q ∈ ([] : List (Nat × Nat × Nat)), iNO 5 q.1 q.2.1 q.2.2
  exact fun _ h => absurd h List.not_mem_nil
theorem pNx_6 : ∀ q ∈ (pNs[6]?).getD [], iNO 6 q.1 q.2.1 q.2.2 := by
  show ∀ q ∈ ([] : List (Nat × Nat × Nat)), iNO 6 q.1 q.2.1 q.2.2
  exact fun _ h => absurd h List.not_mem_nil
theorem pNx_7 : ∀ q ∈ (pNs[7]?).getD [], iNO 7 q.1 q.2.1 q.2.2 := by
  show ∀ q ∈ ([] : List (Nat × Nat × Nat)), iNO 7 q.1 q.2.1 q.2.2
  exact fun _ h => absurd h List.not_mem_nil
theorem pNx_8 : ∀ q ∈ (pNs[8]?).getD [], iNO 8 q.1 q.2.1 q.2.2 := by
  show ∀ q ∈ ([] : List (Nat × Nat × Nat)), iNO 8 q.1 q.2.1 q.2.2
  exact fun _ h => absurd h List.not_mem_nil
theorem pNx_9 : ∀ q ∈ (pNs[9]?).getD [], iNO 9 q.1 q.2.1 q.2.2 := by
  show ∀ q ∈ ([] : List (Nat × Nat × Nat)), iNO 9 q.1 q.2.1 q.2.2
  exact fun _ h => absurd h List.not_mem_nil
theorem pNx_10 : ∀ q ∈ (pNs[10]?).getD [], iNO 10 q.1 q.2.1 q.2.2 := by
  show ∀ q ∈ ([(8, 1, 10), (79, 10, 33)] : List (Nat × Nat × Nat)), iNO 10 q.1 q.2.1 q.2.2
  exact List.forall_mem_cons.mpr ⟨no_10_8, List.forall_mem_cons.mpr ⟨no_10_79, fun _ h => absurd h List.not_mem_nil⟩⟩
theorem pNx_11 : ∀ q ∈ (pNs[11]?).getD [], iNO 11 q.1 q.2.1 q.2.2 := by
  show ∀ q ∈ ([] : List (Nat × Nat × Nat)), iNO 11 q.1 q.2.1 q.2.2
  exact fun _ h => absurd h List.not_mem_nil
theorem pNx_12 : ∀ q ∈ (pNs[12]?).getD [], iNO 12 q.1 q.2.1 q.2.2 := by
  show ∀ q ∈ ([] : List (Nat × Nat × Nat)), iNO 12 q.1 q.2.1 q.2.2
  exact fun _ h => absurd h List.not_mem_nil
theorem pNxA : ∀ w : Nat, ∀ q ∈ (pNs[w]?).getD [], iNO w q.1 q.2.1 q.2.2
  | 0 => pNx_0
  | 1 => pNx_1
  | 2 => pNx_2
  | 3 => pNx_3
  | 4 => pNx_4
  | 5 => pNx_5
  | 6 => pNx_6
  | 7 => pNx_7
  | 8 => pNx_8
  | 9 => pNx_9
  | 10 => pNx_10
  | 11 => pNx_11
  | 12 => pNx_12
  | w + 13 => fun _ h => absurd (show _ ∈ ([] : List (Nat × Nat × Nat)) from h) List.not_mem_nil

theorem pVx_0 : ∀ q ∈ (pVs[0]?).getD [], iVO 0 q.1 q.2 := by
  show ∀ q ∈ ([(9, 2), (36, 9)] : List (Nat × Nat)), iVO 0 q.1 q.2
  exact List.forall_mem_cons.mpr ⟨vo_0_9, List.forall_mem_cons.mpr ⟨vo_0_36, fun _ h => absurd h List.not_mem_nil⟩⟩
theorem pVx_1 : ∀ q ∈ (pVs[1]?).getD [], iVO 1 q.1 q.2 := by
  show ∀ q ∈ ([] : List (Nat × Nat)), iVO 1 q.1 q.2
  exact fun _ h => absurd h List.not_mem_nil
theorem pVx_2 : ∀ q ∈ (pVs[2]?).getD [], iVO 2 q.1 q.2 := by
  show ∀ q ∈ ([] : List (Nat × Nat)), iVO 2 q.1 q.2
  exact fun _ h => absurd h List.not_mem_nil
theorem pVx_3 : ∀ q ∈ (pVs[3]?).getD [], iVO 3 q.1 q.2 := by
  show ∀ q ∈ ([] : List (Nat × Nat)), iVO 3 q.1 q.2
  exact fun _ h => absurd h List.not_mem_nil
theorem pVx_4 : ∀ q ∈ (pVs[4]?).getD [], iVO 4 q.1 q.2 := by
  show ∀ q ∈ ([(9, 4)] : List (Nat × Nat)), iVO 4 q.1 q.2
  exact List.forall_mem_cons.mpr ⟨vo_4_9, fun _ h => absurd h List.not_mem_nil⟩
theorem pVx_5 : ∀ q ∈ (pVs[5]?).getD [], iVO 5 q.1 q.2 := by
  show ∀ q ∈ ([] : List (Nat × Nat)), iVO 5 q.1 q.2
  exact fun _ h => absurd h List.not_mem_nil
theorem pVx_6 : ∀ q ∈ (pVs[6]?).getD [], iVO 6 q.1 q.2 := by
  show ∀ q ∈ ([(9, 6)] : List (Nat × Nat)), iVO 6 q.1 q.2
  exact List.forall_mem_cons.mpr ⟨vo_6_9, fun _ h => absurd h List.not_mem_nil⟩
theorem pVx_7 : ∀ q ∈ (pVs[7]?).getD [], iVO 7 q.1 q.2 := by
  show ∀ q ∈ ([(9, 2)] : List (Nat × Nat)), iVO 7 q.1 q.2
  exact List.forall_mem_cons.mpr ⟨vo_7_9, fun _ h => absurd h List.not_mem_nil⟩
theorem pVx_8 : ∀ q ∈ (pVs[8]?).getD [], iVO 8 q.1 q.2 := by
  show ∀ q ∈ ([] : List (Nat × Nat)), iVO 8 q.1 q.2
  exact fun _ h => absurd h List.not_mem_nil
theorem pVx_9 : ∀ q ∈ (pVs[9]?).getD [], iVO 9 q.1 q.2 := by
  show ∀ q ∈ ([] : List (Nat × Nat)), iVO 9 q.1 q.2
  exact fun _ h => absurd h List.not_mem_nil
theorem pVx_10 : ∀ q ∈ (pVs[10]?).getD [], iVO 10 q.1 q.2 := by
  show ∀ q ∈ ([] : List (Nat × Nat)), iVO 10 q.1 q.2
  exact fun _ h => absurd h List.not_mem_nil
theorem pVx_11 : ∀ q ∈ (pVs[11]?).getD [], iVO 11 q.1 q.2 := by
  show ∀ q ∈ ([] : List (Nat × Nat)), iVO 11 q.1 q.2
  exact fun _ h => absurd h List.not_mem_nil
theorem pVx_12 : ∀ q ∈ (pVs[12]?).getD [], iVO 12 q.1 q.2 := by
  show ∀ q ∈ ([] : List (Nat × Nat)), iVO 12 q.1 q.2
  exact fun _ h => absurd h List.not_mem_nil
theorem pVxA : ∀ w : Nat, ∀ q ∈ (pVs[w]?).getD [], iVO w q.1 q.2
  | 0 => pVx_0
  | 1 => pVx_1
  | 2 => pVx_2
  | 3 => pVx_3
  | 4 => pVx_4
  | 5 => pVx_5
  | 6 => pVx_6
  | 7 => pVx_7
  | 8 => pVx_8
  | 9 => pVx_9
  | 10 => pVx_10
  | 11 => pVx_11
  | 12 => pVx_12
  | w + 13 => fun _ h => absurd (show _ ∈ ([] : List (Nat × Nat)) from h) List.not_mem_nil

theorem pMx_0 : ∀ q ∈ (pMs[0]?).getD [], (q.2.1 = 999 ∧ Cond.methodLink (iO_ 0) q.1 objectInit ∈ lw_tbl) ∨ (q.2.1 < 140 ∧ q.2.1 ≠ 137 ∧ iMO 0 q.1 q.2.1 q.2.2.1 q.2.2.2) := by
  show ∀ q ∈ ([(1, 999, 1, 1), (17, 48, 1, 5), (24, 58, 1, 7), (31, 62, 1, 8), (58, 33, 2, 2), (61, 24, 3, 1), (71, 23, 2, 1), (82, 27, 2, 0), (86, 25, 3, 1), (89, 28, 1, 0), (92, 29, 1, 1), (97, 30, 1, 1), (101, 43, 6, 4), (104, 49, 2, 5), (108, 22, 2, 1), (111, 34, 1, 2), (115, 26, 1, 0), (121, 51, 2, 5), (126, 55, 5, 5), (130, 50, 2, 5), (141, 56, 3, 6), (144, 59, 2, 7), (147, 60, 3, 7), (162, 63, 3, 8), (171, 64, 2, 8), (174, 65, 3, 8), (194, 73, 2, 9), (195, 32, 3, 1), (205, 31, 2, 1), (209, 75, 2, 9), (212, 74, 2, 9), (215, 76, 2, 9), (236, 40, 3, 3)] : List (Nat × Nat × Nat × Nat)), (q.2.1 = 999 ∧ Cond.methodLink (iO_ 0) q.1 objectInit ∈ lw_tbl) ∨ (q.2.1 < 140 ∧ q.2.1 ≠ 137 ∧ iMO 0 q.1 q.2.1 q.2.2.1 q.2.2.2)
  exact List.forall_mem_cons.mpr ⟨Or.inl ⟨rfl, mo_0_1⟩, List.forall_mem_cons.mpr ⟨Or.inr ⟨by decide, by decide, mo_0_17⟩, List.forall_mem_cons.mpr ⟨Or.inr ⟨by decide, by decide, mo_0_24⟩, List.forall_mem_cons.mpr ⟨Or.inr ⟨by decide, by decide, mo_0_31⟩, List.forall_mem_cons.mpr ⟨Or.inr ⟨by decide, by decide, mo_0_58⟩, List.forall_mem_cons.mpr ⟨Or.inr ⟨by decide, by decide, mo_0_61⟩, List.forall_mem_cons.mpr ⟨Or.inr ⟨by decide, by decide, mo_0_71⟩, List.forall_mem_cons.mpr ⟨Or.inr ⟨by decide, by decide, mo_0_82⟩, List.forall_mem_cons.mpr ⟨Or.inr ⟨by decide, by decide, mo_0_86⟩, List.forall_mem_cons.mpr ⟨Or.inr ⟨by decide, by decide, mo_0_89⟩, List.forall_mem_cons.mpr ⟨Or.inr ⟨by decide, by decide, mo_0_92⟩, List.forall_mem_cons.mpr ⟨Or.inr ⟨by decide, by decide, mo_0_97⟩, List.forall_mem_cons.mpr ⟨Or.inr ⟨by decide, by decide, mo_0_101⟩, List.forall_mem_cons.mpr ⟨Or.inr ⟨by decide, by decide, mo_0_104⟩, List.forall_mem_cons.mpr ⟨Or.inr ⟨by decide, by decide, mo_0_108⟩, List.forall_mem_cons.mpr ⟨Or.inr ⟨by decide, by decide, mo_0_111⟩, List.forall_mem_cons.mpr ⟨Or.inr ⟨by decide, by decide, mo_0_115⟩, List.forall_mem_cons.mpr ⟨Or.inr ⟨by decide, by decide, mo_0_121⟩, List.forall_mem_cons.mpr ⟨Or.inr ⟨by decide, by decide, mo_0_126⟩, List.forall_mem_cons.mpr ⟨Or.inr ⟨by decide, by decide, mo_0_130⟩, List.forall_mem_cons.mpr ⟨Or.inr ⟨by decide, by decide, mo_0_141⟩, List.forall_mem_cons.mpr ⟨Or.inr ⟨by decide, by decide, mo_0_144⟩, List.forall_mem_cons.mpr ⟨Or.inr ⟨by decide, by decide, mo_0_147⟩, List.forall_mem_cons.mpr ⟨Or.inr ⟨by decide, by decide, mo_0_162⟩, List.forall_mem_cons.mpr ⟨Or.inr ⟨by decide, by decide, mo_0_171⟩, List.forall_mem_cons.mpr ⟨Or.inr ⟨by decide, by decide, mo_0_174⟩, List.forall_mem_cons.mpr ⟨Or.inr ⟨by decide, by decide, mo_0_194⟩, List.forall_mem_cons.mpr ⟨Or.inr ⟨by decide, by decide, mo_0_195⟩, List.forall_mem_cons.mpr ⟨Or.inr ⟨by decide, by decide, mo_0_205⟩, List.forall_mem_cons.mpr ⟨Or.inr ⟨by decide, by decide, mo_0_209⟩, List.forall_mem_cons.mpr ⟨Or.inr ⟨by decide, by decide, mo_0_212⟩, List.forall_mem_cons.mpr ⟨Or.inr ⟨by decide, by decide, mo_0_215⟩, List.forall_mem_cons.mpr ⟨Or.inr ⟨by decide, by decide, mo_0_236⟩, fun _ h => absurd h List.not_mem_nil⟩⟩⟩⟩⟩⟩⟩⟩⟩⟩⟩⟩⟩⟩⟩⟩⟩⟩⟩⟩⟩⟩⟩⟩⟩⟩⟩⟩⟩⟩⟩⟩⟩
theorem pMx_1 : ∀ q ∈ (pMs[1]?).getD [], (q.2.1 = 999 ∧ Cond.methodLink (iO_ 1) q.1 objectInit ∈ lw_tbl) ∨ (q.2.1 < 140 ∧ q.2.1 ≠ 137 ∧ iMO 1 q.1 q.2.1 q.2.2.1 q.2.2.2) := by
  show ∀ q ∈ ([(3, 999, 1, 1), (15, 138, 2, 0), (21, 35, 3, 2)] : List (Nat × Nat × Nat × Nat)), (q.2.1 = 999 ∧ Cond.methodLink (iO_ 1) q.1 objectInit ∈ lw_tbl) ∨ (q.2.1 < 140 ∧ q.2.1 ≠ 137 ∧ iMO 1 q.1 q.2.1 q.2.2.1 q.2.2.2)
  exact List.forall_mem_cons.mpr ⟨Or.inl ⟨rfl, mo_1_3⟩, List.forall_mem_cons.mpr ⟨Or.inr ⟨by decide, by decide, mo_1_15⟩, List.forall_mem_cons.mpr ⟨Or.inr ⟨by decide, by decide, mo_1_21⟩, fun _ h => absurd h List.not_mem_nil⟩⟩⟩
theorem pMx_2 : ∀ q ∈ (pMs[2]?).getD [], (q.2.1 = 999 ∧ Cond.methodLink (iO_ 2) q.1 objectInit ∈ lw_tbl) ∨ (q.2.1 < 140 ∧ q.2.1 ≠ 137 ∧ iMO 2 q.1 q.2.1 q.2.2.1 q.2.2.2) := by
  show ∀ q ∈ ([(3, 999, 1, 1), (18, 36, 2, 2), (24, 34, 1, 2)] : List (Nat × Nat × Nat × Nat)), (q.2.1 = 999 ∧ Cond.methodLink (iO_ 2) q.1 objectInit ∈ lw_tbl) ∨ (q.2.1 < 140 ∧ q.2.1 ≠ 137 ∧ iMO 2 q.1 q.2.1 q.2.2.1 q.2.2.2)
  exact List.forall_mem_cons.mpr ⟨Or.inl ⟨rfl, mo_2_3⟩, List.forall_mem_cons.mpr ⟨Or.inr ⟨by decide, by decide, mo_2_18⟩, List.forall_mem_cons.mpr ⟨Or.inr ⟨by decide, by decide, mo_2_24⟩, fun _ h => absurd h List.not_mem_nil⟩⟩⟩
theorem pMx_3 : ∀ q ∈ (pMs[3]?).getD [], (q.2.1 = 999 ∧ Cond.methodLink (iO_ 3) q.1 objectInit ∈ lw_tbl) ∨ (q.2.1 < 140 ∧ q.2.1 ≠ 137 ∧ iMO 3 q.1 q.2.1 q.2.2.1 q.2.2.2) := by
  show ∀ q ∈ ([(3, 999, 1, 1), (29, 26, 1, 0), (36, 41, 2, 3), (44, 42, 2, 3), (57, 35, 3, 2)] : List (Nat × Nat × Nat × Nat)), (q.2.1 = 999 ∧ Cond.methodLink (iO_ 3) q.1 objectInit ∈ lw_tbl) ∨ (q.2.1 < 140 ∧ q.2.1 ≠ 137 ∧ iMO 3 q.1 q.2.1 q.2.2.1 q.2.2.2)
  exact List.forall_mem_cons.mpr ⟨Or.inl ⟨rfl, mo_3_3⟩, List.forall_mem_cons.mpr ⟨Or.inr ⟨by decide, by decide, mo_3_29⟩, List.forall_mem_cons.mpr ⟨Or.inr ⟨by decide, by decide, mo_3_36⟩, List.forall_mem_cons.mpr ⟨Or.inr ⟨by decide, by decide, mo_3_44⟩, List.forall_mem_cons.mpr ⟨Or.inr ⟨by decide, by decide, mo_3_57⟩, fun _ h => absurd h List.not_mem_nil⟩⟩⟩⟩⟩
theorem pMx_4 : ∀ q ∈ (pMs[4]?).getD [], (q.2.1 = 999 ∧ Cond.methodLink (iO_ 4) q.1 objectInit ∈ lw_tbl) ∨ (q.2.1 < 140 ∧ q.2.1 ≠ 137 ∧ iMO 4 q.1 q.2.1 q.2.2.1 q.2.2.2) := by
  show ∀ q ∈ ([(3, 999, 1, 1), (28, 38, 2, 2), (34, 52, 3, 5), (38, 34, 1, 2), (42, 39, 4, 2), (46, 45, 2, 4), (50, 53, 4, 5), (54, 47, 2, 4), (58, 54, 3, 5), (65, 44, 1, 4), (69, 46, 3, 4), (83, 41, 2, 3), (89, 42, 2, 3), (92, 37, 2, 2)] : List (Nat × Nat × Nat × Nat)), (q.2.1 = 999 ∧ Cond.methodLink (iO_ 4) q.1 objectInit ∈ lw_tbl) ∨ (q.2.1 < 140 ∧ q.2.1 ≠ 137 ∧ iMO 4 q.1 q.2.1 q.2.2.1 q.2.2.2)
  exact List.forall_mem_cons.mpr ⟨Or.inl ⟨rfl, mo_4_3⟩, List.forall_mem_cons.mpr ⟨Or.inr ⟨by decide, by decide, mo_4_28⟩, List.forall_mem_cons.mpr ⟨Or.inr ⟨by decide, by decide, mo_4_34⟩, List.forall_mem_cons.mpr ⟨Or.inr ⟨by decide, by decide, mo_4_38⟩, List.forall_mem_cons.mpr ⟨Or.inr ⟨by decide, by decide, mo_4_42⟩, List.forall_mem_cons.mpr ⟨Or.inr ⟨by decide, by decide, mo_4_46⟩, List.forall_mem_cons.mpr ⟨Or.inr ⟨by decide, by decide, mo_4_50⟩, List.forall_mem_cons.mpr ⟨Or.inr ⟨by decide, by decide, mo_4_54⟩, List.forall_mem_cons.mpr ⟨Or.inr ⟨by decide, by decide, mo_4_58⟩, List.forall_mem_cons.mpr ⟨Or.inr ⟨by decide, by decide, mo_4_65⟩, List.forall_mem_cons.mpr ⟨Or.inr ⟨by decide, by decide, mo_4_69⟩, List.forall_mem_cons.mpr ⟨Or.inr ⟨by decide, by decide, mo_4_83⟩, List.forall_mem_cons.mpr ⟨Or.inr ⟨by decide, by decide, mo_4_89⟩, List.forall_mem_cons.mpr ⟨Or.inr ⟨by decide, by decide, mo_4_92⟩, fun _ h => absurd h List.not_mem_nil⟩⟩⟩⟩⟩⟩⟩⟩⟩⟩⟩⟩⟩⟩
theorem pMx_5 : ∀ q ∈ (pMs[5]?).getD [], (q.2.1 = 999 ∧ Cond.methodLink (iO_ 5) q.1 objectInit ∈ lw_tbl) ∨ (q.2.1 < 140 ∧ q.2.1 ≠ 137 ∧ iMO 5 q.1 q.2.1 q.2.2.1 q.2.2.2) := by
  show ∀ q ∈ ([(3, 999, 1, 1), (18, 36, 2, 2), (24, 34, 1, 2)] : List (Nat × Nat × Nat × Nat)), (q.2.1 = 999 ∧ Cond.methodLink (iO_ 5) q.1 objectInit ∈ lw_tbl) ∨ (q.2.1 < 140 ∧ q.2.1 ≠ 137 ∧ iMO 5 q.1 q.2.1 q.2.2.1 q.2.2.2)
  exact List.forall_mem_cons.mpr ⟨Or.inl ⟨rfl, mo_5_3⟩, List.forall_mem_cons.mpr ⟨Or.inr ⟨by decide, by decide, mo_5_18⟩, List.forall_mem_cons.mpr ⟨Or.inr ⟨by decide, by decide, mo_5_24⟩, fun _ h => absurd h List.not_mem_nil⟩⟩⟩
theorem pMx_6 : ∀ q ∈ (pMs[6]?).getD [], (q.2.1 = 999 ∧ Cond.methodLink (iO_ 6) q.1 objectInit ∈ lw_tbl) ∨ (q.2.1 < 140 ∧ q.2.1 ≠ 137 ∧ iMO 6 q.1 q.2.1 q.2.2.1 q.2.2.2) := by
  show ∀ q ∈ ([(3, 999, 1, 1), (24, 34, 1, 2), (30, 61, 3, 7), (34, 57, 1, 6)] : List (Nat × Nat × Nat × Nat)), (q.2.1 = 999 ∧ Cond.methodLink (iO_ 6) q.1 objectInit ∈ lw_tbl) ∨ (q.2.1 < 140 ∧ q.2.1 ≠ 137 ∧ iMO 6 q.1 q.2.1 q.2.2.1 q.2.2.2)
  exact List.forall_mem_cons.mpr ⟨Or.inl ⟨rfl, mo_6_3⟩, List.forall_mem_cons.mpr ⟨Or.inr ⟨by decide, by decide, mo_6_24⟩, List.forall_mem_cons.mpr ⟨Or.inr ⟨by decide, by decide, mo_6_30⟩, List.forall_mem_cons.mpr ⟨Or.inr ⟨by decide, by decide, mo_6_34⟩, fun _ h => absurd h List.not_mem_nil⟩⟩⟩⟩
theorem pMx_7 : ∀ q ∈ (pMs[7]?).getD [], (q.2.1 = 999 ∧ Cond.methodLink (iO_ 7) q.1 objectInit ∈ lw_tbl) ∨ (q.2.1 < 140 ∧ q.2.1 ≠ 137 ∧ iMO 7 q.1 q.2.1 q.2.2.1 q.2.2.2) := by
  show ∀ q ∈ ([(3, 999, 1, 1), (50, 34, 1, 2), (54, 66, 2, 8), (58, 72, 2, 8), (61, 67, 4, 8), (65, 68, 4, 8), (68, 139, 2, 0), (74, 69, 5, 8), (78, 70, 3, 8), (82, 71, 4, 8), (85, 35, 3, 2), (89, 38, 2, 2), (93, 39, 4, 2)] : List (Nat × Nat × Nat × Nat)), (q.2.1 = 999 ∧ Cond.methodLink (iO_ 7) q.1 objectInit ∈ lw_tbl) ∨ (q.2.1 < 140 ∧ q.2.1 ≠ 137 ∧ iMO 7 q.1 q.2.1 q.2.2.1 q.2.2.2)
  exact List.forall_mem_cons.mpr ⟨Or.inl ⟨rfl, mo_7_3⟩, List.forall_mem_cons.mpr ⟨Or.inr ⟨by decide, by decide, mo_7_50⟩, List.forall_mem_cons.mpr ⟨Or.inr ⟨by decide, by decide, mo_7_54⟩, List.forall_mem_cons.mpr ⟨Or.inr ⟨by decide, by decide, mo_7_58⟩, List.forall_mem_cons.mpr ⟨Or.inr ⟨by decide, by decide, mo_7_61⟩, List.forall_mem_cons.mpr ⟨Or.inr ⟨by decide, by decide, mo_7_65⟩, List.forall_mem_cons.mpr ⟨Or.inr ⟨by decide, by decide, mo_7_68⟩, List.forall_mem_cons.mpr ⟨Or.inr ⟨by decide, by decide, mo_7_74⟩, List.forall_mem_cons.mpr ⟨Or.inr ⟨by decide, by decide, mo_7_78⟩, List.forall_mem_cons.mpr ⟨Or.inr ⟨by decide, by decide, mo_7_82⟩, List.forall_mem_cons.mpr ⟨Or.inr ⟨by decide, by decide, mo_7_85⟩, List.forall_mem_cons.mpr ⟨Or.inr ⟨by decide, by decide, mo_7_89⟩, List.forall_mem_cons.mpr ⟨Or.inr ⟨by decide, by decide, mo_7_93⟩, fun _ h => absurd h List.not_mem_nil⟩⟩⟩⟩⟩⟩⟩⟩⟩⟩⟩⟩⟩
theorem pMx_8 : ∀ q ∈ (pMs[8]?).getD [], (q.2.1 = 999 ∧ Cond.methodLink (iO_ 8) q.1 objectInit ∈ lw_tbl) ∨ (q.2.1 < 140 ∧ q.2.1 ≠ 137 ∧ iMO 8 q.1 q.2.1 q.2.2.1 q.2.2.2) := by
  show ∀ q ∈ ([(1, 999, 1, 1), (17, 77, 3, 0)] : List (Nat × Nat × Nat × Nat)), (q.2.1 = 999 ∧ Cond.methodLink (iO_ 8) q.1 objectInit ∈ lw_tbl) ∨ (q.2.1 < 140 ∧ q.2.1 ≠ 137 ∧ iMO 8 q.1 q.2.1 q.2.2.1 q.2.2.2)
  exact List.forall_mem_cons.mpr ⟨Or.inl ⟨rfl, mo_8_1⟩, List.forall_mem_cons.mpr ⟨Or.inr ⟨by decide, by decide, mo_8_17⟩, fun _ h => absurd h List.not_mem_nil⟩⟩
theorem pMx_9 : ∀ q ∈ (pMs[9]?).getD [], (q.2.1 = 999 ∧ Cond.methodLink (iO_ 9) q.1 objectInit ∈ lw_tbl) ∨ (q.2.1 < 140 ∧ q.2.1 ≠ 137 ∧ iMO 9 q.1 q.2.1 q.2.2.1 q.2.2.2) := by
  show ∀ q ∈ ([(1, 999, 1, 1), (93, 81, 2, 10), (97, 80, 3, 10), (101, 84, 3, 10), (105, 88, 6, 10), (109, 82, 2, 10), (115, 91, 4, 10), (119, 89, 4, 10), (123, 87, 1, 10), (126, 94, 3, 10), (130, 95, 3, 10), (133, 96, 4, 10), (137, 98, 6, 10), (141, 97, 3, 10), (157, 106, 3, 10), (160, 107, 5, 10), (167, 112, 2, 10), (170, 113, 3, 10)] : List (Nat × Nat × Nat × Nat)), (q.2.1 = 999 ∧ Cond.methodLink (iO_ 9) q.1 objectInit ∈ lw_tbl) ∨ (q.2.1 < 140 ∧ q.2.1 ≠ 137 ∧ iMO 9 q.1 q.2.1 q.2.2.1 q.2.2.2)
  exact List.forall_mem_cons.mpr ⟨Or.inl ⟨rfl, mo_9_1⟩, List.forall_mem_cons.mpr ⟨Or.inr ⟨by decide, by decide, mo_9_93⟩, List.forall_mem_cons.mpr ⟨Or.inr ⟨by decide, by decide, mo_9_97⟩, List.forall_mem_cons.mpr ⟨Or.inr ⟨by decide, by decide, mo_9_101⟩, List.forall_mem_cons.mpr ⟨Or.inr ⟨by decide, by decide, mo_9_105⟩, List.forall_mem_cons.mpr ⟨Or.inr ⟨by decide, by decide, mo_9_109⟩, List.forall_mem_cons.mpr ⟨Or.inr ⟨by decide, by decide, mo_9_115⟩, List.forall_mem_cons.mpr ⟨Or.inr ⟨by decide, by decide, mo_9_119⟩, List.forall_mem_cons.mpr ⟨Or.inr ⟨by decide, by decide, mo_9_123⟩, List.forall_mem_cons.mpr ⟨Or.inr ⟨by decide, by decide, mo_9_126⟩, List.forall_mem_cons.mpr ⟨Or.inr ⟨by decide, by decide, mo_9_130⟩, List.forall_mem_cons.mpr ⟨Or.inr ⟨by decide, by decide, mo_9_133⟩, List.forall_mem_cons.mpr ⟨Or.inr ⟨by decide, by decide, mo_9_137⟩, List.forall_mem_cons.mpr ⟨Or.inr ⟨by decide, by decide, mo_9_141⟩, List.forall_mem_cons.mpr ⟨Or.inr ⟨by decide, by decide, mo_9_157⟩, List.forall_mem_cons.mpr ⟨Or.inr ⟨by decide, by decide, mo_9_160⟩, List.forall_mem_cons.mpr ⟨Or.inr ⟨by decide, by decide, mo_9_167⟩, List.forall_mem_cons.mpr ⟨Or.inr ⟨by decide, by decide, mo_9_170⟩, fun _ h => absurd h List.not_mem_nil⟩⟩⟩⟩⟩⟩⟩⟩⟩⟩⟩⟩⟩⟩⟩⟩⟩⟩
theorem pMx_10 : ∀ q ∈ (pMs[10]?).getD [], (q.2.1 = 999 ∧ Cond.methodLink (iO_ 10) q.1 objectInit ∈ lw_tbl) ∨ (q.2.1 < 140 ∧ q.2.1 ≠ 137 ∧ iMO 10 q.1 q.2.1 q.2.2.1 q.2.2.2) := by
  show ∀ q ∈ ([(7, 1, 2, 1), (17, 2, 4, 1), (21, 3, 3, 1), (25, 4, 3, 1), (29, 5, 4, 1), (33, 6, 4, 1), (36, 7, 2, 1), (39, 8, 4, 1), (42, 9, 2, 1), (45, 10, 3, 1), (48, 11, 3, 1), (51, 12, 3, 1), (55, 13, 2, 1), (58, 14, 3, 1), (61, 17, 2, 1), (64, 18, 4, 1), (67, 19, 3, 1), (70, 20, 4, 1), (74, 21, 3, 1), (78, 0, 1, 1), (81, 78, 1, 10), (82, 118, 3, 0), (87, 83, 2, 10), (88, 79, 1, 10), (92, 119, 4, 0), (95, 85, 4, 10), (96, 120, 4, 0), (99, 86, 3, 10), (100, 121, 3, 0), (103, 90, 3, 10), (104, 122, 5, 0), (107, 92, 4, 10), (108, 123, 5, 0), (110, 93, 4, 10), (111, 124, 3, 0), (113, 99, 2, 10), (114, 125, 5, 0), (116, 100, 4, 10), (117, 126, 3, 0), (119, 101, 2, 10), (120, 127, 4, 0), (122, 102, 3, 10), (123, 128, 4, 0), (125, 103, 3, 10), (126, 129, 4, 0), (129, 104, 3, 10), (130, 130, 3, 0), (132, 105, 2, 10), (133, 131, 4, 0), (135, 108, 3, 10), (136, 15, 3, 1), (139, 109, 3, 10), (140, 16, 1, 1), (143, 110, 1, 10), (144, 132, 3, 0), (146, 111, 2, 10), (147, 133, 5, 0), (149, 114, 4, 10), (150, 134, 4, 0), (152, 115, 3, 10), (153, 135, 5, 0), (156, 116, 4, 10), (157, 136, 3, 0), (160, 117, 3, 10)] : List (Nat × Nat × Nat × Nat)), (q.2.1 = 999 ∧ Cond.methodLink (iO_ 10) q.1 objectInit ∈ lw_tbl) ∨ (q.2.1 < 140 ∧ q.2.1 ≠ 137 ∧ iMO 10 q.1 q.2.1 q.2.2.1 q.2.2.2)
  exact List.forall_mem_cons.mpr ⟨Or.inr ⟨by decide, by decide, mo_10_7⟩, List.forall_mem_cons.mpr ⟨Or.inr ⟨by decide, by decide, mo_10_17⟩, List.forall_mem_cons.mpr ⟨Or.inr ⟨by decide, by decide, mo_10_21⟩, List.forall_mem_cons.mpr ⟨Or.inr ⟨by decide, by decide, mo_10_25⟩, List.forall_mem_cons.mpr ⟨Or.inr ⟨by decide, by decide, mo_10_29⟩, List.forall_mem_cons.mpr ⟨Or.inr ⟨by decide, by decide, mo_10_33⟩, List.forall_mem_cons.mpr ⟨Or.inr ⟨by decide, by decide, mo_10_36⟩, List.forall_mem_cons.mpr ⟨Or.inr ⟨by decide, by decide, mo_10_39⟩, List.forall_mem_cons.mpr ⟨Or.inr ⟨by decide, by decide, mo_10_42⟩, List.forall_mem_cons.mpr ⟨Or.inr ⟨by decide, by decide, mo_10_45⟩, List.forall_mem_cons.mpr ⟨Or.inr ⟨by decide, by decide, mo_10_48⟩, List.forall_mem_cons.mpr ⟨Or.inr ⟨by decide, by decide, mo_10_51⟩, List.forall_mem_cons.mpr ⟨Or.inr ⟨by decide, by decide, mo_10_55⟩, List.forall_mem_cons.mpr ⟨Or.inr ⟨by decide, by decide, mo_10_58⟩, List.forall_mem_cons.mpr ⟨Or.inr ⟨by decide, by decide, mo_10_61⟩, List.forall_mem_cons.mpr ⟨Or.inr ⟨by decide, by decide, mo_10_64⟩, List.forall_mem_cons.mpr ⟨Or.inr ⟨by decide, by decide, mo_10_67⟩, List.forall_mem_cons.mpr ⟨Or.inr ⟨by decide, by decide, mo_10_70⟩, List.forall_mem_cons.mpr ⟨Or.inr ⟨by decide, by decide, mo_10_74⟩, List.forall_mem_cons.mpr ⟨Or.inr ⟨by decide, by decide, mo_10_78⟩, List.forall_mem_cons.mpr ⟨Or.inr ⟨by decide, by decide, mo_10_81⟩, List.forall_mem_cons.mpr ⟨Or.inr ⟨by decide, by decide, mo_10_82⟩, List.forall_mem_cons.mpr ⟨Or.inr ⟨by decide, by decide, mo_10_87⟩, List.forall_mem_cons.mpr ⟨Or.inr ⟨by decide, by decide, mo_10_88⟩, List.forall_mem_cons.mpr ⟨Or.inr ⟨by decide, by decide, mo_10_92⟩, List.forall_mem_cons.mpr ⟨Or.inr ⟨by decide, by decide, mo_10_95⟩, List.forall_mem_cons.mpr ⟨Or.inr ⟨by decide, by decide, mo_10_96⟩, List.forall_mem_cons.mpr ⟨Or.inr ⟨by decide, by decide, mo_10_99⟩, List.forall_mem_cons.mpr ⟨Or.inr ⟨by decide, by decide, mo_10_100⟩, List.forall_mem_cons.mpr ⟨Or.inr ⟨by decide, by decide, mo_10_103⟩, List.forall_mem_cons.mpr ⟨Or.inr ⟨by decide, by decide, mo_10_104⟩, List.forall_mem_cons.mpr ⟨Or.inr ⟨by decide, by decide, mo_10_107⟩, List.forall_mem_cons.mpr ⟨Or.inr ⟨by decide, by decide, mo_10_108⟩, List.forall_mem_cons.mpr ⟨Or.inr ⟨by decide, by decide, mo_10_110⟩, List.forall_mem_cons.mpr ⟨Or.inr ⟨by decide, by decide, mo_10_111⟩, List.forall_mem_cons.mpr ⟨Or.inr ⟨by decide, by decide, mo_10_113⟩, List.forall_mem_cons.mpr ⟨Or.inr ⟨by decide, by decide, mo_10_114⟩, List.forall_mem_cons.mpr ⟨Or.inr ⟨by decide, by decide, mo_10_116⟩, List.forall_mem_cons.mpr ⟨Or.inr ⟨by decide, by decide, mo_10_117⟩, List.forall_mem_cons.mpr ⟨Or.inr ⟨by decide, by decide, mo_10_119⟩, List.forall_mem_cons.mpr ⟨Or.inr ⟨by decide, by decide, mo_10_120⟩, List.forall_mem_cons.mpr ⟨Or.inr ⟨by decide, by decide, mo_10_122⟩, List.forall_mem_cons.mpr ⟨Or.inr ⟨by decide, by decide, mo_10_123⟩, List.forall_mem_cons.mpr ⟨Or.inr ⟨by decide, by decide, mo_10_125⟩, List.forall_mem_cons.mpr ⟨Or.inr ⟨by decide, by decide, mo_10_126⟩, List.forall_mem_cons.mpr ⟨Or.inr ⟨by decide, by decide, mo_10_129⟩, List.forall_mem_cons.mpr ⟨Or.inr ⟨by decide, by decide, mo_10_130⟩, List.forall_mem_cons.mpr ⟨Or.inr ⟨by decide, by decide, mo_10_132⟩, List.forall_mem_cons.mpr ⟨Or.inr ⟨by decide, by decide, mo_10_133⟩, List.forall_mem_cons.mpr ⟨Or.inr ⟨by decide, by decide, mo_10_135⟩, List.forall_mem_cons.mpr ⟨Or.inr ⟨by decide, by decide, mo_10_136⟩, List.forall_mem_cons.mpr ⟨Or.inr ⟨by decide, by decide, mo_10_139⟩, List.forall_mem_cons.mpr ⟨Or.inr ⟨by decide, by decide, mo_10_140⟩, List.forall_mem_cons.mpr ⟨Or.inr ⟨by decide, by decide, mo_10_143⟩, List.forall_mem_cons.mpr ⟨Or.inr ⟨by decide, by decide, mo_10_144⟩, List.forall_mem_cons.mpr ⟨Or.inr ⟨by decide, by decide, mo_10_146⟩, List.forall_mem_cons.mpr ⟨Or.inr ⟨by decide, by decide, mo_10_147⟩, List.forall_mem_cons.mpr ⟨Or.inr ⟨by decide, by decide, mo_10_149⟩, List.forall_mem_cons.mpr ⟨Or.inr ⟨by decide, by decide, mo_10_150⟩, List.forall_mem_cons.mpr ⟨Or.inr ⟨by decide, by decide, mo_10_152⟩, List.forall_mem_cons.mpr ⟨Or.inr ⟨by decide, by decide, mo_10_153⟩, List.forall_mem_cons.mpr ⟨Or.inr ⟨by decide, by decide, mo_10_156⟩, List.forall_mem_cons.mpr ⟨Or.inr ⟨by decide, by decide, mo_10_157⟩, List.forall_mem_cons.mpr ⟨Or.inr ⟨by decide, by decide, mo_10_160⟩, fun _ h => absurd h List.not_mem_nil⟩⟩⟩⟩⟩⟩⟩⟩⟩⟩⟩⟩⟩⟩⟩⟩⟩⟩⟩⟩⟩⟩⟩⟩⟩⟩⟩⟩⟩⟩⟩⟩⟩⟩⟩⟩⟩⟩⟩⟩⟩⟩⟩⟩⟩⟩⟩⟩⟩⟩⟩⟩⟩⟩⟩⟩⟩⟩⟩⟩⟩⟩⟩⟩
theorem pMx_11 : ∀ q ∈ (pMs[11]?).getD [], (q.2.1 = 999 ∧ Cond.methodLink (iO_ 11) q.1 objectInit ∈ lw_tbl) ∨ (q.2.1 < 140 ∧ q.2.1 ≠ 137 ∧ iMO 11 q.1 q.2.1 q.2.2.1 q.2.2.2) := by
  show ∀ q ∈ ([] : List (Nat × Nat × Nat × Nat)), (q.2.1 = 999 ∧ Cond.methodLink (iO_ 11) q.1 objectInit ∈ lw_tbl) ∨ (q.2.1 < 140 ∧ q.2.1 ≠ 137 ∧ iMO 11 q.1 q.2.1 q.2.2.1 q.2.2.2)
  exact fun _ h => absurd h List.not_mem_nil
theorem pMx_12 : ∀ q ∈ (pMs[12]?).getD [], (q.2.1 = 999 ∧ Cond.methodLink (iO_ 12) q.1 objectInit ∈ lw_tbl) ∨ (q.2.1 < 140 ∧ q.2.1 ≠ 137 ∧ iMO 12 q.1 q.2.1 q.2.2.1 q.2.2.2) := by
  show ∀ q ∈ ([] : List (Nat × Nat × Nat × Nat)), (q.2.1 = 999 ∧ Cond.methodLink (iO_ 12) q.1 objectInit ∈ lw_tbl) ∨ (q.2.1 < 140 ∧ q.2.1 ≠ 137 ∧ iMO 12 q.1 q.2.1 q.2.2.1 q.2.2.2)
  exact fun _ h => absurd h List.not_mem_nil
theorem pMxA : ∀ w : Nat, ∀ q ∈ (pMs[w]?).getD [], (q.2.1 = 999 ∧ Cond.methodLink (iO_ w) q.1 objectInit ∈ lw_tbl) ∨ (q.2.1 < 140 ∧ q.2.1 ≠ 137 ∧ iMO w q.1 q.2.1 q.2.2.1 q.2.2.2)
  | 0 => pMx_0
  | 1 => pMx_1
  | 2 => pMx_2
  | 3 => pMx_3
  | 4 => pMx_4
  | 5 => pMx_5
  | 6 => pMx_6
  | 7 => pMx_7
  | 8 => pMx_8
  | 9 => pMx_9
  | 10 => pMx_10
  | 11 => pMx_11
  | 12 => pMx_12
  | w + 13 => fun _ h => absurd (show _ ∈ ([] : List (Nat × Nat × Nat × Nat)) from h) List.not_mem_nil

theorem iLk {α : Type} {l : List (Nat × α)} {k : Nat} {v : α} (h : l.lookup k = some v) : (k, v) ∈ l := by
  induction l with
  | nil => cases h
  | cons a l ih =>
    obtain ⟨b, w⟩ := a
    rw [List.lookup_cons] at h
    by_cases hk : k = b
    · subst hk
      simp at h
      subst h
      exact List.mem_cons_self
    · have : (k == b) = false := by simpa using hk
      rw [this] at h
      exact List.mem_cons_of_mem _ (ih h)
/-- each row of the tables is the machine's -/
theorem iDec {j pc : Nat} {i : Instr} {len : Nat} (h : iC j pc = some (i, len)) : decode (iBy j) pc = .ok (i, len) ∧ iLen i len = true := by
  unfold iC at h
  cases hc : (mC j)[pc / 64]? with
  | none => rw [hc] at h; cases h
  | some ch =>
    rw [hc] at h
    exact dmA j ch (List.mem_of_getElem? hc) (pc, i, len) (iLk h)
theorem iFx {w k c f t : Nat} (h : pF w k = some (c, f, t)) : iFO w k c f t := pFxA w (k, c, f, t) (iLk h)
theorem iNx {w k c n : Nat} (h : pN w k = some (c, n)) : iNO w k c n := pNxA w (k, c, n) (iLk h)
theorem iVx {w k c : Nat} (h : pV w k = some c) : iVO w k c := pVxA w (k, c) (iLk h)
