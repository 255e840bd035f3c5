/-! LAYER 2: the model's memory: its ints s (by the field's number), its arrays m (by their place behind the object). -/
def mw (σ : iS) (M : Nat) (s : Nat → Int32) (m : Nat → Nat → Int32) : iS := ((fun f a => if a = M then s f else sI σ f a), sR σ, (fun a k => if M < a ∧ a ≤ M + 23 then m (a - M) k else sA σ a k), sB σ, sL σ, sK σ, sN σ, sX σ, sS σ)
def mAr : List (Nat × Nat × Nat × Nat) := [(321, 1, 101, 2400), (322, 2, 101, 2400), (323, 3, 101, 40), (327, 4, 101, 20), (328, 5, 101, 20), (329, 6, 101, 20), (330, 7, 101, 20), (331, 8, 101, 20), (332, 9, 101, 20), (333, 10, 101, 20), (334, 11, 101, 20), (335, 12, 102, 20), (337, 13, 101, 10), (338, 14, 101, 20), (339, 15, 101, 20), (341, 16, 101, 8), (342, 17, 101, 20), (343, 18, 101, 20), (344, 19, 101, 20), (345, 20, 102, 8), (349, 21, 101, 600), (350, 22, 101, 10), (351, 23, 101, 10)]
/-- where the model's arrays lie -/
def mS (σ : iS) (M : Nat) : Prop := sK σ M = 10 ∧ ∀ q ∈ mAr, sR σ q.1 M = M + q.2.1 ∧ sK σ (M + q.2.1) = q.2.2.1 ∧ sN σ (M + q.2.1) = q.2.2.2
theorem mw_K {σ : iS} {M : Nat} {s : Nat → Int32} {m : Nat → Nat → Int32} (h : mS σ M) : sK (mw σ M s m) M = 10 := h.1
theorem mw_i {σ : iS} {M : Nat} {s : Nat → Int32} {m : Nat → Nat → Int32} (f : Nat) : sI (mw σ M s m) f M = s f := if_pos rfl
theorem mw_a {σ : iS} {M : Nat} {s : Nat → Int32} {m : Nat → Nat → Int32} {c : Nat} (h1 : 0 < c) (h2 : c ≤ 23) (k : Nat) : sA (mw σ M s m) (M + c) k = m c k := by
  show (if M < M + c ∧ M + c ≤ M + 23 then m (M + c - M) k else sA σ (M + c) k) = m c k
  rw [if_pos ⟨by omega, by omega⟩, Nat.add_sub_cancel_left]
theorem mw_wi {σ : iS} {M : Nat} {s : Nat → Int32} {m : Nat → Nat → Int32} (f : Nat) (x : Int32) : wI (mw σ M s m) f M x = mw σ M (u1 s f x) m := by
  have e : u2 (fun f a => if a = M then s f else sI σ f a) f M x = fun g a => if a = M then u1 s f x g else sI σ g a := by
    funext g a
    unfold u2 u1
    by_cases ha : a = M
    · by_cases hg : g = f
      · simp [ha, hg]
      · simp [ha, hg]
    · simp [ha]
  show (u2 (fun f a => if a = M then s f else sI σ f a) f M x, sR σ, (fun a k => if M < a ∧ a ≤ M + 23 then m (a - M) k else sA σ a k), sB σ, sL σ, sK σ, sN σ, sX σ, sS σ) = _
  rw [e]
  rfl
theorem mw_wa {σ : iS} {M : Nat} {s : Nat → Int32} {m : Nat → Nat → Int32} {c : Nat} (h1 : 0 < c) (h2 : c ≤ 23) (k : Nat) (x : Int32) : wA (mw σ M s m) (M + c) k x = mw σ M s (u2 m c k x) := by
  have e : u2 (fun a k => if M < a ∧ a ≤ M + 23 then m (a - M) k else sA σ a k) (M + c) k x = fun a q => if M < a ∧ a ≤ M + 23 then u2 m c k x (a - M) q else sA σ a q := by
    funext a q
    unfold u2
    by_cases ha : M < a ∧ a ≤ M + 23
    · by_cases hac : a = M + c
      · subst hac
        simp [ha]
      · have hac2 : ¬ a - M = c := by omega
        simp [ha, hac, hac2]
    · have hac : ¬ a = M + c := by omega
      simp [ha, hac]
  show (sI (mw σ M s m), sR σ, u2 (fun a k => if M < a ∧ a ≤ M + 23 then m (a - M) k else sA σ a k) (M + c) k x, sB σ, sL σ, sK σ, sN σ, sX σ, sS σ) = _
  rw [e]
  rfl
/-- a state is its own memory -/
theorem mw_s (σ : iS) (M : Nat) : mw σ M (fun f => sI σ f M) (fun c k => sA σ (M + c) k) = σ := by
  have e1 : (fun f a => if a = M then sI σ f M else sI σ f a) = sI σ := by
    funext f a
    by_cases ha : a = M
    · simp [ha]
    · simp [ha]
  have e2 : (fun a k => if M < a ∧ a ≤ M + 23 then sA σ (M + (a - M)) k else sA σ a k) = sA σ := by
    funext a k
    by_cases ha : M < a ∧ a ≤ M + 23
    · rw [if_pos ha, show M + (a - M) = a by omega]
    · rw [if_neg ha]
  show ((fun f a => if a = M then sI σ f M else sI σ f a), sR σ, (fun a k => if M < a ∧ a ≤ M + 23 then sA σ (M + (a - M)) k else sA σ a k), sB σ, sL σ, sK σ, sN σ, sX σ, sS σ) = σ
  rw [e1, e2]
  rfl
section MW
variable {σ : iS} {M : Nat} {s : Nat → Int32} {m : Nat → Nat → Int32}
theorem r_321 (h : mS σ M) : sR (mw σ M s m) 321 M = M + 1 := (h.2 (321, 1, 101, 2400) (by decide)).1
theorem k_321 (h : mS σ M) : sK (mw σ M s m) (M + 1) = 101 := (h.2 (321, 1, 101, 2400) (by decide)).2.1
theorem n_321 (h : mS σ M) : sN (mw σ M s m) (M + 1) = 2400 := (h.2 (321, 1, 101, 2400) (by decide)).2.2
theorem a_321 (k : Nat) : sA (mw σ M s m) (M + 1) k = m 1 k := mw_a (by decide) (by decide) k
theorem w_321 (k : Nat) (x : Int32) : wA (mw σ M s m) (M + 1) k x = mw σ M s (u2 m 1 k x) := mw_wa (by decide) (by decide) k x
theorem r_322 (h : mS σ M) : sR (mw σ M s m) 322 M = M + 2 := (h.2 (322, 2, 101, 2400) (by decide)).1
theorem k_322 (h : mS σ M) : sK (mw σ M s m) (M + 2) = 101 := (h.2 (322, 2, 101, 2400) (by decide)).2.1
theorem n_322 (h : mS σ M) : sN (mw σ M s m) (M + 2) = 2400 := (h.2 (322, 2, 101, 2400) (by decide)).2.2
theorem a_322 (k : Nat) : sA (mw σ M s m) (M + 2) k = m 2 k := mw_a (by decide) (by decide) k
theorem w_322 (k : Nat) (x : Int32) : wA (mw σ M s m) (M + 2) k x = mw σ M s (u2 m 2 k x) := mw_wa (by decide) (by decide) k x
theorem r_323 (h : mS σ M) : sR (mw σ M s m) 323 M = M + 3 := (h.2 (323, 3, 101, 40) (by decide)).1
theorem k_323 (h : mS σ M) : sK (mw σ M s m) (M + 3) = 101 := (h.2 (323, 3, 101, 40) (by decide)).2.1
theorem n_323 (h : mS σ M) : sN (mw σ M s m) (M + 3) = 40 := (h.2 (323, 3, 101, 40) (by decide)).2.2
theorem a_323 (k : Nat) : sA (mw σ M s m) (M + 3) k = m 3 k := mw_a (by decide) (by decide) k
theorem w_323 (k : Nat) (x : Int32) : wA (mw σ M s m) (M + 3) k x = mw σ M s (u2 m 3 k x) := mw_wa (by decide) (by decide) k x
theorem r_327 (h : mS σ M) : sR (mw σ M s m) 327 M = M + 4 := (h.2 (327, 4, 101, 20) (by decide)).1
theorem k_327 (h : mS σ M) : sK (mw σ M s m) (M + 4) = 101 := (h.2 (327, 4, 101, 20) (by decide)).2.1
theorem n_327 (h : mS σ M) : sN (mw σ M s m) (M + 4) = 20 := (h.2 (327, 4, 101, 20) (by decide)).2.2
theorem a_327 (k : Nat) : sA (mw σ M s m) (M + 4) k = m 4 k := mw_a (by decide) (by decide) k
theorem w_327 (k : Nat) (x : Int32) : wA (mw σ M s m) (M + 4) k x = mw σ M s (u2 m 4 k x) := mw_wa (by decide) (by decide) k x
theorem r_328 (h : mS σ M) : sR (mw σ M s m) 328 M = M + 5 := (h.2 (328, 5, 101, 20) (by decide)).1
theorem k_328 (h : mS σ M) : sK (mw σ M s m) (M + 5) = 101 := (h.2 (328, 5, 101, 20) (by decide)).2.1
theorem n_328 (h : mS σ M) : sN (mw σ M s m) (M + 5) = 20 := (h.2 (328, 5, 101, 20) (by decide)).2.2
theorem a_328 (k : Nat) : sA (mw σ M s m) (M + 5) k = m 5 k := mw_a (by decide) (by decide) k
theorem w_328 (k : Nat) (x : Int32) : wA (mw σ M s m) (M + 5) k x = mw σ M s (u2 m 5 k x) := mw_wa (by decide) (by decide) k x
theorem r_329 (h : mS σ M) : sR (mw σ M s m) 329 M = M + 6 := (h.2 (329, 6, 101, 20) (by decide)).1
theorem k_329 (h : mS σ M) : sK (mw σ M s m) (M + 6) = 101 := (h.2 (329, 6, 101, 20) (by decide)).2.1
theorem n_329 (h : mS σ M) : sN (mw σ M s m) (M + 6) = 20 := (h.2 (329, 6, 101, 20) (by decide)).2.2
theorem a_329 (k : Nat) : sA (mw σ M s m) (M + 6) k = m 6 k := mw_a (by decide) (by decide) k
theorem w_329 (k : Nat) (x : Int32) : wA (mw σ M s m) (M + 6) k x = mw σ M s (u2 m 6 k x) := mw_wa (by decide) (by decide) k x
theorem r_330 (h : mS σ M) : sR (mw σ M s m) 330 M = M + 7 := (h.2 (330, 7, 101, 20) (by decide)).1
theorem k_330 (h : mS σ M) : sK (mw σ M s m) (M + 7) = 101 := (h.2 (330, 7, 101, 20) (by decide)).2.1
theorem n_330 (h : mS σ M) : sN (mw σ M s m) (M + 7) = 20 := (h.2 (330, 7, 101, 20) (by decide)).2.2
theorem a_330 (k : Nat) : sA (mw σ M s m) (M + 7) k = m 7 k := mw_a (by decide) (by decide) k
theorem w_330 (k : Nat) (x : Int32) : wA (mw σ M s m) (M + 7) k x = mw σ M s (u2 m 7 k x) := mw_wa (by decide) (by decide) k x
theorem r_331 (h : mS σ M) : sR (mw σ M s m) 331 M = M + 8 := (h.2 (331, 8, 101, 20) (by decide)).1
theorem k_331 (h : mS σ M) : sK (mw σ M s m) (M + 8) = 101 := (h.2 (331, 8, 101, 20) (by decide)).2.1
theorem n_331 (h : mS σ M) : sN (mw σ M s m) (M + 8) = 20 := (h.2 (331, 8, 101, 20) (by decide)).2.2
theorem a_331 (k : Nat) : sA (mw σ M s m) (M + 8) k = m 8 k := mw_a (by decide) (by decide) k
theorem w_331 (k : Nat) (x : Int32) : wA (mw σ M s m) (M + 8) k x = mw σ M s (u2 m 8 k x) := mw_wa (by decide) (by decide) k x
theorem r_332 (h : mS σ M) : sR (mw σ M s m) 332 M = M + 9 := (h.2 (332, 9, 101, 20) (by decide)).1
theorem k_332 (h : mS σ M) : sK (mw σ M s m) (M + 9) = 101 := (h.2 (332, 9, 101, 20) (by decide)).2.1
theorem n_332 (h : mS σ M) : sN (mw σ M s m) (M + 9) = 20 := (h.2 (332, 9, 101, 20) (by decide)).2.2
theorem a_332 (k : Nat) : sA (mw σ M s m) (M + 9) k = m 9 k := mw_a (by decide) (by decide) k
theorem w_332 (k : Nat) (x : Int32) : wA (mw σ M s m) (M + 9) k x = mw σ M s (u2 m 9 k x) := mw_wa (by decide) (by decide) k x
theorem r_333 (h : mS σ M) : sR (mw σ M s m) 333 M = M + 10 := (h.2 (333, 10, 101, 20) (by decide)).1
theorem k_333 (h : mS σ M) : sK (mw σ M s m) (M + 10) = 101 := (h.2 (333, 10, 101, 20) (by decide)).2.1
theorem n_333 (h : mS σ M) : sN (mw σ M s m) (M + 10) = 20 := (h.2 (333, 10, 101, 20) (by decide)).2.2
theorem a_333 (k : Nat) : sA (mw σ M s m) (M + 10) k = m 10 k := mw_a (by decide) (by decide) k
theorem w_333 (k : Nat) (x : Int32) : wA (mw σ M s m) (M + 10) k x = mw σ M s (u2 m 10 k x) := mw_wa (by decide) (by decide) k x
theorem r_334 (h : mS σ M) : sR (mw σ M s m) 334 M = M + 11 := (h.2 (334, 11, 101, 20) (by decide)).1
theorem k_334 (h : mS σ M) : sK (mw σ M s m) (M + 11) = 101 := (h.2 (334, 11, 101, 20) (by decide)).2.1
theorem n_334 (h : mS σ M) : sN (mw σ M s m) (M + 11) = 20 := (h.2 (334, 11, 101, 20) (by decide)).2.2
theorem a_334 (k : Nat) : sA (mw σ M s m) (M + 11) k = m 11 k := mw_a (by decide) (by decide) k
theorem w_334 (k : Nat) (x : Int32) : wA (mw σ M s m) (M + 11) k x = mw σ M s (u2 m 11 k x) := mw_wa (by decide) (by decide) k x
theorem r_335 (h : mS σ M) : sR (mw σ M s m) 335 M = M + 12 := (h.2 (335, 12, 102, 20) (by decide)).1
theorem k_335 (h : mS σ M) : sK (mw σ M s m) (M + 12) = 102 := (h.2 (335, 12, 102, 20) (by decide)).2.1
theorem n_335 (h : mS σ M) : sN (mw σ M s m) (M + 12) = 20 := (h.2 (335, 12, 102, 20) (by decide)).2.2
theorem a_335 (k : Nat) : sA (mw σ M s m) (M + 12) k = m 12 k := mw_a (by decide) (by decide) k
theorem w_335 (k : Nat) (x : Int32) : wA (mw σ M s m) (M + 12) k x = mw σ M s (u2 m 12 k x) := mw_wa (by decide) (by decide) k x
theorem r_337 (h : mS σ M) : sR (mw σ M s m) 337 M = M + 13 := (h.2 (337, 13, 101, 10) (by decide)).1
theorem k_337 (h : mS σ M) : sK (mw σ M s m) (M + 13) = 101 := (h.2 (337, 13, 101, 10) (by decide)).2.1
theorem n_337 (h : mS σ M) : sN (mw σ M s m) (M + 13) = 10 := (h.2 (337, 13, 101, 10) (by decide)).2.2
theorem a_337 (k : Nat) : sA (mw σ M s m) (M + 13) k = m 13 k := mw_a (by decide) (by decide) k
theorem w_337 (k : Nat) (x : Int32) : wA (mw σ M s m) (M + 13) k x = mw σ M s (u2 m 13 k x) := mw_wa (by decide) (by decide) k x
theorem r_338 (h : mS σ M) : sR (mw σ M s m) 338 M = M + 14 := (h.2 (338, 14, 101, 20) (by decide)).1
theorem k_338 (h : mS σ M) : sK (mw σ M s m) (M + 14) = 101 := (h.2 (338, 14, 101, 20) (by decide)).2.1
theorem n_338 (h : mS σ M) : sN (mw σ M s m) (M + 14) = 20 := (h.2 (338, 14, 101, 20) (by decide)).2.2
theorem a_338 (k : Nat) : sA (mw σ M s m) (M + 14) k = m 14 k := mw_a (by decide) (by decide) k
theorem w_338 (k : Nat) (x : Int32) : wA (mw σ M s m) (M + 14) k x = mw σ M s (u2 m 14 k x) := mw_wa (by decide) (by decide) k x
theorem r_339 (h : mS σ M) : sR (mw σ M s m) 339 M = M + 15 := (h.2 (339, 15, 101, 20) (by decide)).1
theorem k_339 (h : mS σ M) : sK (mw σ M s m) (M + 15) = 101 := (h.2 (339, 15, 101, 20) (by decide)).2.1
theorem n_339 (h : mS σ M) : sN (mw σ M s m) (M + 15) = 20 := (h.2 (339, 15, 101, 20) (by decide)).2.2
theorem a_339 (k : Nat) : sA (mw σ M s m) (M + 15) k = m 15 k := mw_a (by decide) (by decide) k
theorem w_339 (k : Nat) (x : Int32) : wA (mw σ M s m) (M + 15) k x = mw σ M s (u2 m 15 k x) := mw_wa (by decide) (by decide) k x
theorem r_341 (h : mS σ M) : sR (mw σ M s m) 341 M = M + 16 := (h.2 (341, 16, 101, 8) (by decide)).1
theorem k_341 (h : mS σ M) : sK (mw σ M s m) (M + 16) = 101 := (h.2 (341, 16, 101, 8) (by decide)).2.1
theorem n_341 (h : mS σ M) : sN (mw σ M s m) (M + 16) = 8 := (h.2 (341, 16, 101, 8) (by decide)).2.2
theorem a_341 (k : Nat) : sA (mw σ M s m) (M + 16) k = m 16 k := mw_a (by decide) (by decide) k
theorem w_341 (k : Nat) (x : Int32) : wA (mw σ M s m) (M + 16) k x = mw σ M s (u2 m 16 k x) := mw_wa (by decide) (by decide) k x
theorem r_342 (h : mS σ M) : sR (mw σ M s m) 342 M = M + 17 := (h.2 (342, 17, 101, 20) (by decide)).1
theorem k_342 (h : mS σ M) : sK (mw σ M s m) (M + 17) = 101 := (h.2 (342, 17, 101, 20) (by decide)).2.1
theorem n_342 (h : mS σ M) : sN (mw σ M s m) (M + 17) = 20 := (h.2 (342, 17, 101, 20) (by decide)).2.2
theorem a_342 (k : Nat) : sA (mw σ M s m) (M + 17) k = m 17 k := mw_a (by decide) (by decide) k
theorem w_342 (k : Nat) (x : Int32) : wA (mw σ M s m) (M + 17) k x = mw σ M s (u2 m 17 k x) := mw_wa (by decide) (by decide) k x
theorem r_343 (h : mS σ M) : sR (mw σ M s m) 343 M = M + 18 := (h.2 (343, 18, 101, 20) (by decide)).1
theorem k_343 (h : mS σ M) : sK (mw σ M s m) (M + 18) = 101 := (h.2 (343, 18, 101, 20) (by decide)).2.1
theorem n_343 (h : mS σ M) : sN (mw σ M s m) (M + 18) = 20 := (h.2 (343, 18, 101, 20) (by decide)).2.2
theorem a_343 (k : Nat) : sA (mw σ M s m) (M + 18) k = m 18 k := mw_a (by decide) (by decide) k
theorem w_343 (k : Nat) (x : Int32) : wA (mw σ M s m) (M + 18) k x = mw σ M s (u2 m 18 k x) := mw_wa (by decide) (by decide) k x
theorem r_344 (h : mS σ M) : sR (mw σ M s m) 344 M = M + 19 := (h.2 (344, 19, 101, 20) (by decide)).1
theorem k_344 (h : mS σ M) : sK (mw σ M s m) (M + 19) = 101 := (h.2 (344, 19, 101, 20) (by decide)).2.1
theorem n_344 (h : mS σ M) : sN (mw σ M s m) (M + 19) = 20 := (h.2 (344, 19, 101, 20) (by decide)).2.2
theorem a_344 (k : Nat) : sA (mw σ M s m) (M + 19) k = m 19 k := mw_a (by decide) (by decide) k
theorem w_344 (k : Nat) (x : Int32) : wA (mw σ M s m) (M + 19) k x = mw σ M s (u2 m 19 k x) := mw_wa (by decide) (by decide) k x
theorem r_345 (h : mS σ M) : sR (mw σ M s m) 345 M = M + 20 := (h.2 (345, 20, 102, 8) (by decide)).1
theorem k_345 (h : mS σ M) : sK (mw σ M s m) (M + 20) = 102 := (h.2 (345, 20, 102, 8) (by decide)).2.1
theorem n_345 (h : mS σ M) : sN (mw σ M s m) (M + 20) = 8 := (h.2 (345, 20, 102, 8) (by decide)).2.2
theorem a_345 (k : Nat) : sA (mw σ M s m) (M + 20) k = m 20 k := mw_a (by decide) (by decide) k
theorem w_345 (k : Nat) (x : Int32) : wA (mw σ M s m) (M + 20) k x = mw σ M s (u2 m 20 k x) := mw_wa (by decide) (by decide) k x
theorem r_349 (h : mS σ M) : sR (mw σ M s m) 349 M = M + 21 := (h.2 (349, 21, 101, 600) (by decide)).1
theorem k_349 (h : mS σ M) : sK (mw σ M s m) (M + 21) = 101 := (h.2 (349, 21, 101, 600) (by decide)).2.1
theorem n_349 (h : mS σ M) : sN (mw σ M s m) (M + 21) = 600 := (h.2 (349, 21, 101, 600) (by decide)).2.2
theorem a_349 (k : Nat) : sA (mw σ M s m) (M + 21) k = m 21 k := mw_a (by decide) (by decide) k
theorem w_349 (k : Nat) (x : Int32) : wA (mw σ M s m) (M + 21) k x = mw σ M s (u2 m 21 k x) := mw_wa (by decide) (by decide) k x
theorem r_350 (h : mS σ M) : sR (mw σ M s m) 350 M = M + 22 := (h.2 (350, 22, 101, 10) (by decide)).1
theorem k_350 (h : mS σ M) : sK (mw σ M s m) (M + 22) = 101 := (h.2 (350, 22, 101, 10) (by decide)).2.1
theorem n_350 (h : mS σ M) : sN (mw σ M s m) (M + 22) = 10 := (h.2 (350, 22, 101, 10) (by decide)).2.2
theorem a_350 (k : Nat) : sA (mw σ M s m) (M + 22) k = m 22 k := mw_a (by decide) (by decide) k
theorem w_350 (k : Nat) (x : Int32) : wA (mw σ M s m) (M + 22) k x = mw σ M s (u2 m 22 k x) := mw_wa (by decide) (by decide) k x
theorem r_351 (h : mS σ M) : sR (mw σ M s m) 351 M = M + 23 := (h.2 (351, 23, 101, 10) (by decide)).1
theorem k_351 (h : mS σ M) : sK (mw σ M s m) (M + 23) = 101 := (h.2 (351, 23, 101, 10) (by decide)).2.1
theorem n_351 (h : mS σ M) : sN (mw σ M s m) (M + 23) = 10 := (h.2 (351, 23, 101, 10) (by decide)).2.2
theorem a_351 (k : Nat) : sA (mw σ M s m) (M + 23) k = m 23 k := mw_a (by decide) (by decide) k
theorem w_351 (k : Nat) (x : Int32) : wA (mw σ M s m) (M + 23) k x = mw σ M s (u2 m 23 k x) := mw_wa (by decide) (by decide) k x
end MW
