/-! LAYER 2: the class's own cells, and how they say what the model's memory says. -/
def xCe : List (Nat × Nat) := [(0, 1), (1, 112), (2, 5), (3, 114), (4, 101), (5, 101), (6, 7), (7, 116), (8, 8), (9, 112), (10, 102), (11, 112), (12, 101), (13, 101), (14, 101), (15, 101), (16, 119)]
def xLe : List (Nat × Nat) := [(1, 40), (3, 20), (4, 10), (5, 60), (7, 20), (9, 8), (10, 8), (11, 20), (12, 20), (13, 20), (14, 20), (15, 60), (16, 10)]
def xRe : List (Nat × Nat × Nat) := [(32, 0, 1), (36, 0, 2), (160, 2, 3), (162, 2, 4), (163, 2, 5), (37, 0, 6), (224, 6, 7), (38, 0, 8), (256, 8, 9), (257, 8, 10), (259, 8, 11), (261, 8, 12), (262, 8, 13), (263, 8, 14), (266, 8, 15), (40, 0, 16)]
def sh (σ : iS) (X : Nat) : Prop := (X ≠ 0 ∧ X + 41 < sX σ) ∧ (∀ q ∈ xCe, sK σ (X + q.1) = q.2) ∧ (∀ q ∈ xLe, sN σ (X + q.1) = q.2) ∧ ∀ q ∈ xRe, sR σ q.1 (X + q.2.1) = X + q.2.2
section SH
variable {σ : iS} {X : Nat}
theorem sh_k0 (h : sh σ X) : sK σ X = 1 := h.2.1 (0, 1) (by decide)
theorem sh_k1 (h : sh σ X) : sK σ (X + 1) = 112 := h.2.1 (1, 112) (by decide)
theorem sh_k2 (h : sh σ X) : sK σ (X + 2) = 5 := h.2.1 (2, 5) (by decide)
theorem sh_k3 (h : sh σ X) : sK σ (X + 3) = 114 := h.2.1 (3, 114) (by decide)
theorem sh_k4 (h : sh σ X) : sK σ (X + 4) = 101 := h.2.1 (4, 101) (by decide)
theorem sh_k5 (h : sh σ X) : sK σ (X + 5) = 101 := h.2.1 (5, 101) (by decide)
theorem sh_k6 (h : sh σ X) : sK σ (X + 6) = 7 := h.2.1 (6, 7) (by decide)
theorem sh_k7 (h : sh σ X) : sK σ (X + 7) = 116 := h.2.1 (7, 116) (by decide)
theorem sh_k8 (h : sh σ X) : sK σ (X + 8) = 8 := h.2.1 (8, 8) (by decide)
theorem sh_k9 (h : sh σ X) : sK σ (X + 9) = 112 := h.2.1 (9, 112) (by decide)
theorem sh_k10 (h : sh σ X) : sK σ (X + 10) = 102 := h.2.1 (10, 102) (by decide)
theorem sh_k11 (h : sh σ X) : sK σ (X + 11) = 112 := h.2.1 (11, 112) (by decide)
theorem sh_k12 (h : sh σ X) : sK σ (X + 12) = 101 := h.2.1 (12, 101) (by decide)
theorem sh_k13 (h : sh σ X) : sK σ (X + 13) = 101 := h.2.1 (13, 101) (by decide)
theorem sh_k14 (h : sh σ X) : sK σ (X + 14) = 101 := h.2.1 (14, 101) (by decide)
theorem sh_k15 (h : sh σ X) : sK σ (X + 15) = 101 := h.2.1 (15, 101) (by decide)
theorem sh_k16 (h : sh σ X) : sK σ (X + 16) = 119 := h.2.1 (16, 119) (by decide)
theorem sh_n1 (h : sh σ X) : sN σ (X + 1) = 40 := h.2.2.1 (1, 40) (by decide)
theorem sh_n3 (h : sh σ X) : sN σ (X + 3) = 20 := h.2.2.1 (3, 20) (by decide)
theorem sh_n4 (h : sh σ X) : sN σ (X + 4) = 10 := h.2.2.1 (4, 10) (by decide)
theorem sh_n5 (h : sh σ X) : sN σ (X + 5) = 60 := h.2.2.1 (5, 60) (by decide)
theorem sh_n7 (h : sh σ X) : sN σ (X + 7) = 20 := h.2.2.1 (7, 20) (by decide)
theorem sh_n9 (h : sh σ X) : sN σ (X + 9) = 8 := h.2.2.1 (9, 8) (by decide)
theorem sh_n10 (h : sh σ X) : sN σ (X + 10) = 8 := h.2.2.1 (10, 8) (by decide)
theorem sh_n11 (h : sh σ X) : sN σ (X + 11) = 20 := h.2.2.1 (11, 20) (by decide)
theorem sh_n12 (h : sh σ X) : sN σ (X + 12) = 20 := h.2.2.1 (12, 20) (by decide)
theorem sh_n13 (h : sh σ X) : sN σ (X + 13) = 20 := h.2.2.1 (13, 20) (by decide)
theorem sh_n14 (h : sh σ X) : sN σ (X + 14) = 20 := h.2.2.1 (14, 20) (by decide)
theorem sh_n15 (h : sh σ X) : sN σ (X + 15) = 60 := h.2.2.1 (15, 60) (by decide)
theorem sh_n16 (h : sh σ X) : sN σ (X + 16) = 10 := h.2.2.1 (16, 10) (by decide)
theorem e_32 (h : sh σ X) : sR σ 32 X = X + 1 := h.2.2.2 (32, 0, 1) (by decide)
theorem e_36 (h : sh σ X) : sR σ 36 X = X + 2 := h.2.2.2 (36, 0, 2) (by decide)
theorem e_160 (h : sh σ X) : sR σ 160 (X + 2) = X + 3 := h.2.2.2 (160, 2, 3) (by decide)
theorem e_162 (h : sh σ X) : sR σ 162 (X + 2) = X + 4 := h.2.2.2 (162, 2, 4) (by decide)
theorem e_163 (h : sh σ X) : sR σ 163 (X + 2) = X + 5 := h.2.2.2 (163, 2, 5) (by decide)
theorem e_37 (h : sh σ X) : sR σ 37 X = X + 6 := h.2.2.2 (37, 0, 6) (by decide)
theorem e_224 (h : sh σ X) : sR σ 224 (X + 6) = X + 7 := h.2.2.2 (224, 6, 7) (by decide)
theorem e_38 (h : sh σ X) : sR σ 38 X = X + 8 := h.2.2.2 (38, 0, 8) (by decide)
theorem e_256 (h : sh σ X) : sR σ 256 (X + 8) = X + 9 := h.2.2.2 (256, 8, 9) (by decide)
theorem e_257 (h : sh σ X) : sR σ 257 (X + 8) = X + 10 := h.2.2.2 (257, 8, 10) (by decide)
theorem e_259 (h : sh σ X) : sR σ 259 (X + 8) = X + 11 := h.2.2.2 (259, 8, 11) (by decide)
theorem e_261 (h : sh σ X) : sR σ 261 (X + 8) = X + 12 := h.2.2.2 (261, 8, 12) (by decide)
theorem e_262 (h : sh σ X) : sR σ 262 (X + 8) = X + 13 := h.2.2.2 (262, 8, 13) (by decide)
theorem e_263 (h : sh σ X) : sR σ 263 (X + 8) = X + 14 := h.2.2.2 (263, 8, 14) (by decide)
theorem e_266 (h : sh σ X) : sR σ 266 (X + 8) = X + 15 := h.2.2.2 (266, 8, 15) (by decide)
theorem e_40 (h : sh σ X) : sR σ 40 X = X + 16 := h.2.2.2 (40, 0, 16) (by decide)
end SH
def cTs (σ : iS) (X : Nat) (s : Nat → Int32) (m : Nat → Nat → Int32) (N : Nat) (z : Nat → Nat) : Prop :=
  s 324 = nI N ∧ N ≤ 40 ∧ sI σ 33 X = nI N ∧ (∀ j, j < N → (X + 41 < sB σ (X + 1) j ∧ sB σ (X + 1) j + 1 < sX σ) ∧ sK σ (sB σ (X + 1) j) = 2 ∧ sR σ 64 (sB σ (X + 1) j) = sB σ (X + 1) j + 1 ∧ sK σ (sB σ (X + 1) j + 1) = 101 ∧ sN σ (sB σ (X + 1) j + 1) = z j ∧ m 3 j = nI (z j) ∧ z j ≤ 60) ∧ ∀ i j, i < N → j < N → sB σ (X + 1) i = sB σ (X + 1) j → i = j
def cSg (σ : iS) (X : Nat) (m : Nat → Nat → Int32) (N : Nat) (z : Nat → Nat) : Prop := ∀ j k, j < N → k < z j → sA σ (sB σ (X + 1) j + 1) k = m 1 (60 * j + k)
/-- null and -1, or text j that is not empty -/
def bd (σ : iS) (X N : Nat) (z : Nat → Nat) (a : Nat) (x : Int32) : Prop := (a = 0 ∧ x = -1) ∨ ∃ j, j < N ∧ 0 < z j ∧ a = sB σ (X + 1) j ∧ x = nI j
def cSp (σ : iS) (X : Nat) (s : Nat → Int32) (N : Nat) (z : Nat → Nat) : Prop := bd σ X N z (sR σ 34 X) (s 325) ∧ bd σ X N z (sR σ 35 X) (s 326)
/-- phrase p, at a: kind k, replacing or not -/
def phI (σ : iS) (X : Nat) (m : Nat → Nat → Int32) (N : Nat) (z : Nat → Nat) (a p : Nat) : Prop :=
  (X + 41 < a ∧ a < sX σ ∧ sK σ a = 4 ∧ sI σ 137 a = 0) ∧ (X + 41 < sR σ 132 a ∧ sR σ 132 a < sX σ ∧ sK σ (sR σ 132 a) = 3) ∧ bd σ X N z (sR σ 96 (sR σ 132 a)) (m 7 p) ∧ bd σ X N z (sR σ 97 (sR σ 132 a)) (m 8 p) ∧
  ∃ (k : Nat) (rp : Bool), k < 4 ∧ m 4 p = nI (k + if rp then 10 else 0) ∧ sI σ 128 a = nI k ∧ (k = 0 → sR σ 129 a = 0 ∧ sI σ 133 a = nI 1) ∧
    (k ≠ 0 → ∃ j, j < N ∧ 0 < z j ∧ sR σ 129 a = sB σ (X + 1) j ∧ m 5 p = nI j ∧ sI σ 133 a = nI (z j)) ∧ (rp = false → sR σ 131 a = 0 ∧ ∃ q, q < 10 ∧ sI σ 130 a = nI q ∧ m 6 p = nI q) ∧
    (rp = true → ∃ i, i < N ∧ sR σ 131 a = sB σ (X + 1) i ∧ m 6 p = nI i ∧ sI σ 133 a = nI (z i))
def cPh (σ : iS) (X : Nat) (s : Nat → Int32) (m : Nat → Nat → Int32) (N : Nat) (z : Nat → Nat) : Prop :=
  ∃ P, P ≤ 20 ∧ s 336 = nI P ∧ sI σ 161 (X + 2) = nI P ∧ (∀ p, p < P → phI σ X m N z (sB σ (X + 3) p) p) ∧ ∀ p q, p < P → q < P → sB σ (X + 3) p = sB σ (X + 3) q → p = q
def cCo (σ : iS) (X : Nat) (m : Nat → Nat → Int32) : Prop := ∀ k, k < 10 → sA σ (X + 4) k = m 13 k
def paI (σ : iS) (X : Nat) (m : Nat → Nat → Int32) (N : Nat) (z : Nat → Nat) (a p : Nat) : Prop :=
  (X + 41 < a ∧ a < sX σ) ∧ sK σ a = 6 ∧ (∃ i, i < N ∧ sR σ 192 a = sB σ (X + 1) i ∧ m 14 p = nI i) ∧ bd σ X N z (sR σ 193 a) (m 15 p)
def cPa (σ : iS) (X : Nat) (s : Nat → Int32) (m : Nat → Nat → Int32) (N : Nat) (z : Nat → Nat) : Prop :=
  ∃ P, P ≤ 20 ∧ s 340 = nI P ∧ sI σ 225 (X + 6) = nI P ∧ ∀ p, p < P → paI σ X m N z (sB σ (X + 7) p) p
def cDe (σ : iS) (X : Nat) (s : Nat → Int32) (m : Nat → Nat → Int32) (N : Nat) (z : Nat → Nat) : Prop :=
  ∃ D, D ≤ 8 ∧ s 346 = nI D ∧ sI σ 258 (X + 8) = nI D ∧ ∀ d, d < D → (∃ l, l < N ∧ 0 < z l ∧ sB σ (X + 9) d = sB σ (X + 1) l ∧ m 16 d = nI l) ∧ ∃ b, sA σ (X + 10) d = bI b ∧ m 20 d = bI b
def cRc (σ : iS) (X : Nat) (s : Nat → Int32) (m : Nat → Nat → Int32) (N : Nat) : Prop :=
  ∃ R, R ≤ 20 ∧ s 347 = nI R ∧ sI σ 260 (X + 8) = nI R ∧ ∀ r, r < R → ∃ i, i < N ∧ sB σ (X + 11) r = sB σ (X + 1) i ∧ m 17 r = nI i
def cRs (σ : iS) (X : Nat) (m : Nat → Nat → Int32) : Prop :=
  ∃ V, V ≤ 20 ∧ sI σ 264 (X + 8) = nI V ∧ (∀ i, i < V → m 18 i = sA σ (X + 13) i ∧ m 19 i = sA σ (X + 14) i) ∧ ∀ i, V ≤ i → i < 20 → m 18 i = -1 ∧ m 19 i = -1
def cPo (σ : iS) (X : Nat) (s : Nat → Int32) : Prop := sI σ 39 X = s 348
def cBs (σ : iS) (X : Nat) (s : Nat → Int32) (m : Nat → Nat → Int32) (T : Nat) (y : Nat → Nat) : Prop :=
  s 352 = nI T ∧ T ≤ 10 ∧ sI σ 41 X = nI T ∧ (∀ j, j < T → (X + 41 < sB σ (X + 16) j ∧ sB σ (X + 16) j + 1 < sX σ) ∧ sK σ (sB σ (X + 16) j) = 9 ∧ sR σ 288 (sB σ (X + 16) j) = sB σ (X + 16) j + 1 ∧ sK σ (sB σ (X + 16) j + 1) = 101 ∧ sN σ (sB σ (X + 16) j + 1) = y j ∧ m 22 j = nI (y j) ∧ 1 ≤ y j ∧ y j ≤ 60) ∧ ∀ i j, i < T → j < T → sB σ (X + 16) i = sB σ (X + 16) j → i = j
def cIx (σ : iS) (X : Nat) (m : Nat → Nat → Int32) (T : Nat) (y : Nat → Nat) : Prop := ∀ j, j < T → ∃ i, (1 ≤ i ∧ i ≤ y j) ∧ sI σ 289 (sB σ (X + 16) j) = nI i ∧ m 23 j = nI i
def cKy (σ : iS) (X : Nat) (m : Nat → Nat → Int32) (T : Nat) (y : Nat → Nat) : Prop := (∀ j k, j < T → k < y j → sA σ (sB σ (X + 16) j + 1) k = m 21 (60 * j + k)) ∧ ∀ j k, T ≤ j → j < 10 → k < 60 → m 21 (60 * j + k) = 0
/-- what may have changed: in the heap (fq), in the model's memory S and C -/
def kx (X : Nat) (σ σ' : iS) (s s' : Nat → Int32) (m m' : Nat → Nat → Int32) (I : List Nat) (A B : Nat → Prop) (r : Bool) (S C : List Nat) : Prop :=
  fq X σ σ' I A B r ∧ (∀ f, f ∉ S → s' f = s f) ∧ ∀ c, c ∉ C → ∀ k, m' c k = m c k
/-- the texts stay; there may be more -/
def tm2 (X : Nat) (σ σ' : iS) (N : Nat) (z : Nat → Nat) (N' : Nat) (z' : Nat → Nat) : Prop := N ≤ N' ∧ ∀ j, j < N → z' j = z j ∧ sB σ' (X + 1) j = sB σ (X + 1) j
section KX
variable {X : Nat} {σ σ' : iS} {s s' : Nat → Int32} {m m' : Nat → Nat → Int32} {I : List Nat} {A B : Nat → Prop} {r : Bool} {S C : List Nat} {N N' T : Nat} {z z' y : Nat → Nat}
theorem tm2_0 (q : kx X σ σ' s s' m m' I A B r S C) (b1 : ¬ B (X + 1)) : tm2 X σ σ' N z N z :=
  ⟨Nat.le_refl _, fun j _ => ⟨rfl, q.1.2.2.2.2.2.2 _ _ (by have := q.1.1; omega) b1⟩⟩
theorem sh_c (h : sh σ X) (q : fq X σ σ' I A B r) : sh σ' X := by
  obtain ⟨⟨h1, h2⟩, h3, h4, h5⟩ := h
  have c1 : ∀ p ∈ xCe, p.1 ≤ 16 := by decide
  have c2 : ∀ p ∈ xLe, p.1 ≤ 16 := by decide
  have c3 : ∀ p ∈ xRe, p.2.1 ≤ 16 ∧ p.1 ≠ 34 ∧ p.1 ≠ 35 := by decide
  refine ⟨⟨h1, Nat.lt_of_lt_of_le h2 q.2.1⟩, fun p hp => ?_, fun p hp => ?_, fun p hp => ?_⟩
  · rw [(q.2.2.1 _ (by have := c1 p hp; omega)).1]; exact h3 p hp
  · rw [(q.2.2.1 _ (by have := c2 p hp; omega)).2]; exact h4 p hp
  · rw [q.2.2.2.1 _ _ (by have := (c3 p hp).1; omega) (fun _ => (c3 p hp).2)]; exact h5 p hp
theorem cTs_c (h : cTs σ X s m N z) (q : kx X σ σ' s s' m m' I A B r S C) (i1 : 33 ∉ I) (b1 : ¬ B (X + 1)) (s1 : 324 ∉ S) (c1 : 3 ∉ C) : cTs σ' X s' m' N z := by
  obtain ⟨⟨q0, q1, q2, q3, q4, q5, q6⟩, q7, q8⟩ := q
  obtain ⟨h1, h2, h3, h4, h5⟩ := h
  have eB : ∀ j, sB σ' (X + 1) j = sB σ (X + 1) j := fun j => q6 _ _ (by omega) b1
  refine ⟨by rw [q7 _ s1]; exact h1, h2, by rw [q4 _ _ (by omega) (fo_m (by omega) (by omega)) i1]; exact h3, fun j hj => ?_, fun i j hi hj => ?_⟩
  · obtain ⟨⟨g1, g2⟩, g3, g4, g5, g6, g7, g8⟩ := h4 j hj
    rw [eB, (q2 _ (show sB σ (X + 1) j < sX σ by omega)).1, (q2 _ g2).1, (q2 _ g2).2, q3 _ _ (show sB σ (X + 1) j < sX σ by omega) (fun _ => by decide), q8 _ c1]
    exact ⟨⟨g1, by omega⟩, g3, g4, g5, g6, g7, g8⟩
  · rw [eB, eB]; exact h5 i j hi hj
theorem cSg_c (h : cSg σ X m N z) (hT : cTs σ X s m N z) (q : kx X σ σ' s s' m m' I A B r S C) (b1 : ¬ B (X + 1)) (a1 : ∀ j, j < N → ¬ A (sB σ (X + 1) j + 1)) (c1 : 1 ∉ C) : cSg σ' X m' N z := by
  obtain ⟨⟨q0, q1, q2, q3, q4, q5, q6⟩, q7, q8⟩ := q
  intro j k hj hk
  obtain ⟨⟨g1, g2⟩, -⟩ := hT.2.2.2.1 j hj
  rw [q6 _ _ (by omega) b1, q5 _ _ g2 (fo_n (by omega)) (a1 j hj), q8 _ c1]
  exact h j k hj hk
theorem bd_c {a : Nat} {x : Int32} (h : bd σ X N z a x) (t : tm2 X σ σ' N z N' z') : bd σ' X N' z' a x := by
  rcases h with h | ⟨j, h1, h2, h3, h4⟩
  · exact Or.inl h
  · obtain ⟨e1, e2⟩ := t.2 j h1
    exact Or.inr ⟨j, Nat.lt_of_lt_of_le h1 t.1, by rw [e1]; exact h2, by rw [e2]; exact h3, h4⟩
theorem cSp_c (h : cSp σ X s N z) (q : kx X σ σ' s s' m m' I A B r S C) (t : tm2 X σ σ' N z N' z') (hr : r = false) (s1 : 325 ∉ S ∧ 326 ∉ S) : cSp σ' X s' N' z' := by
  obtain ⟨⟨q0, q1, q2, q3, q4, q5, q6⟩, q7, q8⟩ := q
  obtain ⟨h1, h2⟩ := h
  refine ⟨?_, ?_⟩
  · rw [q7 _ s1.1, q3 _ _ (by omega) (fun e => by rw [hr] at e; exact absurd e (by decide))]; exact bd_c h1 t
  · rw [q7 _ s1.2, q3 _ _ (by omega) (fun e => by rw [hr] at e; exact absurd e (by decide))]; exact bd_c h2 t
theorem phI_c {a p : Nat} (h : phI σ X m N z a p) (q : kx X σ σ' s s' m m' I A B r S C) (t : tm2 X σ σ' N z N' z') (i1 : ∀ f ∈ [128, 130, 133, 137], f ∉ I) (hm : ∀ c ∈ [4, 5, 6, 7, 8], m' c p = m c p) : phI σ' X m' N' z' a p := by
  obtain ⟨⟨q0, q1, q2, q3, q4, q5, q6⟩, q7, q8⟩ := q
  obtain ⟨⟨h1, h2, h3, h4⟩, ⟨h5, h6, h7⟩, h8, h9, k, rp, h10, h11, h12, h13, h14, h15, h16⟩ := h
  have hf : ¬ fo X a := fo_n (by omega)
  have eR : ∀ f, f ≠ 34 → f ≠ 35 → sR σ' f a = sR σ f a := fun f f1 f2 => q3 f a h2 (fun _ => ⟨f1, f2⟩)
  have eR2 : ∀ f, f ≠ 34 → f ≠ 35 → sR σ' f (sR σ 132 a) = sR σ f (sR σ 132 a) := fun f f1 f2 => q3 f _ h6 (fun _ => ⟨f1, f2⟩)
  have eI : ∀ f, f ∉ I → sI σ' f a = sI σ f a := fun f => q4 f a h2 hf
  unfold phI
  rw [eR 132 (by decide) (by decide), eR2 96 (by decide) (by decide), eR2 97 (by decide) (by decide), eR 129 (by decide) (by decide), eR 131 (by decide) (by decide), eI 128 (i1 _ (by decide)), eI 130 (i1 _ (by decide)), eI 133 (i1 _ (by decide)), eI 137 (i1 _ (by decide)), (q2 a h2).1, (q2 _ h6).1, hm 4 (by decide), hm 5 (by decide), hm 6 (by decide), hm 7 (by decide), hm 8 (by decide)]
  refine ⟨⟨h1, by omega, h3, h4⟩, ⟨h5, by omega, h7⟩, bd_c h8 t, bd_c h9 t, k, rp, h10, h11, h12, h13, fun e => ?_, h15, fun e => ?_⟩
  · obtain ⟨j, g1, g2, g3, g4, g5⟩ := h14 e
    obtain ⟨e1, e2⟩ := t.2 j g1
    exact ⟨j, Nat.lt_of_lt_of_le g1 t.1, by rw [e1]; exact g2, by rw [e2]; exact g3, g4, by rw [e1]; exact g5⟩
  · obtain ⟨i, g1, g2, g3, g4⟩ := h16 e
    obtain ⟨e1, e2⟩ := t.2 i g1
    exact ⟨i, Nat.lt_of_lt_of_le g1 t.1, by rw [e2]; exact g2, g3, by rw [e1]; exact g4⟩
theorem cPh_c (h : cPh σ X s m N z) (q : kx X σ σ' s s' m m' I A B r S C) (t : tm2 X σ σ' N z N' z') (i1 : ∀ f ∈ [128, 130, 133, 137, 161], f ∉ I) (b1 : ¬ B (X + 3)) (s1 : 336 ∉ S) (c1 : ∀ c ∈ [4, 5, 6, 7, 8], c ∉ C) : cPh σ' X s' m' N' z' := by
  obtain ⟨P, h1, h2, h3, h4, h5⟩ := h
  have q0 := q.1.1
  have eB : ∀ j, sB σ' (X + 3) j = sB σ (X + 3) j := fun j => q.1.2.2.2.2.2.2 _ _ (by omega) b1
  refine ⟨P, h1, by rw [q.2.1 _ s1]; exact h2, by rw [q.1.2.2.2.2.1 _ _ (by omega) (fo_m (by omega) (by omega)) (i1 161 (by decide))]; exact h3, fun p hp => ?_, fun p p' h6 h7 => ?_⟩
  · rw [eB]
    exact phI_c (h4 p hp) q t (fun f hf => i1 f (by revert f; decide)) (fun c hc => q.2.2 c (c1 c hc) p)
  · rw [eB, eB]; exact h5 p p' h6 h7
theorem cCo_c (h : cCo σ X m) (q : kx X σ σ' s s' m m' I A B r S C) (a1 : ¬ A (X + 4)) (c1 : 13 ∉ C) : cCo σ' X m' := by
  have q0 := q.1.1
  intro k hk
  rw [q.1.2.2.2.2.2.1 _ _ (by omega) (fo_m (by omega) (by omega)) a1, q.2.2 _ c1]
  exact h k hk
theorem paI_c {a p : Nat} (h : paI σ X m N z a p) (q : kx X σ σ' s s' m m' I A B r S C) (t : tm2 X σ σ' N z N' z') (hm : ∀ c ∈ [14, 15], m' c p = m c p) : paI σ' X m' N' z' a p := by
  obtain ⟨⟨q0, q1, q2, q3, q4, q5, q6⟩, q7, q8⟩ := q
  obtain ⟨⟨h1, h2⟩, h3, ⟨i, g1, g2, g3⟩, h5⟩ := h
  obtain ⟨e1, e2⟩ := t.2 i g1
  unfold paI
  rw [q3 _ _ h2 (fun _ => by decide), q3 _ _ h2 (fun _ => by decide), (q2 a h2).1, hm 14 (by decide), hm 15 (by decide)]
  exact ⟨⟨h1, by omega⟩, h3, ⟨i, Nat.lt_of_lt_of_le g1 t.1, by rw [e2]; exact g2, g3⟩, bd_c h5 t⟩
theorem cPa_c (h : cPa σ X s m N z) (q : kx X σ σ' s s' m m' I A B r S C) (t : tm2 X σ σ' N z N' z') (i1 : 225 ∉ I) (b1 : ¬ B (X + 7)) (s1 : 340 ∉ S) (c1 : ∀ c ∈ [14, 15], c ∉ C) : cPa σ' X s' m' N' z' := by
  obtain ⟨P, h1, h2, h3, h4⟩ := h
  have q0 := q.1.1
  have eB : ∀ j, sB σ' (X + 7) j = sB σ (X + 7) j := fun j => q.1.2.2.2.2.2.2 _ _ (by omega) b1
  refine ⟨P, h1, by rw [q.2.1 _ s1]; exact h2, by rw [q.1.2.2.2.2.1 _ _ (by omega) (fo_m (by omega) (by omega)) i1]; exact h3, fun p hp => ?_⟩
  rw [eB]
  exact paI_c (h4 p hp) q t (fun c hc => q.2.2 c (c1 c hc) p)
theorem cDe_c (h : cDe σ X s m N z) (q : kx X σ σ' s s' m m' I A B r S C) (t : tm2 X σ σ' N z N' z') (i1 : 258 ∉ I) (a1 : ¬ A (X + 10)) (b1 : ¬ B (X + 9)) (s1 : 346 ∉ S) (c1 : 16 ∉ C ∧ 20 ∉ C) : cDe σ' X s' m' N' z' := by
  obtain ⟨D, h1, h2, h3, h4⟩ := h
  have q0 := q.1.1
  refine ⟨D, h1, by rw [q.2.1 _ s1]; exact h2, by rw [q.1.2.2.2.2.1 _ _ (by omega) (fo_m (by omega) (by omega)) i1]; exact h3, fun d hd => ?_⟩
  obtain ⟨⟨l, g1, g2, g3, g4⟩, b, g5, g6⟩ := h4 d hd
  obtain ⟨e1, e2⟩ := t.2 l g1
  rw [q.1.2.2.2.2.2.2 _ _ (by omega) b1, q.1.2.2.2.2.2.1 _ _ (by omega) (fo_m (by omega) (by omega)) a1, q.2.2 _ c1.1, q.2.2 _ c1.2]
  exact ⟨⟨l, Nat.lt_of_lt_of_le g1 t.1, by rw [e1]; exact g2, by rw [e2]; exact g3, g4⟩, b, g5, g6⟩
theorem cRc_c (h : cRc σ X s m N) (q : kx X σ σ' s s' m m' I A B r S C) (t : tm2 X σ σ' N z N' z') (i1 : 260 ∉ I) (b1 : ¬ B (X + 11)) (s1 : 347 ∉ S) (c1 : 17 ∉ C) : cRc σ' X s' m' N' := by
  obtain ⟨R, h1, h2, h3, h4⟩ := h
  have q0 := q.1.1
  refine ⟨R, h1, by rw [q.2.1 _ s1]; exact h2, by rw [q.1.2.2.2.2.1 _ _ (by omega) (fo_m (by omega) (by omega)) i1]; exact h3, fun d hd => ?_⟩
  obtain ⟨l, g1, g3, g4⟩ := h4 d hd
  obtain ⟨e1, e2⟩ := t.2 l g1
  rw [q.1.2.2.2.2.2.2 _ _ (by omega) b1, q.2.2 _ c1]
  exact ⟨l, Nat.lt_of_lt_of_le g1 t.1, by rw [e2]; exact g3, g4⟩
theorem cRs_c (h : cRs σ X m) (q : kx X σ σ' s s' m m' I A B r S C) (i1 : 264 ∉ I) (a1 : ¬ A (X + 13) ∧ ¬ A (X + 14)) (c1 : 18 ∉ C ∧ 19 ∉ C) : cRs σ' X m' := by
  obtain ⟨V, h1, h2, h3, h4⟩ := h
  have q0 := q.1.1
  refine ⟨V, h1, by rw [q.1.2.2.2.2.1 _ _ (by omega) (fo_m (by omega) (by omega)) i1]; exact h2, fun i hi => ?_, fun i hi hi2 => ?_⟩
  · rw [q.1.2.2.2.2.2.1 _ _ (by omega) (fo_m (by omega) (by omega)) a1.1, q.1.2.2.2.2.2.1 _ _ (by omega) (fo_m (by omega) (by omega)) a1.2, q.2.2 _ c1.1, q.2.2 _ c1.2]
    exact h3 i hi
  · rw [q.2.2 _ c1.1, q.2.2 _ c1.2]
    exact h4 i hi hi2
theorem cPo_c (h : cPo σ X s) (q : kx X σ σ' s s' m m' I A B r S C) (i1 : 39 ∉ I) (s1 : 348 ∉ S) : cPo σ' X s' := by
  have q0 := q.1.1
  unfold cPo
  rw [q.1.2.2.2.2.1 _ _ (by omega) (fo_m (by omega) (by omega)) i1, q.2.1 _ s1]
  exact h
theorem cBs_c (h : cBs σ X s m T y) (q : kx X σ σ' s s' m m' I A B r S C) (i1 : 41 ∉ I) (b1 : ¬ B (X + 16)) (s1 : 352 ∉ S) (c1 : 22 ∉ C) : cBs σ' X s' m' T y := by
  obtain ⟨⟨q0, q1, q2, q3, q4, q5, q6⟩, q7, q8⟩ := q
  obtain ⟨h1, h2, h3, h4, h5⟩ := h
  have eB : ∀ j, sB σ' (X + 16) j = sB σ (X + 16) j := fun j => q6 _ _ (by omega) b1
  refine ⟨by rw [q7 _ s1]; exact h1, h2, by rw [q4 _ _ (by omega) (fo_m (by omega) (by omega)) i1]; exact h3, fun j hj => ?_, fun i j hi hj => ?_⟩
  · obtain ⟨⟨g1, g2⟩, g3, g4, g5, g6, g7, g8⟩ := h4 j hj
    rw [eB, (q2 _ (show sB σ (X + 16) j < sX σ by omega)).1, (q2 _ g2).1, (q2 _ g2).2, q3 _ _ (show sB σ (X + 16) j < sX σ by omega) (fun _ => by decide), q8 _ c1]
    exact ⟨⟨g1, by omega⟩, g3, g4, g5, g6, g7, g8⟩
  · rw [eB, eB]; exact h5 i j hi hj
theorem cIx_c (h : cIx σ X m T y) (hT : cBs σ X s m T y) (q : kx X σ σ' s s' m m' I A B r S C) (i1 : 289 ∉ I) (b1 : ¬ B (X + 16)) (c1 : 23 ∉ C) : cIx σ' X m' T y := by
  obtain ⟨⟨q0, q1, q2, q3, q4, q5, q6⟩, q7, q8⟩ := q
  intro j hj
  obtain ⟨⟨g1, g2⟩, -⟩ := hT.2.2.2.1 j hj
  rw [q6 _ _ (by omega) b1, q4 _ _ (show sB σ (X + 16) j < sX σ by omega) (fo_n (by omega)) i1, q8 _ c1]
  exact h j hj
theorem cKy_c (h : cKy σ X m T y) (hT : cBs σ X s m T y) (q : kx X σ σ' s s' m m' I A B r S C) (b1 : ¬ B (X + 16)) (a1 : ∀ j, j < T → ¬ A (sB σ (X + 16) j + 1)) (c1 : 21 ∉ C) : cKy σ' X m' T y := by
  obtain ⟨⟨q0, q1, q2, q3, q4, q5, q6⟩, q7, q8⟩ := q
  refine ⟨fun j k hj hk => ?_, fun j k h1 h2 h3 => by rw [q8 _ c1]; exact h.2 j k h1 h2 h3⟩
  obtain ⟨⟨g1, g2⟩, -⟩ := hT.2.2.2.1 j hj
  rw [q6 _ _ (by omega) b1, q5 _ _ g2 (fo_n (by omega)) (a1 j hj), q8 _ c1]
  exact h.1 j k hj hk
end KX
/-- the class's cells say what the model's memory says -/
def CJ (σ : iS) (X : Nat) (s : Nat → Int32) (m : Nat → Nat → Int32) (N : Nat) (z : Nat → Nat) (T : Nat) (y : Nat → Nat) : Prop :=
  sh σ X ∧ cTs σ X s m N z ∧ cSg σ X m N z ∧ cSp σ X s N z ∧ cPh σ X s m N z ∧ cCo σ X m ∧ cPa σ X s m N z ∧ cDe σ X s m N z ∧ cRc σ X s m N ∧ cRs σ X m ∧ cPo σ X s ∧ cBs σ X s m T y ∧ cIx σ X m T y ∧ cKy σ X m T y
/-- nothing that counts has changed -/
theorem CJ_c {X : Nat} {σ σ' : iS} {s s' : Nat → Int32} {m m' : Nat → Nat → Int32} {N T : Nat} {z y : Nat → Nat} (h : CJ σ X s m N z T y) (q : kx X σ σ' s s' m m' [] (fun _ => False) (fun _ => False) false [320] [2, 9, 10, 11, 12]) : CJ σ' X s' m' N z T y := by
  obtain ⟨h1, h2, h3, h4, h5, h6, h7, h8, h9, h10, h11, h12, h13, h14⟩ := h
  have t := tm2_0 (N := N) (z := z) q (fun e => e)
  exact ⟨sh_c h1 q.1, cTs_c h2 q (by decide) (fun e => e) (by decide) (by decide), cSg_c h3 h2 q (fun e => e) (fun _ _ e => e) (by decide), cSp_c h4 q t rfl (by decide), cPh_c h5 q t (by decide) (fun e => e) (by decide) (by decide), cCo_c h6 q (fun e => e) (by decide), cPa_c h7 q t (by decide) (fun e => e) (by decide) (by decide), cDe_c h8 q t (by decide) (fun e => e) (fun e => e) (by decide) (by decide), cRc_c (z := z) (z' := z) h9 q t (by decide) (fun e => e) (by decide) (by decide), cRs_c h10 q (by decide) ⟨fun e => e, fun e => e⟩ (by decide), cPo_c h11 q (by decide) (by decide), cBs_c h12 q (by decide) (fun e => e) (by decide) (by decide), cIx_c h13 h12 q (by decide) (fun e => e) (by decide), cKy_c h14 h12 q (fun e => e) (fun _ _ e => e) (by decide)⟩
/-- the same for one state: other scratch -/
theorem CJ_m {X : Nat} {σ : iS} {s s' : Nat → Int32} {m m' : Nat → Nat → Int32} {N T : Nat} {z y : Nat → Nat} (h : CJ σ X s m N z T y) (hs : ∀ f, f ≠ 320 → s' f = s f) (hm : ∀ c, c ≠ 2 → ¬ (9 ≤ c ∧ c ≤ 12) → ∀ k, m' c k = m c k) : CJ (mw σ (X + 17) s' m') X s' m' N z T y := by
  refine CJ_c h ⟨fq_mw h.1.1.2, fun f hf => hs f (fun e => hf (by rw [e]; decide)), fun c hc => hm c (fun e => hc (by rw [e]; decide)) (fun e => ?_)⟩
  have e3 : c = 9 ∨ c = 10 ∨ c = 11 ∨ c = 12 := by omega
  rcases e3 with rfl | rfl | rfl | rfl
  · exact hc (by decide)
  · exact hc (by decide)
  · exact hc (by decide)
  · exact hc (by decide)
/-- thrown: nothing changed -/
theorem CJ_x {X : Nat} {σ : iS} {s : Nat → Int32} {m : Nat → Nat → Int32} {N T k : Nat} {z y : Nat → Nat} (h : CJ σ X s m N z T y) : CJ (nO σ k 6) X s m N z T y :=
  CJ_c h ⟨(fp_O (fp_0 h.1.1.2)).1, fun _ _ => rfl, fun _ _ _ => rfl⟩
