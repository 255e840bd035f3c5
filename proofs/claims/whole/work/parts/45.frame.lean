/-! LAYER 2: what a call of the class leaves alone: X the object's cell; the model lies behind X + 16. -/
/-- cells that are not the class's: the script, the model -/
def fo (X a : Nat) : Prop := a < X ∨ (X + 17 ≤ a ∧ a ≤ X + 40)
theorem fo_n {X a : Nat} (h : X + 41 ≤ a) : ¬ fo X a := fun q => by unfold fo at q; omega
theorem fo_m {X a : Nat} (h1 : X ≤ a) (h2 : a < X + 17) : ¬ fo X a := fun q => by unfold fo at q; omega
def fq (X : Nat) (σ σ' : iS) (I : List Nat) (A B : Nat → Prop) (r : Bool) : Prop :=
  X + 41 < sX σ ∧ sX σ ≤ sX σ' ∧ (∀ a, a < sX σ → sK σ' a = sK σ a ∧ sN σ' a = sN σ a) ∧
  (∀ f a, a < sX σ → (r = true → f ≠ 34 ∧ f ≠ 35) → sR σ' f a = sR σ f a) ∧
  (∀ f a, a < sX σ → ¬ fo X a → f ∉ I → sI σ' f a = sI σ f a) ∧
  (∀ a k, a < sX σ → ¬ fo X a → ¬ A a → sA σ' a k = sA σ a k) ∧
  (∀ a k, a < sX σ → ¬ B a → sB σ' a k = sB σ a k)
def ff (X : Nat) (σ σ' : iS) (e w : Nat) : Prop :=
  sX σ' ≤ sX σ + e ∧ sS σ' ≤ sS σ + w ∧ (∀ f a, fo X a → sI σ' f a = sI σ f a) ∧ ∀ a k, fo X a → sA σ' a k = sA σ a k
def fp (X : Nat) (σ σ' : iS) (I : List Nat) (A B : Nat → Prop) (r : Bool) (e w : Nat) : Prop := fq X σ σ' I A B r ∧ ff X σ σ' e w
section FP
variable {X : Nat} {σ τ : iS} {I : List Nat} {A B : Nat → Prop} {r : Bool} {e w : Nat}
theorem fp_0 (h : X + 41 < sX σ) : fp X σ σ I A B r 0 0 :=
  ⟨⟨h, Nat.le_refl _, fun _ _ => ⟨rfl, rfl⟩, fun _ _ _ _ => rfl, fun _ _ _ _ _ => rfl, fun _ _ _ _ _ => rfl, fun _ _ _ _ => rfl⟩, Nat.le_refl _, Nat.le_refl _, fun _ _ _ => rfl, fun _ _ _ => rfl⟩
theorem fp_w {e' w' : Nat} (h : fp X σ τ I A B r e w) (he : e ≤ e') (hw : w ≤ w') : fp X σ τ I A B r e' w' :=
  ⟨h.1, Nat.le_trans h.2.1 (by omega), Nat.le_trans h.2.2.1 (by omega), h.2.2.2⟩
theorem fo_x {a : Nat} (h : X + 41 < sX σ) (hf : fo X a) : a < sX σ := by unfold fo at hf; omega
theorem fp_I {g b : Nat} {x : Int32} (h : fp X σ τ I A B r e w) (hb : sX σ ≤ b ∨ (g ∈ I ∧ ¬ fo X b)) : fp X σ (wI τ g b x) I A B r e w := by
  obtain ⟨⟨h0, h1, h2, h3, h4, h5, h6⟩, h7, h8, h9, h10⟩ := h
  refine ⟨⟨h0, h1, h2, h3, fun f a ha hf hI => ?_, h5, h6⟩, h7, h8, fun f a hf => ?_, h10⟩
  · have hn : ¬ (f = g ∧ a = b) := fun q => hb.elim (fun z => by omega) (fun z => hI (q.1 ▸ z.1))
    show (if f = g ∧ a = b then x else sI τ f a) = sI σ f a
    rw [if_neg hn]; exact h4 f a ha hf hI
  · have hn : ¬ (f = g ∧ a = b) := fun q => hb.elim (fun z => by have := fo_x h0 hf; omega) (fun z => z.2 (q.2 ▸ hf))
    show (if f = g ∧ a = b then x else sI τ f a) = sI σ f a
    rw [if_neg hn]; exact h9 f a hf
theorem fp_R {g b x : Nat} (h : fp X σ τ I A B r e w) (hb : sX σ ≤ b ∨ (r = true ∧ (g = 34 ∨ g = 35))) : fp X σ (wR τ g b x) I A B r e w := by
  obtain ⟨⟨h0, h1, h2, h3, h4, h5, h6⟩, h7⟩ := h
  refine ⟨⟨h0, h1, h2, fun f a ha hr => ?_, h4, h5, h6⟩, h7⟩
  have hn : ¬ (f = g ∧ a = b) := fun q => hb.elim (fun z => by omega) (fun z => by have := hr z.1; omega)
  show (if f = g ∧ a = b then x else sR τ f a) = sR σ f a
  rw [if_neg hn]; exact h3 f a ha hr
theorem fp_A {b i : Nat} {x : Int32} (h : fp X σ τ I A B r e w) (hb : sX σ ≤ b ∨ (A b ∧ ¬ fo X b)) : fp X σ (wA τ b i x) I A B r e w := by
  obtain ⟨⟨h0, h1, h2, h3, h4, h5, h6⟩, h7, h8, h9, h10⟩ := h
  refine ⟨⟨h0, h1, h2, h3, h4, fun a k ha hf hA => ?_, h6⟩, h7, h8, h9, fun a k hf => ?_⟩
  · have hn : ¬ (a = b ∧ k = i) := fun q => hb.elim (fun z => by omega) (fun z => hA (q.1 ▸ z.1))
    show (if a = b ∧ k = i then x else sA τ a k) = sA σ a k
    rw [if_neg hn]; exact h5 a k ha hf hA
  · have hn : ¬ (a = b ∧ k = i) := fun q => hb.elim (fun z => by have := fo_x h0 hf; omega) (fun z => z.2 (q.1 ▸ hf))
    show (if a = b ∧ k = i then x else sA τ a k) = sA σ a k
    rw [if_neg hn]; exact h10 a k hf
theorem fp_V {b : Nat} {x : Nat → Int32} (h : fp X σ τ I A B r e w) (hb : sX σ ≤ b ∨ (A b ∧ ¬ fo X b)) : fp X σ (wV τ b x) I A B r e w := by
  obtain ⟨⟨h0, h1, h2, h3, h4, h5, h6⟩, h7, h8, h9, h10⟩ := h
  refine ⟨⟨h0, h1, h2, h3, h4, fun a k ha hf hA => ?_, h6⟩, h7, h8, h9, fun a k hf => ?_⟩
  · have hn : ¬ (a = b) := fun q => hb.elim (fun z => by omega) (fun z => hA (q ▸ z.1))
    rw [wV_o hn]; exact h5 a k ha hf hA
  · have hn : ¬ (a = b) := fun q => hb.elim (fun z => by have := fo_x h0 hf; omega) (fun z => z.2 (q ▸ hf))
    rw [wV_o hn]; exact h10 a k hf
theorem fp_B {b i x : Nat} (h : fp X σ τ I A B r e w) (hb : sX σ ≤ b ∨ B b) : fp X σ (wB τ b i x) I A B r e w := by
  obtain ⟨⟨h0, h1, h2, h3, h4, h5, h6⟩, h7⟩ := h
  refine ⟨⟨h0, h1, h2, h3, h4, h5, fun a k ha hB => ?_⟩, h7⟩
  have hn : ¬ (a = b ∧ k = i) := fun q => hb.elim (fun z => by omega) (fun z => hB (q.1 ▸ z))
  show (if a = b ∧ k = i then x else sB τ a k) = sB σ a k
  rw [if_neg hn]; exact h6 a k ha hB
theorem nO_I {k n f a : Nat} (h : a ≠ sX τ) : sI (nO τ k n) f a = sI τ f a := if_neg h
theorem nO_R {k n f a : Nat} (h : a ≠ sX τ) : sR (nO τ k n) f a = sR τ f a := if_neg h
theorem nO_K {k n a : Nat} (h : a ≠ sX τ) : sK (nO τ k n) a = sK τ a := if_neg h
theorem nO_Ks {k n : Nat} : sK (nO τ k n) (sX τ) = k := if_pos rfl
theorem nO_Is {k n f : Nat} : sI (nO τ k n) f (sX τ) = 0 := if_pos rfl
theorem nO_Rs {k n f : Nat} : sR (nO τ k n) f (sX τ) = 0 := if_pos rfl
theorem nA_A {k n a i : Nat} (h : a ≠ sX τ) : sA (nA τ k n) a i = sA τ a i := if_neg h
theorem nA_B {k n a i : Nat} (h : a ≠ sX τ) : sB (nA τ k n) a i = sB τ a i := if_neg h
theorem nA_K {k n a : Nat} (h : a ≠ sX τ) : sK (nA τ k n) a = sK τ a := if_neg h
theorem nA_N {k n a : Nat} (h : a ≠ sX τ) : sN (nA τ k n) a = sN τ a := if_neg h
theorem nA_Ks {k n : Nat} : sK (nA τ k n) (sX τ) = k := if_pos rfl
theorem nA_Ns {k n : Nat} : sN (nA τ k n) (sX τ) = n := if_pos rfl
theorem nA_As {k n i : Nat} : sA (nA τ k n) (sX τ) i = 0 := if_pos rfl
theorem wI_o {f g a b : Nat} {x : Int32} (h : f ≠ g) : sI (wI τ g b x) f a = sI τ f a := if_neg (fun q => h q.1)
theorem wI_k {f a b : Nat} {x : Int32} (h : a ≠ b) : sI (wI τ f b x) f a = sI τ f a := if_neg (fun q => h q.2)
theorem wI_s {f a : Nat} {x : Int32} : sI (wI τ f a x) f a = x := if_pos ⟨rfl, rfl⟩
theorem wR_o {f g a b x : Nat} (h : f ≠ g) : sR (wR τ g b x) f a = sR τ f a := if_neg (fun q => h q.1)
theorem wR_k {f a b x : Nat} (h : a ≠ b) : sR (wR τ f b x) f a = sR τ f a := if_neg (fun q => h q.2)
theorem wR_s {f a x : Nat} : sR (wR τ f a x) f a = x := if_pos ⟨rfl, rfl⟩
theorem wA_o {a b i k : Nat} {x : Int32} (h : a ≠ b) : sA (wA τ b i x) a k = sA τ a k := if_neg (fun q => h q.1)
theorem wA_k {a i k : Nat} {x : Int32} (h : k ≠ i) : sA (wA τ a i x) a k = sA τ a k := if_neg (fun q => h q.2)
theorem wA_s {a i : Nat} {x : Int32} : sA (wA τ a i x) a i = x := if_pos ⟨rfl, rfl⟩
theorem wB_o {a b i k x : Nat} (h : a ≠ b) : sB (wB τ b i x) a k = sB τ a k := if_neg (fun q => h q.1)
theorem wB_k {a i k x : Nat} (h : k ≠ i) : sB (wB τ a i x) a k = sB τ a k := if_neg (fun q => h q.2)
theorem wB_s {a i x : Nat} : sB (wB τ a i x) a i = x := if_pos ⟨rfl, rfl⟩
theorem fp_O {k n : Nat} (h : fp X σ τ I A B r e w) : fp X σ (nO τ k n) I A B r (e + 1) (w + n) := by
  obtain ⟨⟨h0, h1, h2, h3, h4, h5, h6⟩, h7, h8, h9, h10⟩ := h
  have hl : ∀ {a}, a < sX σ → a ≠ sX τ := fun ha => by omega
  refine ⟨⟨h0, Nat.le_succ_of_le h1, fun a ha => ?_, fun f a ha hr => ?_, fun f a ha hf hI => ?_, h5, h6⟩, ?_, ?_, fun f a hf => ?_, h10⟩
  · rw [nO_K (hl ha)]; exact h2 a ha
  · rw [nO_R (hl ha)]; exact h3 f a ha hr
  · rw [nO_I (hl ha)]; exact h4 f a ha hf hI
  · show sX τ + 1 ≤ _; omega
  · show sS τ + n ≤ _; omega
  · rw [nO_I (hl (fo_x h0 hf))]; exact h9 f a hf
theorem fp_N {k n : Nat} (h : fp X σ τ I A B r e w) : fp X σ (nA τ k n) I A B r (e + 1) (w + n) := by
  obtain ⟨⟨h0, h1, h2, h3, h4, h5, h6⟩, h7, h8, h9, h10⟩ := h
  have hl : ∀ {a}, a < sX σ → a ≠ sX τ := fun ha => by omega
  refine ⟨⟨h0, Nat.le_succ_of_le h1, fun a ha => ?_, h3, h4, fun a i ha hf hA => ?_, fun a i ha hB => ?_⟩, ?_, ?_, h9, fun a i hf => ?_⟩
  · rw [nA_K (hl ha), nA_N (hl ha)]; exact h2 a ha
  · rw [nA_A (hl ha)]; exact h5 a i ha hf hA
  · rw [nA_B (hl ha)]; exact h6 a i ha hB
  · show sX τ + 1 ≤ _; omega
  · show sS τ + n ≤ _; omega
  · rw [nA_A (hl (fo_x h0 hf))]; exact h10 a i hf
end FP
/-- the model's memory changed, and no more -/
theorem fq_mw {X : Nat} {σ : iS} {s : Nat → Int32} {m : Nat → Nat → Int32} {I : List Nat} {A B : Nat → Prop} {r : Bool} (h : X + 41 < sX σ) : fq X σ (mw σ (X + 17) s m) I A B r := by
  refine ⟨h, Nat.le_refl _, fun _ _ => ⟨rfl, rfl⟩, fun _ _ _ _ => rfl, fun f a _ hf _ => if_neg (fun q => hf ?_), fun a k _ hf _ => if_neg (fun q => hf ?_), fun _ _ _ _ => rfl⟩
  · unfold fo; omega
  · unfold fo; omega
