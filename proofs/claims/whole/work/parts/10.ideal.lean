/-! THE IDEAL MACHINE. Values: ints, references (0: null), longs. Heap: a map a field, maps for array elements, kinds, lengths; cells are real addresses. -/
abbrev iV : Type := Int32 ⊕ (Nat ⊕ Int64)
abbrev vi (x : Int32) : iV := Sum.inl x
abbrev vr (a : Nat) : iV := Sum.inr (Sum.inl a)
abbrev vl (y : Int64) : iV := Sum.inr (Sum.inr y)
/-- int fields, ref fields, int elements, ref elements, long elements, kinds, lengths, next cell, slots -/
abbrev iS : Type := (Nat → Nat → Int32) × (Nat → Nat → Nat) × (Nat → Nat → Int32) × (Nat → Nat → Nat) × (Nat → Nat → Int64) × (Nat → Nat) × (Nat → Nat) × Nat × Nat
def sI (σ : iS) : Nat → Nat → Int32 := σ.1
def sR (σ : iS) : Nat → Nat → Nat := σ.2.1
def sA (σ : iS) : Nat → Nat → Int32 := σ.2.2.1
def sB (σ : iS) : Nat → Nat → Nat := σ.2.2.2.1
def sL (σ : iS) : Nat → Nat → Int64 := σ.2.2.2.2.1
def sK (σ : iS) : Nat → Nat := σ.2.2.2.2.2.1
def sN (σ : iS) : Nat → Nat := σ.2.2.2.2.2.2.1
def sX (σ : iS) : Nat := σ.2.2.2.2.2.2.2.1
def sS (σ : iS) : Nat := σ.2.2.2.2.2.2.2.2
def u2 {α : Type} (f : Nat → Nat → α) (a i : Nat) (x : α) : Nat → Nat → α := fun b k => if b = a ∧ k = i then x else f b k
def u1 {α : Type} (f : Nat → α) (a : Nat) (x : α) : Nat → α := fun b => if b = a then x else f b
def uz {α : Type} (f : Nat → Nat → α) (a : Nat) (x : α) : Nat → Nat → α := fun b k => if b = a then x else f b k
def uf {α : Type} (f : Nat → Nat → α) (a : Nat) (x : α) : Nat → Nat → α := fun g b => if b = a then x else f g b
def wI (σ : iS) (f a : Nat) (x : Int32) : iS := (u2 (sI σ) f a x, sR σ, sA σ, sB σ, sL σ, sK σ, sN σ, sX σ, sS σ)
def wR (σ : iS) (f a : Nat) (x : Nat) : iS := (sI σ, u2 (sR σ) f a x, sA σ, sB σ, sL σ, sK σ, sN σ, sX σ, sS σ)
def wA (σ : iS) (a i : Nat) (x : Int32) : iS := (sI σ, sR σ, u2 (sA σ) a i x, sB σ, sL σ, sK σ, sN σ, sX σ, sS σ)
def wB (σ : iS) (a i : Nat) (x : Nat) : iS := (sI σ, sR σ, sA σ, u2 (sB σ) a i x, sL σ, sK σ, sN σ, sX σ, sS σ)
def wL (σ : iS) (a i : Nat) (x : Int64) : iS := (sI σ, sR σ, sA σ, sB σ, u2 (sL σ) a i x, sK σ, sN σ, sX σ, sS σ)
/-- a new object of kind k with n slots, its fields zero -/
def nO (σ : iS) (k n : Nat) : iS := (uf (sI σ) (sX σ) 0, uf (sR σ) (sX σ) 0, sA σ, sB σ, sL σ, u1 (sK σ) (sX σ) k, sN σ, sX σ + 1, sS σ + n)
/-- a new array of kind k, n long, its elements zero -/
def nA (σ : iS) (k n : Nat) : iS := (sI σ, sR σ, uz (sA σ) (sX σ) 0, uz (sB σ) (sX σ) 0, uz (sL σ) (sX σ) 0, u1 (sK σ) (sX σ) k, u1 (sN σ) (sX σ) n, sX σ + 1, sS σ + n)
/-- returned, or threw (number of the class, cell) -/
abbrev iO : Type := Option iV ⊕ (Nat × Nat)
/-- goes on at (pc, locals, stack, heap); ends; calls (method, arguments, rest of the stack) -/
abbrev iT : Type := (Nat × List iV × List iV × iS) ⊕ (iO × iS) ⊕ (Nat × List iV × List iV)
/-- the machine goes on -/
abbrev iGo (pc : Nat) (ls st : List iV) (σ : iS) : Option iT := some (.inl (pc, ls, st, σ))
/-- a jump whose target is no negative number -/
def iJ (pc : Nat) (off : Int) (ls st : List iV) (σ : iS) : Option iT := match (pc : Int) + off with
  | Int.ofNat t => iGo t ls st σ
  | Int.negSucc _ => none
def iArr (k : Nat) : Bool := Nat.ble 100 k && Nat.ble k 199
/-- an index lies in the array -/
def iIn (x : Int32) (n : Nat) : Prop := ¬ (x < 0 ∨ n ≤ x.toNatClampNeg)
def iBool (x : Int32) : Prop := x = 0 ∨ x = 1
/-- how much of the stack's room values take -/
def isum : List iV → Nat
  | [] => 0
  | .inr (.inr _) :: r => isum r + 2
  | _ :: r => isum r + 1
/-- no long among them -/
def inol : List iV → Bool
  | [] => true
  | .inr (.inr _) :: _ => false
  | _ :: r => inol r
/-- a guard, and a choice -/
noncomputable def iG (c : Prop) (t : Option iT) : Option iT := @ite _ c (Classical.propDecidable c) t none
noncomputable def iB (c : Prop) (t f : Option iT) : Option iT := @ite _ c (Classical.propDecidable c) t f
theorem iG_t {c : Prop} {t : Option iT} (h : c) : iG c t = t := if_pos h
theorem iG_s {c : Prop} {t : Option iT} {y : iT} (h : iG c t = some y) : c ∧ t = some y := by
  unfold iG at h
  split at h
  next hc => exact ⟨hc, h⟩
  next => cases h
theorem iB_t {c : Prop} {t f : Option iT} (h : c) : iB c t f = t := if_pos h
theorem iB_f {c : Prop} {t f : Option iT} (h : ¬ c) : iB c t f = f := if_neg h
/-- THE STEP: F gives a field's place by the pool number (kind of its object, field's number, 0 int, 1 boolean, 2 reference); M a callee (number, how many arguments with the receiver, the receiver's kind or 0; number 999: nothing happens); N what 'new' makes (kind, slots); V the kind of an array of references; E an exception's number where a throw begins; rb: the answer is a boolean -/
noncomputable def istep (F : Nat → Option (Nat × Nat × Nat)) (M : Nat → Option (Nat × Nat × Nat)) (N : Nat → Option (Nat × Nat)) (V : Nat → Option Nat) (E : Option Nat) (rb : Bool) (pc : Nat) (i : Instr) (len : Nat) (ls st : List iV) (σ : iS) : Option iT :=
  match i with
  | .iconst v => iGo (pc + len) ls (vi (Int32.ofInt v) :: st) σ
  | .bipush v => iGo (pc + len) ls (vi (Int8.ofInt v).toInt32 :: st) σ
  | .sipush v => iGo (pc + len) ls (vi (Int16.ofInt v).toInt32 :: st) σ
  | .aconst_null => iGo (pc + len) ls (vr 0 :: st) σ
  | .iload k => match ls[k]? with
    | some (.inl x) => iGo (pc + len) ls (vi x :: st) σ
    | _ => none
  | .iload_n k => match ls[k.val]? with
    | some (.inl x) => iGo (pc + len) ls (vi x :: st) σ
    | _ => none
  | .aload k => match ls[k]? with
    | some (.inr (.inl a)) => iGo (pc + len) ls (vr a :: st) σ
    | _ => none
  | .aload_n k => match ls[k.val]? with
    | some (.inr (.inl a)) => iGo (pc + len) ls (vr a :: st) σ
    | _ => none
  | .istore k => match st with
    | .inl x :: st => iG (k < ls.length) (iGo (pc + len) (ls.set k (vi x)) st σ)
    | _ => none
  | .istore_n k => match st with
    | .inl x :: st => iG (k.val < ls.length) (iGo (pc + len) (ls.set k.val (vi x)) st σ)
    | _ => none
  | .astore k => match st with
    | .inr (.inl a) :: st => iG (k < ls.length) (iGo (pc + len) (ls.set k (vr a)) st σ)
    | _ => none
  | .astore_n k => match st with
    | .inr (.inl a) :: st => iG (k.val < ls.length) (iGo (pc + len) (ls.set k.val (vr a)) st σ)
    | _ => none
  | .iinc k v => match ls[k]? with
    | some (.inl x) => iGo (pc + len) (ls.set k (vi (x + Int32.ofInt v))) st σ
    | _ => none
  | .iadd => match st with
    | .inl y :: .inl x :: st => iGo (pc + len) ls (vi (x + y) :: st) σ
    | _ => none
  | .isub => match st with
    | .inl y :: .inl x :: st => iGo (pc + len) ls (vi (x - y) :: st) σ
    | _ => none
  | .imul => match st with
    | .inl y :: .inl x :: st => iGo (pc + len) ls (vi (x * y) :: st) σ
    | _ => none
  | .iand => match st with
    | .inl y :: .inl x :: st => iGo (pc + len) ls (vi (x &&& y) :: st) σ
    | _ => none
  | .idiv => match st with
    | .inl y :: .inl x :: st => iG (y ≠ 0) (iGo (pc + len) ls (vi (x / y) :: st) σ)
    | _ => none
  | .irem => match st with
    | .inl y :: .inl x :: st => iG (y ≠ 0) (iGo (pc + len) ls (vi (x - x / y * y) :: st) σ)
    | _ => none
  | .i2l => match st with
    | .inl x :: st => iGo (pc + len) ls (vl x.toInt64 :: st) σ
    | _ => none
  | .lcmp => match st with
    | .inr (.inr y) :: .inr (.inr x) :: st => iB (x = y) (iGo (pc + len) ls (vi 0 :: st) σ) (iB (x < y) (iGo (pc + len) ls (vi (-1) :: st) σ) (iGo (pc + len) ls (vi 1 :: st) σ))
    | _ => none
  | .dup => match st with
    | .inl x :: st => iGo (pc + len) ls (vi x :: vi x :: st) σ
    | .inr (.inl a) :: st => iGo (pc + len) ls (vr a :: vr a :: st) σ
    | _ => none
  | .dup2 => match st with
    | .inl y :: .inr (.inl a) :: st => iGo (pc + len) ls (vi y :: vr a :: vi y :: vr a :: st) σ
    | _ => none
  | .pop => match st with
    | .inl _ :: st => iGo (pc + len) ls st σ
    | .inr (.inl _) :: st => iGo (pc + len) ls st σ
    | _ => none
  | .goto off => iJ pc off ls st σ
  | .ifCond c off => match c, st with
    | .eq, .inl x :: st => iB (x = 0) (iJ pc off ls st σ) (iGo (pc + len) ls st σ)
    | .ne, .inl x :: st => iB (x ≠ 0) (iJ pc off ls st σ) (iGo (pc + len) ls st σ)
    | .lt, .inl x :: st => iB (x < 0) (iJ pc off ls st σ) (iGo (pc + len) ls st σ)
    | .ge, .inl x :: st => iB (0 ≤ x) (iJ pc off ls st σ) (iGo (pc + len) ls st σ)
    | .gt, .inl x :: st => iB (0 < x) (iJ pc off ls st σ) (iGo (pc + len) ls st σ)
    | .le, .inl x :: st => iB (x ≤ 0) (iJ pc off ls st σ) (iGo (pc + len) ls st σ)
    | _, _ => none
  | .if_icmp c off => match c, st with
    | .eq, .inl y :: .inl x :: st => iB (x = y) (iJ pc off ls st σ) (iGo (pc + len) ls st σ)
    | .ne, .inl y :: .inl x :: st => iB (x ≠ y) (iJ pc off ls st σ) (iGo (pc + len) ls st σ)
    | .lt, .inl y :: .inl x :: st => iB (x < y) (iJ pc off ls st σ) (iGo (pc + len) ls st σ)
    | .ge, .inl y :: .inl x :: st => iB (y ≤ x) (iJ pc off ls st σ) (iGo (pc + len) ls st σ)
    | .gt, .inl y :: .inl x :: st => iB (y < x) (iJ pc off ls st σ) (iGo (pc + len) ls st σ)
    | .le, .inl y :: .inl x :: st => iB (x ≤ y) (iJ pc off ls st σ) (iGo (pc + len) ls st σ)
    | _, _ => none
  | .ifnull off => match st with
    | .inr (.inl a) :: st => iB (a = 0) (iJ pc off ls st σ) (iGo (pc + len) ls st σ)
    | _ => none
  | .ifnonnull off => match st with
    | .inr (.inl a) :: st => iB (a ≠ 0) (iJ pc off ls st σ) (iGo (pc + len) ls st σ)
    | _ => none
  | .tableswitch d lo hi offs => match st with
    | .inl x :: st => iB (x.toInt < lo ∨ hi < x.toInt) (iJ pc d ls st σ) (match offs[(x.toInt - lo).toNat]? with
      | some off => iJ pc off ls st σ
      | none => none)
    | _ => none
  | .lookupswitch d ps => match st with
    | .inl x :: st => iG ((ps.toList.zip (ps.toList.drop 1)).all (fun (a, next) => a.1 < next.1) = true) (iJ pc (Op.lookupswitch.offset ps.toList d x.toInt) ls st σ)
    | _ => none
  | .getfield k => match F k, st with
    | some (c, f, t), .inr (.inl a) :: st => iG (sK σ a = c) (match t with
      | 2 => iGo (pc + len) ls (vr (sR σ (c * 32 + f) a) :: st) σ
      | _ => iGo (pc + len) ls (vi (sI σ (c * 32 + f) a) :: st) σ)
    | _, _ => none
  | .putfield k => match F k, st with
    | some (c, f, 0), .inl x :: .inr (.inl a) :: st => iG (sK σ a = c) (iGo (pc + len) ls st (wI σ (c * 32 + f) a x))
    | some (c, f, 1), .inl x :: .inr (.inl a) :: st => iG (sK σ a = c ∧ iBool x) (iGo (pc + len) ls st (wI σ (c * 32 + f) a x))
    | some (c, f, 2), .inr (.inl b) :: .inr (.inl a) :: st => iG (sK σ a = c) (iGo (pc + len) ls st (wR σ (c * 32 + f) a b))
    | _, _ => none
  | .arraylength => match st with
    | .inr (.inl a) :: st => iG (iArr (sK σ a) = true) (iGo (pc + len) ls (vi (nI (sN σ a)) :: st) σ)
    | _ => none
  | .iaload => match st with
    | .inl x :: .inr (.inl a) :: st => iG ((sK σ a = 100 ∨ sK σ a = 101) ∧ iIn x (sN σ a)) (iGo (pc + len) ls (vi (sA σ a x.toNatClampNeg) :: st) σ)
    | _ => none
  | .baload => match st with
    | .inl x :: .inr (.inl a) :: st => iG (sK σ a = 102 ∧ iIn x (sN σ a)) (iGo (pc + len) ls (vi (sA σ a x.toNatClampNeg) :: st) σ)
    | _ => none
  | .laload => match st with
    | .inl x :: .inr (.inl a) :: st => iG (sK σ a = 103 ∧ iIn x (sN σ a)) (iGo (pc + len) ls (vl (sL σ a x.toNatClampNeg) :: st) σ)
    | _ => none
  | .aaload => match st with
    | .inl x :: .inr (.inl a) :: st => iG ((110 ≤ sK σ a ∧ sK σ a < 200) ∧ iIn x (sN σ a)) (iGo (pc + len) ls (vr (sB σ a x.toNatClampNeg) :: st) σ)
    | _ => none
  | .iastore => match st with
    | .inl y :: .inl x :: .inr (.inl a) :: st => iG (sK σ a = 101 ∧ iIn x (sN σ a)) (iGo (pc + len) ls st (wA σ a x.toNatClampNeg y))
    | _ => none
  | .bastore => match st with
    | .inl y :: .inl x :: .inr (.inl a) :: st => iG (sK σ a = 102 ∧ iBool y ∧ iIn x (sN σ a)) (iGo (pc + len) ls st (wA σ a x.toNatClampNeg y))
    | _ => none
  | .lastore => match st with
    | .inr (.inr y) :: .inl x :: .inr (.inl a) :: st => iG (sK σ a = 103 ∧ iIn x (sN σ a)) (iGo (pc + len) ls st (wL σ a x.toNatClampNeg y))
    | _ => none
  | .aastore => match st with
    | .inr (.inl b) :: .inl x :: .inr (.inl a) :: st => iG ((110 ≤ sK σ a ∧ sK σ a < 200) ∧ (b = 0 ∨ sK σ b + 110 = sK σ a) ∧ iIn x (sN σ a)) (iGo (pc + len) ls st (wB σ a x.toNatClampNeg b))
    | _ => none
  | .newarray t => match t, st with
    | .int, .inl x :: st => iG (¬ x < 0 ∧ x.toNatClampNeg ≤ 100000) (iGo (pc + len) ls (vr (sX σ) :: st) (nA σ 101 x.toNatClampNeg))
    | .boolean, .inl x :: st => iG (¬ x < 0 ∧ x.toNatClampNeg ≤ 100000) (iGo (pc + len) ls (vr (sX σ) :: st) (nA σ 102 x.toNatClampNeg))
    | .long, .inl x :: st => iG (¬ x < 0 ∧ x.toNatClampNeg ≤ 100000) (iGo (pc + len) ls (vr (sX σ) :: st) (nA σ 103 x.toNatClampNeg))
    | _, _ => none
  | .anewarray k => match V k, st with
    | some c, .inl x :: st => iG (¬ x < 0 ∧ x.toNatClampNeg ≤ 100000) (iGo (pc + len) ls (vr (sX σ) :: st) (nA σ (110 + c) x.toNatClampNeg))
    | _, _ => none
  | .new k => match E with
    | some e => iG (isum st ≤ 8) (some (.inr (.inl (.inr (e, sX σ), nO σ (200 + e) 6))))
    | none => match N k with
      | some (c, n) => iGo (pc + len) ls (vr (sX σ) :: st) (nO σ c n)
      | none => none
  | .invokestatic k => match M k with
    | some (j, n, 0) => iG ((n ≤ st.length ∧ isum (st.drop n) ≤ 8) ∧ inol (st.take n) = true) (some (.inr (.inr (j, (st.take n).reverse, st.drop n))))
    | _ => none
  | .invokevirtual k => match M k with
    | some (j, n, c + 1) => match (st.take n).reverse with
      | .inr (.inl a) :: as => iG (((n ≤ st.length ∧ isum (st.drop n) ≤ 8) ∧ inol (st.take n) = true) ∧ sK σ a = c + 1) (some (.inr (.inr (j, .inr (.inl a) :: as, st.drop n))))
      | _ => none
    | _ => none
  | .invokespecial k => match M k with
    | some (999, _, _) => match st with
      | .inr (.inl a) :: st => iG (isum st ≤ 8 ∧ a ≠ 0) (iGo (pc + len) ls st σ)
      | _ => none
    | some (j, n, c + 1) => match (st.take n).reverse with
      | .inr (.inl a) :: as => iG (((n ≤ st.length ∧ isum (st.drop n) ≤ 8) ∧ inol (st.take n) = true) ∧ sK σ a = c + 1) (some (.inr (.inr (j, .inr (.inl a) :: as, st.drop n))))
      | _ => none
    | _ => none
  | .ireturn => match st with
    | [.inl x] => iG (rb = true → iBool x) (some (.inr (.inl (.inl (some (vi x)), σ))))
    | _ => none
  | .areturn => match st with
    | [.inr (.inl a)] => some (.inr (.inl (.inl (some (vr a)), σ)))
    | _ => none
  | .return_ => match st with
    | [] => some (.inr (.inl (.inl none, σ)))
    | _ => none
  | _ => none
