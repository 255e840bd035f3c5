section
/-! THE IDEAL MACHINE. Values: ints, references (0: null), longs. Heap: a map a field, maps for array elements, kinds, lengths; cells are real addresses. -/
abbrev iV : Type := Int32 ⊕ (Nat ⊕ Int64)
abbrev vi (x : Int32) : iV := Sum.inl x
abbrev vr (a : Nat) : iV := Sum.inr (Sum.inl a)
abbrev vl (y : Int64) : iV := Sum.inr (Sum.inr y)
/-- int fields, ref fields, int elements, ref elements, long elements, kinds, lengths, next cell, slots -/
abbrev iS : Type := (Nat → Nat → Int32) × (Nat → Nat → Nat) × (Nat → Nat → Int32) × (Nat → Nat → Nat) × (Nat → Nat → Int64) × (Nat → Nat) × (Nat → Nat) × Nat × Nat
def sI (σ : iS) : Nat → Nat → Int32 := σ.1
def sR (σ : iS) : Nat → Nat → Nat := σ.2.1
def sA (σ : iS) : Nat → Nat → Int32 := σ.2.2.1
def sB (σ : iS) : Nat → Nat → Nat := σ.2.2.2.1
def sL (σ : iS) : Nat → Nat → Int64 := σ.2.2.2.2.1
def sK (σ : iS) : Nat → Nat := σ.2.2.2.2.2.1
def sN (σ : iS) : Nat → Nat := σ.2.2.2.2.2.2.1
def sX (σ : iS) : Nat := σ.2.2.2.2.2.2.2.1
def sS (σ : iS) : Nat := σ.2.2.2.2.2.2.2.2
def u2 {α : Type} (f : Nat → Nat → α) (a i : Nat) (x : α) : Nat → Nat → α := fun b k => if b = a ∧ k = i then x else f b k
def u1 {α : Type} (f : Nat → α) (a : Nat) (x : α) : Nat → α := fun b => if b = a then x else f b
def uz {α : Type} (f : Nat → Nat → α) (a : Nat) (x : α) : Nat → Nat → α := fun b k => if b = a then x else f b k
def uf {α : Type} (f : Nat → Nat → α) (a : Nat) (x : α) : Nat → Nat → α := fun g b => if b = a then x else f g b
def wI (σ : iS) (f a : Nat) (x : Int32) : iS := (u2 (sI σ) f a x, sR σ, sA σ, sB σ, sL σ, sK σ, sN σ, sX σ, sS σ)
def wR (σ : iS) (f a : Nat) (x : Nat) : iS := (sI σ, u2 (sR σ) f a x, sA σ, sB σ, sL σ, sK σ, sN σ, sX σ, sS σ)
def wA (σ : iS) (a i : Nat) (x : Int32) : iS := (sI σ, sR σ, u2 (sA σ) a i x, sB σ, sL σ, sK σ, sN σ, sX σ, sS σ)
def wB (σ : iS) (a i : Nat) (x : Nat) : iS := (sI σ, sR σ, sA σ, u2 (sB σ) a i x, sL σ, sK σ, sN σ, sX σ, sS σ)
def wL (σ : iS) (a i : Nat) (x : Int64) : iS := (sI σ, sR σ, sA σ, sB σ, u2 (sL σ) a i x, sK σ, sN σ, sX σ, sS σ)
/-- a new object of kind k with n slots, its fields zero -/
def nO (σ : iS) (k n : Nat) : iS := (uf (sI σ) (sX σ) 0, uf (sR σ) (sX σ) 0, sA σ, sB σ, sL σ, u1 (sK σ) (sX σ) k, sN σ, sX σ + 1, sS σ + n)
/-- a new array of kind k, n long, its elements zero -/
def nA (σ : iS) (k n : Nat) : iS := (sI σ, sR σ, uz (sA σ) (sX σ) 0, uz (sB σ) (sX σ) 0, uz (sL σ) (sX σ) 0, u1 (sK σ) (sX σ) k, u1 (sN σ) (sX σ) n, sX σ + 1, sS σ + n)
/-- returned, or threw (number of the class, cell) -/
abbrev iO : Type := Option iV ⊕ (Nat × Nat)
/-- goes on at (pc, locals, stack, heap); ends; calls (method, arguments, rest of the stack) -/
abbrev iT : Type := (Nat × List iV × List iV × iS) ⊕ (iO × iS) ⊕ (Nat × List iV × List iV)
/-- the machine goes on -/
abbrev iGo (pc : Nat) (ls st : List iV) (σ : iS) : Option iT := some (.inl (pc, ls, st, σ))
/-- a jump whose target is no negative number -/
def iJ (pc : Nat) (off : Int) (ls st : List iV) (σ : iS) : Option iT := match (pc : Int) + off with
  | Int.ofNat t => iGo t ls st σ
  | Int.negSucc _ => none
def iArr (k : Nat) : Bool := Nat.ble 100 k && Nat.ble k 199
/-- an index lies in the array -/
def iIn (x : Int32) (n : Nat) : Prop := ¬ (x < 0 ∨ n ≤ x.toNatClampNeg)
def iBool (x : Int32) : Prop := x = 0 ∨ x = 1
/-- how much of the stack's room values take -/
def isum : List iV → Nat
  | [] => 0
  | .inr (.inr _) :: r => isum r + 2
  | _ :: r => isum r + 1
/-- a guard, and a choice -/
noncomputable def iG (c : Prop) (t : Option iT) : Option iT := @ite _ c (Classical.propDecidable c) t none
noncomputable def iB (c : Prop) (t f : Option iT) : Option iT := @ite _ c (Classical.propDecidable c) t f
theorem iG_t {c : Prop} {t : Option iT} (h : c) : iG c t = t := if_pos h
theorem iG_s {c : Prop} {t : Option iT} {y : iT} (h : iG c t = some y) : c ∧ t = some y := by
  unfold iG at h
  split at h
  next hc => exact ⟨hc, h⟩
  next => cases h
theorem iB_t {c : Prop} {t f : Option iT} (h : c) : iB c t f = t := if_pos h
theorem iB_f {c : Prop} {t f : Option iT} (h : ¬ c) : iB c t f = f := if_neg h
/-- THE STEP: F gives a field's place by the pool number (kind of its object, field's number, 0 int, 1 boolean, 2 reference); M a callee (number, how many arguments with the receiver, the receiver's kind or 0; number 999: nothing happens); N what 'new' makes (kind, slots); V the kind of an array of references; E an exception's number where a throw begins; rb: the answer is a boolean -/
noncomputable def istep (F : Nat → Option (Nat × Nat × Nat)) (M : Nat → Option (Nat × Nat × Nat)) (N : Nat → Option (Nat × Nat)) (V : Nat → Option Nat) (E : Option Nat) (rb : Bool) (pc : Nat) (i : Instr) (len : Nat) (ls st : List iV) (σ : iS) : Option iT :=
  match i with
  | .iconst v => iGo (pc + len) ls (vi (Int32.ofInt v) :: st) σ
  | .bipush v => iGo (pc + len) ls (vi (Int8.ofInt v).toInt32 :: st) σ
  | .sipush v => iGo (pc + len) ls (vi (Int16.ofInt v).toInt32 :: st) σ
  | .aconst_null => iGo (pc + len) ls (vr 0 :: st) σ
  | .iload k => match ls[k]? with
    | some (.inl x) => iGo (pc + len) ls (vi x :: st) σ
    | _ => none
  | .iload_n k => match ls[k.val]? with
    | some (.inl x) => iGo (pc + len) ls (vi x :: st) σ
    | _ => none
  | .aload k => match ls[k]? with
    | some (.inr (.inl a)) => iGo (pc + len) ls (vr a :: st) σ
    | _ => none
  | .aload_n k => match ls[k.val]? with
    | some (.inr (.inl a)) => iGo (pc + len) ls (vr a :: st) σ
    | _ => none
  | .istore k => match st with
    | .inl x :: st => iG (k < ls.length) (iGo (pc + len) (ls.set k (vi x)) st σ)
    | _ => none
  | .istore_n k => match st with
    | .inl x :: st => iG (k.val < ls.length) (iGo (pc + len) (ls.set k.val (vi x)) st σ)
    | _ => none
  | .astore k => match st with
    | .inr (.inl a) :: st => iG (k < ls.length) (iGo (pc + len) (ls.set k (vr a)) st σ)
    | _ => none
  | .astore_n k => match st with
    | .inr (.inl a) :: st => iG (k.val < ls.length) (iGo (pc + len) (ls.set k.val (vr a)) st σ)
    | _ => none
  | .iinc k v => match ls[k]? with
    | some (.inl x) => iGo (pc + len) (ls.set k (vi (x + Int32.ofInt v))) st σ
    | _ => none
  | .iadd => match st with
    | .inl y :: .inl x :: st => iGo (pc + len) ls (vi (x + y) :: st) σ
    | _ => none
  | .isub => match st with
    | .inl y :: .inl x :: st => iGo (pc + len) ls (vi (x - y) :: st) σ
    | _ => none
  | .imul => match st with
    | .inl y :: .inl x :: st => iGo (pc + len) ls (vi (x * y) :: st) σ
    | _ => none
  | .iand => match st with
    | .inl y :: .inl x :: st => iGo (pc + len) ls (vi (x &&& y) :: st) σ
    | _ => none
  | .idiv => match st with
    | .inl y :: .inl x :: st => iG (y ≠ 0) (iGo (pc + len) ls (vi (x / y) :: st) σ)
    | _ => none
  | .irem => match st with
    | .inl y :: .inl x :: st => iG (y ≠ 0) (iGo (pc + len) ls (vi (x - x / y * y) :: st) σ)
    | _ => none
  | .i2l => match st with
    | .inl x :: st => iGo (pc + len) ls (vl x.toInt64 :: st) σ
    | _ => none
  | .lcmp => match st with
    | .inr (.inr y) :: .inr (.inr x) :: st => iB (x = y) (iGo (pc + len) ls (vi 0 :: st) σ) (iB (x < y) (iGo (pc + len) ls (vi (-1) :: st) σ) (iGo (pc + len) ls (vi 1 :: st) σ))
    | _ => none
  | .dup => match st with
    | .inl x :: st => iGo (pc + len) ls (vi x :: vi x :: st) σ
    | .inr (.inl a) :: st => iGo (pc + len) ls (vr a :: vr a :: st) σ
    | _ => none
  | .dup2 => match st with
    | .inl y :: .inr (.inl a) :: st => iGo (pc + len) ls (vi y :: vr a :: vi y :: vr a :: st) σ
    | _ => none
  | .pop => match st with
    | .inl _ :: st => iGo (pc + len) ls st σ
    | .inr (.inl _) :: st => iGo (pc + len) ls st σ
    | _ => none
  | .goto off => iJ pc off ls st σ
  | .ifCond c off => match c, st with
    | .eq, .inl x :: st => iB (x = 0) (iJ pc off ls st σ) (iGo (pc + len) ls st σ)
    | .ne, .inl x :: st => iB (x ≠ 0) (iJ pc off ls st σ) (iGo (pc + len) ls st σ)
    | .lt, .inl x :: st => iB (x < 0) (iJ pc off ls st σ) (iGo (pc + len) ls st σ)
    | .ge, .inl x :: st => iB (0 ≤ x) (iJ pc off ls st σ) (iGo (pc + len) ls st σ)
    | .gt, .inl x :: st => iB (0 < x) (iJ pc off ls st σ) (iGo (pc + len) ls st σ)
    | .le, .inl x :: st => iB (x ≤ 0) (iJ pc off ls st σ) (iGo (pc + len) ls st σ)
    | _, _ => none
  | .if_icmp c off => match c, st with
    | .eq, .inl y :: .inl x :: st => iB (x = y) (iJ pc off ls st σ) (iGo (pc + len) ls st σ)
    | .ne, .inl y :: .inl x :: st => iB (x ≠ y) (iJ pc off ls st σ) (iGo (pc + len) ls st σ)
    | .lt, .inl y :: .inl x :: st => iB (x < y) (iJ pc off ls st σ) (iGo (pc + len) ls st σ)
    | .ge, .inl y :: .inl x :: st => iB (y ≤ x) (iJ pc off ls st σ) (iGo (pc + len) ls st σ)
    | .gt, .inl y :: .inl x :: st => iB (y < x) (iJ pc off ls st σ) (iGo (pc + len) ls st σ)
    | .le, .inl y :: .inl x :: st => iB (x ≤ y) (iJ pc off ls st σ) (iGo (pc + len) ls st σ)
    | _, _ => none
  | .ifnull off => match st with
    | .inr (.inl a) :: st => iB (a = 0) (iJ pc off ls st σ) (iGo (pc + len) ls st σ)
    | _ => none
  | .ifnonnull off => match st with
    | .inr (.inl a) :: st => iB (a ≠ 0) (iJ pc off ls st σ) (iGo (pc + len) ls st σ)
    | _ => none
  | .tableswitch d lo hi offs => match st with
    | .inl x :: st => iB (x.toInt < lo ∨ hi < x.toInt) (iJ pc d ls st σ) (match offs[(x.toInt - lo).toNat]? with
      | some off => iJ pc off ls st σ
      | none => none)
    | _ => none
  | .lookupswitch d ps => match st with
    | .inl x :: st => iG ((ps.toList.zip (ps.toList.drop 1)).all (fun (a, next) => a.1 < next.1) = true) (iJ pc (Op.lookupswitch.offset ps.toList d x.toInt) ls st σ)
    | _ => none
  | .getfield k => match F k, st with
    | some (c, f, t), .inr (.inl a) :: st => iG (sK σ a = c) (match t with
      | 2 => iGo (pc + len) ls (vr (sR σ (c * 32 + f) a) :: st) σ
      | _ => iGo (pc + len) ls (vi (sI σ (c * 32 + f) a) :: st) σ)
    | _, _ => none
  | .putfield k => match F k, st with
    | some (c, f, 0), .inl x :: .inr (.inl a) :: st => iG (sK σ a = c) (iGo (pc + len) ls st (wI σ (c * 32 + f) a x))
    | some (c, f, 1), .inl x :: .inr (.inl a) :: st => iG (sK σ a = c ∧ iBool x) (iGo (pc + len) ls st (wI σ (c * 32 + f) a x))
    | some (c, f, 2), .inr (.inl b) :: .inr (.inl a) :: st => iG (sK σ a = c) (iGo (pc + len) ls st (wR σ (c * 32 + f) a b))
    | _, _ => none
  | .arraylength => match st with
    | .inr (.inl a) :: st => iG (iArr (sK σ a) = true) (iGo (pc + len) ls (vi (nI (sN σ a)) :: st) σ)
    | _ => none
  | .iaload => match st with
    | .inl x :: .inr (.inl a) :: st => iG ((sK σ a = 100 ∨ sK σ a = 101) ∧ iIn x (sN σ a)) (iGo (pc + len) ls (vi (sA σ a x.toNatClampNeg) :: st) σ)
    | _ => none
  | .baload => match st with
    | .inl x :: .inr (.inl a) :: st => iG (sK σ a = 102 ∧ iIn x (sN σ a)) (iGo (pc + len) ls (vi (sA σ a x.toNatClampNeg) :: st) σ)
    | _ => none
  | .laload => match st with
    | .inl x :: .inr (.inl a) :: st => iG (sK σ a = 103 ∧ iIn x (sN σ a)) (iGo (pc + len) ls (vl (sL σ a x.toNatClampNeg) :: st) σ)
    | _ => none
  | .aaload => match st with
    | .inl x :: .inr (.inl a) :: st => iG ((110 ≤ sK σ a ∧ sK σ a < 200) ∧ iIn x (sN σ a)) (iGo (pc + len) ls (vr (sB σ a x.toNatClampNeg) :: st) σ)
    | _ => none
  | .iastore => match st with
    | .inl y :: .inl x :: .inr (.inl a) :: st => iG (sK σ a = 101 ∧ iIn x (sN σ a)) (iGo (pc + len) ls st (wA σ a x.toNatClampNeg y))
    | _ => none
  | .bastore => match st with
    | .inl y :: .inl x :: .inr (.inl a) :: st => iG (sK σ a = 102 ∧ iBool y ∧ iIn x (sN σ a)) (iGo (pc + len) ls st (wA σ a x.toNatClampNeg y))
    | _ => none
  | .lastore => match st with
    | .inr (.inr y) :: .inl x :: .inr (.inl a) :: st => iG (sK σ a = 103 ∧ iIn x (sN σ a)) (iGo (pc + len) ls st (wL σ a x.toNatClampNeg y))
    | _ => none
  | .aastore => match st with
    | .inr (.inl b) :: .inl x :: .inr (.inl a) :: st => iG ((110 ≤ sK σ a ∧ sK σ a < 200) ∧ (b = 0 ∨ sK σ b + 110 = sK σ a) ∧ iIn x (sN σ a)) (iGo (pc + len) ls st (wB σ a x.toNatClampNeg b))
    | _ => none
  | .newarray t => match t, st with
    | .int, .inl x :: st => iG (¬ x < 0 ∧ x.toNatClampNeg ≤ 100000) (iGo (pc + len) ls (vr (sX σ) :: st) (nA σ 101 x.toNatClampNeg))
    | .boolean, .inl x :: st => iG (¬ x < 0 ∧ x.toNatClampNeg ≤ 100000) (iGo (pc + len) ls (vr (sX σ) :: st) (nA σ 102 x.toNatClampNeg))
    | .long, .inl x :: st => iG (¬ x < 0 ∧ x.toNatClampNeg ≤ 100000) (iGo (pc + len) ls (vr (sX σ) :: st) (nA σ 103 x.toNatClampNeg))
    | _, _ => none
  | .anewarray k => match V k, st with
    | some c, .inl x :: st => iG (¬ x < 0 ∧ x.toNatClampNeg ≤ 100000) (iGo (pc + len) ls (vr (sX σ) :: st) (nA σ (110 + c) x.toNatClampNeg))
    | _, _ => none
  | .new k => match E with
    | some e => iG (isum st ≤ 8) (some (.inr (.inl (.inr (e, sX σ), nO σ (200 + e) 6))))
    | none => match N k with
      | some (c, n) => iGo (pc + len) ls (vr (sX σ) :: st) (nO σ c n)
      | none => none
  | .invokestatic k => match M k with
    | some (j, n, 0) => iG (n ≤ st.length ∧ isum (st.drop n) ≤ 8) (some (.inr (.inr (j, (st.take n).reverse, st.drop n))))
    | _ => none
  | .invokevirtual k => match M k with
    | some (j, n, c + 1) => match (st.take n).reverse with
      | .inr (.inl a) :: as => iG ((n ≤ st.length ∧ isum (st.drop n) ≤ 8) ∧ sK σ a = c + 1) (some (.inr (.inr (j, .inr (.inl a) :: as, st.drop n))))
      | _ => none
    | _ => none
  | .invokespecial k => match M k with
    | some (999, _, _) => match st with
      | .inr (.inl a) :: st => iG (isum st ≤ 8 ∧ a ≠ 0) (iGo (pc + len) ls st σ)
      | _ => none
    | some (j, n, c + 1) => match (st.take n).reverse with
      | .inr (.inl a) :: as => iG ((n ≤ st.length ∧ isum (st.drop n) ≤ 8) ∧ sK σ a = c + 1) (some (.inr (.inr (j, .inr (.inl a) :: as, st.drop n))))
      | _ => none
    | _ => none
  | .ireturn => match st with
    | [.inl x] => iG (rb = true → iBool x) (some (.inr (.inl (.inl (some (vi x)), σ))))
    | _ => none
  | .areturn => match st with
    | [.inr (.inl a)] => some (.inr (.inl (.inl (some (vr a)), σ)))
    | _ => none
  | .return_ => match st with
    | [] => some (.inr (.inl (.inl none, σ)))
    | _ => none
  | _ => none
end
section
/-! THE PROGRAM as the ideal machine reads it: printed by gen2.py out of javap's listing -/
/-- 0: TextVerbs.<init>()V -/
def mC_0_0 : List (Nat × Instr × Nat) := [(0, .aload_n 0, 1), (1, .invokespecial 1, 3), (4, .aload_n 0, 1), (5, .bipush 40, 2), (7, .anewarray 9, 3), (10, .putfield 11, 3), (13, .aload_n 0, 1), (14, .new 15, 3), (17, .dup, 1), (18, .invokespecial 17, 3), (21, .putfield 18, 3), (24, .aload_n 0, 1), (25, .new 22, 3), (28, .dup, 1), (29, .invokespecial 24, 3), (32, .putfield 25, 3), (35, .aload_n 0, 1), (36, .new 29, 3), (39, .dup, 1), (40, .invokespecial 31, 3), (43, .putfield 32, 3), (46, .aload_n 0, 1), (47, .bipush 10, 2), (49, .anewarray 36, 3), (52, .putfield 38, 3), (55, .return_, 1)]
def mC_0 : List (List (Nat × Instr × Nat)) := [mC_0_0]
/-- 1: TextVerbs.text(I)I -/
def mC_1_0 : List (Nat × Instr × Nat) := [(0, .iload_n 1, 1), (1, .ifCond .lt 9, 3), (4, .iload_n 1, 1), (5, .bipush 60, 2), (7, .if_icmp .le 13, 3), (10, .new 42, 3), (13, .dup, 1), (14, .ldc 44, 2), (16, .invokespecial 46, 3), (19, .athrow, 1), (20, .aload_n 0, 1), (21, .getfield 49, 3), (24, .bipush 40, 2), (26, .if_icmp .lt 13, 3), (29, .new 53, 3), (32, .dup, 1), (33, .ldc 55, 2), (35, .invokespecial 57, 3), (38, .athrow, 1), (39, .aload_n 0, 1), (40, .getfield 11, 3), (43, .aload_n 0, 1), (44, .getfield 49, 3), (47, .new 9, 3), (50, .dup, 1), (51, .iload_n 1, 1), (52, .invokespecial 58, 3), (55, .aastore, 1), (56, .aload_n 0, 1), (57, .dup, 1), (58, .getfield 49, 3), (61, .iconst 1, 1), (62, .iadd, 1), (63, .putfield 49, 3)]
def mC_1_1 : List (Nat × Instr × Nat) := [(66, .aload_n 0, 1), (67, .getfield 49, 3), (70, .iconst 1, 1), (71, .isub, 1), (72, .ireturn, 1)]
def mC_1 : List (List (Nat × Instr × Nat)) := [mC_1_0, mC_1_1]
/-- 2: TextVerbs.set(III)V -/
def mC_2_0 : List (Nat × Instr × Nat) := [(0, .aload_n 0, 1), (1, .iload_n 1, 1), (2, .iload_n 2, 1), (3, .invokevirtual 61, 3), (6, .astore 4, 2), (8, .iload_n 3, 1), (9, .ifCond .lt 10, 3), (12, .iload_n 3, 1), (13, .sipush 255, 3), (16, .if_icmp .le 13, 3), (19, .new 42, 3), (22, .dup, 1), (23, .ldc 65, 2), (25, .invokespecial 46, 3), (28, .athrow, 1), (29, .aload 4, 2), (31, .getfield 67, 3), (34, .iload_n 2, 1), (35, .iload_n 3, 1), (36, .iastore, 1), (37, .return_, 1)]
def mC_2 : List (List (Nat × Instr × Nat)) := [mC_2_0]
/-- 3: TextVerbs.at(II)I -/
def mC_3_0 : List (Nat × Instr × Nat) := [(0, .aload_n 0, 1), (1, .iload_n 1, 1), (2, .iload_n 2, 1), (3, .invokevirtual 61, 3), (6, .getfield 67, 3), (9, .iload_n 2, 1), (10, .iaload, 1), (11, .ireturn, 1)]
def mC_3 : List (List (Nat × Instr × Nat)) := [mC_3_0]
/-- 4: TextVerbs.span(ZI)V -/
def mC_4_0 : List (Nat × Instr × Nat) := [(0, .aload_n 0, 1), (1, .iload_n 2, 1), (2, .invokevirtual 71, 3), (5, .astore_n 3, 1), (6, .iload_n 1, 1), (7, .ifCond .eq 11, 3), (10, .aload_n 0, 1), (11, .aload_n 3, 1), (12, .putfield 75, 3), (15, .goto 8, 3), (18, .aload_n 0, 1), (19, .aload_n 3, 1), (20, .putfield 79, 3), (23, .return_, 1)]
def mC_4 : List (List (Nat × Instr × Nat)) := [mC_4_0]
/-- 5: TextVerbs.tally(III)I -/
def mC_5_0 : List (Nat × Instr × Nat) := [(0, .iload_n 1, 1), (1, .iconst 2, 1), (2, .invokestatic 82, 3), (5, .aload_n 0, 1), (6, .iload_n 1, 1), (7, .iload_n 2, 1), (8, .invokevirtual 86, 3), (11, .astore 4, 2), (13, .iload_n 3, 1), (14, .invokestatic 89, 3), (17, .aload_n 0, 1), (18, .invokevirtual 92, 3), (21, .aload_n 0, 1), (22, .getfield 18, 3), (25, .new 95, 3), (28, .dup, 1), (29, .iload_n 1, 1), (30, .aload 4, 2), (32, .iload_n 3, 1), (33, .aconst_null, 1), (34, .aload_n 0, 1), (35, .invokevirtual 97, 3), (38, .invokespecial 101, 3), (41, .invokevirtual 104, 3), (44, .ireturn, 1)]
def mC_5 : List (List (Nat × Instr × Nat)) := [mC_5_0]
/-- 6: TextVerbs.replace(III)I -/
def mC_6_0 : List (Nat × Instr × Nat) := [(0, .iload_n 1, 1), (1, .iconst 3, 1), (2, .invokestatic 82, 3), (5, .aload_n 0, 1), (6, .iload_n 1, 1), (7, .iload_n 2, 1), (8, .invokevirtual 86, 3), (11, .astore 4, 2), (13, .aload_n 0, 1), (14, .iload_n 3, 1), (15, .invokevirtual 108, 3), (18, .astore 5, 2), (20, .aload 5, 2), (22, .invokevirtual 111, 3), (25, .aload 4, 2), (27, .invokestatic 115, 3), (30, .if_icmp .eq 13, 3), (33, .new 42, 3), (36, .dup, 1), (37, .ldc 119, 2), (39, .invokespecial 46, 3), (42, .athrow, 1), (43, .aload_n 0, 1), (44, .invokevirtual 92, 3), (47, .aload_n 0, 1), (48, .getfield 18, 3), (51, .new 95, 3), (54, .dup, 1), (55, .iload_n 1, 1), (56, .aload 4, 2), (58, .iconst (-1), 1), (59, .aload 5, 2), (61, .aload_n 0, 1), (62, .invokevirtual 97, 3)]
def mC_6_1 : List (Nat × Instr × Nat) := [(65, .invokespecial 101, 3), (68, .invokevirtual 104, 3), (71, .ireturn, 1)]
def mC_6 : List (List (Nat × Instr × Nat)) := [mC_6_0, mC_6_1]
/-- 7: TextVerbs.inspect(I)I -/
def mC_7_0 : List (Nat × Instr × Nat) := [(0, .aload_n 0, 1), (1, .getfield 18, 3), (4, .aload_n 0, 1), (5, .iload_n 1, 1), (6, .invokevirtual 108, 3), (9, .invokevirtual 121, 3), (12, .ireturn, 1)]
def mC_7 : List (List (Nat × Instr × Nat)) := [mC_7_0]
/-- 8: TextVerbs.convert(III)I -/
def mC_8_0 : List (Nat × Instr × Nat) := [(0, .aload_n 0, 1), (1, .iload_n 1, 1), (2, .invokevirtual 108, 3), (5, .astore 4, 2), (7, .aload_n 0, 1), (8, .iload_n 2, 1), (9, .invokevirtual 108, 3), (12, .astore 5, 2), (14, .aload_n 0, 1), (15, .iload_n 3, 1), (16, .invokevirtual 108, 3), (19, .astore 6, 2), (21, .aload 5, 2), (23, .invokevirtual 111, 3), (26, .aload 6, 2), (28, .invokevirtual 111, 3), (31, .if_icmp .eq 13, 3), (34, .new 42, 3), (37, .dup, 1), (38, .ldc 124, 2), (40, .invokespecial 46, 3), (43, .athrow, 1), (44, .aload_n 0, 1), (45, .getfield 18, 3), (48, .aload 4, 2), (50, .aload_n 0, 1), (51, .invokevirtual 97, 3), (54, .aload 5, 2), (56, .aload 6, 2), (58, .invokevirtual 126, 3), (61, .ireturn, 1)]
def mC_8 : List (List (Nat × Instr × Nat)) := [mC_8_0]
/-- 9: TextVerbs.counter(I)I -/
def mC_9_0 : List (Nat × Instr × Nat) := [(0, .iload_n 1, 1), (1, .invokestatic 89, 3), (4, .aload_n 0, 1), (5, .getfield 18, 3), (8, .iload_n 1, 1), (9, .invokevirtual 130, 3), (12, .ireturn, 1)]
def mC_9 : List (List (Nat × Instr × Nat)) := [mC_9_0]
/-- 10: TextVerbs.part(II)I -/
def mC_10_0 : List (Nat × Instr × Nat) := [(0, .aload_n 0, 1), (1, .iload_n 1, 1), (2, .invokevirtual 108, 3), (5, .astore_n 3, 1), (6, .iload_n 2, 1), (7, .iconst (-1), 1), (8, .if_icmp .ne 7, 3), (11, .aconst_null, 1), (12, .goto 8, 3), (15, .aload_n 0, 1), (16, .iload_n 2, 1), (17, .invokevirtual 71, 3), (20, .astore 4, 2), (22, .aload_n 0, 1), (23, .getfield 25, 3), (26, .getfield 134, 3), (29, .bipush 20, 2), (31, .if_icmp .lt 13, 3), (34, .new 53, 3), (37, .dup, 1), (38, .ldc 137, 2), (40, .invokespecial 57, 3), (43, .athrow, 1), (44, .aload_n 0, 1), (45, .getfield 25, 3), (48, .new 139, 3), (51, .dup, 1), (52, .aload_n 3, 1), (53, .aload 4, 2), (55, .invokespecial 141, 3), (58, .invokevirtual 144, 3), (61, .ireturn, 1)]
def mC_10 : List (List (Nat × Instr × Nat)) := [mC_10_0]
/-- 11: TextVerbs.join(II)I -/
def mC_11_0 : List (Nat × Instr × Nat) := [(0, .aload_n 0, 1), (1, .getfield 25, 3), (4, .aload_n 0, 1), (5, .iload_n 1, 1), (6, .invokevirtual 108, 3), (9, .iload_n 2, 1), (10, .invokevirtual 147, 3), (13, .istore_n 3, 1), (14, .aload_n 0, 1), (15, .aload_n 0, 1), (16, .getfield 25, 3), (19, .getfield 151, 3), (22, .putfield 154, 3), (25, .iload_n 3, 1), (26, .ifCond .eq 10, 3), (29, .aload_n 0, 1), (30, .getfield 154, 3), (33, .goto 4, 3), (36, .iconst (-1), 1), (37, .ireturn, 1)]
def mC_11 : List (List (Nat × Instr × Nat)) := [mC_11_0]
/-- 12: TextVerbs.delimiter(IZ)I -/
def mC_12_0 : List (Nat × Instr × Nat) := [(0, .aload_n 0, 1), (1, .iload_n 1, 1), (2, .invokevirtual 71, 3), (5, .astore_n 3, 1), (6, .aload_n 0, 1), (7, .getfield 32, 3), (10, .getfield 157, 3), (13, .bipush 8, 2), (15, .if_icmp .lt 13, 3), (18, .new 53, 3), (21, .dup, 1), (22, .ldc 160, 2), (24, .invokespecial 57, 3), (27, .athrow, 1), (28, .aload_n 0, 1), (29, .getfield 32, 3), (32, .aload_n 3, 1), (33, .iload_n 2, 1), (34, .invokevirtual 162, 3), (37, .ireturn, 1)]
def mC_12 : List (List (Nat × Instr × Nat)) := [mC_12_0]
/-- 13: TextVerbs.receiver(I)I -/
def mC_13_0 : List (Nat × Instr × Nat) := [(0, .aload_n 0, 1), (1, .iload_n 1, 1), (2, .invokevirtual 108, 3), (5, .astore_n 2, 1), (6, .aload_n 0, 1), (7, .getfield 32, 3), (10, .getfield 166, 3), (13, .bipush 20, 2), (15, .if_icmp .lt 13, 3), (18, .new 53, 3), (21, .dup, 1), (22, .ldc 169, 2), (24, .invokespecial 57, 3), (27, .athrow, 1), (28, .aload_n 0, 1), (29, .getfield 32, 3), (32, .aload_n 2, 1), (33, .invokevirtual 171, 3), (36, .ireturn, 1)]
def mC_13 : List (List (Nat × Instr × Nat)) := [mC_13_0]
/-- 14: TextVerbs.split(II)I -/
def mC_14_0 : List (Nat × Instr × Nat) := [(0, .aload_n 0, 1), (1, .getfield 32, 3), (4, .aload_n 0, 1), (5, .iload_n 1, 1), (6, .invokevirtual 108, 3), (9, .iload_n 2, 1), (10, .invokevirtual 174, 3), (13, .istore_n 3, 1), (14, .aload_n 0, 1), (15, .aload_n 0, 1), (16, .getfield 32, 3), (19, .getfield 177, 3), (22, .putfield 154, 3), (25, .iload_n 3, 1), (26, .ifCond .eq 10, 3), (29, .aload_n 0, 1), (30, .getfield 154, 3), (33, .goto 4, 3), (36, .iconst (-1), 1), (37, .ireturn, 1)]
def mC_14 : List (List (Nat × Instr × Nat)) := [mC_14_0]
/-- 15: TextVerbs.result(II)I -/
def mC_15_0 : List (Nat × Instr × Nat) := [(0, .iload_n 1, 1), (1, .ifCond .lt 14, 3), (4, .iload_n 1, 1), (5, .aload_n 0, 1), (6, .getfield 32, 3), (9, .getfield 178, 3), (12, .if_icmp .lt 5, 3), (15, .iconst (-1), 1), (16, .ireturn, 1), (17, .iload_n 2, 1), (18, .lookupswitch 46 #[(0, 26), (1, 36)], 26), (44, .aload_n 0, 1), (45, .getfield 32, 3), (48, .getfield 181, 3), (51, .iload_n 1, 1), (52, .iaload, 1), (53, .ireturn, 1), (54, .aload_n 0, 1), (55, .getfield 32, 3), (58, .getfield 184, 3), (61, .iload_n 1, 1), (62, .iaload, 1), (63, .ireturn, 1)]
def mC_15_1 : List (Nat × Instr × Nat) := [(64, .iconst (-1), 1), (65, .ireturn, 1)]
def mC_15 : List (List (Nat × Instr × Nat)) := [mC_15_0, mC_15_1]
/-- 16: TextVerbs.pointer()I -/
def mC_16_0 : List (Nat × Instr × Nat) := [(0, .aload_n 0, 1), (1, .getfield 154, 3), (4, .ireturn, 1)]
def mC_16 : List (List (Nat × Instr × Nat)) := [mC_16_0]
/-- 17: TextVerbs.table(I)I -/
def mC_17_0 : List (Nat × Instr × Nat) := [(0, .iload_n 1, 1), (1, .iconst 1, 1), (2, .if_icmp .lt 9, 3), (5, .iload_n 1, 1), (6, .bipush 60, 2), (8, .if_icmp .le 13, 3), (11, .new 42, 3), (14, .dup, 1), (15, .ldc 187, 2), (17, .invokespecial 46, 3), (20, .athrow, 1), (21, .aload_n 0, 1), (22, .getfield 189, 3), (25, .bipush 10, 2), (27, .if_icmp .lt 13, 3), (30, .new 53, 3), (33, .dup, 1), (34, .ldc 192, 2), (36, .invokespecial 57, 3), (39, .athrow, 1), (40, .aload_n 0, 1), (41, .getfield 38, 3), (44, .aload_n 0, 1), (45, .getfield 189, 3), (48, .new 36, 3), (51, .dup, 1), (52, .iload_n 1, 1), (53, .invokespecial 194, 3), (56, .aastore, 1), (57, .aload_n 0, 1), (58, .dup, 1), (59, .getfield 189, 3), (62, .iconst 1, 1), (63, .iadd, 1)]
def mC_17_1 : List (Nat × Instr × Nat) := [(64, .putfield 189, 3), (67, .aload_n 0, 1), (68, .getfield 189, 3), (71, .iconst 1, 1), (72, .isub, 1), (73, .ireturn, 1)]
def mC_17 : List (List (Nat × Instr × Nat)) := [mC_17_0, mC_17_1]
/-- 18: TextVerbs.row(III)I -/
def mC_18_0 : List (Nat × Instr × Nat) := [(0, .aload_n 0, 1), (1, .iload_n 1, 1), (2, .iload_n 2, 1), (3, .invokevirtual 195, 3), (6, .astore 4, 2), (8, .aload 4, 2), (10, .getfield 199, 3), (13, .iload_n 2, 1), (14, .iconst 1, 1), (15, .isub, 1), (16, .iaload, 1), (17, .istore 5, 2), (19, .aload 4, 2), (21, .getfield 199, 3), (24, .iload_n 2, 1), (25, .iconst 1, 1), (26, .isub, 1), (27, .iload_n 3, 1), (28, .iastore, 1), (29, .iload 5, 2), (31, .ireturn, 1)]
def mC_18 : List (List (Nat × Instr × Nat)) := [mC_18_0]
/-- 19: TextVerbs.index(II)I -/
def mC_19_0 : List (Nat × Instr × Nat) := [(0, .aload_n 0, 1), (1, .iload_n 1, 1), (2, .iload_n 2, 1), (3, .invokevirtual 195, 3), (6, .astore_n 3, 1), (7, .aload_n 3, 1), (8, .getfield 202, 3), (11, .istore 4, 2), (13, .aload_n 3, 1), (14, .iload_n 2, 1), (15, .putfield 202, 3), (18, .iload 4, 2), (20, .ireturn, 1)]
def mC_19 : List (List (Nat × Instr × Nat)) := [mC_19_0]
/-- 20: TextVerbs.search(IZI)I -/
def mC_20_0 : List (Nat × Instr × Nat) := [(0, .aload_n 0, 1), (1, .iload_n 1, 1), (2, .invokevirtual 205, 3), (5, .astore 4, 2), (7, .iload_n 2, 1), (8, .ifCond .eq 12, 3), (11, .aload 4, 2), (13, .iload_n 3, 1), (14, .invokevirtual 209, 3), (17, .goto 9, 3), (20, .aload 4, 2), (22, .iload_n 3, 1), (23, .invokevirtual 212, 3), (26, .istore 5, 2), (28, .iload 5, 2), (30, .ifCond .eq 10, 3), (33, .aload 4, 2), (35, .iload 5, 2), (37, .putfield 202, 3), (40, .iload 5, 2), (42, .ireturn, 1)]
def mC_20 : List (List (Nat × Instr × Nat)) := [mC_20_0]
/-- 21: TextVerbs.sort(IZ)V -/
def mC_21_0 : List (Nat × Instr × Nat) := [(0, .aload_n 0, 1), (1, .iload_n 1, 1), (2, .invokevirtual 205, 3), (5, .iload_n 2, 1), (6, .invokevirtual 215, 3), (9, .return_, 1)]
def mC_21 : List (List (Nat × Instr × Nat)) := [mC_21_0]
/-- 22: TextVerbs.knownText(I)LTextVerbs$Text; -/
def mC_22_0 : List (Nat × Instr × Nat) := [(0, .iload_n 1, 1), (1, .ifCond .lt 11, 3), (4, .iload_n 1, 1), (5, .aload_n 0, 1), (6, .getfield 49, 3), (9, .if_icmp .lt 13, 3), (12, .new 42, 3), (15, .dup, 1), (16, .ldc 219, 2), (18, .invokespecial 46, 3), (21, .athrow, 1), (22, .aload_n 0, 1), (23, .getfield 11, 3), (26, .iload_n 1, 1), (27, .aaload, 1), (28, .areturn, 1)]
def mC_22 : List (List (Nat × Instr × Nat)) := [mC_22_0]
/-- 23: TextVerbs.filledText(I)LTextVerbs$Text; -/
def mC_23_0 : List (Nat × Instr × Nat) := [(0, .aload_n 0, 1), (1, .iload_n 1, 1), (2, .invokevirtual 108, 3), (5, .astore_n 2, 1), (6, .aload_n 2, 1), (7, .invokevirtual 111, 3), (10, .ifCond .ne 13, 3), (13, .new 42, 3), (16, .dup, 1), (17, .ldc 221, 2), (19, .invokespecial 46, 3), (22, .athrow, 1), (23, .aload_n 2, 1), (24, .areturn, 1)]
def mC_23 : List (List (Nat × Instr × Nat)) := [mC_23_0]
/-- 24: TextVerbs.textWithPlace(II)LTextVerbs$Text; -/
def mC_24_0 : List (Nat × Instr × Nat) := [(0, .aload_n 0, 1), (1, .iload_n 1, 1), (2, .invokevirtual 108, 3), (5, .astore_n 3, 1), (6, .iload_n 2, 1), (7, .ifCond .lt 11, 3), (10, .iload_n 2, 1), (11, .aload_n 3, 1), (12, .invokevirtual 111, 3), (15, .if_icmp .lt 13, 3), (18, .new 42, 3), (21, .dup, 1), (22, .ldc 223, 2), (24, .invokespecial 46, 3), (27, .athrow, 1), (28, .aload_n 3, 1), (29, .areturn, 1)]
def mC_24 : List (List (Nat × Instr × Nat)) := [mC_24_0]
/-- 25: TextVerbs.soughtText(II)LTextVerbs$Text; -/
def mC_25_0 : List (Nat × Instr × Nat) := [(0, .iload_n 1, 1), (1, .ifCond .ne 7, 3), (4, .aconst_null, 1), (5, .goto 8, 3), (8, .aload_n 0, 1), (9, .iload_n 2, 1), (10, .invokevirtual 71, 3), (13, .areturn, 1)]
def mC_25 : List (List (Nat × Instr × Nat)) := [mC_25_0]
/-- 26: TextVerbs.widthOf(LTextVerbs$Text;)I -/
def mC_26_0 : List (Nat × Instr × Nat) := [(0, .aload_n 0, 1), (1, .ifnonnull 7, 3), (4, .iconst 1, 1), (5, .goto 7, 3), (8, .aload_n 0, 1), (9, .invokevirtual 111, 3), (12, .ireturn, 1)]
def mC_26 : List (List (Nat × Instr × Nat)) := [mC_26_0]
/-- 27: TextVerbs.checkKind(II)V -/
def mC_27_0 : List (Nat × Instr × Nat) := [(0, .iload_n 0, 1), (1, .ifCond .lt 8, 3), (4, .iload_n 0, 1), (5, .iload_n 1, 1), (6, .if_icmp .le 13, 3), (9, .new 42, 3), (12, .dup, 1), (13, .ldc 225, 2), (15, .invokespecial 46, 3), (18, .athrow, 1), (19, .return_, 1)]
def mC_27 : List (List (Nat × Instr × Nat)) := [mC_27_0]
/-- 28: TextVerbs.checkCounter(I)V -/
def mC_28_0 : List (Nat × Instr × Nat) := [(0, .iload_n 0, 1), (1, .ifCond .lt 9, 3), (4, .iload_n 0, 1), (5, .bipush 10, 2), (7, .if_icmp .lt 13, 3), (10, .new 42, 3), (13, .dup, 1), (14, .ldc 227, 2), (16, .invokespecial 46, 3), (19, .athrow, 1), (20, .return_, 1)]
def mC_28 : List (List (Nat × Instr × Nat)) := [mC_28_0]
/-- 29: TextVerbs.checkRoomForPhrase()V -/
def mC_29_0 : List (Nat × Instr × Nat) := [(0, .aload_n 0, 1), (1, .getfield 18, 3), (4, .getfield 229, 3), (7, .bipush 20, 2), (9, .if_icmp .lt 13, 3), (12, .new 53, 3), (15, .dup, 1), (16, .ldc 232, 2), (18, .invokespecial 57, 3), (21, .athrow, 1), (22, .return_, 1)]
def mC_29 : List (List (Nat × Instr × Nat)) := [mC_29_0]
/-- 30: TextVerbs.takeRegion()LTextVerbs$Region; -/
def mC_30_0 : List (Nat × Instr × Nat) := [(0, .new 234, 3), (3, .dup, 1), (4, .aload_n 0, 1), (5, .getfield 75, 3), (8, .aload_n 0, 1), (9, .getfield 79, 3), (12, .invokespecial 236, 3), (15, .astore_n 1, 1), (16, .aload_n 0, 1), (17, .aconst_null, 1), (18, .putfield 75, 3), (21, .aload_n 0, 1), (22, .aconst_null, 1), (23, .putfield 79, 3), (26, .aload_n 1, 1), (27, .areturn, 1)]
def mC_30 : List (List (Nat × Instr × Nat)) := [mC_30_0]
/-- 31: TextVerbs.knownTable(I)LTextVerbs$Table; -/
def mC_31_0 : List (Nat × Instr × Nat) := [(0, .iload_n 1, 1), (1, .ifCond .lt 11, 3), (4, .iload_n 1, 1), (5, .aload_n 0, 1), (6, .getfield 189, 3), (9, .if_icmp .lt 13, 3), (12, .new 42, 3), (15, .dup, 1), (16, .ldc 237, 2), (18, .invokespecial 46, 3), (21, .athrow, 1), (22, .aload_n 0, 1), (23, .getfield 38, 3), (26, .iload_n 1, 1), (27, .aaload, 1), (28, .areturn, 1)]
def mC_31 : List (List (Nat × Instr × Nat)) := [mC_31_0]
/-- 32: TextVerbs.tableWithRow(II)LTextVerbs$Table; -/
def mC_32_0 : List (Nat × Instr × Nat) := [(0, .aload_n 0, 1), (1, .iload_n 1, 1), (2, .invokevirtual 205, 3), (5, .astore_n 3, 1), (6, .iload_n 2, 1), (7, .iconst 1, 1), (8, .if_icmp .lt 12, 3), (11, .iload_n 2, 1), (12, .aload_n 3, 1), (13, .getfield 199, 3), (16, .arraylength, 1), (17, .if_icmp .le 13, 3), (20, .new 42, 3), (23, .dup, 1), (24, .ldc 239, 2), (26, .invokespecial 46, 3), (29, .athrow, 1), (30, .aload_n 3, 1), (31, .areturn, 1)]
def mC_32 : List (List (Nat × Instr × Nat)) := [mC_32_0]
/-- 33: TextVerbs$Text.<init>(I)V -/
def mC_33_0 : List (Nat × Instr × Nat) := [(0, .aload_n 0, 1), (1, .invokespecial 3, 3), (4, .aload_n 0, 1), (5, .iload_n 1, 1), (6, .newarray .int, 2), (8, .putfield 9, 3), (11, .aload_n 0, 1), (12, .getfield 9, 3), (15, .bipush 32, 2), (17, .invokestatic 15, 3), (20, .return_, 1)]
def mC_33 : List (List (Nat × Instr × Nat)) := [mC_33_0]
/-- 34: TextVerbs$Text.size()I -/
def mC_34_0 : List (Nat × Instr × Nat) := [(0, .aload_n 0, 1), (1, .getfield 9, 3), (4, .arraylength, 1), (5, .ireturn, 1)]
def mC_34 : List (List (Nat × Instr × Nat)) := [mC_34_0]
/-- 35: TextVerbs$Text.holds(LTextVerbs$Text;I)Z -/
def mC_35_0 : List (Nat × Instr × Nat) := [(0, .aload_n 1, 1), (1, .invokevirtual 21, 3), (4, .istore_n 3, 1), (5, .iload_n 2, 1), (6, .ifCond .lt 14, 3), (9, .iload_n 3, 1), (10, .aload_n 0, 1), (11, .getfield 9, 3), (14, .arraylength, 1), (15, .iload_n 2, 1), (16, .isub, 1), (17, .if_icmp .le 5, 3), (20, .iconst 0, 1), (21, .ireturn, 1), (22, .iconst 0, 1), (23, .istore 4, 2), (25, .iload 4, 2), (27, .iload_n 3, 1), (28, .if_icmp .ge 30, 3), (31, .aload_n 0, 1), (32, .getfield 9, 3), (35, .iload_n 2, 1), (36, .iload 4, 2), (38, .iadd, 1), (39, .iaload, 1), (40, .aload_n 1, 1), (41, .getfield 9, 3), (44, .iload 4, 2), (46, .iaload, 1), (47, .if_icmp .eq 5, 3), (50, .iconst 0, 1), (51, .ireturn, 1), (52, .iinc 4 1, 3), (55, .goto (-30), 3), (58, .iconst 1, 1), (59, .ireturn, 1)]
def mC_35 : List (List (Nat × Instr × Nat)) := [mC_35_0]
/-- 36: TextVerbs$Text.firstPlaceOf(LTextVerbs$Text;)I -/
def mC_36_0 : List (Nat × Instr × Nat) := [(0, .iconst 0, 1), (1, .istore_n 2, 1), (2, .iload_n 2, 1), (3, .aload_n 0, 1), (4, .getfield 9, 3), (7, .arraylength, 1), (8, .if_icmp .ge 20, 3), (11, .aload_n 0, 1), (12, .aload_n 1, 1), (13, .iload_n 2, 1), (14, .invokevirtual 25, 3), (17, .ifCond .eq 5, 3), (20, .iload_n 2, 1), (21, .ireturn, 1), (22, .iinc 2 1, 3), (25, .goto (-23), 3), (28, .iconst (-1), 1), (29, .ireturn, 1)]
def mC_36 : List (List (Nat × Instr × Nat)) := [mC_36_0]
/-- 37: TextVerbs$Text.firstPlaceOfSign(I)I -/
def mC_37_0 : List (Nat × Instr × Nat) := [(0, .iconst 0, 1), (1, .istore_n 2, 1), (2, .iload_n 2, 1), (3, .aload_n 0, 1), (4, .getfield 9, 3), (7, .arraylength, 1), (8, .if_icmp .ge 21, 3), (11, .aload_n 0, 1), (12, .getfield 9, 3), (15, .iload_n 2, 1), (16, .iaload, 1), (17, .iload_n 1, 1), (18, .if_icmp .ne 5, 3), (21, .iload_n 2, 1), (22, .ireturn, 1), (23, .iinc 2 1, 3), (26, .goto (-24), 3), (29, .iconst (-1), 1), (30, .ireturn, 1)]
def mC_37 : List (List (Nat × Instr × Nat)) := [mC_37_0]
/-- 38: TextVerbs$Text.copyTo([I)V -/
def mC_38_0 : List (Nat × Instr × Nat) := [(0, .iconst 0, 1), (1, .istore_n 2, 1), (2, .iload_n 2, 1), (3, .aload_n 0, 1), (4, .getfield 9, 3), (7, .arraylength, 1), (8, .if_icmp .ge 24, 3), (11, .iload_n 2, 1), (12, .aload_n 1, 1), (13, .arraylength, 1), (14, .if_icmp .ge 18, 3), (17, .aload_n 1, 1), (18, .iload_n 2, 1), (19, .aload_n 0, 1), (20, .getfield 9, 3), (23, .iload_n 2, 1), (24, .iaload, 1), (25, .iastore, 1), (26, .iinc 2 1, 3), (29, .goto (-27), 3), (32, .return_, 1)]
def mC_38 : List (List (Nat × Instr × Nat)) := [mC_38_0]
/-- 39: TextVerbs$Text.fillFrom([III)V -/
def mC_39_0 : List (Nat × Instr × Nat) := [(0, .iconst 0, 1), (1, .istore 4, 2), (3, .iload 4, 2), (5, .aload_n 0, 1), (6, .getfield 9, 3), (9, .arraylength, 1), (10, .if_icmp .ge 33, 3), (13, .aload_n 0, 1), (14, .getfield 9, 3), (17, .iload 4, 2), (19, .iload 4, 2), (21, .iload_n 3, 1), (22, .if_icmp .ge 12, 3), (25, .aload_n 1, 1), (26, .iload_n 2, 1), (27, .iload 4, 2), (29, .iadd, 1), (30, .iaload, 1), (31, .goto 5, 3), (34, .bipush 32, 2), (36, .iastore, 1), (37, .iinc 4 1, 3), (40, .goto (-37), 3), (43, .return_, 1)]
def mC_39 : List (List (Nat × Instr × Nat)) := [mC_39_0]
/-- 40: TextVerbs$Region.<init>(LTextVerbs$Text;LTextVerbs$Text;)V -/
def mC_40_0 : List (Nat × Instr × Nat) := [(0, .aload_n 0, 1), (1, .invokespecial 3, 3), (4, .aload_n 0, 1), (5, .aload_n 1, 1), (6, .putfield 9, 3), (9, .aload_n 0, 1), (10, .aload_n 2, 1), (11, .putfield 15, 3), (14, .return_, 1)]
def mC_40 : List (List (Nat × Instr × Nat)) := [mC_40_0]
/-- 41: TextVerbs$Region.beginIn(LTextVerbs$Text;)I -/
def mC_41_0 : List (Nat × Instr × Nat) := [(0, .aload_n 0, 1), (1, .getfield 9, 3), (4, .ifnonnull 5, 3), (7, .iconst 0, 1), (8, .ireturn, 1), (9, .aload_n 1, 1), (10, .aload_n 0, 1), (11, .getfield 9, 3), (14, .invokevirtual 18, 3), (17, .istore_n 2, 1), (18, .iload_n 2, 1), (19, .iconst (-1), 1), (20, .if_icmp .ne 10, 3), (23, .aload_n 1, 1), (24, .invokevirtual 24, 3), (27, .goto 12, 3), (30, .iload_n 2, 1), (31, .aload_n 0, 1), (32, .getfield 9, 3), (35, .invokevirtual 24, 3), (38, .iadd, 1), (39, .ireturn, 1)]
def mC_41 : List (List (Nat × Instr × Nat)) := [mC_41_0]
/-- 42: TextVerbs$Region.endIn(LTextVerbs$Text;)I -/
def mC_42_0 : List (Nat × Instr × Nat) := [(0, .aload_n 0, 1), (1, .getfield 15, 3), (4, .ifnonnull 7, 3), (7, .iconst (-1), 1), (8, .goto 11, 3), (11, .aload_n 1, 1), (12, .aload_n 0, 1), (13, .getfield 15, 3), (16, .invokevirtual 18, 3), (19, .istore_n 2, 1), (20, .iload_n 2, 1), (21, .iconst (-1), 1), (22, .if_icmp .ne 10, 3), (25, .aload_n 1, 1), (26, .invokevirtual 24, 3), (29, .goto 4, 3), (32, .iload_n 2, 1), (33, .ireturn, 1)]
def mC_42 : List (List (Nat × Instr × Nat)) := [mC_42_0]
/-- 43: TextVerbs$Phrase.<init>(ILTextVerbs$Text;ILTextVerbs$Text;LTextVerbs$Region;)V -/
def mC_43_0 : List (Nat × Instr × Nat) := [(0, .aload_n 0, 1), (1, .invokespecial 3, 3), (4, .aload_n 0, 1), (5, .iload_n 1, 1), (6, .putfield 9, 3), (9, .aload_n 0, 1), (10, .aload_n 2, 1), (11, .putfield 15, 3), (14, .aload_n 0, 1), (15, .iload_n 3, 1), (16, .putfield 19, 3), (19, .aload_n 0, 1), (20, .aload 4, 2), (22, .putfield 22, 3), (25, .aload_n 0, 1), (26, .aload 5, 2), (28, .putfield 25, 3), (31, .aload_n 0, 1), (32, .aload_n 2, 1), (33, .invokestatic 29, 3), (36, .putfield 33, 3), (39, .return_, 1)]
def mC_43 : List (List (Nat × Instr × Nat)) := [mC_43_0]
/-- 44: TextVerbs$Phrase.isReplacing()Z -/
def mC_44_0 : List (Nat × Instr × Nat) := [(0, .aload_n 0, 1), (1, .getfield 22, 3), (4, .ifnull 7, 3), (7, .iconst 1, 1), (8, .goto 4, 3), (11, .iconst 0, 1), (12, .ireturn, 1)]
def mC_44 : List (List (Nat × Instr × Nat)) := [mC_44_0]
/-- 45: TextVerbs$Phrase.startIn(LTextVerbs$Text;)V -/
def mC_45_0 : List (Nat × Instr × Nat) := [(0, .aload_n 0, 1), (1, .aload_n 0, 1), (2, .getfield 25, 3), (5, .aload_n 1, 1), (6, .invokevirtual 36, 3), (9, .putfield 41, 3), (12, .aload_n 0, 1), (13, .aload_n 0, 1), (14, .getfield 25, 3), (17, .aload_n 1, 1), (18, .invokevirtual 44, 3), (21, .putfield 47, 3), (24, .aload_n 0, 1), (25, .aload_n 0, 1), (26, .getfield 41, 3), (29, .putfield 50, 3), (32, .return_, 1)]
def mC_45 : List (List (Nat × Instr × Nat)) := [mC_45_0]
/-- 46: TextVerbs$Phrase.matches(LTextVerbs$Text;I)Z -/
def mC_46_0 : List (Nat × Instr × Nat) := [(0, .iload_n 2, 1), (1, .aload_n 0, 1), (2, .getfield 41, 3), (5, .if_icmp .lt 16, 3), (8, .iload_n 2, 1), (9, .aload_n 0, 1), (10, .getfield 33, 3), (13, .iadd, 1), (14, .aload_n 0, 1), (15, .getfield 47, 3), (18, .if_icmp .le 5, 3), (21, .iconst 0, 1), (22, .ireturn, 1), (23, .aload_n 0, 1), (24, .getfield 9, 3), (27, .iconst 2, 1), (28, .if_icmp .ne 13, 3), (31, .iload_n 2, 1), (32, .aload_n 0, 1), (33, .getfield 50, 3), (36, .if_icmp .eq 5, 3), (39, .iconst 0, 1), (40, .ireturn, 1), (41, .aload_n 0, 1), (42, .getfield 9, 3), (45, .iconst 3, 1), (46, .if_icmp .ne 12, 3), (49, .aload_n 0, 1), (50, .getfield 53, 3), (53, .ifCond .eq 5, 3), (56, .iconst 0, 1), (57, .ireturn, 1), (58, .aload_n 0, 1), (59, .getfield 15, 3), (62, .ifnull 15, 3)]
def mC_46_1 : List (Nat × Instr × Nat) := [(65, .aload_n 1, 1), (66, .aload_n 0, 1), (67, .getfield 15, 3), (70, .iload_n 2, 1), (71, .invokevirtual 57, 3), (74, .ifCond .eq 7, 3), (77, .iconst 1, 1), (78, .goto 4, 3), (81, .iconst 0, 1), (82, .ireturn, 1)]
def mC_46 : List (List (Nat × Instr × Nat)) := [mC_46_0, mC_46_1]
/-- 47: TextVerbs$Phrase.noteMatch(I)V -/
def mC_47_0 : List (Nat × Instr × Nat) := [(0, .aload_n 0, 1), (1, .iload_n 1, 1), (2, .aload_n 0, 1), (3, .getfield 33, 3), (6, .iadd, 1), (7, .putfield 50, 3), (10, .aload_n 0, 1), (11, .iconst 1, 1), (12, .putfield 53, 3), (15, .return_, 1)]
def mC_47 : List (List (Nat × Instr × Nat)) := [mC_47_0]
/-- 48: TextVerbs$Inspection.<init>()V -/
def mC_48_0 : List (Nat × Instr × Nat) := [(0, .aload_n 0, 1), (1, .invokespecial 3, 3), (4, .aload_n 0, 1), (5, .bipush 20, 2), (7, .anewarray 9, 3), (10, .putfield 11, 3), (13, .aload_n 0, 1), (14, .bipush 10, 2), (16, .newarray .int, 2), (18, .putfield 17, 3), (21, .aload_n 0, 1), (22, .bipush 60, 2), (24, .newarray .int, 2), (26, .putfield 21, 3), (29, .return_, 1)]
def mC_48 : List (List (Nat × Instr × Nat)) := [mC_48_0]
/-- 49: TextVerbs$Inspection.collect(LTextVerbs$Phrase;)I -/
def mC_49_0 : List (Nat × Instr × Nat) := [(0, .aload_n 0, 1), (1, .getfield 11, 3), (4, .aload_n 0, 1), (5, .getfield 24, 3), (8, .aload_n 1, 1), (9, .aastore, 1), (10, .aload_n 0, 1), (11, .dup, 1), (12, .getfield 24, 3), (15, .iconst 1, 1), (16, .iadd, 1), (17, .putfield 24, 3), (20, .aload_n 0, 1), (21, .getfield 24, 3), (24, .ireturn, 1)]
def mC_49 : List (List (Nat × Instr × Nat)) := [mC_49_0]
/-- 50: TextVerbs$Inspection.takeCount(I)I -/
def mC_50_0 : List (Nat × Instr × Nat) := [(0, .aload_n 0, 1), (1, .getfield 17, 3), (4, .iload_n 1, 1), (5, .iaload, 1), (6, .istore_n 2, 1), (7, .aload_n 0, 1), (8, .getfield 17, 3), (11, .iload_n 1, 1), (12, .iconst 0, 1), (13, .iastore, 1), (14, .iload_n 2, 1), (15, .ireturn, 1)]
def mC_50 : List (List (Nat × Instr × Nat)) := [mC_50_0]
/-- 51: TextVerbs$Inspection.goThrough(LTextVerbs$Text;)I -/
def mC_51_0 : List (Nat × Instr × Nat) := [(0, .aload_n 1, 1), (1, .aload_n 0, 1), (2, .getfield 21, 3), (5, .invokevirtual 28, 3), (8, .aload_n 0, 1), (9, .aload_n 1, 1), (10, .iconst 0, 1), (11, .invokevirtual 34, 3), (14, .pop, 1), (15, .aload_n 0, 1), (16, .aload_n 1, 1), (17, .iconst 1, 1), (18, .invokevirtual 34, 3), (21, .istore_n 2, 1), (22, .aload_n 1, 1), (23, .aload_n 0, 1), (24, .getfield 21, 3), (27, .iconst 0, 1), (28, .aload_n 1, 1), (29, .invokevirtual 38, 3), (32, .invokevirtual 42, 3), (35, .aload_n 0, 1), (36, .iconst 0, 1), (37, .putfield 24, 3), (40, .iload_n 2, 1), (41, .ireturn, 1)]
def mC_51 : List (List (Nat × Instr × Nat)) := [mC_51_0]
/-- 52: TextVerbs$Inspection.goOver(LTextVerbs$Text;Z)I -/
def mC_52_0 : List (Nat × Instr × Nat) := [(0, .iconst 0, 1), (1, .istore_n 3, 1), (2, .iload_n 3, 1), (3, .aload_n 0, 1), (4, .getfield 24, 3), (7, .if_icmp .ge 19, 3), (10, .aload_n 0, 1), (11, .getfield 11, 3), (14, .iload_n 3, 1), (15, .aaload, 1), (16, .aload_n 1, 1), (17, .invokevirtual 46, 3), (20, .iinc 3 1, 3), (23, .goto (-21), 3), (26, .iconst 0, 1), (27, .istore_n 3, 1), (28, .iconst 0, 1), (29, .istore 4, 2), (31, .iconst 0, 1), (32, .istore 5, 2), (34, .iload 5, 2), (36, .aload_n 1, 1), (37, .invokevirtual 38, 3), (40, .if_icmp .ge 63, 3), (43, .iload 5, 2), (45, .iload 4, 2), (47, .if_icmp .ge 7, 3), (50, .aconst_null, 1), (51, .goto 11, 3), (54, .aload_n 0, 1), (55, .aload_n 1, 1), (56, .iload 5, 2), (58, .iload_n 2, 1), (59, .invokevirtual 50, 3), (62, .astore 6, 2)]
def mC_52_1 : List (Nat × Instr × Nat) := [(64, .aload 6, 2), (66, .ifnull 31, 3), (69, .aload 6, 2), (71, .iload 5, 2), (73, .invokevirtual 54, 3), (76, .aload_n 0, 1), (77, .aload 6, 2), (79, .iload 5, 2), (81, .invokevirtual 58, 3), (84, .iinc 3 1, 3), (87, .iload 5, 2), (89, .aload 6, 2), (91, .getfield 62, 3), (94, .iadd, 1), (95, .istore 4, 2), (97, .iinc 5 1, 3), (100, .goto (-66), 3), (103, .iload_n 3, 1), (104, .ireturn, 1)]
def mC_52 : List (List (Nat × Instr × Nat)) := [mC_52_0, mC_52_1]
/-- 53: TextVerbs$Inspection.firstMatch(LTextVerbs$Text;IZ)LTextVerbs$Phrase; -/
def mC_53_0 : List (Nat × Instr × Nat) := [(0, .iconst 0, 1), (1, .istore 4, 2), (3, .iload 4, 2), (5, .aload_n 0, 1), (6, .getfield 24, 3), (9, .if_icmp .ge 40, 3), (12, .aload_n 0, 1), (13, .getfield 11, 3), (16, .iload 4, 2), (18, .aaload, 1), (19, .astore 5, 2), (21, .aload 5, 2), (23, .invokevirtual 65, 3), (26, .iload_n 3, 1), (27, .if_icmp .ne 16, 3), (30, .aload 5, 2), (32, .aload_n 1, 1), (33, .iload_n 2, 1), (34, .invokevirtual 69, 3), (37, .ifCond .eq 6, 3), (40, .aload 5, 2), (42, .areturn, 1), (43, .iinc 4 1, 3), (46, .goto (-43), 3), (49, .aconst_null, 1), (50, .areturn, 1)]
def mC_53 : List (List (Nat × Instr × Nat)) := [mC_53_0]
/-- 54: TextVerbs$Inspection.act(LTextVerbs$Phrase;I)V -/
def mC_54_0 : List (Nat × Instr × Nat) := [(0, .aload_n 1, 1), (1, .getfield 73, 3), (4, .ifnonnull 17, 3), (7, .aload_n 0, 1), (8, .getfield 17, 3), (11, .aload_n 1, 1), (12, .getfield 77, 3), (15, .dup2, 1), (16, .iaload, 1), (17, .iconst 1, 1), (18, .iadd, 1), (19, .iastore, 1), (20, .return_, 1), (21, .iconst 0, 1), (22, .istore_n 3, 1), (23, .iload_n 3, 1), (24, .aload_n 1, 1), (25, .getfield 62, 3), (28, .if_icmp .ge 26, 3), (31, .aload_n 0, 1), (32, .getfield 21, 3), (35, .iload_n 2, 1), (36, .iload_n 3, 1), (37, .iadd, 1), (38, .aload_n 1, 1), (39, .getfield 73, 3), (42, .getfield 80, 3), (45, .iload_n 3, 1), (46, .iaload, 1), (47, .iastore, 1), (48, .iinc 3 1, 3), (51, .goto (-28), 3), (54, .return_, 1)]
def mC_54 : List (List (Nat × Instr × Nat)) := [mC_54_0]
/-- 55: TextVerbs$Inspection.exchange(LTextVerbs$Text;LTextVerbs$Region;LTextVerbs$Text;LTextVerbs$Text;)I -/
def mC_55_0 : List (Nat × Instr × Nat) := [(0, .aload_n 1, 1), (1, .aload_n 0, 1), (2, .getfield 21, 3), (5, .invokevirtual 28, 3), (8, .aload_n 2, 1), (9, .aload_n 1, 1), (10, .invokevirtual 83, 3), (13, .istore 5, 2), (15, .aload_n 2, 1), (16, .aload_n 1, 1), (17, .invokevirtual 89, 3), (20, .istore 6, 2), (22, .iconst 0, 1), (23, .istore 7, 2), (25, .iload 5, 2), (27, .istore 8, 2), (29, .iload 8, 2), (31, .iload 6, 2), (33, .if_icmp .ge 46, 3), (36, .aload_n 3, 1), (37, .aload_n 1, 1), (38, .getfield 80, 3), (41, .iload 8, 2), (43, .iaload, 1), (44, .invokevirtual 92, 3), (47, .istore 9, 2), (49, .iload 9, 2), (51, .iconst (-1), 1), (52, .if_icmp .eq 21, 3), (55, .aload_n 0, 1), (56, .getfield 21, 3), (59, .iload 8, 2), (61, .aload 4, 2), (63, .getfield 80, 3)]
def mC_55_1 : List (Nat × Instr × Nat) := [(66, .iload 9, 2), (68, .iaload, 1), (69, .iastore, 1), (70, .iinc 7 1, 3), (73, .iinc 8 1, 3), (76, .goto (-47), 3), (79, .aload_n 1, 1), (80, .aload_n 0, 1), (81, .getfield 21, 3), (84, .iconst 0, 1), (85, .aload_n 1, 1), (86, .invokevirtual 38, 3), (89, .invokevirtual 42, 3), (92, .iload 7, 2), (94, .ireturn, 1)]
def mC_55 : List (List (Nat × Instr × Nat)) := [mC_55_0, mC_55_1]
/-- 56: TextVerbs$Part.<init>(LTextVerbs$Text;LTextVerbs$Text;)V -/
def mC_56_0 : List (Nat × Instr × Nat) := [(0, .aload_n 0, 1), (1, .invokespecial 3, 3), (4, .aload_n 0, 1), (5, .aload_n 1, 1), (6, .putfield 9, 3), (9, .aload_n 0, 1), (10, .aload_n 2, 1), (11, .putfield 15, 3), (14, .return_, 1)]
def mC_56 : List (List (Nat × Instr × Nat)) := [mC_56_0]
/-- 57: TextVerbs$Part.length()I -/
def mC_57_0 : List (Nat × Instr × Nat) := [(0, .aload_n 0, 1), (1, .getfield 15, 3), (4, .ifnonnull 7, 3), (7, .iconst (-1), 1), (8, .goto 14, 3), (11, .aload_n 0, 1), (12, .getfield 9, 3), (15, .aload_n 0, 1), (16, .getfield 15, 3), (19, .invokevirtual 18, 3), (22, .istore_n 1, 1), (23, .iload_n 1, 1), (24, .iconst (-1), 1), (25, .if_icmp .ne 13, 3), (28, .aload_n 0, 1), (29, .getfield 9, 3), (32, .invokevirtual 24, 3), (35, .goto 4, 3), (38, .iload_n 1, 1), (39, .ireturn, 1)]
def mC_57 : List (List (Nat × Instr × Nat)) := [mC_57_0]
/-- 58: TextVerbs$Joining.<init>()V -/
def mC_58_0 : List (Nat × Instr × Nat) := [(0, .aload_n 0, 1), (1, .invokespecial 3, 3), (4, .aload_n 0, 1), (5, .bipush 20, 2), (7, .anewarray 9, 3), (10, .putfield 11, 3), (13, .return_, 1)]
def mC_58 : List (List (Nat × Instr × Nat)) := [mC_58_0]
/-- 59: TextVerbs$Joining.collect(LTextVerbs$Part;)I -/
def mC_59_0 : List (Nat × Instr × Nat) := [(0, .aload_n 0, 1), (1, .getfield 11, 3), (4, .aload_n 0, 1), (5, .getfield 17, 3), (8, .aload_n 1, 1), (9, .aastore, 1), (10, .aload_n 0, 1), (11, .dup, 1), (12, .getfield 17, 3), (15, .iconst 1, 1), (16, .iadd, 1), (17, .putfield 17, 3), (20, .aload_n 0, 1), (21, .getfield 17, 3), (24, .ireturn, 1)]
def mC_59 : List (List (Nat × Instr × Nat)) := [mC_59_0]
/-- 60: TextVerbs$Joining.putInto(LTextVerbs$Text;I)Z -/
def mC_60_0 : List (Nat × Instr × Nat) := [(0, .aload_n 0, 1), (1, .getfield 17, 3), (4, .istore_n 3, 1), (5, .aload_n 0, 1), (6, .iconst 0, 1), (7, .putfield 17, 3), (10, .aload_n 0, 1), (11, .iload_n 2, 1), (12, .putfield 21, 3), (15, .iload_n 2, 1), (16, .iconst 1, 1), (17, .if_icmp .lt 11, 3), (20, .iload_n 2, 1), (21, .aload_n 1, 1), (22, .invokevirtual 24, 3), (25, .if_icmp .le 5, 3), (28, .iconst 0, 1), (29, .ireturn, 1), (30, .iconst 0, 1), (31, .istore 4, 2), (33, .iload 4, 2), (35, .iload_n 3, 1), (36, .if_icmp .ge 26, 3), (39, .aload_n 0, 1), (40, .aload_n 0, 1), (41, .getfield 11, 3), (44, .iload 4, 2), (46, .aaload, 1), (47, .aload_n 1, 1), (48, .invokevirtual 30, 3), (51, .ifCond .ne 5, 3), (54, .iconst 0, 1), (55, .ireturn, 1), (56, .iinc 4 1, 3), (59, .goto (-26), 3), (62, .iconst 1, 1), (63, .ireturn, 1)]
def mC_60 : List (List (Nat × Instr × Nat)) := [mC_60_0]
/-- 61: TextVerbs$Joining.putPart(LTextVerbs$Part;LTextVerbs$Text;)Z -/
def mC_61_0 : List (Nat × Instr × Nat) := [(0, .aload_n 1, 1), (1, .invokevirtual 34, 3), (4, .istore_n 3, 1), (5, .iconst 0, 1), (6, .istore 4, 2), (8, .iload 4, 2), (10, .iload_n 3, 1), (11, .if_icmp .ge 53, 3), (14, .aload_n 0, 1), (15, .getfield 21, 3), (18, .aload_n 2, 1), (19, .invokevirtual 24, 3), (22, .if_icmp .le 5, 3), (25, .iconst 0, 1), (26, .ireturn, 1), (27, .aload_n 2, 1), (28, .getfield 37, 3), (31, .aload_n 0, 1), (32, .getfield 21, 3), (35, .iconst 1, 1), (36, .isub, 1), (37, .aload_n 1, 1), (38, .getfield 41, 3), (41, .getfield 37, 3), (44, .iload 4, 2), (46, .iaload, 1), (47, .iastore, 1), (48, .aload_n 0, 1), (49, .dup, 1), (50, .getfield 21, 3), (53, .iconst 1, 1), (54, .iadd, 1), (55, .putfield 21, 3), (58, .iinc 4 1, 3), (61, .goto (-53), 3)]
def mC_61_1 : List (Nat × Instr × Nat) := [(64, .iconst 1, 1), (65, .ireturn, 1)]
def mC_61 : List (List (Nat × Instr × Nat)) := [mC_61_0, mC_61_1]
/-- 62: TextVerbs$Splitting.<init>()V -/
def mC_62_0 : List (Nat × Instr × Nat) := [(0, .aload_n 0, 1), (1, .invokespecial 3, 3), (4, .aload_n 0, 1), (5, .bipush 8, 2), (7, .anewarray 9, 3), (10, .putfield 11, 3), (13, .aload_n 0, 1), (14, .bipush 8, 2), (16, .newarray .boolean, 2), (18, .putfield 17, 3), (21, .aload_n 0, 1), (22, .bipush 20, 2), (24, .anewarray 9, 3), (27, .putfield 21, 3), (30, .aload_n 0, 1), (31, .bipush 20, 2), (33, .newarray .int, 2), (35, .putfield 24, 3), (38, .aload_n 0, 1), (39, .bipush 20, 2), (41, .newarray .int, 2), (43, .putfield 28, 3), (46, .aload_n 0, 1), (47, .bipush 20, 2), (49, .newarray .int, 2), (51, .putfield 31, 3), (54, .aload_n 0, 1), (55, .bipush 60, 2), (57, .newarray .int, 2), (59, .putfield 34, 3), (62, .return_, 1)]
def mC_62 : List (List (Nat × Instr × Nat)) := [mC_62_0]
/-- 63: TextVerbs$Splitting.collectDelimiter(LTextVerbs$Text;Z)I -/
def mC_63_0 : List (Nat × Instr × Nat) := [(0, .aload_n 0, 1), (1, .getfield 11, 3), (4, .aload_n 0, 1), (5, .getfield 37, 3), (8, .aload_n 1, 1), (9, .aastore, 1), (10, .aload_n 0, 1), (11, .getfield 17, 3), (14, .aload_n 0, 1), (15, .getfield 37, 3), (18, .iload_n 2, 1), (19, .bastore, 1), (20, .aload_n 0, 1), (21, .dup, 1), (22, .getfield 37, 3), (25, .iconst 1, 1), (26, .iadd, 1), (27, .putfield 37, 3), (30, .aload_n 0, 1), (31, .getfield 37, 3), (34, .ireturn, 1)]
def mC_63 : List (List (Nat × Instr × Nat)) := [mC_63_0]
/-- 64: TextVerbs$Splitting.collectReceiver(LTextVerbs$Text;)I -/
def mC_64_0 : List (Nat × Instr × Nat) := [(0, .aload_n 0, 1), (1, .getfield 21, 3), (4, .aload_n 0, 1), (5, .getfield 41, 3), (8, .aload_n 1, 1), (9, .aastore, 1), (10, .aload_n 0, 1), (11, .dup, 1), (12, .getfield 41, 3), (15, .iconst 1, 1), (16, .iadd, 1), (17, .putfield 41, 3), (20, .aload_n 0, 1), (21, .getfield 41, 3), (24, .ireturn, 1)]
def mC_64 : List (List (Nat × Instr × Nat)) := [mC_64_0]
/-- 65: TextVerbs$Splitting.takeApart(LTextVerbs$Text;I)Z -/
def mC_65_0 : List (Nat × Instr × Nat) := [(0, .aload_n 0, 1), (1, .iconst 0, 1), (2, .putfield 44, 3), (5, .aload_n 0, 1), (6, .iload_n 2, 1), (7, .putfield 47, 3), (10, .iconst 0, 1), (11, .istore_n 3, 1), (12, .iload_n 2, 1), (13, .iconst 1, 1), (14, .if_icmp .lt 38, 3), (17, .iload_n 2, 1), (18, .aload_n 1, 1), (19, .invokevirtual 50, 3), (22, .if_icmp .gt 30, 3), (25, .aload_n 0, 1), (26, .aload_n 1, 1), (27, .invokevirtual 54, 3), (30, .aload_n 0, 1), (31, .aload_n 1, 1), (32, .invokevirtual 58, 3), (35, .aload_n 0, 1), (36, .getfield 47, 3), (39, .aload_n 1, 1), (40, .invokevirtual 50, 3), (43, .if_icmp .le 7, 3), (46, .iconst 1, 1), (47, .goto 4, 3), (50, .iconst 0, 1), (51, .istore_n 3, 1), (52, .aload_n 0, 1), (53, .iconst 0, 1), (54, .putfield 37, 3), (57, .aload_n 0, 1), (58, .iconst 0, 1), (59, .putfield 41, 3), (62, .iload_n 3, 1), (63, .ireturn, 1)]
def mC_65 : List (List (Nat × Instr × Nat)) := [mC_65_0]
/-- 66: TextVerbs$Splitting.cutPieces(LTextVerbs$Text;)V -/
def mC_66_0 : List (Nat × Instr × Nat) := [(0, .aload_n 0, 1), (1, .getfield 47, 3), (4, .iconst 1, 1), (5, .isub, 1), (6, .istore_n 2, 1), (7, .iconst 0, 1), (8, .istore_n 3, 1), (9, .iload_n 3, 1), (10, .aload_n 0, 1), (11, .getfield 41, 3), (14, .if_icmp .ge 49, 3), (17, .iload_n 2, 1), (18, .aload_n 1, 1), (19, .invokevirtual 50, 3), (22, .if_icmp .ge 41, 3), (25, .aload_n 0, 1), (26, .getfield 37, 3), (29, .ifCond .ne 13, 3), (32, .aload_n 0, 1), (33, .aload_n 1, 1), (34, .iload_n 2, 1), (35, .iload_n 3, 1), (36, .invokevirtual 61, 3), (39, .goto 10, 3), (42, .aload_n 0, 1), (43, .aload_n 1, 1), (44, .iload_n 2, 1), (45, .iload_n 3, 1), (46, .invokevirtual 65, 3), (49, .istore_n 2, 1), (50, .aload_n 0, 1), (51, .iload_n 3, 1), (52, .iconst 1, 1), (53, .iadd, 1), (54, .putfield 44, 3), (57, .iinc 3 1, 3), (60, .goto (-51), 3), (63, .aload_n 0, 1)]
def mC_66_1 : List (Nat × Instr × Nat) := [(64, .iload_n 2, 1), (65, .iconst 1, 1), (66, .iadd, 1), (67, .putfield 47, 3), (70, .return_, 1)]
def mC_66 : List (List (Nat × Instr × Nat)) := [mC_66_0, mC_66_1]
/-- 67: TextVerbs$Splitting.cutBySize(LTextVerbs$Text;II)I -/
def mC_67_0 : List (Nat × Instr × Nat) := [(0, .aload_n 0, 1), (1, .getfield 21, 3), (4, .iload_n 3, 1), (5, .aaload, 1), (6, .invokevirtual 50, 3), (9, .aload_n 1, 1), (10, .invokevirtual 50, 3), (13, .iload_n 2, 1), (14, .isub, 1), (15, .invokestatic 68, 3), (18, .istore 4, 2), (20, .aload_n 0, 1), (21, .iload_n 3, 1), (22, .iload_n 2, 1), (23, .iload 4, 2), (25, .iconst (-1), 1), (26, .invokevirtual 74, 3), (29, .iload_n 2, 1), (30, .iload 4, 2), (32, .iadd, 1), (33, .ireturn, 1)]
def mC_67 : List (List (Nat × Instr × Nat)) := [mC_67_0]
/-- 68: TextVerbs$Splitting.cutByDelimiter(LTextVerbs$Text;II)I -/
def mC_68_0 : List (Nat × Instr × Nat) := [(0, .iload_n 2, 1), (1, .istore 4, 2), (3, .iload 4, 2), (5, .aload_n 1, 1), (6, .invokevirtual 50, 3), (9, .if_icmp .ge 46, 3), (12, .aload_n 0, 1), (13, .aload_n 1, 1), (14, .iload 4, 2), (16, .invokevirtual 78, 3), (19, .istore 5, 2), (21, .iload 5, 2), (23, .iconst (-1), 1), (24, .if_icmp .eq 25, 3), (27, .aload_n 0, 1), (28, .iload_n 3, 1), (29, .iload_n 2, 1), (30, .iload 4, 2), (32, .iload_n 2, 1), (33, .isub, 1), (34, .iload 5, 2), (36, .invokevirtual 74, 3), (39, .aload_n 0, 1), (40, .aload_n 1, 1), (41, .iload 4, 2), (43, .iload 5, 2), (45, .invokevirtual 82, 3), (48, .ireturn, 1), (49, .iinc 4 1, 3), (52, .goto (-49), 3), (55, .aload_n 0, 1), (56, .iload_n 3, 1), (57, .iload_n 2, 1), (58, .aload_n 1, 1), (59, .invokevirtual 50, 3), (62, .iload_n 2, 1), (63, .isub, 1)]
def mC_68_1 : List (Nat × Instr × Nat) := [(64, .iconst (-1), 1), (65, .invokevirtual 74, 3), (68, .aload_n 1, 1), (69, .invokevirtual 50, 3), (72, .ireturn, 1)]
def mC_68 : List (List (Nat × Instr × Nat)) := [mC_68_0, mC_68_1]
/-- 69: TextVerbs$Splitting.keepPiece(IIII)V -/
def mC_69_0 : List (Nat × Instr × Nat) := [(0, .aload_n 0, 1), (1, .getfield 24, 3), (4, .iload_n 1, 1), (5, .iload_n 2, 1), (6, .iastore, 1), (7, .aload_n 0, 1), (8, .getfield 28, 3), (11, .iload_n 1, 1), (12, .iload_n 3, 1), (13, .iastore, 1), (14, .aload_n 0, 1), (15, .getfield 31, 3), (18, .iload_n 1, 1), (19, .iload 4, 2), (21, .iastore, 1), (22, .return_, 1)]
def mC_69 : List (List (Nat × Instr × Nat)) := [mC_69_0]
/-- 70: TextVerbs$Splitting.delimiterAt(LTextVerbs$Text;I)I -/
def mC_70_0 : List (Nat × Instr × Nat) := [(0, .iconst 0, 1), (1, .istore_n 3, 1), (2, .iload_n 3, 1), (3, .aload_n 0, 1), (4, .getfield 37, 3), (7, .if_icmp .ge 25, 3), (10, .aload_n 1, 1), (11, .aload_n 0, 1), (12, .getfield 11, 3), (15, .iload_n 3, 1), (16, .aaload, 1), (17, .iload_n 2, 1), (18, .invokevirtual 85, 3), (21, .ifCond .eq 5, 3), (24, .iload_n 3, 1), (25, .ireturn, 1), (26, .iinc 3 1, 3), (29, .goto (-27), 3), (32, .iconst (-1), 1), (33, .ireturn, 1)]
def mC_70 : List (List (Nat × Instr × Nat)) := [mC_70_0]
/-- 71: TextVerbs$Splitting.placeBehind(LTextVerbs$Text;II)I -/
def mC_71_0 : List (Nat × Instr × Nat) := [(0, .aload_n 0, 1), (1, .getfield 11, 3), (4, .iload_n 3, 1), (5, .aaload, 1), (6, .astore 4, 2), (8, .iload_n 2, 1), (9, .aload 4, 2), (11, .invokevirtual 50, 3), (14, .iadd, 1), (15, .istore 5, 2), (17, .aload_n 0, 1), (18, .getfield 17, 3), (21, .iload_n 3, 1), (22, .baload, 1), (23, .ifCond .eq 42, 3), (26, .iconst 0, 1), (27, .istore 6, 2), (29, .iload 6, 2), (31, .aload_n 1, 1), (32, .invokevirtual 50, 3), (35, .if_icmp .ge 30, 3), (38, .aload_n 1, 1), (39, .aload 4, 2), (41, .iload 5, 2), (43, .invokevirtual 85, 3), (46, .ifCond .eq 19, 3), (49, .iload 5, 2), (51, .aload 4, 2), (53, .invokevirtual 50, 3), (56, .iadd, 1), (57, .istore 5, 2), (59, .iinc 6 1, 3), (62, .goto (-33), 3)]
def mC_71_1 : List (Nat × Instr × Nat) := [(65, .iload 5, 2), (67, .ireturn, 1)]
def mC_71 : List (List (Nat × Instr × Nat)) := [mC_71_0, mC_71_1]
/-- 72: TextVerbs$Splitting.handOut(LTextVerbs$Text;)V -/
def mC_72_0 : List (Nat × Instr × Nat) := [(0, .aload_n 1, 1), (1, .aload_n 0, 1), (2, .getfield 34, 3), (5, .invokevirtual 89, 3), (8, .iconst 0, 1), (9, .istore_n 2, 1), (10, .iload_n 2, 1), (11, .aload_n 0, 1), (12, .getfield 44, 3), (15, .if_icmp .ge 34, 3), (18, .aload_n 0, 1), (19, .getfield 21, 3), (22, .iload_n 2, 1), (23, .aaload, 1), (24, .aload_n 0, 1), (25, .getfield 34, 3), (28, .aload_n 0, 1), (29, .getfield 24, 3), (32, .iload_n 2, 1), (33, .iaload, 1), (34, .aload_n 0, 1), (35, .getfield 28, 3), (38, .iload_n 2, 1), (39, .iaload, 1), (40, .invokevirtual 93, 3), (43, .iinc 2 1, 3), (46, .goto (-36), 3), (49, .return_, 1)]
def mC_72 : List (List (Nat × Instr × Nat)) := [mC_72_0]
/-- 73: TextVerbs$Table.<init>(I)V -/
def mC_73_0 : List (Nat × Instr × Nat) := [(0, .aload_n 0, 1), (1, .invokespecial 1, 3), (4, .aload_n 0, 1), (5, .iconst 1, 1), (6, .putfield 7, 3), (9, .aload_n 0, 1), (10, .iload_n 1, 1), (11, .newarray .int, 2), (13, .putfield 13, 3), (16, .return_, 1)]
def mC_73 : List (List (Nat × Instr × Nat)) := [mC_73_0]
/-- 74: TextVerbs$Table.findInOrder(I)I -/
def mC_74_0 : List (Nat × Instr × Nat) := [(0, .aload_n 0, 1), (1, .getfield 7, 3), (4, .iconst 1, 1), (5, .isub, 1), (6, .istore_n 2, 1), (7, .iload_n 2, 1), (8, .aload_n 0, 1), (9, .getfield 13, 3), (12, .arraylength, 1), (13, .if_icmp .ge 23, 3), (16, .aload_n 0, 1), (17, .getfield 13, 3), (20, .iload_n 2, 1), (21, .iaload, 1), (22, .iload_n 1, 1), (23, .if_icmp .ne 7, 3), (26, .iload_n 2, 1), (27, .iconst 1, 1), (28, .iadd, 1), (29, .ireturn, 1), (30, .iinc 2 1, 3), (33, .goto (-26), 3), (36, .iconst 0, 1), (37, .ireturn, 1)]
def mC_74 : List (List (Nat × Instr × Nat)) := [mC_74_0]
/-- 75: TextVerbs$Table.findByHalves(I)I -/
def mC_75_0 : List (Nat × Instr × Nat) := [(0, .iconst 0, 1), (1, .istore_n 2, 1), (2, .aload_n 0, 1), (3, .getfield 13, 3), (6, .arraylength, 1), (7, .iconst 1, 1), (8, .isub, 1), (9, .istore_n 3, 1), (10, .iconst 0, 1), (11, .istore 4, 2), (13, .iload 4, 2), (15, .aload_n 0, 1), (16, .getfield 13, 3), (19, .arraylength, 1), (20, .if_icmp .ge 61, 3), (23, .iload_n 2, 1), (24, .iload_n 3, 1), (25, .if_icmp .gt 56, 3), (28, .iload_n 2, 1), (29, .iload_n 3, 1), (30, .iadd, 1), (31, .iconst 2, 1), (32, .idiv, 1), (33, .istore 5, 2), (35, .iload_n 1, 1), (36, .aload_n 0, 1), (37, .getfield 13, 3), (40, .iload 5, 2), (42, .iaload, 1), (43, .if_icmp .ne 8, 3), (46, .iload 5, 2), (48, .iconst 1, 1), (49, .iadd, 1), (50, .ireturn, 1), (51, .iload_n 1, 1), (52, .aload_n 0, 1), (53, .getfield 13, 3), (56, .iload 5, 2), (58, .iaload, 1), (59, .if_icmp .ge 11, 3), (62, .iload 5, 2)]
def mC_75_1 : List (Nat × Instr × Nat) := [(64, .iconst 1, 1), (65, .isub, 1), (66, .istore_n 3, 1), (67, .goto 8, 3), (70, .iload 5, 2), (72, .iconst 1, 1), (73, .iadd, 1), (74, .istore_n 2, 1), (75, .iinc 4 1, 3), (78, .goto (-65), 3), (81, .iconst 0, 1), (82, .ireturn, 1)]
def mC_75 : List (List (Nat × Instr × Nat)) := [mC_75_0, mC_75_1]
/-- 76: TextVerbs$Table.putInOrder(Z)V -/
def mC_76_0 : List (Nat × Instr × Nat) := [(0, .iconst 1, 1), (1, .istore_n 2, 1), (2, .iload_n 2, 1), (3, .aload_n 0, 1), (4, .getfield 13, 3), (7, .arraylength, 1), (8, .if_icmp .ge 71, 3), (11, .aload_n 0, 1), (12, .getfield 13, 3), (15, .iload_n 2, 1), (16, .iaload, 1), (17, .istore_n 3, 1), (18, .iload_n 2, 1), (19, .istore 4, 2), (21, .iload 4, 2), (23, .ifCond .le 42, 3), (26, .iload_n 3, 1), (27, .aload_n 0, 1), (28, .getfield 13, 3), (31, .iload 4, 2), (33, .iconst 1, 1), (34, .isub, 1), (35, .iaload, 1), (36, .iload_n 1, 1), (37, .invokestatic 17, 3), (40, .ifCond .eq 25, 3), (43, .aload_n 0, 1), (44, .getfield 13, 3), (47, .iload 4, 2), (49, .aload_n 0, 1), (50, .getfield 13, 3), (53, .iload 4, 2), (55, .iconst 1, 1), (56, .isub, 1), (57, .iaload, 1), (58, .iastore, 1), (59, .iinc 4 (-1), 3), (62, .goto (-41), 3)]
def mC_76_1 : List (Nat × Instr × Nat) := [(65, .aload_n 0, 1), (66, .getfield 13, 3), (69, .iload 4, 2), (71, .iload_n 3, 1), (72, .iastore, 1), (73, .iinc 2 1, 3), (76, .goto (-74), 3), (79, .return_, 1)]
def mC_76 : List (List (Nat × Instr × Nat)) := [mC_76_0, mC_76_1]
/-- 77: TextVerbs$Table.isAhead(IIZ)Z -/
def mC_77_0 : List (Nat × Instr × Nat) := [(0, .iload_n 2, 1), (1, .ifCond .eq 16, 3), (4, .iload_n 0, 1), (5, .iload_n 1, 1), (6, .if_icmp .le 7, 3), (9, .iconst 1, 1), (10, .goto 17, 3), (13, .iconst 0, 1), (14, .goto 13, 3), (17, .iload_n 0, 1), (18, .iload_n 1, 1), (19, .if_icmp .ge 7, 3), (22, .iconst 1, 1), (23, .goto 4, 3), (26, .iconst 0, 1), (27, .ireturn, 1)]
def mC_77 : List (List (Nat × Instr × Nat)) := [mC_77_0]
/-- 78: TextVerbsModel.<init>()V -/
def mC_78_0 : List (Nat × Instr × Nat) := [(0, .aload_n 0, 1), (1, .invokespecial 1, 3), (4, .aload_n 0, 1), (5, .sipush 2400, 3), (8, .newarray .int, 2), (10, .putfield 7, 3), (13, .aload_n 0, 1), (14, .sipush 2400, 3), (17, .newarray .int, 2), (19, .putfield 13, 3), (22, .aload_n 0, 1), (23, .bipush 40, 2), (25, .newarray .int, 2), (27, .putfield 16, 3), (30, .aload_n 0, 1), (31, .iconst (-1), 1), (32, .putfield 19, 3), (35, .aload_n 0, 1), (36, .iconst (-1), 1), (37, .putfield 23, 3), (40, .aload_n 0, 1), (41, .bipush 20, 2), (43, .newarray .int, 2), (45, .putfield 26, 3), (48, .aload_n 0, 1), (49, .bipush 20, 2), (51, .newarray .int, 2), (53, .putfield 29, 3), (56, .aload_n 0, 1), (57, .bipush 20, 2), (59, .newarray .int, 2), (61, .putfield 32, 3)]
def mC_78_1 : List (Nat × Instr × Nat) := [(64, .aload_n 0, 1), (65, .bipush 20, 2), (67, .newarray .int, 2), (69, .putfield 35, 3), (72, .aload_n 0, 1), (73, .bipush 20, 2), (75, .newarray .int, 2), (77, .putfield 38, 3), (80, .aload_n 0, 1), (81, .bipush 20, 2), (83, .newarray .int, 2), (85, .putfield 41, 3), (88, .aload_n 0, 1), (89, .bipush 20, 2), (91, .newarray .int, 2), (93, .putfield 44, 3), (96, .aload_n 0, 1), (97, .bipush 20, 2), (99, .newarray .int, 2), (101, .putfield 47, 3), (104, .aload_n 0, 1), (105, .bipush 20, 2), (107, .newarray .boolean, 2), (109, .putfield 50, 3), (112, .aload_n 0, 1), (113, .bipush 10, 2), (115, .newarray .int, 2), (117, .putfield 54, 3), (120, .aload_n 0, 1), (121, .bipush 20, 2), (123, .newarray .int, 2), (125, .putfield 57, 3)]
def mC_78_2 : List (Nat × Instr × Nat) := [(128, .aload_n 0, 1), (129, .bipush 20, 2), (131, .newarray .int, 2), (133, .putfield 60, 3), (136, .aload_n 0, 1), (137, .bipush 8, 2), (139, .newarray .int, 2), (141, .putfield 63, 3), (144, .aload_n 0, 1), (145, .bipush 20, 2), (147, .newarray .int, 2), (149, .putfield 66, 3), (152, .aload_n 0, 1), (153, .bipush 20, 2), (155, .newarray .int, 2), (157, .putfield 69, 3), (160, .aload_n 0, 1), (161, .bipush 20, 2), (163, .newarray .int, 2), (165, .putfield 72, 3), (168, .aload_n 0, 1), (169, .bipush 8, 2), (171, .newarray .boolean, 2), (173, .putfield 75, 3), (176, .aload_n 0, 1), (177, .sipush 600, 3), (180, .newarray .int, 2), (182, .putfield 78, 3), (185, .aload_n 0, 1), (186, .bipush 10, 2), (188, .newarray .int, 2), (190, .putfield 81, 3)]
def mC_78_3 : List (Nat × Instr × Nat) := [(193, .aload_n 0, 1), (194, .bipush 10, 2), (196, .newarray .int, 2), (198, .putfield 84, 3), (201, .iconst 0, 1), (202, .istore_n 1, 1), (203, .iload_n 1, 1), (204, .bipush 20, 2), (206, .if_icmp .ge 23, 3), (209, .aload_n 0, 1), (210, .getfield 69, 3), (213, .iload_n 1, 1), (214, .iconst (-1), 1), (215, .iastore, 1), (216, .aload_n 0, 1), (217, .getfield 72, 3), (220, .iload_n 1, 1), (221, .iconst (-1), 1), (222, .iastore, 1), (223, .iinc 1 1, 3), (226, .goto (-23), 3), (229, .return_, 1)]
def mC_78 : List (List (Nat × Instr × Nat)) := [mC_78_0, mC_78_1, mC_78_2, mC_78_3]
/-- 79: TextVerbsModel.thrown()I -/
def mC_79_0 : List (Nat × Instr × Nat) := [(0, .aload_n 0, 1), (1, .getfield 87, 3), (4, .ireturn, 1)]
def mC_79 : List (List (Nat × Instr × Nat)) := [mC_79_0]
/-- 80: TextVerbsModel.fails(ZZ)Z -/
def mC_80_0 : List (Nat × Instr × Nat) := [(0, .aload_n 0, 1), (1, .iload_n 1, 1), (2, .ifCond .eq 7, 3), (5, .iconst 1, 1), (6, .goto 12, 3), (9, .iload_n 2, 1), (10, .ifCond .eq 7, 3), (13, .iconst 2, 1), (14, .goto 4, 3), (17, .iconst 0, 1), (18, .putfield 87, 3), (21, .aload_n 0, 1), (22, .getfield 87, 3), (25, .ifCond .le 7, 3), (28, .iconst 1, 1), (29, .goto 4, 3), (32, .iconst 0, 1), (33, .ireturn, 1)]
def mC_80 : List (List (Nat × Instr × Nat)) := [mC_80_0]
/-- 81: TextVerbsModel.isText(I)Z -/
def mC_81_0 : List (Nat × Instr × Nat) := [(0, .iload_n 1, 1), (1, .ifCond .lt 15, 3), (4, .iload_n 1, 1), (5, .aload_n 0, 1), (6, .getfield 90, 3), (9, .if_icmp .ge 7, 3), (12, .iconst 1, 1), (13, .goto 4, 3), (16, .iconst 0, 1), (17, .ireturn, 1)]
def mC_81 : List (List (Nat × Instr × Nat)) := [mC_81_0]
/-- 82: TextVerbsModel.isFull(I)Z -/
def mC_82_0 : List (Nat × Instr × Nat) := [(0, .aload_n 0, 1), (1, .iload_n 1, 1), (2, .invokevirtual 93, 3), (5, .ifCond .eq 16, 3), (8, .aload_n 0, 1), (9, .getfield 16, 3), (12, .iload_n 1, 1), (13, .iaload, 1), (14, .ifCond .le 7, 3), (17, .iconst 1, 1), (18, .goto 4, 3), (21, .iconst 0, 1), (22, .ireturn, 1)]
def mC_82 : List (List (Nat × Instr × Nat)) := [mC_82_0]
/-- 83: TextVerbsModel.text(I)I -/
def mC_83_0 : List (Nat × Instr × Nat) := [(0, .iload_n 1, 1), (1, .ifCond .lt 9, 3), (4, .iload_n 1, 1), (5, .bipush 60, 2), (7, .if_icmp .le 7, 3), (10, .iconst 1, 1), (11, .goto 4, 3), (14, .iconst 0, 1), (15, .istore_n 2, 1), (16, .aload_n 0, 1), (17, .iload_n 2, 1), (18, .iload_n 2, 1), (19, .ifCond .ne 16, 3), (22, .aload_n 0, 1), (23, .getfield 90, 3), (26, .bipush 40, 2), (28, .if_icmp .ne 7, 3), (31, .iconst 1, 1), (32, .goto 4, 3), (35, .iconst 0, 1), (36, .invokevirtual 97, 3), (39, .ifCond .eq 5, 3), (42, .iconst 0, 1), (43, .ireturn, 1), (44, .aload_n 0, 1), (45, .getfield 16, 3), (48, .aload_n 0, 1), (49, .getfield 90, 3), (52, .iload_n 1, 1), (53, .iastore, 1), (54, .iconst 0, 1), (55, .istore_n 3, 1), (56, .iload_n 3, 1), (57, .iload_n 1, 1), (58, .if_icmp .ge 25, 3), (61, .aload_n 0, 1), (62, .getfield 7, 3)]
def mC_83_1 : List (Nat × Instr × Nat) := [(65, .bipush 60, 2), (67, .aload_n 0, 1), (68, .getfield 90, 3), (71, .imul, 1), (72, .iload_n 3, 1), (73, .iadd, 1), (74, .bipush 32, 2), (76, .iastore, 1), (77, .iinc 3 1, 3), (80, .goto (-24), 3), (83, .aload_n 0, 1), (84, .dup, 1), (85, .getfield 90, 3), (88, .iconst 1, 1), (89, .iadd, 1), (90, .putfield 90, 3), (93, .aload_n 0, 1), (94, .getfield 90, 3), (97, .iconst 1, 1), (98, .isub, 1), (99, .ireturn, 1)]
def mC_83 : List (List (Nat × Instr × Nat)) := [mC_83_0, mC_83_1]
/-- 84: TextVerbsModel.isPlace(II)Z -/
def mC_84_0 : List (Nat × Instr × Nat) := [(0, .aload_n 0, 1), (1, .iload_n 1, 1), (2, .invokevirtual 93, 3), (5, .ifCond .eq 21, 3), (8, .iload_n 2, 1), (9, .ifCond .lt 17, 3), (12, .iload_n 2, 1), (13, .aload_n 0, 1), (14, .getfield 16, 3), (17, .iload_n 1, 1), (18, .iaload, 1), (19, .if_icmp .ge 7, 3), (22, .iconst 1, 1), (23, .goto 4, 3), (26, .iconst 0, 1), (27, .ireturn, 1)]
def mC_84 : List (List (Nat × Instr × Nat)) := [mC_84_0]
/-- 85: TextVerbsModel.set(III)V -/
def mC_85_0 : List (Nat × Instr × Nat) := [(0, .aload_n 0, 1), (1, .aload_n 0, 1), (2, .iload_n 1, 1), (3, .iload_n 2, 1), (4, .invokevirtual 101, 3), (7, .ifCond .eq 14, 3), (10, .iload_n 3, 1), (11, .ifCond .lt 10, 3), (14, .iload_n 3, 1), (15, .sipush 255, 3), (18, .if_icmp .le 7, 3), (21, .iconst 1, 1), (22, .goto 4, 3), (25, .iconst 0, 1), (26, .iconst 0, 1), (27, .invokevirtual 97, 3), (30, .ifCond .eq 4, 3), (33, .return_, 1), (34, .aload_n 0, 1), (35, .getfield 7, 3), (38, .bipush 60, 2), (40, .iload_n 1, 1), (41, .imul, 1), (42, .iload_n 2, 1), (43, .iadd, 1), (44, .iload_n 3, 1), (45, .iastore, 1), (46, .return_, 1)]
def mC_85 : List (List (Nat × Instr × Nat)) := [mC_85_0]
/-- 86: TextVerbsModel.at(II)I -/
def mC_86_0 : List (Nat × Instr × Nat) := [(0, .aload_n 0, 1), (1, .aload_n 0, 1), (2, .iload_n 1, 1), (3, .iload_n 2, 1), (4, .invokevirtual 101, 3), (7, .ifCond .ne 7, 3), (10, .iconst 1, 1), (11, .goto 4, 3), (14, .iconst 0, 1), (15, .iconst 0, 1), (16, .invokevirtual 97, 3), (19, .ifCond .eq 5, 3), (22, .iconst 0, 1), (23, .ireturn, 1), (24, .aload_n 0, 1), (25, .getfield 7, 3), (28, .bipush 60, 2), (30, .iload_n 1, 1), (31, .imul, 1), (32, .iload_n 2, 1), (33, .iadd, 1), (34, .iaload, 1), (35, .ireturn, 1)]
def mC_86 : List (List (Nat × Instr × Nat)) := [mC_86_0]
/-- 87: TextVerbsModel.remember()V -/
def mC_87_0 : List (Nat × Instr × Nat) := [(0, .iconst 0, 1), (1, .istore_n 1, 1), (2, .iload_n 1, 1), (3, .aload_n 0, 1), (4, .getfield 13, 3), (7, .arraylength, 1), (8, .if_icmp .ge 21, 3), (11, .aload_n 0, 1), (12, .getfield 13, 3), (15, .iload_n 1, 1), (16, .aload_n 0, 1), (17, .getfield 7, 3), (20, .iload_n 1, 1), (21, .iaload, 1), (22, .iastore, 1), (23, .iinc 1 1, 3), (26, .goto (-24), 3), (29, .return_, 1)]
def mC_87 : List (List (Nat × Instr × Nat)) := [mC_87_0]
/-- 88: TextVerbsModel.occurs([IIIII)Z -/
def mC_88_0 : List (Nat × Instr × Nat) := [(0, .iload 4, 2), (2, .aload_n 0, 1), (3, .getfield 16, 3), (6, .iload_n 2, 1), (7, .iaload, 1), (8, .iadd, 1), (9, .iload 5, 2), (11, .if_icmp .gt 7, 3), (14, .iconst 1, 1), (15, .goto 4, 3), (18, .iconst 0, 1), (19, .istore 6, 2), (21, .iconst 0, 1), (22, .istore 7, 2), (24, .iload 7, 2), (26, .aload_n 0, 1), (27, .getfield 16, 3), (30, .iload_n 2, 1), (31, .iaload, 1), (32, .if_icmp .ge 45, 3), (35, .iload 6, 2), (37, .ifCond .eq 40, 3), (40, .aload_n 1, 1), (41, .bipush 60, 2), (43, .iload_n 2, 1), (44, .imul, 1), (45, .iload 7, 2), (47, .iadd, 1), (48, .iaload, 1), (49, .aload_n 1, 1), (50, .bipush 60, 2), (52, .iload_n 3, 1), (53, .imul, 1), (54, .iload 4, 2), (56, .iadd, 1), (57, .iload 7, 2), (59, .iadd, 1), (60, .iaload, 1), (61, .if_icmp .ne 7, 3)]
def mC_88_1 : List (Nat × Instr × Nat) := [(64, .iconst 1, 1), (65, .goto 4, 3), (68, .iconst 0, 1), (69, .istore 6, 2), (71, .iinc 7 1, 3), (74, .goto (-50), 3), (77, .iload 6, 2), (79, .ireturn, 1)]
def mC_88 : List (List (Nat × Instr × Nat)) := [mC_88_0, mC_88_1]
/-- 89: TextVerbsModel.first([III)I -/
def mC_89_0 : List (Nat × Instr × Nat) := [(0, .iconst 0, 1), (1, .istore 4, 2), (3, .iload 4, 2), (5, .aload_n 0, 1), (6, .getfield 16, 3), (9, .iload_n 3, 1), (10, .iaload, 1), (11, .if_icmp .ge 30, 3), (14, .aload_n 0, 1), (15, .aload_n 1, 1), (16, .iload_n 2, 1), (17, .iload_n 3, 1), (18, .iload 4, 2), (20, .aload_n 0, 1), (21, .getfield 16, 3), (24, .iload_n 3, 1), (25, .iaload, 1), (26, .invokevirtual 105, 3), (29, .ifCond .eq 6, 3), (32, .iload 4, 2), (34, .ireturn, 1), (35, .iinc 4 1, 3), (38, .goto (-35), 3), (41, .iconst (-1), 1), (42, .ireturn, 1)]
def mC_89 : List (List (Nat × Instr × Nat)) := [mC_89_0]
/-- 90: TextVerbsModel.span(ZI)V -/
def mC_90_0 : List (Nat × Instr × Nat) := [(0, .aload_n 0, 1), (1, .aload_n 0, 1), (2, .iload_n 2, 1), (3, .invokevirtual 109, 3), (6, .ifCond .ne 7, 3), (9, .iconst 1, 1), (10, .goto 4, 3), (13, .iconst 0, 1), (14, .iconst 0, 1), (15, .invokevirtual 97, 3), (18, .ifCond .eq 4, 3), (21, .return_, 1), (22, .iload_n 1, 1), (23, .ifCond .eq 11, 3), (26, .aload_n 0, 1), (27, .iload_n 2, 1), (28, .putfield 19, 3), (31, .goto 8, 3), (34, .aload_n 0, 1), (35, .iload_n 2, 1), (36, .putfield 23, 3), (39, .return_, 1)]
def mC_90 : List (List (Nat × Instr × Nat)) := [mC_90_0]
/-- 91: TextVerbsModel.phrase(III)I -/
def mC_91_0 : List (Nat × Instr × Nat) := [(0, .aload_n 0, 1), (1, .getfield 26, 3), (4, .aload_n 0, 1), (5, .getfield 112, 3), (8, .iload_n 1, 1), (9, .iastore, 1), (10, .aload_n 0, 1), (11, .getfield 29, 3), (14, .aload_n 0, 1), (15, .getfield 112, 3), (18, .iload_n 2, 1), (19, .iastore, 1), (20, .aload_n 0, 1), (21, .getfield 32, 3), (24, .aload_n 0, 1), (25, .getfield 112, 3), (28, .iload_n 3, 1), (29, .iastore, 1), (30, .aload_n 0, 1), (31, .getfield 35, 3), (34, .aload_n 0, 1), (35, .getfield 112, 3), (38, .aload_n 0, 1), (39, .getfield 19, 3), (42, .iastore, 1), (43, .aload_n 0, 1), (44, .getfield 38, 3), (47, .aload_n 0, 1), (48, .getfield 112, 3), (51, .aload_n 0, 1), (52, .getfield 23, 3), (55, .iastore, 1), (56, .aload_n 0, 1), (57, .iconst (-1), 1), (58, .putfield 19, 3), (61, .aload_n 0, 1), (62, .iconst (-1), 1), (63, .putfield 23, 3)]
def mC_91_1 : List (Nat × Instr × Nat) := [(66, .aload_n 0, 1), (67, .dup, 1), (68, .getfield 112, 3), (71, .iconst 1, 1), (72, .iadd, 1), (73, .putfield 112, 3), (76, .aload_n 0, 1), (77, .getfield 112, 3), (80, .ireturn, 1)]
def mC_91 : List (List (Nat × Instr × Nat)) := [mC_91_0, mC_91_1]
/-- 92: TextVerbsModel.tally(III)I -/
def mC_92_0 : List (Nat × Instr × Nat) := [(0, .iload_n 1, 1), (1, .ifCond .lt 30, 3), (4, .iload_n 1, 1), (5, .iconst 2, 1), (6, .if_icmp .gt 25, 3), (9, .iload_n 1, 1), (10, .ifCond .le 11, 3), (13, .aload_n 0, 1), (14, .iload_n 2, 1), (15, .invokevirtual 109, 3), (18, .ifCond .eq 13, 3), (21, .iload_n 3, 1), (22, .ifCond .lt 9, 3), (25, .iload_n 3, 1), (26, .bipush 9, 2), (28, .if_icmp .le 7, 3), (31, .iconst 1, 1), (32, .goto 4, 3), (35, .iconst 0, 1), (36, .istore 4, 2), (38, .aload_n 0, 1), (39, .iload 4, 2), (41, .iload 4, 2), (43, .ifCond .ne 16, 3), (46, .aload_n 0, 1), (47, .getfield 112, 3), (50, .bipush 20, 2), (52, .if_icmp .ne 7, 3), (55, .iconst 1, 1), (56, .goto 4, 3), (59, .iconst 0, 1), (60, .invokevirtual 97, 3), (63, .ifCond .eq 5, 3)]
def mC_92_1 : List (Nat × Instr × Nat) := [(66, .iconst 0, 1), (67, .ireturn, 1), (68, .aload_n 0, 1), (69, .iload_n 1, 1), (70, .iload_n 2, 1), (71, .iload_n 3, 1), (72, .invokevirtual 115, 3), (75, .ireturn, 1)]
def mC_92 : List (List (Nat × Instr × Nat)) := [mC_92_0, mC_92_1]
/-- 93: TextVerbsModel.replace(III)I -/
def mC_93_0 : List (Nat × Instr × Nat) := [(0, .iload_n 1, 1), (1, .ifCond .lt 51, 3), (4, .iload_n 1, 1), (5, .iconst 3, 1), (6, .if_icmp .gt 46, 3), (9, .iload_n 1, 1), (10, .ifCond .le 11, 3), (13, .aload_n 0, 1), (14, .iload_n 2, 1), (15, .invokevirtual 109, 3), (18, .ifCond .eq 34, 3), (21, .aload_n 0, 1), (22, .iload_n 3, 1), (23, .invokevirtual 93, 3), (26, .ifCond .eq 26, 3), (29, .aload_n 0, 1), (30, .getfield 16, 3), (33, .iload_n 3, 1), (34, .iaload, 1), (35, .iload_n 1, 1), (36, .ifCond .ne 7, 3), (39, .iconst 1, 1), (40, .goto 9, 3), (43, .aload_n 0, 1), (44, .getfield 16, 3), (47, .iload_n 2, 1), (48, .iaload, 1), (49, .if_icmp .eq 7, 3), (52, .iconst 1, 1), (53, .goto 4, 3), (56, .iconst 0, 1), (57, .istore 4, 2), (59, .aload_n 0, 1), (60, .iload 4, 2), (62, .iload 4, 2)]
def mC_93_1 : List (Nat × Instr × Nat) := [(64, .ifCond .ne 16, 3), (67, .aload_n 0, 1), (68, .getfield 112, 3), (71, .bipush 20, 2), (73, .if_icmp .ne 7, 3), (76, .iconst 1, 1), (77, .goto 4, 3), (80, .iconst 0, 1), (81, .invokevirtual 97, 3), (84, .ifCond .eq 5, 3), (87, .iconst 0, 1), (88, .ireturn, 1), (89, .aload_n 0, 1), (90, .bipush 10, 2), (92, .iload_n 1, 1), (93, .iadd, 1), (94, .iload_n 2, 1), (95, .iload_n 3, 1), (96, .invokevirtual 115, 3), (99, .ireturn, 1)]
def mC_93 : List (List (Nat × Instr × Nat)) := [mC_93_0, mC_93_1]
/-- 94: TextVerbsModel.beginOf(II)I -/
def mC_94_0 : List (Nat × Instr × Nat) := [(0, .iload_n 2, 1), (1, .iconst (-1), 1), (2, .if_icmp .ne 5, 3), (5, .iconst 0, 1), (6, .ireturn, 1), (7, .aload_n 0, 1), (8, .aload_n 0, 1), (9, .getfield 13, 3), (12, .iload_n 2, 1), (13, .iload_n 1, 1), (14, .invokevirtual 119, 3), (17, .istore_n 3, 1), (18, .iload_n 3, 1), (19, .iconst (-1), 1), (20, .if_icmp .ne 12, 3), (23, .aload_n 0, 1), (24, .getfield 16, 3), (27, .iload_n 1, 1), (28, .iaload, 1), (29, .goto 11, 3), (32, .iload_n 3, 1), (33, .aload_n 0, 1), (34, .getfield 16, 3), (37, .iload_n 2, 1), (38, .iaload, 1), (39, .iadd, 1), (40, .ireturn, 1)]
def mC_94 : List (List (Nat × Instr × Nat)) := [mC_94_0]
/-- 95: TextVerbsModel.endOf(II)I -/
def mC_95_0 : List (Nat × Instr × Nat) := [(0, .iload_n 2, 1), (1, .iconst (-1), 1), (2, .if_icmp .ne 7, 3), (5, .iconst (-1), 1), (6, .goto 13, 3), (9, .aload_n 0, 1), (10, .aload_n 0, 1), (11, .getfield 13, 3), (14, .iload_n 2, 1), (15, .iload_n 1, 1), (16, .invokevirtual 119, 3), (19, .istore_n 3, 1), (20, .iload_n 3, 1), (21, .iconst (-1), 1), (22, .if_icmp .ne 12, 3), (25, .aload_n 0, 1), (26, .getfield 16, 3), (29, .iload_n 1, 1), (30, .iaload, 1), (31, .goto 4, 3), (34, .iload_n 3, 1), (35, .ireturn, 1)]
def mC_95 : List (List (Nat × Instr × Nat)) := [mC_95_0]
/-- 96: TextVerbsModel.matches(III)Z -/
def mC_96_0 : List (Nat × Instr × Nat) := [(0, .aload_n 0, 1), (1, .getfield 26, 3), (4, .iload_n 1, 1), (5, .iaload, 1), (6, .bipush 10, 2), (8, .irem, 1), (9, .istore 4, 2), (11, .iload_n 3, 1), (12, .aload_n 0, 1), (13, .getfield 41, 3), (16, .iload_n 1, 1), (17, .iaload, 1), (18, .if_icmp .lt 44, 3), (21, .iload_n 3, 1), (22, .aload_n 0, 1), (23, .getfield 44, 3), (26, .iload_n 1, 1), (27, .iaload, 1), (28, .if_icmp .ge 34, 3), (31, .iload 4, 2), (33, .iconst 3, 1), (34, .if_icmp .ne 12, 3), (37, .aload_n 0, 1), (38, .getfield 50, 3), (41, .iload_n 1, 1), (42, .baload, 1), (43, .ifCond .ne 19, 3), (46, .iload 4, 2), (48, .iconst 2, 1), (49, .if_icmp .ne 15, 3), (52, .aload_n 0, 1), (53, .getfield 47, 3), (56, .iload_n 1, 1), (57, .iaload, 1), (58, .iload_n 3, 1), (59, .if_icmp .eq 5, 3), (62, .iconst 0, 1), (63, .ireturn, 1)]
def mC_96_1 : List (Nat × Instr × Nat) := [(64, .iload 4, 2), (66, .ifCond .eq 28, 3), (69, .aload_n 0, 1), (70, .aload_n 0, 1), (71, .getfield 13, 3), (74, .aload_n 0, 1), (75, .getfield 29, 3), (78, .iload_n 1, 1), (79, .iaload, 1), (80, .iload_n 2, 1), (81, .iload_n 3, 1), (82, .aload_n 0, 1), (83, .getfield 44, 3), (86, .iload_n 1, 1), (87, .iaload, 1), (88, .invokevirtual 105, 3), (91, .ifCond .eq 7, 3), (94, .iconst 1, 1), (95, .goto 4, 3), (98, .iconst 0, 1), (99, .ireturn, 1)]
def mC_96 : List (List (Nat × Instr × Nat)) := [mC_96_0, mC_96_1]
/-- 97: TextVerbsModel.over(IZ)I -/
def mC_97_0 : List (Nat × Instr × Nat) := [(0, .aload_n 0, 1), (1, .invokevirtual 123, 3), (4, .iconst 0, 1), (5, .istore_n 3, 1), (6, .iload_n 3, 1), (7, .aload_n 0, 1), (8, .getfield 112, 3), (11, .if_icmp .ge 62, 3), (14, .aload_n 0, 1), (15, .getfield 41, 3), (18, .iload_n 3, 1), (19, .aload_n 0, 1), (20, .iload_n 1, 1), (21, .aload_n 0, 1), (22, .getfield 35, 3), (25, .iload_n 3, 1), (26, .iaload, 1), (27, .invokevirtual 126, 3), (30, .iastore, 1), (31, .aload_n 0, 1), (32, .getfield 44, 3), (35, .iload_n 3, 1), (36, .aload_n 0, 1), (37, .iload_n 1, 1), (38, .aload_n 0, 1), (39, .getfield 38, 3), (42, .iload_n 3, 1), (43, .iaload, 1), (44, .invokevirtual 130, 3), (47, .iastore, 1), (48, .aload_n 0, 1), (49, .getfield 47, 3), (52, .iload_n 3, 1), (53, .aload_n 0, 1), (54, .getfield 41, 3), (57, .iload_n 3, 1), (58, .iaload, 1), (59, .iastore, 1), (60, .aload_n 0, 1), (61, .getfield 50, 3)]
def mC_97_1 : List (Nat × Instr × Nat) := [(64, .iload_n 3, 1), (65, .iconst 0, 1), (66, .bastore, 1), (67, .iinc 3 1, 3), (70, .goto (-64), 3), (73, .iconst 0, 1), (74, .istore_n 3, 1), (75, .iconst 0, 1), (76, .istore 4, 2), (78, .iload 4, 2), (80, .aload_n 0, 1), (81, .getfield 16, 3), (84, .iload_n 1, 1), (85, .iaload, 1), (86, .if_icmp .ge 155, 3), (89, .iconst (-1), 1), (90, .istore 5, 2), (92, .aload_n 0, 1), (93, .getfield 112, 3), (96, .iconst 1, 1), (97, .isub, 1), (98, .istore 6, 2), (100, .iload 6, 2), (102, .ifCond .lt 51, 3), (105, .aload_n 0, 1), (106, .getfield 26, 3), (109, .iload 6, 2), (111, .iaload, 1), (112, .bipush 9, 2), (114, .if_icmp .le 7, 3), (117, .iconst 1, 1), (118, .goto 4, 3), (121, .iconst 0, 1), (122, .iload_n 2, 1), (123, .if_icmp .ne 20, 3), (126, .aload_n 0, 1), (127, .iload 6, 2)]
def mC_97_2 : List (Nat × Instr × Nat) := [(129, .iload_n 1, 1), (130, .iload 4, 2), (132, .invokevirtual 133, 3), (135, .ifCond .eq 8, 3), (138, .iload 6, 2), (140, .goto 5, 3), (143, .iload 5, 2), (145, .istore 5, 2), (147, .iinc 6 (-1), 3), (150, .goto (-50), 3), (153, .iload 5, 2), (155, .iconst (-1), 1), (156, .if_icmp .eq 16, 3), (159, .aload_n 0, 1), (160, .getfield 26, 3), (163, .iload 5, 2), (165, .iaload, 1), (166, .bipush 10, 2), (168, .irem, 1), (169, .ifCond .ne 7, 3), (172, .iconst 1, 1), (173, .goto 15, 3), (176, .aload_n 0, 1), (177, .getfield 16, 3), (180, .aload_n 0, 1), (181, .getfield 29, 3), (184, .iload 5, 2), (186, .iaload, 1), (187, .iaload, 1), (188, .istore 6, 2), (190, .iload 5, 2)]
def mC_97_3 : List (Nat × Instr × Nat) := [(192, .iconst (-1), 1), (193, .if_icmp .eq 38, 3), (196, .iinc 3 1, 3), (199, .aload_n 0, 1), (200, .getfield 50, 3), (203, .iload 5, 2), (205, .iconst 1, 1), (206, .bastore, 1), (207, .aload_n 0, 1), (208, .getfield 47, 3), (211, .iload 5, 2), (213, .iload 4, 2), (215, .iload 6, 2), (217, .iadd, 1), (218, .iastore, 1), (219, .aload_n 0, 1), (220, .iload 5, 2), (222, .iload_n 1, 1), (223, .iload 4, 2), (225, .iload 6, 2), (227, .iload_n 2, 1), (228, .invokevirtual 137, 3), (231, .iload 4, 2), (233, .iload 6, 2), (235, .iadd, 1), (236, .istore 4, 2), (238, .goto (-160), 3), (241, .iload_n 3, 1), (242, .ireturn, 1)]
def mC_97 : List (List (Nat × Instr × Nat)) := [mC_97_0, mC_97_1, mC_97_2, mC_97_3]
/-- 98: TextVerbsModel.act(IIIIZ)V -/
def mC_98_0 : List (Nat × Instr × Nat) := [(0, .iload 5, 2), (2, .ifCond .ne 19, 3), (5, .aload_n 0, 1), (6, .getfield 54, 3), (9, .aload_n 0, 1), (10, .getfield 32, 3), (13, .iload_n 1, 1), (14, .iaload, 1), (15, .dup2, 1), (16, .iaload, 1), (17, .iconst 1, 1), (18, .iadd, 1), (19, .iastore, 1), (20, .return_, 1), (21, .iconst 0, 1), (22, .istore 6, 2), (24, .iload 6, 2), (26, .iload 4, 2), (28, .if_icmp .ge 40, 3), (31, .aload_n 0, 1), (32, .getfield 7, 3), (35, .bipush 60, 2), (37, .iload_n 2, 1), (38, .imul, 1), (39, .iload_n 3, 1), (40, .iadd, 1), (41, .iload 6, 2), (43, .iadd, 1), (44, .aload_n 0, 1), (45, .getfield 13, 3), (48, .bipush 60, 2), (50, .aload_n 0, 1), (51, .getfield 32, 3), (54, .iload_n 1, 1), (55, .iaload, 1), (56, .imul, 1), (57, .iload 6, 2), (59, .iadd, 1), (60, .iaload, 1), (61, .iastore, 1), (62, .iinc 6 1, 3)]
def mC_98_1 : List (Nat × Instr × Nat) := [(65, .goto (-41), 3), (68, .return_, 1)]
def mC_98 : List (List (Nat × Instr × Nat)) := [mC_98_0, mC_98_1]
/-- 99: TextVerbsModel.inspect(I)I -/
def mC_99_0 : List (Nat × Instr × Nat) := [(0, .aload_n 0, 1), (1, .aload_n 0, 1), (2, .iload_n 1, 1), (3, .invokevirtual 93, 3), (6, .ifCond .ne 7, 3), (9, .iconst 1, 1), (10, .goto 4, 3), (13, .iconst 0, 1), (14, .iconst 0, 1), (15, .invokevirtual 97, 3), (18, .ifCond .eq 5, 3), (21, .iconst 0, 1), (22, .ireturn, 1), (23, .aload_n 0, 1), (24, .iload_n 1, 1), (25, .iconst 0, 1), (26, .invokevirtual 141, 3), (29, .pop, 1), (30, .aload_n 0, 1), (31, .iload_n 1, 1), (32, .iconst 1, 1), (33, .invokevirtual 141, 3), (36, .istore_n 2, 1), (37, .aload_n 0, 1), (38, .iconst 0, 1), (39, .putfield 112, 3), (42, .iload_n 2, 1), (43, .ireturn, 1)]
def mC_99 : List (List (Nat × Instr × Nat)) := [mC_99_0]
/-- 100: TextVerbsModel.convert(III)I -/
def mC_100_0 : List (Nat × Instr × Nat) := [(0, .aload_n 0, 1), (1, .aload_n 0, 1), (2, .iload_n 1, 1), (3, .invokevirtual 93, 3), (6, .ifCond .eq 34, 3), (9, .aload_n 0, 1), (10, .iload_n 2, 1), (11, .invokevirtual 93, 3), (14, .ifCond .eq 26, 3), (17, .aload_n 0, 1), (18, .iload_n 3, 1), (19, .invokevirtual 93, 3), (22, .ifCond .eq 18, 3), (25, .aload_n 0, 1), (26, .getfield 16, 3), (29, .iload_n 2, 1), (30, .iaload, 1), (31, .aload_n 0, 1), (32, .getfield 16, 3), (35, .iload_n 3, 1), (36, .iaload, 1), (37, .if_icmp .eq 7, 3), (40, .iconst 1, 1), (41, .goto 4, 3), (44, .iconst 0, 1), (45, .iconst 0, 1), (46, .invokevirtual 97, 3), (49, .ifCond .eq 5, 3), (52, .iconst 0, 1), (53, .ireturn, 1), (54, .aload_n 0, 1), (55, .invokevirtual 123, 3), (58, .aload_n 0, 1), (59, .iload_n 1, 1), (60, .aload_n 0, 1), (61, .getfield 19, 3)]
def mC_100_1 : List (Nat × Instr × Nat) := [(64, .invokevirtual 126, 3), (67, .istore 4, 2), (69, .aload_n 0, 1), (70, .iload_n 1, 1), (71, .aload_n 0, 1), (72, .getfield 23, 3), (75, .invokevirtual 130, 3), (78, .istore 5, 2), (80, .aload_n 0, 1), (81, .iconst (-1), 1), (82, .putfield 19, 3), (85, .aload_n 0, 1), (86, .iconst (-1), 1), (87, .putfield 23, 3), (90, .iconst 0, 1), (91, .istore 6, 2), (93, .iload 4, 2), (95, .istore 7, 2), (97, .iload 7, 2), (99, .iload 5, 2), (101, .if_icmp .ge 105, 3), (104, .iconst (-1), 1), (105, .istore 8, 2), (107, .aload_n 0, 1), (108, .getfield 16, 3), (111, .iload_n 2, 1), (112, .iaload, 1), (113, .iconst 1, 1), (114, .isub, 1), (115, .istore 9, 2), (117, .iload 9, 2), (119, .ifCond .lt 45, 3), (122, .aload_n 0, 1), (123, .getfield 13, 3), (126, .bipush 60, 2)]
def mC_100_2 : List (Nat × Instr × Nat) := [(128, .iload_n 2, 1), (129, .imul, 1), (130, .iload 9, 2), (132, .iadd, 1), (133, .iaload, 1), (134, .aload_n 0, 1), (135, .getfield 13, 3), (138, .bipush 60, 2), (140, .iload_n 1, 1), (141, .imul, 1), (142, .iload 7, 2), (144, .iadd, 1), (145, .iaload, 1), (146, .if_icmp .ne 8, 3), (149, .iload 9, 2), (151, .goto 5, 3), (154, .iload 8, 2), (156, .istore 8, 2), (158, .iinc 9 (-1), 3), (161, .goto (-44), 3), (164, .iload 8, 2), (166, .iconst (-1), 1), (167, .if_icmp .ne 6, 3), (170, .goto 30, 3), (173, .aload_n 0, 1), (174, .getfield 7, 3), (177, .bipush 60, 2), (179, .iload_n 1, 1), (180, .imul, 1), (181, .iload 7, 2), (183, .iadd, 1), (184, .aload_n 0, 1), (185, .getfield 13, 3), (188, .bipush 60, 2), (190, .iload_n 3, 1), (191, .imul, 1)]
def mC_100_3 : List (Nat × Instr × Nat) := [(192, .iload 8, 2), (194, .iadd, 1), (195, .iaload, 1), (196, .iastore, 1), (197, .iinc 6 1, 3), (200, .iinc 7 1, 3), (203, .goto (-106), 3), (206, .iload 6, 2), (208, .ireturn, 1)]
def mC_100 : List (List (Nat × Instr × Nat)) := [mC_100_0, mC_100_1, mC_100_2, mC_100_3]
/-- 101: TextVerbsModel.counter(I)I -/
def mC_101_0 : List (Nat × Instr × Nat) := [(0, .aload_n 0, 1), (1, .iload_n 1, 1), (2, .ifCond .lt 9, 3), (5, .iload_n 1, 1), (6, .bipush 9, 2), (8, .if_icmp .le 7, 3), (11, .iconst 1, 1), (12, .goto 4, 3), (15, .iconst 0, 1), (16, .iconst 0, 1), (17, .invokevirtual 97, 3), (20, .ifCond .eq 5, 3), (23, .iconst 0, 1), (24, .ireturn, 1), (25, .aload_n 0, 1), (26, .getfield 54, 3), (29, .iload_n 1, 1), (30, .iaload, 1), (31, .istore_n 2, 1), (32, .aload_n 0, 1), (33, .getfield 54, 3), (36, .iload_n 1, 1), (37, .iconst 0, 1), (38, .iastore, 1), (39, .iload_n 2, 1), (40, .ireturn, 1)]
def mC_101 : List (List (Nat × Instr × Nat)) := [mC_101_0]
/-- 102: TextVerbsModel.part(II)I -/
def mC_102_0 : List (Nat × Instr × Nat) := [(0, .aload_n 0, 1), (1, .iload_n 1, 1), (2, .invokevirtual 93, 3), (5, .ifCond .eq 16, 3), (8, .iload_n 2, 1), (9, .iconst (-1), 1), (10, .if_icmp .eq 15, 3), (13, .aload_n 0, 1), (14, .iload_n 2, 1), (15, .invokevirtual 109, 3), (18, .ifCond .ne 7, 3), (21, .iconst 1, 1), (22, .goto 4, 3), (25, .iconst 0, 1), (26, .istore_n 3, 1), (27, .aload_n 0, 1), (28, .iload_n 3, 1), (29, .iload_n 3, 1), (30, .ifCond .ne 16, 3), (33, .aload_n 0, 1), (34, .getfield 145, 3), (37, .bipush 20, 2), (39, .if_icmp .ne 7, 3), (42, .iconst 1, 1), (43, .goto 4, 3), (46, .iconst 0, 1), (47, .invokevirtual 97, 3), (50, .ifCond .eq 5, 3), (53, .iconst 0, 1), (54, .ireturn, 1), (55, .aload_n 0, 1), (56, .getfield 57, 3), (59, .aload_n 0, 1), (60, .getfield 145, 3), (63, .iload_n 1, 1)]
def mC_102_1 : List (Nat × Instr × Nat) := [(64, .iastore, 1), (65, .aload_n 0, 1), (66, .getfield 60, 3), (69, .aload_n 0, 1), (70, .getfield 145, 3), (73, .iload_n 2, 1), (74, .iastore, 1), (75, .aload_n 0, 1), (76, .dup, 1), (77, .getfield 145, 3), (80, .iconst 1, 1), (81, .iadd, 1), (82, .putfield 145, 3), (85, .aload_n 0, 1), (86, .getfield 145, 3), (89, .ireturn, 1)]
def mC_102 : List (List (Nat × Instr × Nat)) := [mC_102_0, mC_102_1]
/-- 103: TextVerbsModel.join(II)I -/
def mC_103_0 : List (Nat × Instr × Nat) := [(0, .aload_n 0, 1), (1, .aload_n 0, 1), (2, .iload_n 1, 1), (3, .invokevirtual 93, 3), (6, .ifCond .ne 7, 3), (9, .iconst 1, 1), (10, .goto 4, 3), (13, .iconst 0, 1), (14, .iconst 0, 1), (15, .invokevirtual 97, 3), (18, .ifCond .eq 5, 3), (21, .iconst 0, 1), (22, .ireturn, 1), (23, .iload_n 2, 1), (24, .istore_n 3, 1), (25, .iload_n 2, 1), (26, .iconst 1, 1), (27, .if_icmp .lt 17, 3), (30, .iload_n 2, 1), (31, .aload_n 0, 1), (32, .getfield 16, 3), (35, .iload_n 1, 1), (36, .iaload, 1), (37, .if_icmp .gt 7, 3), (40, .iconst 1, 1), (41, .goto 4, 3), (44, .iconst 0, 1), (45, .istore 4, 2), (47, .iconst 0, 1), (48, .istore 5, 2), (50, .iload 5, 2), (52, .aload_n 0, 1), (53, .getfield 145, 3), (56, .if_icmp .ge 152, 3), (59, .iload 4, 2), (61, .ifCond .eq 147, 3)]
def mC_103_1 : List (Nat × Instr × Nat) := [(64, .aload_n 0, 1), (65, .getfield 57, 3), (68, .iload 5, 2), (70, .iaload, 1), (71, .istore 6, 2), (73, .aload_n 0, 1), (74, .getfield 60, 3), (77, .iload 5, 2), (79, .iaload, 1), (80, .iconst (-1), 1), (81, .if_icmp .ne 7, 3), (84, .iconst (-1), 1), (85, .goto 20, 3), (88, .aload_n 0, 1), (89, .aload_n 0, 1), (90, .getfield 7, 3), (93, .aload_n 0, 1), (94, .getfield 60, 3), (97, .iload 5, 2), (99, .iaload, 1), (100, .iload 6, 2), (102, .invokevirtual 119, 3), (105, .istore 7, 2), (107, .iload 7, 2), (109, .iconst (-1), 1), (110, .if_icmp .ne 13, 3), (113, .aload_n 0, 1), (114, .getfield 16, 3), (117, .iload 6, 2), (119, .iaload, 1), (120, .goto 5, 3), (123, .iload 7, 2), (125, .istore 7, 2), (127, .iconst 0, 1)]
def mC_103_2 : List (Nat × Instr × Nat) := [(128, .istore 8, 2), (130, .iload 8, 2), (132, .iload 7, 2), (134, .if_icmp .ge 68, 3), (137, .iload 4, 2), (139, .ifCond .eq 63, 3), (142, .iload_n 3, 1), (143, .aload_n 0, 1), (144, .getfield 16, 3), (147, .iload_n 1, 1), (148, .iaload, 1), (149, .if_icmp .gt 7, 3), (152, .iconst 1, 1), (153, .goto 4, 3), (156, .iconst 0, 1), (157, .istore 4, 2), (159, .iload 4, 2), (161, .ifCond .ne 6, 3), (164, .goto 32, 3), (167, .aload_n 0, 1), (168, .getfield 7, 3), (171, .bipush 60, 2), (173, .iload_n 1, 1), (174, .imul, 1), (175, .iload_n 3, 1), (176, .iadd, 1), (177, .iconst 1, 1), (178, .isub, 1), (179, .aload_n 0, 1), (180, .getfield 7, 3), (183, .bipush 60, 2), (185, .iload 6, 2), (187, .imul, 1), (188, .iload 8, 2), (190, .iadd, 1), (191, .iaload, 1)]
def mC_103_3 : List (Nat × Instr × Nat) := [(192, .iastore, 1), (193, .iinc 3 1, 3), (196, .iinc 8 1, 3), (199, .goto (-69), 3), (202, .iinc 5 1, 3), (205, .goto (-155), 3), (208, .aload_n 0, 1), (209, .iconst 0, 1), (210, .putfield 145, 3), (213, .aload_n 0, 1), (214, .iload_n 3, 1), (215, .putfield 148, 3), (218, .iload 4, 2), (220, .ifCond .eq 7, 3), (223, .iload_n 3, 1), (224, .goto 4, 3), (227, .iconst (-1), 1), (228, .ireturn, 1)]
def mC_103 : List (List (Nat × Instr × Nat)) := [mC_103_0, mC_103_1, mC_103_2, mC_103_3]
/-- 104: TextVerbsModel.delimiter(IZ)I -/
def mC_104_0 : List (Nat × Instr × Nat) := [(0, .aload_n 0, 1), (1, .iload_n 1, 1), (2, .invokevirtual 109, 3), (5, .ifCond .ne 7, 3), (8, .iconst 1, 1), (9, .goto 4, 3), (12, .iconst 0, 1), (13, .istore_n 3, 1), (14, .aload_n 0, 1), (15, .iload_n 3, 1), (16, .iload_n 3, 1), (17, .ifCond .ne 16, 3), (20, .aload_n 0, 1), (21, .getfield 151, 3), (24, .bipush 8, 2), (26, .if_icmp .ne 7, 3), (29, .iconst 1, 1), (30, .goto 4, 3), (33, .iconst 0, 1), (34, .invokevirtual 97, 3), (37, .ifCond .eq 5, 3), (40, .iconst 0, 1), (41, .ireturn, 1), (42, .aload_n 0, 1), (43, .getfield 63, 3), (46, .aload_n 0, 1), (47, .getfield 151, 3), (50, .iload_n 1, 1), (51, .iastore, 1), (52, .aload_n 0, 1), (53, .getfield 75, 3), (56, .aload_n 0, 1), (57, .getfield 151, 3), (60, .iload_n 2, 1), (61, .bastore, 1), (62, .aload_n 0, 1), (63, .dup, 1)]
def mC_104_1 : List (Nat × Instr × Nat) := [(64, .getfield 151, 3), (67, .iconst 1, 1), (68, .iadd, 1), (69, .putfield 151, 3), (72, .aload_n 0, 1), (73, .getfield 151, 3), (76, .ireturn, 1)]
def mC_104 : List (List (Nat × Instr × Nat)) := [mC_104_0, mC_104_1]
/-- 105: TextVerbsModel.receiver(I)I -/
def mC_105_0 : List (Nat × Instr × Nat) := [(0, .aload_n 0, 1), (1, .iload_n 1, 1), (2, .invokevirtual 93, 3), (5, .ifCond .ne 7, 3), (8, .iconst 1, 1), (9, .goto 4, 3), (12, .iconst 0, 1), (13, .istore_n 2, 1), (14, .aload_n 0, 1), (15, .iload_n 2, 1), (16, .iload_n 2, 1), (17, .ifCond .ne 16, 3), (20, .aload_n 0, 1), (21, .getfield 154, 3), (24, .bipush 20, 2), (26, .if_icmp .ne 7, 3), (29, .iconst 1, 1), (30, .goto 4, 3), (33, .iconst 0, 1), (34, .invokevirtual 97, 3), (37, .ifCond .eq 5, 3), (40, .iconst 0, 1), (41, .ireturn, 1), (42, .aload_n 0, 1), (43, .getfield 66, 3), (46, .aload_n 0, 1), (47, .getfield 154, 3), (50, .iload_n 1, 1), (51, .iastore, 1), (52, .aload_n 0, 1), (53, .dup, 1), (54, .getfield 154, 3), (57, .iconst 1, 1), (58, .iadd, 1), (59, .putfield 154, 3), (62, .aload_n 0, 1), (63, .getfield 154, 3)]
def mC_105_1 : List (Nat × Instr × Nat) := [(66, .ireturn, 1)]
def mC_105 : List (List (Nat × Instr × Nat)) := [mC_105_0, mC_105_1]
/-- 106: TextVerbsModel.here(II)I -/
def mC_106_0 : List (Nat × Instr × Nat) := [(0, .iconst (-1), 1), (1, .istore_n 3, 1), (2, .aload_n 0, 1), (3, .getfield 151, 3), (6, .iconst 1, 1), (7, .isub, 1), (8, .istore 4, 2), (10, .iload 4, 2), (12, .ifCond .lt 42, 3), (15, .aload_n 0, 1), (16, .aload_n 0, 1), (17, .getfield 13, 3), (20, .aload_n 0, 1), (21, .getfield 63, 3), (24, .iload 4, 2), (26, .iaload, 1), (27, .iload_n 1, 1), (28, .iload_n 2, 1), (29, .aload_n 0, 1), (30, .getfield 16, 3), (33, .iload_n 1, 1), (34, .iaload, 1), (35, .invokevirtual 105, 3), (38, .ifCond .eq 8, 3), (41, .iload 4, 2), (43, .goto 4, 3), (46, .iload_n 3, 1), (47, .istore_n 3, 1), (48, .iinc 4 (-1), 3), (51, .goto (-41), 3), (54, .iload_n 3, 1), (55, .ireturn, 1)]
def mC_106 : List (List (Nat × Instr × Nat)) := [mC_106_0]
/-- 107: TextVerbsModel.move(IIII)V -/
def mC_107_0 : List (Nat × Instr × Nat) := [(0, .iconst 0, 1), (1, .istore 5, 2), (3, .iload 5, 2), (5, .aload_n 0, 1), (6, .getfield 16, 3), (9, .iload 4, 2), (11, .iaload, 1), (12, .if_icmp .ge 47, 3), (15, .aload_n 0, 1), (16, .getfield 7, 3), (19, .bipush 60, 2), (21, .iload 4, 2), (23, .imul, 1), (24, .iload 5, 2), (26, .iadd, 1), (27, .iload 5, 2), (29, .iload_n 3, 1), (30, .if_icmp .ge 20, 3), (33, .aload_n 0, 1), (34, .getfield 13, 3), (37, .bipush 60, 2), (39, .iload_n 1, 1), (40, .imul, 1), (41, .iload_n 2, 1), (42, .iadd, 1), (43, .iload 5, 2), (45, .iadd, 1), (46, .iaload, 1), (47, .goto 5, 3), (50, .bipush 32, 2), (52, .iastore, 1), (53, .iinc 5 1, 3), (56, .goto (-53), 3), (59, .return_, 1)]
def mC_107 : List (List (Nat × Instr × Nat)) := [mC_107_0]
/-- 108: TextVerbsModel.split(II)I -/
def mC_108_0 : List (Nat × Instr × Nat) := [(0, .aload_n 0, 1), (1, .aload_n 0, 1), (2, .iload_n 1, 1), (3, .invokevirtual 93, 3), (6, .ifCond .ne 7, 3), (9, .iconst 1, 1), (10, .goto 4, 3), (13, .iconst 0, 1), (14, .iconst 0, 1), (15, .invokevirtual 97, 3), (18, .ifCond .eq 5, 3), (21, .iconst 0, 1), (22, .ireturn, 1), (23, .aload_n 0, 1), (24, .invokevirtual 123, 3), (27, .iconst 0, 1), (28, .istore_n 3, 1), (29, .iload_n 3, 1), (30, .bipush 20, 2), (32, .if_icmp .ge 23, 3), (35, .aload_n 0, 1), (36, .getfield 69, 3), (39, .iload_n 3, 1), (40, .iconst (-1), 1), (41, .iastore, 1), (42, .aload_n 0, 1), (43, .getfield 72, 3), (46, .iload_n 3, 1), (47, .iconst (-1), 1), (48, .iastore, 1), (49, .iinc 3 1, 3), (52, .goto (-23), 3), (55, .iload_n 2, 1), (56, .iconst 1, 1), (57, .isub, 1), (58, .istore_n 3, 1), (59, .iload_n 2, 1), (60, .iconst 1, 1), (61, .if_icmp .lt 17, 3)]
def mC_108_1 : List (Nat × Instr × Nat) := [(64, .iload_n 2, 1), (65, .aload_n 0, 1), (66, .getfield 16, 3), (69, .iload_n 1, 1), (70, .iaload, 1), (71, .if_icmp .gt 7, 3), (74, .iconst 1, 1), (75, .goto 4, 3), (78, .iconst 0, 1), (79, .istore 4, 2), (81, .iconst 0, 1), (82, .istore 5, 2), (84, .iload 5, 2), (86, .aload_n 0, 1), (87, .getfield 154, 3), (90, .if_icmp .ge 259, 3), (93, .iload 4, 2), (95, .ifCond .eq 254, 3), (98, .iload_n 3, 1), (99, .aload_n 0, 1), (100, .getfield 16, 3), (103, .iload_n 1, 1), (104, .iaload, 1), (105, .if_icmp .ge 244, 3), (108, .iload_n 3, 1), (109, .istore 6, 2), (111, .iconst (-1), 1), (112, .istore 7, 2), (114, .aload_n 0, 1), (115, .getfield 151, 3), (118, .ifCond .ne 54, 3), (121, .iload_n 3, 1), (122, .aload_n 0, 1), (123, .getfield 16, 3), (126, .aload_n 0, 1), (127, .getfield 66, 3)]
def mC_108_2 : List (Nat × Instr × Nat) := [(130, .iload 5, 2), (132, .iaload, 1), (133, .iaload, 1), (134, .iadd, 1), (135, .aload_n 0, 1), (136, .getfield 16, 3), (139, .iload_n 1, 1), (140, .iaload, 1), (141, .if_icmp .ge 20, 3), (144, .iload_n 3, 1), (145, .aload_n 0, 1), (146, .getfield 16, 3), (149, .aload_n 0, 1), (150, .getfield 66, 3), (153, .iload 5, 2), (155, .iaload, 1), (156, .iaload, 1), (157, .iadd, 1), (158, .goto 9, 3), (161, .aload_n 0, 1), (162, .getfield 16, 3), (165, .iload_n 1, 1), (166, .iaload, 1), (167, .istore 6, 2), (169, .goto 55, 3), (172, .iload 6, 2), (174, .aload_n 0, 1), (175, .getfield 16, 3), (178, .iload_n 1, 1), (179, .iaload, 1), (180, .if_icmp .ge 20, 3), (183, .aload_n 0, 1), (184, .iload_n 1, 1), (185, .iload 6, 2), (187, .invokevirtual 157, 3), (190, .iconst (-1), 1), (191, .if_icmp .ne 9, 3)]
def mC_108_3 : List (Nat × Instr × Nat) := [(194, .iinc 6 1, 3), (197, .goto (-25), 3), (200, .iload 6, 2), (202, .aload_n 0, 1), (203, .getfield 16, 3), (206, .iload_n 1, 1), (207, .iaload, 1), (208, .if_icmp .ge 13, 3), (211, .aload_n 0, 1), (212, .iload_n 1, 1), (213, .iload 6, 2), (215, .invokevirtual 157, 3), (218, .goto 4, 3), (221, .iconst (-1), 1), (222, .istore 7, 2), (224, .aload_n 0, 1), (225, .iload_n 1, 1), (226, .iload_n 3, 1), (227, .iload 6, 2), (229, .iload_n 3, 1), (230, .isub, 1), (231, .aload_n 0, 1), (232, .getfield 66, 3), (235, .iload 5, 2), (237, .iaload, 1), (238, .invokevirtual 160, 3), (241, .aload_n 0, 1), (242, .getfield 69, 3), (245, .iload 5, 2), (247, .iload 6, 2), (249, .iload_n 3, 1), (250, .isub, 1), (251, .iastore, 1), (252, .aload_n 0, 1), (253, .getfield 72, 3)]
def mC_108_4 : List (Nat × Instr × Nat) := [(256, .iload 5, 2), (258, .iload 7, 2), (260, .iastore, 1), (261, .iload 6, 2), (263, .istore_n 3, 1), (264, .iload 7, 2), (266, .iconst (-1), 1), (267, .if_icmp .eq 7, 3), (270, .iconst 1, 1), (271, .goto 4, 3), (274, .iconst 0, 1), (275, .istore 8, 2), (277, .iload 8, 2), (279, .ifCond .eq 64, 3), (282, .iload_n 3, 1), (283, .aload_n 0, 1), (284, .getfield 16, 3), (287, .aload_n 0, 1), (288, .getfield 63, 3), (291, .iload 7, 2), (293, .iaload, 1), (294, .iaload, 1), (295, .iadd, 1), (296, .istore_n 3, 1), (297, .aload_n 0, 1), (298, .getfield 75, 3), (301, .iload 7, 2), (303, .baload, 1), (304, .ifCond .eq 33, 3), (307, .aload_n 0, 1), (308, .aload_n 0, 1), (309, .getfield 13, 3), (312, .aload_n 0, 1), (313, .getfield 63, 3), (316, .iload 7, 2), (318, .iaload, 1), (319, .iload_n 1, 1)]
def mC_108_5 : List (Nat × Instr × Nat) := [(320, .iload_n 3, 1), (321, .aload_n 0, 1), (322, .getfield 16, 3), (325, .iload_n 1, 1), (326, .iaload, 1), (327, .invokevirtual 105, 3), (330, .ifCond .eq 7, 3), (333, .iconst 1, 1), (334, .goto 4, 3), (337, .iconst 0, 1), (338, .istore 8, 2), (340, .goto (-63), 3), (343, .iinc 5 1, 3), (346, .goto (-262), 3), (349, .aload_n 0, 1), (350, .iconst 0, 1), (351, .putfield 151, 3), (354, .aload_n 0, 1), (355, .iconst 0, 1), (356, .putfield 154, 3), (359, .aload_n 0, 1), (360, .iload 4, 2), (362, .ifCond .eq 9, 3), (365, .iload_n 3, 1), (366, .iconst 1, 1), (367, .iadd, 1), (368, .goto 4, 3), (371, .iload_n 2, 1), (372, .putfield 148, 3), (375, .iload 4, 2), (377, .ifCond .eq 19, 3), (380, .iload_n 3, 1), (381, .aload_n 0, 1), (382, .getfield 16, 3)]
def mC_108_6 : List (Nat × Instr × Nat) := [(385, .iload_n 1, 1), (386, .iaload, 1), (387, .if_icmp .lt 9, 3), (390, .iload_n 3, 1), (391, .iconst 1, 1), (392, .iadd, 1), (393, .goto 4, 3), (396, .iconst (-1), 1), (397, .ireturn, 1)]
def mC_108 : List (List (Nat × Instr × Nat)) := [mC_108_0, mC_108_1, mC_108_2, mC_108_3, mC_108_4, mC_108_5, mC_108_6]
/-- 109: TextVerbsModel.result(II)I -/
def mC_109_0 : List (Nat × Instr × Nat) := [(0, .aload_n 0, 1), (1, .iconst 0, 1), (2, .putfield 87, 3), (5, .iload_n 1, 1), (6, .ifCond .lt 18, 3), (9, .iload_n 1, 1), (10, .bipush 20, 2), (12, .if_icmp .ge 12, 3), (15, .iload_n 2, 1), (16, .ifCond .lt 8, 3), (19, .iload_n 2, 1), (20, .iconst 1, 1), (21, .if_icmp .le 7, 3), (24, .iconst (-1), 1), (25, .goto 22, 3), (28, .iload_n 2, 1), (29, .ifCond .ne 12, 3), (32, .aload_n 0, 1), (33, .getfield 69, 3), (36, .iload_n 1, 1), (37, .iaload, 1), (38, .goto 9, 3), (41, .aload_n 0, 1), (42, .getfield 72, 3), (45, .iload_n 1, 1), (46, .iaload, 1), (47, .ireturn, 1)]
def mC_109 : List (List (Nat × Instr × Nat)) := [mC_109_0]
/-- 110: TextVerbsModel.pointer()I -/
def mC_110_0 : List (Nat × Instr × Nat) := [(0, .aload_n 0, 1), (1, .iconst 0, 1), (2, .putfield 87, 3), (5, .aload_n 0, 1), (6, .getfield 148, 3), (9, .ireturn, 1)]
def mC_110 : List (List (Nat × Instr × Nat)) := [mC_110_0]
/-- 111: TextVerbsModel.table(I)I -/
def mC_111_0 : List (Nat × Instr × Nat) := [(0, .iload_n 1, 1), (1, .iconst 1, 1), (2, .if_icmp .lt 9, 3), (5, .iload_n 1, 1), (6, .bipush 60, 2), (8, .if_icmp .le 7, 3), (11, .iconst 1, 1), (12, .goto 4, 3), (15, .iconst 0, 1), (16, .istore_n 2, 1), (17, .aload_n 0, 1), (18, .iload_n 2, 1), (19, .iload_n 2, 1), (20, .ifCond .ne 16, 3), (23, .aload_n 0, 1), (24, .getfield 164, 3), (27, .bipush 10, 2), (29, .if_icmp .ne 7, 3), (32, .iconst 1, 1), (33, .goto 4, 3), (36, .iconst 0, 1), (37, .invokevirtual 97, 3), (40, .ifCond .eq 5, 3), (43, .iconst 0, 1), (44, .ireturn, 1), (45, .aload_n 0, 1), (46, .getfield 81, 3), (49, .aload_n 0, 1), (50, .getfield 164, 3), (53, .iload_n 1, 1), (54, .iastore, 1), (55, .aload_n 0, 1), (56, .getfield 84, 3), (59, .aload_n 0, 1), (60, .getfield 164, 3), (63, .iconst 1, 1)]
def mC_111_1 : List (Nat × Instr × Nat) := [(64, .iastore, 1), (65, .aload_n 0, 1), (66, .dup, 1), (67, .getfield 164, 3), (70, .iconst 1, 1), (71, .iadd, 1), (72, .putfield 164, 3), (75, .aload_n 0, 1), (76, .getfield 164, 3), (79, .iconst 1, 1), (80, .isub, 1), (81, .ireturn, 1)]
def mC_111 : List (List (Nat × Instr × Nat)) := [mC_111_0, mC_111_1]
/-- 112: TextVerbsModel.isTable(I)Z -/
def mC_112_0 : List (Nat × Instr × Nat) := [(0, .iload_n 1, 1), (1, .ifCond .lt 15, 3), (4, .iload_n 1, 1), (5, .aload_n 0, 1), (6, .getfield 164, 3), (9, .if_icmp .ge 7, 3), (12, .iconst 1, 1), (13, .goto 4, 3), (16, .iconst 0, 1), (17, .ireturn, 1)]
def mC_112 : List (List (Nat × Instr × Nat)) := [mC_112_0]
/-- 113: TextVerbsModel.isRow(II)Z -/
def mC_113_0 : List (Nat × Instr × Nat) := [(0, .aload_n 0, 1), (1, .iload_n 1, 1), (2, .invokevirtual 167, 3), (5, .ifCond .eq 22, 3), (8, .iload_n 2, 1), (9, .iconst 1, 1), (10, .if_icmp .lt 17, 3), (13, .iload_n 2, 1), (14, .aload_n 0, 1), (15, .getfield 81, 3), (18, .iload_n 1, 1), (19, .iaload, 1), (20, .if_icmp .gt 7, 3), (23, .iconst 1, 1), (24, .goto 4, 3), (27, .iconst 0, 1), (28, .ireturn, 1)]
def mC_113 : List (List (Nat × Instr × Nat)) := [mC_113_0]
/-- 114: TextVerbsModel.row(III)I -/
def mC_114_0 : List (Nat × Instr × Nat) := [(0, .aload_n 0, 1), (1, .aload_n 0, 1), (2, .iload_n 1, 1), (3, .iload_n 2, 1), (4, .invokevirtual 170, 3), (7, .ifCond .ne 7, 3), (10, .iconst 1, 1), (11, .goto 4, 3), (14, .iconst 0, 1), (15, .iconst 0, 1), (16, .invokevirtual 97, 3), (19, .ifCond .eq 5, 3), (22, .iconst 0, 1), (23, .ireturn, 1), (24, .aload_n 0, 1), (25, .getfield 78, 3), (28, .bipush 60, 2), (30, .iload_n 1, 1), (31, .imul, 1), (32, .iload_n 2, 1), (33, .iadd, 1), (34, .iconst 1, 1), (35, .isub, 1), (36, .iaload, 1), (37, .istore 4, 2), (39, .aload_n 0, 1), (40, .getfield 78, 3), (43, .bipush 60, 2), (45, .iload_n 1, 1), (46, .imul, 1), (47, .iload_n 2, 1), (48, .iadd, 1), (49, .iconst 1, 1), (50, .isub, 1), (51, .iload_n 3, 1), (52, .iastore, 1), (53, .iload 4, 2), (55, .ireturn, 1)]
def mC_114 : List (List (Nat × Instr × Nat)) := [mC_114_0]
/-- 115: TextVerbsModel.index(II)I -/
def mC_115_0 : List (Nat × Instr × Nat) := [(0, .aload_n 0, 1), (1, .aload_n 0, 1), (2, .iload_n 1, 1), (3, .iload_n 2, 1), (4, .invokevirtual 170, 3), (7, .ifCond .ne 7, 3), (10, .iconst 1, 1), (11, .goto 4, 3), (14, .iconst 0, 1), (15, .iconst 0, 1), (16, .invokevirtual 97, 3), (19, .ifCond .eq 5, 3), (22, .iconst 0, 1), (23, .ireturn, 1), (24, .aload_n 0, 1), (25, .getfield 84, 3), (28, .iload_n 1, 1), (29, .iaload, 1), (30, .istore_n 3, 1), (31, .aload_n 0, 1), (32, .getfield 84, 3), (35, .iload_n 1, 1), (36, .iload_n 2, 1), (37, .iastore, 1), (38, .iload_n 3, 1), (39, .ireturn, 1)]
def mC_115 : List (List (Nat × Instr × Nat)) := [mC_115_0]
/-- 116: TextVerbsModel.search(IZI)I -/
def mC_116_0 : List (Nat × Instr × Nat) := [(0, .aload_n 0, 1), (1, .aload_n 0, 1), (2, .iload_n 1, 1), (3, .invokevirtual 167, 3), (6, .ifCond .ne 7, 3), (9, .iconst 1, 1), (10, .goto 4, 3), (13, .iconst 0, 1), (14, .iconst 0, 1), (15, .invokevirtual 97, 3), (18, .ifCond .eq 5, 3), (21, .iconst 0, 1), (22, .ireturn, 1), (23, .iconst 0, 1), (24, .istore 4, 2), (26, .iconst 1, 1), (27, .istore 5, 2), (29, .aload_n 0, 1), (30, .getfield 81, 3), (33, .iload_n 1, 1), (34, .iaload, 1), (35, .istore 6, 2), (37, .iload_n 2, 1), (38, .ifCond .eq 78, 3), (41, .iload 4, 2), (43, .ifCond .ne 73, 3), (46, .iload 5, 2), (48, .iload 6, 2), (50, .if_icmp .gt 66, 3), (53, .iload 5, 2), (55, .iload 6, 2), (57, .iadd, 1), (58, .iconst 2, 1), (59, .idiv, 1), (60, .istore 7, 2), (62, .aload_n 0, 1), (63, .getfield 78, 3)]
def mC_116_1 : List (Nat × Instr × Nat) := [(66, .bipush 60, 2), (68, .iload_n 1, 1), (69, .imul, 1), (70, .iload 7, 2), (72, .iadd, 1), (73, .iconst 1, 1), (74, .isub, 1), (75, .iaload, 1), (76, .istore 8, 2), (78, .iload 8, 2), (80, .iload_n 3, 1), (81, .if_icmp .ne 8, 3), (84, .iload 7, 2), (86, .goto 4, 3), (89, .iconst 0, 1), (90, .istore 4, 2), (92, .iload_n 3, 1), (93, .iload 8, 2), (95, .if_icmp .ge 12, 3), (98, .iload 7, 2), (100, .iconst 1, 1), (101, .isub, 1), (102, .istore 6, 2), (104, .goto 9, 3), (107, .iload 7, 2), (109, .iconst 1, 1), (110, .iadd, 1), (111, .istore 5, 2), (113, .goto (-76), 3), (116, .aload_n 0, 1), (117, .getfield 81, 3), (120, .iload_n 1, 1), (121, .iaload, 1), (122, .istore 7, 2), (124, .iload 7, 2), (126, .aload_n 0, 1), (127, .getfield 84, 3)]
def mC_116_2 : List (Nat × Instr × Nat) := [(130, .iload_n 1, 1), (131, .iaload, 1), (132, .if_icmp .lt 40, 3), (135, .iload_n 2, 1), (136, .ifCond .ne 36, 3), (139, .aload_n 0, 1), (140, .getfield 78, 3), (143, .bipush 60, 2), (145, .iload_n 1, 1), (146, .imul, 1), (147, .iload 7, 2), (149, .iadd, 1), (150, .iconst 1, 1), (151, .isub, 1), (152, .iaload, 1), (153, .iload_n 3, 1), (154, .if_icmp .ne 8, 3), (157, .iload 7, 2), (159, .goto 5, 3), (162, .iload 4, 2), (164, .istore 4, 2), (166, .iinc 7 (-1), 3), (169, .goto (-45), 3), (172, .iload 4, 2), (174, .ifCond .le 11, 3), (177, .aload_n 0, 1), (178, .getfield 84, 3), (181, .iload_n 1, 1), (182, .iload 4, 2), (184, .iastore, 1), (185, .iload 4, 2), (187, .ireturn, 1)]
def mC_116 : List (List (Nat × Instr × Nat)) := [mC_116_0, mC_116_1, mC_116_2]
/-- 117: TextVerbsModel.sort(IZ)V -/
def mC_117_0 : List (Nat × Instr × Nat) := [(0, .aload_n 0, 1), (1, .aload_n 0, 1), (2, .iload_n 1, 1), (3, .invokevirtual 167, 3), (6, .ifCond .ne 7, 3), (9, .iconst 1, 1), (10, .goto 4, 3), (13, .iconst 0, 1), (14, .iconst 0, 1), (15, .invokevirtual 97, 3), (18, .ifCond .eq 4, 3), (21, .return_, 1), (22, .iconst 1, 1), (23, .istore_n 3, 1), (24, .iload_n 3, 1), (25, .aload_n 0, 1), (26, .getfield 81, 3), (29, .iload_n 1, 1), (30, .iaload, 1), (31, .if_icmp .ge 132, 3), (34, .bipush 60, 2), (36, .iload_n 1, 1), (37, .imul, 1), (38, .istore 4, 2), (40, .iload 4, 2), (42, .bipush 60, 2), (44, .iload_n 1, 1), (45, .imul, 1), (46, .aload_n 0, 1), (47, .getfield 81, 3), (50, .iload_n 1, 1), (51, .iaload, 1), (52, .iadd, 1), (53, .iload_n 3, 1), (54, .isub, 1), (55, .if_icmp .ge 102, 3), (58, .aload_n 0, 1), (59, .getfield 78, 3), (62, .iload 4, 2)]
def mC_117_1 : List (Nat × Instr × Nat) := [(64, .iaload, 1), (65, .istore 5, 2), (67, .aload_n 0, 1), (68, .getfield 78, 3), (71, .iload 4, 2), (73, .iconst 1, 1), (74, .iadd, 1), (75, .iaload, 1), (76, .istore 6, 2), (78, .iload_n 2, 1), (79, .ifCond .eq 18, 3), (82, .iload 5, 2), (84, .iload 6, 2), (86, .if_icmp .ge 7, 3), (89, .iconst 1, 1), (90, .goto 19, 3), (93, .iconst 0, 1), (94, .goto 15, 3), (97, .iload 5, 2), (99, .iload 6, 2), (101, .if_icmp .le 7, 3), (104, .iconst 1, 1), (105, .goto 4, 3), (108, .iconst 0, 1), (109, .istore 7, 2), (111, .aload_n 0, 1), (112, .getfield 78, 3), (115, .iload 4, 2), (117, .iload 7, 2), (119, .ifCond .eq 8, 3), (122, .iload 6, 2), (124, .goto 5, 3), (127, .iload 5, 2)]
def mC_117_2 : List (Nat × Instr × Nat) := [(129, .iastore, 1), (130, .aload_n 0, 1), (131, .getfield 78, 3), (134, .iload 4, 2), (136, .iconst 1, 1), (137, .iadd, 1), (138, .iload 7, 2), (140, .ifCond .eq 8, 3), (143, .iload 5, 2), (145, .goto 5, 3), (148, .iload 6, 2), (150, .iastore, 1), (151, .iinc 4 1, 3), (154, .goto (-114), 3), (157, .iinc 3 1, 3), (160, .goto (-136), 3), (163, .return_, 1)]
def mC_117 : List (List (Nat × Instr × Nat)) := [mC_117_0, mC_117_1, mC_117_2]
/-- 118: TextVerbsLaw.text(LTextVerbs;I[J)I -/
def mC_118_0 : List (Nat × Instr × Nat) := [(0, .aload_n 2, 1), (1, .iconst 0, 1), (2, .aload_n 0, 1), (3, .iload_n 1, 1), (4, .invokevirtual 7, 3), (7, .i2l, 1), (8, .lastore, 1), (9, .goto 9, 3), (12, .astore_n 3, 1), (13, .iconst 1, 1), (14, .ireturn, 1), (15, .astore_n 3, 1), (16, .iconst 2, 1), (17, .ireturn, 1), (18, .iconst 0, 1), (19, .ireturn, 1)]
def mC_118 : List (List (Nat × Instr × Nat)) := [mC_118_0]
/-- 119: TextVerbsLaw.set(LTextVerbs;III)I -/
def mC_119_0 : List (Nat × Instr × Nat) := [(0, .aload_n 0, 1), (1, .iload_n 1, 1), (2, .iload_n 2, 1), (3, .iload_n 3, 1), (4, .invokevirtual 17, 3), (7, .goto 7, 3), (10, .astore 4, 2), (12, .iconst 1, 1), (13, .ireturn, 1), (14, .iconst 0, 1), (15, .ireturn, 1)]
def mC_119 : List (List (Nat × Instr × Nat)) := [mC_119_0]
/-- 120: TextVerbsLaw.at(LTextVerbs;II[J)I -/
def mC_120_0 : List (Nat × Instr × Nat) := [(0, .aload_n 3, 1), (1, .iconst 0, 1), (2, .aload_n 0, 1), (3, .iload_n 1, 1), (4, .iload_n 2, 1), (5, .invokevirtual 21, 3), (8, .i2l, 1), (9, .lastore, 1), (10, .goto 7, 3), (13, .astore 4, 2), (15, .iconst 1, 1), (16, .ireturn, 1), (17, .iconst 0, 1), (18, .ireturn, 1)]
def mC_120 : List (List (Nat × Instr × Nat)) := [mC_120_0]
/-- 121: TextVerbsLaw.span(LTextVerbs;ZI)I -/
def mC_121_0 : List (Nat × Instr × Nat) := [(0, .aload_n 0, 1), (1, .iload_n 1, 1), (2, .iload_n 2, 1), (3, .invokevirtual 25, 3), (6, .goto 6, 3), (9, .astore_n 3, 1), (10, .iconst 1, 1), (11, .ireturn, 1), (12, .iconst 0, 1), (13, .ireturn, 1)]
def mC_121 : List (List (Nat × Instr × Nat)) := [mC_121_0]
/-- 122: TextVerbsLaw.tally(LTextVerbs;III[J)I -/
def mC_122_0 : List (Nat × Instr × Nat) := [(0, .aload 4, 2), (2, .iconst 0, 1), (3, .aload_n 0, 1), (4, .iload_n 1, 1), (5, .iload_n 2, 1), (6, .iload_n 3, 1), (7, .invokevirtual 29, 3), (10, .i2l, 1), (11, .lastore, 1), (12, .goto 11, 3), (15, .astore 5, 2), (17, .iconst 1, 1), (18, .ireturn, 1), (19, .astore 5, 2), (21, .iconst 2, 1), (22, .ireturn, 1), (23, .iconst 0, 1), (24, .ireturn, 1)]
def mC_122 : List (List (Nat × Instr × Nat)) := [mC_122_0]
/-- 123: TextVerbsLaw.replace(LTextVerbs;III[J)I -/
def mC_123_0 : List (Nat × Instr × Nat) := [(0, .aload 4, 2), (2, .iconst 0, 1), (3, .aload_n 0, 1), (4, .iload_n 1, 1), (5, .iload_n 2, 1), (6, .iload_n 3, 1), (7, .invokevirtual 33, 3), (10, .i2l, 1), (11, .lastore, 1), (12, .goto 11, 3), (15, .astore 5, 2), (17, .iconst 1, 1), (18, .ireturn, 1), (19, .astore 5, 2), (21, .iconst 2, 1), (22, .ireturn, 1), (23, .iconst 0, 1), (24, .ireturn, 1)]
def mC_123 : List (List (Nat × Instr × Nat)) := [mC_123_0]
/-- 124: TextVerbsLaw.inspect(LTextVerbs;I[J)I -/
def mC_124_0 : List (Nat × Instr × Nat) := [(0, .aload_n 2, 1), (1, .iconst 0, 1), (2, .aload_n 0, 1), (3, .iload_n 1, 1), (4, .invokevirtual 36, 3), (7, .i2l, 1), (8, .lastore, 1), (9, .goto 6, 3), (12, .astore_n 3, 1), (13, .iconst 1, 1), (14, .ireturn, 1), (15, .iconst 0, 1), (16, .ireturn, 1)]
def mC_124 : List (List (Nat × Instr × Nat)) := [mC_124_0]
/-- 125: TextVerbsLaw.convert(LTextVerbs;III[J)I -/
def mC_125_0 : List (Nat × Instr × Nat) := [(0, .aload 4, 2), (2, .iconst 0, 1), (3, .aload_n 0, 1), (4, .iload_n 1, 1), (5, .iload_n 2, 1), (6, .iload_n 3, 1), (7, .invokevirtual 39, 3), (10, .i2l, 1), (11, .lastore, 1), (12, .goto 7, 3), (15, .astore 5, 2), (17, .iconst 1, 1), (18, .ireturn, 1), (19, .iconst 0, 1), (20, .ireturn, 1)]
def mC_125 : List (List (Nat × Instr × Nat)) := [mC_125_0]
/-- 126: TextVerbsLaw.counter(LTextVerbs;I[J)I -/
def mC_126_0 : List (Nat × Instr × Nat) := [(0, .aload_n 2, 1), (1, .iconst 0, 1), (2, .aload_n 0, 1), (3, .iload_n 1, 1), (4, .invokevirtual 42, 3), (7, .i2l, 1), (8, .lastore, 1), (9, .goto 6, 3), (12, .astore_n 3, 1), (13, .iconst 1, 1), (14, .ireturn, 1), (15, .iconst 0, 1), (16, .ireturn, 1)]
def mC_126 : List (List (Nat × Instr × Nat)) := [mC_126_0]
/-- 127: TextVerbsLaw.part(LTextVerbs;II[J)I -/
def mC_127_0 : List (Nat × Instr × Nat) := [(0, .aload_n 3, 1), (1, .iconst 0, 1), (2, .aload_n 0, 1), (3, .iload_n 1, 1), (4, .iload_n 2, 1), (5, .invokevirtual 45, 3), (8, .i2l, 1), (9, .lastore, 1), (10, .goto 11, 3), (13, .astore 4, 2), (15, .iconst 1, 1), (16, .ireturn, 1), (17, .astore 4, 2), (19, .iconst 2, 1), (20, .ireturn, 1), (21, .iconst 0, 1), (22, .ireturn, 1)]
def mC_127 : List (List (Nat × Instr × Nat)) := [mC_127_0]
/-- 128: TextVerbsLaw.join(LTextVerbs;II[J)I -/
def mC_128_0 : List (Nat × Instr × Nat) := [(0, .aload_n 3, 1), (1, .iconst 0, 1), (2, .aload_n 0, 1), (3, .iload_n 1, 1), (4, .iload_n 2, 1), (5, .invokevirtual 48, 3), (8, .i2l, 1), (9, .lastore, 1), (10, .goto 7, 3), (13, .astore 4, 2), (15, .iconst 1, 1), (16, .ireturn, 1), (17, .iconst 0, 1), (18, .ireturn, 1)]
def mC_128 : List (List (Nat × Instr × Nat)) := [mC_128_0]
/-- 129: TextVerbsLaw.delimiter(LTextVerbs;IZ[J)I -/
def mC_129_0 : List (Nat × Instr × Nat) := [(0, .aload_n 3, 1), (1, .iconst 0, 1), (2, .aload_n 0, 1), (3, .iload_n 1, 1), (4, .iload_n 2, 1), (5, .invokevirtual 51, 3), (8, .i2l, 1), (9, .lastore, 1), (10, .goto 11, 3), (13, .astore 4, 2), (15, .iconst 1, 1), (16, .ireturn, 1), (17, .astore 4, 2), (19, .iconst 2, 1), (20, .ireturn, 1), (21, .iconst 0, 1), (22, .ireturn, 1)]
def mC_129 : List (List (Nat × Instr × Nat)) := [mC_129_0]
/-- 130: TextVerbsLaw.receiver(LTextVerbs;I[J)I -/
def mC_130_0 : List (Nat × Instr × Nat) := [(0, .aload_n 2, 1), (1, .iconst 0, 1), (2, .aload_n 0, 1), (3, .iload_n 1, 1), (4, .invokevirtual 55, 3), (7, .i2l, 1), (8, .lastore, 1), (9, .goto 9, 3), (12, .astore_n 3, 1), (13, .iconst 1, 1), (14, .ireturn, 1), (15, .astore_n 3, 1), (16, .iconst 2, 1), (17, .ireturn, 1), (18, .iconst 0, 1), (19, .ireturn, 1)]
def mC_130 : List (List (Nat × Instr × Nat)) := [mC_130_0]
/-- 131: TextVerbsLaw.split(LTextVerbs;II[J)I -/
def mC_131_0 : List (Nat × Instr × Nat) := [(0, .aload_n 3, 1), (1, .iconst 0, 1), (2, .aload_n 0, 1), (3, .iload_n 1, 1), (4, .iload_n 2, 1), (5, .invokevirtual 58, 3), (8, .i2l, 1), (9, .lastore, 1), (10, .goto 7, 3), (13, .astore 4, 2), (15, .iconst 1, 1), (16, .ireturn, 1), (17, .iconst 0, 1), (18, .ireturn, 1)]
def mC_131 : List (List (Nat × Instr × Nat)) := [mC_131_0]
/-- 132: TextVerbsLaw.table(LTextVerbs;I[J)I -/
def mC_132_0 : List (Nat × Instr × Nat) := [(0, .aload_n 2, 1), (1, .iconst 0, 1), (2, .aload_n 0, 1), (3, .iload_n 1, 1), (4, .invokevirtual 61, 3), (7, .i2l, 1), (8, .lastore, 1), (9, .goto 9, 3), (12, .astore_n 3, 1), (13, .iconst 1, 1), (14, .ireturn, 1), (15, .astore_n 3, 1), (16, .iconst 2, 1), (17, .ireturn, 1), (18, .iconst 0, 1), (19, .ireturn, 1)]
def mC_132 : List (List (Nat × Instr × Nat)) := [mC_132_0]
/-- 133: TextVerbsLaw.row(LTextVerbs;III[J)I -/
def mC_133_0 : List (Nat × Instr × Nat) := [(0, .aload 4, 2), (2, .iconst 0, 1), (3, .aload_n 0, 1), (4, .iload_n 1, 1), (5, .iload_n 2, 1), (6, .iload_n 3, 1), (7, .invokevirtual 64, 3), (10, .i2l, 1), (11, .lastore, 1), (12, .goto 7, 3), (15, .astore 5, 2), (17, .iconst 1, 1), (18, .ireturn, 1), (19, .iconst 0, 1), (20, .ireturn, 1)]
def mC_133 : List (List (Nat × Instr × Nat)) := [mC_133_0]
/-- 134: TextVerbsLaw.index(LTextVerbs;II[J)I -/
def mC_134_0 : List (Nat × Instr × Nat) := [(0, .aload_n 3, 1), (1, .iconst 0, 1), (2, .aload_n 0, 1), (3, .iload_n 1, 1), (4, .iload_n 2, 1), (5, .invokevirtual 67, 3), (8, .i2l, 1), (9, .lastore, 1), (10, .goto 7, 3), (13, .astore 4, 2), (15, .iconst 1, 1), (16, .ireturn, 1), (17, .iconst 0, 1), (18, .ireturn, 1)]
def mC_134 : List (List (Nat × Instr × Nat)) := [mC_134_0]
/-- 135: TextVerbsLaw.search(LTextVerbs;IZI[J)I -/
def mC_135_0 : List (Nat × Instr × Nat) := [(0, .aload 4, 2), (2, .iconst 0, 1), (3, .aload_n 0, 1), (4, .iload_n 1, 1), (5, .iload_n 2, 1), (6, .iload_n 3, 1), (7, .invokevirtual 70, 3), (10, .i2l, 1), (11, .lastore, 1), (12, .goto 7, 3), (15, .astore 5, 2), (17, .iconst 1, 1), (18, .ireturn, 1), (19, .iconst 0, 1), (20, .ireturn, 1)]
def mC_135 : List (List (Nat × Instr × Nat)) := [mC_135_0]
/-- 136: TextVerbsLaw.sort(LTextVerbs;IZ)I -/
def mC_136_0 : List (Nat × Instr × Nat) := [(0, .aload_n 0, 1), (1, .iload_n 1, 1), (2, .iload_n 2, 1), (3, .invokevirtual 74, 3), (6, .goto 6, 3), (9, .astore_n 3, 1), (10, .iconst 1, 1), (11, .ireturn, 1), (12, .iconst 0, 1), (13, .ireturn, 1)]
def mC_136 : List (List (Nat × Instr × Nat)) := [mC_136_0]
/-- 137: TextVerbsLaw.law([I)Z -/
def mC_137_0 : List (Nat × Instr × Nat) := [(0, .new 8, 3), (3, .dup, 1), (4, .invokespecial 78, 3), (7, .astore_n 1, 1), (8, .new 79, 3), (11, .dup, 1), (12, .invokespecial 81, 3), (15, .astore_n 2, 1), (16, .iconst 1, 1), (17, .newarray .long, 2), (19, .astore_n 3, 1), (20, .iconst 0, 1), (21, .istore 4, 2), (23, .iload 4, 2), (25, .aload_n 0, 1), (26, .arraylength, 1), (27, .iconst 4, 1), (28, .isub, 1), (29, .if_icmp .gt 1471, 3), (32, .aload_n 0, 1), (33, .iload 4, 2), (35, .iaload, 1), (36, .bipush 31, 2), (38, .iand, 1), (39, .tableswitch 1455 0 20 #[97, 153, 213, 281, 345, 425, 505, 561, 641, 697, 765, 833, 917, 973, 1041, 1078, 1091, 1147, 1227, 1295, 1391], 97)]
def mC_137_2 : List (Nat × Instr × Nat) := [(136, .aload_n 1, 1), (137, .aload_n 0, 1), (138, .iload 4, 2), (140, .iconst 1, 1), (141, .iadd, 1), (142, .iaload, 1), (143, .aload_n 3, 1), (144, .invokestatic 82, 3), (147, .istore 5, 2), (149, .aload_n 2, 1), (150, .aload_n 0, 1), (151, .iload 4, 2), (153, .iconst 1, 1), (154, .iadd, 1), (155, .iaload, 1), (156, .invokevirtual 87, 3), (159, .istore 6, 2), (161, .aload_n 2, 1), (162, .invokevirtual 88, 3), (165, .iload 5, 2), (167, .if_icmp .eq 5, 3), (170, .iconst 0, 1), (171, .ireturn, 1), (172, .iload 5, 2), (174, .ifCond .ne 15, 3), (177, .aload_n 3, 1), (178, .iconst 0, 1), (179, .laload, 1), (180, .iload 6, 2), (182, .i2l, 1), (183, .lcmp, 1), (184, .ifCond .eq 5, 3), (187, .iconst 0, 1), (188, .ireturn, 1), (189, .goto 1305, 3)]
def mC_137_3 : List (Nat × Instr × Nat) := [(192, .aload_n 1, 1), (193, .aload_n 0, 1), (194, .iload 4, 2), (196, .iconst 1, 1), (197, .iadd, 1), (198, .iaload, 1), (199, .aload_n 0, 1), (200, .iload 4, 2), (202, .iconst 2, 1), (203, .iadd, 1), (204, .iaload, 1), (205, .aload_n 0, 1), (206, .iload 4, 2), (208, .iconst 3, 1), (209, .iadd, 1), (210, .iaload, 1), (211, .invokestatic 92, 3), (214, .istore 5, 2), (216, .aload_n 2, 1), (217, .aload_n 0, 1), (218, .iload 4, 2), (220, .iconst 1, 1), (221, .iadd, 1), (222, .iaload, 1), (223, .aload_n 0, 1), (224, .iload 4, 2), (226, .iconst 2, 1), (227, .iadd, 1), (228, .iaload, 1), (229, .aload_n 0, 1), (230, .iload 4, 2), (232, .iconst 3, 1), (233, .iadd, 1), (234, .iaload, 1), (235, .invokevirtual 95, 3), (238, .aload_n 2, 1), (239, .invokevirtual 88, 3), (242, .iload 5, 2), (244, .if_icmp .eq 5, 3), (247, .iconst 0, 1), (248, .ireturn, 1), (249, .goto 1245, 3), (252, .aload_n 1, 1), (253, .aload_n 0, 1), (254, .iload 4, 2)]
def mC_137_4 : List (Nat × Instr × Nat) := [(256, .iconst 1, 1), (257, .iadd, 1), (258, .iaload, 1), (259, .aload_n 0, 1), (260, .iload 4, 2), (262, .iconst 2, 1), (263, .iadd, 1), (264, .iaload, 1), (265, .aload_n 3, 1), (266, .invokestatic 96, 3), (269, .istore 5, 2), (271, .aload_n 2, 1), (272, .aload_n 0, 1), (273, .iload 4, 2), (275, .iconst 1, 1), (276, .iadd, 1), (277, .iaload, 1), (278, .aload_n 0, 1), (279, .iload 4, 2), (281, .iconst 2, 1), (282, .iadd, 1), (283, .iaload, 1), (284, .invokevirtual 99, 3), (287, .istore 6, 2), (289, .aload_n 2, 1), (290, .invokevirtual 88, 3), (293, .iload 5, 2), (295, .if_icmp .eq 5, 3), (298, .iconst 0, 1), (299, .ireturn, 1), (300, .iload 5, 2), (302, .ifCond .ne 15, 3), (305, .aload_n 3, 1), (306, .iconst 0, 1), (307, .laload, 1), (308, .iload 6, 2), (310, .i2l, 1), (311, .lcmp, 1), (312, .ifCond .eq 5, 3), (315, .iconst 0, 1), (316, .ireturn, 1), (317, .goto 1177, 3)]
def mC_137_5 : List (Nat × Instr × Nat) := [(320, .aload_n 1, 1), (321, .aload_n 0, 1), (322, .iload 4, 2), (324, .iconst 1, 1), (325, .iadd, 1), (326, .iaload, 1), (327, .ifCond .eq 7, 3), (330, .iconst 1, 1), (331, .goto 4, 3), (334, .iconst 0, 1), (335, .aload_n 0, 1), (336, .iload 4, 2), (338, .iconst 2, 1), (339, .iadd, 1), (340, .iaload, 1), (341, .invokestatic 100, 3), (344, .istore 5, 2), (346, .aload_n 2, 1), (347, .aload_n 0, 1), (348, .iload 4, 2), (350, .iconst 1, 1), (351, .iadd, 1), (352, .iaload, 1), (353, .ifCond .eq 7, 3), (356, .iconst 1, 1), (357, .goto 4, 3), (360, .iconst 0, 1), (361, .aload_n 0, 1), (362, .iload 4, 2), (364, .iconst 2, 1), (365, .iadd, 1), (366, .iaload, 1), (367, .invokevirtual 103, 3), (370, .aload_n 2, 1), (371, .invokevirtual 88, 3), (374, .iload 5, 2), (376, .if_icmp .eq 5, 3), (379, .iconst 0, 1), (380, .ireturn, 1), (381, .goto 1113, 3)]
def mC_137_6 : List (Nat × Instr × Nat) := [(384, .aload_n 1, 1), (385, .aload_n 0, 1), (386, .iload 4, 2), (388, .iconst 1, 1), (389, .iadd, 1), (390, .iaload, 1), (391, .aload_n 0, 1), (392, .iload 4, 2), (394, .iconst 2, 1), (395, .iadd, 1), (396, .iaload, 1), (397, .aload_n 0, 1), (398, .iload 4, 2), (400, .iconst 3, 1), (401, .iadd, 1), (402, .iaload, 1), (403, .aload_n 3, 1), (404, .invokestatic 104, 3), (407, .istore 5, 2), (409, .aload_n 2, 1), (410, .aload_n 0, 1), (411, .iload 4, 2), (413, .iconst 1, 1), (414, .iadd, 1), (415, .iaload, 1), (416, .aload_n 0, 1), (417, .iload 4, 2), (419, .iconst 2, 1), (420, .iadd, 1), (421, .iaload, 1), (422, .aload_n 0, 1), (423, .iload 4, 2), (425, .iconst 3, 1), (426, .iadd, 1), (427, .iaload, 1), (428, .invokevirtual 107, 3), (431, .istore 6, 2), (433, .aload_n 2, 1), (434, .invokevirtual 88, 3), (437, .iload 5, 2), (439, .if_icmp .eq 5, 3), (442, .iconst 0, 1), (443, .ireturn, 1), (444, .iload 5, 2), (446, .ifCond .ne 15, 3)]
def mC_137_7 : List (Nat × Instr × Nat) := [(449, .aload_n 3, 1), (450, .iconst 0, 1), (451, .laload, 1), (452, .iload 6, 2), (454, .i2l, 1), (455, .lcmp, 1), (456, .ifCond .eq 5, 3), (459, .iconst 0, 1), (460, .ireturn, 1), (461, .goto 1033, 3), (464, .aload_n 1, 1), (465, .aload_n 0, 1), (466, .iload 4, 2), (468, .iconst 1, 1), (469, .iadd, 1), (470, .iaload, 1), (471, .aload_n 0, 1), (472, .iload 4, 2), (474, .iconst 2, 1), (475, .iadd, 1), (476, .iaload, 1), (477, .aload_n 0, 1), (478, .iload 4, 2), (480, .iconst 3, 1), (481, .iadd, 1), (482, .iaload, 1), (483, .aload_n 3, 1), (484, .invokestatic 108, 3), (487, .istore 5, 2), (489, .aload_n 2, 1), (490, .aload_n 0, 1), (491, .iload 4, 2), (493, .iconst 1, 1), (494, .iadd, 1), (495, .iaload, 1), (496, .aload_n 0, 1), (497, .iload 4, 2), (499, .iconst 2, 1), (500, .iadd, 1), (501, .iaload, 1), (502, .aload_n 0, 1), (503, .iload 4, 2), (505, .iconst 3, 1), (506, .iadd, 1), (507, .iaload, 1), (508, .invokevirtual 110, 3), (511, .istore 6, 2)]
def mC_137_8 : List (Nat × Instr × Nat) := [(513, .aload_n 2, 1), (514, .invokevirtual 88, 3), (517, .iload 5, 2), (519, .if_icmp .eq 5, 3), (522, .iconst 0, 1), (523, .ireturn, 1), (524, .iload 5, 2), (526, .ifCond .ne 15, 3), (529, .aload_n 3, 1), (530, .iconst 0, 1), (531, .laload, 1), (532, .iload 6, 2), (534, .i2l, 1), (535, .lcmp, 1), (536, .ifCond .eq 5, 3), (539, .iconst 0, 1), (540, .ireturn, 1), (541, .goto 953, 3), (544, .aload_n 1, 1), (545, .aload_n 0, 1), (546, .iload 4, 2), (548, .iconst 1, 1), (549, .iadd, 1), (550, .iaload, 1), (551, .aload_n 3, 1), (552, .invokestatic 111, 3), (555, .istore 5, 2), (557, .aload_n 2, 1), (558, .aload_n 0, 1), (559, .iload 4, 2), (561, .iconst 1, 1), (562, .iadd, 1), (563, .iaload, 1), (564, .invokevirtual 113, 3), (567, .istore 6, 2), (569, .aload_n 2, 1), (570, .invokevirtual 88, 3), (573, .iload 5, 2), (575, .if_icmp .eq 5, 3)]
def mC_137_9 : List (Nat × Instr × Nat) := [(578, .iconst 0, 1), (579, .ireturn, 1), (580, .iload 5, 2), (582, .ifCond .ne 15, 3), (585, .aload_n 3, 1), (586, .iconst 0, 1), (587, .laload, 1), (588, .iload 6, 2), (590, .i2l, 1), (591, .lcmp, 1), (592, .ifCond .eq 5, 3), (595, .iconst 0, 1), (596, .ireturn, 1), (597, .goto 897, 3), (600, .aload_n 1, 1), (601, .aload_n 0, 1), (602, .iload 4, 2), (604, .iconst 1, 1), (605, .iadd, 1), (606, .iaload, 1), (607, .aload_n 0, 1), (608, .iload 4, 2), (610, .iconst 2, 1), (611, .iadd, 1), (612, .iaload, 1), (613, .aload_n 0, 1), (614, .iload 4, 2), (616, .iconst 3, 1), (617, .iadd, 1), (618, .iaload, 1), (619, .aload_n 3, 1), (620, .invokestatic 114, 3), (623, .istore 5, 2), (625, .aload_n 2, 1), (626, .aload_n 0, 1), (627, .iload 4, 2), (629, .iconst 1, 1), (630, .iadd, 1), (631, .iaload, 1), (632, .aload_n 0, 1), (633, .iload 4, 2), (635, .iconst 2, 1), (636, .iadd, 1), (637, .iaload, 1), (638, .aload_n 0, 1), (639, .iload 4, 2)]
def mC_137_10 : List (Nat × Instr × Nat) := [(641, .iconst 3, 1), (642, .iadd, 1), (643, .iaload, 1), (644, .invokevirtual 116, 3), (647, .istore 6, 2), (649, .aload_n 2, 1), (650, .invokevirtual 88, 3), (653, .iload 5, 2), (655, .if_icmp .eq 5, 3), (658, .iconst 0, 1), (659, .ireturn, 1), (660, .iload 5, 2), (662, .ifCond .ne 15, 3), (665, .aload_n 3, 1), (666, .iconst 0, 1), (667, .laload, 1), (668, .iload 6, 2), (670, .i2l, 1), (671, .lcmp, 1), (672, .ifCond .eq 5, 3), (675, .iconst 0, 1), (676, .ireturn, 1), (677, .goto 817, 3), (680, .aload_n 1, 1), (681, .aload_n 0, 1), (682, .iload 4, 2), (684, .iconst 1, 1), (685, .iadd, 1), (686, .iaload, 1), (687, .aload_n 3, 1), (688, .invokestatic 117, 3), (691, .istore 5, 2), (693, .aload_n 2, 1), (694, .aload_n 0, 1), (695, .iload 4, 2), (697, .iconst 1, 1), (698, .iadd, 1), (699, .iaload, 1), (700, .invokevirtual 119, 3), (703, .istore 6, 2)]
def mC_137_11 : List (Nat × Instr × Nat) := [(705, .aload_n 2, 1), (706, .invokevirtual 88, 3), (709, .iload 5, 2), (711, .if_icmp .eq 5, 3), (714, .iconst 0, 1), (715, .ireturn, 1), (716, .iload 5, 2), (718, .ifCond .ne 15, 3), (721, .aload_n 3, 1), (722, .iconst 0, 1), (723, .laload, 1), (724, .iload 6, 2), (726, .i2l, 1), (727, .lcmp, 1), (728, .ifCond .eq 5, 3), (731, .iconst 0, 1), (732, .ireturn, 1), (733, .goto 761, 3), (736, .aload_n 1, 1), (737, .aload_n 0, 1), (738, .iload 4, 2), (740, .iconst 1, 1), (741, .iadd, 1), (742, .iaload, 1), (743, .aload_n 0, 1), (744, .iload 4, 2), (746, .iconst 2, 1), (747, .iadd, 1), (748, .iaload, 1), (749, .aload_n 3, 1), (750, .invokestatic 120, 3), (753, .istore 5, 2), (755, .aload_n 2, 1), (756, .aload_n 0, 1), (757, .iload 4, 2), (759, .iconst 1, 1), (760, .iadd, 1), (761, .iaload, 1), (762, .aload_n 0, 1), (763, .iload 4, 2), (765, .iconst 2, 1), (766, .iadd, 1), (767, .iaload, 1)]
def mC_137_12 : List (Nat × Instr × Nat) := [(768, .invokevirtual 122, 3), (771, .istore 6, 2), (773, .aload_n 2, 1), (774, .invokevirtual 88, 3), (777, .iload 5, 2), (779, .if_icmp .eq 5, 3), (782, .iconst 0, 1), (783, .ireturn, 1), (784, .iload 5, 2), (786, .ifCond .ne 15, 3), (789, .aload_n 3, 1), (790, .iconst 0, 1), (791, .laload, 1), (792, .iload 6, 2), (794, .i2l, 1), (795, .lcmp, 1), (796, .ifCond .eq 5, 3), (799, .iconst 0, 1), (800, .ireturn, 1), (801, .goto 693, 3), (804, .aload_n 1, 1), (805, .aload_n 0, 1), (806, .iload 4, 2), (808, .iconst 1, 1), (809, .iadd, 1), (810, .iaload, 1), (811, .aload_n 0, 1), (812, .iload 4, 2), (814, .iconst 2, 1), (815, .iadd, 1), (816, .iaload, 1), (817, .aload_n 3, 1), (818, .invokestatic 123, 3), (821, .istore 5, 2), (823, .aload_n 2, 1), (824, .aload_n 0, 1), (825, .iload 4, 2), (827, .iconst 1, 1), (828, .iadd, 1), (829, .iaload, 1), (830, .aload_n 0, 1), (831, .iload 4, 2)]
def mC_137_13 : List (Nat × Instr × Nat) := [(833, .iconst 2, 1), (834, .iadd, 1), (835, .iaload, 1), (836, .invokevirtual 125, 3), (839, .istore 6, 2), (841, .aload_n 2, 1), (842, .invokevirtual 88, 3), (845, .iload 5, 2), (847, .if_icmp .eq 5, 3), (850, .iconst 0, 1), (851, .ireturn, 1), (852, .iload 5, 2), (854, .ifCond .ne 15, 3), (857, .aload_n 3, 1), (858, .iconst 0, 1), (859, .laload, 1), (860, .iload 6, 2), (862, .i2l, 1), (863, .lcmp, 1), (864, .ifCond .eq 5, 3), (867, .iconst 0, 1), (868, .ireturn, 1), (869, .goto 625, 3), (872, .aload_n 1, 1), (873, .aload_n 0, 1), (874, .iload 4, 2), (876, .iconst 1, 1), (877, .iadd, 1), (878, .iaload, 1), (879, .aload_n 0, 1), (880, .iload 4, 2), (882, .iconst 2, 1), (883, .iadd, 1), (884, .iaload, 1), (885, .ifCond .eq 7, 3), (888, .iconst 1, 1), (889, .goto 4, 3), (892, .iconst 0, 1), (893, .aload_n 3, 1), (894, .invokestatic 126, 3)]
def mC_137_14 : List (Nat × Instr × Nat) := [(897, .istore 5, 2), (899, .aload_n 2, 1), (900, .aload_n 0, 1), (901, .iload 4, 2), (903, .iconst 1, 1), (904, .iadd, 1), (905, .iaload, 1), (906, .aload_n 0, 1), (907, .iload 4, 2), (909, .iconst 2, 1), (910, .iadd, 1), (911, .iaload, 1), (912, .ifCond .eq 7, 3), (915, .iconst 1, 1), (916, .goto 4, 3), (919, .iconst 0, 1), (920, .invokevirtual 129, 3), (923, .istore 6, 2), (925, .aload_n 2, 1), (926, .invokevirtual 88, 3), (929, .iload 5, 2), (931, .if_icmp .eq 5, 3), (934, .iconst 0, 1), (935, .ireturn, 1), (936, .iload 5, 2), (938, .ifCond .ne 15, 3), (941, .aload_n 3, 1), (942, .iconst 0, 1), (943, .laload, 1), (944, .iload 6, 2), (946, .i2l, 1), (947, .lcmp, 1), (948, .ifCond .eq 5, 3), (951, .iconst 0, 1), (952, .ireturn, 1), (953, .goto 541, 3), (956, .aload_n 1, 1), (957, .aload_n 0, 1), (958, .iload 4, 2)]
def mC_137_15 : List (Nat × Instr × Nat) := [(960, .iconst 1, 1), (961, .iadd, 1), (962, .iaload, 1), (963, .aload_n 3, 1), (964, .invokestatic 130, 3), (967, .istore 5, 2), (969, .aload_n 2, 1), (970, .aload_n 0, 1), (971, .iload 4, 2), (973, .iconst 1, 1), (974, .iadd, 1), (975, .iaload, 1), (976, .invokevirtual 132, 3), (979, .istore 6, 2), (981, .aload_n 2, 1), (982, .invokevirtual 88, 3), (985, .iload 5, 2), (987, .if_icmp .eq 5, 3), (990, .iconst 0, 1), (991, .ireturn, 1), (992, .iload 5, 2), (994, .ifCond .ne 15, 3), (997, .aload_n 3, 1), (998, .iconst 0, 1), (999, .laload, 1), (1000, .iload 6, 2), (1002, .i2l, 1), (1003, .lcmp, 1), (1004, .ifCond .eq 5, 3), (1007, .iconst 0, 1), (1008, .ireturn, 1), (1009, .goto 485, 3), (1012, .aload_n 1, 1), (1013, .aload_n 0, 1), (1014, .iload 4, 2), (1016, .iconst 1, 1), (1017, .iadd, 1), (1018, .iaload, 1), (1019, .aload_n 0, 1), (1020, .iload 4, 2), (1022, .iconst 2, 1), (1023, .iadd, 1)]
def mC_137_16 : List (Nat × Instr × Nat) := [(1024, .iaload, 1), (1025, .aload_n 3, 1), (1026, .invokestatic 133, 3), (1029, .istore 5, 2), (1031, .aload_n 2, 1), (1032, .aload_n 0, 1), (1033, .iload 4, 2), (1035, .iconst 1, 1), (1036, .iadd, 1), (1037, .iaload, 1), (1038, .aload_n 0, 1), (1039, .iload 4, 2), (1041, .iconst 2, 1), (1042, .iadd, 1), (1043, .iaload, 1), (1044, .invokevirtual 135, 3), (1047, .istore 6, 2), (1049, .aload_n 2, 1), (1050, .invokevirtual 88, 3), (1053, .iload 5, 2), (1055, .if_icmp .eq 5, 3), (1058, .iconst 0, 1), (1059, .ireturn, 1), (1060, .iload 5, 2), (1062, .ifCond .ne 15, 3), (1065, .aload_n 3, 1), (1066, .iconst 0, 1), (1067, .laload, 1), (1068, .iload 6, 2), (1070, .i2l, 1), (1071, .lcmp, 1), (1072, .ifCond .eq 5, 3), (1075, .iconst 0, 1), (1076, .ireturn, 1), (1077, .goto 417, 3), (1080, .aload_n 1, 1), (1081, .aload_n 0, 1), (1082, .iload 4, 2), (1084, .iconst 1, 1), (1085, .iadd, 1), (1086, .iaload, 1), (1087, .aload_n 0, 1)]
def mC_137_17 : List (Nat × Instr × Nat) := [(1088, .iload 4, 2), (1090, .iconst 2, 1), (1091, .iadd, 1), (1092, .iaload, 1), (1093, .invokevirtual 136, 3), (1096, .aload_n 2, 1), (1097, .aload_n 0, 1), (1098, .iload 4, 2), (1100, .iconst 1, 1), (1101, .iadd, 1), (1102, .iaload, 1), (1103, .aload_n 0, 1), (1104, .iload 4, 2), (1106, .iconst 2, 1), (1107, .iadd, 1), (1108, .iaload, 1), (1109, .invokevirtual 139, 3), (1112, .if_icmp .eq 382, 3), (1115, .iconst 0, 1), (1116, .ireturn, 1), (1117, .aload_n 1, 1), (1118, .invokevirtual 140, 3), (1121, .aload_n 2, 1), (1122, .invokevirtual 143, 3), (1125, .if_icmp .eq 369, 3), (1128, .iconst 0, 1), (1129, .ireturn, 1), (1130, .aload_n 1, 1), (1131, .aload_n 0, 1), (1132, .iload 4, 2), (1134, .iconst 1, 1), (1135, .iadd, 1), (1136, .iaload, 1), (1137, .aload_n 3, 1), (1138, .invokestatic 144, 3), (1141, .istore 5, 2), (1143, .aload_n 2, 1), (1144, .aload_n 0, 1), (1145, .iload 4, 2), (1147, .iconst 1, 1), (1148, .iadd, 1), (1149, .iaload, 1), (1150, .invokevirtual 146, 3)]
def mC_137_18 : List (Nat × Instr × Nat) := [(1153, .istore 6, 2), (1155, .aload_n 2, 1), (1156, .invokevirtual 88, 3), (1159, .iload 5, 2), (1161, .if_icmp .eq 5, 3), (1164, .iconst 0, 1), (1165, .ireturn, 1), (1166, .iload 5, 2), (1168, .ifCond .ne 15, 3), (1171, .aload_n 3, 1), (1172, .iconst 0, 1), (1173, .laload, 1), (1174, .iload 6, 2), (1176, .i2l, 1), (1177, .lcmp, 1), (1178, .ifCond .eq 5, 3), (1181, .iconst 0, 1), (1182, .ireturn, 1), (1183, .goto 311, 3), (1186, .aload_n 1, 1), (1187, .aload_n 0, 1), (1188, .iload 4, 2), (1190, .iconst 1, 1), (1191, .iadd, 1), (1192, .iaload, 1), (1193, .aload_n 0, 1), (1194, .iload 4, 2), (1196, .iconst 2, 1), (1197, .iadd, 1), (1198, .iaload, 1), (1199, .aload_n 0, 1), (1200, .iload 4, 2), (1202, .iconst 3, 1), (1203, .iadd, 1), (1204, .iaload, 1), (1205, .aload_n 3, 1), (1206, .invokestatic 147, 3), (1209, .istore 5, 2), (1211, .aload_n 2, 1), (1212, .aload_n 0, 1), (1213, .iload 4, 2), (1215, .iconst 1, 1)]
def mC_137_19 : List (Nat × Instr × Nat) := [(1216, .iadd, 1), (1217, .iaload, 1), (1218, .aload_n 0, 1), (1219, .iload 4, 2), (1221, .iconst 2, 1), (1222, .iadd, 1), (1223, .iaload, 1), (1224, .aload_n 0, 1), (1225, .iload 4, 2), (1227, .iconst 3, 1), (1228, .iadd, 1), (1229, .iaload, 1), (1230, .invokevirtual 149, 3), (1233, .istore 6, 2), (1235, .aload_n 2, 1), (1236, .invokevirtual 88, 3), (1239, .iload 5, 2), (1241, .if_icmp .eq 5, 3), (1244, .iconst 0, 1), (1245, .ireturn, 1), (1246, .iload 5, 2), (1248, .ifCond .ne 15, 3), (1251, .aload_n 3, 1), (1252, .iconst 0, 1), (1253, .laload, 1), (1254, .iload 6, 2), (1256, .i2l, 1), (1257, .lcmp, 1), (1258, .ifCond .eq 5, 3), (1261, .iconst 0, 1), (1262, .ireturn, 1), (1263, .goto 231, 3), (1266, .aload_n 1, 1), (1267, .aload_n 0, 1), (1268, .iload 4, 2), (1270, .iconst 1, 1), (1271, .iadd, 1), (1272, .iaload, 1), (1273, .aload_n 0, 1), (1274, .iload 4, 2), (1276, .iconst 2, 1), (1277, .iadd, 1), (1278, .iaload, 1), (1279, .aload_n 3, 1)]
def mC_137_20 : List (Nat × Instr × Nat) := [(1280, .invokestatic 150, 3), (1283, .istore 5, 2), (1285, .aload_n 2, 1), (1286, .aload_n 0, 1), (1287, .iload 4, 2), (1289, .iconst 1, 1), (1290, .iadd, 1), (1291, .iaload, 1), (1292, .aload_n 0, 1), (1293, .iload 4, 2), (1295, .iconst 2, 1), (1296, .iadd, 1), (1297, .iaload, 1), (1298, .invokevirtual 152, 3), (1301, .istore 6, 2), (1303, .aload_n 2, 1), (1304, .invokevirtual 88, 3), (1307, .iload 5, 2), (1309, .if_icmp .eq 5, 3), (1312, .iconst 0, 1), (1313, .ireturn, 1), (1314, .iload 5, 2), (1316, .ifCond .ne 15, 3), (1319, .aload_n 3, 1), (1320, .iconst 0, 1), (1321, .laload, 1), (1322, .iload 6, 2), (1324, .i2l, 1), (1325, .lcmp, 1), (1326, .ifCond .eq 5, 3), (1329, .iconst 0, 1), (1330, .ireturn, 1), (1331, .goto 163, 3), (1334, .aload_n 1, 1), (1335, .aload_n 0, 1), (1336, .iload 4, 2), (1338, .iconst 1, 1), (1339, .iadd, 1), (1340, .iaload, 1), (1341, .aload_n 0, 1), (1342, .iload 4, 2)]
def mC_137_21 : List (Nat × Instr × Nat) := [(1344, .iconst 2, 1), (1345, .iadd, 1), (1346, .iaload, 1), (1347, .ifCond .eq 7, 3), (1350, .iconst 1, 1), (1351, .goto 4, 3), (1354, .iconst 0, 1), (1355, .aload_n 0, 1), (1356, .iload 4, 2), (1358, .iconst 3, 1), (1359, .iadd, 1), (1360, .iaload, 1), (1361, .aload_n 3, 1), (1362, .invokestatic 153, 3), (1365, .istore 5, 2), (1367, .aload_n 2, 1), (1368, .aload_n 0, 1), (1369, .iload 4, 2), (1371, .iconst 1, 1), (1372, .iadd, 1), (1373, .iaload, 1), (1374, .aload_n 0, 1), (1375, .iload 4, 2), (1377, .iconst 2, 1), (1378, .iadd, 1), (1379, .iaload, 1), (1380, .ifCond .eq 7, 3), (1383, .iconst 1, 1), (1384, .goto 4, 3), (1387, .iconst 0, 1), (1388, .aload_n 0, 1), (1389, .iload 4, 2), (1391, .iconst 3, 1), (1392, .iadd, 1), (1393, .iaload, 1), (1394, .invokevirtual 156, 3), (1397, .istore 6, 2), (1399, .aload_n 2, 1), (1400, .invokevirtual 88, 3), (1403, .iload 5, 2), (1405, .if_icmp .eq 5, 3)]
def mC_137_22 : List (Nat × Instr × Nat) := [(1408, .iconst 0, 1), (1409, .ireturn, 1), (1410, .iload 5, 2), (1412, .ifCond .ne 15, 3), (1415, .aload_n 3, 1), (1416, .iconst 0, 1), (1417, .laload, 1), (1418, .iload 6, 2), (1420, .i2l, 1), (1421, .lcmp, 1), (1422, .ifCond .eq 5, 3), (1425, .iconst 0, 1), (1426, .ireturn, 1), (1427, .goto 67, 3), (1430, .aload_n 1, 1), (1431, .aload_n 0, 1), (1432, .iload 4, 2), (1434, .iconst 1, 1), (1435, .iadd, 1), (1436, .iaload, 1), (1437, .aload_n 0, 1), (1438, .iload 4, 2), (1440, .iconst 2, 1), (1441, .iadd, 1), (1442, .iaload, 1), (1443, .ifCond .eq 7, 3), (1446, .iconst 1, 1), (1447, .goto 4, 3), (1450, .iconst 0, 1), (1451, .invokestatic 157, 3), (1454, .istore 5, 2), (1456, .aload_n 2, 1), (1457, .aload_n 0, 1), (1458, .iload 4, 2), (1460, .iconst 1, 1), (1461, .iadd, 1), (1462, .iaload, 1), (1463, .aload_n 0, 1), (1464, .iload 4, 2), (1466, .iconst 2, 1), (1467, .iadd, 1), (1468, .iaload, 1), (1469, .ifCond .eq 7, 3)]
def mC_137_23 : List (Nat × Instr × Nat) := [(1472, .iconst 1, 1), (1473, .goto 4, 3), (1476, .iconst 0, 1), (1477, .invokevirtual 160, 3), (1480, .aload_n 2, 1), (1481, .invokevirtual 88, 3), (1484, .iload 5, 2), (1486, .if_icmp .eq 5, 3), (1489, .iconst 0, 1), (1490, .ireturn, 1), (1491, .goto 3, 3), (1494, .iinc 4 4, 3), (1497, .goto (-1474), 3), (1500, .iconst 1, 1), (1501, .ireturn, 1)]
def mC_137 : List (List (Nat × Instr × Nat)) := [mC_137_0, [], mC_137_2, mC_137_3, mC_137_4, mC_137_5, mC_137_6, mC_137_7, mC_137_8, mC_137_9, mC_137_10, mC_137_11, mC_137_12, mC_137_13, mC_137_14, mC_137_15, mC_137_16, mC_137_17, mC_137_18, mC_137_19, mC_137_20, mC_137_21, mC_137_22, mC_137_23]
/-- 138: java/util/Arrays.fill([II)V -/
def mC_138_0 : List (Nat × Instr × Nat) := [(0, .iconst 0, 1), (1, .istore_n 2, 1), (2, .aload_n 0, 1), (3, .arraylength, 1), (4, .istore_n 3, 1), (5, .iload_n 2, 1), (6, .iload_n 3, 1), (7, .if_icmp .ge 13, 3), (10, .aload_n 0, 1), (11, .iload_n 2, 1), (12, .iload_n 1, 1), (13, .iastore, 1), (14, .iinc 2 1, 3), (17, .goto (-12), 3), (20, .return_, 1)]
def mC_138 : List (List (Nat × Instr × Nat)) := [mC_138_0]
/-- 139: java/lang/Math.min(II)I -/
def mC_139_0 : List (Nat × Instr × Nat) := [(0, .iload_n 0, 1), (1, .iload_n 1, 1), (2, .if_icmp .gt 7, 3), (5, .iload_n 0, 1), (6, .goto 4, 3), (9, .iload_n 1, 1), (10, .ireturn, 1)]
def mC_139 : List (List (Nat × Instr × Nat)) := [mC_139_0]
def mCs : List (List (List (Nat × Instr × Nat))) := [mC_0, mC_1, mC_2, mC_3, mC_4, mC_5, mC_6, mC_7, mC_8, mC_9, mC_10, mC_11, mC_12, mC_13, mC_14, mC_15, mC_16, mC_17, mC_18, mC_19, mC_20, mC_21, mC_22, mC_23, mC_24, mC_25, mC_26, mC_27, mC_28, mC_29, mC_30, mC_31, mC_32, mC_33, mC_34, mC_35, mC_36, mC_37, mC_38, mC_39, mC_40, mC_41, mC_42, mC_43, mC_44, mC_45, mC_46, mC_47, mC_48, mC_49, mC_50, mC_51, mC_52, mC_53, mC_54, mC_55, mC_56, mC_57, mC_58, mC_59, mC_60, mC_61, mC_62, mC_63, mC_64, mC_65, mC_66, mC_67, mC_68, mC_69, mC_70, mC_71, mC_72, mC_73, mC_74, mC_75, mC_76, mC_77, mC_78, mC_79, mC_80, mC_81, mC_82, mC_83, mC_84, mC_85, mC_86, mC_87, mC_88, mC_89, mC_90, mC_91, mC_92, mC_93, mC_94, mC_95, mC_96, mC_97, mC_98, mC_99, mC_100, mC_101, mC_102, mC_103, mC_104, mC_105, mC_106, mC_107, mC_108, mC_109, mC_110, mC_111, mC_112, mC_113, mC_114, mC_115, mC_116, mC_117, mC_118, mC_119, mC_120, mC_121, mC_122, mC_123, mC_124, mC_125, mC_126, mC_127, mC_128, mC_129, mC_130, mC_131, mC_132, mC_133, mC_134, mC_135, mC_136, mC_137, mC_138, mC_139]
def mLs : List Nat := [1, 2, 5, 3, 4, 5, 6, 2, 7, 2, 5, 4, 4, 3, 4, 3, 1, 2, 6, 5, 6, 3, 2, 3, 4, 3, 1, 2, 1, 1, 2, 2, 4, 2, 1, 5, 3, 3, 3, 5, 3, 3, 3, 6, 1, 2, 3, 2, 1, 2, 3, 3, 7, 6, 4, 10, 3, 2, 1, 2, 5, 5, 1, 3, 2, 4, 4, 5, 6, 5, 4, 7, 3, 2, 3, 6, 5, 3, 2, 1, 3, 2, 2, 4, 3, 4, 3, 2, 8, 5, 3, 4, 5, 5, 4, 4, 5, 7, 7, 3, 10, 3, 4, 9, 4, 3, 5, 6, 9, 3, 1, 3, 2, 3, 5, 4, 9, 8, 4, 5, 5, 4, 6, 6, 4, 6, 4, 5, 5, 5, 4, 5, 4, 6, 5, 6, 4, 7, 4, 2]
def mOs : List Nat := [0, 0, 0, 0, 0, 0, 0, 0, 0, 0, 0, 0, 0, 0, 0, 0, 0, 0, 0, 0, 0, 0, 0, 0, 0, 0, 0, 0, 0, 0, 0, 0, 0, 1, 1, 1, 1, 1, 1, 1, 2, 2, 2, 3, 3, 3, 3, 3, 4, 4, 4, 4, 4, 4, 4, 4, 5, 5, 6, 6, 6, 6, 7, 7, 7, 7, 7, 7, 7, 7, 7, 7, 7, 8, 8, 8, 8, 8, 9, 9, 9, 9, 9, 9, 9, 9, 9, 9, 9, 9, 9, 9, 9, 9, 9, 9, 9, 9, 9, 9, 9, 9, 9, 9, 9, 9, 9, 9, 9, 9, 9, 9, 9, 9, 9, 9, 9, 9, 10, 10, 10, 10, 10, 10, 10, 10, 10, 10, 10, 10, 10, 10, 10, 10, 10, 10, 10, 10, 11, 12]
def mRs : List Bool := [false, false, false, false, false, false, false, false, false, false, false, false, false, false, false, false, false, false, false, false, false, false, false, false, false, false, false, false, false, false, false, false, false, false, false, true, false, false, false, false, false, false, false, false, true, false, true, false, false, false, false, false, false, false, false, false, false, false, false, false, true, true, false, false, false, true, false, false, false, false, false, false, false, false, false, false, false, true, false, false, true, true, true, false, true, false, false, false, true, false, false, false, false, false, false, false, true, false, false, false, false, false, false, false, false, false, false, false, false, false, false, false, true, true, false, false, false, false, false, false, false, false, false, false, false, false, false, false, false, false, false, false, false, false, false, false, false, true, false, false]
def mEs : List (List (Nat × Nat)) := [[], [(10, 1), (29, 2)], [(19, 1)], [], [], [], [(33, 1)], [], [(34, 1)], [], [(34, 2)], [], [(18, 2)], [(18, 2)], [], [], [], [(11, 1), (30, 2)], [], [], [], [], [(12, 1)], [(13, 1)], [(18, 1)], [], [], [(9, 1)], [(10, 1)], [(12, 2)], [], [(12, 1)], [(20, 1)], [], [], [], [], [], [], [], [], [], [], [], [], [], [], [], [], [], [], [], [], [], [], [], [], [], [], [], [], [], [], [], [], [], [], [], [], [], [], [], [], [], [], [], [], [], [], [], [], [], [], [], [], [], [], [], [], [], [], [], [], [], [], [], [], [], [], [], [], [], [], [], [], [], [], [], [], [], [], [], [], [], [], [], [], [], [], [], [], [], [], [], [], [], [], [], [], [], [], [], [], [], [], [], [], [], [], []]
def mHs : List (List (Nat × Nat × Nat × Nat)) := [[], [], [], [], [], [], [], [], [], [], [], [], [], [], [], [], [], [], [], [], [], [], [], [], [], [], [], [], [], [], [], [], [], [], [], [], [], [], [], [], [], [], [], [], [], [], [], [], [], [], [], [], [], [], [], [], [], [], [], [], [], [], [], [], [], [], [], [], [], [], [], [], [], [], [], [], [], [], [], [], [], [], [], [], [], [], [], [], [], [], [], [], [], [], [], [], [], [], [], [], [], [], [], [], [], [], [], [], [], [], [], [], [], [], [], [], [], [], [(0, 9, 12, 1), (0, 9, 15, 2)], [(0, 7, 10, 1)], [(0, 10, 13, 1)], [(0, 6, 9, 1)], [(0, 12, 15, 1), (0, 12, 19, 2)], [(0, 12, 15, 1), (0, 12, 19, 2)], [(0, 9, 12, 1)], [(0, 12, 15, 1)], [(0, 9, 12, 1)], [(0, 10, 13, 1), (0, 10, 17, 2)], [(0, 10, 13, 1)], [(0, 10, 13, 1), (0, 10, 17, 2)], [(0, 9, 12, 1), (0, 9, 15, 2)], [(0, 10, 13, 1)], [(0, 9, 12, 1), (0, 9, 15, 2)], [(0, 12, 15, 1)], [(0, 10, 13, 1)], [(0, 12, 15, 1)], [(0, 6, 9, 1)], [], [], []]
def pFs : List (List (Nat × Nat × Nat × Nat)) := [[(11, (1, 0, 2)), (18, (1, 4, 2)), (25, (1, 5, 2)), (32, (1, 6, 2)), (38, (1, 8, 2)), (49, (1, 1, 0)), (67, (2, 0, 2)), (75, (1, 2, 2)), (79, (1, 3, 2)), (134, (7, 1, 0)), (151, (7, 2, 0)), (154, (1, 7, 0)), (157, (8, 2, 0)), (166, (8, 4, 0)), (177, (8, 9, 0)), (178, (8, 8, 0)), (181, (8, 6, 2)), (184, (8, 7, 2)), (189, (1, 9, 0)), (199, (9, 0, 2)), (202, (9, 1, 0)), (229, (5, 1, 0))], [(9, (2, 0, 2))], [(9, (3, 0, 2)), (15, (3, 1, 2))], [(9, (4, 0, 0)), (15, (4, 1, 2)), (19, (4, 2, 0)), (22, (4, 3, 2)), (25, (4, 4, 2)), (33, (4, 5, 0)), (41, (4, 6, 0)), (47, (4, 7, 0)), (50, (4, 8, 0)), (53, (4, 9, 1))], [(11, (5, 0, 2)), (17, (5, 2, 2)), (21, (5, 3, 2)), (24, (5, 1, 0)), (62, (4, 5, 0)), (73, (4, 3, 2)), (77, (4, 2, 0)), (80, (2, 0, 2))], [(9, (6, 0, 2)), (15, (6, 1, 2))], [(11, (7, 0, 2)), (17, (7, 1, 0)), (21, (7, 2, 0)), (37, (2, 0, 2)), (41, (6, 0, 2))], [(11, (8, 0, 2)), (17, (8, 1, 2)), (21, (8, 3, 2)), (24, (8, 5, 2)), (28, (8, 6, 2)), (31, (8, 7, 2)), (34, (8, 10, 2)), (37, (8, 2, 0)), (41, (8, 4, 0)), (44, (8, 8, 0)), (47, (8, 9, 0))], [(7, (9, 1, 0)), (13, (9, 0, 2))], [(7, (10, 1, 2)), (13, (10, 2, 2)), (16, (10, 3, 2)), (19, (10, 5, 0)), (23, (10, 6, 0)), (26, (10, 7, 2)), (29, (10, 8, 2)), (32, (10, 9, 2)), (35, (10, 10, 2)), (38, (10, 11, 2)), (41, (10, 12, 2)), (44, (10, 13, 2)), (47, (10, 14, 2)), (50, (10, 15, 2)), (54, (10, 17, 2)), (57, (10, 18, 2)), (60, (10, 19, 2)), (63, (10, 21, 2)), (66, (10, 22, 2)), (69, (10, 23, 2)), (72, (10, 24, 2)), (75, (10, 25, 2)), (78, (10, 29, 2)), (81, (10, 30, 2)), (84, (10, 31, 2)), (87, (10, 0, 0)), (90, (10, 4, 0)), (112, (10, 16, 0)), (145, (10, 20, 0)), (148, (10, 28, 0)), (151, (10, 26, 0)), (154, (10, 27, 0)), (164, (10, 32, 0))], [], [], []]
def pMs : List (List (Nat × Nat × Nat × Nat)) := [[(1, (999, 1, 1)), (17, (48, 1, 5)), (24, (58, 1, 7)), (31, (62, 1, 8)), (58, (33, 2, 2)), (61, (24, 3, 1)), (71, (23, 2, 1)), (82, (27, 2, 0)), (86, (25, 3, 1)), (89, (28, 1, 0)), (92, (29, 1, 1)), (97, (30, 1, 1)), (101, (43, 6, 4)), (104, (49, 2, 5)), (108, (22, 2, 1)), (111, (34, 1, 2)), (115, (26, 1, 0)), (121, (51, 2, 5)), (126, (55, 5, 5)), (130, (50, 2, 5)), (141, (56, 3, 6)), (144, (59, 2, 7)), (147, (60, 3, 7)), (162, (63, 3, 8)), (171, (64, 2, 8)), (174, (65, 3, 8)), (194, (73, 2, 9)), (195, (32, 3, 1)), (205, (31, 2, 1)), (209, (75, 2, 9)), (212, (74, 2, 9)), (215, (76, 2, 9)), (236, (40, 3, 3))], [(3, (999, 1, 1)), (15, (138, 2, 0)), (21, (34, 1, 2)), (25, (35, 3, 2))], [(3, (999, 1, 1)), (18, (36, 2, 2)), (24, (34, 1, 2))], [(3, (999, 1, 1)), (29, (26, 1, 0)), (36, (41, 2, 3)), (44, (42, 2, 3)), (57, (35, 3, 2))], [(3, (999, 1, 1)), (28, (38, 2, 2)), (34, (52, 3, 5)), (38, (34, 1, 2)), (42, (39, 4, 2)), (46, (45, 2, 4)), (50, (53, 4, 5)), (54, (47, 2, 4)), (58, (54, 3, 5)), (65, (44, 1, 4)), (69, (46, 3, 4)), (83, (41, 2, 3)), (89, (42, 2, 3)), (92, (37, 2, 2))], [(3, (999, 1, 1)), (18, (36, 2, 2)), (24, (34, 1, 2))], [(3, (999, 1, 1)), (24, (34, 1, 2)), (30, (61, 3, 7)), (34, (57, 1, 6))], [(3, (999, 1, 1)), (50, (34, 1, 2)), (54, (66, 2, 8)), (58, (72, 2, 8)), (61, (67, 4, 8)), (65, (68, 4, 8)), (68, (139, 2, 0)), (74, (69, 5, 8)), (78, (70, 3, 8)), (82, (71, 4, 8)), (85, (35, 3, 2)), (89, (38, 2, 2)), (93, (39, 4, 2))], [(1, (999, 1, 1)), (17, (77, 3, 0))], [(1, (999, 1, 1)), (93, (81, 2, 10)), (97, (80, 3, 10)), (101, (84, 3, 10)), (105, (88, 6, 10)), (109, (82, 2, 10)), (115, (91, 4, 10)), (119, (89, 4, 10)), (123, (87, 1, 10)), (126, (94, 3, 10)), (130, (95, 3, 10)), (133, (96, 4, 10)), (137, (98, 6, 10)), (141, (97, 3, 10)), (157, (106, 3, 10)), (160, (107, 5, 10)), (167, (112, 2, 10)), (170, (113, 3, 10))], [(7, (1, 2, 1)), (17, (2, 4, 1)), (21, (3, 3, 1)), (25, (4, 3, 1)), (29, (5, 4, 1)), (33, (6, 4, 1)), (36, (7, 2, 1)), (39, (8, 4, 1)), (42, (9, 2, 1)), (45, (10, 3, 1)), (48, (11, 3, 1)), (51, (12, 3, 1)), (55, (13, 2, 1)), (58, (14, 3, 1)), (61, (17, 2, 1)), (64, (18, 4, 1)), (67, (19, 3, 1)), (70, (20, 4, 1)), (74, (21, 3, 1)), (78, (0, 1, 1)), (81, (78, 1, 10)), (82, (118, 3, 0)), (87, (83, 2, 10)), (88, (79, 1, 10)), (92, (119, 4, 0)), (95, (85, 4, 10)), (96, (120, 4, 0)), (99, (86, 3, 10)), (100, (121, 3, 0)), (103, (90, 3, 10)), (104, (122, 5, 0)), (107, (92, 4, 10)), (108, (123, 5, 0)), (110, (93, 4, 10)), (111, (124, 3, 0)), (113, (99, 2, 10)), (114, (125, 5, 0)), (116, (100, 4, 10)), (117, (126, 3, 0)), (119, (101, 2, 10)), (120, (127, 4, 0)), (122, (102, 3, 10)), (123, (128, 4, 0)), (125, (103, 3, 10)), (126, (129, 4, 0)), (129, (104, 3, 10)), (130, (130, 3, 0)), (132, (105, 2, 10)), (133, (131, 4, 0)), (135, (108, 3, 10)), (136, (15, 3, 1)), (139, (109, 3, 10)), (140, (16, 1, 1)), (143, (110, 1, 10)), (144, (132, 3, 0)), (146, (111, 2, 10)), (147, (133, 5, 0)), (149, (114, 4, 10)), (150, (134, 4, 0)), (152, (115, 3, 10)), (153, (135, 5, 0)), (156, (116, 4, 10)), (157, (136, 3, 0)), (160, (117, 3, 10))], [], []]
def pNs : List (List (Nat × Nat × Nat)) := [[(9, (2, 1)), (15, (5, 4)), (22, (7, 3)), (29, (8, 11)), (36, (9, 2)), (95, (4, 10)), (139, (6, 2)), (234, (3, 2))], [], [], [], [], [], [], [], [], [], [(8, (1, 10)), (79, (10, 33))], [], []]
def pVs : List (List (Nat × Nat)) := [[(9, 2), (36, 9)], [], [], [], [(9, 4)], [], [(9, 6)], [(9, 2)], [], [], [], [], []]
abbrev J_X_init : Nat := 0
abbrev J_X_text : Nat := 1
abbrev J_X_set : Nat := 2
abbrev J_X_at : Nat := 3
abbrev J_X_span : Nat := 4
abbrev J_X_tally : Nat := 5
abbrev J_X_replace : Nat := 6
abbrev J_X_inspect : Nat := 7
abbrev J_X_convert : Nat := 8
abbrev J_X_counter : Nat := 9
abbrev J_X_part : Nat := 10
abbrev J_X_join : Nat := 11
abbrev J_X_delimiter : Nat := 12
abbrev J_X_receiver : Nat := 13
abbrev J_X_split : Nat := 14
abbrev J_X_result : Nat := 15
abbrev J_X_pointer : Nat := 16
abbrev J_X_table : Nat := 17
abbrev J_X_row : Nat := 18
abbrev J_X_index : Nat := 19
abbrev J_X_search : Nat := 20
abbrev J_X_sort : Nat := 21
abbrev J_X_knownText : Nat := 22
abbrev J_X_filledText : Nat := 23
abbrev J_X_textWithPlace : Nat := 24
abbrev J_X_soughtText : Nat := 25
abbrev J_X_widthOf : Nat := 26
abbrev J_X_checkKind : Nat := 27
abbrev J_X_checkCounter : Nat := 28
abbrev J_X_checkRoomForPhrase : Nat := 29
abbrev J_X_takeRegion : Nat := 30
abbrev J_X_knownTable : Nat := 31
abbrev J_X_tableWithRow : Nat := 32
abbrev J_Text_init : Nat := 33
abbrev J_Text_size : Nat := 34
abbrev J_Text_holds : Nat := 35
abbrev J_Text_firstPlaceOf : Nat := 36
abbrev J_Text_firstPlaceOfSign : Nat := 37
abbrev J_Text_copyTo : Nat := 38
abbrev J_Text_fillFrom : Nat := 39
abbrev J_Region_init : Nat := 40
abbrev J_Region_beginIn : Nat := 41
abbrev J_Region_endIn : Nat := 42
abbrev J_Phrase_init : Nat := 43
abbrev J_Phrase_isReplacing : Nat := 44
abbrev J_Phrase_startIn : Nat := 45
abbrev J_Phrase_matches : Nat := 46
abbrev J_Phrase_noteMatch : Nat := 47
abbrev J_Inspection_init : Nat := 48
abbrev J_Inspection_collect : Nat := 49
abbrev J_Inspection_takeCount : Nat := 50
abbrev J_Inspection_goThrough : Nat := 51
abbrev J_Inspection_goOver : Nat := 52
abbrev J_Inspection_firstMatch : Nat := 53
abbrev J_Inspection_act : Nat := 54
abbrev J_Inspection_exchange : Nat := 55
abbrev J_Part_init : Nat := 56
abbrev J_Part_length : Nat := 57
abbrev J_Joining_init : Nat := 58
abbrev J_Joining_collect : Nat := 59
abbrev J_Joining_putInto : Nat := 60
abbrev J_Joining_putPart : Nat := 61
abbrev J_Splitting_init : Nat := 62
abbrev J_Splitting_collectDelimiter : Nat := 63
abbrev J_Splitting_collectReceiver : Nat := 64
abbrev J_Splitting_takeApart : Nat := 65
abbrev J_Splitting_cutPieces : Nat := 66
abbrev J_Splitting_cutBySize : Nat := 67
abbrev J_Splitting_cutByDelimiter : Nat := 68
abbrev J_Splitting_keepPiece : Nat := 69
abbrev J_Splitting_delimiterAt : Nat := 70
abbrev J_Splitting_placeBehind : Nat := 71
abbrev J_Splitting_handOut : Nat := 72
abbrev J_Table_init : Nat := 73
abbrev J_Table_findInOrder : Nat := 74
abbrev J_Table_findByHalves : Nat := 75
abbrev J_Table_putInOrder : Nat := 76
abbrev J_Table_isAhead : Nat := 77
abbrev J_M_init : Nat := 78
abbrev J_M_thrown : Nat := 79
abbrev J_M_fails : Nat := 80
abbrev J_M_isText : Nat := 81
abbrev J_M_isFull : Nat := 82
abbrev J_M_text : Nat := 83
abbrev J_M_isPlace : Nat := 84
abbrev J_M_set : Nat := 85
abbrev J_M_at : Nat := 86
abbrev J_M_remember : Nat := 87
abbrev J_M_occurs : Nat := 88
abbrev J_M_first : Nat := 89
abbrev J_M_span : Nat := 90
abbrev J_M_phrase : Nat := 91
abbrev J_M_tally : Nat := 92
abbrev J_M_replace : Nat := 93
abbrev J_M_beginOf : Nat := 94
abbrev J_M_endOf : Nat := 95
abbrev J_M_matches : Nat := 96
abbrev J_M_over : Nat := 97
abbrev J_M_act : Nat := 98
abbrev J_M_inspect : Nat := 99
abbrev J_M_convert : Nat := 100
abbrev J_M_counter : Nat := 101
abbrev J_M_part : Nat := 102
abbrev J_M_join : Nat := 103
abbrev J_M_delimiter : Nat := 104
abbrev J_M_receiver : Nat := 105
abbrev J_M_here : Nat := 106
abbrev J_M_move : Nat := 107
abbrev J_M_split : Nat := 108
abbrev J_M_result : Nat := 109
abbrev J_M_pointer : Nat := 110
abbrev J_M_table : Nat := 111
abbrev J_M_isTable : Nat := 112
abbrev J_M_isRow : Nat := 113
abbrev J_M_row : Nat := 114
abbrev J_M_index : Nat := 115
abbrev J_M_search : Nat := 116
abbrev J_M_sort : Nat := 117
abbrev J_L_text : Nat := 118
abbrev J_L_set : Nat := 119
abbrev J_L_at : Nat := 120
abbrev J_L_span : Nat := 121
abbrev J_L_tally : Nat := 122
abbrev J_L_replace : Nat := 123
abbrev J_L_inspect : Nat := 124
abbrev J_L_convert : Nat := 125
abbrev J_L_counter : Nat := 126
abbrev J_L_part : Nat := 127
abbrev J_L_join : Nat := 128
abbrev J_L_delimiter : Nat := 129
abbrev J_L_receiver : Nat := 130
abbrev J_L_split : Nat := 131
abbrev J_L_table : Nat := 132
abbrev J_L_row : Nat := 133
abbrev J_L_index : Nat := 134
abbrev J_L_search : Nat := 135
abbrev J_L_sort : Nat := 136
abbrev J_L_law : Nat := 137
abbrev J_Arrays_fill : Nat := 138
abbrev J_Math_min : Nat := 139
def mC (j : Nat) : List (List (Nat × Instr × Nat)) := (mCs[j]?).getD []
def mL (j : Nat) : Nat := (mLs[j]?).getD 0
def mO (j : Nat) : Nat := (mOs[j]?).getD 0
def mR (j : Nat) : Bool := (mRs[j]?).getD false
def mE (j pc : Nat) : Option Nat := ((mEs[j]?).getD []).lookup pc
def mH (j pc e : Nat) : Option Nat := (((mHs[j]?).getD []).find? (fun h => Nat.ble h.1 pc && Nat.blt pc h.2.1 && Nat.beq h.2.2.2 e)).map (fun h => h.2.2.1)
def mHn (j : Nat) : Bool := ((mHs[j]?).getD []).isEmpty
def pF (w k : Nat) : Option (Nat × Nat × Nat) := ((pFs[w]?).getD []).lookup k
def pM (w k : Nat) : Option (Nat × Nat × Nat) := ((pMs[w]?).getD []).lookup k
def pN (w k : Nat) : Option (Nat × Nat) := ((pNs[w]?).getD []).lookup k
def pV (w k : Nat) : Option Nat := ((pVs[w]?).getD []).lookup k
end
section
/-! THE RUN, and what it gives: ca (a call), wp (from a place on). -/
def iC (j pc : Nat) : Option (Instr × Nat) := (((mC j)[pc / 64]?).getD []).lookup pc
def ipad (j : Nat) (as : List iV) : List iV := as ++ List.replicate (mL j - as.length) (vl 0)
noncomputable def ist (j pc : Nat) (i : Instr) (len : Nat) (ls st : List iV) (σ : iS) : Option iT := istep (pF (mO j)) (pM (mO j)) (pN (mO j)) (pV (mO j)) (mE j pc) (mR j) pc i len ls st σ
noncomputable def irun : Nat → Nat → Nat → List iV → List iV → iS → Option (iO × iS)
  | 0, _, _, _, _, _ => none
  | n + 1, j, pc, ls, st, σ => match iC j pc with
    | none => none
    | some (i, len) => match ist j pc i len ls st σ with
      | none => none
      | some (.inl (pc', ls', st', σ')) => irun n j pc' ls' st' σ'
      | some (.inr (.inl r)) => some r
      | some (.inr (.inr (j', as, rest))) => match irun n j' 0 (ipad j' as) [] σ with
        | none => none
        | some (.inl v, σ1) => irun n j (pc + len) ls (v.toList ++ rest) σ1
        | some (.inr (e, a), σ1) => match mH j pc e with
          | some h => irun n j h ls [vr a] σ1
          | none => if mHn j = true then some (.inr (e, a), σ1) else none
theorem irun_s (n : Nat) : ∀ (j pc : Nat) (ls st : List iV) (σ : iS) (r : iO × iS), irun n j pc ls st σ = some r → irun (n + 1) j pc ls st σ = some r := by
  induction n with
  | zero => intro j pc ls st σ r h; simp [irun] at h
  | succ n ih =>
    intro j pc ls st σ r h
    rw [irun] at h ⊢
    cases hc : iC j pc with
    | none => rw [hc] at h; cases h
    | some q =>
      obtain ⟨i, len⟩ := q
      rw [hc] at h
      (try dsimp only at h); (try dsimp only)
      cases hs : ist j pc i len ls st σ with
      | none => rw [hs] at h; cases h
      | some y =>
        rw [hs] at h
        (try dsimp only at h); (try dsimp only)
        rcases y with ⟨pc', ls', st', σ'⟩ | y | ⟨j', as, rest⟩
        · exact ih _ _ _ _ _ _ h
        · exact h
        · (try dsimp only at h); (try dsimp only)
          cases hr : irun n j' 0 (ipad j' as) [] σ with
          | none => rw [hr] at h; cases h
          | some z =>
            rw [hr] at h
            rw [ih _ _ _ _ _ _ hr]
            (try dsimp only at h); (try dsimp only)
            rcases z with ⟨v | ⟨e, a⟩, σ1⟩
            · exact ih _ _ _ _ _ _ h
            · (try dsimp only at h); (try dsimp only)
              cases hh : mH j pc e with
              | none => rw [hh] at h; exact h
              | some hp => rw [hh] at h; exact ih _ _ _ _ _ _ h
theorem irun_le {n m : Nat} (hm : n ≤ m) {j pc : Nat} {ls st : List iV} {σ : iS} {r : iO × iS} (h : irun n j pc ls st σ = some r) : irun m j pc ls st σ = some r := by
  induction hm with
  | refl => exact h
  | step _ ih => exact irun_s _ _ _ _ _ _ _ ih
def wp (j pc : Nat) (ls st : List iV) (σ : iS) (Q : iO → iS → Prop) : Prop := ∃ (n : Nat) (o : iO) (σ' : iS), irun n j pc ls st σ = some (o, σ') ∧ Q o σ'
def ca (j : Nat) (as : List iV) (σ : iS) (Q : iO → iS → Prop) : Prop := wp j 0 (ipad j as) [] σ Q
theorem wp_mono {j pc : Nat} {ls st : List iV} {σ : iS} {Q Q' : iO → iS → Prop} (h : wp j pc ls st σ Q) (hq : ∀ o σ', Q o σ' → Q' o σ') : wp j pc ls st σ Q' := by
  obtain ⟨n, o, σ', h1, h2⟩ := h
  exact ⟨n, o, σ', h1, hq _ _ h2⟩
theorem ca_mono {j : Nat} {as : List iV} {σ : iS} {Q Q' : iO → iS → Prop} (h : ca j as σ Q) (hq : ∀ o σ', Q o σ' → Q' o σ') : ca j as σ Q' := wp_mono h hq
section WP
variable {j pc : Nat} {ls st : List iV} {σ : iS} {Q : iO → iS → Prop} {i : Instr} {len : Nat}
theorem w_go {pc' : Nat} {ls' st' : List iV} {σ' : iS} (h : iC j pc = some (i, len)) (hs : ist j pc i len ls st σ = some (.inl (pc', ls', st', σ'))) (k : wp j pc' ls' st' σ' Q) : wp j pc ls st σ Q := by
  obtain ⟨n, o, τ, h1, h2⟩ := k
  exact ⟨n + 1, o, τ, by rw [irun, h]; dsimp only; rw [hs]; exact h1, h2⟩
theorem w_gd {c : Prop} {t : Option iT} {pc' : Nat} {ls' st' : List iV} {σ' : iS} (h : iC j pc = some (i, len)) (hs : ist j pc i len ls st σ = iG c t) (ht : t = some (.inl (pc', ls', st', σ'))) (hc : c) (k : wp j pc' ls' st' σ' Q) : wp j pc ls st σ Q := w_go h (by rw [hs, iG_t hc]; exact ht) k
theorem w_br {c : Prop} {t f : Option iT} {pc1 pc2 : Nat} {ls1 st1 ls2 st2 : List iV} {σ1 σ2 : iS} (h : iC j pc = some (i, len)) (hs : ist j pc i len ls st σ = iB c t f) (ht : t = some (.inl (pc1, ls1, st1, σ1))) (hf : f = some (.inl (pc2, ls2, st2, σ2))) (k1 : c → wp j pc1 ls1 st1 σ1 Q) (k2 : ¬ c → wp j pc2 ls2 st2 σ2 Q) : wp j pc ls st σ Q := by
  by_cases hc : c
  · exact w_go h (by rw [hs, iB_t hc]; exact ht) (k1 hc)
  · exact w_go h (by rw [hs, iB_f hc]; exact hf) (k2 hc)
theorem w_ret {r : iO × iS} (h : iC j pc = some (i, len)) (hs : ist j pc i len ls st σ = some (.inr (.inl r))) (k : Q r.1 r.2) : wp j pc ls st σ Q := ⟨1, r.1, r.2, by rw [irun, h]; dsimp only; rw [hs], k⟩
theorem w_retG {c : Prop} {t : Option iT} {r : iO × iS} (h : iC j pc = some (i, len)) (hs : ist j pc i len ls st σ = iG c t) (ht : t = some (.inr (.inl r))) (hc : c) (k : Q r.1 r.2) : wp j pc ls st σ Q := w_ret h (by rw [hs, iG_t hc]; exact ht) k
/-- what a caller makes of its callee's end -/
def w_K (j pc len : Nat) (ls rest : List iV) (Q : iO → iS → Prop) : iO → iS → Prop := fun o σ1 => match o with
  | .inl v => wp j (pc + len) ls (v.toList ++ rest) σ1 Q
  | .inr (e, a) => match mH j pc e with
    | some h => wp j h ls [vr a] σ1 Q
    | none => mHn j = true ∧ Q (.inr (e, a)) σ1
theorem w_call {j' : Nat} {as rest : List iV} (h : iC j pc = some (i, len)) (hs : ist j pc i len ls st σ = some (.inr (.inr (j', as, rest)))) (k : ca j' as σ (w_K j pc len ls rest Q)) : wp j pc ls st σ Q := by
  obtain ⟨n, o, τ, h1, h2⟩ := k
  rcases o with v | ⟨e, a⟩
  · obtain ⟨n2, o2, τ2, g1, g2⟩ := h2
    refine ⟨max n n2 + 1, o2, τ2, ?_, g2⟩
    rw [irun, h]; dsimp only; rw [hs]; dsimp only
    rw [irun_le (Nat.le_max_left n n2) h1]
    exact irun_le (Nat.le_max_right n n2) g1
  · dsimp only [w_K] at h2
    cases hh : mH j pc e with
    | none =>
      rw [hh] at h2
      refine ⟨n + 1, .inr (e, a), τ, ?_, h2.2⟩
      rw [irun, h]; dsimp only; rw [hs]; dsimp only
      rw [h1]; dsimp only; rw [hh]; dsimp only; rw [if_pos h2.1]
    | some hp =>
      rw [hh] at h2
      obtain ⟨n2, o2, τ2, g1, g2⟩ := h2
      refine ⟨max n n2 + 1, o2, τ2, ?_, g2⟩
      rw [irun, h]; dsimp only; rw [hs]; dsimp only
      rw [irun_le (Nat.le_max_left n n2) h1]; dsimp only; rw [hh]
      exact irun_le (Nat.le_max_right n n2) g1
theorem w_callG {c : Prop} {t : Option iT} {j' : Nat} {as rest : List iV} (h : iC j pc = some (i, len)) (hs : ist j pc i len ls st σ = iG c t) (ht : t = some (.inr (.inr (j', as, rest)))) (hc : c) (k : ca j' as σ (w_K j pc len ls rest Q)) : wp j pc ls st σ Q := w_call h (by rw [hs, iG_t hc]; exact ht) k
theorem w_ic {v : Int} {x : Int32} (h : iC j pc = some (.iconst v, len)) (hv : Int32.ofInt v = x) (k : wp j (pc + len) ls (vi x :: st) σ Q) : wp j pc ls st σ Q := by
  subst hv
  exact w_go h rfl k
theorem w_bp {v : Int} {x : Int32} (h : iC j pc = some (.bipush v, len)) (hv : (Int8.ofInt v).toInt32 = x) (k : wp j (pc + len) ls (vi x :: st) σ Q) : wp j pc ls st σ Q := by
  subst hv
  exact w_go h rfl k
theorem w_sp {v : Int} {x : Int32} (h : iC j pc = some (.sipush v, len)) (hv : (Int16.ofInt v).toInt32 = x) (k : wp j (pc + len) ls (vi x :: st) σ Q) : wp j pc ls st σ Q := by
  subst hv
  exact w_go h rfl k
theorem w_inc {v : Int} {n : Nat} {x y : Int32} (h : iC j pc = some (.iinc n v, len)) (hn : ls[n]? = some (vi x)) (hv : Int32.ofInt v = y) (k : wp j (pc + len) (ls.set n (vi (x + y))) st σ Q) : wp j pc ls st σ Q := by
  subst hv
  exact w_go h (by unfold ist istep; dsimp only; rw [hn]) k
theorem w_lc {x y : Int64} {rest : List iV} (h : iC j pc = some (.lcmp, len)) (hst : st = vl y :: vl x :: rest) (k1 : x = y → wp j (pc + len) ls (vi 0 :: rest) σ Q) (k2 : ¬ x = y → ∀ r : Int32, r ≠ 0 → wp j (pc + len) ls (vi r :: rest) σ Q) : wp j pc ls st σ Q := by
  subst hst
  by_cases hc : x = y
  · exact w_go h (iB_t hc) (k1 hc)
  · by_cases hd : x < y
    · exact w_go h ((iB_f hc).trans (iB_t hd)) (k2 hc (-1) (by decide))
    · exact w_go h ((iB_f hc).trans (iB_f hd)) (k2 hc 1 (by decide))
/-- a long comparison, then ifeq -/
theorem w_lcE {x y : Int64} {rest : List iV} {off : Int} {len2 : Nat} {pc1 : Nat} (h : iC j pc = some (.lcmp, len)) (hst : st = vl y :: vl x :: rest) (h2 : iC j (pc + len) = some (.ifCond .eq off, len2)) (hj : iJ (pc + len) off ls rest σ = some (.inl (pc1, ls, rest, σ))) (k1 : x = y → wp j pc1 ls rest σ Q) (k2 : ¬ x = y → wp j (pc + len + len2) ls rest σ Q) : wp j pc ls st σ Q :=
  w_lc h hst (fun c => w_go h2 ((iB_t rfl).trans hj) (k1 c)) (fun c r hr => w_go h2 (iB_f hr) (k2 c))
theorem w_lcN {x y : Int64} {rest : List iV} {off : Int} {len2 : Nat} {pc1 : Nat} (h : iC j pc = some (.lcmp, len)) (hst : st = vl y :: vl x :: rest) (h2 : iC j (pc + len) = some (.ifCond .ne off, len2)) (hj : iJ (pc + len) off ls rest σ = some (.inl (pc1, ls, rest, σ))) (k1 : x = y → wp j (pc + len + len2) ls rest σ Q) (k2 : ¬ x = y → wp j pc1 ls rest σ Q) : wp j pc ls st σ Q :=
  w_lc h hst (fun c => w_go h2 (iB_f (fun q => q rfl)) (k1 c)) (fun c r hr => w_go h2 ((iB_t hr).trans hj) (k2 c))
theorem w_tbI {d lo hi off : Int} {offs : Array Int} {x : Int32} {rest : List iV} {pc1 : Nat} (h : iC j pc = some (.tableswitch d lo hi offs, len)) (h1 : ¬ x.toInt < lo) (h2 : ¬ hi < x.toInt) (ho : offs[(x.toInt - lo).toNat]? = some off) (hj : iJ pc off ls rest σ = some (.inl (pc1, ls, rest, σ))) (k : wp j pc1 ls rest σ Q) : wp j pc ls (vi x :: rest) σ Q :=
  w_go h ((iB_f (fun q => q.elim h1 h2)).trans (by rw [ho]; exact hj)) k
theorem w_tbO {d lo hi : Int} {offs : Array Int} {x : Int32} {rest : List iV} {pc1 : Nat} (h : iC j pc = some (.tableswitch d lo hi offs, len)) (h1 : x.toInt < lo ∨ hi < x.toInt) (hj : iJ pc d ls rest σ = some (.inl (pc1, ls, rest, σ))) (k : wp j pc1 ls rest σ Q) : wp j pc ls (vi x :: rest) σ Q :=
  w_go h ((iB_t h1).trans hj) k
theorem w_lk {d : Int} {ps : Array (Int × Int)} {x : Int32} {rest : List iV} {tgt : Nat} (h : iC j pc = some (.lookupswitch d ps, len)) (hp : (ps.toList.zip (ps.toList.drop 1)).all (fun (a, next) => a.1 < next.1) = true) (ho : (pc : Int) + Op.lookupswitch.offset ps.toList d x.toInt = (tgt : Int)) (k : wp j tgt ls rest σ Q) : wp j pc ls (vi x :: rest) σ Q :=
  w_go h ((iG_t hp).trans (by unfold iJ; rw [ho])) k
/-- a callee's end that is an int, a reference, nothing; what is thrown goes on -/
abbrev cI (f : Int32 → iS → Prop) (Q : iO → iS → Prop) : iO → iS → Prop := fun o σ1 => match o with
  | .inl (some (.inl r)) => f r σ1
  | .inr ea => Q (.inr ea) σ1
  | _ => False
abbrev cA (f : Nat → iS → Prop) (Q : iO → iS → Prop) : iO → iS → Prop := fun o σ1 => match o with
  | .inl (some (.inr (.inl r))) => f r σ1
  | .inr ea => Q (.inr ea) σ1
  | _ => False
abbrev cV (f : iS → Prop) (Q : iO → iS → Prop) : iO → iS → Prop := fun o σ1 => match o with
  | .inl none => f σ1
  | .inr ea => Q (.inr ea) σ1
  | _ => False
abbrev hI (f : Int32 → iS → Prop) (g : Nat → Nat → iS → Prop) : iO → iS → Prop := fun o σ1 => match o with
  | .inl (some (.inl r)) => f r σ1
  | .inr (e, a) => g e a σ1
  | _ => False
abbrev hV (f : iS → Prop) (g : Nat → Nat → iS → Prop) : iO → iS → Prop := fun o σ1 => match o with
  | .inl none => f σ1
  | .inr (e, a) => g e a σ1
  | _ => False
variable {c : Prop} {t : Option iT} {j' : Nat} {as rest : List iV}
theorem w_cI {f : Int32 → iS → Prop} (h : iC j pc = some (i, len)) (hs : ist j pc i len ls st σ = iG c t) (ht : t = some (.inr (.inr (j', as, rest)))) (hc : c) (hz : mHn j = true) (hh : ∀ e, mH j pc e = none) (k : ca j' as σ (cI f Q)) (kf : ∀ r σ1, f r σ1 → wp j (pc + len) ls (vi r :: rest) σ1 Q) : wp j pc ls st σ Q :=
  w_callG h hs ht hc (ca_mono k (fun o σ1 hq => by
    match o, hq with
    | .inl (some (.inl r)), hq => exact kf r σ1 hq
    | .inr (e, a), hq => dsimp only [w_K]; rw [hh e]; exact ⟨hz, hq⟩))
theorem w_cA {f : Nat → iS → Prop} (h : iC j pc = some (i, len)) (hs : ist j pc i len ls st σ = iG c t) (ht : t = some (.inr (.inr (j', as, rest)))) (hc : c) (hz : mHn j = true) (hh : ∀ e, mH j pc e = none) (k : ca j' as σ (cA f Q)) (kf : ∀ r σ1, f r σ1 → wp j (pc + len) ls (vr r :: rest) σ1 Q) : wp j pc ls st σ Q :=
  w_callG h hs ht hc (ca_mono k (fun o σ1 hq => by
    match o, hq with
    | .inl (some (.inr (.inl r))), hq => exact kf r σ1 hq
    | .inr (e, a), hq => dsimp only [w_K]; rw [hh e]; exact ⟨hz, hq⟩))
theorem w_cV {f : iS → Prop} (h : iC j pc = some (i, len)) (hs : ist j pc i len ls st σ = iG c t) (ht : t = some (.inr (.inr (j', as, rest)))) (hc : c) (hz : mHn j = true) (hh : ∀ e, mH j pc e = none) (k : ca j' as σ (cV f Q)) (kf : ∀ σ1, f σ1 → wp j (pc + len) ls rest σ1 Q) : wp j pc ls st σ Q :=
  w_callG h hs ht hc (ca_mono k (fun o σ1 hq => by
    match o, hq with
    | .inl none, hq => exact kf σ1 hq
    | .inr (e, a), hq => dsimp only [w_K]; rw [hh e]; exact ⟨hz, hq⟩))
theorem w_hI {f : Int32 → iS → Prop} {g : Nat → Nat → iS → Prop} (h : iC j pc = some (i, len)) (hs : ist j pc i len ls st σ = iG c t) (ht : t = some (.inr (.inr (j', as, rest)))) (hc : c) (k : ca j' as σ (hI f g)) (kf : ∀ r σ1, f r σ1 → wp j (pc + len) ls (vi r :: rest) σ1 Q) (kg : ∀ e a σ1, g e a σ1 → w_K j pc len ls rest Q (.inr (e, a)) σ1) : wp j pc ls st σ Q :=
  w_callG h hs ht hc (ca_mono k (fun o σ1 hq => by
    match o, hq with
    | .inl (some (.inl r)), hq => exact kf r σ1 hq
    | .inr (e, a), hq => exact kg e a σ1 hq))
theorem w_hV {f : iS → Prop} {g : Nat → Nat → iS → Prop} (h : iC j pc = some (i, len)) (hs : ist j pc i len ls st σ = iG c t) (ht : t = some (.inr (.inr (j', as, rest)))) (hc : c) (k : ca j' as σ (hV f g)) (kf : ∀ σ1, f σ1 → wp j (pc + len) ls rest σ1 Q) (kg : ∀ e a σ1, g e a σ1 → w_K j pc len ls rest Q (.inr (e, a)) σ1) : wp j pc ls st σ Q :=
  w_callG h hs ht hc (ca_mono k (fun o σ1 hq => by
    match o, hq with
    | .inl none, hq => exact kf σ1 hq
    | .inr (e, a), hq => exact kg e a σ1 hq))
/-- one catch (of number 1), two catches (of 1 and 2) -/
theorem b_h1 {e a p1 : Nat} (h1 : mH j pc 1 = some p1) (k : (e = 1 → wp j p1 ls [vr a] σ Q) ∧ (e = 1)) : w_K j pc len ls rest Q (.inr (e, a)) σ := by
  obtain ⟨k1, rfl⟩ := k
  dsimp only [w_K]
  rw [h1]
  exact k1 rfl
theorem b_h2 {e a p1 p2 : Nat} (h1 : mH j pc 1 = some p1) (h2 : mH j pc 2 = some p2) (k : (e = 1 → wp j p1 ls [vr a] σ Q) ∧ (e = 2 → wp j p2 ls [vr a] σ Q) ∧ (e = 1 ∨ e = 2)) : w_K j pc len ls rest Q (.inr (e, a)) σ := by
  obtain ⟨k1, k2, rfl | rfl⟩ := k
  · dsimp only [w_K]; rw [h1]; exact k1 rfl
  · dsimp only [w_K]; rw [h2]; exact k2 rfl
end WP
end
section
/-! WHAT MUST HOLD at each cut point of each method: printed by gen3.py -/
theorem kb_8 : (Int8.ofInt 8).toInt32 = 8 := by decide +kernel
theorem kb_9 : (Int8.ofInt 9).toInt32 = 9 := by decide +kernel
theorem kb_10 : (Int8.ofInt 10).toInt32 = 10 := by decide +kernel
theorem kb_20 : (Int8.ofInt 20).toInt32 = 20 := by decide +kernel
theorem kb_31 : (Int8.ofInt 31).toInt32 = 31 := by decide +kernel
theorem kb_32 : (Int8.ofInt 32).toInt32 = 32 := by decide +kernel
theorem kb_40 : (Int8.ofInt 40).toInt32 = 40 := by decide +kernel
theorem kb_60 : (Int8.ofInt 60).toInt32 = 60 := by decide +kernel
theorem kc_m1 : Int32.ofInt (-1) = (-1) := by decide +kernel
theorem kc_0 : Int32.ofInt 0 = 0 := by decide +kernel
theorem kc_1 : Int32.ofInt 1 = 1 := by decide +kernel
theorem kc_2 : Int32.ofInt 2 = 2 := by decide +kernel
theorem kc_3 : Int32.ofInt 3 = 3 := by decide +kernel
theorem kc_4 : Int32.ofInt 4 = 4 := by decide +kernel
theorem ks_255 : (Int16.ofInt 255).toInt32 = 255 := by decide +kernel
theorem ks_600 : (Int16.ofInt 600).toInt32 = 600 := by decide +kernel
theorem ks_2400 : (Int16.ofInt 2400).toInt32 = 2400 := by decide +kernel
theorem b_X_init_0 {a0 : Nat} {σ : iS} {Q : iO → iS → Prop} (h : a0 ≠ 0 ∧ ((¬ (40 : Int32) < 0 ∧ (40 : Int32).toNatClampNeg ≤ 100000) ∧ (∀ σ1, σ1 = nA σ 112 (40 : Int32).toNatClampNeg → sK σ1 a0 = 1 ∧ (∀ σ2, σ2 = wR σ1 32 a0 (sX σ) → (∀ σ3, σ3 = nO σ2 5 4 → sK σ3 (sX σ2) = 5 ∧ ca J_Inspection_init [vr (sX σ2)] σ3 (cV (fun σ4 => sK σ4 a0 = 1 ∧ (∀ σ5, σ5 = wR σ4 36 a0 (sX σ2) → (∀ σ6, σ6 = nO σ5 7 3 → sK σ6 (sX σ5) = 7 ∧ ca J_Joining_init [vr (sX σ5)] σ6 (cV (fun σ7 => sK σ7 a0 = 1 ∧ (∀ σ8, σ8 = wR σ7 37 a0 (sX σ5) → (∀ σ9, σ9 = nO σ8 8 11 → sK σ9 (sX σ8) = 8 ∧ ca J_Splitting_init [vr (sX σ8)] σ9 (cV (fun σ10 => sK σ10 a0 = 1 ∧ (∀ σ11, σ11 = wR σ10 38 a0 (sX σ8) → (¬ (10 : Int32) < 0 ∧ (10 : Int32).toNatClampNeg ≤ 100000) ∧ (∀ σ12, σ12 = nA σ11 119 (10 : Int32).toNatClampNeg → sK σ12 a0 = 1 ∧ (∀ σ13, σ13 = wR σ12 40 a0 (sX σ11) → wp J_X_init 55 [vr a0] [] σ13 Q)))) Q)))) Q)))) Q)))))) : ca J_X_init [vr a0] σ Q :=
  w_go rfl rfl (w_gd rfl rfl rfl ⟨Nat.le_of_ble_eq_true rfl, h.1⟩ (w_go rfl rfl (w_bp rfl kb_40 (w_gd rfl rfl rfl h.2.1 (w_gd rfl rfl rfl (h.2.2 _ rfl).1 (w_go rfl rfl (w_go rfl rfl (w_go rfl rfl (w_cV rfl rfl rfl ⟨⟨Nat.le_of_ble_eq_true rfl, Nat.le_of_ble_eq_true rfl⟩, (((h.2.2 _ rfl).2 _ rfl) _ rfl).1⟩ rfl (fun _ => rfl) (((h.2.2 _ rfl).2 _ rfl) _ rfl).2 (fun σ4 k4 => w_gd rfl rfl rfl k4.1 (w_go rfl rfl (w_go rfl rfl (w_go rfl rfl (w_cV rfl rfl rfl ⟨⟨Nat.le_of_ble_eq_true rfl, Nat.le_of_ble_eq_true rfl⟩, ((k4.2 _ rfl) _ rfl).1⟩ rfl (fun _ => rfl) ((k4.2 _ rfl) _ rfl).2 (fun σ7 k7 => w_gd rfl rfl rfl k7.1 (w_go rfl rfl (w_go rfl rfl (w_go rfl rfl (w_cV rfl rfl rfl ⟨⟨Nat.le_of_ble_eq_true rfl, Nat.le_of_ble_eq_true rfl⟩, ((k7.2 _ rfl) _ rfl).1⟩ rfl (fun _ => rfl) ((k7.2 _ rfl) _ rfl).2 (fun σ10 k10 => w_gd rfl rfl rfl k10.1 (w_go rfl rfl (w_bp rfl kb_10 (w_gd rfl rfl rfl (k10.2 _ rfl).1 (w_gd rfl rfl rfl ((k10.2 _ rfl).2 _ rfl).1 ((((k10.2 _ rfl).2 _ rfl).2 _ rfl))))))))))))))))))))))))))

theorem b_X_init_55 {a0 : Nat} {σ : iS} {Q : iO → iS → Prop} (h : Q (.inl none) σ) : wp J_X_init 55 [vr a0] [] σ Q :=
  w_ret rfl rfl h

theorem b_X_text_0 {a0 : Nat} {x1 : Int32} {σ : iS} {Q : iO → iS → Prop} (h : (x1 < 0 → wp J_X_text 10 [vr a0, vi x1] [] σ Q) ∧ (¬ (x1 < 0) → (x1 ≤ (60 : Int32) → sK σ a0 = 1 ∧ (((sI σ 33 a0) < (40 : Int32) → sK σ a0 = 1 ∧ (sK σ a0 = 1 ∧ ((∀ σ4, σ4 = nO σ 2 1 → sK σ4 (sX σ) = 2 ∧ ca J_Text_init [vr (sX σ), vi x1] σ4 (cV (fun σ5 => ((110 ≤ sK σ5 (sR σ 32 a0) ∧ sK σ5 (sR σ 32 a0) < 200) ∧ ((sX σ) = 0 ∨ sK σ5 (sX σ) + 110 = sK σ5 (sR σ 32 a0)) ∧ iIn (sI σ 33 a0) (sN σ5 (sR σ 32 a0))) ∧ (∀ σ6, σ6 = wB σ5 (sR σ 32 a0) (sI σ 33 a0).toNatClampNeg (sX σ) → sK σ6 a0 = 1 ∧ (sK σ6 a0 = 1 ∧ (∀ σ7, σ7 = wI σ6 33 a0 ((sI σ6 33 a0) + (1 : Int32)) → sK σ7 a0 = 1 ∧ (Q (.inl (some (vi ((sI σ7 33 a0) - (1 : Int32))))) σ7))))) Q))))) ∧ (¬ ((sI σ 33 a0) < (40 : Int32)) → Q (.inr (2, sX σ)) (nO σ 202 6)))) ∧ (¬ (x1 ≤ (60 : Int32)) → wp J_X_text 10 [vr a0, vi x1] [] σ Q))) : ca J_X_text [vr a0, vi x1] σ Q :=
  w_go rfl rfl (w_br rfl rfl rfl rfl (fun c1 => (h.1 c1)) (fun c1 => w_go rfl rfl (w_bp rfl kb_60 (w_br rfl rfl rfl rfl (fun c2 => w_go rfl rfl (w_gd rfl rfl rfl ((h.2 c1).1 c2).1 (w_bp rfl kb_40 (w_br rfl rfl rfl rfl (fun c3 => w_go rfl rfl (w_gd rfl rfl rfl (((h.2 c1).1 c2).2.1 c3).1 (w_go rfl rfl (w_gd rfl rfl rfl (((h.2 c1).1 c2).2.1 c3).2.1 (w_go rfl rfl (w_go rfl rfl (w_go rfl rfl (w_cV rfl rfl rfl ⟨⟨Nat.le_of_ble_eq_true rfl, Nat.le_of_ble_eq_true rfl⟩, ((((h.2 c1).1 c2).2.1 c3).2.2 _ rfl).1⟩ rfl (fun _ => rfl) ((((h.2 c1).1 c2).2.1 c3).2.2 _ rfl).2 (fun σ5 k5 => w_gd rfl rfl rfl k5.1 (w_go rfl rfl (w_go rfl rfl (w_gd rfl rfl rfl (k5.2 _ rfl).1 (w_ic rfl kc_1 (w_go rfl rfl (w_gd rfl rfl rfl (k5.2 _ rfl).2.1 (w_go rfl rfl (w_gd rfl rfl rfl ((k5.2 _ rfl).2.2 _ rfl).1 (w_ic rfl kc_1 (w_go rfl rfl (w_retG rfl rfl rfl (fun q => Bool.noConfusion q) ((k5.2 _ rfl).2.2 _ rfl).2)))))))))))))))))))) (fun c3 => w_retG rfl rfl rfl (Nat.le_of_ble_eq_true rfl) (((h.2 c1).1 c2).2.2 c3)))))) (fun c2 => ((h.2 c1).2 c2))))))

theorem b_X_text_10 {a0 : Nat} {x1 : Int32} {σ : iS} {Q : iO → iS → Prop} (h : Q (.inr (1, sX σ)) (nO σ 201 6)) : wp J_X_text 10 [vr a0, vi x1] [] σ Q :=
  w_retG rfl rfl rfl (Nat.le_of_ble_eq_true rfl) h

theorem b_X_set_0 {a0 : Nat} {x1 : Int32} {x2 : Int32} {x3 : Int32} {σ : iS} {Q : iO → iS → Prop} (h : sK σ a0 = 1 ∧ ca J_X_textWithPlace [vr a0, vi x1, vi x2] σ (cA (fun r1 σ1 => (x3 < 0 → wp J_X_set 19 [vr a0, vi x1, vi x2, vi x3, vr r1] [] σ1 Q) ∧ (¬ (x3 < 0) → (x3 ≤ (255 : Int32) → sK σ1 r1 = 2 ∧ ((sK σ1 (sR σ1 64 r1) = 101 ∧ iIn x2 (sN σ1 (sR σ1 64 r1))) ∧ (∀ σ4, σ4 = wA σ1 (sR σ1 64 r1) x2.toNatClampNeg x3 → Q (.inl none) σ4))) ∧ (¬ (x3 ≤ (255 : Int32)) → wp J_X_set 19 [vr a0, vi x1, vi x2, vi x3, vr r1] [] σ1 Q))) Q)) : ca J_X_set [vr a0, vi x1, vi x2, vi x3] σ Q :=
  w_go rfl rfl (w_go rfl rfl (w_go rfl rfl (w_cA rfl rfl rfl ⟨⟨Nat.le_of_ble_eq_true rfl, Nat.le_of_ble_eq_true rfl⟩, h.1⟩ rfl (fun _ => rfl) h.2 (fun r1 σ1 k1 => w_gd rfl rfl rfl (Nat.le_of_ble_eq_true rfl) (w_go rfl rfl (w_br rfl rfl rfl rfl (fun c2 => (k1.1 c2)) (fun c2 => w_go rfl rfl (w_sp rfl ks_255 (w_br rfl rfl rfl rfl (fun c3 => w_go rfl rfl (w_gd rfl rfl rfl ((k1.2 c2).1 c3).1 (w_go rfl rfl (w_go rfl rfl (w_gd rfl rfl rfl ((k1.2 c2).1 c3).2.1 (w_ret rfl rfl (((k1.2 c2).1 c3).2.2 _ rfl))))))) (fun c3 => ((k1.2 c2).2 c3)))))))))))

theorem b_X_set_19 {a0 : Nat} {x1 : Int32} {x2 : Int32} {x3 : Int32} {a4 : Nat} {σ : iS} {Q : iO → iS → Prop} (h : Q (.inr (1, sX σ)) (nO σ 201 6)) : wp J_X_set 19 [vr a0, vi x1, vi x2, vi x3, vr a4] [] σ Q :=
  w_retG rfl rfl rfl (Nat.le_of_ble_eq_true rfl) h

theorem b_X_at_0 {a0 : Nat} {x1 : Int32} {x2 : Int32} {σ : iS} {Q : iO → iS → Prop} (h : sK σ a0 = 1 ∧ ca J_X_textWithPlace [vr a0, vi x1, vi x2] σ (cA (fun r1 σ1 => sK σ1 r1 = 2 ∧ ((sK σ1 (sR σ1 64 r1) = 101 ∧ iIn x2 (sN σ1 (sR σ1 64 r1))) ∧ (Q (.inl (some (vi (sA σ1 (sR σ1 64 r1) x2.toNatClampNeg)))) σ1))) Q)) : ca J_X_at [vr a0, vi x1, vi x2] σ Q :=
  w_go rfl rfl (w_go rfl rfl (w_go rfl rfl (w_cA rfl rfl rfl ⟨⟨Nat.le_of_ble_eq_true rfl, Nat.le_of_ble_eq_true rfl⟩, h.1⟩ rfl (fun _ => rfl) h.2 (fun r1 σ1 k1 => w_gd rfl rfl rfl k1.1 (w_go rfl rfl (w_gd rfl rfl rfl ⟨Or.inr k1.2.1.1, k1.2.1.2⟩ (w_retG rfl rfl rfl (fun q => Bool.noConfusion q) k1.2.2)))))))

theorem b_X_span_0 {a0 : Nat} {x1 : Int32} {x2 : Int32} {σ : iS} {Q : iO → iS → Prop} (h : sK σ a0 = 1 ∧ ca J_X_filledText [vr a0, vi x2] σ (cA (fun r1 σ1 => (x1 = 0 → sK σ1 a0 = 1 ∧ (∀ σ3, σ3 = wR σ1 35 a0 r1 → wp J_X_span 23 [vr a0, vi x1, vi x2, vr r1] [] σ3 Q)) ∧ (¬ (x1 = 0) → sK σ1 a0 = 1 ∧ (∀ σ4, σ4 = wR σ1 34 a0 r1 → wp J_X_span 23 [vr a0, vi x1, vi x2, vr r1] [] σ4 Q))) Q)) : ca J_X_span [vr a0, vi x1, vi x2] σ Q :=
  w_go rfl rfl (w_go rfl rfl (w_cA rfl rfl rfl ⟨⟨Nat.le_of_ble_eq_true rfl, Nat.le_of_ble_eq_true rfl⟩, h.1⟩ rfl (fun _ => rfl) h.2 (fun r1 σ1 k1 => w_gd rfl rfl rfl (Nat.le_of_ble_eq_true rfl) (w_go rfl rfl (w_br rfl rfl rfl rfl (fun c2 => w_go rfl rfl (w_go rfl rfl (w_gd rfl rfl rfl (k1.1 c2).1 (((k1.1 c2).2 _ rfl))))) (fun c2 => w_go rfl rfl (w_go rfl rfl (w_gd rfl rfl rfl (k1.2 c2).1 (w_go rfl rfl (((k1.2 c2).2 _ rfl)))))))))))

theorem b_X_span_23 {a0 : Nat} {x1 : Int32} {x2 : Int32} {a3 : Nat} {σ : iS} {Q : iO → iS → Prop} (h : Q (.inl none) σ) : wp J_X_span 23 [vr a0, vi x1, vi x2, vr a3] [] σ Q :=
  w_ret rfl rfl h

theorem b_X_tally_0 {a0 : Nat} {x1 : Int32} {x2 : Int32} {x3 : Int32} {σ : iS} {Q : iO → iS → Prop} (h : ca J_X_checkKind [vi x1, vi (2 : Int32)] σ (cV (fun σ1 => sK σ1 a0 = 1 ∧ ca J_X_soughtText [vr a0, vi x1, vi x2] σ1 (cA (fun r2 σ2 => ca J_X_checkCounter [vi x3] σ2 (cV (fun σ3 => sK σ3 a0 = 1 ∧ ca J_X_checkRoomForPhrase [vr a0] σ3 (cV (fun σ4 => sK σ4 a0 = 1 ∧ ((∀ σ5, σ5 = nO σ4 4 10 → sK σ5 a0 = 1 ∧ ca J_X_takeRegion [vr a0] σ5 (cA (fun r6 σ6 => sK σ6 (sX σ4) = 4 ∧ ca J_Phrase_init [vr (sX σ4), vi x1, vr r2, vi x3, vr 0, vr r6] σ6 (cV (fun σ7 => sK σ7 (sR σ4 36 a0) = 5 ∧ ca J_Inspection_collect [vr (sR σ4 36 a0), vr (sX σ4)] σ7 (cI (fun r8 σ8 => Q (.inl (some (vi r8))) σ8) Q)) Q)) Q)))) Q)) Q)) Q)) Q)) : ca J_X_tally [vr a0, vi x1, vi x2, vi x3] σ Q :=
  w_go rfl rfl (w_ic rfl kc_2 (w_cV rfl rfl rfl ⟨Nat.le_of_ble_eq_true rfl, Nat.le_of_ble_eq_true rfl⟩ rfl (fun _ => rfl) h (fun σ1 k1 => w_go rfl rfl (w_go rfl rfl (w_go rfl rfl (w_cA rfl rfl rfl ⟨⟨Nat.le_of_ble_eq_true rfl, Nat.le_of_ble_eq_true rfl⟩, k1.1⟩ rfl (fun _ => rfl) k1.2 (fun r2 σ2 k2 => w_gd rfl rfl rfl (Nat.le_of_ble_eq_true rfl) (w_go rfl rfl (w_cV rfl rfl rfl ⟨Nat.le_of_ble_eq_true rfl, Nat.le_of_ble_eq_true rfl⟩ rfl (fun _ => rfl) k2 (fun σ3 k3 => w_go rfl rfl (w_cV rfl rfl rfl ⟨⟨Nat.le_of_ble_eq_true rfl, Nat.le_of_ble_eq_true rfl⟩, k3.1⟩ rfl (fun _ => rfl) k3.2 (fun σ4 k4 => w_go rfl rfl (w_gd rfl rfl rfl k4.1 (w_go rfl rfl (w_go rfl rfl (w_go rfl rfl (w_go rfl rfl (w_go rfl rfl (w_go rfl rfl (w_go rfl rfl (w_cA rfl rfl rfl ⟨⟨Nat.le_of_ble_eq_true rfl, Nat.le_of_ble_eq_true rfl⟩, (k4.2 _ rfl).1⟩ rfl (fun _ => rfl) (k4.2 _ rfl).2 (fun r6 σ6 k6 => w_cV rfl rfl rfl ⟨⟨Nat.le_of_ble_eq_true rfl, Nat.le_of_ble_eq_true rfl⟩, k6.1⟩ rfl (fun _ => rfl) k6.2 (fun σ7 k7 => w_cI rfl rfl rfl ⟨⟨Nat.le_of_ble_eq_true rfl, Nat.le_of_ble_eq_true rfl⟩, k7.1⟩ rfl (fun _ => rfl) k7.2 (fun r8 σ8 k8 => w_retG rfl rfl rfl (fun q => Bool.noConfusion q) k8))))))))))))))))))))))))

theorem b_X_replace_0 {a0 : Nat} {x1 : Int32} {x2 : Int32} {x3 : Int32} {σ : iS} {Q : iO → iS → Prop} (h : ca J_X_checkKind [vi x1, vi (3 : Int32)] σ (cV (fun σ1 => sK σ1 a0 = 1 ∧ ca J_X_soughtText [vr a0, vi x1, vi x2] σ1 (cA (fun r2 σ2 => sK σ2 a0 = 1 ∧ ca J_X_knownText [vr a0, vi x3] σ2 (cA (fun r3 σ3 => sK σ3 r3 = 2 ∧ ca J_Text_size [vr r3] σ3 (cI (fun r4 σ4 => ca J_X_widthOf [vr r2] σ4 (cI (fun r5 σ5 => (r4 = r5 → sK σ5 a0 = 1 ∧ ca J_X_checkRoomForPhrase [vr a0] σ5 (cV (fun σ7 => sK σ7 a0 = 1 ∧ ((∀ σ8, σ8 = nO σ7 4 10 → sK σ8 a0 = 1 ∧ ca J_X_takeRegion [vr a0] σ8 (cA (fun r9 σ9 => sK σ9 (sX σ7) = 4 ∧ ca J_Phrase_init [vr (sX σ7), vi x1, vr r2, vi (-1 : Int32), vr r3, vr r9] σ9 (cV (fun σ10 => sK σ10 (sR σ7 36 a0) = 5 ∧ ca J_Inspection_collect [vr (sR σ7 36 a0), vr (sX σ7)] σ10 (cI (fun r11 σ11 => Q (.inl (some (vi r11))) σ11) Q)) Q)) Q)))) Q)) ∧ (¬ (r4 = r5) → Q (.inr (1, sX σ5)) (nO σ5 201 6))) Q)) Q)) Q)) Q)) Q)) : ca J_X_replace [vr a0, vi x1, vi x2, vi x3] σ Q :=
  w_go rfl rfl (w_ic rfl kc_3 (w_cV rfl rfl rfl ⟨Nat.le_of_ble_eq_true rfl, Nat.le_of_ble_eq_true rfl⟩ rfl (fun _ => rfl) h (fun σ1 k1 => w_go rfl rfl (w_go rfl rfl (w_go rfl rfl (w_cA rfl rfl rfl ⟨⟨Nat.le_of_ble_eq_true rfl, Nat.le_of_ble_eq_true rfl⟩, k1.1⟩ rfl (fun _ => rfl) k1.2 (fun r2 σ2 k2 => w_gd rfl rfl rfl (Nat.le_of_ble_eq_true rfl) (w_go rfl rfl (w_go rfl rfl (w_cA rfl rfl rfl ⟨⟨Nat.le_of_ble_eq_true rfl, Nat.le_of_ble_eq_true rfl⟩, k2.1⟩ rfl (fun _ => rfl) k2.2 (fun r3 σ3 k3 => w_gd rfl rfl rfl (Nat.le_of_ble_eq_true rfl) (w_go rfl rfl (w_cI rfl rfl rfl ⟨⟨Nat.le_of_ble_eq_true rfl, Nat.le_of_ble_eq_true rfl⟩, k3.1⟩ rfl (fun _ => rfl) k3.2 (fun r4 σ4 k4 => w_go rfl rfl (w_cI rfl rfl rfl ⟨Nat.le_of_ble_eq_true rfl, Nat.le_of_ble_eq_true rfl⟩ rfl (fun _ => rfl) k4 (fun r5 σ5 k5 => w_br rfl rfl rfl rfl (fun c6 => w_go rfl rfl (w_cV rfl rfl rfl ⟨⟨Nat.le_of_ble_eq_true rfl, Nat.le_of_ble_eq_true rfl⟩, (k5.1 c6).1⟩ rfl (fun _ => rfl) (k5.1 c6).2 (fun σ7 k7 => w_go rfl rfl (w_gd rfl rfl rfl k7.1 (w_go rfl rfl (w_go rfl rfl (w_go rfl rfl (w_go rfl rfl (w_ic rfl kc_m1 (w_go rfl rfl (w_go rfl rfl (w_cA rfl rfl rfl ⟨⟨Nat.le_of_ble_eq_true rfl, Nat.le_of_ble_eq_true rfl⟩, (k7.2 _ rfl).1⟩ rfl (fun _ => rfl) (k7.2 _ rfl).2 (fun r9 σ9 k9 => w_cV rfl rfl rfl ⟨⟨Nat.le_of_ble_eq_true rfl, Nat.le_of_ble_eq_true rfl⟩, k9.1⟩ rfl (fun _ => rfl) k9.2 (fun σ10 k10 => w_cI rfl rfl rfl ⟨⟨Nat.le_of_ble_eq_true rfl, Nat.le_of_ble_eq_true rfl⟩, k10.1⟩ rfl (fun _ => rfl) k10.2 (fun r11 σ11 k11 => w_retG rfl rfl rfl (fun q => Bool.noConfusion q) k11))))))))))))))) (fun c6 => w_retG rfl rfl rfl (Nat.le_of_ble_eq_true rfl) (k5.2 c6))))))))))))))))))

theorem b_X_inspect_0 {a0 : Nat} {x1 : Int32} {σ : iS} {Q : iO → iS → Prop} (h : sK σ a0 = 1 ∧ (sK σ a0 = 1 ∧ ca J_X_knownText [vr a0, vi x1] σ (cA (fun r1 σ1 => sK σ1 (sR σ 36 a0) = 5 ∧ ca J_Inspection_goThrough [vr (sR σ 36 a0), vr r1] σ1 (cI (fun r2 σ2 => Q (.inl (some (vi r2))) σ2) Q)) Q))) : ca J_X_inspect [vr a0, vi x1] σ Q :=
  w_go rfl rfl (w_gd rfl rfl rfl h.1 (w_go rfl rfl (w_go rfl rfl (w_cA rfl rfl rfl ⟨⟨Nat.le_of_ble_eq_true rfl, Nat.le_of_ble_eq_true rfl⟩, h.2.1⟩ rfl (fun _ => rfl) h.2.2 (fun r1 σ1 k1 => w_cI rfl rfl rfl ⟨⟨Nat.le_of_ble_eq_true rfl, Nat.le_of_ble_eq_true rfl⟩, k1.1⟩ rfl (fun _ => rfl) k1.2 (fun r2 σ2 k2 => w_retG rfl rfl rfl (fun q => Bool.noConfusion q) k2))))))

theorem b_X_convert_0 {a0 : Nat} {x1 : Int32} {x2 : Int32} {x3 : Int32} {σ : iS} {Q : iO → iS → Prop} (h : sK σ a0 = 1 ∧ ca J_X_knownText [vr a0, vi x1] σ (cA (fun r1 σ1 => sK σ1 a0 = 1 ∧ ca J_X_knownText [vr a0, vi x2] σ1 (cA (fun r2 σ2 => sK σ2 a0 = 1 ∧ ca J_X_knownText [vr a0, vi x3] σ2 (cA (fun r3 σ3 => sK σ3 r2 = 2 ∧ ca J_Text_size [vr r2] σ3 (cI (fun r4 σ4 => sK σ4 r3 = 2 ∧ ca J_Text_size [vr r3] σ4 (cI (fun r5 σ5 => (r4 = r5 → sK σ5 a0 = 1 ∧ (sK σ5 a0 = 1 ∧ ca J_X_takeRegion [vr a0] σ5 (cA (fun r7 σ7 => sK σ7 (sR σ5 36 a0) = 5 ∧ ca J_Inspection_exchange [vr (sR σ5 36 a0), vr r1, vr r7, vr r2, vr r3] σ7 (cI (fun r8 σ8 => Q (.inl (some (vi r8))) σ8) Q)) Q))) ∧ (¬ (r4 = r5) → Q (.inr (1, sX σ5)) (nO σ5 201 6))) Q)) Q)) Q)) Q)) Q)) : ca J_X_convert [vr a0, vi x1, vi x2, vi x3] σ Q :=
  w_go rfl rfl (w_go rfl rfl (w_cA rfl rfl rfl ⟨⟨Nat.le_of_ble_eq_true rfl, Nat.le_of_ble_eq_true rfl⟩, h.1⟩ rfl (fun _ => rfl) h.2 (fun r1 σ1 k1 => w_gd rfl rfl rfl (Nat.le_of_ble_eq_true rfl) (w_go rfl rfl (w_go rfl rfl (w_cA rfl rfl rfl ⟨⟨Nat.le_of_ble_eq_true rfl, Nat.le_of_ble_eq_true rfl⟩, k1.1⟩ rfl (fun _ => rfl) k1.2 (fun r2 σ2 k2 => w_gd rfl rfl rfl (Nat.le_of_ble_eq_true rfl) (w_go rfl rfl (w_go rfl rfl (w_cA rfl rfl rfl ⟨⟨Nat.le_of_ble_eq_true rfl, Nat.le_of_ble_eq_true rfl⟩, k2.1⟩ rfl (fun _ => rfl) k2.2 (fun r3 σ3 k3 => w_gd rfl rfl rfl (Nat.le_of_ble_eq_true rfl) (w_go rfl rfl (w_cI rfl rfl rfl ⟨⟨Nat.le_of_ble_eq_true rfl, Nat.le_of_ble_eq_true rfl⟩, k3.1⟩ rfl (fun _ => rfl) k3.2 (fun r4 σ4 k4 => w_go rfl rfl (w_cI rfl rfl rfl ⟨⟨Nat.le_of_ble_eq_true rfl, Nat.le_of_ble_eq_true rfl⟩, k4.1⟩ rfl (fun _ => rfl) k4.2 (fun r5 σ5 k5 => w_br rfl rfl rfl rfl (fun c6 => w_go rfl rfl (w_gd rfl rfl rfl (k5.1 c6).1 (w_go rfl rfl (w_go rfl rfl (w_cA rfl rfl rfl ⟨⟨Nat.le_of_ble_eq_true rfl, Nat.le_of_ble_eq_true rfl⟩, (k5.1 c6).2.1⟩ rfl (fun _ => rfl) (k5.1 c6).2.2 (fun r7 σ7 k7 => w_go rfl rfl (w_go rfl rfl (w_cI rfl rfl rfl ⟨⟨Nat.le_of_ble_eq_true rfl, Nat.le_of_ble_eq_true rfl⟩, k7.1⟩ rfl (fun _ => rfl) k7.2 (fun r8 σ8 k8 => w_retG rfl rfl rfl (fun q => Bool.noConfusion q) k8))))))))) (fun c6 => w_retG rfl rfl rfl (Nat.le_of_ble_eq_true rfl) (k5.2 c6))))))))))))))))))

theorem b_X_counter_0 {a0 : Nat} {x1 : Int32} {σ : iS} {Q : iO → iS → Prop} (h : ca J_X_checkCounter [vi x1] σ (cV (fun σ1 => sK σ1 a0 = 1 ∧ (sK σ1 (sR σ1 36 a0) = 5 ∧ ca J_Inspection_takeCount [vr (sR σ1 36 a0), vi x1] σ1 (cI (fun r2 σ2 => Q (.inl (some (vi r2))) σ2) Q))) Q)) : ca J_X_counter [vr a0, vi x1] σ Q :=
  w_go rfl rfl (w_cV rfl rfl rfl ⟨Nat.le_of_ble_eq_true rfl, Nat.le_of_ble_eq_true rfl⟩ rfl (fun _ => rfl) h (fun σ1 k1 => w_go rfl rfl (w_gd rfl rfl rfl k1.1 (w_go rfl rfl (w_cI rfl rfl rfl ⟨⟨Nat.le_of_ble_eq_true rfl, Nat.le_of_ble_eq_true rfl⟩, k1.2.1⟩ rfl (fun _ => rfl) k1.2.2 (fun r2 σ2 k2 => w_retG rfl rfl rfl (fun q => Bool.noConfusion q) k2))))))

theorem b_X_part_0 {a0 : Nat} {x1 : Int32} {x2 : Int32} {σ : iS} {Q : iO → iS → Prop} (h : sK σ a0 = 1 ∧ ca J_X_knownText [vr a0, vi x1] σ (cA (fun r1 σ1 => (x2 ≠ (-1 : Int32) → sK σ1 a0 = 1 ∧ ca J_X_filledText [vr a0, vi x2] σ1 (cA (fun r3 σ3 => wp J_X_part 20 [vr a0, vi x1, vi x2, vr r1, vl 0] [vr r3] σ3 Q) Q)) ∧ (¬ (x2 ≠ (-1 : Int32)) → wp J_X_part 20 [vr a0, vi x1, vi x2, vr r1, vl 0] [vr 0] σ1 Q)) Q)) : ca J_X_part [vr a0, vi x1, vi x2] σ Q :=
  w_go rfl rfl (w_go rfl rfl (w_cA rfl rfl rfl ⟨⟨Nat.le_of_ble_eq_true rfl, Nat.le_of_ble_eq_true rfl⟩, h.1⟩ rfl (fun _ => rfl) h.2 (fun r1 σ1 k1 => w_gd rfl rfl rfl (Nat.le_of_ble_eq_true rfl) (w_go rfl rfl (w_ic rfl kc_m1 (w_br rfl rfl rfl rfl (fun c2 => w_go rfl rfl (w_go rfl rfl (w_cA rfl rfl rfl ⟨⟨Nat.le_of_ble_eq_true rfl, Nat.le_of_ble_eq_true rfl⟩, (k1.1 c2).1⟩ rfl (fun _ => rfl) (k1.1 c2).2 (fun r3 σ3 k3 => k3)))) (fun c2 => w_go rfl rfl (w_go rfl rfl ((k1.2 c2))))))))))

theorem b_X_part_20 {a0 : Nat} {x1 : Int32} {x2 : Int32} {a3 : Nat} {l4 : iV} {ta0 : Nat} {σ : iS} {Q : iO → iS → Prop} (h : sK σ a0 = 1 ∧ (sK σ (sR σ 37 a0) = 7 ∧ (((sI σ 225 (sR σ 37 a0)) < (20 : Int32) → sK σ a0 = 1 ∧ ((∀ σ2, σ2 = nO σ 6 2 → sK σ2 (sX σ) = 6 ∧ ca J_Part_init [vr (sX σ), vr a3, vr ta0] σ2 (cV (fun σ3 => sK σ3 (sR σ 37 a0) = 7 ∧ ca J_Joining_collect [vr (sR σ 37 a0), vr (sX σ)] σ3 (cI (fun r4 σ4 => Q (.inl (some (vi r4))) σ4) Q)) Q)))) ∧ (¬ ((sI σ 225 (sR σ 37 a0)) < (20 : Int32)) → Q (.inr (2, sX σ)) (nO σ 202 6))))) : wp J_X_part 20 [vr a0, vi x1, vi x2, vr a3, l4] [vr ta0] σ Q :=
  w_gd rfl rfl rfl (Nat.le_of_ble_eq_true rfl) (w_go rfl rfl (w_gd rfl rfl rfl h.1 (w_gd rfl rfl rfl h.2.1 (w_bp rfl kb_20 (w_br rfl rfl rfl rfl (fun c1 => w_go rfl rfl (w_gd rfl rfl rfl (h.2.2.1 c1).1 (w_go rfl rfl (w_go rfl rfl (w_go rfl rfl (w_go rfl rfl (w_cV rfl rfl rfl ⟨⟨Nat.le_of_ble_eq_true rfl, Nat.le_of_ble_eq_true rfl⟩, ((h.2.2.1 c1).2 _ rfl).1⟩ rfl (fun _ => rfl) ((h.2.2.1 c1).2 _ rfl).2 (fun σ3 k3 => w_cI rfl rfl rfl ⟨⟨Nat.le_of_ble_eq_true rfl, Nat.le_of_ble_eq_true rfl⟩, k3.1⟩ rfl (fun _ => rfl) k3.2 (fun r4 σ4 k4 => w_retG rfl rfl rfl (fun q => Bool.noConfusion q) k4))))))))) (fun c1 => w_retG rfl rfl rfl (Nat.le_of_ble_eq_true rfl) (h.2.2.2 c1)))))))

theorem b_X_join_0 {a0 : Nat} {x1 : Int32} {x2 : Int32} {σ : iS} {Q : iO → iS → Prop} (h : sK σ a0 = 1 ∧ (sK σ a0 = 1 ∧ ca J_X_knownText [vr a0, vi x1] σ (cA (fun r1 σ1 => sK σ1 (sR σ 37 a0) = 7 ∧ ca J_Joining_putInto [vr (sR σ 37 a0), vr r1, vi x2] σ1 (cI (fun r2 σ2 => sK σ2 a0 = 1 ∧ (sK σ2 (sR σ2 37 a0) = 7 ∧ (sK σ2 a0 = 1 ∧ (∀ σ3, σ3 = wI σ2 39 a0 (sI σ2 226 (sR σ2 37 a0)) → (r2 = 0 → wp J_X_join 37 [vr a0, vi x1, vi x2, vi r2] [vi (-1 : Int32)] σ3 Q) ∧ (¬ (r2 = 0) → sK σ3 a0 = 1 ∧ (wp J_X_join 37 [vr a0, vi x1, vi x2, vi r2] [vi (sI σ3 39 a0)] σ3 Q)))))) Q)) Q))) : ca J_X_join [vr a0, vi x1, vi x2] σ Q :=
  w_go rfl rfl (w_gd rfl rfl rfl h.1 (w_go rfl rfl (w_go rfl rfl (w_cA rfl rfl rfl ⟨⟨Nat.le_of_ble_eq_true rfl, Nat.le_of_ble_eq_true rfl⟩, h.2.1⟩ rfl (fun _ => rfl) h.2.2 (fun r1 σ1 k1 => w_go rfl rfl (w_cI rfl rfl rfl ⟨⟨Nat.le_of_ble_eq_true rfl, Nat.le_of_ble_eq_true rfl⟩, k1.1⟩ rfl (fun _ => rfl) k1.2 (fun r2 σ2 k2 => w_gd rfl rfl rfl (Nat.le_of_ble_eq_true rfl) (w_go rfl rfl (w_go rfl rfl (w_gd rfl rfl rfl k2.1 (w_gd rfl rfl rfl k2.2.1 (w_gd rfl rfl rfl k2.2.2.1 (w_go rfl rfl (w_br rfl rfl rfl rfl (fun c4 => w_ic rfl kc_m1 (((k2.2.2.2 _ rfl).1 c4))) (fun c4 => w_go rfl rfl (w_gd rfl rfl rfl ((k2.2.2.2 _ rfl).2 c4).1 (w_go rfl rfl (((k2.2.2.2 _ rfl).2 c4).2))))))))))))))))))

theorem b_X_join_37 {a0 : Nat} {x1 : Int32} {x2 : Int32} {x3 : Int32} {tx0 : Int32} {σ : iS} {Q : iO → iS → Prop} (h : Q (.inl (some (vi tx0))) σ) : wp J_X_join 37 [vr a0, vi x1, vi x2, vi x3] [vi tx0] σ Q :=
  w_retG rfl rfl rfl (fun q => Bool.noConfusion q) h

theorem b_X_delimiter_0 {a0 : Nat} {x1 : Int32} {x2 : Int32} {σ : iS} {Q : iO → iS → Prop} (h : sK σ a0 = 1 ∧ ca J_X_filledText [vr a0, vi x1] σ (cA (fun r1 σ1 => sK σ1 a0 = 1 ∧ (sK σ1 (sR σ1 38 a0) = 8 ∧ (((sI σ1 258 (sR σ1 38 a0)) < (8 : Int32) → sK σ1 a0 = 1 ∧ (sK σ1 (sR σ1 38 a0) = 8 ∧ ca J_Splitting_collectDelimiter [vr (sR σ1 38 a0), vr r1, vi x2] σ1 (cI (fun r3 σ3 => Q (.inl (some (vi r3))) σ3) Q))) ∧ (¬ ((sI σ1 258 (sR σ1 38 a0)) < (8 : Int32)) → Q (.inr (2, sX σ1)) (nO σ1 202 6))))) Q)) : ca J_X_delimiter [vr a0, vi x1, vi x2] σ Q :=
  w_go rfl rfl (w_go rfl rfl (w_cA rfl rfl rfl ⟨⟨Nat.le_of_ble_eq_true rfl, Nat.le_of_ble_eq_true rfl⟩, h.1⟩ rfl (fun _ => rfl) h.2 (fun r1 σ1 k1 => w_gd rfl rfl rfl (Nat.le_of_ble_eq_true rfl) (w_go rfl rfl (w_gd rfl rfl rfl k1.1 (w_gd rfl rfl rfl k1.2.1 (w_bp rfl kb_8 (w_br rfl rfl rfl rfl (fun c2 => w_go rfl rfl (w_gd rfl rfl rfl (k1.2.2.1 c2).1 (w_go rfl rfl (w_go rfl rfl (w_cI rfl rfl rfl ⟨⟨Nat.le_of_ble_eq_true rfl, Nat.le_of_ble_eq_true rfl⟩, (k1.2.2.1 c2).2.1⟩ rfl (fun _ => rfl) (k1.2.2.1 c2).2.2 (fun r3 σ3 k3 => w_retG rfl rfl rfl (fun q => Bool.noConfusion q) k3)))))) (fun c2 => w_retG rfl rfl rfl (Nat.le_of_ble_eq_true rfl) (k1.2.2.2 c2))))))))))

theorem b_X_receiver_0 {a0 : Nat} {x1 : Int32} {σ : iS} {Q : iO → iS → Prop} (h : sK σ a0 = 1 ∧ ca J_X_knownText [vr a0, vi x1] σ (cA (fun r1 σ1 => sK σ1 a0 = 1 ∧ (sK σ1 (sR σ1 38 a0) = 8 ∧ (((sI σ1 260 (sR σ1 38 a0)) < (20 : Int32) → sK σ1 a0 = 1 ∧ (sK σ1 (sR σ1 38 a0) = 8 ∧ ca J_Splitting_collectReceiver [vr (sR σ1 38 a0), vr r1] σ1 (cI (fun r3 σ3 => Q (.inl (some (vi r3))) σ3) Q))) ∧ (¬ ((sI σ1 260 (sR σ1 38 a0)) < (20 : Int32)) → Q (.inr (2, sX σ1)) (nO σ1 202 6))))) Q)) : ca J_X_receiver [vr a0, vi x1] σ Q :=
  w_go rfl rfl (w_go rfl rfl (w_cA rfl rfl rfl ⟨⟨Nat.le_of_ble_eq_true rfl, Nat.le_of_ble_eq_true rfl⟩, h.1⟩ rfl (fun _ => rfl) h.2 (fun r1 σ1 k1 => w_gd rfl rfl rfl (Nat.le_of_ble_eq_true rfl) (w_go rfl rfl (w_gd rfl rfl rfl k1.1 (w_gd rfl rfl rfl k1.2.1 (w_bp rfl kb_20 (w_br rfl rfl rfl rfl (fun c2 => w_go rfl rfl (w_gd rfl rfl rfl (k1.2.2.1 c2).1 (w_go rfl rfl (w_cI rfl rfl rfl ⟨⟨Nat.le_of_ble_eq_true rfl, Nat.le_of_ble_eq_true rfl⟩, (k1.2.2.1 c2).2.1⟩ rfl (fun _ => rfl) (k1.2.2.1 c2).2.2 (fun r3 σ3 k3 => w_retG rfl rfl rfl (fun q => Bool.noConfusion q) k3))))) (fun c2 => w_retG rfl rfl rfl (Nat.le_of_ble_eq_true rfl) (k1.2.2.2 c2))))))))))

theorem b_X_split_0 {a0 : Nat} {x1 : Int32} {x2 : Int32} {σ : iS} {Q : iO → iS → Prop} (h : sK σ a0 = 1 ∧ (sK σ a0 = 1 ∧ ca J_X_knownText [vr a0, vi x1] σ (cA (fun r1 σ1 => sK σ1 (sR σ 38 a0) = 8 ∧ ca J_Splitting_takeApart [vr (sR σ 38 a0), vr r1, vi x2] σ1 (cI (fun r2 σ2 => sK σ2 a0 = 1 ∧ (sK σ2 (sR σ2 38 a0) = 8 ∧ (sK σ2 a0 = 1 ∧ (∀ σ3, σ3 = wI σ2 39 a0 (sI σ2 265 (sR σ2 38 a0)) → (r2 = 0 → wp J_X_split 37 [vr a0, vi x1, vi x2, vi r2] [vi (-1 : Int32)] σ3 Q) ∧ (¬ (r2 = 0) → sK σ3 a0 = 1 ∧ (wp J_X_split 37 [vr a0, vi x1, vi x2, vi r2] [vi (sI σ3 39 a0)] σ3 Q)))))) Q)) Q))) : ca J_X_split [vr a0, vi x1, vi x2] σ Q :=
  w_go rfl rfl (w_gd rfl rfl rfl h.1 (w_go rfl rfl (w_go rfl rfl (w_cA rfl rfl rfl ⟨⟨Nat.le_of_ble_eq_true rfl, Nat.le_of_ble_eq_true rfl⟩, h.2.1⟩ rfl (fun _ => rfl) h.2.2 (fun r1 σ1 k1 => w_go rfl rfl (w_cI rfl rfl rfl ⟨⟨Nat.le_of_ble_eq_true rfl, Nat.le_of_ble_eq_true rfl⟩, k1.1⟩ rfl (fun _ => rfl) k1.2 (fun r2 σ2 k2 => w_gd rfl rfl rfl (Nat.le_of_ble_eq_true rfl) (w_go rfl rfl (w_go rfl rfl (w_gd rfl rfl rfl k2.1 (w_gd rfl rfl rfl k2.2.1 (w_gd rfl rfl rfl k2.2.2.1 (w_go rfl rfl (w_br rfl rfl rfl rfl (fun c4 => w_ic rfl kc_m1 (((k2.2.2.2 _ rfl).1 c4))) (fun c4 => w_go rfl rfl (w_gd rfl rfl rfl ((k2.2.2.2 _ rfl).2 c4).1 (w_go rfl rfl (((k2.2.2.2 _ rfl).2 c4).2))))))))))))))))))

theorem b_X_split_37 {a0 : Nat} {x1 : Int32} {x2 : Int32} {x3 : Int32} {tx0 : Int32} {σ : iS} {Q : iO → iS → Prop} (h : Q (.inl (some (vi tx0))) σ) : wp J_X_split 37 [vr a0, vi x1, vi x2, vi x3] [vi tx0] σ Q :=
  w_retG rfl rfl rfl (fun q => Bool.noConfusion q) h

theorem b_X_result_switch {a0 : Nat} {x1 : Int32} {x2 : Int32} {y : Int32} {σ : iS} {Q : iO → iS → Prop} (h : (y = 0 → wp J_X_result 44 [vr a0, vi x1, vi x2] [] σ Q) ∧ (y = 1 → wp J_X_result 54 [vr a0, vi x1, vi x2] [] σ Q) ∧ ((y ≠ 0 ∧ y ≠ 1) → wp J_X_result 64 [vr a0, vi x1, vi x2] [] σ Q)) : wp J_X_result 18 [vr a0, vi x1, vi x2] [vi y] σ Q := by
  obtain ⟨h0, h1, hd⟩ := h
  by_cases e0 : y = 0
  · subst e0
    exact w_lk (tgt := 44) rfl (by decide +kernel) (by decide +kernel) (h0 rfl)
  by_cases e1 : y = 1
  · subst e1
    exact w_lk (tgt := 54) rfl (by decide +kernel) (by decide +kernel) (h1 rfl)
  refine w_lk (tgt := 64) rfl (by decide +kernel) ?_ (hd ⟨e0, e1⟩)
  show ((18 : Nat) : Int) + Op.lookupswitch.offset [(0, 26), (1, 36)] 46 y.toInt = _
  rw [lv_osw e0 (by decide), lv_osw e1 (by decide)]
  rfl

theorem b_X_result_0 {a0 : Nat} {x1 : Int32} {x2 : Int32} {σ : iS} {Q : iO → iS → Prop} (h : (x1 < 0 → wp J_X_result 15 [vr a0, vi x1, vi x2] [] σ Q) ∧ (¬ (x1 < 0) → sK σ a0 = 1 ∧ (sK σ (sR σ 38 a0) = 8 ∧ ((x1 < (sI σ 264 (sR σ 38 a0)) → (x2 = 0 → wp J_X_result 44 [vr a0, vi x1, vi x2] [] σ Q) ∧ (x2 = 1 → wp J_X_result 54 [vr a0, vi x1, vi x2] [] σ Q) ∧ ((x2 ≠ 0 ∧ x2 ≠ 1) → wp J_X_result 64 [vr a0, vi x1, vi x2] [] σ Q)) ∧ (¬ (x1 < (sI σ 264 (sR σ 38 a0))) → wp J_X_result 15 [vr a0, vi x1, vi x2] [] σ Q))))) : ca J_X_result [vr a0, vi x1, vi x2] σ Q :=
  w_go rfl rfl (w_br rfl rfl rfl rfl (fun c1 => (h.1 c1)) (fun c1 => w_go rfl rfl (w_go rfl rfl (w_gd rfl rfl rfl (h.2 c1).1 (w_gd rfl rfl rfl (h.2 c1).2.1 (w_br rfl rfl rfl rfl (fun c2 => w_go rfl rfl (b_X_result_switch ((h.2 c1).2.2.1 c2))) (fun c2 => ((h.2 c1).2.2.2 c2))))))))

theorem b_X_result_15 {a0 : Nat} {x1 : Int32} {x2 : Int32} {σ : iS} {Q : iO → iS → Prop} (h : Q (.inl (some (vi (-1 : Int32)))) σ) : wp J_X_result 15 [vr a0, vi x1, vi x2] [] σ Q :=
  w_ic rfl kc_m1 (w_retG rfl rfl rfl (fun q => Bool.noConfusion q) h)

theorem b_X_result_44 {a0 : Nat} {x1 : Int32} {x2 : Int32} {σ : iS} {Q : iO → iS → Prop} (h : sK σ a0 = 1 ∧ (sK σ (sR σ 38 a0) = 8 ∧ ((sK σ (sR σ 262 (sR σ 38 a0)) = 101 ∧ iIn x1 (sN σ (sR σ 262 (sR σ 38 a0)))) ∧ (Q (.inl (some (vi (sA σ (sR σ 262 (sR σ 38 a0)) x1.toNatClampNeg)))) σ)))) : wp J_X_result 44 [vr a0, vi x1, vi x2] [] σ Q :=
  w_go rfl rfl (w_gd rfl rfl rfl h.1 (w_gd rfl rfl rfl h.2.1 (w_go rfl rfl (w_gd rfl rfl rfl ⟨Or.inr h.2.2.1.1, h.2.2.1.2⟩ (w_retG rfl rfl rfl (fun q => Bool.noConfusion q) h.2.2.2)))))

theorem b_X_result_54 {a0 : Nat} {x1 : Int32} {x2 : Int32} {σ : iS} {Q : iO → iS → Prop} (h : sK σ a0 = 1 ∧ (sK σ (sR σ 38 a0) = 8 ∧ ((sK σ (sR σ 263 (sR σ 38 a0)) = 101 ∧ iIn x1 (sN σ (sR σ 263 (sR σ 38 a0)))) ∧ (Q (.inl (some (vi (sA σ (sR σ 263 (sR σ 38 a0)) x1.toNatClampNeg)))) σ)))) : wp J_X_result 54 [vr a0, vi x1, vi x2] [] σ Q :=
  w_go rfl rfl (w_gd rfl rfl rfl h.1 (w_gd rfl rfl rfl h.2.1 (w_go rfl rfl (w_gd rfl rfl rfl ⟨Or.inr h.2.2.1.1, h.2.2.1.2⟩ (w_retG rfl rfl rfl (fun q => Bool.noConfusion q) h.2.2.2)))))

theorem b_X_result_64 {a0 : Nat} {x1 : Int32} {x2 : Int32} {σ : iS} {Q : iO → iS → Prop} (h : Q (.inl (some (vi (-1 : Int32)))) σ) : wp J_X_result 64 [vr a0, vi x1, vi x2] [] σ Q :=
  w_ic rfl kc_m1 (w_retG rfl rfl rfl (fun q => Bool.noConfusion q) h)

theorem b_X_pointer_0 {a0 : Nat} {σ : iS} {Q : iO → iS → Prop} (h : sK σ a0 = 1 ∧ (Q (.inl (some (vi (sI σ 39 a0)))) σ)) : ca J_X_pointer [vr a0] σ Q :=
  w_go rfl rfl (w_gd rfl rfl rfl h.1 (w_retG rfl rfl rfl (fun q => Bool.noConfusion q) h.2))

theorem b_X_table_0 {a0 : Nat} {x1 : Int32} {σ : iS} {Q : iO → iS → Prop} (h : (x1 < (1 : Int32) → wp J_X_table 11 [vr a0, vi x1] [] σ Q) ∧ (¬ (x1 < (1 : Int32)) → (x1 ≤ (60 : Int32) → sK σ a0 = 1 ∧ (((sI σ 41 a0) < (10 : Int32) → sK σ a0 = 1 ∧ (sK σ a0 = 1 ∧ ((∀ σ4, σ4 = nO σ 9 2 → sK σ4 (sX σ) = 9 ∧ ca J_Table_init [vr (sX σ), vi x1] σ4 (cV (fun σ5 => ((110 ≤ sK σ5 (sR σ 40 a0) ∧ sK σ5 (sR σ 40 a0) < 200) ∧ ((sX σ) = 0 ∨ sK σ5 (sX σ) + 110 = sK σ5 (sR σ 40 a0)) ∧ iIn (sI σ 41 a0) (sN σ5 (sR σ 40 a0))) ∧ (∀ σ6, σ6 = wB σ5 (sR σ 40 a0) (sI σ 41 a0).toNatClampNeg (sX σ) → sK σ6 a0 = 1 ∧ (sK σ6 a0 = 1 ∧ (∀ σ7, σ7 = wI σ6 41 a0 ((sI σ6 41 a0) + (1 : Int32)) → sK σ7 a0 = 1 ∧ (Q (.inl (some (vi ((sI σ7 41 a0) - (1 : Int32))))) σ7))))) Q))))) ∧ (¬ ((sI σ 41 a0) < (10 : Int32)) → Q (.inr (2, sX σ)) (nO σ 202 6)))) ∧ (¬ (x1 ≤ (60 : Int32)) → wp J_X_table 11 [vr a0, vi x1] [] σ Q))) : ca J_X_table [vr a0, vi x1] σ Q :=
  w_go rfl rfl (w_ic rfl kc_1 (w_br rfl rfl rfl rfl (fun c1 => (h.1 c1)) (fun c1 => w_go rfl rfl (w_bp rfl kb_60 (w_br rfl rfl rfl rfl (fun c2 => w_go rfl rfl (w_gd rfl rfl rfl ((h.2 c1).1 c2).1 (w_bp rfl kb_10 (w_br rfl rfl rfl rfl (fun c3 => w_go rfl rfl (w_gd rfl rfl rfl (((h.2 c1).1 c2).2.1 c3).1 (w_go rfl rfl (w_gd rfl rfl rfl (((h.2 c1).1 c2).2.1 c3).2.1 (w_go rfl rfl (w_go rfl rfl (w_go rfl rfl (w_cV rfl rfl rfl ⟨⟨Nat.le_of_ble_eq_true rfl, Nat.le_of_ble_eq_true rfl⟩, ((((h.2 c1).1 c2).2.1 c3).2.2 _ rfl).1⟩ rfl (fun _ => rfl) ((((h.2 c1).1 c2).2.1 c3).2.2 _ rfl).2 (fun σ5 k5 => w_gd rfl rfl rfl k5.1 (w_go rfl rfl (w_go rfl rfl (w_gd rfl rfl rfl (k5.2 _ rfl).1 (w_ic rfl kc_1 (w_go rfl rfl (w_gd rfl rfl rfl (k5.2 _ rfl).2.1 (w_go rfl rfl (w_gd rfl rfl rfl ((k5.2 _ rfl).2.2 _ rfl).1 (w_ic rfl kc_1 (w_go rfl rfl (w_retG rfl rfl rfl (fun q => Bool.noConfusion q) ((k5.2 _ rfl).2.2 _ rfl).2)))))))))))))))))))) (fun c3 => w_retG rfl rfl rfl (Nat.le_of_ble_eq_true rfl) (((h.2 c1).1 c2).2.2 c3)))))) (fun c2 => ((h.2 c1).2 c2)))))))

theorem b_X_table_11 {a0 : Nat} {x1 : Int32} {σ : iS} {Q : iO → iS → Prop} (h : Q (.inr (1, sX σ)) (nO σ 201 6)) : wp J_X_table 11 [vr a0, vi x1] [] σ Q :=
  w_retG rfl rfl rfl (Nat.le_of_ble_eq_true rfl) h

theorem b_X_row_0 {a0 : Nat} {x1 : Int32} {x2 : Int32} {x3 : Int32} {σ : iS} {Q : iO → iS → Prop} (h : sK σ a0 = 1 ∧ ca J_X_tableWithRow [vr a0, vi x1, vi x2] σ (cA (fun r1 σ1 => sK σ1 r1 = 9 ∧ ((sK σ1 (sR σ1 288 r1) = 101 ∧ iIn (x2 - (1 : Int32)) (sN σ1 (sR σ1 288 r1))) ∧ (sK σ1 r1 = 9 ∧ ((sK σ1 (sR σ1 288 r1) = 101 ∧ iIn (x2 - (1 : Int32)) (sN σ1 (sR σ1 288 r1))) ∧ (∀ σ2, σ2 = wA σ1 (sR σ1 288 r1) (x2 - (1 : Int32)).toNatClampNeg x3 → Q (.inl (some (vi (sA σ1 (sR σ1 288 r1) (x2 - (1 : Int32)).toNatClampNeg)))) σ2))))) Q)) : ca J_X_row [vr a0, vi x1, vi x2, vi x3] σ Q :=
  w_go rfl rfl (w_go rfl rfl (w_go rfl rfl (w_cA rfl rfl rfl ⟨⟨Nat.le_of_ble_eq_true rfl, Nat.le_of_ble_eq_true rfl⟩, h.1⟩ rfl (fun _ => rfl) h.2 (fun r1 σ1 k1 => w_gd rfl rfl rfl (Nat.le_of_ble_eq_true rfl) (w_go rfl rfl (w_gd rfl rfl rfl k1.1 (w_go rfl rfl (w_ic rfl kc_1 (w_go rfl rfl (w_gd rfl rfl rfl ⟨Or.inr k1.2.1.1, k1.2.1.2⟩ (w_gd rfl rfl rfl (Nat.le_of_ble_eq_true rfl) (w_go rfl rfl (w_gd rfl rfl rfl k1.2.2.1 (w_go rfl rfl (w_ic rfl kc_1 (w_go rfl rfl (w_go rfl rfl (w_gd rfl rfl rfl k1.2.2.2.1 (w_go rfl rfl (w_retG rfl rfl rfl (fun q => Bool.noConfusion q) (k1.2.2.2.2 _ rfl)))))))))))))))))))))

theorem b_X_index_0 {a0 : Nat} {x1 : Int32} {x2 : Int32} {σ : iS} {Q : iO → iS → Prop} (h : sK σ a0 = 1 ∧ ca J_X_tableWithRow [vr a0, vi x1, vi x2] σ (cA (fun r1 σ1 => sK σ1 r1 = 9 ∧ (sK σ1 r1 = 9 ∧ (∀ σ2, σ2 = wI σ1 289 r1 x2 → Q (.inl (some (vi (sI σ1 289 r1)))) σ2))) Q)) : ca J_X_index [vr a0, vi x1, vi x2] σ Q :=
  w_go rfl rfl (w_go rfl rfl (w_go rfl rfl (w_cA rfl rfl rfl ⟨⟨Nat.le_of_ble_eq_true rfl, Nat.le_of_ble_eq_true rfl⟩, h.1⟩ rfl (fun _ => rfl) h.2 (fun r1 σ1 k1 => w_gd rfl rfl rfl (Nat.le_of_ble_eq_true rfl) (w_go rfl rfl (w_gd rfl rfl rfl k1.1 (w_gd rfl rfl rfl (Nat.le_of_ble_eq_true rfl) (w_go rfl rfl (w_go rfl rfl (w_gd rfl rfl rfl k1.2.1 (w_go rfl rfl (w_retG rfl rfl rfl (fun q => Bool.noConfusion q) (k1.2.2 _ rfl)))))))))))))

theorem b_X_search_0 {a0 : Nat} {x1 : Int32} {x2 : Int32} {x3 : Int32} {σ : iS} {Q : iO → iS → Prop} (h : sK σ a0 = 1 ∧ ca J_X_knownTable [vr a0, vi x1] σ (cA (fun r1 σ1 => (x2 = 0 → sK σ1 r1 = 9 ∧ ca J_Table_findInOrder [vr r1, vi x3] σ1 (cI (fun r3 σ3 => wp J_X_search 26 [vr a0, vi x1, vi x2, vi x3, vr r1, vl 0] [vi r3] σ3 Q) Q)) ∧ (¬ (x2 = 0) → sK σ1 r1 = 9 ∧ ca J_Table_findByHalves [vr r1, vi x3] σ1 (cI (fun r4 σ4 => wp J_X_search 26 [vr a0, vi x1, vi x2, vi x3, vr r1, vl 0] [vi r4] σ4 Q) Q))) Q)) : ca J_X_search [vr a0, vi x1, vi x2, vi x3] σ Q :=
  w_go rfl rfl (w_go rfl rfl (w_cA rfl rfl rfl ⟨⟨Nat.le_of_ble_eq_true rfl, Nat.le_of_ble_eq_true rfl⟩, h.1⟩ rfl (fun _ => rfl) h.2 (fun r1 σ1 k1 => w_gd rfl rfl rfl (Nat.le_of_ble_eq_true rfl) (w_go rfl rfl (w_br rfl rfl rfl rfl (fun c2 => w_go rfl rfl (w_go rfl rfl (w_cI rfl rfl rfl ⟨⟨Nat.le_of_ble_eq_true rfl, Nat.le_of_ble_eq_true rfl⟩, (k1.1 c2).1⟩ rfl (fun _ => rfl) (k1.1 c2).2 (fun r3 σ3 k3 => k3)))) (fun c2 => w_go rfl rfl (w_go rfl rfl (w_cI rfl rfl rfl ⟨⟨Nat.le_of_ble_eq_true rfl, Nat.le_of_ble_eq_true rfl⟩, (k1.2 c2).1⟩ rfl (fun _ => rfl) (k1.2 c2).2 (fun r4 σ4 k4 => w_go rfl rfl (k4))))))))))

theorem b_X_search_26 {a0 : Nat} {x1 : Int32} {x2 : Int32} {x3 : Int32} {a4 : Nat} {l5 : iV} {tx0 : Int32} {σ : iS} {Q : iO → iS → Prop} (h : (tx0 = 0 → wp J_X_search 40 [vr a0, vi x1, vi x2, vi x3, vr a4, vi tx0] [] σ Q) ∧ (¬ (tx0 = 0) → sK σ a4 = 9 ∧ (∀ σ2, σ2 = wI σ 289 a4 tx0 → wp J_X_search 40 [vr a0, vi x1, vi x2, vi x3, vr a4, vi tx0] [] σ2 Q))) : wp J_X_search 26 [vr a0, vi x1, vi x2, vi x3, vr a4, l5] [vi tx0] σ Q :=
  w_gd rfl rfl rfl (Nat.le_of_ble_eq_true rfl) (w_go rfl rfl (w_br rfl rfl rfl rfl (fun c1 => (h.1 c1)) (fun c1 => w_go rfl rfl (w_go rfl rfl (w_gd rfl rfl rfl (h.2 c1).1 (((h.2 c1).2 _ rfl)))))))

theorem b_X_search_40 {a0 : Nat} {x1 : Int32} {x2 : Int32} {x3 : Int32} {a4 : Nat} {x5 : Int32} {σ : iS} {Q : iO → iS → Prop} (h : Q (.inl (some (vi x5))) σ) : wp J_X_search 40 [vr a0, vi x1, vi x2, vi x3, vr a4, vi x5] [] σ Q :=
  w_go rfl rfl (w_retG rfl rfl rfl (fun q => Bool.noConfusion q) h)

theorem b_X_sort_0 {a0 : Nat} {x1 : Int32} {x2 : Int32} {σ : iS} {Q : iO → iS → Prop} (h : sK σ a0 = 1 ∧ ca J_X_knownTable [vr a0, vi x1] σ (cA (fun r1 σ1 => sK σ1 r1 = 9 ∧ ca J_Table_putInOrder [vr r1, vi x2] σ1 (cV (fun σ2 => Q (.inl none) σ2) Q)) Q)) : ca J_X_sort [vr a0, vi x1, vi x2] σ Q :=
  w_go rfl rfl (w_go rfl rfl (w_cA rfl rfl rfl ⟨⟨Nat.le_of_ble_eq_true rfl, Nat.le_of_ble_eq_true rfl⟩, h.1⟩ rfl (fun _ => rfl) h.2 (fun r1 σ1 k1 => w_go rfl rfl (w_cV rfl rfl rfl ⟨⟨Nat.le_of_ble_eq_true rfl, Nat.le_of_ble_eq_true rfl⟩, k1.1⟩ rfl (fun _ => rfl) k1.2 (fun σ2 k2 => w_ret rfl rfl k2)))))

theorem b_X_knownText_0 {a0 : Nat} {x1 : Int32} {σ : iS} {Q : iO → iS → Prop} (h : (x1 < 0 → wp J_X_knownText 12 [vr a0, vi x1] [] σ Q) ∧ (¬ (x1 < 0) → sK σ a0 = 1 ∧ ((x1 < (sI σ 33 a0) → sK σ a0 = 1 ∧ (((110 ≤ sK σ (sR σ 32 a0) ∧ sK σ (sR σ 32 a0) < 200) ∧ iIn x1 (sN σ (sR σ 32 a0))) ∧ (Q (.inl (some (vr (sB σ (sR σ 32 a0) x1.toNatClampNeg)))) σ))) ∧ (¬ (x1 < (sI σ 33 a0)) → wp J_X_knownText 12 [vr a0, vi x1] [] σ Q)))) : ca J_X_knownText [vr a0, vi x1] σ Q :=
  w_go rfl rfl (w_br rfl rfl rfl rfl (fun c1 => (h.1 c1)) (fun c1 => w_go rfl rfl (w_go rfl rfl (w_gd rfl rfl rfl (h.2 c1).1 (w_br rfl rfl rfl rfl (fun c2 => w_go rfl rfl (w_gd rfl rfl rfl ((h.2 c1).2.1 c2).1 (w_go rfl rfl (w_gd rfl rfl rfl ((h.2 c1).2.1 c2).2.1 (w_ret rfl rfl ((h.2 c1).2.1 c2).2.2))))) (fun c2 => ((h.2 c1).2.2 c2)))))))

theorem b_X_knownText_12 {a0 : Nat} {x1 : Int32} {σ : iS} {Q : iO → iS → Prop} (h : Q (.inr (1, sX σ)) (nO σ 201 6)) : wp J_X_knownText 12 [vr a0, vi x1] [] σ Q :=
  w_retG rfl rfl rfl (Nat.le_of_ble_eq_true rfl) h

theorem b_X_filledText_0 {a0 : Nat} {x1 : Int32} {σ : iS} {Q : iO → iS → Prop} (h : sK σ a0 = 1 ∧ ca J_X_knownText [vr a0, vi x1] σ (cA (fun r1 σ1 => sK σ1 r1 = 2 ∧ ca J_Text_size [vr r1] σ1 (cI (fun r2 σ2 => (r2 ≠ 0 → Q (.inl (some (vr r1))) σ2) ∧ (¬ (r2 ≠ 0) → Q (.inr (1, sX σ2)) (nO σ2 201 6))) Q)) Q)) : ca J_X_filledText [vr a0, vi x1] σ Q :=
  w_go rfl rfl (w_go rfl rfl (w_cA rfl rfl rfl ⟨⟨Nat.le_of_ble_eq_true rfl, Nat.le_of_ble_eq_true rfl⟩, h.1⟩ rfl (fun _ => rfl) h.2 (fun r1 σ1 k1 => w_gd rfl rfl rfl (Nat.le_of_ble_eq_true rfl) (w_go rfl rfl (w_cI rfl rfl rfl ⟨⟨Nat.le_of_ble_eq_true rfl, Nat.le_of_ble_eq_true rfl⟩, k1.1⟩ rfl (fun _ => rfl) k1.2 (fun r2 σ2 k2 => w_br rfl rfl rfl rfl (fun c3 => w_go rfl rfl (w_ret rfl rfl (k2.1 c3))) (fun c3 => w_retG rfl rfl rfl (Nat.le_of_ble_eq_true rfl) (k2.2 c3))))))))

theorem b_X_textWithPlace_0 {a0 : Nat} {x1 : Int32} {x2 : Int32} {σ : iS} {Q : iO → iS → Prop} (h : sK σ a0 = 1 ∧ ca J_X_knownText [vr a0, vi x1] σ (cA (fun r1 σ1 => (x2 < 0 → wp J_X_textWithPlace 18 [vr a0, vi x1, vi x2, vr r1] [] σ1 Q) ∧ (¬ (x2 < 0) → sK σ1 r1 = 2 ∧ ca J_Text_size [vr r1] σ1 (cI (fun r3 σ3 => (x2 < r3 → Q (.inl (some (vr r1))) σ3) ∧ (¬ (x2 < r3) → wp J_X_textWithPlace 18 [vr a0, vi x1, vi x2, vr r1] [] σ3 Q)) Q))) Q)) : ca J_X_textWithPlace [vr a0, vi x1, vi x2] σ Q :=
  w_go rfl rfl (w_go rfl rfl (w_cA rfl rfl rfl ⟨⟨Nat.le_of_ble_eq_true rfl, Nat.le_of_ble_eq_true rfl⟩, h.1⟩ rfl (fun _ => rfl) h.2 (fun r1 σ1 k1 => w_gd rfl rfl rfl (Nat.le_of_ble_eq_true rfl) (w_go rfl rfl (w_br rfl rfl rfl rfl (fun c2 => (k1.1 c2)) (fun c2 => w_go rfl rfl (w_go rfl rfl (w_cI rfl rfl rfl ⟨⟨Nat.le_of_ble_eq_true rfl, Nat.le_of_ble_eq_true rfl⟩, (k1.2 c2).1⟩ rfl (fun _ => rfl) (k1.2 c2).2 (fun r3 σ3 k3 => w_br rfl rfl rfl rfl (fun c4 => w_go rfl rfl (w_ret rfl rfl (k3.1 c4))) (fun c4 => (k3.2 c4)))))))))))

theorem b_X_textWithPlace_18 {a0 : Nat} {x1 : Int32} {x2 : Int32} {a3 : Nat} {σ : iS} {Q : iO → iS → Prop} (h : Q (.inr (1, sX σ)) (nO σ 201 6)) : wp J_X_textWithPlace 18 [vr a0, vi x1, vi x2, vr a3] [] σ Q :=
  w_retG rfl rfl rfl (Nat.le_of_ble_eq_true rfl) h

theorem b_X_soughtText_0 {a0 : Nat} {x1 : Int32} {x2 : Int32} {σ : iS} {Q : iO → iS → Prop} (h : (x1 ≠ 0 → sK σ a0 = 1 ∧ ca J_X_filledText [vr a0, vi x2] σ (cA (fun r2 σ2 => wp J_X_soughtText 13 [vr a0, vi x1, vi x2] [vr r2] σ2 Q) Q)) ∧ (¬ (x1 ≠ 0) → wp J_X_soughtText 13 [vr a0, vi x1, vi x2] [vr 0] σ Q)) : ca J_X_soughtText [vr a0, vi x1, vi x2] σ Q :=
  w_go rfl rfl (w_br rfl rfl rfl rfl (fun c1 => w_go rfl rfl (w_go rfl rfl (w_cA rfl rfl rfl ⟨⟨Nat.le_of_ble_eq_true rfl, Nat.le_of_ble_eq_true rfl⟩, (h.1 c1).1⟩ rfl (fun _ => rfl) (h.1 c1).2 (fun r2 σ2 k2 => k2)))) (fun c1 => w_go rfl rfl (w_go rfl rfl ((h.2 c1)))))

theorem b_X_soughtText_13 {a0 : Nat} {x1 : Int32} {x2 : Int32} {ta0 : Nat} {σ : iS} {Q : iO → iS → Prop} (h : Q (.inl (some (vr ta0))) σ) : wp J_X_soughtText 13 [vr a0, vi x1, vi x2] [vr ta0] σ Q :=
  w_ret rfl rfl h

theorem b_X_widthOf_0 {a0 : Nat} {σ : iS} {Q : iO → iS → Prop} (h : (a0 ≠ 0 → sK σ a0 = 2 ∧ ca J_Text_size [vr a0] σ (cI (fun r2 σ2 => wp J_X_widthOf 12 [vr a0] [vi r2] σ2 Q) Q)) ∧ (¬ (a0 ≠ 0) → wp J_X_widthOf 12 [vr a0] [vi (1 : Int32)] σ Q)) : ca J_X_widthOf [vr a0] σ Q :=
  w_go rfl rfl (w_br rfl rfl rfl rfl (fun c1 => w_go rfl rfl (w_cI rfl rfl rfl ⟨⟨Nat.le_of_ble_eq_true rfl, Nat.le_of_ble_eq_true rfl⟩, (h.1 c1).1⟩ rfl (fun _ => rfl) (h.1 c1).2 (fun r2 σ2 k2 => k2))) (fun c1 => w_ic rfl kc_1 (w_go rfl rfl ((h.2 c1)))))

theorem b_X_widthOf_12 {a0 : Nat} {tx0 : Int32} {σ : iS} {Q : iO → iS → Prop} (h : Q (.inl (some (vi tx0))) σ) : wp J_X_widthOf 12 [vr a0] [vi tx0] σ Q :=
  w_retG rfl rfl rfl (fun q => Bool.noConfusion q) h

theorem b_X_checkKind_0 {x0 : Int32} {x1 : Int32} {σ : iS} {Q : iO → iS → Prop} (h : (x0 < 0 → wp J_X_checkKind 9 [vi x0, vi x1] [] σ Q) ∧ (¬ (x0 < 0) → (x0 ≤ x1 → Q (.inl none) σ) ∧ (¬ (x0 ≤ x1) → wp J_X_checkKind 9 [vi x0, vi x1] [] σ Q))) : ca J_X_checkKind [vi x0, vi x1] σ Q :=
  w_go rfl rfl (w_br rfl rfl rfl rfl (fun c1 => (h.1 c1)) (fun c1 => w_go rfl rfl (w_go rfl rfl (w_br rfl rfl rfl rfl (fun c2 => w_ret rfl rfl ((h.2 c1).1 c2)) (fun c2 => ((h.2 c1).2 c2))))))

theorem b_X_checkKind_9 {x0 : Int32} {x1 : Int32} {σ : iS} {Q : iO → iS → Prop} (h : Q (.inr (1, sX σ)) (nO σ 201 6)) : wp J_X_checkKind 9 [vi x0, vi x1] [] σ Q :=
  w_retG rfl rfl rfl (Nat.le_of_ble_eq_true rfl) h

theorem b_X_checkCounter_0 {x0 : Int32} {σ : iS} {Q : iO → iS → Prop} (h : (x0 < 0 → wp J_X_checkCounter 10 [vi x0] [] σ Q) ∧ (¬ (x0 < 0) → (x0 < (10 : Int32) → Q (.inl none) σ) ∧ (¬ (x0 < (10 : Int32)) → wp J_X_checkCounter 10 [vi x0] [] σ Q))) : ca J_X_checkCounter [vi x0] σ Q :=
  w_go rfl rfl (w_br rfl rfl rfl rfl (fun c1 => (h.1 c1)) (fun c1 => w_go rfl rfl (w_bp rfl kb_10 (w_br rfl rfl rfl rfl (fun c2 => w_ret rfl rfl ((h.2 c1).1 c2)) (fun c2 => ((h.2 c1).2 c2))))))

theorem b_X_checkCounter_10 {x0 : Int32} {σ : iS} {Q : iO → iS → Prop} (h : Q (.inr (1, sX σ)) (nO σ 201 6)) : wp J_X_checkCounter 10 [vi x0] [] σ Q :=
  w_retG rfl rfl rfl (Nat.le_of_ble_eq_true rfl) h

theorem b_X_checkRoomForPhrase_0 {a0 : Nat} {σ : iS} {Q : iO → iS → Prop} (h : sK σ a0 = 1 ∧ (sK σ (sR σ 36 a0) = 5 ∧ (((sI σ 161 (sR σ 36 a0)) < (20 : Int32) → Q (.inl none) σ) ∧ (¬ ((sI σ 161 (sR σ 36 a0)) < (20 : Int32)) → Q (.inr (2, sX σ)) (nO σ 202 6))))) : ca J_X_checkRoomForPhrase [vr a0] σ Q :=
  w_go rfl rfl (w_gd rfl rfl rfl h.1 (w_gd rfl rfl rfl h.2.1 (w_bp rfl kb_20 (w_br rfl rfl rfl rfl (fun c1 => w_ret rfl rfl (h.2.2.1 c1)) (fun c1 => w_retG rfl rfl rfl (Nat.le_of_ble_eq_true rfl) (h.2.2.2 c1))))))

theorem b_X_takeRegion_0 {a0 : Nat} {σ : iS} {Q : iO → iS → Prop} (h : (∀ σ1, σ1 = nO σ 3 2 → sK σ1 a0 = 1 ∧ (sK σ1 a0 = 1 ∧ (sK σ1 (sX σ) = 3 ∧ ca J_Region_init [vr (sX σ), vr (sR σ1 34 a0), vr (sR σ1 35 a0)] σ1 (cV (fun σ2 => sK σ2 a0 = 1 ∧ (∀ σ3, σ3 = wR σ2 34 a0 0 → sK σ3 a0 = 1 ∧ (∀ σ4, σ4 = wR σ3 35 a0 0 → Q (.inl (some (vr (sX σ)))) σ4))) Q))))) : ca J_X_takeRegion [vr a0] σ Q :=
  w_go rfl rfl (w_go rfl rfl (w_go rfl rfl (w_gd rfl rfl rfl (h _ rfl).1 (w_go rfl rfl (w_gd rfl rfl rfl (h _ rfl).2.1 (w_cV rfl rfl rfl ⟨⟨Nat.le_of_ble_eq_true rfl, Nat.le_of_ble_eq_true rfl⟩, (h _ rfl).2.2.1⟩ rfl (fun _ => rfl) (h _ rfl).2.2.2 (fun σ2 k2 => w_gd rfl rfl rfl (Nat.le_of_ble_eq_true rfl) (w_go rfl rfl (w_go rfl rfl (w_gd rfl rfl rfl k2.1 (w_go rfl rfl (w_go rfl rfl (w_gd rfl rfl rfl (k2.2 _ rfl).1 (w_go rfl rfl (w_ret rfl rfl ((k2.2 _ rfl).2 _ rfl))))))))))))))))

theorem b_X_knownTable_0 {a0 : Nat} {x1 : Int32} {σ : iS} {Q : iO → iS → Prop} (h : (x1 < 0 → wp J_X_knownTable 12 [vr a0, vi x1] [] σ Q) ∧ (¬ (x1 < 0) → sK σ a0 = 1 ∧ ((x1 < (sI σ 41 a0) → sK σ a0 = 1 ∧ (((110 ≤ sK σ (sR σ 40 a0) ∧ sK σ (sR σ 40 a0) < 200) ∧ iIn x1 (sN σ (sR σ 40 a0))) ∧ (Q (.inl (some (vr (sB σ (sR σ 40 a0) x1.toNatClampNeg)))) σ))) ∧ (¬ (x1 < (sI σ 41 a0)) → wp J_X_knownTable 12 [vr a0, vi x1] [] σ Q)))) : ca J_X_knownTable [vr a0, vi x1] σ Q :=
  w_go rfl rfl (w_br rfl rfl rfl rfl (fun c1 => (h.1 c1)) (fun c1 => w_go rfl rfl (w_go rfl rfl (w_gd rfl rfl rfl (h.2 c1).1 (w_br rfl rfl rfl rfl (fun c2 => w_go rfl rfl (w_gd rfl rfl rfl ((h.2 c1).2.1 c2).1 (w_go rfl rfl (w_gd rfl rfl rfl ((h.2 c1).2.1 c2).2.1 (w_ret rfl rfl ((h.2 c1).2.1 c2).2.2))))) (fun c2 => ((h.2 c1).2.2 c2)))))))

theorem b_X_knownTable_12 {a0 : Nat} {x1 : Int32} {σ : iS} {Q : iO → iS → Prop} (h : Q (.inr (1, sX σ)) (nO σ 201 6)) : wp J_X_knownTable 12 [vr a0, vi x1] [] σ Q :=
  w_retG rfl rfl rfl (Nat.le_of_ble_eq_true rfl) h

theorem b_X_tableWithRow_0 {a0 : Nat} {x1 : Int32} {x2 : Int32} {σ : iS} {Q : iO → iS → Prop} (h : sK σ a0 = 1 ∧ ca J_X_knownTable [vr a0, vi x1] σ (cA (fun r1 σ1 => (x2 < (1 : Int32) → wp J_X_tableWithRow 20 [vr a0, vi x1, vi x2, vr r1] [] σ1 Q) ∧ (¬ (x2 < (1 : Int32)) → sK σ1 r1 = 9 ∧ (iArr (sK σ1 (sR σ1 288 r1)) = true ∧ ((x2 ≤ (nI (sN σ1 (sR σ1 288 r1))) → Q (.inl (some (vr r1))) σ1) ∧ (¬ (x2 ≤ (nI (sN σ1 (sR σ1 288 r1)))) → wp J_X_tableWithRow 20 [vr a0, vi x1, vi x2, vr r1] [] σ1 Q))))) Q)) : ca J_X_tableWithRow [vr a0, vi x1, vi x2] σ Q :=
  w_go rfl rfl (w_go rfl rfl (w_cA rfl rfl rfl ⟨⟨Nat.le_of_ble_eq_true rfl, Nat.le_of_ble_eq_true rfl⟩, h.1⟩ rfl (fun _ => rfl) h.2 (fun r1 σ1 k1 => w_gd rfl rfl rfl (Nat.le_of_ble_eq_true rfl) (w_go rfl rfl (w_ic rfl kc_1 (w_br rfl rfl rfl rfl (fun c2 => (k1.1 c2)) (fun c2 => w_go rfl rfl (w_go rfl rfl (w_gd rfl rfl rfl (k1.2 c2).1 (w_gd rfl rfl rfl (k1.2 c2).2.1 (w_br rfl rfl rfl rfl (fun c3 => w_go rfl rfl (w_ret rfl rfl ((k1.2 c2).2.2.1 c3))) (fun c3 => ((k1.2 c2).2.2.2 c3)))))))))))))

theorem b_X_tableWithRow_20 {a0 : Nat} {x1 : Int32} {x2 : Int32} {a3 : Nat} {σ : iS} {Q : iO → iS → Prop} (h : Q (.inr (1, sX σ)) (nO σ 201 6)) : wp J_X_tableWithRow 20 [vr a0, vi x1, vi x2, vr a3] [] σ Q :=
  w_retG rfl rfl rfl (Nat.le_of_ble_eq_true rfl) h
end
section
/-! WHAT MUST HOLD at each cut point of each method: printed by gen3.py -/
theorem b_Text_init_0 {a0 : Nat} {x1 : Int32} {σ : iS} {Q : iO → iS → Prop} (h : a0 ≠ 0 ∧ ((¬ x1 < 0 ∧ x1.toNatClampNeg ≤ 100000) ∧ (∀ σ1, σ1 = nA σ 101 x1.toNatClampNeg → sK σ1 a0 = 2 ∧ (∀ σ2, σ2 = wR σ1 64 a0 (sX σ) → sK σ2 a0 = 2 ∧ (ca J_Arrays_fill [vr (sR σ2 64 a0), vi (32 : Int32)] σ2 (cV (fun σ3 => Q (.inl none) σ3) Q)))))) : ca J_Text_init [vr a0, vi x1] σ Q :=
  w_go rfl rfl (w_gd rfl rfl rfl ⟨Nat.le_of_ble_eq_true rfl, h.1⟩ (w_go rfl rfl (w_go rfl rfl (w_gd rfl rfl rfl h.2.1 (w_gd rfl rfl rfl (h.2.2 _ rfl).1 (w_go rfl rfl (w_gd rfl rfl rfl ((h.2.2 _ rfl).2 _ rfl).1 (w_bp rfl kb_32 (w_cV rfl rfl rfl ⟨Nat.le_of_ble_eq_true rfl, Nat.le_of_ble_eq_true rfl⟩ rfl (fun _ => rfl) ((h.2.2 _ rfl).2 _ rfl).2 (fun σ3 k3 => w_ret rfl rfl k3))))))))))

theorem b_Text_size_0 {a0 : Nat} {σ : iS} {Q : iO → iS → Prop} (h : sK σ a0 = 2 ∧ (iArr (sK σ (sR σ 64 a0)) = true ∧ (Q (.inl (some (vi (nI (sN σ (sR σ 64 a0)))))) σ))) : ca J_Text_size [vr a0] σ Q :=
  w_go rfl rfl (w_gd rfl rfl rfl h.1 (w_gd rfl rfl rfl h.2.1 (w_retG rfl rfl rfl (fun q => Bool.noConfusion q) h.2.2)))

theorem b_Text_holds_0 {a0 : Nat} {a1 : Nat} {x2 : Int32} {σ : iS} {Q : iO → iS → Prop} (h : sK σ a1 = 2 ∧ ca J_Text_size [vr a1] σ (cI (fun r1 σ1 => (x2 < 0 → wp J_Text_holds 20 [vr a0, vr a1, vi x2, vi r1, vl 0] [] σ1 Q) ∧ (¬ (x2 < 0) → sK σ1 a0 = 2 ∧ (iArr (sK σ1 (sR σ1 64 a0)) = true ∧ ((r1 ≤ ((nI (sN σ1 (sR σ1 64 a0))) - x2) → wp J_Text_holds 25 [vr a0, vr a1, vi x2, vi r1, vi (0 : Int32)] [] σ1 Q) ∧ (¬ (r1 ≤ ((nI (sN σ1 (sR σ1 64 a0))) - x2)) → wp J_Text_holds 20 [vr a0, vr a1, vi x2, vi r1, vl 0] [] σ1 Q))))) Q)) : ca J_Text_holds [vr a0, vr a1, vi x2] σ Q :=
  w_go rfl rfl (w_cI rfl rfl rfl ⟨⟨Nat.le_of_ble_eq_true rfl, Nat.le_of_ble_eq_true rfl⟩, h.1⟩ rfl (fun _ => rfl) h.2 (fun r1 σ1 k1 => w_gd rfl rfl rfl (Nat.le_of_ble_eq_true rfl) (w_go rfl rfl (w_br rfl rfl rfl rfl (fun c2 => (k1.1 c2)) (fun c2 => w_go rfl rfl (w_go rfl rfl (w_gd rfl rfl rfl (k1.2 c2).1 (w_gd rfl rfl rfl (k1.2 c2).2.1 (w_go rfl rfl (w_go rfl rfl (w_br rfl rfl rfl rfl (fun c3 => w_ic rfl kc_0 (w_gd rfl rfl rfl (Nat.le_of_ble_eq_true rfl) (((k1.2 c2).2.2.1 c3)))) (fun c3 => ((k1.2 c2).2.2.2 c3)))))))))))))

theorem b_Text_holds_20 {a0 : Nat} {a1 : Nat} {x2 : Int32} {x3 : Int32} {l4 : iV} {σ : iS} {Q : iO → iS → Prop} (h : iBool (0 : Int32) ∧ Q (.inl (some (vi (0 : Int32)))) σ) : wp J_Text_holds 20 [vr a0, vr a1, vi x2, vi x3, l4] [] σ Q :=
  w_ic rfl kc_0 (w_retG rfl rfl rfl (fun _ => h.1) h.2)

theorem b_Text_holds_25 {a0 : Nat} {a1 : Nat} {x2 : Int32} {x3 : Int32} {x4 : Int32} {σ : iS} {Q : iO → iS → Prop} (h : (x3 ≤ x4 → iBool (1 : Int32) ∧ Q (.inl (some (vi (1 : Int32)))) σ) ∧ (¬ (x3 ≤ x4) → sK σ a0 = 2 ∧ ((sK σ (sR σ 64 a0) = 101 ∧ iIn (x2 + x4) (sN σ (sR σ 64 a0))) ∧ (sK σ a1 = 2 ∧ ((sK σ (sR σ 64 a1) = 101 ∧ iIn x4 (sN σ (sR σ 64 a1))) ∧ (((sA σ (sR σ 64 a0) (x2 + x4).toNatClampNeg) = (sA σ (sR σ 64 a1) x4.toNatClampNeg) → wp J_Text_holds 25 [vr a0, vr a1, vi x2, vi x3, vi (x4 + (1 : Int32))] [] σ Q) ∧ (¬ ((sA σ (sR σ 64 a0) (x2 + x4).toNatClampNeg) = (sA σ (sR σ 64 a1) x4.toNatClampNeg)) → iBool (0 : Int32) ∧ Q (.inl (some (vi (0 : Int32)))) σ))))))) : wp J_Text_holds 25 [vr a0, vr a1, vi x2, vi x3, vi x4] [] σ Q :=
  w_go rfl rfl (w_go rfl rfl (w_br rfl rfl rfl rfl (fun c1 => w_ic rfl kc_1 (w_retG rfl rfl rfl (fun _ => (h.1 c1).1) (h.1 c1).2)) (fun c1 => w_go rfl rfl (w_gd rfl rfl rfl (h.2 c1).1 (w_go rfl rfl (w_go rfl rfl (w_go rfl rfl (w_gd rfl rfl rfl ⟨Or.inr (h.2 c1).2.1.1, (h.2 c1).2.1.2⟩ (w_go rfl rfl (w_gd rfl rfl rfl (h.2 c1).2.2.1 (w_go rfl rfl (w_gd rfl rfl rfl ⟨Or.inr (h.2 c1).2.2.2.1.1, (h.2 c1).2.2.2.1.2⟩ (w_br rfl rfl rfl rfl (fun c2 => w_inc rfl rfl kc_1 (w_go rfl rfl (((h.2 c1).2.2.2.2.1 c2)))) (fun c2 => w_ic rfl kc_0 (w_retG rfl rfl rfl (fun _ => ((h.2 c1).2.2.2.2.2 c2).1) ((h.2 c1).2.2.2.2.2 c2).2)))))))))))))))

theorem b_Text_firstPlaceOf_0 {a0 : Nat} {a1 : Nat} {σ : iS} {Q : iO → iS → Prop} (h : wp J_Text_firstPlaceOf 2 [vr a0, vr a1, vi (0 : Int32)] [] σ Q) : ca J_Text_firstPlaceOf [vr a0, vr a1] σ Q :=
  w_ic rfl kc_0 (w_gd rfl rfl rfl (Nat.le_of_ble_eq_true rfl) (h))

theorem b_Text_firstPlaceOf_2 {a0 : Nat} {a1 : Nat} {x2 : Int32} {σ : iS} {Q : iO → iS → Prop} (h : sK σ a0 = 2 ∧ (iArr (sK σ (sR σ 64 a0)) = true ∧ (((nI (sN σ (sR σ 64 a0))) ≤ x2 → Q (.inl (some (vi (-1 : Int32)))) σ) ∧ (¬ ((nI (sN σ (sR σ 64 a0))) ≤ x2) → sK σ a0 = 2 ∧ ca J_Text_holds [vr a0, vr a1, vi x2] σ (cI (fun r2 σ2 => (r2 = 0 → wp J_Text_firstPlaceOf 2 [vr a0, vr a1, vi (x2 + (1 : Int32))] [] σ2 Q) ∧ (¬ (r2 = 0) → Q (.inl (some (vi x2))) σ2)) Q))))) : wp J_Text_firstPlaceOf 2 [vr a0, vr a1, vi x2] [] σ Q :=
  w_go rfl rfl (w_go rfl rfl (w_gd rfl rfl rfl h.1 (w_gd rfl rfl rfl h.2.1 (w_br rfl rfl rfl rfl (fun c1 => w_ic rfl kc_m1 (w_retG rfl rfl rfl (fun q => Bool.noConfusion q) (h.2.2.1 c1))) (fun c1 => w_go rfl rfl (w_go rfl rfl (w_go rfl rfl (w_cI rfl rfl rfl ⟨⟨Nat.le_of_ble_eq_true rfl, Nat.le_of_ble_eq_true rfl⟩, (h.2.2.2 c1).1⟩ rfl (fun _ => rfl) (h.2.2.2 c1).2 (fun r2 σ2 k2 => w_br rfl rfl rfl rfl (fun c3 => w_inc rfl rfl kc_1 (w_go rfl rfl ((k2.1 c3)))) (fun c3 => w_go rfl rfl (w_retG rfl rfl rfl (fun q => Bool.noConfusion q) (k2.2 c3))))))))))))

theorem b_Text_firstPlaceOfSign_0 {a0 : Nat} {x1 : Int32} {σ : iS} {Q : iO → iS → Prop} (h : wp J_Text_firstPlaceOfSign 2 [vr a0, vi x1, vi (0 : Int32)] [] σ Q) : ca J_Text_firstPlaceOfSign [vr a0, vi x1] σ Q :=
  w_ic rfl kc_0 (w_gd rfl rfl rfl (Nat.le_of_ble_eq_true rfl) (h))

theorem b_Text_firstPlaceOfSign_2 {a0 : Nat} {x1 : Int32} {x2 : Int32} {σ : iS} {Q : iO → iS → Prop} (h : sK σ a0 = 2 ∧ (iArr (sK σ (sR σ 64 a0)) = true ∧ (((nI (sN σ (sR σ 64 a0))) ≤ x2 → Q (.inl (some (vi (-1 : Int32)))) σ) ∧ (¬ ((nI (sN σ (sR σ 64 a0))) ≤ x2) → sK σ a0 = 2 ∧ ((sK σ (sR σ 64 a0) = 101 ∧ iIn x2 (sN σ (sR σ 64 a0))) ∧ (((sA σ (sR σ 64 a0) x2.toNatClampNeg) ≠ x1 → wp J_Text_firstPlaceOfSign 2 [vr a0, vi x1, vi (x2 + (1 : Int32))] [] σ Q) ∧ (¬ ((sA σ (sR σ 64 a0) x2.toNatClampNeg) ≠ x1) → Q (.inl (some (vi x2))) σ))))))) : wp J_Text_firstPlaceOfSign 2 [vr a0, vi x1, vi x2] [] σ Q :=
  w_go rfl rfl (w_go rfl rfl (w_gd rfl rfl rfl h.1 (w_gd rfl rfl rfl h.2.1 (w_br rfl rfl rfl rfl (fun c1 => w_ic rfl kc_m1 (w_retG rfl rfl rfl (fun q => Bool.noConfusion q) (h.2.2.1 c1))) (fun c1 => w_go rfl rfl (w_gd rfl rfl rfl (h.2.2.2 c1).1 (w_go rfl rfl (w_gd rfl rfl rfl ⟨Or.inr (h.2.2.2 c1).2.1.1, (h.2.2.2 c1).2.1.2⟩ (w_go rfl rfl (w_br rfl rfl rfl rfl (fun c2 => w_inc rfl rfl kc_1 (w_go rfl rfl (((h.2.2.2 c1).2.2.1 c2)))) (fun c2 => w_go rfl rfl (w_retG rfl rfl rfl (fun q => Bool.noConfusion q) ((h.2.2.2 c1).2.2.2 c2)))))))))))))

theorem b_Text_copyTo_0 {a0 : Nat} {a1 : Nat} {σ : iS} {Q : iO → iS → Prop} (h : wp J_Text_copyTo 2 [vr a0, vr a1, vi (0 : Int32)] [] σ Q) : ca J_Text_copyTo [vr a0, vr a1] σ Q :=
  w_ic rfl kc_0 (w_gd rfl rfl rfl (Nat.le_of_ble_eq_true rfl) (h))

theorem b_Text_copyTo_2 {a0 : Nat} {a1 : Nat} {x2 : Int32} {σ : iS} {Q : iO → iS → Prop} (h : sK σ a0 = 2 ∧ (iArr (sK σ (sR σ 64 a0)) = true ∧ (((nI (sN σ (sR σ 64 a0))) ≤ x2 → wp J_Text_copyTo 32 [vr a0, vr a1, vi x2] [] σ Q) ∧ (¬ ((nI (sN σ (sR σ 64 a0))) ≤ x2) → iArr (sK σ a1) = true ∧ (((nI (sN σ a1)) ≤ x2 → wp J_Text_copyTo 32 [vr a0, vr a1, vi x2] [] σ Q) ∧ (¬ ((nI (sN σ a1)) ≤ x2) → sK σ a0 = 2 ∧ ((sK σ (sR σ 64 a0) = 101 ∧ iIn x2 (sN σ (sR σ 64 a0))) ∧ ((sK σ a1 = 101 ∧ iIn x2 (sN σ a1)) ∧ (∀ σ3, σ3 = wA σ a1 x2.toNatClampNeg (sA σ (sR σ 64 a0) x2.toNatClampNeg) → wp J_Text_copyTo 2 [vr a0, vr a1, vi (x2 + (1 : Int32))] [] σ3 Q))))))))) : wp J_Text_copyTo 2 [vr a0, vr a1, vi x2] [] σ Q :=
  w_go rfl rfl (w_go rfl rfl (w_gd rfl rfl rfl h.1 (w_gd rfl rfl rfl h.2.1 (w_br rfl rfl rfl rfl (fun c1 => (h.2.2.1 c1)) (fun c1 => w_go rfl rfl (w_go rfl rfl (w_gd rfl rfl rfl (h.2.2.2 c1).1 (w_br rfl rfl rfl rfl (fun c2 => ((h.2.2.2 c1).2.1 c2)) (fun c2 => w_go rfl rfl (w_go rfl rfl (w_go rfl rfl (w_gd rfl rfl rfl ((h.2.2.2 c1).2.2 c2).1 (w_go rfl rfl (w_gd rfl rfl rfl ⟨Or.inr ((h.2.2.2 c1).2.2 c2).2.1.1, ((h.2.2.2 c1).2.2 c2).2.1.2⟩ (w_gd rfl rfl rfl ((h.2.2.2 c1).2.2 c2).2.2.1 (w_inc rfl rfl kc_1 (w_go rfl rfl ((((h.2.2.2 c1).2.2 c2).2.2.2 _ rfl)))))))))))))))))))

theorem b_Text_copyTo_32 {a0 : Nat} {a1 : Nat} {x2 : Int32} {σ : iS} {Q : iO → iS → Prop} (h : Q (.inl none) σ) : wp J_Text_copyTo 32 [vr a0, vr a1, vi x2] [] σ Q :=
  w_ret rfl rfl h

theorem b_Text_fillFrom_0 {a0 : Nat} {a1 : Nat} {x2 : Int32} {x3 : Int32} {σ : iS} {Q : iO → iS → Prop} (h : wp J_Text_fillFrom 3 [vr a0, vr a1, vi x2, vi x3, vi (0 : Int32)] [] σ Q) : ca J_Text_fillFrom [vr a0, vr a1, vi x2, vi x3] σ Q :=
  w_ic rfl kc_0 (w_gd rfl rfl rfl (Nat.le_of_ble_eq_true rfl) (h))

theorem b_Text_fillFrom_3 {a0 : Nat} {a1 : Nat} {x2 : Int32} {x3 : Int32} {x4 : Int32} {σ : iS} {Q : iO → iS → Prop} (h : sK σ a0 = 2 ∧ (iArr (sK σ (sR σ 64 a0)) = true ∧ (((nI (sN σ (sR σ 64 a0))) ≤ x4 → Q (.inl none) σ) ∧ (¬ ((nI (sN σ (sR σ 64 a0))) ≤ x4) → sK σ a0 = 2 ∧ ((x3 ≤ x4 → wp J_Text_fillFrom 36 [vr a0, vr a1, vi x2, vi x3, vi x4] [vi (32 : Int32), vi x4, vr (sR σ 64 a0)] σ Q) ∧ (¬ (x3 ≤ x4) → (sK σ a1 = 101 ∧ iIn (x2 + x4) (sN σ a1)) ∧ (wp J_Text_fillFrom 36 [vr a0, vr a1, vi x2, vi x3, vi x4] [vi (sA σ a1 (x2 + x4).toNatClampNeg), vi x4, vr (sR σ 64 a0)] σ Q))))))) : wp J_Text_fillFrom 3 [vr a0, vr a1, vi x2, vi x3, vi x4] [] σ Q :=
  w_go rfl rfl (w_go rfl rfl (w_gd rfl rfl rfl h.1 (w_gd rfl rfl rfl h.2.1 (w_br rfl rfl rfl rfl (fun c1 => w_ret rfl rfl (h.2.2.1 c1)) (fun c1 => w_go rfl rfl (w_gd rfl rfl rfl (h.2.2.2 c1).1 (w_go rfl rfl (w_go rfl rfl (w_go rfl rfl (w_br rfl rfl rfl rfl (fun c2 => w_bp rfl kb_32 (((h.2.2.2 c1).2.1 c2))) (fun c2 => w_go rfl rfl (w_go rfl rfl (w_go rfl rfl (w_go rfl rfl (w_gd rfl rfl rfl ⟨Or.inr ((h.2.2.2 c1).2.2 c2).1.1, ((h.2.2.2 c1).2.2 c2).1.2⟩ (w_go rfl rfl (((h.2.2.2 c1).2.2 c2).2)))))))))))))))))

theorem b_Text_fillFrom_36 {a0 : Nat} {a1 : Nat} {x2 : Int32} {x3 : Int32} {x4 : Int32} {tx0 : Int32} {tx1 : Int32} {ta2 : Nat} {σ : iS} {Q : iO → iS → Prop} (h : (sK σ ta2 = 101 ∧ iIn tx1 (sN σ ta2)) ∧ (∀ σ1, σ1 = wA σ ta2 tx1.toNatClampNeg tx0 → wp J_Text_fillFrom 3 [vr a0, vr a1, vi x2, vi x3, vi (x4 + (1 : Int32))] [] σ1 Q)) : wp J_Text_fillFrom 36 [vr a0, vr a1, vi x2, vi x3, vi x4] [vi tx0, vi tx1, vr ta2] σ Q :=
  w_gd rfl rfl rfl h.1 (w_inc rfl rfl kc_1 (w_go rfl rfl ((h.2 _ rfl))))

theorem b_Region_init_0 {a0 : Nat} {a1 : Nat} {a2 : Nat} {σ : iS} {Q : iO → iS → Prop} (h : a0 ≠ 0 ∧ (sK σ a0 = 3 ∧ (∀ σ1, σ1 = wR σ 96 a0 a1 → sK σ1 a0 = 3 ∧ (∀ σ2, σ2 = wR σ1 97 a0 a2 → Q (.inl none) σ2)))) : ca J_Region_init [vr a0, vr a1, vr a2] σ Q :=
  w_go rfl rfl (w_gd rfl rfl rfl ⟨Nat.le_of_ble_eq_true rfl, h.1⟩ (w_go rfl rfl (w_go rfl rfl (w_gd rfl rfl rfl h.2.1 (w_go rfl rfl (w_go rfl rfl (w_gd rfl rfl rfl (h.2.2 _ rfl).1 (w_ret rfl rfl ((h.2.2 _ rfl).2 _ rfl)))))))))

theorem b_Region_beginIn_0 {a0 : Nat} {a1 : Nat} {σ : iS} {Q : iO → iS → Prop} (h : sK σ a0 = 3 ∧ (((sR σ 96 a0) ≠ 0 → sK σ a0 = 3 ∧ (sK σ a1 = 2 ∧ ca J_Text_firstPlaceOf [vr a1, vr (sR σ 96 a0)] σ (cI (fun r2 σ2 => (r2 ≠ (-1 : Int32) → sK σ2 a0 = 3 ∧ (sK σ2 (sR σ2 96 a0) = 2 ∧ ca J_Text_size [vr (sR σ2 96 a0)] σ2 (cI (fun r4 σ4 => wp J_Region_beginIn 39 [vr a0, vr a1, vi r2] [vi (r2 + r4)] σ4 Q) Q))) ∧ (¬ (r2 ≠ (-1 : Int32)) → sK σ2 a1 = 2 ∧ ca J_Text_size [vr a1] σ2 (cI (fun r5 σ5 => wp J_Region_beginIn 39 [vr a0, vr a1, vi r2] [vi r5] σ5 Q) Q))) Q))) ∧ (¬ ((sR σ 96 a0) ≠ 0) → Q (.inl (some (vi (0 : Int32)))) σ))) : ca J_Region_beginIn [vr a0, vr a1] σ Q :=
  w_go rfl rfl (w_gd rfl rfl rfl h.1 (w_br rfl rfl rfl rfl (fun c1 => w_go rfl rfl (w_go rfl rfl (w_gd rfl rfl rfl (h.2.1 c1).1 (w_cI rfl rfl rfl ⟨⟨Nat.le_of_ble_eq_true rfl, Nat.le_of_ble_eq_true rfl⟩, (h.2.1 c1).2.1⟩ rfl (fun _ => rfl) (h.2.1 c1).2.2 (fun r2 σ2 k2 => w_gd rfl rfl rfl (Nat.le_of_ble_eq_true rfl) (w_go rfl rfl (w_ic rfl kc_m1 (w_br rfl rfl rfl rfl (fun c3 => w_go rfl rfl (w_go rfl rfl (w_gd rfl rfl rfl (k2.1 c3).1 (w_cI rfl rfl rfl ⟨⟨Nat.le_of_ble_eq_true rfl, Nat.le_of_ble_eq_true rfl⟩, (k2.1 c3).2.1⟩ rfl (fun _ => rfl) (k2.1 c3).2.2 (fun r4 σ4 k4 => w_go rfl rfl (k4)))))) (fun c3 => w_go rfl rfl (w_cI rfl rfl rfl ⟨⟨Nat.le_of_ble_eq_true rfl, Nat.le_of_ble_eq_true rfl⟩, (k2.2 c3).1⟩ rfl (fun _ => rfl) (k2.2 c3).2 (fun r5 σ5 k5 => w_go rfl rfl (k5)))))))))))) (fun c1 => w_ic rfl kc_0 (w_retG rfl rfl rfl (fun q => Bool.noConfusion q) (h.2.2 c1)))))

theorem b_Region_beginIn_39 {a0 : Nat} {a1 : Nat} {x2 : Int32} {tx0 : Int32} {σ : iS} {Q : iO → iS → Prop} (h : Q (.inl (some (vi tx0))) σ) : wp J_Region_beginIn 39 [vr a0, vr a1, vi x2] [vi tx0] σ Q :=
  w_retG rfl rfl rfl (fun q => Bool.noConfusion q) h

theorem b_Region_endIn_0 {a0 : Nat} {a1 : Nat} {σ : iS} {Q : iO → iS → Prop} (h : sK σ a0 = 3 ∧ (((sR σ 97 a0) ≠ 0 → sK σ a0 = 3 ∧ (sK σ a1 = 2 ∧ ca J_Text_firstPlaceOf [vr a1, vr (sR σ 97 a0)] σ (cI (fun r2 σ2 => wp J_Region_endIn 19 [vr a0, vr a1, vl 0] [vi r2] σ2 Q) Q))) ∧ (¬ ((sR σ 97 a0) ≠ 0) → wp J_Region_endIn 19 [vr a0, vr a1, vl 0] [vi (-1 : Int32)] σ Q))) : ca J_Region_endIn [vr a0, vr a1] σ Q :=
  w_go rfl rfl (w_gd rfl rfl rfl h.1 (w_br rfl rfl rfl rfl (fun c1 => w_go rfl rfl (w_go rfl rfl (w_gd rfl rfl rfl (h.2.1 c1).1 (w_cI rfl rfl rfl ⟨⟨Nat.le_of_ble_eq_true rfl, Nat.le_of_ble_eq_true rfl⟩, (h.2.1 c1).2.1⟩ rfl (fun _ => rfl) (h.2.1 c1).2.2 (fun r2 σ2 k2 => k2))))) (fun c1 => w_ic rfl kc_m1 (w_go rfl rfl ((h.2.2 c1))))))

theorem b_Region_endIn_19 {a0 : Nat} {a1 : Nat} {l2 : iV} {tx0 : Int32} {σ : iS} {Q : iO → iS → Prop} (h : (tx0 ≠ (-1 : Int32) → wp J_Region_endIn 33 [vr a0, vr a1, vi tx0] [vi tx0] σ Q) ∧ (¬ (tx0 ≠ (-1 : Int32)) → sK σ a1 = 2 ∧ ca J_Text_size [vr a1] σ (cI (fun r2 σ2 => wp J_Region_endIn 33 [vr a0, vr a1, vi tx0] [vi r2] σ2 Q) Q))) : wp J_Region_endIn 19 [vr a0, vr a1, l2] [vi tx0] σ Q :=
  w_gd rfl rfl rfl (Nat.le_of_ble_eq_true rfl) (w_go rfl rfl (w_ic rfl kc_m1 (w_br rfl rfl rfl rfl (fun c1 => w_go rfl rfl ((h.1 c1))) (fun c1 => w_go rfl rfl (w_cI rfl rfl rfl ⟨⟨Nat.le_of_ble_eq_true rfl, Nat.le_of_ble_eq_true rfl⟩, (h.2 c1).1⟩ rfl (fun _ => rfl) (h.2 c1).2 (fun r2 σ2 k2 => w_go rfl rfl (k2)))))))

theorem b_Region_endIn_33 {a0 : Nat} {a1 : Nat} {x2 : Int32} {tx0 : Int32} {σ : iS} {Q : iO → iS → Prop} (h : Q (.inl (some (vi tx0))) σ) : wp J_Region_endIn 33 [vr a0, vr a1, vi x2] [vi tx0] σ Q :=
  w_retG rfl rfl rfl (fun q => Bool.noConfusion q) h

theorem b_Phrase_init_0 {a0 : Nat} {x1 : Int32} {a2 : Nat} {x3 : Int32} {a4 : Nat} {a5 : Nat} {σ : iS} {Q : iO → iS → Prop} (h : a0 ≠ 0 ∧ (sK σ a0 = 4 ∧ (∀ σ1, σ1 = wI σ 128 a0 x1 → sK σ1 a0 = 4 ∧ (∀ σ2, σ2 = wR σ1 129 a0 a2 → sK σ2 a0 = 4 ∧ (∀ σ3, σ3 = wI σ2 130 a0 x3 → sK σ3 a0 = 4 ∧ (∀ σ4, σ4 = wR σ3 131 a0 a4 → sK σ4 a0 = 4 ∧ (∀ σ5, σ5 = wR σ4 132 a0 a5 → ca J_X_widthOf [vr a2] σ5 (cI (fun r6 σ6 => sK σ6 a0 = 4 ∧ (∀ σ7, σ7 = wI σ6 133 a0 r6 → Q (.inl none) σ7)) Q)))))))) : ca J_Phrase_init [vr a0, vi x1, vr a2, vi x3, vr a4, vr a5] σ Q :=
  w_go rfl rfl (w_gd rfl rfl rfl ⟨Nat.le_of_ble_eq_true rfl, h.1⟩ (w_go rfl rfl (w_go rfl rfl (w_gd rfl rfl rfl h.2.1 (w_go rfl rfl (w_go rfl rfl (w_gd rfl rfl rfl (h.2.2 _ rfl).1 (w_go rfl rfl (w_go rfl rfl (w_gd rfl rfl rfl ((h.2.2 _ rfl).2 _ rfl).1 (w_go rfl rfl (w_go rfl rfl (w_gd rfl rfl rfl (((h.2.2 _ rfl).2 _ rfl).2 _ rfl).1 (w_go rfl rfl (w_go rfl rfl (w_gd rfl rfl rfl ((((h.2.2 _ rfl).2 _ rfl).2 _ rfl).2 _ rfl).1 (w_go rfl rfl (w_go rfl rfl (w_cI rfl rfl rfl ⟨Nat.le_of_ble_eq_true rfl, Nat.le_of_ble_eq_true rfl⟩ rfl (fun _ => rfl) (((((h.2.2 _ rfl).2 _ rfl).2 _ rfl).2 _ rfl).2 _ rfl) (fun r6 σ6 k6 => w_gd rfl rfl rfl k6.1 (w_ret rfl rfl (k6.2 _ rfl))))))))))))))))))))))

theorem b_Phrase_isReplacing_0 {a0 : Nat} {σ : iS} {Q : iO → iS → Prop} (h : sK σ a0 = 4 ∧ (((sR σ 131 a0) = 0 → wp J_Phrase_isReplacing 12 [vr a0] [vi (0 : Int32)] σ Q) ∧ (¬ ((sR σ 131 a0) = 0) → wp J_Phrase_isReplacing 12 [vr a0] [vi (1 : Int32)] σ Q))) : ca J_Phrase_isReplacing [vr a0] σ Q :=
  w_go rfl rfl (w_gd rfl rfl rfl h.1 (w_br rfl rfl rfl rfl (fun c1 => w_ic rfl kc_0 ((h.2.1 c1))) (fun c1 => w_ic rfl kc_1 (w_go rfl rfl ((h.2.2 c1))))))

theorem b_Phrase_isReplacing_12 {a0 : Nat} {tx0 : Int32} {σ : iS} {Q : iO → iS → Prop} (h : iBool tx0 ∧ Q (.inl (some (vi tx0))) σ) : wp J_Phrase_isReplacing 12 [vr a0] [vi tx0] σ Q :=
  w_retG rfl rfl rfl (fun _ => h.1) h.2

theorem b_Phrase_startIn_0 {a0 : Nat} {a1 : Nat} {σ : iS} {Q : iO → iS → Prop} (h : sK σ a0 = 4 ∧ (sK σ (sR σ 132 a0) = 3 ∧ ca J_Region_beginIn [vr (sR σ 132 a0), vr a1] σ (cI (fun r1 σ1 => sK σ1 a0 = 4 ∧ (∀ σ2, σ2 = wI σ1 134 a0 r1 → sK σ2 a0 = 4 ∧ (sK σ2 (sR σ2 132 a0) = 3 ∧ ca J_Region_endIn [vr (sR σ2 132 a0), vr a1] σ2 (cI (fun r3 σ3 => sK σ3 a0 = 4 ∧ (∀ σ4, σ4 = wI σ3 135 a0 r3 → sK σ4 a0 = 4 ∧ (sK σ4 a0 = 4 ∧ (∀ σ5, σ5 = wI σ4 136 a0 (sI σ4 134 a0) → Q (.inl none) σ5)))) Q)))) Q))) : ca J_Phrase_startIn [vr a0, vr a1] σ Q :=
  w_go rfl rfl (w_go rfl rfl (w_gd rfl rfl rfl h.1 (w_go rfl rfl (w_cI rfl rfl rfl ⟨⟨Nat.le_of_ble_eq_true rfl, Nat.le_of_ble_eq_true rfl⟩, h.2.1⟩ rfl (fun _ => rfl) h.2.2 (fun r1 σ1 k1 => w_gd rfl rfl rfl k1.1 (w_go rfl rfl (w_go rfl rfl (w_gd rfl rfl rfl (k1.2 _ rfl).1 (w_go rfl rfl (w_cI rfl rfl rfl ⟨⟨Nat.le_of_ble_eq_true rfl, Nat.le_of_ble_eq_true rfl⟩, (k1.2 _ rfl).2.1⟩ rfl (fun _ => rfl) (k1.2 _ rfl).2.2 (fun r3 σ3 k3 => w_gd rfl rfl rfl k3.1 (w_go rfl rfl (w_go rfl rfl (w_gd rfl rfl rfl (k3.2 _ rfl).1 (w_gd rfl rfl rfl (k3.2 _ rfl).2.1 (w_ret rfl rfl ((k3.2 _ rfl).2.2 _ rfl)))))))))))))))))

theorem b_Phrase_matches_0 {a0 : Nat} {a1 : Nat} {x2 : Int32} {σ : iS} {Q : iO → iS → Prop} (h : sK σ a0 = 4 ∧ ((x2 < (sI σ 134 a0) → wp J_Phrase_matches 21 [vr a0, vr a1, vi x2] [] σ Q) ∧ (¬ (x2 < (sI σ 134 a0)) → sK σ a0 = 4 ∧ (sK σ a0 = 4 ∧ (((x2 + (sI σ 133 a0)) ≤ (sI σ 135 a0) → sK σ a0 = 4 ∧ (((sI σ 128 a0) ≠ (2 : Int32) → wp J_Phrase_matches 41 [vr a0, vr a1, vi x2] [] σ Q) ∧ (¬ ((sI σ 128 a0) ≠ (2 : Int32)) → sK σ a0 = 4 ∧ ((x2 = (sI σ 136 a0) → wp J_Phrase_matches 41 [vr a0, vr a1, vi x2] [] σ Q) ∧ (¬ (x2 = (sI σ 136 a0)) → iBool (0 : Int32) ∧ Q (.inl (some (vi (0 : Int32)))) σ))))) ∧ (¬ ((x2 + (sI σ 133 a0)) ≤ (sI σ 135 a0)) → wp J_Phrase_matches 21 [vr a0, vr a1, vi x2] [] σ Q)))))) : ca J_Phrase_matches [vr a0, vr a1, vi x2] σ Q :=
  w_go rfl rfl (w_go rfl rfl (w_gd rfl rfl rfl h.1 (w_br rfl rfl rfl rfl (fun c1 => (h.2.1 c1)) (fun c1 => w_go rfl rfl (w_go rfl rfl (w_gd rfl rfl rfl (h.2.2 c1).1 (w_go rfl rfl (w_go rfl rfl (w_gd rfl rfl rfl (h.2.2 c1).2.1 (w_br rfl rfl rfl rfl (fun c2 => w_go rfl rfl (w_gd rfl rfl rfl ((h.2.2 c1).2.2.1 c2).1 (w_ic rfl kc_2 (w_br rfl rfl rfl rfl (fun c3 => (((h.2.2 c1).2.2.1 c2).2.1 c3)) (fun c3 => w_go rfl rfl (w_go rfl rfl (w_gd rfl rfl rfl (((h.2.2 c1).2.2.1 c2).2.2 c3).1 (w_br rfl rfl rfl rfl (fun c4 => ((((h.2.2 c1).2.2.1 c2).2.2 c3).2.1 c4)) (fun c4 => w_ic rfl kc_0 (w_retG rfl rfl rfl (fun _ => ((((h.2.2 c1).2.2.1 c2).2.2 c3).2.2 c4).1) ((((h.2.2 c1).2.2.1 c2).2.2 c3).2.2 c4).2)))))))))) (fun c2 => ((h.2.2 c1).2.2.2 c2))))))))))))

theorem b_Phrase_matches_21 {a0 : Nat} {a1 : Nat} {x2 : Int32} {σ : iS} {Q : iO → iS → Prop} (h : iBool (0 : Int32) ∧ Q (.inl (some (vi (0 : Int32)))) σ) : wp J_Phrase_matches 21 [vr a0, vr a1, vi x2] [] σ Q :=
  w_ic rfl kc_0 (w_retG rfl rfl rfl (fun _ => h.1) h.2)

theorem b_Phrase_matches_41 {a0 : Nat} {a1 : Nat} {x2 : Int32} {σ : iS} {Q : iO → iS → Prop} (h : sK σ a0 = 4 ∧ (((sI σ 128 a0) ≠ (3 : Int32) → wp J_Phrase_matches 58 [vr a0, vr a1, vi x2] [] σ Q) ∧ (¬ ((sI σ 128 a0) ≠ (3 : Int32)) → sK σ a0 = 4 ∧ (((sI σ 137 a0) = 0 → wp J_Phrase_matches 58 [vr a0, vr a1, vi x2] [] σ Q) ∧ (¬ ((sI σ 137 a0) = 0) → iBool (0 : Int32) ∧ Q (.inl (some (vi (0 : Int32)))) σ))))) : wp J_Phrase_matches 41 [vr a0, vr a1, vi x2] [] σ Q :=
  w_go rfl rfl (w_gd rfl rfl rfl h.1 (w_ic rfl kc_3 (w_br rfl rfl rfl rfl (fun c1 => (h.2.1 c1)) (fun c1 => w_go rfl rfl (w_gd rfl rfl rfl (h.2.2 c1).1 (w_br rfl rfl rfl rfl (fun c2 => ((h.2.2 c1).2.1 c2)) (fun c2 => w_ic rfl kc_0 (w_retG rfl rfl rfl (fun _ => ((h.2.2 c1).2.2 c2).1) ((h.2.2 c1).2.2 c2).2))))))))

theorem b_Phrase_matches_58 {a0 : Nat} {a1 : Nat} {x2 : Int32} {σ : iS} {Q : iO → iS → Prop} (h : sK σ a0 = 4 ∧ (((sR σ 129 a0) = 0 → wp J_Phrase_matches 77 [vr a0, vr a1, vi x2] [] σ Q) ∧ (¬ ((sR σ 129 a0) = 0) → sK σ a0 = 4 ∧ (sK σ a1 = 2 ∧ ca J_Text_holds [vr a1, vr (sR σ 129 a0), vi x2] σ (cI (fun r2 σ2 => (r2 = 0 → wp J_Phrase_matches 82 [vr a0, vr a1, vi x2] [vi (0 : Int32)] σ2 Q) ∧ (¬ (r2 = 0) → wp J_Phrase_matches 77 [vr a0, vr a1, vi x2] [] σ2 Q)) Q))))) : wp J_Phrase_matches 58 [vr a0, vr a1, vi x2] [] σ Q :=
  w_go rfl rfl (w_gd rfl rfl rfl h.1 (w_br rfl rfl rfl rfl (fun c1 => (h.2.1 c1)) (fun c1 => w_go rfl rfl (w_go rfl rfl (w_gd rfl rfl rfl (h.2.2 c1).1 (w_go rfl rfl (w_cI rfl rfl rfl ⟨⟨Nat.le_of_ble_eq_true rfl, Nat.le_of_ble_eq_true rfl⟩, (h.2.2 c1).2.1⟩ rfl (fun _ => rfl) (h.2.2 c1).2.2 (fun r2 σ2 k2 => w_br rfl rfl rfl rfl (fun c3 => w_ic rfl kc_0 ((k2.1 c3))) (fun c3 => (k2.2 c3))))))))))

theorem b_Phrase_matches_77 {a0 : Nat} {a1 : Nat} {x2 : Int32} {σ : iS} {Q : iO → iS → Prop} (h : wp J_Phrase_matches 82 [vr a0, vr a1, vi x2] [vi (1 : Int32)] σ Q) : wp J_Phrase_matches 77 [vr a0, vr a1, vi x2] [] σ Q :=
  w_ic rfl kc_1 (w_go rfl rfl (h))

theorem b_Phrase_matches_82 {a0 : Nat} {a1 : Nat} {x2 : Int32} {tx0 : Int32} {σ : iS} {Q : iO → iS → Prop} (h : iBool tx0 ∧ Q (.inl (some (vi tx0))) σ) : wp J_Phrase_matches 82 [vr a0, vr a1, vi x2] [vi tx0] σ Q :=
  w_retG rfl rfl rfl (fun _ => h.1) h.2

theorem b_Phrase_noteMatch_0 {a0 : Nat} {x1 : Int32} {σ : iS} {Q : iO → iS → Prop} (h : sK σ a0 = 4 ∧ (sK σ a0 = 4 ∧ (∀ σ1, σ1 = wI σ 136 a0 (x1 + (sI σ 133 a0)) → (sK σ1 a0 = 4 ∧ iBool (1 : Int32)) ∧ (∀ σ2, σ2 = wI σ1 137 a0 (1 : Int32) → Q (.inl none) σ2)))) : ca J_Phrase_noteMatch [vr a0, vi x1] σ Q :=
  w_go rfl rfl (w_go rfl rfl (w_go rfl rfl (w_gd rfl rfl rfl h.1 (w_go rfl rfl (w_gd rfl rfl rfl h.2.1 (w_go rfl rfl (w_ic rfl kc_1 (w_gd rfl rfl rfl (h.2.2 _ rfl).1 (w_ret rfl rfl ((h.2.2 _ rfl).2 _ rfl))))))))))

theorem b_Inspection_init_0 {a0 : Nat} {σ : iS} {Q : iO → iS → Prop} (h : a0 ≠ 0 ∧ ((¬ (20 : Int32) < 0 ∧ (20 : Int32).toNatClampNeg ≤ 100000) ∧ (∀ σ1, σ1 = nA σ 114 (20 : Int32).toNatClampNeg → sK σ1 a0 = 5 ∧ (∀ σ2, σ2 = wR σ1 160 a0 (sX σ) → (¬ (10 : Int32) < 0 ∧ (10 : Int32).toNatClampNeg ≤ 100000) ∧ (∀ σ3, σ3 = nA σ2 101 (10 : Int32).toNatClampNeg → sK σ3 a0 = 5 ∧ (∀ σ4, σ4 = wR σ3 162 a0 (sX σ2) → (¬ (60 : Int32) < 0 ∧ (60 : Int32).toNatClampNeg ≤ 100000) ∧ (∀ σ5, σ5 = nA σ4 101 (60 : Int32).toNatClampNeg → sK σ5 a0 = 5 ∧ (∀ σ6, σ6 = wR σ5 163 a0 (sX σ4) → Q (.inl none) σ6)))))))) : ca J_Inspection_init [vr a0] σ Q :=
  w_go rfl rfl (w_gd rfl rfl rfl ⟨Nat.le_of_ble_eq_true rfl, h.1⟩ (w_go rfl rfl (w_bp rfl kb_20 (w_gd rfl rfl rfl h.2.1 (w_gd rfl rfl rfl (h.2.2 _ rfl).1 (w_go rfl rfl (w_bp rfl kb_10 (w_gd rfl rfl rfl ((h.2.2 _ rfl).2 _ rfl).1 (w_gd rfl rfl rfl (((h.2.2 _ rfl).2 _ rfl).2 _ rfl).1 (w_go rfl rfl (w_bp rfl kb_60 (w_gd rfl rfl rfl ((((h.2.2 _ rfl).2 _ rfl).2 _ rfl).2 _ rfl).1 (w_gd rfl rfl rfl (((((h.2.2 _ rfl).2 _ rfl).2 _ rfl).2 _ rfl).2 _ rfl).1 (w_ret rfl rfl ((((((h.2.2 _ rfl).2 _ rfl).2 _ rfl).2 _ rfl).2 _ rfl).2 _ rfl)))))))))))))))

theorem b_Inspection_collect_0 {a0 : Nat} {a1 : Nat} {σ : iS} {Q : iO → iS → Prop} (h : sK σ a0 = 5 ∧ (sK σ a0 = 5 ∧ (((110 ≤ sK σ (sR σ 160 a0) ∧ sK σ (sR σ 160 a0) < 200) ∧ (a1 = 0 ∨ sK σ a1 + 110 = sK σ (sR σ 160 a0)) ∧ iIn (sI σ 161 a0) (sN σ (sR σ 160 a0))) ∧ (∀ σ1, σ1 = wB σ (sR σ 160 a0) (sI σ 161 a0).toNatClampNeg a1 → sK σ1 a0 = 5 ∧ (sK σ1 a0 = 5 ∧ (∀ σ2, σ2 = wI σ1 161 a0 ((sI σ1 161 a0) + (1 : Int32)) → sK σ2 a0 = 5 ∧ (Q (.inl (some (vi (sI σ2 161 a0)))) σ2))))))) : ca J_Inspection_collect [vr a0, vr a1] σ Q :=
  w_go rfl rfl (w_gd rfl rfl rfl h.1 (w_go rfl rfl (w_gd rfl rfl rfl h.2.1 (w_go rfl rfl (w_gd rfl rfl rfl h.2.2.1 (w_go rfl rfl (w_go rfl rfl (w_gd rfl rfl rfl (h.2.2.2 _ rfl).1 (w_ic rfl kc_1 (w_go rfl rfl (w_gd rfl rfl rfl (h.2.2.2 _ rfl).2.1 (w_go rfl rfl (w_gd rfl rfl rfl ((h.2.2.2 _ rfl).2.2 _ rfl).1 (w_retG rfl rfl rfl (fun q => Bool.noConfusion q) ((h.2.2.2 _ rfl).2.2 _ rfl).2))))))))))))))

theorem b_Inspection_takeCount_0 {a0 : Nat} {x1 : Int32} {σ : iS} {Q : iO → iS → Prop} (h : sK σ a0 = 5 ∧ ((sK σ (sR σ 162 a0) = 101 ∧ iIn x1 (sN σ (sR σ 162 a0))) ∧ (sK σ a0 = 5 ∧ ((sK σ (sR σ 162 a0) = 101 ∧ iIn x1 (sN σ (sR σ 162 a0))) ∧ (∀ σ1, σ1 = wA σ (sR σ 162 a0) x1.toNatClampNeg (0 : Int32) → Q (.inl (some (vi (sA σ (sR σ 162 a0) x1.toNatClampNeg)))) σ1))))) : ca J_Inspection_takeCount [vr a0, vi x1] σ Q :=
  w_go rfl rfl (w_gd rfl rfl rfl h.1 (w_go rfl rfl (w_gd rfl rfl rfl ⟨Or.inr h.2.1.1, h.2.1.2⟩ (w_gd rfl rfl rfl (Nat.le_of_ble_eq_true rfl) (w_go rfl rfl (w_gd rfl rfl rfl h.2.2.1 (w_go rfl rfl (w_ic rfl kc_0 (w_gd rfl rfl rfl h.2.2.2.1 (w_go rfl rfl (w_retG rfl rfl rfl (fun q => Bool.noConfusion q) (h.2.2.2.2 _ rfl))))))))))))

theorem b_Inspection_goThrough_0 {a0 : Nat} {a1 : Nat} {σ : iS} {Q : iO → iS → Prop} (h : sK σ a0 = 5 ∧ (sK σ a1 = 2 ∧ ca J_Text_copyTo [vr a1, vr (sR σ 163 a0)] σ (cV (fun σ1 => sK σ1 a0 = 5 ∧ ca J_Inspection_goOver [vr a0, vr a1, vi (0 : Int32)] σ1 (cI (fun r2 σ2 => sK σ2 a0 = 5 ∧ ca J_Inspection_goOver [vr a0, vr a1, vi (1 : Int32)] σ2 (cI (fun r3 σ3 => sK σ3 a0 = 5 ∧ (sK σ3 a1 = 2 ∧ ca J_Text_size [vr a1] σ3 (cI (fun r4 σ4 => sK σ4 a1 = 2 ∧ ca J_Text_fillFrom [vr a1, vr (sR σ3 163 a0), vi (0 : Int32), vi r4] σ4 (cV (fun σ5 => sK σ5 a0 = 5 ∧ (∀ σ6, σ6 = wI σ5 161 a0 (0 : Int32) → Q (.inl (some (vi r3))) σ6)) Q)) Q))) Q)) Q)) Q))) : ca J_Inspection_goThrough [vr a0, vr a1] σ Q :=
  w_go rfl rfl (w_go rfl rfl (w_gd rfl rfl rfl h.1 (w_cV rfl rfl rfl ⟨⟨Nat.le_of_ble_eq_true rfl, Nat.le_of_ble_eq_true rfl⟩, h.2.1⟩ rfl (fun _ => rfl) h.2.2 (fun σ1 k1 => w_go rfl rfl (w_go rfl rfl (w_ic rfl kc_0 (w_cI rfl rfl rfl ⟨⟨Nat.le_of_ble_eq_true rfl, Nat.le_of_ble_eq_true rfl⟩, k1.1⟩ rfl (fun _ => rfl) k1.2 (fun r2 σ2 k2 => w_go rfl rfl (w_go rfl rfl (w_go rfl rfl (w_ic rfl kc_1 (w_cI rfl rfl rfl ⟨⟨Nat.le_of_ble_eq_true rfl, Nat.le_of_ble_eq_true rfl⟩, k2.1⟩ rfl (fun _ => rfl) k2.2 (fun r3 σ3 k3 => w_gd rfl rfl rfl (Nat.le_of_ble_eq_true rfl) (w_go rfl rfl (w_go rfl rfl (w_gd rfl rfl rfl k3.1 (w_ic rfl kc_0 (w_go rfl rfl (w_cI rfl rfl rfl ⟨⟨Nat.le_of_ble_eq_true rfl, Nat.le_of_ble_eq_true rfl⟩, k3.2.1⟩ rfl (fun _ => rfl) k3.2.2 (fun r4 σ4 k4 => w_cV rfl rfl rfl ⟨⟨Nat.le_of_ble_eq_true rfl, Nat.le_of_ble_eq_true rfl⟩, k4.1⟩ rfl (fun _ => rfl) k4.2 (fun σ5 k5 => w_go rfl rfl (w_ic rfl kc_0 (w_gd rfl rfl rfl k5.1 (w_go rfl rfl (w_retG rfl rfl rfl (fun q => Bool.noConfusion q) (k5.2 _ rfl))))))))))))))))))))))))))

theorem b_Inspection_goOver_0 {a0 : Nat} {a1 : Nat} {x2 : Int32} {σ : iS} {Q : iO → iS → Prop} (h : wp J_Inspection_goOver 2 [vr a0, vr a1, vi x2, vi (0 : Int32), vl 0, vl 0, vl 0] [] σ Q) : ca J_Inspection_goOver [vr a0, vr a1, vi x2] σ Q :=
  w_ic rfl kc_0 (w_gd rfl rfl rfl (Nat.le_of_ble_eq_true rfl) (h))

theorem b_Inspection_goOver_2 {a0 : Nat} {a1 : Nat} {x2 : Int32} {x3 : Int32} {l4 : iV} {l5 : iV} {l6 : iV} {σ : iS} {Q : iO → iS → Prop} (h : sK σ a0 = 5 ∧ (((sI σ 161 a0) ≤ x3 → wp J_Inspection_goOver 34 [vr a0, vr a1, vi x2, vi (0 : Int32), vi (0 : Int32), vi (0 : Int32), l6] [] σ Q) ∧ (¬ ((sI σ 161 a0) ≤ x3) → sK σ a0 = 5 ∧ (((110 ≤ sK σ (sR σ 160 a0) ∧ sK σ (sR σ 160 a0) < 200) ∧ iIn x3 (sN σ (sR σ 160 a0))) ∧ (sK σ (sB σ (sR σ 160 a0) x3.toNatClampNeg) = 4 ∧ ca J_Phrase_startIn [vr (sB σ (sR σ 160 a0) x3.toNatClampNeg), vr a1] σ (cV (fun σ2 => wp J_Inspection_goOver 2 [vr a0, vr a1, vi x2, vi (x3 + (1 : Int32)), l4, l5, l6] [] σ2 Q) Q)))))) : wp J_Inspection_goOver 2 [vr a0, vr a1, vi x2, vi x3, l4, l5, l6] [] σ Q :=
  w_go rfl rfl (w_go rfl rfl (w_gd rfl rfl rfl h.1 (w_br rfl rfl rfl rfl (fun c1 => w_ic rfl kc_0 (w_gd rfl rfl rfl (Nat.le_of_ble_eq_true rfl) (w_ic rfl kc_0 (w_gd rfl rfl rfl (Nat.le_of_ble_eq_true rfl) (w_ic rfl kc_0 (w_gd rfl rfl rfl (Nat.le_of_ble_eq_true rfl) ((h.2.1 c1)))))))) (fun c1 => w_go rfl rfl (w_gd rfl rfl rfl (h.2.2 c1).1 (w_go rfl rfl (w_gd rfl rfl rfl (h.2.2 c1).2.1 (w_go rfl rfl (w_cV rfl rfl rfl ⟨⟨Nat.le_of_ble_eq_true rfl, Nat.le_of_ble_eq_true rfl⟩, (h.2.2 c1).2.2.1⟩ rfl (fun _ => rfl) (h.2.2 c1).2.2.2 (fun σ2 k2 => w_inc rfl rfl kc_1 (w_go rfl rfl (k2))))))))))))

theorem b_Inspection_goOver_34 {a0 : Nat} {a1 : Nat} {x2 : Int32} {x3 : Int32} {x4 : Int32} {x5 : Int32} {l6 : iV} {σ : iS} {Q : iO → iS → Prop} (h : sK σ a1 = 2 ∧ ca J_Text_size [vr a1] σ (cI (fun r1 σ1 => (r1 ≤ x5 → Q (.inl (some (vi x3))) σ1) ∧ (¬ (r1 ≤ x5) → (x4 ≤ x5 → sK σ1 a0 = 5 ∧ ca J_Inspection_firstMatch [vr a0, vr a1, vi x5, vi x2] σ1 (cA (fun r4 σ4 => wp J_Inspection_goOver 62 [vr a0, vr a1, vi x2, vi x3, vi x4, vi x5, l6] [vr r4] σ4 Q) Q)) ∧ (¬ (x4 ≤ x5) → wp J_Inspection_goOver 62 [vr a0, vr a1, vi x2, vi x3, vi x4, vi x5, l6] [vr 0] σ1 Q))) Q)) : wp J_Inspection_goOver 34 [vr a0, vr a1, vi x2, vi x3, vi x4, vi x5, l6] [] σ Q :=
  w_go rfl rfl (w_go rfl rfl (w_cI rfl rfl rfl ⟨⟨Nat.le_of_ble_eq_true rfl, Nat.le_of_ble_eq_true rfl⟩, h.1⟩ rfl (fun _ => rfl) h.2 (fun r1 σ1 k1 => w_br rfl rfl rfl rfl (fun c2 => w_go rfl rfl (w_retG rfl rfl rfl (fun q => Bool.noConfusion q) (k1.1 c2))) (fun c2 => w_go rfl rfl (w_go rfl rfl (w_br rfl rfl rfl rfl (fun c3 => w_go rfl rfl (w_go rfl rfl (w_go rfl rfl (w_go rfl rfl (w_cA rfl rfl rfl ⟨⟨Nat.le_of_ble_eq_true rfl, Nat.le_of_ble_eq_true rfl⟩, ((k1.2 c2).1 c3).1⟩ rfl (fun _ => rfl) ((k1.2 c2).1 c3).2 (fun r4 σ4 k4 => k4)))))) (fun c3 => w_go rfl rfl (w_go rfl rfl (((k1.2 c2).2 c3))))))))))

theorem b_Inspection_goOver_62 {a0 : Nat} {a1 : Nat} {x2 : Int32} {x3 : Int32} {x4 : Int32} {x5 : Int32} {l6 : iV} {ta0 : Nat} {σ : iS} {Q : iO → iS → Prop} (h : (ta0 = 0 → wp J_Inspection_goOver 97 [vr a0, vr a1, vi x2, vi x3, vi x4, vi x5, vr ta0] [] σ Q) ∧ (¬ (ta0 = 0) → sK σ ta0 = 4 ∧ ca J_Phrase_noteMatch [vr ta0, vi x5] σ (cV (fun σ2 => sK σ2 a0 = 5 ∧ ca J_Inspection_act [vr a0, vr ta0, vi x5] σ2 (cV (fun σ3 => sK σ3 ta0 = 4 ∧ (wp J_Inspection_goOver 97 [vr a0, vr a1, vi x2, vi (x3 + (1 : Int32)), vi (x5 + (sI σ3 133 ta0)), vi x5, vr ta0] [] σ3 Q)) Q)) Q))) : wp J_Inspection_goOver 62 [vr a0, vr a1, vi x2, vi x3, vi x4, vi x5, l6] [vr ta0] σ Q :=
  w_gd rfl rfl rfl (Nat.le_of_ble_eq_true rfl) (w_go rfl rfl (w_br rfl rfl rfl rfl (fun c1 => (h.1 c1)) (fun c1 => w_go rfl rfl (w_go rfl rfl (w_cV rfl rfl rfl ⟨⟨Nat.le_of_ble_eq_true rfl, Nat.le_of_ble_eq_true rfl⟩, (h.2 c1).1⟩ rfl (fun _ => rfl) (h.2 c1).2 (fun σ2 k2 => w_go rfl rfl (w_go rfl rfl (w_go rfl rfl (w_cV rfl rfl rfl ⟨⟨Nat.le_of_ble_eq_true rfl, Nat.le_of_ble_eq_true rfl⟩, k2.1⟩ rfl (fun _ => rfl) k2.2 (fun σ3 k3 => w_inc rfl rfl kc_1 (w_go rfl rfl (w_go rfl rfl (w_gd rfl rfl rfl k3.1 (w_go rfl rfl (w_gd rfl rfl rfl (Nat.le_of_ble_eq_true rfl) (k3.2))))))))))))))))

theorem b_Inspection_goOver_97 {a0 : Nat} {a1 : Nat} {x2 : Int32} {x3 : Int32} {x4 : Int32} {x5 : Int32} {a6 : Nat} {σ : iS} {Q : iO → iS → Prop} (h : wp J_Inspection_goOver 34 [vr a0, vr a1, vi x2, vi x3, vi x4, vi (x5 + (1 : Int32)), vr a6] [] σ Q) : wp J_Inspection_goOver 97 [vr a0, vr a1, vi x2, vi x3, vi x4, vi x5, vr a6] [] σ Q :=
  w_inc rfl rfl kc_1 (w_go rfl rfl (h))

theorem b_Inspection_firstMatch_0 {a0 : Nat} {a1 : Nat} {x2 : Int32} {x3 : Int32} {σ : iS} {Q : iO → iS → Prop} (h : wp J_Inspection_firstMatch 3 [vr a0, vr a1, vi x2, vi x3, vi (0 : Int32), vl 0] [] σ Q) : ca J_Inspection_firstMatch [vr a0, vr a1, vi x2, vi x3] σ Q :=
  w_ic rfl kc_0 (w_gd rfl rfl rfl (Nat.le_of_ble_eq_true rfl) (h))

theorem b_Inspection_firstMatch_3 {a0 : Nat} {a1 : Nat} {x2 : Int32} {x3 : Int32} {x4 : Int32} {l5 : iV} {σ : iS} {Q : iO → iS → Prop} (h : sK σ a0 = 5 ∧ (((sI σ 161 a0) ≤ x4 → Q (.inl (some (vr 0))) σ) ∧ (¬ ((sI σ 161 a0) ≤ x4) → sK σ a0 = 5 ∧ (((110 ≤ sK σ (sR σ 160 a0) ∧ sK σ (sR σ 160 a0) < 200) ∧ iIn x4 (sN σ (sR σ 160 a0))) ∧ (sK σ (sB σ (sR σ 160 a0) x4.toNatClampNeg) = 4 ∧ ca J_Phrase_isReplacing [vr (sB σ (sR σ 160 a0) x4.toNatClampNeg)] σ (cI (fun r2 σ2 => (r2 ≠ x3 → wp J_Inspection_firstMatch 43 [vr a0, vr a1, vi x2, vi x3, vi x4, vr (sB σ (sR σ 160 a0) x4.toNatClampNeg)] [] σ2 Q) ∧ (¬ (r2 ≠ x3) → sK σ2 (sB σ (sR σ 160 a0) x4.toNatClampNeg) = 4 ∧ ca J_Phrase_matches [vr (sB σ (sR σ 160 a0) x4.toNatClampNeg), vr a1, vi x2] σ2 (cI (fun r4 σ4 => (r4 = 0 → wp J_Inspection_firstMatch 43 [vr a0, vr a1, vi x2, vi x3, vi x4, vr (sB σ (sR σ 160 a0) x4.toNatClampNeg)] [] σ4 Q) ∧ (¬ (r4 = 0) → Q (.inl (some (vr (sB σ (sR σ 160 a0) x4.toNatClampNeg)))) σ4)) Q))) Q)))))) : wp J_Inspection_firstMatch 3 [vr a0, vr a1, vi x2, vi x3, vi x4, l5] [] σ Q :=
  w_go rfl rfl (w_go rfl rfl (w_gd rfl rfl rfl h.1 (w_br rfl rfl rfl rfl (fun c1 => w_go rfl rfl (w_ret rfl rfl (h.2.1 c1))) (fun c1 => w_go rfl rfl (w_gd rfl rfl rfl (h.2.2 c1).1 (w_go rfl rfl (w_gd rfl rfl rfl (h.2.2 c1).2.1 (w_gd rfl rfl rfl (Nat.le_of_ble_eq_true rfl) (w_go rfl rfl (w_cI rfl rfl rfl ⟨⟨Nat.le_of_ble_eq_true rfl, Nat.le_of_ble_eq_true rfl⟩, (h.2.2 c1).2.2.1⟩ rfl (fun _ => rfl) (h.2.2 c1).2.2.2 (fun r2 σ2 k2 => w_go rfl rfl (w_br rfl rfl rfl rfl (fun c3 => (k2.1 c3)) (fun c3 => w_go rfl rfl (w_go rfl rfl (w_go rfl rfl (w_cI rfl rfl rfl ⟨⟨Nat.le_of_ble_eq_true rfl, Nat.le_of_ble_eq_true rfl⟩, (k2.2 c3).1⟩ rfl (fun _ => rfl) (k2.2 c3).2 (fun r4 σ4 k4 => w_br rfl rfl rfl rfl (fun c5 => (k4.1 c5)) (fun c5 => w_go rfl rfl (w_ret rfl rfl (k4.2 c5))))))))))))))))))))

theorem b_Inspection_firstMatch_43 {a0 : Nat} {a1 : Nat} {x2 : Int32} {x3 : Int32} {x4 : Int32} {a5 : Nat} {σ : iS} {Q : iO → iS → Prop} (h : wp J_Inspection_firstMatch 3 [vr a0, vr a1, vi x2, vi x3, vi (x4 + (1 : Int32)), vr a5] [] σ Q) : wp J_Inspection_firstMatch 43 [vr a0, vr a1, vi x2, vi x3, vi x4, vr a5] [] σ Q :=
  w_inc rfl rfl kc_1 (w_go rfl rfl (h))

theorem b_Inspection_act_0 {a0 : Nat} {a1 : Nat} {x2 : Int32} {σ : iS} {Q : iO → iS → Prop} (h : sK σ a1 = 4 ∧ (((sR σ 131 a1) ≠ 0 → wp J_Inspection_act 23 [vr a0, vr a1, vi x2, vi (0 : Int32)] [] σ Q) ∧ (¬ ((sR σ 131 a1) ≠ 0) → sK σ a0 = 5 ∧ (sK σ a1 = 4 ∧ ((sK σ (sR σ 162 a0) = 101 ∧ iIn (sI σ 130 a1) (sN σ (sR σ 162 a0))) ∧ ((sK σ (sR σ 162 a0) = 101 ∧ iIn (sI σ 130 a1) (sN σ (sR σ 162 a0))) ∧ (∀ σ2, σ2 = wA σ (sR σ 162 a0) (sI σ 130 a1).toNatClampNeg ((sA σ (sR σ 162 a0) (sI σ 130 a1).toNatClampNeg) + (1 : Int32)) → Q (.inl none) σ2))))))) : ca J_Inspection_act [vr a0, vr a1, vi x2] σ Q :=
  w_go rfl rfl (w_gd rfl rfl rfl h.1 (w_br rfl rfl rfl rfl (fun c1 => w_ic rfl kc_0 (w_gd rfl rfl rfl (Nat.le_of_ble_eq_true rfl) ((h.2.1 c1)))) (fun c1 => w_go rfl rfl (w_gd rfl rfl rfl (h.2.2 c1).1 (w_go rfl rfl (w_gd rfl rfl rfl (h.2.2 c1).2.1 (w_go rfl rfl (w_gd rfl rfl rfl ⟨Or.inr (h.2.2 c1).2.2.1.1, (h.2.2 c1).2.2.1.2⟩ (w_ic rfl kc_1 (w_go rfl rfl (w_gd rfl rfl rfl (h.2.2 c1).2.2.2.1 (w_ret rfl rfl ((h.2.2 c1).2.2.2.2 _ rfl)))))))))))))

theorem b_Inspection_act_23 {a0 : Nat} {a1 : Nat} {x2 : Int32} {x3 : Int32} {σ : iS} {Q : iO → iS → Prop} (h : sK σ a1 = 4 ∧ (((sI σ 133 a1) ≤ x3 → Q (.inl none) σ) ∧ (¬ ((sI σ 133 a1) ≤ x3) → sK σ a0 = 5 ∧ (sK σ a1 = 4 ∧ (sK σ (sR σ 131 a1) = 2 ∧ ((sK σ (sR σ 64 (sR σ 131 a1)) = 101 ∧ iIn x3 (sN σ (sR σ 64 (sR σ 131 a1)))) ∧ ((sK σ (sR σ 163 a0) = 101 ∧ iIn (x2 + x3) (sN σ (sR σ 163 a0))) ∧ (∀ σ2, σ2 = wA σ (sR σ 163 a0) (x2 + x3).toNatClampNeg (sA σ (sR σ 64 (sR σ 131 a1)) x3.toNatClampNeg) → wp J_Inspection_act 23 [vr a0, vr a1, vi x2, vi (x3 + (1 : Int32))] [] σ2 Q)))))))) : wp J_Inspection_act 23 [vr a0, vr a1, vi x2, vi x3] [] σ Q :=
  w_go rfl rfl (w_go rfl rfl (w_gd rfl rfl rfl h.1 (w_br rfl rfl rfl rfl (fun c1 => w_ret rfl rfl (h.2.1 c1)) (fun c1 => w_go rfl rfl (w_gd rfl rfl rfl (h.2.2 c1).1 (w_go rfl rfl (w_go rfl rfl (w_go rfl rfl (w_go rfl rfl (w_gd rfl rfl rfl (h.2.2 c1).2.1 (w_gd rfl rfl rfl (h.2.2 c1).2.2.1 (w_go rfl rfl (w_gd rfl rfl rfl ⟨Or.inr (h.2.2 c1).2.2.2.1.1, (h.2.2 c1).2.2.2.1.2⟩ (w_gd rfl rfl rfl (h.2.2 c1).2.2.2.2.1 (w_inc rfl rfl kc_1 (w_go rfl rfl (((h.2.2 c1).2.2.2.2.2 _ rfl))))))))))))))))))

theorem b_Inspection_exchange_0 {a0 : Nat} {a1 : Nat} {a2 : Nat} {a3 : Nat} {a4 : Nat} {σ : iS} {Q : iO → iS → Prop} (h : sK σ a0 = 5 ∧ (sK σ a1 = 2 ∧ ca J_Text_copyTo [vr a1, vr (sR σ 163 a0)] σ (cV (fun σ1 => sK σ1 a2 = 3 ∧ ca J_Region_beginIn [vr a2, vr a1] σ1 (cI (fun r2 σ2 => sK σ2 a2 = 3 ∧ ca J_Region_endIn [vr a2, vr a1] σ2 (cI (fun r3 σ3 => wp J_Inspection_exchange 29 [vr a0, vr a1, vr a2, vr a3, vr a4, vi r2, vi r3, vi (0 : Int32), vi r2, vl 0] [] σ3 Q) Q)) Q)) Q))) : ca J_Inspection_exchange [vr a0, vr a1, vr a2, vr a3, vr a4] σ Q :=
  w_go rfl rfl (w_go rfl rfl (w_gd rfl rfl rfl h.1 (w_cV rfl rfl rfl ⟨⟨Nat.le_of_ble_eq_true rfl, Nat.le_of_ble_eq_true rfl⟩, h.2.1⟩ rfl (fun _ => rfl) h.2.2 (fun σ1 k1 => w_go rfl rfl (w_go rfl rfl (w_cI rfl rfl rfl ⟨⟨Nat.le_of_ble_eq_true rfl, Nat.le_of_ble_eq_true rfl⟩, k1.1⟩ rfl (fun _ => rfl) k1.2 (fun r2 σ2 k2 => w_gd rfl rfl rfl (Nat.le_of_ble_eq_true rfl) (w_go rfl rfl (w_go rfl rfl (w_cI rfl rfl rfl ⟨⟨Nat.le_of_ble_eq_true rfl, Nat.le_of_ble_eq_true rfl⟩, k2.1⟩ rfl (fun _ => rfl) k2.2 (fun r3 σ3 k3 => w_gd rfl rfl rfl (Nat.le_of_ble_eq_true rfl) (w_ic rfl kc_0 (w_gd rfl rfl rfl (Nat.le_of_ble_eq_true rfl) (w_go rfl rfl (w_gd rfl rfl rfl (Nat.le_of_ble_eq_true rfl) (k3))))))))))))))))

theorem b_Inspection_exchange_29 {a0 : Nat} {a1 : Nat} {a2 : Nat} {a3 : Nat} {a4 : Nat} {x5 : Int32} {x6 : Int32} {x7 : Int32} {x8 : Int32} {l9 : iV} {σ : iS} {Q : iO → iS → Prop} (h : (x6 ≤ x8 → sK σ a0 = 5 ∧ (sK σ a1 = 2 ∧ ca J_Text_size [vr a1] σ (cI (fun r2 σ2 => sK σ2 a1 = 2 ∧ ca J_Text_fillFrom [vr a1, vr (sR σ 163 a0), vi (0 : Int32), vi r2] σ2 (cV (fun σ3 => Q (.inl (some (vi x7))) σ3) Q)) Q))) ∧ (¬ (x6 ≤ x8) → sK σ a1 = 2 ∧ ((sK σ (sR σ 64 a1) = 101 ∧ iIn x8 (sN σ (sR σ 64 a1))) ∧ (sK σ a3 = 2 ∧ ca J_Text_firstPlaceOfSign [vr a3, vi (sA σ (sR σ 64 a1) x8.toNatClampNeg)] σ (cI (fun r4 σ4 => (r4 = (-1 : Int32) → wp J_Inspection_exchange 73 [vr a0, vr a1, vr a2, vr a3, vr a4, vi x5, vi x6, vi x7, vi x8, vi r4] [] σ4 Q) ∧ (¬ (r4 = (-1 : Int32)) → sK σ4 a0 = 5 ∧ (sK σ4 a4 = 2 ∧ ((sK σ4 (sR σ4 64 a4) = 101 ∧ iIn r4 (sN σ4 (sR σ4 64 a4))) ∧ ((sK σ4 (sR σ4 163 a0) = 101 ∧ iIn x8 (sN σ4 (sR σ4 163 a0))) ∧ (∀ σ6, σ6 = wA σ4 (sR σ4 163 a0) x8.toNatClampNeg (sA σ4 (sR σ4 64 a4) r4.toNatClampNeg) → wp J_Inspection_exchange 73 [vr a0, vr a1, vr a2, vr a3, vr a4, vi x5, vi x6, vi (x7 + (1 : Int32)), vi x8, vi r4] [] σ6 Q)))))) Q))))) : wp J_Inspection_exchange 29 [vr a0, vr a1, vr a2, vr a3, vr a4, vi x5, vi x6, vi x7, vi x8, l9] [] σ Q :=
  w_go rfl rfl (w_go rfl rfl (w_br rfl rfl rfl rfl (fun c1 => w_go rfl rfl (w_go rfl rfl (w_gd rfl rfl rfl (h.1 c1).1 (w_ic rfl kc_0 (w_go rfl rfl (w_cI rfl rfl rfl ⟨⟨Nat.le_of_ble_eq_true rfl, Nat.le_of_ble_eq_true rfl⟩, (h.1 c1).2.1⟩ rfl (fun _ => rfl) (h.1 c1).2.2 (fun r2 σ2 k2 => w_cV rfl rfl rfl ⟨⟨Nat.le_of_ble_eq_true rfl, Nat.le_of_ble_eq_true rfl⟩, k2.1⟩ rfl (fun _ => rfl) k2.2 (fun σ3 k3 => w_go rfl rfl (w_retG rfl rfl rfl (fun q => Bool.noConfusion q) k3))))))))) (fun c1 => w_go rfl rfl (w_go rfl rfl (w_gd rfl rfl rfl (h.2 c1).1 (w_go rfl rfl (w_gd rfl rfl rfl ⟨Or.inr (h.2 c1).2.1.1, (h.2 c1).2.1.2⟩ (w_cI rfl rfl rfl ⟨⟨Nat.le_of_ble_eq_true rfl, Nat.le_of_ble_eq_true rfl⟩, (h.2 c1).2.2.1⟩ rfl (fun _ => rfl) (h.2 c1).2.2.2 (fun r4 σ4 k4 => w_gd rfl rfl rfl (Nat.le_of_ble_eq_true rfl) (w_go rfl rfl (w_ic rfl kc_m1 (w_br rfl rfl rfl rfl (fun c5 => (k4.1 c5)) (fun c5 => w_go rfl rfl (w_gd rfl rfl rfl (k4.2 c5).1 (w_go rfl rfl (w_go rfl rfl (w_gd rfl rfl rfl (k4.2 c5).2.1 (w_go rfl rfl (w_gd rfl rfl rfl ⟨Or.inr (k4.2 c5).2.2.1.1, (k4.2 c5).2.2.1.2⟩ (w_gd rfl rfl rfl (k4.2 c5).2.2.2.1 (w_inc rfl rfl kc_1 (((k4.2 c5).2.2.2.2 _ rfl)))))))))))))))))))))))

theorem b_Inspection_exchange_73 {a0 : Nat} {a1 : Nat} {a2 : Nat} {a3 : Nat} {a4 : Nat} {x5 : Int32} {x6 : Int32} {x7 : Int32} {x8 : Int32} {x9 : Int32} {σ : iS} {Q : iO → iS → Prop} (h : wp J_Inspection_exchange 29 [vr a0, vr a1, vr a2, vr a3, vr a4, vi x5, vi x6, vi x7, vi (x8 + (1 : Int32)), vi x9] [] σ Q) : wp J_Inspection_exchange 73 [vr a0, vr a1, vr a2, vr a3, vr a4, vi x5, vi x6, vi x7, vi x8, vi x9] [] σ Q :=
  w_inc rfl rfl kc_1 (w_go rfl rfl (h))

theorem b_Part_init_0 {a0 : Nat} {a1 : Nat} {a2 : Nat} {σ : iS} {Q : iO → iS → Prop} (h : a0 ≠ 0 ∧ (sK σ a0 = 6 ∧ (∀ σ1, σ1 = wR σ 192 a0 a1 → sK σ1 a0 = 6 ∧ (∀ σ2, σ2 = wR σ1 193 a0 a2 → Q (.inl none) σ2)))) : ca J_Part_init [vr a0, vr a1, vr a2] σ Q :=
  w_go rfl rfl (w_gd rfl rfl rfl ⟨Nat.le_of_ble_eq_true rfl, h.1⟩ (w_go rfl rfl (w_go rfl rfl (w_gd rfl rfl rfl h.2.1 (w_go rfl rfl (w_go rfl rfl (w_gd rfl rfl rfl (h.2.2 _ rfl).1 (w_ret rfl rfl ((h.2.2 _ rfl).2 _ rfl)))))))))

theorem b_Part_length_0 {a0 : Nat} {σ : iS} {Q : iO → iS → Prop} (h : sK σ a0 = 6 ∧ (((sR σ 193 a0) ≠ 0 → sK σ a0 = 6 ∧ (sK σ a0 = 6 ∧ (sK σ (sR σ 192 a0) = 2 ∧ ca J_Text_firstPlaceOf [vr (sR σ 192 a0), vr (sR σ 193 a0)] σ (cI (fun r2 σ2 => wp J_Part_length 22 [vr a0, vl 0] [vi r2] σ2 Q) Q)))) ∧ (¬ ((sR σ 193 a0) ≠ 0) → wp J_Part_length 22 [vr a0, vl 0] [vi (-1 : Int32)] σ Q))) : ca J_Part_length [vr a0] σ Q :=
  w_go rfl rfl (w_gd rfl rfl rfl h.1 (w_br rfl rfl rfl rfl (fun c1 => w_go rfl rfl (w_gd rfl rfl rfl (h.2.1 c1).1 (w_go rfl rfl (w_gd rfl rfl rfl (h.2.1 c1).2.1 (w_cI rfl rfl rfl ⟨⟨Nat.le_of_ble_eq_true rfl, Nat.le_of_ble_eq_true rfl⟩, (h.2.1 c1).2.2.1⟩ rfl (fun _ => rfl) (h.2.1 c1).2.2.2 (fun r2 σ2 k2 => k2)))))) (fun c1 => w_ic rfl kc_m1 (w_go rfl rfl ((h.2.2 c1))))))

theorem b_Part_length_22 {a0 : Nat} {l1 : iV} {tx0 : Int32} {σ : iS} {Q : iO → iS → Prop} (h : (tx0 ≠ (-1 : Int32) → wp J_Part_length 39 [vr a0, vi tx0] [vi tx0] σ Q) ∧ (¬ (tx0 ≠ (-1 : Int32)) → sK σ a0 = 6 ∧ (sK σ (sR σ 192 a0) = 2 ∧ ca J_Text_size [vr (sR σ 192 a0)] σ (cI (fun r2 σ2 => wp J_Part_length 39 [vr a0, vi tx0] [vi r2] σ2 Q) Q)))) : wp J_Part_length 22 [vr a0, l1] [vi tx0] σ Q :=
  w_gd rfl rfl rfl (Nat.le_of_ble_eq_true rfl) (w_go rfl rfl (w_ic rfl kc_m1 (w_br rfl rfl rfl rfl (fun c1 => w_go rfl rfl ((h.1 c1))) (fun c1 => w_go rfl rfl (w_gd rfl rfl rfl (h.2 c1).1 (w_cI rfl rfl rfl ⟨⟨Nat.le_of_ble_eq_true rfl, Nat.le_of_ble_eq_true rfl⟩, (h.2 c1).2.1⟩ rfl (fun _ => rfl) (h.2 c1).2.2 (fun r2 σ2 k2 => w_go rfl rfl (k2))))))))

theorem b_Part_length_39 {a0 : Nat} {x1 : Int32} {tx0 : Int32} {σ : iS} {Q : iO → iS → Prop} (h : Q (.inl (some (vi tx0))) σ) : wp J_Part_length 39 [vr a0, vi x1] [vi tx0] σ Q :=
  w_retG rfl rfl rfl (fun q => Bool.noConfusion q) h

theorem b_Joining_init_0 {a0 : Nat} {σ : iS} {Q : iO → iS → Prop} (h : a0 ≠ 0 ∧ ((¬ (20 : Int32) < 0 ∧ (20 : Int32).toNatClampNeg ≤ 100000) ∧ (∀ σ1, σ1 = nA σ 116 (20 : Int32).toNatClampNeg → sK σ1 a0 = 7 ∧ (∀ σ2, σ2 = wR σ1 224 a0 (sX σ) → Q (.inl none) σ2)))) : ca J_Joining_init [vr a0] σ Q :=
  w_go rfl rfl (w_gd rfl rfl rfl ⟨Nat.le_of_ble_eq_true rfl, h.1⟩ (w_go rfl rfl (w_bp rfl kb_20 (w_gd rfl rfl rfl h.2.1 (w_gd rfl rfl rfl (h.2.2 _ rfl).1 (w_ret rfl rfl ((h.2.2 _ rfl).2 _ rfl)))))))

theorem b_Joining_collect_0 {a0 : Nat} {a1 : Nat} {σ : iS} {Q : iO → iS → Prop} (h : sK σ a0 = 7 ∧ (sK σ a0 = 7 ∧ (((110 ≤ sK σ (sR σ 224 a0) ∧ sK σ (sR σ 224 a0) < 200) ∧ (a1 = 0 ∨ sK σ a1 + 110 = sK σ (sR σ 224 a0)) ∧ iIn (sI σ 225 a0) (sN σ (sR σ 224 a0))) ∧ (∀ σ1, σ1 = wB σ (sR σ 224 a0) (sI σ 225 a0).toNatClampNeg a1 → sK σ1 a0 = 7 ∧ (sK σ1 a0 = 7 ∧ (∀ σ2, σ2 = wI σ1 225 a0 ((sI σ1 225 a0) + (1 : Int32)) → sK σ2 a0 = 7 ∧ (Q (.inl (some (vi (sI σ2 225 a0)))) σ2))))))) : ca J_Joining_collect [vr a0, vr a1] σ Q :=
  w_go rfl rfl (w_gd rfl rfl rfl h.1 (w_go rfl rfl (w_gd rfl rfl rfl h.2.1 (w_go rfl rfl (w_gd rfl rfl rfl h.2.2.1 (w_go rfl rfl (w_go rfl rfl (w_gd rfl rfl rfl (h.2.2.2 _ rfl).1 (w_ic rfl kc_1 (w_go rfl rfl (w_gd rfl rfl rfl (h.2.2.2 _ rfl).2.1 (w_go rfl rfl (w_gd rfl rfl rfl ((h.2.2.2 _ rfl).2.2 _ rfl).1 (w_retG rfl rfl rfl (fun q => Bool.noConfusion q) ((h.2.2.2 _ rfl).2.2 _ rfl).2))))))))))))))

theorem b_Joining_putInto_0 {a0 : Nat} {a1 : Nat} {x2 : Int32} {σ : iS} {Q : iO → iS → Prop} (h : sK σ a0 = 7 ∧ (sK σ a0 = 7 ∧ (∀ σ1, σ1 = wI σ 225 a0 (0 : Int32) → sK σ1 a0 = 7 ∧ (∀ σ2, σ2 = wI σ1 226 a0 x2 → (x2 < (1 : Int32) → wp J_Joining_putInto 28 [vr a0, vr a1, vi x2, vi (sI σ 225 a0), vl 0] [] σ2 Q) ∧ (¬ (x2 < (1 : Int32)) → sK σ2 a1 = 2 ∧ ca J_Text_size [vr a1] σ2 (cI (fun r4 σ4 => (x2 ≤ r4 → wp J_Joining_putInto 33 [vr a0, vr a1, vi x2, vi (sI σ 225 a0), vi (0 : Int32)] [] σ4 Q) ∧ (¬ (x2 ≤ r4) → wp J_Joining_putInto 28 [vr a0, vr a1, vi x2, vi (sI σ 225 a0), vl 0] [] σ4 Q)) Q)))))) : ca J_Joining_putInto [vr a0, vr a1, vi x2] σ Q :=
  w_go rfl rfl (w_gd rfl rfl rfl h.1 (w_gd rfl rfl rfl (Nat.le_of_ble_eq_true rfl) (w_go rfl rfl (w_ic rfl kc_0 (w_gd rfl rfl rfl h.2.1 (w_go rfl rfl (w_go rfl rfl (w_gd rfl rfl rfl (h.2.2 _ rfl).1 (w_go rfl rfl (w_ic rfl kc_1 (w_br rfl rfl rfl rfl (fun c3 => (((h.2.2 _ rfl).2 _ rfl).1 c3)) (fun c3 => w_go rfl rfl (w_go rfl rfl (w_cI rfl rfl rfl ⟨⟨Nat.le_of_ble_eq_true rfl, Nat.le_of_ble_eq_true rfl⟩, (((h.2.2 _ rfl).2 _ rfl).2 c3).1⟩ rfl (fun _ => rfl) (((h.2.2 _ rfl).2 _ rfl).2 c3).2 (fun r4 σ4 k4 => w_br rfl rfl rfl rfl (fun c5 => w_ic rfl kc_0 (w_gd rfl rfl rfl (Nat.le_of_ble_eq_true rfl) ((k4.1 c5)))) (fun c5 => (k4.2 c5)))))))))))))))))

theorem b_Joining_putInto_28 {a0 : Nat} {a1 : Nat} {x2 : Int32} {x3 : Int32} {l4 : iV} {σ : iS} {Q : iO → iS → Prop} (h : iBool (0 : Int32) ∧ Q (.inl (some (vi (0 : Int32)))) σ) : wp J_Joining_putInto 28 [vr a0, vr a1, vi x2, vi x3, l4] [] σ Q :=
  w_ic rfl kc_0 (w_retG rfl rfl rfl (fun _ => h.1) h.2)

theorem b_Joining_putInto_33 {a0 : Nat} {a1 : Nat} {x2 : Int32} {x3 : Int32} {x4 : Int32} {σ : iS} {Q : iO → iS → Prop} (h : (x3 ≤ x4 → iBool (1 : Int32) ∧ Q (.inl (some (vi (1 : Int32)))) σ) ∧ (¬ (x3 ≤ x4) → sK σ a0 = 7 ∧ (((110 ≤ sK σ (sR σ 224 a0) ∧ sK σ (sR σ 224 a0) < 200) ∧ iIn x4 (sN σ (sR σ 224 a0))) ∧ (sK σ a0 = 7 ∧ ca J_Joining_putPart [vr a0, vr (sB σ (sR σ 224 a0) x4.toNatClampNeg), vr a1] σ (cI (fun r2 σ2 => (r2 ≠ 0 → wp J_Joining_putInto 33 [vr a0, vr a1, vi x2, vi x3, vi (x4 + (1 : Int32))] [] σ2 Q) ∧ (¬ (r2 ≠ 0) → iBool (0 : Int32) ∧ Q (.inl (some (vi (0 : Int32)))) σ2)) Q))))) : wp J_Joining_putInto 33 [vr a0, vr a1, vi x2, vi x3, vi x4] [] σ Q :=
  w_go rfl rfl (w_go rfl rfl (w_br rfl rfl rfl rfl (fun c1 => w_ic rfl kc_1 (w_retG rfl rfl rfl (fun _ => (h.1 c1).1) (h.1 c1).2)) (fun c1 => w_go rfl rfl (w_go rfl rfl (w_gd rfl rfl rfl (h.2 c1).1 (w_go rfl rfl (w_gd rfl rfl rfl (h.2 c1).2.1 (w_go rfl rfl (w_cI rfl rfl rfl ⟨⟨Nat.le_of_ble_eq_true rfl, Nat.le_of_ble_eq_true rfl⟩, (h.2 c1).2.2.1⟩ rfl (fun _ => rfl) (h.2 c1).2.2.2 (fun r2 σ2 k2 => w_br rfl rfl rfl rfl (fun c3 => w_inc rfl rfl kc_1 (w_go rfl rfl ((k2.1 c3)))) (fun c3 => w_ic rfl kc_0 (w_retG rfl rfl rfl (fun _ => (k2.2 c3).1) (k2.2 c3).2))))))))))))

theorem b_Joining_putPart_0 {a0 : Nat} {a1 : Nat} {a2 : Nat} {σ : iS} {Q : iO → iS → Prop} (h : sK σ a1 = 6 ∧ ca J_Part_length [vr a1] σ (cI (fun r1 σ1 => wp J_Joining_putPart 8 [vr a0, vr a1, vr a2, vi r1, vi (0 : Int32)] [] σ1 Q) Q)) : ca J_Joining_putPart [vr a0, vr a1, vr a2] σ Q :=
  w_go rfl rfl (w_cI rfl rfl rfl ⟨⟨Nat.le_of_ble_eq_true rfl, Nat.le_of_ble_eq_true rfl⟩, h.1⟩ rfl (fun _ => rfl) h.2 (fun r1 σ1 k1 => w_gd rfl rfl rfl (Nat.le_of_ble_eq_true rfl) (w_ic rfl kc_0 (w_gd rfl rfl rfl (Nat.le_of_ble_eq_true rfl) (k1)))))

theorem b_Joining_putPart_8 {a0 : Nat} {a1 : Nat} {a2 : Nat} {x3 : Int32} {x4 : Int32} {σ : iS} {Q : iO → iS → Prop} (h : (x3 ≤ x4 → iBool (1 : Int32) ∧ Q (.inl (some (vi (1 : Int32)))) σ) ∧ (¬ (x3 ≤ x4) → sK σ a0 = 7 ∧ (sK σ a2 = 2 ∧ ca J_Text_size [vr a2] σ (cI (fun r2 σ2 => ((sI σ 226 a0) ≤ r2 → sK σ2 a2 = 2 ∧ (sK σ2 a0 = 7 ∧ (sK σ2 a1 = 6 ∧ (sK σ2 (sR σ2 192 a1) = 2 ∧ ((sK σ2 (sR σ2 64 (sR σ2 192 a1)) = 101 ∧ iIn x4 (sN σ2 (sR σ2 64 (sR σ2 192 a1)))) ∧ ((sK σ2 (sR σ2 64 a2) = 101 ∧ iIn ((sI σ2 226 a0) - (1 : Int32)) (sN σ2 (sR σ2 64 a2))) ∧ (∀ σ4, σ4 = wA σ2 (sR σ2 64 a2) ((sI σ2 226 a0) - (1 : Int32)).toNatClampNeg (sA σ2 (sR σ2 64 (sR σ2 192 a1)) x4.toNatClampNeg) → sK σ4 a0 = 7 ∧ (sK σ4 a0 = 7 ∧ (∀ σ5, σ5 = wI σ4 226 a0 ((sI σ4 226 a0) + (1 : Int32)) → wp J_Joining_putPart 8 [vr a0, vr a1, vr a2, vi x3, vi (x4 + (1 : Int32))] [] σ5 Q))))))))) ∧ (¬ ((sI σ 226 a0) ≤ r2) → iBool (0 : Int32) ∧ Q (.inl (some (vi (0 : Int32)))) σ2)) Q)))) : wp J_Joining_putPart 8 [vr a0, vr a1, vr a2, vi x3, vi x4] [] σ Q :=
  w_go rfl rfl (w_go rfl rfl (w_br rfl rfl rfl rfl (fun c1 => w_ic rfl kc_1 (w_retG rfl rfl rfl (fun _ => (h.1 c1).1) (h.1 c1).2)) (fun c1 => w_go rfl rfl (w_gd rfl rfl rfl (h.2 c1).1 (w_go rfl rfl (w_cI rfl rfl rfl ⟨⟨Nat.le_of_ble_eq_true rfl, Nat.le_of_ble_eq_true rfl⟩, (h.2 c1).2.1⟩ rfl (fun _ => rfl) (h.2 c1).2.2 (fun r2 σ2 k2 => w_br rfl rfl rfl rfl (fun c3 => w_go rfl rfl (w_gd rfl rfl rfl (k2.1 c3).1 (w_go rfl rfl (w_gd rfl rfl rfl (k2.1 c3).2.1 (w_ic rfl kc_1 (w_go rfl rfl (w_go rfl rfl (w_gd rfl rfl rfl (k2.1 c3).2.2.1 (w_gd rfl rfl rfl (k2.1 c3).2.2.2.1 (w_go rfl rfl (w_gd rfl rfl rfl ⟨Or.inr (k2.1 c3).2.2.2.2.1.1, (k2.1 c3).2.2.2.2.1.2⟩ (w_gd rfl rfl rfl (k2.1 c3).2.2.2.2.2.1 (w_go rfl rfl (w_go rfl rfl (w_gd rfl rfl rfl ((k2.1 c3).2.2.2.2.2.2 _ rfl).1 (w_ic rfl kc_1 (w_go rfl rfl (w_gd rfl rfl rfl ((k2.1 c3).2.2.2.2.2.2 _ rfl).2.1 (w_inc rfl rfl kc_1 (w_go rfl rfl ((((k2.1 c3).2.2.2.2.2.2 _ rfl).2.2 _ rfl)))))))))))))))))))))) (fun c3 => w_ic rfl kc_0 (w_retG rfl rfl rfl (fun _ => (k2.2 c3).1) (k2.2 c3).2)))))))))

theorem b_Splitting_init_0 {a0 : Nat} {σ : iS} {Q : iO → iS → Prop} (h : a0 ≠ 0 ∧ ((¬ (8 : Int32) < 0 ∧ (8 : Int32).toNatClampNeg ≤ 100000) ∧ (∀ σ1, σ1 = nA σ 112 (8 : Int32).toNatClampNeg → sK σ1 a0 = 8 ∧ (∀ σ2, σ2 = wR σ1 256 a0 (sX σ) → (¬ (8 : Int32) < 0 ∧ (8 : Int32).toNatClampNeg ≤ 100000) ∧ (∀ σ3, σ3 = nA σ2 102 (8 : Int32).toNatClampNeg → sK σ3 a0 = 8 ∧ (∀ σ4, σ4 = wR σ3 257 a0 (sX σ2) → (¬ (20 : Int32) < 0 ∧ (20 : Int32).toNatClampNeg ≤ 100000) ∧ (∀ σ5, σ5 = nA σ4 112 (20 : Int32).toNatClampNeg → sK σ5 a0 = 8 ∧ (∀ σ6, σ6 = wR σ5 259 a0 (sX σ4) → (¬ (20 : Int32) < 0 ∧ (20 : Int32).toNatClampNeg ≤ 100000) ∧ (∀ σ7, σ7 = nA σ6 101 (20 : Int32).toNatClampNeg → sK σ7 a0 = 8 ∧ (∀ σ8, σ8 = wR σ7 261 a0 (sX σ6) → (¬ (20 : Int32) < 0 ∧ (20 : Int32).toNatClampNeg ≤ 100000) ∧ (∀ σ9, σ9 = nA σ8 101 (20 : Int32).toNatClampNeg → sK σ9 a0 = 8 ∧ (∀ σ10, σ10 = wR σ9 262 a0 (sX σ8) → (¬ (20 : Int32) < 0 ∧ (20 : Int32).toNatClampNeg ≤ 100000) ∧ (∀ σ11, σ11 = nA σ10 101 (20 : Int32).toNatClampNeg → sK σ11 a0 = 8 ∧ (∀ σ12, σ12 = wR σ11 263 a0 (sX σ10) → wp J_Splitting_init 54 [vr a0] [] σ12 Q)))))))))))))) : ca J_Splitting_init [vr a0] σ Q :=
  w_go rfl rfl (w_gd rfl rfl rfl ⟨Nat.le_of_ble_eq_true rfl, h.1⟩ (w_go rfl rfl (w_bp rfl kb_8 (w_gd rfl rfl rfl h.2.1 (w_gd rfl rfl rfl (h.2.2 _ rfl).1 (w_go rfl rfl (w_bp rfl kb_8 (w_gd rfl rfl rfl ((h.2.2 _ rfl).2 _ rfl).1 (w_gd rfl rfl rfl (((h.2.2 _ rfl).2 _ rfl).2 _ rfl).1 (w_go rfl rfl (w_bp rfl kb_20 (w_gd rfl rfl rfl ((((h.2.2 _ rfl).2 _ rfl).2 _ rfl).2 _ rfl).1 (w_gd rfl rfl rfl (((((h.2.2 _ rfl).2 _ rfl).2 _ rfl).2 _ rfl).2 _ rfl).1 (w_go rfl rfl (w_bp rfl kb_20 (w_gd rfl rfl rfl ((((((h.2.2 _ rfl).2 _ rfl).2 _ rfl).2 _ rfl).2 _ rfl).2 _ rfl).1 (w_gd rfl rfl rfl (((((((h.2.2 _ rfl).2 _ rfl).2 _ rfl).2 _ rfl).2 _ rfl).2 _ rfl).2 _ rfl).1 (w_go rfl rfl (w_bp rfl kb_20 (w_gd rfl rfl rfl ((((((((h.2.2 _ rfl).2 _ rfl).2 _ rfl).2 _ rfl).2 _ rfl).2 _ rfl).2 _ rfl).2 _ rfl).1 (w_gd rfl rfl rfl (((((((((h.2.2 _ rfl).2 _ rfl).2 _ rfl).2 _ rfl).2 _ rfl).2 _ rfl).2 _ rfl).2 _ rfl).2 _ rfl).1 (w_go rfl rfl (w_bp rfl kb_20 (w_gd rfl rfl rfl ((((((((((h.2.2 _ rfl).2 _ rfl).2 _ rfl).2 _ rfl).2 _ rfl).2 _ rfl).2 _ rfl).2 _ rfl).2 _ rfl).2 _ rfl).1 (w_gd rfl rfl rfl (((((((((((h.2.2 _ rfl).2 _ rfl).2 _ rfl).2 _ rfl).2 _ rfl).2 _ rfl).2 _ rfl).2 _ rfl).2 _ rfl).2 _ rfl).2 _ rfl).1 (((((((((((((h.2.2 _ rfl).2 _ rfl).2 _ rfl).2 _ rfl).2 _ rfl).2 _ rfl).2 _ rfl).2 _ rfl).2 _ rfl).2 _ rfl).2 _ rfl).2 _ rfl)))))))))))))))))))))))))))

theorem b_Splitting_init_54 {a0 : Nat} {σ : iS} {Q : iO → iS → Prop} (h : (¬ (60 : Int32) < 0 ∧ (60 : Int32).toNatClampNeg ≤ 100000) ∧ (∀ σ1, σ1 = nA σ 101 (60 : Int32).toNatClampNeg → sK σ1 a0 = 8 ∧ (∀ σ2, σ2 = wR σ1 266 a0 (sX σ) → Q (.inl none) σ2))) : wp J_Splitting_init 54 [vr a0] [] σ Q :=
  w_go rfl rfl (w_bp rfl kb_60 (w_gd rfl rfl rfl h.1 (w_gd rfl rfl rfl (h.2 _ rfl).1 (w_ret rfl rfl ((h.2 _ rfl).2 _ rfl)))))

theorem b_Splitting_collectDelimiter_0 {a0 : Nat} {a1 : Nat} {x2 : Int32} {σ : iS} {Q : iO → iS → Prop} (h : sK σ a0 = 8 ∧ (sK σ a0 = 8 ∧ (((110 ≤ sK σ (sR σ 256 a0) ∧ sK σ (sR σ 256 a0) < 200) ∧ (a1 = 0 ∨ sK σ a1 + 110 = sK σ (sR σ 256 a0)) ∧ iIn (sI σ 258 a0) (sN σ (sR σ 256 a0))) ∧ (∀ σ1, σ1 = wB σ (sR σ 256 a0) (sI σ 258 a0).toNatClampNeg a1 → sK σ1 a0 = 8 ∧ (sK σ1 a0 = 8 ∧ ((sK σ1 (sR σ1 257 a0) = 102 ∧ iBool x2 ∧ iIn (sI σ1 258 a0) (sN σ1 (sR σ1 257 a0))) ∧ (∀ σ2, σ2 = wA σ1 (sR σ1 257 a0) (sI σ1 258 a0).toNatClampNeg x2 → sK σ2 a0 = 8 ∧ (sK σ2 a0 = 8 ∧ (∀ σ3, σ3 = wI σ2 258 a0 ((sI σ2 258 a0) + (1 : Int32)) → sK σ3 a0 = 8 ∧ (Q (.inl (some (vi (sI σ3 258 a0)))) σ3)))))))))) : ca J_Splitting_collectDelimiter [vr a0, vr a1, vi x2] σ Q :=
  w_go rfl rfl (w_gd rfl rfl rfl h.1 (w_go rfl rfl (w_gd rfl rfl rfl h.2.1 (w_go rfl rfl (w_gd rfl rfl rfl h.2.2.1 (w_go rfl rfl (w_gd rfl rfl rfl (h.2.2.2 _ rfl).1 (w_go rfl rfl (w_gd rfl rfl rfl (h.2.2.2 _ rfl).2.1 (w_go rfl rfl (w_gd rfl rfl rfl (h.2.2.2 _ rfl).2.2.1 (w_go rfl rfl (w_go rfl rfl (w_gd rfl rfl rfl ((h.2.2.2 _ rfl).2.2.2 _ rfl).1 (w_ic rfl kc_1 (w_go rfl rfl (w_gd rfl rfl rfl ((h.2.2.2 _ rfl).2.2.2 _ rfl).2.1 (w_go rfl rfl (w_gd rfl rfl rfl (((h.2.2.2 _ rfl).2.2.2 _ rfl).2.2 _ rfl).1 (w_retG rfl rfl rfl (fun q => Bool.noConfusion q) (((h.2.2.2 _ rfl).2.2.2 _ rfl).2.2 _ rfl).2))))))))))))))))))))

theorem b_Splitting_collectReceiver_0 {a0 : Nat} {a1 : Nat} {σ : iS} {Q : iO → iS → Prop} (h : sK σ a0 = 8 ∧ (sK σ a0 = 8 ∧ (((110 ≤ sK σ (sR σ 259 a0) ∧ sK σ (sR σ 259 a0) < 200) ∧ (a1 = 0 ∨ sK σ a1 + 110 = sK σ (sR σ 259 a0)) ∧ iIn (sI σ 260 a0) (sN σ (sR σ 259 a0))) ∧ (∀ σ1, σ1 = wB σ (sR σ 259 a0) (sI σ 260 a0).toNatClampNeg a1 → sK σ1 a0 = 8 ∧ (sK σ1 a0 = 8 ∧ (∀ σ2, σ2 = wI σ1 260 a0 ((sI σ1 260 a0) + (1 : Int32)) → sK σ2 a0 = 8 ∧ (Q (.inl (some (vi (sI σ2 260 a0)))) σ2))))))) : ca J_Splitting_collectReceiver [vr a0, vr a1] σ Q :=
  w_go rfl rfl (w_gd rfl rfl rfl h.1 (w_go rfl rfl (w_gd rfl rfl rfl h.2.1 (w_go rfl rfl (w_gd rfl rfl rfl h.2.2.1 (w_go rfl rfl (w_go rfl rfl (w_gd rfl rfl rfl (h.2.2.2 _ rfl).1 (w_ic rfl kc_1 (w_go rfl rfl (w_gd rfl rfl rfl (h.2.2.2 _ rfl).2.1 (w_go rfl rfl (w_gd rfl rfl rfl ((h.2.2.2 _ rfl).2.2 _ rfl).1 (w_retG rfl rfl rfl (fun q => Bool.noConfusion q) ((h.2.2.2 _ rfl).2.2 _ rfl).2))))))))))))))

theorem b_Splitting_takeApart_0 {a0 : Nat} {a1 : Nat} {x2 : Int32} {σ : iS} {Q : iO → iS → Prop} (h : sK σ a0 = 8 ∧ (∀ σ1, σ1 = wI σ 264 a0 (0 : Int32) → sK σ1 a0 = 8 ∧ (∀ σ2, σ2 = wI σ1 265 a0 x2 → (x2 < (1 : Int32) → wp J_Splitting_takeApart 52 [vr a0, vr a1, vi x2, vi (0 : Int32)] [] σ2 Q) ∧ (¬ (x2 < (1 : Int32)) → sK σ2 a1 = 2 ∧ ca J_Text_size [vr a1] σ2 (cI (fun r4 σ4 => (r4 < x2 → wp J_Splitting_takeApart 52 [vr a0, vr a1, vi x2, vi (0 : Int32)] [] σ4 Q) ∧ (¬ (r4 < x2) → sK σ4 a0 = 8 ∧ ca J_Splitting_cutPieces [vr a0, vr a1] σ4 (cV (fun σ6 => sK σ6 a0 = 8 ∧ ca J_Splitting_handOut [vr a0, vr a1] σ6 (cV (fun σ7 => sK σ7 a0 = 8 ∧ (sK σ7 a1 = 2 ∧ ca J_Text_size [vr a1] σ7 (cI (fun r8 σ8 => ((sI σ7 265 a0) ≤ r8 → wp J_Splitting_takeApart 51 [vr a0, vr a1, vi x2, vi (0 : Int32)] [vi (0 : Int32)] σ8 Q) ∧ (¬ ((sI σ7 265 a0) ≤ r8) → wp J_Splitting_takeApart 51 [vr a0, vr a1, vi x2, vi (0 : Int32)] [vi (1 : Int32)] σ8 Q)) Q))) Q)) Q))) Q))))) : ca J_Splitting_takeApart [vr a0, vr a1, vi x2] σ Q :=
  w_go rfl rfl (w_ic rfl kc_0 (w_gd rfl rfl rfl h.1 (w_go rfl rfl (w_go rfl rfl (w_gd rfl rfl rfl (h.2 _ rfl).1 (w_ic rfl kc_0 (w_gd rfl rfl rfl (Nat.le_of_ble_eq_true rfl) (w_go rfl rfl (w_ic rfl kc_1 (w_br rfl rfl rfl rfl (fun c3 => (((h.2 _ rfl).2 _ rfl).1 c3)) (fun c3 => w_go rfl rfl (w_go rfl rfl (w_cI rfl rfl rfl ⟨⟨Nat.le_of_ble_eq_true rfl, Nat.le_of_ble_eq_true rfl⟩, (((h.2 _ rfl).2 _ rfl).2 c3).1⟩ rfl (fun _ => rfl) (((h.2 _ rfl).2 _ rfl).2 c3).2 (fun r4 σ4 k4 => w_br rfl rfl rfl rfl (fun c5 => (k4.1 c5)) (fun c5 => w_go rfl rfl (w_go rfl rfl (w_cV rfl rfl rfl ⟨⟨Nat.le_of_ble_eq_true rfl, Nat.le_of_ble_eq_true rfl⟩, (k4.2 c5).1⟩ rfl (fun _ => rfl) (k4.2 c5).2 (fun σ6 k6 => w_go rfl rfl (w_go rfl rfl (w_cV rfl rfl rfl ⟨⟨Nat.le_of_ble_eq_true rfl, Nat.le_of_ble_eq_true rfl⟩, k6.1⟩ rfl (fun _ => rfl) k6.2 (fun σ7 k7 => w_go rfl rfl (w_gd rfl rfl rfl k7.1 (w_go rfl rfl (w_cI rfl rfl rfl ⟨⟨Nat.le_of_ble_eq_true rfl, Nat.le_of_ble_eq_true rfl⟩, k7.2.1⟩ rfl (fun _ => rfl) k7.2.2 (fun r8 σ8 k8 => w_br rfl rfl rfl rfl (fun c9 => w_ic rfl kc_0 ((k8.1 c9))) (fun c9 => w_ic rfl kc_1 (w_go rfl rfl ((k8.2 c9)))))))))))))))))))))))))))))

theorem b_Splitting_takeApart_51 {a0 : Nat} {a1 : Nat} {x2 : Int32} {x3 : Int32} {tx0 : Int32} {σ : iS} {Q : iO → iS → Prop} (h : wp J_Splitting_takeApart 52 [vr a0, vr a1, vi x2, vi tx0] [] σ Q) : wp J_Splitting_takeApart 51 [vr a0, vr a1, vi x2, vi x3] [vi tx0] σ Q :=
  w_gd rfl rfl rfl (Nat.le_of_ble_eq_true rfl) (h)

theorem b_Splitting_takeApart_52 {a0 : Nat} {a1 : Nat} {x2 : Int32} {x3 : Int32} {σ : iS} {Q : iO → iS → Prop} (h : sK σ a0 = 8 ∧ (∀ σ1, σ1 = wI σ 258 a0 (0 : Int32) → sK σ1 a0 = 8 ∧ (∀ σ2, σ2 = wI σ1 260 a0 (0 : Int32) → iBool x3 ∧ Q (.inl (some (vi x3))) σ2))) : wp J_Splitting_takeApart 52 [vr a0, vr a1, vi x2, vi x3] [] σ Q :=
  w_go rfl rfl (w_ic rfl kc_0 (w_gd rfl rfl rfl h.1 (w_go rfl rfl (w_ic rfl kc_0 (w_gd rfl rfl rfl (h.2 _ rfl).1 (w_go rfl rfl (w_retG rfl rfl rfl (fun _ => ((h.2 _ rfl).2 _ rfl).1) ((h.2 _ rfl).2 _ rfl).2)))))))

theorem b_Splitting_cutPieces_0 {a0 : Nat} {a1 : Nat} {σ : iS} {Q : iO → iS → Prop} (h : sK σ a0 = 8 ∧ (wp J_Splitting_cutPieces 9 [vr a0, vr a1, vi ((sI σ 265 a0) - (1 : Int32)), vi (0 : Int32)] [] σ Q)) : ca J_Splitting_cutPieces [vr a0, vr a1] σ Q :=
  w_go rfl rfl (w_gd rfl rfl rfl h.1 (w_ic rfl kc_1 (w_go rfl rfl (w_gd rfl rfl rfl (Nat.le_of_ble_eq_true rfl) (w_ic rfl kc_0 (w_gd rfl rfl rfl (Nat.le_of_ble_eq_true rfl) (h.2)))))))

theorem b_Splitting_cutPieces_9 {a0 : Nat} {a1 : Nat} {x2 : Int32} {x3 : Int32} {σ : iS} {Q : iO → iS → Prop} (h : sK σ a0 = 8 ∧ (((sI σ 260 a0) ≤ x3 → wp J_Splitting_cutPieces 63 [vr a0, vr a1, vi x2, vi x3] [] σ Q) ∧ (¬ ((sI σ 260 a0) ≤ x3) → sK σ a1 = 2 ∧ ca J_Text_size [vr a1] σ (cI (fun r2 σ2 => (r2 ≤ x2 → wp J_Splitting_cutPieces 63 [vr a0, vr a1, vi x2, vi x3] [] σ2 Q) ∧ (¬ (r2 ≤ x2) → sK σ2 a0 = 8 ∧ (((sI σ2 258 a0) ≠ 0 → sK σ2 a0 = 8 ∧ ca J_Splitting_cutByDelimiter [vr a0, vr a1, vi x2, vi x3] σ2 (cI (fun r5 σ5 => wp J_Splitting_cutPieces 49 [vr a0, vr a1, vi x2, vi x3] [vi r5] σ5 Q) Q)) ∧ (¬ ((sI σ2 258 a0) ≠ 0) → sK σ2 a0 = 8 ∧ ca J_Splitting_cutBySize [vr a0, vr a1, vi x2, vi x3] σ2 (cI (fun r6 σ6 => wp J_Splitting_cutPieces 49 [vr a0, vr a1, vi x2, vi x3] [vi r6] σ6 Q) Q))))) Q)))) : wp J_Splitting_cutPieces 9 [vr a0, vr a1, vi x2, vi x3] [] σ Q :=
  w_go rfl rfl (w_go rfl rfl (w_gd rfl rfl rfl h.1 (w_br rfl rfl rfl rfl (fun c1 => (h.2.1 c1)) (fun c1 => w_go rfl rfl (w_go rfl rfl (w_cI rfl rfl rfl ⟨⟨Nat.le_of_ble_eq_true rfl, Nat.le_of_ble_eq_true rfl⟩, (h.2.2 c1).1⟩ rfl (fun _ => rfl) (h.2.2 c1).2 (fun r2 σ2 k2 => w_br rfl rfl rfl rfl (fun c3 => (k2.1 c3)) (fun c3 => w_go rfl rfl (w_gd rfl rfl rfl (k2.2 c3).1 (w_br rfl rfl rfl rfl (fun c4 => w_go rfl rfl (w_go rfl rfl (w_go rfl rfl (w_go rfl rfl (w_cI rfl rfl rfl ⟨⟨Nat.le_of_ble_eq_true rfl, Nat.le_of_ble_eq_true rfl⟩, ((k2.2 c3).2.1 c4).1⟩ rfl (fun _ => rfl) ((k2.2 c3).2.1 c4).2 (fun r5 σ5 k5 => k5)))))) (fun c4 => w_go rfl rfl (w_go rfl rfl (w_go rfl rfl (w_go rfl rfl (w_cI rfl rfl rfl ⟨⟨Nat.le_of_ble_eq_true rfl, Nat.le_of_ble_eq_true rfl⟩, ((k2.2 c3).2.2 c4).1⟩ rfl (fun _ => rfl) ((k2.2 c3).2.2 c4).2 (fun r6 σ6 k6 => w_go rfl rfl (k6)))))))))))))))))

theorem b_Splitting_cutPieces_49 {a0 : Nat} {a1 : Nat} {x2 : Int32} {x3 : Int32} {tx0 : Int32} {σ : iS} {Q : iO → iS → Prop} (h : sK σ a0 = 8 ∧ (∀ σ1, σ1 = wI σ 264 a0 (x3 + (1 : Int32)) → wp J_Splitting_cutPieces 9 [vr a0, vr a1, vi tx0, vi (x3 + (1 : Int32))] [] σ1 Q)) : wp J_Splitting_cutPieces 49 [vr a0, vr a1, vi x2, vi x3] [vi tx0] σ Q :=
  w_gd rfl rfl rfl (Nat.le_of_ble_eq_true rfl) (w_go rfl rfl (w_go rfl rfl (w_ic rfl kc_1 (w_go rfl rfl (w_gd rfl rfl rfl h.1 (w_inc rfl rfl kc_1 (w_go rfl rfl ((h.2 _ rfl)))))))))

theorem b_Splitting_cutPieces_63 {a0 : Nat} {a1 : Nat} {x2 : Int32} {x3 : Int32} {σ : iS} {Q : iO → iS → Prop} (h : sK σ a0 = 8 ∧ (∀ σ1, σ1 = wI σ 265 a0 (x2 + (1 : Int32)) → Q (.inl none) σ1)) : wp J_Splitting_cutPieces 63 [vr a0, vr a1, vi x2, vi x3] [] σ Q :=
  w_go rfl rfl (w_go rfl rfl (w_ic rfl kc_1 (w_go rfl rfl (w_gd rfl rfl rfl h.1 (w_ret rfl rfl (h.2 _ rfl))))))

theorem b_Splitting_cutBySize_0 {a0 : Nat} {a1 : Nat} {x2 : Int32} {x3 : Int32} {σ : iS} {Q : iO → iS → Prop} (h : sK σ a0 = 8 ∧ (((110 ≤ sK σ (sR σ 259 a0) ∧ sK σ (sR σ 259 a0) < 200) ∧ iIn x3 (sN σ (sR σ 259 a0))) ∧ (sK σ (sB σ (sR σ 259 a0) x3.toNatClampNeg) = 2 ∧ ca J_Text_size [vr (sB σ (sR σ 259 a0) x3.toNatClampNeg)] σ (cI (fun r1 σ1 => sK σ1 a1 = 2 ∧ ca J_Text_size [vr a1] σ1 (cI (fun r2 σ2 => ca J_Math_min [vi r1, vi (r2 - x2)] σ2 (cI (fun r3 σ3 => sK σ3 a0 = 8 ∧ ca J_Splitting_keepPiece [vr a0, vi x3, vi x2, vi r3, vi (-1 : Int32)] σ3 (cV (fun σ4 => Q (.inl (some (vi (x2 + r3)))) σ4) Q)) Q)) Q)) Q)))) : ca J_Splitting_cutBySize [vr a0, vr a1, vi x2, vi x3] σ Q :=
  w_go rfl rfl (w_gd rfl rfl rfl h.1 (w_go rfl rfl (w_gd rfl rfl rfl h.2.1 (w_cI rfl rfl rfl ⟨⟨Nat.le_of_ble_eq_true rfl, Nat.le_of_ble_eq_true rfl⟩, h.2.2.1⟩ rfl (fun _ => rfl) h.2.2.2 (fun r1 σ1 k1 => w_go rfl rfl (w_cI rfl rfl rfl ⟨⟨Nat.le_of_ble_eq_true rfl, Nat.le_of_ble_eq_true rfl⟩, k1.1⟩ rfl (fun _ => rfl) k1.2 (fun r2 σ2 k2 => w_go rfl rfl (w_go rfl rfl (w_cI rfl rfl rfl ⟨Nat.le_of_ble_eq_true rfl, Nat.le_of_ble_eq_true rfl⟩ rfl (fun _ => rfl) k2 (fun r3 σ3 k3 => w_gd rfl rfl rfl (Nat.le_of_ble_eq_true rfl) (w_go rfl rfl (w_go rfl rfl (w_go rfl rfl (w_go rfl rfl (w_ic rfl kc_m1 (w_cV rfl rfl rfl ⟨⟨Nat.le_of_ble_eq_true rfl, Nat.le_of_ble_eq_true rfl⟩, k3.1⟩ rfl (fun _ => rfl) k3.2 (fun σ4 k4 => w_go rfl rfl (w_go rfl rfl (w_go rfl rfl (w_retG rfl rfl rfl (fun q => Bool.noConfusion q) k4))))))))))))))))))))

theorem b_Splitting_cutByDelimiter_0 {a0 : Nat} {a1 : Nat} {x2 : Int32} {x3 : Int32} {σ : iS} {Q : iO → iS → Prop} (h : wp J_Splitting_cutByDelimiter 3 [vr a0, vr a1, vi x2, vi x3, vi x2, vl 0] [] σ Q) : ca J_Splitting_cutByDelimiter [vr a0, vr a1, vi x2, vi x3] σ Q :=
  w_go rfl rfl (w_gd rfl rfl rfl (Nat.le_of_ble_eq_true rfl) (h))

theorem b_Splitting_cutByDelimiter_3 {a0 : Nat} {a1 : Nat} {x2 : Int32} {x3 : Int32} {x4 : Int32} {l5 : iV} {σ : iS} {Q : iO → iS → Prop} (h : sK σ a1 = 2 ∧ ca J_Text_size [vr a1] σ (cI (fun r1 σ1 => (r1 ≤ x4 → sK σ1 a1 = 2 ∧ ca J_Text_size [vr a1] σ1 (cI (fun r3 σ3 => sK σ3 a0 = 8 ∧ ca J_Splitting_keepPiece [vr a0, vi x3, vi x2, vi (r3 - x2), vi (-1 : Int32)] σ3 (cV (fun σ4 => sK σ4 a1 = 2 ∧ ca J_Text_size [vr a1] σ4 (cI (fun r5 σ5 => Q (.inl (some (vi r5))) σ5) Q)) Q)) Q)) ∧ (¬ (r1 ≤ x4) → sK σ1 a0 = 8 ∧ ca J_Splitting_delimiterAt [vr a0, vr a1, vi x4] σ1 (cI (fun r6 σ6 => (r6 = (-1 : Int32) → wp J_Splitting_cutByDelimiter 3 [vr a0, vr a1, vi x2, vi x3, vi (x4 + (1 : Int32)), vi r6] [] σ6 Q) ∧ (¬ (r6 = (-1 : Int32)) → sK σ6 a0 = 8 ∧ ca J_Splitting_keepPiece [vr a0, vi x3, vi x2, vi (x4 - x2), vi r6] σ6 (cV (fun σ8 => sK σ8 a0 = 8 ∧ ca J_Splitting_placeBehind [vr a0, vr a1, vi x4, vi r6] σ8 (cI (fun r9 σ9 => Q (.inl (some (vi r9))) σ9) Q)) Q))) Q))) Q)) : wp J_Splitting_cutByDelimiter 3 [vr a0, vr a1, vi x2, vi x3, vi x4, l5] [] σ Q :=
  w_go rfl rfl (w_go rfl rfl (w_cI rfl rfl rfl ⟨⟨Nat.le_of_ble_eq_true rfl, Nat.le_of_ble_eq_true rfl⟩, h.1⟩ rfl (fun _ => rfl) h.2 (fun r1 σ1 k1 => w_br rfl rfl rfl rfl (fun c2 => w_go rfl rfl (w_go rfl rfl (w_go rfl rfl (w_go rfl rfl (w_cI rfl rfl rfl ⟨⟨Nat.le_of_ble_eq_true rfl, Nat.le_of_ble_eq_true rfl⟩, (k1.1 c2).1⟩ rfl (fun _ => rfl) (k1.1 c2).2 (fun r3 σ3 k3 => w_go rfl rfl (w_go rfl rfl (w_ic rfl kc_m1 (w_cV rfl rfl rfl ⟨⟨Nat.le_of_ble_eq_true rfl, Nat.le_of_ble_eq_true rfl⟩, k3.1⟩ rfl (fun _ => rfl) k3.2 (fun σ4 k4 => w_go rfl rfl (w_cI rfl rfl rfl ⟨⟨Nat.le_of_ble_eq_true rfl, Nat.le_of_ble_eq_true rfl⟩, k4.1⟩ rfl (fun _ => rfl) k4.2 (fun r5 σ5 k5 => w_retG rfl rfl rfl (fun q => Bool.noConfusion q) k5)))))))))))) (fun c2 => w_go rfl rfl (w_go rfl rfl (w_go rfl rfl (w_cI rfl rfl rfl ⟨⟨Nat.le_of_ble_eq_true rfl, Nat.le_of_ble_eq_true rfl⟩, (k1.2 c2).1⟩ rfl (fun _ => rfl) (k1.2 c2).2 (fun r6 σ6 k6 => w_gd rfl rfl rfl (Nat.le_of_ble_eq_true rfl) (w_go rfl rfl (w_ic rfl kc_m1 (w_br rfl rfl rfl rfl (fun c7 => w_inc rfl rfl kc_1 (w_go rfl rfl ((k6.1 c7)))) (fun c7 => w_go rfl rfl (w_go rfl rfl (w_go rfl rfl (w_go rfl rfl (w_go rfl rfl (w_go rfl rfl (w_go rfl rfl (w_cV rfl rfl rfl ⟨⟨Nat.le_of_ble_eq_true rfl, Nat.le_of_ble_eq_true rfl⟩, (k6.2 c7).1⟩ rfl (fun _ => rfl) (k6.2 c7).2 (fun σ8 k8 => w_go rfl rfl (w_go rfl rfl (w_go rfl rfl (w_go rfl rfl (w_cI rfl rfl rfl ⟨⟨Nat.le_of_ble_eq_true rfl, Nat.le_of_ble_eq_true rfl⟩, k8.1⟩ rfl (fun _ => rfl) k8.2 (fun r9 σ9 k9 => w_retG rfl rfl rfl (fun q => Bool.noConfusion q) k9)))))))))))))))))))))))))

theorem b_Splitting_keepPiece_0 {a0 : Nat} {x1 : Int32} {x2 : Int32} {x3 : Int32} {x4 : Int32} {σ : iS} {Q : iO → iS → Prop} (h : sK σ a0 = 8 ∧ ((sK σ (sR σ 261 a0) = 101 ∧ iIn x1 (sN σ (sR σ 261 a0))) ∧ (∀ σ1, σ1 = wA σ (sR σ 261 a0) x1.toNatClampNeg x2 → sK σ1 a0 = 8 ∧ ((sK σ1 (sR σ1 262 a0) = 101 ∧ iIn x1 (sN σ1 (sR σ1 262 a0))) ∧ (∀ σ2, σ2 = wA σ1 (sR σ1 262 a0) x1.toNatClampNeg x3 → sK σ2 a0 = 8 ∧ ((sK σ2 (sR σ2 263 a0) = 101 ∧ iIn x1 (sN σ2 (sR σ2 263 a0))) ∧ (∀ σ3, σ3 = wA σ2 (sR σ2 263 a0) x1.toNatClampNeg x4 → Q (.inl none) σ3))))))) : ca J_Splitting_keepPiece [vr a0, vi x1, vi x2, vi x3, vi x4] σ Q :=
  w_go rfl rfl (w_gd rfl rfl rfl h.1 (w_go rfl rfl (w_go rfl rfl (w_gd rfl rfl rfl h.2.1 (w_go rfl rfl (w_gd rfl rfl rfl (h.2.2 _ rfl).1 (w_go rfl rfl (w_go rfl rfl (w_gd rfl rfl rfl (h.2.2 _ rfl).2.1 (w_go rfl rfl (w_gd rfl rfl rfl ((h.2.2 _ rfl).2.2 _ rfl).1 (w_go rfl rfl (w_go rfl rfl (w_gd rfl rfl rfl ((h.2.2 _ rfl).2.2 _ rfl).2.1 (w_ret rfl rfl (((h.2.2 _ rfl).2.2 _ rfl).2.2 _ rfl))))))))))))))))

theorem b_Splitting_delimiterAt_0 {a0 : Nat} {a1 : Nat} {x2 : Int32} {σ : iS} {Q : iO → iS → Prop} (h : wp J_Splitting_delimiterAt 2 [vr a0, vr a1, vi x2, vi (0 : Int32)] [] σ Q) : ca J_Splitting_delimiterAt [vr a0, vr a1, vi x2] σ Q :=
  w_ic rfl kc_0 (w_gd rfl rfl rfl (Nat.le_of_ble_eq_true rfl) (h))

theorem b_Splitting_delimiterAt_2 {a0 : Nat} {a1 : Nat} {x2 : Int32} {x3 : Int32} {σ : iS} {Q : iO → iS → Prop} (h : sK σ a0 = 8 ∧ (((sI σ 258 a0) ≤ x3 → Q (.inl (some (vi (-1 : Int32)))) σ) ∧ (¬ ((sI σ 258 a0) ≤ x3) → sK σ a0 = 8 ∧ (((110 ≤ sK σ (sR σ 256 a0) ∧ sK σ (sR σ 256 a0) < 200) ∧ iIn x3 (sN σ (sR σ 256 a0))) ∧ (sK σ a1 = 2 ∧ ca J_Text_holds [vr a1, vr (sB σ (sR σ 256 a0) x3.toNatClampNeg), vi x2] σ (cI (fun r2 σ2 => (r2 = 0 → wp J_Splitting_delimiterAt 2 [vr a0, vr a1, vi x2, vi (x3 + (1 : Int32))] [] σ2 Q) ∧ (¬ (r2 = 0) → Q (.inl (some (vi x3))) σ2)) Q)))))) : wp J_Splitting_delimiterAt 2 [vr a0, vr a1, vi x2, vi x3] [] σ Q :=
  w_go rfl rfl (w_go rfl rfl (w_gd rfl rfl rfl h.1 (w_br rfl rfl rfl rfl (fun c1 => w_ic rfl kc_m1 (w_retG rfl rfl rfl (fun q => Bool.noConfusion q) (h.2.1 c1))) (fun c1 => w_go rfl rfl (w_go rfl rfl (w_gd rfl rfl rfl (h.2.2 c1).1 (w_go rfl rfl (w_gd rfl rfl rfl (h.2.2 c1).2.1 (w_go rfl rfl (w_cI rfl rfl rfl ⟨⟨Nat.le_of_ble_eq_true rfl, Nat.le_of_ble_eq_true rfl⟩, (h.2.2 c1).2.2.1⟩ rfl (fun _ => rfl) (h.2.2 c1).2.2.2 (fun r2 σ2 k2 => w_br rfl rfl rfl rfl (fun c3 => w_inc rfl rfl kc_1 (w_go rfl rfl ((k2.1 c3)))) (fun c3 => w_go rfl rfl (w_retG rfl rfl rfl (fun q => Bool.noConfusion q) (k2.2 c3))))))))))))))

theorem b_Splitting_placeBehind_0 {a0 : Nat} {a1 : Nat} {x2 : Int32} {x3 : Int32} {σ : iS} {Q : iO → iS → Prop} (h : sK σ a0 = 8 ∧ (((110 ≤ sK σ (sR σ 256 a0) ∧ sK σ (sR σ 256 a0) < 200) ∧ iIn x3 (sN σ (sR σ 256 a0))) ∧ (sK σ (sB σ (sR σ 256 a0) x3.toNatClampNeg) = 2 ∧ ca J_Text_size [vr (sB σ (sR σ 256 a0) x3.toNatClampNeg)] σ (cI (fun r1 σ1 => sK σ1 a0 = 8 ∧ ((sK σ1 (sR σ1 257 a0) = 102 ∧ iIn x3 (sN σ1 (sR σ1 257 a0))) ∧ (((sA σ1 (sR σ1 257 a0) x3.toNatClampNeg) = 0 → wp J_Splitting_placeBehind 65 [vr a0, vr a1, vi x2, vi x3, vr (sB σ (sR σ 256 a0) x3.toNatClampNeg), vi (x2 + r1), vl 0] [] σ1 Q) ∧ (¬ ((sA σ1 (sR σ1 257 a0) x3.toNatClampNeg) = 0) → wp J_Splitting_placeBehind 29 [vr a0, vr a1, vi x2, vi x3, vr (sB σ (sR σ 256 a0) x3.toNatClampNeg), vi (x2 + r1), vi (0 : Int32)] [] σ1 Q)))) Q)))) : ca J_Splitting_placeBehind [vr a0, vr a1, vi x2, vi x3] σ Q :=
  w_go rfl rfl (w_gd rfl rfl rfl h.1 (w_go rfl rfl (w_gd rfl rfl rfl h.2.1 (w_gd rfl rfl rfl (Nat.le_of_ble_eq_true rfl) (w_go rfl rfl (w_go rfl rfl (w_cI rfl rfl rfl ⟨⟨Nat.le_of_ble_eq_true rfl, Nat.le_of_ble_eq_true rfl⟩, h.2.2.1⟩ rfl (fun _ => rfl) h.2.2.2 (fun r1 σ1 k1 => w_go rfl rfl (w_gd rfl rfl rfl (Nat.le_of_ble_eq_true rfl) (w_go rfl rfl (w_gd rfl rfl rfl k1.1 (w_go rfl rfl (w_gd rfl rfl rfl k1.2.1 (w_br rfl rfl rfl rfl (fun c2 => (k1.2.2.1 c2)) (fun c2 => w_ic rfl kc_0 (w_gd rfl rfl rfl (Nat.le_of_ble_eq_true rfl) ((k1.2.2.2 c2))))))))))))))))))

theorem b_Splitting_placeBehind_29 {a0 : Nat} {a1 : Nat} {x2 : Int32} {x3 : Int32} {a4 : Nat} {x5 : Int32} {x6 : Int32} {σ : iS} {Q : iO → iS → Prop} (h : sK σ a1 = 2 ∧ ca J_Text_size [vr a1] σ (cI (fun r1 σ1 => (r1 ≤ x6 → wp J_Splitting_placeBehind 65 [vr a0, vr a1, vi x2, vi x3, vr a4, vi x5, vi x6] [] σ1 Q) ∧ (¬ (r1 ≤ x6) → sK σ1 a1 = 2 ∧ ca J_Text_holds [vr a1, vr a4, vi x5] σ1 (cI (fun r3 σ3 => (r3 = 0 → wp J_Splitting_placeBehind 65 [vr a0, vr a1, vi x2, vi x3, vr a4, vi x5, vi x6] [] σ3 Q) ∧ (¬ (r3 = 0) → sK σ3 a4 = 2 ∧ ca J_Text_size [vr a4] σ3 (cI (fun r5 σ5 => wp J_Splitting_placeBehind 29 [vr a0, vr a1, vi x2, vi x3, vr a4, vi (x5 + r5), vi (x6 + (1 : Int32))] [] σ5 Q) Q))) Q))) Q)) : wp J_Splitting_placeBehind 29 [vr a0, vr a1, vi x2, vi x3, vr a4, vi x5, vi x6] [] σ Q :=
  w_go rfl rfl (w_go rfl rfl (w_cI rfl rfl rfl ⟨⟨Nat.le_of_ble_eq_true rfl, Nat.le_of_ble_eq_true rfl⟩, h.1⟩ rfl (fun _ => rfl) h.2 (fun r1 σ1 k1 => w_br rfl rfl rfl rfl (fun c2 => (k1.1 c2)) (fun c2 => w_go rfl rfl (w_go rfl rfl (w_go rfl rfl (w_cI rfl rfl rfl ⟨⟨Nat.le_of_ble_eq_true rfl, Nat.le_of_ble_eq_true rfl⟩, (k1.2 c2).1⟩ rfl (fun _ => rfl) (k1.2 c2).2 (fun r3 σ3 k3 => w_br rfl rfl rfl rfl (fun c4 => (k3.1 c4)) (fun c4 => w_go rfl rfl (w_go rfl rfl (w_cI rfl rfl rfl ⟨⟨Nat.le_of_ble_eq_true rfl, Nat.le_of_ble_eq_true rfl⟩, (k3.2 c4).1⟩ rfl (fun _ => rfl) (k3.2 c4).2 (fun r5 σ5 k5 => w_go rfl rfl (w_gd rfl rfl rfl (Nat.le_of_ble_eq_true rfl) (w_inc rfl rfl kc_1 (w_go rfl rfl (k5))))))))))))))))

theorem b_Splitting_placeBehind_65 {a0 : Nat} {a1 : Nat} {x2 : Int32} {x3 : Int32} {a4 : Nat} {x5 : Int32} {l6 : iV} {σ : iS} {Q : iO → iS → Prop} (h : Q (.inl (some (vi x5))) σ) : wp J_Splitting_placeBehind 65 [vr a0, vr a1, vi x2, vi x3, vr a4, vi x5, l6] [] σ Q :=
  w_go rfl rfl (w_retG rfl rfl rfl (fun q => Bool.noConfusion q) h)

theorem b_Splitting_handOut_0 {a0 : Nat} {a1 : Nat} {σ : iS} {Q : iO → iS → Prop} (h : sK σ a0 = 8 ∧ (sK σ a1 = 2 ∧ ca J_Text_copyTo [vr a1, vr (sR σ 266 a0)] σ (cV (fun σ1 => wp J_Splitting_handOut 10 [vr a0, vr a1, vi (0 : Int32)] [] σ1 Q) Q))) : ca J_Splitting_handOut [vr a0, vr a1] σ Q :=
  w_go rfl rfl (w_go rfl rfl (w_gd rfl rfl rfl h.1 (w_cV rfl rfl rfl ⟨⟨Nat.le_of_ble_eq_true rfl, Nat.le_of_ble_eq_true rfl⟩, h.2.1⟩ rfl (fun _ => rfl) h.2.2 (fun σ1 k1 => w_ic rfl kc_0 (w_gd rfl rfl rfl (Nat.le_of_ble_eq_true rfl) (k1))))))

theorem b_Splitting_handOut_10 {a0 : Nat} {a1 : Nat} {x2 : Int32} {σ : iS} {Q : iO → iS → Prop} (h : sK σ a0 = 8 ∧ (((sI σ 264 a0) ≤ x2 → Q (.inl none) σ) ∧ (¬ ((sI σ 264 a0) ≤ x2) → sK σ a0 = 8 ∧ (((110 ≤ sK σ (sR σ 259 a0) ∧ sK σ (sR σ 259 a0) < 200) ∧ iIn x2 (sN σ (sR σ 259 a0))) ∧ (sK σ a0 = 8 ∧ (sK σ a0 = 8 ∧ ((sK σ (sR σ 261 a0) = 101 ∧ iIn x2 (sN σ (sR σ 261 a0))) ∧ (sK σ a0 = 8 ∧ ((sK σ (sR σ 262 a0) = 101 ∧ iIn x2 (sN σ (sR σ 262 a0))) ∧ (sK σ (sB σ (sR σ 259 a0) x2.toNatClampNeg) = 2 ∧ ca J_Text_fillFrom [vr (sB σ (sR σ 259 a0) x2.toNatClampNeg), vr (sR σ 266 a0), vi (sA σ (sR σ 261 a0) x2.toNatClampNeg), vi (sA σ (sR σ 262 a0) x2.toNatClampNeg)] σ (cV (fun σ2 => wp J_Splitting_handOut 10 [vr a0, vr a1, vi (x2 + (1 : Int32))] [] σ2 Q) Q))))))))))) : wp J_Splitting_handOut 10 [vr a0, vr a1, vi x2] [] σ Q :=
  w_go rfl rfl (w_go rfl rfl (w_gd rfl rfl rfl h.1 (w_br rfl rfl rfl rfl (fun c1 => w_ret rfl rfl (h.2.1 c1)) (fun c1 => w_go rfl rfl (w_gd rfl rfl rfl (h.2.2 c1).1 (w_go rfl rfl (w_gd rfl rfl rfl (h.2.2 c1).2.1 (w_go rfl rfl (w_gd rfl rfl rfl (h.2.2 c1).2.2.1 (w_go rfl rfl (w_gd rfl rfl rfl (h.2.2 c1).2.2.2.1 (w_go rfl rfl (w_gd rfl rfl rfl ⟨Or.inr (h.2.2 c1).2.2.2.2.1.1, (h.2.2 c1).2.2.2.2.1.2⟩ (w_go rfl rfl (w_gd rfl rfl rfl (h.2.2 c1).2.2.2.2.2.1 (w_go rfl rfl (w_gd rfl rfl rfl ⟨Or.inr (h.2.2 c1).2.2.2.2.2.2.1.1, (h.2.2 c1).2.2.2.2.2.2.1.2⟩ (w_cV rfl rfl rfl ⟨⟨Nat.le_of_ble_eq_true rfl, Nat.le_of_ble_eq_true rfl⟩, (h.2.2 c1).2.2.2.2.2.2.2.1⟩ rfl (fun _ => rfl) (h.2.2 c1).2.2.2.2.2.2.2.2 (fun σ2 k2 => w_inc rfl rfl kc_1 (w_go rfl rfl (k2)))))))))))))))))))))

theorem b_Table_init_0 {a0 : Nat} {x1 : Int32} {σ : iS} {Q : iO → iS → Prop} (h : a0 ≠ 0 ∧ (sK σ a0 = 9 ∧ (∀ σ1, σ1 = wI σ 289 a0 (1 : Int32) → (¬ x1 < 0 ∧ x1.toNatClampNeg ≤ 100000) ∧ (∀ σ2, σ2 = nA σ1 101 x1.toNatClampNeg → sK σ2 a0 = 9 ∧ (∀ σ3, σ3 = wR σ2 288 a0 (sX σ1) → Q (.inl none) σ3))))) : ca J_Table_init [vr a0, vi x1] σ Q :=
  w_go rfl rfl (w_gd rfl rfl rfl ⟨Nat.le_of_ble_eq_true rfl, h.1⟩ (w_go rfl rfl (w_ic rfl kc_1 (w_gd rfl rfl rfl h.2.1 (w_go rfl rfl (w_go rfl rfl (w_gd rfl rfl rfl (h.2.2 _ rfl).1 (w_gd rfl rfl rfl ((h.2.2 _ rfl).2 _ rfl).1 (w_ret rfl rfl (((h.2.2 _ rfl).2 _ rfl).2 _ rfl))))))))))

theorem b_Table_findInOrder_0 {a0 : Nat} {x1 : Int32} {σ : iS} {Q : iO → iS → Prop} (h : sK σ a0 = 9 ∧ (wp J_Table_findInOrder 7 [vr a0, vi x1, vi ((sI σ 289 a0) - (1 : Int32))] [] σ Q)) : ca J_Table_findInOrder [vr a0, vi x1] σ Q :=
  w_go rfl rfl (w_gd rfl rfl rfl h.1 (w_ic rfl kc_1 (w_go rfl rfl (w_gd rfl rfl rfl (Nat.le_of_ble_eq_true rfl) (h.2)))))

theorem b_Table_findInOrder_7 {a0 : Nat} {x1 : Int32} {x2 : Int32} {σ : iS} {Q : iO → iS → Prop} (h : sK σ a0 = 9 ∧ (iArr (sK σ (sR σ 288 a0)) = true ∧ (((nI (sN σ (sR σ 288 a0))) ≤ x2 → Q (.inl (some (vi (0 : Int32)))) σ) ∧ (¬ ((nI (sN σ (sR σ 288 a0))) ≤ x2) → sK σ a0 = 9 ∧ ((sK σ (sR σ 288 a0) = 101 ∧ iIn x2 (sN σ (sR σ 288 a0))) ∧ (((sA σ (sR σ 288 a0) x2.toNatClampNeg) ≠ x1 → wp J_Table_findInOrder 7 [vr a0, vi x1, vi (x2 + (1 : Int32))] [] σ Q) ∧ (¬ ((sA σ (sR σ 288 a0) x2.toNatClampNeg) ≠ x1) → Q (.inl (some (vi (x2 + (1 : Int32))))) σ))))))) : wp J_Table_findInOrder 7 [vr a0, vi x1, vi x2] [] σ Q :=
  w_go rfl rfl (w_go rfl rfl (w_gd rfl rfl rfl h.1 (w_gd rfl rfl rfl h.2.1 (w_br rfl rfl rfl rfl (fun c1 => w_ic rfl kc_0 (w_retG rfl rfl rfl (fun q => Bool.noConfusion q) (h.2.2.1 c1))) (fun c1 => w_go rfl rfl (w_gd rfl rfl rfl (h.2.2.2 c1).1 (w_go rfl rfl (w_gd rfl rfl rfl ⟨Or.inr (h.2.2.2 c1).2.1.1, (h.2.2.2 c1).2.1.2⟩ (w_go rfl rfl (w_br rfl rfl rfl rfl (fun c2 => w_inc rfl rfl kc_1 (w_go rfl rfl (((h.2.2.2 c1).2.2.1 c2)))) (fun c2 => w_go rfl rfl (w_ic rfl kc_1 (w_go rfl rfl (w_retG rfl rfl rfl (fun q => Bool.noConfusion q) ((h.2.2.2 c1).2.2.2 c2)))))))))))))))

theorem b_Table_findByHalves_0 {a0 : Nat} {x1 : Int32} {σ : iS} {Q : iO → iS → Prop} (h : sK σ a0 = 9 ∧ (iArr (sK σ (sR σ 288 a0)) = true ∧ (wp J_Table_findByHalves 13 [vr a0, vi x1, vi (0 : Int32), vi ((nI (sN σ (sR σ 288 a0))) - (1 : Int32)), vi (0 : Int32), vl 0] [] σ Q))) : ca J_Table_findByHalves [vr a0, vi x1] σ Q :=
  w_ic rfl kc_0 (w_gd rfl rfl rfl (Nat.le_of_ble_eq_true rfl) (w_go rfl rfl (w_gd rfl rfl rfl h.1 (w_gd rfl rfl rfl h.2.1 (w_ic rfl kc_1 (w_go rfl rfl (w_gd rfl rfl rfl (Nat.le_of_ble_eq_true rfl) (w_ic rfl kc_0 (w_gd rfl rfl rfl (Nat.le_of_ble_eq_true rfl) (h.2.2))))))))))

theorem b_Table_findByHalves_13 {a0 : Nat} {x1 : Int32} {x2 : Int32} {x3 : Int32} {x4 : Int32} {l5 : iV} {σ : iS} {Q : iO → iS → Prop} (h : sK σ a0 = 9 ∧ (iArr (sK σ (sR σ 288 a0)) = true ∧ (((nI (sN σ (sR σ 288 a0))) ≤ x4 → wp J_Table_findByHalves 81 [vr a0, vi x1, vi x2, vi x3, vi x4, l5] [] σ Q) ∧ (¬ ((nI (sN σ (sR σ 288 a0))) ≤ x4) → (x3 < x2 → wp J_Table_findByHalves 81 [vr a0, vi x1, vi x2, vi x3, vi x4, l5] [] σ Q) ∧ (¬ (x3 < x2) → (2 : Int32) ≠ 0 ∧ (sK σ a0 = 9 ∧ ((sK σ (sR σ 288 a0) = 101 ∧ iIn ((x2 + x3) / (2 : Int32)) (sN σ (sR σ 288 a0))) ∧ ((x1 ≠ (sA σ (sR σ 288 a0) ((x2 + x3) / (2 : Int32)).toNatClampNeg) → sK σ a0 = 9 ∧ ((sK σ (sR σ 288 a0) = 101 ∧ iIn ((x2 + x3) / (2 : Int32)) (sN σ (sR σ 288 a0))) ∧ (((sA σ (sR σ 288 a0) ((x2 + x3) / (2 : Int32)).toNatClampNeg) ≤ x1 → wp J_Table_findByHalves 75 [vr a0, vi x1, vi (((x2 + x3) / (2 : Int32)) + (1 : Int32)), vi x3, vi x4, vi ((x2 + x3) / (2 : Int32))] [] σ Q) ∧ (¬ ((sA σ (sR σ 288 a0) ((x2 + x3) / (2 : Int32)).toNatClampNeg) ≤ x1) → wp J_Table_findByHalves 75 [vr a0, vi x1, vi x2, vi (((x2 + x3) / (2 : Int32)) - (1 : Int32)), vi x4, vi ((x2 + x3) / (2 : Int32))] [] σ Q)))) ∧ (¬ (x1 ≠ (sA σ (sR σ 288 a0) ((x2 + x3) / (2 : Int32)).toNatClampNeg)) → Q (.inl (some (vi (((x2 + x3) / (2 : Int32)) + (1 : Int32))))) σ))))))))) : wp J_Table_findByHalves 13 [vr a0, vi x1, vi x2, vi x3, vi x4, l5] [] σ Q :=
  w_go rfl rfl (w_go rfl rfl (w_gd rfl rfl rfl h.1 (w_gd rfl rfl rfl h.2.1 (w_br rfl rfl rfl rfl (fun c1 => (h.2.2.1 c1)) (fun c1 => w_go rfl rfl (w_go rfl rfl (w_br rfl rfl rfl rfl (fun c2 => ((h.2.2.2 c1).1 c2)) (fun c2 => w_go rfl rfl (w_go rfl rfl (w_go rfl rfl (w_ic rfl kc_2 (w_gd rfl rfl rfl ((h.2.2.2 c1).2 c2).1 (w_gd rfl rfl rfl (Nat.le_of_ble_eq_true rfl) (w_go rfl rfl (w_go rfl rfl (w_gd rfl rfl rfl ((h.2.2.2 c1).2 c2).2.1 (w_go rfl rfl (w_gd rfl rfl rfl ⟨Or.inr ((h.2.2.2 c1).2 c2).2.2.1.1, ((h.2.2.2 c1).2 c2).2.2.1.2⟩ (w_br rfl rfl rfl rfl (fun c3 => w_go rfl rfl (w_go rfl rfl (w_gd rfl rfl rfl (((h.2.2.2 c1).2 c2).2.2.2.1 c3).1 (w_go rfl rfl (w_gd rfl rfl rfl ⟨Or.inr (((h.2.2.2 c1).2 c2).2.2.2.1 c3).2.1.1, (((h.2.2.2 c1).2 c2).2.2.2.1 c3).2.1.2⟩ (w_br rfl rfl rfl rfl (fun c4 => w_go rfl rfl (w_ic rfl kc_1 (w_go rfl rfl (w_gd rfl rfl rfl (Nat.le_of_ble_eq_true rfl) (((((h.2.2.2 c1).2 c2).2.2.2.1 c3).2.2.1 c4)))))) (fun c4 => w_go rfl rfl (w_ic rfl kc_1 (w_go rfl rfl (w_gd rfl rfl rfl (Nat.le_of_ble_eq_true rfl) (w_go rfl rfl (((((h.2.2.2 c1).2 c2).2.2.2.1 c3).2.2.2 c4))))))))))))) (fun c3 => w_go rfl rfl (w_ic rfl kc_1 (w_go rfl rfl (w_retG rfl rfl rfl (fun q => Bool.noConfusion q) (((h.2.2.2 c1).2 c2).2.2.2.2 c3))))))))))))))))))))))))

theorem b_Table_findByHalves_75 {a0 : Nat} {x1 : Int32} {x2 : Int32} {x3 : Int32} {x4 : Int32} {x5 : Int32} {σ : iS} {Q : iO → iS → Prop} (h : wp J_Table_findByHalves 13 [vr a0, vi x1, vi x2, vi x3, vi (x4 + (1 : Int32)), vi x5] [] σ Q) : wp J_Table_findByHalves 75 [vr a0, vi x1, vi x2, vi x3, vi x4, vi x5] [] σ Q :=
  w_inc rfl rfl kc_1 (w_go rfl rfl (h))

theorem b_Table_findByHalves_81 {a0 : Nat} {x1 : Int32} {x2 : Int32} {x3 : Int32} {x4 : Int32} {l5 : iV} {σ : iS} {Q : iO → iS → Prop} (h : Q (.inl (some (vi (0 : Int32)))) σ) : wp J_Table_findByHalves 81 [vr a0, vi x1, vi x2, vi x3, vi x4, l5] [] σ Q :=
  w_ic rfl kc_0 (w_retG rfl rfl rfl (fun q => Bool.noConfusion q) h)

theorem b_Table_putInOrder_0 {a0 : Nat} {x1 : Int32} {σ : iS} {Q : iO → iS → Prop} (h : wp J_Table_putInOrder 2 [vr a0, vi x1, vi (1 : Int32), vl 0, vl 0] [] σ Q) : ca J_Table_putInOrder [vr a0, vi x1] σ Q :=
  w_ic rfl kc_1 (w_gd rfl rfl rfl (Nat.le_of_ble_eq_true rfl) (h))

theorem b_Table_putInOrder_2 {a0 : Nat} {x1 : Int32} {x2 : Int32} {l3 : iV} {l4 : iV} {σ : iS} {Q : iO → iS → Prop} (h : sK σ a0 = 9 ∧ (iArr (sK σ (sR σ 288 a0)) = true ∧ (((nI (sN σ (sR σ 288 a0))) ≤ x2 → Q (.inl none) σ) ∧ (¬ ((nI (sN σ (sR σ 288 a0))) ≤ x2) → sK σ a0 = 9 ∧ ((sK σ (sR σ 288 a0) = 101 ∧ iIn x2 (sN σ (sR σ 288 a0))) ∧ (wp J_Table_putInOrder 21 [vr a0, vi x1, vi x2, vi (sA σ (sR σ 288 a0) x2.toNatClampNeg), vi x2] [] σ Q)))))) : wp J_Table_putInOrder 2 [vr a0, vi x1, vi x2, l3, l4] [] σ Q :=
  w_go rfl rfl (w_go rfl rfl (w_gd rfl rfl rfl h.1 (w_gd rfl rfl rfl h.2.1 (w_br rfl rfl rfl rfl (fun c1 => w_ret rfl rfl (h.2.2.1 c1)) (fun c1 => w_go rfl rfl (w_gd rfl rfl rfl (h.2.2.2 c1).1 (w_go rfl rfl (w_gd rfl rfl rfl ⟨Or.inr (h.2.2.2 c1).2.1.1, (h.2.2.2 c1).2.1.2⟩ (w_gd rfl rfl rfl (Nat.le_of_ble_eq_true rfl) (w_go rfl rfl (w_gd rfl rfl rfl (Nat.le_of_ble_eq_true rfl) ((h.2.2.2 c1).2.2))))))))))))

theorem b_Table_putInOrder_21 {a0 : Nat} {x1 : Int32} {x2 : Int32} {x3 : Int32} {x4 : Int32} {σ : iS} {Q : iO → iS → Prop} (h : (x4 ≤ 0 → wp J_Table_putInOrder 65 [vr a0, vi x1, vi x2, vi x3, vi x4] [] σ Q) ∧ (¬ (x4 ≤ 0) → sK σ a0 = 9 ∧ ((sK σ (sR σ 288 a0) = 101 ∧ iIn (x4 - (1 : Int32)) (sN σ (sR σ 288 a0))) ∧ (ca J_Table_isAhead [vi x3, vi (sA σ (sR σ 288 a0) (x4 - (1 : Int32)).toNatClampNeg), vi x1] σ (cI (fun r2 σ2 => (r2 = 0 → wp J_Table_putInOrder 65 [vr a0, vi x1, vi x2, vi x3, vi x4] [] σ2 Q) ∧ (¬ (r2 = 0) → sK σ2 a0 = 9 ∧ (sK σ2 a0 = 9 ∧ ((sK σ2 (sR σ2 288 a0) = 101 ∧ iIn (x4 - (1 : Int32)) (sN σ2 (sR σ2 288 a0))) ∧ ((sK σ2 (sR σ2 288 a0) = 101 ∧ iIn x4 (sN σ2 (sR σ2 288 a0))) ∧ (∀ σ4, σ4 = wA σ2 (sR σ2 288 a0) x4.toNatClampNeg (sA σ2 (sR σ2 288 a0) (x4 - (1 : Int32)).toNatClampNeg) → wp J_Table_putInOrder 21 [vr a0, vi x1, vi x2, vi x3, vi (x4 + (-1 : Int32))] [] σ4 Q)))))) Q))))) : wp J_Table_putInOrder 21 [vr a0, vi x1, vi x2, vi x3, vi x4] [] σ Q :=
  w_go rfl rfl (w_br rfl rfl rfl rfl (fun c1 => (h.1 c1)) (fun c1 => w_go rfl rfl (w_go rfl rfl (w_gd rfl rfl rfl (h.2 c1).1 (w_go rfl rfl (w_ic rfl kc_1 (w_go rfl rfl (w_gd rfl rfl rfl ⟨Or.inr (h.2 c1).2.1.1, (h.2 c1).2.1.2⟩ (w_go rfl rfl (w_cI rfl rfl rfl ⟨Nat.le_of_ble_eq_true rfl, Nat.le_of_ble_eq_true rfl⟩ rfl (fun _ => rfl) (h.2 c1).2.2 (fun r2 σ2 k2 => w_br rfl rfl rfl rfl (fun c3 => (k2.1 c3)) (fun c3 => w_go rfl rfl (w_gd rfl rfl rfl (k2.2 c3).1 (w_go rfl rfl (w_go rfl rfl (w_gd rfl rfl rfl (k2.2 c3).2.1 (w_go rfl rfl (w_ic rfl kc_1 (w_go rfl rfl (w_gd rfl rfl rfl ⟨Or.inr (k2.2 c3).2.2.1.1, (k2.2 c3).2.2.1.2⟩ (w_gd rfl rfl rfl (k2.2 c3).2.2.2.1 (w_inc rfl rfl kc_m1 (w_go rfl rfl (((k2.2 c3).2.2.2.2 _ rfl)))))))))))))))))))))))))

theorem b_Table_putInOrder_65 {a0 : Nat} {x1 : Int32} {x2 : Int32} {x3 : Int32} {x4 : Int32} {σ : iS} {Q : iO → iS → Prop} (h : sK σ a0 = 9 ∧ ((sK σ (sR σ 288 a0) = 101 ∧ iIn x4 (sN σ (sR σ 288 a0))) ∧ (∀ σ1, σ1 = wA σ (sR σ 288 a0) x4.toNatClampNeg x3 → wp J_Table_putInOrder 2 [vr a0, vi x1, vi (x2 + (1 : Int32)), vi x3, vi x4] [] σ1 Q))) : wp J_Table_putInOrder 65 [vr a0, vi x1, vi x2, vi x3, vi x4] [] σ Q :=
  w_go rfl rfl (w_gd rfl rfl rfl h.1 (w_go rfl rfl (w_go rfl rfl (w_gd rfl rfl rfl h.2.1 (w_inc rfl rfl kc_1 (w_go rfl rfl ((h.2.2 _ rfl))))))))

theorem b_Table_isAhead_0 {x0 : Int32} {x1 : Int32} {x2 : Int32} {σ : iS} {Q : iO → iS → Prop} (h : (x2 = 0 → (x1 ≤ x0 → wp J_Table_isAhead 27 [vi x0, vi x1, vi x2] [vi (0 : Int32)] σ Q) ∧ (¬ (x1 ≤ x0) → wp J_Table_isAhead 27 [vi x0, vi x1, vi x2] [vi (1 : Int32)] σ Q)) ∧ (¬ (x2 = 0) → (x0 ≤ x1 → wp J_Table_isAhead 27 [vi x0, vi x1, vi x2] [vi (0 : Int32)] σ Q) ∧ (¬ (x0 ≤ x1) → wp J_Table_isAhead 27 [vi x0, vi x1, vi x2] [vi (1 : Int32)] σ Q))) : ca J_Table_isAhead [vi x0, vi x1, vi x2] σ Q :=
  w_go rfl rfl (w_br rfl rfl rfl rfl (fun c1 => w_go rfl rfl (w_go rfl rfl (w_br rfl rfl rfl rfl (fun c2 => w_ic rfl kc_0 (((h.1 c1).1 c2))) (fun c2 => w_ic rfl kc_1 (w_go rfl rfl (((h.1 c1).2 c2))))))) (fun c1 => w_go rfl rfl (w_go rfl rfl (w_br rfl rfl rfl rfl (fun c3 => w_ic rfl kc_0 (w_go rfl rfl (((h.2 c1).1 c3)))) (fun c3 => w_ic rfl kc_1 (w_go rfl rfl (((h.2 c1).2 c3))))))))

theorem b_Table_isAhead_27 {x0 : Int32} {x1 : Int32} {x2 : Int32} {tx0 : Int32} {σ : iS} {Q : iO → iS → Prop} (h : iBool tx0 ∧ Q (.inl (some (vi tx0))) σ) : wp J_Table_isAhead 27 [vi x0, vi x1, vi x2] [vi tx0] σ Q :=
  w_retG rfl rfl rfl (fun _ => h.1) h.2

theorem b_Arrays_fill_0 {a0 : Nat} {x1 : Int32} {σ : iS} {Q : iO → iS → Prop} (h : iArr (sK σ a0) = true ∧ (wp J_Arrays_fill 5 [vr a0, vi x1, vi (0 : Int32), vi (nI (sN σ a0))] [] σ Q)) : ca J_Arrays_fill [vr a0, vi x1] σ Q :=
  w_ic rfl kc_0 (w_gd rfl rfl rfl (Nat.le_of_ble_eq_true rfl) (w_go rfl rfl (w_gd rfl rfl rfl h.1 (w_gd rfl rfl rfl (Nat.le_of_ble_eq_true rfl) (h.2)))))

theorem b_Arrays_fill_5 {a0 : Nat} {x1 : Int32} {x2 : Int32} {x3 : Int32} {σ : iS} {Q : iO → iS → Prop} (h : (x3 ≤ x2 → Q (.inl none) σ) ∧ (¬ (x3 ≤ x2) → (sK σ a0 = 101 ∧ iIn x2 (sN σ a0)) ∧ (∀ σ2, σ2 = wA σ a0 x2.toNatClampNeg x1 → wp J_Arrays_fill 5 [vr a0, vi x1, vi (x2 + (1 : Int32)), vi x3] [] σ2 Q))) : wp J_Arrays_fill 5 [vr a0, vi x1, vi x2, vi x3] [] σ Q :=
  w_go rfl rfl (w_go rfl rfl (w_br rfl rfl rfl rfl (fun c1 => w_ret rfl rfl (h.1 c1)) (fun c1 => w_go rfl rfl (w_go rfl rfl (w_go rfl rfl (w_gd rfl rfl rfl (h.2 c1).1 (w_inc rfl rfl kc_1 (w_go rfl rfl (((h.2 c1).2 _ rfl))))))))))

theorem b_Math_min_0 {x0 : Int32} {x1 : Int32} {σ : iS} {Q : iO → iS → Prop} (h : (x1 < x0 → wp J_Math_min 10 [vi x0, vi x1] [vi x1] σ Q) ∧ (¬ (x1 < x0) → wp J_Math_min 10 [vi x0, vi x1] [vi x0] σ Q)) : ca J_Math_min [vi x0, vi x1] σ Q :=
  w_go rfl rfl (w_go rfl rfl (w_br rfl rfl rfl rfl (fun c1 => w_go rfl rfl ((h.1 c1))) (fun c1 => w_go rfl rfl (w_go rfl rfl ((h.2 c1))))))

theorem b_Math_min_10 {x0 : Int32} {x1 : Int32} {tx0 : Int32} {σ : iS} {Q : iO → iS → Prop} (h : Q (.inl (some (vi tx0))) σ) : wp J_Math_min 10 [vi x0, vi x1] [vi tx0] σ Q :=
  w_retG rfl rfl rfl (fun q => Bool.noConfusion q) h
end
section
/-! WHAT MUST HOLD at each cut point of each method: printed by gen3.py -/
theorem b_M_init_0 {a0 : Nat} {σ : iS} {Q : iO → iS → Prop} (h : a0 ≠ 0 ∧ ((¬ (2400 : Int32) < 0 ∧ (2400 : Int32).toNatClampNeg ≤ 100000) ∧ (∀ σ1, σ1 = nA σ 101 (2400 : Int32).toNatClampNeg → sK σ1 a0 = 10 ∧ (∀ σ2, σ2 = wR σ1 321 a0 (sX σ) → (¬ (2400 : Int32) < 0 ∧ (2400 : Int32).toNatClampNeg ≤ 100000) ∧ (∀ σ3, σ3 = nA σ2 101 (2400 : Int32).toNatClampNeg → sK σ3 a0 = 10 ∧ (∀ σ4, σ4 = wR σ3 322 a0 (sX σ2) → (¬ (40 : Int32) < 0 ∧ (40 : Int32).toNatClampNeg ≤ 100000) ∧ (∀ σ5, σ5 = nA σ4 101 (40 : Int32).toNatClampNeg → sK σ5 a0 = 10 ∧ (∀ σ6, σ6 = wR σ5 323 a0 (sX σ4) → sK σ6 a0 = 10 ∧ (∀ σ7, σ7 = wI σ6 325 a0 (-1 : Int32) → sK σ7 a0 = 10 ∧ (∀ σ8, σ8 = wI σ7 326 a0 (-1 : Int32) → (¬ (20 : Int32) < 0 ∧ (20 : Int32).toNatClampNeg ≤ 100000) ∧ (∀ σ9, σ9 = nA σ8 101 (20 : Int32).toNatClampNeg → sK σ9 a0 = 10 ∧ (∀ σ10, σ10 = wR σ9 327 a0 (sX σ8) → wp J_M_init 48 [vr a0, vl 0] [] σ10 Q)))))))))))) : ca J_M_init [vr a0] σ Q :=
  w_go rfl rfl (w_gd rfl rfl rfl ⟨Nat.le_of_ble_eq_true rfl, h.1⟩ (w_go rfl rfl (w_sp rfl ks_2400 (w_gd rfl rfl rfl h.2.1 (w_gd rfl rfl rfl (h.2.2 _ rfl).1 (w_go rfl rfl (w_sp rfl ks_2400 (w_gd rfl rfl rfl ((h.2.2 _ rfl).2 _ rfl).1 (w_gd rfl rfl rfl (((h.2.2 _ rfl).2 _ rfl).2 _ rfl).1 (w_go rfl rfl (w_bp rfl kb_40 (w_gd rfl rfl rfl ((((h.2.2 _ rfl).2 _ rfl).2 _ rfl).2 _ rfl).1 (w_gd rfl rfl rfl (((((h.2.2 _ rfl).2 _ rfl).2 _ rfl).2 _ rfl).2 _ rfl).1 (w_go rfl rfl (w_ic rfl kc_m1 (w_gd rfl rfl rfl ((((((h.2.2 _ rfl).2 _ rfl).2 _ rfl).2 _ rfl).2 _ rfl).2 _ rfl).1 (w_go rfl rfl (w_ic rfl kc_m1 (w_gd rfl rfl rfl (((((((h.2.2 _ rfl).2 _ rfl).2 _ rfl).2 _ rfl).2 _ rfl).2 _ rfl).2 _ rfl).1 (w_go rfl rfl (w_bp rfl kb_20 (w_gd rfl rfl rfl ((((((((h.2.2 _ rfl).2 _ rfl).2 _ rfl).2 _ rfl).2 _ rfl).2 _ rfl).2 _ rfl).2 _ rfl).1 (w_gd rfl rfl rfl (((((((((h.2.2 _ rfl).2 _ rfl).2 _ rfl).2 _ rfl).2 _ rfl).2 _ rfl).2 _ rfl).2 _ rfl).2 _ rfl).1 (((((((((((h.2.2 _ rfl).2 _ rfl).2 _ rfl).2 _ rfl).2 _ rfl).2 _ rfl).2 _ rfl).2 _ rfl).2 _ rfl).2 _ rfl)))))))))))))))))))))))))

theorem b_M_init_48 {a0 : Nat} {l1 : iV} {σ : iS} {Q : iO → iS → Prop} (h : (¬ (20 : Int32) < 0 ∧ (20 : Int32).toNatClampNeg ≤ 100000) ∧ (∀ σ1, σ1 = nA σ 101 (20 : Int32).toNatClampNeg → sK σ1 a0 = 10 ∧ (∀ σ2, σ2 = wR σ1 328 a0 (sX σ) → (¬ (20 : Int32) < 0 ∧ (20 : Int32).toNatClampNeg ≤ 100000) ∧ (∀ σ3, σ3 = nA σ2 101 (20 : Int32).toNatClampNeg → sK σ3 a0 = 10 ∧ (∀ σ4, σ4 = wR σ3 329 a0 (sX σ2) → (¬ (20 : Int32) < 0 ∧ (20 : Int32).toNatClampNeg ≤ 100000) ∧ (∀ σ5, σ5 = nA σ4 101 (20 : Int32).toNatClampNeg → sK σ5 a0 = 10 ∧ (∀ σ6, σ6 = wR σ5 330 a0 (sX σ4) → (¬ (20 : Int32) < 0 ∧ (20 : Int32).toNatClampNeg ≤ 100000) ∧ (∀ σ7, σ7 = nA σ6 101 (20 : Int32).toNatClampNeg → sK σ7 a0 = 10 ∧ (∀ σ8, σ8 = wR σ7 331 a0 (sX σ6) → (¬ (20 : Int32) < 0 ∧ (20 : Int32).toNatClampNeg ≤ 100000) ∧ (∀ σ9, σ9 = nA σ8 101 (20 : Int32).toNatClampNeg → sK σ9 a0 = 10 ∧ (∀ σ10, σ10 = wR σ9 332 a0 (sX σ8) → (¬ (20 : Int32) < 0 ∧ (20 : Int32).toNatClampNeg ≤ 100000) ∧ (∀ σ11, σ11 = nA σ10 101 (20 : Int32).toNatClampNeg → sK σ11 a0 = 10 ∧ (∀ σ12, σ12 = wR σ11 333 a0 (sX σ10) → (¬ (20 : Int32) < 0 ∧ (20 : Int32).toNatClampNeg ≤ 100000) ∧ (∀ σ13, σ13 = nA σ12 101 (20 : Int32).toNatClampNeg → sK σ13 a0 = 10 ∧ (∀ σ14, σ14 = wR σ13 334 a0 (sX σ12) → wp J_M_init 104 [vr a0, l1] [] σ14 Q))))))))))))))) : wp J_M_init 48 [vr a0, l1] [] σ Q :=
  w_go rfl rfl (w_bp rfl kb_20 (w_gd rfl rfl rfl h.1 (w_gd rfl rfl rfl (h.2 _ rfl).1 (w_go rfl rfl (w_bp rfl kb_20 (w_gd rfl rfl rfl ((h.2 _ rfl).2 _ rfl).1 (w_gd rfl rfl rfl (((h.2 _ rfl).2 _ rfl).2 _ rfl).1 (w_go rfl rfl (w_bp rfl kb_20 (w_gd rfl rfl rfl ((((h.2 _ rfl).2 _ rfl).2 _ rfl).2 _ rfl).1 (w_gd rfl rfl rfl (((((h.2 _ rfl).2 _ rfl).2 _ rfl).2 _ rfl).2 _ rfl).1 (w_go rfl rfl (w_bp rfl kb_20 (w_gd rfl rfl rfl ((((((h.2 _ rfl).2 _ rfl).2 _ rfl).2 _ rfl).2 _ rfl).2 _ rfl).1 (w_gd rfl rfl rfl (((((((h.2 _ rfl).2 _ rfl).2 _ rfl).2 _ rfl).2 _ rfl).2 _ rfl).2 _ rfl).1 (w_go rfl rfl (w_bp rfl kb_20 (w_gd rfl rfl rfl ((((((((h.2 _ rfl).2 _ rfl).2 _ rfl).2 _ rfl).2 _ rfl).2 _ rfl).2 _ rfl).2 _ rfl).1 (w_gd rfl rfl rfl (((((((((h.2 _ rfl).2 _ rfl).2 _ rfl).2 _ rfl).2 _ rfl).2 _ rfl).2 _ rfl).2 _ rfl).2 _ rfl).1 (w_go rfl rfl (w_bp rfl kb_20 (w_gd rfl rfl rfl ((((((((((h.2 _ rfl).2 _ rfl).2 _ rfl).2 _ rfl).2 _ rfl).2 _ rfl).2 _ rfl).2 _ rfl).2 _ rfl).2 _ rfl).1 (w_gd rfl rfl rfl (((((((((((h.2 _ rfl).2 _ rfl).2 _ rfl).2 _ rfl).2 _ rfl).2 _ rfl).2 _ rfl).2 _ rfl).2 _ rfl).2 _ rfl).2 _ rfl).1 (w_go rfl rfl (w_bp rfl kb_20 (w_gd rfl rfl rfl ((((((((((((h.2 _ rfl).2 _ rfl).2 _ rfl).2 _ rfl).2 _ rfl).2 _ rfl).2 _ rfl).2 _ rfl).2 _ rfl).2 _ rfl).2 _ rfl).2 _ rfl).1 (w_gd rfl rfl rfl (((((((((((((h.2 _ rfl).2 _ rfl).2 _ rfl).2 _ rfl).2 _ rfl).2 _ rfl).2 _ rfl).2 _ rfl).2 _ rfl).2 _ rfl).2 _ rfl).2 _ rfl).2 _ rfl).1 (((((((((((((((h.2 _ rfl).2 _ rfl).2 _ rfl).2 _ rfl).2 _ rfl).2 _ rfl).2 _ rfl).2 _ rfl).2 _ rfl).2 _ rfl).2 _ rfl).2 _ rfl).2 _ rfl).2 _ rfl)))))))))))))))))))))))))))))

theorem b_M_init_104 {a0 : Nat} {l1 : iV} {σ : iS} {Q : iO → iS → Prop} (h : (¬ (20 : Int32) < 0 ∧ (20 : Int32).toNatClampNeg ≤ 100000) ∧ (∀ σ1, σ1 = nA σ 102 (20 : Int32).toNatClampNeg → sK σ1 a0 = 10 ∧ (∀ σ2, σ2 = wR σ1 335 a0 (sX σ) → (¬ (10 : Int32) < 0 ∧ (10 : Int32).toNatClampNeg ≤ 100000) ∧ (∀ σ3, σ3 = nA σ2 101 (10 : Int32).toNatClampNeg → sK σ3 a0 = 10 ∧ (∀ σ4, σ4 = wR σ3 337 a0 (sX σ2) → (¬ (20 : Int32) < 0 ∧ (20 : Int32).toNatClampNeg ≤ 100000) ∧ (∀ σ5, σ5 = nA σ4 101 (20 : Int32).toNatClampNeg → sK σ5 a0 = 10 ∧ (∀ σ6, σ6 = wR σ5 338 a0 (sX σ4) → (¬ (20 : Int32) < 0 ∧ (20 : Int32).toNatClampNeg ≤ 100000) ∧ (∀ σ7, σ7 = nA σ6 101 (20 : Int32).toNatClampNeg → sK σ7 a0 = 10 ∧ (∀ σ8, σ8 = wR σ7 339 a0 (sX σ6) → (¬ (8 : Int32) < 0 ∧ (8 : Int32).toNatClampNeg ≤ 100000) ∧ (∀ σ9, σ9 = nA σ8 101 (8 : Int32).toNatClampNeg → sK σ9 a0 = 10 ∧ (∀ σ10, σ10 = wR σ9 341 a0 (sX σ8) → (¬ (20 : Int32) < 0 ∧ (20 : Int32).toNatClampNeg ≤ 100000) ∧ (∀ σ11, σ11 = nA σ10 101 (20 : Int32).toNatClampNeg → sK σ11 a0 = 10 ∧ (∀ σ12, σ12 = wR σ11 342 a0 (sX σ10) → (¬ (20 : Int32) < 0 ∧ (20 : Int32).toNatClampNeg ≤ 100000) ∧ (∀ σ13, σ13 = nA σ12 101 (20 : Int32).toNatClampNeg → sK σ13 a0 = 10 ∧ (∀ σ14, σ14 = wR σ13 343 a0 (sX σ12) → wp J_M_init 160 [vr a0, l1] [] σ14 Q))))))))))))))) : wp J_M_init 104 [vr a0, l1] [] σ Q :=
  w_go rfl rfl (w_bp rfl kb_20 (w_gd rfl rfl rfl h.1 (w_gd rfl rfl rfl (h.2 _ rfl).1 (w_go rfl rfl (w_bp rfl kb_10 (w_gd rfl rfl rfl ((h.2 _ rfl).2 _ rfl).1 (w_gd rfl rfl rfl (((h.2 _ rfl).2 _ rfl).2 _ rfl).1 (w_go rfl rfl (w_bp rfl kb_20 (w_gd rfl rfl rfl ((((h.2 _ rfl).2 _ rfl).2 _ rfl).2 _ rfl).1 (w_gd rfl rfl rfl (((((h.2 _ rfl).2 _ rfl).2 _ rfl).2 _ rfl).2 _ rfl).1 (w_go rfl rfl (w_bp rfl kb_20 (w_gd rfl rfl rfl ((((((h.2 _ rfl).2 _ rfl).2 _ rfl).2 _ rfl).2 _ rfl).2 _ rfl).1 (w_gd rfl rfl rfl (((((((h.2 _ rfl).2 _ rfl).2 _ rfl).2 _ rfl).2 _ rfl).2 _ rfl).2 _ rfl).1 (w_go rfl rfl (w_bp rfl kb_8 (w_gd rfl rfl rfl ((((((((h.2 _ rfl).2 _ rfl).2 _ rfl).2 _ rfl).2 _ rfl).2 _ rfl).2 _ rfl).2 _ rfl).1 (w_gd rfl rfl rfl (((((((((h.2 _ rfl).2 _ rfl).2 _ rfl).2 _ rfl).2 _ rfl).2 _ rfl).2 _ rfl).2 _ rfl).2 _ rfl).1 (w_go rfl rfl (w_bp rfl kb_20 (w_gd rfl rfl rfl ((((((((((h.2 _ rfl).2 _ rfl).2 _ rfl).2 _ rfl).2 _ rfl).2 _ rfl).2 _ rfl).2 _ rfl).2 _ rfl).2 _ rfl).1 (w_gd rfl rfl rfl (((((((((((h.2 _ rfl).2 _ rfl).2 _ rfl).2 _ rfl).2 _ rfl).2 _ rfl).2 _ rfl).2 _ rfl).2 _ rfl).2 _ rfl).2 _ rfl).1 (w_go rfl rfl (w_bp rfl kb_20 (w_gd rfl rfl rfl ((((((((((((h.2 _ rfl).2 _ rfl).2 _ rfl).2 _ rfl).2 _ rfl).2 _ rfl).2 _ rfl).2 _ rfl).2 _ rfl).2 _ rfl).2 _ rfl).2 _ rfl).1 (w_gd rfl rfl rfl (((((((((((((h.2 _ rfl).2 _ rfl).2 _ rfl).2 _ rfl).2 _ rfl).2 _ rfl).2 _ rfl).2 _ rfl).2 _ rfl).2 _ rfl).2 _ rfl).2 _ rfl).2 _ rfl).1 (((((((((((((((h.2 _ rfl).2 _ rfl).2 _ rfl).2 _ rfl).2 _ rfl).2 _ rfl).2 _ rfl).2 _ rfl).2 _ rfl).2 _ rfl).2 _ rfl).2 _ rfl).2 _ rfl).2 _ rfl)))))))))))))))))))))))))))))

theorem b_M_init_160 {a0 : Nat} {l1 : iV} {σ : iS} {Q : iO → iS → Prop} (h : (¬ (20 : Int32) < 0 ∧ (20 : Int32).toNatClampNeg ≤ 100000) ∧ (∀ σ1, σ1 = nA σ 101 (20 : Int32).toNatClampNeg → sK σ1 a0 = 10 ∧ (∀ σ2, σ2 = wR σ1 344 a0 (sX σ) → (¬ (8 : Int32) < 0 ∧ (8 : Int32).toNatClampNeg ≤ 100000) ∧ (∀ σ3, σ3 = nA σ2 102 (8 : Int32).toNatClampNeg → sK σ3 a0 = 10 ∧ (∀ σ4, σ4 = wR σ3 345 a0 (sX σ2) → (¬ (600 : Int32) < 0 ∧ (600 : Int32).toNatClampNeg ≤ 100000) ∧ (∀ σ5, σ5 = nA σ4 101 (600 : Int32).toNatClampNeg → sK σ5 a0 = 10 ∧ (∀ σ6, σ6 = wR σ5 349 a0 (sX σ4) → (¬ (10 : Int32) < 0 ∧ (10 : Int32).toNatClampNeg ≤ 100000) ∧ (∀ σ7, σ7 = nA σ6 101 (10 : Int32).toNatClampNeg → sK σ7 a0 = 10 ∧ (∀ σ8, σ8 = wR σ7 350 a0 (sX σ6) → (¬ (10 : Int32) < 0 ∧ (10 : Int32).toNatClampNeg ≤ 100000) ∧ (∀ σ9, σ9 = nA σ8 101 (10 : Int32).toNatClampNeg → sK σ9 a0 = 10 ∧ (∀ σ10, σ10 = wR σ9 351 a0 (sX σ8) → wp J_M_init 203 [vr a0, vi (0 : Int32)] [] σ10 Q))))))))))) : wp J_M_init 160 [vr a0, l1] [] σ Q :=
  w_go rfl rfl (w_bp rfl kb_20 (w_gd rfl rfl rfl h.1 (w_gd rfl rfl rfl (h.2 _ rfl).1 (w_go rfl rfl (w_bp rfl kb_8 (w_gd rfl rfl rfl ((h.2 _ rfl).2 _ rfl).1 (w_gd rfl rfl rfl (((h.2 _ rfl).2 _ rfl).2 _ rfl).1 (w_go rfl rfl (w_sp rfl ks_600 (w_gd rfl rfl rfl ((((h.2 _ rfl).2 _ rfl).2 _ rfl).2 _ rfl).1 (w_gd rfl rfl rfl (((((h.2 _ rfl).2 _ rfl).2 _ rfl).2 _ rfl).2 _ rfl).1 (w_go rfl rfl (w_bp rfl kb_10 (w_gd rfl rfl rfl ((((((h.2 _ rfl).2 _ rfl).2 _ rfl).2 _ rfl).2 _ rfl).2 _ rfl).1 (w_gd rfl rfl rfl (((((((h.2 _ rfl).2 _ rfl).2 _ rfl).2 _ rfl).2 _ rfl).2 _ rfl).2 _ rfl).1 (w_go rfl rfl (w_bp rfl kb_10 (w_gd rfl rfl rfl ((((((((h.2 _ rfl).2 _ rfl).2 _ rfl).2 _ rfl).2 _ rfl).2 _ rfl).2 _ rfl).2 _ rfl).1 (w_gd rfl rfl rfl (((((((((h.2 _ rfl).2 _ rfl).2 _ rfl).2 _ rfl).2 _ rfl).2 _ rfl).2 _ rfl).2 _ rfl).2 _ rfl).1 (w_ic rfl kc_0 (w_gd rfl rfl rfl (Nat.le_of_ble_eq_true rfl) (((((((((((h.2 _ rfl).2 _ rfl).2 _ rfl).2 _ rfl).2 _ rfl).2 _ rfl).2 _ rfl).2 _ rfl).2 _ rfl).2 _ rfl)))))))))))))))))))))))

theorem b_M_init_203 {a0 : Nat} {x1 : Int32} {σ : iS} {Q : iO → iS → Prop} (h : ((20 : Int32) ≤ x1 → Q (.inl none) σ) ∧ (¬ ((20 : Int32) ≤ x1) → sK σ a0 = 10 ∧ ((sK σ (sR σ 343 a0) = 101 ∧ iIn x1 (sN σ (sR σ 343 a0))) ∧ (∀ σ2, σ2 = wA σ (sR σ 343 a0) x1.toNatClampNeg (-1 : Int32) → sK σ2 a0 = 10 ∧ ((sK σ2 (sR σ2 344 a0) = 101 ∧ iIn x1 (sN σ2 (sR σ2 344 a0))) ∧ (∀ σ3, σ3 = wA σ2 (sR σ2 344 a0) x1.toNatClampNeg (-1 : Int32) → wp J_M_init 203 [vr a0, vi (x1 + (1 : Int32))] [] σ3 Q)))))) : wp J_M_init 203 [vr a0, vi x1] [] σ Q :=
  w_go rfl rfl (w_bp rfl kb_20 (w_br rfl rfl rfl rfl (fun c1 => w_ret rfl rfl (h.1 c1)) (fun c1 => w_go rfl rfl (w_gd rfl rfl rfl (h.2 c1).1 (w_go rfl rfl (w_ic rfl kc_m1 (w_gd rfl rfl rfl (h.2 c1).2.1 (w_go rfl rfl (w_gd rfl rfl rfl ((h.2 c1).2.2 _ rfl).1 (w_go rfl rfl (w_ic rfl kc_m1 (w_gd rfl rfl rfl ((h.2 c1).2.2 _ rfl).2.1 (w_inc rfl rfl kc_1 (w_go rfl rfl ((((h.2 c1).2.2 _ rfl).2.2 _ rfl))))))))))))))))

theorem b_M_thrown_0 {a0 : Nat} {σ : iS} {Q : iO → iS → Prop} (h : sK σ a0 = 10 ∧ (Q (.inl (some (vi (sI σ 320 a0)))) σ)) : ca J_M_thrown [vr a0] σ Q :=
  w_go rfl rfl (w_gd rfl rfl rfl h.1 (w_retG rfl rfl rfl (fun q => Bool.noConfusion q) h.2))

theorem b_M_fails_0 {a0 : Nat} {x1 : Int32} {x2 : Int32} {σ : iS} {Q : iO → iS → Prop} (h : (x1 = 0 → (x2 = 0 → wp J_M_fails 18 [vr a0, vi x1, vi x2] [vi (0 : Int32), vr a0] σ Q) ∧ (¬ (x2 = 0) → wp J_M_fails 18 [vr a0, vi x1, vi x2] [vi (2 : Int32), vr a0] σ Q)) ∧ (¬ (x1 = 0) → wp J_M_fails 18 [vr a0, vi x1, vi x2] [vi (1 : Int32), vr a0] σ Q)) : ca J_M_fails [vr a0, vi x1, vi x2] σ Q :=
  w_go rfl rfl (w_go rfl rfl (w_br rfl rfl rfl rfl (fun c1 => w_go rfl rfl (w_br rfl rfl rfl rfl (fun c2 => w_ic rfl kc_0 (((h.1 c1).1 c2))) (fun c2 => w_ic rfl kc_2 (w_go rfl rfl (((h.1 c1).2 c2)))))) (fun c1 => w_ic rfl kc_1 (w_go rfl rfl ((h.2 c1))))))

theorem b_M_fails_18 {a0 : Nat} {x1 : Int32} {x2 : Int32} {tx0 : Int32} {ta1 : Nat} {σ : iS} {Q : iO → iS → Prop} (h : sK σ ta1 = 10 ∧ (∀ σ1, σ1 = wI σ 320 ta1 tx0 → sK σ1 a0 = 10 ∧ (((sI σ1 320 a0) ≤ 0 → wp J_M_fails 33 [vr a0, vi x1, vi x2] [vi (0 : Int32)] σ1 Q) ∧ (¬ ((sI σ1 320 a0) ≤ 0) → wp J_M_fails 33 [vr a0, vi x1, vi x2] [vi (1 : Int32)] σ1 Q)))) : wp J_M_fails 18 [vr a0, vi x1, vi x2] [vi tx0, vr ta1] σ Q :=
  w_gd rfl rfl rfl h.1 (w_go rfl rfl (w_gd rfl rfl rfl (h.2 _ rfl).1 (w_br rfl rfl rfl rfl (fun c2 => w_ic rfl kc_0 (((h.2 _ rfl).2.1 c2))) (fun c2 => w_ic rfl kc_1 (w_go rfl rfl (((h.2 _ rfl).2.2 c2)))))))

theorem b_M_fails_33 {a0 : Nat} {x1 : Int32} {x2 : Int32} {tx0 : Int32} {σ : iS} {Q : iO → iS → Prop} (h : iBool tx0 ∧ Q (.inl (some (vi tx0))) σ) : wp J_M_fails 33 [vr a0, vi x1, vi x2] [vi tx0] σ Q :=
  w_retG rfl rfl rfl (fun _ => h.1) h.2

theorem b_M_isText_0 {a0 : Nat} {x1 : Int32} {σ : iS} {Q : iO → iS → Prop} (h : (x1 < 0 → wp J_M_isText 16 [vr a0, vi x1] [] σ Q) ∧ (¬ (x1 < 0) → sK σ a0 = 10 ∧ (((sI σ 324 a0) ≤ x1 → wp J_M_isText 16 [vr a0, vi x1] [] σ Q) ∧ (¬ ((sI σ 324 a0) ≤ x1) → wp J_M_isText 17 [vr a0, vi x1] [vi (1 : Int32)] σ Q)))) : ca J_M_isText [vr a0, vi x1] σ Q :=
  w_go rfl rfl (w_br rfl rfl rfl rfl (fun c1 => (h.1 c1)) (fun c1 => w_go rfl rfl (w_go rfl rfl (w_gd rfl rfl rfl (h.2 c1).1 (w_br rfl rfl rfl rfl (fun c2 => ((h.2 c1).2.1 c2)) (fun c2 => w_ic rfl kc_1 (w_go rfl rfl (((h.2 c1).2.2 c2)))))))))

theorem b_M_isText_16 {a0 : Nat} {x1 : Int32} {σ : iS} {Q : iO → iS → Prop} (h : wp J_M_isText 17 [vr a0, vi x1] [vi (0 : Int32)] σ Q) : wp J_M_isText 16 [vr a0, vi x1] [] σ Q :=
  w_ic rfl kc_0 (h)

theorem b_M_isText_17 {a0 : Nat} {x1 : Int32} {tx0 : Int32} {σ : iS} {Q : iO → iS → Prop} (h : iBool tx0 ∧ Q (.inl (some (vi tx0))) σ) : wp J_M_isText 17 [vr a0, vi x1] [vi tx0] σ Q :=
  w_retG rfl rfl rfl (fun _ => h.1) h.2

theorem b_M_isFull_0 {a0 : Nat} {x1 : Int32} {σ : iS} {Q : iO → iS → Prop} (h : sK σ a0 = 10 ∧ ca J_M_isText [vr a0, vi x1] σ (cI (fun r1 σ1 => (r1 = 0 → wp J_M_isFull 21 [vr a0, vi x1] [] σ1 Q) ∧ (¬ (r1 = 0) → sK σ1 a0 = 10 ∧ ((sK σ1 (sR σ1 323 a0) = 101 ∧ iIn x1 (sN σ1 (sR σ1 323 a0))) ∧ (((sA σ1 (sR σ1 323 a0) x1.toNatClampNeg) ≤ 0 → wp J_M_isFull 21 [vr a0, vi x1] [] σ1 Q) ∧ (¬ ((sA σ1 (sR σ1 323 a0) x1.toNatClampNeg) ≤ 0) → wp J_M_isFull 22 [vr a0, vi x1] [vi (1 : Int32)] σ1 Q))))) Q)) : ca J_M_isFull [vr a0, vi x1] σ Q :=
  w_go rfl rfl (w_go rfl rfl (w_cI rfl rfl rfl ⟨⟨Nat.le_of_ble_eq_true rfl, Nat.le_of_ble_eq_true rfl⟩, h.1⟩ rfl (fun _ => rfl) h.2 (fun r1 σ1 k1 => w_br rfl rfl rfl rfl (fun c2 => (k1.1 c2)) (fun c2 => w_go rfl rfl (w_gd rfl rfl rfl (k1.2 c2).1 (w_go rfl rfl (w_gd rfl rfl rfl ⟨Or.inr (k1.2 c2).2.1.1, (k1.2 c2).2.1.2⟩ (w_br rfl rfl rfl rfl (fun c3 => ((k1.2 c2).2.2.1 c3)) (fun c3 => w_ic rfl kc_1 (w_go rfl rfl (((k1.2 c2).2.2.2 c3))))))))))))

theorem b_M_isFull_21 {a0 : Nat} {x1 : Int32} {σ : iS} {Q : iO → iS → Prop} (h : wp J_M_isFull 22 [vr a0, vi x1] [vi (0 : Int32)] σ Q) : wp J_M_isFull 21 [vr a0, vi x1] [] σ Q :=
  w_ic rfl kc_0 (h)

theorem b_M_isFull_22 {a0 : Nat} {x1 : Int32} {tx0 : Int32} {σ : iS} {Q : iO → iS → Prop} (h : iBool tx0 ∧ Q (.inl (some (vi tx0))) σ) : wp J_M_isFull 22 [vr a0, vi x1] [vi tx0] σ Q :=
  w_retG rfl rfl rfl (fun _ => h.1) h.2

theorem b_M_text_0 {a0 : Nat} {x1 : Int32} {σ : iS} {Q : iO → iS → Prop} (h : (x1 < 0 → wp J_M_text 10 [vr a0, vi x1, vl 0, vl 0] [] σ Q) ∧ (¬ (x1 < 0) → (x1 ≤ (60 : Int32) → wp J_M_text 15 [vr a0, vi x1, vl 0, vl 0] [vi (0 : Int32)] σ Q) ∧ (¬ (x1 ≤ (60 : Int32)) → wp J_M_text 10 [vr a0, vi x1, vl 0, vl 0] [] σ Q))) : ca J_M_text [vr a0, vi x1] σ Q :=
  w_go rfl rfl (w_br rfl rfl rfl rfl (fun c1 => (h.1 c1)) (fun c1 => w_go rfl rfl (w_bp rfl kb_60 (w_br rfl rfl rfl rfl (fun c2 => w_ic rfl kc_0 (((h.2 c1).1 c2))) (fun c2 => ((h.2 c1).2 c2))))))

theorem b_M_text_10 {a0 : Nat} {x1 : Int32} {l2 : iV} {l3 : iV} {σ : iS} {Q : iO → iS → Prop} (h : wp J_M_text 15 [vr a0, vi x1, l2, l3] [vi (1 : Int32)] σ Q) : wp J_M_text 10 [vr a0, vi x1, l2, l3] [] σ Q :=
  w_ic rfl kc_1 (w_go rfl rfl (h))

theorem b_M_text_15 {a0 : Nat} {x1 : Int32} {l2 : iV} {l3 : iV} {tx0 : Int32} {σ : iS} {Q : iO → iS → Prop} (h : (tx0 ≠ 0 → wp J_M_text 35 [vr a0, vi x1, vi tx0, l3] [vi tx0, vr a0] σ Q) ∧ (¬ (tx0 ≠ 0) → sK σ a0 = 10 ∧ (((sI σ 324 a0) ≠ (40 : Int32) → wp J_M_text 35 [vr a0, vi x1, vi tx0, l3] [vi tx0, vr a0] σ Q) ∧ (¬ ((sI σ 324 a0) ≠ (40 : Int32)) → wp J_M_text 36 [vr a0, vi x1, vi tx0, l3] [vi (1 : Int32), vi tx0, vr a0] σ Q)))) : wp J_M_text 15 [vr a0, vi x1, l2, l3] [vi tx0] σ Q :=
  w_gd rfl rfl rfl (Nat.le_of_ble_eq_true rfl) (w_go rfl rfl (w_go rfl rfl (w_go rfl rfl (w_br rfl rfl rfl rfl (fun c1 => (h.1 c1)) (fun c1 => w_go rfl rfl (w_gd rfl rfl rfl (h.2 c1).1 (w_bp rfl kb_40 (w_br rfl rfl rfl rfl (fun c2 => ((h.2 c1).2.1 c2)) (fun c2 => w_ic rfl kc_1 (w_go rfl rfl (((h.2 c1).2.2 c2))))))))))))

theorem b_M_text_35 {a0 : Nat} {x1 : Int32} {x2 : Int32} {l3 : iV} {tx0 : Int32} {ta1 : Nat} {σ : iS} {Q : iO → iS → Prop} (h : wp J_M_text 36 [vr a0, vi x1, vi x2, l3] [vi (0 : Int32), vi tx0, vr ta1] σ Q) : wp J_M_text 35 [vr a0, vi x1, vi x2, l3] [vi tx0, vr ta1] σ Q :=
  w_ic rfl kc_0 (h)

theorem b_M_text_36 {a0 : Nat} {x1 : Int32} {x2 : Int32} {l3 : iV} {tx0 : Int32} {tx1 : Int32} {ta2 : Nat} {σ : iS} {Q : iO → iS → Prop} (h : sK σ ta2 = 10 ∧ ca J_M_fails [vr ta2, vi tx1, vi tx0] σ (cI (fun r1 σ1 => (r1 = 0 → sK σ1 a0 = 10 ∧ (sK σ1 a0 = 10 ∧ ((sK σ1 (sR σ1 323 a0) = 101 ∧ iIn (sI σ1 324 a0) (sN σ1 (sR σ1 323 a0))) ∧ (∀ σ3, σ3 = wA σ1 (sR σ1 323 a0) (sI σ1 324 a0).toNatClampNeg x1 → wp J_M_text 56 [vr a0, vi x1, vi x2, vi (0 : Int32)] [] σ3 Q)))) ∧ (¬ (r1 = 0) → Q (.inl (some (vi (0 : Int32)))) σ1)) Q)) : wp J_M_text 36 [vr a0, vi x1, vi x2, l3] [vi tx0, vi tx1, vr ta2] σ Q :=
  w_cI rfl rfl rfl ⟨⟨Nat.le_of_ble_eq_true rfl, Nat.le_of_ble_eq_true rfl⟩, h.1⟩ rfl (fun _ => rfl) h.2 (fun r1 σ1 k1 => w_br rfl rfl rfl rfl (fun c2 => w_go rfl rfl (w_gd rfl rfl rfl (k1.1 c2).1 (w_go rfl rfl (w_gd rfl rfl rfl (k1.1 c2).2.1 (w_go rfl rfl (w_gd rfl rfl rfl (k1.1 c2).2.2.1 (w_ic rfl kc_0 (w_gd rfl rfl rfl (Nat.le_of_ble_eq_true rfl) (((k1.1 c2).2.2.2 _ rfl)))))))))) (fun c2 => w_ic rfl kc_0 (w_retG rfl rfl rfl (fun q => Bool.noConfusion q) (k1.2 c2))))

theorem b_M_text_56 {a0 : Nat} {x1 : Int32} {x2 : Int32} {x3 : Int32} {σ : iS} {Q : iO → iS → Prop} (h : (x1 ≤ x3 → sK σ a0 = 10 ∧ (sK σ a0 = 10 ∧ (∀ σ2, σ2 = wI σ 324 a0 ((sI σ 324 a0) + (1 : Int32)) → sK σ2 a0 = 10 ∧ (Q (.inl (some (vi ((sI σ2 324 a0) - (1 : Int32))))) σ2)))) ∧ (¬ (x1 ≤ x3) → sK σ a0 = 10 ∧ (sK σ a0 = 10 ∧ ((sK σ (sR σ 321 a0) = 101 ∧ iIn (((60 : Int32) * (sI σ 324 a0)) + x3) (sN σ (sR σ 321 a0))) ∧ (∀ σ3, σ3 = wA σ (sR σ 321 a0) (((60 : Int32) * (sI σ 324 a0)) + x3).toNatClampNeg (32 : Int32) → wp J_M_text 56 [vr a0, vi x1, vi x2, vi (x3 + (1 : Int32))] [] σ3 Q))))) : wp J_M_text 56 [vr a0, vi x1, vi x2, vi x3] [] σ Q :=
  w_go rfl rfl (w_go rfl rfl (w_br rfl rfl rfl rfl (fun c1 => w_go rfl rfl (w_go rfl rfl (w_gd rfl rfl rfl (h.1 c1).1 (w_ic rfl kc_1 (w_go rfl rfl (w_gd rfl rfl rfl (h.1 c1).2.1 (w_go rfl rfl (w_gd rfl rfl rfl ((h.1 c1).2.2 _ rfl).1 (w_ic rfl kc_1 (w_go rfl rfl (w_retG rfl rfl rfl (fun q => Bool.noConfusion q) ((h.1 c1).2.2 _ rfl).2))))))))))) (fun c1 => w_go rfl rfl (w_gd rfl rfl rfl (h.2 c1).1 (w_bp rfl kb_60 (w_go rfl rfl (w_gd rfl rfl rfl (h.2 c1).2.1 (w_go rfl rfl (w_go rfl rfl (w_go rfl rfl (w_bp rfl kb_32 (w_gd rfl rfl rfl (h.2 c1).2.2.1 (w_inc rfl rfl kc_1 (w_go rfl rfl (((h.2 c1).2.2.2 _ rfl))))))))))))))))

theorem b_M_isPlace_0 {a0 : Nat} {x1 : Int32} {x2 : Int32} {σ : iS} {Q : iO → iS → Prop} (h : sK σ a0 = 10 ∧ ca J_M_isText [vr a0, vi x1] σ (cI (fun r1 σ1 => (r1 = 0 → wp J_M_isPlace 26 [vr a0, vi x1, vi x2] [] σ1 Q) ∧ (¬ (r1 = 0) → (x2 < 0 → wp J_M_isPlace 26 [vr a0, vi x1, vi x2] [] σ1 Q) ∧ (¬ (x2 < 0) → sK σ1 a0 = 10 ∧ ((sK σ1 (sR σ1 323 a0) = 101 ∧ iIn x1 (sN σ1 (sR σ1 323 a0))) ∧ (((sA σ1 (sR σ1 323 a0) x1.toNatClampNeg) ≤ x2 → wp J_M_isPlace 26 [vr a0, vi x1, vi x2] [] σ1 Q) ∧ (¬ ((sA σ1 (sR σ1 323 a0) x1.toNatClampNeg) ≤ x2) → wp J_M_isPlace 27 [vr a0, vi x1, vi x2] [vi (1 : Int32)] σ1 Q)))))) Q)) : ca J_M_isPlace [vr a0, vi x1, vi x2] σ Q :=
  w_go rfl rfl (w_go rfl rfl (w_cI rfl rfl rfl ⟨⟨Nat.le_of_ble_eq_true rfl, Nat.le_of_ble_eq_true rfl⟩, h.1⟩ rfl (fun _ => rfl) h.2 (fun r1 σ1 k1 => w_br rfl rfl rfl rfl (fun c2 => (k1.1 c2)) (fun c2 => w_go rfl rfl (w_br rfl rfl rfl rfl (fun c3 => ((k1.2 c2).1 c3)) (fun c3 => w_go rfl rfl (w_go rfl rfl (w_gd rfl rfl rfl ((k1.2 c2).2 c3).1 (w_go rfl rfl (w_gd rfl rfl rfl ⟨Or.inr ((k1.2 c2).2 c3).2.1.1, ((k1.2 c2).2 c3).2.1.2⟩ (w_br rfl rfl rfl rfl (fun c4 => (((k1.2 c2).2 c3).2.2.1 c4)) (fun c4 => w_ic rfl kc_1 (w_go rfl rfl ((((k1.2 c2).2 c3).2.2.2 c4)))))))))))))))

theorem b_M_isPlace_26 {a0 : Nat} {x1 : Int32} {x2 : Int32} {σ : iS} {Q : iO → iS → Prop} (h : wp J_M_isPlace 27 [vr a0, vi x1, vi x2] [vi (0 : Int32)] σ Q) : wp J_M_isPlace 26 [vr a0, vi x1, vi x2] [] σ Q :=
  w_ic rfl kc_0 (h)

theorem b_M_isPlace_27 {a0 : Nat} {x1 : Int32} {x2 : Int32} {tx0 : Int32} {σ : iS} {Q : iO → iS → Prop} (h : iBool tx0 ∧ Q (.inl (some (vi tx0))) σ) : wp J_M_isPlace 27 [vr a0, vi x1, vi x2] [vi tx0] σ Q :=
  w_retG rfl rfl rfl (fun _ => h.1) h.2

theorem b_M_set_0 {a0 : Nat} {x1 : Int32} {x2 : Int32} {x3 : Int32} {σ : iS} {Q : iO → iS → Prop} (h : sK σ a0 = 10 ∧ ca J_M_isPlace [vr a0, vi x1, vi x2] σ (cI (fun r1 σ1 => (r1 = 0 → wp J_M_set 21 [vr a0, vi x1, vi x2, vi x3] [vr a0] σ1 Q) ∧ (¬ (r1 = 0) → (x3 < 0 → wp J_M_set 21 [vr a0, vi x1, vi x2, vi x3] [vr a0] σ1 Q) ∧ (¬ (x3 < 0) → (x3 ≤ (255 : Int32) → wp J_M_set 26 [vr a0, vi x1, vi x2, vi x3] [vi (0 : Int32), vr a0] σ1 Q) ∧ (¬ (x3 ≤ (255 : Int32)) → wp J_M_set 21 [vr a0, vi x1, vi x2, vi x3] [vr a0] σ1 Q)))) Q)) : ca J_M_set [vr a0, vi x1, vi x2, vi x3] σ Q :=
  w_go rfl rfl (w_go rfl rfl (w_go rfl rfl (w_go rfl rfl (w_cI rfl rfl rfl ⟨⟨Nat.le_of_ble_eq_true rfl, Nat.le_of_ble_eq_true rfl⟩, h.1⟩ rfl (fun _ => rfl) h.2 (fun r1 σ1 k1 => w_br rfl rfl rfl rfl (fun c2 => (k1.1 c2)) (fun c2 => w_go rfl rfl (w_br rfl rfl rfl rfl (fun c3 => ((k1.2 c2).1 c3)) (fun c3 => w_go rfl rfl (w_sp rfl ks_255 (w_br rfl rfl rfl rfl (fun c4 => w_ic rfl kc_0 ((((k1.2 c2).2 c3).1 c4))) (fun c4 => (((k1.2 c2).2 c3).2 c4))))))))))))

theorem b_M_set_21 {a0 : Nat} {x1 : Int32} {x2 : Int32} {x3 : Int32} {ta0 : Nat} {σ : iS} {Q : iO → iS → Prop} (h : wp J_M_set 26 [vr a0, vi x1, vi x2, vi x3] [vi (1 : Int32), vr ta0] σ Q) : wp J_M_set 21 [vr a0, vi x1, vi x2, vi x3] [vr ta0] σ Q :=
  w_ic rfl kc_1 (w_go rfl rfl (h))

theorem b_M_set_26 {a0 : Nat} {x1 : Int32} {x2 : Int32} {x3 : Int32} {tx0 : Int32} {ta1 : Nat} {σ : iS} {Q : iO → iS → Prop} (h : sK σ ta1 = 10 ∧ ca J_M_fails [vr ta1, vi tx0, vi (0 : Int32)] σ (cI (fun r1 σ1 => (r1 = 0 → sK σ1 a0 = 10 ∧ ((sK σ1 (sR σ1 321 a0) = 101 ∧ iIn (((60 : Int32) * x1) + x2) (sN σ1 (sR σ1 321 a0))) ∧ (∀ σ3, σ3 = wA σ1 (sR σ1 321 a0) (((60 : Int32) * x1) + x2).toNatClampNeg x3 → Q (.inl none) σ3))) ∧ (¬ (r1 = 0) → Q (.inl none) σ1)) Q)) : wp J_M_set 26 [vr a0, vi x1, vi x2, vi x3] [vi tx0, vr ta1] σ Q :=
  w_ic rfl kc_0 (w_cI rfl rfl rfl ⟨⟨Nat.le_of_ble_eq_true rfl, Nat.le_of_ble_eq_true rfl⟩, h.1⟩ rfl (fun _ => rfl) h.2 (fun r1 σ1 k1 => w_br rfl rfl rfl rfl (fun c2 => w_go rfl rfl (w_gd rfl rfl rfl (k1.1 c2).1 (w_bp rfl kb_60 (w_go rfl rfl (w_go rfl rfl (w_go rfl rfl (w_go rfl rfl (w_go rfl rfl (w_gd rfl rfl rfl (k1.1 c2).2.1 (w_ret rfl rfl ((k1.1 c2).2.2 _ rfl))))))))))) (fun c2 => w_ret rfl rfl (k1.2 c2))))

theorem b_M_at_0 {a0 : Nat} {x1 : Int32} {x2 : Int32} {σ : iS} {Q : iO → iS → Prop} (h : sK σ a0 = 10 ∧ ca J_M_isPlace [vr a0, vi x1, vi x2] σ (cI (fun r1 σ1 => (r1 ≠ 0 → wp J_M_at 15 [vr a0, vi x1, vi x2] [vi (0 : Int32), vr a0] σ1 Q) ∧ (¬ (r1 ≠ 0) → wp J_M_at 15 [vr a0, vi x1, vi x2] [vi (1 : Int32), vr a0] σ1 Q)) Q)) : ca J_M_at [vr a0, vi x1, vi x2] σ Q :=
  w_go rfl rfl (w_go rfl rfl (w_go rfl rfl (w_go rfl rfl (w_cI rfl rfl rfl ⟨⟨Nat.le_of_ble_eq_true rfl, Nat.le_of_ble_eq_true rfl⟩, h.1⟩ rfl (fun _ => rfl) h.2 (fun r1 σ1 k1 => w_br rfl rfl rfl rfl (fun c2 => w_ic rfl kc_0 ((k1.1 c2))) (fun c2 => w_ic rfl kc_1 (w_go rfl rfl ((k1.2 c2)))))))))

theorem b_M_at_15 {a0 : Nat} {x1 : Int32} {x2 : Int32} {tx0 : Int32} {ta1 : Nat} {σ : iS} {Q : iO → iS → Prop} (h : sK σ ta1 = 10 ∧ ca J_M_fails [vr ta1, vi tx0, vi (0 : Int32)] σ (cI (fun r1 σ1 => (r1 = 0 → sK σ1 a0 = 10 ∧ ((sK σ1 (sR σ1 321 a0) = 101 ∧ iIn (((60 : Int32) * x1) + x2) (sN σ1 (sR σ1 321 a0))) ∧ (Q (.inl (some (vi (sA σ1 (sR σ1 321 a0) (((60 : Int32) * x1) + x2).toNatClampNeg)))) σ1))) ∧ (¬ (r1 = 0) → Q (.inl (some (vi (0 : Int32)))) σ1)) Q)) : wp J_M_at 15 [vr a0, vi x1, vi x2] [vi tx0, vr ta1] σ Q :=
  w_ic rfl kc_0 (w_cI rfl rfl rfl ⟨⟨Nat.le_of_ble_eq_true rfl, Nat.le_of_ble_eq_true rfl⟩, h.1⟩ rfl (fun _ => rfl) h.2 (fun r1 σ1 k1 => w_br rfl rfl rfl rfl (fun c2 => w_go rfl rfl (w_gd rfl rfl rfl (k1.1 c2).1 (w_bp rfl kb_60 (w_go rfl rfl (w_go rfl rfl (w_go rfl rfl (w_go rfl rfl (w_gd rfl rfl rfl ⟨Or.inr (k1.1 c2).2.1.1, (k1.1 c2).2.1.2⟩ (w_retG rfl rfl rfl (fun q => Bool.noConfusion q) (k1.1 c2).2.2))))))))) (fun c2 => w_ic rfl kc_0 (w_retG rfl rfl rfl (fun q => Bool.noConfusion q) (k1.2 c2)))))

theorem b_M_remember_0 {a0 : Nat} {σ : iS} {Q : iO → iS → Prop} (h : wp J_M_remember 2 [vr a0, vi (0 : Int32)] [] σ Q) : ca J_M_remember [vr a0] σ Q :=
  w_ic rfl kc_0 (w_gd rfl rfl rfl (Nat.le_of_ble_eq_true rfl) (h))

theorem b_M_remember_2 {a0 : Nat} {x1 : Int32} {σ : iS} {Q : iO → iS → Prop} (h : sK σ a0 = 10 ∧ (iArr (sK σ (sR σ 322 a0)) = true ∧ (((nI (sN σ (sR σ 322 a0))) ≤ x1 → Q (.inl none) σ) ∧ (¬ ((nI (sN σ (sR σ 322 a0))) ≤ x1) → sK σ a0 = 10 ∧ (sK σ a0 = 10 ∧ ((sK σ (sR σ 321 a0) = 101 ∧ iIn x1 (sN σ (sR σ 321 a0))) ∧ ((sK σ (sR σ 322 a0) = 101 ∧ iIn x1 (sN σ (sR σ 322 a0))) ∧ (∀ σ2, σ2 = wA σ (sR σ 322 a0) x1.toNatClampNeg (sA σ (sR σ 321 a0) x1.toNatClampNeg) → wp J_M_remember 2 [vr a0, vi (x1 + (1 : Int32))] [] σ2 Q)))))))) : wp J_M_remember 2 [vr a0, vi x1] [] σ Q :=
  w_go rfl rfl (w_go rfl rfl (w_gd rfl rfl rfl h.1 (w_gd rfl rfl rfl h.2.1 (w_br rfl rfl rfl rfl (fun c1 => w_ret rfl rfl (h.2.2.1 c1)) (fun c1 => w_go rfl rfl (w_gd rfl rfl rfl (h.2.2.2 c1).1 (w_go rfl rfl (w_go rfl rfl (w_gd rfl rfl rfl (h.2.2.2 c1).2.1 (w_go rfl rfl (w_gd rfl rfl rfl ⟨Or.inr (h.2.2.2 c1).2.2.1.1, (h.2.2.2 c1).2.2.1.2⟩ (w_gd rfl rfl rfl (h.2.2.2 c1).2.2.2.1 (w_inc rfl rfl kc_1 (w_go rfl rfl (((h.2.2.2 c1).2.2.2.2 _ rfl))))))))))))))))

theorem b_M_occurs_0 {a0 : Nat} {a1 : Nat} {x2 : Int32} {x3 : Int32} {x4 : Int32} {x5 : Int32} {σ : iS} {Q : iO → iS → Prop} (h : sK σ a0 = 10 ∧ ((sK σ (sR σ 323 a0) = 101 ∧ iIn x2 (sN σ (sR σ 323 a0))) ∧ ((x5 < (x4 + (sA σ (sR σ 323 a0) x2.toNatClampNeg)) → wp J_M_occurs 19 [vr a0, vr a1, vi x2, vi x3, vi x4, vi x5, vl 0, vl 0] [vi (0 : Int32)] σ Q) ∧ (¬ (x5 < (x4 + (sA σ (sR σ 323 a0) x2.toNatClampNeg))) → wp J_M_occurs 19 [vr a0, vr a1, vi x2, vi x3, vi x4, vi x5, vl 0, vl 0] [vi (1 : Int32)] σ Q)))) : ca J_M_occurs [vr a0, vr a1, vi x2, vi x3, vi x4, vi x5] σ Q :=
  w_go rfl rfl (w_go rfl rfl (w_gd rfl rfl rfl h.1 (w_go rfl rfl (w_gd rfl rfl rfl ⟨Or.inr h.2.1.1, h.2.1.2⟩ (w_go rfl rfl (w_go rfl rfl (w_br rfl rfl rfl rfl (fun c1 => w_ic rfl kc_0 ((h.2.2.1 c1))) (fun c1 => w_ic rfl kc_1 (w_go rfl rfl ((h.2.2.2 c1)))))))))))

theorem b_M_occurs_19 {a0 : Nat} {a1 : Nat} {x2 : Int32} {x3 : Int32} {x4 : Int32} {x5 : Int32} {l6 : iV} {l7 : iV} {tx0 : Int32} {σ : iS} {Q : iO → iS → Prop} (h : wp J_M_occurs 24 [vr a0, vr a1, vi x2, vi x3, vi x4, vi x5, vi tx0, vi (0 : Int32)] [] σ Q) : wp J_M_occurs 19 [vr a0, vr a1, vi x2, vi x3, vi x4, vi x5, l6, l7] [vi tx0] σ Q :=
  w_gd rfl rfl rfl (Nat.le_of_ble_eq_true rfl) (w_ic rfl kc_0 (w_gd rfl rfl rfl (Nat.le_of_ble_eq_true rfl) (h)))

theorem b_M_occurs_24 {a0 : Nat} {a1 : Nat} {x2 : Int32} {x3 : Int32} {x4 : Int32} {x5 : Int32} {x6 : Int32} {x7 : Int32} {σ : iS} {Q : iO → iS → Prop} (h : sK σ a0 = 10 ∧ ((sK σ (sR σ 323 a0) = 101 ∧ iIn x2 (sN σ (sR σ 323 a0))) ∧ (((sA σ (sR σ 323 a0) x2.toNatClampNeg) ≤ x7 → wp J_M_occurs 77 [vr a0, vr a1, vi x2, vi x3, vi x4, vi x5, vi x6, vi x7] [] σ Q) ∧ (¬ ((sA σ (sR σ 323 a0) x2.toNatClampNeg) ≤ x7) → (x6 = 0 → wp J_M_occurs 77 [vr a0, vr a1, vi x2, vi x3, vi x4, vi x5, vi x6, vi x7] [] σ Q) ∧ (¬ (x6 = 0) → (sK σ a1 = 101 ∧ iIn (((60 : Int32) * x2) + x7) (sN σ a1)) ∧ ((sK σ a1 = 101 ∧ iIn ((((60 : Int32) * x3) + x4) + x7) (sN σ a1)) ∧ (((sA σ a1 (((60 : Int32) * x2) + x7).toNatClampNeg) ≠ (sA σ a1 ((((60 : Int32) * x3) + x4) + x7).toNatClampNeg) → wp J_M_occurs 69 [vr a0, vr a1, vi x2, vi x3, vi x4, vi x5, vi x6, vi x7] [vi (0 : Int32)] σ Q) ∧ (¬ ((sA σ a1 (((60 : Int32) * x2) + x7).toNatClampNeg) ≠ (sA σ a1 ((((60 : Int32) * x3) + x4) + x7).toNatClampNeg)) → wp J_M_occurs 69 [vr a0, vr a1, vi x2, vi x3, vi x4, vi x5, vi x6, vi x7] [vi (1 : Int32)] σ Q)))))))) : wp J_M_occurs 24 [vr a0, vr a1, vi x2, vi x3, vi x4, vi x5, vi x6, vi x7] [] σ Q :=
  w_go rfl rfl (w_go rfl rfl (w_gd rfl rfl rfl h.1 (w_go rfl rfl (w_gd rfl rfl rfl ⟨Or.inr h.2.1.1, h.2.1.2⟩ (w_br rfl rfl rfl rfl (fun c1 => (h.2.2.1 c1)) (fun c1 => w_go rfl rfl (w_br rfl rfl rfl rfl (fun c2 => ((h.2.2.2 c1).1 c2)) (fun c2 => w_go rfl rfl (w_bp rfl kb_60 (w_go rfl rfl (w_go rfl rfl (w_go rfl rfl (w_go rfl rfl (w_gd rfl rfl rfl ⟨Or.inr ((h.2.2.2 c1).2 c2).1.1, ((h.2.2.2 c1).2 c2).1.2⟩ (w_go rfl rfl (w_bp rfl kb_60 (w_go rfl rfl (w_go rfl rfl (w_go rfl rfl (w_go rfl rfl (w_go rfl rfl (w_go rfl rfl (w_gd rfl rfl rfl ⟨Or.inr ((h.2.2.2 c1).2 c2).2.1.1, ((h.2.2.2 c1).2 c2).2.1.2⟩ (w_br rfl rfl rfl rfl (fun c3 => w_ic rfl kc_0 ((((h.2.2.2 c1).2 c2).2.2.1 c3))) (fun c3 => w_ic rfl kc_1 (w_go rfl rfl ((((h.2.2.2 c1).2 c2).2.2.2 c3))))))))))))))))))))))))))))

theorem b_M_occurs_69 {a0 : Nat} {a1 : Nat} {x2 : Int32} {x3 : Int32} {x4 : Int32} {x5 : Int32} {x6 : Int32} {x7 : Int32} {tx0 : Int32} {σ : iS} {Q : iO → iS → Prop} (h : wp J_M_occurs 24 [vr a0, vr a1, vi x2, vi x3, vi x4, vi x5, vi tx0, vi (x7 + (1 : Int32))] [] σ Q) : wp J_M_occurs 69 [vr a0, vr a1, vi x2, vi x3, vi x4, vi x5, vi x6, vi x7] [vi tx0] σ Q :=
  w_gd rfl rfl rfl (Nat.le_of_ble_eq_true rfl) (w_inc rfl rfl kc_1 (w_go rfl rfl (h)))

theorem b_M_occurs_77 {a0 : Nat} {a1 : Nat} {x2 : Int32} {x3 : Int32} {x4 : Int32} {x5 : Int32} {x6 : Int32} {x7 : Int32} {σ : iS} {Q : iO → iS → Prop} (h : iBool x6 ∧ Q (.inl (some (vi x6))) σ) : wp J_M_occurs 77 [vr a0, vr a1, vi x2, vi x3, vi x4, vi x5, vi x6, vi x7] [] σ Q :=
  w_go rfl rfl (w_retG rfl rfl rfl (fun _ => h.1) h.2)

theorem b_M_first_0 {a0 : Nat} {a1 : Nat} {x2 : Int32} {x3 : Int32} {σ : iS} {Q : iO → iS → Prop} (h : wp J_M_first 3 [vr a0, vr a1, vi x2, vi x3, vi (0 : Int32)] [] σ Q) : ca J_M_first [vr a0, vr a1, vi x2, vi x3] σ Q :=
  w_ic rfl kc_0 (w_gd rfl rfl rfl (Nat.le_of_ble_eq_true rfl) (h))

theorem b_M_first_3 {a0 : Nat} {a1 : Nat} {x2 : Int32} {x3 : Int32} {x4 : Int32} {σ : iS} {Q : iO → iS → Prop} (h : sK σ a0 = 10 ∧ ((sK σ (sR σ 323 a0) = 101 ∧ iIn x3 (sN σ (sR σ 323 a0))) ∧ (((sA σ (sR σ 323 a0) x3.toNatClampNeg) ≤ x4 → Q (.inl (some (vi (-1 : Int32)))) σ) ∧ (¬ ((sA σ (sR σ 323 a0) x3.toNatClampNeg) ≤ x4) → sK σ a0 = 10 ∧ ((sK σ (sR σ 323 a0) = 101 ∧ iIn x3 (sN σ (sR σ 323 a0))) ∧ (sK σ a0 = 10 ∧ ca J_M_occurs [vr a0, vr a1, vi x2, vi x3, vi x4, vi (sA σ (sR σ 323 a0) x3.toNatClampNeg)] σ (cI (fun r2 σ2 => (r2 = 0 → wp J_M_first 3 [vr a0, vr a1, vi x2, vi x3, vi (x4 + (1 : Int32))] [] σ2 Q) ∧ (¬ (r2 = 0) → Q (.inl (some (vi x4))) σ2)) Q))))))) : wp J_M_first 3 [vr a0, vr a1, vi x2, vi x3, vi x4] [] σ Q :=
  w_go rfl rfl (w_go rfl rfl (w_gd rfl rfl rfl h.1 (w_go rfl rfl (w_gd rfl rfl rfl ⟨Or.inr h.2.1.1, h.2.1.2⟩ (w_br rfl rfl rfl rfl (fun c1 => w_ic rfl kc_m1 (w_retG rfl rfl rfl (fun q => Bool.noConfusion q) (h.2.2.1 c1))) (fun c1 => w_go rfl rfl (w_go rfl rfl (w_go rfl rfl (w_go rfl rfl (w_go rfl rfl (w_go rfl rfl (w_gd rfl rfl rfl (h.2.2.2 c1).1 (w_go rfl rfl (w_gd rfl rfl rfl ⟨Or.inr (h.2.2.2 c1).2.1.1, (h.2.2.2 c1).2.1.2⟩ (w_cI rfl rfl rfl ⟨⟨Nat.le_of_ble_eq_true rfl, Nat.le_of_ble_eq_true rfl⟩, (h.2.2.2 c1).2.2.1⟩ rfl (fun _ => rfl) (h.2.2.2 c1).2.2.2 (fun r2 σ2 k2 => w_br rfl rfl rfl rfl (fun c3 => w_inc rfl rfl kc_1 (w_go rfl rfl ((k2.1 c3)))) (fun c3 => w_go rfl rfl (w_retG rfl rfl rfl (fun q => Bool.noConfusion q) (k2.2 c3)))))))))))))))))))

theorem b_M_span_0 {a0 : Nat} {x1 : Int32} {x2 : Int32} {σ : iS} {Q : iO → iS → Prop} (h : sK σ a0 = 10 ∧ ca J_M_isFull [vr a0, vi x2] σ (cI (fun r1 σ1 => (r1 ≠ 0 → wp J_M_span 14 [vr a0, vi x1, vi x2] [vi (0 : Int32), vr a0] σ1 Q) ∧ (¬ (r1 ≠ 0) → wp J_M_span 14 [vr a0, vi x1, vi x2] [vi (1 : Int32), vr a0] σ1 Q)) Q)) : ca J_M_span [vr a0, vi x1, vi x2] σ Q :=
  w_go rfl rfl (w_go rfl rfl (w_go rfl rfl (w_cI rfl rfl rfl ⟨⟨Nat.le_of_ble_eq_true rfl, Nat.le_of_ble_eq_true rfl⟩, h.1⟩ rfl (fun _ => rfl) h.2 (fun r1 σ1 k1 => w_br rfl rfl rfl rfl (fun c2 => w_ic rfl kc_0 ((k1.1 c2))) (fun c2 => w_ic rfl kc_1 (w_go rfl rfl ((k1.2 c2))))))))

theorem b_M_span_14 {a0 : Nat} {x1 : Int32} {x2 : Int32} {tx0 : Int32} {ta1 : Nat} {σ : iS} {Q : iO → iS → Prop} (h : sK σ ta1 = 10 ∧ ca J_M_fails [vr ta1, vi tx0, vi (0 : Int32)] σ (cI (fun r1 σ1 => (r1 = 0 → (x1 = 0 → sK σ1 a0 = 10 ∧ (∀ σ4, σ4 = wI σ1 326 a0 x2 → wp J_M_span 39 [vr a0, vi x1, vi x2] [] σ4 Q)) ∧ (¬ (x1 = 0) → sK σ1 a0 = 10 ∧ (∀ σ5, σ5 = wI σ1 325 a0 x2 → wp J_M_span 39 [vr a0, vi x1, vi x2] [] σ5 Q))) ∧ (¬ (r1 = 0) → Q (.inl none) σ1)) Q)) : wp J_M_span 14 [vr a0, vi x1, vi x2] [vi tx0, vr ta1] σ Q :=
  w_ic rfl kc_0 (w_cI rfl rfl rfl ⟨⟨Nat.le_of_ble_eq_true rfl, Nat.le_of_ble_eq_true rfl⟩, h.1⟩ rfl (fun _ => rfl) h.2 (fun r1 σ1 k1 => w_br rfl rfl rfl rfl (fun c2 => w_go rfl rfl (w_br rfl rfl rfl rfl (fun c3 => w_go rfl rfl (w_go rfl rfl (w_gd rfl rfl rfl ((k1.1 c2).1 c3).1 ((((k1.1 c2).1 c3).2 _ rfl))))) (fun c3 => w_go rfl rfl (w_go rfl rfl (w_gd rfl rfl rfl ((k1.1 c2).2 c3).1 (w_go rfl rfl ((((k1.1 c2).2 c3).2 _ rfl)))))))) (fun c2 => w_ret rfl rfl (k1.2 c2))))

theorem b_M_span_39 {a0 : Nat} {x1 : Int32} {x2 : Int32} {σ : iS} {Q : iO → iS → Prop} (h : Q (.inl none) σ) : wp J_M_span 39 [vr a0, vi x1, vi x2] [] σ Q :=
  w_ret rfl rfl h

theorem b_M_phrase_0 {a0 : Nat} {x1 : Int32} {x2 : Int32} {x3 : Int32} {σ : iS} {Q : iO → iS → Prop} (h : sK σ a0 = 10 ∧ (sK σ a0 = 10 ∧ ((sK σ (sR σ 327 a0) = 101 ∧ iIn (sI σ 336 a0) (sN σ (sR σ 327 a0))) ∧ (∀ σ1, σ1 = wA σ (sR σ 327 a0) (sI σ 336 a0).toNatClampNeg x1 → sK σ1 a0 = 10 ∧ (sK σ1 a0 = 10 ∧ ((sK σ1 (sR σ1 328 a0) = 101 ∧ iIn (sI σ1 336 a0) (sN σ1 (sR σ1 328 a0))) ∧ (∀ σ2, σ2 = wA σ1 (sR σ1 328 a0) (sI σ1 336 a0).toNatClampNeg x2 → sK σ2 a0 = 10 ∧ (sK σ2 a0 = 10 ∧ ((sK σ2 (sR σ2 329 a0) = 101 ∧ iIn (sI σ2 336 a0) (sN σ2 (sR σ2 329 a0))) ∧ (∀ σ3, σ3 = wA σ2 (sR σ2 329 a0) (sI σ2 336 a0).toNatClampNeg x3 → sK σ3 a0 = 10 ∧ (sK σ3 a0 = 10 ∧ (sK σ3 a0 = 10 ∧ ((sK σ3 (sR σ3 330 a0) = 101 ∧ iIn (sI σ3 336 a0) (sN σ3 (sR σ3 330 a0))) ∧ (∀ σ4, σ4 = wA σ3 (sR σ3 330 a0) (sI σ3 336 a0).toNatClampNeg (sI σ3 325 a0) → sK σ4 a0 = 10 ∧ (sK σ4 a0 = 10 ∧ (sK σ4 a0 = 10 ∧ ((sK σ4 (sR σ4 331 a0) = 101 ∧ iIn (sI σ4 336 a0) (sN σ4 (sR σ4 331 a0))) ∧ (∀ σ5, σ5 = wA σ4 (sR σ4 331 a0) (sI σ4 336 a0).toNatClampNeg (sI σ4 326 a0) → sK σ5 a0 = 10 ∧ (∀ σ6, σ6 = wI σ5 325 a0 (-1 : Int32) → sK σ6 a0 = 10 ∧ (∀ σ7, σ7 = wI σ6 326 a0 (-1 : Int32) → sK σ7 a0 = 10 ∧ (sK σ7 a0 = 10 ∧ (∀ σ8, σ8 = wI σ7 336 a0 ((sI σ7 336 a0) + (1 : Int32)) → sK σ8 a0 = 10 ∧ (Q (.inl (some (vi (sI σ8 336 a0)))) σ8))))))))))))))))))))))) : ca J_M_phrase [vr a0, vi x1, vi x2, vi x3] σ Q :=
  w_go rfl rfl (w_gd rfl rfl rfl h.1 (w_go rfl rfl (w_gd rfl rfl rfl h.2.1 (w_go rfl rfl (w_gd rfl rfl rfl h.2.2.1 (w_go rfl rfl (w_gd rfl rfl rfl (h.2.2.2 _ rfl).1 (w_go rfl rfl (w_gd rfl rfl rfl (h.2.2.2 _ rfl).2.1 (w_go rfl rfl (w_gd rfl rfl rfl (h.2.2.2 _ rfl).2.2.1 (w_go rfl rfl (w_gd rfl rfl rfl ((h.2.2.2 _ rfl).2.2.2 _ rfl).1 (w_go rfl rfl (w_gd rfl rfl rfl ((h.2.2.2 _ rfl).2.2.2 _ rfl).2.1 (w_go rfl rfl (w_gd rfl rfl rfl ((h.2.2.2 _ rfl).2.2.2 _ rfl).2.2.1 (w_go rfl rfl (w_gd rfl rfl rfl (((h.2.2.2 _ rfl).2.2.2 _ rfl).2.2.2 _ rfl).1 (w_go rfl rfl (w_gd rfl rfl rfl (((h.2.2.2 _ rfl).2.2.2 _ rfl).2.2.2 _ rfl).2.1 (w_go rfl rfl (w_gd rfl rfl rfl (((h.2.2.2 _ rfl).2.2.2 _ rfl).2.2.2 _ rfl).2.2.1 (w_gd rfl rfl rfl (((h.2.2.2 _ rfl).2.2.2 _ rfl).2.2.2 _ rfl).2.2.2.1 (w_go rfl rfl (w_gd rfl rfl rfl ((((h.2.2.2 _ rfl).2.2.2 _ rfl).2.2.2 _ rfl).2.2.2.2 _ rfl).1 (w_go rfl rfl (w_gd rfl rfl rfl ((((h.2.2.2 _ rfl).2.2.2 _ rfl).2.2.2 _ rfl).2.2.2.2 _ rfl).2.1 (w_go rfl rfl (w_gd rfl rfl rfl ((((h.2.2.2 _ rfl).2.2.2 _ rfl).2.2.2 _ rfl).2.2.2.2 _ rfl).2.2.1 (w_gd rfl rfl rfl ((((h.2.2.2 _ rfl).2.2.2 _ rfl).2.2.2 _ rfl).2.2.2.2 _ rfl).2.2.2.1 (w_go rfl rfl (w_ic rfl kc_m1 (w_gd rfl rfl rfl (((((h.2.2.2 _ rfl).2.2.2 _ rfl).2.2.2 _ rfl).2.2.2.2 _ rfl).2.2.2.2 _ rfl).1 (w_go rfl rfl (w_ic rfl kc_m1 (w_gd rfl rfl rfl ((((((h.2.2.2 _ rfl).2.2.2 _ rfl).2.2.2 _ rfl).2.2.2.2 _ rfl).2.2.2.2 _ rfl).2 _ rfl).1 (w_go rfl rfl (w_go rfl rfl (w_gd rfl rfl rfl (((((((h.2.2.2 _ rfl).2.2.2 _ rfl).2.2.2 _ rfl).2.2.2.2 _ rfl).2.2.2.2 _ rfl).2 _ rfl).2 _ rfl).1 (w_ic rfl kc_1 (w_go rfl rfl (w_gd rfl rfl rfl (((((((h.2.2.2 _ rfl).2.2.2 _ rfl).2.2.2 _ rfl).2.2.2.2 _ rfl).2.2.2.2 _ rfl).2 _ rfl).2 _ rfl).2.1 (w_go rfl rfl (w_gd rfl rfl rfl ((((((((h.2.2.2 _ rfl).2.2.2 _ rfl).2.2.2 _ rfl).2.2.2.2 _ rfl).2.2.2.2 _ rfl).2 _ rfl).2 _ rfl).2.2 _ rfl).1 (w_retG rfl rfl rfl (fun q => Bool.noConfusion q) ((((((((h.2.2.2 _ rfl).2.2.2 _ rfl).2.2.2 _ rfl).2.2.2.2 _ rfl).2.2.2.2 _ rfl).2 _ rfl).2 _ rfl).2.2 _ rfl).2))))))))))))))))))))))))))))))))))))))))))))))

theorem b_M_tally_0 {a0 : Nat} {x1 : Int32} {x2 : Int32} {x3 : Int32} {σ : iS} {Q : iO → iS → Prop} (h : (x1 < 0 → wp J_M_tally 31 [vr a0, vi x1, vi x2, vi x3, vl 0] [] σ Q) ∧ (¬ (x1 < 0) → ((2 : Int32) < x1 → wp J_M_tally 31 [vr a0, vi x1, vi x2, vi x3, vl 0] [] σ Q) ∧ (¬ ((2 : Int32) < x1) → (x1 ≤ 0 → wp J_M_tally 21 [vr a0, vi x1, vi x2, vi x3, vl 0] [] σ Q) ∧ (¬ (x1 ≤ 0) → sK σ a0 = 10 ∧ ca J_M_isFull [vr a0, vi x2] σ (cI (fun r4 σ4 => (r4 = 0 → wp J_M_tally 31 [vr a0, vi x1, vi x2, vi x3, vl 0] [] σ4 Q) ∧ (¬ (r4 = 0) → wp J_M_tally 21 [vr a0, vi x1, vi x2, vi x3, vl 0] [] σ4 Q)) Q))))) : ca J_M_tally [vr a0, vi x1, vi x2, vi x3] σ Q :=
  w_go rfl rfl (w_br rfl rfl rfl rfl (fun c1 => (h.1 c1)) (fun c1 => w_go rfl rfl (w_ic rfl kc_2 (w_br rfl rfl rfl rfl (fun c2 => ((h.2 c1).1 c2)) (fun c2 => w_go rfl rfl (w_br rfl rfl rfl rfl (fun c3 => (((h.2 c1).2 c2).1 c3)) (fun c3 => w_go rfl rfl (w_go rfl rfl (w_cI rfl rfl rfl ⟨⟨Nat.le_of_ble_eq_true rfl, Nat.le_of_ble_eq_true rfl⟩, (((h.2 c1).2 c2).2 c3).1⟩ rfl (fun _ => rfl) (((h.2 c1).2 c2).2 c3).2 (fun r4 σ4 k4 => w_br rfl rfl rfl rfl (fun c5 => (k4.1 c5)) (fun c5 => (k4.2 c5))))))))))))

theorem b_M_tally_21 {a0 : Nat} {x1 : Int32} {x2 : Int32} {x3 : Int32} {l4 : iV} {σ : iS} {Q : iO → iS → Prop} (h : (x3 < 0 → wp J_M_tally 31 [vr a0, vi x1, vi x2, vi x3, l4] [] σ Q) ∧ (¬ (x3 < 0) → (x3 ≤ (9 : Int32) → wp J_M_tally 36 [vr a0, vi x1, vi x2, vi x3, l4] [vi (0 : Int32)] σ Q) ∧ (¬ (x3 ≤ (9 : Int32)) → wp J_M_tally 31 [vr a0, vi x1, vi x2, vi x3, l4] [] σ Q))) : wp J_M_tally 21 [vr a0, vi x1, vi x2, vi x3, l4] [] σ Q :=
  w_go rfl rfl (w_br rfl rfl rfl rfl (fun c1 => (h.1 c1)) (fun c1 => w_go rfl rfl (w_bp rfl kb_9 (w_br rfl rfl rfl rfl (fun c2 => w_ic rfl kc_0 (((h.2 c1).1 c2))) (fun c2 => ((h.2 c1).2 c2))))))

theorem b_M_tally_31 {a0 : Nat} {x1 : Int32} {x2 : Int32} {x3 : Int32} {l4 : iV} {σ : iS} {Q : iO → iS → Prop} (h : wp J_M_tally 36 [vr a0, vi x1, vi x2, vi x3, l4] [vi (1 : Int32)] σ Q) : wp J_M_tally 31 [vr a0, vi x1, vi x2, vi x3, l4] [] σ Q :=
  w_ic rfl kc_1 (w_go rfl rfl (h))

theorem b_M_tally_36 {a0 : Nat} {x1 : Int32} {x2 : Int32} {x3 : Int32} {l4 : iV} {tx0 : Int32} {σ : iS} {Q : iO → iS → Prop} (h : (tx0 ≠ 0 → wp J_M_tally 59 [vr a0, vi x1, vi x2, vi x3, vi tx0] [vi tx0, vr a0] σ Q) ∧ (¬ (tx0 ≠ 0) → sK σ a0 = 10 ∧ (((sI σ 336 a0) ≠ (20 : Int32) → wp J_M_tally 59 [vr a0, vi x1, vi x2, vi x3, vi tx0] [vi tx0, vr a0] σ Q) ∧ (¬ ((sI σ 336 a0) ≠ (20 : Int32)) → wp J_M_tally 60 [vr a0, vi x1, vi x2, vi x3, vi tx0] [vi (1 : Int32), vi tx0, vr a0] σ Q)))) : wp J_M_tally 36 [vr a0, vi x1, vi x2, vi x3, l4] [vi tx0] σ Q :=
  w_gd rfl rfl rfl (Nat.le_of_ble_eq_true rfl) (w_go rfl rfl (w_go rfl rfl (w_go rfl rfl (w_br rfl rfl rfl rfl (fun c1 => (h.1 c1)) (fun c1 => w_go rfl rfl (w_gd rfl rfl rfl (h.2 c1).1 (w_bp rfl kb_20 (w_br rfl rfl rfl rfl (fun c2 => ((h.2 c1).2.1 c2)) (fun c2 => w_ic rfl kc_1 (w_go rfl rfl (((h.2 c1).2.2 c2))))))))))))

theorem b_M_tally_59 {a0 : Nat} {x1 : Int32} {x2 : Int32} {x3 : Int32} {x4 : Int32} {tx0 : Int32} {ta1 : Nat} {σ : iS} {Q : iO → iS → Prop} (h : wp J_M_tally 60 [vr a0, vi x1, vi x2, vi x3, vi x4] [vi (0 : Int32), vi tx0, vr ta1] σ Q) : wp J_M_tally 59 [vr a0, vi x1, vi x2, vi x3, vi x4] [vi tx0, vr ta1] σ Q :=
  w_ic rfl kc_0 (h)

theorem b_M_tally_60 {a0 : Nat} {x1 : Int32} {x2 : Int32} {x3 : Int32} {x4 : Int32} {tx0 : Int32} {tx1 : Int32} {ta2 : Nat} {σ : iS} {Q : iO → iS → Prop} (h : sK σ ta2 = 10 ∧ ca J_M_fails [vr ta2, vi tx1, vi tx0] σ (cI (fun r1 σ1 => (r1 = 0 → sK σ1 a0 = 10 ∧ ca J_M_phrase [vr a0, vi x1, vi x2, vi x3] σ1 (cI (fun r3 σ3 => Q (.inl (some (vi r3))) σ3) Q)) ∧ (¬ (r1 = 0) → Q (.inl (some (vi (0 : Int32)))) σ1)) Q)) : wp J_M_tally 60 [vr a0, vi x1, vi x2, vi x3, vi x4] [vi tx0, vi tx1, vr ta2] σ Q :=
  w_cI rfl rfl rfl ⟨⟨Nat.le_of_ble_eq_true rfl, Nat.le_of_ble_eq_true rfl⟩, h.1⟩ rfl (fun _ => rfl) h.2 (fun r1 σ1 k1 => w_br rfl rfl rfl rfl (fun c2 => w_go rfl rfl (w_go rfl rfl (w_go rfl rfl (w_go rfl rfl (w_cI rfl rfl rfl ⟨⟨Nat.le_of_ble_eq_true rfl, Nat.le_of_ble_eq_true rfl⟩, (k1.1 c2).1⟩ rfl (fun _ => rfl) (k1.1 c2).2 (fun r3 σ3 k3 => w_retG rfl rfl rfl (fun q => Bool.noConfusion q) k3)))))) (fun c2 => w_ic rfl kc_0 (w_retG rfl rfl rfl (fun q => Bool.noConfusion q) (k1.2 c2))))

theorem b_M_replace_0 {a0 : Nat} {x1 : Int32} {x2 : Int32} {x3 : Int32} {σ : iS} {Q : iO → iS → Prop} (h : (x1 < 0 → wp J_M_replace 52 [vr a0, vi x1, vi x2, vi x3, vl 0] [] σ Q) ∧ (¬ (x1 < 0) → ((3 : Int32) < x1 → wp J_M_replace 52 [vr a0, vi x1, vi x2, vi x3, vl 0] [] σ Q) ∧ (¬ ((3 : Int32) < x1) → (x1 ≤ 0 → wp J_M_replace 21 [vr a0, vi x1, vi x2, vi x3, vl 0] [] σ Q) ∧ (¬ (x1 ≤ 0) → sK σ a0 = 10 ∧ ca J_M_isFull [vr a0, vi x2] σ (cI (fun r4 σ4 => (r4 = 0 → wp J_M_replace 52 [vr a0, vi x1, vi x2, vi x3, vl 0] [] σ4 Q) ∧ (¬ (r4 = 0) → wp J_M_replace 21 [vr a0, vi x1, vi x2, vi x3, vl 0] [] σ4 Q)) Q))))) : ca J_M_replace [vr a0, vi x1, vi x2, vi x3] σ Q :=
  w_go rfl rfl (w_br rfl rfl rfl rfl (fun c1 => (h.1 c1)) (fun c1 => w_go rfl rfl (w_ic rfl kc_3 (w_br rfl rfl rfl rfl (fun c2 => ((h.2 c1).1 c2)) (fun c2 => w_go rfl rfl (w_br rfl rfl rfl rfl (fun c3 => (((h.2 c1).2 c2).1 c3)) (fun c3 => w_go rfl rfl (w_go rfl rfl (w_cI rfl rfl rfl ⟨⟨Nat.le_of_ble_eq_true rfl, Nat.le_of_ble_eq_true rfl⟩, (((h.2 c1).2 c2).2 c3).1⟩ rfl (fun _ => rfl) (((h.2 c1).2 c2).2 c3).2 (fun r4 σ4 k4 => w_br rfl rfl rfl rfl (fun c5 => (k4.1 c5)) (fun c5 => (k4.2 c5))))))))))))

theorem b_M_replace_21 {a0 : Nat} {x1 : Int32} {x2 : Int32} {x3 : Int32} {l4 : iV} {σ : iS} {Q : iO → iS → Prop} (h : sK σ a0 = 10 ∧ ca J_M_isText [vr a0, vi x3] σ (cI (fun r1 σ1 => (r1 = 0 → wp J_M_replace 52 [vr a0, vi x1, vi x2, vi x3, l4] [] σ1 Q) ∧ (¬ (r1 = 0) → sK σ1 a0 = 10 ∧ ((sK σ1 (sR σ1 323 a0) = 101 ∧ iIn x3 (sN σ1 (sR σ1 323 a0))) ∧ ((x1 ≠ 0 → sK σ1 a0 = 10 ∧ ((sK σ1 (sR σ1 323 a0) = 101 ∧ iIn x2 (sN σ1 (sR σ1 323 a0))) ∧ (wp J_M_replace 49 [vr a0, vi x1, vi x2, vi x3, l4] [vi (sA σ1 (sR σ1 323 a0) x2.toNatClampNeg), vi (sA σ1 (sR σ1 323 a0) x3.toNatClampNeg)] σ1 Q))) ∧ (¬ (x1 ≠ 0) → wp J_M_replace 49 [vr a0, vi x1, vi x2, vi x3, l4] [vi (1 : Int32), vi (sA σ1 (sR σ1 323 a0) x3.toNatClampNeg)] σ1 Q))))) Q)) : wp J_M_replace 21 [vr a0, vi x1, vi x2, vi x3, l4] [] σ Q :=
  w_go rfl rfl (w_go rfl rfl (w_cI rfl rfl rfl ⟨⟨Nat.le_of_ble_eq_true rfl, Nat.le_of_ble_eq_true rfl⟩, h.1⟩ rfl (fun _ => rfl) h.2 (fun r1 σ1 k1 => w_br rfl rfl rfl rfl (fun c2 => (k1.1 c2)) (fun c2 => w_go rfl rfl (w_gd rfl rfl rfl (k1.2 c2).1 (w_go rfl rfl (w_gd rfl rfl rfl ⟨Or.inr (k1.2 c2).2.1.1, (k1.2 c2).2.1.2⟩ (w_go rfl rfl (w_br rfl rfl rfl rfl (fun c3 => w_go rfl rfl (w_gd rfl rfl rfl ((k1.2 c2).2.2.1 c3).1 (w_go rfl rfl (w_gd rfl rfl rfl ⟨Or.inr ((k1.2 c2).2.2.1 c3).2.1.1, ((k1.2 c2).2.2.1 c3).2.1.2⟩ (((k1.2 c2).2.2.1 c3).2.2))))) (fun c3 => w_ic rfl kc_1 (w_go rfl rfl (((k1.2 c2).2.2.2 c3)))))))))))))

theorem b_M_replace_49 {a0 : Nat} {x1 : Int32} {x2 : Int32} {x3 : Int32} {l4 : iV} {tx0 : Int32} {tx1 : Int32} {σ : iS} {Q : iO → iS → Prop} (h : (tx1 = tx0 → wp J_M_replace 57 [vr a0, vi x1, vi x2, vi x3, l4] [vi (0 : Int32)] σ Q) ∧ (¬ (tx1 = tx0) → wp J_M_replace 52 [vr a0, vi x1, vi x2, vi x3, l4] [] σ Q)) : wp J_M_replace 49 [vr a0, vi x1, vi x2, vi x3, l4] [vi tx0, vi tx1] σ Q :=
  w_br rfl rfl rfl rfl (fun c1 => w_ic rfl kc_0 ((h.1 c1))) (fun c1 => (h.2 c1))

theorem b_M_replace_52 {a0 : Nat} {x1 : Int32} {x2 : Int32} {x3 : Int32} {l4 : iV} {σ : iS} {Q : iO → iS → Prop} (h : wp J_M_replace 57 [vr a0, vi x1, vi x2, vi x3, l4] [vi (1 : Int32)] σ Q) : wp J_M_replace 52 [vr a0, vi x1, vi x2, vi x3, l4] [] σ Q :=
  w_ic rfl kc_1 (w_go rfl rfl (h))

theorem b_M_replace_57 {a0 : Nat} {x1 : Int32} {x2 : Int32} {x3 : Int32} {l4 : iV} {tx0 : Int32} {σ : iS} {Q : iO → iS → Prop} (h : (tx0 ≠ 0 → wp J_M_replace 80 [vr a0, vi x1, vi x2, vi x3, vi tx0] [vi tx0, vr a0] σ Q) ∧ (¬ (tx0 ≠ 0) → sK σ a0 = 10 ∧ (((sI σ 336 a0) ≠ (20 : Int32) → wp J_M_replace 80 [vr a0, vi x1, vi x2, vi x3, vi tx0] [vi tx0, vr a0] σ Q) ∧ (¬ ((sI σ 336 a0) ≠ (20 : Int32)) → wp J_M_replace 81 [vr a0, vi x1, vi x2, vi x3, vi tx0] [vi (1 : Int32), vi tx0, vr a0] σ Q)))) : wp J_M_replace 57 [vr a0, vi x1, vi x2, vi x3, l4] [vi tx0] σ Q :=
  w_gd rfl rfl rfl (Nat.le_of_ble_eq_true rfl) (w_go rfl rfl (w_go rfl rfl (w_go rfl rfl (w_br rfl rfl rfl rfl (fun c1 => (h.1 c1)) (fun c1 => w_go rfl rfl (w_gd rfl rfl rfl (h.2 c1).1 (w_bp rfl kb_20 (w_br rfl rfl rfl rfl (fun c2 => ((h.2 c1).2.1 c2)) (fun c2 => w_ic rfl kc_1 (w_go rfl rfl (((h.2 c1).2.2 c2))))))))))))

theorem b_M_replace_80 {a0 : Nat} {x1 : Int32} {x2 : Int32} {x3 : Int32} {x4 : Int32} {tx0 : Int32} {ta1 : Nat} {σ : iS} {Q : iO → iS → Prop} (h : wp J_M_replace 81 [vr a0, vi x1, vi x2, vi x3, vi x4] [vi (0 : Int32), vi tx0, vr ta1] σ Q) : wp J_M_replace 80 [vr a0, vi x1, vi x2, vi x3, vi x4] [vi tx0, vr ta1] σ Q :=
  w_ic rfl kc_0 (h)

theorem b_M_replace_81 {a0 : Nat} {x1 : Int32} {x2 : Int32} {x3 : Int32} {x4 : Int32} {tx0 : Int32} {tx1 : Int32} {ta2 : Nat} {σ : iS} {Q : iO → iS → Prop} (h : sK σ ta2 = 10 ∧ ca J_M_fails [vr ta2, vi tx1, vi tx0] σ (cI (fun r1 σ1 => (r1 = 0 → sK σ1 a0 = 10 ∧ ca J_M_phrase [vr a0, vi ((10 : Int32) + x1), vi x2, vi x3] σ1 (cI (fun r3 σ3 => Q (.inl (some (vi r3))) σ3) Q)) ∧ (¬ (r1 = 0) → Q (.inl (some (vi (0 : Int32)))) σ1)) Q)) : wp J_M_replace 81 [vr a0, vi x1, vi x2, vi x3, vi x4] [vi tx0, vi tx1, vr ta2] σ Q :=
  w_cI rfl rfl rfl ⟨⟨Nat.le_of_ble_eq_true rfl, Nat.le_of_ble_eq_true rfl⟩, h.1⟩ rfl (fun _ => rfl) h.2 (fun r1 σ1 k1 => w_br rfl rfl rfl rfl (fun c2 => w_go rfl rfl (w_bp rfl kb_10 (w_go rfl rfl (w_go rfl rfl (w_go rfl rfl (w_go rfl rfl (w_cI rfl rfl rfl ⟨⟨Nat.le_of_ble_eq_true rfl, Nat.le_of_ble_eq_true rfl⟩, (k1.1 c2).1⟩ rfl (fun _ => rfl) (k1.1 c2).2 (fun r3 σ3 k3 => w_retG rfl rfl rfl (fun q => Bool.noConfusion q) k3)))))))) (fun c2 => w_ic rfl kc_0 (w_retG rfl rfl rfl (fun q => Bool.noConfusion q) (k1.2 c2))))

theorem b_M_beginOf_0 {a0 : Nat} {x1 : Int32} {x2 : Int32} {σ : iS} {Q : iO → iS → Prop} (h : (x2 ≠ (-1 : Int32) → sK σ a0 = 10 ∧ (sK σ a0 = 10 ∧ ca J_M_first [vr a0, vr (sR σ 322 a0), vi x2, vi x1] σ (cI (fun r2 σ2 => (r2 ≠ (-1 : Int32) → sK σ2 a0 = 10 ∧ ((sK σ2 (sR σ2 323 a0) = 101 ∧ iIn x2 (sN σ2 (sR σ2 323 a0))) ∧ (wp J_M_beginOf 40 [vr a0, vi x1, vi x2, vi r2] [vi (r2 + (sA σ2 (sR σ2 323 a0) x2.toNatClampNeg))] σ2 Q))) ∧ (¬ (r2 ≠ (-1 : Int32)) → sK σ2 a0 = 10 ∧ ((sK σ2 (sR σ2 323 a0) = 101 ∧ iIn x1 (sN σ2 (sR σ2 323 a0))) ∧ (wp J_M_beginOf 40 [vr a0, vi x1, vi x2, vi r2] [vi (sA σ2 (sR σ2 323 a0) x1.toNatClampNeg)] σ2 Q)))) Q))) ∧ (¬ (x2 ≠ (-1 : Int32)) → Q (.inl (some (vi (0 : Int32)))) σ)) : ca J_M_beginOf [vr a0, vi x1, vi x2] σ Q :=
  w_go rfl rfl (w_ic rfl kc_m1 (w_br rfl rfl rfl rfl (fun c1 => w_go rfl rfl (w_go rfl rfl (w_gd rfl rfl rfl (h.1 c1).1 (w_go rfl rfl (w_go rfl rfl (w_cI rfl rfl rfl ⟨⟨Nat.le_of_ble_eq_true rfl, Nat.le_of_ble_eq_true rfl⟩, (h.1 c1).2.1⟩ rfl (fun _ => rfl) (h.1 c1).2.2 (fun r2 σ2 k2 => w_gd rfl rfl rfl (Nat.le_of_ble_eq_true rfl) (w_go rfl rfl (w_ic rfl kc_m1 (w_br rfl rfl rfl rfl (fun c3 => w_go rfl rfl (w_go rfl rfl (w_gd rfl rfl rfl (k2.1 c3).1 (w_go rfl rfl (w_gd rfl rfl rfl ⟨Or.inr (k2.1 c3).2.1.1, (k2.1 c3).2.1.2⟩ (w_go rfl rfl ((k2.1 c3).2.2))))))) (fun c3 => w_go rfl rfl (w_gd rfl rfl rfl (k2.2 c3).1 (w_go rfl rfl (w_gd rfl rfl rfl ⟨Or.inr (k2.2 c3).2.1.1, (k2.2 c3).2.1.2⟩ (w_go rfl rfl ((k2.2 c3).2.2)))))))))))))))) (fun c1 => w_ic rfl kc_0 (w_retG rfl rfl rfl (fun q => Bool.noConfusion q) (h.2 c1)))))

theorem b_M_beginOf_40 {a0 : Nat} {x1 : Int32} {x2 : Int32} {x3 : Int32} {tx0 : Int32} {σ : iS} {Q : iO → iS → Prop} (h : Q (.inl (some (vi tx0))) σ) : wp J_M_beginOf 40 [vr a0, vi x1, vi x2, vi x3] [vi tx0] σ Q :=
  w_retG rfl rfl rfl (fun q => Bool.noConfusion q) h

theorem b_M_endOf_0 {a0 : Nat} {x1 : Int32} {x2 : Int32} {σ : iS} {Q : iO → iS → Prop} (h : (x2 ≠ (-1 : Int32) → sK σ a0 = 10 ∧ (sK σ a0 = 10 ∧ ca J_M_first [vr a0, vr (sR σ 322 a0), vi x2, vi x1] σ (cI (fun r2 σ2 => wp J_M_endOf 19 [vr a0, vi x1, vi x2, vl 0] [vi r2] σ2 Q) Q))) ∧ (¬ (x2 ≠ (-1 : Int32)) → wp J_M_endOf 19 [vr a0, vi x1, vi x2, vl 0] [vi (-1 : Int32)] σ Q)) : ca J_M_endOf [vr a0, vi x1, vi x2] σ Q :=
  w_go rfl rfl (w_ic rfl kc_m1 (w_br rfl rfl rfl rfl (fun c1 => w_go rfl rfl (w_go rfl rfl (w_gd rfl rfl rfl (h.1 c1).1 (w_go rfl rfl (w_go rfl rfl (w_cI rfl rfl rfl ⟨⟨Nat.le_of_ble_eq_true rfl, Nat.le_of_ble_eq_true rfl⟩, (h.1 c1).2.1⟩ rfl (fun _ => rfl) (h.1 c1).2.2 (fun r2 σ2 k2 => k2))))))) (fun c1 => w_ic rfl kc_m1 (w_go rfl rfl ((h.2 c1))))))

theorem b_M_endOf_19 {a0 : Nat} {x1 : Int32} {x2 : Int32} {l3 : iV} {tx0 : Int32} {σ : iS} {Q : iO → iS → Prop} (h : (tx0 ≠ (-1 : Int32) → wp J_M_endOf 35 [vr a0, vi x1, vi x2, vi tx0] [vi tx0] σ Q) ∧ (¬ (tx0 ≠ (-1 : Int32)) → sK σ a0 = 10 ∧ ((sK σ (sR σ 323 a0) = 101 ∧ iIn x1 (sN σ (sR σ 323 a0))) ∧ (wp J_M_endOf 35 [vr a0, vi x1, vi x2, vi tx0] [vi (sA σ (sR σ 323 a0) x1.toNatClampNeg)] σ Q)))) : wp J_M_endOf 19 [vr a0, vi x1, vi x2, l3] [vi tx0] σ Q :=
  w_gd rfl rfl rfl (Nat.le_of_ble_eq_true rfl) (w_go rfl rfl (w_ic rfl kc_m1 (w_br rfl rfl rfl rfl (fun c1 => w_go rfl rfl ((h.1 c1))) (fun c1 => w_go rfl rfl (w_gd rfl rfl rfl (h.2 c1).1 (w_go rfl rfl (w_gd rfl rfl rfl ⟨Or.inr (h.2 c1).2.1.1, (h.2 c1).2.1.2⟩ (w_go rfl rfl ((h.2 c1).2.2)))))))))

theorem b_M_endOf_35 {a0 : Nat} {x1 : Int32} {x2 : Int32} {x3 : Int32} {tx0 : Int32} {σ : iS} {Q : iO → iS → Prop} (h : Q (.inl (some (vi tx0))) σ) : wp J_M_endOf 35 [vr a0, vi x1, vi x2, vi x3] [vi tx0] σ Q :=
  w_retG rfl rfl rfl (fun q => Bool.noConfusion q) h

theorem b_M_matches_0 {a0 : Nat} {x1 : Int32} {x2 : Int32} {x3 : Int32} {σ : iS} {Q : iO → iS → Prop} (h : sK σ a0 = 10 ∧ ((sK σ (sR σ 327 a0) = 101 ∧ iIn x1 (sN σ (sR σ 327 a0))) ∧ ((10 : Int32) ≠ 0 ∧ (sK σ a0 = 10 ∧ ((sK σ (sR σ 332 a0) = 101 ∧ iIn x1 (sN σ (sR σ 332 a0))) ∧ ((x3 < (sA σ (sR σ 332 a0) x1.toNatClampNeg) → wp J_M_matches 62 [vr a0, vi x1, vi x2, vi x3, vi ((sA σ (sR σ 327 a0) x1.toNatClampNeg) - (sA σ (sR σ 327 a0) x1.toNatClampNeg) / (10 : Int32) * (10 : Int32))] [] σ Q) ∧ (¬ (x3 < (sA σ (sR σ 332 a0) x1.toNatClampNeg)) → sK σ a0 = 10 ∧ ((sK σ (sR σ 333 a0) = 101 ∧ iIn x1 (sN σ (sR σ 333 a0))) ∧ (((sA σ (sR σ 333 a0) x1.toNatClampNeg) ≤ x3 → wp J_M_matches 62 [vr a0, vi x1, vi x2, vi x3, vi ((sA σ (sR σ 327 a0) x1.toNatClampNeg) - (sA σ (sR σ 327 a0) x1.toNatClampNeg) / (10 : Int32) * (10 : Int32))] [] σ Q) ∧ (¬ ((sA σ (sR σ 333 a0) x1.toNatClampNeg) ≤ x3) → (((sA σ (sR σ 327 a0) x1.toNatClampNeg) - (sA σ (sR σ 327 a0) x1.toNatClampNeg) / (10 : Int32) * (10 : Int32)) ≠ (3 : Int32) → wp J_M_matches 46 [vr a0, vi x1, vi x2, vi x3, vi ((sA σ (sR σ 327 a0) x1.toNatClampNeg) - (sA σ (sR σ 327 a0) x1.toNatClampNeg) / (10 : Int32) * (10 : Int32))] [] σ Q) ∧ (¬ (((sA σ (sR σ 327 a0) x1.toNatClampNeg) - (sA σ (sR σ 327 a0) x1.toNatClampNeg) / (10 : Int32) * (10 : Int32)) ≠ (3 : Int32)) → sK σ a0 = 10 ∧ ((sK σ (sR σ 335 a0) = 102 ∧ iIn x1 (sN σ (sR σ 335 a0))) ∧ (((sA σ (sR σ 335 a0) x1.toNatClampNeg) ≠ 0 → wp J_M_matches 62 [vr a0, vi x1, vi x2, vi x3, vi ((sA σ (sR σ 327 a0) x1.toNatClampNeg) - (sA σ (sR σ 327 a0) x1.toNatClampNeg) / (10 : Int32) * (10 : Int32))] [] σ Q) ∧ (¬ ((sA σ (sR σ 335 a0) x1.toNatClampNeg) ≠ 0) → wp J_M_matches 46 [vr a0, vi x1, vi x2, vi x3, vi ((sA σ (sR σ 327 a0) x1.toNatClampNeg) - (sA σ (sR σ 327 a0) x1.toNatClampNeg) / (10 : Int32) * (10 : Int32))] [] σ Q)))))))))))))) : ca J_M_matches [vr a0, vi x1, vi x2, vi x3] σ Q :=
  w_go rfl rfl (w_gd rfl rfl rfl h.1 (w_go rfl rfl (w_gd rfl rfl rfl ⟨Or.inr h.2.1.1, h.2.1.2⟩ (w_bp rfl kb_10 (w_gd rfl rfl rfl h.2.2.1 (w_gd rfl rfl rfl (Nat.le_of_ble_eq_true rfl) (w_go rfl rfl (w_go rfl rfl (w_gd rfl rfl rfl h.2.2.2.1 (w_go rfl rfl (w_gd rfl rfl rfl ⟨Or.inr h.2.2.2.2.1.1, h.2.2.2.2.1.2⟩ (w_br rfl rfl rfl rfl (fun c1 => (h.2.2.2.2.2.1 c1)) (fun c1 => w_go rfl rfl (w_go rfl rfl (w_gd rfl rfl rfl (h.2.2.2.2.2.2 c1).1 (w_go rfl rfl (w_gd rfl rfl rfl ⟨Or.inr (h.2.2.2.2.2.2 c1).2.1.1, (h.2.2.2.2.2.2 c1).2.1.2⟩ (w_br rfl rfl rfl rfl (fun c2 => ((h.2.2.2.2.2.2 c1).2.2.1 c2)) (fun c2 => w_go rfl rfl (w_ic rfl kc_3 (w_br rfl rfl rfl rfl (fun c3 => (((h.2.2.2.2.2.2 c1).2.2.2 c2).1 c3)) (fun c3 => w_go rfl rfl (w_gd rfl rfl rfl (((h.2.2.2.2.2.2 c1).2.2.2 c2).2 c3).1 (w_go rfl rfl (w_gd rfl rfl rfl (((h.2.2.2.2.2.2 c1).2.2.2 c2).2 c3).2.1 (w_br rfl rfl rfl rfl (fun c4 => ((((h.2.2.2.2.2.2 c1).2.2.2 c2).2 c3).2.2.1 c4)) (fun c4 => ((((h.2.2.2.2.2.2 c1).2.2.2 c2).2 c3).2.2.2 c4))))))))))))))))))))))))))))

theorem b_M_matches_46 {a0 : Nat} {x1 : Int32} {x2 : Int32} {x3 : Int32} {x4 : Int32} {σ : iS} {Q : iO → iS → Prop} (h : (x4 ≠ (2 : Int32) → wp J_M_matches 64 [vr a0, vi x1, vi x2, vi x3, vi x4] [] σ Q) ∧ (¬ (x4 ≠ (2 : Int32)) → sK σ a0 = 10 ∧ ((sK σ (sR σ 334 a0) = 101 ∧ iIn x1 (sN σ (sR σ 334 a0))) ∧ (((sA σ (sR σ 334 a0) x1.toNatClampNeg) = x3 → wp J_M_matches 64 [vr a0, vi x1, vi x2, vi x3, vi x4] [] σ Q) ∧ (¬ ((sA σ (sR σ 334 a0) x1.toNatClampNeg) = x3) → wp J_M_matches 62 [vr a0, vi x1, vi x2, vi x3, vi x4] [] σ Q))))) : wp J_M_matches 46 [vr a0, vi x1, vi x2, vi x3, vi x4] [] σ Q :=
  w_go rfl rfl (w_ic rfl kc_2 (w_br rfl rfl rfl rfl (fun c1 => (h.1 c1)) (fun c1 => w_go rfl rfl (w_gd rfl rfl rfl (h.2 c1).1 (w_go rfl rfl (w_gd rfl rfl rfl ⟨Or.inr (h.2 c1).2.1.1, (h.2 c1).2.1.2⟩ (w_go rfl rfl (w_br rfl rfl rfl rfl (fun c2 => ((h.2 c1).2.2.1 c2)) (fun c2 => ((h.2 c1).2.2.2 c2))))))))))

theorem b_M_matches_62 {a0 : Nat} {x1 : Int32} {x2 : Int32} {x3 : Int32} {x4 : Int32} {σ : iS} {Q : iO → iS → Prop} (h : iBool (0 : Int32) ∧ Q (.inl (some (vi (0 : Int32)))) σ) : wp J_M_matches 62 [vr a0, vi x1, vi x2, vi x3, vi x4] [] σ Q :=
  w_ic rfl kc_0 (w_retG rfl rfl rfl (fun _ => h.1) h.2)

theorem b_M_matches_64 {a0 : Nat} {x1 : Int32} {x2 : Int32} {x3 : Int32} {x4 : Int32} {σ : iS} {Q : iO → iS → Prop} (h : (x4 = 0 → wp J_M_matches 94 [vr a0, vi x1, vi x2, vi x3, vi x4] [] σ Q) ∧ (¬ (x4 = 0) → sK σ a0 = 10 ∧ (sK σ a0 = 10 ∧ ((sK σ (sR σ 328 a0) = 101 ∧ iIn x1 (sN σ (sR σ 328 a0))) ∧ (sK σ a0 = 10 ∧ ((sK σ (sR σ 333 a0) = 101 ∧ iIn x1 (sN σ (sR σ 333 a0))) ∧ (sK σ a0 = 10 ∧ ca J_M_occurs [vr a0, vr (sR σ 322 a0), vi (sA σ (sR σ 328 a0) x1.toNatClampNeg), vi x2, vi x3, vi (sA σ (sR σ 333 a0) x1.toNatClampNeg)] σ (cI (fun r2 σ2 => (r2 = 0 → wp J_M_matches 99 [vr a0, vi x1, vi x2, vi x3, vi x4] [vi (0 : Int32)] σ2 Q) ∧ (¬ (r2 = 0) → wp J_M_matches 94 [vr a0, vi x1, vi x2, vi x3, vi x4] [] σ2 Q)) Q)))))))) : wp J_M_matches 64 [vr a0, vi x1, vi x2, vi x3, vi x4] [] σ Q :=
  w_go rfl rfl (w_br rfl rfl rfl rfl (fun c1 => (h.1 c1)) (fun c1 => w_go rfl rfl (w_go rfl rfl (w_gd rfl rfl rfl (h.2 c1).1 (w_go rfl rfl (w_gd rfl rfl rfl (h.2 c1).2.1 (w_go rfl rfl (w_gd rfl rfl rfl ⟨Or.inr (h.2 c1).2.2.1.1, (h.2 c1).2.2.1.2⟩ (w_go rfl rfl (w_go rfl rfl (w_go rfl rfl (w_gd rfl rfl rfl (h.2 c1).2.2.2.1 (w_go rfl rfl (w_gd rfl rfl rfl ⟨Or.inr (h.2 c1).2.2.2.2.1.1, (h.2 c1).2.2.2.2.1.2⟩ (w_cI rfl rfl rfl ⟨⟨Nat.le_of_ble_eq_true rfl, Nat.le_of_ble_eq_true rfl⟩, (h.2 c1).2.2.2.2.2.1⟩ rfl (fun _ => rfl) (h.2 c1).2.2.2.2.2.2 (fun r2 σ2 k2 => w_br rfl rfl rfl rfl (fun c3 => w_ic rfl kc_0 ((k2.1 c3))) (fun c3 => (k2.2 c3))))))))))))))))))

theorem b_M_matches_94 {a0 : Nat} {x1 : Int32} {x2 : Int32} {x3 : Int32} {x4 : Int32} {σ : iS} {Q : iO → iS → Prop} (h : wp J_M_matches 99 [vr a0, vi x1, vi x2, vi x3, vi x4] [vi (1 : Int32)] σ Q) : wp J_M_matches 94 [vr a0, vi x1, vi x2, vi x3, vi x4] [] σ Q :=
  w_ic rfl kc_1 (w_go rfl rfl (h))

theorem b_M_matches_99 {a0 : Nat} {x1 : Int32} {x2 : Int32} {x3 : Int32} {x4 : Int32} {tx0 : Int32} {σ : iS} {Q : iO → iS → Prop} (h : iBool tx0 ∧ Q (.inl (some (vi tx0))) σ) : wp J_M_matches 99 [vr a0, vi x1, vi x2, vi x3, vi x4] [vi tx0] σ Q :=
  w_retG rfl rfl rfl (fun _ => h.1) h.2

theorem b_M_over_0 {a0 : Nat} {x1 : Int32} {x2 : Int32} {σ : iS} {Q : iO → iS → Prop} (h : sK σ a0 = 10 ∧ ca J_M_remember [vr a0] σ (cV (fun σ1 => wp J_M_over 6 [vr a0, vi x1, vi x2, vi (0 : Int32), vl 0, vl 0, vl 0] [] σ1 Q) Q)) : ca J_M_over [vr a0, vi x1, vi x2] σ Q :=
  w_go rfl rfl (w_cV rfl rfl rfl ⟨⟨Nat.le_of_ble_eq_true rfl, Nat.le_of_ble_eq_true rfl⟩, h.1⟩ rfl (fun _ => rfl) h.2 (fun σ1 k1 => w_ic rfl kc_0 (w_gd rfl rfl rfl (Nat.le_of_ble_eq_true rfl) (k1))))

theorem b_M_over_6 {a0 : Nat} {x1 : Int32} {x2 : Int32} {x3 : Int32} {l4 : iV} {l5 : iV} {l6 : iV} {σ : iS} {Q : iO → iS → Prop} (h : sK σ a0 = 10 ∧ (((sI σ 336 a0) ≤ x3 → wp J_M_over 78 [vr a0, vi x1, vi x2, vi (0 : Int32), vi (0 : Int32), l5, l6] [] σ Q) ∧ (¬ ((sI σ 336 a0) ≤ x3) → sK σ a0 = 10 ∧ (sK σ a0 = 10 ∧ ((sK σ (sR σ 330 a0) = 101 ∧ iIn x3 (sN σ (sR σ 330 a0))) ∧ (sK σ a0 = 10 ∧ ca J_M_beginOf [vr a0, vi x1, vi (sA σ (sR σ 330 a0) x3.toNatClampNeg)] σ (cI (fun r2 σ2 => (sK σ2 (sR σ 332 a0) = 101 ∧ iIn x3 (sN σ2 (sR σ 332 a0))) ∧ (∀ σ3, σ3 = wA σ2 (sR σ 332 a0) x3.toNatClampNeg r2 → sK σ3 a0 = 10 ∧ (sK σ3 a0 = 10 ∧ ((sK σ3 (sR σ3 331 a0) = 101 ∧ iIn x3 (sN σ3 (sR σ3 331 a0))) ∧ (sK σ3 a0 = 10 ∧ ca J_M_endOf [vr a0, vi x1, vi (sA σ3 (sR σ3 331 a0) x3.toNatClampNeg)] σ3 (cI (fun r4 σ4 => (sK σ4 (sR σ3 333 a0) = 101 ∧ iIn x3 (sN σ4 (sR σ3 333 a0))) ∧ (∀ σ5, σ5 = wA σ4 (sR σ3 333 a0) x3.toNatClampNeg r4 → sK σ5 a0 = 10 ∧ (sK σ5 a0 = 10 ∧ ((sK σ5 (sR σ5 332 a0) = 101 ∧ iIn x3 (sN σ5 (sR σ5 332 a0))) ∧ ((sK σ5 (sR σ5 334 a0) = 101 ∧ iIn x3 (sN σ5 (sR σ5 334 a0))) ∧ (∀ σ6, σ6 = wA σ5 (sR σ5 334 a0) x3.toNatClampNeg (sA σ5 (sR σ5 332 a0) x3.toNatClampNeg) → sK σ6 a0 = 10 ∧ ((sK σ6 (sR σ6 335 a0) = 102 ∧ iBool (0 : Int32) ∧ iIn x3 (sN σ6 (sR σ6 335 a0))) ∧ (∀ σ7, σ7 = wA σ6 (sR σ6 335 a0) x3.toNatClampNeg (0 : Int32) → wp J_M_over 6 [vr a0, vi x1, vi x2, vi (x3 + (1 : Int32)), l4, l5, l6] [] σ7 Q)))))))) Q)))))) Q))))))) : wp J_M_over 6 [vr a0, vi x1, vi x2, vi x3, l4, l5, l6] [] σ Q :=
  w_go rfl rfl (w_go rfl rfl (w_gd rfl rfl rfl h.1 (w_br rfl rfl rfl rfl (fun c1 => w_ic rfl kc_0 (w_gd rfl rfl rfl (Nat.le_of_ble_eq_true rfl) (w_ic rfl kc_0 (w_gd rfl rfl rfl (Nat.le_of_ble_eq_true rfl) ((h.2.1 c1)))))) (fun c1 => w_go rfl rfl (w_gd rfl rfl rfl (h.2.2 c1).1 (w_go rfl rfl (w_go rfl rfl (w_go rfl rfl (w_go rfl rfl (w_gd rfl rfl rfl (h.2.2 c1).2.1 (w_go rfl rfl (w_gd rfl rfl rfl ⟨Or.inr (h.2.2 c1).2.2.1.1, (h.2.2 c1).2.2.1.2⟩ (w_cI rfl rfl rfl ⟨⟨Nat.le_of_ble_eq_true rfl, Nat.le_of_ble_eq_true rfl⟩, (h.2.2 c1).2.2.2.1⟩ rfl (fun _ => rfl) (h.2.2 c1).2.2.2.2 (fun r2 σ2 k2 => w_gd rfl rfl rfl k2.1 (w_go rfl rfl (w_gd rfl rfl rfl (k2.2 _ rfl).1 (w_go rfl rfl (w_go rfl rfl (w_go rfl rfl (w_go rfl rfl (w_gd rfl rfl rfl (k2.2 _ rfl).2.1 (w_go rfl rfl (w_gd rfl rfl rfl ⟨Or.inr (k2.2 _ rfl).2.2.1.1, (k2.2 _ rfl).2.2.1.2⟩ (w_cI rfl rfl rfl ⟨⟨Nat.le_of_ble_eq_true rfl, Nat.le_of_ble_eq_true rfl⟩, (k2.2 _ rfl).2.2.2.1⟩ rfl (fun _ => rfl) (k2.2 _ rfl).2.2.2.2 (fun r4 σ4 k4 => w_gd rfl rfl rfl k4.1 (w_go rfl rfl (w_gd rfl rfl rfl (k4.2 _ rfl).1 (w_go rfl rfl (w_go rfl rfl (w_gd rfl rfl rfl (k4.2 _ rfl).2.1 (w_go rfl rfl (w_gd rfl rfl rfl ⟨Or.inr (k4.2 _ rfl).2.2.1.1, (k4.2 _ rfl).2.2.1.2⟩ (w_gd rfl rfl rfl (k4.2 _ rfl).2.2.2.1 (w_go rfl rfl (w_gd rfl rfl rfl ((k4.2 _ rfl).2.2.2.2 _ rfl).1 (w_go rfl rfl (w_ic rfl kc_0 (w_gd rfl rfl rfl ((k4.2 _ rfl).2.2.2.2 _ rfl).2.1 (w_inc rfl rfl kc_1 (w_go rfl rfl ((((k4.2 _ rfl).2.2.2.2 _ rfl).2.2 _ rfl))))))))))))))))))))))))))))))))))))))))))

theorem b_M_over_78 {a0 : Nat} {x1 : Int32} {x2 : Int32} {x3 : Int32} {x4 : Int32} {l5 : iV} {l6 : iV} {σ : iS} {Q : iO → iS → Prop} (h : sK σ a0 = 10 ∧ ((sK σ (sR σ 323 a0) = 101 ∧ iIn x1 (sN σ (sR σ 323 a0))) ∧ (((sA σ (sR σ 323 a0) x1.toNatClampNeg) ≤ x4 → Q (.inl (some (vi x3))) σ) ∧ (¬ ((sA σ (sR σ 323 a0) x1.toNatClampNeg) ≤ x4) → sK σ a0 = 10 ∧ (wp J_M_over 100 [vr a0, vi x1, vi x2, vi x3, vi x4, vi (-1 : Int32), vi ((sI σ 336 a0) - (1 : Int32))] [] σ Q))))) : wp J_M_over 78 [vr a0, vi x1, vi x2, vi x3, vi x4, l5, l6] [] σ Q :=
  w_go rfl rfl (w_go rfl rfl (w_gd rfl rfl rfl h.1 (w_go rfl rfl (w_gd rfl rfl rfl ⟨Or.inr h.2.1.1, h.2.1.2⟩ (w_br rfl rfl rfl rfl (fun c1 => w_go rfl rfl (w_retG rfl rfl rfl (fun q => Bool.noConfusion q) (h.2.2.1 c1))) (fun c1 => w_ic rfl kc_m1 (w_gd rfl rfl rfl (Nat.le_of_ble_eq_true rfl) (w_go rfl rfl (w_gd rfl rfl rfl (h.2.2.2 c1).1 (w_ic rfl kc_1 (w_go rfl rfl (w_gd rfl rfl rfl (Nat.le_of_ble_eq_true rfl) ((h.2.2.2 c1).2)))))))))))))

theorem b_M_over_100 {a0 : Nat} {x1 : Int32} {x2 : Int32} {x3 : Int32} {x4 : Int32} {x5 : Int32} {x6 : Int32} {σ : iS} {Q : iO → iS → Prop} (h : (x6 < 0 → (x5 = (-1 : Int32) → wp J_M_over 172 [vr a0, vi x1, vi x2, vi x3, vi x4, vi x5, vi x6] [] σ Q) ∧ (¬ (x5 = (-1 : Int32)) → sK σ a0 = 10 ∧ ((sK σ (sR σ 327 a0) = 101 ∧ iIn x5 (sN σ (sR σ 327 a0))) ∧ ((10 : Int32) ≠ 0 ∧ ((((sA σ (sR σ 327 a0) x5.toNatClampNeg) - (sA σ (sR σ 327 a0) x5.toNatClampNeg) / (10 : Int32) * (10 : Int32)) ≠ 0 → sK σ a0 = 10 ∧ (sK σ a0 = 10 ∧ ((sK σ (sR σ 328 a0) = 101 ∧ iIn x5 (sN σ (sR σ 328 a0))) ∧ ((sK σ (sR σ 323 a0) = 101 ∧ iIn (sA σ (sR σ 328 a0) x5.toNatClampNeg) (sN σ (sR σ 323 a0))) ∧ (wp J_M_over 188 [vr a0, vi x1, vi x2, vi x3, vi x4, vi x5, vi x6] [vi (sA σ (sR σ 323 a0) (sA σ (sR σ 328 a0) x5.toNatClampNeg).toNatClampNeg)] σ Q))))) ∧ (¬ (((sA σ (sR σ 327 a0) x5.toNatClampNeg) - (sA σ (sR σ 327 a0) x5.toNatClampNeg) / (10 : Int32) * (10 : Int32)) ≠ 0) → wp J_M_over 172 [vr a0, vi x1, vi x2, vi x3, vi x4, vi x5, vi x6] [] σ Q)))))) ∧ (¬ (x6 < 0) → sK σ a0 = 10 ∧ ((sK σ (sR σ 327 a0) = 101 ∧ iIn x6 (sN σ (sR σ 327 a0))) ∧ (((sA σ (sR σ 327 a0) x6.toNatClampNeg) ≤ (9 : Int32) → wp J_M_over 122 [vr a0, vi x1, vi x2, vi x3, vi x4, vi x5, vi x6] [vi (0 : Int32)] σ Q) ∧ (¬ ((sA σ (sR σ 327 a0) x6.toNatClampNeg) ≤ (9 : Int32)) → wp J_M_over 122 [vr a0, vi x1, vi x2, vi x3, vi x4, vi x5, vi x6] [vi (1 : Int32)] σ Q))))) : wp J_M_over 100 [vr a0, vi x1, vi x2, vi x3, vi x4, vi x5, vi x6] [] σ Q :=
  w_go rfl rfl (w_br rfl rfl rfl rfl (fun c1 => w_go rfl rfl (w_ic rfl kc_m1 (w_br rfl rfl rfl rfl (fun c2 => ((h.1 c1).1 c2)) (fun c2 => w_go rfl rfl (w_gd rfl rfl rfl ((h.1 c1).2 c2).1 (w_go rfl rfl (w_gd rfl rfl rfl ⟨Or.inr ((h.1 c1).2 c2).2.1.1, ((h.1 c1).2 c2).2.1.2⟩ (w_bp rfl kb_10 (w_gd rfl rfl rfl ((h.1 c1).2 c2).2.2.1 (w_br rfl rfl rfl rfl (fun c3 => w_go rfl rfl (w_gd rfl rfl rfl (((h.1 c1).2 c2).2.2.2.1 c3).1 (w_go rfl rfl (w_gd rfl rfl rfl (((h.1 c1).2 c2).2.2.2.1 c3).2.1 (w_go rfl rfl (w_gd rfl rfl rfl ⟨Or.inr (((h.1 c1).2 c2).2.2.2.1 c3).2.2.1.1, (((h.1 c1).2 c2).2.2.2.1 c3).2.2.1.2⟩ (w_gd rfl rfl rfl ⟨Or.inr (((h.1 c1).2 c2).2.2.2.1 c3).2.2.2.1.1, (((h.1 c1).2 c2).2.2.2.1 c3).2.2.2.1.2⟩ ((((h.1 c1).2 c2).2.2.2.1 c3).2.2.2.2)))))))) (fun c3 => (((h.1 c1).2 c2).2.2.2.2 c3)))))))))))) (fun c1 => w_go rfl rfl (w_gd rfl rfl rfl (h.2 c1).1 (w_go rfl rfl (w_gd rfl rfl rfl ⟨Or.inr (h.2 c1).2.1.1, (h.2 c1).2.1.2⟩ (w_bp rfl kb_9 (w_br rfl rfl rfl rfl (fun c4 => w_ic rfl kc_0 (((h.2 c1).2.2.1 c4))) (fun c4 => w_ic rfl kc_1 (w_go rfl rfl (((h.2 c1).2.2.2 c4)))))))))))

theorem b_M_over_122 {a0 : Nat} {x1 : Int32} {x2 : Int32} {x3 : Int32} {x4 : Int32} {x5 : Int32} {x6 : Int32} {tx0 : Int32} {σ : iS} {Q : iO → iS → Prop} (h : (tx0 ≠ x2 → wp J_M_over 143 [vr a0, vi x1, vi x2, vi x3, vi x4, vi x5, vi x6] [] σ Q) ∧ (¬ (tx0 ≠ x2) → sK σ a0 = 10 ∧ ca J_M_matches [vr a0, vi x6, vi x1, vi x4] σ (cI (fun r2 σ2 => (r2 = 0 → wp J_M_over 143 [vr a0, vi x1, vi x2, vi x3, vi x4, vi x5, vi x6] [] σ2 Q) ∧ (¬ (r2 = 0) → wp J_M_over 145 [vr a0, vi x1, vi x2, vi x3, vi x4, vi x5, vi x6] [vi x6] σ2 Q)) Q))) : wp J_M_over 122 [vr a0, vi x1, vi x2, vi x3, vi x4, vi x5, vi x6] [vi tx0] σ Q :=
  w_go rfl rfl (w_br rfl rfl rfl rfl (fun c1 => (h.1 c1)) (fun c1 => w_go rfl rfl (w_go rfl rfl (w_go rfl rfl (w_go rfl rfl (w_cI rfl rfl rfl ⟨⟨Nat.le_of_ble_eq_true rfl, Nat.le_of_ble_eq_true rfl⟩, (h.2 c1).1⟩ rfl (fun _ => rfl) (h.2 c1).2 (fun r2 σ2 k2 => w_br rfl rfl rfl rfl (fun c3 => (k2.1 c3)) (fun c3 => w_go rfl rfl (w_go rfl rfl ((k2.2 c3)))))))))))

theorem b_M_over_143 {a0 : Nat} {x1 : Int32} {x2 : Int32} {x3 : Int32} {x4 : Int32} {x5 : Int32} {x6 : Int32} {σ : iS} {Q : iO → iS → Prop} (h : wp J_M_over 145 [vr a0, vi x1, vi x2, vi x3, vi x4, vi x5, vi x6] [vi x5] σ Q) : wp J_M_over 143 [vr a0, vi x1, vi x2, vi x3, vi x4, vi x5, vi x6] [] σ Q :=
  w_go rfl rfl (h)

theorem b_M_over_145 {a0 : Nat} {x1 : Int32} {x2 : Int32} {x3 : Int32} {x4 : Int32} {x5 : Int32} {x6 : Int32} {tx0 : Int32} {σ : iS} {Q : iO → iS → Prop} (h : wp J_M_over 100 [vr a0, vi x1, vi x2, vi x3, vi x4, vi tx0, vi (x6 + (-1 : Int32))] [] σ Q) : wp J_M_over 145 [vr a0, vi x1, vi x2, vi x3, vi x4, vi x5, vi x6] [vi tx0] σ Q :=
  w_gd rfl rfl rfl (Nat.le_of_ble_eq_true rfl) (w_inc rfl rfl kc_m1 (w_go rfl rfl (h)))

theorem b_M_over_172 {a0 : Nat} {x1 : Int32} {x2 : Int32} {x3 : Int32} {x4 : Int32} {x5 : Int32} {x6 : Int32} {σ : iS} {Q : iO → iS → Prop} (h : wp J_M_over 188 [vr a0, vi x1, vi x2, vi x3, vi x4, vi x5, vi x6] [vi (1 : Int32)] σ Q) : wp J_M_over 172 [vr a0, vi x1, vi x2, vi x3, vi x4, vi x5, vi x6] [] σ Q :=
  w_ic rfl kc_1 (w_go rfl rfl (h))

theorem b_M_over_188 {a0 : Nat} {x1 : Int32} {x2 : Int32} {x3 : Int32} {x4 : Int32} {x5 : Int32} {x6 : Int32} {tx0 : Int32} {σ : iS} {Q : iO → iS → Prop} (h : (x5 = (-1 : Int32) → wp J_M_over 231 [vr a0, vi x1, vi x2, vi x3, vi x4, vi x5, vi tx0] [] σ Q) ∧ (¬ (x5 = (-1 : Int32)) → sK σ a0 = 10 ∧ ((sK σ (sR σ 335 a0) = 102 ∧ iBool (1 : Int32) ∧ iIn x5 (sN σ (sR σ 335 a0))) ∧ (∀ σ2, σ2 = wA σ (sR σ 335 a0) x5.toNatClampNeg (1 : Int32) → sK σ2 a0 = 10 ∧ ((sK σ2 (sR σ2 334 a0) = 101 ∧ iIn x5 (sN σ2 (sR σ2 334 a0))) ∧ (∀ σ3, σ3 = wA σ2 (sR σ2 334 a0) x5.toNatClampNeg (x4 + tx0) → sK σ3 a0 = 10 ∧ ca J_M_act [vr a0, vi x5, vi x1, vi x4, vi tx0, vi x2] σ3 (cV (fun σ4 => wp J_M_over 231 [vr a0, vi x1, vi x2, vi (x3 + (1 : Int32)), vi x4, vi x5, vi tx0] [] σ4 Q) Q))))))) : wp J_M_over 188 [vr a0, vi x1, vi x2, vi x3, vi x4, vi x5, vi x6] [vi tx0] σ Q :=
  w_gd rfl rfl rfl (Nat.le_of_ble_eq_true rfl) (w_go rfl rfl (w_ic rfl kc_m1 (w_br rfl rfl rfl rfl (fun c1 => (h.1 c1)) (fun c1 => w_inc rfl rfl kc_1 (w_go rfl rfl (w_gd rfl rfl rfl (h.2 c1).1 (w_go rfl rfl (w_ic rfl kc_1 (w_gd rfl rfl rfl (h.2 c1).2.1 (w_go rfl rfl (w_gd rfl rfl rfl ((h.2 c1).2.2 _ rfl).1 (w_go rfl rfl (w_go rfl rfl (w_go rfl rfl (w_go rfl rfl (w_gd rfl rfl rfl ((h.2 c1).2.2 _ rfl).2.1 (w_go rfl rfl (w_go rfl rfl (w_go rfl rfl (w_go rfl rfl (w_go rfl rfl (w_go rfl rfl (w_cV rfl rfl rfl ⟨⟨Nat.le_of_ble_eq_true rfl, Nat.le_of_ble_eq_true rfl⟩, (((h.2 c1).2.2 _ rfl).2.2 _ rfl).1⟩ rfl (fun _ => rfl) (((h.2 c1).2.2 _ rfl).2.2 _ rfl).2 (fun σ4 k4 => k4))))))))))))))))))))))))

theorem b_M_over_231 {a0 : Nat} {x1 : Int32} {x2 : Int32} {x3 : Int32} {x4 : Int32} {x5 : Int32} {x6 : Int32} {σ : iS} {Q : iO → iS → Prop} (h : wp J_M_over 78 [vr a0, vi x1, vi x2, vi x3, vi (x4 + x6), vi x5, vi x6] [] σ Q) : wp J_M_over 231 [vr a0, vi x1, vi x2, vi x3, vi x4, vi x5, vi x6] [] σ Q :=
  w_go rfl rfl (w_go rfl rfl (w_go rfl rfl (w_gd rfl rfl rfl (Nat.le_of_ble_eq_true rfl) (w_go rfl rfl (h)))))

theorem b_M_act_0 {a0 : Nat} {x1 : Int32} {x2 : Int32} {x3 : Int32} {x4 : Int32} {x5 : Int32} {σ : iS} {Q : iO → iS → Prop} (h : (x5 ≠ 0 → wp J_M_act 24 [vr a0, vi x1, vi x2, vi x3, vi x4, vi x5, vi (0 : Int32)] [] σ Q) ∧ (¬ (x5 ≠ 0) → sK σ a0 = 10 ∧ (sK σ a0 = 10 ∧ ((sK σ (sR σ 329 a0) = 101 ∧ iIn x1 (sN σ (sR σ 329 a0))) ∧ ((sK σ (sR σ 337 a0) = 101 ∧ iIn (sA σ (sR σ 329 a0) x1.toNatClampNeg) (sN σ (sR σ 337 a0))) ∧ ((sK σ (sR σ 337 a0) = 101 ∧ iIn (sA σ (sR σ 329 a0) x1.toNatClampNeg) (sN σ (sR σ 337 a0))) ∧ (∀ σ2, σ2 = wA σ (sR σ 337 a0) (sA σ (sR σ 329 a0) x1.toNatClampNeg).toNatClampNeg ((sA σ (sR σ 337 a0) (sA σ (sR σ 329 a0) x1.toNatClampNeg).toNatClampNeg) + (1 : Int32)) → Q (.inl none) σ2))))))) : ca J_M_act [vr a0, vi x1, vi x2, vi x3, vi x4, vi x5] σ Q :=
  w_go rfl rfl (w_br rfl rfl rfl rfl (fun c1 => w_ic rfl kc_0 (w_gd rfl rfl rfl (Nat.le_of_ble_eq_true rfl) ((h.1 c1)))) (fun c1 => w_go rfl rfl (w_gd rfl rfl rfl (h.2 c1).1 (w_go rfl rfl (w_gd rfl rfl rfl (h.2 c1).2.1 (w_go rfl rfl (w_gd rfl rfl rfl ⟨Or.inr (h.2 c1).2.2.1.1, (h.2 c1).2.2.1.2⟩ (w_go rfl rfl (w_gd rfl rfl rfl ⟨Or.inr (h.2 c1).2.2.2.1.1, (h.2 c1).2.2.2.1.2⟩ (w_ic rfl kc_1 (w_go rfl rfl (w_gd rfl rfl rfl (h.2 c1).2.2.2.2.1 (w_ret rfl rfl ((h.2 c1).2.2.2.2.2 _ rfl))))))))))))))

theorem b_M_act_24 {a0 : Nat} {x1 : Int32} {x2 : Int32} {x3 : Int32} {x4 : Int32} {x5 : Int32} {x6 : Int32} {σ : iS} {Q : iO → iS → Prop} (h : (x4 ≤ x6 → Q (.inl none) σ) ∧ (¬ (x4 ≤ x6) → sK σ a0 = 10 ∧ (sK σ a0 = 10 ∧ (sK σ a0 = 10 ∧ ((sK σ (sR σ 329 a0) = 101 ∧ iIn x1 (sN σ (sR σ 329 a0))) ∧ ((sK σ (sR σ 322 a0) = 101 ∧ iIn (((60 : Int32) * (sA σ (sR σ 329 a0) x1.toNatClampNeg)) + x6) (sN σ (sR σ 322 a0))) ∧ ((sK σ (sR σ 321 a0) = 101 ∧ iIn ((((60 : Int32) * x2) + x3) + x6) (sN σ (sR σ 321 a0))) ∧ (∀ σ2, σ2 = wA σ (sR σ 321 a0) ((((60 : Int32) * x2) + x3) + x6).toNatClampNeg (sA σ (sR σ 322 a0) (((60 : Int32) * (sA σ (sR σ 329 a0) x1.toNatClampNeg)) + x6).toNatClampNeg) → wp J_M_act 24 [vr a0, vi x1, vi x2, vi x3, vi x4, vi x5, vi (x6 + (1 : Int32))] [] σ2 Q)))))))) : wp J_M_act 24 [vr a0, vi x1, vi x2, vi x3, vi x4, vi x5, vi x6] [] σ Q :=
  w_go rfl rfl (w_go rfl rfl (w_br rfl rfl rfl rfl (fun c1 => w_ret rfl rfl (h.1 c1)) (fun c1 => w_go rfl rfl (w_gd rfl rfl rfl (h.2 c1).1 (w_bp rfl kb_60 (w_go rfl rfl (w_go rfl rfl (w_go rfl rfl (w_go rfl rfl (w_go rfl rfl (w_go rfl rfl (w_go rfl rfl (w_gd rfl rfl rfl (h.2 c1).2.1 (w_bp rfl kb_60 (w_go rfl rfl (w_gd rfl rfl rfl (h.2 c1).2.2.1 (w_go rfl rfl (w_gd rfl rfl rfl ⟨Or.inr (h.2 c1).2.2.2.1.1, (h.2 c1).2.2.2.1.2⟩ (w_go rfl rfl (w_go rfl rfl (w_go rfl rfl (w_gd rfl rfl rfl ⟨Or.inr (h.2 c1).2.2.2.2.1.1, (h.2 c1).2.2.2.2.1.2⟩ (w_gd rfl rfl rfl (h.2 c1).2.2.2.2.2.1 (w_inc rfl rfl kc_1 (w_go rfl rfl (((h.2 c1).2.2.2.2.2.2 _ rfl)))))))))))))))))))))))))))

theorem b_M_inspect_0 {a0 : Nat} {x1 : Int32} {σ : iS} {Q : iO → iS → Prop} (h : sK σ a0 = 10 ∧ ca J_M_isText [vr a0, vi x1] σ (cI (fun r1 σ1 => (r1 ≠ 0 → wp J_M_inspect 14 [vr a0, vi x1, vl 0] [vi (0 : Int32), vr a0] σ1 Q) ∧ (¬ (r1 ≠ 0) → wp J_M_inspect 14 [vr a0, vi x1, vl 0] [vi (1 : Int32), vr a0] σ1 Q)) Q)) : ca J_M_inspect [vr a0, vi x1] σ Q :=
  w_go rfl rfl (w_go rfl rfl (w_go rfl rfl (w_cI rfl rfl rfl ⟨⟨Nat.le_of_ble_eq_true rfl, Nat.le_of_ble_eq_true rfl⟩, h.1⟩ rfl (fun _ => rfl) h.2 (fun r1 σ1 k1 => w_br rfl rfl rfl rfl (fun c2 => w_ic rfl kc_0 ((k1.1 c2))) (fun c2 => w_ic rfl kc_1 (w_go rfl rfl ((k1.2 c2))))))))

theorem b_M_inspect_14 {a0 : Nat} {x1 : Int32} {l2 : iV} {tx0 : Int32} {ta1 : Nat} {σ : iS} {Q : iO → iS → Prop} (h : sK σ ta1 = 10 ∧ ca J_M_fails [vr ta1, vi tx0, vi (0 : Int32)] σ (cI (fun r1 σ1 => (r1 = 0 → sK σ1 a0 = 10 ∧ ca J_M_over [vr a0, vi x1, vi (0 : Int32)] σ1 (cI (fun r3 σ3 => sK σ3 a0 = 10 ∧ ca J_M_over [vr a0, vi x1, vi (1 : Int32)] σ3 (cI (fun r4 σ4 => sK σ4 a0 = 10 ∧ (∀ σ5, σ5 = wI σ4 336 a0 (0 : Int32) → Q (.inl (some (vi r4))) σ5)) Q)) Q)) ∧ (¬ (r1 = 0) → Q (.inl (some (vi (0 : Int32)))) σ1)) Q)) : wp J_M_inspect 14 [vr a0, vi x1, l2] [vi tx0, vr ta1] σ Q :=
  w_ic rfl kc_0 (w_cI rfl rfl rfl ⟨⟨Nat.le_of_ble_eq_true rfl, Nat.le_of_ble_eq_true rfl⟩, h.1⟩ rfl (fun _ => rfl) h.2 (fun r1 σ1 k1 => w_br rfl rfl rfl rfl (fun c2 => w_go rfl rfl (w_go rfl rfl (w_ic rfl kc_0 (w_cI rfl rfl rfl ⟨⟨Nat.le_of_ble_eq_true rfl, Nat.le_of_ble_eq_true rfl⟩, (k1.1 c2).1⟩ rfl (fun _ => rfl) (k1.1 c2).2 (fun r3 σ3 k3 => w_go rfl rfl (w_go rfl rfl (w_go rfl rfl (w_ic rfl kc_1 (w_cI rfl rfl rfl ⟨⟨Nat.le_of_ble_eq_true rfl, Nat.le_of_ble_eq_true rfl⟩, k3.1⟩ rfl (fun _ => rfl) k3.2 (fun r4 σ4 k4 => w_gd rfl rfl rfl (Nat.le_of_ble_eq_true rfl) (w_go rfl rfl (w_ic rfl kc_0 (w_gd rfl rfl rfl k4.1 (w_go rfl rfl (w_retG rfl rfl rfl (fun q => Bool.noConfusion q) (k4.2 _ rfl)))))))))))))))) (fun c2 => w_ic rfl kc_0 (w_retG rfl rfl rfl (fun q => Bool.noConfusion q) (k1.2 c2)))))

theorem b_M_convert_0 {a0 : Nat} {x1 : Int32} {x2 : Int32} {x3 : Int32} {σ : iS} {Q : iO → iS → Prop} (h : sK σ a0 = 10 ∧ ca J_M_isText [vr a0, vi x1] σ (cI (fun r1 σ1 => (r1 = 0 → wp J_M_convert 40 [vr a0, vi x1, vi x2, vi x3, vl 0, vl 0, vl 0, vl 0, vl 0, vl 0] [vr a0] σ1 Q) ∧ (¬ (r1 = 0) → sK σ1 a0 = 10 ∧ ca J_M_isText [vr a0, vi x2] σ1 (cI (fun r3 σ3 => (r3 = 0 → wp J_M_convert 40 [vr a0, vi x1, vi x2, vi x3, vl 0, vl 0, vl 0, vl 0, vl 0, vl 0] [vr a0] σ3 Q) ∧ (¬ (r3 = 0) → sK σ3 a0 = 10 ∧ ca J_M_isText [vr a0, vi x3] σ3 (cI (fun r5 σ5 => (r5 = 0 → wp J_M_convert 40 [vr a0, vi x1, vi x2, vi x3, vl 0, vl 0, vl 0, vl 0, vl 0, vl 0] [vr a0] σ5 Q) ∧ (¬ (r5 = 0) → sK σ5 a0 = 10 ∧ ((sK σ5 (sR σ5 323 a0) = 101 ∧ iIn x2 (sN σ5 (sR σ5 323 a0))) ∧ (sK σ5 a0 = 10 ∧ ((sK σ5 (sR σ5 323 a0) = 101 ∧ iIn x3 (sN σ5 (sR σ5 323 a0))) ∧ (((sA σ5 (sR σ5 323 a0) x2.toNatClampNeg) = (sA σ5 (sR σ5 323 a0) x3.toNatClampNeg) → wp J_M_convert 45 [vr a0, vi x1, vi x2, vi x3, vl 0, vl 0, vl 0, vl 0, vl 0, vl 0] [vi (0 : Int32), vr a0] σ5 Q) ∧ (¬ ((sA σ5 (sR σ5 323 a0) x2.toNatClampNeg) = (sA σ5 (sR σ5 323 a0) x3.toNatClampNeg)) → wp J_M_convert 40 [vr a0, vi x1, vi x2, vi x3, vl 0, vl 0, vl 0, vl 0, vl 0, vl 0] [vr a0] σ5 Q))))))) Q))) Q))) Q)) : ca J_M_convert [vr a0, vi x1, vi x2, vi x3] σ Q :=
  w_go rfl rfl (w_go rfl rfl (w_go rfl rfl (w_cI rfl rfl rfl ⟨⟨Nat.le_of_ble_eq_true rfl, Nat.le_of_ble_eq_true rfl⟩, h.1⟩ rfl (fun _ => rfl) h.2 (fun r1 σ1 k1 => w_br rfl rfl rfl rfl (fun c2 => (k1.1 c2)) (fun c2 => w_go rfl rfl (w_go rfl rfl (w_cI rfl rfl rfl ⟨⟨Nat.le_of_ble_eq_true rfl, Nat.le_of_ble_eq_true rfl⟩, (k1.2 c2).1⟩ rfl (fun _ => rfl) (k1.2 c2).2 (fun r3 σ3 k3 => w_br rfl rfl rfl rfl (fun c4 => (k3.1 c4)) (fun c4 => w_go rfl rfl (w_go rfl rfl (w_cI rfl rfl rfl ⟨⟨Nat.le_of_ble_eq_true rfl, Nat.le_of_ble_eq_true rfl⟩, (k3.2 c4).1⟩ rfl (fun _ => rfl) (k3.2 c4).2 (fun r5 σ5 k5 => w_br rfl rfl rfl rfl (fun c6 => (k5.1 c6)) (fun c6 => w_go rfl rfl (w_gd rfl rfl rfl (k5.2 c6).1 (w_go rfl rfl (w_gd rfl rfl rfl ⟨Or.inr (k5.2 c6).2.1.1, (k5.2 c6).2.1.2⟩ (w_go rfl rfl (w_gd rfl rfl rfl (k5.2 c6).2.2.1 (w_go rfl rfl (w_gd rfl rfl rfl ⟨Or.inr (k5.2 c6).2.2.2.1.1, (k5.2 c6).2.2.2.1.2⟩ (w_br rfl rfl rfl rfl (fun c7 => w_ic rfl kc_0 (((k5.2 c6).2.2.2.2.1 c7))) (fun c7 => ((k5.2 c6).2.2.2.2.2 c7)))))))))))))))))))))))

theorem b_M_convert_40 {a0 : Nat} {x1 : Int32} {x2 : Int32} {x3 : Int32} {l4 : iV} {l5 : iV} {l6 : iV} {l7 : iV} {l8 : iV} {l9 : iV} {ta0 : Nat} {σ : iS} {Q : iO → iS → Prop} (h : wp J_M_convert 45 [vr a0, vi x1, vi x2, vi x3, l4, l5, l6, l7, l8, l9] [vi (1 : Int32), vr ta0] σ Q) : wp J_M_convert 40 [vr a0, vi x1, vi x2, vi x3, l4, l5, l6, l7, l8, l9] [vr ta0] σ Q :=
  w_ic rfl kc_1 (w_go rfl rfl (h))

theorem b_M_convert_45 {a0 : Nat} {x1 : Int32} {x2 : Int32} {x3 : Int32} {l4 : iV} {l5 : iV} {l6 : iV} {l7 : iV} {l8 : iV} {l9 : iV} {tx0 : Int32} {ta1 : Nat} {σ : iS} {Q : iO → iS → Prop} (h : sK σ ta1 = 10 ∧ ca J_M_fails [vr ta1, vi tx0, vi (0 : Int32)] σ (cI (fun r1 σ1 => (r1 = 0 → sK σ1 a0 = 10 ∧ ca J_M_remember [vr a0] σ1 (cV (fun σ3 => sK σ3 a0 = 10 ∧ (sK σ3 a0 = 10 ∧ ca J_M_beginOf [vr a0, vi x1, vi (sI σ3 325 a0)] σ3 (cI (fun r4 σ4 => sK σ4 a0 = 10 ∧ (sK σ4 a0 = 10 ∧ ca J_M_endOf [vr a0, vi x1, vi (sI σ4 326 a0)] σ4 (cI (fun r5 σ5 => sK σ5 a0 = 10 ∧ (∀ σ6, σ6 = wI σ5 325 a0 (-1 : Int32) → sK σ6 a0 = 10 ∧ (∀ σ7, σ7 = wI σ6 326 a0 (-1 : Int32) → wp J_M_convert 97 [vr a0, vi x1, vi x2, vi x3, vi r4, vi r5, vi (0 : Int32), vi r4, l8, l9] [] σ7 Q))) Q))) Q))) Q)) ∧ (¬ (r1 = 0) → Q (.inl (some (vi (0 : Int32)))) σ1)) Q)) : wp J_M_convert 45 [vr a0, vi x1, vi x2, vi x3, l4, l5, l6, l7, l8, l9] [vi tx0, vr ta1] σ Q :=
  w_ic rfl kc_0 (w_cI rfl rfl rfl ⟨⟨Nat.le_of_ble_eq_true rfl, Nat.le_of_ble_eq_true rfl⟩, h.1⟩ rfl (fun _ => rfl) h.2 (fun r1 σ1 k1 => w_br rfl rfl rfl rfl (fun c2 => w_go rfl rfl (w_cV rfl rfl rfl ⟨⟨Nat.le_of_ble_eq_true rfl, Nat.le_of_ble_eq_true rfl⟩, (k1.1 c2).1⟩ rfl (fun _ => rfl) (k1.1 c2).2 (fun σ3 k3 => w_go rfl rfl (w_go rfl rfl (w_go rfl rfl (w_gd rfl rfl rfl k3.1 (w_cI rfl rfl rfl ⟨⟨Nat.le_of_ble_eq_true rfl, Nat.le_of_ble_eq_true rfl⟩, k3.2.1⟩ rfl (fun _ => rfl) k3.2.2 (fun r4 σ4 k4 => w_gd rfl rfl rfl (Nat.le_of_ble_eq_true rfl) (w_go rfl rfl (w_go rfl rfl (w_go rfl rfl (w_gd rfl rfl rfl k4.1 (w_cI rfl rfl rfl ⟨⟨Nat.le_of_ble_eq_true rfl, Nat.le_of_ble_eq_true rfl⟩, k4.2.1⟩ rfl (fun _ => rfl) k4.2.2 (fun r5 σ5 k5 => w_gd rfl rfl rfl (Nat.le_of_ble_eq_true rfl) (w_go rfl rfl (w_ic rfl kc_m1 (w_gd rfl rfl rfl k5.1 (w_go rfl rfl (w_ic rfl kc_m1 (w_gd rfl rfl rfl (k5.2 _ rfl).1 (w_ic rfl kc_0 (w_gd rfl rfl rfl (Nat.le_of_ble_eq_true rfl) (w_go rfl rfl (w_gd rfl rfl rfl (Nat.le_of_ble_eq_true rfl) (((k5.2 _ rfl).2 _ rfl)))))))))))))))))))))))))) (fun c2 => w_ic rfl kc_0 (w_retG rfl rfl rfl (fun q => Bool.noConfusion q) (k1.2 c2)))))

theorem b_M_convert_97 {a0 : Nat} {x1 : Int32} {x2 : Int32} {x3 : Int32} {x4 : Int32} {x5 : Int32} {x6 : Int32} {x7 : Int32} {l8 : iV} {l9 : iV} {σ : iS} {Q : iO → iS → Prop} (h : (x5 ≤ x7 → Q (.inl (some (vi x6))) σ) ∧ (¬ (x5 ≤ x7) → sK σ a0 = 10 ∧ ((sK σ (sR σ 323 a0) = 101 ∧ iIn x2 (sN σ (sR σ 323 a0))) ∧ (wp J_M_convert 117 [vr a0, vi x1, vi x2, vi x3, vi x4, vi x5, vi x6, vi x7, vi (-1 : Int32), vi ((sA σ (sR σ 323 a0) x2.toNatClampNeg) - (1 : Int32))] [] σ Q)))) : wp J_M_convert 97 [vr a0, vi x1, vi x2, vi x3, vi x4, vi x5, vi x6, vi x7, l8, l9] [] σ Q :=
  w_go rfl rfl (w_go rfl rfl (w_br rfl rfl rfl rfl (fun c1 => w_go rfl rfl (w_retG rfl rfl rfl (fun q => Bool.noConfusion q) (h.1 c1))) (fun c1 => w_ic rfl kc_m1 (w_gd rfl rfl rfl (Nat.le_of_ble_eq_true rfl) (w_go rfl rfl (w_gd rfl rfl rfl (h.2 c1).1 (w_go rfl rfl (w_gd rfl rfl rfl ⟨Or.inr (h.2 c1).2.1.1, (h.2 c1).2.1.2⟩ (w_ic rfl kc_1 (w_go rfl rfl (w_gd rfl rfl rfl (Nat.le_of_ble_eq_true rfl) ((h.2 c1).2.2))))))))))))

theorem b_M_convert_117 {a0 : Nat} {x1 : Int32} {x2 : Int32} {x3 : Int32} {x4 : Int32} {x5 : Int32} {x6 : Int32} {x7 : Int32} {x8 : Int32} {x9 : Int32} {σ : iS} {Q : iO → iS → Prop} (h : (x9 < 0 → (x8 ≠ (-1 : Int32) → sK σ a0 = 10 ∧ (sK σ a0 = 10 ∧ ((sK σ (sR σ 322 a0) = 101 ∧ iIn (((60 : Int32) * x3) + x8) (sN σ (sR σ 322 a0))) ∧ ((sK σ (sR σ 321 a0) = 101 ∧ iIn (((60 : Int32) * x1) + x7) (sN σ (sR σ 321 a0))) ∧ (∀ σ3, σ3 = wA σ (sR σ 321 a0) (((60 : Int32) * x1) + x7).toNatClampNeg (sA σ (sR σ 322 a0) (((60 : Int32) * x3) + x8).toNatClampNeg) → wp J_M_convert 200 [vr a0, vi x1, vi x2, vi x3, vi x4, vi x5, vi (x6 + (1 : Int32)), vi x7, vi x8, vi x9] [] σ3 Q))))) ∧ (¬ (x8 ≠ (-1 : Int32)) → wp J_M_convert 200 [vr a0, vi x1, vi x2, vi x3, vi x4, vi x5, vi x6, vi x7, vi x8, vi x9] [] σ Q)) ∧ (¬ (x9 < 0) → sK σ a0 = 10 ∧ ((sK σ (sR σ 322 a0) = 101 ∧ iIn (((60 : Int32) * x2) + x9) (sN σ (sR σ 322 a0))) ∧ (sK σ a0 = 10 ∧ ((sK σ (sR σ 322 a0) = 101 ∧ iIn (((60 : Int32) * x1) + x7) (sN σ (sR σ 322 a0))) ∧ (((sA σ (sR σ 322 a0) (((60 : Int32) * x2) + x9).toNatClampNeg) ≠ (sA σ (sR σ 322 a0) (((60 : Int32) * x1) + x7).toNatClampNeg) → wp J_M_convert 156 [vr a0, vi x1, vi x2, vi x3, vi x4, vi x5, vi x6, vi x7, vi x8, vi x9] [vi x8] σ Q) ∧ (¬ ((sA σ (sR σ 322 a0) (((60 : Int32) * x2) + x9).toNatClampNeg) ≠ (sA σ (sR σ 322 a0) (((60 : Int32) * x1) + x7).toNatClampNeg)) → wp J_M_convert 156 [vr a0, vi x1, vi x2, vi x3, vi x4, vi x5, vi x6, vi x7, vi x8, vi x9] [vi x9] σ Q))))))) : wp J_M_convert 117 [vr a0, vi x1, vi x2, vi x3, vi x4, vi x5, vi x6, vi x7, vi x8, vi x9] [] σ Q :=
  w_go rfl rfl (w_br rfl rfl rfl rfl (fun c1 => w_go rfl rfl (w_ic rfl kc_m1 (w_br rfl rfl rfl rfl (fun c2 => w_go rfl rfl (w_gd rfl rfl rfl ((h.1 c1).1 c2).1 (w_bp rfl kb_60 (w_go rfl rfl (w_go rfl rfl (w_go rfl rfl (w_go rfl rfl (w_go rfl rfl (w_gd rfl rfl rfl ((h.1 c1).1 c2).2.1 (w_bp rfl kb_60 (w_go rfl rfl (w_go rfl rfl (w_go rfl rfl (w_go rfl rfl (w_gd rfl rfl rfl ⟨Or.inr ((h.1 c1).1 c2).2.2.1.1, ((h.1 c1).1 c2).2.2.1.2⟩ (w_gd rfl rfl rfl ((h.1 c1).1 c2).2.2.2.1 (w_inc rfl rfl kc_1 ((((h.1 c1).1 c2).2.2.2.2 _ rfl))))))))))))))))))) (fun c2 => w_go rfl rfl (((h.1 c1).2 c2)))))) (fun c1 => w_go rfl rfl (w_gd rfl rfl rfl (h.2 c1).1 (w_bp rfl kb_60 (w_go rfl rfl (w_go rfl rfl (w_go rfl rfl (w_go rfl rfl (w_gd rfl rfl rfl ⟨Or.inr (h.2 c1).2.1.1, (h.2 c1).2.1.2⟩ (w_go rfl rfl (w_gd rfl rfl rfl (h.2 c1).2.2.1 (w_bp rfl kb_60 (w_go rfl rfl (w_go rfl rfl (w_go rfl rfl (w_go rfl rfl (w_gd rfl rfl rfl ⟨Or.inr (h.2 c1).2.2.2.1.1, (h.2 c1).2.2.2.1.2⟩ (w_br rfl rfl rfl rfl (fun c4 => w_go rfl rfl (((h.2 c1).2.2.2.2.1 c4))) (fun c4 => w_go rfl rfl (w_go rfl rfl (((h.2 c1).2.2.2.2.2 c4))))))))))))))))))))))

theorem b_M_convert_156 {a0 : Nat} {x1 : Int32} {x2 : Int32} {x3 : Int32} {x4 : Int32} {x5 : Int32} {x6 : Int32} {x7 : Int32} {x8 : Int32} {x9 : Int32} {tx0 : Int32} {σ : iS} {Q : iO → iS → Prop} (h : wp J_M_convert 117 [vr a0, vi x1, vi x2, vi x3, vi x4, vi x5, vi x6, vi x7, vi tx0, vi (x9 + (-1 : Int32))] [] σ Q) : wp J_M_convert 156 [vr a0, vi x1, vi x2, vi x3, vi x4, vi x5, vi x6, vi x7, vi x8, vi x9] [vi tx0] σ Q :=
  w_gd rfl rfl rfl (Nat.le_of_ble_eq_true rfl) (w_inc rfl rfl kc_m1 (w_go rfl rfl (h)))

theorem b_M_convert_200 {a0 : Nat} {x1 : Int32} {x2 : Int32} {x3 : Int32} {x4 : Int32} {x5 : Int32} {x6 : Int32} {x7 : Int32} {x8 : Int32} {x9 : Int32} {σ : iS} {Q : iO → iS → Prop} (h : wp J_M_convert 97 [vr a0, vi x1, vi x2, vi x3, vi x4, vi x5, vi x6, vi (x7 + (1 : Int32)), vi x8, vi x9] [] σ Q) : wp J_M_convert 200 [vr a0, vi x1, vi x2, vi x3, vi x4, vi x5, vi x6, vi x7, vi x8, vi x9] [] σ Q :=
  w_inc rfl rfl kc_1 (w_go rfl rfl (h))

theorem b_M_counter_0 {a0 : Nat} {x1 : Int32} {σ : iS} {Q : iO → iS → Prop} (h : (x1 < 0 → wp J_M_counter 11 [vr a0, vi x1, vl 0] [vr a0] σ Q) ∧ (¬ (x1 < 0) → (x1 ≤ (9 : Int32) → wp J_M_counter 16 [vr a0, vi x1, vl 0] [vi (0 : Int32), vr a0] σ Q) ∧ (¬ (x1 ≤ (9 : Int32)) → wp J_M_counter 11 [vr a0, vi x1, vl 0] [vr a0] σ Q))) : ca J_M_counter [vr a0, vi x1] σ Q :=
  w_go rfl rfl (w_go rfl rfl (w_br rfl rfl rfl rfl (fun c1 => (h.1 c1)) (fun c1 => w_go rfl rfl (w_bp rfl kb_9 (w_br rfl rfl rfl rfl (fun c2 => w_ic rfl kc_0 (((h.2 c1).1 c2))) (fun c2 => ((h.2 c1).2 c2)))))))

theorem b_M_counter_11 {a0 : Nat} {x1 : Int32} {l2 : iV} {ta0 : Nat} {σ : iS} {Q : iO → iS → Prop} (h : wp J_M_counter 16 [vr a0, vi x1, l2] [vi (1 : Int32), vr ta0] σ Q) : wp J_M_counter 11 [vr a0, vi x1, l2] [vr ta0] σ Q :=
  w_ic rfl kc_1 (w_go rfl rfl (h))

theorem b_M_counter_16 {a0 : Nat} {x1 : Int32} {l2 : iV} {tx0 : Int32} {ta1 : Nat} {σ : iS} {Q : iO → iS → Prop} (h : sK σ ta1 = 10 ∧ ca J_M_fails [vr ta1, vi tx0, vi (0 : Int32)] σ (cI (fun r1 σ1 => (r1 = 0 → sK σ1 a0 = 10 ∧ ((sK σ1 (sR σ1 337 a0) = 101 ∧ iIn x1 (sN σ1 (sR σ1 337 a0))) ∧ (sK σ1 a0 = 10 ∧ ((sK σ1 (sR σ1 337 a0) = 101 ∧ iIn x1 (sN σ1 (sR σ1 337 a0))) ∧ (∀ σ3, σ3 = wA σ1 (sR σ1 337 a0) x1.toNatClampNeg (0 : Int32) → Q (.inl (some (vi (sA σ1 (sR σ1 337 a0) x1.toNatClampNeg)))) σ3))))) ∧ (¬ (r1 = 0) → Q (.inl (some (vi (0 : Int32)))) σ1)) Q)) : wp J_M_counter 16 [vr a0, vi x1, l2] [vi tx0, vr ta1] σ Q :=
  w_ic rfl kc_0 (w_cI rfl rfl rfl ⟨⟨Nat.le_of_ble_eq_true rfl, Nat.le_of_ble_eq_true rfl⟩, h.1⟩ rfl (fun _ => rfl) h.2 (fun r1 σ1 k1 => w_br rfl rfl rfl rfl (fun c2 => w_go rfl rfl (w_gd rfl rfl rfl (k1.1 c2).1 (w_go rfl rfl (w_gd rfl rfl rfl ⟨Or.inr (k1.1 c2).2.1.1, (k1.1 c2).2.1.2⟩ (w_gd rfl rfl rfl (Nat.le_of_ble_eq_true rfl) (w_go rfl rfl (w_gd rfl rfl rfl (k1.1 c2).2.2.1 (w_go rfl rfl (w_ic rfl kc_0 (w_gd rfl rfl rfl (k1.1 c2).2.2.2.1 (w_go rfl rfl (w_retG rfl rfl rfl (fun q => Bool.noConfusion q) ((k1.1 c2).2.2.2.2 _ rfl))))))))))))) (fun c2 => w_ic rfl kc_0 (w_retG rfl rfl rfl (fun q => Bool.noConfusion q) (k1.2 c2)))))

theorem b_M_part_0 {a0 : Nat} {x1 : Int32} {x2 : Int32} {σ : iS} {Q : iO → iS → Prop} (h : sK σ a0 = 10 ∧ ca J_M_isText [vr a0, vi x1] σ (cI (fun r1 σ1 => (r1 = 0 → wp J_M_part 21 [vr a0, vi x1, vi x2, vl 0] [] σ1 Q) ∧ (¬ (r1 = 0) → (x2 = (-1 : Int32) → wp J_M_part 25 [vr a0, vi x1, vi x2, vl 0] [] σ1 Q) ∧ (¬ (x2 = (-1 : Int32)) → sK σ1 a0 = 10 ∧ ca J_M_isFull [vr a0, vi x2] σ1 (cI (fun r4 σ4 => (r4 ≠ 0 → wp J_M_part 25 [vr a0, vi x1, vi x2, vl 0] [] σ4 Q) ∧ (¬ (r4 ≠ 0) → wp J_M_part 21 [vr a0, vi x1, vi x2, vl 0] [] σ4 Q)) Q)))) Q)) : ca J_M_part [vr a0, vi x1, vi x2] σ Q :=
  w_go rfl rfl (w_go rfl rfl (w_cI rfl rfl rfl ⟨⟨Nat.le_of_ble_eq_true rfl, Nat.le_of_ble_eq_true rfl⟩, h.1⟩ rfl (fun _ => rfl) h.2 (fun r1 σ1 k1 => w_br rfl rfl rfl rfl (fun c2 => (k1.1 c2)) (fun c2 => w_go rfl rfl (w_ic rfl kc_m1 (w_br rfl rfl rfl rfl (fun c3 => ((k1.2 c2).1 c3)) (fun c3 => w_go rfl rfl (w_go rfl rfl (w_cI rfl rfl rfl ⟨⟨Nat.le_of_ble_eq_true rfl, Nat.le_of_ble_eq_true rfl⟩, ((k1.2 c2).2 c3).1⟩ rfl (fun _ => rfl) ((k1.2 c2).2 c3).2 (fun r4 σ4 k4 => w_br rfl rfl rfl rfl (fun c5 => (k4.1 c5)) (fun c5 => (k4.2 c5))))))))))))

theorem b_M_part_21 {a0 : Nat} {x1 : Int32} {x2 : Int32} {l3 : iV} {σ : iS} {Q : iO → iS → Prop} (h : wp J_M_part 26 [vr a0, vi x1, vi x2, l3] [vi (1 : Int32)] σ Q) : wp J_M_part 21 [vr a0, vi x1, vi x2, l3] [] σ Q :=
  w_ic rfl kc_1 (w_go rfl rfl (h))

theorem b_M_part_25 {a0 : Nat} {x1 : Int32} {x2 : Int32} {l3 : iV} {σ : iS} {Q : iO → iS → Prop} (h : wp J_M_part 26 [vr a0, vi x1, vi x2, l3] [vi (0 : Int32)] σ Q) : wp J_M_part 25 [vr a0, vi x1, vi x2, l3] [] σ Q :=
  w_ic rfl kc_0 (h)

theorem b_M_part_26 {a0 : Nat} {x1 : Int32} {x2 : Int32} {l3 : iV} {tx0 : Int32} {σ : iS} {Q : iO → iS → Prop} (h : (tx0 ≠ 0 → wp J_M_part 46 [vr a0, vi x1, vi x2, vi tx0] [vi tx0, vr a0] σ Q) ∧ (¬ (tx0 ≠ 0) → sK σ a0 = 10 ∧ (((sI σ 340 a0) ≠ (20 : Int32) → wp J_M_part 46 [vr a0, vi x1, vi x2, vi tx0] [vi tx0, vr a0] σ Q) ∧ (¬ ((sI σ 340 a0) ≠ (20 : Int32)) → wp J_M_part 47 [vr a0, vi x1, vi x2, vi tx0] [vi (1 : Int32), vi tx0, vr a0] σ Q)))) : wp J_M_part 26 [vr a0, vi x1, vi x2, l3] [vi tx0] σ Q :=
  w_gd rfl rfl rfl (Nat.le_of_ble_eq_true rfl) (w_go rfl rfl (w_go rfl rfl (w_go rfl rfl (w_br rfl rfl rfl rfl (fun c1 => (h.1 c1)) (fun c1 => w_go rfl rfl (w_gd rfl rfl rfl (h.2 c1).1 (w_bp rfl kb_20 (w_br rfl rfl rfl rfl (fun c2 => ((h.2 c1).2.1 c2)) (fun c2 => w_ic rfl kc_1 (w_go rfl rfl (((h.2 c1).2.2 c2))))))))))))

theorem b_M_part_46 {a0 : Nat} {x1 : Int32} {x2 : Int32} {x3 : Int32} {tx0 : Int32} {ta1 : Nat} {σ : iS} {Q : iO → iS → Prop} (h : wp J_M_part 47 [vr a0, vi x1, vi x2, vi x3] [vi (0 : Int32), vi tx0, vr ta1] σ Q) : wp J_M_part 46 [vr a0, vi x1, vi x2, vi x3] [vi tx0, vr ta1] σ Q :=
  w_ic rfl kc_0 (h)

theorem b_M_part_47 {a0 : Nat} {x1 : Int32} {x2 : Int32} {x3 : Int32} {tx0 : Int32} {tx1 : Int32} {ta2 : Nat} {σ : iS} {Q : iO → iS → Prop} (h : sK σ ta2 = 10 ∧ ca J_M_fails [vr ta2, vi tx1, vi tx0] σ (cI (fun r1 σ1 => (r1 = 0 → sK σ1 a0 = 10 ∧ (sK σ1 a0 = 10 ∧ ((sK σ1 (sR σ1 338 a0) = 101 ∧ iIn (sI σ1 340 a0) (sN σ1 (sR σ1 338 a0))) ∧ (∀ σ3, σ3 = wA σ1 (sR σ1 338 a0) (sI σ1 340 a0).toNatClampNeg x1 → sK σ3 a0 = 10 ∧ (sK σ3 a0 = 10 ∧ ((sK σ3 (sR σ3 339 a0) = 101 ∧ iIn (sI σ3 340 a0) (sN σ3 (sR σ3 339 a0))) ∧ (∀ σ4, σ4 = wA σ3 (sR σ3 339 a0) (sI σ3 340 a0).toNatClampNeg x2 → sK σ4 a0 = 10 ∧ (sK σ4 a0 = 10 ∧ (∀ σ5, σ5 = wI σ4 340 a0 ((sI σ4 340 a0) + (1 : Int32)) → sK σ5 a0 = 10 ∧ (Q (.inl (some (vi (sI σ5 340 a0)))) σ5)))))))))) ∧ (¬ (r1 = 0) → Q (.inl (some (vi (0 : Int32)))) σ1)) Q)) : wp J_M_part 47 [vr a0, vi x1, vi x2, vi x3] [vi tx0, vi tx1, vr ta2] σ Q :=
  w_cI rfl rfl rfl ⟨⟨Nat.le_of_ble_eq_true rfl, Nat.le_of_ble_eq_true rfl⟩, h.1⟩ rfl (fun _ => rfl) h.2 (fun r1 σ1 k1 => w_br rfl rfl rfl rfl (fun c2 => w_go rfl rfl (w_gd rfl rfl rfl (k1.1 c2).1 (w_go rfl rfl (w_gd rfl rfl rfl (k1.1 c2).2.1 (w_go rfl rfl (w_gd rfl rfl rfl (k1.1 c2).2.2.1 (w_go rfl rfl (w_gd rfl rfl rfl ((k1.1 c2).2.2.2 _ rfl).1 (w_go rfl rfl (w_gd rfl rfl rfl ((k1.1 c2).2.2.2 _ rfl).2.1 (w_go rfl rfl (w_gd rfl rfl rfl ((k1.1 c2).2.2.2 _ rfl).2.2.1 (w_go rfl rfl (w_go rfl rfl (w_gd rfl rfl rfl (((k1.1 c2).2.2.2 _ rfl).2.2.2 _ rfl).1 (w_ic rfl kc_1 (w_go rfl rfl (w_gd rfl rfl rfl (((k1.1 c2).2.2.2 _ rfl).2.2.2 _ rfl).2.1 (w_go rfl rfl (w_gd rfl rfl rfl ((((k1.1 c2).2.2.2 _ rfl).2.2.2 _ rfl).2.2 _ rfl).1 (w_retG rfl rfl rfl (fun q => Bool.noConfusion q) ((((k1.1 c2).2.2.2 _ rfl).2.2.2 _ rfl).2.2 _ rfl).2))))))))))))))))))))) (fun c2 => w_ic rfl kc_0 (w_retG rfl rfl rfl (fun q => Bool.noConfusion q) (k1.2 c2))))

theorem b_M_join_0 {a0 : Nat} {x1 : Int32} {x2 : Int32} {σ : iS} {Q : iO → iS → Prop} (h : sK σ a0 = 10 ∧ ca J_M_isText [vr a0, vi x1] σ (cI (fun r1 σ1 => (r1 ≠ 0 → wp J_M_join 14 [vr a0, vi x1, vi x2, vl 0, vl 0, vl 0, vl 0, vl 0, vl 0] [vi (0 : Int32), vr a0] σ1 Q) ∧ (¬ (r1 ≠ 0) → wp J_M_join 14 [vr a0, vi x1, vi x2, vl 0, vl 0, vl 0, vl 0, vl 0, vl 0] [vi (1 : Int32), vr a0] σ1 Q)) Q)) : ca J_M_join [vr a0, vi x1, vi x2] σ Q :=
  w_go rfl rfl (w_go rfl rfl (w_go rfl rfl (w_cI rfl rfl rfl ⟨⟨Nat.le_of_ble_eq_true rfl, Nat.le_of_ble_eq_true rfl⟩, h.1⟩ rfl (fun _ => rfl) h.2 (fun r1 σ1 k1 => w_br rfl rfl rfl rfl (fun c2 => w_ic rfl kc_0 ((k1.1 c2))) (fun c2 => w_ic rfl kc_1 (w_go rfl rfl ((k1.2 c2))))))))

theorem b_M_join_14 {a0 : Nat} {x1 : Int32} {x2 : Int32} {l3 : iV} {l4 : iV} {l5 : iV} {l6 : iV} {l7 : iV} {l8 : iV} {tx0 : Int32} {ta1 : Nat} {σ : iS} {Q : iO → iS → Prop} (h : sK σ ta1 = 10 ∧ ca J_M_fails [vr ta1, vi tx0, vi (0 : Int32)] σ (cI (fun r1 σ1 => (r1 = 0 → (x2 < (1 : Int32) → wp J_M_join 44 [vr a0, vi x1, vi x2, vi x2, l4, l5, l6, l7, l8] [] σ1 Q) ∧ (¬ (x2 < (1 : Int32)) → sK σ1 a0 = 10 ∧ ((sK σ1 (sR σ1 323 a0) = 101 ∧ iIn x1 (sN σ1 (sR σ1 323 a0))) ∧ (((sA σ1 (sR σ1 323 a0) x1.toNatClampNeg) < x2 → wp J_M_join 44 [vr a0, vi x1, vi x2, vi x2, l4, l5, l6, l7, l8] [] σ1 Q) ∧ (¬ ((sA σ1 (sR σ1 323 a0) x1.toNatClampNeg) < x2) → wp J_M_join 45 [vr a0, vi x1, vi x2, vi x2, l4, l5, l6, l7, l8] [vi (1 : Int32)] σ1 Q))))) ∧ (¬ (r1 = 0) → Q (.inl (some (vi (0 : Int32)))) σ1)) Q)) : wp J_M_join 14 [vr a0, vi x1, vi x2, l3, l4, l5, l6, l7, l8] [vi tx0, vr ta1] σ Q :=
  w_ic rfl kc_0 (w_cI rfl rfl rfl ⟨⟨Nat.le_of_ble_eq_true rfl, Nat.le_of_ble_eq_true rfl⟩, h.1⟩ rfl (fun _ => rfl) h.2 (fun r1 σ1 k1 => w_br rfl rfl rfl rfl (fun c2 => w_go rfl rfl (w_gd rfl rfl rfl (Nat.le_of_ble_eq_true rfl) (w_go rfl rfl (w_ic rfl kc_1 (w_br rfl rfl rfl rfl (fun c3 => ((k1.1 c2).1 c3)) (fun c3 => w_go rfl rfl (w_go rfl rfl (w_gd rfl rfl rfl ((k1.1 c2).2 c3).1 (w_go rfl rfl (w_gd rfl rfl rfl ⟨Or.inr ((k1.1 c2).2 c3).2.1.1, ((k1.1 c2).2 c3).2.1.2⟩ (w_br rfl rfl rfl rfl (fun c4 => (((k1.1 c2).2 c3).2.2.1 c4)) (fun c4 => w_ic rfl kc_1 (w_go rfl rfl ((((k1.1 c2).2 c3).2.2.2 c4))))))))))))))) (fun c2 => w_ic rfl kc_0 (w_retG rfl rfl rfl (fun q => Bool.noConfusion q) (k1.2 c2)))))

theorem b_M_join_44 {a0 : Nat} {x1 : Int32} {x2 : Int32} {x3 : Int32} {l4 : iV} {l5 : iV} {l6 : iV} {l7 : iV} {l8 : iV} {σ : iS} {Q : iO → iS → Prop} (h : wp J_M_join 45 [vr a0, vi x1, vi x2, vi x3, l4, l5, l6, l7, l8] [vi (0 : Int32)] σ Q) : wp J_M_join 44 [vr a0, vi x1, vi x2, vi x3, l4, l5, l6, l7, l8] [] σ Q :=
  w_ic rfl kc_0 (h)

theorem b_M_join_45 {a0 : Nat} {x1 : Int32} {x2 : Int32} {x3 : Int32} {l4 : iV} {l5 : iV} {l6 : iV} {l7 : iV} {l8 : iV} {tx0 : Int32} {σ : iS} {Q : iO → iS → Prop} (h : wp J_M_join 50 [vr a0, vi x1, vi x2, vi x3, vi tx0, vi (0 : Int32), l6, l7, l8] [] σ Q) : wp J_M_join 45 [vr a0, vi x1, vi x2, vi x3, l4, l5, l6, l7, l8] [vi tx0] σ Q :=
  w_gd rfl rfl rfl (Nat.le_of_ble_eq_true rfl) (w_ic rfl kc_0 (w_gd rfl rfl rfl (Nat.le_of_ble_eq_true rfl) (h)))

theorem b_M_join_50 {a0 : Nat} {x1 : Int32} {x2 : Int32} {x3 : Int32} {x4 : Int32} {x5 : Int32} {l6 : iV} {l7 : iV} {l8 : iV} {σ : iS} {Q : iO → iS → Prop} (h : sK σ a0 = 10 ∧ (((sI σ 340 a0) ≤ x5 → wp J_M_join 208 [vr a0, vi x1, vi x2, vi x3, vi x4, vi x5, l6, l7, l8] [] σ Q) ∧ (¬ ((sI σ 340 a0) ≤ x5) → (x4 = 0 → wp J_M_join 208 [vr a0, vi x1, vi x2, vi x3, vi x4, vi x5, l6, l7, l8] [] σ Q) ∧ (¬ (x4 = 0) → sK σ a0 = 10 ∧ ((sK σ (sR σ 338 a0) = 101 ∧ iIn x5 (sN σ (sR σ 338 a0))) ∧ (sK σ a0 = 10 ∧ ((sK σ (sR σ 339 a0) = 101 ∧ iIn x5 (sN σ (sR σ 339 a0))) ∧ (((sA σ (sR σ 339 a0) x5.toNatClampNeg) ≠ (-1 : Int32) → sK σ a0 = 10 ∧ (sK σ a0 = 10 ∧ ((sK σ (sR σ 339 a0) = 101 ∧ iIn x5 (sN σ (sR σ 339 a0))) ∧ (sK σ a0 = 10 ∧ ca J_M_first [vr a0, vr (sR σ 321 a0), vi (sA σ (sR σ 339 a0) x5.toNatClampNeg), vi (sA σ (sR σ 338 a0) x5.toNatClampNeg)] σ (cI (fun r4 σ4 => wp J_M_join 105 [vr a0, vi x1, vi x2, vi x3, vi x4, vi x5, vi (sA σ (sR σ 338 a0) x5.toNatClampNeg), l7, l8] [vi r4] σ4 Q) Q))))) ∧ (¬ ((sA σ (sR σ 339 a0) x5.toNatClampNeg) ≠ (-1 : Int32)) → wp J_M_join 105 [vr a0, vi x1, vi x2, vi x3, vi x4, vi x5, vi (sA σ (sR σ 338 a0) x5.toNatClampNeg), l7, l8] [vi (-1 : Int32)] σ Q))))))))) : wp J_M_join 50 [vr a0, vi x1, vi x2, vi x3, vi x4, vi x5, l6, l7, l8] [] σ Q :=
  w_go rfl rfl (w_go rfl rfl (w_gd rfl rfl rfl h.1 (w_br rfl rfl rfl rfl (fun c1 => (h.2.1 c1)) (fun c1 => w_go rfl rfl (w_br rfl rfl rfl rfl (fun c2 => ((h.2.2 c1).1 c2)) (fun c2 => w_go rfl rfl (w_gd rfl rfl rfl ((h.2.2 c1).2 c2).1 (w_go rfl rfl (w_gd rfl rfl rfl ⟨Or.inr ((h.2.2 c1).2 c2).2.1.1, ((h.2.2 c1).2 c2).2.1.2⟩ (w_gd rfl rfl rfl (Nat.le_of_ble_eq_true rfl) (w_go rfl rfl (w_gd rfl rfl rfl ((h.2.2 c1).2 c2).2.2.1 (w_go rfl rfl (w_gd rfl rfl rfl ⟨Or.inr ((h.2.2 c1).2 c2).2.2.2.1.1, ((h.2.2 c1).2 c2).2.2.2.1.2⟩ (w_ic rfl kc_m1 (w_br rfl rfl rfl rfl (fun c3 => w_go rfl rfl (w_go rfl rfl (w_gd rfl rfl rfl (((h.2.2 c1).2 c2).2.2.2.2.1 c3).1 (w_go rfl rfl (w_gd rfl rfl rfl (((h.2.2 c1).2 c2).2.2.2.2.1 c3).2.1 (w_go rfl rfl (w_gd rfl rfl rfl ⟨Or.inr (((h.2.2 c1).2 c2).2.2.2.2.1 c3).2.2.1.1, (((h.2.2 c1).2 c2).2.2.2.2.1 c3).2.2.1.2⟩ (w_go rfl rfl (w_cI rfl rfl rfl ⟨⟨Nat.le_of_ble_eq_true rfl, Nat.le_of_ble_eq_true rfl⟩, (((h.2.2 c1).2 c2).2.2.2.2.1 c3).2.2.2.1⟩ rfl (fun _ => rfl) (((h.2.2 c1).2 c2).2.2.2.2.1 c3).2.2.2.2 (fun r4 σ4 k4 => k4)))))))))) (fun c3 => w_ic rfl kc_m1 (w_go rfl rfl ((((h.2.2 c1).2 c2).2.2.2.2.2 c3))))))))))))))))))))

theorem b_M_join_105 {a0 : Nat} {x1 : Int32} {x2 : Int32} {x3 : Int32} {x4 : Int32} {x5 : Int32} {x6 : Int32} {l7 : iV} {l8 : iV} {tx0 : Int32} {σ : iS} {Q : iO → iS → Prop} (h : (tx0 ≠ (-1 : Int32) → wp J_M_join 125 [vr a0, vi x1, vi x2, vi x3, vi x4, vi x5, vi x6, vi tx0, l8] [vi tx0] σ Q) ∧ (¬ (tx0 ≠ (-1 : Int32)) → sK σ a0 = 10 ∧ ((sK σ (sR σ 323 a0) = 101 ∧ iIn x6 (sN σ (sR σ 323 a0))) ∧ (wp J_M_join 125 [vr a0, vi x1, vi x2, vi x3, vi x4, vi x5, vi x6, vi tx0, l8] [vi (sA σ (sR σ 323 a0) x6.toNatClampNeg)] σ Q)))) : wp J_M_join 105 [vr a0, vi x1, vi x2, vi x3, vi x4, vi x5, vi x6, l7, l8] [vi tx0] σ Q :=
  w_gd rfl rfl rfl (Nat.le_of_ble_eq_true rfl) (w_go rfl rfl (w_ic rfl kc_m1 (w_br rfl rfl rfl rfl (fun c1 => w_go rfl rfl ((h.1 c1))) (fun c1 => w_go rfl rfl (w_gd rfl rfl rfl (h.2 c1).1 (w_go rfl rfl (w_gd rfl rfl rfl ⟨Or.inr (h.2 c1).2.1.1, (h.2 c1).2.1.2⟩ (w_go rfl rfl ((h.2 c1).2.2)))))))))

theorem b_M_join_125 {a0 : Nat} {x1 : Int32} {x2 : Int32} {x3 : Int32} {x4 : Int32} {x5 : Int32} {x6 : Int32} {x7 : Int32} {l8 : iV} {tx0 : Int32} {σ : iS} {Q : iO → iS → Prop} (h : wp J_M_join 130 [vr a0, vi x1, vi x2, vi x3, vi x4, vi x5, vi x6, vi tx0, vi (0 : Int32)] [] σ Q) : wp J_M_join 125 [vr a0, vi x1, vi x2, vi x3, vi x4, vi x5, vi x6, vi x7, l8] [vi tx0] σ Q :=
  w_gd rfl rfl rfl (Nat.le_of_ble_eq_true rfl) (w_ic rfl kc_0 (w_gd rfl rfl rfl (Nat.le_of_ble_eq_true rfl) (h)))

theorem b_M_join_130 {a0 : Nat} {x1 : Int32} {x2 : Int32} {x3 : Int32} {x4 : Int32} {x5 : Int32} {x6 : Int32} {x7 : Int32} {x8 : Int32} {σ : iS} {Q : iO → iS → Prop} (h : (x7 ≤ x8 → wp J_M_join 202 [vr a0, vi x1, vi x2, vi x3, vi x4, vi x5, vi x6, vi x7, vi x8] [] σ Q) ∧ (¬ (x7 ≤ x8) → (x4 = 0 → wp J_M_join 202 [vr a0, vi x1, vi x2, vi x3, vi x4, vi x5, vi x6, vi x7, vi x8] [] σ Q) ∧ (¬ (x4 = 0) → sK σ a0 = 10 ∧ ((sK σ (sR σ 323 a0) = 101 ∧ iIn x1 (sN σ (sR σ 323 a0))) ∧ (((sA σ (sR σ 323 a0) x1.toNatClampNeg) < x3 → wp J_M_join 157 [vr a0, vi x1, vi x2, vi x3, vi x4, vi x5, vi x6, vi x7, vi x8] [vi (0 : Int32)] σ Q) ∧ (¬ ((sA σ (sR σ 323 a0) x1.toNatClampNeg) < x3) → wp J_M_join 157 [vr a0, vi x1, vi x2, vi x3, vi x4, vi x5, vi x6, vi x7, vi x8] [vi (1 : Int32)] σ Q)))))) : wp J_M_join 130 [vr a0, vi x1, vi x2, vi x3, vi x4, vi x5, vi x6, vi x7, vi x8] [] σ Q :=
  w_go rfl rfl (w_go rfl rfl (w_br rfl rfl rfl rfl (fun c1 => (h.1 c1)) (fun c1 => w_go rfl rfl (w_br rfl rfl rfl rfl (fun c2 => ((h.2 c1).1 c2)) (fun c2 => w_go rfl rfl (w_go rfl rfl (w_gd rfl rfl rfl ((h.2 c1).2 c2).1 (w_go rfl rfl (w_gd rfl rfl rfl ⟨Or.inr ((h.2 c1).2 c2).2.1.1, ((h.2 c1).2 c2).2.1.2⟩ (w_br rfl rfl rfl rfl (fun c3 => w_ic rfl kc_0 ((((h.2 c1).2 c2).2.2.1 c3))) (fun c3 => w_ic rfl kc_1 (w_go rfl rfl ((((h.2 c1).2 c2).2.2.2 c3))))))))))))))

theorem b_M_join_157 {a0 : Nat} {x1 : Int32} {x2 : Int32} {x3 : Int32} {x4 : Int32} {x5 : Int32} {x6 : Int32} {x7 : Int32} {x8 : Int32} {tx0 : Int32} {σ : iS} {Q : iO → iS → Prop} (h : (tx0 ≠ 0 → sK σ a0 = 10 ∧ (sK σ a0 = 10 ∧ ((sK σ (sR σ 321 a0) = 101 ∧ iIn (((60 : Int32) * x6) + x8) (sN σ (sR σ 321 a0))) ∧ ((sK σ (sR σ 321 a0) = 101 ∧ iIn ((((60 : Int32) * x1) + x3) - (1 : Int32)) (sN σ (sR σ 321 a0))) ∧ (∀ σ2, σ2 = wA σ (sR σ 321 a0) ((((60 : Int32) * x1) + x3) - (1 : Int32)).toNatClampNeg (sA σ (sR σ 321 a0) (((60 : Int32) * x6) + x8).toNatClampNeg) → wp J_M_join 196 [vr a0, vi x1, vi x2, vi (x3 + (1 : Int32)), vi tx0, vi x5, vi x6, vi x7, vi x8] [] σ2 Q))))) ∧ (¬ (tx0 ≠ 0) → wp J_M_join 196 [vr a0, vi x1, vi x2, vi x3, vi tx0, vi x5, vi x6, vi x7, vi x8] [] σ Q)) : wp J_M_join 157 [vr a0, vi x1, vi x2, vi x3, vi x4, vi x5, vi x6, vi x7, vi x8] [vi tx0] σ Q :=
  w_gd rfl rfl rfl (Nat.le_of_ble_eq_true rfl) (w_go rfl rfl (w_br rfl rfl rfl rfl (fun c1 => w_go rfl rfl (w_gd rfl rfl rfl (h.1 c1).1 (w_bp rfl kb_60 (w_go rfl rfl (w_go rfl rfl (w_go rfl rfl (w_go rfl rfl (w_ic rfl kc_1 (w_go rfl rfl (w_go rfl rfl (w_gd rfl rfl rfl (h.1 c1).2.1 (w_bp rfl kb_60 (w_go rfl rfl (w_go rfl rfl (w_go rfl rfl (w_go rfl rfl (w_gd rfl rfl rfl ⟨Or.inr (h.1 c1).2.2.1.1, (h.1 c1).2.2.1.2⟩ (w_gd rfl rfl rfl (h.1 c1).2.2.2.1 (w_inc rfl rfl kc_1 (((h.1 c1).2.2.2.2 _ rfl))))))))))))))))))))) (fun c1 => w_go rfl rfl ((h.2 c1)))))

theorem b_M_join_196 {a0 : Nat} {x1 : Int32} {x2 : Int32} {x3 : Int32} {x4 : Int32} {x5 : Int32} {x6 : Int32} {x7 : Int32} {x8 : Int32} {σ : iS} {Q : iO → iS → Prop} (h : wp J_M_join 130 [vr a0, vi x1, vi x2, vi x3, vi x4, vi x5, vi x6, vi x7, vi (x8 + (1 : Int32))] [] σ Q) : wp J_M_join 196 [vr a0, vi x1, vi x2, vi x3, vi x4, vi x5, vi x6, vi x7, vi x8] [] σ Q :=
  w_inc rfl rfl kc_1 (w_go rfl rfl (h))

theorem b_M_join_202 {a0 : Nat} {x1 : Int32} {x2 : Int32} {x3 : Int32} {x4 : Int32} {x5 : Int32} {x6 : Int32} {x7 : Int32} {x8 : Int32} {σ : iS} {Q : iO → iS → Prop} (h : wp J_M_join 50 [vr a0, vi x1, vi x2, vi x3, vi x4, vi (x5 + (1 : Int32)), vi x6, vi x7, vi x8] [] σ Q) : wp J_M_join 202 [vr a0, vi x1, vi x2, vi x3, vi x4, vi x5, vi x6, vi x7, vi x8] [] σ Q :=
  w_inc rfl rfl kc_1 (w_go rfl rfl (h))

theorem b_M_join_208 {a0 : Nat} {x1 : Int32} {x2 : Int32} {x3 : Int32} {x4 : Int32} {x5 : Int32} {l6 : iV} {l7 : iV} {l8 : iV} {σ : iS} {Q : iO → iS → Prop} (h : sK σ a0 = 10 ∧ (∀ σ1, σ1 = wI σ 340 a0 (0 : Int32) → sK σ1 a0 = 10 ∧ (∀ σ2, σ2 = wI σ1 348 a0 x3 → (x4 = 0 → wp J_M_join 228 [vr a0, vi x1, vi x2, vi x3, vi x4, vi x5, l6, l7, l8] [vi (-1 : Int32)] σ2 Q) ∧ (¬ (x4 = 0) → wp J_M_join 228 [vr a0, vi x1, vi x2, vi x3, vi x4, vi x5, l6, l7, l8] [vi x3] σ2 Q)))) : wp J_M_join 208 [vr a0, vi x1, vi x2, vi x3, vi x4, vi x5, l6, l7, l8] [] σ Q :=
  w_go rfl rfl (w_ic rfl kc_0 (w_gd rfl rfl rfl h.1 (w_go rfl rfl (w_go rfl rfl (w_gd rfl rfl rfl (h.2 _ rfl).1 (w_go rfl rfl (w_br rfl rfl rfl rfl (fun c3 => w_ic rfl kc_m1 ((((h.2 _ rfl).2 _ rfl).1 c3))) (fun c3 => w_go rfl rfl (w_go rfl rfl ((((h.2 _ rfl).2 _ rfl).2 c3)))))))))))

theorem b_M_join_228 {a0 : Nat} {x1 : Int32} {x2 : Int32} {x3 : Int32} {x4 : Int32} {x5 : Int32} {l6 : iV} {l7 : iV} {l8 : iV} {tx0 : Int32} {σ : iS} {Q : iO → iS → Prop} (h : Q (.inl (some (vi tx0))) σ) : wp J_M_join 228 [vr a0, vi x1, vi x2, vi x3, vi x4, vi x5, l6, l7, l8] [vi tx0] σ Q :=
  w_retG rfl rfl rfl (fun q => Bool.noConfusion q) h

theorem b_M_delimiter_0 {a0 : Nat} {x1 : Int32} {x2 : Int32} {σ : iS} {Q : iO → iS → Prop} (h : sK σ a0 = 10 ∧ ca J_M_isFull [vr a0, vi x1] σ (cI (fun r1 σ1 => (r1 ≠ 0 → wp J_M_delimiter 13 [vr a0, vi x1, vi x2, vl 0] [vi (0 : Int32)] σ1 Q) ∧ (¬ (r1 ≠ 0) → wp J_M_delimiter 13 [vr a0, vi x1, vi x2, vl 0] [vi (1 : Int32)] σ1 Q)) Q)) : ca J_M_delimiter [vr a0, vi x1, vi x2] σ Q :=
  w_go rfl rfl (w_go rfl rfl (w_cI rfl rfl rfl ⟨⟨Nat.le_of_ble_eq_true rfl, Nat.le_of_ble_eq_true rfl⟩, h.1⟩ rfl (fun _ => rfl) h.2 (fun r1 σ1 k1 => w_br rfl rfl rfl rfl (fun c2 => w_ic rfl kc_0 ((k1.1 c2))) (fun c2 => w_ic rfl kc_1 (w_go rfl rfl ((k1.2 c2)))))))

theorem b_M_delimiter_13 {a0 : Nat} {x1 : Int32} {x2 : Int32} {l3 : iV} {tx0 : Int32} {σ : iS} {Q : iO → iS → Prop} (h : (tx0 ≠ 0 → wp J_M_delimiter 33 [vr a0, vi x1, vi x2, vi tx0] [vi tx0, vr a0] σ Q) ∧ (¬ (tx0 ≠ 0) → sK σ a0 = 10 ∧ (((sI σ 346 a0) ≠ (8 : Int32) → wp J_M_delimiter 33 [vr a0, vi x1, vi x2, vi tx0] [vi tx0, vr a0] σ Q) ∧ (¬ ((sI σ 346 a0) ≠ (8 : Int32)) → wp J_M_delimiter 34 [vr a0, vi x1, vi x2, vi tx0] [vi (1 : Int32), vi tx0, vr a0] σ Q)))) : wp J_M_delimiter 13 [vr a0, vi x1, vi x2, l3] [vi tx0] σ Q :=
  w_gd rfl rfl rfl (Nat.le_of_ble_eq_true rfl) (w_go rfl rfl (w_go rfl rfl (w_go rfl rfl (w_br rfl rfl rfl rfl (fun c1 => (h.1 c1)) (fun c1 => w_go rfl rfl (w_gd rfl rfl rfl (h.2 c1).1 (w_bp rfl kb_8 (w_br rfl rfl rfl rfl (fun c2 => ((h.2 c1).2.1 c2)) (fun c2 => w_ic rfl kc_1 (w_go rfl rfl (((h.2 c1).2.2 c2))))))))))))

theorem b_M_delimiter_33 {a0 : Nat} {x1 : Int32} {x2 : Int32} {x3 : Int32} {tx0 : Int32} {ta1 : Nat} {σ : iS} {Q : iO → iS → Prop} (h : wp J_M_delimiter 34 [vr a0, vi x1, vi x2, vi x3] [vi (0 : Int32), vi tx0, vr ta1] σ Q) : wp J_M_delimiter 33 [vr a0, vi x1, vi x2, vi x3] [vi tx0, vr ta1] σ Q :=
  w_ic rfl kc_0 (h)

theorem b_M_delimiter_34 {a0 : Nat} {x1 : Int32} {x2 : Int32} {x3 : Int32} {tx0 : Int32} {tx1 : Int32} {ta2 : Nat} {σ : iS} {Q : iO → iS → Prop} (h : sK σ ta2 = 10 ∧ ca J_M_fails [vr ta2, vi tx1, vi tx0] σ (cI (fun r1 σ1 => (r1 = 0 → sK σ1 a0 = 10 ∧ (sK σ1 a0 = 10 ∧ ((sK σ1 (sR σ1 341 a0) = 101 ∧ iIn (sI σ1 346 a0) (sN σ1 (sR σ1 341 a0))) ∧ (∀ σ3, σ3 = wA σ1 (sR σ1 341 a0) (sI σ1 346 a0).toNatClampNeg x1 → sK σ3 a0 = 10 ∧ (sK σ3 a0 = 10 ∧ ((sK σ3 (sR σ3 345 a0) = 102 ∧ iBool x2 ∧ iIn (sI σ3 346 a0) (sN σ3 (sR σ3 345 a0))) ∧ (∀ σ4, σ4 = wA σ3 (sR σ3 345 a0) (sI σ3 346 a0).toNatClampNeg x2 → sK σ4 a0 = 10 ∧ (sK σ4 a0 = 10 ∧ (∀ σ5, σ5 = wI σ4 346 a0 ((sI σ4 346 a0) + (1 : Int32)) → sK σ5 a0 = 10 ∧ (Q (.inl (some (vi (sI σ5 346 a0)))) σ5)))))))))) ∧ (¬ (r1 = 0) → Q (.inl (some (vi (0 : Int32)))) σ1)) Q)) : wp J_M_delimiter 34 [vr a0, vi x1, vi x2, vi x3] [vi tx0, vi tx1, vr ta2] σ Q :=
  w_cI rfl rfl rfl ⟨⟨Nat.le_of_ble_eq_true rfl, Nat.le_of_ble_eq_true rfl⟩, h.1⟩ rfl (fun _ => rfl) h.2 (fun r1 σ1 k1 => w_br rfl rfl rfl rfl (fun c2 => w_go rfl rfl (w_gd rfl rfl rfl (k1.1 c2).1 (w_go rfl rfl (w_gd rfl rfl rfl (k1.1 c2).2.1 (w_go rfl rfl (w_gd rfl rfl rfl (k1.1 c2).2.2.1 (w_go rfl rfl (w_gd rfl rfl rfl ((k1.1 c2).2.2.2 _ rfl).1 (w_go rfl rfl (w_gd rfl rfl rfl ((k1.1 c2).2.2.2 _ rfl).2.1 (w_go rfl rfl (w_gd rfl rfl rfl ((k1.1 c2).2.2.2 _ rfl).2.2.1 (w_go rfl rfl (w_go rfl rfl (w_gd rfl rfl rfl (((k1.1 c2).2.2.2 _ rfl).2.2.2 _ rfl).1 (w_ic rfl kc_1 (w_go rfl rfl (w_gd rfl rfl rfl (((k1.1 c2).2.2.2 _ rfl).2.2.2 _ rfl).2.1 (w_go rfl rfl (w_gd rfl rfl rfl ((((k1.1 c2).2.2.2 _ rfl).2.2.2 _ rfl).2.2 _ rfl).1 (w_retG rfl rfl rfl (fun q => Bool.noConfusion q) ((((k1.1 c2).2.2.2 _ rfl).2.2.2 _ rfl).2.2 _ rfl).2))))))))))))))))))))) (fun c2 => w_ic rfl kc_0 (w_retG rfl rfl rfl (fun q => Bool.noConfusion q) (k1.2 c2))))

theorem b_M_receiver_0 {a0 : Nat} {x1 : Int32} {σ : iS} {Q : iO → iS → Prop} (h : sK σ a0 = 10 ∧ ca J_M_isText [vr a0, vi x1] σ (cI (fun r1 σ1 => (r1 ≠ 0 → wp J_M_receiver 13 [vr a0, vi x1, vl 0] [vi (0 : Int32)] σ1 Q) ∧ (¬ (r1 ≠ 0) → wp J_M_receiver 13 [vr a0, vi x1, vl 0] [vi (1 : Int32)] σ1 Q)) Q)) : ca J_M_receiver [vr a0, vi x1] σ Q :=
  w_go rfl rfl (w_go rfl rfl (w_cI rfl rfl rfl ⟨⟨Nat.le_of_ble_eq_true rfl, Nat.le_of_ble_eq_true rfl⟩, h.1⟩ rfl (fun _ => rfl) h.2 (fun r1 σ1 k1 => w_br rfl rfl rfl rfl (fun c2 => w_ic rfl kc_0 ((k1.1 c2))) (fun c2 => w_ic rfl kc_1 (w_go rfl rfl ((k1.2 c2)))))))

theorem b_M_receiver_13 {a0 : Nat} {x1 : Int32} {l2 : iV} {tx0 : Int32} {σ : iS} {Q : iO → iS → Prop} (h : (tx0 ≠ 0 → wp J_M_receiver 33 [vr a0, vi x1, vi tx0] [vi tx0, vr a0] σ Q) ∧ (¬ (tx0 ≠ 0) → sK σ a0 = 10 ∧ (((sI σ 347 a0) ≠ (20 : Int32) → wp J_M_receiver 33 [vr a0, vi x1, vi tx0] [vi tx0, vr a0] σ Q) ∧ (¬ ((sI σ 347 a0) ≠ (20 : Int32)) → wp J_M_receiver 34 [vr a0, vi x1, vi tx0] [vi (1 : Int32), vi tx0, vr a0] σ Q)))) : wp J_M_receiver 13 [vr a0, vi x1, l2] [vi tx0] σ Q :=
  w_gd rfl rfl rfl (Nat.le_of_ble_eq_true rfl) (w_go rfl rfl (w_go rfl rfl (w_go rfl rfl (w_br rfl rfl rfl rfl (fun c1 => (h.1 c1)) (fun c1 => w_go rfl rfl (w_gd rfl rfl rfl (h.2 c1).1 (w_bp rfl kb_20 (w_br rfl rfl rfl rfl (fun c2 => ((h.2 c1).2.1 c2)) (fun c2 => w_ic rfl kc_1 (w_go rfl rfl (((h.2 c1).2.2 c2))))))))))))

theorem b_M_receiver_33 {a0 : Nat} {x1 : Int32} {x2 : Int32} {tx0 : Int32} {ta1 : Nat} {σ : iS} {Q : iO → iS → Prop} (h : wp J_M_receiver 34 [vr a0, vi x1, vi x2] [vi (0 : Int32), vi tx0, vr ta1] σ Q) : wp J_M_receiver 33 [vr a0, vi x1, vi x2] [vi tx0, vr ta1] σ Q :=
  w_ic rfl kc_0 (h)

theorem b_M_receiver_34 {a0 : Nat} {x1 : Int32} {x2 : Int32} {tx0 : Int32} {tx1 : Int32} {ta2 : Nat} {σ : iS} {Q : iO → iS → Prop} (h : sK σ ta2 = 10 ∧ ca J_M_fails [vr ta2, vi tx1, vi tx0] σ (cI (fun r1 σ1 => (r1 = 0 → sK σ1 a0 = 10 ∧ (sK σ1 a0 = 10 ∧ ((sK σ1 (sR σ1 342 a0) = 101 ∧ iIn (sI σ1 347 a0) (sN σ1 (sR σ1 342 a0))) ∧ (∀ σ3, σ3 = wA σ1 (sR σ1 342 a0) (sI σ1 347 a0).toNatClampNeg x1 → sK σ3 a0 = 10 ∧ (sK σ3 a0 = 10 ∧ (∀ σ4, σ4 = wI σ3 347 a0 ((sI σ3 347 a0) + (1 : Int32)) → sK σ4 a0 = 10 ∧ (Q (.inl (some (vi (sI σ4 347 a0)))) σ4))))))) ∧ (¬ (r1 = 0) → Q (.inl (some (vi (0 : Int32)))) σ1)) Q)) : wp J_M_receiver 34 [vr a0, vi x1, vi x2] [vi tx0, vi tx1, vr ta2] σ Q :=
  w_cI rfl rfl rfl ⟨⟨Nat.le_of_ble_eq_true rfl, Nat.le_of_ble_eq_true rfl⟩, h.1⟩ rfl (fun _ => rfl) h.2 (fun r1 σ1 k1 => w_br rfl rfl rfl rfl (fun c2 => w_go rfl rfl (w_gd rfl rfl rfl (k1.1 c2).1 (w_go rfl rfl (w_gd rfl rfl rfl (k1.1 c2).2.1 (w_go rfl rfl (w_gd rfl rfl rfl (k1.1 c2).2.2.1 (w_go rfl rfl (w_go rfl rfl (w_gd rfl rfl rfl ((k1.1 c2).2.2.2 _ rfl).1 (w_ic rfl kc_1 (w_go rfl rfl (w_gd rfl rfl rfl ((k1.1 c2).2.2.2 _ rfl).2.1 (w_go rfl rfl (w_gd rfl rfl rfl (((k1.1 c2).2.2.2 _ rfl).2.2 _ rfl).1 (w_retG rfl rfl rfl (fun q => Bool.noConfusion q) (((k1.1 c2).2.2.2 _ rfl).2.2 _ rfl).2))))))))))))))) (fun c2 => w_ic rfl kc_0 (w_retG rfl rfl rfl (fun q => Bool.noConfusion q) (k1.2 c2))))

theorem b_M_here_0 {a0 : Nat} {x1 : Int32} {x2 : Int32} {σ : iS} {Q : iO → iS → Prop} (h : sK σ a0 = 10 ∧ (wp J_M_here 10 [vr a0, vi x1, vi x2, vi (-1 : Int32), vi ((sI σ 346 a0) - (1 : Int32))] [] σ Q)) : ca J_M_here [vr a0, vi x1, vi x2] σ Q :=
  w_ic rfl kc_m1 (w_gd rfl rfl rfl (Nat.le_of_ble_eq_true rfl) (w_go rfl rfl (w_gd rfl rfl rfl h.1 (w_ic rfl kc_1 (w_go rfl rfl (w_gd rfl rfl rfl (Nat.le_of_ble_eq_true rfl) (h.2)))))))

theorem b_M_here_10 {a0 : Nat} {x1 : Int32} {x2 : Int32} {x3 : Int32} {x4 : Int32} {σ : iS} {Q : iO → iS → Prop} (h : (x4 < 0 → Q (.inl (some (vi x3))) σ) ∧ (¬ (x4 < 0) → sK σ a0 = 10 ∧ (sK σ a0 = 10 ∧ ((sK σ (sR σ 341 a0) = 101 ∧ iIn x4 (sN σ (sR σ 341 a0))) ∧ (sK σ a0 = 10 ∧ ((sK σ (sR σ 323 a0) = 101 ∧ iIn x1 (sN σ (sR σ 323 a0))) ∧ (sK σ a0 = 10 ∧ ca J_M_occurs [vr a0, vr (sR σ 322 a0), vi (sA σ (sR σ 341 a0) x4.toNatClampNeg), vi x1, vi x2, vi (sA σ (sR σ 323 a0) x1.toNatClampNeg)] σ (cI (fun r2 σ2 => (r2 = 0 → wp J_M_here 47 [vr a0, vi x1, vi x2, vi x3, vi x4] [vi x3] σ2 Q) ∧ (¬ (r2 = 0) → wp J_M_here 47 [vr a0, vi x1, vi x2, vi x3, vi x4] [vi x4] σ2 Q)) Q)))))))) : wp J_M_here 10 [vr a0, vi x1, vi x2, vi x3, vi x4] [] σ Q :=
  w_go rfl rfl (w_br rfl rfl rfl rfl (fun c1 => w_go rfl rfl (w_retG rfl rfl rfl (fun q => Bool.noConfusion q) (h.1 c1))) (fun c1 => w_go rfl rfl (w_go rfl rfl (w_gd rfl rfl rfl (h.2 c1).1 (w_go rfl rfl (w_gd rfl rfl rfl (h.2 c1).2.1 (w_go rfl rfl (w_gd rfl rfl rfl ⟨Or.inr (h.2 c1).2.2.1.1, (h.2 c1).2.2.1.2⟩ (w_go rfl rfl (w_go rfl rfl (w_go rfl rfl (w_gd rfl rfl rfl (h.2 c1).2.2.2.1 (w_go rfl rfl (w_gd rfl rfl rfl ⟨Or.inr (h.2 c1).2.2.2.2.1.1, (h.2 c1).2.2.2.2.1.2⟩ (w_cI rfl rfl rfl ⟨⟨Nat.le_of_ble_eq_true rfl, Nat.le_of_ble_eq_true rfl⟩, (h.2 c1).2.2.2.2.2.1⟩ rfl (fun _ => rfl) (h.2 c1).2.2.2.2.2.2 (fun r2 σ2 k2 => w_br rfl rfl rfl rfl (fun c3 => w_go rfl rfl ((k2.1 c3))) (fun c3 => w_go rfl rfl (w_go rfl rfl ((k2.2 c3))))))))))))))))))))

theorem b_M_here_47 {a0 : Nat} {x1 : Int32} {x2 : Int32} {x3 : Int32} {x4 : Int32} {tx0 : Int32} {σ : iS} {Q : iO → iS → Prop} (h : wp J_M_here 10 [vr a0, vi x1, vi x2, vi tx0, vi (x4 + (-1 : Int32))] [] σ Q) : wp J_M_here 47 [vr a0, vi x1, vi x2, vi x3, vi x4] [vi tx0] σ Q :=
  w_gd rfl rfl rfl (Nat.le_of_ble_eq_true rfl) (w_inc rfl rfl kc_m1 (w_go rfl rfl (h)))

theorem b_M_move_0 {a0 : Nat} {x1 : Int32} {x2 : Int32} {x3 : Int32} {x4 : Int32} {σ : iS} {Q : iO → iS → Prop} (h : wp J_M_move 3 [vr a0, vi x1, vi x2, vi x3, vi x4, vi (0 : Int32)] [] σ Q) : ca J_M_move [vr a0, vi x1, vi x2, vi x3, vi x4] σ Q :=
  w_ic rfl kc_0 (w_gd rfl rfl rfl (Nat.le_of_ble_eq_true rfl) (h))

theorem b_M_move_3 {a0 : Nat} {x1 : Int32} {x2 : Int32} {x3 : Int32} {x4 : Int32} {x5 : Int32} {σ : iS} {Q : iO → iS → Prop} (h : sK σ a0 = 10 ∧ ((sK σ (sR σ 323 a0) = 101 ∧ iIn x4 (sN σ (sR σ 323 a0))) ∧ (((sA σ (sR σ 323 a0) x4.toNatClampNeg) ≤ x5 → Q (.inl none) σ) ∧ (¬ ((sA σ (sR σ 323 a0) x4.toNatClampNeg) ≤ x5) → sK σ a0 = 10 ∧ ((x3 ≤ x5 → wp J_M_move 52 [vr a0, vi x1, vi x2, vi x3, vi x4, vi x5] [vi (32 : Int32), vi (((60 : Int32) * x4) + x5), vr (sR σ 321 a0)] σ Q) ∧ (¬ (x3 ≤ x5) → sK σ a0 = 10 ∧ ((sK σ (sR σ 322 a0) = 101 ∧ iIn ((((60 : Int32) * x1) + x2) + x5) (sN σ (sR σ 322 a0))) ∧ (wp J_M_move 52 [vr a0, vi x1, vi x2, vi x3, vi x4, vi x5] [vi (sA σ (sR σ 322 a0) ((((60 : Int32) * x1) + x2) + x5).toNatClampNeg), vi (((60 : Int32) * x4) + x5), vr (sR σ 321 a0)] σ Q)))))))) : wp J_M_move 3 [vr a0, vi x1, vi x2, vi x3, vi x4, vi x5] [] σ Q :=
  w_go rfl rfl (w_go rfl rfl (w_gd rfl rfl rfl h.1 (w_go rfl rfl (w_gd rfl rfl rfl ⟨Or.inr h.2.1.1, h.2.1.2⟩ (w_br rfl rfl rfl rfl (fun c1 => w_ret rfl rfl (h.2.2.1 c1)) (fun c1 => w_go rfl rfl (w_gd rfl rfl rfl (h.2.2.2 c1).1 (w_bp rfl kb_60 (w_go rfl rfl (w_go rfl rfl (w_go rfl rfl (w_go rfl rfl (w_go rfl rfl (w_go rfl rfl (w_br rfl rfl rfl rfl (fun c2 => w_bp rfl kb_32 (((h.2.2.2 c1).2.1 c2))) (fun c2 => w_go rfl rfl (w_gd rfl rfl rfl ((h.2.2.2 c1).2.2 c2).1 (w_bp rfl kb_60 (w_go rfl rfl (w_go rfl rfl (w_go rfl rfl (w_go rfl rfl (w_go rfl rfl (w_go rfl rfl (w_gd rfl rfl rfl ⟨Or.inr ((h.2.2.2 c1).2.2 c2).2.1.1, ((h.2.2.2 c1).2.2 c2).2.1.2⟩ (w_go rfl rfl (((h.2.2.2 c1).2.2 c2).2.2)))))))))))))))))))))))))))

theorem b_M_move_52 {a0 : Nat} {x1 : Int32} {x2 : Int32} {x3 : Int32} {x4 : Int32} {x5 : Int32} {tx0 : Int32} {tx1 : Int32} {ta2 : Nat} {σ : iS} {Q : iO → iS → Prop} (h : (sK σ ta2 = 101 ∧ iIn tx1 (sN σ ta2)) ∧ (∀ σ1, σ1 = wA σ ta2 tx1.toNatClampNeg tx0 → wp J_M_move 3 [vr a0, vi x1, vi x2, vi x3, vi x4, vi (x5 + (1 : Int32))] [] σ1 Q)) : wp J_M_move 52 [vr a0, vi x1, vi x2, vi x3, vi x4, vi x5] [vi tx0, vi tx1, vr ta2] σ Q :=
  w_gd rfl rfl rfl h.1 (w_inc rfl rfl kc_1 (w_go rfl rfl ((h.2 _ rfl))))

theorem b_M_split_0 {a0 : Nat} {x1 : Int32} {x2 : Int32} {σ : iS} {Q : iO → iS → Prop} (h : sK σ a0 = 10 ∧ ca J_M_isText [vr a0, vi x1] σ (cI (fun r1 σ1 => (r1 ≠ 0 → wp J_M_split 14 [vr a0, vi x1, vi x2, vl 0, vl 0, vl 0, vl 0, vl 0, vl 0] [vi (0 : Int32), vr a0] σ1 Q) ∧ (¬ (r1 ≠ 0) → wp J_M_split 14 [vr a0, vi x1, vi x2, vl 0, vl 0, vl 0, vl 0, vl 0, vl 0] [vi (1 : Int32), vr a0] σ1 Q)) Q)) : ca J_M_split [vr a0, vi x1, vi x2] σ Q :=
  w_go rfl rfl (w_go rfl rfl (w_go rfl rfl (w_cI rfl rfl rfl ⟨⟨Nat.le_of_ble_eq_true rfl, Nat.le_of_ble_eq_true rfl⟩, h.1⟩ rfl (fun _ => rfl) h.2 (fun r1 σ1 k1 => w_br rfl rfl rfl rfl (fun c2 => w_ic rfl kc_0 ((k1.1 c2))) (fun c2 => w_ic rfl kc_1 (w_go rfl rfl ((k1.2 c2))))))))

theorem b_M_split_14 {a0 : Nat} {x1 : Int32} {x2 : Int32} {l3 : iV} {l4 : iV} {l5 : iV} {l6 : iV} {l7 : iV} {l8 : iV} {tx0 : Int32} {ta1 : Nat} {σ : iS} {Q : iO → iS → Prop} (h : sK σ ta1 = 10 ∧ ca J_M_fails [vr ta1, vi tx0, vi (0 : Int32)] σ (cI (fun r1 σ1 => (r1 = 0 → sK σ1 a0 = 10 ∧ ca J_M_remember [vr a0] σ1 (cV (fun σ3 => wp J_M_split 29 [vr a0, vi x1, vi x2, vi (0 : Int32), l4, l5, l6, l7, l8] [] σ3 Q) Q)) ∧ (¬ (r1 = 0) → Q (.inl (some (vi (0 : Int32)))) σ1)) Q)) : wp J_M_split 14 [vr a0, vi x1, vi x2, l3, l4, l5, l6, l7, l8] [vi tx0, vr ta1] σ Q :=
  w_ic rfl kc_0 (w_cI rfl rfl rfl ⟨⟨Nat.le_of_ble_eq_true rfl, Nat.le_of_ble_eq_true rfl⟩, h.1⟩ rfl (fun _ => rfl) h.2 (fun r1 σ1 k1 => w_br rfl rfl rfl rfl (fun c2 => w_go rfl rfl (w_cV rfl rfl rfl ⟨⟨Nat.le_of_ble_eq_true rfl, Nat.le_of_ble_eq_true rfl⟩, (k1.1 c2).1⟩ rfl (fun _ => rfl) (k1.1 c2).2 (fun σ3 k3 => w_ic rfl kc_0 (w_gd rfl rfl rfl (Nat.le_of_ble_eq_true rfl) (k3))))) (fun c2 => w_ic rfl kc_0 (w_retG rfl rfl rfl (fun q => Bool.noConfusion q) (k1.2 c2)))))

theorem b_M_split_29 {a0 : Nat} {x1 : Int32} {x2 : Int32} {x3 : Int32} {l4 : iV} {l5 : iV} {l6 : iV} {l7 : iV} {l8 : iV} {σ : iS} {Q : iO → iS → Prop} (h : ((20 : Int32) ≤ x3 → (x2 < (1 : Int32) → wp J_M_split 78 [vr a0, vi x1, vi x2, vi (x2 - (1 : Int32)), l4, l5, l6, l7, l8] [] σ Q) ∧ (¬ (x2 < (1 : Int32)) → sK σ a0 = 10 ∧ ((sK σ (sR σ 323 a0) = 101 ∧ iIn x1 (sN σ (sR σ 323 a0))) ∧ (((sA σ (sR σ 323 a0) x1.toNatClampNeg) < x2 → wp J_M_split 78 [vr a0, vi x1, vi x2, vi (x2 - (1 : Int32)), l4, l5, l6, l7, l8] [] σ Q) ∧ (¬ ((sA σ (sR σ 323 a0) x1.toNatClampNeg) < x2) → wp J_M_split 79 [vr a0, vi x1, vi x2, vi (x2 - (1 : Int32)), l4, l5, l6, l7, l8] [vi (1 : Int32)] σ Q))))) ∧ (¬ ((20 : Int32) ≤ x3) → sK σ a0 = 10 ∧ ((sK σ (sR σ 343 a0) = 101 ∧ iIn x3 (sN σ (sR σ 343 a0))) ∧ (∀ σ4, σ4 = wA σ (sR σ 343 a0) x3.toNatClampNeg (-1 : Int32) → sK σ4 a0 = 10 ∧ ((sK σ4 (sR σ4 344 a0) = 101 ∧ iIn x3 (sN σ4 (sR σ4 344 a0))) ∧ (∀ σ5, σ5 = wA σ4 (sR σ4 344 a0) x3.toNatClampNeg (-1 : Int32) → wp J_M_split 29 [vr a0, vi x1, vi x2, vi (x3 + (1 : Int32)), l4, l5, l6, l7, l8] [] σ5 Q)))))) : wp J_M_split 29 [vr a0, vi x1, vi x2, vi x3, l4, l5, l6, l7, l8] [] σ Q :=
  w_go rfl rfl (w_bp rfl kb_20 (w_br rfl rfl rfl rfl (fun c1 => w_go rfl rfl (w_ic rfl kc_1 (w_go rfl rfl (w_gd rfl rfl rfl (Nat.le_of_ble_eq_true rfl) (w_go rfl rfl (w_ic rfl kc_1 (w_br rfl rfl rfl rfl (fun c2 => ((h.1 c1).1 c2)) (fun c2 => w_go rfl rfl (w_go rfl rfl (w_gd rfl rfl rfl ((h.1 c1).2 c2).1 (w_go rfl rfl (w_gd rfl rfl rfl ⟨Or.inr ((h.1 c1).2 c2).2.1.1, ((h.1 c1).2 c2).2.1.2⟩ (w_br rfl rfl rfl rfl (fun c3 => (((h.1 c1).2 c2).2.2.1 c3)) (fun c3 => w_ic rfl kc_1 (w_go rfl rfl ((((h.1 c1).2 c2).2.2.2 c3))))))))))))))))) (fun c1 => w_go rfl rfl (w_gd rfl rfl rfl (h.2 c1).1 (w_go rfl rfl (w_ic rfl kc_m1 (w_gd rfl rfl rfl (h.2 c1).2.1 (w_go rfl rfl (w_gd rfl rfl rfl ((h.2 c1).2.2 _ rfl).1 (w_go rfl rfl (w_ic rfl kc_m1 (w_gd rfl rfl rfl ((h.2 c1).2.2 _ rfl).2.1 (w_inc rfl rfl kc_1 (w_go rfl rfl ((((h.2 c1).2.2 _ rfl).2.2 _ rfl))))))))))))))))

theorem b_M_split_78 {a0 : Nat} {x1 : Int32} {x2 : Int32} {x3 : Int32} {l4 : iV} {l5 : iV} {l6 : iV} {l7 : iV} {l8 : iV} {σ : iS} {Q : iO → iS → Prop} (h : wp J_M_split 79 [vr a0, vi x1, vi x2, vi x3, l4, l5, l6, l7, l8] [vi (0 : Int32)] σ Q) : wp J_M_split 78 [vr a0, vi x1, vi x2, vi x3, l4, l5, l6, l7, l8] [] σ Q :=
  w_ic rfl kc_0 (h)

theorem b_M_split_79 {a0 : Nat} {x1 : Int32} {x2 : Int32} {x3 : Int32} {l4 : iV} {l5 : iV} {l6 : iV} {l7 : iV} {l8 : iV} {tx0 : Int32} {σ : iS} {Q : iO → iS → Prop} (h : wp J_M_split 84 [vr a0, vi x1, vi x2, vi x3, vi tx0, vi (0 : Int32), l6, l7, l8] [] σ Q) : wp J_M_split 79 [vr a0, vi x1, vi x2, vi x3, l4, l5, l6, l7, l8] [vi tx0] σ Q :=
  w_gd rfl rfl rfl (Nat.le_of_ble_eq_true rfl) (w_ic rfl kc_0 (w_gd rfl rfl rfl (Nat.le_of_ble_eq_true rfl) (h)))

theorem b_M_split_84 {a0 : Nat} {x1 : Int32} {x2 : Int32} {x3 : Int32} {x4 : Int32} {x5 : Int32} {l6 : iV} {l7 : iV} {l8 : iV} {σ : iS} {Q : iO → iS → Prop} (h : sK σ a0 = 10 ∧ (((sI σ 347 a0) ≤ x5 → wp J_M_split 349 [vr a0, vi x1, vi x2, vi x3, vi x4, vi x5, l6, l7, l8] [] σ Q) ∧ (¬ ((sI σ 347 a0) ≤ x5) → (x4 = 0 → wp J_M_split 349 [vr a0, vi x1, vi x2, vi x3, vi x4, vi x5, l6, l7, l8] [] σ Q) ∧ (¬ (x4 = 0) → sK σ a0 = 10 ∧ ((sK σ (sR σ 323 a0) = 101 ∧ iIn x1 (sN σ (sR σ 323 a0))) ∧ (((sA σ (sR σ 323 a0) x1.toNatClampNeg) ≤ x3 → wp J_M_split 349 [vr a0, vi x1, vi x2, vi x3, vi x4, vi x5, l6, l7, l8] [] σ Q) ∧ (¬ ((sA σ (sR σ 323 a0) x1.toNatClampNeg) ≤ x3) → sK σ a0 = 10 ∧ (((sI σ 346 a0) ≠ 0 → wp J_M_split 172 [vr a0, vi x1, vi x2, vi x3, vi x4, vi x5, vi x3, vi (-1 : Int32), l8] [] σ Q) ∧ (¬ ((sI σ 346 a0) ≠ 0) → sK σ a0 = 10 ∧ (sK σ a0 = 10 ∧ ((sK σ (sR σ 342 a0) = 101 ∧ iIn x5 (sN σ (sR σ 342 a0))) ∧ ((sK σ (sR σ 323 a0) = 101 ∧ iIn (sA σ (sR σ 342 a0) x5.toNatClampNeg) (sN σ (sR σ 323 a0))) ∧ (sK σ a0 = 10 ∧ ((sK σ (sR σ 323 a0) = 101 ∧ iIn x1 (sN σ (sR σ 323 a0))) ∧ (((sA σ (sR σ 323 a0) x1.toNatClampNeg) ≤ (x3 + (sA σ (sR σ 323 a0) (sA σ (sR σ 342 a0) x5.toNatClampNeg).toNatClampNeg)) → sK σ a0 = 10 ∧ ((sK σ (sR σ 323 a0) = 101 ∧ iIn x1 (sN σ (sR σ 323 a0))) ∧ (wp J_M_split 167 [vr a0, vi x1, vi x2, vi x3, vi x4, vi x5, vi x3, vi (-1 : Int32), l8] [vi (sA σ (sR σ 323 a0) x1.toNatClampNeg)] σ Q))) ∧ (¬ ((sA σ (sR σ 323 a0) x1.toNatClampNeg) ≤ (x3 + (sA σ (sR σ 323 a0) (sA σ (sR σ 342 a0) x5.toNatClampNeg).toNatClampNeg))) → sK σ a0 = 10 ∧ (sK σ a0 = 10 ∧ ((sK σ (sR σ 342 a0) = 101 ∧ iIn x5 (sN σ (sR σ 342 a0))) ∧ ((sK σ (sR σ 323 a0) = 101 ∧ iIn (sA σ (sR σ 342 a0) x5.toNatClampNeg) (sN σ (sR σ 323 a0))) ∧ (wp J_M_split 167 [vr a0, vi x1, vi x2, vi x3, vi x4, vi x5, vi x3, vi (-1 : Int32), l8] [vi (x3 + (sA σ (sR σ 323 a0) (sA σ (sR σ 342 a0) x5.toNatClampNeg).toNatClampNeg))] σ Q)))))))))))))))))))) : wp J_M_split 84 [vr a0, vi x1, vi x2, vi x3, vi x4, vi x5, l6, l7, l8] [] σ Q :=
  w_go rfl rfl (w_go rfl rfl (w_gd rfl rfl rfl h.1 (w_br rfl rfl rfl rfl (fun c1 => (h.2.1 c1)) (fun c1 => w_go rfl rfl (w_br rfl rfl rfl rfl (fun c2 => ((h.2.2 c1).1 c2)) (fun c2 => w_go rfl rfl (w_go rfl rfl (w_gd rfl rfl rfl ((h.2.2 c1).2 c2).1 (w_go rfl rfl (w_gd rfl rfl rfl ⟨Or.inr ((h.2.2 c1).2 c2).2.1.1, ((h.2.2 c1).2 c2).2.1.2⟩ (w_br rfl rfl rfl rfl (fun c3 => (((h.2.2 c1).2 c2).2.2.1 c3)) (fun c3 => w_go rfl rfl (w_gd rfl rfl rfl (Nat.le_of_ble_eq_true rfl) (w_ic rfl kc_m1 (w_gd rfl rfl rfl (Nat.le_of_ble_eq_true rfl) (w_go rfl rfl (w_gd rfl rfl rfl (((h.2.2 c1).2 c2).2.2.2 c3).1 (w_br rfl rfl rfl rfl (fun c4 => ((((h.2.2 c1).2 c2).2.2.2 c3).2.1 c4)) (fun c4 => w_go rfl rfl (w_go rfl rfl (w_gd rfl rfl rfl ((((h.2.2 c1).2 c2).2.2.2 c3).2.2 c4).1 (w_go rfl rfl (w_gd rfl rfl rfl ((((h.2.2 c1).2 c2).2.2.2 c3).2.2 c4).2.1 (w_go rfl rfl (w_gd rfl rfl rfl ⟨Or.inr ((((h.2.2 c1).2 c2).2.2.2 c3).2.2 c4).2.2.1.1, ((((h.2.2 c1).2 c2).2.2.2 c3).2.2 c4).2.2.1.2⟩ (w_gd rfl rfl rfl ⟨Or.inr ((((h.2.2 c1).2 c2).2.2.2 c3).2.2 c4).2.2.2.1.1, ((((h.2.2 c1).2 c2).2.2.2 c3).2.2 c4).2.2.2.1.2⟩ (w_go rfl rfl (w_go rfl rfl (w_gd rfl rfl rfl ((((h.2.2 c1).2 c2).2.2.2 c3).2.2 c4).2.2.2.2.1 (w_go rfl rfl (w_gd rfl rfl rfl ⟨Or.inr ((((h.2.2 c1).2 c2).2.2.2 c3).2.2 c4).2.2.2.2.2.1.1, ((((h.2.2 c1).2 c2).2.2.2 c3).2.2 c4).2.2.2.2.2.1.2⟩ (w_br rfl rfl rfl rfl (fun c5 => w_go rfl rfl (w_gd rfl rfl rfl (((((h.2.2 c1).2 c2).2.2.2 c3).2.2 c4).2.2.2.2.2.2.1 c5).1 (w_go rfl rfl (w_gd rfl rfl rfl ⟨Or.inr (((((h.2.2 c1).2 c2).2.2.2 c3).2.2 c4).2.2.2.2.2.2.1 c5).2.1.1, (((((h.2.2 c1).2 c2).2.2.2 c3).2.2 c4).2.2.2.2.2.2.1 c5).2.1.2⟩ ((((((h.2.2 c1).2 c2).2.2.2 c3).2.2 c4).2.2.2.2.2.2.1 c5).2.2))))) (fun c5 => w_go rfl rfl (w_go rfl rfl (w_gd rfl rfl rfl (((((h.2.2 c1).2 c2).2.2.2 c3).2.2 c4).2.2.2.2.2.2.2 c5).1 (w_go rfl rfl (w_gd rfl rfl rfl (((((h.2.2 c1).2 c2).2.2.2 c3).2.2 c4).2.2.2.2.2.2.2 c5).2.1 (w_go rfl rfl (w_gd rfl rfl rfl ⟨Or.inr (((((h.2.2 c1).2 c2).2.2.2 c3).2.2 c4).2.2.2.2.2.2.2 c5).2.2.1.1, (((((h.2.2 c1).2 c2).2.2.2 c3).2.2 c4).2.2.2.2.2.2.2 c5).2.2.1.2⟩ (w_gd rfl rfl rfl ⟨Or.inr (((((h.2.2 c1).2 c2).2.2.2 c3).2.2 c4).2.2.2.2.2.2.2 c5).2.2.2.1.1, (((((h.2.2 c1).2 c2).2.2.2 c3).2.2 c4).2.2.2.2.2.2.2 c5).2.2.2.1.2⟩ (w_go rfl rfl (w_go rfl rfl ((((((h.2.2 c1).2 c2).2.2.2 c3).2.2 c4).2.2.2.2.2.2.2 c5).2.2.2.2)))))))))))))))))))))))))))))))))))))))))))

theorem b_M_split_167 {a0 : Nat} {x1 : Int32} {x2 : Int32} {x3 : Int32} {x4 : Int32} {x5 : Int32} {x6 : Int32} {x7 : Int32} {l8 : iV} {tx0 : Int32} {σ : iS} {Q : iO → iS → Prop} (h : wp J_M_split 224 [vr a0, vi x1, vi x2, vi x3, vi x4, vi x5, vi tx0, vi x7, l8] [] σ Q) : wp J_M_split 167 [vr a0, vi x1, vi x2, vi x3, vi x4, vi x5, vi x6, vi x7, l8] [vi tx0] σ Q :=
  w_gd rfl rfl rfl (Nat.le_of_ble_eq_true rfl) (w_go rfl rfl (h))

theorem b_M_split_172 {a0 : Nat} {x1 : Int32} {x2 : Int32} {x3 : Int32} {x4 : Int32} {x5 : Int32} {x6 : Int32} {x7 : Int32} {l8 : iV} {σ : iS} {Q : iO → iS → Prop} (h : sK σ a0 = 10 ∧ ((sK σ (sR σ 323 a0) = 101 ∧ iIn x1 (sN σ (sR σ 323 a0))) ∧ (((sA σ (sR σ 323 a0) x1.toNatClampNeg) ≤ x6 → wp J_M_split 200 [vr a0, vi x1, vi x2, vi x3, vi x4, vi x5, vi x6, vi x7, l8] [] σ Q) ∧ (¬ ((sA σ (sR σ 323 a0) x1.toNatClampNeg) ≤ x6) → sK σ a0 = 10 ∧ ca J_M_here [vr a0, vi x1, vi x6] σ (cI (fun r2 σ2 => (r2 ≠ (-1 : Int32) → wp J_M_split 200 [vr a0, vi x1, vi x2, vi x3, vi x4, vi x5, vi x6, vi x7, l8] [] σ2 Q) ∧ (¬ (r2 ≠ (-1 : Int32)) → wp J_M_split 172 [vr a0, vi x1, vi x2, vi x3, vi x4, vi x5, vi (x6 + (1 : Int32)), vi x7, l8] [] σ2 Q)) Q))))) : wp J_M_split 172 [vr a0, vi x1, vi x2, vi x3, vi x4, vi x5, vi x6, vi x7, l8] [] σ Q :=
  w_go rfl rfl (w_go rfl rfl (w_gd rfl rfl rfl h.1 (w_go rfl rfl (w_gd rfl rfl rfl ⟨Or.inr h.2.1.1, h.2.1.2⟩ (w_br rfl rfl rfl rfl (fun c1 => (h.2.2.1 c1)) (fun c1 => w_go rfl rfl (w_go rfl rfl (w_go rfl rfl (w_cI rfl rfl rfl ⟨⟨Nat.le_of_ble_eq_true rfl, Nat.le_of_ble_eq_true rfl⟩, (h.2.2.2 c1).1⟩ rfl (fun _ => rfl) (h.2.2.2 c1).2 (fun r2 σ2 k2 => w_ic rfl kc_m1 (w_br rfl rfl rfl rfl (fun c3 => (k2.1 c3)) (fun c3 => w_inc rfl rfl kc_1 (w_go rfl rfl ((k2.2 c3)))))))))))))))

theorem b_M_split_200 {a0 : Nat} {x1 : Int32} {x2 : Int32} {x3 : Int32} {x4 : Int32} {x5 : Int32} {x6 : Int32} {x7 : Int32} {l8 : iV} {σ : iS} {Q : iO → iS → Prop} (h : sK σ a0 = 10 ∧ ((sK σ (sR σ 323 a0) = 101 ∧ iIn x1 (sN σ (sR σ 323 a0))) ∧ (((sA σ (sR σ 323 a0) x1.toNatClampNeg) ≤ x6 → wp J_M_split 222 [vr a0, vi x1, vi x2, vi x3, vi x4, vi x5, vi x6, vi x7, l8] [vi (-1 : Int32)] σ Q) ∧ (¬ ((sA σ (sR σ 323 a0) x1.toNatClampNeg) ≤ x6) → sK σ a0 = 10 ∧ ca J_M_here [vr a0, vi x1, vi x6] σ (cI (fun r2 σ2 => wp J_M_split 222 [vr a0, vi x1, vi x2, vi x3, vi x4, vi x5, vi x6, vi x7, l8] [vi r2] σ2 Q) Q))))) : wp J_M_split 200 [vr a0, vi x1, vi x2, vi x3, vi x4, vi x5, vi x6, vi x7, l8] [] σ Q :=
  w_go rfl rfl (w_go rfl rfl (w_gd rfl rfl rfl h.1 (w_go rfl rfl (w_gd rfl rfl rfl ⟨Or.inr h.2.1.1, h.2.1.2⟩ (w_br rfl rfl rfl rfl (fun c1 => w_ic rfl kc_m1 ((h.2.2.1 c1))) (fun c1 => w_go rfl rfl (w_go rfl rfl (w_go rfl rfl (w_cI rfl rfl rfl ⟨⟨Nat.le_of_ble_eq_true rfl, Nat.le_of_ble_eq_true rfl⟩, (h.2.2.2 c1).1⟩ rfl (fun _ => rfl) (h.2.2.2 c1).2 (fun r2 σ2 k2 => w_go rfl rfl (k2)))))))))))

theorem b_M_split_222 {a0 : Nat} {x1 : Int32} {x2 : Int32} {x3 : Int32} {x4 : Int32} {x5 : Int32} {x6 : Int32} {x7 : Int32} {l8 : iV} {tx0 : Int32} {σ : iS} {Q : iO → iS → Prop} (h : wp J_M_split 224 [vr a0, vi x1, vi x2, vi x3, vi x4, vi x5, vi x6, vi tx0, l8] [] σ Q) : wp J_M_split 222 [vr a0, vi x1, vi x2, vi x3, vi x4, vi x5, vi x6, vi x7, l8] [vi tx0] σ Q :=
  w_gd rfl rfl rfl (Nat.le_of_ble_eq_true rfl) (h)

theorem b_M_split_224 {a0 : Nat} {x1 : Int32} {x2 : Int32} {x3 : Int32} {x4 : Int32} {x5 : Int32} {x6 : Int32} {x7 : Int32} {l8 : iV} {σ : iS} {Q : iO → iS → Prop} (h : sK σ a0 = 10 ∧ ((sK σ (sR σ 342 a0) = 101 ∧ iIn x5 (sN σ (sR σ 342 a0))) ∧ (sK σ a0 = 10 ∧ ca J_M_move [vr a0, vi x1, vi x3, vi (x6 - x3), vi (sA σ (sR σ 342 a0) x5.toNatClampNeg)] σ (cV (fun σ1 => sK σ1 a0 = 10 ∧ ((sK σ1 (sR σ1 343 a0) = 101 ∧ iIn x5 (sN σ1 (sR σ1 343 a0))) ∧ (∀ σ2, σ2 = wA σ1 (sR σ1 343 a0) x5.toNatClampNeg (x6 - x3) → sK σ2 a0 = 10 ∧ ((sK σ2 (sR σ2 344 a0) = 101 ∧ iIn x5 (sN σ2 (sR σ2 344 a0))) ∧ (∀ σ3, σ3 = wA σ2 (sR σ2 344 a0) x5.toNatClampNeg x7 → (x7 = (-1 : Int32) → wp J_M_split 275 [vr a0, vi x1, vi x2, vi x6, vi x4, vi x5, vi x6, vi x7, l8] [vi (0 : Int32)] σ3 Q) ∧ (¬ (x7 = (-1 : Int32)) → wp J_M_split 275 [vr a0, vi x1, vi x2, vi x6, vi x4, vi x5, vi x6, vi x7, l8] [vi (1 : Int32)] σ3 Q)))))) Q)))) : wp J_M_split 224 [vr a0, vi x1, vi x2, vi x3, vi x4, vi x5, vi x6, vi x7, l8] [] σ Q :=
  w_go rfl rfl (w_go rfl rfl (w_go rfl rfl (w_go rfl rfl (w_go rfl rfl (w_go rfl rfl (w_go rfl rfl (w_gd rfl rfl rfl h.1 (w_go rfl rfl (w_gd rfl rfl rfl ⟨Or.inr h.2.1.1, h.2.1.2⟩ (w_cV rfl rfl rfl ⟨⟨Nat.le_of_ble_eq_true rfl, Nat.le_of_ble_eq_true rfl⟩, h.2.2.1⟩ rfl (fun _ => rfl) h.2.2.2 (fun σ1 k1 => w_go rfl rfl (w_gd rfl rfl rfl k1.1 (w_go rfl rfl (w_go rfl rfl (w_go rfl rfl (w_go rfl rfl (w_gd rfl rfl rfl k1.2.1 (w_go rfl rfl (w_gd rfl rfl rfl (k1.2.2 _ rfl).1 (w_go rfl rfl (w_go rfl rfl (w_gd rfl rfl rfl (k1.2.2 _ rfl).2.1 (w_go rfl rfl (w_gd rfl rfl rfl (Nat.le_of_ble_eq_true rfl) (w_go rfl rfl (w_ic rfl kc_m1 (w_br rfl rfl rfl rfl (fun c4 => w_ic rfl kc_0 ((((k1.2.2 _ rfl).2.2 _ rfl).1 c4))) (fun c4 => w_ic rfl kc_1 (w_go rfl rfl ((((k1.2.2 _ rfl).2.2 _ rfl).2 c4)))))))))))))))))))))))))))))))

theorem b_M_split_275 {a0 : Nat} {x1 : Int32} {x2 : Int32} {x3 : Int32} {x4 : Int32} {x5 : Int32} {x6 : Int32} {x7 : Int32} {l8 : iV} {tx0 : Int32} {σ : iS} {Q : iO → iS → Prop} (h : wp J_M_split 277 [vr a0, vi x1, vi x2, vi x3, vi x4, vi x5, vi x6, vi x7, vi tx0] [] σ Q) : wp J_M_split 275 [vr a0, vi x1, vi x2, vi x3, vi x4, vi x5, vi x6, vi x7, l8] [vi tx0] σ Q :=
  w_gd rfl rfl rfl (Nat.le_of_ble_eq_true rfl) (h)

theorem b_M_split_277 {a0 : Nat} {x1 : Int32} {x2 : Int32} {x3 : Int32} {x4 : Int32} {x5 : Int32} {x6 : Int32} {x7 : Int32} {x8 : Int32} {σ : iS} {Q : iO → iS → Prop} (h : (x8 = 0 → wp J_M_split 84 [vr a0, vi x1, vi x2, vi x3, vi x4, vi (x5 + (1 : Int32)), vi x6, vi x7, vi x8] [] σ Q) ∧ (¬ (x8 = 0) → sK σ a0 = 10 ∧ (sK σ a0 = 10 ∧ ((sK σ (sR σ 341 a0) = 101 ∧ iIn x7 (sN σ (sR σ 341 a0))) ∧ ((sK σ (sR σ 323 a0) = 101 ∧ iIn (sA σ (sR σ 341 a0) x7.toNatClampNeg) (sN σ (sR σ 323 a0))) ∧ (sK σ a0 = 10 ∧ ((sK σ (sR σ 345 a0) = 102 ∧ iIn x7 (sN σ (sR σ 345 a0))) ∧ (((sA σ (sR σ 345 a0) x7.toNatClampNeg) = 0 → wp J_M_split 337 [vr a0, vi x1, vi x2, vi (x3 + (sA σ (sR σ 323 a0) (sA σ (sR σ 341 a0) x7.toNatClampNeg).toNatClampNeg)), vi x4, vi x5, vi x6, vi x7, vi x8] [] σ Q) ∧ (¬ ((sA σ (sR σ 345 a0) x7.toNatClampNeg) = 0) → sK σ a0 = 10 ∧ (sK σ a0 = 10 ∧ ((sK σ (sR σ 341 a0) = 101 ∧ iIn x7 (sN σ (sR σ 341 a0))) ∧ (sK σ a0 = 10 ∧ ((sK σ (sR σ 323 a0) = 101 ∧ iIn x1 (sN σ (sR σ 323 a0))) ∧ (sK σ a0 = 10 ∧ ca J_M_occurs [vr a0, vr (sR σ 322 a0), vi (sA σ (sR σ 341 a0) x7.toNatClampNeg), vi x1, vi (x3 + (sA σ (sR σ 323 a0) (sA σ (sR σ 341 a0) x7.toNatClampNeg).toNatClampNeg)), vi (sA σ (sR σ 323 a0) x1.toNatClampNeg)] σ (cI (fun r3 σ3 => (r3 = 0 → wp J_M_split 337 [vr a0, vi x1, vi x2, vi (x3 + (sA σ (sR σ 323 a0) (sA σ (sR σ 341 a0) x7.toNatClampNeg).toNatClampNeg)), vi x4, vi x5, vi x6, vi x7, vi x8] [] σ3 Q) ∧ (¬ (r3 = 0) → wp J_M_split 338 [vr a0, vi x1, vi x2, vi (x3 + (sA σ (sR σ 323 a0) (sA σ (sR σ 341 a0) x7.toNatClampNeg).toNatClampNeg)), vi x4, vi x5, vi x6, vi x7, vi x8] [vi (1 : Int32)] σ3 Q)) Q))))))))))))))) : wp J_M_split 277 [vr a0, vi x1, vi x2, vi x3, vi x4, vi x5, vi x6, vi x7, vi x8] [] σ Q :=
  w_go rfl rfl (w_br rfl rfl rfl rfl (fun c1 => w_inc rfl rfl kc_1 (w_go rfl rfl ((h.1 c1)))) (fun c1 => w_go rfl rfl (w_go rfl rfl (w_gd rfl rfl rfl (h.2 c1).1 (w_go rfl rfl (w_gd rfl rfl rfl (h.2 c1).2.1 (w_go rfl rfl (w_gd rfl rfl rfl ⟨Or.inr (h.2 c1).2.2.1.1, (h.2 c1).2.2.1.2⟩ (w_gd rfl rfl rfl ⟨Or.inr (h.2 c1).2.2.2.1.1, (h.2 c1).2.2.2.1.2⟩ (w_go rfl rfl (w_gd rfl rfl rfl (Nat.le_of_ble_eq_true rfl) (w_go rfl rfl (w_gd rfl rfl rfl (h.2 c1).2.2.2.2.1 (w_go rfl rfl (w_gd rfl rfl rfl (h.2 c1).2.2.2.2.2.1 (w_br rfl rfl rfl rfl (fun c2 => ((h.2 c1).2.2.2.2.2.2.1 c2)) (fun c2 => w_go rfl rfl (w_go rfl rfl (w_gd rfl rfl rfl ((h.2 c1).2.2.2.2.2.2.2 c2).1 (w_go rfl rfl (w_gd rfl rfl rfl ((h.2 c1).2.2.2.2.2.2.2 c2).2.1 (w_go rfl rfl (w_gd rfl rfl rfl ⟨Or.inr ((h.2 c1).2.2.2.2.2.2.2 c2).2.2.1.1, ((h.2 c1).2.2.2.2.2.2.2 c2).2.2.1.2⟩ (w_go rfl rfl (w_go rfl rfl (w_go rfl rfl (w_gd rfl rfl rfl ((h.2 c1).2.2.2.2.2.2.2 c2).2.2.2.1 (w_go rfl rfl (w_gd rfl rfl rfl ⟨Or.inr ((h.2 c1).2.2.2.2.2.2.2 c2).2.2.2.2.1.1, ((h.2 c1).2.2.2.2.2.2.2 c2).2.2.2.2.1.2⟩ (w_cI rfl rfl rfl ⟨⟨Nat.le_of_ble_eq_true rfl, Nat.le_of_ble_eq_true rfl⟩, ((h.2 c1).2.2.2.2.2.2.2 c2).2.2.2.2.2.1⟩ rfl (fun _ => rfl) ((h.2 c1).2.2.2.2.2.2.2 c2).2.2.2.2.2.2 (fun r3 σ3 k3 => w_br rfl rfl rfl rfl (fun c4 => (k3.1 c4)) (fun c4 => w_ic rfl kc_1 (w_go rfl rfl ((k3.2 c4)))))))))))))))))))))))))))))))))))

theorem b_M_split_337 {a0 : Nat} {x1 : Int32} {x2 : Int32} {x3 : Int32} {x4 : Int32} {x5 : Int32} {x6 : Int32} {x7 : Int32} {x8 : Int32} {σ : iS} {Q : iO → iS → Prop} (h : wp J_M_split 338 [vr a0, vi x1, vi x2, vi x3, vi x4, vi x5, vi x6, vi x7, vi x8] [vi (0 : Int32)] σ Q) : wp J_M_split 337 [vr a0, vi x1, vi x2, vi x3, vi x4, vi x5, vi x6, vi x7, vi x8] [] σ Q :=
  w_ic rfl kc_0 (h)

theorem b_M_split_338 {a0 : Nat} {x1 : Int32} {x2 : Int32} {x3 : Int32} {x4 : Int32} {x5 : Int32} {x6 : Int32} {x7 : Int32} {x8 : Int32} {tx0 : Int32} {σ : iS} {Q : iO → iS → Prop} (h : wp J_M_split 277 [vr a0, vi x1, vi x2, vi x3, vi x4, vi x5, vi x6, vi x7, vi tx0] [] σ Q) : wp J_M_split 338 [vr a0, vi x1, vi x2, vi x3, vi x4, vi x5, vi x6, vi x7, vi x8] [vi tx0] σ Q :=
  w_gd rfl rfl rfl (Nat.le_of_ble_eq_true rfl) (w_go rfl rfl (h))

theorem b_M_split_349 {a0 : Nat} {x1 : Int32} {x2 : Int32} {x3 : Int32} {x4 : Int32} {x5 : Int32} {l6 : iV} {l7 : iV} {l8 : iV} {σ : iS} {Q : iO → iS → Prop} (h : sK σ a0 = 10 ∧ (∀ σ1, σ1 = wI σ 346 a0 (0 : Int32) → sK σ1 a0 = 10 ∧ (∀ σ2, σ2 = wI σ1 347 a0 (0 : Int32) → (x4 = 0 → wp J_M_split 372 [vr a0, vi x1, vi x2, vi x3, vi x4, vi x5, l6, l7, l8] [vi x2, vr a0] σ2 Q) ∧ (¬ (x4 = 0) → wp J_M_split 372 [vr a0, vi x1, vi x2, vi x3, vi x4, vi x5, l6, l7, l8] [vi (x3 + (1 : Int32)), vr a0] σ2 Q)))) : wp J_M_split 349 [vr a0, vi x1, vi x2, vi x3, vi x4, vi x5, l6, l7, l8] [] σ Q :=
  w_go rfl rfl (w_ic rfl kc_0 (w_gd rfl rfl rfl h.1 (w_go rfl rfl (w_ic rfl kc_0 (w_gd rfl rfl rfl (h.2 _ rfl).1 (w_go rfl rfl (w_go rfl rfl (w_br rfl rfl rfl rfl (fun c3 => w_go rfl rfl ((((h.2 _ rfl).2 _ rfl).1 c3))) (fun c3 => w_go rfl rfl (w_ic rfl kc_1 (w_go rfl rfl (w_go rfl rfl ((((h.2 _ rfl).2 _ rfl).2 c3))))))))))))))

theorem b_M_split_372 {a0 : Nat} {x1 : Int32} {x2 : Int32} {x3 : Int32} {x4 : Int32} {x5 : Int32} {l6 : iV} {l7 : iV} {l8 : iV} {tx0 : Int32} {ta1 : Nat} {σ : iS} {Q : iO → iS → Prop} (h : sK σ ta1 = 10 ∧ (∀ σ1, σ1 = wI σ 348 ta1 tx0 → (x4 = 0 → wp J_M_split 396 [vr a0, vi x1, vi x2, vi x3, vi x4, vi x5, l6, l7, l8] [] σ1 Q) ∧ (¬ (x4 = 0) → sK σ1 a0 = 10 ∧ ((sK σ1 (sR σ1 323 a0) = 101 ∧ iIn x1 (sN σ1 (sR σ1 323 a0))) ∧ ((x3 < (sA σ1 (sR σ1 323 a0) x1.toNatClampNeg) → wp J_M_split 396 [vr a0, vi x1, vi x2, vi x3, vi x4, vi x5, l6, l7, l8] [] σ1 Q) ∧ (¬ (x3 < (sA σ1 (sR σ1 323 a0) x1.toNatClampNeg)) → wp J_M_split 397 [vr a0, vi x1, vi x2, vi x3, vi x4, vi x5, l6, l7, l8] [vi (x3 + (1 : Int32))] σ1 Q)))))) : wp J_M_split 372 [vr a0, vi x1, vi x2, vi x3, vi x4, vi x5, l6, l7, l8] [vi tx0, vr ta1] σ Q :=
  w_gd rfl rfl rfl h.1 (w_go rfl rfl (w_br rfl rfl rfl rfl (fun c2 => ((h.2 _ rfl).1 c2)) (fun c2 => w_go rfl rfl (w_go rfl rfl (w_gd rfl rfl rfl ((h.2 _ rfl).2 c2).1 (w_go rfl rfl (w_gd rfl rfl rfl ⟨Or.inr ((h.2 _ rfl).2 c2).2.1.1, ((h.2 _ rfl).2 c2).2.1.2⟩ (w_br rfl rfl rfl rfl (fun c3 => (((h.2 _ rfl).2 c2).2.2.1 c3)) (fun c3 => w_go rfl rfl (w_ic rfl kc_1 (w_go rfl rfl (w_go rfl rfl ((((h.2 _ rfl).2 c2).2.2.2 c3))))))))))))))

theorem b_M_split_396 {a0 : Nat} {x1 : Int32} {x2 : Int32} {x3 : Int32} {x4 : Int32} {x5 : Int32} {l6 : iV} {l7 : iV} {l8 : iV} {σ : iS} {Q : iO → iS → Prop} (h : wp J_M_split 397 [vr a0, vi x1, vi x2, vi x3, vi x4, vi x5, l6, l7, l8] [vi (-1 : Int32)] σ Q) : wp J_M_split 396 [vr a0, vi x1, vi x2, vi x3, vi x4, vi x5, l6, l7, l8] [] σ Q :=
  w_ic rfl kc_m1 (h)

theorem b_M_split_397 {a0 : Nat} {x1 : Int32} {x2 : Int32} {x3 : Int32} {x4 : Int32} {x5 : Int32} {l6 : iV} {l7 : iV} {l8 : iV} {tx0 : Int32} {σ : iS} {Q : iO → iS → Prop} (h : Q (.inl (some (vi tx0))) σ) : wp J_M_split 397 [vr a0, vi x1, vi x2, vi x3, vi x4, vi x5, l6, l7, l8] [vi tx0] σ Q :=
  w_retG rfl rfl rfl (fun q => Bool.noConfusion q) h

theorem b_M_result_0 {a0 : Nat} {x1 : Int32} {x2 : Int32} {σ : iS} {Q : iO → iS → Prop} (h : sK σ a0 = 10 ∧ (∀ σ1, σ1 = wI σ 320 a0 (0 : Int32) → (x1 < 0 → wp J_M_result 24 [vr a0, vi x1, vi x2] [] σ1 Q) ∧ (¬ (x1 < 0) → ((20 : Int32) ≤ x1 → wp J_M_result 24 [vr a0, vi x1, vi x2] [] σ1 Q) ∧ (¬ ((20 : Int32) ≤ x1) → (x2 < 0 → wp J_M_result 24 [vr a0, vi x1, vi x2] [] σ1 Q) ∧ (¬ (x2 < 0) → (x2 ≤ (1 : Int32) → (x2 ≠ 0 → sK σ1 a0 = 10 ∧ ((sK σ1 (sR σ1 344 a0) = 101 ∧ iIn x1 (sN σ1 (sR σ1 344 a0))) ∧ (wp J_M_result 47 [vr a0, vi x1, vi x2] [vi (sA σ1 (sR σ1 344 a0) x1.toNatClampNeg)] σ1 Q))) ∧ (¬ (x2 ≠ 0) → sK σ1 a0 = 10 ∧ ((sK σ1 (sR σ1 343 a0) = 101 ∧ iIn x1 (sN σ1 (sR σ1 343 a0))) ∧ (wp J_M_result 47 [vr a0, vi x1, vi x2] [vi (sA σ1 (sR σ1 343 a0) x1.toNatClampNeg)] σ1 Q)))) ∧ (¬ (x2 ≤ (1 : Int32)) → wp J_M_result 24 [vr a0, vi x1, vi x2] [] σ1 Q)))))) : ca J_M_result [vr a0, vi x1, vi x2] σ Q :=
  w_go rfl rfl (w_ic rfl kc_0 (w_gd rfl rfl rfl h.1 (w_go rfl rfl (w_br rfl rfl rfl rfl (fun c2 => ((h.2 _ rfl).1 c2)) (fun c2 => w_go rfl rfl (w_bp rfl kb_20 (w_br rfl rfl rfl rfl (fun c3 => (((h.2 _ rfl).2 c2).1 c3)) (fun c3 => w_go rfl rfl (w_br rfl rfl rfl rfl (fun c4 => ((((h.2 _ rfl).2 c2).2 c3).1 c4)) (fun c4 => w_go rfl rfl (w_ic rfl kc_1 (w_br rfl rfl rfl rfl (fun c5 => w_go rfl rfl (w_br rfl rfl rfl rfl (fun c6 => w_go rfl rfl (w_gd rfl rfl rfl ((((((h.2 _ rfl).2 c2).2 c3).2 c4).1 c5).1 c6).1 (w_go rfl rfl (w_gd rfl rfl rfl ⟨Or.inr ((((((h.2 _ rfl).2 c2).2 c3).2 c4).1 c5).1 c6).2.1.1, ((((((h.2 _ rfl).2 c2).2 c3).2 c4).1 c5).1 c6).2.1.2⟩ (((((((h.2 _ rfl).2 c2).2 c3).2 c4).1 c5).1 c6).2.2))))) (fun c6 => w_go rfl rfl (w_gd rfl rfl rfl ((((((h.2 _ rfl).2 c2).2 c3).2 c4).1 c5).2 c6).1 (w_go rfl rfl (w_gd rfl rfl rfl ⟨Or.inr ((((((h.2 _ rfl).2 c2).2 c3).2 c4).1 c5).2 c6).2.1.1, ((((((h.2 _ rfl).2 c2).2 c3).2 c4).1 c5).2 c6).2.1.2⟩ (w_go rfl rfl (((((((h.2 _ rfl).2 c2).2 c3).2 c4).1 c5).2 c6).2.2)))))))) (fun c5 => (((((h.2 _ rfl).2 c2).2 c3).2 c4).2 c5))))))))))))))

theorem b_M_result_24 {a0 : Nat} {x1 : Int32} {x2 : Int32} {σ : iS} {Q : iO → iS → Prop} (h : wp J_M_result 47 [vr a0, vi x1, vi x2] [vi (-1 : Int32)] σ Q) : wp J_M_result 24 [vr a0, vi x1, vi x2] [] σ Q :=
  w_ic rfl kc_m1 (w_go rfl rfl (h))

theorem b_M_result_47 {a0 : Nat} {x1 : Int32} {x2 : Int32} {tx0 : Int32} {σ : iS} {Q : iO → iS → Prop} (h : Q (.inl (some (vi tx0))) σ) : wp J_M_result 47 [vr a0, vi x1, vi x2] [vi tx0] σ Q :=
  w_retG rfl rfl rfl (fun q => Bool.noConfusion q) h

theorem b_M_pointer_0 {a0 : Nat} {σ : iS} {Q : iO → iS → Prop} (h : sK σ a0 = 10 ∧ (∀ σ1, σ1 = wI σ 320 a0 (0 : Int32) → sK σ1 a0 = 10 ∧ (Q (.inl (some (vi (sI σ1 348 a0)))) σ1))) : ca J_M_pointer [vr a0] σ Q :=
  w_go rfl rfl (w_ic rfl kc_0 (w_gd rfl rfl rfl h.1 (w_go rfl rfl (w_gd rfl rfl rfl (h.2 _ rfl).1 (w_retG rfl rfl rfl (fun q => Bool.noConfusion q) (h.2 _ rfl).2)))))

theorem b_M_table_0 {a0 : Nat} {x1 : Int32} {σ : iS} {Q : iO → iS → Prop} (h : (x1 < (1 : Int32) → wp J_M_table 11 [vr a0, vi x1, vl 0] [] σ Q) ∧ (¬ (x1 < (1 : Int32)) → (x1 ≤ (60 : Int32) → wp J_M_table 16 [vr a0, vi x1, vl 0] [vi (0 : Int32)] σ Q) ∧ (¬ (x1 ≤ (60 : Int32)) → wp J_M_table 11 [vr a0, vi x1, vl 0] [] σ Q))) : ca J_M_table [vr a0, vi x1] σ Q :=
  w_go rfl rfl (w_ic rfl kc_1 (w_br rfl rfl rfl rfl (fun c1 => (h.1 c1)) (fun c1 => w_go rfl rfl (w_bp rfl kb_60 (w_br rfl rfl rfl rfl (fun c2 => w_ic rfl kc_0 (((h.2 c1).1 c2))) (fun c2 => ((h.2 c1).2 c2)))))))

theorem b_M_table_11 {a0 : Nat} {x1 : Int32} {l2 : iV} {σ : iS} {Q : iO → iS → Prop} (h : wp J_M_table 16 [vr a0, vi x1, l2] [vi (1 : Int32)] σ Q) : wp J_M_table 11 [vr a0, vi x1, l2] [] σ Q :=
  w_ic rfl kc_1 (w_go rfl rfl (h))

theorem b_M_table_16 {a0 : Nat} {x1 : Int32} {l2 : iV} {tx0 : Int32} {σ : iS} {Q : iO → iS → Prop} (h : (tx0 ≠ 0 → wp J_M_table 36 [vr a0, vi x1, vi tx0] [vi tx0, vr a0] σ Q) ∧ (¬ (tx0 ≠ 0) → sK σ a0 = 10 ∧ (((sI σ 352 a0) ≠ (10 : Int32) → wp J_M_table 36 [vr a0, vi x1, vi tx0] [vi tx0, vr a0] σ Q) ∧ (¬ ((sI σ 352 a0) ≠ (10 : Int32)) → wp J_M_table 37 [vr a0, vi x1, vi tx0] [vi (1 : Int32), vi tx0, vr a0] σ Q)))) : wp J_M_table 16 [vr a0, vi x1, l2] [vi tx0] σ Q :=
  w_gd rfl rfl rfl (Nat.le_of_ble_eq_true rfl) (w_go rfl rfl (w_go rfl rfl (w_go rfl rfl (w_br rfl rfl rfl rfl (fun c1 => (h.1 c1)) (fun c1 => w_go rfl rfl (w_gd rfl rfl rfl (h.2 c1).1 (w_bp rfl kb_10 (w_br rfl rfl rfl rfl (fun c2 => ((h.2 c1).2.1 c2)) (fun c2 => w_ic rfl kc_1 (w_go rfl rfl (((h.2 c1).2.2 c2))))))))))))

theorem b_M_table_36 {a0 : Nat} {x1 : Int32} {x2 : Int32} {tx0 : Int32} {ta1 : Nat} {σ : iS} {Q : iO → iS → Prop} (h : wp J_M_table 37 [vr a0, vi x1, vi x2] [vi (0 : Int32), vi tx0, vr ta1] σ Q) : wp J_M_table 36 [vr a0, vi x1, vi x2] [vi tx0, vr ta1] σ Q :=
  w_ic rfl kc_0 (h)

theorem b_M_table_37 {a0 : Nat} {x1 : Int32} {x2 : Int32} {tx0 : Int32} {tx1 : Int32} {ta2 : Nat} {σ : iS} {Q : iO → iS → Prop} (h : sK σ ta2 = 10 ∧ ca J_M_fails [vr ta2, vi tx1, vi tx0] σ (cI (fun r1 σ1 => (r1 = 0 → sK σ1 a0 = 10 ∧ (sK σ1 a0 = 10 ∧ ((sK σ1 (sR σ1 350 a0) = 101 ∧ iIn (sI σ1 352 a0) (sN σ1 (sR σ1 350 a0))) ∧ (∀ σ3, σ3 = wA σ1 (sR σ1 350 a0) (sI σ1 352 a0).toNatClampNeg x1 → sK σ3 a0 = 10 ∧ (sK σ3 a0 = 10 ∧ ((sK σ3 (sR σ3 351 a0) = 101 ∧ iIn (sI σ3 352 a0) (sN σ3 (sR σ3 351 a0))) ∧ (∀ σ4, σ4 = wA σ3 (sR σ3 351 a0) (sI σ3 352 a0).toNatClampNeg (1 : Int32) → sK σ4 a0 = 10 ∧ (sK σ4 a0 = 10 ∧ (∀ σ5, σ5 = wI σ4 352 a0 ((sI σ4 352 a0) + (1 : Int32)) → sK σ5 a0 = 10 ∧ (Q (.inl (some (vi ((sI σ5 352 a0) - (1 : Int32))))) σ5)))))))))) ∧ (¬ (r1 = 0) → Q (.inl (some (vi (0 : Int32)))) σ1)) Q)) : wp J_M_table 37 [vr a0, vi x1, vi x2] [vi tx0, vi tx1, vr ta2] σ Q :=
  w_cI rfl rfl rfl ⟨⟨Nat.le_of_ble_eq_true rfl, Nat.le_of_ble_eq_true rfl⟩, h.1⟩ rfl (fun _ => rfl) h.2 (fun r1 σ1 k1 => w_br rfl rfl rfl rfl (fun c2 => w_go rfl rfl (w_gd rfl rfl rfl (k1.1 c2).1 (w_go rfl rfl (w_gd rfl rfl rfl (k1.1 c2).2.1 (w_go rfl rfl (w_gd rfl rfl rfl (k1.1 c2).2.2.1 (w_go rfl rfl (w_gd rfl rfl rfl ((k1.1 c2).2.2.2 _ rfl).1 (w_go rfl rfl (w_gd rfl rfl rfl ((k1.1 c2).2.2.2 _ rfl).2.1 (w_ic rfl kc_1 (w_gd rfl rfl rfl ((k1.1 c2).2.2.2 _ rfl).2.2.1 (w_go rfl rfl (w_go rfl rfl (w_gd rfl rfl rfl (((k1.1 c2).2.2.2 _ rfl).2.2.2 _ rfl).1 (w_ic rfl kc_1 (w_go rfl rfl (w_gd rfl rfl rfl (((k1.1 c2).2.2.2 _ rfl).2.2.2 _ rfl).2.1 (w_go rfl rfl (w_gd rfl rfl rfl ((((k1.1 c2).2.2.2 _ rfl).2.2.2 _ rfl).2.2 _ rfl).1 (w_ic rfl kc_1 (w_go rfl rfl (w_retG rfl rfl rfl (fun q => Bool.noConfusion q) ((((k1.1 c2).2.2.2 _ rfl).2.2.2 _ rfl).2.2 _ rfl).2))))))))))))))))))))))) (fun c2 => w_ic rfl kc_0 (w_retG rfl rfl rfl (fun q => Bool.noConfusion q) (k1.2 c2))))

theorem b_M_isTable_0 {a0 : Nat} {x1 : Int32} {σ : iS} {Q : iO → iS → Prop} (h : (x1 < 0 → wp J_M_isTable 16 [vr a0, vi x1] [] σ Q) ∧ (¬ (x1 < 0) → sK σ a0 = 10 ∧ (((sI σ 352 a0) ≤ x1 → wp J_M_isTable 16 [vr a0, vi x1] [] σ Q) ∧ (¬ ((sI σ 352 a0) ≤ x1) → wp J_M_isTable 17 [vr a0, vi x1] [vi (1 : Int32)] σ Q)))) : ca J_M_isTable [vr a0, vi x1] σ Q :=
  w_go rfl rfl (w_br rfl rfl rfl rfl (fun c1 => (h.1 c1)) (fun c1 => w_go rfl rfl (w_go rfl rfl (w_gd rfl rfl rfl (h.2 c1).1 (w_br rfl rfl rfl rfl (fun c2 => ((h.2 c1).2.1 c2)) (fun c2 => w_ic rfl kc_1 (w_go rfl rfl (((h.2 c1).2.2 c2)))))))))

theorem b_M_isTable_16 {a0 : Nat} {x1 : Int32} {σ : iS} {Q : iO → iS → Prop} (h : wp J_M_isTable 17 [vr a0, vi x1] [vi (0 : Int32)] σ Q) : wp J_M_isTable 16 [vr a0, vi x1] [] σ Q :=
  w_ic rfl kc_0 (h)

theorem b_M_isTable_17 {a0 : Nat} {x1 : Int32} {tx0 : Int32} {σ : iS} {Q : iO → iS → Prop} (h : iBool tx0 ∧ Q (.inl (some (vi tx0))) σ) : wp J_M_isTable 17 [vr a0, vi x1] [vi tx0] σ Q :=
  w_retG rfl rfl rfl (fun _ => h.1) h.2

theorem b_M_isRow_0 {a0 : Nat} {x1 : Int32} {x2 : Int32} {σ : iS} {Q : iO → iS → Prop} (h : sK σ a0 = 10 ∧ ca J_M_isTable [vr a0, vi x1] σ (cI (fun r1 σ1 => (r1 = 0 → wp J_M_isRow 27 [vr a0, vi x1, vi x2] [] σ1 Q) ∧ (¬ (r1 = 0) → (x2 < (1 : Int32) → wp J_M_isRow 27 [vr a0, vi x1, vi x2] [] σ1 Q) ∧ (¬ (x2 < (1 : Int32)) → sK σ1 a0 = 10 ∧ ((sK σ1 (sR σ1 350 a0) = 101 ∧ iIn x1 (sN σ1 (sR σ1 350 a0))) ∧ (((sA σ1 (sR σ1 350 a0) x1.toNatClampNeg) < x2 → wp J_M_isRow 27 [vr a0, vi x1, vi x2] [] σ1 Q) ∧ (¬ ((sA σ1 (sR σ1 350 a0) x1.toNatClampNeg) < x2) → wp J_M_isRow 28 [vr a0, vi x1, vi x2] [vi (1 : Int32)] σ1 Q)))))) Q)) : ca J_M_isRow [vr a0, vi x1, vi x2] σ Q :=
  w_go rfl rfl (w_go rfl rfl (w_cI rfl rfl rfl ⟨⟨Nat.le_of_ble_eq_true rfl, Nat.le_of_ble_eq_true rfl⟩, h.1⟩ rfl (fun _ => rfl) h.2 (fun r1 σ1 k1 => w_br rfl rfl rfl rfl (fun c2 => (k1.1 c2)) (fun c2 => w_go rfl rfl (w_ic rfl kc_1 (w_br rfl rfl rfl rfl (fun c3 => ((k1.2 c2).1 c3)) (fun c3 => w_go rfl rfl (w_go rfl rfl (w_gd rfl rfl rfl ((k1.2 c2).2 c3).1 (w_go rfl rfl (w_gd rfl rfl rfl ⟨Or.inr ((k1.2 c2).2 c3).2.1.1, ((k1.2 c2).2 c3).2.1.2⟩ (w_br rfl rfl rfl rfl (fun c4 => (((k1.2 c2).2 c3).2.2.1 c4)) (fun c4 => w_ic rfl kc_1 (w_go rfl rfl ((((k1.2 c2).2 c3).2.2.2 c4))))))))))))))))

theorem b_M_isRow_27 {a0 : Nat} {x1 : Int32} {x2 : Int32} {σ : iS} {Q : iO → iS → Prop} (h : wp J_M_isRow 28 [vr a0, vi x1, vi x2] [vi (0 : Int32)] σ Q) : wp J_M_isRow 27 [vr a0, vi x1, vi x2] [] σ Q :=
  w_ic rfl kc_0 (h)

theorem b_M_isRow_28 {a0 : Nat} {x1 : Int32} {x2 : Int32} {tx0 : Int32} {σ : iS} {Q : iO → iS → Prop} (h : iBool tx0 ∧ Q (.inl (some (vi tx0))) σ) : wp J_M_isRow 28 [vr a0, vi x1, vi x2] [vi tx0] σ Q :=
  w_retG rfl rfl rfl (fun _ => h.1) h.2

theorem b_M_row_0 {a0 : Nat} {x1 : Int32} {x2 : Int32} {x3 : Int32} {σ : iS} {Q : iO → iS → Prop} (h : sK σ a0 = 10 ∧ ca J_M_isRow [vr a0, vi x1, vi x2] σ (cI (fun r1 σ1 => (r1 ≠ 0 → wp J_M_row 15 [vr a0, vi x1, vi x2, vi x3, vl 0] [vi (0 : Int32), vr a0] σ1 Q) ∧ (¬ (r1 ≠ 0) → wp J_M_row 15 [vr a0, vi x1, vi x2, vi x3, vl 0] [vi (1 : Int32), vr a0] σ1 Q)) Q)) : ca J_M_row [vr a0, vi x1, vi x2, vi x3] σ Q :=
  w_go rfl rfl (w_go rfl rfl (w_go rfl rfl (w_go rfl rfl (w_cI rfl rfl rfl ⟨⟨Nat.le_of_ble_eq_true rfl, Nat.le_of_ble_eq_true rfl⟩, h.1⟩ rfl (fun _ => rfl) h.2 (fun r1 σ1 k1 => w_br rfl rfl rfl rfl (fun c2 => w_ic rfl kc_0 ((k1.1 c2))) (fun c2 => w_ic rfl kc_1 (w_go rfl rfl ((k1.2 c2)))))))))

theorem b_M_row_15 {a0 : Nat} {x1 : Int32} {x2 : Int32} {x3 : Int32} {l4 : iV} {tx0 : Int32} {ta1 : Nat} {σ : iS} {Q : iO → iS → Prop} (h : sK σ ta1 = 10 ∧ ca J_M_fails [vr ta1, vi tx0, vi (0 : Int32)] σ (cI (fun r1 σ1 => (r1 = 0 → sK σ1 a0 = 10 ∧ ((sK σ1 (sR σ1 349 a0) = 101 ∧ iIn ((((60 : Int32) * x1) + x2) - (1 : Int32)) (sN σ1 (sR σ1 349 a0))) ∧ (sK σ1 a0 = 10 ∧ ((sK σ1 (sR σ1 349 a0) = 101 ∧ iIn ((((60 : Int32) * x1) + x2) - (1 : Int32)) (sN σ1 (sR σ1 349 a0))) ∧ (∀ σ3, σ3 = wA σ1 (sR σ1 349 a0) ((((60 : Int32) * x1) + x2) - (1 : Int32)).toNatClampNeg x3 → Q (.inl (some (vi (sA σ1 (sR σ1 349 a0) ((((60 : Int32) * x1) + x2) - (1 : Int32)).toNatClampNeg)))) σ3))))) ∧ (¬ (r1 = 0) → Q (.inl (some (vi (0 : Int32)))) σ1)) Q)) : wp J_M_row 15 [vr a0, vi x1, vi x2, vi x3, l4] [vi tx0, vr ta1] σ Q :=
  w_ic rfl kc_0 (w_cI rfl rfl rfl ⟨⟨Nat.le_of_ble_eq_true rfl, Nat.le_of_ble_eq_true rfl⟩, h.1⟩ rfl (fun _ => rfl) h.2 (fun r1 σ1 k1 => w_br rfl rfl rfl rfl (fun c2 => w_go rfl rfl (w_gd rfl rfl rfl (k1.1 c2).1 (w_bp rfl kb_60 (w_go rfl rfl (w_go rfl rfl (w_go rfl rfl (w_go rfl rfl (w_ic rfl kc_1 (w_go rfl rfl (w_gd rfl rfl rfl ⟨Or.inr (k1.1 c2).2.1.1, (k1.1 c2).2.1.2⟩ (w_gd rfl rfl rfl (Nat.le_of_ble_eq_true rfl) (w_go rfl rfl (w_gd rfl rfl rfl (k1.1 c2).2.2.1 (w_bp rfl kb_60 (w_go rfl rfl (w_go rfl rfl (w_go rfl rfl (w_go rfl rfl (w_ic rfl kc_1 (w_go rfl rfl (w_go rfl rfl (w_gd rfl rfl rfl (k1.1 c2).2.2.2.1 (w_go rfl rfl (w_retG rfl rfl rfl (fun q => Bool.noConfusion q) ((k1.1 c2).2.2.2.2 _ rfl))))))))))))))))))))))))) (fun c2 => w_ic rfl kc_0 (w_retG rfl rfl rfl (fun q => Bool.noConfusion q) (k1.2 c2)))))

theorem b_M_index_0 {a0 : Nat} {x1 : Int32} {x2 : Int32} {σ : iS} {Q : iO → iS → Prop} (h : sK σ a0 = 10 ∧ ca J_M_isRow [vr a0, vi x1, vi x2] σ (cI (fun r1 σ1 => (r1 ≠ 0 → wp J_M_index 15 [vr a0, vi x1, vi x2, vl 0] [vi (0 : Int32), vr a0] σ1 Q) ∧ (¬ (r1 ≠ 0) → wp J_M_index 15 [vr a0, vi x1, vi x2, vl 0] [vi (1 : Int32), vr a0] σ1 Q)) Q)) : ca J_M_index [vr a0, vi x1, vi x2] σ Q :=
  w_go rfl rfl (w_go rfl rfl (w_go rfl rfl (w_go rfl rfl (w_cI rfl rfl rfl ⟨⟨Nat.le_of_ble_eq_true rfl, Nat.le_of_ble_eq_true rfl⟩, h.1⟩ rfl (fun _ => rfl) h.2 (fun r1 σ1 k1 => w_br rfl rfl rfl rfl (fun c2 => w_ic rfl kc_0 ((k1.1 c2))) (fun c2 => w_ic rfl kc_1 (w_go rfl rfl ((k1.2 c2)))))))))

theorem b_M_index_15 {a0 : Nat} {x1 : Int32} {x2 : Int32} {l3 : iV} {tx0 : Int32} {ta1 : Nat} {σ : iS} {Q : iO → iS → Prop} (h : sK σ ta1 = 10 ∧ ca J_M_fails [vr ta1, vi tx0, vi (0 : Int32)] σ (cI (fun r1 σ1 => (r1 = 0 → sK σ1 a0 = 10 ∧ ((sK σ1 (sR σ1 351 a0) = 101 ∧ iIn x1 (sN σ1 (sR σ1 351 a0))) ∧ (sK σ1 a0 = 10 ∧ ((sK σ1 (sR σ1 351 a0) = 101 ∧ iIn x1 (sN σ1 (sR σ1 351 a0))) ∧ (∀ σ3, σ3 = wA σ1 (sR σ1 351 a0) x1.toNatClampNeg x2 → Q (.inl (some (vi (sA σ1 (sR σ1 351 a0) x1.toNatClampNeg)))) σ3))))) ∧ (¬ (r1 = 0) → Q (.inl (some (vi (0 : Int32)))) σ1)) Q)) : wp J_M_index 15 [vr a0, vi x1, vi x2, l3] [vi tx0, vr ta1] σ Q :=
  w_ic rfl kc_0 (w_cI rfl rfl rfl ⟨⟨Nat.le_of_ble_eq_true rfl, Nat.le_of_ble_eq_true rfl⟩, h.1⟩ rfl (fun _ => rfl) h.2 (fun r1 σ1 k1 => w_br rfl rfl rfl rfl (fun c2 => w_go rfl rfl (w_gd rfl rfl rfl (k1.1 c2).1 (w_go rfl rfl (w_gd rfl rfl rfl ⟨Or.inr (k1.1 c2).2.1.1, (k1.1 c2).2.1.2⟩ (w_gd rfl rfl rfl (Nat.le_of_ble_eq_true rfl) (w_go rfl rfl (w_gd rfl rfl rfl (k1.1 c2).2.2.1 (w_go rfl rfl (w_go rfl rfl (w_gd rfl rfl rfl (k1.1 c2).2.2.2.1 (w_go rfl rfl (w_retG rfl rfl rfl (fun q => Bool.noConfusion q) ((k1.1 c2).2.2.2.2 _ rfl))))))))))))) (fun c2 => w_ic rfl kc_0 (w_retG rfl rfl rfl (fun q => Bool.noConfusion q) (k1.2 c2)))))

theorem b_M_search_0 {a0 : Nat} {x1 : Int32} {x2 : Int32} {x3 : Int32} {σ : iS} {Q : iO → iS → Prop} (h : sK σ a0 = 10 ∧ ca J_M_isTable [vr a0, vi x1] σ (cI (fun r1 σ1 => (r1 ≠ 0 → wp J_M_search 14 [vr a0, vi x1, vi x2, vi x3, vl 0, vl 0, vl 0, vl 0, vl 0] [vi (0 : Int32), vr a0] σ1 Q) ∧ (¬ (r1 ≠ 0) → wp J_M_search 14 [vr a0, vi x1, vi x2, vi x3, vl 0, vl 0, vl 0, vl 0, vl 0] [vi (1 : Int32), vr a0] σ1 Q)) Q)) : ca J_M_search [vr a0, vi x1, vi x2, vi x3] σ Q :=
  w_go rfl rfl (w_go rfl rfl (w_go rfl rfl (w_cI rfl rfl rfl ⟨⟨Nat.le_of_ble_eq_true rfl, Nat.le_of_ble_eq_true rfl⟩, h.1⟩ rfl (fun _ => rfl) h.2 (fun r1 σ1 k1 => w_br rfl rfl rfl rfl (fun c2 => w_ic rfl kc_0 ((k1.1 c2))) (fun c2 => w_ic rfl kc_1 (w_go rfl rfl ((k1.2 c2))))))))

theorem b_M_search_14 {a0 : Nat} {x1 : Int32} {x2 : Int32} {x3 : Int32} {l4 : iV} {l5 : iV} {l6 : iV} {l7 : iV} {l8 : iV} {tx0 : Int32} {ta1 : Nat} {σ : iS} {Q : iO → iS → Prop} (h : sK σ ta1 = 10 ∧ ca J_M_fails [vr ta1, vi tx0, vi (0 : Int32)] σ (cI (fun r1 σ1 => (r1 = 0 → sK σ1 a0 = 10 ∧ ((sK σ1 (sR σ1 350 a0) = 101 ∧ iIn x1 (sN σ1 (sR σ1 350 a0))) ∧ (wp J_M_search 37 [vr a0, vi x1, vi x2, vi x3, vi (0 : Int32), vi (1 : Int32), vi (sA σ1 (sR σ1 350 a0) x1.toNatClampNeg), l7, l8] [] σ1 Q))) ∧ (¬ (r1 = 0) → Q (.inl (some (vi (0 : Int32)))) σ1)) Q)) : wp J_M_search 14 [vr a0, vi x1, vi x2, vi x3, l4, l5, l6, l7, l8] [vi tx0, vr ta1] σ Q :=
  w_ic rfl kc_0 (w_cI rfl rfl rfl ⟨⟨Nat.le_of_ble_eq_true rfl, Nat.le_of_ble_eq_true rfl⟩, h.1⟩ rfl (fun _ => rfl) h.2 (fun r1 σ1 k1 => w_br rfl rfl rfl rfl (fun c2 => w_ic rfl kc_0 (w_gd rfl rfl rfl (Nat.le_of_ble_eq_true rfl) (w_ic rfl kc_1 (w_gd rfl rfl rfl (Nat.le_of_ble_eq_true rfl) (w_go rfl rfl (w_gd rfl rfl rfl (k1.1 c2).1 (w_go rfl rfl (w_gd rfl rfl rfl ⟨Or.inr (k1.1 c2).2.1.1, (k1.1 c2).2.1.2⟩ (w_gd rfl rfl rfl (Nat.le_of_ble_eq_true rfl) ((k1.1 c2).2.2)))))))))) (fun c2 => w_ic rfl kc_0 (w_retG rfl rfl rfl (fun q => Bool.noConfusion q) (k1.2 c2)))))

theorem b_M_search_37 {a0 : Nat} {x1 : Int32} {x2 : Int32} {x3 : Int32} {x4 : Int32} {x5 : Int32} {x6 : Int32} {l7 : iV} {l8 : iV} {σ : iS} {Q : iO → iS → Prop} (h : (x2 = 0 → wp J_M_search 116 [vr a0, vi x1, vi x2, vi x3, vi x4, vi x5, vi x6, l7, l8] [] σ Q) ∧ (¬ (x2 = 0) → (x4 ≠ 0 → wp J_M_search 116 [vr a0, vi x1, vi x2, vi x3, vi x4, vi x5, vi x6, l7, l8] [] σ Q) ∧ (¬ (x4 ≠ 0) → (x6 < x5 → wp J_M_search 116 [vr a0, vi x1, vi x2, vi x3, vi x4, vi x5, vi x6, l7, l8] [] σ Q) ∧ (¬ (x6 < x5) → (2 : Int32) ≠ 0 ∧ (sK σ a0 = 10 ∧ ((sK σ (sR σ 349 a0) = 101 ∧ iIn ((((60 : Int32) * x1) + ((x5 + x6) / (2 : Int32))) - (1 : Int32)) (sN σ (sR σ 349 a0))) ∧ (((sA σ (sR σ 349 a0) ((((60 : Int32) * x1) + ((x5 + x6) / (2 : Int32))) - (1 : Int32)).toNatClampNeg) ≠ x3 → wp J_M_search 90 [vr a0, vi x1, vi x2, vi x3, vi x4, vi x5, vi x6, vi ((x5 + x6) / (2 : Int32)), vi (sA σ (sR σ 349 a0) ((((60 : Int32) * x1) + ((x5 + x6) / (2 : Int32))) - (1 : Int32)).toNatClampNeg)] [vi (0 : Int32)] σ Q) ∧ (¬ ((sA σ (sR σ 349 a0) ((((60 : Int32) * x1) + ((x5 + x6) / (2 : Int32))) - (1 : Int32)).toNatClampNeg) ≠ x3) → wp J_M_search 90 [vr a0, vi x1, vi x2, vi x3, vi x4, vi x5, vi x6, vi ((x5 + x6) / (2 : Int32)), vi (sA σ (sR σ 349 a0) ((((60 : Int32) * x1) + ((x5 + x6) / (2 : Int32))) - (1 : Int32)).toNatClampNeg)] [vi ((x5 + x6) / (2 : Int32))] σ Q)))))))) : wp J_M_search 37 [vr a0, vi x1, vi x2, vi x3, vi x4, vi x5, vi x6, l7, l8] [] σ Q :=
  w_go rfl rfl (w_br rfl rfl rfl rfl (fun c1 => (h.1 c1)) (fun c1 => w_go rfl rfl (w_br rfl rfl rfl rfl (fun c2 => ((h.2 c1).1 c2)) (fun c2 => w_go rfl rfl (w_go rfl rfl (w_br rfl rfl rfl rfl (fun c3 => (((h.2 c1).2 c2).1 c3)) (fun c3 => w_go rfl rfl (w_go rfl rfl (w_go rfl rfl (w_ic rfl kc_2 (w_gd rfl rfl rfl (((h.2 c1).2 c2).2 c3).1 (w_gd rfl rfl rfl (Nat.le_of_ble_eq_true rfl) (w_go rfl rfl (w_gd rfl rfl rfl (((h.2 c1).2 c2).2 c3).2.1 (w_bp rfl kb_60 (w_go rfl rfl (w_go rfl rfl (w_go rfl rfl (w_go rfl rfl (w_ic rfl kc_1 (w_go rfl rfl (w_gd rfl rfl rfl ⟨Or.inr (((h.2 c1).2 c2).2 c3).2.2.1.1, (((h.2 c1).2 c2).2 c3).2.2.1.2⟩ (w_gd rfl rfl rfl (Nat.le_of_ble_eq_true rfl) (w_go rfl rfl (w_go rfl rfl (w_br rfl rfl rfl rfl (fun c4 => w_ic rfl kc_0 (((((h.2 c1).2 c2).2 c3).2.2.2.1 c4))) (fun c4 => w_go rfl rfl (w_go rfl rfl (((((h.2 c1).2 c2).2 c3).2.2.2.2 c4))))))))))))))))))))))))))))))

theorem b_M_search_90 {a0 : Nat} {x1 : Int32} {x2 : Int32} {x3 : Int32} {x4 : Int32} {x5 : Int32} {x6 : Int32} {x7 : Int32} {x8 : Int32} {tx0 : Int32} {σ : iS} {Q : iO → iS → Prop} (h : (x8 ≤ x3 → wp J_M_search 113 [vr a0, vi x1, vi x2, vi x3, vi tx0, vi (x7 + (1 : Int32)), vi x6, vi x7, vi x8] [] σ Q) ∧ (¬ (x8 ≤ x3) → wp J_M_search 113 [vr a0, vi x1, vi x2, vi x3, vi tx0, vi x5, vi (x7 - (1 : Int32)), vi x7, vi x8] [] σ Q)) : wp J_M_search 90 [vr a0, vi x1, vi x2, vi x3, vi x4, vi x5, vi x6, vi x7, vi x8] [vi tx0] σ Q :=
  w_gd rfl rfl rfl (Nat.le_of_ble_eq_true rfl) (w_go rfl rfl (w_go rfl rfl (w_br rfl rfl rfl rfl (fun c1 => w_go rfl rfl (w_ic rfl kc_1 (w_go rfl rfl (w_gd rfl rfl rfl (Nat.le_of_ble_eq_true rfl) ((h.1 c1)))))) (fun c1 => w_go rfl rfl (w_ic rfl kc_1 (w_go rfl rfl (w_gd rfl rfl rfl (Nat.le_of_ble_eq_true rfl) (w_go rfl rfl ((h.2 c1))))))))))

theorem b_M_search_113 {a0 : Nat} {x1 : Int32} {x2 : Int32} {x3 : Int32} {x4 : Int32} {x5 : Int32} {x6 : Int32} {x7 : Int32} {x8 : Int32} {σ : iS} {Q : iO → iS → Prop} (h : wp J_M_search 37 [vr a0, vi x1, vi x2, vi x3, vi x4, vi x5, vi x6, vi x7, vi x8] [] σ Q) : wp J_M_search 113 [vr a0, vi x1, vi x2, vi x3, vi x4, vi x5, vi x6, vi x7, vi x8] [] σ Q :=
  w_go rfl rfl (h)

theorem b_M_search_116 {a0 : Nat} {x1 : Int32} {x2 : Int32} {x3 : Int32} {x4 : Int32} {x5 : Int32} {x6 : Int32} {l7 : iV} {l8 : iV} {σ : iS} {Q : iO → iS → Prop} (h : sK σ a0 = 10 ∧ ((sK σ (sR σ 350 a0) = 101 ∧ iIn x1 (sN σ (sR σ 350 a0))) ∧ (wp J_M_search 124 [vr a0, vi x1, vi x2, vi x3, vi x4, vi x5, vi x6, vi (sA σ (sR σ 350 a0) x1.toNatClampNeg), l8] [] σ Q))) : wp J_M_search 116 [vr a0, vi x1, vi x2, vi x3, vi x4, vi x5, vi x6, l7, l8] [] σ Q :=
  w_go rfl rfl (w_gd rfl rfl rfl h.1 (w_go rfl rfl (w_gd rfl rfl rfl ⟨Or.inr h.2.1.1, h.2.1.2⟩ (w_gd rfl rfl rfl (Nat.le_of_ble_eq_true rfl) (h.2.2)))))

theorem b_M_search_124 {a0 : Nat} {x1 : Int32} {x2 : Int32} {x3 : Int32} {x4 : Int32} {x5 : Int32} {x6 : Int32} {x7 : Int32} {l8 : iV} {σ : iS} {Q : iO → iS → Prop} (h : sK σ a0 = 10 ∧ ((sK σ (sR σ 351 a0) = 101 ∧ iIn x1 (sN σ (sR σ 351 a0))) ∧ ((x7 < (sA σ (sR σ 351 a0) x1.toNatClampNeg) → wp J_M_search 172 [vr a0, vi x1, vi x2, vi x3, vi x4, vi x5, vi x6, vi x7, l8] [] σ Q) ∧ (¬ (x7 < (sA σ (sR σ 351 a0) x1.toNatClampNeg)) → (x2 ≠ 0 → wp J_M_search 172 [vr a0, vi x1, vi x2, vi x3, vi x4, vi x5, vi x6, vi x7, l8] [] σ Q) ∧ (¬ (x2 ≠ 0) → sK σ a0 = 10 ∧ ((sK σ (sR σ 349 a0) = 101 ∧ iIn ((((60 : Int32) * x1) + x7) - (1 : Int32)) (sN σ (sR σ 349 a0))) ∧ (((sA σ (sR σ 349 a0) ((((60 : Int32) * x1) + x7) - (1 : Int32)).toNatClampNeg) ≠ x3 → wp J_M_search 164 [vr a0, vi x1, vi x2, vi x3, vi x4, vi x5, vi x6, vi x7, l8] [vi x4] σ Q) ∧ (¬ ((sA σ (sR σ 349 a0) ((((60 : Int32) * x1) + x7) - (1 : Int32)).toNatClampNeg) ≠ x3) → wp J_M_search 164 [vr a0, vi x1, vi x2, vi x3, vi x4, vi x5, vi x6, vi x7, l8] [vi x7] σ Q)))))))) : wp J_M_search 124 [vr a0, vi x1, vi x2, vi x3, vi x4, vi x5, vi x6, vi x7, l8] [] σ Q :=
  w_go rfl rfl (w_go rfl rfl (w_gd rfl rfl rfl h.1 (w_go rfl rfl (w_gd rfl rfl rfl ⟨Or.inr h.2.1.1, h.2.1.2⟩ (w_br rfl rfl rfl rfl (fun c1 => (h.2.2.1 c1)) (fun c1 => w_go rfl rfl (w_br rfl rfl rfl rfl (fun c2 => ((h.2.2.2 c1).1 c2)) (fun c2 => w_go rfl rfl (w_gd rfl rfl rfl ((h.2.2.2 c1).2 c2).1 (w_bp rfl kb_60 (w_go rfl rfl (w_go rfl rfl (w_go rfl rfl (w_go rfl rfl (w_ic rfl kc_1 (w_go rfl rfl (w_gd rfl rfl rfl ⟨Or.inr ((h.2.2.2 c1).2 c2).2.1.1, ((h.2.2.2 c1).2 c2).2.1.2⟩ (w_go rfl rfl (w_br rfl rfl rfl rfl (fun c3 => w_go rfl rfl ((((h.2.2.2 c1).2 c2).2.2.1 c3))) (fun c3 => w_go rfl rfl (w_go rfl rfl ((((h.2.2.2 c1).2 c2).2.2.2 c3)))))))))))))))))))))))

theorem b_M_search_164 {a0 : Nat} {x1 : Int32} {x2 : Int32} {x3 : Int32} {x4 : Int32} {x5 : Int32} {x6 : Int32} {x7 : Int32} {l8 : iV} {tx0 : Int32} {σ : iS} {Q : iO → iS → Prop} (h : wp J_M_search 124 [vr a0, vi x1, vi x2, vi x3, vi tx0, vi x5, vi x6, vi (x7 + (-1 : Int32)), l8] [] σ Q) : wp J_M_search 164 [vr a0, vi x1, vi x2, vi x3, vi x4, vi x5, vi x6, vi x7, l8] [vi tx0] σ Q :=
  w_gd rfl rfl rfl (Nat.le_of_ble_eq_true rfl) (w_inc rfl rfl kc_m1 (w_go rfl rfl (h)))

theorem b_M_search_172 {a0 : Nat} {x1 : Int32} {x2 : Int32} {x3 : Int32} {x4 : Int32} {x5 : Int32} {x6 : Int32} {x7 : Int32} {l8 : iV} {σ : iS} {Q : iO → iS → Prop} (h : (x4 ≤ 0 → wp J_M_search 185 [vr a0, vi x1, vi x2, vi x3, vi x4, vi x5, vi x6, vi x7, l8] [] σ Q) ∧ (¬ (x4 ≤ 0) → sK σ a0 = 10 ∧ ((sK σ (sR σ 351 a0) = 101 ∧ iIn x1 (sN σ (sR σ 351 a0))) ∧ (∀ σ2, σ2 = wA σ (sR σ 351 a0) x1.toNatClampNeg x4 → wp J_M_search 185 [vr a0, vi x1, vi x2, vi x3, vi x4, vi x5, vi x6, vi x7, l8] [] σ2 Q)))) : wp J_M_search 172 [vr a0, vi x1, vi x2, vi x3, vi x4, vi x5, vi x6, vi x7, l8] [] σ Q :=
  w_go rfl rfl (w_br rfl rfl rfl rfl (fun c1 => (h.1 c1)) (fun c1 => w_go rfl rfl (w_gd rfl rfl rfl (h.2 c1).1 (w_go rfl rfl (w_go rfl rfl (w_gd rfl rfl rfl (h.2 c1).2.1 (((h.2 c1).2.2 _ rfl))))))))

theorem b_M_search_185 {a0 : Nat} {x1 : Int32} {x2 : Int32} {x3 : Int32} {x4 : Int32} {x5 : Int32} {x6 : Int32} {x7 : Int32} {l8 : iV} {σ : iS} {Q : iO → iS → Prop} (h : Q (.inl (some (vi x4))) σ) : wp J_M_search 185 [vr a0, vi x1, vi x2, vi x3, vi x4, vi x5, vi x6, vi x7, l8] [] σ Q :=
  w_go rfl rfl (w_retG rfl rfl rfl (fun q => Bool.noConfusion q) h)

theorem b_M_sort_0 {a0 : Nat} {x1 : Int32} {x2 : Int32} {σ : iS} {Q : iO → iS → Prop} (h : sK σ a0 = 10 ∧ ca J_M_isTable [vr a0, vi x1] σ (cI (fun r1 σ1 => (r1 ≠ 0 → wp J_M_sort 14 [vr a0, vi x1, vi x2, vl 0, vl 0, vl 0, vl 0, vl 0] [vi (0 : Int32), vr a0] σ1 Q) ∧ (¬ (r1 ≠ 0) → wp J_M_sort 14 [vr a0, vi x1, vi x2, vl 0, vl 0, vl 0, vl 0, vl 0] [vi (1 : Int32), vr a0] σ1 Q)) Q)) : ca J_M_sort [vr a0, vi x1, vi x2] σ Q :=
  w_go rfl rfl (w_go rfl rfl (w_go rfl rfl (w_cI rfl rfl rfl ⟨⟨Nat.le_of_ble_eq_true rfl, Nat.le_of_ble_eq_true rfl⟩, h.1⟩ rfl (fun _ => rfl) h.2 (fun r1 σ1 k1 => w_br rfl rfl rfl rfl (fun c2 => w_ic rfl kc_0 ((k1.1 c2))) (fun c2 => w_ic rfl kc_1 (w_go rfl rfl ((k1.2 c2))))))))

theorem b_M_sort_14 {a0 : Nat} {x1 : Int32} {x2 : Int32} {l3 : iV} {l4 : iV} {l5 : iV} {l6 : iV} {l7 : iV} {tx0 : Int32} {ta1 : Nat} {σ : iS} {Q : iO → iS → Prop} (h : sK σ ta1 = 10 ∧ ca J_M_fails [vr ta1, vi tx0, vi (0 : Int32)] σ (cI (fun r1 σ1 => (r1 = 0 → wp J_M_sort 24 [vr a0, vi x1, vi x2, vi (1 : Int32), l4, l5, l6, l7] [] σ1 Q) ∧ (¬ (r1 = 0) → Q (.inl none) σ1)) Q)) : wp J_M_sort 14 [vr a0, vi x1, vi x2, l3, l4, l5, l6, l7] [vi tx0, vr ta1] σ Q :=
  w_ic rfl kc_0 (w_cI rfl rfl rfl ⟨⟨Nat.le_of_ble_eq_true rfl, Nat.le_of_ble_eq_true rfl⟩, h.1⟩ rfl (fun _ => rfl) h.2 (fun r1 σ1 k1 => w_br rfl rfl rfl rfl (fun c2 => w_ic rfl kc_1 (w_gd rfl rfl rfl (Nat.le_of_ble_eq_true rfl) ((k1.1 c2)))) (fun c2 => w_ret rfl rfl (k1.2 c2))))

theorem b_M_sort_24 {a0 : Nat} {x1 : Int32} {x2 : Int32} {x3 : Int32} {l4 : iV} {l5 : iV} {l6 : iV} {l7 : iV} {σ : iS} {Q : iO → iS → Prop} (h : sK σ a0 = 10 ∧ ((sK σ (sR σ 350 a0) = 101 ∧ iIn x1 (sN σ (sR σ 350 a0))) ∧ (((sA σ (sR σ 350 a0) x1.toNatClampNeg) ≤ x3 → Q (.inl none) σ) ∧ (¬ ((sA σ (sR σ 350 a0) x1.toNatClampNeg) ≤ x3) → wp J_M_sort 40 [vr a0, vi x1, vi x2, vi x3, vi ((60 : Int32) * x1), l5, l6, l7] [] σ Q)))) : wp J_M_sort 24 [vr a0, vi x1, vi x2, vi x3, l4, l5, l6, l7] [] σ Q :=
  w_go rfl rfl (w_go rfl rfl (w_gd rfl rfl rfl h.1 (w_go rfl rfl (w_gd rfl rfl rfl ⟨Or.inr h.2.1.1, h.2.1.2⟩ (w_br rfl rfl rfl rfl (fun c1 => w_ret rfl rfl (h.2.2.1 c1)) (fun c1 => w_bp rfl kb_60 (w_go rfl rfl (w_go rfl rfl (w_gd rfl rfl rfl (Nat.le_of_ble_eq_true rfl) ((h.2.2.2 c1)))))))))))

theorem b_M_sort_40 {a0 : Nat} {x1 : Int32} {x2 : Int32} {x3 : Int32} {x4 : Int32} {l5 : iV} {l6 : iV} {l7 : iV} {σ : iS} {Q : iO → iS → Prop} (h : sK σ a0 = 10 ∧ ((sK σ (sR σ 350 a0) = 101 ∧ iIn x1 (sN σ (sR σ 350 a0))) ∧ ((((((60 : Int32) * x1) + (sA σ (sR σ 350 a0) x1.toNatClampNeg)) - x3) ≤ x4 → wp J_M_sort 24 [vr a0, vi x1, vi x2, vi (x3 + (1 : Int32)), vi x4, l5, l6, l7] [] σ Q) ∧ (¬ (((((60 : Int32) * x1) + (sA σ (sR σ 350 a0) x1.toNatClampNeg)) - x3) ≤ x4) → sK σ a0 = 10 ∧ ((sK σ (sR σ 349 a0) = 101 ∧ iIn x4 (sN σ (sR σ 349 a0))) ∧ (sK σ a0 = 10 ∧ ((sK σ (sR σ 349 a0) = 101 ∧ iIn (x4 + (1 : Int32)) (sN σ (sR σ 349 a0))) ∧ ((x2 = 0 → ((sA σ (sR σ 349 a0) x4.toNatClampNeg) ≤ (sA σ (sR σ 349 a0) (x4 + (1 : Int32)).toNatClampNeg) → wp J_M_sort 109 [vr a0, vi x1, vi x2, vi x3, vi x4, vi (sA σ (sR σ 349 a0) x4.toNatClampNeg), vi (sA σ (sR σ 349 a0) (x4 + (1 : Int32)).toNatClampNeg), l7] [vi (0 : Int32)] σ Q) ∧ (¬ ((sA σ (sR σ 349 a0) x4.toNatClampNeg) ≤ (sA σ (sR σ 349 a0) (x4 + (1 : Int32)).toNatClampNeg)) → wp J_M_sort 109 [vr a0, vi x1, vi x2, vi x3, vi x4, vi (sA σ (sR σ 349 a0) x4.toNatClampNeg), vi (sA σ (sR σ 349 a0) (x4 + (1 : Int32)).toNatClampNeg), l7] [vi (1 : Int32)] σ Q)) ∧ (¬ (x2 = 0) → ((sA σ (sR σ 349 a0) (x4 + (1 : Int32)).toNatClampNeg) ≤ (sA σ (sR σ 349 a0) x4.toNatClampNeg) → wp J_M_sort 109 [vr a0, vi x1, vi x2, vi x3, vi x4, vi (sA σ (sR σ 349 a0) x4.toNatClampNeg), vi (sA σ (sR σ 349 a0) (x4 + (1 : Int32)).toNatClampNeg), l7] [vi (0 : Int32)] σ Q) ∧ (¬ ((sA σ (sR σ 349 a0) (x4 + (1 : Int32)).toNatClampNeg) ≤ (sA σ (sR σ 349 a0) x4.toNatClampNeg)) → wp J_M_sort 109 [vr a0, vi x1, vi x2, vi x3, vi x4, vi (sA σ (sR σ 349 a0) x4.toNatClampNeg), vi (sA σ (sR σ 349 a0) (x4 + (1 : Int32)).toNatClampNeg), l7] [vi (1 : Int32)] σ Q)))))))))) : wp J_M_sort 40 [vr a0, vi x1, vi x2, vi x3, vi x4, l5, l6, l7] [] σ Q :=
  w_go rfl rfl (w_bp rfl kb_60 (w_go rfl rfl (w_go rfl rfl (w_go rfl rfl (w_gd rfl rfl rfl h.1 (w_go rfl rfl (w_gd rfl rfl rfl ⟨Or.inr h.2.1.1, h.2.1.2⟩ (w_go rfl rfl (w_go rfl rfl (w_go rfl rfl (w_br rfl rfl rfl rfl (fun c1 => w_inc rfl rfl kc_1 (w_go rfl rfl ((h.2.2.1 c1)))) (fun c1 => w_go rfl rfl (w_gd rfl rfl rfl (h.2.2.2 c1).1 (w_go rfl rfl (w_gd rfl rfl rfl ⟨Or.inr (h.2.2.2 c1).2.1.1, (h.2.2.2 c1).2.1.2⟩ (w_gd rfl rfl rfl (Nat.le_of_ble_eq_true rfl) (w_go rfl rfl (w_gd rfl rfl rfl (h.2.2.2 c1).2.2.1 (w_go rfl rfl (w_ic rfl kc_1 (w_go rfl rfl (w_gd rfl rfl rfl ⟨Or.inr (h.2.2.2 c1).2.2.2.1.1, (h.2.2.2 c1).2.2.2.1.2⟩ (w_gd rfl rfl rfl (Nat.le_of_ble_eq_true rfl) (w_go rfl rfl (w_br rfl rfl rfl rfl (fun c2 => w_go rfl rfl (w_go rfl rfl (w_br rfl rfl rfl rfl (fun c3 => w_ic rfl kc_0 ((((h.2.2.2 c1).2.2.2.2.1 c2).1 c3))) (fun c3 => w_ic rfl kc_1 (w_go rfl rfl ((((h.2.2.2 c1).2.2.2.2.1 c2).2 c3))))))) (fun c2 => w_go rfl rfl (w_go rfl rfl (w_br rfl rfl rfl rfl (fun c4 => w_ic rfl kc_0 (w_go rfl rfl ((((h.2.2.2 c1).2.2.2.2.2 c2).1 c4)))) (fun c4 => w_ic rfl kc_1 (w_go rfl rfl ((((h.2.2.2 c1).2.2.2.2.2 c2).2 c4))))))))))))))))))))))))))))))))

theorem b_M_sort_109 {a0 : Nat} {x1 : Int32} {x2 : Int32} {x3 : Int32} {x4 : Int32} {x5 : Int32} {x6 : Int32} {l7 : iV} {tx0 : Int32} {σ : iS} {Q : iO → iS → Prop} (h : sK σ a0 = 10 ∧ ((tx0 = 0 → wp J_M_sort 129 [vr a0, vi x1, vi x2, vi x3, vi x4, vi x5, vi x6, vi tx0] [vi x5, vi x4, vr (sR σ 349 a0)] σ Q) ∧ (¬ (tx0 = 0) → wp J_M_sort 129 [vr a0, vi x1, vi x2, vi x3, vi x4, vi x5, vi x6, vi tx0] [vi x6, vi x4, vr (sR σ 349 a0)] σ Q))) : wp J_M_sort 109 [vr a0, vi x1, vi x2, vi x3, vi x4, vi x5, vi x6, l7] [vi tx0] σ Q :=
  w_gd rfl rfl rfl (Nat.le_of_ble_eq_true rfl) (w_go rfl rfl (w_gd rfl rfl rfl h.1 (w_go rfl rfl (w_go rfl rfl (w_br rfl rfl rfl rfl (fun c1 => w_go rfl rfl ((h.2.1 c1))) (fun c1 => w_go rfl rfl (w_go rfl rfl ((h.2.2 c1)))))))))

theorem b_M_sort_129 {a0 : Nat} {x1 : Int32} {x2 : Int32} {x3 : Int32} {x4 : Int32} {x5 : Int32} {x6 : Int32} {x7 : Int32} {tx0 : Int32} {tx1 : Int32} {ta2 : Nat} {σ : iS} {Q : iO → iS → Prop} (h : (sK σ ta2 = 101 ∧ iIn tx1 (sN σ ta2)) ∧ (∀ σ1, σ1 = wA σ ta2 tx1.toNatClampNeg tx0 → sK σ1 a0 = 10 ∧ ((x7 = 0 → wp J_M_sort 150 [vr a0, vi x1, vi x2, vi x3, vi x4, vi x5, vi x6, vi x7] [vi x6, vi (x4 + (1 : Int32)), vr (sR σ1 349 a0)] σ1 Q) ∧ (¬ (x7 = 0) → wp J_M_sort 150 [vr a0, vi x1, vi x2, vi x3, vi x4, vi x5, vi x6, vi x7] [vi x5, vi (x4 + (1 : Int32)), vr (sR σ1 349 a0)] σ1 Q)))) : wp J_M_sort 129 [vr a0, vi x1, vi x2, vi x3, vi x4, vi x5, vi x6, vi x7] [vi tx0, vi tx1, vr ta2] σ Q :=
  w_gd rfl rfl rfl h.1 (w_go rfl rfl (w_gd rfl rfl rfl (h.2 _ rfl).1 (w_go rfl rfl (w_ic rfl kc_1 (w_go rfl rfl (w_go rfl rfl (w_br rfl rfl rfl rfl (fun c2 => w_go rfl rfl (((h.2 _ rfl).2.1 c2))) (fun c2 => w_go rfl rfl (w_go rfl rfl (((h.2 _ rfl).2.2 c2)))))))))))

theorem b_M_sort_150 {a0 : Nat} {x1 : Int32} {x2 : Int32} {x3 : Int32} {x4 : Int32} {x5 : Int32} {x6 : Int32} {x7 : Int32} {tx0 : Int32} {tx1 : Int32} {ta2 : Nat} {σ : iS} {Q : iO → iS → Prop} (h : (sK σ ta2 = 101 ∧ iIn tx1 (sN σ ta2)) ∧ (∀ σ1, σ1 = wA σ ta2 tx1.toNatClampNeg tx0 → wp J_M_sort 40 [vr a0, vi x1, vi x2, vi x3, vi (x4 + (1 : Int32)), vi x5, vi x6, vi x7] [] σ1 Q)) : wp J_M_sort 150 [vr a0, vi x1, vi x2, vi x3, vi x4, vi x5, vi x6, vi x7] [vi tx0, vi tx1, vr ta2] σ Q :=
  w_gd rfl rfl rfl h.1 (w_inc rfl rfl kc_1 (w_go rfl rfl ((h.2 _ rfl))))
end
section
/-! WHAT MUST HOLD at each cut point of each method: printed by gen3.py -/
theorem b_L_text_0 {a0 : Nat} {x1 : Int32} {a2 : Nat} {σ : iS} {Q : iO → iS → Prop} (h : sK σ a0 = 1 ∧ ca J_X_text [vr a0, vi x1] σ (hI (fun r1 σ1 => (sK σ1 a2 = 103 ∧ iIn (0 : Int32) (sN σ1 a2)) ∧ (∀ σ2, σ2 = wL σ1 a2 (0 : Int32).toNatClampNeg r1.toInt64 → Q (.inl (some (vi (0 : Int32)))) σ2)) (fun e1 ea1 σ1 => (e1 = 1 → wp J_L_text 12 [vr a0, vi x1, vr a2, vl 0] [vr ea1] σ1 Q) ∧ (e1 = 2 → wp J_L_text 15 [vr a0, vi x1, vr a2, vl 0] [vr ea1] σ1 Q) ∧ (e1 = 1 ∨ e1 = 2)))) : ca J_L_text [vr a0, vi x1, vr a2] σ Q :=
  w_go rfl rfl (w_ic rfl kc_0 (w_go rfl rfl (w_go rfl rfl (w_hI rfl rfl rfl ⟨⟨Nat.le_of_ble_eq_true rfl, Nat.le_of_ble_eq_true rfl⟩, h.1⟩ h.2 (fun r1 σ1 k1 => w_go rfl rfl (w_gd rfl rfl rfl k1.1 (w_go rfl rfl (w_ic rfl kc_0 (w_retG rfl rfl rfl (fun q => Bool.noConfusion q) (k1.2 _ rfl)))))) (fun e1 ea1 σ1 k1 => b_h2 rfl rfl k1)))))

theorem b_L_text_12 {a0 : Nat} {x1 : Int32} {a2 : Nat} {l3 : iV} {ta0 : Nat} {σ : iS} {Q : iO → iS → Prop} (h : Q (.inl (some (vi (1 : Int32)))) σ) : wp J_L_text 12 [vr a0, vi x1, vr a2, l3] [vr ta0] σ Q :=
  w_gd rfl rfl rfl (Nat.le_of_ble_eq_true rfl) (w_ic rfl kc_1 (w_retG rfl rfl rfl (fun q => Bool.noConfusion q) h))

theorem b_L_text_15 {a0 : Nat} {x1 : Int32} {a2 : Nat} {l3 : iV} {ta0 : Nat} {σ : iS} {Q : iO → iS → Prop} (h : Q (.inl (some (vi (2 : Int32)))) σ) : wp J_L_text 15 [vr a0, vi x1, vr a2, l3] [vr ta0] σ Q :=
  w_gd rfl rfl rfl (Nat.le_of_ble_eq_true rfl) (w_ic rfl kc_2 (w_retG rfl rfl rfl (fun q => Bool.noConfusion q) h))

theorem b_L_set_0 {a0 : Nat} {x1 : Int32} {x2 : Int32} {x3 : Int32} {σ : iS} {Q : iO → iS → Prop} (h : sK σ a0 = 1 ∧ ca J_X_set [vr a0, vi x1, vi x2, vi x3] σ (hV (fun σ1 => Q (.inl (some (vi (0 : Int32)))) σ1) (fun e1 ea1 σ1 => (e1 = 1 → wp J_L_set 10 [vr a0, vi x1, vi x2, vi x3, vl 0] [vr ea1] σ1 Q) ∧ (e1 = 1)))) : ca J_L_set [vr a0, vi x1, vi x2, vi x3] σ Q :=
  w_go rfl rfl (w_go rfl rfl (w_go rfl rfl (w_go rfl rfl (w_hV rfl rfl rfl ⟨⟨Nat.le_of_ble_eq_true rfl, Nat.le_of_ble_eq_true rfl⟩, h.1⟩ h.2 (fun σ1 k1 => w_go rfl rfl (w_ic rfl kc_0 (w_retG rfl rfl rfl (fun q => Bool.noConfusion q) k1))) (fun e1 ea1 σ1 k1 => b_h1 rfl k1)))))

theorem b_L_set_10 {a0 : Nat} {x1 : Int32} {x2 : Int32} {x3 : Int32} {l4 : iV} {ta0 : Nat} {σ : iS} {Q : iO → iS → Prop} (h : Q (.inl (some (vi (1 : Int32)))) σ) : wp J_L_set 10 [vr a0, vi x1, vi x2, vi x3, l4] [vr ta0] σ Q :=
  w_gd rfl rfl rfl (Nat.le_of_ble_eq_true rfl) (w_ic rfl kc_1 (w_retG rfl rfl rfl (fun q => Bool.noConfusion q) h))

theorem b_L_at_0 {a0 : Nat} {x1 : Int32} {x2 : Int32} {a3 : Nat} {σ : iS} {Q : iO → iS → Prop} (h : sK σ a0 = 1 ∧ ca J_X_at [vr a0, vi x1, vi x2] σ (hI (fun r1 σ1 => (sK σ1 a3 = 103 ∧ iIn (0 : Int32) (sN σ1 a3)) ∧ (∀ σ2, σ2 = wL σ1 a3 (0 : Int32).toNatClampNeg r1.toInt64 → Q (.inl (some (vi (0 : Int32)))) σ2)) (fun e1 ea1 σ1 => (e1 = 1 → wp J_L_at 13 [vr a0, vi x1, vi x2, vr a3, vl 0] [vr ea1] σ1 Q) ∧ (e1 = 1)))) : ca J_L_at [vr a0, vi x1, vi x2, vr a3] σ Q :=
  w_go rfl rfl (w_ic rfl kc_0 (w_go rfl rfl (w_go rfl rfl (w_go rfl rfl (w_hI rfl rfl rfl ⟨⟨Nat.le_of_ble_eq_true rfl, Nat.le_of_ble_eq_true rfl⟩, h.1⟩ h.2 (fun r1 σ1 k1 => w_go rfl rfl (w_gd rfl rfl rfl k1.1 (w_go rfl rfl (w_ic rfl kc_0 (w_retG rfl rfl rfl (fun q => Bool.noConfusion q) (k1.2 _ rfl)))))) (fun e1 ea1 σ1 k1 => b_h1 rfl k1))))))

theorem b_L_at_13 {a0 : Nat} {x1 : Int32} {x2 : Int32} {a3 : Nat} {l4 : iV} {ta0 : Nat} {σ : iS} {Q : iO → iS → Prop} (h : Q (.inl (some (vi (1 : Int32)))) σ) : wp J_L_at 13 [vr a0, vi x1, vi x2, vr a3, l4] [vr ta0] σ Q :=
  w_gd rfl rfl rfl (Nat.le_of_ble_eq_true rfl) (w_ic rfl kc_1 (w_retG rfl rfl rfl (fun q => Bool.noConfusion q) h))

theorem b_L_span_0 {a0 : Nat} {x1 : Int32} {x2 : Int32} {σ : iS} {Q : iO → iS → Prop} (h : sK σ a0 = 1 ∧ ca J_X_span [vr a0, vi x1, vi x2] σ (hV (fun σ1 => Q (.inl (some (vi (0 : Int32)))) σ1) (fun e1 ea1 σ1 => (e1 = 1 → wp J_L_span 9 [vr a0, vi x1, vi x2, vl 0] [vr ea1] σ1 Q) ∧ (e1 = 1)))) : ca J_L_span [vr a0, vi x1, vi x2] σ Q :=
  w_go rfl rfl (w_go rfl rfl (w_go rfl rfl (w_hV rfl rfl rfl ⟨⟨Nat.le_of_ble_eq_true rfl, Nat.le_of_ble_eq_true rfl⟩, h.1⟩ h.2 (fun σ1 k1 => w_go rfl rfl (w_ic rfl kc_0 (w_retG rfl rfl rfl (fun q => Bool.noConfusion q) k1))) (fun e1 ea1 σ1 k1 => b_h1 rfl k1))))

theorem b_L_span_9 {a0 : Nat} {x1 : Int32} {x2 : Int32} {l3 : iV} {ta0 : Nat} {σ : iS} {Q : iO → iS → Prop} (h : Q (.inl (some (vi (1 : Int32)))) σ) : wp J_L_span 9 [vr a0, vi x1, vi x2, l3] [vr ta0] σ Q :=
  w_gd rfl rfl rfl (Nat.le_of_ble_eq_true rfl) (w_ic rfl kc_1 (w_retG rfl rfl rfl (fun q => Bool.noConfusion q) h))

theorem b_L_tally_0 {a0 : Nat} {x1 : Int32} {x2 : Int32} {x3 : Int32} {a4 : Nat} {σ : iS} {Q : iO → iS → Prop} (h : sK σ a0 = 1 ∧ ca J_X_tally [vr a0, vi x1, vi x2, vi x3] σ (hI (fun r1 σ1 => (sK σ1 a4 = 103 ∧ iIn (0 : Int32) (sN σ1 a4)) ∧ (∀ σ2, σ2 = wL σ1 a4 (0 : Int32).toNatClampNeg r1.toInt64 → Q (.inl (some (vi (0 : Int32)))) σ2)) (fun e1 ea1 σ1 => (e1 = 1 → wp J_L_tally 15 [vr a0, vi x1, vi x2, vi x3, vr a4, vl 0] [vr ea1] σ1 Q) ∧ (e1 = 2 → wp J_L_tally 19 [vr a0, vi x1, vi x2, vi x3, vr a4, vl 0] [vr ea1] σ1 Q) ∧ (e1 = 1 ∨ e1 = 2)))) : ca J_L_tally [vr a0, vi x1, vi x2, vi x3, vr a4] σ Q :=
  w_go rfl rfl (w_ic rfl kc_0 (w_go rfl rfl (w_go rfl rfl (w_go rfl rfl (w_go rfl rfl (w_hI rfl rfl rfl ⟨⟨Nat.le_of_ble_eq_true rfl, Nat.le_of_ble_eq_true rfl⟩, h.1⟩ h.2 (fun r1 σ1 k1 => w_go rfl rfl (w_gd rfl rfl rfl k1.1 (w_go rfl rfl (w_ic rfl kc_0 (w_retG rfl rfl rfl (fun q => Bool.noConfusion q) (k1.2 _ rfl)))))) (fun e1 ea1 σ1 k1 => b_h2 rfl rfl k1)))))))

theorem b_L_tally_15 {a0 : Nat} {x1 : Int32} {x2 : Int32} {x3 : Int32} {a4 : Nat} {l5 : iV} {ta0 : Nat} {σ : iS} {Q : iO → iS → Prop} (h : Q (.inl (some (vi (1 : Int32)))) σ) : wp J_L_tally 15 [vr a0, vi x1, vi x2, vi x3, vr a4, l5] [vr ta0] σ Q :=
  w_gd rfl rfl rfl (Nat.le_of_ble_eq_true rfl) (w_ic rfl kc_1 (w_retG rfl rfl rfl (fun q => Bool.noConfusion q) h))

theorem b_L_tally_19 {a0 : Nat} {x1 : Int32} {x2 : Int32} {x3 : Int32} {a4 : Nat} {l5 : iV} {ta0 : Nat} {σ : iS} {Q : iO → iS → Prop} (h : Q (.inl (some (vi (2 : Int32)))) σ) : wp J_L_tally 19 [vr a0, vi x1, vi x2, vi x3, vr a4, l5] [vr ta0] σ Q :=
  w_gd rfl rfl rfl (Nat.le_of_ble_eq_true rfl) (w_ic rfl kc_2 (w_retG rfl rfl rfl (fun q => Bool.noConfusion q) h))

theorem b_L_replace_0 {a0 : Nat} {x1 : Int32} {x2 : Int32} {x3 : Int32} {a4 : Nat} {σ : iS} {Q : iO → iS → Prop} (h : sK σ a0 = 1 ∧ ca J_X_replace [vr a0, vi x1, vi x2, vi x3] σ (hI (fun r1 σ1 => (sK σ1 a4 = 103 ∧ iIn (0 : Int32) (sN σ1 a4)) ∧ (∀ σ2, σ2 = wL σ1 a4 (0 : Int32).toNatClampNeg r1.toInt64 → Q (.inl (some (vi (0 : Int32)))) σ2)) (fun e1 ea1 σ1 => (e1 = 1 → wp J_L_replace 15 [vr a0, vi x1, vi x2, vi x3, vr a4, vl 0] [vr ea1] σ1 Q) ∧ (e1 = 2 → wp J_L_replace 19 [vr a0, vi x1, vi x2, vi x3, vr a4, vl 0] [vr ea1] σ1 Q) ∧ (e1 = 1 ∨ e1 = 2)))) : ca J_L_replace [vr a0, vi x1, vi x2, vi x3, vr a4] σ Q :=
  w_go rfl rfl (w_ic rfl kc_0 (w_go rfl rfl (w_go rfl rfl (w_go rfl rfl (w_go rfl rfl (w_hI rfl rfl rfl ⟨⟨Nat.le_of_ble_eq_true rfl, Nat.le_of_ble_eq_true rfl⟩, h.1⟩ h.2 (fun r1 σ1 k1 => w_go rfl rfl (w_gd rfl rfl rfl k1.1 (w_go rfl rfl (w_ic rfl kc_0 (w_retG rfl rfl rfl (fun q => Bool.noConfusion q) (k1.2 _ rfl)))))) (fun e1 ea1 σ1 k1 => b_h2 rfl rfl k1)))))))

theorem b_L_replace_15 {a0 : Nat} {x1 : Int32} {x2 : Int32} {x3 : Int32} {a4 : Nat} {l5 : iV} {ta0 : Nat} {σ : iS} {Q : iO → iS → Prop} (h : Q (.inl (some (vi (1 : Int32)))) σ) : wp J_L_replace 15 [vr a0, vi x1, vi x2, vi x3, vr a4, l5] [vr ta0] σ Q :=
  w_gd rfl rfl rfl (Nat.le_of_ble_eq_true rfl) (w_ic rfl kc_1 (w_retG rfl rfl rfl (fun q => Bool.noConfusion q) h))

theorem b_L_replace_19 {a0 : Nat} {x1 : Int32} {x2 : Int32} {x3 : Int32} {a4 : Nat} {l5 : iV} {ta0 : Nat} {σ : iS} {Q : iO → iS → Prop} (h : Q (.inl (some (vi (2 : Int32)))) σ) : wp J_L_replace 19 [vr a0, vi x1, vi x2, vi x3, vr a4, l5] [vr ta0] σ Q :=
  w_gd rfl rfl rfl (Nat.le_of_ble_eq_true rfl) (w_ic rfl kc_2 (w_retG rfl rfl rfl (fun q => Bool.noConfusion q) h))

theorem b_L_inspect_0 {a0 : Nat} {x1 : Int32} {a2 : Nat} {σ : iS} {Q : iO → iS → Prop} (h : sK σ a0 = 1 ∧ ca J_X_inspect [vr a0, vi x1] σ (hI (fun r1 σ1 => (sK σ1 a2 = 103 ∧ iIn (0 : Int32) (sN σ1 a2)) ∧ (∀ σ2, σ2 = wL σ1 a2 (0 : Int32).toNatClampNeg r1.toInt64 → Q (.inl (some (vi (0 : Int32)))) σ2)) (fun e1 ea1 σ1 => (e1 = 1 → wp J_L_inspect 12 [vr a0, vi x1, vr a2, vl 0] [vr ea1] σ1 Q) ∧ (e1 = 1)))) : ca J_L_inspect [vr a0, vi x1, vr a2] σ Q :=
  w_go rfl rfl (w_ic rfl kc_0 (w_go rfl rfl (w_go rfl rfl (w_hI rfl rfl rfl ⟨⟨Nat.le_of_ble_eq_true rfl, Nat.le_of_ble_eq_true rfl⟩, h.1⟩ h.2 (fun r1 σ1 k1 => w_go rfl rfl (w_gd rfl rfl rfl k1.1 (w_go rfl rfl (w_ic rfl kc_0 (w_retG rfl rfl rfl (fun q => Bool.noConfusion q) (k1.2 _ rfl)))))) (fun e1 ea1 σ1 k1 => b_h1 rfl k1)))))

theorem b_L_inspect_12 {a0 : Nat} {x1 : Int32} {a2 : Nat} {l3 : iV} {ta0 : Nat} {σ : iS} {Q : iO → iS → Prop} (h : Q (.inl (some (vi (1 : Int32)))) σ) : wp J_L_inspect 12 [vr a0, vi x1, vr a2, l3] [vr ta0] σ Q :=
  w_gd rfl rfl rfl (Nat.le_of_ble_eq_true rfl) (w_ic rfl kc_1 (w_retG rfl rfl rfl (fun q => Bool.noConfusion q) h))

theorem b_L_convert_0 {a0 : Nat} {x1 : Int32} {x2 : Int32} {x3 : Int32} {a4 : Nat} {σ : iS} {Q : iO → iS → Prop} (h : sK σ a0 = 1 ∧ ca J_X_convert [vr a0, vi x1, vi x2, vi x3] σ (hI (fun r1 σ1 => (sK σ1 a4 = 103 ∧ iIn (0 : Int32) (sN σ1 a4)) ∧ (∀ σ2, σ2 = wL σ1 a4 (0 : Int32).toNatClampNeg r1.toInt64 → Q (.inl (some (vi (0 : Int32)))) σ2)) (fun e1 ea1 σ1 => (e1 = 1 → wp J_L_convert 15 [vr a0, vi x1, vi x2, vi x3, vr a4, vl 0] [vr ea1] σ1 Q) ∧ (e1 = 1)))) : ca J_L_convert [vr a0, vi x1, vi x2, vi x3, vr a4] σ Q :=
  w_go rfl rfl (w_ic rfl kc_0 (w_go rfl rfl (w_go rfl rfl (w_go rfl rfl (w_go rfl rfl (w_hI rfl rfl rfl ⟨⟨Nat.le_of_ble_eq_true rfl, Nat.le_of_ble_eq_true rfl⟩, h.1⟩ h.2 (fun r1 σ1 k1 => w_go rfl rfl (w_gd rfl rfl rfl k1.1 (w_go rfl rfl (w_ic rfl kc_0 (w_retG rfl rfl rfl (fun q => Bool.noConfusion q) (k1.2 _ rfl)))))) (fun e1 ea1 σ1 k1 => b_h1 rfl k1)))))))

theorem b_L_convert_15 {a0 : Nat} {x1 : Int32} {x2 : Int32} {x3 : Int32} {a4 : Nat} {l5 : iV} {ta0 : Nat} {σ : iS} {Q : iO → iS → Prop} (h : Q (.inl (some (vi (1 : Int32)))) σ) : wp J_L_convert 15 [vr a0, vi x1, vi x2, vi x3, vr a4, l5] [vr ta0] σ Q :=
  w_gd rfl rfl rfl (Nat.le_of_ble_eq_true rfl) (w_ic rfl kc_1 (w_retG rfl rfl rfl (fun q => Bool.noConfusion q) h))

theorem b_L_counter_0 {a0 : Nat} {x1 : Int32} {a2 : Nat} {σ : iS} {Q : iO → iS → Prop} (h : sK σ a0 = 1 ∧ ca J_X_counter [vr a0, vi x1] σ (hI (fun r1 σ1 => (sK σ1 a2 = 103 ∧ iIn (0 : Int32) (sN σ1 a2)) ∧ (∀ σ2, σ2 = wL σ1 a2 (0 : Int32).toNatClampNeg r1.toInt64 → Q (.inl (some (vi (0 : Int32)))) σ2)) (fun e1 ea1 σ1 => (e1 = 1 → wp J_L_counter 12 [vr a0, vi x1, vr a2, vl 0] [vr ea1] σ1 Q) ∧ (e1 = 1)))) : ca J_L_counter [vr a0, vi x1, vr a2] σ Q :=
  w_go rfl rfl (w_ic rfl kc_0 (w_go rfl rfl (w_go rfl rfl (w_hI rfl rfl rfl ⟨⟨Nat.le_of_ble_eq_true rfl, Nat.le_of_ble_eq_true rfl⟩, h.1⟩ h.2 (fun r1 σ1 k1 => w_go rfl rfl (w_gd rfl rfl rfl k1.1 (w_go rfl rfl (w_ic rfl kc_0 (w_retG rfl rfl rfl (fun q => Bool.noConfusion q) (k1.2 _ rfl)))))) (fun e1 ea1 σ1 k1 => b_h1 rfl k1)))))

theorem b_L_counter_12 {a0 : Nat} {x1 : Int32} {a2 : Nat} {l3 : iV} {ta0 : Nat} {σ : iS} {Q : iO → iS → Prop} (h : Q (.inl (some (vi (1 : Int32)))) σ) : wp J_L_counter 12 [vr a0, vi x1, vr a2, l3] [vr ta0] σ Q :=
  w_gd rfl rfl rfl (Nat.le_of_ble_eq_true rfl) (w_ic rfl kc_1 (w_retG rfl rfl rfl (fun q => Bool.noConfusion q) h))

theorem b_L_part_0 {a0 : Nat} {x1 : Int32} {x2 : Int32} {a3 : Nat} {σ : iS} {Q : iO → iS → Prop} (h : sK σ a0 = 1 ∧ ca J_X_part [vr a0, vi x1, vi x2] σ (hI (fun r1 σ1 => (sK σ1 a3 = 103 ∧ iIn (0 : Int32) (sN σ1 a3)) ∧ (∀ σ2, σ2 = wL σ1 a3 (0 : Int32).toNatClampNeg r1.toInt64 → Q (.inl (some (vi (0 : Int32)))) σ2)) (fun e1 ea1 σ1 => (e1 = 1 → wp J_L_part 13 [vr a0, vi x1, vi x2, vr a3, vl 0] [vr ea1] σ1 Q) ∧ (e1 = 2 → wp J_L_part 17 [vr a0, vi x1, vi x2, vr a3, vl 0] [vr ea1] σ1 Q) ∧ (e1 = 1 ∨ e1 = 2)))) : ca J_L_part [vr a0, vi x1, vi x2, vr a3] σ Q :=
  w_go rfl rfl (w_ic rfl kc_0 (w_go rfl rfl (w_go rfl rfl (w_go rfl rfl (w_hI rfl rfl rfl ⟨⟨Nat.le_of_ble_eq_true rfl, Nat.le_of_ble_eq_true rfl⟩, h.1⟩ h.2 (fun r1 σ1 k1 => w_go rfl rfl (w_gd rfl rfl rfl k1.1 (w_go rfl rfl (w_ic rfl kc_0 (w_retG rfl rfl rfl (fun q => Bool.noConfusion q) (k1.2 _ rfl)))))) (fun e1 ea1 σ1 k1 => b_h2 rfl rfl k1))))))

theorem b_L_part_13 {a0 : Nat} {x1 : Int32} {x2 : Int32} {a3 : Nat} {l4 : iV} {ta0 : Nat} {σ : iS} {Q : iO → iS → Prop} (h : Q (.inl (some (vi (1 : Int32)))) σ) : wp J_L_part 13 [vr a0, vi x1, vi x2, vr a3, l4] [vr ta0] σ Q :=
  w_gd rfl rfl rfl (Nat.le_of_ble_eq_true rfl) (w_ic rfl kc_1 (w_retG rfl rfl rfl (fun q => Bool.noConfusion q) h))

theorem b_L_part_17 {a0 : Nat} {x1 : Int32} {x2 : Int32} {a3 : Nat} {l4 : iV} {ta0 : Nat} {σ : iS} {Q : iO → iS → Prop} (h : Q (.inl (some (vi (2 : Int32)))) σ) : wp J_L_part 17 [vr a0, vi x1, vi x2, vr a3, l4] [vr ta0] σ Q :=
  w_gd rfl rfl rfl (Nat.le_of_ble_eq_true rfl) (w_ic rfl kc_2 (w_retG rfl rfl rfl (fun q => Bool.noConfusion q) h))

theorem b_L_join_0 {a0 : Nat} {x1 : Int32} {x2 : Int32} {a3 : Nat} {σ : iS} {Q : iO → iS → Prop} (h : sK σ a0 = 1 ∧ ca J_X_join [vr a0, vi x1, vi x2] σ (hI (fun r1 σ1 => (sK σ1 a3 = 103 ∧ iIn (0 : Int32) (sN σ1 a3)) ∧ (∀ σ2, σ2 = wL σ1 a3 (0 : Int32).toNatClampNeg r1.toInt64 → Q (.inl (some (vi (0 : Int32)))) σ2)) (fun e1 ea1 σ1 => (e1 = 1 → wp J_L_join 13 [vr a0, vi x1, vi x2, vr a3, vl 0] [vr ea1] σ1 Q) ∧ (e1 = 1)))) : ca J_L_join [vr a0, vi x1, vi x2, vr a3] σ Q :=
  w_go rfl rfl (w_ic rfl kc_0 (w_go rfl rfl (w_go rfl rfl (w_go rfl rfl (w_hI rfl rfl rfl ⟨⟨Nat.le_of_ble_eq_true rfl, Nat.le_of_ble_eq_true rfl⟩, h.1⟩ h.2 (fun r1 σ1 k1 => w_go rfl rfl (w_gd rfl rfl rfl k1.1 (w_go rfl rfl (w_ic rfl kc_0 (w_retG rfl rfl rfl (fun q => Bool.noConfusion q) (k1.2 _ rfl)))))) (fun e1 ea1 σ1 k1 => b_h1 rfl k1))))))

theorem b_L_join_13 {a0 : Nat} {x1 : Int32} {x2 : Int32} {a3 : Nat} {l4 : iV} {ta0 : Nat} {σ : iS} {Q : iO → iS → Prop} (h : Q (.inl (some (vi (1 : Int32)))) σ) : wp J_L_join 13 [vr a0, vi x1, vi x2, vr a3, l4] [vr ta0] σ Q :=
  w_gd rfl rfl rfl (Nat.le_of_ble_eq_true rfl) (w_ic rfl kc_1 (w_retG rfl rfl rfl (fun q => Bool.noConfusion q) h))

theorem b_L_delimiter_0 {a0 : Nat} {x1 : Int32} {x2 : Int32} {a3 : Nat} {σ : iS} {Q : iO → iS → Prop} (h : sK σ a0 = 1 ∧ ca J_X_delimiter [vr a0, vi x1, vi x2] σ (hI (fun r1 σ1 => (sK σ1 a3 = 103 ∧ iIn (0 : Int32) (sN σ1 a3)) ∧ (∀ σ2, σ2 = wL σ1 a3 (0 : Int32).toNatClampNeg r1.toInt64 → Q (.inl (some (vi (0 : Int32)))) σ2)) (fun e1 ea1 σ1 => (e1 = 1 → wp J_L_delimiter 13 [vr a0, vi x1, vi x2, vr a3, vl 0] [vr ea1] σ1 Q) ∧ (e1 = 2 → wp J_L_delimiter 17 [vr a0, vi x1, vi x2, vr a3, vl 0] [vr ea1] σ1 Q) ∧ (e1 = 1 ∨ e1 = 2)))) : ca J_L_delimiter [vr a0, vi x1, vi x2, vr a3] σ Q :=
  w_go rfl rfl (w_ic rfl kc_0 (w_go rfl rfl (w_go rfl rfl (w_go rfl rfl (w_hI rfl rfl rfl ⟨⟨Nat.le_of_ble_eq_true rfl, Nat.le_of_ble_eq_true rfl⟩, h.1⟩ h.2 (fun r1 σ1 k1 => w_go rfl rfl (w_gd rfl rfl rfl k1.1 (w_go rfl rfl (w_ic rfl kc_0 (w_retG rfl rfl rfl (fun q => Bool.noConfusion q) (k1.2 _ rfl)))))) (fun e1 ea1 σ1 k1 => b_h2 rfl rfl k1))))))

theorem b_L_delimiter_13 {a0 : Nat} {x1 : Int32} {x2 : Int32} {a3 : Nat} {l4 : iV} {ta0 : Nat} {σ : iS} {Q : iO → iS → Prop} (h : Q (.inl (some (vi (1 : Int32)))) σ) : wp J_L_delimiter 13 [vr a0, vi x1, vi x2, vr a3, l4] [vr ta0] σ Q :=
  w_gd rfl rfl rfl (Nat.le_of_ble_eq_true rfl) (w_ic rfl kc_1 (w_retG rfl rfl rfl (fun q => Bool.noConfusion q) h))

theorem b_L_delimiter_17 {a0 : Nat} {x1 : Int32} {x2 : Int32} {a3 : Nat} {l4 : iV} {ta0 : Nat} {σ : iS} {Q : iO → iS → Prop} (h : Q (.inl (some (vi (2 : Int32)))) σ) : wp J_L_delimiter 17 [vr a0, vi x1, vi x2, vr a3, l4] [vr ta0] σ Q :=
  w_gd rfl rfl rfl (Nat.le_of_ble_eq_true rfl) (w_ic rfl kc_2 (w_retG rfl rfl rfl (fun q => Bool.noConfusion q) h))

theorem b_L_receiver_0 {a0 : Nat} {x1 : Int32} {a2 : Nat} {σ : iS} {Q : iO → iS → Prop} (h : sK σ a0 = 1 ∧ ca J_X_receiver [vr a0, vi x1] σ (hI (fun r1 σ1 => (sK σ1 a2 = 103 ∧ iIn (0 : Int32) (sN σ1 a2)) ∧ (∀ σ2, σ2 = wL σ1 a2 (0 : Int32).toNatClampNeg r1.toInt64 → Q (.inl (some (vi (0 : Int32)))) σ2)) (fun e1 ea1 σ1 => (e1 = 1 → wp J_L_receiver 12 [vr a0, vi x1, vr a2, vl 0] [vr ea1] σ1 Q) ∧ (e1 = 2 → wp J_L_receiver 15 [vr a0, vi x1, vr a2, vl 0] [vr ea1] σ1 Q) ∧ (e1 = 1 ∨ e1 = 2)))) : ca J_L_receiver [vr a0, vi x1, vr a2] σ Q :=
  w_go rfl rfl (w_ic rfl kc_0 (w_go rfl rfl (w_go rfl rfl (w_hI rfl rfl rfl ⟨⟨Nat.le_of_ble_eq_true rfl, Nat.le_of_ble_eq_true rfl⟩, h.1⟩ h.2 (fun r1 σ1 k1 => w_go rfl rfl (w_gd rfl rfl rfl k1.1 (w_go rfl rfl (w_ic rfl kc_0 (w_retG rfl rfl rfl (fun q => Bool.noConfusion q) (k1.2 _ rfl)))))) (fun e1 ea1 σ1 k1 => b_h2 rfl rfl k1)))))

theorem b_L_receiver_12 {a0 : Nat} {x1 : Int32} {a2 : Nat} {l3 : iV} {ta0 : Nat} {σ : iS} {Q : iO → iS → Prop} (h : Q (.inl (some (vi (1 : Int32)))) σ) : wp J_L_receiver 12 [vr a0, vi x1, vr a2, l3] [vr ta0] σ Q :=
  w_gd rfl rfl rfl (Nat.le_of_ble_eq_true rfl) (w_ic rfl kc_1 (w_retG rfl rfl rfl (fun q => Bool.noConfusion q) h))

theorem b_L_receiver_15 {a0 : Nat} {x1 : Int32} {a2 : Nat} {l3 : iV} {ta0 : Nat} {σ : iS} {Q : iO → iS → Prop} (h : Q (.inl (some (vi (2 : Int32)))) σ) : wp J_L_receiver 15 [vr a0, vi x1, vr a2, l3] [vr ta0] σ Q :=
  w_gd rfl rfl rfl (Nat.le_of_ble_eq_true rfl) (w_ic rfl kc_2 (w_retG rfl rfl rfl (fun q => Bool.noConfusion q) h))

theorem b_L_split_0 {a0 : Nat} {x1 : Int32} {x2 : Int32} {a3 : Nat} {σ : iS} {Q : iO → iS → Prop} (h : sK σ a0 = 1 ∧ ca J_X_split [vr a0, vi x1, vi x2] σ (hI (fun r1 σ1 => (sK σ1 a3 = 103 ∧ iIn (0 : Int32) (sN σ1 a3)) ∧ (∀ σ2, σ2 = wL σ1 a3 (0 : Int32).toNatClampNeg r1.toInt64 → Q (.inl (some (vi (0 : Int32)))) σ2)) (fun e1 ea1 σ1 => (e1 = 1 → wp J_L_split 13 [vr a0, vi x1, vi x2, vr a3, vl 0] [vr ea1] σ1 Q) ∧ (e1 = 1)))) : ca J_L_split [vr a0, vi x1, vi x2, vr a3] σ Q :=
  w_go rfl rfl (w_ic rfl kc_0 (w_go rfl rfl (w_go rfl rfl (w_go rfl rfl (w_hI rfl rfl rfl ⟨⟨Nat.le_of_ble_eq_true rfl, Nat.le_of_ble_eq_true rfl⟩, h.1⟩ h.2 (fun r1 σ1 k1 => w_go rfl rfl (w_gd rfl rfl rfl k1.1 (w_go rfl rfl (w_ic rfl kc_0 (w_retG rfl rfl rfl (fun q => Bool.noConfusion q) (k1.2 _ rfl)))))) (fun e1 ea1 σ1 k1 => b_h1 rfl k1))))))

theorem b_L_split_13 {a0 : Nat} {x1 : Int32} {x2 : Int32} {a3 : Nat} {l4 : iV} {ta0 : Nat} {σ : iS} {Q : iO → iS → Prop} (h : Q (.inl (some (vi (1 : Int32)))) σ) : wp J_L_split 13 [vr a0, vi x1, vi x2, vr a3, l4] [vr ta0] σ Q :=
  w_gd rfl rfl rfl (Nat.le_of_ble_eq_true rfl) (w_ic rfl kc_1 (w_retG rfl rfl rfl (fun q => Bool.noConfusion q) h))

theorem b_L_table_0 {a0 : Nat} {x1 : Int32} {a2 : Nat} {σ : iS} {Q : iO → iS → Prop} (h : sK σ a0 = 1 ∧ ca J_X_table [vr a0, vi x1] σ (hI (fun r1 σ1 => (sK σ1 a2 = 103 ∧ iIn (0 : Int32) (sN σ1 a2)) ∧ (∀ σ2, σ2 = wL σ1 a2 (0 : Int32).toNatClampNeg r1.toInt64 → Q (.inl (some (vi (0 : Int32)))) σ2)) (fun e1 ea1 σ1 => (e1 = 1 → wp J_L_table 12 [vr a0, vi x1, vr a2, vl 0] [vr ea1] σ1 Q) ∧ (e1 = 2 → wp J_L_table 15 [vr a0, vi x1, vr a2, vl 0] [vr ea1] σ1 Q) ∧ (e1 = 1 ∨ e1 = 2)))) : ca J_L_table [vr a0, vi x1, vr a2] σ Q :=
  w_go rfl rfl (w_ic rfl kc_0 (w_go rfl rfl (w_go rfl rfl (w_hI rfl rfl rfl ⟨⟨Nat.le_of_ble_eq_true rfl, Nat.le_of_ble_eq_true rfl⟩, h.1⟩ h.2 (fun r1 σ1 k1 => w_go rfl rfl (w_gd rfl rfl rfl k1.1 (w_go rfl rfl (w_ic rfl kc_0 (w_retG rfl rfl rfl (fun q => Bool.noConfusion q) (k1.2 _ rfl)))))) (fun e1 ea1 σ1 k1 => b_h2 rfl rfl k1)))))

theorem b_L_table_12 {a0 : Nat} {x1 : Int32} {a2 : Nat} {l3 : iV} {ta0 : Nat} {σ : iS} {Q : iO → iS → Prop} (h : Q (.inl (some (vi (1 : Int32)))) σ) : wp J_L_table 12 [vr a0, vi x1, vr a2, l3] [vr ta0] σ Q :=
  w_gd rfl rfl rfl (Nat.le_of_ble_eq_true rfl) (w_ic rfl kc_1 (w_retG rfl rfl rfl (fun q => Bool.noConfusion q) h))

theorem b_L_table_15 {a0 : Nat} {x1 : Int32} {a2 : Nat} {l3 : iV} {ta0 : Nat} {σ : iS} {Q : iO → iS → Prop} (h : Q (.inl (some (vi (2 : Int32)))) σ) : wp J_L_table 15 [vr a0, vi x1, vr a2, l3] [vr ta0] σ Q :=
  w_gd rfl rfl rfl (Nat.le_of_ble_eq_true rfl) (w_ic rfl kc_2 (w_retG rfl rfl rfl (fun q => Bool.noConfusion q) h))

theorem b_L_row_0 {a0 : Nat} {x1 : Int32} {x2 : Int32} {x3 : Int32} {a4 : Nat} {σ : iS} {Q : iO → iS → Prop} (h : sK σ a0 = 1 ∧ ca J_X_row [vr a0, vi x1, vi x2, vi x3] σ (hI (fun r1 σ1 => (sK σ1 a4 = 103 ∧ iIn (0 : Int32) (sN σ1 a4)) ∧ (∀ σ2, σ2 = wL σ1 a4 (0 : Int32).toNatClampNeg r1.toInt64 → Q (.inl (some (vi (0 : Int32)))) σ2)) (fun e1 ea1 σ1 => (e1 = 1 → wp J_L_row 15 [vr a0, vi x1, vi x2, vi x3, vr a4, vl 0] [vr ea1] σ1 Q) ∧ (e1 = 1)))) : ca J_L_row [vr a0, vi x1, vi x2, vi x3, vr a4] σ Q :=
  w_go rfl rfl (w_ic rfl kc_0 (w_go rfl rfl (w_go rfl rfl (w_go rfl rfl (w_go rfl rfl (w_hI rfl rfl rfl ⟨⟨Nat.le_of_ble_eq_true rfl, Nat.le_of_ble_eq_true rfl⟩, h.1⟩ h.2 (fun r1 σ1 k1 => w_go rfl rfl (w_gd rfl rfl rfl k1.1 (w_go rfl rfl (w_ic rfl kc_0 (w_retG rfl rfl rfl (fun q => Bool.noConfusion q) (k1.2 _ rfl)))))) (fun e1 ea1 σ1 k1 => b_h1 rfl k1)))))))

theorem b_L_row_15 {a0 : Nat} {x1 : Int32} {x2 : Int32} {x3 : Int32} {a4 : Nat} {l5 : iV} {ta0 : Nat} {σ : iS} {Q : iO → iS → Prop} (h : Q (.inl (some (vi (1 : Int32)))) σ) : wp J_L_row 15 [vr a0, vi x1, vi x2, vi x3, vr a4, l5] [vr ta0] σ Q :=
  w_gd rfl rfl rfl (Nat.le_of_ble_eq_true rfl) (w_ic rfl kc_1 (w_retG rfl rfl rfl (fun q => Bool.noConfusion q) h))

theorem b_L_index_0 {a0 : Nat} {x1 : Int32} {x2 : Int32} {a3 : Nat} {σ : iS} {Q : iO → iS → Prop} (h : sK σ a0 = 1 ∧ ca J_X_index [vr a0, vi x1, vi x2] σ (hI (fun r1 σ1 => (sK σ1 a3 = 103 ∧ iIn (0 : Int32) (sN σ1 a3)) ∧ (∀ σ2, σ2 = wL σ1 a3 (0 : Int32).toNatClampNeg r1.toInt64 → Q (.inl (some (vi (0 : Int32)))) σ2)) (fun e1 ea1 σ1 => (e1 = 1 → wp J_L_index 13 [vr a0, vi x1, vi x2, vr a3, vl 0] [vr ea1] σ1 Q) ∧ (e1 = 1)))) : ca J_L_index [vr a0, vi x1, vi x2, vr a3] σ Q :=
  w_go rfl rfl (w_ic rfl kc_0 (w_go rfl rfl (w_go rfl rfl (w_go rfl rfl (w_hI rfl rfl rfl ⟨⟨Nat.le_of_ble_eq_true rfl, Nat.le_of_ble_eq_true rfl⟩, h.1⟩ h.2 (fun r1 σ1 k1 => w_go rfl rfl (w_gd rfl rfl rfl k1.1 (w_go rfl rfl (w_ic rfl kc_0 (w_retG rfl rfl rfl (fun q => Bool.noConfusion q) (k1.2 _ rfl)))))) (fun e1 ea1 σ1 k1 => b_h1 rfl k1))))))

theorem b_L_index_13 {a0 : Nat} {x1 : Int32} {x2 : Int32} {a3 : Nat} {l4 : iV} {ta0 : Nat} {σ : iS} {Q : iO → iS → Prop} (h : Q (.inl (some (vi (1 : Int32)))) σ) : wp J_L_index 13 [vr a0, vi x1, vi x2, vr a3, l4] [vr ta0] σ Q :=
  w_gd rfl rfl rfl (Nat.le_of_ble_eq_true rfl) (w_ic rfl kc_1 (w_retG rfl rfl rfl (fun q => Bool.noConfusion q) h))

theorem b_L_search_0 {a0 : Nat} {x1 : Int32} {x2 : Int32} {x3 : Int32} {a4 : Nat} {σ : iS} {Q : iO → iS → Prop} (h : sK σ a0 = 1 ∧ ca J_X_search [vr a0, vi x1, vi x2, vi x3] σ (hI (fun r1 σ1 => (sK σ1 a4 = 103 ∧ iIn (0 : Int32) (sN σ1 a4)) ∧ (∀ σ2, σ2 = wL σ1 a4 (0 : Int32).toNatClampNeg r1.toInt64 → Q (.inl (some (vi (0 : Int32)))) σ2)) (fun e1 ea1 σ1 => (e1 = 1 → wp J_L_search 15 [vr a0, vi x1, vi x2, vi x3, vr a4, vl 0] [vr ea1] σ1 Q) ∧ (e1 = 1)))) : ca J_L_search [vr a0, vi x1, vi x2, vi x3, vr a4] σ Q :=
  w_go rfl rfl (w_ic rfl kc_0 (w_go rfl rfl (w_go rfl rfl (w_go rfl rfl (w_go rfl rfl (w_hI rfl rfl rfl ⟨⟨Nat.le_of_ble_eq_true rfl, Nat.le_of_ble_eq_true rfl⟩, h.1⟩ h.2 (fun r1 σ1 k1 => w_go rfl rfl (w_gd rfl rfl rfl k1.1 (w_go rfl rfl (w_ic rfl kc_0 (w_retG rfl rfl rfl (fun q => Bool.noConfusion q) (k1.2 _ rfl)))))) (fun e1 ea1 σ1 k1 => b_h1 rfl k1)))))))

theorem b_L_search_15 {a0 : Nat} {x1 : Int32} {x2 : Int32} {x3 : Int32} {a4 : Nat} {l5 : iV} {ta0 : Nat} {σ : iS} {Q : iO → iS → Prop} (h : Q (.inl (some (vi (1 : Int32)))) σ) : wp J_L_search 15 [vr a0, vi x1, vi x2, vi x3, vr a4, l5] [vr ta0] σ Q :=
  w_gd rfl rfl rfl (Nat.le_of_ble_eq_true rfl) (w_ic rfl kc_1 (w_retG rfl rfl rfl (fun q => Bool.noConfusion q) h))

theorem b_L_sort_0 {a0 : Nat} {x1 : Int32} {x2 : Int32} {σ : iS} {Q : iO → iS → Prop} (h : sK σ a0 = 1 ∧ ca J_X_sort [vr a0, vi x1, vi x2] σ (hV (fun σ1 => Q (.inl (some (vi (0 : Int32)))) σ1) (fun e1 ea1 σ1 => (e1 = 1 → wp J_L_sort 9 [vr a0, vi x1, vi x2, vl 0] [vr ea1] σ1 Q) ∧ (e1 = 1)))) : ca J_L_sort [vr a0, vi x1, vi x2] σ Q :=
  w_go rfl rfl (w_go rfl rfl (w_go rfl rfl (w_hV rfl rfl rfl ⟨⟨Nat.le_of_ble_eq_true rfl, Nat.le_of_ble_eq_true rfl⟩, h.1⟩ h.2 (fun σ1 k1 => w_go rfl rfl (w_ic rfl kc_0 (w_retG rfl rfl rfl (fun q => Bool.noConfusion q) k1))) (fun e1 ea1 σ1 k1 => b_h1 rfl k1))))

theorem b_L_sort_9 {a0 : Nat} {x1 : Int32} {x2 : Int32} {l3 : iV} {ta0 : Nat} {σ : iS} {Q : iO → iS → Prop} (h : Q (.inl (some (vi (1 : Int32)))) σ) : wp J_L_sort 9 [vr a0, vi x1, vi x2, l3] [vr ta0] σ Q :=
  w_gd rfl rfl rfl (Nat.le_of_ble_eq_true rfl) (w_ic rfl kc_1 (w_retG rfl rfl rfl (fun q => Bool.noConfusion q) h))

theorem b_L_law_switch {a0 : Nat} {a1 : Nat} {a2 : Nat} {a3 : Nat} {x4 : Int32} {l5 : iV} {l6 : iV} {y : Int32} {σ : iS} {Q : iO → iS → Prop} (h : (y = 0 → wp J_L_law 136 [vr a0, vr a1, vr a2, vr a3, vi x4, l5, l6] [] σ Q) ∧ (y = 1 → wp J_L_law 192 [vr a0, vr a1, vr a2, vr a3, vi x4, l5, l6] [] σ Q) ∧ (y = 2 → wp J_L_law 252 [vr a0, vr a1, vr a2, vr a3, vi x4, l5, l6] [] σ Q) ∧ (y = 3 → wp J_L_law 320 [vr a0, vr a1, vr a2, vr a3, vi x4, l5, l6] [] σ Q) ∧ (y = 4 → wp J_L_law 384 [vr a0, vr a1, vr a2, vr a3, vi x4, l5, l6] [] σ Q) ∧ (y = 5 → wp J_L_law 464 [vr a0, vr a1, vr a2, vr a3, vi x4, l5, l6] [] σ Q) ∧ (y = 6 → wp J_L_law 544 [vr a0, vr a1, vr a2, vr a3, vi x4, l5, l6] [] σ Q) ∧ (y = 7 → wp J_L_law 600 [vr a0, vr a1, vr a2, vr a3, vi x4, l5, l6] [] σ Q) ∧ (y = 8 → wp J_L_law 680 [vr a0, vr a1, vr a2, vr a3, vi x4, l5, l6] [] σ Q) ∧ (y = 9 → wp J_L_law 736 [vr a0, vr a1, vr a2, vr a3, vi x4, l5, l6] [] σ Q) ∧ (y = 10 → wp J_L_law 804 [vr a0, vr a1, vr a2, vr a3, vi x4, l5, l6] [] σ Q) ∧ (y = 11 → wp J_L_law 872 [vr a0, vr a1, vr a2, vr a3, vi x4, l5, l6] [] σ Q) ∧ (y = 12 → wp J_L_law 956 [vr a0, vr a1, vr a2, vr a3, vi x4, l5, l6] [] σ Q) ∧ (y = 13 → wp J_L_law 1012 [vr a0, vr a1, vr a2, vr a3, vi x4, l5, l6] [] σ Q) ∧ (y = 14 → wp J_L_law 1080 [vr a0, vr a1, vr a2, vr a3, vi x4, l5, l6] [] σ Q) ∧ (y = 15 → wp J_L_law 1117 [vr a0, vr a1, vr a2, vr a3, vi x4, l5, l6] [] σ Q) ∧ (y = 16 → wp J_L_law 1130 [vr a0, vr a1, vr a2, vr a3, vi x4, l5, l6] [] σ Q) ∧ (y = 17 → wp J_L_law 1186 [vr a0, vr a1, vr a2, vr a3, vi x4, l5, l6] [] σ Q) ∧ (y = 18 → wp J_L_law 1266 [vr a0, vr a1, vr a2, vr a3, vi x4, l5, l6] [] σ Q) ∧ (y = 19 → wp J_L_law 1334 [vr a0, vr a1, vr a2, vr a3, vi x4, l5, l6] [] σ Q) ∧ (y = 20 → wp J_L_law 1430 [vr a0, vr a1, vr a2, vr a3, vi x4, l5, l6] [] σ Q) ∧ ((y ≠ 0 ∧ y ≠ 1 ∧ y ≠ 2 ∧ y ≠ 3 ∧ y ≠ 4 ∧ y ≠ 5 ∧ y ≠ 6 ∧ y ≠ 7 ∧ y ≠ 8 ∧ y ≠ 9 ∧ y ≠ 10 ∧ y ≠ 11 ∧ y ≠ 12 ∧ y ≠ 13 ∧ y ≠ 14 ∧ y ≠ 15 ∧ y ≠ 16 ∧ y ≠ 17 ∧ y ≠ 18 ∧ y ≠ 19 ∧ y ≠ 20) → wp J_L_law 1494 [vr a0, vr a1, vr a2, vr a3, vi x4, l5, l6] [] σ Q)) : wp J_L_law 39 [vr a0, vr a1, vr a2, vr a3, vi x4, l5, l6] [vi y] σ Q := by
  obtain ⟨h0, h1, h2, h3, h4, h5, h6, h7, h8, h9, h10, h11, h12, h13, h14, h15, h16, h17, h18, h19, h20, hd⟩ := h
  by_cases e0 : y = 0
  · subst e0
    exact w_tbI rfl (by decide) (by decide) rfl rfl (h0 rfl)
  by_cases e1 : y = 1
  · subst e1
    exact w_tbI rfl (by decide) (by decide) rfl rfl (h1 rfl)
  by_cases e2 : y = 2
  · subst e2
    exact w_tbI rfl (by decide) (by decide) rfl rfl (h2 rfl)
  by_cases e3 : y = 3
  · subst e3
    exact w_tbI rfl (by decide) (by decide) rfl rfl (h3 rfl)
  by_cases e4 : y = 4
  · subst e4
    exact w_tbI rfl (by decide) (by decide) rfl rfl (h4 rfl)
  by_cases e5 : y = 5
  · subst e5
    exact w_tbI rfl (by decide) (by decide) rfl rfl (h5 rfl)
  by_cases e6 : y = 6
  · subst e6
    exact w_tbI rfl (by decide) (by decide) rfl rfl (h6 rfl)
  by_cases e7 : y = 7
  · subst e7
    exact w_tbI rfl (by decide) (by decide) rfl rfl (h7 rfl)
  by_cases e8 : y = 8
  · subst e8
    exact w_tbI rfl (by decide) (by decide) rfl rfl (h8 rfl)
  by_cases e9 : y = 9
  · subst e9
    exact w_tbI rfl (by decide) (by decide) rfl rfl (h9 rfl)
  by_cases e10 : y = 10
  · subst e10
    exact w_tbI rfl (by decide) (by decide) rfl rfl (h10 rfl)
  by_cases e11 : y = 11
  · subst e11
    exact w_tbI rfl (by decide) (by decide) rfl rfl (h11 rfl)
  by_cases e12 : y = 12
  · subst e12
    exact w_tbI rfl (by decide) (by decide) rfl rfl (h12 rfl)
  by_cases e13 : y = 13
  · subst e13
    exact w_tbI rfl (by decide) (by decide) rfl rfl (h13 rfl)
  by_cases e14 : y = 14
  · subst e14
    exact w_tbI rfl (by decide) (by decide) rfl rfl (h14 rfl)
  by_cases e15 : y = 15
  · subst e15
    exact w_tbI rfl (by decide) (by decide) rfl rfl (h15 rfl)
  by_cases e16 : y = 16
  · subst e16
    exact w_tbI rfl (by decide) (by decide) rfl rfl (h16 rfl)
  by_cases e17 : y = 17
  · subst e17
    exact w_tbI rfl (by decide) (by decide) rfl rfl (h17 rfl)
  by_cases e18 : y = 18
  · subst e18
    exact w_tbI rfl (by decide) (by decide) rfl rfl (h18 rfl)
  by_cases e19 : y = 19
  · subst e19
    exact w_tbI rfl (by decide) (by decide) rfl rfl (h19 rfl)
  by_cases e20 : y = 20
  · subst e20
    exact w_tbI rfl (by decide) (by decide) rfl rfl (h20 rfl)
  have f0 := lv_neT e0 (a := 0) (by decide)
  have f1 := lv_neT e1 (a := 1) (by decide)
  have f2 := lv_neT e2 (a := 2) (by decide)
  have f3 := lv_neT e3 (a := 3) (by decide)
  have f4 := lv_neT e4 (a := 4) (by decide)
  have f5 := lv_neT e5 (a := 5) (by decide)
  have f6 := lv_neT e6 (a := 6) (by decide)
  have f7 := lv_neT e7 (a := 7) (by decide)
  have f8 := lv_neT e8 (a := 8) (by decide)
  have f9 := lv_neT e9 (a := 9) (by decide)
  have f10 := lv_neT e10 (a := 10) (by decide)
  have f11 := lv_neT e11 (a := 11) (by decide)
  have f12 := lv_neT e12 (a := 12) (by decide)
  have f13 := lv_neT e13 (a := 13) (by decide)
  have f14 := lv_neT e14 (a := 14) (by decide)
  have f15 := lv_neT e15 (a := 15) (by decide)
  have f16 := lv_neT e16 (a := 16) (by decide)
  have f17 := lv_neT e17 (a := 17) (by decide)
  have f18 := lv_neT e18 (a := 18) (by decide)
  have f19 := lv_neT e19 (a := 19) (by decide)
  have f20 := lv_neT e20 (a := 20) (by decide)
  exact w_tbO rfl (by omega) rfl (hd ⟨e0, e1, e2, e3, e4, e5, e6, e7, e8, e9, e10, e11, e12, e13, e14, e15, e16, e17, e18, e19, e20⟩)

theorem b_L_law_0 {a0 : Nat} {σ : iS} {Q : iO → iS → Prop} (h : (∀ σ1, σ1 = nO σ 1 10 → sK σ1 (sX σ) = 1 ∧ ca J_X_init [vr (sX σ)] σ1 (cV (fun σ2 => (∀ σ3, σ3 = nO σ2 10 33 → sK σ3 (sX σ2) = 10 ∧ ca J_M_init [vr (sX σ2)] σ3 (cV (fun σ4 => (¬ (1 : Int32) < 0 ∧ (1 : Int32).toNatClampNeg ≤ 100000) ∧ (∀ σ5, σ5 = nA σ4 103 (1 : Int32).toNatClampNeg → wp J_L_law 23 [vr a0, vr (sX σ), vr (sX σ2), vr (sX σ4), vi (0 : Int32), vl 0, vl 0] [] σ5 Q)) Q))) Q))) : ca J_L_law [vr a0] σ Q :=
  w_go rfl rfl (w_go rfl rfl (w_cV rfl rfl rfl ⟨⟨Nat.le_of_ble_eq_true rfl, Nat.le_of_ble_eq_true rfl⟩, (h _ rfl).1⟩ rfl (fun _ => rfl) (h _ rfl).2 (fun σ2 k2 => w_gd rfl rfl rfl (Nat.le_of_ble_eq_true rfl) (w_go rfl rfl (w_go rfl rfl (w_cV rfl rfl rfl ⟨⟨Nat.le_of_ble_eq_true rfl, Nat.le_of_ble_eq_true rfl⟩, (k2 _ rfl).1⟩ rfl (fun _ => rfl) (k2 _ rfl).2 (fun σ4 k4 => w_gd rfl rfl rfl (Nat.le_of_ble_eq_true rfl) (w_ic rfl kc_1 (w_gd rfl rfl rfl k4.1 (w_gd rfl rfl rfl (Nat.le_of_ble_eq_true rfl) (w_ic rfl kc_0 (w_gd rfl rfl rfl (Nat.le_of_ble_eq_true rfl) ((k4.2 _ rfl))))))))))))))

theorem b_L_law_23 {a0 : Nat} {a1 : Nat} {a2 : Nat} {a3 : Nat} {x4 : Int32} {l5 : iV} {l6 : iV} {σ : iS} {Q : iO → iS → Prop} (h : iArr (sK σ a0) = true ∧ ((((nI (sN σ a0)) - (4 : Int32)) < x4 → iBool (1 : Int32) ∧ Q (.inl (some (vi (1 : Int32)))) σ) ∧ (¬ (((nI (sN σ a0)) - (4 : Int32)) < x4) → (sK σ a0 = 100 ∧ iIn x4 (sN σ a0)) ∧ ((((sA σ a0 x4.toNatClampNeg) &&& (31 : Int32)) = 0 → wp J_L_law 136 [vr a0, vr a1, vr a2, vr a3, vi x4, l5, l6] [] σ Q) ∧ (((sA σ a0 x4.toNatClampNeg) &&& (31 : Int32)) = 1 → wp J_L_law 192 [vr a0, vr a1, vr a2, vr a3, vi x4, l5, l6] [] σ Q) ∧ (((sA σ a0 x4.toNatClampNeg) &&& (31 : Int32)) = 2 → wp J_L_law 252 [vr a0, vr a1, vr a2, vr a3, vi x4, l5, l6] [] σ Q) ∧ (((sA σ a0 x4.toNatClampNeg) &&& (31 : Int32)) = 3 → wp J_L_law 320 [vr a0, vr a1, vr a2, vr a3, vi x4, l5, l6] [] σ Q) ∧ (((sA σ a0 x4.toNatClampNeg) &&& (31 : Int32)) = 4 → wp J_L_law 384 [vr a0, vr a1, vr a2, vr a3, vi x4, l5, l6] [] σ Q) ∧ (((sA σ a0 x4.toNatClampNeg) &&& (31 : Int32)) = 5 → wp J_L_law 464 [vr a0, vr a1, vr a2, vr a3, vi x4, l5, l6] [] σ Q) ∧ (((sA σ a0 x4.toNatClampNeg) &&& (31 : Int32)) = 6 → wp J_L_law 544 [vr a0, vr a1, vr a2, vr a3, vi x4, l5, l6] [] σ Q) ∧ (((sA σ a0 x4.toNatClampNeg) &&& (31 : Int32)) = 7 → wp J_L_law 600 [vr a0, vr a1, vr a2, vr a3, vi x4, l5, l6] [] σ Q) ∧ (((sA σ a0 x4.toNatClampNeg) &&& (31 : Int32)) = 8 → wp J_L_law 680 [vr a0, vr a1, vr a2, vr a3, vi x4, l5, l6] [] σ Q) ∧ (((sA σ a0 x4.toNatClampNeg) &&& (31 : Int32)) = 9 → wp J_L_law 736 [vr a0, vr a1, vr a2, vr a3, vi x4, l5, l6] [] σ Q) ∧ (((sA σ a0 x4.toNatClampNeg) &&& (31 : Int32)) = 10 → wp J_L_law 804 [vr a0, vr a1, vr a2, vr a3, vi x4, l5, l6] [] σ Q) ∧ (((sA σ a0 x4.toNatClampNeg) &&& (31 : Int32)) = 11 → wp J_L_law 872 [vr a0, vr a1, vr a2, vr a3, vi x4, l5, l6] [] σ Q) ∧ (((sA σ a0 x4.toNatClampNeg) &&& (31 : Int32)) = 12 → wp J_L_law 956 [vr a0, vr a1, vr a2, vr a3, vi x4, l5, l6] [] σ Q) ∧ (((sA σ a0 x4.toNatClampNeg) &&& (31 : Int32)) = 13 → wp J_L_law 1012 [vr a0, vr a1, vr a2, vr a3, vi x4, l5, l6] [] σ Q) ∧ (((sA σ a0 x4.toNatClampNeg) &&& (31 : Int32)) = 14 → wp J_L_law 1080 [vr a0, vr a1, vr a2, vr a3, vi x4, l5, l6] [] σ Q) ∧ (((sA σ a0 x4.toNatClampNeg) &&& (31 : Int32)) = 15 → wp J_L_law 1117 [vr a0, vr a1, vr a2, vr a3, vi x4, l5, l6] [] σ Q) ∧ (((sA σ a0 x4.toNatClampNeg) &&& (31 : Int32)) = 16 → wp J_L_law 1130 [vr a0, vr a1, vr a2, vr a3, vi x4, l5, l6] [] σ Q) ∧ (((sA σ a0 x4.toNatClampNeg) &&& (31 : Int32)) = 17 → wp J_L_law 1186 [vr a0, vr a1, vr a2, vr a3, vi x4, l5, l6] [] σ Q) ∧ (((sA σ a0 x4.toNatClampNeg) &&& (31 : Int32)) = 18 → wp J_L_law 1266 [vr a0, vr a1, vr a2, vr a3, vi x4, l5, l6] [] σ Q) ∧ (((sA σ a0 x4.toNatClampNeg) &&& (31 : Int32)) = 19 → wp J_L_law 1334 [vr a0, vr a1, vr a2, vr a3, vi x4, l5, l6] [] σ Q) ∧ (((sA σ a0 x4.toNatClampNeg) &&& (31 : Int32)) = 20 → wp J_L_law 1430 [vr a0, vr a1, vr a2, vr a3, vi x4, l5, l6] [] σ Q) ∧ ((((sA σ a0 x4.toNatClampNeg) &&& (31 : Int32)) ≠ 0 ∧ ((sA σ a0 x4.toNatClampNeg) &&& (31 : Int32)) ≠ 1 ∧ ((sA σ a0 x4.toNatClampNeg) &&& (31 : Int32)) ≠ 2 ∧ ((sA σ a0 x4.toNatClampNeg) &&& (31 : Int32)) ≠ 3 ∧ ((sA σ a0 x4.toNatClampNeg) &&& (31 : Int32)) ≠ 4 ∧ ((sA σ a0 x4.toNatClampNeg) &&& (31 : Int32)) ≠ 5 ∧ ((sA σ a0 x4.toNatClampNeg) &&& (31 : Int32)) ≠ 6 ∧ ((sA σ a0 x4.toNatClampNeg) &&& (31 : Int32)) ≠ 7 ∧ ((sA σ a0 x4.toNatClampNeg) &&& (31 : Int32)) ≠ 8 ∧ ((sA σ a0 x4.toNatClampNeg) &&& (31 : Int32)) ≠ 9 ∧ ((sA σ a0 x4.toNatClampNeg) &&& (31 : Int32)) ≠ 10 ∧ ((sA σ a0 x4.toNatClampNeg) &&& (31 : Int32)) ≠ 11 ∧ ((sA σ a0 x4.toNatClampNeg) &&& (31 : Int32)) ≠ 12 ∧ ((sA σ a0 x4.toNatClampNeg) &&& (31 : Int32)) ≠ 13 ∧ ((sA σ a0 x4.toNatClampNeg) &&& (31 : Int32)) ≠ 14 ∧ ((sA σ a0 x4.toNatClampNeg) &&& (31 : Int32)) ≠ 15 ∧ ((sA σ a0 x4.toNatClampNeg) &&& (31 : Int32)) ≠ 16 ∧ ((sA σ a0 x4.toNatClampNeg) &&& (31 : Int32)) ≠ 17 ∧ ((sA σ a0 x4.toNatClampNeg) &&& (31 : Int32)) ≠ 18 ∧ ((sA σ a0 x4.toNatClampNeg) &&& (31 : Int32)) ≠ 19 ∧ ((sA σ a0 x4.toNatClampNeg) &&& (31 : Int32)) ≠ 20) → wp J_L_law 1494 [vr a0, vr a1, vr a2, vr a3, vi x4, l5, l6] [] σ Q))))) : wp J_L_law 23 [vr a0, vr a1, vr a2, vr a3, vi x4, l5, l6] [] σ Q :=
  w_go rfl rfl (w_go rfl rfl (w_gd rfl rfl rfl h.1 (w_ic rfl kc_4 (w_go rfl rfl (w_br rfl rfl rfl rfl (fun c1 => w_ic rfl kc_1 (w_retG rfl rfl rfl (fun _ => (h.2.1 c1).1) (h.2.1 c1).2)) (fun c1 => w_go rfl rfl (w_go rfl rfl (w_gd rfl rfl rfl ⟨Or.inl (h.2.2 c1).1.1, (h.2.2 c1).1.2⟩ (w_bp rfl kb_31 (w_go rfl rfl (b_L_law_switch (h.2.2 c1).2)))))))))))

theorem b_L_law_136 {a0 : Nat} {a1 : Nat} {a2 : Nat} {a3 : Nat} {x4 : Int32} {l5 : iV} {l6 : iV} {σ : iS} {Q : iO → iS → Prop} (h : (sK σ a0 = 100 ∧ iIn (x4 + (1 : Int32)) (sN σ a0)) ∧ (ca J_L_text [vr a1, vi (sA σ a0 (x4 + (1 : Int32)).toNatClampNeg), vr a3] σ (cI (fun r1 σ1 => (sK σ1 a0 = 100 ∧ iIn (x4 + (1 : Int32)) (sN σ1 a0)) ∧ (sK σ1 a2 = 10 ∧ ca J_M_text [vr a2, vi (sA σ1 a0 (x4 + (1 : Int32)).toNatClampNeg)] σ1 (cI (fun r2 σ2 => sK σ2 a2 = 10 ∧ ca J_M_thrown [vr a2] σ2 (cI (fun r3 σ3 => (r3 = r1 → (r1 ≠ 0 → wp J_L_law 189 [vr a0, vr a1, vr a2, vr a3, vi x4, vi r1, vi r2] [] σ3 Q) ∧ (¬ (r1 ≠ 0) → (sK σ3 a3 = 103 ∧ iIn (0 : Int32) (sN σ3 a3)) ∧ ((sL σ3 a3 (0 : Int32).toNatClampNeg = r2.toInt64 → wp J_L_law 189 [vr a0, vr a1, vr a2, vr a3, vi x4, vi r1, vi r2] [] σ3 Q) ∧ (¬ sL σ3 a3 (0 : Int32).toNatClampNeg = r2.toInt64 → iBool (0 : Int32) ∧ Q (.inl (some (vi (0 : Int32)))) σ3)))) ∧ (¬ (r3 = r1) → iBool (0 : Int32) ∧ Q (.inl (some (vi (0 : Int32)))) σ3)) Q)) Q))) Q))) : wp J_L_law 136 [vr a0, vr a1, vr a2, vr a3, vi x4, l5, l6] [] σ Q :=
  w_go rfl rfl (w_go rfl rfl (w_go rfl rfl (w_ic rfl kc_1 (w_go rfl rfl (w_gd rfl rfl rfl ⟨Or.inl h.1.1, h.1.2⟩ (w_go rfl rfl (w_cI rfl rfl rfl ⟨Nat.le_of_ble_eq_true rfl, Nat.le_of_ble_eq_true rfl⟩ rfl (fun _ => rfl) h.2 (fun r1 σ1 k1 => w_gd rfl rfl rfl (Nat.le_of_ble_eq_true rfl) (w_go rfl rfl (w_go rfl rfl (w_go rfl rfl (w_ic rfl kc_1 (w_go rfl rfl (w_gd rfl rfl rfl ⟨Or.inl k1.1.1, k1.1.2⟩ (w_cI rfl rfl rfl ⟨⟨Nat.le_of_ble_eq_true rfl, Nat.le_of_ble_eq_true rfl⟩, k1.2.1⟩ rfl (fun _ => rfl) k1.2.2 (fun r2 σ2 k2 => w_gd rfl rfl rfl (Nat.le_of_ble_eq_true rfl) (w_go rfl rfl (w_cI rfl rfl rfl ⟨⟨Nat.le_of_ble_eq_true rfl, Nat.le_of_ble_eq_true rfl⟩, k2.1⟩ rfl (fun _ => rfl) k2.2 (fun r3 σ3 k3 => w_go rfl rfl (w_br rfl rfl rfl rfl (fun c4 => w_go rfl rfl (w_br rfl rfl rfl rfl (fun c5 => ((k3.1 c4).1 c5)) (fun c5 => w_go rfl rfl (w_ic rfl kc_0 (w_gd rfl rfl rfl ((k3.1 c4).2 c5).1 (w_go rfl rfl (w_go rfl rfl (w_lcE rfl rfl rfl rfl (fun c6 => (((k3.1 c4).2 c5).2.1 c6)) (fun c6 => w_ic rfl kc_0 (w_retG rfl rfl rfl (fun _ => (((k3.1 c4).2 c5).2.2 c6).1) (((k3.1 c4).2 c5).2.2 c6).2)))))))))) (fun c4 => w_ic rfl kc_0 (w_retG rfl rfl rfl (fun _ => (k3.2 c4).1) (k3.2 c4).2))))))))))))))))))))))

theorem b_L_law_189 {a0 : Nat} {a1 : Nat} {a2 : Nat} {a3 : Nat} {x4 : Int32} {x5 : Int32} {x6 : Int32} {σ : iS} {Q : iO → iS → Prop} (h : wp J_L_law 1494 [vr a0, vr a1, vr a2, vr a3, vi x4, vi x5, vi x6] [] σ Q) : wp J_L_law 189 [vr a0, vr a1, vr a2, vr a3, vi x4, vi x5, vi x6] [] σ Q :=
  w_go rfl rfl (h)

theorem b_L_law_192 {a0 : Nat} {a1 : Nat} {a2 : Nat} {a3 : Nat} {x4 : Int32} {l5 : iV} {l6 : iV} {σ : iS} {Q : iO → iS → Prop} (h : (sK σ a0 = 100 ∧ iIn (x4 + (1 : Int32)) (sN σ a0)) ∧ ((sK σ a0 = 100 ∧ iIn (x4 + (2 : Int32)) (sN σ a0)) ∧ ((sK σ a0 = 100 ∧ iIn (x4 + (3 : Int32)) (sN σ a0)) ∧ (ca J_L_set [vr a1, vi (sA σ a0 (x4 + (1 : Int32)).toNatClampNeg), vi (sA σ a0 (x4 + (2 : Int32)).toNatClampNeg), vi (sA σ a0 (x4 + (3 : Int32)).toNatClampNeg)] σ (cI (fun r1 σ1 => (sK σ1 a0 = 100 ∧ iIn (x4 + (1 : Int32)) (sN σ1 a0)) ∧ ((sK σ1 a0 = 100 ∧ iIn (x4 + (2 : Int32)) (sN σ1 a0)) ∧ ((sK σ1 a0 = 100 ∧ iIn (x4 + (3 : Int32)) (sN σ1 a0)) ∧ (sK σ1 a2 = 10 ∧ ca J_M_set [vr a2, vi (sA σ1 a0 (x4 + (1 : Int32)).toNatClampNeg), vi (sA σ1 a0 (x4 + (2 : Int32)).toNatClampNeg), vi (sA σ1 a0 (x4 + (3 : Int32)).toNatClampNeg)] σ1 (cV (fun σ2 => sK σ2 a2 = 10 ∧ ca J_M_thrown [vr a2] σ2 (cI (fun r3 σ3 => (r3 = r1 → wp J_L_law 1494 [vr a0, vr a1, vr a2, vr a3, vi x4, vi r1, l6] [] σ3 Q) ∧ (¬ (r3 = r1) → iBool (0 : Int32) ∧ Q (.inl (some (vi (0 : Int32)))) σ3)) Q)) Q))))) Q))))) : wp J_L_law 192 [vr a0, vr a1, vr a2, vr a3, vi x4, l5, l6] [] σ Q :=
  w_go rfl rfl (w_go rfl rfl (w_go rfl rfl (w_ic rfl kc_1 (w_go rfl rfl (w_gd rfl rfl rfl ⟨Or.inl h.1.1, h.1.2⟩ (w_go rfl rfl (w_go rfl rfl (w_ic rfl kc_2 (w_go rfl rfl (w_gd rfl rfl rfl ⟨Or.inl h.2.1.1, h.2.1.2⟩ (w_go rfl rfl (w_go rfl rfl (w_ic rfl kc_3 (w_go rfl rfl (w_gd rfl rfl rfl ⟨Or.inl h.2.2.1.1, h.2.2.1.2⟩ (w_cI rfl rfl rfl ⟨Nat.le_of_ble_eq_true rfl, Nat.le_of_ble_eq_true rfl⟩ rfl (fun _ => rfl) h.2.2.2 (fun r1 σ1 k1 => w_gd rfl rfl rfl (Nat.le_of_ble_eq_true rfl) (w_go rfl rfl (w_go rfl rfl (w_go rfl rfl (w_ic rfl kc_1 (w_go rfl rfl (w_gd rfl rfl rfl ⟨Or.inl k1.1.1, k1.1.2⟩ (w_go rfl rfl (w_go rfl rfl (w_ic rfl kc_2 (w_go rfl rfl (w_gd rfl rfl rfl ⟨Or.inl k1.2.1.1, k1.2.1.2⟩ (w_go rfl rfl (w_go rfl rfl (w_ic rfl kc_3 (w_go rfl rfl (w_gd rfl rfl rfl ⟨Or.inl k1.2.2.1.1, k1.2.2.1.2⟩ (w_cV rfl rfl rfl ⟨⟨Nat.le_of_ble_eq_true rfl, Nat.le_of_ble_eq_true rfl⟩, k1.2.2.2.1⟩ rfl (fun _ => rfl) k1.2.2.2.2 (fun σ2 k2 => w_go rfl rfl (w_cI rfl rfl rfl ⟨⟨Nat.le_of_ble_eq_true rfl, Nat.le_of_ble_eq_true rfl⟩, k2.1⟩ rfl (fun _ => rfl) k2.2 (fun r3 σ3 k3 => w_go rfl rfl (w_br rfl rfl rfl rfl (fun c4 => w_go rfl rfl ((k3.1 c4))) (fun c4 => w_ic rfl kc_0 (w_retG rfl rfl rfl (fun _ => (k3.2 c4).1) (k3.2 c4).2))))))))))))))))))))))))))))))))))))))))

theorem b_L_law_252 {a0 : Nat} {a1 : Nat} {a2 : Nat} {a3 : Nat} {x4 : Int32} {l5 : iV} {l6 : iV} {σ : iS} {Q : iO → iS → Prop} (h : (sK σ a0 = 100 ∧ iIn (x4 + (1 : Int32)) (sN σ a0)) ∧ ((sK σ a0 = 100 ∧ iIn (x4 + (2 : Int32)) (sN σ a0)) ∧ (ca J_L_at [vr a1, vi (sA σ a0 (x4 + (1 : Int32)).toNatClampNeg), vi (sA σ a0 (x4 + (2 : Int32)).toNatClampNeg), vr a3] σ (cI (fun r1 σ1 => (sK σ1 a0 = 100 ∧ iIn (x4 + (1 : Int32)) (sN σ1 a0)) ∧ ((sK σ1 a0 = 100 ∧ iIn (x4 + (2 : Int32)) (sN σ1 a0)) ∧ (sK σ1 a2 = 10 ∧ ca J_M_at [vr a2, vi (sA σ1 a0 (x4 + (1 : Int32)).toNatClampNeg), vi (sA σ1 a0 (x4 + (2 : Int32)).toNatClampNeg)] σ1 (cI (fun r2 σ2 => sK σ2 a2 = 10 ∧ ca J_M_thrown [vr a2] σ2 (cI (fun r3 σ3 => (r3 = r1 → (r1 ≠ 0 → wp J_L_law 317 [vr a0, vr a1, vr a2, vr a3, vi x4, vi r1, vi r2] [] σ3 Q) ∧ (¬ (r1 ≠ 0) → (sK σ3 a3 = 103 ∧ iIn (0 : Int32) (sN σ3 a3)) ∧ ((sL σ3 a3 (0 : Int32).toNatClampNeg = r2.toInt64 → wp J_L_law 317 [vr a0, vr a1, vr a2, vr a3, vi x4, vi r1, vi r2] [] σ3 Q) ∧ (¬ sL σ3 a3 (0 : Int32).toNatClampNeg = r2.toInt64 → iBool (0 : Int32) ∧ Q (.inl (some (vi (0 : Int32)))) σ3)))) ∧ (¬ (r3 = r1) → iBool (0 : Int32) ∧ Q (.inl (some (vi (0 : Int32)))) σ3)) Q)) Q)))) Q)))) : wp J_L_law 252 [vr a0, vr a1, vr a2, vr a3, vi x4, l5, l6] [] σ Q :=
  w_go rfl rfl (w_go rfl rfl (w_go rfl rfl (w_ic rfl kc_1 (w_go rfl rfl (w_gd rfl rfl rfl ⟨Or.inl h.1.1, h.1.2⟩ (w_go rfl rfl (w_go rfl rfl (w_ic rfl kc_2 (w_go rfl rfl (w_gd rfl rfl rfl ⟨Or.inl h.2.1.1, h.2.1.2⟩ (w_go rfl rfl (w_cI rfl rfl rfl ⟨Nat.le_of_ble_eq_true rfl, Nat.le_of_ble_eq_true rfl⟩ rfl (fun _ => rfl) h.2.2 (fun r1 σ1 k1 => w_gd rfl rfl rfl (Nat.le_of_ble_eq_true rfl) (w_go rfl rfl (w_go rfl rfl (w_go rfl rfl (w_ic rfl kc_1 (w_go rfl rfl (w_gd rfl rfl rfl ⟨Or.inl k1.1.1, k1.1.2⟩ (w_go rfl rfl (w_go rfl rfl (w_ic rfl kc_2 (w_go rfl rfl (w_gd rfl rfl rfl ⟨Or.inl k1.2.1.1, k1.2.1.2⟩ (w_cI rfl rfl rfl ⟨⟨Nat.le_of_ble_eq_true rfl, Nat.le_of_ble_eq_true rfl⟩, k1.2.2.1⟩ rfl (fun _ => rfl) k1.2.2.2 (fun r2 σ2 k2 => w_gd rfl rfl rfl (Nat.le_of_ble_eq_true rfl) (w_go rfl rfl (w_cI rfl rfl rfl ⟨⟨Nat.le_of_ble_eq_true rfl, Nat.le_of_ble_eq_true rfl⟩, k2.1⟩ rfl (fun _ => rfl) k2.2 (fun r3 σ3 k3 => w_go rfl rfl (w_br rfl rfl rfl rfl (fun c4 => w_go rfl rfl (w_br rfl rfl rfl rfl (fun c5 => ((k3.1 c4).1 c5)) (fun c5 => w_go rfl rfl (w_ic rfl kc_0 (w_gd rfl rfl rfl ((k3.1 c4).2 c5).1 (w_go rfl rfl (w_go rfl rfl (w_lcE rfl rfl rfl rfl (fun c6 => (((k3.1 c4).2 c5).2.1 c6)) (fun c6 => w_ic rfl kc_0 (w_retG rfl rfl rfl (fun _ => (((k3.1 c4).2 c5).2.2 c6).1) (((k3.1 c4).2 c5).2.2 c6).2)))))))))) (fun c4 => w_ic rfl kc_0 (w_retG rfl rfl rfl (fun _ => (k3.2 c4).1) (k3.2 c4).2))))))))))))))))))))))))))))))))

theorem b_L_law_317 {a0 : Nat} {a1 : Nat} {a2 : Nat} {a3 : Nat} {x4 : Int32} {x5 : Int32} {x6 : Int32} {σ : iS} {Q : iO → iS → Prop} (h : wp J_L_law 1494 [vr a0, vr a1, vr a2, vr a3, vi x4, vi x5, vi x6] [] σ Q) : wp J_L_law 317 [vr a0, vr a1, vr a2, vr a3, vi x4, vi x5, vi x6] [] σ Q :=
  w_go rfl rfl (h)

theorem b_L_law_320 {a0 : Nat} {a1 : Nat} {a2 : Nat} {a3 : Nat} {x4 : Int32} {l5 : iV} {l6 : iV} {σ : iS} {Q : iO → iS → Prop} (h : (sK σ a0 = 100 ∧ iIn (x4 + (1 : Int32)) (sN σ a0)) ∧ (((sA σ a0 (x4 + (1 : Int32)).toNatClampNeg) = 0 → wp J_L_law 335 [vr a0, vr a1, vr a2, vr a3, vi x4, l5, l6] [vi (0 : Int32), vr a1] σ Q) ∧ (¬ ((sA σ a0 (x4 + (1 : Int32)).toNatClampNeg) = 0) → wp J_L_law 335 [vr a0, vr a1, vr a2, vr a3, vi x4, l5, l6] [vi (1 : Int32), vr a1] σ Q))) : wp J_L_law 320 [vr a0, vr a1, vr a2, vr a3, vi x4, l5, l6] [] σ Q :=
  w_go rfl rfl (w_go rfl rfl (w_go rfl rfl (w_ic rfl kc_1 (w_go rfl rfl (w_gd rfl rfl rfl ⟨Or.inl h.1.1, h.1.2⟩ (w_br rfl rfl rfl rfl (fun c1 => w_ic rfl kc_0 ((h.2.1 c1))) (fun c1 => w_ic rfl kc_1 (w_go rfl rfl ((h.2.2 c1))))))))))

theorem b_L_law_335 {a0 : Nat} {a1 : Nat} {a2 : Nat} {a3 : Nat} {x4 : Int32} {l5 : iV} {l6 : iV} {tx0 : Int32} {ta1 : Nat} {σ : iS} {Q : iO → iS → Prop} (h : (sK σ a0 = 100 ∧ iIn (x4 + (2 : Int32)) (sN σ a0)) ∧ (ca J_L_span [vr ta1, vi tx0, vi (sA σ a0 (x4 + (2 : Int32)).toNatClampNeg)] σ (cI (fun r1 σ1 => (sK σ1 a0 = 100 ∧ iIn (x4 + (1 : Int32)) (sN σ1 a0)) ∧ (((sA σ1 a0 (x4 + (1 : Int32)).toNatClampNeg) = 0 → wp J_L_law 361 [vr a0, vr a1, vr a2, vr a3, vi x4, vi r1, l6] [vi (0 : Int32), vr a2] σ1 Q) ∧ (¬ ((sA σ1 a0 (x4 + (1 : Int32)).toNatClampNeg) = 0) → wp J_L_law 361 [vr a0, vr a1, vr a2, vr a3, vi x4, vi r1, l6] [vi (1 : Int32), vr a2] σ1 Q))) Q))) : wp J_L_law 335 [vr a0, vr a1, vr a2, vr a3, vi x4, l5, l6] [vi tx0, vr ta1] σ Q :=
  w_go rfl rfl (w_go rfl rfl (w_ic rfl kc_2 (w_go rfl rfl (w_gd rfl rfl rfl ⟨Or.inl h.1.1, h.1.2⟩ (w_cI rfl rfl rfl ⟨Nat.le_of_ble_eq_true rfl, Nat.le_of_ble_eq_true rfl⟩ rfl (fun _ => rfl) h.2 (fun r1 σ1 k1 => w_gd rfl rfl rfl (Nat.le_of_ble_eq_true rfl) (w_go rfl rfl (w_go rfl rfl (w_go rfl rfl (w_ic rfl kc_1 (w_go rfl rfl (w_gd rfl rfl rfl ⟨Or.inl k1.1.1, k1.1.2⟩ (w_br rfl rfl rfl rfl (fun c2 => w_ic rfl kc_0 ((k1.2.1 c2))) (fun c2 => w_ic rfl kc_1 (w_go rfl rfl ((k1.2.2 c2)))))))))))))))))

theorem b_L_law_361 {a0 : Nat} {a1 : Nat} {a2 : Nat} {a3 : Nat} {x4 : Int32} {x5 : Int32} {l6 : iV} {tx0 : Int32} {ta1 : Nat} {σ : iS} {Q : iO → iS → Prop} (h : (sK σ a0 = 100 ∧ iIn (x4 + (2 : Int32)) (sN σ a0)) ∧ (sK σ ta1 = 10 ∧ ca J_M_span [vr ta1, vi tx0, vi (sA σ a0 (x4 + (2 : Int32)).toNatClampNeg)] σ (cV (fun σ1 => sK σ1 a2 = 10 ∧ ca J_M_thrown [vr a2] σ1 (cI (fun r2 σ2 => (r2 = x5 → wp J_L_law 1494 [vr a0, vr a1, vr a2, vr a3, vi x4, vi x5, l6] [] σ2 Q) ∧ (¬ (r2 = x5) → iBool (0 : Int32) ∧ Q (.inl (some (vi (0 : Int32)))) σ2)) Q)) Q))) : wp J_L_law 361 [vr a0, vr a1, vr a2, vr a3, vi x4, vi x5, l6] [vi tx0, vr ta1] σ Q :=
  w_go rfl rfl (w_go rfl rfl (w_ic rfl kc_2 (w_go rfl rfl (w_gd rfl rfl rfl ⟨Or.inl h.1.1, h.1.2⟩ (w_cV rfl rfl rfl ⟨⟨Nat.le_of_ble_eq_true rfl, Nat.le_of_ble_eq_true rfl⟩, h.2.1⟩ rfl (fun _ => rfl) h.2.2 (fun σ1 k1 => w_go rfl rfl (w_cI rfl rfl rfl ⟨⟨Nat.le_of_ble_eq_true rfl, Nat.le_of_ble_eq_true rfl⟩, k1.1⟩ rfl (fun _ => rfl) k1.2 (fun r2 σ2 k2 => w_go rfl rfl (w_br rfl rfl rfl rfl (fun c3 => w_go rfl rfl ((k2.1 c3))) (fun c3 => w_ic rfl kc_0 (w_retG rfl rfl rfl (fun _ => (k2.2 c3).1) (k2.2 c3).2)))))))))))

theorem b_L_law_384 {a0 : Nat} {a1 : Nat} {a2 : Nat} {a3 : Nat} {x4 : Int32} {l5 : iV} {l6 : iV} {σ : iS} {Q : iO → iS → Prop} (h : (sK σ a0 = 100 ∧ iIn (x4 + (1 : Int32)) (sN σ a0)) ∧ ((sK σ a0 = 100 ∧ iIn (x4 + (2 : Int32)) (sN σ a0)) ∧ ((sK σ a0 = 100 ∧ iIn (x4 + (3 : Int32)) (sN σ a0)) ∧ (ca J_L_tally [vr a1, vi (sA σ a0 (x4 + (1 : Int32)).toNatClampNeg), vi (sA σ a0 (x4 + (2 : Int32)).toNatClampNeg), vi (sA σ a0 (x4 + (3 : Int32)).toNatClampNeg), vr a3] σ (cI (fun r1 σ1 => (sK σ1 a0 = 100 ∧ iIn (x4 + (1 : Int32)) (sN σ1 a0)) ∧ ((sK σ1 a0 = 100 ∧ iIn (x4 + (2 : Int32)) (sN σ1 a0)) ∧ ((sK σ1 a0 = 100 ∧ iIn (x4 + (3 : Int32)) (sN σ1 a0)) ∧ (sK σ1 a2 = 10 ∧ ca J_M_tally [vr a2, vi (sA σ1 a0 (x4 + (1 : Int32)).toNatClampNeg), vi (sA σ1 a0 (x4 + (2 : Int32)).toNatClampNeg), vi (sA σ1 a0 (x4 + (3 : Int32)).toNatClampNeg)] σ1 (cI (fun r2 σ2 => sK σ2 a2 = 10 ∧ ca J_M_thrown [vr a2] σ2 (cI (fun r3 σ3 => (r3 = r1 → (r1 ≠ 0 → wp J_L_law 461 [vr a0, vr a1, vr a2, vr a3, vi x4, vi r1, vi r2] [] σ3 Q) ∧ (¬ (r1 ≠ 0) → (sK σ3 a3 = 103 ∧ iIn (0 : Int32) (sN σ3 a3)) ∧ ((sL σ3 a3 (0 : Int32).toNatClampNeg = r2.toInt64 → wp J_L_law 461 [vr a0, vr a1, vr a2, vr a3, vi x4, vi r1, vi r2] [] σ3 Q) ∧ (¬ sL σ3 a3 (0 : Int32).toNatClampNeg = r2.toInt64 → iBool (0 : Int32) ∧ Q (.inl (some (vi (0 : Int32)))) σ3)))) ∧ (¬ (r3 = r1) → iBool (0 : Int32) ∧ Q (.inl (some (vi (0 : Int32)))) σ3)) Q)) Q))))) Q))))) : wp J_L_law 384 [vr a0, vr a1, vr a2, vr a3, vi x4, l5, l6] [] σ Q :=
  w_go rfl rfl (w_go rfl rfl (w_go rfl rfl (w_ic rfl kc_1 (w_go rfl rfl (w_gd rfl rfl rfl ⟨Or.inl h.1.1, h.1.2⟩ (w_go rfl rfl (w_go rfl rfl (w_ic rfl kc_2 (w_go rfl rfl (w_gd rfl rfl rfl ⟨Or.inl h.2.1.1, h.2.1.2⟩ (w_go rfl rfl (w_go rfl rfl (w_ic rfl kc_3 (w_go rfl rfl (w_gd rfl rfl rfl ⟨Or.inl h.2.2.1.1, h.2.2.1.2⟩ (w_go rfl rfl (w_cI rfl rfl rfl ⟨Nat.le_of_ble_eq_true rfl, Nat.le_of_ble_eq_true rfl⟩ rfl (fun _ => rfl) h.2.2.2 (fun r1 σ1 k1 => w_gd rfl rfl rfl (Nat.le_of_ble_eq_true rfl) (w_go rfl rfl (w_go rfl rfl (w_go rfl rfl (w_ic rfl kc_1 (w_go rfl rfl (w_gd rfl rfl rfl ⟨Or.inl k1.1.1, k1.1.2⟩ (w_go rfl rfl (w_go rfl rfl (w_ic rfl kc_2 (w_go rfl rfl (w_gd rfl rfl rfl ⟨Or.inl k1.2.1.1, k1.2.1.2⟩ (w_go rfl rfl (w_go rfl rfl (w_ic rfl kc_3 (w_go rfl rfl (w_gd rfl rfl rfl ⟨Or.inl k1.2.2.1.1, k1.2.2.1.2⟩ (w_cI rfl rfl rfl ⟨⟨Nat.le_of_ble_eq_true rfl, Nat.le_of_ble_eq_true rfl⟩, k1.2.2.2.1⟩ rfl (fun _ => rfl) k1.2.2.2.2 (fun r2 σ2 k2 => w_gd rfl rfl rfl (Nat.le_of_ble_eq_true rfl) (w_go rfl rfl (w_cI rfl rfl rfl ⟨⟨Nat.le_of_ble_eq_true rfl, Nat.le_of_ble_eq_true rfl⟩, k2.1⟩ rfl (fun _ => rfl) k2.2 (fun r3 σ3 k3 => w_go rfl rfl (w_br rfl rfl rfl rfl (fun c4 => w_go rfl rfl (w_br rfl rfl rfl rfl (fun c5 => ((k3.1 c4).1 c5)) (fun c5 => w_go rfl rfl (w_ic rfl kc_0 (w_gd rfl rfl rfl ((k3.1 c4).2 c5).1 (w_go rfl rfl (w_go rfl rfl (w_lcE rfl rfl rfl rfl (fun c6 => (((k3.1 c4).2 c5).2.1 c6)) (fun c6 => w_ic rfl kc_0 (w_retG rfl rfl rfl (fun _ => (((k3.1 c4).2 c5).2.2 c6).1) (((k3.1 c4).2 c5).2.2 c6).2)))))))))) (fun c4 => w_ic rfl kc_0 (w_retG rfl rfl rfl (fun _ => (k3.2 c4).1) (k3.2 c4).2))))))))))))))))))))))))))))))))))))))))))

theorem b_L_law_461 {a0 : Nat} {a1 : Nat} {a2 : Nat} {a3 : Nat} {x4 : Int32} {x5 : Int32} {x6 : Int32} {σ : iS} {Q : iO → iS → Prop} (h : wp J_L_law 1494 [vr a0, vr a1, vr a2, vr a3, vi x4, vi x5, vi x6] [] σ Q) : wp J_L_law 461 [vr a0, vr a1, vr a2, vr a3, vi x4, vi x5, vi x6] [] σ Q :=
  w_go rfl rfl (h)

theorem b_L_law_464 {a0 : Nat} {a1 : Nat} {a2 : Nat} {a3 : Nat} {x4 : Int32} {l5 : iV} {l6 : iV} {σ : iS} {Q : iO → iS → Prop} (h : (sK σ a0 = 100 ∧ iIn (x4 + (1 : Int32)) (sN σ a0)) ∧ ((sK σ a0 = 100 ∧ iIn (x4 + (2 : Int32)) (sN σ a0)) ∧ ((sK σ a0 = 100 ∧ iIn (x4 + (3 : Int32)) (sN σ a0)) ∧ (ca J_L_replace [vr a1, vi (sA σ a0 (x4 + (1 : Int32)).toNatClampNeg), vi (sA σ a0 (x4 + (2 : Int32)).toNatClampNeg), vi (sA σ a0 (x4 + (3 : Int32)).toNatClampNeg), vr a3] σ (cI (fun r1 σ1 => (sK σ1 a0 = 100 ∧ iIn (x4 + (1 : Int32)) (sN σ1 a0)) ∧ ((sK σ1 a0 = 100 ∧ iIn (x4 + (2 : Int32)) (sN σ1 a0)) ∧ ((sK σ1 a0 = 100 ∧ iIn (x4 + (3 : Int32)) (sN σ1 a0)) ∧ (sK σ1 a2 = 10 ∧ ca J_M_replace [vr a2, vi (sA σ1 a0 (x4 + (1 : Int32)).toNatClampNeg), vi (sA σ1 a0 (x4 + (2 : Int32)).toNatClampNeg), vi (sA σ1 a0 (x4 + (3 : Int32)).toNatClampNeg)] σ1 (cI (fun r2 σ2 => sK σ2 a2 = 10 ∧ ca J_M_thrown [vr a2] σ2 (cI (fun r3 σ3 => (r3 = r1 → (r1 ≠ 0 → wp J_L_law 541 [vr a0, vr a1, vr a2, vr a3, vi x4, vi r1, vi r2] [] σ3 Q) ∧ (¬ (r1 ≠ 0) → (sK σ3 a3 = 103 ∧ iIn (0 : Int32) (sN σ3 a3)) ∧ ((sL σ3 a3 (0 : Int32).toNatClampNeg = r2.toInt64 → wp J_L_law 541 [vr a0, vr a1, vr a2, vr a3, vi x4, vi r1, vi r2] [] σ3 Q) ∧ (¬ sL σ3 a3 (0 : Int32).toNatClampNeg = r2.toInt64 → iBool (0 : Int32) ∧ Q (.inl (some (vi (0 : Int32)))) σ3)))) ∧ (¬ (r3 = r1) → iBool (0 : Int32) ∧ Q (.inl (some (vi (0 : Int32)))) σ3)) Q)) Q))))) Q))))) : wp J_L_law 464 [vr a0, vr a1, vr a2, vr a3, vi x4, l5, l6] [] σ Q :=
  w_go rfl rfl (w_go rfl rfl (w_go rfl rfl (w_ic rfl kc_1 (w_go rfl rfl (w_gd rfl rfl rfl ⟨Or.inl h.1.1, h.1.2⟩ (w_go rfl rfl (w_go rfl rfl (w_ic rfl kc_2 (w_go rfl rfl (w_gd rfl rfl rfl ⟨Or.inl h.2.1.1, h.2.1.2⟩ (w_go rfl rfl (w_go rfl rfl (w_ic rfl kc_3 (w_go rfl rfl (w_gd rfl rfl rfl ⟨Or.inl h.2.2.1.1, h.2.2.1.2⟩ (w_go rfl rfl (w_cI rfl rfl rfl ⟨Nat.le_of_ble_eq_true rfl, Nat.le_of_ble_eq_true rfl⟩ rfl (fun _ => rfl) h.2.2.2 (fun r1 σ1 k1 => w_gd rfl rfl rfl (Nat.le_of_ble_eq_true rfl) (w_go rfl rfl (w_go rfl rfl (w_go rfl rfl (w_ic rfl kc_1 (w_go rfl rfl (w_gd rfl rfl rfl ⟨Or.inl k1.1.1, k1.1.2⟩ (w_go rfl rfl (w_go rfl rfl (w_ic rfl kc_2 (w_go rfl rfl (w_gd rfl rfl rfl ⟨Or.inl k1.2.1.1, k1.2.1.2⟩ (w_go rfl rfl (w_go rfl rfl (w_ic rfl kc_3 (w_go rfl rfl (w_gd rfl rfl rfl ⟨Or.inl k1.2.2.1.1, k1.2.2.1.2⟩ (w_cI rfl rfl rfl ⟨⟨Nat.le_of_ble_eq_true rfl, Nat.le_of_ble_eq_true rfl⟩, k1.2.2.2.1⟩ rfl (fun _ => rfl) k1.2.2.2.2 (fun r2 σ2 k2 => w_gd rfl rfl rfl (Nat.le_of_ble_eq_true rfl) (w_go rfl rfl (w_cI rfl rfl rfl ⟨⟨Nat.le_of_ble_eq_true rfl, Nat.le_of_ble_eq_true rfl⟩, k2.1⟩ rfl (fun _ => rfl) k2.2 (fun r3 σ3 k3 => w_go rfl rfl (w_br rfl rfl rfl rfl (fun c4 => w_go rfl rfl (w_br rfl rfl rfl rfl (fun c5 => ((k3.1 c4).1 c5)) (fun c5 => w_go rfl rfl (w_ic rfl kc_0 (w_gd rfl rfl rfl ((k3.1 c4).2 c5).1 (w_go rfl rfl (w_go rfl rfl (w_lcE rfl rfl rfl rfl (fun c6 => (((k3.1 c4).2 c5).2.1 c6)) (fun c6 => w_ic rfl kc_0 (w_retG rfl rfl rfl (fun _ => (((k3.1 c4).2 c5).2.2 c6).1) (((k3.1 c4).2 c5).2.2 c6).2)))))))))) (fun c4 => w_ic rfl kc_0 (w_retG rfl rfl rfl (fun _ => (k3.2 c4).1) (k3.2 c4).2))))))))))))))))))))))))))))))))))))))))))

theorem b_L_law_541 {a0 : Nat} {a1 : Nat} {a2 : Nat} {a3 : Nat} {x4 : Int32} {x5 : Int32} {x6 : Int32} {σ : iS} {Q : iO → iS → Prop} (h : wp J_L_law 1494 [vr a0, vr a1, vr a2, vr a3, vi x4, vi x5, vi x6] [] σ Q) : wp J_L_law 541 [vr a0, vr a1, vr a2, vr a3, vi x4, vi x5, vi x6] [] σ Q :=
  w_go rfl rfl (h)

theorem b_L_law_544 {a0 : Nat} {a1 : Nat} {a2 : Nat} {a3 : Nat} {x4 : Int32} {l5 : iV} {l6 : iV} {σ : iS} {Q : iO → iS → Prop} (h : (sK σ a0 = 100 ∧ iIn (x4 + (1 : Int32)) (sN σ a0)) ∧ (ca J_L_inspect [vr a1, vi (sA σ a0 (x4 + (1 : Int32)).toNatClampNeg), vr a3] σ (cI (fun r1 σ1 => (sK σ1 a0 = 100 ∧ iIn (x4 + (1 : Int32)) (sN σ1 a0)) ∧ (sK σ1 a2 = 10 ∧ ca J_M_inspect [vr a2, vi (sA σ1 a0 (x4 + (1 : Int32)).toNatClampNeg)] σ1 (cI (fun r2 σ2 => sK σ2 a2 = 10 ∧ ca J_M_thrown [vr a2] σ2 (cI (fun r3 σ3 => (r3 = r1 → (r1 ≠ 0 → wp J_L_law 597 [vr a0, vr a1, vr a2, vr a3, vi x4, vi r1, vi r2] [] σ3 Q) ∧ (¬ (r1 ≠ 0) → (sK σ3 a3 = 103 ∧ iIn (0 : Int32) (sN σ3 a3)) ∧ ((sL σ3 a3 (0 : Int32).toNatClampNeg = r2.toInt64 → wp J_L_law 597 [vr a0, vr a1, vr a2, vr a3, vi x4, vi r1, vi r2] [] σ3 Q) ∧ (¬ sL σ3 a3 (0 : Int32).toNatClampNeg = r2.toInt64 → iBool (0 : Int32) ∧ Q (.inl (some (vi (0 : Int32)))) σ3)))) ∧ (¬ (r3 = r1) → iBool (0 : Int32) ∧ Q (.inl (some (vi (0 : Int32)))) σ3)) Q)) Q))) Q))) : wp J_L_law 544 [vr a0, vr a1, vr a2, vr a3, vi x4, l5, l6] [] σ Q :=
  w_go rfl rfl (w_go rfl rfl (w_go rfl rfl (w_ic rfl kc_1 (w_go rfl rfl (w_gd rfl rfl rfl ⟨Or.inl h.1.1, h.1.2⟩ (w_go rfl rfl (w_cI rfl rfl rfl ⟨Nat.le_of_ble_eq_true rfl, Nat.le_of_ble_eq_true rfl⟩ rfl (fun _ => rfl) h.2 (fun r1 σ1 k1 => w_gd rfl rfl rfl (Nat.le_of_ble_eq_true rfl) (w_go rfl rfl (w_go rfl rfl (w_go rfl rfl (w_ic rfl kc_1 (w_go rfl rfl (w_gd rfl rfl rfl ⟨Or.inl k1.1.1, k1.1.2⟩ (w_cI rfl rfl rfl ⟨⟨Nat.le_of_ble_eq_true rfl, Nat.le_of_ble_eq_true rfl⟩, k1.2.1⟩ rfl (fun _ => rfl) k1.2.2 (fun r2 σ2 k2 => w_gd rfl rfl rfl (Nat.le_of_ble_eq_true rfl) (w_go rfl rfl (w_cI rfl rfl rfl ⟨⟨Nat.le_of_ble_eq_true rfl, Nat.le_of_ble_eq_true rfl⟩, k2.1⟩ rfl (fun _ => rfl) k2.2 (fun r3 σ3 k3 => w_go rfl rfl (w_br rfl rfl rfl rfl (fun c4 => w_go rfl rfl (w_br rfl rfl rfl rfl (fun c5 => ((k3.1 c4).1 c5)) (fun c5 => w_go rfl rfl (w_ic rfl kc_0 (w_gd rfl rfl rfl ((k3.1 c4).2 c5).1 (w_go rfl rfl (w_go rfl rfl (w_lcE rfl rfl rfl rfl (fun c6 => (((k3.1 c4).2 c5).2.1 c6)) (fun c6 => w_ic rfl kc_0 (w_retG rfl rfl rfl (fun _ => (((k3.1 c4).2 c5).2.2 c6).1) (((k3.1 c4).2 c5).2.2 c6).2)))))))))) (fun c4 => w_ic rfl kc_0 (w_retG rfl rfl rfl (fun _ => (k3.2 c4).1) (k3.2 c4).2))))))))))))))))))))))

theorem b_L_law_597 {a0 : Nat} {a1 : Nat} {a2 : Nat} {a3 : Nat} {x4 : Int32} {x5 : Int32} {x6 : Int32} {σ : iS} {Q : iO → iS → Prop} (h : wp J_L_law 1494 [vr a0, vr a1, vr a2, vr a3, vi x4, vi x5, vi x6] [] σ Q) : wp J_L_law 597 [vr a0, vr a1, vr a2, vr a3, vi x4, vi x5, vi x6] [] σ Q :=
  w_go rfl rfl (h)

theorem b_L_law_600 {a0 : Nat} {a1 : Nat} {a2 : Nat} {a3 : Nat} {x4 : Int32} {l5 : iV} {l6 : iV} {σ : iS} {Q : iO → iS → Prop} (h : (sK σ a0 = 100 ∧ iIn (x4 + (1 : Int32)) (sN σ a0)) ∧ ((sK σ a0 = 100 ∧ iIn (x4 + (2 : Int32)) (sN σ a0)) ∧ ((sK σ a0 = 100 ∧ iIn (x4 + (3 : Int32)) (sN σ a0)) ∧ (ca J_L_convert [vr a1, vi (sA σ a0 (x4 + (1 : Int32)).toNatClampNeg), vi (sA σ a0 (x4 + (2 : Int32)).toNatClampNeg), vi (sA σ a0 (x4 + (3 : Int32)).toNatClampNeg), vr a3] σ (cI (fun r1 σ1 => (sK σ1 a0 = 100 ∧ iIn (x4 + (1 : Int32)) (sN σ1 a0)) ∧ ((sK σ1 a0 = 100 ∧ iIn (x4 + (2 : Int32)) (sN σ1 a0)) ∧ ((sK σ1 a0 = 100 ∧ iIn (x4 + (3 : Int32)) (sN σ1 a0)) ∧ (sK σ1 a2 = 10 ∧ ca J_M_convert [vr a2, vi (sA σ1 a0 (x4 + (1 : Int32)).toNatClampNeg), vi (sA σ1 a0 (x4 + (2 : Int32)).toNatClampNeg), vi (sA σ1 a0 (x4 + (3 : Int32)).toNatClampNeg)] σ1 (cI (fun r2 σ2 => sK σ2 a2 = 10 ∧ ca J_M_thrown [vr a2] σ2 (cI (fun r3 σ3 => (r3 = r1 → (r1 ≠ 0 → wp J_L_law 677 [vr a0, vr a1, vr a2, vr a3, vi x4, vi r1, vi r2] [] σ3 Q) ∧ (¬ (r1 ≠ 0) → (sK σ3 a3 = 103 ∧ iIn (0 : Int32) (sN σ3 a3)) ∧ ((sL σ3 a3 (0 : Int32).toNatClampNeg = r2.toInt64 → wp J_L_law 677 [vr a0, vr a1, vr a2, vr a3, vi x4, vi r1, vi r2] [] σ3 Q) ∧ (¬ sL σ3 a3 (0 : Int32).toNatClampNeg = r2.toInt64 → iBool (0 : Int32) ∧ Q (.inl (some (vi (0 : Int32)))) σ3)))) ∧ (¬ (r3 = r1) → iBool (0 : Int32) ∧ Q (.inl (some (vi (0 : Int32)))) σ3)) Q)) Q))))) Q))))) : wp J_L_law 600 [vr a0, vr a1, vr a2, vr a3, vi x4, l5, l6] [] σ Q :=
  w_go rfl rfl (w_go rfl rfl (w_go rfl rfl (w_ic rfl kc_1 (w_go rfl rfl (w_gd rfl rfl rfl ⟨Or.inl h.1.1, h.1.2⟩ (w_go rfl rfl (w_go rfl rfl (w_ic rfl kc_2 (w_go rfl rfl (w_gd rfl rfl rfl ⟨Or.inl h.2.1.1, h.2.1.2⟩ (w_go rfl rfl (w_go rfl rfl (w_ic rfl kc_3 (w_go rfl rfl (w_gd rfl rfl rfl ⟨Or.inl h.2.2.1.1, h.2.2.1.2⟩ (w_go rfl rfl (w_cI rfl rfl rfl ⟨Nat.le_of_ble_eq_true rfl, Nat.le_of_ble_eq_true rfl⟩ rfl (fun _ => rfl) h.2.2.2 (fun r1 σ1 k1 => w_gd rfl rfl rfl (Nat.le_of_ble_eq_true rfl) (w_go rfl rfl (w_go rfl rfl (w_go rfl rfl (w_ic rfl kc_1 (w_go rfl rfl (w_gd rfl rfl rfl ⟨Or.inl k1.1.1, k1.1.2⟩ (w_go rfl rfl (w_go rfl rfl (w_ic rfl kc_2 (w_go rfl rfl (w_gd rfl rfl rfl ⟨Or.inl k1.2.1.1, k1.2.1.2⟩ (w_go rfl rfl (w_go rfl rfl (w_ic rfl kc_3 (w_go rfl rfl (w_gd rfl rfl rfl ⟨Or.inl k1.2.2.1.1, k1.2.2.1.2⟩ (w_cI rfl rfl rfl ⟨⟨Nat.le_of_ble_eq_true rfl, Nat.le_of_ble_eq_true rfl⟩, k1.2.2.2.1⟩ rfl (fun _ => rfl) k1.2.2.2.2 (fun r2 σ2 k2 => w_gd rfl rfl rfl (Nat.le_of_ble_eq_true rfl) (w_go rfl rfl (w_cI rfl rfl rfl ⟨⟨Nat.le_of_ble_eq_true rfl, Nat.le_of_ble_eq_true rfl⟩, k2.1⟩ rfl (fun _ => rfl) k2.2 (fun r3 σ3 k3 => w_go rfl rfl (w_br rfl rfl rfl rfl (fun c4 => w_go rfl rfl (w_br rfl rfl rfl rfl (fun c5 => ((k3.1 c4).1 c5)) (fun c5 => w_go rfl rfl (w_ic rfl kc_0 (w_gd rfl rfl rfl ((k3.1 c4).2 c5).1 (w_go rfl rfl (w_go rfl rfl (w_lcE rfl rfl rfl rfl (fun c6 => (((k3.1 c4).2 c5).2.1 c6)) (fun c6 => w_ic rfl kc_0 (w_retG rfl rfl rfl (fun _ => (((k3.1 c4).2 c5).2.2 c6).1) (((k3.1 c4).2 c5).2.2 c6).2)))))))))) (fun c4 => w_ic rfl kc_0 (w_retG rfl rfl rfl (fun _ => (k3.2 c4).1) (k3.2 c4).2))))))))))))))))))))))))))))))))))))))))))

theorem b_L_law_677 {a0 : Nat} {a1 : Nat} {a2 : Nat} {a3 : Nat} {x4 : Int32} {x5 : Int32} {x6 : Int32} {σ : iS} {Q : iO → iS → Prop} (h : wp J_L_law 1494 [vr a0, vr a1, vr a2, vr a3, vi x4, vi x5, vi x6] [] σ Q) : wp J_L_law 677 [vr a0, vr a1, vr a2, vr a3, vi x4, vi x5, vi x6] [] σ Q :=
  w_go rfl rfl (h)

theorem b_L_law_680 {a0 : Nat} {a1 : Nat} {a2 : Nat} {a3 : Nat} {x4 : Int32} {l5 : iV} {l6 : iV} {σ : iS} {Q : iO → iS → Prop} (h : (sK σ a0 = 100 ∧ iIn (x4 + (1 : Int32)) (sN σ a0)) ∧ (ca J_L_counter [vr a1, vi (sA σ a0 (x4 + (1 : Int32)).toNatClampNeg), vr a3] σ (cI (fun r1 σ1 => (sK σ1 a0 = 100 ∧ iIn (x4 + (1 : Int32)) (sN σ1 a0)) ∧ (sK σ1 a2 = 10 ∧ ca J_M_counter [vr a2, vi (sA σ1 a0 (x4 + (1 : Int32)).toNatClampNeg)] σ1 (cI (fun r2 σ2 => sK σ2 a2 = 10 ∧ ca J_M_thrown [vr a2] σ2 (cI (fun r3 σ3 => (r3 = r1 → (r1 ≠ 0 → wp J_L_law 733 [vr a0, vr a1, vr a2, vr a3, vi x4, vi r1, vi r2] [] σ3 Q) ∧ (¬ (r1 ≠ 0) → (sK σ3 a3 = 103 ∧ iIn (0 : Int32) (sN σ3 a3)) ∧ ((sL σ3 a3 (0 : Int32).toNatClampNeg = r2.toInt64 → wp J_L_law 733 [vr a0, vr a1, vr a2, vr a3, vi x4, vi r1, vi r2] [] σ3 Q) ∧ (¬ sL σ3 a3 (0 : Int32).toNatClampNeg = r2.toInt64 → iBool (0 : Int32) ∧ Q (.inl (some (vi (0 : Int32)))) σ3)))) ∧ (¬ (r3 = r1) → iBool (0 : Int32) ∧ Q (.inl (some (vi (0 : Int32)))) σ3)) Q)) Q))) Q))) : wp J_L_law 680 [vr a0, vr a1, vr a2, vr a3, vi x4, l5, l6] [] σ Q :=
  w_go rfl rfl (w_go rfl rfl (w_go rfl rfl (w_ic rfl kc_1 (w_go rfl rfl (w_gd rfl rfl rfl ⟨Or.inl h.1.1, h.1.2⟩ (w_go rfl rfl (w_cI rfl rfl rfl ⟨Nat.le_of_ble_eq_true rfl, Nat.le_of_ble_eq_true rfl⟩ rfl (fun _ => rfl) h.2 (fun r1 σ1 k1 => w_gd rfl rfl rfl (Nat.le_of_ble_eq_true rfl) (w_go rfl rfl (w_go rfl rfl (w_go rfl rfl (w_ic rfl kc_1 (w_go rfl rfl (w_gd rfl rfl rfl ⟨Or.inl k1.1.1, k1.1.2⟩ (w_cI rfl rfl rfl ⟨⟨Nat.le_of_ble_eq_true rfl, Nat.le_of_ble_eq_true rfl⟩, k1.2.1⟩ rfl (fun _ => rfl) k1.2.2 (fun r2 σ2 k2 => w_gd rfl rfl rfl (Nat.le_of_ble_eq_true rfl) (w_go rfl rfl (w_cI rfl rfl rfl ⟨⟨Nat.le_of_ble_eq_true rfl, Nat.le_of_ble_eq_true rfl⟩, k2.1⟩ rfl (fun _ => rfl) k2.2 (fun r3 σ3 k3 => w_go rfl rfl (w_br rfl rfl rfl rfl (fun c4 => w_go rfl rfl (w_br rfl rfl rfl rfl (fun c5 => ((k3.1 c4).1 c5)) (fun c5 => w_go rfl rfl (w_ic rfl kc_0 (w_gd rfl rfl rfl ((k3.1 c4).2 c5).1 (w_go rfl rfl (w_go rfl rfl (w_lcE rfl rfl rfl rfl (fun c6 => (((k3.1 c4).2 c5).2.1 c6)) (fun c6 => w_ic rfl kc_0 (w_retG rfl rfl rfl (fun _ => (((k3.1 c4).2 c5).2.2 c6).1) (((k3.1 c4).2 c5).2.2 c6).2)))))))))) (fun c4 => w_ic rfl kc_0 (w_retG rfl rfl rfl (fun _ => (k3.2 c4).1) (k3.2 c4).2))))))))))))))))))))))

theorem b_L_law_733 {a0 : Nat} {a1 : Nat} {a2 : Nat} {a3 : Nat} {x4 : Int32} {x5 : Int32} {x6 : Int32} {σ : iS} {Q : iO → iS → Prop} (h : wp J_L_law 1494 [vr a0, vr a1, vr a2, vr a3, vi x4, vi x5, vi x6] [] σ Q) : wp J_L_law 733 [vr a0, vr a1, vr a2, vr a3, vi x4, vi x5, vi x6] [] σ Q :=
  w_go rfl rfl (h)

theorem b_L_law_736 {a0 : Nat} {a1 : Nat} {a2 : Nat} {a3 : Nat} {x4 : Int32} {l5 : iV} {l6 : iV} {σ : iS} {Q : iO → iS → Prop} (h : (sK σ a0 = 100 ∧ iIn (x4 + (1 : Int32)) (sN σ a0)) ∧ ((sK σ a0 = 100 ∧ iIn (x4 + (2 : Int32)) (sN σ a0)) ∧ (ca J_L_part [vr a1, vi (sA σ a0 (x4 + (1 : Int32)).toNatClampNeg), vi (sA σ a0 (x4 + (2 : Int32)).toNatClampNeg), vr a3] σ (cI (fun r1 σ1 => (sK σ1 a0 = 100 ∧ iIn (x4 + (1 : Int32)) (sN σ1 a0)) ∧ ((sK σ1 a0 = 100 ∧ iIn (x4 + (2 : Int32)) (sN σ1 a0)) ∧ (sK σ1 a2 = 10 ∧ ca J_M_part [vr a2, vi (sA σ1 a0 (x4 + (1 : Int32)).toNatClampNeg), vi (sA σ1 a0 (x4 + (2 : Int32)).toNatClampNeg)] σ1 (cI (fun r2 σ2 => sK σ2 a2 = 10 ∧ ca J_M_thrown [vr a2] σ2 (cI (fun r3 σ3 => (r3 = r1 → (r1 ≠ 0 → wp J_L_law 801 [vr a0, vr a1, vr a2, vr a3, vi x4, vi r1, vi r2] [] σ3 Q) ∧ (¬ (r1 ≠ 0) → (sK σ3 a3 = 103 ∧ iIn (0 : Int32) (sN σ3 a3)) ∧ ((sL σ3 a3 (0 : Int32).toNatClampNeg = r2.toInt64 → wp J_L_law 801 [vr a0, vr a1, vr a2, vr a3, vi x4, vi r1, vi r2] [] σ3 Q) ∧ (¬ sL σ3 a3 (0 : Int32).toNatClampNeg = r2.toInt64 → iBool (0 : Int32) ∧ Q (.inl (some (vi (0 : Int32)))) σ3)))) ∧ (¬ (r3 = r1) → iBool (0 : Int32) ∧ Q (.inl (some (vi (0 : Int32)))) σ3)) Q)) Q)))) Q)))) : wp J_L_law 736 [vr a0, vr a1, vr a2, vr a3, vi x4, l5, l6] [] σ Q :=
  w_go rfl rfl (w_go rfl rfl (w_go rfl rfl (w_ic rfl kc_1 (w_go rfl rfl (w_gd rfl rfl rfl ⟨Or.inl h.1.1, h.1.2⟩ (w_go rfl rfl (w_go rfl rfl (w_ic rfl kc_2 (w_go rfl rfl (w_gd rfl rfl rfl ⟨Or.inl h.2.1.1, h.2.1.2⟩ (w_go rfl rfl (w_cI rfl rfl rfl ⟨Nat.le_of_ble_eq_true rfl, Nat.le_of_ble_eq_true rfl⟩ rfl (fun _ => rfl) h.2.2 (fun r1 σ1 k1 => w_gd rfl rfl rfl (Nat.le_of_ble_eq_true rfl) (w_go rfl rfl (w_go rfl rfl (w_go rfl rfl (w_ic rfl kc_1 (w_go rfl rfl (w_gd rfl rfl rfl ⟨Or.inl k1.1.1, k1.1.2⟩ (w_go rfl rfl (w_go rfl rfl (w_ic rfl kc_2 (w_go rfl rfl (w_gd rfl rfl rfl ⟨Or.inl k1.2.1.1, k1.2.1.2⟩ (w_cI rfl rfl rfl ⟨⟨Nat.le_of_ble_eq_true rfl, Nat.le_of_ble_eq_true rfl⟩, k1.2.2.1⟩ rfl (fun _ => rfl) k1.2.2.2 (fun r2 σ2 k2 => w_gd rfl rfl rfl (Nat.le_of_ble_eq_true rfl) (w_go rfl rfl (w_cI rfl rfl rfl ⟨⟨Nat.le_of_ble_eq_true rfl, Nat.le_of_ble_eq_true rfl⟩, k2.1⟩ rfl (fun _ => rfl) k2.2 (fun r3 σ3 k3 => w_go rfl rfl (w_br rfl rfl rfl rfl (fun c4 => w_go rfl rfl (w_br rfl rfl rfl rfl (fun c5 => ((k3.1 c4).1 c5)) (fun c5 => w_go rfl rfl (w_ic rfl kc_0 (w_gd rfl rfl rfl ((k3.1 c4).2 c5).1 (w_go rfl rfl (w_go rfl rfl (w_lcE rfl rfl rfl rfl (fun c6 => (((k3.1 c4).2 c5).2.1 c6)) (fun c6 => w_ic rfl kc_0 (w_retG rfl rfl rfl (fun _ => (((k3.1 c4).2 c5).2.2 c6).1) (((k3.1 c4).2 c5).2.2 c6).2)))))))))) (fun c4 => w_ic rfl kc_0 (w_retG rfl rfl rfl (fun _ => (k3.2 c4).1) (k3.2 c4).2))))))))))))))))))))))))))))))))

theorem b_L_law_801 {a0 : Nat} {a1 : Nat} {a2 : Nat} {a3 : Nat} {x4 : Int32} {x5 : Int32} {x6 : Int32} {σ : iS} {Q : iO → iS → Prop} (h : wp J_L_law 1494 [vr a0, vr a1, vr a2, vr a3, vi x4, vi x5, vi x6] [] σ Q) : wp J_L_law 801 [vr a0, vr a1, vr a2, vr a3, vi x4, vi x5, vi x6] [] σ Q :=
  w_go rfl rfl (h)

theorem b_L_law_804 {a0 : Nat} {a1 : Nat} {a2 : Nat} {a3 : Nat} {x4 : Int32} {l5 : iV} {l6 : iV} {σ : iS} {Q : iO → iS → Prop} (h : (sK σ a0 = 100 ∧ iIn (x4 + (1 : Int32)) (sN σ a0)) ∧ ((sK σ a0 = 100 ∧ iIn (x4 + (2 : Int32)) (sN σ a0)) ∧ (ca J_L_join [vr a1, vi (sA σ a0 (x4 + (1 : Int32)).toNatClampNeg), vi (sA σ a0 (x4 + (2 : Int32)).toNatClampNeg), vr a3] σ (cI (fun r1 σ1 => (sK σ1 a0 = 100 ∧ iIn (x4 + (1 : Int32)) (sN σ1 a0)) ∧ ((sK σ1 a0 = 100 ∧ iIn (x4 + (2 : Int32)) (sN σ1 a0)) ∧ (sK σ1 a2 = 10 ∧ ca J_M_join [vr a2, vi (sA σ1 a0 (x4 + (1 : Int32)).toNatClampNeg), vi (sA σ1 a0 (x4 + (2 : Int32)).toNatClampNeg)] σ1 (cI (fun r2 σ2 => sK σ2 a2 = 10 ∧ ca J_M_thrown [vr a2] σ2 (cI (fun r3 σ3 => (r3 = r1 → (r1 ≠ 0 → wp J_L_law 869 [vr a0, vr a1, vr a2, vr a3, vi x4, vi r1, vi r2] [] σ3 Q) ∧ (¬ (r1 ≠ 0) → (sK σ3 a3 = 103 ∧ iIn (0 : Int32) (sN σ3 a3)) ∧ ((sL σ3 a3 (0 : Int32).toNatClampNeg = r2.toInt64 → wp J_L_law 869 [vr a0, vr a1, vr a2, vr a3, vi x4, vi r1, vi r2] [] σ3 Q) ∧ (¬ sL σ3 a3 (0 : Int32).toNatClampNeg = r2.toInt64 → iBool (0 : Int32) ∧ Q (.inl (some (vi (0 : Int32)))) σ3)))) ∧ (¬ (r3 = r1) → iBool (0 : Int32) ∧ Q (.inl (some (vi (0 : Int32)))) σ3)) Q)) Q)))) Q)))) : wp J_L_law 804 [vr a0, vr a1, vr a2, vr a3, vi x4, l5, l6] [] σ Q :=
  w_go rfl rfl (w_go rfl rfl (w_go rfl rfl (w_ic rfl kc_1 (w_go rfl rfl (w_gd rfl rfl rfl ⟨Or.inl h.1.1, h.1.2⟩ (w_go rfl rfl (w_go rfl rfl (w_ic rfl kc_2 (w_go rfl rfl (w_gd rfl rfl rfl ⟨Or.inl h.2.1.1, h.2.1.2⟩ (w_go rfl rfl (w_cI rfl rfl rfl ⟨Nat.le_of_ble_eq_true rfl, Nat.le_of_ble_eq_true rfl⟩ rfl (fun _ => rfl) h.2.2 (fun r1 σ1 k1 => w_gd rfl rfl rfl (Nat.le_of_ble_eq_true rfl) (w_go rfl rfl (w_go rfl rfl (w_go rfl rfl (w_ic rfl kc_1 (w_go rfl rfl (w_gd rfl rfl rfl ⟨Or.inl k1.1.1, k1.1.2⟩ (w_go rfl rfl (w_go rfl rfl (w_ic rfl kc_2 (w_go rfl rfl (w_gd rfl rfl rfl ⟨Or.inl k1.2.1.1, k1.2.1.2⟩ (w_cI rfl rfl rfl ⟨⟨Nat.le_of_ble_eq_true rfl, Nat.le_of_ble_eq_true rfl⟩, k1.2.2.1⟩ rfl (fun _ => rfl) k1.2.2.2 (fun r2 σ2 k2 => w_gd rfl rfl rfl (Nat.le_of_ble_eq_true rfl) (w_go rfl rfl (w_cI rfl rfl rfl ⟨⟨Nat.le_of_ble_eq_true rfl, Nat.le_of_ble_eq_true rfl⟩, k2.1⟩ rfl (fun _ => rfl) k2.2 (fun r3 σ3 k3 => w_go rfl rfl (w_br rfl rfl rfl rfl (fun c4 => w_go rfl rfl (w_br rfl rfl rfl rfl (fun c5 => ((k3.1 c4).1 c5)) (fun c5 => w_go rfl rfl (w_ic rfl kc_0 (w_gd rfl rfl rfl ((k3.1 c4).2 c5).1 (w_go rfl rfl (w_go rfl rfl (w_lcE rfl rfl rfl rfl (fun c6 => (((k3.1 c4).2 c5).2.1 c6)) (fun c6 => w_ic rfl kc_0 (w_retG rfl rfl rfl (fun _ => (((k3.1 c4).2 c5).2.2 c6).1) (((k3.1 c4).2 c5).2.2 c6).2)))))))))) (fun c4 => w_ic rfl kc_0 (w_retG rfl rfl rfl (fun _ => (k3.2 c4).1) (k3.2 c4).2))))))))))))))))))))))))))))))))

theorem b_L_law_869 {a0 : Nat} {a1 : Nat} {a2 : Nat} {a3 : Nat} {x4 : Int32} {x5 : Int32} {x6 : Int32} {σ : iS} {Q : iO → iS → Prop} (h : wp J_L_law 1494 [vr a0, vr a1, vr a2, vr a3, vi x4, vi x5, vi x6] [] σ Q) : wp J_L_law 869 [vr a0, vr a1, vr a2, vr a3, vi x4, vi x5, vi x6] [] σ Q :=
  w_go rfl rfl (h)

theorem b_L_law_872 {a0 : Nat} {a1 : Nat} {a2 : Nat} {a3 : Nat} {x4 : Int32} {l5 : iV} {l6 : iV} {σ : iS} {Q : iO → iS → Prop} (h : (sK σ a0 = 100 ∧ iIn (x4 + (1 : Int32)) (sN σ a0)) ∧ ((sK σ a0 = 100 ∧ iIn (x4 + (2 : Int32)) (sN σ a0)) ∧ (((sA σ a0 (x4 + (2 : Int32)).toNatClampNeg) = 0 → wp J_L_law 893 [vr a0, vr a1, vr a2, vr a3, vi x4, l5, l6] [vi (0 : Int32), vi (sA σ a0 (x4 + (1 : Int32)).toNatClampNeg), vr a1] σ Q) ∧ (¬ ((sA σ a0 (x4 + (2 : Int32)).toNatClampNeg) = 0) → wp J_L_law 893 [vr a0, vr a1, vr a2, vr a3, vi x4, l5, l6] [vi (1 : Int32), vi (sA σ a0 (x4 + (1 : Int32)).toNatClampNeg), vr a1] σ Q)))) : wp J_L_law 872 [vr a0, vr a1, vr a2, vr a3, vi x4, l5, l6] [] σ Q :=
  w_go rfl rfl (w_go rfl rfl (w_go rfl rfl (w_ic rfl kc_1 (w_go rfl rfl (w_gd rfl rfl rfl ⟨Or.inl h.1.1, h.1.2⟩ (w_go rfl rfl (w_go rfl rfl (w_ic rfl kc_2 (w_go rfl rfl (w_gd rfl rfl rfl ⟨Or.inl h.2.1.1, h.2.1.2⟩ (w_br rfl rfl rfl rfl (fun c1 => w_ic rfl kc_0 ((h.2.2.1 c1))) (fun c1 => w_ic rfl kc_1 (w_go rfl rfl ((h.2.2.2 c1)))))))))))))))

theorem b_L_law_893 {a0 : Nat} {a1 : Nat} {a2 : Nat} {a3 : Nat} {x4 : Int32} {l5 : iV} {l6 : iV} {tx0 : Int32} {tx1 : Int32} {ta2 : Nat} {σ : iS} {Q : iO → iS → Prop} (h : ca J_L_delimiter [vr ta2, vi tx1, vi tx0, vr a3] σ (cI (fun r1 σ1 => (sK σ1 a0 = 100 ∧ iIn (x4 + (1 : Int32)) (sN σ1 a0)) ∧ ((sK σ1 a0 = 100 ∧ iIn (x4 + (2 : Int32)) (sN σ1 a0)) ∧ (((sA σ1 a0 (x4 + (2 : Int32)).toNatClampNeg) = 0 → wp J_L_law 920 [vr a0, vr a1, vr a2, vr a3, vi x4, vi r1, l6] [vi (0 : Int32), vi (sA σ1 a0 (x4 + (1 : Int32)).toNatClampNeg), vr a2] σ1 Q) ∧ (¬ ((sA σ1 a0 (x4 + (2 : Int32)).toNatClampNeg) = 0) → wp J_L_law 920 [vr a0, vr a1, vr a2, vr a3, vi x4, vi r1, l6] [vi (1 : Int32), vi (sA σ1 a0 (x4 + (1 : Int32)).toNatClampNeg), vr a2] σ1 Q)))) Q)) : wp J_L_law 893 [vr a0, vr a1, vr a2, vr a3, vi x4, l5, l6] [vi tx0, vi tx1, vr ta2] σ Q :=
  w_go rfl rfl (w_cI rfl rfl rfl ⟨Nat.le_of_ble_eq_true rfl, Nat.le_of_ble_eq_true rfl⟩ rfl (fun _ => rfl) h (fun r1 σ1 k1 => w_gd rfl rfl rfl (Nat.le_of_ble_eq_true rfl) (w_go rfl rfl (w_go rfl rfl (w_go rfl rfl (w_ic rfl kc_1 (w_go rfl rfl (w_gd rfl rfl rfl ⟨Or.inl k1.1.1, k1.1.2⟩ (w_go rfl rfl (w_go rfl rfl (w_ic rfl kc_2 (w_go rfl rfl (w_gd rfl rfl rfl ⟨Or.inl k1.2.1.1, k1.2.1.2⟩ (w_br rfl rfl rfl rfl (fun c2 => w_ic rfl kc_0 ((k1.2.2.1 c2))) (fun c2 => w_ic rfl kc_1 (w_go rfl rfl ((k1.2.2.2 c2))))))))))))))))))

theorem b_L_law_920 {a0 : Nat} {a1 : Nat} {a2 : Nat} {a3 : Nat} {x4 : Int32} {x5 : Int32} {l6 : iV} {tx0 : Int32} {tx1 : Int32} {ta2 : Nat} {σ : iS} {Q : iO → iS → Prop} (h : sK σ ta2 = 10 ∧ ca J_M_delimiter [vr ta2, vi tx1, vi tx0] σ (cI (fun r1 σ1 => sK σ1 a2 = 10 ∧ ca J_M_thrown [vr a2] σ1 (cI (fun r2 σ2 => (r2 = x5 → (x5 ≠ 0 → wp J_L_law 953 [vr a0, vr a1, vr a2, vr a3, vi x4, vi x5, vi r1] [] σ2 Q) ∧ (¬ (x5 ≠ 0) → (sK σ2 a3 = 103 ∧ iIn (0 : Int32) (sN σ2 a3)) ∧ ((sL σ2 a3 (0 : Int32).toNatClampNeg = r1.toInt64 → wp J_L_law 953 [vr a0, vr a1, vr a2, vr a3, vi x4, vi x5, vi r1] [] σ2 Q) ∧ (¬ sL σ2 a3 (0 : Int32).toNatClampNeg = r1.toInt64 → iBool (0 : Int32) ∧ Q (.inl (some (vi (0 : Int32)))) σ2)))) ∧ (¬ (r2 = x5) → iBool (0 : Int32) ∧ Q (.inl (some (vi (0 : Int32)))) σ2)) Q)) Q)) : wp J_L_law 920 [vr a0, vr a1, vr a2, vr a3, vi x4, vi x5, l6] [vi tx0, vi tx1, vr ta2] σ Q :=
  w_cI rfl rfl rfl ⟨⟨Nat.le_of_ble_eq_true rfl, Nat.le_of_ble_eq_true rfl⟩, h.1⟩ rfl (fun _ => rfl) h.2 (fun r1 σ1 k1 => w_gd rfl rfl rfl (Nat.le_of_ble_eq_true rfl) (w_go rfl rfl (w_cI rfl rfl rfl ⟨⟨Nat.le_of_ble_eq_true rfl, Nat.le_of_ble_eq_true rfl⟩, k1.1⟩ rfl (fun _ => rfl) k1.2 (fun r2 σ2 k2 => w_go rfl rfl (w_br rfl rfl rfl rfl (fun c3 => w_go rfl rfl (w_br rfl rfl rfl rfl (fun c4 => ((k2.1 c3).1 c4)) (fun c4 => w_go rfl rfl (w_ic rfl kc_0 (w_gd rfl rfl rfl ((k2.1 c3).2 c4).1 (w_go rfl rfl (w_go rfl rfl (w_lcE rfl rfl rfl rfl (fun c5 => (((k2.1 c3).2 c4).2.1 c5)) (fun c5 => w_ic rfl kc_0 (w_retG rfl rfl rfl (fun _ => (((k2.1 c3).2 c4).2.2 c5).1) (((k2.1 c3).2 c4).2.2 c5).2)))))))))) (fun c3 => w_ic rfl kc_0 (w_retG rfl rfl rfl (fun _ => (k2.2 c3).1) (k2.2 c3).2)))))))

theorem b_L_law_953 {a0 : Nat} {a1 : Nat} {a2 : Nat} {a3 : Nat} {x4 : Int32} {x5 : Int32} {x6 : Int32} {σ : iS} {Q : iO → iS → Prop} (h : wp J_L_law 1494 [vr a0, vr a1, vr a2, vr a3, vi x4, vi x5, vi x6] [] σ Q) : wp J_L_law 953 [vr a0, vr a1, vr a2, vr a3, vi x4, vi x5, vi x6] [] σ Q :=
  w_go rfl rfl (h)

theorem b_L_law_956 {a0 : Nat} {a1 : Nat} {a2 : Nat} {a3 : Nat} {x4 : Int32} {l5 : iV} {l6 : iV} {σ : iS} {Q : iO → iS → Prop} (h : (sK σ a0 = 100 ∧ iIn (x4 + (1 : Int32)) (sN σ a0)) ∧ (ca J_L_receiver [vr a1, vi (sA σ a0 (x4 + (1 : Int32)).toNatClampNeg), vr a3] σ (cI (fun r1 σ1 => (sK σ1 a0 = 100 ∧ iIn (x4 + (1 : Int32)) (sN σ1 a0)) ∧ (sK σ1 a2 = 10 ∧ ca J_M_receiver [vr a2, vi (sA σ1 a0 (x4 + (1 : Int32)).toNatClampNeg)] σ1 (cI (fun r2 σ2 => sK σ2 a2 = 10 ∧ ca J_M_thrown [vr a2] σ2 (cI (fun r3 σ3 => (r3 = r1 → (r1 ≠ 0 → wp J_L_law 1009 [vr a0, vr a1, vr a2, vr a3, vi x4, vi r1, vi r2] [] σ3 Q) ∧ (¬ (r1 ≠ 0) → (sK σ3 a3 = 103 ∧ iIn (0 : Int32) (sN σ3 a3)) ∧ ((sL σ3 a3 (0 : Int32).toNatClampNeg = r2.toInt64 → wp J_L_law 1009 [vr a0, vr a1, vr a2, vr a3, vi x4, vi r1, vi r2] [] σ3 Q) ∧ (¬ sL σ3 a3 (0 : Int32).toNatClampNeg = r2.toInt64 → iBool (0 : Int32) ∧ Q (.inl (some (vi (0 : Int32)))) σ3)))) ∧ (¬ (r3 = r1) → iBool (0 : Int32) ∧ Q (.inl (some (vi (0 : Int32)))) σ3)) Q)) Q))) Q))) : wp J_L_law 956 [vr a0, vr a1, vr a2, vr a3, vi x4, l5, l6] [] σ Q :=
  w_go rfl rfl (w_go rfl rfl (w_go rfl rfl (w_ic rfl kc_1 (w_go rfl rfl (w_gd rfl rfl rfl ⟨Or.inl h.1.1, h.1.2⟩ (w_go rfl rfl (w_cI rfl rfl rfl ⟨Nat.le_of_ble_eq_true rfl, Nat.le_of_ble_eq_true rfl⟩ rfl (fun _ => rfl) h.2 (fun r1 σ1 k1 => w_gd rfl rfl rfl (Nat.le_of_ble_eq_true rfl) (w_go rfl rfl (w_go rfl rfl (w_go rfl rfl (w_ic rfl kc_1 (w_go rfl rfl (w_gd rfl rfl rfl ⟨Or.inl k1.1.1, k1.1.2⟩ (w_cI rfl rfl rfl ⟨⟨Nat.le_of_ble_eq_true rfl, Nat.le_of_ble_eq_true rfl⟩, k1.2.1⟩ rfl (fun _ => rfl) k1.2.2 (fun r2 σ2 k2 => w_gd rfl rfl rfl (Nat.le_of_ble_eq_true rfl) (w_go rfl rfl (w_cI rfl rfl rfl ⟨⟨Nat.le_of_ble_eq_true rfl, Nat.le_of_ble_eq_true rfl⟩, k2.1⟩ rfl (fun _ => rfl) k2.2 (fun r3 σ3 k3 => w_go rfl rfl (w_br rfl rfl rfl rfl (fun c4 => w_go rfl rfl (w_br rfl rfl rfl rfl (fun c5 => ((k3.1 c4).1 c5)) (fun c5 => w_go rfl rfl (w_ic rfl kc_0 (w_gd rfl rfl rfl ((k3.1 c4).2 c5).1 (w_go rfl rfl (w_go rfl rfl (w_lcE rfl rfl rfl rfl (fun c6 => (((k3.1 c4).2 c5).2.1 c6)) (fun c6 => w_ic rfl kc_0 (w_retG rfl rfl rfl (fun _ => (((k3.1 c4).2 c5).2.2 c6).1) (((k3.1 c4).2 c5).2.2 c6).2)))))))))) (fun c4 => w_ic rfl kc_0 (w_retG rfl rfl rfl (fun _ => (k3.2 c4).1) (k3.2 c4).2))))))))))))))))))))))

theorem b_L_law_1009 {a0 : Nat} {a1 : Nat} {a2 : Nat} {a3 : Nat} {x4 : Int32} {x5 : Int32} {x6 : Int32} {σ : iS} {Q : iO → iS → Prop} (h : wp J_L_law 1494 [vr a0, vr a1, vr a2, vr a3, vi x4, vi x5, vi x6] [] σ Q) : wp J_L_law 1009 [vr a0, vr a1, vr a2, vr a3, vi x4, vi x5, vi x6] [] σ Q :=
  w_go rfl rfl (h)

theorem b_L_law_1012 {a0 : Nat} {a1 : Nat} {a2 : Nat} {a3 : Nat} {x4 : Int32} {l5 : iV} {l6 : iV} {σ : iS} {Q : iO → iS → Prop} (h : (sK σ a0 = 100 ∧ iIn (x4 + (1 : Int32)) (sN σ a0)) ∧ ((sK σ a0 = 100 ∧ iIn (x4 + (2 : Int32)) (sN σ a0)) ∧ (ca J_L_split [vr a1, vi (sA σ a0 (x4 + (1 : Int32)).toNatClampNeg), vi (sA σ a0 (x4 + (2 : Int32)).toNatClampNeg), vr a3] σ (cI (fun r1 σ1 => (sK σ1 a0 = 100 ∧ iIn (x4 + (1 : Int32)) (sN σ1 a0)) ∧ ((sK σ1 a0 = 100 ∧ iIn (x4 + (2 : Int32)) (sN σ1 a0)) ∧ (sK σ1 a2 = 10 ∧ ca J_M_split [vr a2, vi (sA σ1 a0 (x4 + (1 : Int32)).toNatClampNeg), vi (sA σ1 a0 (x4 + (2 : Int32)).toNatClampNeg)] σ1 (cI (fun r2 σ2 => sK σ2 a2 = 10 ∧ ca J_M_thrown [vr a2] σ2 (cI (fun r3 σ3 => (r3 = r1 → (r1 ≠ 0 → wp J_L_law 1077 [vr a0, vr a1, vr a2, vr a3, vi x4, vi r1, vi r2] [] σ3 Q) ∧ (¬ (r1 ≠ 0) → (sK σ3 a3 = 103 ∧ iIn (0 : Int32) (sN σ3 a3)) ∧ ((sL σ3 a3 (0 : Int32).toNatClampNeg = r2.toInt64 → wp J_L_law 1077 [vr a0, vr a1, vr a2, vr a3, vi x4, vi r1, vi r2] [] σ3 Q) ∧ (¬ sL σ3 a3 (0 : Int32).toNatClampNeg = r2.toInt64 → iBool (0 : Int32) ∧ Q (.inl (some (vi (0 : Int32)))) σ3)))) ∧ (¬ (r3 = r1) → iBool (0 : Int32) ∧ Q (.inl (some (vi (0 : Int32)))) σ3)) Q)) Q)))) Q)))) : wp J_L_law 1012 [vr a0, vr a1, vr a2, vr a3, vi x4, l5, l6] [] σ Q :=
  w_go rfl rfl (w_go rfl rfl (w_go rfl rfl (w_ic rfl kc_1 (w_go rfl rfl (w_gd rfl rfl rfl ⟨Or.inl h.1.1, h.1.2⟩ (w_go rfl rfl (w_go rfl rfl (w_ic rfl kc_2 (w_go rfl rfl (w_gd rfl rfl rfl ⟨Or.inl h.2.1.1, h.2.1.2⟩ (w_go rfl rfl (w_cI rfl rfl rfl ⟨Nat.le_of_ble_eq_true rfl, Nat.le_of_ble_eq_true rfl⟩ rfl (fun _ => rfl) h.2.2 (fun r1 σ1 k1 => w_gd rfl rfl rfl (Nat.le_of_ble_eq_true rfl) (w_go rfl rfl (w_go rfl rfl (w_go rfl rfl (w_ic rfl kc_1 (w_go rfl rfl (w_gd rfl rfl rfl ⟨Or.inl k1.1.1, k1.1.2⟩ (w_go rfl rfl (w_go rfl rfl (w_ic rfl kc_2 (w_go rfl rfl (w_gd rfl rfl rfl ⟨Or.inl k1.2.1.1, k1.2.1.2⟩ (w_cI rfl rfl rfl ⟨⟨Nat.le_of_ble_eq_true rfl, Nat.le_of_ble_eq_true rfl⟩, k1.2.2.1⟩ rfl (fun _ => rfl) k1.2.2.2 (fun r2 σ2 k2 => w_gd rfl rfl rfl (Nat.le_of_ble_eq_true rfl) (w_go rfl rfl (w_cI rfl rfl rfl ⟨⟨Nat.le_of_ble_eq_true rfl, Nat.le_of_ble_eq_true rfl⟩, k2.1⟩ rfl (fun _ => rfl) k2.2 (fun r3 σ3 k3 => w_go rfl rfl (w_br rfl rfl rfl rfl (fun c4 => w_go rfl rfl (w_br rfl rfl rfl rfl (fun c5 => ((k3.1 c4).1 c5)) (fun c5 => w_go rfl rfl (w_ic rfl kc_0 (w_gd rfl rfl rfl ((k3.1 c4).2 c5).1 (w_go rfl rfl (w_go rfl rfl (w_lcE rfl rfl rfl rfl (fun c6 => (((k3.1 c4).2 c5).2.1 c6)) (fun c6 => w_ic rfl kc_0 (w_retG rfl rfl rfl (fun _ => (((k3.1 c4).2 c5).2.2 c6).1) (((k3.1 c4).2 c5).2.2 c6).2)))))))))) (fun c4 => w_ic rfl kc_0 (w_retG rfl rfl rfl (fun _ => (k3.2 c4).1) (k3.2 c4).2))))))))))))))))))))))))))))))))

theorem b_L_law_1077 {a0 : Nat} {a1 : Nat} {a2 : Nat} {a3 : Nat} {x4 : Int32} {x5 : Int32} {x6 : Int32} {σ : iS} {Q : iO → iS → Prop} (h : wp J_L_law 1494 [vr a0, vr a1, vr a2, vr a3, vi x4, vi x5, vi x6] [] σ Q) : wp J_L_law 1077 [vr a0, vr a1, vr a2, vr a3, vi x4, vi x5, vi x6] [] σ Q :=
  w_go rfl rfl (h)

theorem b_L_law_1080 {a0 : Nat} {a1 : Nat} {a2 : Nat} {a3 : Nat} {x4 : Int32} {l5 : iV} {l6 : iV} {σ : iS} {Q : iO → iS → Prop} (h : (sK σ a0 = 100 ∧ iIn (x4 + (1 : Int32)) (sN σ a0)) ∧ ((sK σ a0 = 100 ∧ iIn (x4 + (2 : Int32)) (sN σ a0)) ∧ (sK σ a1 = 1 ∧ ca J_X_result [vr a1, vi (sA σ a0 (x4 + (1 : Int32)).toNatClampNeg), vi (sA σ a0 (x4 + (2 : Int32)).toNatClampNeg)] σ (cI (fun r1 σ1 => (sK σ1 a0 = 100 ∧ iIn (x4 + (1 : Int32)) (sN σ1 a0)) ∧ ((sK σ1 a0 = 100 ∧ iIn (x4 + (2 : Int32)) (sN σ1 a0)) ∧ (sK σ1 a2 = 10 ∧ ca J_M_result [vr a2, vi (sA σ1 a0 (x4 + (1 : Int32)).toNatClampNeg), vi (sA σ1 a0 (x4 + (2 : Int32)).toNatClampNeg)] σ1 (cI (fun r2 σ2 => (r1 = r2 → wp J_L_law 1494 [vr a0, vr a1, vr a2, vr a3, vi x4, l5, l6] [] σ2 Q) ∧ (¬ (r1 = r2) → iBool (0 : Int32) ∧ Q (.inl (some (vi (0 : Int32)))) σ2)) Q)))) Q)))) : wp J_L_law 1080 [vr a0, vr a1, vr a2, vr a3, vi x4, l5, l6] [] σ Q :=
  w_go rfl rfl (w_go rfl rfl (w_go rfl rfl (w_ic rfl kc_1 (w_go rfl rfl (w_gd rfl rfl rfl ⟨Or.inl h.1.1, h.1.2⟩ (w_go rfl rfl (w_go rfl rfl (w_ic rfl kc_2 (w_go rfl rfl (w_gd rfl rfl rfl ⟨Or.inl h.2.1.1, h.2.1.2⟩ (w_cI rfl rfl rfl ⟨⟨Nat.le_of_ble_eq_true rfl, Nat.le_of_ble_eq_true rfl⟩, h.2.2.1⟩ rfl (fun _ => rfl) h.2.2.2 (fun r1 σ1 k1 => w_go rfl rfl (w_go rfl rfl (w_go rfl rfl (w_ic rfl kc_1 (w_go rfl rfl (w_gd rfl rfl rfl ⟨Or.inl k1.1.1, k1.1.2⟩ (w_go rfl rfl (w_go rfl rfl (w_ic rfl kc_2 (w_go rfl rfl (w_gd rfl rfl rfl ⟨Or.inl k1.2.1.1, k1.2.1.2⟩ (w_cI rfl rfl rfl ⟨⟨Nat.le_of_ble_eq_true rfl, Nat.le_of_ble_eq_true rfl⟩, k1.2.2.1⟩ rfl (fun _ => rfl) k1.2.2.2 (fun r2 σ2 k2 => w_br rfl rfl rfl rfl (fun c3 => (k2.1 c3)) (fun c3 => w_ic rfl kc_0 (w_retG rfl rfl rfl (fun _ => (k2.2 c3).1) (k2.2 c3).2))))))))))))))))))))))))))

theorem b_L_law_1117 {a0 : Nat} {a1 : Nat} {a2 : Nat} {a3 : Nat} {x4 : Int32} {l5 : iV} {l6 : iV} {σ : iS} {Q : iO → iS → Prop} (h : sK σ a1 = 1 ∧ ca J_X_pointer [vr a1] σ (cI (fun r1 σ1 => sK σ1 a2 = 10 ∧ ca J_M_pointer [vr a2] σ1 (cI (fun r2 σ2 => (r1 = r2 → wp J_L_law 1494 [vr a0, vr a1, vr a2, vr a3, vi x4, l5, l6] [] σ2 Q) ∧ (¬ (r1 = r2) → iBool (0 : Int32) ∧ Q (.inl (some (vi (0 : Int32)))) σ2)) Q)) Q)) : wp J_L_law 1117 [vr a0, vr a1, vr a2, vr a3, vi x4, l5, l6] [] σ Q :=
  w_go rfl rfl (w_cI rfl rfl rfl ⟨⟨Nat.le_of_ble_eq_true rfl, Nat.le_of_ble_eq_true rfl⟩, h.1⟩ rfl (fun _ => rfl) h.2 (fun r1 σ1 k1 => w_go rfl rfl (w_cI rfl rfl rfl ⟨⟨Nat.le_of_ble_eq_true rfl, Nat.le_of_ble_eq_true rfl⟩, k1.1⟩ rfl (fun _ => rfl) k1.2 (fun r2 σ2 k2 => w_br rfl rfl rfl rfl (fun c3 => (k2.1 c3)) (fun c3 => w_ic rfl kc_0 (w_retG rfl rfl rfl (fun _ => (k2.2 c3).1) (k2.2 c3).2))))))

theorem b_L_law_1130 {a0 : Nat} {a1 : Nat} {a2 : Nat} {a3 : Nat} {x4 : Int32} {l5 : iV} {l6 : iV} {σ : iS} {Q : iO → iS → Prop} (h : (sK σ a0 = 100 ∧ iIn (x4 + (1 : Int32)) (sN σ a0)) ∧ (ca J_L_table [vr a1, vi (sA σ a0 (x4 + (1 : Int32)).toNatClampNeg), vr a3] σ (cI (fun r1 σ1 => (sK σ1 a0 = 100 ∧ iIn (x4 + (1 : Int32)) (sN σ1 a0)) ∧ (sK σ1 a2 = 10 ∧ ca J_M_table [vr a2, vi (sA σ1 a0 (x4 + (1 : Int32)).toNatClampNeg)] σ1 (cI (fun r2 σ2 => sK σ2 a2 = 10 ∧ ca J_M_thrown [vr a2] σ2 (cI (fun r3 σ3 => (r3 = r1 → (r1 ≠ 0 → wp J_L_law 1183 [vr a0, vr a1, vr a2, vr a3, vi x4, vi r1, vi r2] [] σ3 Q) ∧ (¬ (r1 ≠ 0) → (sK σ3 a3 = 103 ∧ iIn (0 : Int32) (sN σ3 a3)) ∧ ((sL σ3 a3 (0 : Int32).toNatClampNeg = r2.toInt64 → wp J_L_law 1183 [vr a0, vr a1, vr a2, vr a3, vi x4, vi r1, vi r2] [] σ3 Q) ∧ (¬ sL σ3 a3 (0 : Int32).toNatClampNeg = r2.toInt64 → iBool (0 : Int32) ∧ Q (.inl (some (vi (0 : Int32)))) σ3)))) ∧ (¬ (r3 = r1) → iBool (0 : Int32) ∧ Q (.inl (some (vi (0 : Int32)))) σ3)) Q)) Q))) Q))) : wp J_L_law 1130 [vr a0, vr a1, vr a2, vr a3, vi x4, l5, l6] [] σ Q :=
  w_go rfl rfl (w_go rfl rfl (w_go rfl rfl (w_ic rfl kc_1 (w_go rfl rfl (w_gd rfl rfl rfl ⟨Or.inl h.1.1, h.1.2⟩ (w_go rfl rfl (w_cI rfl rfl rfl ⟨Nat.le_of_ble_eq_true rfl, Nat.le_of_ble_eq_true rfl⟩ rfl (fun _ => rfl) h.2 (fun r1 σ1 k1 => w_gd rfl rfl rfl (Nat.le_of_ble_eq_true rfl) (w_go rfl rfl (w_go rfl rfl (w_go rfl rfl (w_ic rfl kc_1 (w_go rfl rfl (w_gd rfl rfl rfl ⟨Or.inl k1.1.1, k1.1.2⟩ (w_cI rfl rfl rfl ⟨⟨Nat.le_of_ble_eq_true rfl, Nat.le_of_ble_eq_true rfl⟩, k1.2.1⟩ rfl (fun _ => rfl) k1.2.2 (fun r2 σ2 k2 => w_gd rfl rfl rfl (Nat.le_of_ble_eq_true rfl) (w_go rfl rfl (w_cI rfl rfl rfl ⟨⟨Nat.le_of_ble_eq_true rfl, Nat.le_of_ble_eq_true rfl⟩, k2.1⟩ rfl (fun _ => rfl) k2.2 (fun r3 σ3 k3 => w_go rfl rfl (w_br rfl rfl rfl rfl (fun c4 => w_go rfl rfl (w_br rfl rfl rfl rfl (fun c5 => ((k3.1 c4).1 c5)) (fun c5 => w_go rfl rfl (w_ic rfl kc_0 (w_gd rfl rfl rfl ((k3.1 c4).2 c5).1 (w_go rfl rfl (w_go rfl rfl (w_lcE rfl rfl rfl rfl (fun c6 => (((k3.1 c4).2 c5).2.1 c6)) (fun c6 => w_ic rfl kc_0 (w_retG rfl rfl rfl (fun _ => (((k3.1 c4).2 c5).2.2 c6).1) (((k3.1 c4).2 c5).2.2 c6).2)))))))))) (fun c4 => w_ic rfl kc_0 (w_retG rfl rfl rfl (fun _ => (k3.2 c4).1) (k3.2 c4).2))))))))))))))))))))))

theorem b_L_law_1183 {a0 : Nat} {a1 : Nat} {a2 : Nat} {a3 : Nat} {x4 : Int32} {x5 : Int32} {x6 : Int32} {σ : iS} {Q : iO → iS → Prop} (h : wp J_L_law 1494 [vr a0, vr a1, vr a2, vr a3, vi x4, vi x5, vi x6] [] σ Q) : wp J_L_law 1183 [vr a0, vr a1, vr a2, vr a3, vi x4, vi x5, vi x6] [] σ Q :=
  w_go rfl rfl (h)

theorem b_L_law_1186 {a0 : Nat} {a1 : Nat} {a2 : Nat} {a3 : Nat} {x4 : Int32} {l5 : iV} {l6 : iV} {σ : iS} {Q : iO → iS → Prop} (h : (sK σ a0 = 100 ∧ iIn (x4 + (1 : Int32)) (sN σ a0)) ∧ ((sK σ a0 = 100 ∧ iIn (x4 + (2 : Int32)) (sN σ a0)) ∧ ((sK σ a0 = 100 ∧ iIn (x4 + (3 : Int32)) (sN σ a0)) ∧ (ca J_L_row [vr a1, vi (sA σ a0 (x4 + (1 : Int32)).toNatClampNeg), vi (sA σ a0 (x4 + (2 : Int32)).toNatClampNeg), vi (sA σ a0 (x4 + (3 : Int32)).toNatClampNeg), vr a3] σ (cI (fun r1 σ1 => (sK σ1 a0 = 100 ∧ iIn (x4 + (1 : Int32)) (sN σ1 a0)) ∧ ((sK σ1 a0 = 100 ∧ iIn (x4 + (2 : Int32)) (sN σ1 a0)) ∧ ((sK σ1 a0 = 100 ∧ iIn (x4 + (3 : Int32)) (sN σ1 a0)) ∧ (sK σ1 a2 = 10 ∧ ca J_M_row [vr a2, vi (sA σ1 a0 (x4 + (1 : Int32)).toNatClampNeg), vi (sA σ1 a0 (x4 + (2 : Int32)).toNatClampNeg), vi (sA σ1 a0 (x4 + (3 : Int32)).toNatClampNeg)] σ1 (cI (fun r2 σ2 => sK σ2 a2 = 10 ∧ ca J_M_thrown [vr a2] σ2 (cI (fun r3 σ3 => (r3 = r1 → (r1 ≠ 0 → wp J_L_law 1263 [vr a0, vr a1, vr a2, vr a3, vi x4, vi r1, vi r2] [] σ3 Q) ∧ (¬ (r1 ≠ 0) → (sK σ3 a3 = 103 ∧ iIn (0 : Int32) (sN σ3 a3)) ∧ ((sL σ3 a3 (0 : Int32).toNatClampNeg = r2.toInt64 → wp J_L_law 1263 [vr a0, vr a1, vr a2, vr a3, vi x4, vi r1, vi r2] [] σ3 Q) ∧ (¬ sL σ3 a3 (0 : Int32).toNatClampNeg = r2.toInt64 → iBool (0 : Int32) ∧ Q (.inl (some (vi (0 : Int32)))) σ3)))) ∧ (¬ (r3 = r1) → iBool (0 : Int32) ∧ Q (.inl (some (vi (0 : Int32)))) σ3)) Q)) Q))))) Q))))) : wp J_L_law 1186 [vr a0, vr a1, vr a2, vr a3, vi x4, l5, l6] [] σ Q :=
  w_go rfl rfl (w_go rfl rfl (w_go rfl rfl (w_ic rfl kc_1 (w_go rfl rfl (w_gd rfl rfl rfl ⟨Or.inl h.1.1, h.1.2⟩ (w_go rfl rfl (w_go rfl rfl (w_ic rfl kc_2 (w_go rfl rfl (w_gd rfl rfl rfl ⟨Or.inl h.2.1.1, h.2.1.2⟩ (w_go rfl rfl (w_go rfl rfl (w_ic rfl kc_3 (w_go rfl rfl (w_gd rfl rfl rfl ⟨Or.inl h.2.2.1.1, h.2.2.1.2⟩ (w_go rfl rfl (w_cI rfl rfl rfl ⟨Nat.le_of_ble_eq_true rfl, Nat.le_of_ble_eq_true rfl⟩ rfl (fun _ => rfl) h.2.2.2 (fun r1 σ1 k1 => w_gd rfl rfl rfl (Nat.le_of_ble_eq_true rfl) (w_go rfl rfl (w_go rfl rfl (w_go rfl rfl (w_ic rfl kc_1 (w_go rfl rfl (w_gd rfl rfl rfl ⟨Or.inl k1.1.1, k1.1.2⟩ (w_go rfl rfl (w_go rfl rfl (w_ic rfl kc_2 (w_go rfl rfl (w_gd rfl rfl rfl ⟨Or.inl k1.2.1.1, k1.2.1.2⟩ (w_go rfl rfl (w_go rfl rfl (w_ic rfl kc_3 (w_go rfl rfl (w_gd rfl rfl rfl ⟨Or.inl k1.2.2.1.1, k1.2.2.1.2⟩ (w_cI rfl rfl rfl ⟨⟨Nat.le_of_ble_eq_true rfl, Nat.le_of_ble_eq_true rfl⟩, k1.2.2.2.1⟩ rfl (fun _ => rfl) k1.2.2.2.2 (fun r2 σ2 k2 => w_gd rfl rfl rfl (Nat.le_of_ble_eq_true rfl) (w_go rfl rfl (w_cI rfl rfl rfl ⟨⟨Nat.le_of_ble_eq_true rfl, Nat.le_of_ble_eq_true rfl⟩, k2.1⟩ rfl (fun _ => rfl) k2.2 (fun r3 σ3 k3 => w_go rfl rfl (w_br rfl rfl rfl rfl (fun c4 => w_go rfl rfl (w_br rfl rfl rfl rfl (fun c5 => ((k3.1 c4).1 c5)) (fun c5 => w_go rfl rfl (w_ic rfl kc_0 (w_gd rfl rfl rfl ((k3.1 c4).2 c5).1 (w_go rfl rfl (w_go rfl rfl (w_lcE rfl rfl rfl rfl (fun c6 => (((k3.1 c4).2 c5).2.1 c6)) (fun c6 => w_ic rfl kc_0 (w_retG rfl rfl rfl (fun _ => (((k3.1 c4).2 c5).2.2 c6).1) (((k3.1 c4).2 c5).2.2 c6).2)))))))))) (fun c4 => w_ic rfl kc_0 (w_retG rfl rfl rfl (fun _ => (k3.2 c4).1) (k3.2 c4).2))))))))))))))))))))))))))))))))))))))))))

theorem b_L_law_1263 {a0 : Nat} {a1 : Nat} {a2 : Nat} {a3 : Nat} {x4 : Int32} {x5 : Int32} {x6 : Int32} {σ : iS} {Q : iO → iS → Prop} (h : wp J_L_law 1494 [vr a0, vr a1, vr a2, vr a3, vi x4, vi x5, vi x6] [] σ Q) : wp J_L_law 1263 [vr a0, vr a1, vr a2, vr a3, vi x4, vi x5, vi x6] [] σ Q :=
  w_go rfl rfl (h)

theorem b_L_law_1266 {a0 : Nat} {a1 : Nat} {a2 : Nat} {a3 : Nat} {x4 : Int32} {l5 : iV} {l6 : iV} {σ : iS} {Q : iO → iS → Prop} (h : (sK σ a0 = 100 ∧ iIn (x4 + (1 : Int32)) (sN σ a0)) ∧ ((sK σ a0 = 100 ∧ iIn (x4 + (2 : Int32)) (sN σ a0)) ∧ (ca J_L_index [vr a1, vi (sA σ a0 (x4 + (1 : Int32)).toNatClampNeg), vi (sA σ a0 (x4 + (2 : Int32)).toNatClampNeg), vr a3] σ (cI (fun r1 σ1 => (sK σ1 a0 = 100 ∧ iIn (x4 + (1 : Int32)) (sN σ1 a0)) ∧ ((sK σ1 a0 = 100 ∧ iIn (x4 + (2 : Int32)) (sN σ1 a0)) ∧ (sK σ1 a2 = 10 ∧ ca J_M_index [vr a2, vi (sA σ1 a0 (x4 + (1 : Int32)).toNatClampNeg), vi (sA σ1 a0 (x4 + (2 : Int32)).toNatClampNeg)] σ1 (cI (fun r2 σ2 => sK σ2 a2 = 10 ∧ ca J_M_thrown [vr a2] σ2 (cI (fun r3 σ3 => (r3 = r1 → (r1 ≠ 0 → wp J_L_law 1331 [vr a0, vr a1, vr a2, vr a3, vi x4, vi r1, vi r2] [] σ3 Q) ∧ (¬ (r1 ≠ 0) → (sK σ3 a3 = 103 ∧ iIn (0 : Int32) (sN σ3 a3)) ∧ ((sL σ3 a3 (0 : Int32).toNatClampNeg = r2.toInt64 → wp J_L_law 1331 [vr a0, vr a1, vr a2, vr a3, vi x4, vi r1, vi r2] [] σ3 Q) ∧ (¬ sL σ3 a3 (0 : Int32).toNatClampNeg = r2.toInt64 → iBool (0 : Int32) ∧ Q (.inl (some (vi (0 : Int32)))) σ3)))) ∧ (¬ (r3 = r1) → iBool (0 : Int32) ∧ Q (.inl (some (vi (0 : Int32)))) σ3)) Q)) Q)))) Q)))) : wp J_L_law 1266 [vr a0, vr a1, vr a2, vr a3, vi x4, l5, l6] [] σ Q :=
  w_go rfl rfl (w_go rfl rfl (w_go rfl rfl (w_ic rfl kc_1 (w_go rfl rfl (w_gd rfl rfl rfl ⟨Or.inl h.1.1, h.1.2⟩ (w_go rfl rfl (w_go rfl rfl (w_ic rfl kc_2 (w_go rfl rfl (w_gd rfl rfl rfl ⟨Or.inl h.2.1.1, h.2.1.2⟩ (w_go rfl rfl (w_cI rfl rfl rfl ⟨Nat.le_of_ble_eq_true rfl, Nat.le_of_ble_eq_true rfl⟩ rfl (fun _ => rfl) h.2.2 (fun r1 σ1 k1 => w_gd rfl rfl rfl (Nat.le_of_ble_eq_true rfl) (w_go rfl rfl (w_go rfl rfl (w_go rfl rfl (w_ic rfl kc_1 (w_go rfl rfl (w_gd rfl rfl rfl ⟨Or.inl k1.1.1, k1.1.2⟩ (w_go rfl rfl (w_go rfl rfl (w_ic rfl kc_2 (w_go rfl rfl (w_gd rfl rfl rfl ⟨Or.inl k1.2.1.1, k1.2.1.2⟩ (w_cI rfl rfl rfl ⟨⟨Nat.le_of_ble_eq_true rfl, Nat.le_of_ble_eq_true rfl⟩, k1.2.2.1⟩ rfl (fun _ => rfl) k1.2.2.2 (fun r2 σ2 k2 => w_gd rfl rfl rfl (Nat.le_of_ble_eq_true rfl) (w_go rfl rfl (w_cI rfl rfl rfl ⟨⟨Nat.le_of_ble_eq_true rfl, Nat.le_of_ble_eq_true rfl⟩, k2.1⟩ rfl (fun _ => rfl) k2.2 (fun r3 σ3 k3 => w_go rfl rfl (w_br rfl rfl rfl rfl (fun c4 => w_go rfl rfl (w_br rfl rfl rfl rfl (fun c5 => ((k3.1 c4).1 c5)) (fun c5 => w_go rfl rfl (w_ic rfl kc_0 (w_gd rfl rfl rfl ((k3.1 c4).2 c5).1 (w_go rfl rfl (w_go rfl rfl (w_lcE rfl rfl rfl rfl (fun c6 => (((k3.1 c4).2 c5).2.1 c6)) (fun c6 => w_ic rfl kc_0 (w_retG rfl rfl rfl (fun _ => (((k3.1 c4).2 c5).2.2 c6).1) (((k3.1 c4).2 c5).2.2 c6).2)))))))))) (fun c4 => w_ic rfl kc_0 (w_retG rfl rfl rfl (fun _ => (k3.2 c4).1) (k3.2 c4).2))))))))))))))))))))))))))))))))

theorem b_L_law_1331 {a0 : Nat} {a1 : Nat} {a2 : Nat} {a3 : Nat} {x4 : Int32} {x5 : Int32} {x6 : Int32} {σ : iS} {Q : iO → iS → Prop} (h : wp J_L_law 1494 [vr a0, vr a1, vr a2, vr a3, vi x4, vi x5, vi x6] [] σ Q) : wp J_L_law 1331 [vr a0, vr a1, vr a2, vr a3, vi x4, vi x5, vi x6] [] σ Q :=
  w_go rfl rfl (h)

theorem b_L_law_1334 {a0 : Nat} {a1 : Nat} {a2 : Nat} {a3 : Nat} {x4 : Int32} {l5 : iV} {l6 : iV} {σ : iS} {Q : iO → iS → Prop} (h : (sK σ a0 = 100 ∧ iIn (x4 + (1 : Int32)) (sN σ a0)) ∧ ((sK σ a0 = 100 ∧ iIn (x4 + (2 : Int32)) (sN σ a0)) ∧ (((sA σ a0 (x4 + (2 : Int32)).toNatClampNeg) = 0 → wp J_L_law 1355 [vr a0, vr a1, vr a2, vr a3, vi x4, l5, l6] [vi (0 : Int32), vi (sA σ a0 (x4 + (1 : Int32)).toNatClampNeg), vr a1] σ Q) ∧ (¬ ((sA σ a0 (x4 + (2 : Int32)).toNatClampNeg) = 0) → wp J_L_law 1355 [vr a0, vr a1, vr a2, vr a3, vi x4, l5, l6] [vi (1 : Int32), vi (sA σ a0 (x4 + (1 : Int32)).toNatClampNeg), vr a1] σ Q)))) : wp J_L_law 1334 [vr a0, vr a1, vr a2, vr a3, vi x4, l5, l6] [] σ Q :=
  w_go rfl rfl (w_go rfl rfl (w_go rfl rfl (w_ic rfl kc_1 (w_go rfl rfl (w_gd rfl rfl rfl ⟨Or.inl h.1.1, h.1.2⟩ (w_go rfl rfl (w_go rfl rfl (w_ic rfl kc_2 (w_go rfl rfl (w_gd rfl rfl rfl ⟨Or.inl h.2.1.1, h.2.1.2⟩ (w_br rfl rfl rfl rfl (fun c1 => w_ic rfl kc_0 ((h.2.2.1 c1))) (fun c1 => w_ic rfl kc_1 (w_go rfl rfl ((h.2.2.2 c1)))))))))))))))

theorem b_L_law_1355 {a0 : Nat} {a1 : Nat} {a2 : Nat} {a3 : Nat} {x4 : Int32} {l5 : iV} {l6 : iV} {tx0 : Int32} {tx1 : Int32} {ta2 : Nat} {σ : iS} {Q : iO → iS → Prop} (h : (sK σ a0 = 100 ∧ iIn (x4 + (3 : Int32)) (sN σ a0)) ∧ (ca J_L_search [vr ta2, vi tx1, vi tx0, vi (sA σ a0 (x4 + (3 : Int32)).toNatClampNeg), vr a3] σ (cI (fun r1 σ1 => (sK σ1 a0 = 100 ∧ iIn (x4 + (1 : Int32)) (sN σ1 a0)) ∧ ((sK σ1 a0 = 100 ∧ iIn (x4 + (2 : Int32)) (sN σ1 a0)) ∧ (((sA σ1 a0 (x4 + (2 : Int32)).toNatClampNeg) = 0 → wp J_L_law 1388 [vr a0, vr a1, vr a2, vr a3, vi x4, vi r1, l6] [vi (0 : Int32), vi (sA σ1 a0 (x4 + (1 : Int32)).toNatClampNeg), vr a2] σ1 Q) ∧ (¬ ((sA σ1 a0 (x4 + (2 : Int32)).toNatClampNeg) = 0) → wp J_L_law 1388 [vr a0, vr a1, vr a2, vr a3, vi x4, vi r1, l6] [vi (1 : Int32), vi (sA σ1 a0 (x4 + (1 : Int32)).toNatClampNeg), vr a2] σ1 Q)))) Q))) : wp J_L_law 1355 [vr a0, vr a1, vr a2, vr a3, vi x4, l5, l6] [vi tx0, vi tx1, vr ta2] σ Q :=
  w_go rfl rfl (w_go rfl rfl (w_ic rfl kc_3 (w_go rfl rfl (w_gd rfl rfl rfl ⟨Or.inl h.1.1, h.1.2⟩ (w_go rfl rfl (w_cI rfl rfl rfl ⟨Nat.le_of_ble_eq_true rfl, Nat.le_of_ble_eq_true rfl⟩ rfl (fun _ => rfl) h.2 (fun r1 σ1 k1 => w_gd rfl rfl rfl (Nat.le_of_ble_eq_true rfl) (w_go rfl rfl (w_go rfl rfl (w_go rfl rfl (w_ic rfl kc_1 (w_go rfl rfl (w_gd rfl rfl rfl ⟨Or.inl k1.1.1, k1.1.2⟩ (w_go rfl rfl (w_go rfl rfl (w_ic rfl kc_2 (w_go rfl rfl (w_gd rfl rfl rfl ⟨Or.inl k1.2.1.1, k1.2.1.2⟩ (w_br rfl rfl rfl rfl (fun c2 => w_ic rfl kc_0 ((k1.2.2.1 c2))) (fun c2 => w_ic rfl kc_1 (w_go rfl rfl ((k1.2.2.2 c2)))))))))))))))))))))))

theorem b_L_law_1388 {a0 : Nat} {a1 : Nat} {a2 : Nat} {a3 : Nat} {x4 : Int32} {x5 : Int32} {l6 : iV} {tx0 : Int32} {tx1 : Int32} {ta2 : Nat} {σ : iS} {Q : iO → iS → Prop} (h : (sK σ a0 = 100 ∧ iIn (x4 + (3 : Int32)) (sN σ a0)) ∧ (sK σ ta2 = 10 ∧ ca J_M_search [vr ta2, vi tx1, vi tx0, vi (sA σ a0 (x4 + (3 : Int32)).toNatClampNeg)] σ (cI (fun r1 σ1 => sK σ1 a2 = 10 ∧ ca J_M_thrown [vr a2] σ1 (cI (fun r2 σ2 => (r2 = x5 → (x5 ≠ 0 → wp J_L_law 1427 [vr a0, vr a1, vr a2, vr a3, vi x4, vi x5, vi r1] [] σ2 Q) ∧ (¬ (x5 ≠ 0) → (sK σ2 a3 = 103 ∧ iIn (0 : Int32) (sN σ2 a3)) ∧ ((sL σ2 a3 (0 : Int32).toNatClampNeg = r1.toInt64 → wp J_L_law 1427 [vr a0, vr a1, vr a2, vr a3, vi x4, vi x5, vi r1] [] σ2 Q) ∧ (¬ sL σ2 a3 (0 : Int32).toNatClampNeg = r1.toInt64 → iBool (0 : Int32) ∧ Q (.inl (some (vi (0 : Int32)))) σ2)))) ∧ (¬ (r2 = x5) → iBool (0 : Int32) ∧ Q (.inl (some (vi (0 : Int32)))) σ2)) Q)) Q))) : wp J_L_law 1388 [vr a0, vr a1, vr a2, vr a3, vi x4, vi x5, l6] [vi tx0, vi tx1, vr ta2] σ Q :=
  w_go rfl rfl (w_go rfl rfl (w_ic rfl kc_3 (w_go rfl rfl (w_gd rfl rfl rfl ⟨Or.inl h.1.1, h.1.2⟩ (w_cI rfl rfl rfl ⟨⟨Nat.le_of_ble_eq_true rfl, Nat.le_of_ble_eq_true rfl⟩, h.2.1⟩ rfl (fun _ => rfl) h.2.2 (fun r1 σ1 k1 => w_gd rfl rfl rfl (Nat.le_of_ble_eq_true rfl) (w_go rfl rfl (w_cI rfl rfl rfl ⟨⟨Nat.le_of_ble_eq_true rfl, Nat.le_of_ble_eq_true rfl⟩, k1.1⟩ rfl (fun _ => rfl) k1.2 (fun r2 σ2 k2 => w_go rfl rfl (w_br rfl rfl rfl rfl (fun c3 => w_go rfl rfl (w_br rfl rfl rfl rfl (fun c4 => ((k2.1 c3).1 c4)) (fun c4 => w_go rfl rfl (w_ic rfl kc_0 (w_gd rfl rfl rfl ((k2.1 c3).2 c4).1 (w_go rfl rfl (w_go rfl rfl (w_lcE rfl rfl rfl rfl (fun c5 => (((k2.1 c3).2 c4).2.1 c5)) (fun c5 => w_ic rfl kc_0 (w_retG rfl rfl rfl (fun _ => (((k2.1 c3).2 c4).2.2 c5).1) (((k2.1 c3).2 c4).2.2 c5).2)))))))))) (fun c3 => w_ic rfl kc_0 (w_retG rfl rfl rfl (fun _ => (k2.2 c3).1) (k2.2 c3).2))))))))))))

theorem b_L_law_1427 {a0 : Nat} {a1 : Nat} {a2 : Nat} {a3 : Nat} {x4 : Int32} {x5 : Int32} {x6 : Int32} {σ : iS} {Q : iO → iS → Prop} (h : wp J_L_law 1494 [vr a0, vr a1, vr a2, vr a3, vi x4, vi x5, vi x6] [] σ Q) : wp J_L_law 1427 [vr a0, vr a1, vr a2, vr a3, vi x4, vi x5, vi x6] [] σ Q :=
  w_go rfl rfl (h)

theorem b_L_law_1430 {a0 : Nat} {a1 : Nat} {a2 : Nat} {a3 : Nat} {x4 : Int32} {l5 : iV} {l6 : iV} {σ : iS} {Q : iO → iS → Prop} (h : (sK σ a0 = 100 ∧ iIn (x4 + (1 : Int32)) (sN σ a0)) ∧ ((sK σ a0 = 100 ∧ iIn (x4 + (2 : Int32)) (sN σ a0)) ∧ (((sA σ a0 (x4 + (2 : Int32)).toNatClampNeg) = 0 → wp J_L_law 1451 [vr a0, vr a1, vr a2, vr a3, vi x4, l5, l6] [vi (0 : Int32), vi (sA σ a0 (x4 + (1 : Int32)).toNatClampNeg), vr a1] σ Q) ∧ (¬ ((sA σ a0 (x4 + (2 : Int32)).toNatClampNeg) = 0) → wp J_L_law 1451 [vr a0, vr a1, vr a2, vr a3, vi x4, l5, l6] [vi (1 : Int32), vi (sA σ a0 (x4 + (1 : Int32)).toNatClampNeg), vr a1] σ Q)))) : wp J_L_law 1430 [vr a0, vr a1, vr a2, vr a3, vi x4, l5, l6] [] σ Q :=
  w_go rfl rfl (w_go rfl rfl (w_go rfl rfl (w_ic rfl kc_1 (w_go rfl rfl (w_gd rfl rfl rfl ⟨Or.inl h.1.1, h.1.2⟩ (w_go rfl rfl (w_go rfl rfl (w_ic rfl kc_2 (w_go rfl rfl (w_gd rfl rfl rfl ⟨Or.inl h.2.1.1, h.2.1.2⟩ (w_br rfl rfl rfl rfl (fun c1 => w_ic rfl kc_0 ((h.2.2.1 c1))) (fun c1 => w_ic rfl kc_1 (w_go rfl rfl ((h.2.2.2 c1)))))))))))))))

theorem b_L_law_1451 {a0 : Nat} {a1 : Nat} {a2 : Nat} {a3 : Nat} {x4 : Int32} {l5 : iV} {l6 : iV} {tx0 : Int32} {tx1 : Int32} {ta2 : Nat} {σ : iS} {Q : iO → iS → Prop} (h : ca J_L_sort [vr ta2, vi tx1, vi tx0] σ (cI (fun r1 σ1 => (sK σ1 a0 = 100 ∧ iIn (x4 + (1 : Int32)) (sN σ1 a0)) ∧ ((sK σ1 a0 = 100 ∧ iIn (x4 + (2 : Int32)) (sN σ1 a0)) ∧ (((sA σ1 a0 (x4 + (2 : Int32)).toNatClampNeg) = 0 → wp J_L_law 1477 [vr a0, vr a1, vr a2, vr a3, vi x4, vi r1, l6] [vi (0 : Int32), vi (sA σ1 a0 (x4 + (1 : Int32)).toNatClampNeg), vr a2] σ1 Q) ∧ (¬ ((sA σ1 a0 (x4 + (2 : Int32)).toNatClampNeg) = 0) → wp J_L_law 1477 [vr a0, vr a1, vr a2, vr a3, vi x4, vi r1, l6] [vi (1 : Int32), vi (sA σ1 a0 (x4 + (1 : Int32)).toNatClampNeg), vr a2] σ1 Q)))) Q)) : wp J_L_law 1451 [vr a0, vr a1, vr a2, vr a3, vi x4, l5, l6] [vi tx0, vi tx1, vr ta2] σ Q :=
  w_cI rfl rfl rfl ⟨Nat.le_of_ble_eq_true rfl, Nat.le_of_ble_eq_true rfl⟩ rfl (fun _ => rfl) h (fun r1 σ1 k1 => w_gd rfl rfl rfl (Nat.le_of_ble_eq_true rfl) (w_go rfl rfl (w_go rfl rfl (w_go rfl rfl (w_ic rfl kc_1 (w_go rfl rfl (w_gd rfl rfl rfl ⟨Or.inl k1.1.1, k1.1.2⟩ (w_go rfl rfl (w_go rfl rfl (w_ic rfl kc_2 (w_go rfl rfl (w_gd rfl rfl rfl ⟨Or.inl k1.2.1.1, k1.2.1.2⟩ (w_br rfl rfl rfl rfl (fun c2 => w_ic rfl kc_0 ((k1.2.2.1 c2))) (fun c2 => w_ic rfl kc_1 (w_go rfl rfl ((k1.2.2.2 c2)))))))))))))))))

theorem b_L_law_1477 {a0 : Nat} {a1 : Nat} {a2 : Nat} {a3 : Nat} {x4 : Int32} {x5 : Int32} {l6 : iV} {tx0 : Int32} {tx1 : Int32} {ta2 : Nat} {σ : iS} {Q : iO → iS → Prop} (h : sK σ ta2 = 10 ∧ ca J_M_sort [vr ta2, vi tx1, vi tx0] σ (cV (fun σ1 => sK σ1 a2 = 10 ∧ ca J_M_thrown [vr a2] σ1 (cI (fun r2 σ2 => (r2 = x5 → wp J_L_law 1494 [vr a0, vr a1, vr a2, vr a3, vi x4, vi x5, l6] [] σ2 Q) ∧ (¬ (r2 = x5) → iBool (0 : Int32) ∧ Q (.inl (some (vi (0 : Int32)))) σ2)) Q)) Q)) : wp J_L_law 1477 [vr a0, vr a1, vr a2, vr a3, vi x4, vi x5, l6] [vi tx0, vi tx1, vr ta2] σ Q :=
  w_cV rfl rfl rfl ⟨⟨Nat.le_of_ble_eq_true rfl, Nat.le_of_ble_eq_true rfl⟩, h.1⟩ rfl (fun _ => rfl) h.2 (fun σ1 k1 => w_go rfl rfl (w_cI rfl rfl rfl ⟨⟨Nat.le_of_ble_eq_true rfl, Nat.le_of_ble_eq_true rfl⟩, k1.1⟩ rfl (fun _ => rfl) k1.2 (fun r2 σ2 k2 => w_go rfl rfl (w_br rfl rfl rfl rfl (fun c3 => w_go rfl rfl ((k2.1 c3))) (fun c3 => w_ic rfl kc_0 (w_retG rfl rfl rfl (fun _ => (k2.2 c3).1) (k2.2 c3).2))))))

theorem b_L_law_1494 {a0 : Nat} {a1 : Nat} {a2 : Nat} {a3 : Nat} {x4 : Int32} {l5 : iV} {l6 : iV} {σ : iS} {Q : iO → iS → Prop} (h : wp J_L_law 23 [vr a0, vr a1, vr a2, vr a3, vi (x4 + (4 : Int32)), l5, l6] [] σ Q) : wp J_L_law 1494 [vr a0, vr a1, vr a2, vr a3, vi x4, l5, l6] [] σ Q :=
  w_inc rfl rfl kc_4 (w_go rfl rfl (h))
end
section
/-! begun with kit/laws/SKELETON (part A) and claim/NAMES.whole (exceptions) -/
-- ===== PART A: goes FIRST, ahead of the names: the tables' words, and 'selects' of the private methods out of them =====
/-- a private method of a class that the tables say can be made, by its rows of tables_1 -/
def lw_okq (q : MethodName × Nat) : Prop := (q.1.cls ≠ "java/lang/invoke/MethodHandle" ∧ q.1.cls ≠ "java/lang/invoke/VarHandle") ∧ Cond.instantiable q.1.cls q.2 ∈ tables_1 ∧ Cond.privateMethod q.1 ∈ tables_1 ∧ Cond.instanceMethod q.1 ∈ tables_1
theorem lw_p0 : lw_okq (⟨"java/lang/Throwable", "fillInStackTrace", "(I)Ljava/lang/Throwable;"⟩, 6) := ⟨⟨by decide +kernel, by decide +kernel⟩, List.mem_of_getElem? (i := 207) (by decide +kernel), List.mem_of_getElem? (i := 205) (by decide +kernel), List.mem_of_getElem? (i := 206) (by decide +kernel)⟩
theorem lw_p1 : lw_okq (⟨"TextVerbs", "textWithPlace", "(II)LTextVerbs$Text;"⟩, 10) := ⟨⟨by decide +kernel, by decide +kernel⟩, List.mem_of_getElem? (i := 19) (by decide +kernel), List.mem_of_getElem? (i := 275) (by decide +kernel), List.mem_of_getElem? (i := 276) (by decide +kernel)⟩
theorem lw_p2 : lw_okq (⟨"TextVerbs", "knownText", "(I)LTextVerbs$Text;"⟩, 10) := ⟨⟨by decide +kernel, by decide +kernel⟩, List.mem_of_getElem? (i := 19) (by decide +kernel), List.mem_of_getElem? (i := 279) (by decide +kernel), List.mem_of_getElem? (i := 280) (by decide +kernel)⟩
theorem lw_p3 : lw_okq (⟨"TextVerbs", "filledText", "(I)LTextVerbs$Text;"⟩, 10) := ⟨⟨by decide +kernel, by decide +kernel⟩, List.mem_of_getElem? (i := 19) (by decide +kernel), List.mem_of_getElem? (i := 304) (by decide +kernel), List.mem_of_getElem? (i := 305) (by decide +kernel)⟩
theorem lw_p4 : lw_okq (⟨"TextVerbs", "soughtText", "(II)LTextVerbs$Text;"⟩, 10) := ⟨⟨by decide +kernel, by decide +kernel⟩, List.mem_of_getElem? (i := 19) (by decide +kernel), List.mem_of_getElem? (i := 320) (by decide +kernel), List.mem_of_getElem? (i := 321) (by decide +kernel)⟩
theorem lw_p5 : lw_okq (⟨"TextVerbs", "checkRoomForPhrase", "()V"⟩, 10) := ⟨⟨by decide +kernel, by decide +kernel⟩, List.mem_of_getElem? (i := 19) (by decide +kernel), List.mem_of_getElem? (i := 328) (by decide +kernel), List.mem_of_getElem? (i := 329) (by decide +kernel)⟩
theorem lw_p6 : lw_okq (⟨"TextVerbs", "takeRegion", "()LTextVerbs$Region;"⟩, 10) := ⟨⟨by decide +kernel, by decide +kernel⟩, List.mem_of_getElem? (i := 19) (by decide +kernel), List.mem_of_getElem? (i := 335) (by decide +kernel), List.mem_of_getElem? (i := 336) (by decide +kernel)⟩
theorem lw_p7 : lw_okq (⟨"TextVerbs$Inspection", "goOver", "(LTextVerbs$Text;Z)I"⟩, 4) := ⟨⟨by decide +kernel, by decide +kernel⟩, List.mem_of_getElem? (i := 29) (by decide +kernel), List.mem_of_getElem? (i := 421) (by decide +kernel), List.mem_of_getElem? (i := 422) (by decide +kernel)⟩
theorem lw_p8 : lw_okq (⟨"TextVerbs$Inspection", "firstMatch", "(LTextVerbs$Text;IZ)LTextVerbs$Phrase;"⟩, 4) := ⟨⟨by decide +kernel, by decide +kernel⟩, List.mem_of_getElem? (i := 29) (by decide +kernel), List.mem_of_getElem? (i := 448) (by decide +kernel), List.mem_of_getElem? (i := 449) (by decide +kernel)⟩
theorem lw_p9 : lw_okq (⟨"TextVerbs$Inspection", "act", "(LTextVerbs$Phrase;I)V"⟩, 4) := ⟨⟨by decide +kernel, by decide +kernel⟩, List.mem_of_getElem? (i := 29) (by decide +kernel), List.mem_of_getElem? (i := 465) (by decide +kernel), List.mem_of_getElem? (i := 466) (by decide +kernel)⟩
theorem lw_p10 : lw_okq (⟨"TextVerbs$Joining", "putPart", "(LTextVerbs$Part;LTextVerbs$Text;)Z"⟩, 3) := ⟨⟨by decide +kernel, by decide +kernel⟩, List.mem_of_getElem? (i := 52) (by decide +kernel), List.mem_of_getElem? (i := 540) (by decide +kernel), List.mem_of_getElem? (i := 541) (by decide +kernel)⟩
theorem lw_p11 : lw_okq (⟨"TextVerbs$Splitting", "cutPieces", "(LTextVerbs$Text;)V"⟩, 11) := ⟨⟨by decide +kernel, by decide +kernel⟩, List.mem_of_getElem? (i := 72) (by decide +kernel), List.mem_of_getElem? (i := 586) (by decide +kernel), List.mem_of_getElem? (i := 587) (by decide +kernel)⟩
theorem lw_p12 : lw_okq (⟨"TextVerbs$Splitting", "cutBySize", "(LTextVerbs$Text;II)I"⟩, 11) := ⟨⟨by decide +kernel, by decide +kernel⟩, List.mem_of_getElem? (i := 72) (by decide +kernel), List.mem_of_getElem? (i := 590) (by decide +kernel), List.mem_of_getElem? (i := 591) (by decide +kernel)⟩
theorem lw_p13 : lw_okq (⟨"TextVerbs$Splitting", "keepPiece", "(IIII)V"⟩, 11) := ⟨⟨by decide +kernel, by decide +kernel⟩, List.mem_of_getElem? (i := 72) (by decide +kernel), List.mem_of_getElem? (i := 597) (by decide +kernel), List.mem_of_getElem? (i := 598) (by decide +kernel)⟩
theorem lw_p14 : lw_okq (⟨"TextVerbs$Splitting", "cutByDelimiter", "(LTextVerbs$Text;II)I"⟩, 11) := ⟨⟨by decide +kernel, by decide +kernel⟩, List.mem_of_getElem? (i := 72) (by decide +kernel), List.mem_of_getElem? (i := 601) (by decide +kernel), List.mem_of_getElem? (i := 602) (by decide +kernel)⟩
theorem lw_p15 : lw_okq (⟨"TextVerbs$Splitting", "delimiterAt", "(LTextVerbs$Text;I)I"⟩, 11) := ⟨⟨by decide +kernel, by decide +kernel⟩, List.mem_of_getElem? (i := 72) (by decide +kernel), List.mem_of_getElem? (i := 605) (by decide +kernel), List.mem_of_getElem? (i := 606) (by decide +kernel)⟩
def lw_privs_1 : List (MethodName × Nat) := [(⟨"java/lang/Throwable", "fillInStackTrace", "(I)Ljava/lang/Throwable;"⟩, 6), (⟨"TextVerbs", "textWithPlace", "(II)LTextVerbs$Text;"⟩, 10), (⟨"TextVerbs", "knownText", "(I)LTextVerbs$Text;"⟩, 10), (⟨"TextVerbs", "filledText", "(I)LTextVerbs$Text;"⟩, 10), (⟨"TextVerbs", "soughtText", "(II)LTextVerbs$Text;"⟩, 10), (⟨"TextVerbs", "checkRoomForPhrase", "()V"⟩, 10), (⟨"TextVerbs", "takeRegion", "()LTextVerbs$Region;"⟩, 10), (⟨"TextVerbs$Inspection", "goOver", "(LTextVerbs$Text;Z)I"⟩, 4), (⟨"TextVerbs$Inspection", "firstMatch", "(LTextVerbs$Text;IZ)LTextVerbs$Phrase;"⟩, 4), (⟨"TextVerbs$Inspection", "act", "(LTextVerbs$Phrase;I)V"⟩, 4), (⟨"TextVerbs$Joining", "putPart", "(LTextVerbs$Part;LTextVerbs$Text;)Z"⟩, 3), (⟨"TextVerbs$Splitting", "cutPieces", "(LTextVerbs$Text;)V"⟩, 11), (⟨"TextVerbs$Splitting", "cutBySize", "(LTextVerbs$Text;II)I"⟩, 11), (⟨"TextVerbs$Splitting", "keepPiece", "(IIII)V"⟩, 11), (⟨"TextVerbs$Splitting", "cutByDelimiter", "(LTextVerbs$Text;II)I"⟩, 11), (⟨"TextVerbs$Splitting", "delimiterAt", "(LTextVerbs$Text;I)I"⟩, 11)]
theorem lw_r1 : ∀ q ∈ lw_privs_1, lw_okq q := List.forall_mem_cons.mpr ⟨lw_p0, List.forall_mem_cons.mpr ⟨lw_p1, List.forall_mem_cons.mpr ⟨lw_p2, List.forall_mem_cons.mpr ⟨lw_p3, List.forall_mem_cons.mpr ⟨lw_p4, List.forall_mem_cons.mpr ⟨lw_p5, List.forall_mem_cons.mpr ⟨lw_p6, List.forall_mem_cons.mpr ⟨lw_p7, List.forall_mem_cons.mpr ⟨lw_p8, List.forall_mem_cons.mpr ⟨lw_p9, List.forall_mem_cons.mpr ⟨lw_p10, List.forall_mem_cons.mpr ⟨lw_p11, List.forall_mem_cons.mpr ⟨lw_p12, List.forall_mem_cons.mpr ⟨lw_p13, List.forall_mem_cons.mpr ⟨lw_p14, List.forall_mem_cons.mpr ⟨lw_p15, fun _ h => absurd h List.not_mem_nil⟩⟩⟩⟩⟩⟩⟩⟩⟩⟩⟩⟩⟩⟩⟩⟩
theorem lw_p16 : lw_okq (⟨"TextVerbs$Splitting", "placeBehind", "(LTextVerbs$Text;II)I"⟩, 11) := ⟨⟨by decide +kernel, by decide +kernel⟩, List.mem_of_getElem? (i := 72) (by decide +kernel), List.mem_of_getElem? (i := 610) (by decide +kernel), List.mem_of_getElem? (i := 611) (by decide +kernel)⟩
theorem lw_p17 : lw_okq (⟨"TextVerbs$Splitting", "handOut", "(LTextVerbs$Text;)V"⟩, 11) := ⟨⟨by decide +kernel, by decide +kernel⟩, List.mem_of_getElem? (i := 72) (by decide +kernel), List.mem_of_getElem? (i := 614) (by decide +kernel), List.mem_of_getElem? (i := 615) (by decide +kernel)⟩
theorem lw_p18 : lw_okq (⟨"TextVerbs", "tableWithRow", "(II)LTextVerbs$Table;"⟩, 10) := ⟨⟨by decide +kernel, by decide +kernel⟩, List.mem_of_getElem? (i := 19) (by decide +kernel), List.mem_of_getElem? (i := 650) (by decide +kernel), List.mem_of_getElem? (i := 651) (by decide +kernel)⟩
theorem lw_p19 : lw_okq (⟨"TextVerbs", "knownTable", "(I)LTextVerbs$Table;"⟩, 10) := ⟨⟨by decide +kernel, by decide +kernel⟩, List.mem_of_getElem? (i := 19) (by decide +kernel), List.mem_of_getElem? (i := 654) (by decide +kernel), List.mem_of_getElem? (i := 655) (by decide +kernel)⟩
theorem lw_p20 : lw_okq (⟨"TextVerbsModel", "fails", "(ZZ)Z"⟩, 33) := ⟨⟨by decide +kernel, by decide +kernel⟩, List.mem_of_getElem? (i := 696) (by decide +kernel), List.mem_of_getElem? (i := 810) (by decide +kernel), List.mem_of_getElem? (i := 811) (by decide +kernel)⟩
theorem lw_p21 : lw_okq (⟨"TextVerbsModel", "isPlace", "(II)Z"⟩, 33) := ⟨⟨by decide +kernel, by decide +kernel⟩, List.mem_of_getElem? (i := 696) (by decide +kernel), List.mem_of_getElem? (i := 818) (by decide +kernel), List.mem_of_getElem? (i := 819) (by decide +kernel)⟩
theorem lw_p22 : lw_okq (⟨"TextVerbsModel", "isText", "(I)Z"⟩, 33) := ⟨⟨by decide +kernel, by decide +kernel⟩, List.mem_of_getElem? (i := 696) (by decide +kernel), List.mem_of_getElem? (i := 822) (by decide +kernel), List.mem_of_getElem? (i := 823) (by decide +kernel)⟩
theorem lw_p23 : lw_okq (⟨"TextVerbsModel", "isFull", "(I)Z"⟩, 33) := ⟨⟨by decide +kernel, by decide +kernel⟩, List.mem_of_getElem? (i := 696) (by decide +kernel), List.mem_of_getElem? (i := 834) (by decide +kernel), List.mem_of_getElem? (i := 835) (by decide +kernel)⟩
theorem lw_p24 : lw_okq (⟨"TextVerbsModel", "phrase", "(III)I"⟩, 33) := ⟨⟨by decide +kernel, by decide +kernel⟩, List.mem_of_getElem? (i := 696) (by decide +kernel), List.mem_of_getElem? (i := 842) (by decide +kernel), List.mem_of_getElem? (i := 843) (by decide +kernel)⟩
theorem lw_p25 : lw_okq (⟨"TextVerbsModel", "over", "(IZ)I"⟩, 33) := ⟨⟨by decide +kernel, by decide +kernel⟩, List.mem_of_getElem? (i := 696) (by decide +kernel), List.mem_of_getElem? (i := 854) (by decide +kernel), List.mem_of_getElem? (i := 855) (by decide +kernel)⟩
theorem lw_p26 : lw_okq (⟨"TextVerbsModel", "remember", "()V"⟩, 33) := ⟨⟨by decide +kernel, by decide +kernel⟩, List.mem_of_getElem? (i := 696) (by decide +kernel), List.mem_of_getElem? (i := 858) (by decide +kernel), List.mem_of_getElem? (i := 859) (by decide +kernel)⟩
theorem lw_p27 : lw_okq (⟨"TextVerbsModel", "beginOf", "(II)I"⟩, 33) := ⟨⟨by decide +kernel, by decide +kernel⟩, List.mem_of_getElem? (i := 696) (by decide +kernel), List.mem_of_getElem? (i := 862) (by decide +kernel), List.mem_of_getElem? (i := 863) (by decide +kernel)⟩
theorem lw_p28 : lw_okq (⟨"TextVerbsModel", "first", "([III)I"⟩, 33) := ⟨⟨by decide +kernel, by decide +kernel⟩, List.mem_of_getElem? (i := 696) (by decide +kernel), List.mem_of_getElem? (i := 866) (by decide +kernel), List.mem_of_getElem? (i := 867) (by decide +kernel)⟩
theorem lw_p29 : lw_okq (⟨"TextVerbsModel", "occurs", "([IIIII)Z"⟩, 33) := ⟨⟨by decide +kernel, by decide +kernel⟩, List.mem_of_getElem? (i := 696) (by decide +kernel), List.mem_of_getElem? (i := 870) (by decide +kernel), List.mem_of_getElem? (i := 871) (by decide +kernel)⟩
theorem lw_p30 : lw_okq (⟨"TextVerbsModel", "endOf", "(II)I"⟩, 33) := ⟨⟨by decide +kernel, by decide +kernel⟩, List.mem_of_getElem? (i := 696) (by decide +kernel), List.mem_of_getElem? (i := 874) (by decide +kernel), List.mem_of_getElem? (i := 875) (by decide +kernel)⟩
theorem lw_p31 : lw_okq (⟨"TextVerbsModel", "matches", "(III)Z"⟩, 33) := ⟨⟨by decide +kernel, by decide +kernel⟩, List.mem_of_getElem? (i := 696) (by decide +kernel), List.mem_of_getElem? (i := 878) (by decide +kernel), List.mem_of_getElem? (i := 879) (by decide +kernel)⟩
def lw_privs_2 : List (MethodName × Nat) := [(⟨"TextVerbs$Splitting", "placeBehind", "(LTextVerbs$Text;II)I"⟩, 11), (⟨"TextVerbs$Splitting", "handOut", "(LTextVerbs$Text;)V"⟩, 11), (⟨"TextVerbs", "tableWithRow", "(II)LTextVerbs$Table;"⟩, 10), (⟨"TextVerbs", "knownTable", "(I)LTextVerbs$Table;"⟩, 10), (⟨"TextVerbsModel", "fails", "(ZZ)Z"⟩, 33), (⟨"TextVerbsModel", "isPlace", "(II)Z"⟩, 33), (⟨"TextVerbsModel", "isText", "(I)Z"⟩, 33), (⟨"TextVerbsModel", "isFull", "(I)Z"⟩, 33), (⟨"TextVerbsModel", "phrase", "(III)I"⟩, 33), (⟨"TextVerbsModel", "over", "(IZ)I"⟩, 33), (⟨"TextVerbsModel", "remember", "()V"⟩, 33), (⟨"TextVerbsModel", "beginOf", "(II)I"⟩, 33), (⟨"TextVerbsModel", "first", "([III)I"⟩, 33), (⟨"TextVerbsModel", "occurs", "([IIIII)Z"⟩, 33), (⟨"TextVerbsModel", "endOf", "(II)I"⟩, 33), (⟨"TextVerbsModel", "matches", "(III)Z"⟩, 33)]
theorem lw_r2 : ∀ q ∈ lw_privs_2, lw_okq q := List.forall_mem_cons.mpr ⟨lw_p16, List.forall_mem_cons.mpr ⟨lw_p17, List.forall_mem_cons.mpr ⟨lw_p18, List.forall_mem_cons.mpr ⟨lw_p19, List.forall_mem_cons.mpr ⟨lw_p20, List.forall_mem_cons.mpr ⟨lw_p21, List.forall_mem_cons.mpr ⟨lw_p22, List.forall_mem_cons.mpr ⟨lw_p23, List.forall_mem_cons.mpr ⟨lw_p24, List.forall_mem_cons.mpr ⟨lw_p25, List.forall_mem_cons.mpr ⟨lw_p26, List.forall_mem_cons.mpr ⟨lw_p27, List.forall_mem_cons.mpr ⟨lw_p28, List.forall_mem_cons.mpr ⟨lw_p29, List.forall_mem_cons.mpr ⟨lw_p30, List.forall_mem_cons.mpr ⟨lw_p31, fun _ h => absurd h List.not_mem_nil⟩⟩⟩⟩⟩⟩⟩⟩⟩⟩⟩⟩⟩⟩⟩⟩
theorem lw_p32 : lw_okq (⟨"TextVerbsModel", "act", "(IIIIZ)V"⟩, 33) := ⟨⟨by decide +kernel, by decide +kernel⟩, List.mem_of_getElem? (i := 696) (by decide +kernel), List.mem_of_getElem? (i := 882) (by decide +kernel), List.mem_of_getElem? (i := 883) (by decide +kernel)⟩
theorem lw_p33 : lw_okq (⟨"TextVerbsModel", "here", "(II)I"⟩, 33) := ⟨⟨by decide +kernel, by decide +kernel⟩, List.mem_of_getElem? (i := 696) (by decide +kernel), List.mem_of_getElem? (i := 914) (by decide +kernel), List.mem_of_getElem? (i := 915) (by decide +kernel)⟩
theorem lw_p34 : lw_okq (⟨"TextVerbsModel", "move", "(IIII)V"⟩, 33) := ⟨⟨by decide +kernel, by decide +kernel⟩, List.mem_of_getElem? (i := 696) (by decide +kernel), List.mem_of_getElem? (i := 918) (by decide +kernel), List.mem_of_getElem? (i := 919) (by decide +kernel)⟩
theorem lw_p35 : lw_okq (⟨"TextVerbsModel", "isRow", "(II)Z"⟩, 33) := ⟨⟨by decide +kernel, by decide +kernel⟩, List.mem_of_getElem? (i := 696) (by decide +kernel), List.mem_of_getElem? (i := 938) (by decide +kernel), List.mem_of_getElem? (i := 939) (by decide +kernel)⟩
theorem lw_p36 : lw_okq (⟨"TextVerbsModel", "isTable", "(I)Z"⟩, 33) := ⟨⟨by decide +kernel, by decide +kernel⟩, List.mem_of_getElem? (i := 696) (by decide +kernel), List.mem_of_getElem? (i := 942) (by decide +kernel), List.mem_of_getElem? (i := 943) (by decide +kernel)⟩
def lw_privs_3 : List (MethodName × Nat) := [(⟨"TextVerbsModel", "act", "(IIIIZ)V"⟩, 33), (⟨"TextVerbsModel", "here", "(II)I"⟩, 33), (⟨"TextVerbsModel", "move", "(IIII)V"⟩, 33), (⟨"TextVerbsModel", "isRow", "(II)Z"⟩, 33), (⟨"TextVerbsModel", "isTable", "(I)Z"⟩, 33)]
theorem lw_r3 : ∀ q ∈ lw_privs_3, lw_okq q := List.forall_mem_cons.mpr ⟨lw_p32, List.forall_mem_cons.mpr ⟨lw_p33, List.forall_mem_cons.mpr ⟨lw_p34, List.forall_mem_cons.mpr ⟨lw_p35, List.forall_mem_cons.mpr ⟨lw_p36, fun _ h => absurd h List.not_mem_nil⟩⟩⟩⟩⟩
def lw_privs : List (MethodName × Nat) := lw_privs_1 ++ (lw_privs_2 ++ (lw_privs_3))
def lw_tbl : List Cond := k2_sels lw_privs ++ tables_1
theorem lw_privs_ok : ∀ q ∈ lw_privs, lw_okq q := by
  show ∀ q ∈ lw_privs_1 ++ (lw_privs_2 ++ (lw_privs_3)), lw_okq q
  exact List.forall_mem_append.mpr ⟨lw_r1, List.forall_mem_append.mpr ⟨lw_r2, lw_r3⟩⟩

/-! ===== BEGIN words of one list among another's, by their places ===== -/
theorem goodIn_r {big : List Cond} (ws : List Cond) (ps : List Nat) (hp : ws = ps.filterMap (fun i => big[i]?)) (h : ws.all goodWord = true) : GoodIn big ws := by
  intro w hw
  have h1 := List.all_eq_true.mp h w hw
  rw [hp] at hw
  obtain ⟨i, -, hi⟩ := List.mem_filterMap.mp hw
  have hm : w ∈ big := by first | exact List.mem_of_getElem? hi | exact List.getElem?_mem hi
  exact ⟨hm, good_of_word h1⟩
theorem goodIn_app {big a b : List Cond} (ha : GoodIn big a) (hb : GoodIn big b) : GoodIn big (a ++ b) := fun w h => (List.mem_append.mp h).elim (ha w) (hb w)
theorem goodIn_ca {big a b : List Cond} {c : Cond} (ha : GoodIn big (c :: a)) (hb : GoodIn big b) : GoodIn big (c :: (a ++ b)) := fun w h => (List.mem_cons.mp h).elim (fun e => ha w (List.mem_cons.mpr (Or.inl e))) (fun h => (List.mem_append.mp h).elim (fun h => ha w (List.mem_cons.mpr (Or.inr h))) (hb w))
theorem goodIn_sub {big ws : List Cond} (hm : ∀ w ∈ ws, w ∈ big) (h : ws.all goodWord = true) : GoodIn big ws := fun w hw => ⟨hm w hw, good_of_word (List.all_eq_true.mp h w hw)⟩
/-! ===== END ===== -/

/-! ===== BEGIN exceptions that leave a method, and their catching by the caller (launches without stack traces) ===== -/
section VXA
/-! The laws vx_back, vx_callV, vx_callS, vx_callSW, vx_throw0, vx_throwS follow proofs of the library, with one case more: JvmDerived/Free/Laws.lean (Back.of_free), Shelf42/LK1.lean (callV, callS), Shelf/KitTraced.lean (throwNew0V, throwNewS). -/
/-- where a method has thrown q: the class by its name, the cell, what was written, the world -/
def vx_T (XC : String → State → State → Prop) (st : State) (q : Addr) (t : State) (mc ms : Nat) (free : Addr → Prop) : Prop :=
  ∃ (E : String) (ce : Cell) (L : List Loc), XC E st t ∧ t.heap[q]? = some ce ∧ ce.vm = .none ∧ st.vm.findClass E = some ce.cls ∧ st.WarmedH t.vm ∧ st.sameButNew ({ t with vm := st.vm } : State) L mc ms ∧ ∀ z ∈ L, free z.base
def vx_Q (Qc : Array Value → State → Outcome → State → Prop) (XC : String → State → State → Prop) (mc ms : Nat) (free : Addr → Prop) : Array Value → State → Outcome → State → Prop := fun a st o t =>
  (Qc a st o t ∧ ∃ L, FrameEnd st o t L mc ms ∧ ∀ q ∈ L, free q.base) ∨ ∃ q, o = .threw q ∧ vx_T XC st q t mc ms free
/-- a callee that returns or throws -/
def vx_Met (l : Launch) (y : MethodName) (ws : List Cond) (rm : Room) (Pc : Array Value → State → Prop) (Qc : Array Value → State → Outcome → State → Prop) (XC : String → State → State → Prop) (mc ms : Nat) (free : Addr → Prop) : Prop :=
  MetFree l y (headSpec ws rm) Pc (fun _ _ _ _ _ => True) (vx_Q Qc XC mc ms free)
def vx_Post (XC : String → State → State → Prop) (mc ms : Nat) (free : Addr → Prop) : Pt → Array Value → Addr → Pt → Prop := fun A a q B =>
  ∃ (g : JFrame) (mk : MethodId) (t : State) (L : List Loc) (E : String) (ce : Cell), B.U.heap = t.heap ∧ B.U.vm = t.vm ∧ XC E (A.U.calling g mk a) t ∧ t.heap[q]? = some ce ∧ ce.vm = .none ∧ A.U.vm.findClass E = some ce.cls ∧ B.locs = A.locs ++ L ∧ (∀ z ∈ L, free z.base) ∧ B.cells = A.cells + mc ∧ B.slots = A.slots + ms
def vx_Back (l : Launch) (R : Room) (p : Program) (e : Env) (below : List Frame) (s : State) (sargs : Array Value) (y : MethodName) (len W9 : Nat)
    (Pre : Pt → Array Value → Prop) (Post : Pt → Array Value → Option Value → Pt → Prop) (PostX : Pt → Array Value → Addr → Pt → Prop) : Prop :=
  ∀ (m : MethodId) (meth : Method) (c : Code) (A : Pt) (g : JFrame) (ig : Instr) (mk : MethodId) (a : Array Value),
    Stand p l e R s m sargs below meth c A.U A.locs A.cells A.slots → g.method = m → g.locals.size = c.maxLocals → decode c.code g.pc = .ok (ig, len) →
    2 * g.monitorRoom + (g.stack.map fun v => v.category).sum ≤ W9 → A.U.methodNamed? y = some mk → Pre A a →
    (∃ (v : Option Value) (B : Pt), Stand p l e R s m sargs below meth c B.U B.locs B.cells B.slots ∧ Post A a v B ∧
      Steps p.tables e below (doInvoke e (A.U.setTop g) [] mk a).1 (B.U.setTop { g with pc := g.pc + len, stack := v.toList ++ g.stack })) ∨
    (∃ (q : Addr) (B : Pt), Stand p l e R s m sargs below meth c B.U B.locs B.cells B.slots ∧ PostX A a q B ∧
      Steps p.tables e below (doInvoke e (A.U.setTop g) [] mk a).1 ((B.U.setTop g).pushFrame (.throwing q)))
section Payer
variable {l : Launch} {R : Room} {p : Program} {e : Env} {below : List Frame} {s : State} {sargs : Array Value} {y : MethodName} {len W9 : Nat}
theorem vx_back {ws : List Cond} {rm : Room} {Pc : Array Value → State → Prop} {Qc : Array Value → State → Outcome → State → Prop} {XC : String → State → State → Prop} {mc ms : Nat} {free : Addr → Prop} {bytes : ByteArray} {maxL : Nat} {ret : Option FieldType}
    (hM : vx_Met l y ws rm Pc Qc XC mc ms free) (hblind : FrameBlind Pc) (hrc : rm.cells = mc) (hrs : rm.slots = ms)
    (hframes : rm.frames + 1 ≤ R.frames) (hlocals : W9 + (maxL + 11) + rm.locals ≤ R.locals)
    (hws : ∀ w ∈ ws, ∀ a' U, s.WarmedH U.vm → w.before a' U = true) (hcode : Cond.code y bytes maxL ret ∈ ws) (hinit : ∀ a' U, s.WarmedH U.vm → (Cond.initialized y.cls).before a' U = true) :
    vx_Back l R p e below s sargs y len W9 (PreOf R mc ms Pc) (PostOf Qc mc ms free) (vx_Post XC mc ms free) := by
  intro m meth c A g ig mk a X hg hsize hdg hW hn hp
  have h1 : (headSpec ws rm).pre.before a A.U = true := atoms_intro fun w hw => hws w hw _ _ X.warmed
  have h2 : (Cond.code y bytes maxL ret).before a A.U = true := hws _ hcode _ _ X.warmed
  have h3 : (Cond.initialized y.cls).before a A.U = true := hinit _ _ X.warmed
  have h4 : A.cells + (headSpec ws rm).room.cells ≤ R.cells := by rw [show (headSpec ws rm).room.cells = mc from hrc]; exact hp.1
  have h5 : A.slots + (headSpec ws rm).room.slots ≤ R.slots := by rw [show (headSpec ws rm).room.slots = ms from hrs]; exact hp.2.1
  have hPc : Pc a (A.U.calling g mk a) := hblind _ _ _ _ hp.2.2
  obtain ⟨U, Ls, c0, s0⟩ := A
  dsimp only [Pt.U, Pt.locs, Pt.cells, Pt.slots] at h1 h2 h3 h4 h5 X hn hPc ⊢
  obtain ⟨methY, cY, hmY, hcY, -, hlY, -, -, -, -⟩ := Cond.code_spec hn h2
  obtain ⟨kY, hkY, -⟩ := className_of_methodNamed hn
  have hinitY : kY.init = .initialized := Cond.initialized_spec (findClass_of_methodNamed hn) hkY h3
  have h : At U g.method c below := by rw [hg]; exact X.here
  have hlocals9 : W9 + (maxL + 11) + (headSpec ws rm).room.locals ≤ R.locals := hlocals
  have happ : (headSpec ws rm).appliesLoose y e.platform (U.calling g mk a) = true :=
    Spec.appliesLoose_calling (g := g) h hdg hn hkY hinitY
      (X.room_calling (g := g) (R' := (headSpec ws rm).room) hsize hmY hcY hframes (by rw [hlY]; omega) h4 h5) h1
  obtain ⟨mid, hmid⟩ := h.above
  have hfr : (U.setTop g).frames = (.java g :: mid) ++ below := by rw [State.frames_setTop' g h.top, hmid]; rfl
  obtain ⟨o, s₂, hsteps, -, hend, hq⟩ := Steps.callFree hM p X.admits X.cas X.clock (acts := []) hfr happ hPc trivial
  have hq' : vx_Q Qc XC mc ms free a (U.calling g mk a) o s₂ := hq
  rw [State.frames_setTop' g h.top] at hend
  obtain ⟨g₀, hg0⟩ := Option.isSome_iff_exists.mp h.top
  obtain ⟨r, hr⟩ := State.topJava?_eq_some.mp hg0
  have hr' : (({ U with heap := s₂.heap, slotsUsed := s₂.slotsUsed } : State).setVm s₂.vm).frames = .java g₀ :: r := hr
  rcases hq' with ⟨hqc, L, hfe, hL⟩ | ⟨q, rfl, E, ce, L, hx, hce, hcv, hcl, hW₂, hsm, hL⟩
  · obtain ⟨⟨v, rfl⟩, hW₂, e2, q2, q3, q4, q5, q6⟩ := id hfe
    have e3 : s₂ = ({ (U.calling g mk a).setFrames s₂.frames with heap := s₂.heap, slotsUsed := s₂.slotsUsed } : State).setVm s₂.vm := by
      have : s₂ = ({ s₂ with vm := (U.calling g mk a).vm } : State).setVm s₂.vm := rfl
      rw [e2] at this
      exact this
    obtain ⟨c₂, i₂, len₂, hc₂, hd₂, hf₂⟩ := hend
    have hW' : U.WarmedH s₂.vm := hW₂
    have hcc : c₂ = c := by
      have h1 : s₂.code? g.method = U.code? g.method := by
        rw [State.code?_eq, State.code?_eq, hW'.alike.method?]
      exact Option.some.inj (hc₂.symm.trans (h1.trans h.code))
    subst hcc
    have hlen : len₂ = len := by rw [hdg] at hd₂; cases hd₂; rfl
    subst hlen
    have hs₂ : s₂ = (({ U with heap := s₂.heap, slotsUsed := s₂.slotsUsed } : State).setVm s₂.vm).setTop { g with pc := g.pc + len₂, stack := v.toList ++ g.stack } := by
      refine e3.trans ?_
      rw [hf₂, State.calling_eq h.top, State.setFrames_setFrames, State.setTop_of_frames _ hr', hr]
      rfl
    have hsame : U.sameButNew ({ U with heap := s₂.heap, slotsUsed := s₂.slotsUsed } : State) L mc ms := by
      refine ⟨?_, q2, q3, q4, q5, q6⟩
      obtain ⟨t, ht, -⟩ := State.frames_cons hr
      show ({ U with heap := s₂.heap, slotsUsed := s₂.slotsUsed } : State) = { U.setFrames U.frames with heap := s₂.heap, slotsUsed := s₂.slotsUsed }
      rw [State.setFrames_self ht]
    subst hg
    refine Or.inl ⟨v, ⟨(({ U with heap := s₂.heap, slotsUsed := s₂.slotsUsed } : State).setVm s₂.vm), Ls ++ L, c0 + mc, s0 + ms⟩,
      ⟨X.admits, X.cas, X.clock, X.frames, X.room, X.hears, X.method, X.code, (X.here.setHeapUsed s₂.heap s₂.slotsUsed).setVm hW'.alike, X.tail, State.WarmedH.trans X.warmed hW', X.limits, X.bytes, X.same.trans (hsame.setVm s.vm)⟩,
      ⟨g, mk, s₂, L, rfl, rfl, hqc, rfl, hL, rfl, rfl⟩, ?_⟩
    show Steps p.tables e below _ ((({ U with heap := s₂.heap, slotsUsed := s₂.slotsUsed } : State).setVm s₂.vm).setTop { g with pc := g.pc + len₂, stack := v.toList ++ g.stack })
    rw [← hs₂]
    exact hsteps
  · obtain ⟨e2, q2, q3, q4, q5, q6⟩ := id hsm
    have e3 : s₂ = ({ (U.calling g mk a).setFrames s₂.frames with heap := s₂.heap, slotsUsed := s₂.slotsUsed } : State).setVm s₂.vm := by
      have : s₂ = ({ s₂ with vm := (U.calling g mk a).vm } : State).setVm s₂.vm := rfl
      rw [e2] at this
      exact this
    have hf₂ : s₂.frames = .throwing q :: .java g :: U.frames.tail := hend
    have hW' : U.WarmedH s₂.vm := hW₂
    have hs₂ : s₂ = ((({ U with heap := s₂.heap, slotsUsed := s₂.slotsUsed } : State).setVm s₂.vm).setTop g).pushFrame (.throwing q) := by
      refine e3.trans ?_
      rw [hf₂, State.calling_eq h.top, State.setFrames_setFrames, State.pushFrame, State.frames_setTop _ hr', State.setTop_of_frames _ hr', State.setFrames_setFrames, hr]
      rfl
    have hsame : U.sameButNew ({ U with heap := s₂.heap, slotsUsed := s₂.slotsUsed } : State) L mc ms := by
      refine ⟨?_, q2, q3, q4, q5, q6⟩
      obtain ⟨t, ht, -⟩ := State.frames_cons hr
      show ({ U with heap := s₂.heap, slotsUsed := s₂.slotsUsed } : State) = { U.setFrames U.frames with heap := s₂.heap, slotsUsed := s₂.slotsUsed }
      rw [State.setFrames_self ht]
    subst hg
    refine Or.inr ⟨q, ⟨(({ U with heap := s₂.heap, slotsUsed := s₂.slotsUsed } : State).setVm s₂.vm), Ls ++ L, c0 + mc, s0 + ms⟩,
      ⟨X.admits, X.cas, X.clock, X.frames, X.room, X.hears, X.method, X.code, (X.here.setHeapUsed s₂.heap s₂.slotsUsed).setVm hW'.alike, X.tail, State.WarmedH.trans X.warmed hW', X.limits, X.bytes, X.same.trans (hsame.setVm s.vm)⟩,
      ⟨g, mk, s₂, L, E, ce, rfl, rfl, hx, hce, hcv, hcl, rfl, hL, rfl, rfl⟩, ?_⟩
    show Steps p.tables e below _ (((({ U with heap := s₂.heap, slotsUsed := s₂.slotsUsed } : State).setVm s₂.vm).setTop g).pushFrame (.throwing q))
    rw [← hs₂]
    exact hsteps
end Payer
section Calls
variable {p : Program} {l : Launch} {e : Env} {R : Room} {s : State} {m : MethodId} {args : Array Value} {below : List Frame} {meth : Method} {c : Code} {T : State} {locs : List Loc} {cells slots : Nat}
theorem vx_callV (X : Stand p l e R s m args below meth c T locs cells slots) (hexec : p.tables.exec = Jvm.exec) {own C : String} {index : Nat} {y : MethodName} {bytes : ByteArray} {maxL : Nat} {ret : Option FieldType}
    (hown : s.vm.findClass own = some m.cls) (hlink : (Cond.methodLink own index y).before args s = true) (hinst : (Cond.instanceMethod y).before args s = true) (hsel : (Cond.selects C y y).before args s = true)
    (hcode : (Cond.code y bytes maxL ret).before args s = true) (hy : y.cls ≠ "java/lang/invoke/MethodHandle" ∧ y.cls ≠ "java/lang/invoke/VarHandle")
    {W9 : Nat} {Pre : Pt → Array Value → Prop} {Post : Pt → Array Value → Option Value → Pt → Prop} {PostX : Pt → Array Value → Addr → Pt → Prop} (hK : vx_Back l R p e below s args y 3 W9 Pre Post PostX)
    {b : Addr} {cellB : Cell} (hcell : T.heap[b]? = some cellB) (hobj : cellB.vm.isStatics = false) (hcls : s.vm.findClass C = some cellB.cls)
    {g : JFrame} (hg : g.method = m) (hsize : g.locals.size = c.maxLocals) {argsL rest : List Value} (hlen : ∀ sig, parseMethodDescriptor y.desc = some sig → argsL.length = sig.parameters.length)
    (hstack : g.stack = argsL.reverse ++ .ref b :: rest) (hW : 2 * g.monitorRoom + (rest.map fun v => v.category).sum ≤ W9) (hdg : decode c.code g.pc = .ok (.invokevirtual index, 3))
    (hpre : ∀ vm₁, s.WarmedH vm₁ → Pre ⟨T.setVm vm₁, locs, cells, slots⟩ (Value.ref b :: argsL).toArray) :
    (∃ (v : Option Value) (vm₁ : Vm) (B : Pt), s.WarmedH vm₁ ∧ Stand p l e R s m args below meth c B.U B.locs B.cells B.slots ∧ Post ⟨T.setVm vm₁, locs, cells, slots⟩ (Value.ref b :: argsL).toArray v B ∧
      ∀ target, Steps p.tables e below (B.U.setTop { g with pc := g.pc + 3, stack := v.toList ++ rest }) target → Steps p.tables e below (T.setTop g) target) ∨
    (∃ (q : Addr) (vm₁ : Vm) (B : Pt), s.WarmedH vm₁ ∧ Stand p l e R s m args below meth c B.U B.locs B.cells B.slots ∧ PostX ⟨T.setVm vm₁, locs, cells, slots⟩ (Value.ref b :: argsL).toArray q B ∧
      Steps p.tables e below (T.setTop g) ((B.U.setTop { g with stack := rest }).pushFrame (.throwing q))) := by
  obtain ⟨mk, methM, hnamed, hmethM, hstM, habM⟩ := Cond.instanceMethod_spec hinst
  obtain ⟨methM', cM, hmethM', -, -, -, -, -, -, hsigM⟩ := Cond.code_spec hnamed hcode
  cases hmethM.symm.trans hmethM'
  obtain ⟨c2, r2, m2, q1, q2, q3, q4, kP, hkP, hkPi⟩ := Cond.selects_spec hsel
  cases hcls.symm.trans q1
  cases (State.methodFound?_of_named hnamed hy).symm.trans q2
  cases hnamed.symm.trans q3
  have hselP : selectMethod e.platform s.vm cellB.cls mk = .method mk := by rw [Launch.admits_selectMethod X.admits]; exact q4
  obtain ⟨vm₁, X₁, hstep₁⟩ := X.invokevirtual hexec hown hlink hnamed hmethM hstM hkP hkPi hy (a := b) (cell := cellB) hcell
    (fun z h => by rw [h] at hobj; cases hobj) hselP hmethM habM hkP hkPi (g := g) hg (argsL := argsL) (rest := rest) (hlen _ hsigM) hstack hdg
  rcases hK m meth c ⟨T.setVm vm₁, locs, cells, slots⟩ { g with stack := rest } (.invokevirtual index) mk (Value.ref b :: argsL).toArray X₁ hg hsize hdg hW (X₁.named hnamed) (hpre vm₁ X₁.warmed) with ⟨v, B, X', hpost, hsteps⟩ | ⟨q, B, X', hpost, hsteps⟩
  · exact Or.inl ⟨v, vm₁, B, X₁.warmed, X', hpost, fun target h => hstep₁ _ fun acts => by rw [doInvoke_state]; exact hsteps.trans h⟩
  · exact Or.inr ⟨q, vm₁, B, X₁.warmed, X', hpost, hstep₁ _ fun acts => by rw [doInvoke_state]; exact hsteps⟩
theorem vx_callS (X : Stand p l e R s m args below meth c T locs cells slots) (hexec : p.tables.exec = Jvm.exec) {own : String} {index : Nat} {y : MethodName} {bytes : ByteArray} {maxL : Nat} {ret : Option FieldType}
    (hown : s.vm.findClass own = some m.cls) (hlink : (Cond.methodLink own index y).before args s = true) (hstat : (Cond.static y).before args s = true) (hinit : (Cond.initialized y.cls).before args s = true)
    (hcode : (Cond.code y bytes maxL ret).before args s = true) (hy : y.cls ≠ "java/lang/invoke/MethodHandle" ∧ y.cls ≠ "java/lang/invoke/VarHandle")
    {W9 : Nat} {Pre : Pt → Array Value → Prop} {Post : Pt → Array Value → Option Value → Pt → Prop} {PostX : Pt → Array Value → Addr → Pt → Prop} (hK : vx_Back l R p e below s args y 3 W9 Pre Post PostX)
    {g : JFrame} (hg : g.method = m) (hsize : g.locals.size = c.maxLocals) {argsL rest : List Value} (hlen : ∀ sig, parseMethodDescriptor y.desc = some sig → argsL.length = sig.parameters.length)
    (hstack : g.stack = argsL.reverse ++ rest) (hW : 2 * g.monitorRoom + (rest.map fun v => v.category).sum ≤ W9) (hdg : decode c.code g.pc = .ok (.invokestatic index, 3))
    (hpre : ∀ vm₁, s.WarmedH vm₁ → Pre ⟨T.setVm vm₁, locs, cells, slots⟩ argsL.toArray) :
    (∃ (v : Option Value) (vm₁ : Vm) (B : Pt), s.WarmedH vm₁ ∧ Stand p l e R s m args below meth c B.U B.locs B.cells B.slots ∧ Post ⟨T.setVm vm₁, locs, cells, slots⟩ argsL.toArray v B ∧
      ∀ target, Steps p.tables e below (B.U.setTop { g with pc := g.pc + 3, stack := v.toList ++ rest }) target → Steps p.tables e below (T.setTop g) target) ∨
    (∃ (q : Addr) (vm₁ : Vm) (B : Pt), s.WarmedH vm₁ ∧ Stand p l e R s m args below meth c B.U B.locs B.cells B.slots ∧ PostX ⟨T.setVm vm₁, locs, cells, slots⟩ argsL.toArray q B ∧
      Steps p.tables e below (T.setTop g) ((B.U.setTop { g with stack := rest }).pushFrame (.throwing q))) := by
  obtain ⟨mk, hnamed⟩ := Cond.code_named hcode
  obtain ⟨methM, cM, hmethM, -, -, -, -, -, -, hsigM⟩ := Cond.code_spec hnamed hcode
  have hstatic : methM.isStatic = true := Cond.static_spec hnamed hmethM hstat
  obtain ⟨kP, hkP, -⟩ := className_of_methodNamed hnamed
  have hinitP : kP.init = .initialized := Cond.initialized_spec (findClass_of_methodNamed hnamed) hkP hinit
  obtain ⟨vm₁, X₁, hstep₁⟩ := X.invokestatic hexec hown hlink hnamed hmethM hstatic hkP hinitP hy (g := g) hg (argsL := argsL) (rest := rest) (hlen _ hsigM) hstack hdg
  rcases hK m meth c ⟨T.setVm vm₁, locs, cells, slots⟩ { g with stack := rest } (.invokestatic index) mk argsL.toArray X₁ hg hsize hdg hW (X₁.named hnamed) (hpre vm₁ X₁.warmed) with ⟨v, B, X', hpost, hsteps⟩ | ⟨q, B, X', hpost, hsteps⟩
  · exact Or.inl ⟨v, vm₁, B, X₁.warmed, X', hpost, fun target h => hstep₁ _ fun acts => by rw [doInvoke_state]; exact hsteps.trans h⟩
  · exact Or.inr ⟨q, vm₁, B, X₁.warmed, X', hpost, hstep₁ _ fun acts => by rw [doInvoke_state]; exact hsteps⟩
end Calls
theorem vx_cls {s : State} {T : State} {vm₁ : Vm} {E : String} {k : ClassId} (hW : s.WarmedH vm₁) (h : (T.setVm vm₁).vm.findClass E = some k) : s.vm.findClass E = some k := by
  have h1 : vm₁.findClass E = some k := h
  rw [hW.alike.findClass] at h1
  exact h1
/-- the method's frame g, with q thrown over it -/
def vx_W (p : Program) (l : Launch) (e : Env) (R : Room) (s : State) (m : MethodId) (args : Array Value) (below : List Frame) (meth : Method) (c : Code) (H : Heap) (locs : List Loc) (cells slots : Nat) (Q : State → Prop) (g : JFrame) (q : Addr) : Prop :=
  ∀ T : State, T.heap = H → Stand p l e R s m args below meth c T locs cells slots → ∃ t, Steps p.tables e below ((T.setTop g).pushFrame (.throwing q)) t ∧ Q t
def vx_Run (p : Program) (l : Launch) (e : Env) (R : Room) (s : State) (m : MethodId) (args : Array Value) (below : List Frame) (meth : Method) (c : Code) (H : Heap) (locs : List Loc) (cells slots mc ms : Nat) (g : JFrame) (rest : List Value) (Qa : State → Outcome → State → Prop) (XC : String → State → State → Prop) (free : Addr → Prop) : Prop :=
  ∀ T : State, T.heap = H → Stand p l e R s m args below meth c T locs cells slots →
    (∃ (v : Option Value) (st₀ t T' : State) (L : List Loc), st₀.heap = H ∧ Stand p l e R s m args below meth c T' (locs ++ L) (cells + mc) (slots + ms) ∧ (∀ q ∈ L, free q.base) ∧ T'.heap = t.heap ∧ T'.vm = t.vm ∧ Qa st₀ (.returned v) t ∧
      Goes p e below T g T' { g with pc := g.pc + 3, stack := v.toList ++ rest }) ∨
    (∃ (q : Addr) (st₀ t T' : State) (L : List Loc) (E : String) (ce : Cell), st₀.heap = H ∧ Stand p l e R s m args below meth c T' (locs ++ L) (cells + mc) (slots + ms) ∧ (∀ z ∈ L, free z.base) ∧ T'.heap = t.heap ∧ T'.vm = t.vm ∧ XC E st₀ t ∧ t.heap[q]? = some ce ∧ ce.vm = .none ∧ s.vm.findClass E = some ce.cls ∧
      Steps p.tables e below (T.setTop g) ((T'.setTop { g with stack := rest }).pushFrame (.throwing q)))
def vx_X {S : Type} (px : S → Prop) (B : String → S → State → Prop) (A : Nat → Prop) : String → State → State → Prop := fun E st t => ∃ u : S, px u ∧ B E u t ∧ va_F A st t
section Runs
variable {p : Program} {l : Launch} {e : Env} {R : Room} {s : State} {m : MethodId} {args : Array Value} {below : List Frame} {meth : Method} {c : Code} {H : Heap} {locs : List Loc} {cells slots : Nat}
variable {y : MethodName} {bytes cc : ByteArray} {maxL nL mc ms n index : Nat} {ret : Option FieldType} {ws : List Cond} {rm : Room} {Pc : Array Value → State → Prop} {Qc : Array Value → State → Outcome → State → Prop} {XC : String → State → State → Prop} {free : Addr → Prop} {Ts : List Cond} {own C : String} {b : Addr} {As rest : List Value} {g : JFrame}
theorem vx_callBack (cb : CallB R s args own index y bytes maxL ret ws rm mc ms n) (hM : vx_Met l y ws rm Pc Qc XC mc ms free) (hbl : FrameBlind Pc) : vx_Back l R p e below s args y 3 8 (PreOf R mc ms Pc) (PostOf Qc mc ms free) (vx_Post XC mc ms free) := by
  obtain ⟨hrc, hrs, hfr, hlo, hws, hcw, -, hini, -⟩ := cb
  exact vx_back (bytes := bytes) (maxL := maxL) (ret := ret) hM hbl hrc hrs hfr hlo hws hcw (fun a' U hW => word_at hW (Or.inl (by first | rfl | simp [Cond.onTables, Cond.keeps, Cond.steady])) hini)
theorem vx_runV (S : CallFix p m c cc nL s args Ts own) (hM : vx_Met l y ws rm Pc Qc XC mc ms free) (cw : CallW R s args own C index y bytes maxL ret ws rm mc ms n) (hp : PreV s H C b Pc As)
    (hg : g.method = m) (hn : As.length = n) (hsize : g.locals.size = nL) (hstack : g.stack = As.reverse ++ .ref b :: rest) (hW : 2 * g.monitorRoom + (rest.map fun v => v.category).sum ≤ 8) (hdg : decode cc g.pc = .ok (.invokevirtual index, 3)) (hf : cells + mc ≤ R.cells ∧ slots + ms ≤ R.slots) :
    vx_Run p l e R s m args below meth c H locs cells slots mc ms g rest (Qc (Value.ref b :: As).toArray) XC free := by
  have hK : vx_Back l R p e below s args y 3 8 (PreOf R mc ms Pc) (PostOf Qc mc ms free) (vx_Post XC mc ms free) := vx_callBack cw.1 hM hp.1
  obtain ⟨⟨-, -, -, -, -, -, hcode, -, hy, hlen, hl⟩, hin, hse⟩ := cw
  obtain ⟨hx, hb, hml, ho, -⟩ := S
  obtain ⟨-, ⟨cellB, hcB, hoB, hclB⟩, hPc⟩ := hp
  intro T hT X
  rcases vx_callV X hx (C := C) (bytes := bytes) (maxL := maxL) (ret := ret) ho hl hin hse hcode hy hK (by rw [hT]; exact hcB) hoB hclB hg (hsize.trans hml.symm) (argsL := As) (rest := rest) (fun sig h => hn.trans (hlen sig h)) hstack hW (by rw [hb]; exact hdg)
    (fun vm₁ hW₁ => ⟨hf.1, hf.2, hPc (T.setVm vm₁) hT hW₁⟩) with ⟨v, vm₁, ⟨U', l2, c2, s2⟩, hW₁, X', ⟨g', mk, t, L, e1, e2, hq, h1, hL, h2, h3⟩, st⟩ | ⟨q, vm₁, ⟨U', l2, c2, s2⟩, hW₁, X', ⟨g', mk, t, L, E, ce, e1, e2, hq, hce, hcv, hcl, h1, hL, h2, h3⟩, st⟩
  · dsimp only [Pt.U, Pt.locs, Pt.cells, Pt.slots] at X' e1 e2 h1 h2 h3 st
    subst h1; subst h2; subst h3
    exact Or.inl ⟨v, (T.setVm vm₁).calling g' mk (Value.ref b :: As).toArray, t, U', L, hT, X', hL, e1, e2, hq, st⟩
  · dsimp only [Pt.U, Pt.locs, Pt.cells, Pt.slots] at X' e1 e2 h1 h2 h3 st hcl
    subst h1; subst h2; subst h3
    exact Or.inr ⟨q, (T.setVm vm₁).calling g' mk (Value.ref b :: As).toArray, t, U', L, E, ce, hT, X', hL, e1, e2, hq, hce, hcv, vx_cls hW₁ hcl, st⟩
theorem vx_runS (S : CallFix p m c cc nL s args Ts own) (hM : vx_Met l y ws rm Pc Qc XC mc ms free) (cw : CallB R s args own index y bytes maxL ret ws rm mc ms n ∧ (Cond.static y).before args s = true) (hp : PreS s H Pc As)
    (hg : g.method = m) (hn : As.length = n) (hsize : g.locals.size = nL) (hstack : g.stack = As.reverse ++ rest) (hW : 2 * g.monitorRoom + (rest.map fun v => v.category).sum ≤ 8) (hdg : decode cc g.pc = .ok (.invokestatic index, 3)) (hf : cells + mc ≤ R.cells ∧ slots + ms ≤ R.slots) :
    vx_Run p l e R s m args below meth c H locs cells slots mc ms g rest (Qc As.toArray) XC free := by
  have hK : vx_Back l R p e below s args y 3 8 (PreOf R mc ms Pc) (PostOf Qc mc ms free) (vx_Post XC mc ms free) := vx_callBack cw.1 hM hp.1
  obtain ⟨⟨-, -, -, -, -, -, hcode, hini, hy, hlen, hl⟩, hstt⟩ := cw
  obtain ⟨hx, hb, hml, ho, -⟩ := S
  intro T hT X
  rcases vx_callS X hx (bytes := bytes) (maxL := maxL) (ret := ret) ho hl hstt hini hcode hy hK hg (hsize.trans hml.symm) (argsL := As) (rest := rest) (fun sig h => hn.trans (hlen sig h)) hstack hW (by rw [hb]; exact hdg)
    (fun vm₁ hW₁ => ⟨hf.1, hf.2, hp.2 (T.setVm vm₁) hT hW₁⟩) with ⟨v, vm₁, ⟨U', l2, c2, s2⟩, hW₁, X', ⟨g', mk, t, L, e1, e2, hq, h1, hL, h2, h3⟩, st⟩ | ⟨q, vm₁, ⟨U', l2, c2, s2⟩, hW₁, X', ⟨g', mk, t, L, E, ce, e1, e2, hq, hce, hcv, hcl, h1, hL, h2, h3⟩, st⟩
  · dsimp only [Pt.U, Pt.locs, Pt.cells, Pt.slots] at X' e1 e2 h1 h2 h3 st
    subst h1; subst h2; subst h3
    exact Or.inl ⟨v, (T.setVm vm₁).calling g' mk As.toArray, t, U', L, hT, X', hL, e1, e2, hq, st⟩
  · dsimp only [Pt.U, Pt.locs, Pt.cells, Pt.slots] at X' e1 e2 h1 h2 h3 st hcl
    subst h1; subst h2; subst h3
    exact Or.inr ⟨q, (T.setVm vm₁).calling g' mk As.toArray, t, U', L, E, ce, hT, X', hL, e1, e2, hq, hce, hcv, vx_cls hW₁ hcl, st⟩
end Runs
section Rows
variable {p : Program} {l : Launch} {e : Env} {R : Room} {s : State} {m : MethodId} {args : Array Value} {below : List Frame} {meth : Method} {c : Code} {H : Heap} {locs : List Loc} {cells slots : Nat} {Q : State → Prop}
variable {mc ms : Nat} {free : Addr → Prop} {A0 A1 : Nat → Prop} {H0 : Heap} {a : Array Value} {pc : Nat} {ls : Array Slot} {st0 rest : List Value}
theorem vx_keep {st₀ t T' : State} {L : List Loc} (h0 : st₀.heap = H) (e1 : T'.heap = t.heap) (hS : va_S A0 H0 H locs) (hA : ∀ q, q < H.size → A1 q → A0 q) (hf : ∀ q, free q → A0 q) (hL : ∀ q ∈ L, free q.base) (hF : va_F A1 st₀ t) :
    H.size ≤ T'.heap.size ∧ (∀ q : Nat, q < H.size → ¬ A1 q → T'.heap[q]? = H[q]?) ∧ va_S A0 H0 T'.heap (locs ++ L) := by
  obtain ⟨hz, hk⟩ := hF
  rw [h0] at hz hk
  exact ⟨by rw [e1]; exact hz, fun q h1 h2 => by rw [e1]; exact hk q h1 h2,
    ⟨Nat.le_trans hS.1 (by rw [e1]; exact hz), fun q h1 h2 => by rw [e1, hk q (Nat.lt_of_lt_of_le h1 hS.1) (fun z => h2 (hA q (Nat.lt_of_lt_of_le h1 hS.1) z))]; exact hS.2.1 q h1 h2, fun q hq => by
      rcases List.mem_append.mp hq with h | h
      · exact hS.2.2 q h
      · exact hf _ (hL q h)⟩⟩
theorem vx_calli {S SX : Type} {post : Int32 → S → Prop} {px : SX → Prop} {B : S → State → Prop} {BX : String → SX → State → Prop} {AX : Nat → Prop} (hr : vx_Run p l e R s m args below meth c H locs cells slots mc ms (F0 m pc ls st0) rest (va_Qi post B A1 a) (vx_X px BX AX) free) (hS : va_S A0 H0 H locs) (hA : ∀ q, q < H.size → A1 q → A0 q) (hf : ∀ q, free q → A0 q) (hAX : ∀ q, q < H.size → AX q → A0 q)
    (kx : ∀ (E : String) (ce : Cell) (q9 : Addr) (u : SX) (t : State) (H1 : Heap) (locs1 : List Loc), t.heap = H1 → s.vm.Alike t.vm → px u → BX E u t → H.size ≤ H1.size → (∀ q : Nat, q < H.size → ¬ AX q → H1[q]? = H[q]?) → va_S A0 H0 H1 locs1 → H1[q9]? = some ce → ce.vm = .none → s.vm.findClass E = some ce.cls → vx_W p l e R s m args below meth c H1 locs1 (cells + mc) (slots + ms) Q (F0 m pc ls rest) q9)
    (kk : ∀ (r : Int32) (u : S) (t : State) (H1 : Heap) (locs1 : List Loc), t.heap = H1 → s.vm.Alike t.vm → post r u → B u t → H.size ≤ H1.size → (∀ q : Nat, q < H.size → ¬ A1 q → H1[q]? = H[q]?) → va_S A0 H0 H1 locs1 → W p l e R s m args below meth c H1 locs1 (cells + mc) (slots + ms) Q (F0 m (pc + 3) ls (.int r :: rest))) : W p l e R s m args below meth c H locs cells slots Q (F0 m pc ls st0) := by
  intro T hT X
  rcases hr T hT X with ⟨v, st₀, t, T', L, h0, X', hL, e1, e2, ⟨⟨r, u, hv, hp, hb⟩, hF⟩, st⟩ | ⟨q, st₀, t, T', L, E, ce, h0, X', hL, e1, e2, ⟨u, hp, hb, hF⟩, hce, hcv, hcl, st⟩
  · cases hv
    obtain ⟨k1, k2, k3⟩ := vx_keep h0 e1 hS hA hf hL hF
    obtain ⟨t2, a1, b1⟩ := kk r u t T'.heap (locs ++ L) e1.symm (by rw [← e2]; exact X'.warmed.alike) hp hb k1 k2 k3 T' rfl X'
    exact ⟨t2, st t2 a1, b1⟩
  · obtain ⟨k1, k2, k3⟩ := vx_keep h0 e1 hS hAX hf hL hF
    obtain ⟨t2, a1, b1⟩ := kx E ce q u t T'.heap (locs ++ L) e1.symm (by rw [← e2]; exact X'.warmed.alike) hp hb k1 k2 k3 (by rw [e1]; exact hce) hcv hcl T' rfl X'
    exact ⟨t2, st.trans a1, b1⟩
theorem vx_calll {S SX : Type} {post : Int64 → S → Prop} {px : SX → Prop} {B : S → State → Prop} {BX : String → SX → State → Prop} {AX : Nat → Prop} (hr : vx_Run p l e R s m args below meth c H locs cells slots mc ms (F0 m pc ls st0) rest (va_Ql post B A1 a) (vx_X px BX AX) free) (hS : va_S A0 H0 H locs) (hA : ∀ q, q < H.size → A1 q → A0 q) (hf : ∀ q, free q → A0 q) (hAX : ∀ q, q < H.size → AX q → A0 q)
    (kx : ∀ (E : String) (ce : Cell) (q9 : Addr) (u : SX) (t : State) (H1 : Heap) (locs1 : List Loc), t.heap = H1 → s.vm.Alike t.vm → px u → BX E u t → H.size ≤ H1.size → (∀ q : Nat, q < H.size → ¬ AX q → H1[q]? = H[q]?) → va_S A0 H0 H1 locs1 → H1[q9]? = some ce → ce.vm = .none → s.vm.findClass E = some ce.cls → vx_W p l e R s m args below meth c H1 locs1 (cells + mc) (slots + ms) Q (F0 m pc ls rest) q9)
    (kk : ∀ (r : Int64) (u : S) (t : State) (H1 : Heap) (locs1 : List Loc), t.heap = H1 → s.vm.Alike t.vm → post r u → B u t → H.size ≤ H1.size → (∀ q : Nat, q < H.size → ¬ A1 q → H1[q]? = H[q]?) → va_S A0 H0 H1 locs1 → W p l e R s m args below meth c H1 locs1 (cells + mc) (slots + ms) Q (F0 m (pc + 3) ls (.long r :: rest))) : W p l e R s m args below meth c H locs cells slots Q (F0 m pc ls st0) := by
  intro T hT X
  rcases hr T hT X with ⟨v, st₀, t, T', L, h0, X', hL, e1, e2, ⟨⟨r, u, hv, hp, hb⟩, hF⟩, st⟩ | ⟨q, st₀, t, T', L, E, ce, h0, X', hL, e1, e2, ⟨u, hp, hb, hF⟩, hce, hcv, hcl, st⟩
  · cases hv
    obtain ⟨k1, k2, k3⟩ := vx_keep h0 e1 hS hA hf hL hF
    obtain ⟨t2, a1, b1⟩ := kk r u t T'.heap (locs ++ L) e1.symm (by rw [← e2]; exact X'.warmed.alike) hp hb k1 k2 k3 T' rfl X'
    exact ⟨t2, st t2 a1, b1⟩
  · obtain ⟨k1, k2, k3⟩ := vx_keep h0 e1 hS hAX hf hL hF
    obtain ⟨t2, a1, b1⟩ := kx E ce q u t T'.heap (locs ++ L) e1.symm (by rw [← e2]; exact X'.warmed.alike) hp hb k1 k2 k3 (by rw [e1]; exact hce) hcv hcl T' rfl X'
    exact ⟨t2, st.trans a1, b1⟩
theorem vx_callf {S SX : Type} {post : UInt32 → S → Prop} {px : SX → Prop} {B : S → State → Prop} {BX : String → SX → State → Prop} {AX : Nat → Prop} (hr : vx_Run p l e R s m args below meth c H locs cells slots mc ms (F0 m pc ls st0) rest (va_Qf post B A1 a) (vx_X px BX AX) free) (hS : va_S A0 H0 H locs) (hA : ∀ q, q < H.size → A1 q → A0 q) (hf : ∀ q, free q → A0 q) (hAX : ∀ q, q < H.size → AX q → A0 q)
    (kx : ∀ (E : String) (ce : Cell) (q9 : Addr) (u : SX) (t : State) (H1 : Heap) (locs1 : List Loc), t.heap = H1 → s.vm.Alike t.vm → px u → BX E u t → H.size ≤ H1.size → (∀ q : Nat, q < H.size → ¬ AX q → H1[q]? = H[q]?) → va_S A0 H0 H1 locs1 → H1[q9]? = some ce → ce.vm = .none → s.vm.findClass E = some ce.cls → vx_W p l e R s m args below meth c H1 locs1 (cells + mc) (slots + ms) Q (F0 m pc ls rest) q9)
    (kk : ∀ (r : UInt32) (u : S) (t : State) (H1 : Heap) (locs1 : List Loc), t.heap = H1 → s.vm.Alike t.vm → post r u → B u t → H.size ≤ H1.size → (∀ q : Nat, q < H.size → ¬ A1 q → H1[q]? = H[q]?) → va_S A0 H0 H1 locs1 → W p l e R s m args below meth c H1 locs1 (cells + mc) (slots + ms) Q (F0 m (pc + 3) ls (.float r :: rest))) : W p l e R s m args below meth c H locs cells slots Q (F0 m pc ls st0) := by
  intro T hT X
  rcases hr T hT X with ⟨v, st₀, t, T', L, h0, X', hL, e1, e2, ⟨⟨r, u, hv, hp, hb⟩, hF⟩, st⟩ | ⟨q, st₀, t, T', L, E, ce, h0, X', hL, e1, e2, ⟨u, hp, hb, hF⟩, hce, hcv, hcl, st⟩
  · cases hv
    obtain ⟨k1, k2, k3⟩ := vx_keep h0 e1 hS hA hf hL hF
    obtain ⟨t2, a1, b1⟩ := kk r u t T'.heap (locs ++ L) e1.symm (by rw [← e2]; exact X'.warmed.alike) hp hb k1 k2 k3 T' rfl X'
    exact ⟨t2, st t2 a1, b1⟩
  · obtain ⟨k1, k2, k3⟩ := vx_keep h0 e1 hS hAX hf hL hF
    obtain ⟨t2, a1, b1⟩ := kx E ce q u t T'.heap (locs ++ L) e1.symm (by rw [← e2]; exact X'.warmed.alike) hp hb k1 k2 k3 (by rw [e1]; exact hce) hcv hcl T' rfl X'
    exact ⟨t2, st.trans a1, b1⟩
theorem vx_calld {S SX : Type} {post : UInt64 → S → Prop} {px : SX → Prop} {B : S → State → Prop} {BX : String → SX → State → Prop} {AX : Nat → Prop} (hr : vx_Run p l e R s m args below meth c H locs cells slots mc ms (F0 m pc ls st0) rest (va_Qd post B A1 a) (vx_X px BX AX) free) (hS : va_S A0 H0 H locs) (hA : ∀ q, q < H.size → A1 q → A0 q) (hf : ∀ q, free q → A0 q) (hAX : ∀ q, q < H.size → AX q → A0 q)
    (kx : ∀ (E : String) (ce : Cell) (q9 : Addr) (u : SX) (t : State) (H1 : Heap) (locs1 : List Loc), t.heap = H1 → s.vm.Alike t.vm → px u → BX E u t → H.size ≤ H1.size → (∀ q : Nat, q < H.size → ¬ AX q → H1[q]? = H[q]?) → va_S A0 H0 H1 locs1 → H1[q9]? = some ce → ce.vm = .none → s.vm.findClass E = some ce.cls → vx_W p l e R s m args below meth c H1 locs1 (cells + mc) (slots + ms) Q (F0 m pc ls rest) q9)
    (kk : ∀ (r : UInt64) (u : S) (t : State) (H1 : Heap) (locs1 : List Loc), t.heap = H1 → s.vm.Alike t.vm → post r u → B u t → H.size ≤ H1.size → (∀ q : Nat, q < H.size → ¬ A1 q → H1[q]? = H[q]?) → va_S A0 H0 H1 locs1 → W p l e R s m args below meth c H1 locs1 (cells + mc) (slots + ms) Q (F0 m (pc + 3) ls (.double r :: rest))) : W p l e R s m args below meth c H locs cells slots Q (F0 m pc ls st0) := by
  intro T hT X
  rcases hr T hT X with ⟨v, st₀, t, T', L, h0, X', hL, e1, e2, ⟨⟨r, u, hv, hp, hb⟩, hF⟩, st⟩ | ⟨q, st₀, t, T', L, E, ce, h0, X', hL, e1, e2, ⟨u, hp, hb, hF⟩, hce, hcv, hcl, st⟩
  · cases hv
    obtain ⟨k1, k2, k3⟩ := vx_keep h0 e1 hS hA hf hL hF
    obtain ⟨t2, a1, b1⟩ := kk r u t T'.heap (locs ++ L) e1.symm (by rw [← e2]; exact X'.warmed.alike) hp hb k1 k2 k3 T' rfl X'
    exact ⟨t2, st t2 a1, b1⟩
  · obtain ⟨k1, k2, k3⟩ := vx_keep h0 e1 hS hAX hf hL hF
    obtain ⟨t2, a1, b1⟩ := kx E ce q u t T'.heap (locs ++ L) e1.symm (by rw [← e2]; exact X'.warmed.alike) hp hb k1 k2 k3 (by rw [e1]; exact hce) hcv hcl T' rfl X'
    exact ⟨t2, st.trans a1, b1⟩
theorem vx_callv {S SX : Type} {post : S → Prop} {px : SX → Prop} {B : S → State → Prop} {BX : String → SX → State → Prop} {AX : Nat → Prop} (hr : vx_Run p l e R s m args below meth c H locs cells slots mc ms (F0 m pc ls st0) rest (va_Qv post B A1 a) (vx_X px BX AX) free) (hS : va_S A0 H0 H locs) (hA : ∀ q, q < H.size → A1 q → A0 q) (hf : ∀ q, free q → A0 q) (hAX : ∀ q, q < H.size → AX q → A0 q)
    (kx : ∀ (E : String) (ce : Cell) (q9 : Addr) (u : SX) (t : State) (H1 : Heap) (locs1 : List Loc), t.heap = H1 → s.vm.Alike t.vm → px u → BX E u t → H.size ≤ H1.size → (∀ q : Nat, q < H.size → ¬ AX q → H1[q]? = H[q]?) → va_S A0 H0 H1 locs1 → H1[q9]? = some ce → ce.vm = .none → s.vm.findClass E = some ce.cls → vx_W p l e R s m args below meth c H1 locs1 (cells + mc) (slots + ms) Q (F0 m pc ls rest) q9)
    (kk : ∀ (u : S) (t : State) (H1 : Heap) (locs1 : List Loc), t.heap = H1 → s.vm.Alike t.vm → post u → B u t → H.size ≤ H1.size → (∀ q : Nat, q < H.size → ¬ A1 q → H1[q]? = H[q]?) → va_S A0 H0 H1 locs1 → W p l e R s m args below meth c H1 locs1 (cells + mc) (slots + ms) Q (F0 m (pc + 3) ls (rest))) : W p l e R s m args below meth c H locs cells slots Q (F0 m pc ls st0) := by
  intro T hT X
  rcases hr T hT X with ⟨v, st₀, t, T', L, h0, X', hL, e1, e2, ⟨⟨u, hv, hp, hb⟩, hF⟩, st⟩ | ⟨q, st₀, t, T', L, E, ce, h0, X', hL, e1, e2, ⟨u, hp, hb, hF⟩, hce, hcv, hcl, st⟩
  · cases hv
    obtain ⟨k1, k2, k3⟩ := vx_keep h0 e1 hS hA hf hL hF
    obtain ⟨t2, a1, b1⟩ := kk u t T'.heap (locs ++ L) e1.symm (by rw [← e2]; exact X'.warmed.alike) hp hb k1 k2 k3 T' rfl X'
    exact ⟨t2, st t2 a1, b1⟩
  · obtain ⟨k1, k2, k3⟩ := vx_keep h0 e1 hS hAX hf hL hF
    obtain ⟨t2, a1, b1⟩ := kx E ce q u t T'.heap (locs ++ L) e1.symm (by rw [← e2]; exact X'.warmed.alike) hp hb k1 k2 k3 (by rw [e1]; exact hce) hcv hcl T' rfl X'
    exact ⟨t2, st.trans a1, b1⟩
/-- caught by the row x of this method's table; the rows ahead don't take it -/
theorem vx_catch {own name : String} {E : String} {ce : Cell} {q : Addr} (hown : s.vm.findClass own = some m.cls) (pre : List ExceptionTableEntry) (x : ExceptionTableEntry) (suf : List ExceptionTableEntry) (hsplit : c.exceptionTable.toList = pre ++ x :: suf)
    (hpass : ∀ z ∈ pre, covers z pc = false ∨ (z.catchType ≠ 0 ∧ ∃ nm : String, (Cond.classLink own z.catchType nm).before args s = true ∧ va_Nc E nm s)) (hx : covers x pc = true) (h0 : x.catchType ≠ 0)
    (hlink : (Cond.classLink own x.catchType name).before args s = true) (hcast : (Cond.castable E name).before args s = true) (hcell : H[q]? = some ce) (hv : ce.vm = .none) (hcl : s.vm.findClass E = some ce.cls)
    (kk : W p l e R s m args below meth c H locs cells slots Q (F0 m x.handlerPc ls [.ref q])) : vx_W p l e R s m args below meth c H locs cells slots Q (F0 m pc ls rest) q := by
  intro T hT X
  have hpl : e.platform.magicAccessors = ({} : Platform).magicAccessors := by rw [X.admits.platform]
  obtain ⟨c3, c4, hc3, hc4, hasg⟩ := Cond.castable_spec hcast
  cases Option.some.inj (hc3.symm.trans hcl)
  obtain ⟨c5, hc5, hcl5⟩ := Cond.classLink_spec hown hlink e.platform hpl
  cases Option.some.inj (hc4.symm.trans hc5)
  obtain ⟨vm', X', st⟩ := X.thenCaughtThrough q (g := F0 m pc ls rest) rfl (Steps.refl _) (by rw [hT]; exact hcell) (by rw [hv]; rfl) (by obtain ⟨k9, h9, -⟩ := Vm.findClass_spec hcl; exact ⟨k9, h9⟩) pre x suf hsplit
    (fun z hz => by
      rcases hpass z hz with h | ⟨hz0, nm, hl1, hn1⟩
      · exact Or.inl h
      · obtain ⟨c6, hc6, hcl6⟩ := Cond.classLink_spec hown hl1 e.platform hpl
        obtain ⟨a8, b8, h1, h2, h3⟩ := hn1
        cases Option.some.inj (h1.symm.trans hcl)
        cases Option.some.inj (h2.symm.trans hc6)
        exact Or.inr ⟨hz0, _, hcl6, h3⟩) hx (Or.inr ⟨h0, c4, hcl5, hasg⟩)
  obtain ⟨t, a1, b1⟩ := kk (T.setVm vm') hT X'
  exact ⟨t, st.trans a1, b1⟩
end Rows
section Ends
variable {p : Program} {l : Launch} {e : Env} {R : Room} {s : State} {m : MethodId} {args : Array Value} {below : List Frame} {meth : Method} {c : Code} {H : Heap} {locs : List Loc} {cells slots : Nat} {Q : State → Prop}
variable {mc ms : Nat} {free : Addr → Prop} {A0 A1 : Nat → Prop} {H0 : Heap} {a : Array Value} {ls : Array Slot} {st0 rest : List Value}
variable {Qc : Array Value → State → Outcome → State → Prop} {XC : String → State → State → Prop}
/-- what a body that may throw owes at its end -/
def vx_MQ (below : List Frame) (Qc : Array Value → State → Outcome → State → Prop) (XC : String → State → State → Prop) (a : Array Value) (s : State) (mc ms : Nat) (free : Addr → Prop) : State → Prop := fun t =>
  ∃ o, t.status = .running ∧ Ended t below o ∧ vx_Q Qc XC mc ms free a s o t
theorem vx_ret {g : JFrame} {mc ms : Nat} (k : W p l e R s m args below meth c H locs cells slots (MQ below Qc args s mc ms free) g) : W p l e R s m args below meth c H locs cells slots (vx_MQ below Qc XC args s mc ms free) g := by
  intro T hT X
  obtain ⟨t, a1, o, b1, b2, b3, b4⟩ := k T hT X
  exact ⟨t, a1, o, b1, b2, Or.inl ⟨b3, b4⟩⟩
/-- not caught here: it goes on to the caller -/
theorem vx_widen {g : JFrame} {q : Addr} {k n : Nat} (h1 : cells ≤ k) (h2 : slots ≤ n) (kk : vx_W p l e R s m args below meth c H locs k n Q g q) : vx_W p l e R s m args below meth c H locs cells slots Q g q := fun T hT X => kk T hT (stand_widen X h1 h2)
theorem vx_out {pc : Nat} {E : String} {ce : Cell} {q : Addr} {mc ms : Nat} (hout : ∀ x ∈ c.exceptionTable.toList, covers x pc = false) (hlocks : meth.locks = false) (hcell : H[q]? = some ce) (hv : ce.vm = .none) (hcl : s.vm.findClass E = some ce.cls)
    (hx : ∀ t : State, t.heap = H → s.vm.Alike t.vm → XC E s t) (hf : ∀ z ∈ locs, free z.base) (hc : cells ≤ mc) (hs : slots ≤ ms) :
    vx_W p l e R s m args below meth c H locs cells slots (vx_MQ below Qc XC args s mc ms free) (F0 m pc ls rest) q := by
  intro T hT X
  obtain ⟨st1, hrun, hend, hW, hsm⟩ := X.leaveThrown q (g := F0 m pc ls rest) rfl rfl rfl hout hlocks
  have hcell9 : (T.setFrames (.throwing q :: below)).heap[q]? = some ce := by
    show T.heap[q]? = some ce
    rw [hT]; exact hcell
  exact ⟨_, st1, .threw q, hrun, hend, Or.inr ⟨q, rfl, E, ce, locs, hx _ hT hW.alike, hcell9, hv, hcl, hW, hsm.mono hc hs, hf⟩⟩
theorem vx_frame {U : State} {k n : Nat} (h : s.sameButNew ({ U with vm := s.vm } : State) locs k n) : s.heap.size ≤ U.heap.size ∧ ∀ q : Nat, q < s.heap.size → (∀ z ∈ locs, z.base ≠ q) → U.heap[q]? = s.heap[q]? := by
  obtain ⟨-, h2, -, -, -, h6⟩ := h
  refine ⟨h2, fun q hq hz => ?_⟩
  obtain ⟨c9, e1, e2, e3, e4⟩ := h6 q _ (Array.getElem?_eq_getElem hq)
  have hs : c9.slots = (s.heap[q]).slots := Array.ext_getElem? fun i => e4 i fun hm => hz _ hm rfl
  have h9 : c9 = s.heap[q] := by
    rw [hs] at e2
    exact e2
  have e5 : U.heap[q]? = some c9 := e1
  rw [e5, h9, Array.getElem?_eq_getElem hq]
/-- the words of a throw but the four that speak of the heap -/
def vx_no (w : Cond) : Bool := decide (w ≠ .isRef (.static Bundle.tN "UNASSIGNED_STACK" Bundle.steD)) && decide (w ≠ .isRef (.static Bundle.tN "SUPPRESSED_SENTINEL" Bundle.listD)) && decide (w ≠ .laysStatic Bundle.tN "UNASSIGNED_STACK" Bundle.steD) && decide (w ≠ .laysStatic Bundle.tN "SUPPRESSED_SENTINEL" Bundle.listD)
def vx_at0 (own : String) (ic : Nat) (X : String) (names : List String) : List Cond := (Bundle.ownAtoms0 own ic X names).filter vx_no
def vx_atS (own : String) (ic : Nat) (X : String) (names : List String) : List Cond := (Bundle.ownAtoms own ic X names).filter vx_no
/-- a word that the tables alone decide, or a good one -/
def vx_ot (w : Cond) : Bool := w.onTables || goodWord w
theorem vx_ot_at {args a' : Array Value} {s U : State} {w : Cond} (hW : s.WarmedH U.vm) (hvm : s.vm = U.vm) (hg : vx_ot w = true) (h : w.before args s = true) : w.before a' U = true := by
  simp only [vx_ot, Bool.or_eq_true] at hg
  rcases hg with hg | hg
  · exact va_tabs hg hvm h
  · exact word_at hW (good_of_word hg) h
/-- a list's words: the good ones out of the method's own list, the others by premises of their own -/
theorem vx_hat {args : Array Value} {s : State} {L B : List Cond} (h1 : ∀ w ∈ L.filter goodWord, w.before args s = true) (h2 : ∀ w ∈ L.filter (fun w => !goodWord w), w ∈ B) (h3 : ∀ w ∈ B, w.before args s = true) : ∀ w ∈ L, w.before args s = true := by
  intro w hw
  by_cases g : goodWord w = true
  · exact h1 w (List.mem_filter.mpr ⟨hw, g⟩)
  · refine h3 w (h2 w (List.mem_filter.mpr ⟨hw, ?_⟩))
    show (!goodWord w) = true
    cases hgw : goodWord w
    · rfl
    · exact absurd hgw g
theorem vx_c {args : Array Value} {s : State} {w : Cond} {B : List Cond} (h : w.before args s = true) (t : ∀ w ∈ B, w.before args s = true) : ∀ w' ∈ w :: B, w'.before args s = true := fun w' h' => (List.mem_cons.mp h').elim (fun e => by rw [e]; exact h) (t w')
theorem vx_n {args : Array Value} {s : State} : ∀ w ∈ ([] : List Cond), w.before args s = true := fun _ h => nomatch h
theorem vx_own {args : Array Value} {s : State} {L : List Cond} (h1 : ∀ w ∈ L.filter vx_no, w.before args s = true)
    (hU : (Cond.isRef (.static Bundle.tN "UNASSIGNED_STACK" Bundle.steD)).before args s = true) (hN : (Cond.isRef (.static Bundle.tN "SUPPRESSED_SENTINEL" Bundle.listD)).before args s = true)
    (lU : (Cond.laysStatic Bundle.tN "UNASSIGNED_STACK" Bundle.steD).before args s = true) (lN : (Cond.laysStatic Bundle.tN "SUPPRESSED_SENTINEL" Bundle.listD).before args s = true) : ∀ w ∈ L, w.before args s = true := by
  intro w hw
  by_cases e1 : w = .isRef (.static Bundle.tN "UNASSIGNED_STACK" Bundle.steD)
  · rw [e1]; exact hU
  · by_cases e2 : w = .isRef (.static Bundle.tN "SUPPRESSED_SENTINEL" Bundle.listD)
    · rw [e2]; exact hN
    · by_cases e3 : w = .laysStatic Bundle.tN "UNASSIGNED_STACK" Bundle.steD
      · rw [e3]; exact lU
      · by_cases e4 : w = .laysStatic Bundle.tN "SUPPRESSED_SENTINEL" Bundle.listD
        · rw [e4]; exact lN
        · exact h1 w (List.mem_filter.mpr ⟨hw, by unfold vx_no; rw [decide_eq_true e1, decide_eq_true e2, decide_eq_true e3, decide_eq_true e4]; rfl⟩)
/-- where a static field lies, its class's statics cell in H -/
def vx_L (C n d : String) (A : Nat → Prop) (U : State) (H : Heap) : Prop := ∃ (c : ClassId) (k : Class) (i : Nat) (f : Field) (a : Nat) (cell : Cell), U.vm.findClass C = some c ∧ U.fieldFound? C n d = some (c, k, i, f) ∧ f.isStatic = true ∧ k.statics = some a ∧ H[a]? = some cell ∧ cell.vm.isStatics = true ∧ cell.cls = c ∧ f.slot < cell.slots.size ∧ k.staticTypes[f.slot]? = some f.type ∧ ¬ A a
theorem vx_L.moved {C n d : String} {A : Nat → Prop} {u U : State} {H : Heap} (hvm : u.vm.Alike U.vm) (h : vx_L C n d A u H) : vx_L C n d A U H := by
  obtain ⟨c, k, i, f, a, cell, h1, h2, h3, h4, h5, h6, h7, h8, h9, h10⟩ := h
  obtain ⟨k', hi', he⟩ := State.fieldFound?_setVm hvm h2
  exact ⟨c, k', i, f, a, cell, by rw [hvm.findClass]; exact h1, hi', h3, by rw [he]; exact h4, h5, h6, h7, h8, by rw [he]; exact h9, h10⟩
theorem vx_L.kept {C n d : String} {A : Nat → Prop} {U : State} {H H1 : Heap} (h : vx_L C n d A U H) (hq : ∀ a : Nat, a < H.size → ¬ A a → H1[a]? = H[a]?) : vx_L C n d A U H1 := by
  obtain ⟨c, k, i, f, a, cell, h1, h2, h3, h4, h5, h6, h7, h8, h9, h10⟩ := h
  exact ⟨c, k, i, f, a, cell, h1, h2, h3, h4, by rw [hq a (Array.getElem?_eq_some_iff.mp h5).1 h10]; exact h5, h6, h7, h8, h9, h10⟩
theorem vx_L.narrow {C n d : String} {A B : Nat → Prop} {U : State} {H : Heap} (h : vx_L C n d A U H) (hAB : ∀ q, B q → A q) : vx_L C n d B U H := by
  obtain ⟨c, k, i, f, a, cell, h1, h2, h3, h4, h5, h6, h7, h8, h9, h10⟩ := h
  exact ⟨c, k, i, f, a, cell, h1, h2, h3, h4, h5, h6, h7, h8, h9, fun z => h10 (hAB _ z)⟩
theorem vx_L.word {C n d : String} {A : Nat → Prop} {s : State} {args : Array Value} (h : vx_L C n d A s s.heap) : (Cond.laysStatic C n d).before args s = true := by
  obtain ⟨c, k, i, f, a, cell, h1, h2, h3, h4, h5, h6, h7, h8, h9, -⟩ := h
  show (Cond.laysStatic C n d).holds args s none s [] = true
  exact Cond.laysStatic_of h1 h2 h3 h4 h5 h6 h7 h8 h9
/-- .. and what it holds: null or some reference -/
def vx_Zq (C n d : String) (A : Nat → Prop) (U : State) (H : Heap) : Prop := va_Zq C n d A U H ∧ vx_L C n d A U H
theorem vx_Zq.moved {C n d : String} {A : Nat → Prop} {u U : State} {H : Heap} (hvm : u.vm.Alike U.vm) (h : vx_Zq C n d A u H) : vx_Zq C n d A U H := ⟨va_Zq.moved hvm h.1, vx_L.moved hvm h.2⟩
theorem vx_Zq.kept {C n d : String} {A : Nat → Prop} {U : State} {H H1 : Heap} (h : vx_Zq C n d A U H) (hq : ∀ a : Nat, a < H.size → ¬ A a → H1[a]? = H[a]?) : vx_Zq C n d A U H1 := ⟨va_Zq.kept h.1 hq, vx_L.kept h.2 hq⟩
theorem vx_Zq.narrow {C n d : String} {A B : Nat → Prop} {U : State} {H : Heap} (h : vx_Zq C n d A U H) (hAB : ∀ q, B q → A q) : vx_Zq C n d B U H := ⟨va_Zq.narrow h.1 hAB, vx_L.narrow h.2 hAB⟩
theorem vx_Zqof {args : Array Value} {s : State} {C n d : String} {A : Nat → Prop} (hl : (Cond.laysStatic C n d).before args s = true) (hini : (Cond.initialized C).before args s = true) (h : (Cond.isRef (.static C n d)).before args s = true) (hA : ∀ a : Nat, a < s.heap.size → ¬ A a) : vx_Zq C n d A s s.heap := by
  refine ⟨va_Zqof hl hini h hA, ?_⟩
  obtain ⟨c, k, i, f, a, cell, h1, h2, h3, h4, h5, h6, h7, h8, h9⟩ := Cond.laysStatic_spec hl
  exact ⟨c, k, i, f, a, cell, h1, h2, h3, h4, h5, h6, h7, h8, h9, hA a (Array.getElem?_eq_some_iff.mp h5).1⟩
theorem vx_isRef {C n d : String} {v : Value} {A : Nat → Prop} {s : State} {args : Array Value} (h : va_Z C n d v A s s.heap) (hv : v.isRef = true) : (Cond.isRef (.static C n d)).before args s = true := by
  obtain ⟨cf, kf, fi, f, a, cell, h1, h2, h3, h4, h5, h6, h7, -⟩ := h
  have he : (Term.static C n d).eval args s none [] s = some v := by
    simp [Term.eval, State.fieldNamed?, h1, h2, h4, h5, h6, h7]
  simp only [Cond.before, Cond.holds, Cond.value, he]
  cases v <;> simp_all [Value.isRef]
theorem vx_isRefq {C n d : String} {A : Nat → Prop} {s : State} {args : Array Value} (h : va_Zq C n d A s s.heap) : (Cond.isRef (.static C n d)).before args s = true := by
  rcases h with h | ⟨t, h⟩
  · exact vx_isRef h rfl
  · exact vx_isRef h rfl
/-- the same frame, seen from here: as if the method were called anew in this heap -/
theorem vx_rebase {T : State} (X : Stand p l e R s m args below meth c T locs cells slots) {R' : Room} (hf : R'.frames ≤ R.frames) (hl : R'.locals ≤ R.locals) (hc : cells + R'.cells ≤ R.cells) (hs : slots + R'.slots ≤ R.slots) :
    Stand p l e R' ((T.setVm s.vm).setFrames (.invoking m args :: below)) m args below meth c T [] 0 0 := by
  have htop : (T.setVm s.vm).topJava?.isSome := X.here.top
  have hF : ((T.setVm s.vm).setFrames (.invoking m args :: below)).frames = .invoking m args :: below := State.frames_setFrames _ (State.cur_lt_of_top htop)
  obtain ⟨g₀, hg0⟩ := Option.isSome_iff_exists.mp htop
  obtain ⟨r, hr⟩ := State.topJava?_eq_some.mp hg0
  have hl9 : e.platform.stackLimits (T.setVm s.vm).me = e.platform.stackLimits s.me := X.limits
  have hb9 : (T.setVm s.vm).me.stackBytes = s.me.stackBytes := X.bytes
  refine ⟨X.admits, X.cas, X.clock, hF, ?_, X.hears, X.method, X.code, X.here, X.tail, X.warmed, ?_, ?_, ?_⟩
  · have h := X.room
    have hU : ((T.setVm s.vm).setFrames (.invoking m args :: below)).localsInUse = s.localsInUse := by
      rw [State.localsInUse_invoking hF (meth := meth) (c := c) X.method X.code, State.localsInUse_invoking X.frames X.method X.code]
    simp only [State.hasRoom, Bool.and_eq_true, decide_eq_true_eq] at h ⊢
    obtain ⟨⟨⟨⟨h1, h2, h3, h4, h5, h6⟩, h7⟩, h8⟩, h9⟩ := h
    rw [X.frames, List.length_cons] at h2 h3
    have q1 := X.heapSize
    have q2 := X.used
    simp only [hF, hU, List.length_cons, State.stackLimits_setFrames, State.stackBytes_setFrames, hl9, hb9]
    refine ⟨⟨⟨⟨by omega, by omega, by omega, by omega, by omega, h6⟩, ?_⟩, ?_⟩, X.book⟩
    · show T.heap.size + R'.cells ≤ e.platform.maxCells
      omega
    · show T.slotsUsed + R'.slots ≤ e.platform.maxSlots
      omega
  · rw [State.stackLimits_setFrames]; rfl
  · rw [State.stackBytes_setFrames]; rfl
  · refine ⟨?_, Nat.le_refl _, Nat.le_refl _, ?_, ?_, fun a c9 h9 => ⟨c9, h9, rfl, rfl, fun _ _ => rfl⟩⟩
    · obtain ⟨t, ht, -⟩ := State.frames_cons hr
      show T.setVm s.vm = { ((T.setVm s.vm).setFrames (.invoking m args :: below)).setFrames (T.setVm s.vm).frames with heap := T.heap, slotsUsed := T.slotsUsed }
      rw [State.setFrames_setFrames, State.setFrames_self ht]
      rfl
    · show T.slotsUsed = T.slotsUsed + ((T.heap.toList.drop T.heap.size).map (·.slots.size)).sum
      rw [List.drop_eq_nil_of_le (Nat.le_of_eq Array.length_toList)]
      rfl
    · show ((T.heap.toList.drop T.heap.size).map (·.slots.size)).sum ≤ 0
      rw [List.drop_eq_nil_of_le (Nat.le_of_eq Array.length_toList)]
      exact Nat.le_refl _
/-- 'throw new E()': new; dup; invokespecial; athrow -/
theorem vx_throw0 {cc : ByteArray} {pc : Nat} (hexec : p.tables.exec = Jvm.exec) (hb : c.code = cc) (hl : l.stackTraces = false) {own cls : String} {names : List String} {ik ic mc ms : Nat} {A : Nat → Prop}
    (hown : s.vm.findClass own = some m.cls) (hcls : Bundle.fit cls = true) (hnames : ∀ n ∈ names, Bundle.fit n = true)
    (hk : (Cond.classLink own ik cls).before args s = true) (hini : (Cond.initialized cls).before args s = true) (hat : ∀ w ∈ vx_at0 own ic cls names, w.before args s = true)
    (hgood : ∀ w ∈ Cond.classLink own ik cls :: Cond.initialized cls :: vx_at0 own ic cls names, vx_ot w = true)
    (hU : vx_Zq Bundle.tN "UNASSIGNED_STACK" Bundle.steD A s s.heap) (hN : vx_Zq Bundle.tN "SUPPRESSED_SENTINEL" Bundle.listD A s s.heap) (hS : va_S A s.heap H locs) (hsize : ls.size = c.maxLocals)
    (d0 : decode cc pc = .ok (.new ik, 3)) (d3 : decode cc (pc + 3) = .ok (.dup, 1)) (d4 : decode cc (pc + 4) = .ok (.invokespecial ic, 3)) (d7 : decode cc (pc + 7) = .ok (.athrow, 1))
    (hout : ∀ x ∈ c.exceptionTable.toList, covers x (pc + 7) = false)
    (hRframes : names.length + 3 < R.frames) (hRlocals : (rest.map fun v => v.category).sum + (13 * (names.length + 1) + 42) ≤ R.locals) (hRcells : cells + 1 ≤ R.cells) (hRslots : slots + 6 ≤ R.slots) (hlocks : meth.locks = false)
    (hx : ∀ t : State, s.vm.Alike t.vm → H.size ≤ t.heap.size → (∀ q : Nat, q < H.size → t.heap[q]? = H[q]?) → XC cls s t)
    (hf : ∀ z ∈ locs, free z.base) (hc : cells + 1 ≤ mc) (hs : slots + 6 ≤ ms) :
    W p l e R s m args below meth c H locs cells slots (vx_MQ below Qc XC args s mc ms free) (F0 m pc ls rest) := by
  intro T hT X
  have htr : e.platform.stackTraces = false := (show e.platform.stackTraces = l.stackTraces by rw [X.admits.platform]).trans hl
  have Y := vx_rebase X (R' := { frames := R.frames, locals := R.locals, cells := 1, slots := 6 }) (Nat.le_refl _) (Nat.le_refl _) hRcells hRslots
  obtain ⟨s', hA⟩ : ∃ z, z = (T.setVm s.vm).setFrames (.invoking m args :: below) := ⟨_, rfl⟩
  rw [← hA] at Y
  have hvm : s'.vm = s.vm := by rw [hA]; rfl
  have hhp : s'.heap = H := by rw [hA]; exact hT
  have hW0 : s.WarmedH s'.vm := by rw [hvm]; exact State.WarmedH.refl s
  have hat' : ∀ w ∈ vx_at0 own ic cls names, w.before args s' = true := fun w hw => vx_ot_at hW0 hvm.symm (hgood w (List.mem_cons_of_mem _ (List.mem_cons_of_mem _ hw))) (hat w hw)
  have hk' : (Cond.classLink own ik cls).before args s' = true := vx_ot_at hW0 hvm.symm (hgood _ List.mem_cons_self) hk
  have hini' : (Cond.initialized cls).before args s' = true := vx_ot_at hW0 hvm.symm (hgood _ (List.mem_cons_of_mem _ List.mem_cons_self)) hini
  have hU' : vx_Zq Bundle.tN "UNASSIGNED_STACK" Bundle.steD A s' s'.heap := by rw [hhp]; exact vx_Zq.moved hW0.alike (hU.kept hS.2.1)
  have hN' : vx_Zq Bundle.tN "SUPPRESSED_SENTINEL" Bundle.listD A s' s'.heap := by rw [hhp]; exact vx_Zq.moved hW0.alike (hN.kept hS.2.1)
  have h : ∀ w ∈ Bundle.ownAtoms0 own ic cls names, w.before args s' = true := vx_own hat' (vx_isRefq hU'.1) (vx_isRefq hN'.1) hU'.2.word hN'.2.word
  have hown' : s'.vm.findClass own = some m.cls := by rw [hvm]; exact hown
  have hins : (Cond.instantiable cls 6).before args s' = true := h _ (by simp [Bundle.ownAtoms0])
  obtain ⟨vm₁, cX, kX, hfX, hkX, -, -, X₁, st1⟩ := Y.newCold hexec (own := own) (C := cls) (index := ik) (n := 6) hown' hk' hins hini'
    (g := F0 m pc ls rest) rfl (by rw [hb]; exact d0) (Nat.le_refl _) (Nat.le_refl _)
  generalize hT1 : (T.setVm vm₁).pushCell { cls := cX, slots := kX.instanceTypes.map defaultValue, vm := .none } = T1 at X₁ st1
  have hcat : (Value.ref T.heap.size).category = 1 := rfl
  have hcellA : T1.heap[T.heap.size]? = some (freshCell cX kX) := by rw [← hT1]; exact State.heap_pushCell_size _ _
  have d3' : decode c.code (pc + 3) = .ok (.dup, 1) := by rw [hb]; exact d3
  obtain ⟨U, hsteps, hrun, hend, hW, hsame, ce, hce, hO⟩ := X₁.ctorThrow0 hexec htr (own := own) (cls := cls) (names := names) (ic := ic) hown' hcls hnames h (fun x hx => nomatch hx) hfX hkX hcellA (by rw [hhp, hT]; exact Nat.le_refl _)
    (g := { method := m, pc := pc + 4, locals := ls, stack := .ref T.heap.size :: .ref T.heap.size :: rest, locked := none }) rfl hsize rfl rfl (rest := rest) rfl
    (by rw [hb]; exact d4) (by rw [hb]; exact d7) hout hRframes (by simp only [List.map_cons, List.sum_cons, hcat]; omega) hlocks
  obtain ⟨f1, f2⟩ := vx_frame hsame
  rw [hhp] at f1 f2
  have hWs : s.WarmedH U.vm := State.WarmedH.trans hW0 hW
  have hcl : s.vm.findClass cls = some ce.cls := by
    have h9 := hO.cls
    rw [hvm] at h9
    exact h9
  have hall : s.sameButNew ({ U with vm := s.vm } : State) locs mc ms := by
    subst hA
    obtain ⟨e1, e2⟩ := hsame
    rw [State.setFrames_setFrames] at e1
    have h2 : (T.setVm s.vm).sameButNew ({ U with vm := s.vm } : State) [] (0 + 1) (0 + 6) := ⟨e1, e2⟩
    have h3 := X.same.trans h2
    rw [List.append_nil] at h3
    exact h3.mono hc hs
  refine ⟨U, ?_, .threw T.heap.size, hrun, hend, Or.inr ⟨T.heap.size, rfl, cls, ce, locs, hx U hWs.alike f1 (fun q hq => f2 q hq (fun z hz => nomatch hz)), hce, hO.vm, hcl, hWs, hall, hf⟩⟩
  refine st1 _ ?_
  show Steps p.tables e below (T1.setTop { method := m, pc := pc + 3, locals := ls, stack := .ref T.heap.size :: rest, locked := none }) _
  jvm_step X₁.here [X₁.here.top, hexec, d3', Value.category]
  exact hsteps
/-- 'throw new E("text")': new; dup; ldc; invokespecial; athrow -/
theorem vx_throwS {cc : ByteArray} {pc : Nat} (hexec : p.tables.exec = Jvm.exec) (hb : c.code = cc) (hl : l.stackTraces = false) {own cls text : String} {names : List String} {ik is ic mc ms sa : Nat} {A : Nat → Prop}
    (hown : s.vm.findClass own = some m.cls) (hcls : Bundle.fit cls = true) (hnames : ∀ n ∈ names, Bundle.fit n = true)
    (hk : (Cond.classLink own ik cls).before args s = true) (hini : (Cond.initialized cls).before args s = true) (hstr : vk_R own is text sa s) (hat : ∀ w ∈ vx_atS own ic cls names, w.before args s = true)
    (hgood : ∀ w ∈ Cond.classLink own ik cls :: Cond.initialized cls :: vx_atS own ic cls names, vx_ot w = true)
    (hU : vx_Zq Bundle.tN "UNASSIGNED_STACK" Bundle.steD A s s.heap) (hN : vx_Zq Bundle.tN "SUPPRESSED_SENTINEL" Bundle.listD A s s.heap) (hS : va_S A s.heap H locs) (hsize : ls.size = c.maxLocals)
    (d0 : decode cc pc = .ok (.new ik, 3)) (d3 : decode cc (pc + 3) = .ok (.dup, 1)) (d4 : decode cc (pc + 4) = .ok (.ldc is, 2)) (d6 : decode cc (pc + 6) = .ok (.invokespecial ic, 3)) (d9 : decode cc (pc + 9) = .ok (.athrow, 1))
    (hout : ∀ x ∈ c.exceptionTable.toList, covers x (pc + 9) = false)
    (hRframes : names.length + 3 < R.frames) (hRlocals : (rest.map fun v => v.category).sum + (13 * (names.length + 1) + 43) ≤ R.locals) (hRcells : cells + 1 ≤ R.cells) (hRslots : slots + 6 ≤ R.slots) (hlocks : meth.locks = false)
    (hx : ∀ t : State, s.vm.Alike t.vm → H.size ≤ t.heap.size → (∀ q : Nat, q < H.size → t.heap[q]? = H[q]?) → XC cls s t)
    (hf : ∀ z ∈ locs, free z.base) (hc : cells + 1 ≤ mc) (hs : slots + 6 ≤ ms) :
    W p l e R s m args below meth c H locs cells slots (vx_MQ below Qc XC args s mc ms free) (F0 m pc ls rest) := by
  intro T hT X
  have htr : e.platform.stackTraces = false := (show e.platform.stackTraces = l.stackTraces by rw [X.admits.platform]).trans hl
  have Y := vx_rebase X (R' := { frames := R.frames, locals := R.locals, cells := 1, slots := 6 }) (Nat.le_refl _) (Nat.le_refl _) hRcells hRslots
  obtain ⟨s', hA⟩ : ∃ z, z = (T.setVm s.vm).setFrames (.invoking m args :: below) := ⟨_, rfl⟩
  rw [← hA] at Y
  have hvm : s'.vm = s.vm := by rw [hA]; rfl
  have hhp : s'.heap = H := by rw [hA]; exact hT
  have hW0 : s.WarmedH s'.vm := by rw [hvm]; exact State.WarmedH.refl s
  have hat' : ∀ w ∈ vx_atS own ic cls names, w.before args s' = true := fun w hw => vx_ot_at hW0 hvm.symm (hgood w (List.mem_cons_of_mem _ (List.mem_cons_of_mem _ hw))) (hat w hw)
  have hk' : (Cond.classLink own ik cls).before args s' = true := vx_ot_at hW0 hvm.symm (hgood _ List.mem_cons_self) hk
  have hini' : (Cond.initialized cls).before args s' = true := vx_ot_at hW0 hvm.symm (hgood _ (List.mem_cons_of_mem _ List.mem_cons_self)) hini
  have hU' : vx_Zq Bundle.tN "UNASSIGNED_STACK" Bundle.steD A s' s'.heap := by rw [hhp]; exact vx_Zq.moved hW0.alike (hU.kept hS.2.1)
  have hN' : vx_Zq Bundle.tN "SUPPRESSED_SENTINEL" Bundle.listD A s' s'.heap := by rw [hhp]; exact vx_Zq.moved hW0.alike (hN.kept hS.2.1)
  have h : ∀ w ∈ Bundle.ownAtoms own ic cls names, w.before args s' = true := vx_own hat' (vx_isRefq hU'.1) (vx_isRefq hN'.1) hU'.2.word hN'.2.word
  have hown' : s'.vm.findClass own = some m.cls := by rw [hvm]; exact hown
  have hins : (Cond.instantiable cls 6).before args s' = true := h _ (by simp [Bundle.ownAtoms])
  obtain ⟨vm₁, cX, kX, hfX, hkX, -, -, X₁, st1⟩ := Y.newCold hexec (own := own) (C := cls) (index := ik) (n := 6) hown' hk' hins hini'
    (g := F0 m pc ls rest) rfl (by rw [hb]; exact d0) (Nat.le_refl _) (Nat.le_refl _)
  generalize hT1 : (T.setVm vm₁).pushCell { cls := cX, slots := kX.instanceTypes.map defaultValue, vm := .none } = T1 at X₁ st1
  have hcat : (Value.ref T.heap.size).category = 1 := rfl
  have hcellA : T1.heap[T.heap.size]? = some (freshCell cX kX) := by rw [← hT1]; exact State.heap_pushCell_size _ _
  have d3' : decode c.code (pc + 3) = .ok (.dup, 1) := by rw [hb]; exact d3
  have d4' : decode c.code (pc + 4) = .ok (.ldc is, 2) := by rw [hb]; exact d4
  have hstr' : vk_R own is text sa s' := vk_R.warm hW0 hstr
  obtain ⟨U, hsteps, hrun, hend, hW, hsame, ce, hce, hO⟩ := X₁.ctorThrowS hexec htr (own := own) (cls := cls) (names := names) (ic := ic) hown' hcls hnames h (fun x hx => nomatch hx) hfX hkX hcellA (by rw [hhp, hT]; exact Nat.le_refl _) (msg := .ref sa) rfl
    (g := { method := m, pc := pc + 6, locals := ls, stack := .ref sa :: .ref T.heap.size :: .ref T.heap.size :: rest, locked := none }) rfl hsize rfl rfl (rest := rest) rfl
    (by rw [hb]; exact d6) (by rw [hb]; exact d9) hout hRframes (by simp only [List.map_cons, List.sum_cons, hcat]; omega) hlocks
  obtain ⟨f1, f2⟩ := vx_frame hsame
  rw [hhp] at f1 f2
  have hWs : s.WarmedH U.vm := State.WarmedH.trans hW0 hW
  have hcl : s.vm.findClass cls = some ce.cls := by
    have h9 := hO.cls
    rw [hvm] at h9
    exact h9
  have hall : s.sameButNew ({ U with vm := s.vm } : State) locs mc ms := by
    subst hA
    obtain ⟨e1, e2⟩ := hsame
    rw [State.setFrames_setFrames] at e1
    have h2 : (T.setVm s.vm).sameButNew ({ U with vm := s.vm } : State) [] (0 + 1) (0 + 6) := ⟨e1, e2⟩
    have h3 := X.same.trans h2
    rw [List.append_nil] at h3
    exact h3.mono hc hs
  refine ⟨U, ?_, .threw T.heap.size, hrun, hend, Or.inr ⟨T.heap.size, rfl, cls, ce, locs, hx U hWs.alike f1 (fun q hq => f2 q hq (fun z hz => nomatch hz)), hce, hO.vm, hcl, hWs, hall, hf⟩⟩
  refine st1 _ ?_
  show Steps p.tables e below (T1.setTop { method := m, pc := pc + 3, locals := ls, stack := .ref T.heap.size :: rest, locked := none }) _
  jvm_step X₁.here [X₁.here.top, hexec, d3', Value.category]
  exact X₁.ldcString hexec (own := own) (text := text) (index := is) (a := sa) hown' hstr'.1 hstr'.2
    (g := { method := m, pc := pc + 4, locals := ls, stack := .ref T.heap.size :: .ref T.heap.size :: rest, locked := none }) rfl d4' _ hsteps
/-- 'throw new E("text")', the text by a wide index -/
theorem vx_throwSW {cc : ByteArray} {pc : Nat} (hexec : p.tables.exec = Jvm.exec) (hb : c.code = cc) (hl : l.stackTraces = false) {own cls text : String} {names : List String} {ik is ic mc ms sa : Nat} {A : Nat → Prop}
    (hown : s.vm.findClass own = some m.cls) (hcls : Bundle.fit cls = true) (hnames : ∀ n ∈ names, Bundle.fit n = true)
    (hk : (Cond.classLink own ik cls).before args s = true) (hini : (Cond.initialized cls).before args s = true) (hstr : vk_R own is text sa s) (hat : ∀ w ∈ vx_atS own ic cls names, w.before args s = true)
    (hgood : ∀ w ∈ Cond.classLink own ik cls :: Cond.initialized cls :: vx_atS own ic cls names, vx_ot w = true)
    (hU : vx_Zq Bundle.tN "UNASSIGNED_STACK" Bundle.steD A s s.heap) (hN : vx_Zq Bundle.tN "SUPPRESSED_SENTINEL" Bundle.listD A s s.heap) (hS : va_S A s.heap H locs) (hsize : ls.size = c.maxLocals)
    (d0 : decode cc pc = .ok (.new ik, 3)) (d3 : decode cc (pc + 3) = .ok (.dup, 1)) (d4 : decode cc (pc + 4) = .ok (.ldc_w is, 3)) (d7 : decode cc (pc + 7) = .ok (.invokespecial ic, 3)) (d10 : decode cc (pc + 10) = .ok (.athrow, 1))
    (hout : ∀ x ∈ c.exceptionTable.toList, covers x (pc + 10) = false)
    (hRframes : names.length + 3 < R.frames) (hRlocals : (rest.map fun v => v.category).sum + (13 * (names.length + 1) + 43) ≤ R.locals) (hRcells : cells + 1 ≤ R.cells) (hRslots : slots + 6 ≤ R.slots) (hlocks : meth.locks = false)
    (hx : ∀ t : State, s.vm.Alike t.vm → H.size ≤ t.heap.size → (∀ q : Nat, q < H.size → t.heap[q]? = H[q]?) → XC cls s t)
    (hf : ∀ z ∈ locs, free z.base) (hc : cells + 1 ≤ mc) (hs : slots + 6 ≤ ms) :
    W p l e R s m args below meth c H locs cells slots (vx_MQ below Qc XC args s mc ms free) (F0 m pc ls rest) := by
  intro T hT X
  have htr : e.platform.stackTraces = false := (show e.platform.stackTraces = l.stackTraces by rw [X.admits.platform]).trans hl
  have Y := vx_rebase X (R' := { frames := R.frames, locals := R.locals, cells := 1, slots := 6 }) (Nat.le_refl _) (Nat.le_refl _) hRcells hRslots
  obtain ⟨s', hA⟩ : ∃ z, z = (T.setVm s.vm).setFrames (.invoking m args :: below) := ⟨_, rfl⟩
  rw [← hA] at Y
  have hvm : s'.vm = s.vm := by rw [hA]; rfl
  have hhp : s'.heap = H := by rw [hA]; exact hT
  have hW0 : s.WarmedH s'.vm := by rw [hvm]; exact State.WarmedH.refl s
  have hat' : ∀ w ∈ vx_atS own ic cls names, w.before args s' = true := fun w hw => vx_ot_at hW0 hvm.symm (hgood w (List.mem_cons_of_mem _ (List.mem_cons_of_mem _ hw))) (hat w hw)
  have hk' : (Cond.classLink own ik cls).before args s' = true := vx_ot_at hW0 hvm.symm (hgood _ List.mem_cons_self) hk
  have hini' : (Cond.initialized cls).before args s' = true := vx_ot_at hW0 hvm.symm (hgood _ (List.mem_cons_of_mem _ List.mem_cons_self)) hini
  have hU' : vx_Zq Bundle.tN "UNASSIGNED_STACK" Bundle.steD A s' s'.heap := by rw [hhp]; exact vx_Zq.moved hW0.alike (hU.kept hS.2.1)
  have hN' : vx_Zq Bundle.tN "SUPPRESSED_SENTINEL" Bundle.listD A s' s'.heap := by rw [hhp]; exact vx_Zq.moved hW0.alike (hN.kept hS.2.1)
  have h : ∀ w ∈ Bundle.ownAtoms own ic cls names, w.before args s' = true := vx_own hat' (vx_isRefq hU'.1) (vx_isRefq hN'.1) hU'.2.word hN'.2.word
  have hown' : s'.vm.findClass own = some m.cls := by rw [hvm]; exact hown
  have hins : (Cond.instantiable cls 6).before args s' = true := h _ (by simp [Bundle.ownAtoms])
  obtain ⟨vm₁, cX, kX, hfX, hkX, -, -, X₁, st1⟩ := Y.newCold hexec (own := own) (C := cls) (index := ik) (n := 6) hown' hk' hins hini'
    (g := F0 m pc ls rest) rfl (by rw [hb]; exact d0) (Nat.le_refl _) (Nat.le_refl _)
  generalize hT1 : (T.setVm vm₁).pushCell { cls := cX, slots := kX.instanceTypes.map defaultValue, vm := .none } = T1 at X₁ st1
  have hcat : (Value.ref T.heap.size).category = 1 := rfl
  have hcellA : T1.heap[T.heap.size]? = some (freshCell cX kX) := by rw [← hT1]; exact State.heap_pushCell_size _ _
  have d3' : decode c.code (pc + 3) = .ok (.dup, 1) := by rw [hb]; exact d3
  have d4' : decode c.code (pc + 4) = .ok (.ldc_w is, 3) := by rw [hb]; exact d4
  have hstr' : vk_R own is text sa s' := vk_R.warm hW0 hstr
  obtain ⟨U, hsteps, hrun, hend, hW, hsame, ce, hce, hO⟩ := X₁.ctorThrowS hexec htr (own := own) (cls := cls) (names := names) (ic := ic) hown' hcls hnames h (fun x hx => nomatch hx) hfX hkX hcellA (by rw [hhp, hT]; exact Nat.le_refl _) (msg := .ref sa) rfl
    (g := { method := m, pc := pc + 7, locals := ls, stack := .ref sa :: .ref T.heap.size :: .ref T.heap.size :: rest, locked := none }) rfl hsize rfl rfl (rest := rest) rfl
    (by rw [hb]; exact d7) (by rw [hb]; exact d10) hout hRframes (by simp only [List.map_cons, List.sum_cons, hcat]; omega) hlocks
  obtain ⟨f1, f2⟩ := vx_frame hsame
  rw [hhp] at f1 f2
  have hWs : s.WarmedH U.vm := State.WarmedH.trans hW0 hW
  have hcl : s.vm.findClass cls = some ce.cls := by
    have h9 := hO.cls
    rw [hvm] at h9
    exact h9
  have hall : s.sameButNew ({ U with vm := s.vm } : State) locs mc ms := by
    subst hA
    obtain ⟨e1, e2⟩ := hsame
    rw [State.setFrames_setFrames] at e1
    have h2 : (T.setVm s.vm).sameButNew ({ U with vm := s.vm } : State) [] (0 + 1) (0 + 6) := ⟨e1, e2⟩
    have h3 := X.same.trans h2
    rw [List.append_nil] at h3
    exact h3.mono hc hs
  refine ⟨U, ?_, .threw T.heap.size, hrun, hend, Or.inr ⟨T.heap.size, rfl, cls, ce, locs, hx U hWs.alike f1 (fun q hq => f2 q hq (fun z hz => nomatch hz)), hce, hO.vm, hcl, hWs, hall, hf⟩⟩
  refine st1 _ ?_
  show Steps p.tables e below (T1.setTop { method := m, pc := pc + 3, locals := ls, stack := .ref T.heap.size :: rest, locked := none }) _
  jvm_step X₁.here [X₁.here.top, hexec, d3', Value.category]
  exact X₁.ldcStringW hexec (own := own) (text := text) (index := is) (a := sa) hown' hstr'.1 hstr'.2
    (g := { method := m, pc := pc + 4, locals := ls, stack := .ref T.heap.size :: .ref T.heap.size :: rest, locked := none }) rfl d4' _ hsteps
end Ends
section Bodies
variable {l : Launch}
theorem vx_ofW {y : MethodName} {ws ws' : List Cond} {rm : Room} {Pc : Array Value → State → Prop} {Qc : Array Value → State → Outcome → State → Prop} {XC : String → State → State → Prop} {mc ms : Nat} {free : Addr → Prop} {cc : ByteArray} {maxL : Nat} {ret : Option FieldType}
    (hy : plainName y.cls = true) (hw : ws = Cond.code y cc maxL ret :: ws')
    (body : ∀ p e s m args below meth c s₁, BodyLoose p l y (headSpec ws rm) cc maxL ret e s m args below meth c s₁ → c.maxLocals = maxL → (∀ x ∈ c.exceptionTable.toList, False) → Pc args s →
      W p l e (headSpec ws rm).room s m args below meth c s.heap [] 0 0 (vx_MQ below Qc XC args s mc ms free) (entryFrame m args maxL)) : vx_Met l y ws rm Pc Qc XC mc ms free := by
  refine MetFree.of_bodyS (code := cc) (maxLocals := maxL) (ret := ret) hy ?_ ?_
  · intro args s m h hn
    obtain ⟨meth, c, h1, h2, h3, h4, h5, h6, -, -⟩ := Cond.code_spec hn (atoms_spec (ws := ws) h _ (by rw [hw]; exact List.mem_cons_self))
    exact ⟨meth, c, h1, h2, h3, h4, h5, h6⟩
  · intro p e s m args below meth c s₁ B hml hP _
    have hh0 : s₁.heap = s.heap := by rw [B.state]; rfl
    have ht : ∀ x ∈ c.exceptionTable.toList, False := by
      obtain ⟨meth9, c9, h1, h2, -, -, -, -, h7, -⟩ := Cond.code_spec B.named (atoms_spec (ws := ws) B.pre _ (by rw [hw]; exact List.mem_cons_self))
      cases Option.some.inj (h1.symm.trans B.method)
      cases Option.some.inj (h2.symm.trans (Stand.of_body B).code)
      intro x hx
      rw [Array.isEmpty_iff.mp h7] at hx
      cases hx
    obtain ⟨t, a1, o, b1, b2, b3⟩ := body p e s m args below meth c s₁ B hml ht hP s₁ hh0 (Stand.of_body B)
    exact ⟨t, o, a1, b1, b2, b3⟩
/-- the table of a body with handlers -/
theorem vx_table {p : Program} {x y : MethodName} {S : Spec} {cc bytes : ByteArray} {maxL maxL' : Nat} {ret ret' : Option FieldType} {e : Env} {s s₁ : State} {m : MethodId} {args : Array Value} {below : List Frame} {meth : Method} {c : Code} {hh : List (Nat × Nat × Nat × Nat)}
    (B : BodyLoose p l y S cc maxL ret e s m args below meth c s₁) (h : (Cond.codeWith y bytes maxL' ret' hh).before args s = true) : c.exceptionTable.toList = tableOf hh := by
  obtain ⟨m9, meth9, c9, hn9, h1, h2, -, -, h6, -⟩ := Cond.codeWith_spec h
  cases Option.some.inj (hn9.symm.trans B.named)
  cases Option.some.inj (h1.symm.trans B.method)
  cases Option.some.inj (h2.symm.trans (Stand.of_body B).code)
  rw [← h6, table_eq]
end Bodies
end VXA
/-! ===== END ===== -/
/-! ===== BEGIN a static call of a method with an exception table ===== -/
section VXS
variable {p : Program} {l : Launch} {e : Env} {R : Room} {s : State} {m : MethodId} {args : Array Value} {below : List Frame} {meth : Method} {c : Code} {T : State} {H : Heap} {locs : List Loc} {cells slots : Nat}
abbrev vx_CSW (R : Room) (s : State) (args : Array Value) (own : String) (index : Nat) (y : MethodName) (bytes : ByteArray) (maxL : Nat) (ret : Option FieldType) (hh : List (Nat × Nat × Nat × Nat)) (ws : List Cond) (rm : Room) (mc ms n : Nat) : Prop :=
  (rm.cells = mc ∧ rm.slots = ms ∧ rm.frames + 1 ≤ R.frames ∧ 8 + (maxL + 11) + rm.locals ≤ R.locals ∧ (∀ w ∈ ws, ∀ (a' : Array Value) (U : State), s.WarmedH U.vm → w.before a' U = true) ∧ Cond.codeWith y bytes maxL ret hh ∈ ws) ∧
  (Cond.codeWith y bytes maxL ret hh).before args s = true ∧ (Cond.initialized y.cls).before args s = true ∧ (y.cls ≠ "java/lang/invoke/MethodHandle" ∧ y.cls ≠ "java/lang/invoke/VarHandle") ∧
  (∀ sig, parseMethodDescriptor y.desc = some sig → n = sig.parameters.length) ∧ (Cond.methodLink own index y).before args s = true ∧ (Cond.static y).before args s = true
theorem vx_cwSW {own : String} {index maxL mc ms : Nat} {y : MethodName} {bytes : ByteArray} {ret : Option FieldType} {hh : List (Nat × Nat × Nat × Nat)} {Ts ws ws' : List Cond} {rm : Room} (n : Nat) (ht : ∀ w ∈ Ts, w.before args s = true) (hT : GoodIn Ts (va_wsS own index y ws)) (hw : ws = Cond.codeWith y bytes maxL ret hh :: ws') (hrc : rm.cells = mc) (hrs : rm.slots = ms)
    (hd : y.cls ≠ "java/lang/invoke/MethodHandle" ∧ y.cls ≠ "java/lang/invoke/VarHandle" ∧ (parseMethodDescriptor y.desc).map (fun d => d.parameters.length) = some n) (hR : rm.frames + 1 ≤ R.frames ∧ 8 + (maxL + 11) + rm.locals ≤ R.locals) :
    vx_CSW R s args own index y bytes maxL ret hh ws rm mc ms n := by
  have ok : ∀ w ∈ va_wsS own index y ws, w.before args s = true := fun w h => ht w (hT w h).1
  have hG : GoodIn Ts ws := fun w h => hT w (by unfold va_wsS; exact List.mem_append_right _ h)
  have hc : Cond.codeWith y bytes maxL ret hh ∈ ws := by rw [hw]; exact List.mem_cons_self
  refine ⟨⟨hrc, hrs, hR.1, hR.2, pay_in ht hG, hc⟩, ht _ (hG _ hc).1, ok _ (by simp [va_wsS]), ⟨hd.1, hd.2.1⟩, fun sig h => ?_, ok _ (by simp [va_wsS]), ok _ (by simp [va_wsS])⟩
  have h2 := hd.2.2
  rw [h] at h2
  exact (Option.some.inj h2).symm
theorem vx_callSW (X : Stand p l e R s m args below meth c T locs cells slots) (hexec : p.tables.exec = Jvm.exec) {own : String} {index : Nat} {y : MethodName} {bytes : ByteArray} {maxL : Nat} {ret : Option FieldType} {hh : List (Nat × Nat × Nat × Nat)}
    (hown : s.vm.findClass own = some m.cls) (hlink : (Cond.methodLink own index y).before args s = true) (hstat : (Cond.static y).before args s = true) (hinit : (Cond.initialized y.cls).before args s = true)
    (hcode : (Cond.codeWith y bytes maxL ret hh).before args s = true) (hy : y.cls ≠ "java/lang/invoke/MethodHandle" ∧ y.cls ≠ "java/lang/invoke/VarHandle")
    {W9 : Nat} {Pre : Pt → Array Value → Prop} {Post : Pt → Array Value → Option Value → Pt → Prop} (hK : Back l R p e below s args y 3 W9 Pre Post)
    {g : JFrame} (hg : g.method = m) (hsize : g.locals.size = c.maxLocals) {argsL rest : List Value} (hlen : ∀ sig, parseMethodDescriptor y.desc = some sig → argsL.length = sig.parameters.length)
    (hstack : g.stack = argsL.reverse ++ rest) (hW : 2 * g.monitorRoom + (rest.map fun v => v.category).sum ≤ W9) (hdg : decode c.code g.pc = .ok (.invokestatic index, 3))
    (hpre : ∀ vm₁, s.WarmedH vm₁ → Pre ⟨T.setVm vm₁, locs, cells, slots⟩ argsL.toArray) :
    ∃ (v : Option Value) (vm₁ : Vm) (B : Pt), s.WarmedH vm₁ ∧ Stand p l e R s m args below meth c B.U B.locs B.cells B.slots ∧ Post ⟨T.setVm vm₁, locs, cells, slots⟩ argsL.toArray v B ∧
      ∀ target, Steps p.tables e below (B.U.setTop { g with pc := g.pc + 3, stack := v.toList ++ rest }) target → Steps p.tables e below (T.setTop g) target := by
  obtain ⟨mk, methM, cM, hnamed, hmethM, -, -, -, -, -, -, hsigM⟩ := Cond.codeWith_spec hcode
  have hstatic : methM.isStatic = true := Cond.static_spec hnamed hmethM hstat
  obtain ⟨kP, hkP, -⟩ := className_of_methodNamed hnamed
  have hinitP : kP.init = .initialized := Cond.initialized_spec (findClass_of_methodNamed hnamed) hkP hinit
  obtain ⟨vm₁, X₁, hstep₁⟩ := X.invokestatic hexec hown hlink hnamed hmethM hstatic hkP hinitP hy (g := g) hg (argsL := argsL) (rest := rest) (hlen _ hsigM) hstack hdg
  obtain ⟨v, B, X', hpost, hsteps⟩ := hK m meth c ⟨T.setVm vm₁, locs, cells, slots⟩ { g with stack := rest } (.invokestatic index) mk argsL.toArray X₁ hg hsize hdg hW (X₁.named hnamed) (hpre vm₁ X₁.warmed)
  exact ⟨v, vm₁, B, X₁.warmed, X', hpost, fun target h => hstep₁ _ fun acts => by rw [doInvoke_state]; exact hsteps.trans h⟩
theorem vx_runSW {y : MethodName} {bytes cc : ByteArray} {maxL nL mc ms n index : Nat} {ret : Option FieldType} {hh : List (Nat × Nat × Nat × Nat)} {ws : List Cond} {rm : Room} {Pc : Array Value → State → Prop} {Qc : Array Value → State → Outcome → State → Prop} {free : Addr → Prop} {Ts : List Cond} {own : String} {As rest : List Value} {g : JFrame}
    (S : CallFix p m c cc nL s args Ts own) (hM : Met l y ws rm Pc Qc mc ms free) (cw : vx_CSW R s args own index y bytes maxL ret hh ws rm mc ms n) (hp : PreS s H Pc As)
    (hg : g.method = m) (hn : As.length = n) (hsize : g.locals.size = nL) (hstack : g.stack = As.reverse ++ rest) (hW : 2 * g.monitorRoom + (rest.map fun v => v.category).sum ≤ 8) (hdg : decode cc g.pc = .ok (.invokestatic index, 3)) (hf : cells + mc ≤ R.cells ∧ slots + ms ≤ R.slots) :
    va_Run p l e R s m args below meth c H locs cells slots mc ms g rest (Qc As.toArray) (free) := by
  obtain ⟨⟨hrc, hrs, hfr, hlo, hws, hcw⟩, hcode, hini, hy, hlen, hl, hstt⟩ := cw
  have hK : Back l R p e below s args y 3 8 (PreOf R mc ms Pc) (PostOf Qc mc ms free) := va_backW (hh := hh) (bytes := bytes) (maxL := maxL) (ret := ret) hM hp.1 hrc hrs hfr hlo hws hcw (fun a' U hW => word_at hW (Or.inl (by first | rfl | simp [Cond.onTables, Cond.keeps, Cond.steady])) hini)
  obtain ⟨hx, hb, hml, ho, -⟩ := S
  intro T hT X
  obtain ⟨v, vm₁, ⟨U', l2, c2, s2⟩, hW₁, X', ⟨g', mk, t, L, e1, e2, hq, h1, hL, h2, h3⟩, st⟩ := vx_callSW X hx (hh := hh) (bytes := bytes) (maxL := maxL) (ret := ret) ho hl hstt hini hcode hy hK hg (hsize.trans hml.symm) (argsL := As) (rest := rest) (fun sig h => hn.trans (hlen sig h)) hstack hW (by rw [hb]; exact hdg)
    (fun vm₁ hW₁ => ⟨hf.1, hf.2, hp.2 (T.setVm vm₁) hT hW₁⟩)
  dsimp only [Pt.U, Pt.locs, Pt.cells, Pt.slots] at X' e1 e2 h1 h2 h3 st
  subst h1; subst h2; subst h3
  exact ⟨v, (T.setVm vm₁).calling g' mk As.toArray, t, U', L, hT, X', hL, e1, e2, hq, st⟩
/-- a thing of a world lies in the heap -/
theorem vx_lt {D : va_G} {cl : List vw_C} {ws : va_W} {H1 : Heap} (h : va_P D cl ws H1) {k : Nat} {q : Nat × va_E} (hk : ws[k]? = some q) : q.1 < H1.size := (h k q hk).lt
end VXS
/-! ===== END ===== -/
/-! ===== BEGIN methods with a table of their own: called by a name, returning or throwing ===== -/
section VXH
/-! vx_backW, vx_callVX, vx_callSX, vx_callVW, vx_runVW, vx_runVX, vx_runSX, vx_ofWH follow the same proofs as their sisters above (Free/Laws.lean, Shelf42/LK1.lean); vx_outP calls Shelf42/NT130.lean (outThrough). -/
section
variable {l : Launch} {R : Room} {p : Program} {e : Env} {below : List Frame} {s : State} {sargs : Array Value} {y : MethodName} {len W9 : Nat}
theorem vx_backW {ws : List Cond} {rm : Room} {Pc : Array Value → State → Prop} {Qc : Array Value → State → Outcome → State → Prop} {XC : String → State → State → Prop} {mc ms : Nat} {free : Addr → Prop} {bytes : ByteArray} {maxL : Nat} {ret : Option FieldType} {hh : List (Nat × Nat × Nat × Nat)}
    (hM : vx_Met l y ws rm Pc Qc XC mc ms free) (hblind : FrameBlind Pc) (hrc : rm.cells = mc) (hrs : rm.slots = ms)
    (hframes : rm.frames + 1 ≤ R.frames) (hlocals : W9 + (maxL + 11) + rm.locals ≤ R.locals)
    (hws : ∀ w ∈ ws, ∀ a' U, s.WarmedH U.vm → w.before a' U = true) (hcode : Cond.codeWith y bytes maxL ret hh ∈ ws) (hinit : ∀ a' U, s.WarmedH U.vm → (Cond.initialized y.cls).before a' U = true) :
    vx_Back l R p e below s sargs y len W9 (PreOf R mc ms Pc) (PostOf Qc mc ms free) (vx_Post XC mc ms free) := by
  intro m meth c A g ig mk a X hg hsize hdg hW hn hp
  have h1 : (headSpec ws rm).pre.before a A.U = true := atoms_intro fun w hw => hws w hw _ _ X.warmed
  have h2 : (Cond.codeWith y bytes maxL ret hh).before a A.U = true := hws _ hcode _ _ X.warmed
  have h3 : (Cond.initialized y.cls).before a A.U = true := hinit _ _ X.warmed
  have h4 : A.cells + (headSpec ws rm).room.cells ≤ R.cells := by rw [show (headSpec ws rm).room.cells = mc from hrc]; exact hp.1
  have h5 : A.slots + (headSpec ws rm).room.slots ≤ R.slots := by rw [show (headSpec ws rm).room.slots = ms from hrs]; exact hp.2.1
  have hPc : Pc a (A.U.calling g mk a) := hblind _ _ _ _ hp.2.2
  obtain ⟨U, Ls, c0, s0⟩ := A
  dsimp only [Pt.U, Pt.locs, Pt.cells, Pt.slots] at h1 h2 h3 h4 h5 X hn hPc ⊢
  obtain ⟨m9, methY, cY, hn9, hmY, hcY, -, hlY, -⟩ := Cond.codeWith_spec h2
  cases Option.some.inj (hn9.symm.trans hn)
  obtain ⟨kY, hkY, -⟩ := className_of_methodNamed hn
  have hinitY : kY.init = .initialized := Cond.initialized_spec (findClass_of_methodNamed hn) hkY h3
  have h : At U g.method c below := by rw [hg]; exact X.here
  have hlocals9 : W9 + (maxL + 11) + (headSpec ws rm).room.locals ≤ R.locals := hlocals
  have happ : (headSpec ws rm).appliesLoose y e.platform (U.calling g mk a) = true :=
    Spec.appliesLoose_calling (g := g) h hdg hn hkY hinitY
      (X.room_calling (g := g) (R' := (headSpec ws rm).room) hsize hmY hcY hframes (by rw [hlY]; omega) h4 h5) h1
  obtain ⟨mid, hmid⟩ := h.above
  have hfr : (U.setTop g).frames = (.java g :: mid) ++ below := by rw [State.frames_setTop' g h.top, hmid]; rfl
  obtain ⟨o, s₂, hsteps, -, hend, hq⟩ := Steps.callFree hM p X.admits X.cas X.clock (acts := []) hfr happ hPc trivial
  have hq' : vx_Q Qc XC mc ms free a (U.calling g mk a) o s₂ := hq
  rw [State.frames_setTop' g h.top] at hend
  obtain ⟨g₀, hg0⟩ := Option.isSome_iff_exists.mp h.top
  obtain ⟨r, hr⟩ := State.topJava?_eq_some.mp hg0
  have hr' : (({ U with heap := s₂.heap, slotsUsed := s₂.slotsUsed } : State).setVm s₂.vm).frames = .java g₀ :: r := hr
  rcases hq' with ⟨hqc, L, hfe, hL⟩ | ⟨q, rfl, E, ce, L, hx, hce, hcv, hcl, hW₂, hsm, hL⟩
  · obtain ⟨⟨v, rfl⟩, hW₂, e2, q2, q3, q4, q5, q6⟩ := id hfe
    have e3 : s₂ = ({ (U.calling g mk a).setFrames s₂.frames with heap := s₂.heap, slotsUsed := s₂.slotsUsed } : State).setVm s₂.vm := by
      have : s₂ = ({ s₂ with vm := (U.calling g mk a).vm } : State).setVm s₂.vm := rfl
      rw [e2] at this
      exact this
    obtain ⟨c₂, i₂, len₂, hc₂, hd₂, hf₂⟩ := hend
    have hW' : U.WarmedH s₂.vm := hW₂
    have hcc : c₂ = c := by
      have h1 : s₂.code? g.method = U.code? g.method := by
        rw [State.code?_eq, State.code?_eq, hW'.alike.method?]
      exact Option.some.inj (hc₂.symm.trans (h1.trans h.code))
    subst hcc
    have hlen : len₂ = len := by rw [hdg] at hd₂; cases hd₂; rfl
    subst hlen
    have hs₂ : s₂ = (({ U with heap := s₂.heap, slotsUsed := s₂.slotsUsed } : State).setVm s₂.vm).setTop { g with pc := g.pc + len₂, stack := v.toList ++ g.stack } := by
      refine e3.trans ?_
      rw [hf₂, State.calling_eq h.top, State.setFrames_setFrames, State.setTop_of_frames _ hr', hr]
      rfl
    have hsame : U.sameButNew ({ U with heap := s₂.heap, slotsUsed := s₂.slotsUsed } : State) L mc ms := by
      refine ⟨?_, q2, q3, q4, q5, q6⟩
      obtain ⟨t, ht, -⟩ := State.frames_cons hr
      show ({ U with heap := s₂.heap, slotsUsed := s₂.slotsUsed } : State) = { U.setFrames U.frames with heap := s₂.heap, slotsUsed := s₂.slotsUsed }
      rw [State.setFrames_self ht]
    subst hg
    refine Or.inl ⟨v, ⟨(({ U with heap := s₂.heap, slotsUsed := s₂.slotsUsed } : State).setVm s₂.vm), Ls ++ L, c0 + mc, s0 + ms⟩,
      ⟨X.admits, X.cas, X.clock, X.frames, X.room, X.hears, X.method, X.code, (X.here.setHeapUsed s₂.heap s₂.slotsUsed).setVm hW'.alike, X.tail, State.WarmedH.trans X.warmed hW', X.limits, X.bytes, X.same.trans (hsame.setVm s.vm)⟩,
      ⟨g, mk, s₂, L, rfl, rfl, hqc, rfl, hL, rfl, rfl⟩, ?_⟩
    show Steps p.tables e below _ ((({ U with heap := s₂.heap, slotsUsed := s₂.slotsUsed } : State).setVm s₂.vm).setTop { g with pc := g.pc + len₂, stack := v.toList ++ g.stack })
    rw [← hs₂]
    exact hsteps
  · obtain ⟨e2, q2, q3, q4, q5, q6⟩ := id hsm
    have e3 : s₂ = ({ (U.calling g mk a).setFrames s₂.frames with heap := s₂.heap, slotsUsed := s₂.slotsUsed } : State).setVm s₂.vm := by
      have : s₂ = ({ s₂ with vm := (U.calling g mk a).vm } : State).setVm s₂.vm := rfl
      rw [e2] at this
      exact this
    have hf₂ : s₂.frames = .throwing q :: .java g :: U.frames.tail := hend
    have hW' : U.WarmedH s₂.vm := hW₂
    have hs₂ : s₂ = ((({ U with heap := s₂.heap, slotsUsed := s₂.slotsUsed } : State).setVm s₂.vm).setTop g).pushFrame (.throwing q) := by
      refine e3.trans ?_
      rw [hf₂, State.calling_eq h.top, State.setFrames_setFrames, State.pushFrame, State.frames_setTop _ hr', State.setTop_of_frames _ hr', State.setFrames_setFrames, hr]
      rfl
    have hsame : U.sameButNew ({ U with heap := s₂.heap, slotsUsed := s₂.slotsUsed } : State) L mc ms := by
      refine ⟨?_, q2, q3, q4, q5, q6⟩
      obtain ⟨t, ht, -⟩ := State.frames_cons hr
      show ({ U with heap := s₂.heap, slotsUsed := s₂.slotsUsed } : State) = { U.setFrames U.frames with heap := s₂.heap, slotsUsed := s₂.slotsUsed }
      rw [State.setFrames_self ht]
    subst hg
    refine Or.inr ⟨q, ⟨(({ U with heap := s₂.heap, slotsUsed := s₂.slotsUsed } : State).setVm s₂.vm), Ls ++ L, c0 + mc, s0 + ms⟩,
      ⟨X.admits, X.cas, X.clock, X.frames, X.room, X.hears, X.method, X.code, (X.here.setHeapUsed s₂.heap s₂.slotsUsed).setVm hW'.alike, X.tail, State.WarmedH.trans X.warmed hW', X.limits, X.bytes, X.same.trans (hsame.setVm s.vm)⟩,
      ⟨g, mk, s₂, L, E, ce, rfl, rfl, hx, hce, hcv, hcl, rfl, hL, rfl, rfl⟩, ?_⟩
    show Steps p.tables e below _ (((({ U with heap := s₂.heap, slotsUsed := s₂.slotsUsed } : State).setVm s₂.vm).setTop g).pushFrame (.throwing q))
    rw [← hs₂]
    exact hsteps
end
variable {p : Program} {l : Launch} {e : Env} {R : Room} {s : State} {m : MethodId} {args : Array Value} {below : List Frame} {meth : Method} {c : Code} {T : State} {H : Heap} {locs : List Loc} {cells slots : Nat}
theorem vx_callVX (X : Stand p l e R s m args below meth c T locs cells slots) (hexec : p.tables.exec = Jvm.exec) {own C : String} {index : Nat} {y : MethodName} {bytes : ByteArray} {maxL : Nat} {ret : Option FieldType} {hh : List (Nat × Nat × Nat × Nat)}
    (hown : s.vm.findClass own = some m.cls) (hlink : (Cond.methodLink own index y).before args s = true) (hinst : (Cond.instanceMethod y).before args s = true) (hsel : (Cond.selects C y y).before args s = true)
    (hcode : (Cond.codeWith y bytes maxL ret hh).before args s = true) (hy : y.cls ≠ "java/lang/invoke/MethodHandle" ∧ y.cls ≠ "java/lang/invoke/VarHandle")
    {W9 : Nat} {Pre : Pt → Array Value → Prop} {Post : Pt → Array Value → Option Value → Pt → Prop} {PostX : Pt → Array Value → Addr → Pt → Prop} (hK : vx_Back l R p e below s args y 3 W9 Pre Post PostX)
    {b : Addr} {cellB : Cell} (hcell : T.heap[b]? = some cellB) (hobj : cellB.vm.isStatics = false) (hcls : s.vm.findClass C = some cellB.cls)
    {g : JFrame} (hg : g.method = m) (hsize : g.locals.size = c.maxLocals) {argsL rest : List Value} (hlen : ∀ sig, parseMethodDescriptor y.desc = some sig → argsL.length = sig.parameters.length)
    (hstack : g.stack = argsL.reverse ++ .ref b :: rest) (hW : 2 * g.monitorRoom + (rest.map fun v => v.category).sum ≤ W9) (hdg : decode c.code g.pc = .ok (.invokevirtual index, 3))
    (hpre : ∀ vm₁, s.WarmedH vm₁ → Pre ⟨T.setVm vm₁, locs, cells, slots⟩ (Value.ref b :: argsL).toArray) :
    (∃ (v : Option Value) (vm₁ : Vm) (B : Pt), s.WarmedH vm₁ ∧ Stand p l e R s m args below meth c B.U B.locs B.cells B.slots ∧ Post ⟨T.setVm vm₁, locs, cells, slots⟩ (Value.ref b :: argsL).toArray v B ∧
      ∀ target, Steps p.tables e below (B.U.setTop { g with pc := g.pc + 3, stack := v.toList ++ rest }) target → Steps p.tables e below (T.setTop g) target) ∨
    (∃ (q : Addr) (vm₁ : Vm) (B : Pt), s.WarmedH vm₁ ∧ Stand p l e R s m args below meth c B.U B.locs B.cells B.slots ∧ PostX ⟨T.setVm vm₁, locs, cells, slots⟩ (Value.ref b :: argsL).toArray q B ∧
      Steps p.tables e below (T.setTop g) ((B.U.setTop { g with stack := rest }).pushFrame (.throwing q))) := by
  obtain ⟨mk, methM, hnamed, hmethM, hstM, habM⟩ := Cond.instanceMethod_spec hinst
  obtain ⟨m8, methM', cM, hn8, hmethM', -, -, -, -, -, -, hsigM⟩ := Cond.codeWith_spec hcode
  cases Option.some.inj (hn8.symm.trans hnamed)
  cases hmethM.symm.trans hmethM'
  obtain ⟨c2, r2, m2, q1, q2, q3, q4, kP, hkP, hkPi⟩ := Cond.selects_spec hsel
  cases hcls.symm.trans q1
  cases (State.methodFound?_of_named hnamed hy).symm.trans q2
  cases hnamed.symm.trans q3
  have hselP : selectMethod e.platform s.vm cellB.cls mk = .method mk := by rw [Launch.admits_selectMethod X.admits]; exact q4
  obtain ⟨vm₁, X₁, hstep₁⟩ := X.invokevirtual hexec hown hlink hnamed hmethM hstM hkP hkPi hy (a := b) (cell := cellB) hcell
    (fun z h => by rw [h] at hobj; cases hobj) hselP hmethM habM hkP hkPi (g := g) hg (argsL := argsL) (rest := rest) (hlen _ hsigM) hstack hdg
  rcases hK m meth c ⟨T.setVm vm₁, locs, cells, slots⟩ { g with stack := rest } (.invokevirtual index) mk (Value.ref b :: argsL).toArray X₁ hg hsize hdg hW (X₁.named hnamed) (hpre vm₁ X₁.warmed) with ⟨v, B, X', hpost, hsteps⟩ | ⟨q, B, X', hpost, hsteps⟩
  · exact Or.inl ⟨v, vm₁, B, X₁.warmed, X', hpost, fun target h => hstep₁ _ fun acts => by rw [doInvoke_state]; exact hsteps.trans h⟩
  · exact Or.inr ⟨q, vm₁, B, X₁.warmed, X', hpost, hstep₁ _ fun acts => by rw [doInvoke_state]; exact hsteps⟩
theorem vx_callSX (X : Stand p l e R s m args below meth c T locs cells slots) (hexec : p.tables.exec = Jvm.exec) {own : String} {index : Nat} {y : MethodName} {bytes : ByteArray} {maxL : Nat} {ret : Option FieldType} {hh : List (Nat × Nat × Nat × Nat)}
    (hown : s.vm.findClass own = some m.cls) (hlink : (Cond.methodLink own index y).before args s = true) (hstat : (Cond.static y).before args s = true) (hinit : (Cond.initialized y.cls).before args s = true)
    (hcode : (Cond.codeWith y bytes maxL ret hh).before args s = true) (hy : y.cls ≠ "java/lang/invoke/MethodHandle" ∧ y.cls ≠ "java/lang/invoke/VarHandle")
    {W9 : Nat} {Pre : Pt → Array Value → Prop} {Post : Pt → Array Value → Option Value → Pt → Prop} {PostX : Pt → Array Value → Addr → Pt → Prop} (hK : vx_Back l R p e below s args y 3 W9 Pre Post PostX)
    {g : JFrame} (hg : g.method = m) (hsize : g.locals.size = c.maxLocals) {argsL rest : List Value} (hlen : ∀ sig, parseMethodDescriptor y.desc = some sig → argsL.length = sig.parameters.length)
    (hstack : g.stack = argsL.reverse ++ rest) (hW : 2 * g.monitorRoom + (rest.map fun v => v.category).sum ≤ W9) (hdg : decode c.code g.pc = .ok (.invokestatic index, 3))
    (hpre : ∀ vm₁, s.WarmedH vm₁ → Pre ⟨T.setVm vm₁, locs, cells, slots⟩ argsL.toArray) :
    (∃ (v : Option Value) (vm₁ : Vm) (B : Pt), s.WarmedH vm₁ ∧ Stand p l e R s m args below meth c B.U B.locs B.cells B.slots ∧ Post ⟨T.setVm vm₁, locs, cells, slots⟩ argsL.toArray v B ∧
      ∀ target, Steps p.tables e below (B.U.setTop { g with pc := g.pc + 3, stack := v.toList ++ rest }) target → Steps p.tables e below (T.setTop g) target) ∨
    (∃ (q : Addr) (vm₁ : Vm) (B : Pt), s.WarmedH vm₁ ∧ Stand p l e R s m args below meth c B.U B.locs B.cells B.slots ∧ PostX ⟨T.setVm vm₁, locs, cells, slots⟩ argsL.toArray q B ∧
      Steps p.tables e below (T.setTop g) ((B.U.setTop { g with stack := rest }).pushFrame (.throwing q))) := by
  obtain ⟨mk, methM, cM, hnamed, hmethM, -, -, -, -, -, -, hsigM⟩ := Cond.codeWith_spec hcode
  have hstatic : methM.isStatic = true := Cond.static_spec hnamed hmethM hstat
  obtain ⟨kP, hkP, -⟩ := className_of_methodNamed hnamed
  have hinitP : kP.init = .initialized := Cond.initialized_spec (findClass_of_methodNamed hnamed) hkP hinit
  obtain ⟨vm₁, X₁, hstep₁⟩ := X.invokestatic hexec hown hlink hnamed hmethM hstatic hkP hinitP hy (g := g) hg (argsL := argsL) (rest := rest) (hlen _ hsigM) hstack hdg
  rcases hK m meth c ⟨T.setVm vm₁, locs, cells, slots⟩ { g with stack := rest } (.invokestatic index) mk argsL.toArray X₁ hg hsize hdg hW (X₁.named hnamed) (hpre vm₁ X₁.warmed) with ⟨v, B, X', hpost, hsteps⟩ | ⟨q, B, X', hpost, hsteps⟩
  · exact Or.inl ⟨v, vm₁, B, X₁.warmed, X', hpost, fun target h => hstep₁ _ fun acts => by rw [doInvoke_state]; exact hsteps.trans h⟩
  · exact Or.inr ⟨q, vm₁, B, X₁.warmed, X', hpost, hstep₁ _ fun acts => by rw [doInvoke_state]; exact hsteps⟩
theorem vx_callVW (X : Stand p l e R s m args below meth c T locs cells slots) (hexec : p.tables.exec = Jvm.exec) {own C : String} {index : Nat} {y : MethodName} {bytes : ByteArray} {maxL : Nat} {ret : Option FieldType} {hh : List (Nat × Nat × Nat × Nat)}
    (hown : s.vm.findClass own = some m.cls) (hlink : (Cond.methodLink own index y).before args s = true) (hinst : (Cond.instanceMethod y).before args s = true) (hsel : (Cond.selects C y y).before args s = true)
    (hcode : (Cond.codeWith y bytes maxL ret hh).before args s = true) (hy : y.cls ≠ "java/lang/invoke/MethodHandle" ∧ y.cls ≠ "java/lang/invoke/VarHandle")
    {W9 : Nat} {Pre : Pt → Array Value → Prop} {Post : Pt → Array Value → Option Value → Pt → Prop} (hK : Back l R p e below s args y 3 W9 Pre Post)
    {b : Addr} {cellB : Cell} (hcell : T.heap[b]? = some cellB) (hobj : cellB.vm.isStatics = false) (hcls : s.vm.findClass C = some cellB.cls)
    {g : JFrame} (hg : g.method = m) (hsize : g.locals.size = c.maxLocals) {argsL rest : List Value} (hlen : ∀ sig, parseMethodDescriptor y.desc = some sig → argsL.length = sig.parameters.length)
    (hstack : g.stack = argsL.reverse ++ .ref b :: rest) (hW : 2 * g.monitorRoom + (rest.map fun v => v.category).sum ≤ W9) (hdg : decode c.code g.pc = .ok (.invokevirtual index, 3))
    (hpre : ∀ vm₁, s.WarmedH vm₁ → Pre ⟨T.setVm vm₁, locs, cells, slots⟩ (Value.ref b :: argsL).toArray) :
    ∃ (v : Option Value) (vm₁ : Vm) (B : Pt), s.WarmedH vm₁ ∧ Stand p l e R s m args below meth c B.U B.locs B.cells B.slots ∧ Post ⟨T.setVm vm₁, locs, cells, slots⟩ (Value.ref b :: argsL).toArray v B ∧
      ∀ target, Steps p.tables e below (B.U.setTop { g with pc := g.pc + 3, stack := v.toList ++ rest }) target → Steps p.tables e below (T.setTop g) target := by
  obtain ⟨mk, methM, hnamed, hmethM, hstM, habM⟩ := Cond.instanceMethod_spec hinst
  obtain ⟨m8, methM', cM, hn8, hmethM', -, -, -, -, -, -, hsigM⟩ := Cond.codeWith_spec hcode
  cases Option.some.inj (hn8.symm.trans hnamed)
  cases hmethM.symm.trans hmethM'
  obtain ⟨c2, r2, m2, q1, q2, q3, q4, kP, hkP, hkPi⟩ := Cond.selects_spec hsel
  cases hcls.symm.trans q1
  cases (State.methodFound?_of_named hnamed hy).symm.trans q2
  cases hnamed.symm.trans q3
  have hselP : selectMethod e.platform s.vm cellB.cls mk = .method mk := by rw [Launch.admits_selectMethod X.admits]; exact q4
  obtain ⟨vm₁, X₁, hstep₁⟩ := X.invokevirtual hexec hown hlink hnamed hmethM hstM hkP hkPi hy (a := b) (cell := cellB) hcell
    (fun z h => by rw [h] at hobj; cases hobj) hselP hmethM habM hkP hkPi (g := g) hg (argsL := argsL) (rest := rest) (hlen _ hsigM) hstack hdg
  obtain ⟨v, B, X', hpost, hsteps⟩ := hK m meth c ⟨T.setVm vm₁, locs, cells, slots⟩ { g with stack := rest } (.invokevirtual index) mk (Value.ref b :: argsL).toArray X₁ hg hsize hdg hW (X₁.named hnamed) (hpre vm₁ X₁.warmed)
  exact ⟨v, vm₁, B, X₁.warmed, X', hpost, fun target h => hstep₁ _ fun acts => by rw [doInvoke_state]; exact hsteps.trans h⟩
abbrev vx_CVW (R : Room) (s : State) (args : Array Value) (own C : String) (index : Nat) (y : MethodName) (bytes : ByteArray) (maxL : Nat) (ret : Option FieldType) (hh : List (Nat × Nat × Nat × Nat)) (ws : List Cond) (rm : Room) (mc ms n : Nat) : Prop :=
  (rm.cells = mc ∧ rm.slots = ms ∧ rm.frames + 1 ≤ R.frames ∧ 8 + (maxL + 11) + rm.locals ≤ R.locals ∧ (∀ w ∈ ws, ∀ (a' : Array Value) (U : State), s.WarmedH U.vm → w.before a' U = true) ∧ Cond.codeWith y bytes maxL ret hh ∈ ws) ∧
  (Cond.codeWith y bytes maxL ret hh).before args s = true ∧ (Cond.initialized y.cls).before args s = true ∧ (y.cls ≠ "java/lang/invoke/MethodHandle" ∧ y.cls ≠ "java/lang/invoke/VarHandle") ∧
  (∀ sig, parseMethodDescriptor y.desc = some sig → n = sig.parameters.length) ∧ (Cond.methodLink own index y).before args s = true ∧ (Cond.instanceMethod y).before args s = true ∧ (Cond.selects C y y).before args s = true
theorem vx_cwVW {own C : String} {index maxL mc ms : Nat} {y : MethodName} {bytes : ByteArray} {ret : Option FieldType} {hh : List (Nat × Nat × Nat × Nat)} {Ts ws ws' : List Cond} {rm : Room} (n : Nat) (ht : ∀ w ∈ Ts, w.before args s = true) (hT : GoodIn Ts (wsV own index C y ws)) (hw : ws = Cond.codeWith y bytes maxL ret hh :: ws') (hrc : rm.cells = mc) (hrs : rm.slots = ms)
    (hd : y.cls = C ∧ y.cls ≠ "java/lang/invoke/MethodHandle" ∧ y.cls ≠ "java/lang/invoke/VarHandle" ∧ (parseMethodDescriptor y.desc).map (fun d => d.parameters.length) = some n) (hR : rm.frames + 1 ≤ R.frames ∧ 8 + (maxL + 11) + rm.locals ≤ R.locals) :
    vx_CVW R s args own C index y bytes maxL ret hh ws rm mc ms n := by
  obtain ⟨hC, hd⟩ := hd
  subst hC
  have ok : ∀ w ∈ wsV own index y.cls y ws, w.before args s = true := fun w h => ht w (hT w h).1
  have hG : GoodIn Ts ws := fun w h => hT w (by unfold wsV; exact List.mem_append_right _ h)
  have hc : Cond.codeWith y bytes maxL ret hh ∈ ws := by rw [hw]; exact List.mem_cons_self
  refine ⟨⟨hrc, hrs, hR.1, hR.2, pay_in ht hG, hc⟩, ht _ (hG _ hc).1, ok _ (by simp [wsV]), ⟨hd.1, hd.2.1⟩, fun sig h => ?_, ok _ (by simp [wsV]), ok _ (by simp [wsV]), ok _ (by simp [wsV])⟩
  have h2 := hd.2.2
  rw [h] at h2
  exact (Option.some.inj h2).symm
theorem vx_runVW {y : MethodName} {bytes cc : ByteArray} {maxL nL mc ms n index : Nat} {ret : Option FieldType} {hh : List (Nat × Nat × Nat × Nat)} {ws : List Cond} {rm : Room} {Pc : Array Value → State → Prop} {Qc : Array Value → State → Outcome → State → Prop} {free : Addr → Prop} {Ts : List Cond} {own C : String} {b : Addr} {As rest : List Value} {g : JFrame}
    (S : CallFix p m c cc nL s args Ts own) (hM : Met l y ws rm Pc Qc mc ms free) (cw : vx_CVW R s args own C index y bytes maxL ret hh ws rm mc ms n) (hp : PreV s H C b Pc As)
    (hg : g.method = m) (hn : As.length = n) (hsize : g.locals.size = nL) (hstack : g.stack = As.reverse ++ .ref b :: rest) (hW : 2 * g.monitorRoom + (rest.map fun v => v.category).sum ≤ 8) (hdg : decode cc g.pc = .ok (.invokevirtual index, 3)) (hf : cells + mc ≤ R.cells ∧ slots + ms ≤ R.slots) :
    va_Run p l e R s m args below meth c H locs cells slots mc ms g rest (Qc (Value.ref b :: As).toArray) free := by
  obtain ⟨⟨hrc, hrs, hfr, hlo, hws, hcw⟩, hcode, hini, hy, hlen, hl, hin, hse⟩ := cw
  have hK : Back l R p e below s args y 3 8 (PreOf R mc ms Pc) (PostOf Qc mc ms free) := va_backW (hh := hh) (bytes := bytes) (maxL := maxL) (ret := ret) hM hp.1 hrc hrs hfr hlo hws hcw (fun a' U hW => word_at hW (Or.inl (by first | rfl | simp [Cond.onTables, Cond.keeps, Cond.steady])) hini)
  obtain ⟨hx, hb, hml, ho, -⟩ := S
  obtain ⟨-, ⟨cellB, hcB, hoB, hclB⟩, hPc⟩ := hp
  intro T hT X
  obtain ⟨v, vm₁, ⟨U', l2, c2, s2⟩, hW₁, X', ⟨g', mk, t, L, e1, e2, hq, h1, hL, h2, h3⟩, st⟩ := vx_callVW X hx (C := C) (hh := hh) (bytes := bytes) (maxL := maxL) (ret := ret) ho hl hin hse hcode hy hK (by rw [hT]; exact hcB) hoB hclB hg (hsize.trans hml.symm) (argsL := As) (rest := rest) (fun sig h => hn.trans (hlen sig h)) hstack hW (by rw [hb]; exact hdg)
    (fun vm₁ hW₁ => ⟨hf.1, hf.2, hPc (T.setVm vm₁) hT hW₁⟩)
  dsimp only [Pt.U, Pt.locs, Pt.cells, Pt.slots] at X' e1 e2 h1 h2 h3 st
  subst h1; subst h2; subst h3
  exact ⟨v, (T.setVm vm₁).calling g' mk (Value.ref b :: As).toArray, t, U', L, hT, X', hL, e1, e2, hq, st⟩
section
variable {y : MethodName} {bytes cc : ByteArray} {maxL nL mc ms n index : Nat} {ret : Option FieldType} {ws : List Cond} {rm : Room} {Pc : Array Value → State → Prop} {Qc : Array Value → State → Outcome → State → Prop} {XC : String → State → State → Prop} {free : Addr → Prop} {Ts : List Cond} {own C : String} {b : Addr} {As rest : List Value} {g : JFrame}
theorem vx_runVX {hh : List (Nat × Nat × Nat × Nat)} (S : CallFix p m c cc nL s args Ts own) (hM : vx_Met l y ws rm Pc Qc XC mc ms free) (cw : vx_CVW R s args own C index y bytes maxL ret hh ws rm mc ms n) (hp : PreV s H C b Pc As)
    (hg : g.method = m) (hn : As.length = n) (hsize : g.locals.size = nL) (hstack : g.stack = As.reverse ++ .ref b :: rest) (hW : 2 * g.monitorRoom + (rest.map fun v => v.category).sum ≤ 8) (hdg : decode cc g.pc = .ok (.invokevirtual index, 3)) (hf : cells + mc ≤ R.cells ∧ slots + ms ≤ R.slots) :
    vx_Run p l e R s m args below meth c H locs cells slots mc ms g rest (Qc (Value.ref b :: As).toArray) XC free := by
  obtain ⟨⟨hrc, hrs, hfr, hlo, hws, hcw⟩, hcode, hini, hy, hlen, hl, hin, hse⟩ := cw
  have hK : vx_Back l R p e below s args y 3 8 (PreOf R mc ms Pc) (PostOf Qc mc ms free) (vx_Post XC mc ms free) := vx_backW (hh := hh) (bytes := bytes) (maxL := maxL) (ret := ret) hM hp.1 hrc hrs hfr hlo hws hcw (fun a' U hW => word_at hW (Or.inl (by first | rfl | simp [Cond.onTables, Cond.keeps, Cond.steady])) hini)
  obtain ⟨hx, hb, hml, ho, -⟩ := S
  obtain ⟨-, ⟨cellB, hcB, hoB, hclB⟩, hPc⟩ := hp
  intro T hT X
  rcases vx_callVX X hx (C := C) (hh := hh) (bytes := bytes) (maxL := maxL) (ret := ret) ho hl hin hse hcode hy hK (by rw [hT]; exact hcB) hoB hclB hg (hsize.trans hml.symm) (argsL := As) (rest := rest) (fun sig h => hn.trans (hlen sig h)) hstack hW (by rw [hb]; exact hdg)
    (fun vm₁ hW₁ => ⟨hf.1, hf.2, hPc (T.setVm vm₁) hT hW₁⟩) with ⟨v, vm₁, ⟨U', l2, c2, s2⟩, hW₁, X', ⟨g', mk, t, L, e1, e2, hq, h1, hL, h2, h3⟩, st⟩ | ⟨q, vm₁, ⟨U', l2, c2, s2⟩, hW₁, X', ⟨g', mk, t, L, E, ce, e1, e2, hq, hce, hcv, hcl, h1, hL, h2, h3⟩, st⟩
  · dsimp only [Pt.U, Pt.locs, Pt.cells, Pt.slots] at X' e1 e2 h1 h2 h3 st
    subst h1; subst h2; subst h3
    exact Or.inl ⟨v, (T.setVm vm₁).calling g' mk (Value.ref b :: As).toArray, t, U', L, hT, X', hL, e1, e2, hq, st⟩
  · dsimp only [Pt.U, Pt.locs, Pt.cells, Pt.slots] at X' e1 e2 h1 h2 h3 st hcl
    subst h1; subst h2; subst h3
    exact Or.inr ⟨q, (T.setVm vm₁).calling g' mk (Value.ref b :: As).toArray, t, U', L, E, ce, hT, X', hL, e1, e2, hq, hce, hcv, vx_cls hW₁ hcl, st⟩
theorem vx_runSX {hh : List (Nat × Nat × Nat × Nat)} (S : CallFix p m c cc nL s args Ts own) (hM : vx_Met l y ws rm Pc Qc XC mc ms free) (cw : vx_CSW R s args own index y bytes maxL ret hh ws rm mc ms n) (hp : PreS s H Pc As)
    (hg : g.method = m) (hn : As.length = n) (hsize : g.locals.size = nL) (hstack : g.stack = As.reverse ++ rest) (hW : 2 * g.monitorRoom + (rest.map fun v => v.category).sum ≤ 8) (hdg : decode cc g.pc = .ok (.invokestatic index, 3)) (hf : cells + mc ≤ R.cells ∧ slots + ms ≤ R.slots) :
    vx_Run p l e R s m args below meth c H locs cells slots mc ms g rest (Qc As.toArray) XC free := by
  obtain ⟨⟨hrc, hrs, hfr, hlo, hws, hcw⟩, hcode, hini, hy, hlen, hl, hstt⟩ := cw
  have hK : vx_Back l R p e below s args y 3 8 (PreOf R mc ms Pc) (PostOf Qc mc ms free) (vx_Post XC mc ms free) := vx_backW (hh := hh) (bytes := bytes) (maxL := maxL) (ret := ret) hM hp.1 hrc hrs hfr hlo hws hcw (fun a' U hW => word_at hW (Or.inl (by first | rfl | simp [Cond.onTables, Cond.keeps, Cond.steady])) hini)
  obtain ⟨hx, hb, hml, ho, -⟩ := S
  intro T hT X
  rcases vx_callSX X hx (hh := hh) (bytes := bytes) (maxL := maxL) (ret := ret) ho hl hstt hini hcode hy hK hg (hsize.trans hml.symm) (argsL := As) (rest := rest) (fun sig h => hn.trans (hlen sig h)) hstack hW (by rw [hb]; exact hdg)
    (fun vm₁ hW₁ => ⟨hf.1, hf.2, hp.2 (T.setVm vm₁) hT hW₁⟩) with ⟨v, vm₁, ⟨U', l2, c2, s2⟩, hW₁, X', ⟨g', mk, t, L, e1, e2, hq, h1, hL, h2, h3⟩, st⟩ | ⟨q, vm₁, ⟨U', l2, c2, s2⟩, hW₁, X', ⟨g', mk, t, L, E, ce, e1, e2, hq, hce, hcv, hcl, h1, hL, h2, h3⟩, st⟩
  · dsimp only [Pt.U, Pt.locs, Pt.cells, Pt.slots] at X' e1 e2 h1 h2 h3 st
    subst h1; subst h2; subst h3
    exact Or.inl ⟨v, (T.setVm vm₁).calling g' mk As.toArray, t, U', L, hT, X', hL, e1, e2, hq, st⟩
  · dsimp only [Pt.U, Pt.locs, Pt.cells, Pt.slots] at X' e1 e2 h1 h2 h3 st hcl
    subst h1; subst h2; subst h3
    exact Or.inr ⟨q, (T.setVm vm₁).calling g' mk As.toArray, t, U', L, E, ce, hT, X', hL, e1, e2, hq, hce, hcv, vx_cls hW₁ hcl, st⟩
end
end VXH
theorem vx_ofWH {l : Launch} {y : MethodName} {ws ws' : List Cond} {rm : Room} {Pc : Array Value → State → Prop} {Qc : Array Value → State → Outcome → State → Prop} {XC : String → State → State → Prop} {mc ms : Nat} {free : Addr → Prop} {cc : ByteArray} {maxL : Nat} {ret : Option FieldType} {hh : List (Nat × Nat × Nat × Nat)}
    (hy : plainName y.cls = true) (hw : ws = Cond.codeWith y cc maxL ret hh :: ws')
    (body : ∀ p e s m args below meth c s₁, BodyLoose p l y (headSpec ws rm) cc maxL ret e s m args below meth c s₁ → c.maxLocals = maxL → Pc args s →
      W p l e (headSpec ws rm).room s m args below meth c s.heap [] 0 0 (vx_MQ below Qc XC args s mc ms free) (entryFrame m args maxL)) : vx_Met l y ws rm Pc Qc XC mc ms free := by
  refine MetFree.of_bodyS (code := cc) (maxLocals := maxL) (ret := ret) hy ?_ ?_
  · intro args s m h hn
    obtain ⟨m9, meth, c, hn9, h1, h2, h3, h4, -, h5, h6, -⟩ := Cond.codeWith_spec (atoms_spec (ws := ws) h _ (by rw [hw]; exact List.mem_cons_self))
    cases hn.symm.trans hn9
    exact ⟨meth, c, h1, h2, h3, h4, h5, h6⟩
  · intro p e s m args below meth c s₁ B hml hP _
    have hh0 : s₁.heap = s.heap := by rw [B.state]; rfl
    obtain ⟨t, a1, o, b1, b2, b3⟩ := body p e s m args below meth c s₁ B hml hP s₁ hh0 (Stand.of_body B)
    exact ⟨t, o, a1, b1, b2, b3⟩
/-! ===== END ===== -/
end
section
/-! THE MACHINE'S SIDE of the tables: printed by gen4.py -/
def iYs : List MethodName := [⟨"TextVerbs", "<init>", "()V"⟩, ⟨"TextVerbs", "text", "(I)I"⟩, ⟨"TextVerbs", "set", "(III)V"⟩, ⟨"TextVerbs", "at", "(II)I"⟩, ⟨"TextVerbs", "span", "(ZI)V"⟩, ⟨"TextVerbs", "tally", "(III)I"⟩, ⟨"TextVerbs", "replace", "(III)I"⟩, ⟨"TextVerbs", "inspect", "(I)I"⟩, ⟨"TextVerbs", "convert", "(III)I"⟩, ⟨"TextVerbs", "counter", "(I)I"⟩, ⟨"TextVerbs", "part", "(II)I"⟩, ⟨"TextVerbs", "join", "(II)I"⟩, ⟨"TextVerbs", "delimiter", "(IZ)I"⟩, ⟨"TextVerbs", "receiver", "(I)I"⟩, ⟨"TextVerbs", "split", "(II)I"⟩, ⟨"TextVerbs", "result", "(II)I"⟩, ⟨"TextVerbs", "pointer", "()I"⟩, ⟨"TextVerbs", "table", "(I)I"⟩, ⟨"TextVerbs", "row", "(III)I"⟩, ⟨"TextVerbs", "index", "(II)I"⟩, ⟨"TextVerbs", "search", "(IZI)I"⟩, ⟨"TextVerbs", "sort", "(IZ)V"⟩, ⟨"TextVerbs", "knownText", "(I)LTextVerbs$Text;"⟩, ⟨"TextVerbs", "filledText", "(I)LTextVerbs$Text;"⟩, ⟨"TextVerbs", "textWithPlace", "(II)LTextVerbs$Text;"⟩, ⟨"TextVerbs", "soughtText", "(II)LTextVerbs$Text;"⟩, ⟨"TextVerbs", "widthOf", "(LTextVerbs$Text;)I"⟩, ⟨"TextVerbs", "checkKind", "(II)V"⟩, ⟨"TextVerbs", "checkCounter", "(I)V"⟩, ⟨"TextVerbs", "checkRoomForPhrase", "()V"⟩, ⟨"TextVerbs", "takeRegion", "()LTextVerbs$Region;"⟩, ⟨"TextVerbs", "knownTable", "(I)LTextVerbs$Table;"⟩, ⟨"TextVerbs", "tableWithRow", "(II)LTextVerbs$Table;"⟩, ⟨"TextVerbs$Text", "<init>", "(I)V"⟩, ⟨"TextVerbs$Text", "size", "()I"⟩, ⟨"TextVerbs$Text", "holds", "(LTextVerbs$Text;I)Z"⟩, ⟨"TextVerbs$Text", "firstPlaceOf", "(LTextVerbs$Text;)I"⟩, ⟨"TextVerbs$Text", "firstPlaceOfSign", "(I)I"⟩, ⟨"TextVerbs$Text", "copyTo", "([I)V"⟩, ⟨"TextVerbs$Text", "fillFrom", "([III)V"⟩, ⟨"TextVerbs$Region", "<init>", "(LTextVerbs$Text;LTextVerbs$Text;)V"⟩, ⟨"TextVerbs$Region", "beginIn", "(LTextVerbs$Text;)I"⟩, ⟨"TextVerbs$Region", "endIn", "(LTextVerbs$Text;)I"⟩, ⟨"TextVerbs$Phrase", "<init>", "(ILTextVerbs$Text;ILTextVerbs$Text;LTextVerbs$Region;)V"⟩, ⟨"TextVerbs$Phrase", "isReplacing", "()Z"⟩, ⟨"TextVerbs$Phrase", "startIn", "(LTextVerbs$Text;)V"⟩, ⟨"TextVerbs$Phrase", "matches", "(LTextVerbs$Text;I)Z"⟩, ⟨"TextVerbs$Phrase", "noteMatch", "(I)V"⟩, ⟨"TextVerbs$Inspection", "<init>", "()V"⟩, ⟨"TextVerbs$Inspection", "collect", "(LTextVerbs$Phrase;)I"⟩, ⟨"TextVerbs$Inspection", "takeCount", "(I)I"⟩, ⟨"TextVerbs$Inspection", "goThrough", "(LTextVerbs$Text;)I"⟩, ⟨"TextVerbs$Inspection", "goOver", "(LTextVerbs$Text;Z)I"⟩, ⟨"TextVerbs$Inspection", "firstMatch", "(LTextVerbs$Text;IZ)LTextVerbs$Phrase;"⟩, ⟨"TextVerbs$Inspection", "act", "(LTextVerbs$Phrase;I)V"⟩, ⟨"TextVerbs$Inspection", "exchange", "(LTextVerbs$Text;LTextVerbs$Region;LTextVerbs$Text;LTextVerbs$Text;)I"⟩, ⟨"TextVerbs$Part", "<init>", "(LTextVerbs$Text;LTextVerbs$Text;)V"⟩, ⟨"TextVerbs$Part", "length", "()I"⟩, ⟨"TextVerbs$Joining", "<init>", "()V"⟩, ⟨"TextVerbs$Joining", "collect", "(LTextVerbs$Part;)I"⟩, ⟨"TextVerbs$Joining", "putInto", "(LTextVerbs$Text;I)Z"⟩, ⟨"TextVerbs$Joining", "putPart", "(LTextVerbs$Part;LTextVerbs$Text;)Z"⟩, ⟨"TextVerbs$Splitting", "<init>", "()V"⟩, ⟨"TextVerbs$Splitting", "collectDelimiter", "(LTextVerbs$Text;Z)I"⟩, ⟨"TextVerbs$Splitting", "collectReceiver", "(LTextVerbs$Text;)I"⟩, ⟨"TextVerbs$Splitting", "takeApart", "(LTextVerbs$Text;I)Z"⟩, ⟨"TextVerbs$Splitting", "cutPieces", "(LTextVerbs$Text;)V"⟩, ⟨"TextVerbs$Splitting", "cutBySize", "(LTextVerbs$Text;II)I"⟩, ⟨"TextVerbs$Splitting", "cutByDelimiter", "(LTextVerbs$Text;II)I"⟩, ⟨"TextVerbs$Splitting", "keepPiece", "(IIII)V"⟩, ⟨"TextVerbs$Splitting", "delimiterAt", "(LTextVerbs$Text;I)I"⟩, ⟨"TextVerbs$Splitting", "placeBehind", "(LTextVerbs$Text;II)I"⟩, ⟨"TextVerbs$Splitting", "handOut", "(LTextVerbs$Text;)V"⟩, ⟨"TextVerbs$Table", "<init>", "(I)V"⟩, ⟨"TextVerbs$Table", "findInOrder", "(I)I"⟩, ⟨"TextVerbs$Table", "findByHalves", "(I)I"⟩, ⟨"TextVerbs$Table", "putInOrder", "(Z)V"⟩, ⟨"TextVerbs$Table", "isAhead", "(IIZ)Z"⟩, ⟨"TextVerbsModel", "<init>", "()V"⟩, ⟨"TextVerbsModel", "thrown", "()I"⟩, ⟨"TextVerbsModel", "fails", "(ZZ)Z"⟩, ⟨"TextVerbsModel", "isText", "(I)Z"⟩, ⟨"TextVerbsModel", "isFull", "(I)Z"⟩, ⟨"TextVerbsModel", "text", "(I)I"⟩, ⟨"TextVerbsModel", "isPlace", "(II)Z"⟩, ⟨"TextVerbsModel", "set", "(III)V"⟩, ⟨"TextVerbsModel", "at", "(II)I"⟩, ⟨"TextVerbsModel", "remember", "()V"⟩, ⟨"TextVerbsModel", "occurs", "([IIIII)Z"⟩, ⟨"TextVerbsModel", "first", "([III)I"⟩, ⟨"TextVerbsModel", "span", "(ZI)V"⟩, ⟨"TextVerbsModel", "phrase", "(III)I"⟩, ⟨"TextVerbsModel", "tally", "(III)I"⟩, ⟨"TextVerbsModel", "replace", "(III)I"⟩, ⟨"TextVerbsModel", "beginOf", "(II)I"⟩, ⟨"TextVerbsModel", "endOf", "(II)I"⟩, ⟨"TextVerbsModel", "matches", "(III)Z"⟩, ⟨"TextVerbsModel", "over", "(IZ)I"⟩, ⟨"TextVerbsModel", "act", "(IIIIZ)V"⟩, ⟨"TextVerbsModel", "inspect", "(I)I"⟩, ⟨"TextVerbsModel", "convert", "(III)I"⟩, ⟨"TextVerbsModel", "counter", "(I)I"⟩, ⟨"TextVerbsModel", "part", "(II)I"⟩, ⟨"TextVerbsModel", "join", "(II)I"⟩, ⟨"TextVerbsModel", "delimiter", "(IZ)I"⟩, ⟨"TextVerbsModel", "receiver", "(I)I"⟩, ⟨"TextVerbsModel", "here", "(II)I"⟩, ⟨"TextVerbsModel", "move", "(IIII)V"⟩, ⟨"TextVerbsModel", "split", "(II)I"⟩, ⟨"TextVerbsModel", "result", "(II)I"⟩, ⟨"TextVerbsModel", "pointer", "()I"⟩, ⟨"TextVerbsModel", "table", "(I)I"⟩, ⟨"TextVerbsModel", "isTable", "(I)Z"⟩, ⟨"TextVerbsModel", "isRow", "(II)Z"⟩, ⟨"TextVerbsModel", "row", "(III)I"⟩, ⟨"TextVerbsModel", "index", "(II)I"⟩, ⟨"TextVerbsModel", "search", "(IZI)I"⟩, ⟨"TextVerbsModel", "sort", "(IZ)V"⟩, ⟨"TextVerbsLaw", "text", "(LTextVerbs;I[J)I"⟩, ⟨"TextVerbsLaw", "set", "(LTextVerbs;III)I"⟩, ⟨"TextVerbsLaw", "at", "(LTextVerbs;II[J)I"⟩, ⟨"TextVerbsLaw", "span", "(LTextVerbs;ZI)I"⟩, ⟨"TextVerbsLaw", "tally", "(LTextVerbs;III[J)I"⟩, ⟨"TextVerbsLaw", "replace", "(LTextVerbs;III[J)I"⟩, ⟨"TextVerbsLaw", "inspect", "(LTextVerbs;I[J)I"⟩, ⟨"TextVerbsLaw", "convert", "(LTextVerbs;III[J)I"⟩, ⟨"TextVerbsLaw", "counter", "(LTextVerbs;I[J)I"⟩, ⟨"TextVerbsLaw", "part", "(LTextVerbs;II[J)I"⟩, ⟨"TextVerbsLaw", "join", "(LTextVerbs;II[J)I"⟩, ⟨"TextVerbsLaw", "delimiter", "(LTextVerbs;IZ[J)I"⟩, ⟨"TextVerbsLaw", "receiver", "(LTextVerbs;I[J)I"⟩, ⟨"TextVerbsLaw", "split", "(LTextVerbs;II[J)I"⟩, ⟨"TextVerbsLaw", "table", "(LTextVerbs;I[J)I"⟩, ⟨"TextVerbsLaw", "row", "(LTextVerbs;III[J)I"⟩, ⟨"TextVerbsLaw", "index", "(LTextVerbs;II[J)I"⟩, ⟨"TextVerbsLaw", "search", "(LTextVerbs;IZI[J)I"⟩, ⟨"TextVerbsLaw", "sort", "(LTextVerbs;IZ)I"⟩, ⟨"TextVerbsLaw", "law", "([I)Z"⟩, ⟨"java/util/Arrays", "fill", "([II)V"⟩, ⟨"java/lang/Math", "min", "(II)I"⟩]
def iBs : List ByteArray := [prog_1_method_1_code, prog_1_method_2_code, prog_1_method_3_code, prog_1_method_4_code, prog_1_method_5_code, prog_1_method_6_code, prog_1_method_7_code, prog_1_method_8_code, prog_1_method_9_code, prog_1_method_10_code, prog_1_method_11_code, prog_1_method_12_code, prog_1_method_13_code, prog_1_method_14_code, prog_1_method_15_code, prog_1_method_16_code, prog_1_method_17_code, prog_1_method_18_code, prog_1_method_19_code, prog_1_method_20_code, prog_1_method_21_code, prog_1_method_22_code, prog_1_method_23_code, prog_1_method_24_code, prog_1_method_25_code, prog_1_method_26_code, prog_1_method_27_code, prog_1_method_28_code, prog_1_method_29_code, prog_1_method_30_code, prog_1_method_31_code, prog_1_method_32_code, prog_1_method_33_code, prog_9_method_1_code, prog_9_method_2_code, prog_9_method_3_code, prog_9_method_4_code, prog_9_method_5_code, prog_9_method_6_code, prog_9_method_7_code, prog_6_method_1_code, prog_6_method_2_code, prog_6_method_3_code, prog_5_method_1_code, prog_5_method_2_code, prog_5_method_3_code, prog_5_method_4_code, prog_5_method_5_code, prog_2_method_1_code, prog_2_method_2_code, prog_2_method_3_code, prog_2_method_4_code, prog_2_method_5_code, prog_2_method_6_code, prog_2_method_7_code, prog_2_method_8_code, prog_4_method_1_code, prog_4_method_2_code, prog_3_method_1_code, prog_3_method_2_code, prog_3_method_3_code, prog_3_method_4_code, prog_7_method_1_code, prog_7_method_2_code, prog_7_method_3_code, prog_7_method_4_code, prog_7_method_5_code, prog_7_method_6_code, prog_7_method_7_code, prog_7_method_8_code, prog_7_method_9_code, prog_7_method_10_code, prog_7_method_11_code, prog_8_method_1_code, prog_8_method_2_code, prog_8_method_3_code, prog_8_method_4_code, prog_8_method_5_code, prog_11_method_1_code, prog_11_method_2_code, prog_11_method_3_code, prog_11_method_4_code, prog_11_method_5_code, prog_11_method_6_code, prog_11_method_7_code, prog_11_method_8_code, prog_11_method_9_code, prog_11_method_10_code, prog_11_method_11_code, prog_11_method_12_code, prog_11_method_13_code, prog_11_method_14_code, prog_11_method_15_code, prog_11_method_16_code, prog_11_method_17_code, prog_11_method_18_code, prog_11_method_19_code, prog_11_method_20_code, prog_11_method_21_code, prog_11_method_22_code, prog_11_method_23_code, prog_11_method_24_code, prog_11_method_25_code, prog_11_method_26_code, prog_11_method_27_code, prog_11_method_28_code, prog_11_method_29_code, prog_11_method_30_code, prog_11_method_31_code, prog_11_method_32_code, prog_11_method_33_code, prog_11_method_34_code, prog_11_method_35_code, prog_11_method_36_code, prog_11_method_37_code, prog_11_method_38_code, prog_11_method_39_code, prog_11_method_40_code, method_3_code, method_4_code, method_5_code, method_6_code, method_7_code, method_8_code, method_9_code, method_10_code, method_11_code, method_12_code, method_13_code, method_14_code, method_15_code, method_16_code, method_17_code, method_18_code, method_19_code, method_20_code, method_21_code, code, prog_19_method_103_code, prog_15_method_69_code]
def iRs : List (Option FieldType) := [none, some .int, none, some .int, none, some .int, some .int, some .int, some .int, some .int, some .int, some .int, some .int, some .int, some .int, some .int, some .int, some .int, some .int, some .int, some .int, none, some (.object "TextVerbs$Text"), some (.object "TextVerbs$Text"), some (.object "TextVerbs$Text"), some (.object "TextVerbs$Text"), some .int, none, none, none, some (.object "TextVerbs$Region"), some (.object "TextVerbs$Table"), some (.object "TextVerbs$Table"), none, some .int, some .boolean, some .int, some .int, none, none, none, some .int, some .int, none, some .boolean, none, some .boolean, none, none, some .int, some .int, some .int, some .int, some (.object "TextVerbs$Phrase"), none, some .int, none, some .int, none, some .int, some .boolean, some .boolean, none, some .int, some .int, some .boolean, none, some .int, some .int, none, some .int, some .int, none, none, some .int, some .int, none, some .boolean, none, some .int, some .boolean, some .boolean, some .boolean, some .int, some .boolean, none, some .int, none, some .boolean, some .int, none, some .int, some .int, some .int, some .int, some .int, some .boolean, some .int, none, some .int, some .int, some .int, some .int, some .int, some .int, some .int, some .int, none, some .int, some .int, some .int, some .int, some .boolean, some .boolean, some .int, some .int, some .int, none, some .int, some .int, some .int, some .int, some .int, some .int, some .int, some .int, some .int, some .int, some .int, some .int, some .int, some .int, some .int, some .int, some .int, some .int, some .int, some .boolean, none, some .int]
def iHs : List (List (Nat × Nat × Nat × Nat)) := [[], [], [], [], [], [], [], [], [], [], [], [], [], [], [], [], [], [], [], [], [], [], [], [], [], [], [], [], [], [], [], [], [], [], [], [], [], [], [], [], [], [], [], [], [], [], [], [], [], [], [], [], [], [], [], [], [], [], [], [], [], [], [], [], [], [], [], [], [], [], [], [], [], [], [], [], [], [], [], [], [], [], [], [], [], [], [], [], [], [], [], [], [], [], [], [], [], [], [], [], [], [], [], [], [], [], [], [], [], [], [], [], [], [], [], [], [], [], [(0, 9, 12, 13), (0, 9, 15, 15)], [(0, 7, 10, 13)], [(0, 10, 13, 13)], [(0, 6, 9, 13)], [(0, 12, 15, 13), (0, 12, 19, 15)], [(0, 12, 15, 13), (0, 12, 19, 15)], [(0, 9, 12, 13)], [(0, 12, 15, 13)], [(0, 9, 12, 13)], [(0, 10, 13, 13), (0, 10, 17, 15)], [(0, 10, 13, 13)], [(0, 10, 13, 13), (0, 10, 17, 15)], [(0, 9, 12, 13), (0, 9, 15, 15)], [(0, 10, 13, 13)], [(0, 9, 12, 13), (0, 9, 15, 15)], [(0, 12, 15, 13)], [(0, 10, 13, 13)], [(0, 12, 15, 13)], [(0, 6, 9, 13)], [], [], []]
def iOs : List String := ["TextVerbs", "TextVerbs$Text", "TextVerbs$Region", "TextVerbs$Phrase", "TextVerbs$Inspection", "TextVerbs$Part", "TextVerbs$Joining", "TextVerbs$Splitting", "TextVerbs$Table", "TextVerbsModel", "TextVerbsLaw", "java/util/Arrays", "java/lang/Math"]
def rFs : List Nat := [2, 6, 8, 8, 8, 9, 9, 7, 7, 7, 8, 7, 8, 7, 7, 0, 0, 6, 8, 8, 7, 7, 6, 7, 7, 8, 1, 6, 6, 6, 2, 6, 7, 1, 0, 1, 2, 0, 0, 0, 1, 3, 3, 2, 0, 4, 2, 0, 1, 0, 0, 6, 5, 3, 0, 4, 1, 3, 1, 0, 5, 4, 1, 0, 0, 5, 4, 1, 3, 0, 2, 2, 1, 1, 0, 0, 1, 0, 1, 0, 0, 0, 1, 1, 1, 2, 2, 0, 0, 1, 2, 0, 2, 2, 2, 2, 1, 3, 0, 4, 3, 1, 2, 2, 2, 1, 1, 0, 2, 0, 0, 1, 0, 1, 2, 2, 1, 1, 7, 9, 9, 9, 10, 10, 8, 8, 8, 9, 8, 9, 8, 8, 7, 9, 9, 8, 8, 11, 0, 0]
def rLs : List Nat := [40, 90, 134, 134, 133, 155, 155, 157, 117, 110, 133, 135, 133, 111, 141, 0, 0, 90, 134, 134, 111, 111, 90, 111, 111, 133, 20, 90, 90, 90, 42, 90, 111, 23, 0, 20, 44, 0, 0, 0, 20, 66, 66, 40, 0, 88, 44, 0, 20, 0, 0, 135, 109, 66, 0, 88, 20, 66, 20, 0, 111, 87, 20, 0, 0, 118, 95, 24, 70, 0, 44, 44, 24, 20, 0, 0, 22, 0, 20, 0, 0, 0, 21, 22, 21, 43, 43, 0, 0, 27, 42, 0, 42, 42, 51, 51, 27, 74, 0, 100, 74, 22, 42, 51, 42, 22, 27, 0, 51, 0, 0, 22, 0, 21, 43, 43, 22, 22, 111, 158, 156, 156, 179, 180, 178, 143, 131, 157, 158, 156, 133, 164, 111, 159, 158, 136, 133, 205, 0, 0]
def kRs : List String := ["", "TextVerbs", "TextVerbs$Text", "TextVerbs$Region", "TextVerbs$Phrase", "TextVerbs$Inspection", "TextVerbs$Part", "TextVerbs$Joining", "TextVerbs$Splitting", "TextVerbs$Table", "TextVerbsModel"]
def kNs : List Nat := [0, 10, 1, 2, 10, 4, 2, 3, 11, 2, 33]
def kTs : List (List (String × String × Bool)) := [[], [("texts", "[LTextVerbs$Text;", true), ("textCount", "I", false), ("spanAfter", "LTextVerbs$Text;", false), ("spanBefore", "LTextVerbs$Text;", false), ("inspection", "LTextVerbs$Inspection;", true), ("joining", "LTextVerbs$Joining;", true), ("splitting", "LTextVerbs$Splitting;", true), ("latestPointer", "I", false), ("tables", "[LTextVerbs$Table;", true), ("tableCount", "I", false)], [("signs", "[I", true)], [("after", "LTextVerbs$Text;", true), ("before", "LTextVerbs$Text;", true)], [("kind", "I", true), ("sought", "LTextVerbs$Text;", true), ("counterNumber", "I", true), ("put", "LTextVerbs$Text;", true), ("region", "LTextVerbs$Region;", true), ("width", "I", true), ("begin", "I", false), ("end", "I", false), ("leadingPlace", "I", false), ("spent", "Z", false)], [("phrases", "[LTextVerbs$Phrase;", true), ("phraseCount", "I", false), ("counters", "[I", true), ("line", "[I", true)], [("source", "LTextVerbs$Text;", true), ("limit", "LTextVerbs$Text;", true)], [("parts", "[LTextVerbs$Part;", true), ("partCount", "I", false), ("endPointer", "I", false)], [("delimiters", "[LTextVerbs$Text;", true), ("repeated", "[Z", true), ("delimiterCount", "I", false), ("receivers", "[LTextVerbs$Text;", true), ("receiverCount", "I", false), ("pieceBegins", "[I", true), ("pieceSizes", "[I", true), ("pieceDelimiters", "[I", true), ("servedCount", "I", false), ("endPointer", "I", false), ("line", "[I", true)], [("keys", "[I", true), ("current", "I", false)], [("thrown", "I", false), ("signs", "[I", true), ("before", "[I", true), ("sizes", "[I", true), ("texts", "I", false), ("after", "I", false), ("ahead", "I", false), ("sort", "[I", true), ("of", "[I", true), ("to", "[I", true), ("afters", "[I", true), ("aheads", "[I", true), ("begins", "[I", true), ("ends", "[I", true), ("leads", "[I", true), ("done", "[Z", true), ("phrases", "I", false), ("counters", "[I", true), ("partOf", "[I", true), ("partEnd", "[I", true), ("parts", "I", false), ("delimiters", "[I", true), ("receivers", "[I", true), ("lay", "[I", true), ("which", "[I", true), ("alls", "[Z", true), ("delimited", "I", false), ("received", "I", false), ("pointer", "I", false), ("keys", "[I", true), ("rows", "[I", true), ("indexes", "[I", true), ("tables", "I", false)]]
def kYs : List (List FieldType) := [[], [(.array (.object "TextVerbs$Text")), .int, (.object "TextVerbs$Text"), (.object "TextVerbs$Text"), (.object "TextVerbs$Inspection"), (.object "TextVerbs$Joining"), (.object "TextVerbs$Splitting"), .int, (.array (.object "TextVerbs$Table")), .int], [(.array .int)], [(.object "TextVerbs$Text"), (.object "TextVerbs$Text")], [.int, (.object "TextVerbs$Text"), .int, (.object "TextVerbs$Text"), (.object "TextVerbs$Region"), .int, .int, .int, .int, .boolean], [(.array (.object "TextVerbs$Phrase")), .int, (.array .int), (.array .int)], [(.object "TextVerbs$Text"), (.object "TextVerbs$Text")], [(.array (.object "TextVerbs$Part")), .int, .int], [(.array (.object "TextVerbs$Text")), (.array .boolean), .int, (.array (.object "TextVerbs$Text")), .int, (.array .int), (.array .int), (.array .int), .int, .int, (.array .int)], [(.array .int), .int], [.int, (.array .int), (.array .int), (.array .int), .int, .int, .int, (.array .int), (.array .int), (.array .int), (.array .int), (.array .int), (.array .int), (.array .int), (.array .int), (.array .boolean), .int, (.array .int), (.array .int), (.array .int), .int, (.array .int), (.array .int), (.array .int), (.array .int), (.array .boolean), .int, .int, .int, (.array .int), (.array .int), (.array .int), .int]]
def iY (j : Nat) : MethodName := (iYs[j]?).getD ⟨"", "", ""⟩
def iBy (j : Nat) : ByteArray := (iBs[j]?).getD ⟨#[]⟩
def iRt (j : Nat) : Option FieldType := (iRs[j]?).getD none
def iHh (j : Nat) : List (Nat × Nat × Nat × Nat) := (iHs[j]?).getD []
def iOw (j : Nat) : String := (iOs[mO j]?).getD ""
def rF (j : Nat) : Nat := (rFs[j]?).getD 0
def rL (j : Nat) : Nat := (rLs[j]?).getD 0
def kR (c : Nat) : String := (kRs[c]?).getD ""
def kN (c : Nat) : Nat := (kNs[c]?).getD 0
def kT (c : Nat) : u_T := fun k => match ((kTs[c]?).getD [])[k]? with
  | some (n, d, f) => (kR c, n, d, f)
  | none => ("", "", "", false)
def kY (c : Nat) : Nat → FieldType := fun k => (((kYs[c]?).getD [])[k]?).getD .int
abbrev vwC : List vw_C := [(kR 1, kT 1, kN 1), (kR 2, kT 2, kN 2), (kR 3, kT 3, kN 3), (kR 4, kT 4, kN 4), (kR 5, kT 5, kN 5), (kR 6, kT 6, kN 6), (kR 7, kT 7, kN 7), (kR 8, kT 8, kN 8), (kR 9, kT 9, kN 9), (kR 10, kT 10, kN 10)]
/-- the lengths of instructions -/
def iLen (i : Instr) (len : Nat) : Bool := match i with
  | .bipush _ => Nat.beq len 2
  | .iload _ => Nat.beq len 2
  | .aload _ => Nat.beq len 2
  | .istore _ => Nat.beq len 2
  | .astore _ => Nat.beq len 2
  | .newarray _ => Nat.beq len 2
  | .ldc _ => Nat.beq len 2
  | .sipush _ => Nat.beq len 3
  | .iinc _ _ => Nat.beq len 3
  | .goto _ => Nat.beq len 3
  | .ifCond _ _ => Nat.beq len 3
  | .if_icmp _ _ => Nat.beq len 3
  | .ifnull _ => Nat.beq len 3
  | .ifnonnull _ => Nat.beq len 3
  | .getfield _ => Nat.beq len 3
  | .putfield _ => Nat.beq len 3
  | .new _ => Nat.beq len 3
  | .anewarray _ => Nat.beq len 3
  | .invokevirtual _ => Nat.beq len 3
  | .invokespecial _ => Nat.beq len 3
  | .invokestatic _ => Nat.beq len 3
  | .tableswitch _ _ _ _ => true
  | .lookupswitch _ _ => true
  | _ => Nat.beq len 1
def iTyOk : Nat → FieldType → Bool
  | 0, .int => true
  | 1, .boolean => true
  | 2, .object _ => true
  | 2, .array _ => true
  | _, _ => false
def iO_ (w : Nat) : String := (iOs[w]?).getD ""
def iFO (w k c f t : Nat) : Prop := (Cond.fieldLink (iO_ w) k (kR c) (kT c f).2.1 (kT c f).2.2.1 ∈ lw_tbl ∨ Cond.fieldLinkNest (iO_ w) k (kR c) (kT c f).2.1 (kT c f).2.2.1 "TextVerbs" ∈ lw_tbl) ∧ f < kN c ∧ (1 ≤ c ∧ c ≤ 10) ∧ iTyOk t (kY c f) = true
def iMO (w k j n rc : Nat) : Prop := (Cond.methodLink (iO_ w) k (iY j) ∈ lw_tbl ∨ Cond.methodLinkNest (iO_ w) k (iY j) "TextVerbs" ∈ lw_tbl) ∧ ((rc = 0 ∧ Cond.static (iY j) ∈ lw_tbl) ∨ (rc ≠ 0 ∧ Cond.instanceMethod (iY j) ∈ lw_tbl ∧ ((iY j).name = "<init>" ∨ Cond.selects (kR rc) (iY j) (iY j) ∈ lw_tbl))) ∧ Cond.initialized (iY j).cls ∈ lw_tbl ∧ ((iY j).cls ≠ "java/lang/invoke/MethodHandle" ∧ (iY j).cls ≠ "java/lang/invoke/VarHandle" ∧ (parseMethodDescriptor (iY j).desc).map (fun d => d.parameters.length) = some (if rc = 0 then n else n - 1)) ∧ (rc ≠ 0 → kR rc = (iY j).cls ∧ 1 ≤ n ∧ rc ≤ 10)
def iNO (w k c n : Nat) : Prop := Cond.classLink (iO_ w) k (kR c) ∈ lw_tbl ∧ Cond.instantiable (kR c) n ∈ lw_tbl ∧ Cond.initialized (kR c) ∈ lw_tbl ∧ (1 ≤ c ∧ c ≤ 10) ∧ n = kN c
def iVO (w k c : Nat) : Prop := Cond.classLink (iO_ w) k (kR c) ∈ lw_tbl ∧ Cond.arrayOver (.object (kR c)) ∈ lw_tbl ∧ (1 ≤ c ∧ c ≤ 10) ∧ (c = 2 ∨ c = 4 ∨ c = 6 ∨ c = 9)
def iCO (j : Nat) : Prop := (iHh j = [] ∧ Cond.code (iY j) (iBy j) (mL j) (iRt j) ∈ lw_tbl) ∨ Cond.codeWith (iY j) (iBy j) (mL j) (iRt j) (iHh j) ∈ lw_tbl
end
section
/-! decode rows, a chunk a row: printed by gen4.py -/
theorem dm_0_0 : ∀ q ∈ mC_0_0, decode (iBy 0) q.1 = .ok q.2 ∧ iLen q.2.1 q.2.2 = true := by decide +kernel
theorem dm_1_0 : ∀ q ∈ mC_1_0, decode (iBy 1) q.1 = .ok q.2 ∧ iLen q.2.1 q.2.2 = true := by decide +kernel
theorem dm_1_1 : ∀ q ∈ mC_1_1, decode (iBy 1) q.1 = .ok q.2 ∧ iLen q.2.1 q.2.2 = true := by decide +kernel
theorem dm_2_0 : ∀ q ∈ mC_2_0, decode (iBy 2) q.1 = .ok q.2 ∧ iLen q.2.1 q.2.2 = true := by decide +kernel
theorem dm_3_0 : ∀ q ∈ mC_3_0, decode (iBy 3) q.1 = .ok q.2 ∧ iLen q.2.1 q.2.2 = true := by decide +kernel
theorem dm_4_0 : ∀ q ∈ mC_4_0, decode (iBy 4) q.1 = .ok q.2 ∧ iLen q.2.1 q.2.2 = true := by decide +kernel
theorem dm_5_0 : ∀ q ∈ mC_5_0, decode (iBy 5) q.1 = .ok q.2 ∧ iLen q.2.1 q.2.2 = true := by decide +kernel
theorem dm_6_0 : ∀ q ∈ mC_6_0, decode (iBy 6) q.1 = .ok q.2 ∧ iLen q.2.1 q.2.2 = true := by decide +kernel
theorem dm_6_1 : ∀ q ∈ mC_6_1, decode (iBy 6) q.1 = .ok q.2 ∧ iLen q.2.1 q.2.2 = true := by decide +kernel
theorem dm_7_0 : ∀ q ∈ mC_7_0, decode (iBy 7) q.1 = .ok q.2 ∧ iLen q.2.1 q.2.2 = true := by decide +kernel
theorem dm_8_0 : ∀ q ∈ mC_8_0, decode (iBy 8) q.1 = .ok q.2 ∧ iLen q.2.1 q.2.2 = true := by decide +kernel
theorem dm_9_0 : ∀ q ∈ mC_9_0, decode (iBy 9) q.1 = .ok q.2 ∧ iLen q.2.1 q.2.2 = true := by decide +kernel
theorem dm_10_0 : ∀ q ∈ mC_10_0, decode (iBy 10) q.1 = .ok q.2 ∧ iLen q.2.1 q.2.2 = true := by decide +kernel
theorem dm_11_0 : ∀ q ∈ mC_11_0, decode (iBy 11) q.1 = .ok q.2 ∧ iLen q.2.1 q.2.2 = true := by decide +kernel
theorem dm_12_0 : ∀ q ∈ mC_12_0, decode (iBy 12) q.1 = .ok q.2 ∧ iLen q.2.1 q.2.2 = true := by decide +kernel
theorem dm_13_0 : ∀ q ∈ mC_13_0, decode (iBy 13) q.1 = .ok q.2 ∧ iLen q.2.1 q.2.2 = true := by decide +kernel
theorem dm_14_0 : ∀ q ∈ mC_14_0, decode (iBy 14) q.1 = .ok q.2 ∧ iLen q.2.1 q.2.2 = true := by decide +kernel
theorem dm_15_0 : ∀ q ∈ mC_15_0, decode (iBy 15) q.1 = .ok q.2 ∧ iLen q.2.1 q.2.2 = true := by decide +kernel
theorem dm_15_1 : ∀ q ∈ mC_15_1, decode (iBy 15) q.1 = .ok q.2 ∧ iLen q.2.1 q.2.2 = true := by decide +kernel
theorem dm_16_0 : ∀ q ∈ mC_16_0, decode (iBy 16) q.1 = .ok q.2 ∧ iLen q.2.1 q.2.2 = true := by decide +kernel
theorem dm_17_0 : ∀ q ∈ mC_17_0, decode (iBy 17) q.1 = .ok q.2 ∧ iLen q.2.1 q.2.2 = true := by decide +kernel
theorem dm_17_1 : ∀ q ∈ mC_17_1, decode (iBy 17) q.1 = .ok q.2 ∧ iLen q.2.1 q.2.2 = true := by decide +kernel
theorem dm_18_0 : ∀ q ∈ mC_18_0, decode (iBy 18) q.1 = .ok q.2 ∧ iLen q.2.1 q.2.2 = true := by decide +kernel
theorem dm_19_0 : ∀ q ∈ mC_19_0, decode (iBy 19) q.1 = .ok q.2 ∧ iLen q.2.1 q.2.2 = true := by decide +kernel
theorem dm_20_0 : ∀ q ∈ mC_20_0, decode (iBy 20) q.1 = .ok q.2 ∧ iLen q.2.1 q.2.2 = true := by decide +kernel
theorem dm_21_0 : ∀ q ∈ mC_21_0, decode (iBy 21) q.1 = .ok q.2 ∧ iLen q.2.1 q.2.2 = true := by decide +kernel
theorem dm_22_0 : ∀ q ∈ mC_22_0, decode (iBy 22) q.1 = .ok q.2 ∧ iLen q.2.1 q.2.2 = true := by decide +kernel
theorem dm_23_0 : ∀ q ∈ mC_23_0, decode (iBy 23) q.1 = .ok q.2 ∧ iLen q.2.1 q.2.2 = true := by decide +kernel
theorem dm_24_0 : ∀ q ∈ mC_24_0, decode (iBy 24) q.1 = .ok q.2 ∧ iLen q.2.1 q.2.2 = true := by decide +kernel
theorem dm_25_0 : ∀ q ∈ mC_25_0, decode (iBy 25) q.1 = .ok q.2 ∧ iLen q.2.1 q.2.2 = true := by decide +kernel
theorem dm_26_0 : ∀ q ∈ mC_26_0, decode (iBy 26) q.1 = .ok q.2 ∧ iLen q.2.1 q.2.2 = true := by decide +kernel
theorem dm_27_0 : ∀ q ∈ mC_27_0, decode (iBy 27) q.1 = .ok q.2 ∧ iLen q.2.1 q.2.2 = true := by decide +kernel
theorem dm_28_0 : ∀ q ∈ mC_28_0, decode (iBy 28) q.1 = .ok q.2 ∧ iLen q.2.1 q.2.2 = true := by decide +kernel
theorem dm_29_0 : ∀ q ∈ mC_29_0, decode (iBy 29) q.1 = .ok q.2 ∧ iLen q.2.1 q.2.2 = true := by decide +kernel
theorem dm_30_0 : ∀ q ∈ mC_30_0, decode (iBy 30) q.1 = .ok q.2 ∧ iLen q.2.1 q.2.2 = true := by decide +kernel
theorem dm_31_0 : ∀ q ∈ mC_31_0, decode (iBy 31) q.1 = .ok q.2 ∧ iLen q.2.1 q.2.2 = true := by decide +kernel
theorem dm_32_0 : ∀ q ∈ mC_32_0, decode (iBy 32) q.1 = .ok q.2 ∧ iLen q.2.1 q.2.2 = true := by decide +kernel
theorem dm_33_0 : ∀ q ∈ mC_33_0, decode (iBy 33) q.1 = .ok q.2 ∧ iLen q.2.1 q.2.2 = true := by decide +kernel
theorem dm_34_0 : ∀ q ∈ mC_34_0, decode (iBy 34) q.1 = .ok q.2 ∧ iLen q.2.1 q.2.2 = true := by decide +kernel
theorem dm_35_0 : ∀ q ∈ mC_35_0, decode (iBy 35) q.1 = .ok q.2 ∧ iLen q.2.1 q.2.2 = true := by decide +kernel
theorem dm_36_0 : ∀ q ∈ mC_36_0, decode (iBy 36) q.1 = .ok q.2 ∧ iLen q.2.1 q.2.2 = true := by decide +kernel
theorem dm_37_0 : ∀ q ∈ mC_37_0, decode (iBy 37) q.1 = .ok q.2 ∧ iLen q.2.1 q.2.2 = true := by decide +kernel
theorem dm_38_0 : ∀ q ∈ mC_38_0, decode (iBy 38) q.1 = .ok q.2 ∧ iLen q.2.1 q.2.2 = true := by decide +kernel
theorem dm_39_0 : ∀ q ∈ mC_39_0, decode (iBy 39) q.1 = .ok q.2 ∧ iLen q.2.1 q.2.2 = true := by decide +kernel
theorem dm_40_0 : ∀ q ∈ mC_40_0, decode (iBy 40) q.1 = .ok q.2 ∧ iLen q.2.1 q.2.2 = true := by decide +kernel
theorem dm_41_0 : ∀ q ∈ mC_41_0, decode (iBy 41) q.1 = .ok q.2 ∧ iLen q.2.1 q.2.2 = true := by decide +kernel
theorem dm_42_0 : ∀ q ∈ mC_42_0, decode (iBy 42) q.1 = .ok q.2 ∧ iLen q.2.1 q.2.2 = true := by decide +kernel
theorem dm_43_0 : ∀ q ∈ mC_43_0, decode (iBy 43) q.1 = .ok q.2 ∧ iLen q.2.1 q.2.2 = true := by decide +kernel
theorem dm_44_0 : ∀ q ∈ mC_44_0, decode (iBy 44) q.1 = .ok q.2 ∧ iLen q.2.1 q.2.2 = true := by decide +kernel
theorem dm_45_0 : ∀ q ∈ mC_45_0, decode (iBy 45) q.1 = .ok q.2 ∧ iLen q.2.1 q.2.2 = true := by decide +kernel
theorem dm_46_0 : ∀ q ∈ mC_46_0, decode (iBy 46) q.1 = .ok q.2 ∧ iLen q.2.1 q.2.2 = true := by decide +kernel
theorem dm_46_1 : ∀ q ∈ mC_46_1, decode (iBy 46) q.1 = .ok q.2 ∧ iLen q.2.1 q.2.2 = true := by decide +kernel
theorem dm_47_0 : ∀ q ∈ mC_47_0, decode (iBy 47) q.1 = .ok q.2 ∧ iLen q.2.1 q.2.2 = true := by decide +kernel
theorem dm_48_0 : ∀ q ∈ mC_48_0, decode (iBy 48) q.1 = .ok q.2 ∧ iLen q.2.1 q.2.2 = true := by decide +kernel
theorem dm_49_0 : ∀ q ∈ mC_49_0, decode (iBy 49) q.1 = .ok q.2 ∧ iLen q.2.1 q.2.2 = true := by decide +kernel
theorem dm_50_0 : ∀ q ∈ mC_50_0, decode (iBy 50) q.1 = .ok q.2 ∧ iLen q.2.1 q.2.2 = true := by decide +kernel
theorem dm_51_0 : ∀ q ∈ mC_51_0, decode (iBy 51) q.1 = .ok q.2 ∧ iLen q.2.1 q.2.2 = true := by decide +kernel
theorem dm_52_0 : ∀ q ∈ mC_52_0, decode (iBy 52) q.1 = .ok q.2 ∧ iLen q.2.1 q.2.2 = true := by decide +kernel
theorem dm_52_1 : ∀ q ∈ mC_52_1, decode (iBy 52) q.1 = .ok q.2 ∧ iLen q.2.1 q.2.2 = true := by decide +kernel
theorem dm_53_0 : ∀ q ∈ mC_53_0, decode (iBy 53) q.1 = .ok q.2 ∧ iLen q.2.1 q.2.2 = true := by decide +kernel
theorem dm_54_0 : ∀ q ∈ mC_54_0, decode (iBy 54) q.1 = .ok q.2 ∧ iLen q.2.1 q.2.2 = true := by decide +kernel
theorem dm_55_0 : ∀ q ∈ mC_55_0, decode (iBy 55) q.1 = .ok q.2 ∧ iLen q.2.1 q.2.2 = true := by decide +kernel
theorem dm_55_1 : ∀ q ∈ mC_55_1, decode (iBy 55) q.1 = .ok q.2 ∧ iLen q.2.1 q.2.2 = true := by decide +kernel
theorem dm_56_0 : ∀ q ∈ mC_56_0, decode (iBy 56) q.1 = .ok q.2 ∧ iLen q.2.1 q.2.2 = true := by decide +kernel
theorem dm_57_0 : ∀ q ∈ mC_57_0, decode (iBy 57) q.1 = .ok q.2 ∧ iLen q.2.1 q.2.2 = true := by decide +kernel
theorem dm_58_0 : ∀ q ∈ mC_58_0, decode (iBy 58) q.1 = .ok q.2 ∧ iLen q.2.1 q.2.2 = true := by decide +kernel
theorem dm_59_0 : ∀ q ∈ mC_59_0, decode (iBy 59) q.1 = .ok q.2 ∧ iLen q.2.1 q.2.2 = true := by decide +kernel
theorem dm_60_0 : ∀ q ∈ mC_60_0, decode (iBy 60) q.1 = .ok q.2 ∧ iLen q.2.1 q.2.2 = true := by decide +kernel
theorem dm_61_0 : ∀ q ∈ mC_61_0, decode (iBy 61) q.1 = .ok q.2 ∧ iLen q.2.1 q.2.2 = true := by decide +kernel
theorem dm_61_1 : ∀ q ∈ mC_61_1, decode (iBy 61) q.1 = .ok q.2 ∧ iLen q.2.1 q.2.2 = true := by decide +kernel
theorem dm_62_0 : ∀ q ∈ mC_62_0, decode (iBy 62) q.1 = .ok q.2 ∧ iLen q.2.1 q.2.2 = true := by decide +kernel
theorem dm_63_0 : ∀ q ∈ mC_63_0, decode (iBy 63) q.1 = .ok q.2 ∧ iLen q.2.1 q.2.2 = true := by decide +kernel
theorem dm_64_0 : ∀ q ∈ mC_64_0, decode (iBy 64) q.1 = .ok q.2 ∧ iLen q.2.1 q.2.2 = true := by decide +kernel
theorem dm_65_0 : ∀ q ∈ mC_65_0, decode (iBy 65) q.1 = .ok q.2 ∧ iLen q.2.1 q.2.2 = true := by decide +kernel
theorem dm_66_0 : ∀ q ∈ mC_66_0, decode (iBy 66) q.1 = .ok q.2 ∧ iLen q.2.1 q.2.2 = true := by decide +kernel
theorem dm_66_1 : ∀ q ∈ mC_66_1, decode (iBy 66) q.1 = .ok q.2 ∧ iLen q.2.1 q.2.2 = true := by decide +kernel
theorem dm_67_0 : ∀ q ∈ mC_67_0, decode (iBy 67) q.1 = .ok q.2 ∧ iLen q.2.1 q.2.2 = true := by decide +kernel
theorem dm_68_0 : ∀ q ∈ mC_68_0, decode (iBy 68) q.1 = .ok q.2 ∧ iLen q.2.1 q.2.2 = true := by decide +kernel
theorem dm_68_1 : ∀ q ∈ mC_68_1, decode (iBy 68) q.1 = .ok q.2 ∧ iLen q.2.1 q.2.2 = true := by decide +kernel
theorem dm_69_0 : ∀ q ∈ mC_69_0, decode (iBy 69) q.1 = .ok q.2 ∧ iLen q.2.1 q.2.2 = true := by decide +kernel
theorem dm_70_0 : ∀ q ∈ mC_70_0, decode (iBy 70) q.1 = .ok q.2 ∧ iLen q.2.1 q.2.2 = true := by decide +kernel
theorem dm_71_0 : ∀ q ∈ mC_71_0, decode (iBy 71) q.1 = .ok q.2 ∧ iLen q.2.1 q.2.2 = true := by decide +kernel
theorem dm_71_1 : ∀ q ∈ mC_71_1, decode (iBy 71) q.1 = .ok q.2 ∧ iLen q.2.1 q.2.2 = true := by decide +kernel
theorem dm_72_0 : ∀ q ∈ mC_72_0, decode (iBy 72) q.1 = .ok q.2 ∧ iLen q.2.1 q.2.2 = true := by decide +kernel
theorem dm_73_0 : ∀ q ∈ mC_73_0, decode (iBy 73) q.1 = .ok q.2 ∧ iLen q.2.1 q.2.2 = true := by decide +kernel
theorem dm_74_0 : ∀ q ∈ mC_74_0, decode (iBy 74) q.1 = .ok q.2 ∧ iLen q.2.1 q.2.2 = true := by decide +kernel
theorem dm_75_0 : ∀ q ∈ mC_75_0, decode (iBy 75) q.1 = .ok q.2 ∧ iLen q.2.1 q.2.2 = true := by decide +kernel
theorem dm_75_1 : ∀ q ∈ mC_75_1, decode (iBy 75) q.1 = .ok q.2 ∧ iLen q.2.1 q.2.2 = true := by decide +kernel
theorem dm_76_0 : ∀ q ∈ mC_76_0, decode (iBy 76) q.1 = .ok q.2 ∧ iLen q.2.1 q.2.2 = true := by decide +kernel
theorem dm_76_1 : ∀ q ∈ mC_76_1, decode (iBy 76) q.1 = .ok q.2 ∧ iLen q.2.1 q.2.2 = true := by decide +kernel
theorem dm_77_0 : ∀ q ∈ mC_77_0, decode (iBy 77) q.1 = .ok q.2 ∧ iLen q.2.1 q.2.2 = true := by decide +kernel
theorem dm_78_0 : ∀ q ∈ mC_78_0, decode (iBy 78) q.1 = .ok q.2 ∧ iLen q.2.1 q.2.2 = true := by decide +kernel
theorem dm_78_1 : ∀ q ∈ mC_78_1, decode (iBy 78) q.1 = .ok q.2 ∧ iLen q.2.1 q.2.2 = true := by decide +kernel
theorem dm_78_2 : ∀ q ∈ mC_78_2, decode (iBy 78) q.1 = .ok q.2 ∧ iLen q.2.1 q.2.2 = true := by decide +kernel
theorem dm_78_3 : ∀ q ∈ mC_78_3, decode (iBy 78) q.1 = .ok q.2 ∧ iLen q.2.1 q.2.2 = true := by decide +kernel
theorem dm_79_0 : ∀ q ∈ mC_79_0, decode (iBy 79) q.1 = .ok q.2 ∧ iLen q.2.1 q.2.2 = true := by decide +kernel
theorem dm_80_0 : ∀ q ∈ mC_80_0, decode (iBy 80) q.1 = .ok q.2 ∧ iLen q.2.1 q.2.2 = true := by decide +kernel
theorem dm_81_0 : ∀ q ∈ mC_81_0, decode (iBy 81) q.1 = .ok q.2 ∧ iLen q.2.1 q.2.2 = true := by decide +kernel
theorem dm_82_0 : ∀ q ∈ mC_82_0, decode (iBy 82) q.1 = .ok q.2 ∧ iLen q.2.1 q.2.2 = true := by decide +kernel
theorem dm_83_0 : ∀ q ∈ mC_83_0, decode (iBy 83) q.1 = .ok q.2 ∧ iLen q.2.1 q.2.2 = true := by decide +kernel
theorem dm_83_1 : ∀ q ∈ mC_83_1, decode (iBy 83) q.1 = .ok q.2 ∧ iLen q.2.1 q.2.2 = true := by decide +kernel
theorem dm_84_0 : ∀ q ∈ mC_84_0, decode (iBy 84) q.1 = .ok q.2 ∧ iLen q.2.1 q.2.2 = true := by decide +kernel
theorem dm_85_0 : ∀ q ∈ mC_85_0, decode (iBy 85) q.1 = .ok q.2 ∧ iLen q.2.1 q.2.2 = true := by decide +kernel
theorem dm_86_0 : ∀ q ∈ mC_86_0, decode (iBy 86) q.1 = .ok q.2 ∧ iLen q.2.1 q.2.2 = true := by decide +kernel
theorem dm_87_0 : ∀ q ∈ mC_87_0, decode (iBy 87) q.1 = .ok q.2 ∧ iLen q.2.1 q.2.2 = true := by decide +kernel
theorem dm_88_0 : ∀ q ∈ mC_88_0, decode (iBy 88) q.1 = .ok q.2 ∧ iLen q.2.1 q.2.2 = true := by decide +kernel
theorem dm_88_1 : ∀ q ∈ mC_88_1, decode (iBy 88) q.1 = .ok q.2 ∧ iLen q.2.1 q.2.2 = true := by decide +kernel
theorem dm_89_0 : ∀ q ∈ mC_89_0, decode (iBy 89) q.1 = .ok q.2 ∧ iLen q.2.1 q.2.2 = true := by decide +kernel
theorem dm_90_0 : ∀ q ∈ mC_90_0, decode (iBy 90) q.1 = .ok q.2 ∧ iLen q.2.1 q.2.2 = true := by decide +kernel
theorem dm_91_0 : ∀ q ∈ mC_91_0, decode (iBy 91) q.1 = .ok q.2 ∧ iLen q.2.1 q.2.2 = true := by decide +kernel
theorem dm_91_1 : ∀ q ∈ mC_91_1, decode (iBy 91) q.1 = .ok q.2 ∧ iLen q.2.1 q.2.2 = true := by decide +kernel
theorem dm_92_0 : ∀ q ∈ mC_92_0, decode (iBy 92) q.1 = .ok q.2 ∧ iLen q.2.1 q.2.2 = true := by decide +kernel
theorem dm_92_1 : ∀ q ∈ mC_92_1, decode (iBy 92) q.1 = .ok q.2 ∧ iLen q.2.1 q.2.2 = true := by decide +kernel
theorem dm_93_0 : ∀ q ∈ mC_93_0, decode (iBy 93) q.1 = .ok q.2 ∧ iLen q.2.1 q.2.2 = true := by decide +kernel
theorem dm_93_1 : ∀ q ∈ mC_93_1, decode (iBy 93) q.1 = .ok q.2 ∧ iLen q.2.1 q.2.2 = true := by decide +kernel
theorem dm_94_0 : ∀ q ∈ mC_94_0, decode (iBy 94) q.1 = .ok q.2 ∧ iLen q.2.1 q.2.2 = true := by decide +kernel
theorem dm_95_0 : ∀ q ∈ mC_95_0, decode (iBy 95) q.1 = .ok q.2 ∧ iLen q.2.1 q.2.2 = true := by decide +kernel
theorem dm_96_0 : ∀ q ∈ mC_96_0, decode (iBy 96) q.1 = .ok q.2 ∧ iLen q.2.1 q.2.2 = true := by decide +kernel
theorem dm_96_1 : ∀ q ∈ mC_96_1, decode (iBy 96) q.1 = .ok q.2 ∧ iLen q.2.1 q.2.2 = true := by decide +kernel
theorem dm_97_0 : ∀ q ∈ mC_97_0, decode (iBy 97) q.1 = .ok q.2 ∧ iLen q.2.1 q.2.2 = true := by decide +kernel
theorem dm_97_1 : ∀ q ∈ mC_97_1, decode (iBy 97) q.1 = .ok q.2 ∧ iLen q.2.1 q.2.2 = true := by decide +kernel
theorem dm_97_2 : ∀ q ∈ mC_97_2, decode (iBy 97) q.1 = .ok q.2 ∧ iLen q.2.1 q.2.2 = true := by decide +kernel
theorem dm_97_3 : ∀ q ∈ mC_97_3, decode (iBy 97) q.1 = .ok q.2 ∧ iLen q.2.1 q.2.2 = true := by decide +kernel
theorem dm_98_0 : ∀ q ∈ mC_98_0, decode (iBy 98) q.1 = .ok q.2 ∧ iLen q.2.1 q.2.2 = true := by decide +kernel
theorem dm_98_1 : ∀ q ∈ mC_98_1, decode (iBy 98) q.1 = .ok q.2 ∧ iLen q.2.1 q.2.2 = true := by decide +kernel
theorem dm_99_0 : ∀ q ∈ mC_99_0, decode (iBy 99) q.1 = .ok q.2 ∧ iLen q.2.1 q.2.2 = true := by decide +kernel
theorem dm_100_0 : ∀ q ∈ mC_100_0, decode (iBy 100) q.1 = .ok q.2 ∧ iLen q.2.1 q.2.2 = true := by decide +kernel
theorem dm_100_1 : ∀ q ∈ mC_100_1, decode (iBy 100) q.1 = .ok q.2 ∧ iLen q.2.1 q.2.2 = true := by decide +kernel
theorem dm_100_2 : ∀ q ∈ mC_100_2, decode (iBy 100) q.1 = .ok q.2 ∧ iLen q.2.1 q.2.2 = true := by decide +kernel
theorem dm_100_3 : ∀ q ∈ mC_100_3, decode (iBy 100) q.1 = .ok q.2 ∧ iLen q.2.1 q.2.2 = true := by decide +kernel
theorem dm_101_0 : ∀ q ∈ mC_101_0, decode (iBy 101) q.1 = .ok q.2 ∧ iLen q.2.1 q.2.2 = true := by decide +kernel
theorem dm_102_0 : ∀ q ∈ mC_102_0, decode (iBy 102) q.1 = .ok q.2 ∧ iLen q.2.1 q.2.2 = true := by decide +kernel
theorem dm_102_1 : ∀ q ∈ mC_102_1, decode (iBy 102) q.1 = .ok q.2 ∧ iLen q.2.1 q.2.2 = true := by decide +kernel
theorem dm_103_0 : ∀ q ∈ mC_103_0, decode (iBy 103) q.1 = .ok q.2 ∧ iLen q.2.1 q.2.2 = true := by decide +kernel
theorem dm_103_1 : ∀ q ∈ mC_103_1, decode (iBy 103) q.1 = .ok q.2 ∧ iLen q.2.1 q.2.2 = true := by decide +kernel
theorem dm_103_2 : ∀ q ∈ mC_103_2, decode (iBy 103) q.1 = .ok q.2 ∧ iLen q.2.1 q.2.2 = true := by decide +kernel
theorem dm_103_3 : ∀ q ∈ mC_103_3, decode (iBy 103) q.1 = .ok q.2 ∧ iLen q.2.1 q.2.2 = true := by decide +kernel
theorem dm_104_0 : ∀ q ∈ mC_104_0, decode (iBy 104) q.1 = .ok q.2 ∧ iLen q.2.1 q.2.2 = true := by decide +kernel
theorem dm_104_1 : ∀ q ∈ mC_104_1, decode (iBy 104) q.1 = .ok q.2 ∧ iLen q.2.1 q.2.2 = true := by decide +kernel
theorem dm_105_0 : ∀ q ∈ mC_105_0, decode (iBy 105) q.1 = .ok q.2 ∧ iLen q.2.1 q.2.2 = true := by decide +kernel
theorem dm_105_1 : ∀ q ∈ mC_105_1, decode (iBy 105) q.1 = .ok q.2 ∧ iLen q.2.1 q.2.2 = true := by decide +kernel
theorem dm_106_0 : ∀ q ∈ mC_106_0, decode (iBy 106) q.1 = .ok q.2 ∧ iLen q.2.1 q.2.2 = true := by decide +kernel
theorem dm_107_0 : ∀ q ∈ mC_107_0, decode (iBy 107) q.1 = .ok q.2 ∧ iLen q.2.1 q.2.2 = true := by decide +kernel
theorem dm_108_0 : ∀ q ∈ mC_108_0, decode (iBy 108) q.1 = .ok q.2 ∧ iLen q.2.1 q.2.2 = true := by decide +kernel
theorem dm_108_1 : ∀ q ∈ mC_108_1, decode (iBy 108) q.1 = .ok q.2 ∧ iLen q.2.1 q.2.2 = true := by decide +kernel
theorem dm_108_2 : ∀ q ∈ mC_108_2, decode (iBy 108) q.1 = .ok q.2 ∧ iLen q.2.1 q.2.2 = true := by decide +kernel
theorem dm_108_3 : ∀ q ∈ mC_108_3, decode (iBy 108) q.1 = .ok q.2 ∧ iLen q.2.1 q.2.2 = true := by decide +kernel
theorem dm_108_4 : ∀ q ∈ mC_108_4, decode (iBy 108) q.1 = .ok q.2 ∧ iLen q.2.1 q.2.2 = true := by decide +kernel
theorem dm_108_5 : ∀ q ∈ mC_108_5, decode (iBy 108) q.1 = .ok q.2 ∧ iLen q.2.1 q.2.2 = true := by decide +kernel
theorem dm_108_6 : ∀ q ∈ mC_108_6, decode (iBy 108) q.1 = .ok q.2 ∧ iLen q.2.1 q.2.2 = true := by decide +kernel
theorem dm_109_0 : ∀ q ∈ mC_109_0, decode (iBy 109) q.1 = .ok q.2 ∧ iLen q.2.1 q.2.2 = true := by decide +kernel
theorem dm_110_0 : ∀ q ∈ mC_110_0, decode (iBy 110) q.1 = .ok q.2 ∧ iLen q.2.1 q.2.2 = true := by decide +kernel
theorem dm_111_0 : ∀ q ∈ mC_111_0, decode (iBy 111) q.1 = .ok q.2 ∧ iLen q.2.1 q.2.2 = true := by decide +kernel
theorem dm_111_1 : ∀ q ∈ mC_111_1, decode (iBy 111) q.1 = .ok q.2 ∧ iLen q.2.1 q.2.2 = true := by decide +kernel
theorem dm_112_0 : ∀ q ∈ mC_112_0, decode (iBy 112) q.1 = .ok q.2 ∧ iLen q.2.1 q.2.2 = true := by decide +kernel
theorem dm_113_0 : ∀ q ∈ mC_113_0, decode (iBy 113) q.1 = .ok q.2 ∧ iLen q.2.1 q.2.2 = true := by decide +kernel
theorem dm_114_0 : ∀ q ∈ mC_114_0, decode (iBy 114) q.1 = .ok q.2 ∧ iLen q.2.1 q.2.2 = true := by decide +kernel
theorem dm_115_0 : ∀ q ∈ mC_115_0, decode (iBy 115) q.1 = .ok q.2 ∧ iLen q.2.1 q.2.2 = true := by decide +kernel
theorem dm_116_0 : ∀ q ∈ mC_116_0, decode (iBy 116) q.1 = .ok q.2 ∧ iLen q.2.1 q.2.2 = true := by decide +kernel
theorem dm_116_1 : ∀ q ∈ mC_116_1, decode (iBy 116) q.1 = .ok q.2 ∧ iLen q.2.1 q.2.2 = true := by decide +kernel
theorem dm_116_2 : ∀ q ∈ mC_116_2, decode (iBy 116) q.1 = .ok q.2 ∧ iLen q.2.1 q.2.2 = true := by decide +kernel
theorem dm_117_0 : ∀ q ∈ mC_117_0, decode (iBy 117) q.1 = .ok q.2 ∧ iLen q.2.1 q.2.2 = true := by decide +kernel
theorem dm_117_1 : ∀ q ∈ mC_117_1, decode (iBy 117) q.1 = .ok q.2 ∧ iLen q.2.1 q.2.2 = true := by decide +kernel
theorem dm_117_2 : ∀ q ∈ mC_117_2, decode (iBy 117) q.1 = .ok q.2 ∧ iLen q.2.1 q.2.2 = true := by decide +kernel
theorem dm_118_0 : ∀ q ∈ mC_118_0, decode (iBy 118) q.1 = .ok q.2 ∧ iLen q.2.1 q.2.2 = true := by decide +kernel
theorem dm_119_0 : ∀ q ∈ mC_119_0, decode (iBy 119) q.1 = .ok q.2 ∧ iLen q.2.1 q.2.2 = true := by decide +kernel
theorem dm_120_0 : ∀ q ∈ mC_120_0, decode (iBy 120) q.1 = .ok q.2 ∧ iLen q.2.1 q.2.2 = true := by decide +kernel
theorem dm_121_0 : ∀ q ∈ mC_121_0, decode (iBy 121) q.1 = .ok q.2 ∧ iLen q.2.1 q.2.2 = true := by decide +kernel
theorem dm_122_0 : ∀ q ∈ mC_122_0, decode (iBy 122) q.1 = .ok q.2 ∧ iLen q.2.1 q.2.2 = true := by decide +kernel
theorem dm_123_0 : ∀ q ∈ mC_123_0, decode (iBy 123) q.1 = .ok q.2 ∧ iLen q.2.1 q.2.2 = true := by decide +kernel
theorem dm_124_0 : ∀ q ∈ mC_124_0, decode (iBy 124) q.1 = .ok q.2 ∧ iLen q.2.1 q.2.2 = true := by decide +kernel
theorem dm_125_0 : ∀ q ∈ mC_125_0, decode (iBy 125) q.1 = .ok q.2 ∧ iLen q.2.1 q.2.2 = true := by decide +kernel
theorem dm_126_0 : ∀ q ∈ mC_126_0, decode (iBy 126) q.1 = .ok q.2 ∧ iLen q.2.1 q.2.2 = true := by decide +kernel
theorem dm_127_0 : ∀ q ∈ mC_127_0, decode (iBy 127) q.1 = .ok q.2 ∧ iLen q.2.1 q.2.2 = true := by decide +kernel
theorem dm_128_0 : ∀ q ∈ mC_128_0, decode (iBy 128) q.1 = .ok q.2 ∧ iLen q.2.1 q.2.2 = true := by decide +kernel
theorem dm_129_0 : ∀ q ∈ mC_129_0, decode (iBy 129) q.1 = .ok q.2 ∧ iLen q.2.1 q.2.2 = true := by decide +kernel
theorem dm_130_0 : ∀ q ∈ mC_130_0, decode (iBy 130) q.1 = .ok q.2 ∧ iLen q.2.1 q.2.2 = true := by decide +kernel
theorem dm_131_0 : ∀ q ∈ mC_131_0, decode (iBy 131) q.1 = .ok q.2 ∧ iLen q.2.1 q.2.2 = true := by decide +kernel
theorem dm_132_0 : ∀ q ∈ mC_132_0, decode (iBy 132) q.1 = .ok q.2 ∧ iLen q.2.1 q.2.2 = true := by decide +kernel
theorem dm_133_0 : ∀ q ∈ mC_133_0, decode (iBy 133) q.1 = .ok q.2 ∧ iLen q.2.1 q.2.2 = true := by decide +kernel
theorem dm_134_0 : ∀ q ∈ mC_134_0, decode (iBy 134) q.1 = .ok q.2 ∧ iLen q.2.1 q.2.2 = true := by decide +kernel
theorem dm_135_0 : ∀ q ∈ mC_135_0, decode (iBy 135) q.1 = .ok q.2 ∧ iLen q.2.1 q.2.2 = true := by decide +kernel
theorem dm_136_0 : ∀ q ∈ mC_136_0, decode (iBy 136) q.1 = .ok q.2 ∧ iLen q.2.1 q.2.2 = true := by decide +kernel
theorem dm_137_0 : ∀ q ∈ mC_137_0, decode (iBy 137) q.1 = .ok q.2 ∧ iLen q.2.1 q.2.2 = true := by decide +kernel
theorem dm_137_2 : ∀ q ∈ mC_137_2, decode (iBy 137) q.1 = .ok q.2 ∧ iLen q.2.1 q.2.2 = true := by decide +kernel
theorem dm_137_3 : ∀ q ∈ mC_137_3, decode (iBy 137) q.1 = .ok q.2 ∧ iLen q.2.1 q.2.2 = true := by decide +kernel
theorem dm_137_4 : ∀ q ∈ mC_137_4, decode (iBy 137) q.1 = .ok q.2 ∧ iLen q.2.1 q.2.2 = true := by decide +kernel
theorem dm_137_5 : ∀ q ∈ mC_137_5, decode (iBy 137) q.1 = .ok q.2 ∧ iLen q.2.1 q.2.2 = true := by decide +kernel
theorem dm_137_6 : ∀ q ∈ mC_137_6, decode (iBy 137) q.1 = .ok q.2 ∧ iLen q.2.1 q.2.2 = true := by decide +kernel
theorem dm_137_7 : ∀ q ∈ mC_137_7, decode (iBy 137) q.1 = .ok q.2 ∧ iLen q.2.1 q.2.2 = true := by decide +kernel
theorem dm_137_8 : ∀ q ∈ mC_137_8, decode (iBy 137) q.1 = .ok q.2 ∧ iLen q.2.1 q.2.2 = true := by decide +kernel
theorem dm_137_9 : ∀ q ∈ mC_137_9, decode (iBy 137) q.1 = .ok q.2 ∧ iLen q.2.1 q.2.2 = true := by decide +kernel
theorem dm_137_10 : ∀ q ∈ mC_137_10, decode (iBy 137) q.1 = .ok q.2 ∧ iLen q.2.1 q.2.2 = true := by decide +kernel
theorem dm_137_11 : ∀ q ∈ mC_137_11, decode (iBy 137) q.1 = .ok q.2 ∧ iLen q.2.1 q.2.2 = true := by decide +kernel
theorem dm_137_12 : ∀ q ∈ mC_137_12, decode (iBy 137) q.1 = .ok q.2 ∧ iLen q.2.1 q.2.2 = true := by decide +kernel
theorem dm_137_13 : ∀ q ∈ mC_137_13, decode (iBy 137) q.1 = .ok q.2 ∧ iLen q.2.1 q.2.2 = true := by decide +kernel
theorem dm_137_14 : ∀ q ∈ mC_137_14, decode (iBy 137) q.1 = .ok q.2 ∧ iLen q.2.1 q.2.2 = true := by decide +kernel
theorem dm_137_15 : ∀ q ∈ mC_137_15, decode (iBy 137) q.1 = .ok q.2 ∧ iLen q.2.1 q.2.2 = true := by decide +kernel
theorem dm_137_16 : ∀ q ∈ mC_137_16, decode (iBy 137) q.1 = .ok q.2 ∧ iLen q.2.1 q.2.2 = true := by decide +kernel
theorem dm_137_17 : ∀ q ∈ mC_137_17, decode (iBy 137) q.1 = .ok q.2 ∧ iLen q.2.1 q.2.2 = true := by decide +kernel
theorem dm_137_18 : ∀ q ∈ mC_137_18, decode (iBy 137) q.1 = .ok q.2 ∧ iLen q.2.1 q.2.2 = true := by decide +kernel
theorem dm_137_19 : ∀ q ∈ mC_137_19, decode (iBy 137) q.1 = .ok q.2 ∧ iLen q.2.1 q.2.2 = true := by decide +kernel
theorem dm_137_20 : ∀ q ∈ mC_137_20, decode (iBy 137) q.1 = .ok q.2 ∧ iLen q.2.1 q.2.2 = true := by decide +kernel
theorem dm_137_21 : ∀ q ∈ mC_137_21, decode (iBy 137) q.1 = .ok q.2 ∧ iLen q.2.1 q.2.2 = true := by decide +kernel
theorem dm_137_22 : ∀ q ∈ mC_137_22, decode (iBy 137) q.1 = .ok q.2 ∧ iLen q.2.1 q.2.2 = true := by decide +kernel
theorem dm_137_23 : ∀ q ∈ mC_137_23, decode (iBy 137) q.1 = .ok q.2 ∧ iLen q.2.1 q.2.2 = true := by decide +kernel
theorem dm_138_0 : ∀ q ∈ mC_138_0, decode (iBy 138) q.1 = .ok q.2 ∧ iLen q.2.1 q.2.2 = true := by decide +kernel
theorem dm_139_0 : ∀ q ∈ mC_139_0, decode (iBy 139) q.1 = .ok q.2 ∧ iLen q.2.1 q.2.2 = true := by decide +kernel
end
section
/-! words of fields, calls and makings: printed by gen4.py -/
set_option maxRecDepth 20000 in
theorem fo_0_11 : iFO 0 11 1 0 2 := ⟨Or.inl (List.mem_of_getElem? (i := 158) (by decide +kernel)), by decide, by decide, by decide⟩
set_option maxRecDepth 20000 in
theorem fo_0_18 : iFO 0 18 1 4 2 := ⟨Or.inl (List.mem_of_getElem? (i := 162) (by decide +kernel)), by decide, by decide, by decide⟩
set_option maxRecDepth 20000 in
theorem fo_0_25 : iFO 0 25 1 5 2 := ⟨Or.inl (List.mem_of_getElem? (i := 163) (by decide +kernel)), by decide, by decide, by decide⟩
set_option maxRecDepth 20000 in
theorem fo_0_32 : iFO 0 32 1 6 2 := ⟨Or.inl (List.mem_of_getElem? (i := 164) (by decide +kernel)), by decide, by decide, by decide⟩
set_option maxRecDepth 20000 in
theorem fo_0_38 : iFO 0 38 1 8 2 := ⟨Or.inl (List.mem_of_getElem? (i := 166) (by decide +kernel)), by decide, by decide, by decide⟩
set_option maxRecDepth 20000 in
theorem fo_0_49 : iFO 0 49 1 1 0 := ⟨Or.inl (List.mem_of_getElem? (i := 159) (by decide +kernel)), by decide, by decide, by decide⟩
set_option maxRecDepth 20000 in
theorem fo_0_67 : iFO 0 67 2 0 2 := ⟨Or.inr (List.mem_of_getElem? (i := 298) (by decide +kernel)), by decide, by decide, by decide⟩
set_option maxRecDepth 20000 in
theorem fo_0_75 : iFO 0 75 1 2 2 := ⟨Or.inl (List.mem_of_getElem? (i := 160) (by decide +kernel)), by decide, by decide, by decide⟩
set_option maxRecDepth 20000 in
theorem fo_0_79 : iFO 0 79 1 3 2 := ⟨Or.inl (List.mem_of_getElem? (i := 161) (by decide +kernel)), by decide, by decide, by decide⟩
set_option maxRecDepth 20000 in
theorem fo_0_134 : iFO 0 134 7 1 0 := ⟨Or.inr (List.mem_of_getElem? (i := 98) (by decide +kernel)), by decide, by decide, by decide⟩
set_option maxRecDepth 20000 in
theorem fo_0_151 : iFO 0 151 7 2 0 := ⟨Or.inr (List.mem_of_getElem? (i := 100) (by decide +kernel)), by decide, by decide, by decide⟩
set_option maxRecDepth 20000 in
theorem fo_0_154 : iFO 0 154 1 7 0 := ⟨Or.inl (List.mem_of_getElem? (i := 165) (by decide +kernel)), by decide, by decide, by decide⟩
set_option maxRecDepth 20000 in
theorem fo_0_157 : iFO 0 157 8 2 0 := ⟨Or.inr (List.mem_of_getElem? (i := 118) (by decide +kernel)), by decide, by decide, by decide⟩
set_option maxRecDepth 20000 in
theorem fo_0_166 : iFO 0 166 8 4 0 := ⟨Or.inr (List.mem_of_getElem? (i := 121) (by decide +kernel)), by decide, by decide, by decide⟩
set_option maxRecDepth 20000 in
theorem fo_0_177 : iFO 0 177 8 9 0 := ⟨Or.inr (List.mem_of_getElem? (i := 130) (by decide +kernel)), by decide, by decide, by decide⟩
set_option maxRecDepth 20000 in
theorem fo_0_178 : iFO 0 178 8 8 0 := ⟨Or.inr (List.mem_of_getElem? (i := 128) (by decide +kernel)), by decide, by decide, by decide⟩
set_option maxRecDepth 20000 in
theorem fo_0_181 : iFO 0 181 8 6 2 := ⟨Or.inr (List.mem_of_getElem? (i := 124) (by decide +kernel)), by decide, by decide, by decide⟩
set_option maxRecDepth 20000 in
theorem fo_0_184 : iFO 0 184 8 7 2 := ⟨Or.inr (List.mem_of_getElem? (i := 126) (by decide +kernel)), by decide, by decide, by decide⟩
set_option maxRecDepth 20000 in
theorem fo_0_189 : iFO 0 189 1 9 0 := ⟨Or.inl (List.mem_of_getElem? (i := 167) (by decide +kernel)), by decide, by decide, by decide⟩
set_option maxRecDepth 20000 in
theorem fo_0_199 : iFO 0 199 9 0 2 := ⟨Or.inr (List.mem_of_getElem? (i := 671) (by decide +kernel)), by decide, by decide, by decide⟩
set_option maxRecDepth 20000 in
theorem fo_0_202 : iFO 0 202 9 1 0 := ⟨Or.inr (List.mem_of_getElem? (i := 673) (by decide +kernel)), by decide, by decide, by decide⟩
set_option maxRecDepth 20000 in
theorem fo_0_229 : iFO 0 229 5 1 0 := ⟨Or.inr (List.mem_of_getElem? (i := 75) (by decide +kernel)), by decide, by decide, by decide⟩
set_option maxRecDepth 20000 in
theorem fo_1_9 : iFO 1 9 2 0 2 := ⟨Or.inl (List.mem_of_getElem? (i := 297) (by decide +kernel)), by decide, by decide, by decide⟩
set_option maxRecDepth 20000 in
theorem fo_2_9 : iFO 2 9 3 0 2 := ⟨Or.inl (List.mem_of_getElem? (i := 381) (by decide +kernel)), by decide, by decide, by decide⟩
set_option maxRecDepth 20000 in
theorem fo_2_15 : iFO 2 15 3 1 2 := ⟨Or.inl (List.mem_of_getElem? (i := 382) (by decide +kernel)), by decide, by decide, by decide⟩
set_option maxRecDepth 20000 in
theorem fo_3_9 : iFO 3 9 4 0 0 := ⟨Or.inl (List.mem_of_getElem? (i := 395) (by decide +kernel)), by decide, by decide, by decide⟩
set_option maxRecDepth 20000 in
theorem fo_3_15 : iFO 3 15 4 1 2 := ⟨Or.inl (List.mem_of_getElem? (i := 396) (by decide +kernel)), by decide, by decide, by decide⟩
set_option maxRecDepth 20000 in
theorem fo_3_19 : iFO 3 19 4 2 0 := ⟨Or.inl (List.mem_of_getElem? (i := 397) (by decide +kernel)), by decide, by decide, by decide⟩
set_option maxRecDepth 20000 in
theorem fo_3_22 : iFO 3 22 4 3 2 := ⟨Or.inl (List.mem_of_getElem? (i := 399) (by decide +kernel)), by decide, by decide, by decide⟩
set_option maxRecDepth 20000 in
theorem fo_3_25 : iFO 3 25 4 4 2 := ⟨Or.inl (List.mem_of_getElem? (i := 401) (by decide +kernel)), by decide, by decide, by decide⟩
set_option maxRecDepth 20000 in
theorem fo_3_33 : iFO 3 33 4 5 0 := ⟨Or.inl (List.mem_of_getElem? (i := 402) (by decide +kernel)), by decide, by decide, by decide⟩
set_option maxRecDepth 20000 in
theorem fo_3_41 : iFO 3 41 4 6 0 := ⟨Or.inl (List.mem_of_getElem? (i := 404) (by decide +kernel)), by decide, by decide, by decide⟩
set_option maxRecDepth 20000 in
theorem fo_3_47 : iFO 3 47 4 7 0 := ⟨Or.inl (List.mem_of_getElem? (i := 405) (by decide +kernel)), by decide, by decide, by decide⟩
set_option maxRecDepth 20000 in
theorem fo_3_50 : iFO 3 50 4 8 0 := ⟨Or.inl (List.mem_of_getElem? (i := 406) (by decide +kernel)), by decide, by decide, by decide⟩
set_option maxRecDepth 20000 in
theorem fo_3_53 : iFO 3 53 4 9 1 := ⟨Or.inl (List.mem_of_getElem? (i := 407) (by decide +kernel)), by decide, by decide, by decide⟩
set_option maxRecDepth 20000 in
theorem fo_4_11 : iFO 4 11 5 0 2 := ⟨Or.inl (List.mem_of_getElem? (i := 73) (by decide +kernel)), by decide, by decide, by decide⟩
set_option maxRecDepth 20000 in
theorem fo_4_17 : iFO 4 17 5 2 2 := ⟨Or.inl (List.mem_of_getElem? (i := 76) (by decide +kernel)), by decide, by decide, by decide⟩
set_option maxRecDepth 20000 in
theorem fo_4_21 : iFO 4 21 5 3 2 := ⟨Or.inl (List.mem_of_getElem? (i := 77) (by decide +kernel)), by decide, by decide, by decide⟩
set_option maxRecDepth 20000 in
theorem fo_4_24 : iFO 4 24 5 1 0 := ⟨Or.inl (List.mem_of_getElem? (i := 74) (by decide +kernel)), by decide, by decide, by decide⟩
set_option maxRecDepth 20000 in
theorem fo_4_62 : iFO 4 62 4 5 0 := ⟨Or.inr (List.mem_of_getElem? (i := 403) (by decide +kernel)), by decide, by decide, by decide⟩
set_option maxRecDepth 20000 in
theorem fo_4_73 : iFO 4 73 4 3 2 := ⟨Or.inr (List.mem_of_getElem? (i := 400) (by decide +kernel)), by decide, by decide, by decide⟩
set_option maxRecDepth 20000 in
theorem fo_4_77 : iFO 4 77 4 2 0 := ⟨Or.inr (List.mem_of_getElem? (i := 398) (by decide +kernel)), by decide, by decide, by decide⟩
set_option maxRecDepth 20000 in
theorem fo_4_80 : iFO 4 80 2 0 2 := ⟨Or.inr (List.mem_of_getElem? (i := 300) (by decide +kernel)), by decide, by decide, by decide⟩
set_option maxRecDepth 20000 in
theorem fo_5_9 : iFO 5 9 6 0 2 := ⟨Or.inl (List.mem_of_getElem? (i := 552) (by decide +kernel)), by decide, by decide, by decide⟩
set_option maxRecDepth 20000 in
theorem fo_5_15 : iFO 5 15 6 1 2 := ⟨Or.inl (List.mem_of_getElem? (i := 554) (by decide +kernel)), by decide, by decide, by decide⟩
set_option maxRecDepth 20000 in
theorem fo_6_11 : iFO 6 11 7 0 2 := ⟨Or.inl (List.mem_of_getElem? (i := 96) (by decide +kernel)), by decide, by decide, by decide⟩
set_option maxRecDepth 20000 in
theorem fo_6_17 : iFO 6 17 7 1 0 := ⟨Or.inl (List.mem_of_getElem? (i := 97) (by decide +kernel)), by decide, by decide, by decide⟩
set_option maxRecDepth 20000 in
theorem fo_6_21 : iFO 6 21 7 2 0 := ⟨Or.inl (List.mem_of_getElem? (i := 99) (by decide +kernel)), by decide, by decide, by decide⟩
set_option maxRecDepth 20000 in
theorem fo_6_37 : iFO 6 37 2 0 2 := ⟨Or.inr (List.mem_of_getElem? (i := 299) (by decide +kernel)), by decide, by decide, by decide⟩
set_option maxRecDepth 20000 in
theorem fo_6_41 : iFO 6 41 6 0 2 := ⟨Or.inr (List.mem_of_getElem? (i := 553) (by decide +kernel)), by decide, by decide, by decide⟩
set_option maxRecDepth 20000 in
theorem fo_7_11 : iFO 7 11 8 0 2 := ⟨Or.inl (List.mem_of_getElem? (i := 115) (by decide +kernel)), by decide, by decide, by decide⟩
set_option maxRecDepth 20000 in
theorem fo_7_17 : iFO 7 17 8 1 2 := ⟨Or.inl (List.mem_of_getElem? (i := 116) (by decide +kernel)), by decide, by decide, by decide⟩
set_option maxRecDepth 20000 in
theorem fo_7_21 : iFO 7 21 8 3 2 := ⟨Or.inl (List.mem_of_getElem? (i := 119) (by decide +kernel)), by decide, by decide, by decide⟩
set_option maxRecDepth 20000 in
theorem fo_7_24 : iFO 7 24 8 5 2 := ⟨Or.inl (List.mem_of_getElem? (i := 122) (by decide +kernel)), by decide, by decide, by decide⟩
set_option maxRecDepth 20000 in
theorem fo_7_28 : iFO 7 28 8 6 2 := ⟨Or.inl (List.mem_of_getElem? (i := 123) (by decide +kernel)), by decide, by decide, by decide⟩
set_option maxRecDepth 20000 in
theorem fo_7_31 : iFO 7 31 8 7 2 := ⟨Or.inl (List.mem_of_getElem? (i := 125) (by decide +kernel)), by decide, by decide, by decide⟩
set_option maxRecDepth 20000 in
theorem fo_7_34 : iFO 7 34 8 10 2 := ⟨Or.inl (List.mem_of_getElem? (i := 131) (by decide +kernel)), by decide, by decide, by decide⟩
set_option maxRecDepth 20000 in
theorem fo_7_37 : iFO 7 37 8 2 0 := ⟨Or.inl (List.mem_of_getElem? (i := 117) (by decide +kernel)), by decide, by decide, by decide⟩
set_option maxRecDepth 20000 in
theorem fo_7_41 : iFO 7 41 8 4 0 := ⟨Or.inl (List.mem_of_getElem? (i := 120) (by decide +kernel)), by decide, by decide, by decide⟩
set_option maxRecDepth 20000 in
theorem fo_7_44 : iFO 7 44 8 8 0 := ⟨Or.inl (List.mem_of_getElem? (i := 127) (by decide +kernel)), by decide, by decide, by decide⟩
set_option maxRecDepth 20000 in
theorem fo_7_47 : iFO 7 47 8 9 0 := ⟨Or.inl (List.mem_of_getElem? (i := 129) (by decide +kernel)), by decide, by decide, by decide⟩
set_option maxRecDepth 20000 in
theorem fo_8_7 : iFO 8 7 9 1 0 := ⟨Or.inl (List.mem_of_getElem? (i := 672) (by decide +kernel)), by decide, by decide, by decide⟩
set_option maxRecDepth 20000 in
theorem fo_8_13 : iFO 8 13 9 0 2 := ⟨Or.inl (List.mem_of_getElem? (i := 670) (by decide +kernel)), by decide, by decide, by decide⟩
set_option maxRecDepth 20000 in
theorem fo_9_7 : iFO 9 7 10 1 2 := ⟨Or.inl (List.mem_of_getElem? (i := 739) (by decide +kernel)), by decide, by decide, by decide⟩
set_option maxRecDepth 20000 in
theorem fo_9_13 : iFO 9 13 10 2 2 := ⟨Or.inl (List.mem_of_getElem? (i := 740) (by decide +kernel)), by decide, by decide, by decide⟩
set_option maxRecDepth 20000 in
theorem fo_9_16 : iFO 9 16 10 3 2 := ⟨Or.inl (List.mem_of_getElem? (i := 741) (by decide +kernel)), by decide, by decide, by decide⟩
set_option maxRecDepth 20000 in
theorem fo_9_19 : iFO 9 19 10 5 0 := ⟨Or.inl (List.mem_of_getElem? (i := 743) (by decide +kernel)), by decide, by decide, by decide⟩
set_option maxRecDepth 20000 in
theorem fo_9_23 : iFO 9 23 10 6 0 := ⟨Or.inl (List.mem_of_getElem? (i := 744) (by decide +kernel)), by decide, by decide, by decide⟩
set_option maxRecDepth 20000 in
theorem fo_9_26 : iFO 9 26 10 7 2 := ⟨Or.inl (List.mem_of_getElem? (i := 745) (by decide +kernel)), by decide, by decide, by decide⟩
set_option maxRecDepth 20000 in
theorem fo_9_29 : iFO 9 29 10 8 2 := ⟨Or.inl (List.mem_of_getElem? (i := 746) (by decide +kernel)), by decide, by decide, by decide⟩
set_option maxRecDepth 20000 in
theorem fo_9_32 : iFO 9 32 10 9 2 := ⟨Or.inl (List.mem_of_getElem? (i := 747) (by decide +kernel)), by decide, by decide, by decide⟩
set_option maxRecDepth 20000 in
theorem fo_9_35 : iFO 9 35 10 10 2 := ⟨Or.inl (List.mem_of_getElem? (i := 748) (by decide +kernel)), by decide, by decide, by decide⟩
set_option maxRecDepth 20000 in
theorem fo_9_38 : iFO 9 38 10 11 2 := ⟨Or.inl (List.mem_of_getElem? (i := 749) (by decide +kernel)), by decide, by decide, by decide⟩
set_option maxRecDepth 20000 in
theorem fo_9_41 : iFO 9 41 10 12 2 := ⟨Or.inl (List.mem_of_getElem? (i := 750) (by decide +kernel)), by decide, by decide, by decide⟩
set_option maxRecDepth 20000 in
theorem fo_9_44 : iFO 9 44 10 13 2 := ⟨Or.inl (List.mem_of_getElem? (i := 751) (by decide +kernel)), by decide, by decide, by decide⟩
set_option maxRecDepth 20000 in
theorem fo_9_47 : iFO 9 47 10 14 2 := ⟨Or.inl (List.mem_of_getElem? (i := 752) (by decide +kernel)), by decide, by decide, by decide⟩
set_option maxRecDepth 20000 in
theorem fo_9_50 : iFO 9 50 10 15 2 := ⟨Or.inl (List.mem_of_getElem? (i := 753) (by decide +kernel)), by decide, by decide, by decide⟩
set_option maxRecDepth 20000 in
theorem fo_9_54 : iFO 9 54 10 17 2 := ⟨Or.inl (List.mem_of_getElem? (i := 755) (by decide +kernel)), by decide, by decide, by decide⟩
set_option maxRecDepth 20000 in
theorem fo_9_57 : iFO 9 57 10 18 2 := ⟨Or.inl (List.mem_of_getElem? (i := 756) (by decide +kernel)), by decide, by decide, by decide⟩
set_option maxRecDepth 20000 in
theorem fo_9_60 : iFO 9 60 10 19 2 := ⟨Or.inl (List.mem_of_getElem? (i := 757) (by decide +kernel)), by decide, by decide, by decide⟩
set_option maxRecDepth 20000 in
theorem fo_9_63 : iFO 9 63 10 21 2 := ⟨Or.inl (List.mem_of_getElem? (i := 759) (by decide +kernel)), by decide, by decide, by decide⟩
set_option maxRecDepth 20000 in
theorem fo_9_66 : iFO 9 66 10 22 2 := ⟨Or.inl (List.mem_of_getElem? (i := 760) (by decide +kernel)), by decide, by decide, by decide⟩
set_option maxRecDepth 20000 in
theorem fo_9_69 : iFO 9 69 10 23 2 := ⟨Or.inl (List.mem_of_getElem? (i := 761) (by decide +kernel)), by decide, by decide, by decide⟩
set_option maxRecDepth 20000 in
theorem fo_9_72 : iFO 9 72 10 24 2 := ⟨Or.inl (List.mem_of_getElem? (i := 762) (by decide +kernel)), by decide, by decide, by decide⟩
set_option maxRecDepth 20000 in
theorem fo_9_75 : iFO 9 75 10 25 2 := ⟨Or.inl (List.mem_of_getElem? (i := 763) (by decide +kernel)), by decide, by decide, by decide⟩
set_option maxRecDepth 20000 in
theorem fo_9_78 : iFO 9 78 10 29 2 := ⟨Or.inl (List.mem_of_getElem? (i := 767) (by decide +kernel)), by decide, by decide, by decide⟩
set_option maxRecDepth 20000 in
theorem fo_9_81 : iFO 9 81 10 30 2 := ⟨Or.inl (List.mem_of_getElem? (i := 768) (by decide +kernel)), by decide, by decide, by decide⟩
set_option maxRecDepth 20000 in
theorem fo_9_84 : iFO 9 84 10 31 2 := ⟨Or.inl (List.mem_of_getElem? (i := 769) (by decide +kernel)), by decide, by decide, by decide⟩
set_option maxRecDepth 20000 in
theorem fo_9_87 : iFO 9 87 10 0 0 := ⟨Or.inl (List.mem_of_getElem? (i := 738) (by decide +kernel)), by decide, by decide, by decide⟩
set_option maxRecDepth 20000 in
theorem fo_9_90 : iFO 9 90 10 4 0 := ⟨Or.inl (List.mem_of_getElem? (i := 742) (by decide +kernel)), by decide, by decide, by decide⟩
set_option maxRecDepth 20000 in
theorem fo_9_112 : iFO 9 112 10 16 0 := ⟨Or.inl (List.mem_of_getElem? (i := 754) (by decide +kernel)), by decide, by decide, by decide⟩
set_option maxRecDepth 20000 in
theorem fo_9_145 : iFO 9 145 10 20 0 := ⟨Or.inl (List.mem_of_getElem? (i := 758) (by decide +kernel)), by decide, by decide, by decide⟩
set_option maxRecDepth 20000 in
theorem fo_9_148 : iFO 9 148 10 28 0 := ⟨Or.inl (List.mem_of_getElem? (i := 766) (by decide +kernel)), by decide, by decide, by decide⟩
set_option maxRecDepth 20000 in
theorem fo_9_151 : iFO 9 151 10 26 0 := ⟨Or.inl (List.mem_of_getElem? (i := 764) (by decide +kernel)), by decide, by decide, by decide⟩
set_option maxRecDepth 20000 in
theorem fo_9_154 : iFO 9 154 10 27 0 := ⟨Or.inl (List.mem_of_getElem? (i := 765) (by decide +kernel)), by decide, by decide, by decide⟩
set_option maxRecDepth 20000 in
theorem fo_9_164 : iFO 9 164 10 32 0 := ⟨Or.inl (List.mem_of_getElem? (i := 770) (by decide +kernel)), by decide, by decide, by decide⟩
set_option maxRecDepth 20000 in
theorem mo_0_1 : Cond.methodLink "TextVerbs" 1 objectInit ∈ lw_tbl := List.mem_of_getElem? (i := 60) (by decide +kernel)
set_option maxRecDepth 20000 in
theorem mo_0_17 : iMO 0 17 48 1 5 := ⟨Or.inr (List.mem_of_getElem? (i := 67) (by decide +kernel)), Or.inr ⟨by decide, List.mem_of_getElem? (i := 68) (by decide +kernel), Or.inl rfl⟩, List.mem_of_getElem? (i := 39) (by decide +kernel), by decide +kernel, by decide +kernel⟩
set_option maxRecDepth 20000 in
theorem mo_0_24 : iMO 0 24 58 1 7 := ⟨Or.inr (List.mem_of_getElem? (i := 90) (by decide +kernel)), Or.inr ⟨by decide, List.mem_of_getElem? (i := 91) (by decide +kernel), Or.inl rfl⟩, List.mem_of_getElem? (i := 40) (by decide +kernel), by decide +kernel, by decide +kernel⟩
set_option maxRecDepth 20000 in
theorem mo_0_31 : iMO 0 31 62 1 8 := ⟨Or.inr (List.mem_of_getElem? (i := 110) (by decide +kernel)), Or.inr ⟨by decide, List.mem_of_getElem? (i := 111) (by decide +kernel), Or.inl rfl⟩, List.mem_of_getElem? (i := 41) (by decide +kernel), by decide +kernel, by decide +kernel⟩
set_option maxRecDepth 20000 in
theorem mo_0_58 : iMO 0 58 33 2 2 := ⟨Or.inl (List.mem_of_getElem? (i := 290) (by decide +kernel)), Or.inr ⟨by decide, List.mem_of_getElem? (i := 291) (by decide +kernel), Or.inl rfl⟩, List.mem_of_getElem? (i := 48) (by decide +kernel), by decide +kernel, by decide +kernel⟩
set_option maxRecDepth 20000 in
theorem mo_0_61 : iMO 0 61 24 3 1 := ⟨Or.inl (List.mem_of_getElem? (i := 311) (by decide +kernel)), Or.inr ⟨by decide, List.mem_of_getElem? (i := 313) (by decide +kernel), Or.inr (List.mem_of_getElem? (i := 1) (by decide +kernel))⟩, List.mem_of_getElem? (i := 38) (by decide +kernel), by decide +kernel, by decide +kernel⟩
set_option maxRecDepth 20000 in
theorem mo_0_71 : iMO 0 71 23 2 1 := ⟨Or.inl (List.mem_of_getElem? (i := 340) (by decide +kernel)), Or.inr ⟨by decide, List.mem_of_getElem? (i := 342) (by decide +kernel), Or.inr (List.mem_of_getElem? (i := 3) (by decide +kernel))⟩, List.mem_of_getElem? (i := 38) (by decide +kernel), by decide +kernel, by decide +kernel⟩
set_option maxRecDepth 20000 in
theorem mo_0_82 : iMO 0 82 27 2 0 := ⟨Or.inl (List.mem_of_getElem? (i := 352) (by decide +kernel)), Or.inl ⟨rfl, List.mem_of_getElem? (i := 353) (by decide +kernel)⟩, List.mem_of_getElem? (i := 38) (by decide +kernel), by decide +kernel, by decide +kernel⟩
set_option maxRecDepth 20000 in
theorem mo_0_86 : iMO 0 86 25 3 1 := ⟨Or.inl (List.mem_of_getElem? (i := 356) (by decide +kernel)), Or.inr ⟨by decide, List.mem_of_getElem? (i := 358) (by decide +kernel), Or.inr (List.mem_of_getElem? (i := 4) (by decide +kernel))⟩, List.mem_of_getElem? (i := 38) (by decide +kernel), by decide +kernel, by decide +kernel⟩
set_option maxRecDepth 20000 in
theorem mo_0_89 : iMO 0 89 28 1 0 := ⟨Or.inl (List.mem_of_getElem? (i := 360) (by decide +kernel)), Or.inl ⟨rfl, List.mem_of_getElem? (i := 361) (by decide +kernel)⟩, List.mem_of_getElem? (i := 38) (by decide +kernel), by decide +kernel, by decide +kernel⟩
set_option maxRecDepth 20000 in
theorem mo_0_92 : iMO 0 92 29 1 1 := ⟨Or.inl (List.mem_of_getElem? (i := 364) (by decide +kernel)), Or.inr ⟨by decide, List.mem_of_getElem? (i := 366) (by decide +kernel), Or.inr (List.mem_of_getElem? (i := 5) (by decide +kernel))⟩, List.mem_of_getElem? (i := 38) (by decide +kernel), by decide +kernel, by decide +kernel⟩
set_option maxRecDepth 20000 in
theorem mo_0_97 : iMO 0 97 30 1 1 := ⟨Or.inl (List.mem_of_getElem? (i := 371) (by decide +kernel)), Or.inr ⟨by decide, List.mem_of_getElem? (i := 373) (by decide +kernel), Or.inr (List.mem_of_getElem? (i := 6) (by decide +kernel))⟩, List.mem_of_getElem? (i := 38) (by decide +kernel), by decide +kernel, by decide +kernel⟩
set_option maxRecDepth 20000 in
theorem mo_0_101 : iMO 0 101 43 6 4 := ⟨Or.inl (List.mem_of_getElem? (i := 388) (by decide +kernel)), Or.inr ⟨by decide, List.mem_of_getElem? (i := 389) (by decide +kernel), Or.inl rfl⟩, List.mem_of_getElem? (i := 50) (by decide +kernel), by decide +kernel, by decide +kernel⟩
set_option maxRecDepth 20000 in
theorem mo_0_104 : iMO 0 104 49 2 5 := ⟨Or.inl (List.mem_of_getElem? (i := 429) (by decide +kernel)), Or.inr ⟨by decide, List.mem_of_getElem? (i := 430) (by decide +kernel), Or.inr (List.mem_of_getElem? (i := 431) (by decide +kernel))⟩, List.mem_of_getElem? (i := 39) (by decide +kernel), by decide +kernel, by decide +kernel⟩
set_option maxRecDepth 20000 in
theorem mo_0_108 : iMO 0 108 22 2 1 := ⟨Or.inl (List.mem_of_getElem? (i := 315) (by decide +kernel)), Or.inr ⟨by decide, List.mem_of_getElem? (i := 317) (by decide +kernel), Or.inr (List.mem_of_getElem? (i := 2) (by decide +kernel))⟩, List.mem_of_getElem? (i := 38) (by decide +kernel), by decide +kernel, by decide +kernel⟩
set_option maxRecDepth 20000 in
theorem mo_0_111 : iMO 0 111 34 1 2 := ⟨Or.inl (List.mem_of_getElem? (i := 320) (by decide +kernel)), Or.inr ⟨by decide, List.mem_of_getElem? (i := 321) (by decide +kernel), Or.inr (List.mem_of_getElem? (i := 322) (by decide +kernel))⟩, List.mem_of_getElem? (i := 48) (by decide +kernel), by decide +kernel, by decide +kernel⟩
set_option maxRecDepth 20000 in
theorem mo_0_115 : iMO 0 115 26 1 0 := ⟨Or.inl (List.mem_of_getElem? (i := 440) (by decide +kernel)), Or.inl ⟨rfl, List.mem_of_getElem? (i := 393) (by decide +kernel)⟩, List.mem_of_getElem? (i := 38) (by decide +kernel), by decide +kernel, by decide +kernel⟩
set_option maxRecDepth 20000 in
theorem mo_0_121 : iMO 0 121 51 2 5 := ⟨Or.inl (List.mem_of_getElem? (i := 449) (by decide +kernel)), Or.inr ⟨by decide, List.mem_of_getElem? (i := 450) (by decide +kernel), Or.inr (List.mem_of_getElem? (i := 451) (by decide +kernel))⟩, List.mem_of_getElem? (i := 39) (by decide +kernel), by decide +kernel, by decide +kernel⟩
set_option maxRecDepth 20000 in
theorem mo_0_126 : iMO 0 126 55 5 5 := ⟨Or.inl (List.mem_of_getElem? (i := 517) (by decide +kernel)), Or.inr ⟨by decide, List.mem_of_getElem? (i := 518) (by decide +kernel), Or.inr (List.mem_of_getElem? (i := 519) (by decide +kernel))⟩, List.mem_of_getElem? (i := 39) (by decide +kernel), by decide +kernel, by decide +kernel⟩
set_option maxRecDepth 20000 in
theorem mo_0_130 : iMO 0 130 50 2 5 := ⟨Or.inl (List.mem_of_getElem? (i := 534) (by decide +kernel)), Or.inr ⟨by decide, List.mem_of_getElem? (i := 535) (by decide +kernel), Or.inr (List.mem_of_getElem? (i := 536) (by decide +kernel))⟩, List.mem_of_getElem? (i := 39) (by decide +kernel), by decide +kernel, by decide +kernel⟩
set_option maxRecDepth 20000 in
theorem mo_0_141 : iMO 0 141 56 3 6 := ⟨Or.inl (List.mem_of_getElem? (i := 548) (by decide +kernel)), Or.inr ⟨by decide, List.mem_of_getElem? (i := 549) (by decide +kernel), Or.inl rfl⟩, List.mem_of_getElem? (i := 52) (by decide +kernel), by decide +kernel, by decide +kernel⟩
set_option maxRecDepth 20000 in
theorem mo_0_144 : iMO 0 144 59 2 7 := ⟨Or.inl (List.mem_of_getElem? (i := 560) (by decide +kernel)), Or.inr ⟨by decide, List.mem_of_getElem? (i := 561) (by decide +kernel), Or.inr (List.mem_of_getElem? (i := 562) (by decide +kernel))⟩, List.mem_of_getElem? (i := 40) (by decide +kernel), by decide +kernel, by decide +kernel⟩
set_option maxRecDepth 20000 in
theorem mo_0_147 : iMO 0 147 60 3 7 := ⟨Or.inl (List.mem_of_getElem? (i := 571) (by decide +kernel)), Or.inr ⟨by decide, List.mem_of_getElem? (i := 572) (by decide +kernel), Or.inr (List.mem_of_getElem? (i := 573) (by decide +kernel))⟩, List.mem_of_getElem? (i := 40) (by decide +kernel), by decide +kernel, by decide +kernel⟩
set_option maxRecDepth 20000 in
theorem mo_0_162 : iMO 0 162 63 3 8 := ⟨Or.inl (List.mem_of_getElem? (i := 594) (by decide +kernel)), Or.inr ⟨by decide, List.mem_of_getElem? (i := 595) (by decide +kernel), Or.inr (List.mem_of_getElem? (i := 596) (by decide +kernel))⟩, List.mem_of_getElem? (i := 41) (by decide +kernel), by decide +kernel, by decide +kernel⟩
set_option maxRecDepth 20000 in
theorem mo_0_171 : iMO 0 171 64 2 8 := ⟨Or.inl (List.mem_of_getElem? (i := 606) (by decide +kernel)), Or.inr ⟨by decide, List.mem_of_getElem? (i := 607) (by decide +kernel), Or.inr (List.mem_of_getElem? (i := 608) (by decide +kernel))⟩, List.mem_of_getElem? (i := 41) (by decide +kernel), by decide +kernel, by decide +kernel⟩
set_option maxRecDepth 20000 in
theorem mo_0_174 : iMO 0 174 65 3 8 := ⟨Or.inl (List.mem_of_getElem? (i := 617) (by decide +kernel)), Or.inr ⟨by decide, List.mem_of_getElem? (i := 618) (by decide +kernel), Or.inr (List.mem_of_getElem? (i := 619) (by decide +kernel))⟩, List.mem_of_getElem? (i := 41) (by decide +kernel), by decide +kernel, by decide +kernel⟩
set_option maxRecDepth 20000 in
theorem mo_0_194 : iMO 0 194 73 2 9 := ⟨Or.inl (List.mem_of_getElem? (i := 666) (by decide +kernel)), Or.inr ⟨by decide, List.mem_of_getElem? (i := 667) (by decide +kernel), Or.inl rfl⟩, List.mem_of_getElem? (i := 54) (by decide +kernel), by decide +kernel, by decide +kernel⟩
set_option maxRecDepth 20000 in
theorem mo_0_195 : iMO 0 195 32 3 1 := ⟨Or.inl (List.mem_of_getElem? (i := 686) (by decide +kernel)), Or.inr ⟨by decide, List.mem_of_getElem? (i := 688) (by decide +kernel), Or.inr (List.mem_of_getElem? (i := 18) (by decide +kernel))⟩, List.mem_of_getElem? (i := 38) (by decide +kernel), by decide +kernel, by decide +kernel⟩
set_option maxRecDepth 20000 in
theorem mo_0_205 : iMO 0 205 31 2 1 := ⟨Or.inl (List.mem_of_getElem? (i := 690) (by decide +kernel)), Or.inr ⟨by decide, List.mem_of_getElem? (i := 692) (by decide +kernel), Or.inr (List.mem_of_getElem? (i := 19) (by decide +kernel))⟩, List.mem_of_getElem? (i := 38) (by decide +kernel), by decide +kernel, by decide +kernel⟩
set_option maxRecDepth 20000 in
theorem mo_0_209 : iMO 0 209 75 2 9 := ⟨Or.inl (List.mem_of_getElem? (i := 710) (by decide +kernel)), Or.inr ⟨by decide, List.mem_of_getElem? (i := 711) (by decide +kernel), Or.inr (List.mem_of_getElem? (i := 712) (by decide +kernel))⟩, List.mem_of_getElem? (i := 54) (by decide +kernel), by decide +kernel, by decide +kernel⟩
set_option maxRecDepth 20000 in
theorem mo_0_212 : iMO 0 212 74 2 9 := ⟨Or.inl (List.mem_of_getElem? (i := 714) (by decide +kernel)), Or.inr ⟨by decide, List.mem_of_getElem? (i := 715) (by decide +kernel), Or.inr (List.mem_of_getElem? (i := 716) (by decide +kernel))⟩, List.mem_of_getElem? (i := 54) (by decide +kernel), by decide +kernel, by decide +kernel⟩
set_option maxRecDepth 20000 in
theorem mo_0_215 : iMO 0 215 76 2 9 := ⟨Or.inl (List.mem_of_getElem? (i := 725) (by decide +kernel)), Or.inr ⟨by decide, List.mem_of_getElem? (i := 726) (by decide +kernel), Or.inr (List.mem_of_getElem? (i := 727) (by decide +kernel))⟩, List.mem_of_getElem? (i := 54) (by decide +kernel), by decide +kernel, by decide +kernel⟩
set_option maxRecDepth 20000 in
theorem mo_0_236 : iMO 0 236 40 3 3 := ⟨Or.inl (List.mem_of_getElem? (i := 377) (by decide +kernel)), Or.inr ⟨by decide, List.mem_of_getElem? (i := 378) (by decide +kernel), Or.inl rfl⟩, List.mem_of_getElem? (i := 51) (by decide +kernel), by decide +kernel, by decide +kernel⟩
set_option maxRecDepth 20000 in
theorem mo_1_3 : Cond.methodLink "TextVerbs$Text" 3 objectInit ∈ lw_tbl := List.mem_of_getElem? (i := 293) (by decide +kernel)
set_option maxRecDepth 20000 in
theorem mo_1_15 : iMO 1 15 138 2 0 := ⟨Or.inl (List.mem_of_getElem? (i := 294) (by decide +kernel)), Or.inl ⟨rfl, List.mem_of_getElem? (i := 295) (by decide +kernel)⟩, List.mem_of_getElem? (i := 49) (by decide +kernel), by decide +kernel, by decide +kernel⟩
set_option maxRecDepth 20000 in
theorem mo_1_21 : iMO 1 21 34 1 2 := ⟨Or.inl (List.mem_of_getElem? (i := 477) (by decide +kernel)), Or.inr ⟨by decide, List.mem_of_getElem? (i := 321) (by decide +kernel), Or.inr (List.mem_of_getElem? (i := 322) (by decide +kernel))⟩, List.mem_of_getElem? (i := 48) (by decide +kernel), by decide +kernel, by decide +kernel⟩
set_option maxRecDepth 20000 in
theorem mo_1_25 : iMO 1 25 35 3 2 := ⟨Or.inl (List.mem_of_getElem? (i := 473) (by decide +kernel)), Or.inr ⟨by decide, List.mem_of_getElem? (i := 474) (by decide +kernel), Or.inr (List.mem_of_getElem? (i := 475) (by decide +kernel))⟩, List.mem_of_getElem? (i := 48) (by decide +kernel), by decide +kernel, by decide +kernel⟩
set_option maxRecDepth 20000 in
theorem mo_2_3 : Cond.methodLink "TextVerbs$Region" 3 objectInit ∈ lw_tbl := List.mem_of_getElem? (i := 380) (by decide +kernel)
set_option maxRecDepth 20000 in
theorem mo_2_18 : iMO 2 18 36 2 2 := ⟨Or.inl (List.mem_of_getElem? (i := 469) (by decide +kernel)), Or.inr ⟨by decide, List.mem_of_getElem? (i := 470) (by decide +kernel), Or.inr (List.mem_of_getElem? (i := 471) (by decide +kernel))⟩, List.mem_of_getElem? (i := 48) (by decide +kernel), by decide +kernel, by decide +kernel⟩
set_option maxRecDepth 20000 in
theorem mo_2_24 : iMO 2 24 34 1 2 := ⟨Or.inl (List.mem_of_getElem? (i := 478) (by decide +kernel)), Or.inr ⟨by decide, List.mem_of_getElem? (i := 321) (by decide +kernel), Or.inr (List.mem_of_getElem? (i := 322) (by decide +kernel))⟩, List.mem_of_getElem? (i := 48) (by decide +kernel), by decide +kernel, by decide +kernel⟩
set_option maxRecDepth 20000 in
theorem mo_3_3 : Cond.methodLink "TextVerbs$Phrase" 3 objectInit ∈ lw_tbl := List.mem_of_getElem? (i := 391) (by decide +kernel)
set_option maxRecDepth 20000 in
theorem mo_3_29 : iMO 3 29 26 1 0 := ⟨Or.inr (List.mem_of_getElem? (i := 392) (by decide +kernel)), Or.inl ⟨rfl, List.mem_of_getElem? (i := 393) (by decide +kernel)⟩, List.mem_of_getElem? (i := 38) (by decide +kernel), by decide +kernel, by decide +kernel⟩
set_option maxRecDepth 20000 in
theorem mo_3_36 : iMO 3 36 41 2 3 := ⟨Or.inl (List.mem_of_getElem? (i := 465) (by decide +kernel)), Or.inr ⟨by decide, List.mem_of_getElem? (i := 466) (by decide +kernel), Or.inr (List.mem_of_getElem? (i := 467) (by decide +kernel))⟩, List.mem_of_getElem? (i := 51) (by decide +kernel), by decide +kernel, by decide +kernel⟩
set_option maxRecDepth 20000 in
theorem mo_3_44 : iMO 3 44 42 2 3 := ⟨Or.inl (List.mem_of_getElem? (i := 479) (by decide +kernel)), Or.inr ⟨by decide, List.mem_of_getElem? (i := 480) (by decide +kernel), Or.inr (List.mem_of_getElem? (i := 481) (by decide +kernel))⟩, List.mem_of_getElem? (i := 51) (by decide +kernel), by decide +kernel, by decide +kernel⟩
set_option maxRecDepth 20000 in
theorem mo_3_57 : iMO 3 57 35 3 2 := ⟨Or.inl (List.mem_of_getElem? (i := 496) (by decide +kernel)), Or.inr ⟨by decide, List.mem_of_getElem? (i := 474) (by decide +kernel), Or.inr (List.mem_of_getElem? (i := 475) (by decide +kernel))⟩, List.mem_of_getElem? (i := 48) (by decide +kernel), by decide +kernel, by decide +kernel⟩
set_option maxRecDepth 20000 in
theorem mo_4_3 : Cond.methodLink "TextVerbs$Inspection" 3 objectInit ∈ lw_tbl := List.mem_of_getElem? (i := 70) (by decide +kernel)
set_option maxRecDepth 20000 in
theorem mo_4_28 : iMO 4 28 38 2 2 := ⟨Or.inl (List.mem_of_getElem? (i := 453) (by decide +kernel)), Or.inr ⟨by decide, List.mem_of_getElem? (i := 454) (by decide +kernel), Or.inr (List.mem_of_getElem? (i := 455) (by decide +kernel))⟩, List.mem_of_getElem? (i := 48) (by decide +kernel), by decide +kernel, by decide +kernel⟩
set_option maxRecDepth 20000 in
theorem mo_4_34 : iMO 4 34 52 3 5 := ⟨Or.inl (List.mem_of_getElem? (i := 457) (by decide +kernel)), Or.inr ⟨by decide, List.mem_of_getElem? (i := 459) (by decide +kernel), Or.inr (List.mem_of_getElem? (i := 7) (by decide +kernel))⟩, List.mem_of_getElem? (i := 39) (by decide +kernel), by decide +kernel, by decide +kernel⟩
set_option maxRecDepth 20000 in
theorem mo_4_38 : iMO 4 38 34 1 2 := ⟨Or.inl (List.mem_of_getElem? (i := 483) (by decide +kernel)), Or.inr ⟨by decide, List.mem_of_getElem? (i := 321) (by decide +kernel), Or.inr (List.mem_of_getElem? (i := 322) (by decide +kernel))⟩, List.mem_of_getElem? (i := 48) (by decide +kernel), by decide +kernel, by decide +kernel⟩
set_option maxRecDepth 20000 in
theorem mo_4_42 : iMO 4 42 39 4 2 := ⟨Or.inl (List.mem_of_getElem? (i := 505) (by decide +kernel)), Or.inr ⟨by decide, List.mem_of_getElem? (i := 506) (by decide +kernel), Or.inr (List.mem_of_getElem? (i := 507) (by decide +kernel))⟩, List.mem_of_getElem? (i := 48) (by decide +kernel), by decide +kernel, by decide +kernel⟩
set_option maxRecDepth 20000 in
theorem mo_4_46 : iMO 4 46 45 2 4 := ⟨Or.inl (List.mem_of_getElem? (i := 461) (by decide +kernel)), Or.inr ⟨by decide, List.mem_of_getElem? (i := 462) (by decide +kernel), Or.inr (List.mem_of_getElem? (i := 463) (by decide +kernel))⟩, List.mem_of_getElem? (i := 50) (by decide +kernel), by decide +kernel, by decide +kernel⟩
set_option maxRecDepth 20000 in
theorem mo_4_50 : iMO 4 50 53 4 5 := ⟨Or.inl (List.mem_of_getElem? (i := 484) (by decide +kernel)), Or.inr ⟨by decide, List.mem_of_getElem? (i := 486) (by decide +kernel), Or.inr (List.mem_of_getElem? (i := 8) (by decide +kernel))⟩, List.mem_of_getElem? (i := 39) (by decide +kernel), by decide +kernel, by decide +kernel⟩
set_option maxRecDepth 20000 in
theorem mo_4_54 : iMO 4 54 47 2 4 := ⟨Or.inl (List.mem_of_getElem? (i := 497) (by decide +kernel)), Or.inr ⟨by decide, List.mem_of_getElem? (i := 498) (by decide +kernel), Or.inr (List.mem_of_getElem? (i := 499) (by decide +kernel))⟩, List.mem_of_getElem? (i := 50) (by decide +kernel), by decide +kernel, by decide +kernel⟩
set_option maxRecDepth 20000 in
theorem mo_4_58 : iMO 4 58 54 3 5 := ⟨Or.inl (List.mem_of_getElem? (i := 501) (by decide +kernel)), Or.inr ⟨by decide, List.mem_of_getElem? (i := 503) (by decide +kernel), Or.inr (List.mem_of_getElem? (i := 9) (by decide +kernel))⟩, List.mem_of_getElem? (i := 39) (by decide +kernel), by decide +kernel, by decide +kernel⟩
set_option maxRecDepth 20000 in
theorem mo_4_65 : iMO 4 65 44 1 4 := ⟨Or.inl (List.mem_of_getElem? (i := 488) (by decide +kernel)), Or.inr ⟨by decide, List.mem_of_getElem? (i := 489) (by decide +kernel), Or.inr (List.mem_of_getElem? (i := 490) (by decide +kernel))⟩, List.mem_of_getElem? (i := 50) (by decide +kernel), by decide +kernel, by decide +kernel⟩
set_option maxRecDepth 20000 in
theorem mo_4_69 : iMO 4 69 46 3 4 := ⟨Or.inl (List.mem_of_getElem? (i := 492) (by decide +kernel)), Or.inr ⟨by decide, List.mem_of_getElem? (i := 493) (by decide +kernel), Or.inr (List.mem_of_getElem? (i := 494) (by decide +kernel))⟩, List.mem_of_getElem? (i := 50) (by decide +kernel), by decide +kernel, by decide +kernel⟩
set_option maxRecDepth 20000 in
theorem mo_4_83 : iMO 4 83 41 2 3 := ⟨Or.inl (List.mem_of_getElem? (i := 521) (by decide +kernel)), Or.inr ⟨by decide, List.mem_of_getElem? (i := 466) (by decide +kernel), Or.inr (List.mem_of_getElem? (i := 467) (by decide +kernel))⟩, List.mem_of_getElem? (i := 51) (by decide +kernel), by decide +kernel, by decide +kernel⟩
set_option maxRecDepth 20000 in
theorem mo_4_89 : iMO 4 89 42 2 3 := ⟨Or.inl (List.mem_of_getElem? (i := 522) (by decide +kernel)), Or.inr ⟨by decide, List.mem_of_getElem? (i := 480) (by decide +kernel), Or.inr (List.mem_of_getElem? (i := 481) (by decide +kernel))⟩, List.mem_of_getElem? (i := 51) (by decide +kernel), by decide +kernel, by decide +kernel⟩
set_option maxRecDepth 20000 in
theorem mo_4_92 : iMO 4 92 37 2 2 := ⟨Or.inl (List.mem_of_getElem? (i := 523) (by decide +kernel)), Or.inr ⟨by decide, List.mem_of_getElem? (i := 524) (by decide +kernel), Or.inr (List.mem_of_getElem? (i := 525) (by decide +kernel))⟩, List.mem_of_getElem? (i := 48) (by decide +kernel), by decide +kernel, by decide +kernel⟩
set_option maxRecDepth 20000 in
theorem mo_5_3 : Cond.methodLink "TextVerbs$Part" 3 objectInit ∈ lw_tbl := List.mem_of_getElem? (i := 551) (by decide +kernel)
set_option maxRecDepth 20000 in
theorem mo_5_18 : iMO 5 18 36 2 2 := ⟨Or.inl (List.mem_of_getElem? (i := 584) (by decide +kernel)), Or.inr ⟨by decide, List.mem_of_getElem? (i := 470) (by decide +kernel), Or.inr (List.mem_of_getElem? (i := 471) (by decide +kernel))⟩, List.mem_of_getElem? (i := 48) (by decide +kernel), by decide +kernel, by decide +kernel⟩
set_option maxRecDepth 20000 in
theorem mo_5_24 : iMO 5 24 34 1 2 := ⟨Or.inl (List.mem_of_getElem? (i := 585) (by decide +kernel)), Or.inr ⟨by decide, List.mem_of_getElem? (i := 321) (by decide +kernel), Or.inr (List.mem_of_getElem? (i := 322) (by decide +kernel))⟩, List.mem_of_getElem? (i := 48) (by decide +kernel), by decide +kernel, by decide +kernel⟩
set_option maxRecDepth 20000 in
theorem mo_6_3 : Cond.methodLink "TextVerbs$Joining" 3 objectInit ∈ lw_tbl := List.mem_of_getElem? (i := 93) (by decide +kernel)
set_option maxRecDepth 20000 in
theorem mo_6_24 : iMO 6 24 34 1 2 := ⟨Or.inl (List.mem_of_getElem? (i := 575) (by decide +kernel)), Or.inr ⟨by decide, List.mem_of_getElem? (i := 321) (by decide +kernel), Or.inr (List.mem_of_getElem? (i := 322) (by decide +kernel))⟩, List.mem_of_getElem? (i := 48) (by decide +kernel), by decide +kernel, by decide +kernel⟩
set_option maxRecDepth 20000 in
theorem mo_6_30 : iMO 6 30 61 3 7 := ⟨Or.inl (List.mem_of_getElem? (i := 576) (by decide +kernel)), Or.inr ⟨by decide, List.mem_of_getElem? (i := 578) (by decide +kernel), Or.inr (List.mem_of_getElem? (i := 10) (by decide +kernel))⟩, List.mem_of_getElem? (i := 40) (by decide +kernel), by decide +kernel, by decide +kernel⟩
set_option maxRecDepth 20000 in
theorem mo_6_34 : iMO 6 34 57 1 6 := ⟨Or.inl (List.mem_of_getElem? (i := 580) (by decide +kernel)), Or.inr ⟨by decide, List.mem_of_getElem? (i := 581) (by decide +kernel), Or.inr (List.mem_of_getElem? (i := 582) (by decide +kernel))⟩, List.mem_of_getElem? (i := 52) (by decide +kernel), by decide +kernel, by decide +kernel⟩
set_option maxRecDepth 20000 in
theorem mo_7_3 : Cond.methodLink "TextVerbs$Splitting" 3 objectInit ∈ lw_tbl := List.mem_of_getElem? (i := 113) (by decide +kernel)
set_option maxRecDepth 20000 in
theorem mo_7_50 : iMO 7 50 34 1 2 := ⟨Or.inl (List.mem_of_getElem? (i := 621) (by decide +kernel)), Or.inr ⟨by decide, List.mem_of_getElem? (i := 321) (by decide +kernel), Or.inr (List.mem_of_getElem? (i := 322) (by decide +kernel))⟩, List.mem_of_getElem? (i := 48) (by decide +kernel), by decide +kernel, by decide +kernel⟩
set_option maxRecDepth 20000 in
theorem mo_7_54 : iMO 7 54 66 2 8 := ⟨Or.inl (List.mem_of_getElem? (i := 622) (by decide +kernel)), Or.inr ⟨by decide, List.mem_of_getElem? (i := 624) (by decide +kernel), Or.inr (List.mem_of_getElem? (i := 11) (by decide +kernel))⟩, List.mem_of_getElem? (i := 41) (by decide +kernel), by decide +kernel, by decide +kernel⟩
set_option maxRecDepth 20000 in
theorem mo_7_58 : iMO 7 58 72 2 8 := ⟨Or.inl (List.mem_of_getElem? (i := 650) (by decide +kernel)), Or.inr ⟨by decide, List.mem_of_getElem? (i := 652) (by decide +kernel), Or.inr (List.mem_of_getElem? (i := 17) (by decide +kernel))⟩, List.mem_of_getElem? (i := 41) (by decide +kernel), by decide +kernel, by decide +kernel⟩
set_option maxRecDepth 20000 in
theorem mo_7_61 : iMO 7 61 67 4 8 := ⟨Or.inl (List.mem_of_getElem? (i := 626) (by decide +kernel)), Or.inr ⟨by decide, List.mem_of_getElem? (i := 628) (by decide +kernel), Or.inr (List.mem_of_getElem? (i := 12) (by decide +kernel))⟩, List.mem_of_getElem? (i := 41) (by decide +kernel), by decide +kernel, by decide +kernel⟩
set_option maxRecDepth 20000 in
theorem mo_7_65 : iMO 7 65 68 4 8 := ⟨Or.inl (List.mem_of_getElem? (i := 637) (by decide +kernel)), Or.inr ⟨by decide, List.mem_of_getElem? (i := 639) (by decide +kernel), Or.inr (List.mem_of_getElem? (i := 14) (by decide +kernel))⟩, List.mem_of_getElem? (i := 41) (by decide +kernel), by decide +kernel, by decide +kernel⟩
set_option maxRecDepth 20000 in
theorem mo_7_68 : iMO 7 68 139 2 0 := ⟨Or.inl (List.mem_of_getElem? (i := 630) (by decide +kernel)), Or.inl ⟨rfl, List.mem_of_getElem? (i := 631) (by decide +kernel)⟩, List.mem_of_getElem? (i := 53) (by decide +kernel), by decide +kernel, by decide +kernel⟩
set_option maxRecDepth 20000 in
theorem mo_7_74 : iMO 7 74 69 5 8 := ⟨Or.inl (List.mem_of_getElem? (i := 633) (by decide +kernel)), Or.inr ⟨by decide, List.mem_of_getElem? (i := 635) (by decide +kernel), Or.inr (List.mem_of_getElem? (i := 13) (by decide +kernel))⟩, List.mem_of_getElem? (i := 41) (by decide +kernel), by decide +kernel, by decide +kernel⟩
set_option maxRecDepth 20000 in
theorem mo_7_78 : iMO 7 78 70 3 8 := ⟨Or.inl (List.mem_of_getElem? (i := 641) (by decide +kernel)), Or.inr ⟨by decide, List.mem_of_getElem? (i := 643) (by decide +kernel), Or.inr (List.mem_of_getElem? (i := 15) (by decide +kernel))⟩, List.mem_of_getElem? (i := 41) (by decide +kernel), by decide +kernel, by decide +kernel⟩
set_option maxRecDepth 20000 in
theorem mo_7_82 : iMO 7 82 71 4 8 := ⟨Or.inl (List.mem_of_getElem? (i := 646) (by decide +kernel)), Or.inr ⟨by decide, List.mem_of_getElem? (i := 648) (by decide +kernel), Or.inr (List.mem_of_getElem? (i := 16) (by decide +kernel))⟩, List.mem_of_getElem? (i := 41) (by decide +kernel), by decide +kernel, by decide +kernel⟩
set_option maxRecDepth 20000 in
theorem mo_7_85 : iMO 7 85 35 3 2 := ⟨Or.inl (List.mem_of_getElem? (i := 645) (by decide +kernel)), Or.inr ⟨by decide, List.mem_of_getElem? (i := 474) (by decide +kernel), Or.inr (List.mem_of_getElem? (i := 475) (by decide +kernel))⟩, List.mem_of_getElem? (i := 48) (by decide +kernel), by decide +kernel, by decide +kernel⟩
set_option maxRecDepth 20000 in
theorem mo_7_89 : iMO 7 89 38 2 2 := ⟨Or.inl (List.mem_of_getElem? (i := 654) (by decide +kernel)), Or.inr ⟨by decide, List.mem_of_getElem? (i := 454) (by decide +kernel), Or.inr (List.mem_of_getElem? (i := 455) (by decide +kernel))⟩, List.mem_of_getElem? (i := 48) (by decide +kernel), by decide +kernel, by decide +kernel⟩
set_option maxRecDepth 20000 in
theorem mo_7_93 : iMO 7 93 39 4 2 := ⟨Or.inl (List.mem_of_getElem? (i := 655) (by decide +kernel)), Or.inr ⟨by decide, List.mem_of_getElem? (i := 506) (by decide +kernel), Or.inr (List.mem_of_getElem? (i := 507) (by decide +kernel))⟩, List.mem_of_getElem? (i := 48) (by decide +kernel), by decide +kernel, by decide +kernel⟩
set_option maxRecDepth 20000 in
theorem mo_8_1 : Cond.methodLink "TextVerbs$Table" 1 objectInit ∈ lw_tbl := List.mem_of_getElem? (i := 669) (by decide +kernel)
set_option maxRecDepth 20000 in
theorem mo_8_17 : iMO 8 17 77 3 0 := ⟨Or.inl (List.mem_of_getElem? (i := 729) (by decide +kernel)), Or.inl ⟨rfl, List.mem_of_getElem? (i := 730) (by decide +kernel)⟩, List.mem_of_getElem? (i := 54) (by decide +kernel), by decide +kernel, by decide +kernel⟩
set_option maxRecDepth 20000 in
theorem mo_9_1 : Cond.methodLink "TextVerbsModel" 1 objectInit ∈ lw_tbl := List.mem_of_getElem? (i := 737) (by decide +kernel)
set_option maxRecDepth 20000 in
theorem mo_9_93 : iMO 9 93 81 2 10 := ⟨Or.inl (List.mem_of_getElem? (i := 858) (by decide +kernel)), Or.inr ⟨by decide, List.mem_of_getElem? (i := 860) (by decide +kernel), Or.inr (List.mem_of_getElem? (i := 22) (by decide +kernel))⟩, List.mem_of_getElem? (i := 42) (by decide +kernel), by decide +kernel, by decide +kernel⟩
set_option maxRecDepth 20000 in
theorem mo_9_97 : iMO 9 97 80 3 10 := ⟨Or.inl (List.mem_of_getElem? (i := 846) (by decide +kernel)), Or.inr ⟨by decide, List.mem_of_getElem? (i := 848) (by decide +kernel), Or.inr (List.mem_of_getElem? (i := 20) (by decide +kernel))⟩, List.mem_of_getElem? (i := 42) (by decide +kernel), by decide +kernel, by decide +kernel⟩
set_option maxRecDepth 20000 in
theorem mo_9_101 : iMO 9 101 84 3 10 := ⟨Or.inl (List.mem_of_getElem? (i := 854) (by decide +kernel)), Or.inr ⟨by decide, List.mem_of_getElem? (i := 856) (by decide +kernel), Or.inr (List.mem_of_getElem? (i := 21) (by decide +kernel))⟩, List.mem_of_getElem? (i := 42) (by decide +kernel), by decide +kernel, by decide +kernel⟩
set_option maxRecDepth 20000 in
theorem mo_9_105 : iMO 9 105 88 6 10 := ⟨Or.inl (List.mem_of_getElem? (i := 906) (by decide +kernel)), Or.inr ⟨by decide, List.mem_of_getElem? (i := 908) (by decide +kernel), Or.inr (List.mem_of_getElem? (i := 29) (by decide +kernel))⟩, List.mem_of_getElem? (i := 42) (by decide +kernel), by decide +kernel, by decide +kernel⟩
set_option maxRecDepth 20000 in
theorem mo_9_109 : iMO 9 109 82 2 10 := ⟨Or.inl (List.mem_of_getElem? (i := 870) (by decide +kernel)), Or.inr ⟨by decide, List.mem_of_getElem? (i := 872) (by decide +kernel), Or.inr (List.mem_of_getElem? (i := 23) (by decide +kernel))⟩, List.mem_of_getElem? (i := 42) (by decide +kernel), by decide +kernel, by decide +kernel⟩
set_option maxRecDepth 20000 in
theorem mo_9_115 : iMO 9 115 91 4 10 := ⟨Or.inl (List.mem_of_getElem? (i := 878) (by decide +kernel)), Or.inr ⟨by decide, List.mem_of_getElem? (i := 880) (by decide +kernel), Or.inr (List.mem_of_getElem? (i := 24) (by decide +kernel))⟩, List.mem_of_getElem? (i := 42) (by decide +kernel), by decide +kernel, by decide +kernel⟩
set_option maxRecDepth 20000 in
theorem mo_9_119 : iMO 9 119 89 4 10 := ⟨Or.inl (List.mem_of_getElem? (i := 902) (by decide +kernel)), Or.inr ⟨by decide, List.mem_of_getElem? (i := 904) (by decide +kernel), Or.inr (List.mem_of_getElem? (i := 28) (by decide +kernel))⟩, List.mem_of_getElem? (i := 42) (by decide +kernel), by decide +kernel, by decide +kernel⟩
set_option maxRecDepth 20000 in
theorem mo_9_123 : iMO 9 123 87 1 10 := ⟨Or.inl (List.mem_of_getElem? (i := 894) (by decide +kernel)), Or.inr ⟨by decide, List.mem_of_getElem? (i := 896) (by decide +kernel), Or.inr (List.mem_of_getElem? (i := 26) (by decide +kernel))⟩, List.mem_of_getElem? (i := 42) (by decide +kernel), by decide +kernel, by decide +kernel⟩
set_option maxRecDepth 20000 in
theorem mo_9_126 : iMO 9 126 94 3 10 := ⟨Or.inl (List.mem_of_getElem? (i := 898) (by decide +kernel)), Or.inr ⟨by decide, List.mem_of_getElem? (i := 900) (by decide +kernel), Or.inr (List.mem_of_getElem? (i := 27) (by decide +kernel))⟩, List.mem_of_getElem? (i := 42) (by decide +kernel), by decide +kernel, by decide +kernel⟩
set_option maxRecDepth 20000 in
theorem mo_9_130 : iMO 9 130 95 3 10 := ⟨Or.inl (List.mem_of_getElem? (i := 910) (by decide +kernel)), Or.inr ⟨by decide, List.mem_of_getElem? (i := 912) (by decide +kernel), Or.inr (List.mem_of_getElem? (i := 30) (by decide +kernel))⟩, List.mem_of_getElem? (i := 42) (by decide +kernel), by decide +kernel, by decide +kernel⟩
set_option maxRecDepth 20000 in
theorem mo_9_133 : iMO 9 133 96 4 10 := ⟨Or.inl (List.mem_of_getElem? (i := 914) (by decide +kernel)), Or.inr ⟨by decide, List.mem_of_getElem? (i := 916) (by decide +kernel), Or.inr (List.mem_of_getElem? (i := 31) (by decide +kernel))⟩, List.mem_of_getElem? (i := 42) (by decide +kernel), by decide +kernel, by decide +kernel⟩
set_option maxRecDepth 20000 in
theorem mo_9_137 : iMO 9 137 98 6 10 := ⟨Or.inl (List.mem_of_getElem? (i := 918) (by decide +kernel)), Or.inr ⟨by decide, List.mem_of_getElem? (i := 920) (by decide +kernel), Or.inr (List.mem_of_getElem? (i := 32) (by decide +kernel))⟩, List.mem_of_getElem? (i := 42) (by decide +kernel), by decide +kernel, by decide +kernel⟩
set_option maxRecDepth 20000 in
theorem mo_9_141 : iMO 9 141 97 3 10 := ⟨Or.inl (List.mem_of_getElem? (i := 890) (by decide +kernel)), Or.inr ⟨by decide, List.mem_of_getElem? (i := 892) (by decide +kernel), Or.inr (List.mem_of_getElem? (i := 25) (by decide +kernel))⟩, List.mem_of_getElem? (i := 42) (by decide +kernel), by decide +kernel, by decide +kernel⟩
set_option maxRecDepth 20000 in
theorem mo_9_157 : iMO 9 157 106 3 10 := ⟨Or.inl (List.mem_of_getElem? (i := 950) (by decide +kernel)), Or.inr ⟨by decide, List.mem_of_getElem? (i := 952) (by decide +kernel), Or.inr (List.mem_of_getElem? (i := 33) (by decide +kernel))⟩, List.mem_of_getElem? (i := 42) (by decide +kernel), by decide +kernel, by decide +kernel⟩
set_option maxRecDepth 20000 in
theorem mo_9_160 : iMO 9 160 107 5 10 := ⟨Or.inl (List.mem_of_getElem? (i := 954) (by decide +kernel)), Or.inr ⟨by decide, List.mem_of_getElem? (i := 956) (by decide +kernel), Or.inr (List.mem_of_getElem? (i := 34) (by decide +kernel))⟩, List.mem_of_getElem? (i := 42) (by decide +kernel), by decide +kernel, by decide +kernel⟩
set_option maxRecDepth 20000 in
theorem mo_9_167 : iMO 9 167 112 2 10 := ⟨Or.inl (List.mem_of_getElem? (i := 978) (by decide +kernel)), Or.inr ⟨by decide, List.mem_of_getElem? (i := 980) (by decide +kernel), Or.inr (List.mem_of_getElem? (i := 36) (by decide +kernel))⟩, List.mem_of_getElem? (i := 42) (by decide +kernel), by decide +kernel, by decide +kernel⟩
set_option maxRecDepth 20000 in
theorem mo_9_170 : iMO 9 170 113 3 10 := ⟨Or.inl (List.mem_of_getElem? (i := 974) (by decide +kernel)), Or.inr ⟨by decide, List.mem_of_getElem? (i := 976) (by decide +kernel), Or.inr (List.mem_of_getElem? (i := 35) (by decide +kernel))⟩, List.mem_of_getElem? (i := 42) (by decide +kernel), by decide +kernel, by decide +kernel⟩
set_option maxRecDepth 20000 in
theorem mo_10_7 : iMO 10 7 1 2 1 := ⟨Or.inl (List.mem_of_getElem? (i := 202) (by decide +kernel)), Or.inr ⟨by decide, List.mem_of_getElem? (i := 203) (by decide +kernel), Or.inr (List.mem_of_getElem? (i := 204) (by decide +kernel))⟩, List.mem_of_getElem? (i := 38) (by decide +kernel), by decide +kernel, by decide +kernel⟩
set_option maxRecDepth 20000 in
theorem mo_10_17 : iMO 10 17 2 4 1 := ⟨Or.inl (List.mem_of_getElem? (i := 307) (by decide +kernel)), Or.inr ⟨by decide, List.mem_of_getElem? (i := 308) (by decide +kernel), Or.inr (List.mem_of_getElem? (i := 309) (by decide +kernel))⟩, List.mem_of_getElem? (i := 38) (by decide +kernel), by decide +kernel, by decide +kernel⟩
set_option maxRecDepth 20000 in
theorem mo_10_21 : iMO 10 21 3 3 1 := ⟨Or.inl (List.mem_of_getElem? (i := 329) (by decide +kernel)), Or.inr ⟨by decide, List.mem_of_getElem? (i := 330) (by decide +kernel), Or.inr (List.mem_of_getElem? (i := 331) (by decide +kernel))⟩, List.mem_of_getElem? (i := 38) (by decide +kernel), by decide +kernel, by decide +kernel⟩
set_option maxRecDepth 20000 in
theorem mo_10_25 : iMO 10 25 4 3 1 := ⟨Or.inl (List.mem_of_getElem? (i := 336) (by decide +kernel)), Or.inr ⟨by decide, List.mem_of_getElem? (i := 337) (by decide +kernel), Or.inr (List.mem_of_getElem? (i := 338) (by decide +kernel))⟩, List.mem_of_getElem? (i := 38) (by decide +kernel), by decide +kernel, by decide +kernel⟩
set_option maxRecDepth 20000 in
theorem mo_10_29 : iMO 10 29 5 4 1 := ⟨Or.inl (List.mem_of_getElem? (i := 348) (by decide +kernel)), Or.inr ⟨by decide, List.mem_of_getElem? (i := 349) (by decide +kernel), Or.inr (List.mem_of_getElem? (i := 350) (by decide +kernel))⟩, List.mem_of_getElem? (i := 38) (by decide +kernel), by decide +kernel, by decide +kernel⟩
set_option maxRecDepth 20000 in
theorem mo_10_33 : iMO 10 33 6 4 1 := ⟨Or.inl (List.mem_of_getElem? (i := 436) (by decide +kernel)), Or.inr ⟨by decide, List.mem_of_getElem? (i := 437) (by decide +kernel), Or.inr (List.mem_of_getElem? (i := 438) (by decide +kernel))⟩, List.mem_of_getElem? (i := 38) (by decide +kernel), by decide +kernel, by decide +kernel⟩
set_option maxRecDepth 20000 in
theorem mo_10_36 : iMO 10 36 7 2 1 := ⟨Or.inl (List.mem_of_getElem? (i := 445) (by decide +kernel)), Or.inr ⟨by decide, List.mem_of_getElem? (i := 446) (by decide +kernel), Or.inr (List.mem_of_getElem? (i := 447) (by decide +kernel))⟩, List.mem_of_getElem? (i := 38) (by decide +kernel), by decide +kernel, by decide +kernel⟩
set_option maxRecDepth 20000 in
theorem mo_10_39 : iMO 10 39 8 4 1 := ⟨Or.inl (List.mem_of_getElem? (i := 512) (by decide +kernel)), Or.inr ⟨by decide, List.mem_of_getElem? (i := 513) (by decide +kernel), Or.inr (List.mem_of_getElem? (i := 514) (by decide +kernel))⟩, List.mem_of_getElem? (i := 38) (by decide +kernel), by decide +kernel, by decide +kernel⟩
set_option maxRecDepth 20000 in
theorem mo_10_42 : iMO 10 42 9 2 1 := ⟨Or.inl (List.mem_of_getElem? (i := 530) (by decide +kernel)), Or.inr ⟨by decide, List.mem_of_getElem? (i := 531) (by decide +kernel), Or.inr (List.mem_of_getElem? (i := 532) (by decide +kernel))⟩, List.mem_of_getElem? (i := 38) (by decide +kernel), by decide +kernel, by decide +kernel⟩
set_option maxRecDepth 20000 in
theorem mo_10_45 : iMO 10 45 10 3 1 := ⟨Or.inl (List.mem_of_getElem? (i := 541) (by decide +kernel)), Or.inr ⟨by decide, List.mem_of_getElem? (i := 542) (by decide +kernel), Or.inr (List.mem_of_getElem? (i := 543) (by decide +kernel))⟩, List.mem_of_getElem? (i := 38) (by decide +kernel), by decide +kernel, by decide +kernel⟩
set_option maxRecDepth 20000 in
theorem mo_10_48 : iMO 10 48 11 3 1 := ⟨Or.inl (List.mem_of_getElem? (i := 567) (by decide +kernel)), Or.inr ⟨by decide, List.mem_of_getElem? (i := 568) (by decide +kernel), Or.inr (List.mem_of_getElem? (i := 569) (by decide +kernel))⟩, List.mem_of_getElem? (i := 38) (by decide +kernel), by decide +kernel, by decide +kernel⟩
set_option maxRecDepth 20000 in
theorem mo_10_51 : iMO 10 51 12 3 1 := ⟨Or.inl (List.mem_of_getElem? (i := 589) (by decide +kernel)), Or.inr ⟨by decide, List.mem_of_getElem? (i := 590) (by decide +kernel), Or.inr (List.mem_of_getElem? (i := 591) (by decide +kernel))⟩, List.mem_of_getElem? (i := 38) (by decide +kernel), by decide +kernel, by decide +kernel⟩
set_option maxRecDepth 20000 in
theorem mo_10_55 : iMO 10 55 13 2 1 := ⟨Or.inl (List.mem_of_getElem? (i := 601) (by decide +kernel)), Or.inr ⟨by decide, List.mem_of_getElem? (i := 602) (by decide +kernel), Or.inr (List.mem_of_getElem? (i := 603) (by decide +kernel))⟩, List.mem_of_getElem? (i := 38) (by decide +kernel), by decide +kernel, by decide +kernel⟩
set_option maxRecDepth 20000 in
theorem mo_10_58 : iMO 10 58 14 3 1 := ⟨Or.inl (List.mem_of_getElem? (i := 613) (by decide +kernel)), Or.inr ⟨by decide, List.mem_of_getElem? (i := 614) (by decide +kernel), Or.inr (List.mem_of_getElem? (i := 615) (by decide +kernel))⟩, List.mem_of_getElem? (i := 38) (by decide +kernel), by decide +kernel, by decide +kernel⟩
set_option maxRecDepth 20000 in
theorem mo_10_61 : iMO 10 61 17 2 1 := ⟨Or.inl (List.mem_of_getElem? (i := 659) (by decide +kernel)), Or.inr ⟨by decide, List.mem_of_getElem? (i := 660) (by decide +kernel), Or.inr (List.mem_of_getElem? (i := 661) (by decide +kernel))⟩, List.mem_of_getElem? (i := 38) (by decide +kernel), by decide +kernel, by decide +kernel⟩
set_option maxRecDepth 20000 in
theorem mo_10_64 : iMO 10 64 18 4 1 := ⟨Or.inl (List.mem_of_getElem? (i := 682) (by decide +kernel)), Or.inr ⟨by decide, List.mem_of_getElem? (i := 683) (by decide +kernel), Or.inr (List.mem_of_getElem? (i := 684) (by decide +kernel))⟩, List.mem_of_getElem? (i := 38) (by decide +kernel), by decide +kernel, by decide +kernel⟩
set_option maxRecDepth 20000 in
theorem mo_10_67 : iMO 10 67 19 3 1 := ⟨Or.inl (List.mem_of_getElem? (i := 699) (by decide +kernel)), Or.inr ⟨by decide, List.mem_of_getElem? (i := 700) (by decide +kernel), Or.inr (List.mem_of_getElem? (i := 701) (by decide +kernel))⟩, List.mem_of_getElem? (i := 38) (by decide +kernel), by decide +kernel, by decide +kernel⟩
set_option maxRecDepth 20000 in
theorem mo_10_70 : iMO 10 70 20 4 1 := ⟨Or.inl (List.mem_of_getElem? (i := 706) (by decide +kernel)), Or.inr ⟨by decide, List.mem_of_getElem? (i := 707) (by decide +kernel), Or.inr (List.mem_of_getElem? (i := 708) (by decide +kernel))⟩, List.mem_of_getElem? (i := 38) (by decide +kernel), by decide +kernel, by decide +kernel⟩
set_option maxRecDepth 20000 in
theorem mo_10_74 : iMO 10 74 21 3 1 := ⟨Or.inl (List.mem_of_getElem? (i := 721) (by decide +kernel)), Or.inr ⟨by decide, List.mem_of_getElem? (i := 722) (by decide +kernel), Or.inr (List.mem_of_getElem? (i := 723) (by decide +kernel))⟩, List.mem_of_getElem? (i := 38) (by decide +kernel), by decide +kernel, by decide +kernel⟩
set_option maxRecDepth 20000 in
theorem mo_10_78 : iMO 10 78 0 1 1 := ⟨Or.inl (List.mem_of_getElem? (i := 57) (by decide +kernel)), Or.inr ⟨by decide, List.mem_of_getElem? (i := 58) (by decide +kernel), Or.inl rfl⟩, List.mem_of_getElem? (i := 38) (by decide +kernel), by decide +kernel, by decide +kernel⟩
set_option maxRecDepth 20000 in
theorem mo_10_81 : iMO 10 81 78 1 10 := ⟨Or.inl (List.mem_of_getElem? (i := 734) (by decide +kernel)), Or.inr ⟨by decide, List.mem_of_getElem? (i := 735) (by decide +kernel), Or.inl rfl⟩, List.mem_of_getElem? (i := 42) (by decide +kernel), by decide +kernel, by decide +kernel⟩
set_option maxRecDepth 20000 in
theorem mo_10_82 : iMO 10 82 118 3 0 := ⟨Or.inl (List.mem_of_getElem? (i := 197) (by decide +kernel)), Or.inl ⟨rfl, List.mem_of_getElem? (i := 198) (by decide +kernel)⟩, List.mem_of_getElem? (i := 37) (by decide +kernel), by decide +kernel, by decide +kernel⟩
set_option maxRecDepth 20000 in
theorem mo_10_87 : iMO 10 87 83 2 10 := ⟨Or.inl (List.mem_of_getElem? (i := 842) (by decide +kernel)), Or.inr ⟨by decide, List.mem_of_getElem? (i := 843) (by decide +kernel), Or.inr (List.mem_of_getElem? (i := 844) (by decide +kernel))⟩, List.mem_of_getElem? (i := 42) (by decide +kernel), by decide +kernel, by decide +kernel⟩
set_option maxRecDepth 20000 in
theorem mo_10_88 : iMO 10 88 79 1 10 := ⟨Or.inl (List.mem_of_getElem? (i := 838) (by decide +kernel)), Or.inr ⟨by decide, List.mem_of_getElem? (i := 839) (by decide +kernel), Or.inr (List.mem_of_getElem? (i := 840) (by decide +kernel))⟩, List.mem_of_getElem? (i := 42) (by decide +kernel), by decide +kernel, by decide +kernel⟩
set_option maxRecDepth 20000 in
theorem mo_10_92 : iMO 10 92 119 4 0 := ⟨Or.inl (List.mem_of_getElem? (i := 304) (by decide +kernel)), Or.inl ⟨rfl, List.mem_of_getElem? (i := 305) (by decide +kernel)⟩, List.mem_of_getElem? (i := 37) (by decide +kernel), by decide +kernel, by decide +kernel⟩
set_option maxRecDepth 20000 in
theorem mo_10_95 : iMO 10 95 85 4 10 := ⟨Or.inl (List.mem_of_getElem? (i := 850) (by decide +kernel)), Or.inr ⟨by decide, List.mem_of_getElem? (i := 851) (by decide +kernel), Or.inr (List.mem_of_getElem? (i := 852) (by decide +kernel))⟩, List.mem_of_getElem? (i := 42) (by decide +kernel), by decide +kernel, by decide +kernel⟩
set_option maxRecDepth 20000 in
theorem mo_10_96 : iMO 10 96 120 4 0 := ⟨Or.inl (List.mem_of_getElem? (i := 326) (by decide +kernel)), Or.inl ⟨rfl, List.mem_of_getElem? (i := 327) (by decide +kernel)⟩, List.mem_of_getElem? (i := 37) (by decide +kernel), by decide +kernel, by decide +kernel⟩
set_option maxRecDepth 20000 in
theorem mo_10_99 : iMO 10 99 86 3 10 := ⟨Or.inl (List.mem_of_getElem? (i := 862) (by decide +kernel)), Or.inr ⟨by decide, List.mem_of_getElem? (i := 863) (by decide +kernel), Or.inr (List.mem_of_getElem? (i := 864) (by decide +kernel))⟩, List.mem_of_getElem? (i := 42) (by decide +kernel), by decide +kernel, by decide +kernel⟩
set_option maxRecDepth 20000 in
theorem mo_10_100 : iMO 10 100 121 3 0 := ⟨Or.inl (List.mem_of_getElem? (i := 333) (by decide +kernel)), Or.inl ⟨rfl, List.mem_of_getElem? (i := 334) (by decide +kernel)⟩, List.mem_of_getElem? (i := 37) (by decide +kernel), by decide +kernel, by decide +kernel⟩
set_option maxRecDepth 20000 in
theorem mo_10_103 : iMO 10 103 90 3 10 := ⟨Or.inl (List.mem_of_getElem? (i := 866) (by decide +kernel)), Or.inr ⟨by decide, List.mem_of_getElem? (i := 867) (by decide +kernel), Or.inr (List.mem_of_getElem? (i := 868) (by decide +kernel))⟩, List.mem_of_getElem? (i := 42) (by decide +kernel), by decide +kernel, by decide +kernel⟩
set_option maxRecDepth 20000 in
theorem mo_10_104 : iMO 10 104 122 5 0 := ⟨Or.inl (List.mem_of_getElem? (i := 345) (by decide +kernel)), Or.inl ⟨rfl, List.mem_of_getElem? (i := 346) (by decide +kernel)⟩, List.mem_of_getElem? (i := 37) (by decide +kernel), by decide +kernel, by decide +kernel⟩
set_option maxRecDepth 20000 in
theorem mo_10_107 : iMO 10 107 92 4 10 := ⟨Or.inl (List.mem_of_getElem? (i := 874) (by decide +kernel)), Or.inr ⟨by decide, List.mem_of_getElem? (i := 875) (by decide +kernel), Or.inr (List.mem_of_getElem? (i := 876) (by decide +kernel))⟩, List.mem_of_getElem? (i := 42) (by decide +kernel), by decide +kernel, by decide +kernel⟩
set_option maxRecDepth 20000 in
theorem mo_10_108 : iMO 10 108 123 5 0 := ⟨Or.inl (List.mem_of_getElem? (i := 433) (by decide +kernel)), Or.inl ⟨rfl, List.mem_of_getElem? (i := 434) (by decide +kernel)⟩, List.mem_of_getElem? (i := 37) (by decide +kernel), by decide +kernel, by decide +kernel⟩
set_option maxRecDepth 20000 in
theorem mo_10_110 : iMO 10 110 93 4 10 := ⟨Or.inl (List.mem_of_getElem? (i := 882) (by decide +kernel)), Or.inr ⟨by decide, List.mem_of_getElem? (i := 883) (by decide +kernel), Or.inr (List.mem_of_getElem? (i := 884) (by decide +kernel))⟩, List.mem_of_getElem? (i := 42) (by decide +kernel), by decide +kernel, by decide +kernel⟩
set_option maxRecDepth 20000 in
theorem mo_10_111 : iMO 10 111 124 3 0 := ⟨Or.inl (List.mem_of_getElem? (i := 442) (by decide +kernel)), Or.inl ⟨rfl, List.mem_of_getElem? (i := 443) (by decide +kernel)⟩, List.mem_of_getElem? (i := 37) (by decide +kernel), by decide +kernel, by decide +kernel⟩
set_option maxRecDepth 20000 in
theorem mo_10_113 : iMO 10 113 99 2 10 := ⟨Or.inl (List.mem_of_getElem? (i := 886) (by decide +kernel)), Or.inr ⟨by decide, List.mem_of_getElem? (i := 887) (by decide +kernel), Or.inr (List.mem_of_getElem? (i := 888) (by decide +kernel))⟩, List.mem_of_getElem? (i := 42) (by decide +kernel), by decide +kernel, by decide +kernel⟩
set_option maxRecDepth 20000 in
theorem mo_10_114 : iMO 10 114 125 5 0 := ⟨Or.inl (List.mem_of_getElem? (i := 509) (by decide +kernel)), Or.inl ⟨rfl, List.mem_of_getElem? (i := 510) (by decide +kernel)⟩, List.mem_of_getElem? (i := 37) (by decide +kernel), by decide +kernel, by decide +kernel⟩
set_option maxRecDepth 20000 in
theorem mo_10_116 : iMO 10 116 100 4 10 := ⟨Or.inl (List.mem_of_getElem? (i := 922) (by decide +kernel)), Or.inr ⟨by decide, List.mem_of_getElem? (i := 923) (by decide +kernel), Or.inr (List.mem_of_getElem? (i := 924) (by decide +kernel))⟩, List.mem_of_getElem? (i := 42) (by decide +kernel), by decide +kernel, by decide +kernel⟩
set_option maxRecDepth 20000 in
theorem mo_10_117 : iMO 10 117 126 3 0 := ⟨Or.inl (List.mem_of_getElem? (i := 527) (by decide +kernel)), Or.inl ⟨rfl, List.mem_of_getElem? (i := 528) (by decide +kernel)⟩, List.mem_of_getElem? (i := 37) (by decide +kernel), by decide +kernel, by decide +kernel⟩
set_option maxRecDepth 20000 in
theorem mo_10_119 : iMO 10 119 101 2 10 := ⟨Or.inl (List.mem_of_getElem? (i := 926) (by decide +kernel)), Or.inr ⟨by decide, List.mem_of_getElem? (i := 927) (by decide +kernel), Or.inr (List.mem_of_getElem? (i := 928) (by decide +kernel))⟩, List.mem_of_getElem? (i := 42) (by decide +kernel), by decide +kernel, by decide +kernel⟩
set_option maxRecDepth 20000 in
theorem mo_10_120 : iMO 10 120 127 4 0 := ⟨Or.inl (List.mem_of_getElem? (i := 538) (by decide +kernel)), Or.inl ⟨rfl, List.mem_of_getElem? (i := 539) (by decide +kernel)⟩, List.mem_of_getElem? (i := 37) (by decide +kernel), by decide +kernel, by decide +kernel⟩
set_option maxRecDepth 20000 in
theorem mo_10_122 : iMO 10 122 102 3 10 := ⟨Or.inl (List.mem_of_getElem? (i := 930) (by decide +kernel)), Or.inr ⟨by decide, List.mem_of_getElem? (i := 931) (by decide +kernel), Or.inr (List.mem_of_getElem? (i := 932) (by decide +kernel))⟩, List.mem_of_getElem? (i := 42) (by decide +kernel), by decide +kernel, by decide +kernel⟩
set_option maxRecDepth 20000 in
theorem mo_10_123 : iMO 10 123 128 4 0 := ⟨Or.inl (List.mem_of_getElem? (i := 564) (by decide +kernel)), Or.inl ⟨rfl, List.mem_of_getElem? (i := 565) (by decide +kernel)⟩, List.mem_of_getElem? (i := 37) (by decide +kernel), by decide +kernel, by decide +kernel⟩
set_option maxRecDepth 20000 in
theorem mo_10_125 : iMO 10 125 103 3 10 := ⟨Or.inl (List.mem_of_getElem? (i := 934) (by decide +kernel)), Or.inr ⟨by decide, List.mem_of_getElem? (i := 935) (by decide +kernel), Or.inr (List.mem_of_getElem? (i := 936) (by decide +kernel))⟩, List.mem_of_getElem? (i := 42) (by decide +kernel), by decide +kernel, by decide +kernel⟩
set_option maxRecDepth 20000 in
theorem mo_10_126 : iMO 10 126 129 4 0 := ⟨Or.inl (List.mem_of_getElem? (i := 586) (by decide +kernel)), Or.inl ⟨rfl, List.mem_of_getElem? (i := 587) (by decide +kernel)⟩, List.mem_of_getElem? (i := 37) (by decide +kernel), by decide +kernel, by decide +kernel⟩
set_option maxRecDepth 20000 in
theorem mo_10_129 : iMO 10 129 104 3 10 := ⟨Or.inl (List.mem_of_getElem? (i := 938) (by decide +kernel)), Or.inr ⟨by decide, List.mem_of_getElem? (i := 939) (by decide +kernel), Or.inr (List.mem_of_getElem? (i := 940) (by decide +kernel))⟩, List.mem_of_getElem? (i := 42) (by decide +kernel), by decide +kernel, by decide +kernel⟩
set_option maxRecDepth 20000 in
theorem mo_10_130 : iMO 10 130 130 3 0 := ⟨Or.inl (List.mem_of_getElem? (i := 598) (by decide +kernel)), Or.inl ⟨rfl, List.mem_of_getElem? (i := 599) (by decide +kernel)⟩, List.mem_of_getElem? (i := 37) (by decide +kernel), by decide +kernel, by decide +kernel⟩
set_option maxRecDepth 20000 in
theorem mo_10_132 : iMO 10 132 105 2 10 := ⟨Or.inl (List.mem_of_getElem? (i := 942) (by decide +kernel)), Or.inr ⟨by decide, List.mem_of_getElem? (i := 943) (by decide +kernel), Or.inr (List.mem_of_getElem? (i := 944) (by decide +kernel))⟩, List.mem_of_getElem? (i := 42) (by decide +kernel), by decide +kernel, by decide +kernel⟩
set_option maxRecDepth 20000 in
theorem mo_10_133 : iMO 10 133 131 4 0 := ⟨Or.inl (List.mem_of_getElem? (i := 610) (by decide +kernel)), Or.inl ⟨rfl, List.mem_of_getElem? (i := 611) (by decide +kernel)⟩, List.mem_of_getElem? (i := 37) (by decide +kernel), by decide +kernel, by decide +kernel⟩
set_option maxRecDepth 20000 in
theorem mo_10_135 : iMO 10 135 108 3 10 := ⟨Or.inl (List.mem_of_getElem? (i := 946) (by decide +kernel)), Or.inr ⟨by decide, List.mem_of_getElem? (i := 947) (by decide +kernel), Or.inr (List.mem_of_getElem? (i := 948) (by decide +kernel))⟩, List.mem_of_getElem? (i := 42) (by decide +kernel), by decide +kernel, by decide +kernel⟩
set_option maxRecDepth 20000 in
theorem mo_10_136 : iMO 10 136 15 3 1 := ⟨Or.inl (List.mem_of_getElem? (i := 189) (by decide +kernel)), Or.inr ⟨by decide, List.mem_of_getElem? (i := 190) (by decide +kernel), Or.inr (List.mem_of_getElem? (i := 191) (by decide +kernel))⟩, List.mem_of_getElem? (i := 38) (by decide +kernel), by decide +kernel, by decide +kernel⟩
set_option maxRecDepth 20000 in
theorem mo_10_139 : iMO 10 139 109 3 10 := ⟨Or.inl (List.mem_of_getElem? (i := 958) (by decide +kernel)), Or.inr ⟨by decide, List.mem_of_getElem? (i := 959) (by decide +kernel), Or.inr (List.mem_of_getElem? (i := 960) (by decide +kernel))⟩, List.mem_of_getElem? (i := 42) (by decide +kernel), by decide +kernel, by decide +kernel⟩
set_option maxRecDepth 20000 in
theorem mo_10_140 : iMO 10 140 16 1 1 := ⟨Or.inl (List.mem_of_getElem? (i := 193) (by decide +kernel)), Or.inr ⟨by decide, List.mem_of_getElem? (i := 194) (by decide +kernel), Or.inr (List.mem_of_getElem? (i := 195) (by decide +kernel))⟩, List.mem_of_getElem? (i := 38) (by decide +kernel), by decide +kernel, by decide +kernel⟩
set_option maxRecDepth 20000 in
theorem mo_10_143 : iMO 10 143 110 1 10 := ⟨Or.inl (List.mem_of_getElem? (i := 962) (by decide +kernel)), Or.inr ⟨by decide, List.mem_of_getElem? (i := 963) (by decide +kernel), Or.inr (List.mem_of_getElem? (i := 964) (by decide +kernel))⟩, List.mem_of_getElem? (i := 42) (by decide +kernel), by decide +kernel, by decide +kernel⟩
set_option maxRecDepth 20000 in
theorem mo_10_144 : iMO 10 144 132 3 0 := ⟨Or.inl (List.mem_of_getElem? (i := 656) (by decide +kernel)), Or.inl ⟨rfl, List.mem_of_getElem? (i := 657) (by decide +kernel)⟩, List.mem_of_getElem? (i := 37) (by decide +kernel), by decide +kernel, by decide +kernel⟩
set_option maxRecDepth 20000 in
theorem mo_10_146 : iMO 10 146 111 2 10 := ⟨Or.inl (List.mem_of_getElem? (i := 966) (by decide +kernel)), Or.inr ⟨by decide, List.mem_of_getElem? (i := 967) (by decide +kernel), Or.inr (List.mem_of_getElem? (i := 968) (by decide +kernel))⟩, List.mem_of_getElem? (i := 42) (by decide +kernel), by decide +kernel, by decide +kernel⟩
set_option maxRecDepth 20000 in
theorem mo_10_147 : iMO 10 147 133 5 0 := ⟨Or.inl (List.mem_of_getElem? (i := 679) (by decide +kernel)), Or.inl ⟨rfl, List.mem_of_getElem? (i := 680) (by decide +kernel)⟩, List.mem_of_getElem? (i := 37) (by decide +kernel), by decide +kernel, by decide +kernel⟩
set_option maxRecDepth 20000 in
theorem mo_10_149 : iMO 10 149 114 4 10 := ⟨Or.inl (List.mem_of_getElem? (i := 970) (by decide +kernel)), Or.inr ⟨by decide, List.mem_of_getElem? (i := 971) (by decide +kernel), Or.inr (List.mem_of_getElem? (i := 972) (by decide +kernel))⟩, List.mem_of_getElem? (i := 42) (by decide +kernel), by decide +kernel, by decide +kernel⟩
set_option maxRecDepth 20000 in
theorem mo_10_150 : iMO 10 150 134 4 0 := ⟨Or.inl (List.mem_of_getElem? (i := 696) (by decide +kernel)), Or.inl ⟨rfl, List.mem_of_getElem? (i := 697) (by decide +kernel)⟩, List.mem_of_getElem? (i := 37) (by decide +kernel), by decide +kernel, by decide +kernel⟩
set_option maxRecDepth 20000 in
theorem mo_10_152 : iMO 10 152 115 3 10 := ⟨Or.inl (List.mem_of_getElem? (i := 982) (by decide +kernel)), Or.inr ⟨by decide, List.mem_of_getElem? (i := 983) (by decide +kernel), Or.inr (List.mem_of_getElem? (i := 984) (by decide +kernel))⟩, List.mem_of_getElem? (i := 42) (by decide +kernel), by decide +kernel, by decide +kernel⟩
set_option maxRecDepth 20000 in
theorem mo_10_153 : iMO 10 153 135 5 0 := ⟨Or.inl (List.mem_of_getElem? (i := 703) (by decide +kernel)), Or.inl ⟨rfl, List.mem_of_getElem? (i := 704) (by decide +kernel)⟩, List.mem_of_getElem? (i := 37) (by decide +kernel), by decide +kernel, by decide +kernel⟩
set_option maxRecDepth 20000 in
theorem mo_10_156 : iMO 10 156 116 4 10 := ⟨Or.inl (List.mem_of_getElem? (i := 986) (by decide +kernel)), Or.inr ⟨by decide, List.mem_of_getElem? (i := 987) (by decide +kernel), Or.inr (List.mem_of_getElem? (i := 988) (by decide +kernel))⟩, List.mem_of_getElem? (i := 42) (by decide +kernel), by decide +kernel, by decide +kernel⟩
set_option maxRecDepth 20000 in
theorem mo_10_157 : iMO 10 157 136 3 0 := ⟨Or.inl (List.mem_of_getElem? (i := 718) (by decide +kernel)), Or.inl ⟨rfl, List.mem_of_getElem? (i := 719) (by decide +kernel)⟩, List.mem_of_getElem? (i := 37) (by decide +kernel), by decide +kernel, by decide +kernel⟩
set_option maxRecDepth 20000 in
theorem mo_10_160 : iMO 10 160 117 3 10 := ⟨Or.inl (List.mem_of_getElem? (i := 990) (by decide +kernel)), Or.inr ⟨by decide, List.mem_of_getElem? (i := 991) (by decide +kernel), Or.inr (List.mem_of_getElem? (i := 992) (by decide +kernel))⟩, List.mem_of_getElem? (i := 42) (by decide +kernel), by decide +kernel, by decide +kernel⟩
set_option maxRecDepth 20000 in
theorem no_0_9 : iNO 0 9 2 1 := ⟨List.mem_of_getElem? (i := 63) (by decide +kernel), List.mem_of_getElem? (i := 289) (by decide +kernel), List.mem_of_getElem? (i := 48) (by decide +kernel), by decide, by decide⟩
set_option maxRecDepth 20000 in
theorem no_0_15 : iNO 0 15 5 4 := ⟨List.mem_of_getElem? (i := 65) (by decide +kernel), List.mem_of_getElem? (i := 66) (by decide +kernel), List.mem_of_getElem? (i := 39) (by decide +kernel), by decide, by decide⟩
set_option maxRecDepth 20000 in
theorem no_0_22 : iNO 0 22 7 3 := ⟨List.mem_of_getElem? (i := 88) (by decide +kernel), List.mem_of_getElem? (i := 89) (by decide +kernel), List.mem_of_getElem? (i := 40) (by decide +kernel), by decide, by decide⟩
set_option maxRecDepth 20000 in
theorem no_0_29 : iNO 0 29 8 11 := ⟨List.mem_of_getElem? (i := 108) (by decide +kernel), List.mem_of_getElem? (i := 109) (by decide +kernel), List.mem_of_getElem? (i := 41) (by decide +kernel), by decide, by decide⟩
set_option maxRecDepth 20000 in
theorem no_0_36 : iNO 0 36 9 2 := ⟨List.mem_of_getElem? (i := 156) (by decide +kernel), List.mem_of_getElem? (i := 665) (by decide +kernel), List.mem_of_getElem? (i := 54) (by decide +kernel), by decide, by decide⟩
set_option maxRecDepth 20000 in
theorem no_0_95 : iNO 0 95 4 10 := ⟨List.mem_of_getElem? (i := 369) (by decide +kernel), List.mem_of_getElem? (i := 370) (by decide +kernel), List.mem_of_getElem? (i := 50) (by decide +kernel), by decide, by decide⟩
set_option maxRecDepth 20000 in
theorem no_0_139 : iNO 0 139 6 2 := ⟨List.mem_of_getElem? (i := 546) (by decide +kernel), List.mem_of_getElem? (i := 547) (by decide +kernel), List.mem_of_getElem? (i := 52) (by decide +kernel), by decide, by decide⟩
set_option maxRecDepth 20000 in
theorem no_0_234 : iNO 0 234 3 2 := ⟨List.mem_of_getElem? (i := 375) (by decide +kernel), List.mem_of_getElem? (i := 376) (by decide +kernel), List.mem_of_getElem? (i := 51) (by decide +kernel), by decide, by decide⟩
set_option maxRecDepth 20000 in
theorem vo_0_9 : iVO 0 9 2 := ⟨List.mem_of_getElem? (i := 63) (by decide +kernel), List.mem_of_getElem? (i := 64) (by decide +kernel), by decide, by decide⟩
set_option maxRecDepth 20000 in
theorem vo_0_36 : iVO 0 36 9 := ⟨List.mem_of_getElem? (i := 156) (by decide +kernel), List.mem_of_getElem? (i := 157) (by decide +kernel), by decide, by decide⟩
set_option maxRecDepth 20000 in
theorem vo_4_9 : iVO 4 9 4 := ⟨List.mem_of_getElem? (i := 71) (by decide +kernel), List.mem_of_getElem? (i := 72) (by decide +kernel), by decide, by decide⟩
set_option maxRecDepth 20000 in
theorem vo_6_9 : iVO 6 9 6 := ⟨List.mem_of_getElem? (i := 94) (by decide +kernel), List.mem_of_getElem? (i := 95) (by decide +kernel), by decide, by decide⟩
set_option maxRecDepth 20000 in
theorem vo_7_9 : iVO 7 9 2 := ⟨List.mem_of_getElem? (i := 114) (by decide +kernel), List.mem_of_getElem? (i := 64) (by decide +kernel), by decide, by decide⟩
set_option maxRecDepth 20000 in
theorem no_10_8 : iNO 10 8 1 10 := ⟨List.mem_of_getElem? (i := 55) (by decide +kernel), List.mem_of_getElem? (i := 56) (by decide +kernel), List.mem_of_getElem? (i := 38) (by decide +kernel), by decide, by decide⟩
set_option maxRecDepth 20000 in
theorem no_10_79 : iNO 10 79 10 33 := ⟨List.mem_of_getElem? (i := 732) (by decide +kernel), List.mem_of_getElem? (i := 733) (by decide +kernel), List.mem_of_getElem? (i := 42) (by decide +kernel), by decide, by decide⟩
set_option maxRecDepth 20000 in
theorem cdo_0 : iCO 0 := Or.inl ⟨rfl, List.mem_of_getElem? (i := 59) (by decide +kernel)⟩
set_option maxRecDepth 20000 in
theorem cdo_1 : iCO 1 := Or.inl ⟨rfl, List.mem_of_getElem? (i := 205) (by decide +kernel)⟩
set_option maxRecDepth 20000 in
theorem cdo_2 : iCO 2 := Or.inl ⟨rfl, List.mem_of_getElem? (i := 310) (by decide +kernel)⟩
set_option maxRecDepth 20000 in
theorem cdo_3 : iCO 3 := Or.inl ⟨rfl, List.mem_of_getElem? (i := 332) (by decide +kernel)⟩
set_option maxRecDepth 20000 in
theorem cdo_4 : iCO 4 := Or.inl ⟨rfl, List.mem_of_getElem? (i := 339) (by decide +kernel)⟩
set_option maxRecDepth 20000 in
theorem cdo_5 : iCO 5 := Or.inl ⟨rfl, List.mem_of_getElem? (i := 351) (by decide +kernel)⟩
set_option maxRecDepth 20000 in
theorem cdo_6 : iCO 6 := Or.inl ⟨rfl, List.mem_of_getElem? (i := 439) (by decide +kernel)⟩
set_option maxRecDepth 20000 in
theorem cdo_7 : iCO 7 := Or.inl ⟨rfl, List.mem_of_getElem? (i := 448) (by decide +kernel)⟩
set_option maxRecDepth 20000 in
theorem cdo_8 : iCO 8 := Or.inl ⟨rfl, List.mem_of_getElem? (i := 515) (by decide +kernel)⟩
set_option maxRecDepth 20000 in
theorem cdo_9 : iCO 9 := Or.inl ⟨rfl, List.mem_of_getElem? (i := 533) (by decide +kernel)⟩
set_option maxRecDepth 20000 in
theorem cdo_10 : iCO 10 := Or.inl ⟨rfl, List.mem_of_getElem? (i := 544) (by decide +kernel)⟩
set_option maxRecDepth 20000 in
theorem cdo_11 : iCO 11 := Or.inl ⟨rfl, List.mem_of_getElem? (i := 570) (by decide +kernel)⟩
set_option maxRecDepth 20000 in
theorem cdo_12 : iCO 12 := Or.inl ⟨rfl, List.mem_of_getElem? (i := 592) (by decide +kernel)⟩
set_option maxRecDepth 20000 in
theorem cdo_13 : iCO 13 := Or.inl ⟨rfl, List.mem_of_getElem? (i := 604) (by decide +kernel)⟩
set_option maxRecDepth 20000 in
theorem cdo_14 : iCO 14 := Or.inl ⟨rfl, List.mem_of_getElem? (i := 616) (by decide +kernel)⟩
set_option maxRecDepth 20000 in
theorem cdo_15 : iCO 15 := Or.inl ⟨rfl, List.mem_of_getElem? (i := 192) (by decide +kernel)⟩
set_option maxRecDepth 20000 in
theorem cdo_16 : iCO 16 := Or.inl ⟨rfl, List.mem_of_getElem? (i := 196) (by decide +kernel)⟩
set_option maxRecDepth 20000 in
theorem cdo_17 : iCO 17 := Or.inl ⟨rfl, List.mem_of_getElem? (i := 662) (by decide +kernel)⟩
set_option maxRecDepth 20000 in
theorem cdo_18 : iCO 18 := Or.inl ⟨rfl, List.mem_of_getElem? (i := 685) (by decide +kernel)⟩
set_option maxRecDepth 20000 in
theorem cdo_19 : iCO 19 := Or.inl ⟨rfl, List.mem_of_getElem? (i := 702) (by decide +kernel)⟩
set_option maxRecDepth 20000 in
theorem cdo_20 : iCO 20 := Or.inl ⟨rfl, List.mem_of_getElem? (i := 709) (by decide +kernel)⟩
set_option maxRecDepth 20000 in
theorem cdo_21 : iCO 21 := Or.inl ⟨rfl, List.mem_of_getElem? (i := 724) (by decide +kernel)⟩
set_option maxRecDepth 20000 in
theorem cdo_22 : iCO 22 := Or.inl ⟨rfl, List.mem_of_getElem? (i := 318) (by decide +kernel)⟩
set_option maxRecDepth 20000 in
theorem cdo_23 : iCO 23 := Or.inl ⟨rfl, List.mem_of_getElem? (i := 343) (by decide +kernel)⟩
set_option maxRecDepth 20000 in
theorem cdo_24 : iCO 24 := Or.inl ⟨rfl, List.mem_of_getElem? (i := 314) (by decide +kernel)⟩
set_option maxRecDepth 20000 in
theorem cdo_25 : iCO 25 := Or.inl ⟨rfl, List.mem_of_getElem? (i := 359) (by decide +kernel)⟩
set_option maxRecDepth 20000 in
theorem cdo_26 : iCO 26 := Or.inl ⟨rfl, List.mem_of_getElem? (i := 394) (by decide +kernel)⟩
set_option maxRecDepth 20000 in
theorem cdo_27 : iCO 27 := Or.inl ⟨rfl, List.mem_of_getElem? (i := 354) (by decide +kernel)⟩
set_option maxRecDepth 20000 in
theorem cdo_28 : iCO 28 := Or.inl ⟨rfl, List.mem_of_getElem? (i := 362) (by decide +kernel)⟩
set_option maxRecDepth 20000 in
theorem cdo_29 : iCO 29 := Or.inl ⟨rfl, List.mem_of_getElem? (i := 367) (by decide +kernel)⟩
set_option maxRecDepth 20000 in
theorem cdo_30 : iCO 30 := Or.inl ⟨rfl, List.mem_of_getElem? (i := 374) (by decide +kernel)⟩
set_option maxRecDepth 20000 in
theorem cdo_31 : iCO 31 := Or.inl ⟨rfl, List.mem_of_getElem? (i := 693) (by decide +kernel)⟩
set_option maxRecDepth 20000 in
theorem cdo_32 : iCO 32 := Or.inl ⟨rfl, List.mem_of_getElem? (i := 689) (by decide +kernel)⟩
set_option maxRecDepth 20000 in
theorem cdo_33 : iCO 33 := Or.inl ⟨rfl, List.mem_of_getElem? (i := 292) (by decide +kernel)⟩
set_option maxRecDepth 20000 in
theorem cdo_34 : iCO 34 := Or.inl ⟨rfl, List.mem_of_getElem? (i := 323) (by decide +kernel)⟩
set_option maxRecDepth 20000 in
theorem cdo_35 : iCO 35 := Or.inl ⟨rfl, List.mem_of_getElem? (i := 476) (by decide +kernel)⟩
set_option maxRecDepth 20000 in
theorem cdo_36 : iCO 36 := Or.inl ⟨rfl, List.mem_of_getElem? (i := 472) (by decide +kernel)⟩
set_option maxRecDepth 20000 in
theorem cdo_37 : iCO 37 := Or.inl ⟨rfl, List.mem_of_getElem? (i := 526) (by decide +kernel)⟩
set_option maxRecDepth 20000 in
theorem cdo_38 : iCO 38 := Or.inl ⟨rfl, List.mem_of_getElem? (i := 456) (by decide +kernel)⟩
set_option maxRecDepth 20000 in
theorem cdo_39 : iCO 39 := Or.inl ⟨rfl, List.mem_of_getElem? (i := 508) (by decide +kernel)⟩
set_option maxRecDepth 20000 in
theorem cdo_40 : iCO 40 := Or.inl ⟨rfl, List.mem_of_getElem? (i := 379) (by decide +kernel)⟩
set_option maxRecDepth 20000 in
theorem cdo_41 : iCO 41 := Or.inl ⟨rfl, List.mem_of_getElem? (i := 468) (by decide +kernel)⟩
set_option maxRecDepth 20000 in
theorem cdo_42 : iCO 42 := Or.inl ⟨rfl, List.mem_of_getElem? (i := 482) (by decide +kernel)⟩
set_option maxRecDepth 20000 in
theorem cdo_43 : iCO 43 := Or.inl ⟨rfl, List.mem_of_getElem? (i := 390) (by decide +kernel)⟩
set_option maxRecDepth 20000 in
theorem cdo_44 : iCO 44 := Or.inl ⟨rfl, List.mem_of_getElem? (i := 491) (by decide +kernel)⟩
set_option maxRecDepth 20000 in
theorem cdo_45 : iCO 45 := Or.inl ⟨rfl, List.mem_of_getElem? (i := 464) (by decide +kernel)⟩
set_option maxRecDepth 20000 in
theorem cdo_46 : iCO 46 := Or.inl ⟨rfl, List.mem_of_getElem? (i := 495) (by decide +kernel)⟩
set_option maxRecDepth 20000 in
theorem cdo_47 : iCO 47 := Or.inl ⟨rfl, List.mem_of_getElem? (i := 500) (by decide +kernel)⟩
set_option maxRecDepth 20000 in
theorem cdo_48 : iCO 48 := Or.inl ⟨rfl, List.mem_of_getElem? (i := 69) (by decide +kernel)⟩
set_option maxRecDepth 20000 in
theorem cdo_49 : iCO 49 := Or.inl ⟨rfl, List.mem_of_getElem? (i := 432) (by decide +kernel)⟩
set_option maxRecDepth 20000 in
theorem cdo_50 : iCO 50 := Or.inl ⟨rfl, List.mem_of_getElem? (i := 537) (by decide +kernel)⟩
set_option maxRecDepth 20000 in
theorem cdo_51 : iCO 51 := Or.inl ⟨rfl, List.mem_of_getElem? (i := 452) (by decide +kernel)⟩
set_option maxRecDepth 20000 in
theorem cdo_52 : iCO 52 := Or.inl ⟨rfl, List.mem_of_getElem? (i := 460) (by decide +kernel)⟩
set_option maxRecDepth 20000 in
theorem cdo_53 : iCO 53 := Or.inl ⟨rfl, List.mem_of_getElem? (i := 487) (by decide +kernel)⟩
set_option maxRecDepth 20000 in
theorem cdo_54 : iCO 54 := Or.inl ⟨rfl, List.mem_of_getElem? (i := 504) (by decide +kernel)⟩
set_option maxRecDepth 20000 in
theorem cdo_55 : iCO 55 := Or.inl ⟨rfl, List.mem_of_getElem? (i := 520) (by decide +kernel)⟩
set_option maxRecDepth 20000 in
theorem cdo_56 : iCO 56 := Or.inl ⟨rfl, List.mem_of_getElem? (i := 550) (by decide +kernel)⟩
set_option maxRecDepth 20000 in
theorem cdo_57 : iCO 57 := Or.inl ⟨rfl, List.mem_of_getElem? (i := 583) (by decide +kernel)⟩
set_option maxRecDepth 20000 in
theorem cdo_58 : iCO 58 := Or.inl ⟨rfl, List.mem_of_getElem? (i := 92) (by decide +kernel)⟩
set_option maxRecDepth 20000 in
theorem cdo_59 : iCO 59 := Or.inl ⟨rfl, List.mem_of_getElem? (i := 563) (by decide +kernel)⟩
set_option maxRecDepth 20000 in
theorem cdo_60 : iCO 60 := Or.inl ⟨rfl, List.mem_of_getElem? (i := 574) (by decide +kernel)⟩
set_option maxRecDepth 20000 in
theorem cdo_61 : iCO 61 := Or.inl ⟨rfl, List.mem_of_getElem? (i := 579) (by decide +kernel)⟩
set_option maxRecDepth 20000 in
theorem cdo_62 : iCO 62 := Or.inl ⟨rfl, List.mem_of_getElem? (i := 112) (by decide +kernel)⟩
set_option maxRecDepth 20000 in
theorem cdo_63 : iCO 63 := Or.inl ⟨rfl, List.mem_of_getElem? (i := 597) (by decide +kernel)⟩
set_option maxRecDepth 20000 in
theorem cdo_64 : iCO 64 := Or.inl ⟨rfl, List.mem_of_getElem? (i := 609) (by decide +kernel)⟩
set_option maxRecDepth 20000 in
theorem cdo_65 : iCO 65 := Or.inl ⟨rfl, List.mem_of_getElem? (i := 620) (by decide +kernel)⟩
set_option maxRecDepth 20000 in
theorem cdo_66 : iCO 66 := Or.inl ⟨rfl, List.mem_of_getElem? (i := 625) (by decide +kernel)⟩
set_option maxRecDepth 20000 in
theorem cdo_67 : iCO 67 := Or.inl ⟨rfl, List.mem_of_getElem? (i := 629) (by decide +kernel)⟩
set_option maxRecDepth 20000 in
theorem cdo_68 : iCO 68 := Or.inl ⟨rfl, List.mem_of_getElem? (i := 640) (by decide +kernel)⟩
set_option maxRecDepth 20000 in
theorem cdo_69 : iCO 69 := Or.inl ⟨rfl, List.mem_of_getElem? (i := 636) (by decide +kernel)⟩
set_option maxRecDepth 20000 in
theorem cdo_70 : iCO 70 := Or.inl ⟨rfl, List.mem_of_getElem? (i := 644) (by decide +kernel)⟩
set_option maxRecDepth 20000 in
theorem cdo_71 : iCO 71 := Or.inl ⟨rfl, List.mem_of_getElem? (i := 649) (by decide +kernel)⟩
set_option maxRecDepth 20000 in
theorem cdo_72 : iCO 72 := Or.inl ⟨rfl, List.mem_of_getElem? (i := 653) (by decide +kernel)⟩
set_option maxRecDepth 20000 in
theorem cdo_73 : iCO 73 := Or.inl ⟨rfl, List.mem_of_getElem? (i := 668) (by decide +kernel)⟩
set_option maxRecDepth 20000 in
theorem cdo_74 : iCO 74 := Or.inl ⟨rfl, List.mem_of_getElem? (i := 717) (by decide +kernel)⟩
set_option maxRecDepth 20000 in
theorem cdo_75 : iCO 75 := Or.inl ⟨rfl, List.mem_of_getElem? (i := 713) (by decide +kernel)⟩
set_option maxRecDepth 20000 in
theorem cdo_76 : iCO 76 := Or.inl ⟨rfl, List.mem_of_getElem? (i := 728) (by decide +kernel)⟩
set_option maxRecDepth 20000 in
theorem cdo_77 : iCO 77 := Or.inl ⟨rfl, List.mem_of_getElem? (i := 731) (by decide +kernel)⟩
set_option maxRecDepth 20000 in
theorem cdo_78 : iCO 78 := Or.inl ⟨rfl, List.mem_of_getElem? (i := 736) (by decide +kernel)⟩
set_option maxRecDepth 20000 in
theorem cdo_79 : iCO 79 := Or.inl ⟨rfl, List.mem_of_getElem? (i := 841) (by decide +kernel)⟩
set_option maxRecDepth 20000 in
theorem cdo_80 : iCO 80 := Or.inl ⟨rfl, List.mem_of_getElem? (i := 849) (by decide +kernel)⟩
set_option maxRecDepth 20000 in
theorem cdo_81 : iCO 81 := Or.inl ⟨rfl, List.mem_of_getElem? (i := 861) (by decide +kernel)⟩
set_option maxRecDepth 20000 in
theorem cdo_82 : iCO 82 := Or.inl ⟨rfl, List.mem_of_getElem? (i := 873) (by decide +kernel)⟩
set_option maxRecDepth 20000 in
theorem cdo_83 : iCO 83 := Or.inl ⟨rfl, List.mem_of_getElem? (i := 845) (by decide +kernel)⟩
set_option maxRecDepth 20000 in
theorem cdo_84 : iCO 84 := Or.inl ⟨rfl, List.mem_of_getElem? (i := 857) (by decide +kernel)⟩
set_option maxRecDepth 20000 in
theorem cdo_85 : iCO 85 := Or.inl ⟨rfl, List.mem_of_getElem? (i := 853) (by decide +kernel)⟩
set_option maxRecDepth 20000 in
theorem cdo_86 : iCO 86 := Or.inl ⟨rfl, List.mem_of_getElem? (i := 865) (by decide +kernel)⟩
set_option maxRecDepth 20000 in
theorem cdo_87 : iCO 87 := Or.inl ⟨rfl, List.mem_of_getElem? (i := 897) (by decide +kernel)⟩
set_option maxRecDepth 20000 in
theorem cdo_88 : iCO 88 := Or.inl ⟨rfl, List.mem_of_getElem? (i := 909) (by decide +kernel)⟩
set_option maxRecDepth 20000 in
theorem cdo_89 : iCO 89 := Or.inl ⟨rfl, List.mem_of_getElem? (i := 905) (by decide +kernel)⟩
set_option maxRecDepth 20000 in
theorem cdo_90 : iCO 90 := Or.inl ⟨rfl, List.mem_of_getElem? (i := 869) (by decide +kernel)⟩
set_option maxRecDepth 20000 in
theorem cdo_91 : iCO 91 := Or.inl ⟨rfl, List.mem_of_getElem? (i := 881) (by decide +kernel)⟩
set_option maxRecDepth 20000 in
theorem cdo_92 : iCO 92 := Or.inl ⟨rfl, List.mem_of_getElem? (i := 877) (by decide +kernel)⟩
set_option maxRecDepth 20000 in
theorem cdo_93 : iCO 93 := Or.inl ⟨rfl, List.mem_of_getElem? (i := 885) (by decide +kernel)⟩
set_option maxRecDepth 20000 in
theorem cdo_94 : iCO 94 := Or.inl ⟨rfl, List.mem_of_getElem? (i := 901) (by decide +kernel)⟩
set_option maxRecDepth 20000 in
theorem cdo_95 : iCO 95 := Or.inl ⟨rfl, List.mem_of_getElem? (i := 913) (by decide +kernel)⟩
set_option maxRecDepth 20000 in
theorem cdo_96 : iCO 96 := Or.inl ⟨rfl, List.mem_of_getElem? (i := 917) (by decide +kernel)⟩
set_option maxRecDepth 20000 in
theorem cdo_97 : iCO 97 := Or.inl ⟨rfl, List.mem_of_getElem? (i := 893) (by decide +kernel)⟩
set_option maxRecDepth 20000 in
theorem cdo_98 : iCO 98 := Or.inl ⟨rfl, List.mem_of_getElem? (i := 921) (by decide +kernel)⟩
set_option maxRecDepth 20000 in
theorem cdo_99 : iCO 99 := Or.inl ⟨rfl, List.mem_of_getElem? (i := 889) (by decide +kernel)⟩
set_option maxRecDepth 20000 in
theorem cdo_100 : iCO 100 := Or.inl ⟨rfl, List.mem_of_getElem? (i := 925) (by decide +kernel)⟩
set_option maxRecDepth 20000 in
theorem cdo_101 : iCO 101 := Or.inl ⟨rfl, List.mem_of_getElem? (i := 929) (by decide +kernel)⟩
set_option maxRecDepth 20000 in
theorem cdo_102 : iCO 102 := Or.inl ⟨rfl, List.mem_of_getElem? (i := 933) (by decide +kernel)⟩
set_option maxRecDepth 20000 in
theorem cdo_103 : iCO 103 := Or.inl ⟨rfl, List.mem_of_getElem? (i := 937) (by decide +kernel)⟩
set_option maxRecDepth 20000 in
theorem cdo_104 : iCO 104 := Or.inl ⟨rfl, List.mem_of_getElem? (i := 941) (by decide +kernel)⟩
set_option maxRecDepth 20000 in
theorem cdo_105 : iCO 105 := Or.inl ⟨rfl, List.mem_of_getElem? (i := 945) (by decide +kernel)⟩
set_option maxRecDepth 20000 in
theorem cdo_106 : iCO 106 := Or.inl ⟨rfl, List.mem_of_getElem? (i := 953) (by decide +kernel)⟩
set_option maxRecDepth 20000 in
theorem cdo_107 : iCO 107 := Or.inl ⟨rfl, List.mem_of_getElem? (i := 957) (by decide +kernel)⟩
set_option maxRecDepth 20000 in
theorem cdo_108 : iCO 108 := Or.inl ⟨rfl, List.mem_of_getElem? (i := 949) (by decide +kernel)⟩
set_option maxRecDepth 20000 in
theorem cdo_109 : iCO 109 := Or.inl ⟨rfl, List.mem_of_getElem? (i := 961) (by decide +kernel)⟩
set_option maxRecDepth 20000 in
theorem cdo_110 : iCO 110 := Or.inl ⟨rfl, List.mem_of_getElem? (i := 965) (by decide +kernel)⟩
set_option maxRecDepth 20000 in
theorem cdo_111 : iCO 111 := Or.inl ⟨rfl, List.mem_of_getElem? (i := 969) (by decide +kernel)⟩
set_option maxRecDepth 20000 in
theorem cdo_112 : iCO 112 := Or.inl ⟨rfl, List.mem_of_getElem? (i := 981) (by decide +kernel)⟩
set_option maxRecDepth 20000 in
theorem cdo_113 : iCO 113 := Or.inl ⟨rfl, List.mem_of_getElem? (i := 977) (by decide +kernel)⟩
set_option maxRecDepth 20000 in
theorem cdo_114 : iCO 114 := Or.inl ⟨rfl, List.mem_of_getElem? (i := 973) (by decide +kernel)⟩
set_option maxRecDepth 20000 in
theorem cdo_115 : iCO 115 := Or.inl ⟨rfl, List.mem_of_getElem? (i := 985) (by decide +kernel)⟩
set_option maxRecDepth 20000 in
theorem cdo_116 : iCO 116 := Or.inl ⟨rfl, List.mem_of_getElem? (i := 989) (by decide +kernel)⟩
set_option maxRecDepth 20000 in
theorem cdo_117 : iCO 117 := Or.inl ⟨rfl, List.mem_of_getElem? (i := 993) (by decide +kernel)⟩
set_option maxRecDepth 20000 in
theorem cdo_118 : iCO 118 := Or.inr (List.mem_of_getElem? (i := 199) (by decide +kernel))
set_option maxRecDepth 20000 in
theorem cdo_119 : iCO 119 := Or.inr (List.mem_of_getElem? (i := 306) (by decide +kernel))
set_option maxRecDepth 20000 in
theorem cdo_120 : iCO 120 := Or.inr (List.mem_of_getElem? (i := 328) (by decide +kernel))
set_option maxRecDepth 20000 in
theorem cdo_121 : iCO 121 := Or.inr (List.mem_of_getElem? (i := 335) (by decide +kernel))
set_option maxRecDepth 20000 in
theorem cdo_122 : iCO 122 := Or.inr (List.mem_of_getElem? (i := 347) (by decide +kernel))
set_option maxRecDepth 20000 in
theorem cdo_123 : iCO 123 := Or.inr (List.mem_of_getElem? (i := 435) (by decide +kernel))
set_option maxRecDepth 20000 in
theorem cdo_124 : iCO 124 := Or.inr (List.mem_of_getElem? (i := 444) (by decide +kernel))
set_option maxRecDepth 20000 in
theorem cdo_125 : iCO 125 := Or.inr (List.mem_of_getElem? (i := 511) (by decide +kernel))
set_option maxRecDepth 20000 in
theorem cdo_126 : iCO 126 := Or.inr (List.mem_of_getElem? (i := 529) (by decide +kernel))
set_option maxRecDepth 20000 in
theorem cdo_127 : iCO 127 := Or.inr (List.mem_of_getElem? (i := 540) (by decide +kernel))
set_option maxRecDepth 20000 in
theorem cdo_128 : iCO 128 := Or.inr (List.mem_of_getElem? (i := 566) (by decide +kernel))
set_option maxRecDepth 20000 in
theorem cdo_129 : iCO 129 := Or.inr (List.mem_of_getElem? (i := 588) (by decide +kernel))
set_option maxRecDepth 20000 in
theorem cdo_130 : iCO 130 := Or.inr (List.mem_of_getElem? (i := 600) (by decide +kernel))
set_option maxRecDepth 20000 in
theorem cdo_131 : iCO 131 := Or.inr (List.mem_of_getElem? (i := 612) (by decide +kernel))
set_option maxRecDepth 20000 in
theorem cdo_132 : iCO 132 := Or.inr (List.mem_of_getElem? (i := 658) (by decide +kernel))
set_option maxRecDepth 20000 in
theorem cdo_133 : iCO 133 := Or.inr (List.mem_of_getElem? (i := 681) (by decide +kernel))
set_option maxRecDepth 20000 in
theorem cdo_134 : iCO 134 := Or.inr (List.mem_of_getElem? (i := 698) (by decide +kernel))
set_option maxRecDepth 20000 in
theorem cdo_135 : iCO 135 := Or.inr (List.mem_of_getElem? (i := 705) (by decide +kernel))
set_option maxRecDepth 20000 in
theorem cdo_136 : iCO 136 := Or.inr (List.mem_of_getElem? (i := 720) (by decide +kernel))
set_option maxRecDepth 20000 in
theorem cdo_138 : iCO 138 := Or.inl ⟨rfl, List.mem_of_getElem? (i := 296) (by decide +kernel)⟩
set_option maxRecDepth 20000 in
theorem cdo_139 : iCO 139 := Or.inl ⟨rfl, List.mem_of_getElem? (i := 632) (by decide +kernel)⟩
end
section
/-! the rows of all methods and pools, joined: printed by gen5.py -/
theorem dmm_0 : ∀ ch ∈ mC 0, ∀ q ∈ ch, decode (iBy 0) q.1 = .ok q.2 ∧ iLen q.2.1 q.2.2 = true := by
  show ∀ ch ∈ mC_0, ∀ q ∈ ch, decode (iBy 0) q.1 = .ok q.2 ∧ iLen q.2.1 q.2.2 = true
  exact List.forall_mem_cons.mpr ⟨dm_0_0, fun _ h => absurd h List.not_mem_nil⟩
theorem dmm_1 : ∀ ch ∈ mC 1, ∀ q ∈ ch, decode (iBy 1) q.1 = .ok q.2 ∧ iLen q.2.1 q.2.2 = true := by
  show ∀ ch ∈ mC_1, ∀ q ∈ ch, decode (iBy 1) q.1 = .ok q.2 ∧ iLen q.2.1 q.2.2 = true
  exact List.forall_mem_cons.mpr ⟨dm_1_0, List.forall_mem_cons.mpr ⟨dm_1_1, fun _ h => absurd h List.not_mem_nil⟩⟩
theorem dmm_2 : ∀ ch ∈ mC 2, ∀ q ∈ ch, decode (iBy 2) q.1 = .ok q.2 ∧ iLen q.2.1 q.2.2 = true := by
  show ∀ ch ∈ mC_2, ∀ q ∈ ch, decode (iBy 2) q.1 = .ok q.2 ∧ iLen q.2.1 q.2.2 = true
  exact List.forall_mem_cons.mpr ⟨dm_2_0, fun _ h => absurd h List.not_mem_nil⟩
theorem dmm_3 : ∀ ch ∈ mC 3, ∀ q ∈ ch, decode (iBy 3) q.1 = .ok q.2 ∧ iLen q.2.1 q.2.2 = true := by
  show ∀ ch ∈ mC_3, ∀ q ∈ ch, decode (iBy 3) q.1 = .ok q.2 ∧ iLen q.2.1 q.2.2 = true
  exact List.forall_mem_cons.mpr ⟨dm_3_0, fun _ h => absurd h List.not_mem_nil⟩
theorem dmm_4 : ∀ ch ∈ mC 4, ∀ q ∈ ch, decode (iBy 4) q.1 = .ok q.2 ∧ iLen q.2.1 q.2.2 = true := by
  show ∀ ch ∈ mC_4, ∀ q ∈ ch, decode (iBy 4) q.1 = .ok q.2 ∧ iLen q.2.1 q.2.2 = true
  exact List.forall_mem_cons.mpr ⟨dm_4_0, fun _ h => absurd h List.not_mem_nil⟩
theorem dmm_5 : ∀ ch ∈ mC 5, ∀ q ∈ ch, decode (iBy 5) q.1 = .ok q.2 ∧ iLen q.2.1 q.2.2 = true := by
  show ∀ ch ∈ mC_5, ∀ q ∈ ch, decode (iBy 5) q.1 = .ok q.2 ∧ iLen q.2.1 q.2.2 = true
  exact List.forall_mem_cons.mpr ⟨dm_5_0, fun _ h => absurd h List.not_mem_nil⟩
theorem dmm_6 : ∀ ch ∈ mC 6, ∀ q ∈ ch, decode (iBy 6) q.1 = .ok q.2 ∧ iLen q.2.1 q.2.2 = true := by
  show ∀ ch ∈ mC_6, ∀ q ∈ ch, decode (iBy 6) q.1 = .ok q.2 ∧ iLen q.2.1 q.2.2 = true
  exact List.forall_mem_cons.mpr ⟨dm_6_0, List.forall_mem_cons.mpr ⟨dm_6_1, fun _ h => absurd h List.not_mem_nil⟩⟩
theorem dmm_7 : ∀ ch ∈ mC 7, ∀ q ∈ ch, decode (iBy 7) q.1 = .ok q.2 ∧ iLen q.2.1 q.2.2 = true := by
  show ∀ ch ∈ mC_7, ∀ q ∈ ch, decode (iBy 7) q.1 = .ok q.2 ∧ iLen q.2.1 q.2.2 = true
  exact List.forall_mem_cons.mpr ⟨dm_7_0, fun _ h => absurd h List.not_mem_nil⟩
theorem dmm_8 : ∀ ch ∈ mC 8, ∀ q ∈ ch, decode (iBy 8) q.1 = .ok q.2 ∧ iLen q.2.1 q.2.2 = true := by
  show ∀ ch ∈ mC_8, ∀ q ∈ ch, decode (iBy 8) q.1 = .ok q.2 ∧ iLen q.2.1 q.2.2 = true
  exact List.forall_mem_cons.mpr ⟨dm_8_0, fun _ h => absurd h List.not_mem_nil⟩
theorem dmm_9 : ∀ ch ∈ mC 9, ∀ q ∈ ch, decode (iBy 9) q.1 = .ok q.2 ∧ iLen q.2.1 q.2.2 = true := by
  show ∀ ch ∈ mC_9, ∀ q ∈ ch, decode (iBy 9) q.1 = .ok q.2 ∧ iLen q.2.1 q.2.2 = true
  exact List.forall_mem_cons.mpr ⟨dm_9_0, fun _ h => absurd h List.not_mem_nil⟩
theorem dmm_10 : ∀ ch ∈ mC 10, ∀ q ∈ ch, decode (iBy 10) q.1 = .ok q.2 ∧ iLen q.2.1 q.2.2 = true := by
  show ∀ ch ∈ mC_10, ∀ q ∈ ch, decode (iBy 10) q.1 = .ok q.2 ∧ iLen q.2.1 q.2.2 = true
  exact List.forall_mem_cons.mpr ⟨dm_10_0, fun _ h => absurd h List.not_mem_nil⟩
theorem dmm_11 : ∀ ch ∈ mC 11, ∀ q ∈ ch, decode (iBy 11) q.1 = .ok q.2 ∧ iLen q.2.1 q.2.2 = true := by
  show ∀ ch ∈ mC_11, ∀ q ∈ ch, decode (iBy 11) q.1 = .ok q.2 ∧ iLen q.2.1 q.2.2 = true
  exact List.forall_mem_cons.mpr ⟨dm_11_0, fun _ h => absurd h List.not_mem_nil⟩
theorem dmm_12 : ∀ ch ∈ mC 12, ∀ q ∈ ch, decode (iBy 12) q.1 = .ok q.2 ∧ iLen q.2.1 q.2.2 = true := by
  show ∀ ch ∈ mC_12, ∀ q ∈ ch, decode (iBy 12) q.1 = .ok q.2 ∧ iLen q.2.1 q.2.2 = true
  exact List.forall_mem_cons.mpr ⟨dm_12_0, fun _ h => absurd h List.not_mem_nil⟩
theorem dmm_13 : ∀ ch ∈ mC 13, ∀ q ∈ ch, decode (iBy 13) q.1 = .ok q.2 ∧ iLen q.2.1 q.2.2 = true := by
  show ∀ ch ∈ mC_13, ∀ q ∈ ch, decode (iBy 13) q.1 = .ok q.2 ∧ iLen q.2.1 q.2.2 = true
  exact List.forall_mem_cons.mpr ⟨dm_13_0, fun _ h => absurd h List.not_mem_nil⟩
theorem dmm_14 : ∀ ch ∈ mC 14, ∀ q ∈ ch, decode (iBy 14) q.1 = .ok q.2 ∧ iLen q.2.1 q.2.2 = true := by
  show ∀ ch ∈ mC_14, ∀ q ∈ ch, decode (iBy 14) q.1 = .ok q.2 ∧ iLen q.2.1 q.2.2 = true
  exact List.forall_mem_cons.mpr ⟨dm_14_0, fun _ h => absurd h List.not_mem_nil⟩
theorem dmm_15 : ∀ ch ∈ mC 15, ∀ q ∈ ch, decode (iBy 15) q.1 = .ok q.2 ∧ iLen q.2.1 q.2.2 = true := by
  show ∀ ch ∈ mC_15, ∀ q ∈ ch, decode (iBy 15) q.1 = .ok q.2 ∧ iLen q.2.1 q.2.2 = true
  exact List.forall_mem_cons.mpr ⟨dm_15_0, List.forall_mem_cons.mpr ⟨dm_15_1, fun _ h => absurd h List.not_mem_nil⟩⟩
theorem dmm_16 : ∀ ch ∈ mC 16, ∀ q ∈ ch, decode (iBy 16) q.1 = .ok q.2 ∧ iLen q.2.1 q.2.2 = true := by
  show ∀ ch ∈ mC_16, ∀ q ∈ ch, decode (iBy 16) q.1 = .ok q.2 ∧ iLen q.2.1 q.2.2 = true
  exact List.forall_mem_cons.mpr ⟨dm_16_0, fun _ h => absurd h List.not_mem_nil⟩
theorem dmm_17 : ∀ ch ∈ mC 17, ∀ q ∈ ch, decode (iBy 17) q.1 = .ok q.2 ∧ iLen q.2.1 q.2.2 = true := by
  show ∀ ch ∈ mC_17, ∀ q ∈ ch, decode (iBy 17) q.1 = .ok q.2 ∧ iLen q.2.1 q.2.2 = true
  exact List.forall_mem_cons.mpr ⟨dm_17_0, List.forall_mem_cons.mpr ⟨dm_17_1, fun _ h => absurd h List.not_mem_nil⟩⟩
theorem dmm_18 : ∀ ch ∈ mC 18, ∀ q ∈ ch, decode (iBy 18) q.1 = .ok q.2 ∧ iLen q.2.1 q.2.2 = true := by
  show ∀ ch ∈ mC_18, ∀ q ∈ ch, decode (iBy 18) q.1 = .ok q.2 ∧ iLen q.2.1 q.2.2 = true
  exact List.forall_mem_cons.mpr ⟨dm_18_0, fun _ h => absurd h List.not_mem_nil⟩
theorem dmm_19 : ∀ ch ∈ mC 19, ∀ q ∈ ch, decode (iBy 19) q.1 = .ok q.2 ∧ iLen q.2.1 q.2.2 = true := by
  show ∀ ch ∈ mC_19, ∀ q ∈ ch, decode (iBy 19) q.1 = .ok q.2 ∧ iLen q.2.1 q.2.2 = true
  exact List.forall_mem_cons.mpr ⟨dm_19_0, fun _ h => absurd h List.not_mem_nil⟩
theorem dmm_20 : ∀ ch ∈ mC 20, ∀ q ∈ ch, decode (iBy 20) q.1 = .ok q.2 ∧ iLen q.2.1 q.2.2 = true := by
  show ∀ ch ∈ mC_20, ∀ q ∈ ch, decode (iBy 20) q.1 = .ok q.2 ∧ iLen q.2.1 q.2.2 = true
  exact List.forall_mem_cons.mpr ⟨dm_20_0, fun _ h => absurd h List.not_mem_nil⟩
theorem dmm_21 : ∀ ch ∈ mC 21, ∀ q ∈ ch, decode (iBy 21) q.1 = .ok q.2 ∧ iLen q.2.1 q.2.2 = true := by
  show ∀ ch ∈ mC_21, ∀ q ∈ ch, decode (iBy 21) q.1 = .ok q.2 ∧ iLen q.2.1 q.2.2 = true
  exact List.forall_mem_cons.mpr ⟨dm_21_0, fun _ h => absurd h List.not_mem_nil⟩
theorem dmm_22 : ∀ ch ∈ mC 22, ∀ q ∈ ch, decode (iBy 22) q.1 = .ok q.2 ∧ iLen q.2.1 q.2.2 = true := by
  show ∀ ch ∈ mC_22, ∀ q ∈ ch, decode (iBy 22) q.1 = .ok q.2 ∧ iLen q.2.1 q.2.2 = true
  exact List.forall_mem_cons.mpr ⟨dm_22_0, fun _ h => absurd h List.not_mem_nil⟩
theorem dmm_23 : ∀ ch ∈ mC 23, ∀ q ∈ ch, decode (iBy 23) q.1 = .ok q.2 ∧ iLen q.2.1 q.2.2 = true := by
  show ∀ ch ∈ mC_23, ∀ q ∈ ch, decode (iBy 23) q.1 = .ok q.2 ∧ iLen q.2.1 q.2.2 = true
  exact List.forall_mem_cons.mpr ⟨dm_23_0, fun _ h => absurd h List.not_mem_nil⟩
theorem dmm_24 : ∀ ch ∈ mC 24, ∀ q ∈ ch, decode (iBy 24) q.1 = .ok q.2 ∧ iLen q.2.1 q.2.2 = true := by
  show ∀ ch ∈ mC_24, ∀ q ∈ ch, decode (iBy 24) q.1 = .ok q.2 ∧ iLen q.2.1 q.2.2 = true
  exact List.forall_mem_cons.mpr ⟨dm_24_0, fun _ h => absurd h List.not_mem_nil⟩
theorem dmm_25 : ∀ ch ∈ mC 25, ∀ q ∈ ch, decode (iBy 25) q.1 = .ok q.2 ∧ iLen q.2.1 q.2.2 = true := by
  show ∀ ch ∈ mC_25, ∀ q ∈ ch, decode (iBy 25) q.1 = .ok q.2 ∧ iLen q.2.1 q.2.2 = true
  exact List.forall_mem_cons.mpr ⟨dm_25_0, fun _ h => absurd h List.not_mem_nil⟩
theorem dmm_26 : ∀ ch ∈ mC 26, ∀ q ∈ ch, decode (iBy 26) q.1 = .ok q.2 ∧ iLen q.2.1 q.2.2 = true := by
  show ∀ ch ∈ mC_26, ∀ q ∈ ch, decode (iBy 26) q.1 = .ok q.2 ∧ iLen q.2.1 q.2.2 = true
  exact List.forall_mem_cons.mpr ⟨dm_26_0, fun _ h => absurd h List.not_mem_nil⟩
theorem dmm_27 : ∀ ch ∈ mC 27, ∀ q ∈ ch, decode (iBy 27) q.1 = .ok q.2 ∧ iLen q.2.1 q.2.2 = true := by
  show ∀ ch ∈ mC_27, ∀ q ∈ ch, decode (iBy 27) q.1 = .ok q.2 ∧ iLen q.2.1 q.2.2 = true
  exact List.forall_mem_cons.mpr ⟨dm_27_0, fun _ h => absurd h List.not_mem_nil⟩
theorem dmm_28 : ∀ ch ∈ mC 28, ∀ q ∈ ch, decode (iBy 28) q.1 = .ok q.2 ∧ iLen q.2.1 q.2.2 = true := by
  show ∀ ch ∈ mC_28, ∀ q ∈ ch, decode (iBy 28) q.1 = .ok q.2 ∧ iLen q.2.1 q.2.2 = true
  exact List.forall_mem_cons.mpr ⟨dm_28_0, fun _ h => absurd h List.not_mem_nil⟩
theorem dmm_29 : ∀ ch ∈ mC 29, ∀ q ∈ ch, decode (iBy 29) q.1 = .ok q.2 ∧ iLen q.2.1 q.2.2 = true := by
  show ∀ ch ∈ mC_29, ∀ q ∈ ch, decode (iBy 29) q.1 = .ok q.2 ∧ iLen q.2.1 q.2.2 = true
  exact List.forall_mem_cons.mpr ⟨dm_29_0, fun _ h => absurd h List.not_mem_nil⟩
theorem dmm_30 : ∀ ch ∈ mC 30, ∀ q ∈ ch, decode (iBy 30) q.1 = .ok q.2 ∧ iLen q.2.1 q.2.2 = true := by
  show ∀ ch ∈ mC_30, ∀ q ∈ ch, decode (iBy 30) q.1 = .ok q.2 ∧ iLen q.2.1 q.2.2 = true
  exact List.forall_mem_cons.mpr ⟨dm_30_0, fun _ h => absurd h List.not_mem_nil⟩
theorem dmm_31 : ∀ ch ∈ mC 31, ∀ q ∈ ch, decode (iBy 31) q.1 = .ok q.2 ∧ iLen q.2.1 q.2.2 = true := by
  show ∀ ch ∈ mC_31, ∀ q ∈ ch, decode (iBy 31) q.1 = .ok q.2 ∧ iLen q.2.1 q.2.2 = true
  exact List.forall_mem_cons.mpr ⟨dm_31_0, fun _ h => absurd h List.not_mem_nil⟩
theorem dmm_32 : ∀ ch ∈ mC 32, ∀ q ∈ ch, decode (iBy 32) q.1 = .ok q.2 ∧ iLen q.2.1 q.2.2 = true := by
  show ∀ ch ∈ mC_32, ∀ q ∈ ch, decode (iBy 32) q.1 = .ok q.2 ∧ iLen q.2.1 q.2.2 = true
  exact List.forall_mem_cons.mpr ⟨dm_32_0, fun _ h => absurd h List.not_mem_nil⟩
theorem dmm_33 : ∀ ch ∈ mC 33, ∀ q ∈ ch, decode (iBy 33) q.1 = .ok q.2 ∧ iLen q.2.1 q.2.2 = true := by
  show ∀ ch ∈ mC_33, ∀ q ∈ ch, decode (iBy 33) q.1 = .ok q.2 ∧ iLen q.2.1 q.2.2 = true
  exact List.forall_mem_cons.mpr ⟨dm_33_0, fun _ h => absurd h List.not_mem_nil⟩
theorem dmm_34 : ∀ ch ∈ mC 34, ∀ q ∈ ch, decode (iBy 34) q.1 = .ok q.2 ∧ iLen q.2.1 q.2.2 = true := by
  show ∀ ch ∈ mC_34, ∀ q ∈ ch, decode (iBy 34) q.1 = .ok q.2 ∧ iLen q.2.1 q.2.2 = true
  exact List.forall_mem_cons.mpr ⟨dm_34_0, fun _ h => absurd h List.not_mem_nil⟩
theorem dmm_35 : ∀ ch ∈ mC 35, ∀ q ∈ ch, decode (iBy 35) q.1 = .ok q.2 ∧ iLen q.2.1 q.2.2 = true := by
  show ∀ ch ∈ mC_35, ∀ q ∈ ch, decode (iBy 35) q.1 = .ok q.2 ∧ iLen q.2.1 q.2.2 = true
  exact List.forall_mem_cons.mpr ⟨dm_35_0, fun _ h => absurd h List.not_mem_nil⟩
theorem dmm_36 : ∀ ch ∈ mC 36, ∀ q ∈ ch, decode (iBy 36) q.1 = .ok q.2 ∧ iLen q.2.1 q.2.2 = true := by
  show ∀ ch ∈ mC_36, ∀ q ∈ ch, decode (iBy 36) q.1 = .ok q.2 ∧ iLen q.2.1 q.2.2 = true
  exact List.forall_mem_cons.mpr ⟨dm_36_0, fun _ h => absurd h List.not_mem_nil⟩
theorem dmm_37 : ∀ ch ∈ mC 37, ∀ q ∈ ch, decode (iBy 37) q.1 = .ok q.2 ∧ iLen q.2.1 q.2.2 = true := by
  show ∀ ch ∈ mC_37, ∀ q ∈ ch, decode (iBy 37) q.1 = .ok q.2 ∧ iLen q.2.1 q.2.2 = true
  exact List.forall_mem_cons.mpr ⟨dm_37_0, fun _ h => absurd h List.not_mem_nil⟩
theorem dmm_38 : ∀ ch ∈ mC 38, ∀ q ∈ ch, decode (iBy 38) q.1 = .ok q.2 ∧ iLen q.2.1 q.2.2 = true := by
  show ∀ ch ∈ mC_38, ∀ q ∈ ch, decode (iBy 38) q.1 = .ok q.2 ∧ iLen q.2.1 q.2.2 = true
  exact List.forall_mem_cons.mpr ⟨dm_38_0, fun _ h => absurd h List.not_mem_nil⟩
theorem dmm_39 : ∀ ch ∈ mC 39, ∀ q ∈ ch, decode (iBy 39) q.1 = .ok q.2 ∧ iLen q.2.1 q.2.2 = true := by
  show ∀ ch ∈ mC_39, ∀ q ∈ ch, decode (iBy 39) q.1 = .ok q.2 ∧ iLen q.2.1 q.2.2 = true
  exact List.forall_mem_cons.mpr ⟨dm_39_0, fun _ h => absurd h List.not_mem_nil⟩
theorem dmm_40 : ∀ ch ∈ mC 40, ∀ q ∈ ch, decode (iBy 40) q.1 = .ok q.2 ∧ iLen q.2.1 q.2.2 = true := by
  show ∀ ch ∈ mC_40, ∀ q ∈ ch, decode (iBy 40) q.1 = .ok q.2 ∧ iLen q.2.1 q.2.2 = true
  exact List.forall_mem_cons.mpr ⟨dm_40_0, fun _ h => absurd h List.not_mem_nil⟩
theorem dmm_41 : ∀ ch ∈ mC 41, ∀ q ∈ ch, decode (iBy 41) q.1 = .ok q.2 ∧ iLen q.2.1 q.2.2 = true := by
  show ∀ ch ∈ mC_41, ∀ q ∈ ch, decode (iBy 41) q.1 = .ok q.2 ∧ iLen q.2.1 q.2.2 = true
  exact List.forall_mem_cons.mpr ⟨dm_41_0, fun _ h => absurd h List.not_mem_nil⟩
theorem dmm_42 : ∀ ch ∈ mC 42, ∀ q ∈ ch, decode (iBy 42) q.1 = .ok q.2 ∧ iLen q.2.1 q.2.2 = true := by
  show ∀ ch ∈ mC_42, ∀ q ∈ ch, decode (iBy 42) q.1 = .ok q.2 ∧ iLen q.2.1 q.2.2 = true
  exact List.forall_mem_cons.mpr ⟨dm_42_0, fun _ h => absurd h List.not_mem_nil⟩
theorem dmm_43 : ∀ ch ∈ mC 43, ∀ q ∈ ch, decode (iBy 43) q.1 = .ok q.2 ∧ iLen q.2.1 q.2.2 = true := by
  show ∀ ch ∈ mC_43, ∀ q ∈ ch, decode (iBy 43) q.1 = .ok q.2 ∧ iLen q.2.1 q.2.2 = true
  exact List.forall_mem_cons.mpr ⟨dm_43_0, fun _ h => absurd h List.not_mem_nil⟩
theorem dmm_44 : ∀ ch ∈ mC 44, ∀ q ∈ ch, decode (iBy 44) q.1 = .ok q.2 ∧ iLen q.2.1 q.2.2 = true := by
  show ∀ ch ∈ mC_44, ∀ q ∈ ch, decode (iBy 44) q.1 = .ok q.2 ∧ iLen q.2.1 q.2.2 = true
  exact List.forall_mem_cons.mpr ⟨dm_44_0, fun _ h => absurd h List.not_mem_nil⟩
theorem dmm_45 : ∀ ch ∈ mC 45, ∀ q ∈ ch, decode (iBy 45) q.1 = .ok q.2 ∧ iLen q.2.1 q.2.2 = true := by
  show ∀ ch ∈ mC_45, ∀ q ∈ ch, decode (iBy 45) q.1 = .ok q.2 ∧ iLen q.2.1 q.2.2 = true
  exact List.forall_mem_cons.mpr ⟨dm_45_0, fun _ h => absurd h List.not_mem_nil⟩
theorem dmm_46 : ∀ ch ∈ mC 46, ∀ q ∈ ch, decode (iBy 46) q.1 = .ok q.2 ∧ iLen q.2.1 q.2.2 = true := by
  show ∀ ch ∈ mC_46, ∀ q ∈ ch, decode (iBy 46) q.1 = .ok q.2 ∧ iLen q.2.1 q.2.2 = true
  exact List.forall_mem_cons.mpr ⟨dm_46_0, List.forall_mem_cons.mpr ⟨dm_46_1, fun _ h => absurd h List.not_mem_nil⟩⟩
theorem dmm_47 : ∀ ch ∈ mC 47, ∀ q ∈ ch, decode (iBy 47) q.1 = .ok q.2 ∧ iLen q.2.1 q.2.2 = true := by
  show ∀ ch ∈ mC_47, ∀ q ∈ ch, decode (iBy 47) q.1 = .ok q.2 ∧ iLen q.2.1 q.2.2 = true
  exact List.forall_mem_cons.mpr ⟨dm_47_0, fun _ h => absurd h List.not_mem_nil⟩
theorem dmm_48 : ∀ ch ∈ mC 48, ∀ q ∈ ch, decode (iBy 48) q.1 = .ok q.2 ∧ iLen q.2.1 q.2.2 = true := by
  show ∀ ch ∈ mC_48, ∀ q ∈ ch, decode (iBy 48) q.1 = .ok q.2 ∧ iLen q.2.1 q.2.2 = true
  exact List.forall_mem_cons.mpr ⟨dm_48_0, fun _ h => absurd h List.not_mem_nil⟩
theorem dmm_49 : ∀ ch ∈ mC 49, ∀ q ∈ ch, decode (iBy 49) q.1 = .ok q.2 ∧ iLen q.2.1 q.2.2 = true := by
  show ∀ ch ∈ mC_49, ∀ q ∈ ch, decode (iBy 49) q.1 = .ok q.2 ∧ iLen q.2.1 q.2.2 = true
  exact List.forall_mem_cons.mpr ⟨dm_49_0, fun _ h => absurd h List.not_mem_nil⟩
theorem dmm_50 : ∀ ch ∈ mC 50, ∀ q ∈ ch, decode (iBy 50) q.1 = .ok q.2 ∧ iLen q.2.1 q.2.2 = true := by
  show ∀ ch ∈ mC_50, ∀ q ∈ ch, decode (iBy 50) q.1 = .ok q.2 ∧ iLen q.2.1 q.2.2 = true
  exact List.forall_mem_cons.mpr ⟨dm_50_0, fun _ h => absurd h List.not_mem_nil⟩
theorem dmm_51 : ∀ ch ∈ mC 51, ∀ q ∈ ch, decode (iBy 51) q.1 = .ok q.2 ∧ iLen q.2.1 q.2.2 = true := by
  show ∀ ch ∈ mC_51, ∀ q ∈ ch, decode (iBy 51) q.1 = .ok q.2 ∧ iLen q.2.1 q.2.2 = true
  exact List.forall_mem_cons.mpr ⟨dm_51_0, fun _ h => absurd h List.not_mem_nil⟩
theorem dmm_52 : ∀ ch ∈ mC 52, ∀ q ∈ ch, decode (iBy 52) q.1 = .ok q.2 ∧ iLen q.2.1 q.2.2 = true := by
  show ∀ ch ∈ mC_52, ∀ q ∈ ch, decode (iBy 52) q.1 = .ok q.2 ∧ iLen q.2.1 q.2.2 = true
  exact List.forall_mem_cons.mpr ⟨dm_52_0, List.forall_mem_cons.mpr ⟨dm_52_1, fun _ h => absurd h List.not_mem_nil⟩⟩
theorem dmm_53 : ∀ ch ∈ mC 53, ∀ q ∈ ch, decode (iBy 53) q.1 = .ok q.2 ∧ iLen q.2.1 q.2.2 = true := by
  show ∀ ch ∈ mC_53, ∀ q ∈ ch, decode (iBy 53) q.1 = .ok q.2 ∧ iLen q.2.1 q.2.2 = true
  exact List.forall_mem_cons.mpr ⟨dm_53_0, fun _ h => absurd h List.not_mem_nil⟩
theorem dmm_54 : ∀ ch ∈ mC 54, ∀ q ∈ ch, decode (iBy 54) q.1 = .ok q.2 ∧ iLen q.2.1 q.2.2 = true := by
  show ∀ ch ∈ mC_54, ∀ q ∈ ch, decode (iBy 54) q.1 = .ok q.2 ∧ iLen q.2.1 q.2.2 = true
  exact List.forall_mem_cons.mpr ⟨dm_54_0, fun _ h => absurd h List.not_mem_nil⟩
theorem dmm_55 : ∀ ch ∈ mC 55, ∀ q ∈ ch, decode (iBy 55) q.1 = .ok q.2 ∧ iLen q.2.1 q.2.2 = true := by
  show ∀ ch ∈ mC_55, ∀ q ∈ ch, decode (iBy 55) q.1 = .ok q.2 ∧ iLen q.2.1 q.2.2 = true
  exact List.forall_mem_cons.mpr ⟨dm_55_0, List.forall_mem_cons.mpr ⟨dm_55_1, fun _ h => absurd h List.not_mem_nil⟩⟩
theorem dmm_56 : ∀ ch ∈ mC 56, ∀ q ∈ ch, decode (iBy 56) q.1 = .ok q.2 ∧ iLen q.2.1 q.2.2 = true := by
  show ∀ ch ∈ mC_56, ∀ q ∈ ch, decode (iBy 56) q.1 = .ok q.2 ∧ iLen q.2.1 q.2.2 = true
  exact List.forall_mem_cons.mpr ⟨dm_56_0, fun _ h => absurd h List.not_mem_nil⟩
theorem dmm_57 : ∀ ch ∈ mC 57, ∀ q ∈ ch, decode (iBy 57) q.1 = .ok q.2 ∧ iLen q.2.1 q.2.2 = true := by
  show ∀ ch ∈ mC_57, ∀ q ∈ ch, decode (iBy 57) q.1 = .ok q.2 ∧ iLen q.2.1 q.2.2 = true
  exact List.forall_mem_cons.mpr ⟨dm_57_0, fun _ h => absurd h List.not_mem_nil⟩
theorem dmm_58 : ∀ ch ∈ mC 58, ∀ q ∈ ch, decode (iBy 58) q.1 = .ok q.2 ∧ iLen q.2.1 q.2.2 = true := by
  show ∀ ch ∈ mC_58, ∀ q ∈ ch, decode (iBy 58) q.1 = .ok q.2 ∧ iLen q.2.1 q.2.2 = true
  exact List.forall_mem_cons.mpr ⟨dm_58_0, fun _ h => absurd h List.not_mem_nil⟩
theorem dmm_59 : ∀ ch ∈ mC 59, ∀ q ∈ ch, decode (iBy 59) q.1 = .ok q.2 ∧ iLen q.2.1 q.2.2 = true := by
  show ∀ ch ∈ mC_59, ∀ q ∈ ch, decode (iBy 59) q.1 = .ok q.2 ∧ iLen q.2.1 q.2.2 = true
  exact List.forall_mem_cons.mpr ⟨dm_59_0, fun _ h => absurd h List.not_mem_nil⟩
theorem dmm_60 : ∀ ch ∈ mC 60, ∀ q ∈ ch, decode (iBy 60) q.1 = .ok q.2 ∧ iLen q.2.1 q.2.2 = true := by
  show ∀ ch ∈ mC_60, ∀ q ∈ ch, decode (iBy 60) q.1 = .ok q.2 ∧ iLen q.2.1 q.2.2 = true
  exact List.forall_mem_cons.mpr ⟨dm_60_0, fun _ h => absurd h List.not_mem_nil⟩
theorem dmm_61 : ∀ ch ∈ mC 61, ∀ q ∈ ch, decode (iBy 61) q.1 = .ok q.2 ∧ iLen q.2.1 q.2.2 = true := by
  show ∀ ch ∈ mC_61, ∀ q ∈ ch, decode (iBy 61) q.1 = .ok q.2 ∧ iLen q.2.1 q.2.2 = true
  exact List.forall_mem_cons.mpr ⟨dm_61_0, List.forall_mem_cons.mpr ⟨dm_61_1, fun _ h => absurd h List.not_mem_nil⟩⟩
theorem dmm_62 : ∀ ch ∈ mC 62, ∀ q ∈ ch, decode (iBy 62) q.1 = .ok q.2 ∧ iLen q.2.1 q.2.2 = true := by
  show ∀ ch ∈ mC_62, ∀ q ∈ ch, decode (iBy 62) q.1 = .ok q.2 ∧ iLen q.2.1 q.2.2 = true
  exact List.forall_mem_cons.mpr ⟨dm_62_0, fun _ h => absurd h List.not_mem_nil⟩
theorem dmm_63 : ∀ ch ∈ mC 63, ∀ q ∈ ch, decode (iBy 63) q.1 = .ok q.2 ∧ iLen q.2.1 q.2.2 = true := by
  show ∀ ch ∈ mC_63, ∀ q ∈ ch, decode (iBy 63) q.1 = .ok q.2 ∧ iLen q.2.1 q.2.2 = true
  exact List.forall_mem_cons.mpr ⟨dm_63_0, fun _ h => absurd h List.not_mem_nil⟩
theorem dmm_64 : ∀ ch ∈ mC 64, ∀ q ∈ ch, decode (iBy 64) q.1 = .ok q.2 ∧ iLen q.2.1 q.2.2 = true := by
  show ∀ ch ∈ mC_64, ∀ q ∈ ch, decode (iBy 64) q.1 = .ok q.2 ∧ iLen q.2.1 q.2.2 = true
  exact List.forall_mem_cons.mpr ⟨dm_64_0, fun _ h => absurd h List.not_mem_nil⟩
theorem dmm_65 : ∀ ch ∈ mC 65, ∀ q ∈ ch, decode (iBy 65) q.1 = .ok q.2 ∧ iLen q.2.1 q.2.2 = true := by
  show ∀ ch ∈ mC_65, ∀ q ∈ ch, decode (iBy 65) q.1 = .ok q.2 ∧ iLen q.2.1 q.2.2 = true
  exact List.forall_mem_cons.mpr ⟨dm_65_0, fun _ h => absurd h List.not_mem_nil⟩
theorem dmm_66 : ∀ ch ∈ mC 66, ∀ q ∈ ch, decode (iBy 66) q.1 = .ok q.2 ∧ iLen q.2.1 q.2.2 = true := by
  show ∀ ch ∈ mC_66, ∀ q ∈ ch, decode (iBy 66) q.1 = .ok q.2 ∧ iLen q.2.1 q.2.2 = true
  exact List.forall_mem_cons.mpr ⟨dm_66_0, List.forall_mem_cons.mpr ⟨dm_66_1, fun _ h => absurd h List.not_mem_nil⟩⟩
theorem dmm_67 : ∀ ch ∈ mC 67, ∀ q ∈ ch, decode (iBy 67) q.1 = .ok q.2 ∧ iLen q.2.1 q.2.2 = true := by
  show ∀ ch ∈ mC_67, ∀ q ∈ ch, decode (iBy 67) q.1 = .ok q.2 ∧ iLen q.2.1 q.2.2 = true
  exact List.forall_mem_cons.mpr ⟨dm_67_0, fun _ h => absurd h List.not_mem_nil⟩
theorem dmm_68 : ∀ ch ∈ mC 68, ∀ q ∈ ch, decode (iBy 68) q.1 = .ok q.2 ∧ iLen q.2.1 q.2.2 = true := by
  show ∀ ch ∈ mC_68, ∀ q ∈ ch, decode (iBy 68) q.1 = .ok q.2 ∧ iLen q.2.1 q.2.2 = true
  exact List.forall_mem_cons.mpr ⟨dm_68_0, List.forall_mem_cons.mpr ⟨dm_68_1, fun _ h => absurd h List.not_mem_nil⟩⟩
theorem dmm_69 : ∀ ch ∈ mC 69, ∀ q ∈ ch, decode (iBy 69) q.1 = .ok q.2 ∧ iLen q.2.1 q.2.2 = true := by
  show ∀ ch ∈ mC_69, ∀ q ∈ ch, decode (iBy 69) q.1 = .ok q.2 ∧ iLen q.2.1 q.2.2 = true
  exact List.forall_mem_cons.mpr ⟨dm_69_0, fun _ h => absurd h List.not_mem_nil⟩
theorem dmm_70 : ∀ ch ∈ mC 70, ∀ q ∈ ch, decode (iBy 70) q.1 = .ok q.2 ∧ iLen q.2.1 q.2.2 = true := by
  show ∀ ch ∈ mC_70, ∀ q ∈ ch, decode (iBy 70) q.1 = .ok q.2 ∧ iLen q.2.1 q.2.2 = true
  exact List.forall_mem_cons.mpr ⟨dm_70_0, fun _ h => absurd h List.not_mem_nil⟩
theorem dmm_71 : ∀ ch ∈ mC 71, ∀ q ∈ ch, decode (iBy 71) q.1 = .ok q.2 ∧ iLen q.2.1 q.2.2 = true := by
  show ∀ ch ∈ mC_71, ∀ q ∈ ch, decode (iBy 71) q.1 = .ok q.2 ∧ iLen q.2.1 q.2.2 = true
  exact List.forall_mem_cons.mpr ⟨dm_71_0, List.forall_mem_cons.mpr ⟨dm_71_1, fun _ h => absurd h List.not_mem_nil⟩⟩
theorem dmm_72 : ∀ ch ∈ mC 72, ∀ q ∈ ch, decode (iBy 72) q.1 = .ok q.2 ∧ iLen q.2.1 q.2.2 = true := by
  show ∀ ch ∈ mC_72, ∀ q ∈ ch, decode (iBy 72) q.1 = .ok q.2 ∧ iLen q.2.1 q.2.2 = true
  exact List.forall_mem_cons.mpr ⟨dm_72_0, fun _ h => absurd h List.not_mem_nil⟩
theorem dmm_73 : ∀ ch ∈ mC 73, ∀ q ∈ ch, decode (iBy 73) q.1 = .ok q.2 ∧ iLen q.2.1 q.2.2 = true := by
  show ∀ ch ∈ mC_73, ∀ q ∈ ch, decode (iBy 73) q.1 = .ok q.2 ∧ iLen q.2.1 q.2.2 = true
  exact List.forall_mem_cons.mpr ⟨dm_73_0, fun _ h => absurd h List.not_mem_nil⟩
theorem dmm_74 : ∀ ch ∈ mC 74, ∀ q ∈ ch, decode (iBy 74) q.1 = .ok q.2 ∧ iLen q.2.1 q.2.2 = true := by
  show ∀ ch ∈ mC_74, ∀ q ∈ ch, decode (iBy 74) q.1 = .ok q.2 ∧ iLen q.2.1 q.2.2 = true
  exact List.forall_mem_cons.mpr ⟨dm_74_0, fun _ h => absurd h List.not_mem_nil⟩
theorem dmm_75 : ∀ ch ∈ mC 75, ∀ q ∈ ch, decode (iBy 75) q.1 = .ok q.2 ∧ iLen q.2.1 q.2.2 = true := by
  show ∀ ch ∈ mC_75, ∀ q ∈ ch, decode (iBy 75) q.1 = .ok q.2 ∧ iLen q.2.1 q.2.2 = true
  exact List.forall_mem_cons.mpr ⟨dm_75_0, List.forall_mem_cons.mpr ⟨dm_75_1, fun _ h => absurd h List.not_mem_nil⟩⟩
theorem dmm_76 : ∀ ch ∈ mC 76, ∀ q ∈ ch, decode (iBy 76) q.1 = .ok q.2 ∧ iLen q.2.1 q.2.2 = true := by
  show ∀ ch ∈ mC_76, ∀ q ∈ ch, decode (iBy 76) q.1 = .ok q.2 ∧ iLen q.2.1 q.2.2 = true
  exact List.forall_mem_cons.mpr ⟨dm_76_0, List.forall_mem_cons.mpr ⟨dm_76_1, fun _ h => absurd h List.not_mem_nil⟩⟩
theorem dmm_77 : ∀ ch ∈ mC 77, ∀ q ∈ ch, decode (iBy 77) q.1 = .ok q.2 ∧ iLen q.2.1 q.2.2 = true := by
  show ∀ ch ∈ mC_77, ∀ q ∈ ch, decode (iBy 77) q.1 = .ok q.2 ∧ iLen q.2.1 q.2.2 = true
  exact List.forall_mem_cons.mpr ⟨dm_77_0, fun _ h => absurd h List.not_mem_nil⟩
theorem dmm_78 : ∀ ch ∈ mC 78, ∀ q ∈ ch, decode (iBy 78) q.1 = .ok q.2 ∧ iLen q.2.1 q.2.2 = true := by
  show ∀ ch ∈ mC_78, ∀ q ∈ ch, decode (iBy 78) q.1 = .ok q.2 ∧ iLen q.2.1 q.2.2 = true
  exact List.forall_mem_cons.mpr ⟨dm_78_0, List.forall_mem_cons.mpr ⟨dm_78_1, List.forall_mem_cons.mpr ⟨dm_78_2, List.forall_mem_cons.mpr ⟨dm_78_3, fun _ h => absurd h List.not_mem_nil⟩⟩⟩⟩
theorem dmm_79 : ∀ ch ∈ mC 79, ∀ q ∈ ch, decode (iBy 79) q.1 = .ok q.2 ∧ iLen q.2.1 q.2.2 = true := by
  show ∀ ch ∈ mC_79, ∀ q ∈ ch, decode (iBy 79) q.1 = .ok q.2 ∧ iLen q.2.1 q.2.2 = true
  exact List.forall_mem_cons.mpr ⟨dm_79_0, fun _ h => absurd h List.not_mem_nil⟩
theorem dmm_80 : ∀ ch ∈ mC 80, ∀ q ∈ ch, decode (iBy 80) q.1 = .ok q.2 ∧ iLen q.2.1 q.2.2 = true := by
  show ∀ ch ∈ mC_80, ∀ q ∈ ch, decode (iBy 80) q.1 = .ok q.2 ∧ iLen q.2.1 q.2.2 = true
  exact List.forall_mem_cons.mpr ⟨dm_80_0, fun _ h => absurd h List.not_mem_nil⟩
theorem dmm_81 : ∀ ch ∈ mC 81, ∀ q ∈ ch, decode (iBy 81) q.1 = .ok q.2 ∧ iLen q.2.1 q.2.2 = true := by
  show ∀ ch ∈ mC_81, ∀ q ∈ ch, decode (iBy 81) q.1 = .ok q.2 ∧ iLen q.2.1 q.2.2 = true
  exact List.forall_mem_cons.mpr ⟨dm_81_0, fun _ h => absurd h List.not_mem_nil⟩
theorem dmm_82 : ∀ ch ∈ mC 82, ∀ q ∈ ch, decode (iBy 82) q.1 = .ok q.2 ∧ iLen q.2.1 q.2.2 = true := by
  show ∀ ch ∈ mC_82, ∀ q ∈ ch, decode (iBy 82) q.1 = .ok q.2 ∧ iLen q.2.1 q.2.2 = true
  exact List.forall_mem_cons.mpr ⟨dm_82_0, fun _ h => absurd h List.not_mem_nil⟩
theorem dmm_83 : ∀ ch ∈ mC 83, ∀ q ∈ ch, decode (iBy 83) q.1 = .ok q.2 ∧ iLen q.2.1 q.2.2 = true := by
  show ∀ ch ∈ mC_83, ∀ q ∈ ch, decode (iBy 83) q.1 = .ok q.2 ∧ iLen q.2.1 q.2.2 = true
  exact List.forall_mem_cons.mpr ⟨dm_83_0, List.forall_mem_cons.mpr ⟨dm_83_1, fun _ h => absurd h List.not_mem_nil⟩⟩
theorem dmm_84 : ∀ ch ∈ mC 84, ∀ q ∈ ch, decode (iBy 84) q.1 = .ok q.2 ∧ iLen q.2.1 q.2.2 = true := by
  show ∀ ch ∈ mC_84, ∀ q ∈ ch, decode (iBy 84) q.1 = .ok q.2 ∧ iLen q.2.1 q.2.2 = true
  exact List.forall_mem_cons.mpr ⟨dm_84_0, fun _ h => absurd h List.not_mem_nil⟩
theorem dmm_85 : ∀ ch ∈ mC 85, ∀ q ∈ ch, decode (iBy 85) q.1 = .ok q.2 ∧ iLen q.2.1 q.2.2 = true := by
  show ∀ ch ∈ mC_85, ∀ q ∈ ch, decode (iBy 85) q.1 = .ok q.2 ∧ iLen q.2.1 q.2.2 = true
  exact List.forall_mem_cons.mpr ⟨dm_85_0, fun _ h => absurd h List.not_mem_nil⟩
theorem dmm_86 : ∀ ch ∈ mC 86, ∀ q ∈ ch, decode (iBy 86) q.1 = .ok q.2 ∧ iLen q.2.1 q.2.2 = true := by
  show ∀ ch ∈ mC_86, ∀ q ∈ ch, decode (iBy 86) q.1 = .ok q.2 ∧ iLen q.2.1 q.2.2 = true
  exact List.forall_mem_cons.mpr ⟨dm_86_0, fun _ h => absurd h List.not_mem_nil⟩
theorem dmm_87 : ∀ ch ∈ mC 87, ∀ q ∈ ch, decode (iBy 87) q.1 = .ok q.2 ∧ iLen q.2.1 q.2.2 = true := by
  show ∀ ch ∈ mC_87, ∀ q ∈ ch, decode (iBy 87) q.1 = .ok q.2 ∧ iLen q.2.1 q.2.2 = true
  exact List.forall_mem_cons.mpr ⟨dm_87_0, fun _ h => absurd h List.not_mem_nil⟩
theorem dmm_88 : ∀ ch ∈ mC 88, ∀ q ∈ ch, decode (iBy 88) q.1 = .ok q.2 ∧ iLen q.2.1 q.2.2 = true := by
  show ∀ ch ∈ mC_88, ∀ q ∈ ch, decode (iBy 88) q.1 = .ok q.2 ∧ iLen q.2.1 q.2.2 = true
  exact List.forall_mem_cons.mpr ⟨dm_88_0, List.forall_mem_cons.mpr ⟨dm_88_1, fun _ h => absurd h List.not_mem_nil⟩⟩
theorem dmm_89 : ∀ ch ∈ mC 89, ∀ q ∈ ch, decode (iBy 89) q.1 = .ok q.2 ∧ iLen q.2.1 q.2.2 = true := by
  show ∀ ch ∈ mC_89, ∀ q ∈ ch, decode (iBy 89) q.1 = .ok q.2 ∧ iLen q.2.1 q.2.2 = true
  exact List.forall_mem_cons.mpr ⟨dm_89_0, fun _ h => absurd h List.not_mem_nil⟩
theorem dmm_90 : ∀ ch ∈ mC 90, ∀ q ∈ ch, decode (iBy 90) q.1 = .ok q.2 ∧ iLen q.2.1 q.2.2 = true := by
  show ∀ ch ∈ mC_90, ∀ q ∈ ch, decode (iBy 90) q.1 = .ok q.2 ∧ iLen q.2.1 q.2.2 = true
  exact List.forall_mem_cons.mpr ⟨dm_90_0, fun _ h => absurd h List.not_mem_nil⟩
theorem dmm_91 : ∀ ch ∈ mC 91, ∀ q ∈ ch, decode (iBy 91) q.1 = .ok q.2 ∧ iLen q.2.1 q.2.2 = true := by
  show ∀ ch ∈ mC_91, ∀ q ∈ ch, decode (iBy 91) q.1 = .ok q.2 ∧ iLen q.2.1 q.2.2 = true
  exact List.forall_mem_cons.mpr ⟨dm_91_0, List.forall_mem_cons.mpr ⟨dm_91_1, fun _ h => absurd h List.not_mem_nil⟩⟩
theorem dmm_92 : ∀ ch ∈ mC 92, ∀ q ∈ ch, decode (iBy 92) q.1 = .ok q.2 ∧ iLen q.2.1 q.2.2 = true := by
  show ∀ ch ∈ mC_92, ∀ q ∈ ch, decode (iBy 92) q.1 = .ok q.2 ∧ iLen q.2.1 q.2.2 = true
  exact List.forall_mem_cons.mpr ⟨dm_92_0, List.forall_mem_cons.mpr ⟨dm_92_1, fun _ h => absurd h List.not_mem_nil⟩⟩
theorem dmm_93 : ∀ ch ∈ mC 93, ∀ q ∈ ch, decode (iBy 93) q.1 = .ok q.2 ∧ iLen q.2.1 q.2.2 = true := by
  show ∀ ch ∈ mC_93, ∀ q ∈ ch, decode (iBy 93) q.1 = .ok q.2 ∧ iLen q.2.1 q.2.2 = true
  exact List.forall_mem_cons.mpr ⟨dm_93_0, List.forall_mem_cons.mpr ⟨dm_93_1, fun _ h => absurd h List.not_mem_nil⟩⟩
theorem dmm_94 : ∀ ch ∈ mC 94, ∀ q ∈ ch, decode (iBy 94) q.1 = .ok q.2 ∧ iLen q.2.1 q.2.2 = true := by
  show ∀ ch ∈ mC_94, ∀ q ∈ ch, decode (iBy 94) q.1 = .ok q.2 ∧ iLen q.2.1 q.2.2 = true
  exact List.forall_mem_cons.mpr ⟨dm_94_0, fun _ h => absurd h List.not_mem_nil⟩
theorem dmm_95 : ∀ ch ∈ mC 95, ∀ q ∈ ch, decode (iBy 95) q.1 = .ok q.2 ∧ iLen q.2.1 q.2.2 = true := by
  show ∀ ch ∈ mC_95, ∀ q ∈ ch, decode (iBy 95) q.1 = .ok q.2 ∧ iLen q.2.1 q.2.2 = true
  exact List.forall_mem_cons.mpr ⟨dm_95_0, fun _ h => absurd h List.not_mem_nil⟩
theorem dmm_96 : ∀ ch ∈ mC 96, ∀ q ∈ ch, decode (iBy 96) q.1 = .ok q.2 ∧ iLen q.2.1 q.2.2 = true := by
  show ∀ ch ∈ mC_96, ∀ q ∈ ch, decode (iBy 96) q.1 = .ok q.2 ∧ iLen q.2.1 q.2.2 = true
  exact List.forall_mem_cons.mpr ⟨dm_96_0, List.forall_mem_cons.mpr ⟨dm_96_1, fun _ h => absurd h List.not_mem_nil⟩⟩
theorem dmm_97 : ∀ ch ∈ mC 97, ∀ q ∈ ch, decode (iBy 97) q.1 = .ok q.2 ∧ iLen q.2.1 q.2.2 = true := by
  show ∀ ch ∈ mC_97, ∀ q ∈ ch, decode (iBy 97) q.1 = .ok q.2 ∧ iLen q.2.1 q.2.2 = true
  exact List.forall_mem_cons.mpr ⟨dm_97_0, List.forall_mem_cons.mpr ⟨dm_97_1, List.forall_mem_cons.mpr ⟨dm_97_2, List.forall_mem_cons.mpr ⟨dm_97_3, fun _ h => absurd h List.not_mem_nil⟩⟩⟩⟩
theorem dmm_98 : ∀ ch ∈ mC 98, ∀ q ∈ ch, decode (iBy 98) q.1 = .ok q.2 ∧ iLen q.2.1 q.2.2 = true := by
  show ∀ ch ∈ mC_98, ∀ q ∈ ch, decode (iBy 98) q.1 = .ok q.2 ∧ iLen q.2.1 q.2.2 = true
  exact List.forall_mem_cons.mpr ⟨dm_98_0, List.forall_mem_cons.mpr ⟨dm_98_1, fun _ h => absurd h List.not_mem_nil⟩⟩
theorem dmm_99 : ∀ ch ∈ mC 99, ∀ q ∈ ch, decode (iBy 99) q.1 = .ok q.2 ∧ iLen q.2.1 q.2.2 = true := by
  show ∀ ch ∈ mC_99, ∀ q ∈ ch, decode (iBy 99) q.1 = .ok q.2 ∧ iLen q.2.1 q.2.2 = true
  exact List.forall_mem_cons.mpr ⟨dm_99_0, fun _ h => absurd h List.not_mem_nil⟩
theorem dmm_100 : ∀ ch ∈ mC 100, ∀ q ∈ ch, decode (iBy 100) q.1 = .ok q.2 ∧ iLen q.2.1 q.2.2 = true := by
  show ∀ ch ∈ mC_100, ∀ q ∈ ch, decode (iBy 100) q.1 = .ok q.2 ∧ iLen q.2.1 q.2.2 = true
  exact List.forall_mem_cons.mpr ⟨dm_100_0, List.forall_mem_cons.mpr ⟨dm_100_1, List.forall_mem_cons.mpr ⟨dm_100_2, List.forall_mem_cons.mpr ⟨dm_100_3, fun _ h => absurd h List.not_mem_nil⟩⟩⟩⟩
theorem dmm_101 : ∀ ch ∈ mC 101, ∀ q ∈ ch, decode (iBy 101) q.1 = .ok q.2 ∧ iLen q.2.1 q.2.2 = true := by
  show ∀ ch ∈ mC_101, ∀ q ∈ ch, decode (iBy 101) q.1 = .ok q.2 ∧ iLen q.2.1 q.2.2 = true
  exact List.forall_mem_cons.mpr ⟨dm_101_0, fun _ h => absurd h List.not_mem_nil⟩
theorem dmm_102 : ∀ ch ∈ mC 102, ∀ q ∈ ch, decode (iBy 102) q.1 = .ok q.2 ∧ iLen q.2.1 q.2.2 = true := by
  show ∀ ch ∈ mC_102, ∀ q ∈ ch, decode (iBy 102) q.1 = .ok q.2 ∧ iLen q.2.1 q.2.2 = true
  exact List.forall_mem_cons.mpr ⟨dm_102_0, List.forall_mem_cons.mpr ⟨dm_102_1, fun _ h => absurd h List.not_mem_nil⟩⟩
theorem dmm_103 : ∀ ch ∈ mC 103, ∀ q ∈ ch, decode (iBy 103) q.1 = .ok q.2 ∧ iLen q.2.1 q.2.2 = true := by
  show ∀ ch ∈ mC_103, ∀ q ∈ ch, decode (iBy 103) q.1 = .ok q.2 ∧ iLen q.2.1 q.2.2 = true
  exact List.forall_mem_cons.mpr ⟨dm_103_0, List.forall_mem_cons.mpr ⟨dm_103_1, List.forall_mem_cons.mpr ⟨dm_103_2, List.forall_mem_cons.mpr ⟨dm_103_3, fun _ h => absurd h List.not_mem_nil⟩⟩⟩⟩
theorem dmm_104 : ∀ ch ∈ mC 104, ∀ q ∈ ch, decode (iBy 104) q.1 = .ok q.2 ∧ iLen q.2.1 q.2.2 = true := by
  show ∀ ch ∈ mC_104, ∀ q ∈ ch, decode (iBy 104) q.1 = .ok q.2 ∧ iLen q.2.1 q.2.2 = true
  exact List.forall_mem_cons.mpr ⟨dm_104_0, List.forall_mem_cons.mpr ⟨dm_104_1, fun _ h => absurd h List.not_mem_nil⟩⟩
theorem dmm_105 : ∀ ch ∈ mC 105, ∀ q ∈ ch, decode (iBy 105) q.1 = .ok q.2 ∧ iLen q.2.1 q.2.2 = true := by
  show ∀ ch ∈ mC_105, ∀ q ∈ ch, decode (iBy 105) q.1 = .ok q.2 ∧ iLen q.2.1 q.2.2 = true
  exact List.forall_mem_cons.mpr ⟨dm_105_0, List.forall_mem_cons.mpr ⟨dm_105_1, fun _ h => absurd h List.not_mem_nil⟩⟩
theorem dmm_106 : ∀ ch ∈ mC 106, ∀ q ∈ ch, decode (iBy 106) q.1 = .ok q.2 ∧ iLen q.2.1 q.2.2 = true := by
  show ∀ ch ∈ mC_106, ∀ q ∈ ch, decode (iBy 106) q.1 = .ok q.2 ∧ iLen q.2.1 q.2.2 = true
  exact List.forall_mem_cons.mpr ⟨dm_106_0, fun _ h => absurd h List.not_mem_nil⟩
theorem dmm_107 : ∀ ch ∈ mC 107, ∀ q ∈ ch, decode (iBy 107) q.1 = .ok q.2 ∧ iLen q.2.1 q.2.2 = true := by
  show ∀ ch ∈ mC_107, ∀ q ∈ ch, decode (iBy 107) q.1 = .ok q.2 ∧ iLen q.2.1 q.2.2 = true
  exact List.forall_mem_cons.mpr ⟨dm_107_0, fun _ h => absurd h List.not_mem_nil⟩
theorem dmm_108 : ∀ ch ∈ mC 108, ∀ q ∈ ch, decode (iBy 108) q.1 = .ok q.2 ∧ iLen q.2.1 q.2.2 = true := by
  show ∀ ch ∈ mC_108, ∀ q ∈ ch, decode (iBy 108) q.1 = .ok q.2 ∧ iLen q.2.1 q.2.2 = true
  exact List.forall_mem_cons.mpr ⟨dm_108_0, List.forall_mem_cons.mpr ⟨dm_108_1, List.forall_mem_cons.mpr ⟨dm_108_2, List.forall_mem_cons.mpr ⟨dm_108_3, List.forall_mem_cons.mpr ⟨dm_108_4, List.forall_mem_cons.mpr ⟨dm_108_5, List.forall_mem_cons.mpr ⟨dm_108_6, fun _ h => absurd h List.not_mem_nil⟩⟩⟩⟩⟩⟩⟩
theorem dmm_109 : ∀ ch ∈ mC 109, ∀ q ∈ ch, decode (iBy 109) q.1 = .ok q.2 ∧ iLen q.2.1 q.2.2 = true := by
  show ∀ ch ∈ mC_109, ∀ q ∈ ch, decode (iBy 109) q.1 = .ok q.2 ∧ iLen q.2.1 q.2.2 = true
  exact List.forall_mem_cons.mpr ⟨dm_109_0, fun _ h => absurd h List.not_mem_nil⟩
theorem dmm_110 : ∀ ch ∈ mC 110, ∀ q ∈ ch, decode (iBy 110) q.1 = .ok q.2 ∧ iLen q.2.1 q.2.2 = true := by
  show ∀ ch ∈ mC_110, ∀ q ∈ ch, decode (iBy 110) q.1 = .ok q.2 ∧ iLen q.2.1 q.2.2 = true
  exact List.forall_mem_cons.mpr ⟨dm_110_0, fun _ h => absurd h List.not_mem_nil⟩
theorem dmm_111 : ∀ ch ∈ mC 111, ∀ q ∈ ch, decode (iBy 111) q.1 = .ok q.2 ∧ iLen q.2.1 q.2.2 = true := by
  show ∀ ch ∈ mC_111, ∀ q ∈ ch, decode (iBy 111) q.1 = .ok q.2 ∧ iLen q.2.1 q.2.2 = true
  exact List.forall_mem_cons.mpr ⟨dm_111_0, List.forall_mem_cons.mpr ⟨dm_111_1, fun _ h => absurd h List.not_mem_nil⟩⟩
theorem dmm_112 : ∀ ch ∈ mC 112, ∀ q ∈ ch, decode (iBy 112) q.1 = .ok q.2 ∧ iLen q.2.1 q.2.2 = true := by
  show ∀ ch ∈ mC_112, ∀ q ∈ ch, decode (iBy 112) q.1 = .ok q.2 ∧ iLen q.2.1 q.2.2 = true
  exact List.forall_mem_cons.mpr ⟨dm_112_0, fun _ h => absurd h List.not_mem_nil⟩
theorem dmm_113 : ∀ ch ∈ mC 113, ∀ q ∈ ch, decode (iBy 113) q.1 = .ok q.2 ∧ iLen q.2.1 q.2.2 = true := by
  show ∀ ch ∈ mC_113, ∀ q ∈ ch, decode (iBy 113) q.1 = .ok q.2 ∧ iLen q.2.1 q.2.2 = true
  exact List.forall_mem_cons.mpr ⟨dm_113_0, fun _ h => absurd h List.not_mem_nil⟩
theorem dmm_114 : ∀ ch ∈ mC 114, ∀ q ∈ ch, decode (iBy 114) q.1 = .ok q.2 ∧ iLen q.2.1 q.2.2 = true := by
  show ∀ ch ∈ mC_114, ∀ q ∈ ch, decode (iBy 114) q.1 = .ok q.2 ∧ iLen q.2.1 q.2.2 = true
  exact List.forall_mem_cons.mpr ⟨dm_114_0, fun _ h => absurd h List.not_mem_nil⟩
theorem dmm_115 : ∀ ch ∈ mC 115, ∀ q ∈ ch, decode (iBy 115) q.1 = .ok q.2 ∧ iLen q.2.1 q.2.2 = true := by
  show ∀ ch ∈ mC_115, ∀ q ∈ ch, decode (iBy 115) q.1 = .ok q.2 ∧ iLen q.2.1 q.2.2 = true
  exact List.forall_mem_cons.mpr ⟨dm_115_0, fun _ h => absurd h List.not_mem_nil⟩
theorem dmm_116 : ∀ ch ∈ mC 116, ∀ q ∈ ch, decode (iBy 116) q.1 = .ok q.2 ∧ iLen q.2.1 q.2.2 = true := by
  show ∀ ch ∈ mC_116, ∀ q ∈ ch, decode (iBy 116) q.1 = .ok q.2 ∧ iLen q.2.1 q.2.2 = true
  exact List.forall_mem_cons.mpr ⟨dm_116_0, List.forall_mem_cons.mpr ⟨dm_116_1, List.forall_mem_cons.mpr ⟨dm_116_2, fun _ h => absurd h List.not_mem_nil⟩⟩⟩
theorem dmm_117 : ∀ ch ∈ mC 117, ∀ q ∈ ch, decode (iBy 117) q.1 = .ok q.2 ∧ iLen q.2.1 q.2.2 = true := by
  show ∀ ch ∈ mC_117, ∀ q ∈ ch, decode (iBy 117) q.1 = .ok q.2 ∧ iLen q.2.1 q.2.2 = true
  exact List.forall_mem_cons.mpr ⟨dm_117_0, List.forall_mem_cons.mpr ⟨dm_117_1, List.forall_mem_cons.mpr ⟨dm_117_2, fun _ h => absurd h List.not_mem_nil⟩⟩⟩
theorem dmm_118 : ∀ ch ∈ mC 118, ∀ q ∈ ch, decode (iBy 118) q.1 = .ok q.2 ∧ iLen q.2.1 q.2.2 = true := by
  show ∀ ch ∈ mC_118, ∀ q ∈ ch, decode (iBy 118) q.1 = .ok q.2 ∧ iLen q.2.1 q.2.2 = true
  exact List.forall_mem_cons.mpr ⟨dm_118_0, fun _ h => absurd h List.not_mem_nil⟩
theorem dmm_119 : ∀ ch ∈ mC 119, ∀ q ∈ ch, decode (iBy 119) q.1 = .ok q.2 ∧ iLen q.2.1 q.2.2 = true := by
  show ∀ ch ∈ mC_119, ∀ q ∈ ch, decode (iBy 119) q.1 = .ok q.2 ∧ iLen q.2.1 q.2.2 = true
  exact List.forall_mem_cons.mpr ⟨dm_119_0, fun _ h => absurd h List.not_mem_nil⟩
theorem dmm_120 : ∀ ch ∈ mC 120, ∀ q ∈ ch, decode (iBy 120) q.1 = .ok q.2 ∧ iLen q.2.1 q.2.2 = true := by
  show ∀ ch ∈ mC_120, ∀ q ∈ ch, decode (iBy 120) q.1 = .ok q.2 ∧ iLen q.2.1 q.2.2 = true
  exact List.forall_mem_cons.mpr ⟨dm_120_0, fun _ h => absurd h List.not_mem_nil⟩
theorem dmm_121 : ∀ ch ∈ mC 121, ∀ q ∈ ch, decode (iBy 121) q.1 = .ok q.2 ∧ iLen q.2.1 q.2.2 = true := by
  show ∀ ch ∈ mC_121, ∀ q ∈ ch, decode (iBy 121) q.1 = .ok q.2 ∧ iLen q.2.1 q.2.2 = true
  exact List.forall_mem_cons.mpr ⟨dm_121_0, fun _ h => absurd h List.not_mem_nil⟩
theorem dmm_122 : ∀ ch ∈ mC 122, ∀ q ∈ ch, decode (iBy 122) q.1 = .ok q.2 ∧ iLen q.2.1 q.2.2 = true := by
  show ∀ ch ∈ mC_122, ∀ q ∈ ch, decode (iBy 122) q.1 = .ok q.2 ∧ iLen q.2.1 q.2.2 = true
  exact List.forall_mem_cons.mpr ⟨dm_122_0, fun _ h => absurd h List.not_mem_nil⟩
theorem dmm_123 : ∀ ch ∈ mC 123, ∀ q ∈ ch, decode (iBy 123) q.1 = .ok q.2 ∧ iLen q.2.1 q.2.2 = true := by
  show ∀ ch ∈ mC_123, ∀ q ∈ ch, decode (iBy 123) q.1 = .ok q.2 ∧ iLen q.2.1 q.2.2 = true
  exact List.forall_mem_cons.mpr ⟨dm_123_0, fun _ h => absurd h List.not_mem_nil⟩
theorem dmm_124 : ∀ ch ∈ mC 124, ∀ q ∈ ch, decode (iBy 124) q.1 = .ok q.2 ∧ iLen q.2.1 q.2.2 = true := by
  show ∀ ch ∈ mC_124, ∀ q ∈ ch, decode (iBy 124) q.1 = .ok q.2 ∧ iLen q.2.1 q.2.2 = true
  exact List.forall_mem_cons.mpr ⟨dm_124_0, fun _ h => absurd h List.not_mem_nil⟩
theorem dmm_125 : ∀ ch ∈ mC 125, ∀ q ∈ ch, decode (iBy 125) q.1 = .ok q.2 ∧ iLen q.2.1 q.2.2 = true := by
  show ∀ ch ∈ mC_125, ∀ q ∈ ch, decode (iBy 125) q.1 = .ok q.2 ∧ iLen q.2.1 q.2.2 = true
  exact List.forall_mem_cons.mpr ⟨dm_125_0, fun _ h => absurd h List.not_mem_nil⟩
theorem dmm_126 : ∀ ch ∈ mC 126, ∀ q ∈ ch, decode (iBy 126) q.1 = .ok q.2 ∧ iLen q.2.1 q.2.2 = true := by
  show ∀ ch ∈ mC_126, ∀ q ∈ ch, decode (iBy 126) q.1 = .ok q.2 ∧ iLen q.2.1 q.2.2 = true
  exact List.forall_mem_cons.mpr ⟨dm_126_0, fun _ h => absurd h List.not_mem_nil⟩
theorem dmm_127 : ∀ ch ∈ mC 127, ∀ q ∈ ch, decode (iBy 127) q.1 = .ok q.2 ∧ iLen q.2.1 q.2.2 = true := by
  show ∀ ch ∈ mC_127, ∀ q ∈ ch, decode (iBy 127) q.1 = .ok q.2 ∧ iLen q.2.1 q.2.2 = true
  exact List.forall_mem_cons.mpr ⟨dm_127_0, fun _ h => absurd h List.not_mem_nil⟩
theorem dmm_128 : ∀ ch ∈ mC 128, ∀ q ∈ ch, decode (iBy 128) q.1 = .ok q.2 ∧ iLen q.2.1 q.2.2 = true := by
  show ∀ ch ∈ mC_128, ∀ q ∈ ch, decode (iBy 128) q.1 = .ok q.2 ∧ iLen q.2.1 q.2.2 = true
  exact List.forall_mem_cons.mpr ⟨dm_128_0, fun _ h => absurd h List.not_mem_nil⟩
theorem dmm_129 : ∀ ch ∈ mC 129, ∀ q ∈ ch, decode (iBy 129) q.1 = .ok q.2 ∧ iLen q.2.1 q.2.2 = true := by
  show ∀ ch ∈ mC_129, ∀ q ∈ ch, decode (iBy 129) q.1 = .ok q.2 ∧ iLen q.2.1 q.2.2 = true
  exact List.forall_mem_cons.mpr ⟨dm_129_0, fun _ h => absurd h List.not_mem_nil⟩
theorem dmm_130 : ∀ ch ∈ mC 130, ∀ q ∈ ch, decode (iBy 130) q.1 = .ok q.2 ∧ iLen q.2.1 q.2.2 = true := by
  show ∀ ch ∈ mC_130, ∀ q ∈ ch, decode (iBy 130) q.1 = .ok q.2 ∧ iLen q.2.1 q.2.2 = true
  exact List.forall_mem_cons.mpr ⟨dm_130_0, fun _ h => absurd h List.not_mem_nil⟩
theorem dmm_131 : ∀ ch ∈ mC 131, ∀ q ∈ ch, decode (iBy 131) q.1 = .ok q.2 ∧ iLen q.2.1 q.2.2 = true := by
  show ∀ ch ∈ mC_131, ∀ q ∈ ch, decode (iBy 131) q.1 = .ok q.2 ∧ iLen q.2.1 q.2.2 = true
  exact List.forall_mem_cons.mpr ⟨dm_131_0, fun _ h => absurd h List.not_mem_nil⟩
theorem dmm_132 : ∀ ch ∈ mC 132, ∀ q ∈ ch, decode (iBy 132) q.1 = .ok q.2 ∧ iLen q.2.1 q.2.2 = true := by
  show ∀ ch ∈ mC_132, ∀ q ∈ ch, decode (iBy 132) q.1 = .ok q.2 ∧ iLen q.2.1 q.2.2 = true
  exact List.forall_mem_cons.mpr ⟨dm_132_0, fun _ h => absurd h List.not_mem_nil⟩
theorem dmm_133 : ∀ ch ∈ mC 133, ∀ q ∈ ch, decode (iBy 133) q.1 = .ok q.2 ∧ iLen q.2.1 q.2.2 = true := by
  show ∀ ch ∈ mC_133, ∀ q ∈ ch, decode (iBy 133) q.1 = .ok q.2 ∧ iLen q.2.1 q.2.2 = true
  exact List.forall_mem_cons.mpr ⟨dm_133_0, fun _ h => absurd h List.not_mem_nil⟩
theorem dmm_134 : ∀ ch ∈ mC 134, ∀ q ∈ ch, decode (iBy 134) q.1 = .ok q.2 ∧ iLen q.2.1 q.2.2 = true := by
  show ∀ ch ∈ mC_134, ∀ q ∈ ch, decode (iBy 134) q.1 = .ok q.2 ∧ iLen q.2.1 q.2.2 = true
  exact List.forall_mem_cons.mpr ⟨dm_134_0, fun _ h => absurd h List.not_mem_nil⟩
theorem dmm_135 : ∀ ch ∈ mC 135, ∀ q ∈ ch, decode (iBy 135) q.1 = .ok q.2 ∧ iLen q.2.1 q.2.2 = true := by
  show ∀ ch ∈ mC_135, ∀ q ∈ ch, decode (iBy 135) q.1 = .ok q.2 ∧ iLen q.2.1 q.2.2 = true
  exact List.forall_mem_cons.mpr ⟨dm_135_0, fun _ h => absurd h List.not_mem_nil⟩
theorem dmm_136 : ∀ ch ∈ mC 136, ∀ q ∈ ch, decode (iBy 136) q.1 = .ok q.2 ∧ iLen q.2.1 q.2.2 = true := by
  show ∀ ch ∈ mC_136, ∀ q ∈ ch, decode (iBy 136) q.1 = .ok q.2 ∧ iLen q.2.1 q.2.2 = true
  exact List.forall_mem_cons.mpr ⟨dm_136_0, fun _ h => absurd h List.not_mem_nil⟩
theorem dmm_137 : ∀ ch ∈ mC 137, ∀ q ∈ ch, decode (iBy 137) q.1 = .ok q.2 ∧ iLen q.2.1 q.2.2 = true := by
  show ∀ ch ∈ mC_137, ∀ q ∈ ch, decode (iBy 137) q.1 = .ok q.2 ∧ iLen q.2.1 q.2.2 = true
  exact List.forall_mem_cons.mpr ⟨dm_137_0, List.forall_mem_cons.mpr ⟨(fun _ h => absurd h List.not_mem_nil), List.forall_mem_cons.mpr ⟨dm_137_2, List.forall_mem_cons.mpr ⟨dm_137_3, List.forall_mem_cons.mpr ⟨dm_137_4, List.forall_mem_cons.mpr ⟨dm_137_5, List.forall_mem_cons.mpr ⟨dm_137_6, List.forall_mem_cons.mpr ⟨dm_137_7, List.forall_mem_cons.mpr ⟨dm_137_8, List.forall_mem_cons.mpr ⟨dm_137_9, List.forall_mem_cons.mpr ⟨dm_137_10, List.forall_mem_cons.mpr ⟨dm_137_11, List.forall_mem_cons.mpr ⟨dm_137_12, List.forall_mem_cons.mpr ⟨dm_137_13, List.forall_mem_cons.mpr ⟨dm_137_14, List.forall_mem_cons.mpr ⟨dm_137_15, List.forall_mem_cons.mpr ⟨dm_137_16, List.forall_mem_cons.mpr ⟨dm_137_17, List.forall_mem_cons.mpr ⟨dm_137_18, List.forall_mem_cons.mpr ⟨dm_137_19, List.forall_mem_cons.mpr ⟨dm_137_20, List.forall_mem_cons.mpr ⟨dm_137_21, List.forall_mem_cons.mpr ⟨dm_137_22, List.forall_mem_cons.mpr ⟨dm_137_23, fun _ h => absurd h List.not_mem_nil⟩⟩⟩⟩⟩⟩⟩⟩⟩⟩⟩⟩⟩⟩⟩⟩⟩⟩⟩⟩⟩⟩⟩⟩
theorem dmm_138 : ∀ ch ∈ mC 138, ∀ q ∈ ch, decode (iBy 138) q.1 = .ok q.2 ∧ iLen q.2.1 q.2.2 = true := by
  show ∀ ch ∈ mC_138, ∀ q ∈ ch, decode (iBy 138) q.1 = .ok q.2 ∧ iLen q.2.1 q.2.2 = true
  exact List.forall_mem_cons.mpr ⟨dm_138_0, fun _ h => absurd h List.not_mem_nil⟩
theorem dmm_139 : ∀ ch ∈ mC 139, ∀ q ∈ ch, decode (iBy 139) q.1 = .ok q.2 ∧ iLen q.2.1 q.2.2 = true := by
  show ∀ ch ∈ mC_139, ∀ q ∈ ch, decode (iBy 139) q.1 = .ok q.2 ∧ iLen q.2.1 q.2.2 = true
  exact List.forall_mem_cons.mpr ⟨dm_139_0, fun _ h => absurd h List.not_mem_nil⟩
theorem dmA : ∀ j : Nat, ∀ ch ∈ mC j, ∀ q ∈ ch, decode (iBy j) q.1 = .ok q.2 ∧ iLen q.2.1 q.2.2 = true
  | 0 => dmm_0
  | 1 => dmm_1
  | 2 => dmm_2
  | 3 => dmm_3
  | 4 => dmm_4
  | 5 => dmm_5
  | 6 => dmm_6
  | 7 => dmm_7
  | 8 => dmm_8
  | 9 => dmm_9
  | 10 => dmm_10
  | 11 => dmm_11
  | 12 => dmm_12
  | 13 => dmm_13
  | 14 => dmm_14
  | 15 => dmm_15
  | 16 => dmm_16
  | 17 => dmm_17
  | 18 => dmm_18
  | 19 => dmm_19
  | 20 => dmm_20
  | 21 => dmm_21
  | 22 => dmm_22
  | 23 => dmm_23
  | 24 => dmm_24
  | 25 => dmm_25
  | 26 => dmm_26
  | 27 => dmm_27
  | 28 => dmm_28
  | 29 => dmm_29
  | 30 => dmm_30
  | 31 => dmm_31
  | 32 => dmm_32
  | 33 => dmm_33
  | 34 => dmm_34
  | 35 => dmm_35
  | 36 => dmm_36
  | 37 => dmm_37
  | 38 => dmm_38
  | 39 => dmm_39
  | 40 => dmm_40
  | 41 => dmm_41
  | 42 => dmm_42
  | 43 => dmm_43
  | 44 => dmm_44
  | 45 => dmm_45
  | 46 => dmm_46
  | 47 => dmm_47
  | 48 => dmm_48
  | 49 => dmm_49
  | 50 => dmm_50
  | 51 => dmm_51
  | 52 => dmm_52
  | 53 => dmm_53
  | 54 => dmm_54
  | 55 => dmm_55
  | 56 => dmm_56
  | 57 => dmm_57
  | 58 => dmm_58
  | 59 => dmm_59
  | 60 => dmm_60
  | 61 => dmm_61
  | 62 => dmm_62
  | 63 => dmm_63
  | 64 => dmm_64
  | 65 => dmm_65
  | 66 => dmm_66
  | 67 => dmm_67
  | 68 => dmm_68
  | 69 => dmm_69
  | 70 => dmm_70
  | 71 => dmm_71
  | 72 => dmm_72
  | 73 => dmm_73
  | 74 => dmm_74
  | 75 => dmm_75
  | 76 => dmm_76
  | 77 => dmm_77
  | 78 => dmm_78
  | 79 => dmm_79
  | 80 => dmm_80
  | 81 => dmm_81
  | 82 => dmm_82
  | 83 => dmm_83
  | 84 => dmm_84
  | 85 => dmm_85
  | 86 => dmm_86
  | 87 => dmm_87
  | 88 => dmm_88
  | 89 => dmm_89
  | 90 => dmm_90
  | 91 => dmm_91
  | 92 => dmm_92
  | 93 => dmm_93
  | 94 => dmm_94
  | 95 => dmm_95
  | 96 => dmm_96
  | 97 => dmm_97
  | 98 => dmm_98
  | 99 => dmm_99
  | 100 => dmm_100
  | 101 => dmm_101
  | 102 => dmm_102
  | 103 => dmm_103
  | 104 => dmm_104
  | 105 => dmm_105
  | 106 => dmm_106
  | 107 => dmm_107
  | 108 => dmm_108
  | 109 => dmm_109
  | 110 => dmm_110
  | 111 => dmm_111
  | 112 => dmm_112
  | 113 => dmm_113
  | 114 => dmm_114
  | 115 => dmm_115
  | 116 => dmm_116
  | 117 => dmm_117
  | 118 => dmm_118
  | 119 => dmm_119
  | 120 => dmm_120
  | 121 => dmm_121
  | 122 => dmm_122
  | 123 => dmm_123
  | 124 => dmm_124
  | 125 => dmm_125
  | 126 => dmm_126
  | 127 => dmm_127
  | 128 => dmm_128
  | 129 => dmm_129
  | 130 => dmm_130
  | 131 => dmm_131
  | 132 => dmm_132
  | 133 => dmm_133
  | 134 => dmm_134
  | 135 => dmm_135
  | 136 => dmm_136
  | 137 => dmm_137
  | 138 => dmm_138
  | 139 => dmm_139
  | j + 140 => fun _ h => absurd (show _ ∈ ([] : List (List (Nat × Instr × Nat))) from h) List.not_mem_nil

theorem cdA : ∀ j : Nat, j < 140 → j ≠ 137 → iCO j
  | 0 => fun _ _ => cdo_0
  | 1 => fun _ _ => cdo_1
  | 2 => fun _ _ => cdo_2
  | 3 => fun _ _ => cdo_3
  | 4 => fun _ _ => cdo_4
  | 5 => fun _ _ => cdo_5
  | 6 => fun _ _ => cdo_6
  | 7 => fun _ _ => cdo_7
  | 8 => fun _ _ => cdo_8
  | 9 => fun _ _ => cdo_9
  | 10 => fun _ _ => cdo_10
  | 11 => fun _ _ => cdo_11
  | 12 => fun _ _ => cdo_12
  | 13 => fun _ _ => cdo_13
  | 14 => fun _ _ => cdo_14
  | 15 => fun _ _ => cdo_15
  | 16 => fun _ _ => cdo_16
  | 17 => fun _ _ => cdo_17
  | 18 => fun _ _ => cdo_18
  | 19 => fun _ _ => cdo_19
  | 20 => fun _ _ => cdo_20
  | 21 => fun _ _ => cdo_21
  | 22 => fun _ _ => cdo_22
  | 23 => fun _ _ => cdo_23
  | 24 => fun _ _ => cdo_24
  | 25 => fun _ _ => cdo_25
  | 26 => fun _ _ => cdo_26
  | 27 => fun _ _ => cdo_27
  | 28 => fun _ _ => cdo_28
  | 29 => fun _ _ => cdo_29
  | 30 => fun _ _ => cdo_30
  | 31 => fun _ _ => cdo_31
  | 32 => fun _ _ => cdo_32
  | 33 => fun _ _ => cdo_33
  | 34 => fun _ _ => cdo_34
  | 35 => fun _ _ => cdo_35
  | 36 => fun _ _ => cdo_36
  | 37 => fun _ _ => cdo_37
  | 38 => fun _ _ => cdo_38
  | 39 => fun _ _ => cdo_39
  | 40 => fun _ _ => cdo_40
  | 41 => fun _ _ => cdo_41
  | 42 => fun _ _ => cdo_42
  | 43 => fun _ _ => cdo_43
  | 44 => fun _ _ => cdo_44
  | 45 => fun _ _ => cdo_45
  | 46 => fun _ _ => cdo_46
  | 47 => fun _ _ => cdo_47
  | 48 => fun _ _ => cdo_48
  | 49 => fun _ _ => cdo_49
  | 50 => fun _ _ => cdo_50
  | 51 => fun _ _ => cdo_51
  | 52 => fun _ _ => cdo_52
  | 53 => fun _ _ => cdo_53
  | 54 => fun _ _ => cdo_54
  | 55 => fun _ _ => cdo_55
  | 56 => fun _ _ => cdo_56
  | 57 => fun _ _ => cdo_57
  | 58 => fun _ _ => cdo_58
  | 59 => fun _ _ => cdo_59
  | 60 => fun _ _ => cdo_60
  | 61 => fun _ _ => cdo_61
  | 62 => fun _ _ => cdo_62
  | 63 => fun _ _ => cdo_63
  | 64 => fun _ _ => cdo_64
  | 65 => fun _ _ => cdo_65
  | 66 => fun _ _ => cdo_66
  | 67 => fun _ _ => cdo_67
  | 68 => fun _ _ => cdo_68
  | 69 => fun _ _ => cdo_69
  | 70 => fun _ _ => cdo_70
  | 71 => fun _ _ => cdo_71
  | 72 => fun _ _ => cdo_72
  | 73 => fun _ _ => cdo_73
  | 74 => fun _ _ => cdo_74
  | 75 => fun _ _ => cdo_75
  | 76 => fun _ _ => cdo_76
  | 77 => fun _ _ => cdo_77
  | 78 => fun _ _ => cdo_78
  | 79 => fun _ _ => cdo_79
  | 80 => fun _ _ => cdo_80
  | 81 => fun _ _ => cdo_81
  | 82 => fun _ _ => cdo_82
  | 83 => fun _ _ => cdo_83
  | 84 => fun _ _ => cdo_84
  | 85 => fun _ _ => cdo_85
  | 86 => fun _ _ => cdo_86
  | 87 => fun _ _ => cdo_87
  | 88 => fun _ _ => cdo_88
  | 89 => fun _ _ => cdo_89
  | 90 => fun _ _ => cdo_90
  | 91 => fun _ _ => cdo_91
  | 92 => fun _ _ => cdo_92
  | 93 => fun _ _ => cdo_93
  | 94 => fun _ _ => cdo_94
  | 95 => fun _ _ => cdo_95
  | 96 => fun _ _ => cdo_96
  | 97 => fun _ _ => cdo_97
  | 98 => fun _ _ => cdo_98
  | 99 => fun _ _ => cdo_99
  | 100 => fun _ _ => cdo_100
  | 101 => fun _ _ => cdo_101
  | 102 => fun _ _ => cdo_102
  | 103 => fun _ _ => cdo_103
  | 104 => fun _ _ => cdo_104
  | 105 => fun _ _ => cdo_105
  | 106 => fun _ _ => cdo_106
  | 107 => fun _ _ => cdo_107
  | 108 => fun _ _ => cdo_108
  | 109 => fun _ _ => cdo_109
  | 110 => fun _ _ => cdo_110
  | 111 => fun _ _ => cdo_111
  | 112 => fun _ _ => cdo_112
  | 113 => fun _ _ => cdo_113
  | 114 => fun _ _ => cdo_114
  | 115 => fun _ _ => cdo_115
  | 116 => fun _ _ => cdo_116
  | 117 => fun _ _ => cdo_117
  | 118 => fun _ _ => cdo_118
  | 119 => fun _ _ => cdo_119
  | 120 => fun _ _ => cdo_120
  | 121 => fun _ _ => cdo_121
  | 122 => fun _ _ => cdo_122
  | 123 => fun _ _ => cdo_123
  | 124 => fun _ _ => cdo_124
  | 125 => fun _ _ => cdo_125
  | 126 => fun _ _ => cdo_126
  | 127 => fun _ _ => cdo_127
  | 128 => fun _ _ => cdo_128
  | 129 => fun _ _ => cdo_129
  | 130 => fun _ _ => cdo_130
  | 131 => fun _ _ => cdo_131
  | 132 => fun _ _ => cdo_132
  | 133 => fun _ _ => cdo_133
  | 134 => fun _ _ => cdo_134
  | 135 => fun _ _ => cdo_135
  | 136 => fun _ _ => cdo_136
  | 137 => fun _ h => absurd rfl h
  | 138 => fun _ _ => cdo_138
  | 139 => fun _ _ => cdo_139
  | j + 140 => fun h => absurd h (by omega)

theorem pFx_0 : ∀ q ∈ (pFs[0]?).getD [], iFO 0 q.1 q.2.1 q.2.2.1 q.2.2.2 := by
  show ∀ q ∈ ([(11, 1, 0, 2), (18, 1, 4, 2), (25, 1, 5, 2), (32, 1, 6, 2), (38, 1, 8, 2), (49, 1, 1, 0), (67, 2, 0, 2), (75, 1, 2, 2), (79, 1, 3, 2), (134, 7, 1, 0), (151, 7, 2, 0), (154, 1, 7, 0), (157, 8, 2, 0), (166, 8, 4, 0), (177, 8, 9, 0), (178, 8, 8, 0), (181, 8, 6, 2), (184, 8, 7, 2), (189, 1, 9, 0), (199, 9, 0, 2), (202, 9, 1, 0), (229, 5, 1, 0)] : List (Nat × Nat × Nat × Nat)), iFO 0 q.1 q.2.1 q.2.2.1 q.2.2.2
  exact List.forall_mem_cons.mpr ⟨fo_0_11, List.forall_mem_cons.mpr ⟨fo_0_18, List.forall_mem_cons.mpr ⟨fo_0_25, List.forall_mem_cons.mpr ⟨fo_0_32, List.forall_mem_cons.mpr ⟨fo_0_38, List.forall_mem_cons.mpr ⟨fo_0_49, List.forall_mem_cons.mpr ⟨fo_0_67, List.forall_mem_cons.mpr ⟨fo_0_75, List.forall_mem_cons.mpr ⟨fo_0_79, List.forall_mem_cons.mpr ⟨fo_0_134, List.forall_mem_cons.mpr ⟨fo_0_151, List.forall_mem_cons.mpr ⟨fo_0_154, List.forall_mem_cons.mpr ⟨fo_0_157, List.forall_mem_cons.mpr ⟨fo_0_166, List.forall_mem_cons.mpr ⟨fo_0_177, List.forall_mem_cons.mpr ⟨fo_0_178, List.forall_mem_cons.mpr ⟨fo_0_181, List.forall_mem_cons.mpr ⟨fo_0_184, List.forall_mem_cons.mpr ⟨fo_0_189, List.forall_mem_cons.mpr ⟨fo_0_199, List.forall_mem_cons.mpr ⟨fo_0_202, List.forall_mem_cons.mpr ⟨fo_0_229, fun _ h => absurd h List.not_mem_nil⟩⟩⟩⟩⟩⟩⟩⟩⟩⟩⟩⟩⟩⟩⟩⟩⟩⟩⟩⟩⟩⟩
theorem pFx_1 : ∀ q ∈ (pFs[1]?).getD [], iFO 1 q.1 q.2.1 q.2.2.1 q.2.2.2 := by
  show ∀ q ∈ ([(9, 2, 0, 2)] : List (Nat × Nat × Nat × Nat)), iFO 1 q.1 q.2.1 q.2.2.1 q.2.2.2
  exact List.forall_mem_cons.mpr ⟨fo_1_9, fun _ h => absurd h List.not_mem_nil⟩
theorem pFx_2 : ∀ q ∈ (pFs[2]?).getD [], iFO 2 q.1 q.2.1 q.2.2.1 q.2.2.2 := by
  show ∀ q ∈ ([(9, 3, 0, 2), (15, 3, 1, 2)] : List (Nat × Nat × Nat × Nat)), iFO 2 q.1 q.2.1 q.2.2.1 q.2.2.2
  exact List.forall_mem_cons.mpr ⟨fo_2_9, List.forall_mem_cons.mpr ⟨fo_2_15, fun _ h => absurd h List.not_mem_nil⟩⟩
theorem pFx_3 : ∀ q ∈ (pFs[3]?).getD [], iFO 3 q.1 q.2.1 q.2.2.1 q.2.2.2 := by
  show ∀ q ∈ ([(9, 4, 0, 0), (15, 4, 1, 2), (19, 4, 2, 0), (22, 4, 3, 2), (25, 4, 4, 2), (33, 4, 5, 0), (41, 4, 6, 0), (47, 4, 7, 0), (50, 4, 8, 0), (53, 4, 9, 1)] : List (Nat × Nat × Nat × Nat)), iFO 3 q.1 q.2.1 q.2.2.1 q.2.2.2
  exact List.forall_mem_cons.mpr ⟨fo_3_9, List.forall_mem_cons.mpr ⟨fo_3_15, List.forall_mem_cons.mpr ⟨fo_3_19, List.forall_mem_cons.mpr ⟨fo_3_22, List.forall_mem_cons.mpr ⟨fo_3_25, List.forall_mem_cons.mpr ⟨fo_3_33, List.forall_mem_cons.mpr ⟨fo_3_41, List.forall_mem_cons.mpr ⟨fo_3_47, List.forall_mem_cons.mpr ⟨fo_3_50, List.forall_mem_cons.mpr ⟨fo_3_53, fun _ h => absurd h List.not_mem_nil⟩⟩⟩⟩⟩⟩⟩⟩⟩⟩
theorem pFx_4 : ∀ q ∈ (pFs[4]?).getD [], iFO 4 q.1 q.2.1 q.2.2.1 q.2.2.2 := by
  show ∀ q ∈ ([(11, 5, 0, 2), (17, 5, 2, 2), (21, 5, 3, 2), (24, 5, 1, 0), (62, 4, 5, 0), (73, 4, 3, 2), (77, 4, 2, 0), (80, 2, 0, 2)] : List (Nat × Nat × Nat × Nat)), iFO 4 q.1 q.2.1 q.2.2.1 q.2.2.2
  exact List.forall_mem_cons.mpr ⟨fo_4_11, List.forall_mem_cons.mpr ⟨fo_4_17, List.forall_mem_cons.mpr ⟨fo_4_21, List.forall_mem_cons.mpr ⟨fo_4_24, List.forall_mem_cons.mpr ⟨fo_4_62, List.forall_mem_cons.mpr ⟨fo_4_73, List.forall_mem_cons.mpr ⟨fo_4_77, List.forall_mem_cons.mpr ⟨fo_4_80, fun _ h => absurd h List.not_mem_nil⟩⟩⟩⟩⟩⟩⟩⟩
theorem pFx_5 : ∀ q ∈ (pFs[5]?).getD [], iFO 5 q.1 q.2.1 q.2.2.1 q.2.2.2 := by
  show ∀ q ∈ ([(9, 6, 0, 2), (15, 6, 1, 2)] : List (Nat × Nat × Nat × Nat)), iFO 5 q.1 q.2.1 q.2.2.1 q.2.2.2
  exact List.forall_mem_cons.mpr ⟨fo_5_9, List.forall_mem_cons.mpr ⟨fo_5_15, fun _ h => absurd h List.not_mem_nil⟩⟩
theorem pFx_6 : ∀ q ∈ (pFs[6]?).getD [], iFO 6 q.1 q.2.1 q.2.2.1 q.2.2.2 := by
  show ∀ q ∈ ([(11, 7, 0, 2), (17, 7, 1, 0), (21, 7, 2, 0), (37, 2, 0, 2), (41, 6, 0, 2)] : List (Nat × Nat × Nat × Nat)), iFO 6 q.1 q.2.1 q.2.2.1 q.2.2.2
  exact List.forall_mem_cons.mpr ⟨fo_6_11, List.forall_mem_cons.mpr ⟨fo_6_17, List.forall_mem_cons.mpr ⟨fo_6_21, List.forall_mem_cons.mpr ⟨fo_6_37, List.forall_mem_cons.mpr ⟨fo_6_41, fun _ h => absurd h List.not_mem_nil⟩⟩⟩⟩⟩
theorem pFx_7 : ∀ q ∈ (pFs[7]?).getD [], iFO 7 q.1 q.2.1 q.2.2.1 q.2.2.2 := by
  show ∀ q ∈ ([(11, 8, 0, 2), (17, 8, 1, 2), (21, 8, 3, 2), (24, 8, 5, 2), (28, 8, 6, 2), (31, 8, 7, 2), (34, 8, 10, 2), (37, 8, 2, 0), (41, 8, 4, 0), (44, 8, 8, 0), (47, 8, 9, 0)] : List (Nat × Nat × Nat × Nat)), iFO 7 q.1 q.2.1 q.2.2.1 q.2.2.2
  exact List.forall_mem_cons.mpr ⟨fo_7_11, List.forall_mem_cons.mpr ⟨fo_7_17, List.forall_mem_cons.mpr ⟨fo_7_21, List.forall_mem_cons.mpr ⟨fo_7_24, List.forall_mem_cons.mpr ⟨fo_7_28, List.forall_mem_cons.mpr ⟨fo_7_31, List.forall_mem_cons.mpr ⟨fo_7_34, List.forall_mem_cons.mpr ⟨fo_7_37, List.forall_mem_cons.mpr ⟨fo_7_41, List.forall_mem_cons.mpr ⟨fo_7_44, List.forall_mem_cons.mpr ⟨fo_7_47, fun _ h => absurd h List.not_mem_nil⟩⟩⟩⟩⟩⟩⟩⟩⟩⟩⟩
theorem pFx_8 : ∀ q ∈ (pFs[8]?).getD [], iFO 8 q.1 q.2.1 q.2.2.1 q.2.2.2 := by
  show ∀ q ∈ ([(7, 9, 1, 0), (13, 9, 0, 2)] : List (Nat × Nat × Nat × Nat)), iFO 8 q.1 q.2.1 q.2.2.1 q.2.2.2
  exact List.forall_mem_cons.mpr ⟨fo_8_7, List.forall_mem_cons.mpr ⟨fo_8_13, fun _ h => absurd h List.not_mem_nil⟩⟩
theorem pFx_9 : ∀ q ∈ (pFs[9]?).getD [], iFO 9 q.1 q.2.1 q.2.2.1 q.2.2.2 := by
  show ∀ q ∈ ([(7, 10, 1, 2), (13, 10, 2, 2), (16, 10, 3, 2), (19, 10, 5, 0), (23, 10, 6, 0), (26, 10, 7, 2), (29, 10, 8, 2), (32, 10, 9, 2), (35, 10, 10, 2), (38, 10, 11, 2), (41, 10, 12, 2), (44, 10, 13, 2), (47, 10, 14, 2), (50, 10, 15, 2), (54, 10, 17, 2), (57, 10, 18, 2), (60, 10, 19, 2), (63, 10, 21, 2), (66, 10, 22, 2), (69, 10, 23, 2), (72, 10, 24, 2), (75, 10, 25, 2), (78, 10, 29, 2), (81, 10, 30, 2), (84, 10, 31, 2), (87, 10, 0, 0), (90, 10, 4, 0), (112, 10, 16, 0), (145, 10, 20, 0), (148, 10, 28, 0), (151, 10, 26, 0), (154, 10, 27, 0), (164, 10, 32, 0)] : List (Nat × Nat × Nat × Nat)), iFO 9 q.1 q.2.1 q.2.2.1 q.2.2.2
  exact List.forall_mem_cons.mpr ⟨fo_9_7, List.forall_mem_cons.mpr ⟨fo_9_13, List.forall_mem_cons.mpr ⟨fo_9_16, List.forall_mem_cons.mpr ⟨fo_9_19, List.forall_mem_cons.mpr ⟨fo_9_23, List.forall_mem_cons.mpr ⟨fo_9_26, List.forall_mem_cons.mpr ⟨fo_9_29, List.forall_mem_cons.mpr ⟨fo_9_32, List.forall_mem_cons.mpr ⟨fo_9_35, List.forall_mem_cons.mpr ⟨fo_9_38, List.forall_mem_cons.mpr ⟨fo_9_41, List.forall_mem_cons.mpr ⟨fo_9_44, List.forall_mem_cons.mpr ⟨fo_9_47, List.forall_mem_cons.mpr ⟨fo_9_50, List.forall_mem_cons.mpr ⟨fo_9_54, List.forall_mem_cons.mpr ⟨fo_9_57, List.forall_mem_cons.mpr ⟨fo_9_60, List.forall_mem_cons.mpr ⟨fo_9_63, List.forall_mem_cons.mpr ⟨fo_9_66, List.forall_mem_cons.mpr ⟨fo_9_69, List.forall_mem_cons.mpr ⟨fo_9_72, List.forall_mem_cons.mpr ⟨fo_9_75, List.forall_mem_cons.mpr ⟨fo_9_78, List.forall_mem_cons.mpr ⟨fo_9_81, List.forall_mem_cons.mpr ⟨fo_9_84, List.forall_mem_cons.mpr ⟨fo_9_87, List.forall_mem_cons.mpr ⟨fo_9_90, List.forall_mem_cons.mpr ⟨fo_9_112, List.forall_mem_cons.mpr ⟨fo_9_145, List.forall_mem_cons.mpr ⟨fo_9_148, List.forall_mem_cons.mpr ⟨fo_9_151, List.forall_mem_cons.mpr ⟨fo_9_154, List.forall_mem_cons.mpr ⟨fo_9_164, fun _ h => absurd h List.not_mem_nil⟩⟩⟩⟩⟩⟩⟩⟩⟩⟩⟩⟩⟩⟩⟩⟩⟩⟩⟩⟩⟩⟩⟩⟩⟩⟩⟩⟩⟩⟩⟩⟩⟩
theorem pFx_10 : ∀ q ∈ (pFs[10]?).getD [], iFO 10 q.1 q.2.1 q.2.2.1 q.2.2.2 := by
  show ∀ q ∈ ([] : List (Nat × Nat × Nat × Nat)), iFO 10 q.1 q.2.1 q.2.2.1 q.2.2.2
  exact fun _ h => absurd h List.not_mem_nil
theorem pFx_11 : ∀ q ∈ (pFs[11]?).getD [], iFO 11 q.1 q.2.1 q.2.2.1 q.2.2.2 := by
  show ∀ q ∈ ([] : List (Nat × Nat × Nat × Nat)), iFO 11 q.1 q.2.1 q.2.2.1 q.2.2.2
  exact fun _ h => absurd h List.not_mem_nil
theorem pFx_12 : ∀ q ∈ (pFs[12]?).getD [], iFO 12 q.1 q.2.1 q.2.2.1 q.2.2.2 := by
  show ∀ q ∈ ([] : List (Nat × Nat × Nat × Nat)), iFO 12 q.1 q.2.1 q.2.2.1 q.2.2.2
  exact fun _ h => absurd h List.not_mem_nil
theorem pFxA : ∀ w : Nat, ∀ q ∈ (pFs[w]?).getD [], iFO w q.1 q.2.1 q.2.2.1 q.2.2.2
  | 0 => pFx_0
  | 1 => pFx_1
  | 2 => pFx_2
  | 3 => pFx_3
  | 4 => pFx_4
  | 5 => pFx_5
  | 6 => pFx_6
  | 7 => pFx_7
  | 8 => pFx_8
  | 9 => pFx_9
  | 10 => pFx_10
  | 11 => pFx_11
  | 12 => pFx_12
  | w + 13 => fun _ h => absurd (show _ ∈ ([] : List (Nat × Nat × Nat × Nat)) from h) List.not_mem_nil

theorem pNx_0 : ∀ q ∈ (pNs[0]?).getD [], iNO 0 q.1 q.2.1 q.2.2 := by
  show ∀ q ∈ ([(9, 2, 1), (15, 5, 4), (22, 7, 3), (29, 8, 11), (36, 9, 2), (95, 4, 10), (139, 6, 2), (234, 3, 2)] : List (Nat × Nat × Nat)), iNO 0 q.1 q.2.1 q.2.2
  exact List.forall_mem_cons.mpr ⟨no_0_9, List.forall_mem_cons.mpr ⟨no_0_15, List.forall_mem_cons.mpr ⟨no_0_22, List.forall_mem_cons.mpr ⟨no_0_29, List.forall_mem_cons.mpr ⟨no_0_36, List.forall_mem_cons.mpr ⟨no_0_95, List.forall_mem_cons.mpr ⟨no_0_139, List.forall_mem_cons.mpr ⟨no_0_234, fun _ h => absurd h List.not_mem_nil⟩⟩⟩⟩⟩⟩⟩⟩
theorem pNx_1 : ∀ q ∈ (pNs[1]?).getD [], iNO 1 q.1 q.2.1 q.2.2 := by
  show ∀ q ∈ ([] : List (Nat × Nat × Nat)), iNO 1 q.1 q.2.1 q.2.2
  exact fun _ h => absurd h List.not_mem_nil
theorem pNx_2 : ∀ q ∈ (pNs[2]?).getD [], iNO 2 q.1 q.2.1 q.2.2 := by
  show ∀ q ∈ ([] : List (Nat × Nat × Nat)), iNO 2 q.1 q.2.1 q.2.2
  exact fun _ h => absurd h List.not_mem_nil
theorem pNx_3 : ∀ q ∈ (pNs[3]?).getD [], iNO 3 q.1 q.2.1 q.2.2 := by
  show ∀ q ∈ ([] : List (Nat × Nat × Nat)), iNO 3 q.1 q.2.1 q.2.2
  exact fun _ h => absurd h List.not_mem_nil
theorem pNx_4 : ∀ q ∈ (pNs[4]?).getD [], iNO 4 q.1 q.2.1 q.2.2 := by
  show ∀ q ∈ ([] : List (Nat × Nat × Nat)), iNO 4 q.1 q.2.1 q.2.2
  exact fun _ h => absurd h List.not_mem_nil
theorem pNx_5 : ∀ q ∈ (pNs[5]?).getD [], iNO 5 q.1 q.2.1 q.2.2 := by
  show ∀ q ∈ ([] : List (Nat × Nat × Nat)), iNO 5 q.1 q.2.1 q.2.2
  exact fun _ h => absurd h List.not_mem_nil
theorem pNx_6 : ∀ q ∈ (pNs[6]?).getD [], iNO 6 q.1 q.2.1 q.2.2 := by
  show ∀ q ∈ ([] : List (Nat × Nat × Nat)), iNO 6 q.1 q.2.1 q.2.2
  exact fun _ h => absurd h List.not_mem_nil
theorem pNx_7 : ∀ q ∈ (pNs[7]?).getD [], iNO 7 q.1 q.2.1 q.2.2 := by
  show ∀ q ∈ ([] : List (Nat × Nat × Nat)), iNO 7 q.1 q.2.1 q.2.2
  exact fun _ h => absurd h List.not_mem_nil
theorem pNx_8 : ∀ q ∈ (pNs[8]?).getD [], iNO 8 q.1 q.2.1 q.2.2 := by
  show ∀ q ∈ ([] : List (Nat × Nat × Nat)), iNO 8 q.1 q.2.1 q.2.2
  exact fun _ h => absurd h List.not_mem_nil
theorem pNx_9 : ∀ q ∈ (pNs[9]?).getD [], iNO 9 q.1 q.2.1 q.2.2 := by
  show ∀ q ∈ ([] : List (Nat × Nat × Nat)), iNO 9 q.1 q.2.1 q.2.2
  exact fun _ h => absurd h List.not_mem_nil
theorem pNx_10 : ∀ q ∈ (pNs[10]?).getD [], iNO 10 q.1 q.2.1 q.2.2 := by
  show ∀ q ∈ ([(8, 1, 10), (79, 10, 33)] : List (Nat × Nat × Nat)), iNO 10 q.1 q.2.1 q.2.2
  exact List.forall_mem_cons.mpr ⟨no_10_8, List.forall_mem_cons.mpr ⟨no_10_79, fun _ h => absurd h List.not_mem_nil⟩⟩
theorem pNx_11 : ∀ q ∈ (pNs[11]?).getD [], iNO 11 q.1 q.2.1 q.2.2 := by
  show ∀ q ∈ ([] : List (Nat × Nat × Nat)), iNO 11 q.1 q.2.1 q.2.2
  exact fun _ h => absurd h List.not_mem_nil
theorem pNx_12 : ∀ q ∈ (pNs[12]?).getD [], iNO 12 q.1 q.2.1 q.2.2 := by
  show ∀ q ∈ ([] : List (Nat × Nat × Nat)), iNO 12 q.1 q.2.1 q.2.2
  exact fun _ h => absurd h List.not_mem_nil
theorem pNxA : ∀ w : Nat, ∀ q ∈ (pNs[w]?).getD [], iNO w q.1 q.2.1 q.2.2
  | 0 => pNx_0
  | 1 => pNx_1
  | 2 => pNx_2
  | 3 => pNx_3
  | 4 => pNx_4
  | 5 => pNx_5
  | 6 => pNx_6
  | 7 => pNx_7
  | 8 => pNx_8
  | 9 => pNx_9
  | 10 => pNx_10
  | 11 => pNx_11
  | 12 => pNx_12
  | w + 13 => fun _ h => absurd (show _ ∈ ([] : List (Nat × Nat × Nat)) from h) List.not_mem_nil

theorem pVx_0 : ∀ q ∈ (pVs[0]?).getD [], iVO 0 q.1 q.2 := by
  show ∀ q ∈ ([(9, 2), (36, 9)] : List (Nat × Nat)), iVO 0 q.1 q.2
  exact List.forall_mem_cons.mpr ⟨vo_0_9, List.forall_mem_cons.mpr ⟨vo_0_36, fun _ h => absurd h List.not_mem_nil⟩⟩
theorem pVx_1 : ∀ q ∈ (pVs[1]?).getD [], iVO 1 q.1 q.2 := by
  show ∀ q ∈ ([] : List (Nat × Nat)), iVO 1 q.1 q.2
  exact fun _ h => absurd h List.not_mem_nil
theorem pVx_2 : ∀ q ∈ (pVs[2]?).getD [], iVO 2 q.1 q.2 := by
  show ∀ q ∈ ([] : List (Nat × Nat)), iVO 2 q.1 q.2
  exact fun _ h => absurd h List.not_mem_nil
theorem pVx_3 : ∀ q ∈ (pVs[3]?).getD [], iVO 3 q.1 q.2 := by
  show ∀ q ∈ ([] : List (Nat × Nat)), iVO 3 q.1 q.2
  exact fun _ h => absurd h List.not_mem_nil
theorem pVx_4 : ∀ q ∈ (pVs[4]?).getD [], iVO 4 q.1 q.2 := by
  show ∀ q ∈ ([(9, 4)] : List (Nat × Nat)), iVO 4 q.1 q.2
  exact List.forall_mem_cons.mpr ⟨vo_4_9, fun _ h => absurd h List.not_mem_nil⟩
theorem pVx_5 : ∀ q ∈ (pVs[5]?).getD [], iVO 5 q.1 q.2 := by
  show ∀ q ∈ ([] : List (Nat × Nat)), iVO 5 q.1 q.2
  exact fun _ h => absurd h List.not_mem_nil
theorem pVx_6 : ∀ q ∈ (pVs[6]?).getD [], iVO 6 q.1 q.2 := by
  show ∀ q ∈ ([(9, 6)] : List (Nat × Nat)), iVO 6 q.1 q.2
  exact List.forall_mem_cons.mpr ⟨vo_6_9, fun _ h => absurd h List.not_mem_nil⟩
theorem pVx_7 : ∀ q ∈ (pVs[7]?).getD [], iVO 7 q.1 q.2 := by
  show ∀ q ∈ ([(9, 2)] : List (Nat × Nat)), iVO 7 q.1 q.2
  exact List.forall_mem_cons.mpr ⟨vo_7_9, fun _ h => absurd h List.not_mem_nil⟩
theorem pVx_8 : ∀ q ∈ (pVs[8]?).getD [], iVO 8 q.1 q.2 := by
  show ∀ q ∈ ([] : List (Nat × Nat)), iVO 8 q.1 q.2
  exact fun _ h => absurd h List.not_mem_nil
theorem pVx_9 : ∀ q ∈ (pVs[9]?).getD [], iVO 9 q.1 q.2 := by
  show ∀ q ∈ ([] : List (Nat × Nat)), iVO 9 q.1 q.2
  exact fun _ h => absurd h List.not_mem_nil
theorem pVx_10 : ∀ q ∈ (pVs[10]?).getD [], iVO 10 q.1 q.2 := by
  show ∀ q ∈ ([] : List (Nat × Nat)), iVO 10 q.1 q.2
  exact fun _ h => absurd h List.not_mem_nil
theorem pVx_11 : ∀ q ∈ (pVs[11]?).getD [], iVO 11 q.1 q.2 := by
  show ∀ q ∈ ([] : List (Nat × Nat)), iVO 11 q.1 q.2
  exact fun _ h => absurd h List.not_mem_nil
theorem pVx_12 : ∀ q ∈ (pVs[12]?).getD [], iVO 12 q.1 q.2 := by
  show ∀ q ∈ ([] : List (Nat × Nat)), iVO 12 q.1 q.2
  exact fun _ h => absurd h List.not_mem_nil
theorem pVxA : ∀ w : Nat, ∀ q ∈ (pVs[w]?).getD [], iVO w q.1 q.2
  | 0 => pVx_0
  | 1 => pVx_1
  | 2 => pVx_2
  | 3 => pVx_3
  | 4 => pVx_4
  | 5 => pVx_5
  | 6 => pVx_6
  | 7 => pVx_7
  | 8 => pVx_8
  | 9 => pVx_9
  | 10 => pVx_10
  | 11 => pVx_11
  | 12 => pVx_12
  | w + 13 => fun _ h => absurd (show _ ∈ ([] : List (Nat × Nat)) from h) List.not_mem_nil

theorem pMx_0 : ∀ q ∈ (pMs[0]?).getD [], (q.2.1 = 999 ∧ Cond.methodLink (iO_ 0) q.1 objectInit ∈ lw_tbl) ∨ (q.2.1 < 140 ∧ q.2.1 ≠ 137 ∧ iMO 0 q.1 q.2.1 q.2.2.1 q.2.2.2) := by
  show ∀ q ∈ ([(1, 999, 1, 1), (17, 48, 1, 5), (24, 58, 1, 7), (31, 62, 1, 8), (58, 33, 2, 2), (61, 24, 3, 1), (71, 23, 2, 1), (82, 27, 2, 0), (86, 25, 3, 1), (89, 28, 1, 0), (92, 29, 1, 1), (97, 30, 1, 1), (101, 43, 6, 4), (104, 49, 2, 5), (108, 22, 2, 1), (111, 34, 1, 2), (115, 26, 1, 0), (121, 51, 2, 5), (126, 55, 5, 5), (130, 50, 2, 5), (141, 56, 3, 6), (144, 59, 2, 7), (147, 60, 3, 7), (162, 63, 3, 8), (171, 64, 2, 8), (174, 65, 3, 8), (194, 73, 2, 9), (195, 32, 3, 1), (205, 31, 2, 1), (209, 75, 2, 9), (212, 74, 2, 9), (215, 76, 2, 9), (236, 40, 3, 3)] : List (Nat × Nat × Nat × Nat)), (q.2.1 = 999 ∧ Cond.methodLink (iO_ 0) q.1 objectInit ∈ lw_tbl) ∨ (q.2.1 < 140 ∧ q.2.1 ≠ 137 ∧ iMO 0 q.1 q.2.1 q.2.2.1 q.2.2.2)
  exact List.forall_mem_cons.mpr ⟨Or.inl ⟨rfl, mo_0_1⟩, List.forall_mem_cons.mpr ⟨Or.inr ⟨by decide, by decide, mo_0_17⟩, List.forall_mem_cons.mpr ⟨Or.inr ⟨by decide, by decide, mo_0_24⟩, List.forall_mem_cons.mpr ⟨Or.inr ⟨by decide, by decide, mo_0_31⟩, List.forall_mem_cons.mpr ⟨Or.inr ⟨by decide, by decide, mo_0_58⟩, List.forall_mem_cons.mpr ⟨Or.inr ⟨by decide, by decide, mo_0_61⟩, List.forall_mem_cons.mpr ⟨Or.inr ⟨by decide, by decide, mo_0_71⟩, List.forall_mem_cons.mpr ⟨Or.inr ⟨by decide, by decide, mo_0_82⟩, List.forall_mem_cons.mpr ⟨Or.inr ⟨by decide, by decide, mo_0_86⟩, List.forall_mem_cons.mpr ⟨Or.inr ⟨by decide, by decide, mo_0_89⟩, List.forall_mem_cons.mpr ⟨Or.inr ⟨by decide, by decide, mo_0_92⟩, List.forall_mem_cons.mpr ⟨Or.inr ⟨by decide, by decide, mo_0_97⟩, List.forall_mem_cons.mpr ⟨Or.inr ⟨by decide, by decide, mo_0_101⟩, List.forall_mem_cons.mpr ⟨Or.inr ⟨by decide, by decide, mo_0_104⟩, List.forall_mem_cons.mpr ⟨Or.inr ⟨by decide, by decide, mo_0_108⟩, List.forall_mem_cons.mpr ⟨Or.inr ⟨by decide, by decide, mo_0_111⟩, List.forall_mem_cons.mpr ⟨Or.inr ⟨by decide, by decide, mo_0_115⟩, List.forall_mem_cons.mpr ⟨Or.inr ⟨by decide, by decide, mo_0_121⟩, List.forall_mem_cons.mpr ⟨Or.inr ⟨by decide, by decide, mo_0_126⟩, List.forall_mem_cons.mpr ⟨Or.inr ⟨by decide, by decide, mo_0_130⟩, List.forall_mem_cons.mpr ⟨Or.inr ⟨by decide, by decide, mo_0_141⟩, List.forall_mem_cons.mpr ⟨Or.inr ⟨by decide, by decide, mo_0_144⟩, List.forall_mem_cons.mpr ⟨Or.inr ⟨by decide, by decide, mo_0_147⟩, List.forall_mem_cons.mpr ⟨Or.inr ⟨by decide, by decide, mo_0_162⟩, List.forall_mem_cons.mpr ⟨Or.inr ⟨by decide, by decide, mo_0_171⟩, List.forall_mem_cons.mpr ⟨Or.inr ⟨by decide, by decide, mo_0_174⟩, List.forall_mem_cons.mpr ⟨Or.inr ⟨by decide, by decide, mo_0_194⟩, List.forall_mem_cons.mpr ⟨Or.inr ⟨by decide, by decide, mo_0_195⟩, List.forall_mem_cons.mpr ⟨Or.inr ⟨by decide, by decide, mo_0_205⟩, List.forall_mem_cons.mpr ⟨Or.inr ⟨by decide, by decide, mo_0_209⟩, List.forall_mem_cons.mpr ⟨Or.inr ⟨by decide, by decide, mo_0_212⟩, List.forall_mem_cons.mpr ⟨Or.inr ⟨by decide, by decide, mo_0_215⟩, List.forall_mem_cons.mpr ⟨Or.inr ⟨by decide, by decide, mo_0_236⟩, fun _ h => absurd h List.not_mem_nil⟩⟩⟩⟩⟩⟩⟩⟩⟩⟩⟩⟩⟩⟩⟩⟩⟩⟩⟩⟩⟩⟩⟩⟩⟩⟩⟩⟩⟩⟩⟩⟩⟩
theorem pMx_1 : ∀ q ∈ (pMs[1]?).getD [], (q.2.1 = 999 ∧ Cond.methodLink (iO_ 1) q.1 objectInit ∈ lw_tbl) ∨ (q.2.1 < 140 ∧ q.2.1 ≠ 137 ∧ iMO 1 q.1 q.2.1 q.2.2.1 q.2.2.2) := by
  show ∀ q ∈ ([(3, 999, 1, 1), (15, 138, 2, 0), (21, 34, 1, 2), (25, 35, 3, 2)] : List (Nat × Nat × Nat × Nat)), (q.2.1 = 999 ∧ Cond.methodLink (iO_ 1) q.1 objectInit ∈ lw_tbl) ∨ (q.2.1 < 140 ∧ q.2.1 ≠ 137 ∧ iMO 1 q.1 q.2.1 q.2.2.1 q.2.2.2)
  exact List.forall_mem_cons.mpr ⟨Or.inl ⟨rfl, mo_1_3⟩, List.forall_mem_cons.mpr ⟨Or.inr ⟨by decide, by decide, mo_1_15⟩, List.forall_mem_cons.mpr ⟨Or.inr ⟨by decide, by decide, mo_1_21⟩, List.forall_mem_cons.mpr ⟨Or.inr ⟨by decide, by decide, mo_1_25⟩, fun _ h => absurd h List.not_mem_nil⟩⟩⟩⟩
theorem pMx_2 : ∀ q ∈ (pMs[2]?).getD [], (q.2.1 = 999 ∧ Cond.methodLink (iO_ 2) q.1 objectInit ∈ lw_tbl) ∨ (q.2.1 < 140 ∧ q.2.1 ≠ 137 ∧ iMO 2 q.1 q.2.1 q.2.2.1 q.2.2.2) := by
  show ∀ q ∈ ([(3, 999, 1, 1), (18, 36, 2, 2), (24, 34, 1, 2)] : List (Nat × Nat × Nat × Nat)), (q.2.1 = 999 ∧ Cond.methodLink (iO_ 2) q.1 objectInit ∈ lw_tbl) ∨ (q.2.1 < 140 ∧ q.2.1 ≠ 137 ∧ iMO 2 q.1 q.2.1 q.2.2.1 q.2.2.2)
  exact List.forall_mem_cons.mpr ⟨Or.inl ⟨rfl, mo_2_3⟩, List.forall_mem_cons.mpr ⟨Or.inr ⟨by decide, by decide, mo_2_18⟩, List.forall_mem_cons.mpr ⟨Or.inr ⟨by decide, by decide, mo_2_24⟩, fun _ h => absurd h List.not_mem_nil⟩⟩⟩
theorem pMx_3 : ∀ q ∈ (pMs[3]?).getD [], (q.2.1 = 999 ∧ Cond.methodLink (iO_ 3) q.1 objectInit ∈ lw_tbl) ∨ (q.2.1 < 140 ∧ q.2.1 ≠ 137 ∧ iMO 3 q.1 q.2.1 q.2.2.1 q.2.2.2) := by
  show ∀ q ∈ ([(3, 999, 1, 1), (29, 26, 1, 0), (36, 41, 2, 3), (44, 42, 2, 3), (57, 35, 3, 2)] : List (Nat × Nat × Nat × Nat)), (q.2.1 = 999 ∧ Cond.methodLink (iO_ 3) q.1 objectInit ∈ lw_tbl) ∨ (q.2.1 < 140 ∧ q.2.1 ≠ 137 ∧ iMO 3 q.1 q.2.1 q.2.2.1 q.2.2.2)
  exact List.forall_mem_cons.mpr ⟨Or.inl ⟨rfl, mo_3_3⟩, List.forall_mem_cons.mpr ⟨Or.inr ⟨by decide, by decide, mo_3_29⟩, List.forall_mem_cons.mpr ⟨Or.inr ⟨by decide, by decide, mo_3_36⟩, List.forall_mem_cons.mpr ⟨Or.inr ⟨by decide, by decide, mo_3_44⟩, List.forall_mem_cons.mpr ⟨Or.inr ⟨by decide, by decide, mo_3_57⟩, fun _ h => absurd h List.not_mem_nil⟩⟩⟩⟩⟩
theorem pMx_4 : ∀ q ∈ (pMs[4]?).getD [], (q.2.1 = 999 ∧ Cond.methodLink (iO_ 4) q.1 objectInit ∈ lw_tbl) ∨ (q.2.1 < 140 ∧ q.2.1 ≠ 137 ∧ iMO 4 q.1 q.2.1 q.2.2.1 q.2.2.2) := by
  show ∀ q ∈ ([(3, 999, 1, 1), (28, 38, 2, 2), (34, 52, 3, 5), (38, 34, 1, 2), (42, 39, 4, 2), (46, 45, 2, 4), (50, 53, 4, 5), (54, 47, 2, 4), (58, 54, 3, 5), (65, 44, 1, 4), (69, 46, 3, 4), (83, 41, 2, 3), (89, 42, 2, 3), (92, 37, 2, 2)] : List (Nat × Nat × Nat × Nat)), (q.2.1 = 999 ∧ Cond.methodLink (iO_ 4) q.1 objectInit ∈ lw_tbl) ∨ (q.2.1 < 140 ∧ q.2.1 ≠ 137 ∧ iMO 4 q.1 q.2.1 q.2.2.1 q.2.2.2)
  exact List.forall_mem_cons.mpr ⟨Or.inl ⟨rfl, mo_4_3⟩, List.forall_mem_cons.mpr ⟨Or.inr ⟨by decide, by decide, mo_4_28⟩, List.forall_mem_cons.mpr ⟨Or.inr ⟨by decide, by decide, mo_4_34⟩, List.forall_mem_cons.mpr ⟨Or.inr ⟨by decide, by decide, mo_4_38⟩, List.forall_mem_cons.mpr ⟨Or.inr ⟨by decide, by decide, mo_4_42⟩, List.forall_mem_cons.mpr ⟨Or.inr ⟨by decide, by decide, mo_4_46⟩, List.forall_mem_cons.mpr ⟨Or.inr ⟨by decide, by decide, mo_4_50⟩, List.forall_mem_cons.mpr ⟨Or.inr ⟨by decide, by decide, mo_4_54⟩, List.forall_mem_cons.mpr ⟨Or.inr ⟨by decide, by decide, mo_4_58⟩, List.forall_mem_cons.mpr ⟨Or.inr ⟨by decide, by decide, mo_4_65⟩, List.forall_mem_cons.mpr ⟨Or.inr ⟨by decide, by decide, mo_4_69⟩, List.forall_mem_cons.mpr ⟨Or.inr ⟨by decide, by decide, mo_4_83⟩, List.forall_mem_cons.mpr ⟨Or.inr ⟨by decide, by decide, mo_4_89⟩, List.forall_mem_cons.mpr ⟨Or.inr ⟨by decide, by decide, mo_4_92⟩, fun _ h => absurd h List.not_mem_nil⟩⟩⟩⟩⟩⟩⟩⟩⟩⟩⟩⟩⟩⟩
theorem pMx_5 : ∀ q ∈ (pMs[5]?).getD [], (q.2.1 = 999 ∧ Cond.methodLink (iO_ 5) q.1 objectInit ∈ lw_tbl) ∨ (q.2.1 < 140 ∧ q.2.1 ≠ 137 ∧ iMO 5 q.1 q.2.1 q.2.2.1 q.2.2.2) := by
  show ∀ q ∈ ([(3, 999, 1, 1), (18, 36, 2, 2), (24, 34, 1, 2)] : List (Nat × Nat × Nat × Nat)), (q.2.1 = 999 ∧ Cond.methodLink (iO_ 5) q.1 objectInit ∈ lw_tbl) ∨ (q.2.1 < 140 ∧ q.2.1 ≠ 137 ∧ iMO 5 q.1 q.2.1 q.2.2.1 q.2.2.2)
  exact List.forall_mem_cons.mpr ⟨Or.inl ⟨rfl, mo_5_3⟩, List.forall_mem_cons.mpr ⟨Or.inr ⟨by decide, by decide, mo_5_18⟩, List.forall_mem_cons.mpr ⟨Or.inr ⟨by decide, by decide, mo_5_24⟩, fun _ h => absurd h List.not_mem_nil⟩⟩⟩
theorem pMx_6 : ∀ q ∈ (pMs[6]?).getD [], (q.2.1 = 999 ∧ Cond.methodLink (iO_ 6) q.1 objectInit ∈ lw_tbl) ∨ (q.2.1 < 140 ∧ q.2.1 ≠ 137 ∧ iMO 6 q.1 q.2.1 q.2.2.1 q.2.2.2) := by
  show ∀ q ∈ ([(3, 999, 1, 1), (24, 34, 1, 2), (30, 61, 3, 7), (34, 57, 1, 6)] : List (Nat × Nat × Nat × Nat)), (q.2.1 = 999 ∧ Cond.methodLink (iO_ 6) q.1 objectInit ∈ lw_tbl) ∨ (q.2.1 < 140 ∧ q.2.1 ≠ 137 ∧ iMO 6 q.1 q.2.1 q.2.2.1 q.2.2.2)
  exact List.forall_mem_cons.mpr ⟨Or.inl ⟨rfl, mo_6_3⟩, List.forall_mem_cons.mpr ⟨Or.inr ⟨by decide, by decide, mo_6_24⟩, List.forall_mem_cons.mpr ⟨Or.inr ⟨by decide, by decide, mo_6_30⟩, List.forall_mem_cons.mpr ⟨Or.inr ⟨by decide, by decide, mo_6_34⟩, fun _ h => absurd h List.not_mem_nil⟩⟩⟩⟩
theorem pMx_7 : ∀ q ∈ (pMs[7]?).getD [], (q.2.1 = 999 ∧ Cond.methodLink (iO_ 7) q.1 objectInit ∈ lw_tbl) ∨ (q.2.1 < 140 ∧ q.2.1 ≠ 137 ∧ iMO 7 q.1 q.2.1 q.2.2.1 q.2.2.2) := by
  show ∀ q ∈ ([(3, 999, 1, 1), (50, 34, 1, 2), (54, 66, 2, 8), (58, 72, 2, 8), (61, 67, 4, 8), (65, 68, 4, 8), (68, 139, 2, 0), (74, 69, 5, 8), (78, 70, 3, 8), (82, 71, 4, 8), (85, 35, 3, 2), (89, 38, 2, 2), (93, 39, 4, 2)] : List (Nat × Nat × Nat × Nat)), (q.2.1 = 999 ∧ Cond.methodLink (iO_ 7) q.1 objectInit ∈ lw_tbl) ∨ (q.2.1 < 140 ∧ q.2.1 ≠ 137 ∧ iMO 7 q.1 q.2.1 q.2.2.1 q.2.2.2)
  exact List.forall_mem_cons.mpr ⟨Or.inl ⟨rfl, mo_7_3⟩, List.forall_mem_cons.mpr ⟨Or.inr ⟨by decide, by decide, mo_7_50⟩, List.forall_mem_cons.mpr ⟨Or.inr ⟨by decide, by decide, mo_7_54⟩, List.forall_mem_cons.mpr ⟨Or.inr ⟨by decide, by decide, mo_7_58⟩, List.forall_mem_cons.mpr ⟨Or.inr ⟨by decide, by decide, mo_7_61⟩, List.forall_mem_cons.mpr ⟨Or.inr ⟨by decide, by decide, mo_7_65⟩, List.forall_mem_cons.mpr ⟨Or.inr ⟨by decide, by decide, mo_7_68⟩, List.forall_mem_cons.mpr ⟨Or.inr ⟨by decide, by decide, mo_7_74⟩, List.forall_mem_cons.mpr ⟨Or.inr ⟨by decide, by decide, mo_7_78⟩, List.forall_mem_cons.mpr ⟨Or.inr ⟨by decide, by decide, mo_7_82⟩, List.forall_mem_cons.mpr ⟨Or.inr ⟨by decide, by decide, mo_7_85⟩, List.forall_mem_cons.mpr ⟨Or.inr ⟨by decide, by decide, mo_7_89⟩, List.forall_mem_cons.mpr ⟨Or.inr ⟨by decide, by decide, mo_7_93⟩, fun _ h => absurd h List.not_mem_nil⟩⟩⟩⟩⟩⟩⟩⟩⟩⟩⟩⟩⟩
theorem pMx_8 : ∀ q ∈ (pMs[8]?).getD [], (q.2.1 = 999 ∧ Cond.methodLink (iO_ 8) q.1 objectInit ∈ lw_tbl) ∨ (q.2.1 < 140 ∧ q.2.1 ≠ 137 ∧ iMO 8 q.1 q.2.1 q.2.2.1 q.2.2.2) := by
  show ∀ q ∈ ([(1, 999, 1, 1), (17, 77, 3, 0)] : List (Nat × Nat × Nat × Nat)), (q.2.1 = 999 ∧ Cond.methodLink (iO_ 8) q.1 objectInit ∈ lw_tbl) ∨ (q.2.1 < 140 ∧ q.2.1 ≠ 137 ∧ iMO 8 q.1 q.2.1 q.2.2.1 q.2.2.2)
  exact List.forall_mem_cons.mpr ⟨Or.inl ⟨rfl, mo_8_1⟩, List.forall_mem_cons.mpr ⟨Or.inr ⟨by decide, by decide, mo_8_17⟩, fun _ h => absurd h List.not_mem_nil⟩⟩
theorem pMx_9 : ∀ q ∈ (pMs[9]?).getD [], (q.2.1 = 999 ∧ Cond.methodLink (iO_ 9) q.1 objectInit ∈ lw_tbl) ∨ (q.2.1 < 140 ∧ q.2.1 ≠ 137 ∧ iMO 9 q.1 q.2.1 q.2.2.1 q.2.2.2) := by
  show ∀ q ∈ ([(1, 999, 1, 1), (93, 81, 2, 10), (97, 80, 3, 10), (101, 84, 3, 10), (105, 88, 6, 10), (109, 82, 2, 10), (115, 91, 4, 10), (119, 89, 4, 10), (123, 87, 1, 10), (126, 94, 3, 10), (130, 95, 3, 10), (133, 96, 4, 10), (137, 98, 6, 10), (141, 97, 3, 10), (157, 106, 3, 10), (160, 107, 5, 10), (167, 112, 2, 10), (170, 113, 3, 10)] : List (Nat × Nat × Nat × Nat)), (q.2.1 = 999 ∧ Cond.methodLink (iO_ 9) q.1 objectInit ∈ lw_tbl) ∨ (q.2.1 < 140 ∧ q.2.1 ≠ 137 ∧ iMO 9 q.1 q.2.1 q.2.2.1 q.2.2.2)
  exact List.forall_mem_cons.mpr ⟨Or.inl ⟨rfl, mo_9_1⟩, List.forall_mem_cons.mpr ⟨Or.inr ⟨by decide, by decide, mo_9_93⟩, List.forall_mem_cons.mpr ⟨Or.inr ⟨by decide, by decide, mo_9_97⟩, List.forall_mem_cons.mpr ⟨Or.inr ⟨by decide, by decide, mo_9_101⟩, List.forall_mem_cons.mpr ⟨Or.inr ⟨by decide, by decide, mo_9_105⟩, List.forall_mem_cons.mpr ⟨Or.inr ⟨by decide, by decide, mo_9_109⟩, List.forall_mem_cons.mpr ⟨Or.inr ⟨by decide, by decide, mo_9_115⟩, List.forall_mem_cons.mpr ⟨Or.inr ⟨by decide, by decide, mo_9_119⟩, List.forall_mem_cons.mpr ⟨Or.inr ⟨by decide, by decide, mo_9_123⟩, List.forall_mem_cons.mpr ⟨Or.inr ⟨by decide, by decide, mo_9_126⟩, List.forall_mem_cons.mpr ⟨Or.inr ⟨by decide, by decide, mo_9_130⟩, List.forall_mem_cons.mpr ⟨Or.inr ⟨by decide, by decide, mo_9_133⟩, List.forall_mem_cons.mpr ⟨Or.inr ⟨by decide, by decide, mo_9_137⟩, List.forall_mem_cons.mpr ⟨Or.inr ⟨by decide, by decide, mo_9_141⟩, List.forall_mem_cons.mpr ⟨Or.inr ⟨by decide, by decide, mo_9_157⟩, List.forall_mem_cons.mpr ⟨Or.inr ⟨by decide, by decide, mo_9_160⟩, List.forall_mem_cons.mpr ⟨Or.inr ⟨by decide, by decide, mo_9_167⟩, List.forall_mem_cons.mpr ⟨Or.inr ⟨by decide, by decide, mo_9_170⟩, fun _ h => absurd h List.not_mem_nil⟩⟩⟩⟩⟩⟩⟩⟩⟩⟩⟩⟩⟩⟩⟩⟩⟩⟩
theorem pMx_10 : ∀ q ∈ (pMs[10]?).getD [], (q.2.1 = 999 ∧ Cond.methodLink (iO_ 10) q.1 objectInit ∈ lw_tbl) ∨ (q.2.1 < 140 ∧ q.2.1 ≠ 137 ∧ iMO 10 q.1 q.2.1 q.2.2.1 q.2.2.2) := by
  show ∀ q ∈ ([(7, 1, 2, 1), (17, 2, 4, 1), (21, 3, 3, 1), (25, 4, 3, 1), (29, 5, 4, 1), (33, 6, 4, 1), (36, 7, 2, 1), (39, 8, 4, 1), (42, 9, 2, 1), (45, 10, 3, 1), (48, 11, 3, 1), (51, 12, 3, 1), (55, 13, 2, 1), (58, 14, 3, 1), (61, 17, 2, 1), (64, 18, 4, 1), (67, 19, 3, 1), (70, 20, 4, 1), (74, 21, 3, 1), (78, 0, 1, 1), (81, 78, 1, 10), (82, 118, 3, 0), (87, 83, 2, 10), (88, 79, 1, 10), (92, 119, 4, 0), (95, 85, 4, 10), (96, 120, 4, 0), (99, 86, 3, 10), (100, 121, 3, 0), (103, 90, 3, 10), (104, 122, 5, 0), (107, 92, 4, 10), (108, 123, 5, 0), (110, 93, 4, 10), (111, 124, 3, 0), (113, 99, 2, 10), (114, 125, 5, 0), (116, 100, 4, 10), (117, 126, 3, 0), (119, 101, 2, 10), (120, 127, 4, 0), (122, 102, 3, 10), (123, 128, 4, 0), (125, 103, 3, 10), (126, 129, 4, 0), (129, 104, 3, 10), (130, 130, 3, 0), (132, 105, 2, 10), (133, 131, 4, 0), (135, 108, 3, 10), (136, 15, 3, 1), (139, 109, 3, 10), (140, 16, 1, 1), (143, 110, 1, 10), (144, 132, 3, 0), (146, 111, 2, 10), (147, 133, 5, 0), (149, 114, 4, 10), (150, 134, 4, 0), (152, 115, 3, 10), (153, 135, 5, 0), (156, 116, 4, 10), (157, 136, 3, 0), (160, 117, 3, 10)] : List (Nat × Nat × Nat × Nat)), (q.2.1 = 999 ∧ Cond.methodLink (iO_ 10) q.1 objectInit ∈ lw_tbl) ∨ (q.2.1 < 140 ∧ q.2.1 ≠ 137 ∧ iMO 10 q.1 q.2.1 q.2.2.1 q.2.2.2)
  exact List.forall_mem_cons.mpr ⟨Or.inr ⟨by decide, by decide, mo_10_7⟩, List.forall_mem_cons.mpr ⟨Or.inr ⟨by decide, by decide, mo_10_17⟩, List.forall_mem_cons.mpr ⟨Or.inr ⟨by decide, by decide, mo_10_21⟩, List.forall_mem_cons.mpr ⟨Or.inr ⟨by decide, by decide, mo_10_25⟩, List.forall_mem_cons.mpr ⟨Or.inr ⟨by decide, by decide, mo_10_29⟩, List.forall_mem_cons.mpr ⟨Or.inr ⟨by decide, by decide, mo_10_33⟩, List.forall_mem_cons.mpr ⟨Or.inr ⟨by decide, by decide, mo_10_36⟩, List.forall_mem_cons.mpr ⟨Or.inr ⟨by decide, by decide, mo_10_39⟩, List.forall_mem_cons.mpr ⟨Or.inr ⟨by decide, by decide, mo_10_42⟩, List.forall_mem_cons.mpr ⟨Or.inr ⟨by decide, by decide, mo_10_45⟩, List.forall_mem_cons.mpr ⟨Or.inr ⟨by decide, by decide, mo_10_48⟩, List.forall_mem_cons.mpr ⟨Or.inr ⟨by decide, by decide, mo_10_51⟩, List.forall_mem_cons.mpr ⟨Or.inr ⟨by decide, by decide, mo_10_55⟩, List.forall_mem_cons.mpr ⟨Or.inr ⟨by decide, by decide, mo_10_58⟩, List.forall_mem_cons.mpr ⟨Or.inr ⟨by decide, by decide, mo_10_61⟩, List.forall_mem_cons.mpr ⟨Or.inr ⟨by decide, by decide, mo_10_64⟩, List.forall_mem_cons.mpr ⟨Or.inr ⟨by decide, by decide, mo_10_67⟩, List.forall_mem_cons.mpr ⟨Or.inr ⟨by decide, by decide, mo_10_70⟩, List.forall_mem_cons.mpr ⟨Or.inr ⟨by decide, by decide, mo_10_74⟩, List.forall_mem_cons.mpr ⟨Or.inr ⟨by decide, by decide, mo_10_78⟩, List.forall_mem_cons.mpr ⟨Or.inr ⟨by decide, by decide, mo_10_81⟩, List.forall_mem_cons.mpr ⟨Or.inr ⟨by decide, by decide, mo_10_82⟩, List.forall_mem_cons.mpr ⟨Or.inr ⟨by decide, by decide, mo_10_87⟩, List.forall_mem_cons.mpr ⟨Or.inr ⟨by decide, by decide, mo_10_88⟩, List.forall_mem_cons.mpr ⟨Or.inr ⟨by decide, by decide, mo_10_92⟩, List.forall_mem_cons.mpr ⟨Or.inr ⟨by decide, by decide, mo_10_95⟩, List.forall_mem_cons.mpr ⟨Or.inr ⟨by decide, by decide, mo_10_96⟩, List.forall_mem_cons.mpr ⟨Or.inr ⟨by decide, by decide, mo_10_99⟩, List.forall_mem_cons.mpr ⟨Or.inr ⟨by decide, by decide, mo_10_100⟩, List.forall_mem_cons.mpr ⟨Or.inr ⟨by decide, by decide, mo_10_103⟩, List.forall_mem_cons.mpr ⟨Or.inr ⟨by decide, by decide, mo_10_104⟩, List.forall_mem_cons.mpr ⟨Or.inr ⟨by decide, by decide, mo_10_107⟩, List.forall_mem_cons.mpr ⟨Or.inr ⟨by decide, by decide, mo_10_108⟩, List.forall_mem_cons.mpr ⟨Or.inr ⟨by decide, by decide, mo_10_110⟩, List.forall_mem_cons.mpr ⟨Or.inr ⟨by decide, by decide, mo_10_111⟩, List.forall_mem_cons.mpr ⟨Or.inr ⟨by decide, by decide, mo_10_113⟩, List.forall_mem_cons.mpr ⟨Or.inr ⟨by decide, by decide, mo_10_114⟩, List.forall_mem_cons.mpr ⟨Or.inr ⟨by decide, by decide, mo_10_116⟩, List.forall_mem_cons.mpr ⟨Or.inr ⟨by decide, by decide, mo_10_117⟩, List.forall_mem_cons.mpr ⟨Or.inr ⟨by decide, by decide, mo_10_119⟩, List.forall_mem_cons.mpr ⟨Or.inr ⟨by decide, by decide, mo_10_120⟩, List.forall_mem_cons.mpr ⟨Or.inr ⟨by decide, by decide, mo_10_122⟩, List.forall_mem_cons.mpr ⟨Or.inr ⟨by decide, by decide, mo_10_123⟩, List.forall_mem_cons.mpr ⟨Or.inr ⟨by decide, by decide, mo_10_125⟩, List.forall_mem_cons.mpr ⟨Or.inr ⟨by decide, by decide, mo_10_126⟩, List.forall_mem_cons.mpr ⟨Or.inr ⟨by decide, by decide, mo_10_129⟩, List.forall_mem_cons.mpr ⟨Or.inr ⟨by decide, by decide, mo_10_130⟩, List.forall_mem_cons.mpr ⟨Or.inr ⟨by decide, by decide, mo_10_132⟩, List.forall_mem_cons.mpr ⟨Or.inr ⟨by decide, by decide, mo_10_133⟩, List.forall_mem_cons.mpr ⟨Or.inr ⟨by decide, by decide, mo_10_135⟩, List.forall_mem_cons.mpr ⟨Or.inr ⟨by decide, by decide, mo_10_136⟩, List.forall_mem_cons.mpr ⟨Or.inr ⟨by decide, by decide, mo_10_139⟩, List.forall_mem_cons.mpr ⟨Or.inr ⟨by decide, by decide, mo_10_140⟩, List.forall_mem_cons.mpr ⟨Or.inr ⟨by decide, by decide, mo_10_143⟩, List.forall_mem_cons.mpr ⟨Or.inr ⟨by decide, by decide, mo_10_144⟩, List.forall_mem_cons.mpr ⟨Or.inr ⟨by decide, by decide, mo_10_146⟩, List.forall_mem_cons.mpr ⟨Or.inr ⟨by decide, by decide, mo_10_147⟩, List.forall_mem_cons.mpr ⟨Or.inr ⟨by decide, by decide, mo_10_149⟩, List.forall_mem_cons.mpr ⟨Or.inr ⟨by decide, by decide, mo_10_150⟩, List.forall_mem_cons.mpr ⟨Or.inr ⟨by decide, by decide, mo_10_152⟩, List.forall_mem_cons.mpr ⟨Or.inr ⟨by decide, by decide, mo_10_153⟩, List.forall_mem_cons.mpr ⟨Or.inr ⟨by decide, by decide, mo_10_156⟩, List.forall_mem_cons.mpr ⟨Or.inr ⟨by decide, by decide, mo_10_157⟩, List.forall_mem_cons.mpr ⟨Or.inr ⟨by decide, by decide, mo_10_160⟩, fun _ h => absurd h List.not_mem_nil⟩⟩⟩⟩⟩⟩⟩⟩⟩⟩⟩⟩⟩⟩⟩⟩⟩⟩⟩⟩⟩⟩⟩⟩⟩⟩⟩⟩⟩⟩⟩⟩⟩⟩⟩⟩⟩⟩⟩⟩⟩⟩⟩⟩⟩⟩⟩⟩⟩⟩⟩⟩⟩⟩⟩⟩⟩⟩⟩⟩⟩⟩⟩⟩
theorem pMx_11 : ∀ q ∈ (pMs[11]?).getD [], (q.2.1 = 999 ∧ Cond.methodLink (iO_ 11) q.1 objectInit ∈ lw_tbl) ∨ (q.2.1 < 140 ∧ q.2.1 ≠ 137 ∧ iMO 11 q.1 q.2.1 q.2.2.1 q.2.2.2) := by
  show ∀ q ∈ ([] : List (Nat × Nat × Nat × Nat)), (q.2.1 = 999 ∧ Cond.methodLink (iO_ 11) q.1 objectInit ∈ lw_tbl) ∨ (q.2.1 < 140 ∧ q.2.1 ≠ 137 ∧ iMO 11 q.1 q.2.1 q.2.2.1 q.2.2.2)
  exact fun _ h => absurd h List.not_mem_nil
theorem pMx_12 : ∀ q ∈ (pMs[12]?).getD [], (q.2.1 = 999 ∧ Cond.methodLink (iO_ 12) q.1 objectInit ∈ lw_tbl) ∨ (q.2.1 < 140 ∧ q.2.1 ≠ 137 ∧ iMO 12 q.1 q.2.1 q.2.2.1 q.2.2.2) := by
  show ∀ q ∈ ([] : List (Nat × Nat × Nat × Nat)), (q.2.1 = 999 ∧ Cond.methodLink (iO_ 12) q.1 objectInit ∈ lw_tbl) ∨ (q.2.1 < 140 ∧ q.2.1 ≠ 137 ∧ iMO 12 q.1 q.2.1 q.2.2.1 q.2.2.2)
  exact fun _ h => absurd h List.not_mem_nil
theorem pMxA : ∀ w : Nat, ∀ q ∈ (pMs[w]?).getD [], (q.2.1 = 999 ∧ Cond.methodLink (iO_ w) q.1 objectInit ∈ lw_tbl) ∨ (q.2.1 < 140 ∧ q.2.1 ≠ 137 ∧ iMO w q.1 q.2.1 q.2.2.1 q.2.2.2)
  | 0 => pMx_0
  | 1 => pMx_1
  | 2 => pMx_2
  | 3 => pMx_3
  | 4 => pMx_4
  | 5 => pMx_5
  | 6 => pMx_6
  | 7 => pMx_7
  | 8 => pMx_8
  | 9 => pMx_9
  | 10 => pMx_10
  | 11 => pMx_11
  | 12 => pMx_12
  | w + 13 => fun _ h => absurd (show _ ∈ ([] : List (Nat × Nat × Nat × Nat)) from h) List.not_mem_nil

theorem iLk {α : Type} {l : List (Nat × α)} {k : Nat} {v : α} (h : l.lookup k = some v) : (k, v) ∈ l := by
  induction l with
  | nil => cases h
  | cons a l ih =>
    obtain ⟨b, w⟩ := a
    rw [List.lookup_cons] at h
    by_cases hk : k = b
    · subst hk
      simp at h
      subst h
      exact List.mem_cons_self
    · have : (k == b) = false := by simpa using hk
      rw [this] at h
      exact List.mem_cons_of_mem _ (ih h)
/-- each row of the tables is the machine's -/
theorem iDec {j pc : Nat} {i : Instr} {len : Nat} (h : iC j pc = some (i, len)) : decode (iBy j) pc = .ok (i, len) ∧ iLen i len = true := by
  unfold iC at h
  cases hc : (mC j)[pc / 64]? with
  | none => rw [hc] at h; cases h
  | some ch =>
    rw [hc] at h
    exact dmA j ch (List.mem_of_getElem? hc) (pc, i, len) (iLk h)
theorem iFx {w k c f t : Nat} (h : pF w k = some (c, f, t)) : iFO w k c f t := pFxA w (k, c, f, t) (iLk h)
theorem iNx {w k c n : Nat} (h : pN w k = some (c, n)) : iNO w k c n := pNxA w (k, c, n) (iLk h)
theorem iVx {w k c : Nat} (h : pV w k = some c) : iVO w k c := pVxA w (k, c) (iLk h)
end
section
/-! HOW THE IDEAL MACHINE LIES IN THE REAL ONE: values, cells, what the tables say at a state. -/
def cv : iV → Value
  | .inl x => .int x
  | .inr (.inl a) => if a = 0 then .null else .ref a
  | .inr (.inr y) => .long y
theorem cv_r {a : Nat} (h : a ≠ 0) : cv (vr a) = .ref a := if_neg h
theorem cv_0 : cv (vr 0) = .null := rfl
theorem cv_ref (a : Nat) : (cv (vr a)).isRef = true := by
  by_cases h : a = 0
  · subst h; rfl
  · rw [cv_r h]; rfl
theorem cv_cat1 (a : Nat) : (cv (vr a)).category = 1 := by
  by_cases h : a = 0
  · subst h; rfl
  · rw [cv_r h]; rfl
/-- class numbers and slots of the own classes; the array classes: int, boolean, long, and of references by kind -/
abbrev iD : Type := va_G × ClassId × ClassId × ClassId × (Nat → ClassId)
def iTys (D : iD) : List (ClassId × FieldType) := [(D.2.1, .int), (D.2.2.1, .boolean), (D.2.2.2.1, .long), (D.2.2.2.2 2, .object (kR 2)), (D.2.2.2.2 4, .object (kR 4)), (D.2.2.2.2 6, .object (kR 6)), (D.2.2.2.2 9, .object (kR 9))]
def iEx : Nat → String
  | 1 => "java/lang/IllegalArgumentException"
  | 2 => "java/lang/IllegalStateException"
  | _ => ""
/-- a field's value, of its type -/
def iFv (t : FieldType) (x : Int32) (a : Nat) : Value := match t with
  | .int => .int x
  | .boolean => .int x
  | _ => cv (vr a)
/-- a cell of kind k: its length, its fields, its elements -/
def iCell (D : iD) (k n : Nat) (fI : Nat → Int32) (fR : Nat → Nat) (eA : Nat → Int32) (eB : Nat → Nat) (eL : Nat → Int64) (oc : Option Cell) : Prop :=
  (1 ≤ k → k ≤ 10 → ∃ cell : Cell, oc = some cell ∧ cell.cls = D.1.1 (k - 1) ∧ cell.vm = .none ∧ ∀ f, f < kN k → cell.slots[D.1.2 (k - 1) f]? = some (iFv (kY k f) (fI (k * 32 + f)) (fR (k * 32 + f)))) ∧
  (k = 100 → ∃ cell : Cell, oc = some cell ∧ cell.cls = D.2.1 ∧ (∀ z, cell.vm ≠ .statics z) ∧ cell.vm ≠ .unknown ∧ cell.slots.size = n ∧ n < 2 ^ 31 ∧ ∀ q : Nat, q < n → cell.slots[q]? = some (.int (eA q))) ∧
  (k = 101 → oc = some (arrV D.2.1 n (fun q => .int (eA q)))) ∧
  (k = 102 → oc = some (arrV D.2.2.1 n (fun q => .int (eA q)))) ∧
  (k = 103 → oc = some (arrV D.2.2.2.1 n (fun q => .long (eL q)))) ∧
  (∀ c, c = 2 ∨ c = 4 ∨ c = 6 ∨ c = 9 → k = 110 + c → oc = some (arrV (D.2.2.2.2 c) n (fun q => cv (vr (eB q))))) ∧
  (k ≤ 10 ∨ (100 ≤ k ∧ k ≤ 103) ∨ k = 112 ∨ k = 114 ∨ k = 116 ∨ k = 119 ∨ 200 ≤ k)
def iAt (D : iD) (σ : iS) (a : Nat) (oc : Option Cell) : Prop := iCell D (sK σ a) (sN σ a) (fun f => sI σ f a) (fun f => sR σ f a) (sA σ a) (sB σ a) (sL σ a) oc
/-- the heap holds what the ideal one has; base: where the new cells begin -/
def iRel (D : iD) (base : Nat) (σ : iS) (H : Heap) : Prop :=
  H.size = sX σ ∧ 0 < base ∧ base ≤ sX σ ∧ (∀ a, sK σ a ≠ 0 → a < sX σ ∧ a ≠ 0) ∧ (∀ a, sK σ a ≠ 0 → sK σ a ≠ 100 → base ≤ a) ∧ ∀ a : Nat, iAt D σ a H[a]?
/-- σ' has at a what σ has -/
def iSame (σ σ' : iS) (a : Nat) : Prop := sK σ' a = sK σ a ∧ sN σ' a = sN σ a ∧ (∀ f, sI σ' f a = sI σ f a) ∧ (∀ f, sR σ' f a = sR σ f a) ∧ (∀ q, sA σ' a q = sA σ a q) ∧ (∀ q, sB σ' a q = sB σ a q) ∧ ∀ q, sL σ' a q = sL σ a q
theorem iAt.same {D : iD} {σ σ' : iS} {a : Nat} {oc : Option Cell} (h : iAt D σ a oc) (hs : iSame σ σ' a) : iAt D σ' a oc := by
  obtain ⟨h1, h2, h3, h4, h5, h6, h7⟩ := hs
  unfold iAt at h ⊢
  rw [h1, h2, show (fun f => sI σ' f a) = fun f => sI σ f a from funext h3, show (fun f => sR σ' f a) = fun f => sR σ f a from funext h4, show sA σ' a = sA σ a from funext h5, show sB σ' a = sB σ a from funext h6, show sL σ' a = sL σ a from funext h7]
  exact h
/-- a write at a -/
theorem iRel.put {D : iD} {base : Nat} {σ σ' : iS} {H H' : Heap} {a : Nat} (h : iRel D base σ H) (hk : ∀ b, sK σ' b = sK σ b) (hx : sX σ' = sX σ) (ho : ∀ b, b ≠ a → iSame σ σ' b) (hz : H'.size = H.size) (hq : ∀ q : Nat, q ≠ a → H'[q]? = H[q]?) (ha : iAt D σ' a H'[a]?) : iRel D base σ' H' := by
  obtain ⟨h1, h2, h3, h4, h5, h6⟩ := h
  refine ⟨by rw [hz, hx]; exact h1, h2, by rw [hx]; exact h3, fun b hb => by rw [hx]; exact h4 b (by rw [← hk b]; exact hb), fun b hb hb2 => h5 b (by rw [← hk b]; exact hb) (by rw [← hk b]; exact hb2), fun b => ?_⟩
  by_cases hb : b = a
  · subst hb; exact ha
  · rw [hq b hb]; exact (h6 b).same (ho b hb)
/-- a new cell -/
theorem iRel.new {D : iD} {base : Nat} {σ σ' : iS} {H H' : Heap} (h : iRel D base σ H) (hx : sX σ' = sX σ + 1) (hk : sK σ' (sX σ) ≠ 100) (ho : ∀ b, b ≠ sX σ → iSame σ σ' b) (hz : H'.size = H.size + 1) (hq : ∀ q : Nat, q < H.size → H'[q]? = H[q]?) (ha : iAt D σ' (sX σ) H'[sX σ]?) : iRel D base σ' H' := by
  obtain ⟨h1, h2, h3, h4, h5, h6⟩ := h
  refine ⟨by rw [hz, hx, h1], h2, by omega, fun b hb => ?_, fun b hb hb2 => ?_, fun b => ?_⟩
  · by_cases hb0 : b = sX σ
    · subst hb0; omega
    · rw [(ho b hb0).1] at hb
      have := h4 b hb
      omega
  · by_cases hb0 : b = sX σ
    · subst hb0; omega
    · rw [(ho b hb0).1] at hb hb2
      exact h5 b hb hb2
  · by_cases hb0 : b = sX σ
    · subst hb0; exact ha
    · have hs := ho b hb0
      by_cases hlt : b < H.size
      · rw [hq b hlt]; exact (h6 b).same hs
      · have hn : H'[b]? = none := by rw [Array.getElem?_eq_none_iff]; omega
        have hn2 : H[b]? = none := by rw [Array.getElem?_eq_none_iff]; omega
        rw [hn, ← hn2]; exact (h6 b).same hs
theorem iRel.lt {D : iD} {base : Nat} {σ : iS} {H : Heap} (h : iRel D base σ H) {a : Nat} (ha : sK σ a ≠ 0) : a ≠ 0 ∧ a < H.size := ⟨(h.2.2.2.1 a ha).2, by rw [h.1]; exact (h.2.2.2.1 a ha).1⟩
/-- the slots of a frame: known ints and references -/
def iLoc (arr : Array Slot) (n : Nat) (ls : List iV) : Prop := arr.size = n ∧ ls.length = n ∧ lv_wf arr ∧ ∀ (k : Nat) (v : iV), ls[k]? = some v → (∀ y, v ≠ vl y) → arr[k]? = some (.val (cv v))
/-- the listed pairs -/
def iP1 (k : Nat) : Option iV → Option (Nat × Value)
  | some (.inl x) => some (k, .int x)
  | some (.inr (.inl a)) => some (k, cv (vr a))
  | _ => none
def iPr (ls : List iV) : List (Nat × Value) := (List.range ls.length).filterMap (fun k => iP1 k ls[k]?)
theorem iPr_mem {ls : List iV} {k : Nat} {v : iV} (h : ls[k]? = some v) (hv : ∀ y, v ≠ vl y) : (k, cv v) ∈ iPr ls := by
  have hk : k < ls.length := (List.getElem?_eq_some_iff.mp h).1
  refine List.mem_filterMap.mpr ⟨k, List.mem_range.mpr hk, ?_⟩
  rw [h]
  match v, hv with
  | .inl x, _ => rfl
  | .inr (.inl a), _ => rfl
  | .inr (.inr y), hv => exact absurd rfl (hv y)
theorem iPr_inv {ls : List iV} {q : Nat × Value} (h : q ∈ iPr ls) : ∃ v, ls[q.1]? = some v ∧ (∀ y, v ≠ vl y) ∧ q.2 = cv v := by
  obtain ⟨k, -, hk⟩ := List.mem_filterMap.mp h
  cases hl : ls[k]? with
  | none => rw [hl] at hk; cases hk
  | some v =>
    rw [hl] at hk
    match v, hl, hk with
    | .inl x, hl, hk => cases hk; exact ⟨_, hl, fun y h => (by cases h), rfl⟩
    | .inr (.inl a), hl, hk => cases hk; exact ⟨_, hl, fun y h => (by cases h), rfl⟩
    | .inr (.inr y), hl, hk => cases hk
theorem iLoc.has {arr : Array Slot} {n : Nat} {ls : List iV} (h : iLoc arr n ls) : lv_has arr n (iPr ls) := by
  refine ⟨h.1, h.2.2.1, fun q hq => ?_⟩
  obtain ⟨v, h1, h2, h3⟩ := iPr_inv hq
  rw [h3]
  exact h.2.2.2 _ v h1 h2
theorem iLoc.store {arr arr' : Array Slot} {n k : Nat} {ls : List iV} {v : iV} (h : iLoc arr n ls) (hk : k < n) (hv : ∀ y, v ≠ vl y) (h' : lv_has arr' n ((k, cv v) :: (iPr ls).filter (fun q => !(q.1 == k) && !(q.1 + 1 == k && q.2.category == 2)))) : iLoc arr' n (ls.set k v) := by
  obtain ⟨h1, h2, h3⟩ := h'
  refine ⟨h1, by rw [List.length_set]; exact h.2.1, h2, fun i w hi hw => ?_⟩
  by_cases hik : i = k
  · subst hik
    rw [List.getElem?_set_self (by rw [h.2.1]; exact hk)] at hi
    cases hi
    exact h3 (i, cv v) List.mem_cons_self
  · rw [List.getElem?_set_ne (Ne.symm hik)] at hi
    refine h3 (i, cv w) (List.mem_cons_of_mem _ (List.mem_filter.mpr ⟨iPr_mem hi hw, ?_⟩))
    have hc : (cv w).category = 1 := by
      match w, hw with
      | .inl x, _ => rfl
      | .inr (.inl a), _ => exact cv_cat1 a
      | .inr (.inr y), hw => exact absurd rfl (hw y)
    simp [hik, hc]
end
section
/-! A STEP OF THE IDEAL MACHINE IS A STEP OF THE REAL ONE. -/
def iGW (w : Cond) : Bool := (w.onTables && w.keeps) || (match w with
  | .arrayClass _ => true
  | .arrayOver (.object _) => true
  | .fieldLinkNest _ _ _ _ _ _ => true
  | .methodLinkNest _ _ _ _ => true
  | .castable _ _ => true
  | .declares _ => true
  | _ => false)
def iTw (U : State) : Prop := ∀ w ∈ lw_tbl, iGW w = true → w.before #[] U = true
theorem iGW_c {w : Cond} (hg : iGW w = true) : (w.onTables && w.keeps) = true ∨ (∃ ty, w = .arrayClass ty) ∨ (∃ C, w = .arrayOver (.object C)) ∨ (∃ a b c d e f, w = .fieldLinkNest a b c d e f) ∨ (∃ a b c d, w = .methodLinkNest a b c d) ∨ (∃ a b, w = .castable a b) ∨ ∃ a, w = .declares a := by
  unfold iGW at hg
  rw [Bool.or_eq_true] at hg
  rcases hg with hg | hg
  · exact Or.inl hg
  · right
    split at hg
    · exact Or.inl ⟨_, rfl⟩
    · exact Or.inr (Or.inl ⟨_, rfl⟩)
    · exact Or.inr (Or.inr (Or.inl ⟨_, _, _, _, _, _, rfl⟩))
    · exact Or.inr (Or.inr (Or.inr (Or.inl ⟨_, _, _, _, rfl⟩)))
    · exact Or.inr (Or.inr (Or.inr (Or.inr (Or.inl ⟨_, _, rfl⟩))))
    · exact Or.inr (Or.inr (Or.inr (Or.inr (Or.inr ⟨_, rfl⟩))))
    · cases hg
theorem iTw.at {s U : State} (h : iTw s) (hW : s.WarmedH U.vm) {w : Cond} (hw : w ∈ lw_tbl) (hg : iGW w = true) (args : Array Value) : w.before args U = true := by
  have hb := h w hw hg
  rcases iGW_c hg with hg | ⟨ty, rfl⟩ | ⟨C, rfl⟩ | ⟨_, _, _, _, _, _, rfl⟩ | ⟨_, _, _, _, rfl⟩ | ⟨_, _, rfl⟩ | ⟨_, rfl⟩
  · exact word_at hW (Or.inl hg) hb
  · exact word_at hW (Or.inr ⟨_, rfl⟩) hb
  · exact va_AO.moved hW.alike hb
  · exact va_Nw.use rfl (va_Nw.warmF hW hb)
  · exact va_Nw.use rfl (va_Nw.warmM hW hb)
  · exact va_Nw.use rfl (va_Nw.warmC hW hb)
  · exact va_Nw.use rfl (va_Nw.warmD hW hb)
theorem iTw.moved {s U : State} (h : iTw s) (hW : s.WarmedH U.vm) : iTw U := fun _ hw hg => h.at hW hw hg #[]
theorem iTw.use {s : State} (h : iTw s) {w : Cond} (hw : w ∈ lw_tbl) (hg : iGW w = true) (args : Array Value) : w.before args s = true := h.at (State.WarmedH.refl s) hw hg args
/-- what is known where a method's body runs -/
def iCtx (D : iD) (p : Program) (s : State) (m : MethodId) (meth : Method) (c : Code) (j : Nat) : Prop :=
  p.tables.exec = Jvm.exec ∧ c.code = iBy j ∧ meth.sig.returnType = iRt j ∧ meth.locks = false ∧ s.vm.findClass (iOw j) = some m.cls ∧ c.maxLocals = mL j ∧ meth.name = (iY j).name ∧ iTw s ∧ va_K D.1 vwC (iTys D) s ∧ c.exceptionTable.toList = tableOf (iHh j)
def iOut : iO → Outcome → Prop
  | .inl v, oc => oc = .returned (v.map cv)
  | .inr (_, a), oc => oc = .threw a
/-- what is thrown lies in the heap, of its class -/
def iThC : iO → State → State → Prop
  | .inl _, _, _ => True
  | .inr (x, a), s, t => ∃ ce : Cell, t.heap[a]? = some ce ∧ ce.vm = .none ∧ s.vm.findClass (iEx x) = some ce.cls
/-- the body's end -/
def iEnd (D : iD) (base : Nat) (below : List Frame) (s : State) (o : iO) (σe : iS) (cc ss : Nat) : State → Prop := fun t =>
  ∃ oc, t.status = .running ∧ Ended t below oc ∧ iOut o oc ∧ iThC o s t ∧ iRel D base σe t.heap ∧ s.WarmedH t.vm ∧ ∃ L, s.sameButNew ({ t with vm := s.vm } : State) L cc ss ∧ ∀ z ∈ L, base ≤ z.base
/-- from here on the body comes to its end -/
def iWG (D : iD) (base : Nat) (l : Launch) (p : Program) (e : Env) (R : Room) (s : State) (m : MethodId) (args : Array Value) (below : List Frame) (meth : Method) (c : Code) (x0 s0 : Nat) (o : iO) (σe : iS) (j pc : Nat) (ls st : List iV) (σ : iS) : Prop :=
  ∀ (H : Heap) (locs : List Loc) (arr : Array Slot), iRel D base σ H → (∀ q : Nat, q < base → H[q]? = s.heap[q]?) → (∀ z ∈ locs, base ≤ z.base) → iLoc arr (mL j) ls → W p l e R s m args below meth c H locs (sX σ - x0) (sS σ - s0) (iEnd D base below s o σe (sX σe - x0) (sS σe - s0)) (F0 m pc arr (st.map cv))
theorem iLen1 {len n : Nat} (h : Nat.beq len n = true) : len = n := Nat.eq_of_beq_eq_true h
section SD
variable {D : iD} {base : Nat} {l : Launch} {p : Program} {e : Env} {R : Room} {s : State} {m : MethodId} {args : Array Value} {below : List Frame} {meth : Method} {c : Code} {x0 s0 : Nat} {o : iO} {σe : iS} {j pc len : Nat} {ls st : List iV} {σ : iS}

theorem sd_iconst {v : Int} (C : iCtx D p s m meth c j) (h : iC j pc = some (.iconst v, len))  (k : iWG D base l p e R s m args below meth c x0 s0 o σe j (pc + len) ls (vi (Int32.ofInt v) :: st) σ) : iWG D base l p e R s m args below meth c x0 s0 o σe j pc ls (st) σ := by
  obtain ⟨hd, hn⟩ := iDec h
  cases iLen1 hn
  intro H locs arr hR hO hL hA
  exact lv_iconst C.1 C.2.1 hd rfl (k H locs arr hR hO hL hA)

theorem sd_bipush {v : Int} (C : iCtx D p s m meth c j) (h : iC j pc = some (.bipush v, len))  (k : iWG D base l p e R s m args below meth c x0 s0 o σe j (pc + len) ls (vi (Int8.ofInt v).toInt32 :: st) σ) : iWG D base l p e R s m args below meth c x0 s0 o σe j pc ls (st) σ := by
  obtain ⟨hd, hn⟩ := iDec h
  cases iLen1 hn
  intro H locs arr hR hO hL hA
  exact lv_bipush C.1 C.2.1 hd rfl (k H locs arr hR hO hL hA)

theorem sd_sipush {v : Int} (C : iCtx D p s m meth c j) (h : iC j pc = some (.sipush v, len))  (k : iWG D base l p e R s m args below meth c x0 s0 o σe j (pc + len) ls (vi (Int16.ofInt v).toInt32 :: st) σ) : iWG D base l p e R s m args below meth c x0 s0 o σe j pc ls (st) σ := by
  obtain ⟨hd, hn⟩ := iDec h
  cases iLen1 hn
  intro H locs arr hR hO hL hA
  exact lv_sipush C.1 C.2.1 hd rfl (k H locs arr hR hO hL hA)

theorem sd_null  (C : iCtx D p s m meth c j) (h : iC j pc = some (.aconst_null, len))  (k : iWG D base l p e R s m args below meth c x0 s0 o σe j (pc + len) ls (vr 0 :: st) σ) : iWG D base l p e R s m args below meth c x0 s0 o σe j pc ls (st) σ := by
  obtain ⟨hd, hn⟩ := iDec h
  cases iLen1 hn
  intro H locs arr hR hO hL hA
  exact lv_null C.1 C.2.1 hd (k H locs arr hR hO hL hA)

theorem sd_iload {q : Nat} {x : Int32} (C : iCtx D p s m meth c j) (h : iC j pc = some (.iload q, len)) (hq : ls[q]? = some (vi x)) (k : iWG D base l p e R s m args below meth c x0 s0 o σe j (pc + len) ls (vi x :: st) σ) : iWG D base l p e R s m args below meth c x0 s0 o σe j pc ls (st) σ := by
  obtain ⟨hd, hn⟩ := iDec h
  cases iLen1 hn
  intro H locs arr hR hO hL hA
  exact lv_iload C.1 C.2.1 hd (hA.2.2.2 _ _ hq (fun _ h => by cases h)) (k H locs arr hR hO hL hA)

theorem sd_iload_n {q : Fin 4} {x : Int32} (C : iCtx D p s m meth c j) (h : iC j pc = some (.iload_n q, len)) (hq : ls[q.val]? = some (vi x)) (k : iWG D base l p e R s m args below meth c x0 s0 o σe j (pc + len) ls (vi x :: st) σ) : iWG D base l p e R s m args below meth c x0 s0 o σe j pc ls (st) σ := by
  obtain ⟨hd, hn⟩ := iDec h
  cases iLen1 hn
  intro H locs arr hR hO hL hA
  exact lv_iload_n C.1 C.2.1 hd rfl (hA.2.2.2 _ _ hq (fun _ h => by cases h)) (k H locs arr hR hO hL hA)

theorem sd_aload {q : Nat} {a : Nat} (C : iCtx D p s m meth c j) (h : iC j pc = some (.aload q, len)) (hq : ls[q]? = some (vr a)) (k : iWG D base l p e R s m args below meth c x0 s0 o σe j (pc + len) ls (vr a :: st) σ) : iWG D base l p e R s m args below meth c x0 s0 o σe j pc ls (st) σ := by
  obtain ⟨hd, hn⟩ := iDec h
  cases iLen1 hn
  intro H locs arr hR hO hL hA
  have hv := hA.2.2.2 _ _ hq (fun _ h => by cases h)
  have k := k H locs arr hR hO hL hA
  by_cases ha : a = 0
  · subst ha
    exact lv_aloadN C.1 C.2.1 hd hv k
  · rw [List.map_cons, cv_r ha] at k
    rw [cv_r ha] at hv
    exact lv_aload C.1 C.2.1 hd hv k

theorem sd_aload_n {q : Fin 4} {a : Nat} (C : iCtx D p s m meth c j) (h : iC j pc = some (.aload_n q, len)) (hq : ls[q.val]? = some (vr a)) (k : iWG D base l p e R s m args below meth c x0 s0 o σe j (pc + len) ls (vr a :: st) σ) : iWG D base l p e R s m args below meth c x0 s0 o σe j pc ls (st) σ := by
  obtain ⟨hd, hn⟩ := iDec h
  cases iLen1 hn
  intro H locs arr hR hO hL hA
  have hv := hA.2.2.2 _ _ hq (fun _ h => by cases h)
  have k := k H locs arr hR hO hL hA
  by_cases ha : a = 0
  · subst ha
    exact lv_aload_nN C.1 C.2.1 hd rfl hv k
  · rw [List.map_cons, cv_r ha] at k
    rw [cv_r ha] at hv
    exact lv_aload_n C.1 C.2.1 hd rfl hv k

theorem sd_istore {q : Nat} {x : Int32} (C : iCtx D p s m meth c j) (h : iC j pc = some (.istore q, len)) (hq : q < ls.length) (k : iWG D base l p e R s m args below meth c x0 s0 o σe j (pc + len) (ls.set q (vi x)) (st) σ) : iWG D base l p e R s m args below meth c x0 s0 o σe j pc ls (vi x :: st) σ := by
  obtain ⟨hd, hn⟩ := iDec h
  cases iLen1 hn
  intro H locs arr hR hO hL hA
  have hq2 : q < mL j := by rw [← hA.2.1]; exact hq
  exact lv_istore C.1 C.2.1 hd hA.has hq2 rfl (fun arr2 h2 => k H locs arr2 hR hO hL (hA.store hq2 (v := vi x) (fun _ h => by cases h) h2))

theorem sd_istore_n {q : Fin 4} {x : Int32} (C : iCtx D p s m meth c j) (h : iC j pc = some (.istore_n q, len)) (hq : q.val < ls.length) (k : iWG D base l p e R s m args below meth c x0 s0 o σe j (pc + len) (ls.set q.val (vi x)) (st) σ) : iWG D base l p e R s m args below meth c x0 s0 o σe j pc ls (vi x :: st) σ := by
  obtain ⟨hd, hn⟩ := iDec h
  cases iLen1 hn
  intro H locs arr hR hO hL hA
  have hq2 : q.val < mL j := by rw [← hA.2.1]; exact hq
  exact lv_istore_n C.1 C.2.1 hd rfl hA.has hq2 rfl (fun arr2 h2 => k H locs arr2 hR hO hL (hA.store hq2 (v := vi x) (fun _ h => by cases h) h2))

theorem sd_astore {q : Nat} {a : Nat} (C : iCtx D p s m meth c j) (h : iC j pc = some (.astore q, len)) (hq : q < ls.length) (k : iWG D base l p e R s m args below meth c x0 s0 o σe j (pc + len) (ls.set q (vr a)) (st) σ) : iWG D base l p e R s m args below meth c x0 s0 o σe j pc ls (vr a :: st) σ := by
  obtain ⟨hd, hn⟩ := iDec h
  cases iLen1 hn
  intro H locs arr hR hO hL hA
  have hq2 : q < mL j := by rw [← hA.2.1]; exact hq
  by_cases ha : a = 0
  · subst ha
    exact lv_astoreN C.1 C.2.1 hd hA.has hq2 rfl (fun arr2 h2 => k H locs arr2 hR hO hL (hA.store hq2 (v := vr 0) (fun _ h => by cases h) h2))
  · rw [List.map_cons, cv_r ha]
    exact lv_astore C.1 C.2.1 hd hA.has hq2 rfl (fun arr2 h2 => k H locs arr2 hR hO hL (hA.store hq2 (v := vr a) (fun _ h => by cases h) (by rw [cv_r ha]; exact h2)))

theorem sd_astore_n {q : Fin 4} {a : Nat} (C : iCtx D p s m meth c j) (h : iC j pc = some (.astore_n q, len)) (hq : q.val < ls.length) (k : iWG D base l p e R s m args below meth c x0 s0 o σe j (pc + len) (ls.set q.val (vr a)) (st) σ) : iWG D base l p e R s m args below meth c x0 s0 o σe j pc ls (vr a :: st) σ := by
  obtain ⟨hd, hn⟩ := iDec h
  cases iLen1 hn
  intro H locs arr hR hO hL hA
  have hq2 : q.val < mL j := by rw [← hA.2.1]; exact hq
  by_cases ha : a = 0
  · subst ha
    exact lv_astore_nN C.1 C.2.1 hd rfl hA.has hq2 rfl (fun arr2 h2 => k H locs arr2 hR hO hL (hA.store hq2 (v := vr 0) (fun _ h => by cases h) h2))
  · rw [List.map_cons, cv_r ha]
    exact lv_astore_n C.1 C.2.1 hd rfl hA.has hq2 rfl (fun arr2 h2 => k H locs arr2 hR hO hL (hA.store hq2 (v := vr a) (fun _ h => by cases h) (by rw [cv_r ha]; exact h2)))

theorem sd_iinc {q : Nat} {v : Int} {x : Int32} (C : iCtx D p s m meth c j) (h : iC j pc = some (.iinc q v, len)) (hq : ls[q]? = some (vi x)) (k : iWG D base l p e R s m args below meth c x0 s0 o σe j (pc + len) (ls.set q (vi (x + Int32.ofInt v))) (st) σ) : iWG D base l p e R s m args below meth c x0 s0 o σe j pc ls (st) σ := by
  obtain ⟨hd, hn⟩ := iDec h
  cases iLen1 hn
  intro H locs arr hR hO hL hA
  have hq2 : q < mL j := by rw [← hA.2.1]; exact (List.getElem?_eq_some_iff.mp hq).1
  obtain ⟨z, hz⟩ := List.getElem?_of_mem (iPr_mem hq (fun _ h => by cases h))
  exact lv_iinc C.1 C.2.1 hd hA.has hz rfl hq2 rfl (fun arr2 h2 => k H locs arr2 hR hO hL (hA.store hq2 (v := vi (x + Int32.ofInt v)) (fun _ h => by cases h) h2))

theorem sd_iadd {x y : Int32} (C : iCtx D p s m meth c j) (h : iC j pc = some (.iadd, len))  (k : iWG D base l p e R s m args below meth c x0 s0 o σe j (pc + len) ls (vi (x + y) :: st) σ) : iWG D base l p e R s m args below meth c x0 s0 o σe j pc ls (vi y :: vi x :: st) σ := by
  obtain ⟨hd, hn⟩ := iDec h
  cases iLen1 hn
  intro H locs arr hR hO hL hA
  exact lv_iadd C.1 C.2.1 hd (k H locs arr hR hO hL hA)

theorem sd_isub {x y : Int32} (C : iCtx D p s m meth c j) (h : iC j pc = some (.isub, len))  (k : iWG D base l p e R s m args below meth c x0 s0 o σe j (pc + len) ls (vi (x - y) :: st) σ) : iWG D base l p e R s m args below meth c x0 s0 o σe j pc ls (vi y :: vi x :: st) σ := by
  obtain ⟨hd, hn⟩ := iDec h
  cases iLen1 hn
  intro H locs arr hR hO hL hA
  exact lv_isub C.1 C.2.1 hd (k H locs arr hR hO hL hA)

theorem sd_imul {x y : Int32} (C : iCtx D p s m meth c j) (h : iC j pc = some (.imul, len))  (k : iWG D base l p e R s m args below meth c x0 s0 o σe j (pc + len) ls (vi (x * y) :: st) σ) : iWG D base l p e R s m args below meth c x0 s0 o σe j pc ls (vi y :: vi x :: st) σ := by
  obtain ⟨hd, hn⟩ := iDec h
  cases iLen1 hn
  intro H locs arr hR hO hL hA
  exact lv_imul C.1 C.2.1 hd (k H locs arr hR hO hL hA)

theorem sd_iand {x y : Int32} (C : iCtx D p s m meth c j) (h : iC j pc = some (.iand, len))  (k : iWG D base l p e R s m args below meth c x0 s0 o σe j (pc + len) ls (vi (x &&& y) :: st) σ) : iWG D base l p e R s m args below meth c x0 s0 o σe j pc ls (vi y :: vi x :: st) σ := by
  obtain ⟨hd, hn⟩ := iDec h
  cases iLen1 hn
  intro H locs arr hR hO hL hA
  exact lv_iand C.1 C.2.1 hd (k H locs arr hR hO hL hA)

theorem sd_idiv {x y : Int32} (C : iCtx D p s m meth c j) (h : iC j pc = some (.idiv, len)) (hy : y ≠ 0) (k : iWG D base l p e R s m args below meth c x0 s0 o σe j (pc + len) ls (vi (x / y) :: st) σ) : iWG D base l p e R s m args below meth c x0 s0 o σe j pc ls (vi y :: vi x :: st) σ := by
  obtain ⟨hd, hn⟩ := iDec h
  cases iLen1 hn
  intro H locs arr hR hO hL hA
  exact lv_idiv C.1 C.2.1 hd hy (k H locs arr hR hO hL hA)

theorem sd_irem {x y : Int32} (C : iCtx D p s m meth c j) (h : iC j pc = some (.irem, len)) (hy : y ≠ 0) (k : iWG D base l p e R s m args below meth c x0 s0 o σe j (pc + len) ls (vi (x - x / y * y) :: st) σ) : iWG D base l p e R s m args below meth c x0 s0 o σe j pc ls (vi y :: vi x :: st) σ := by
  obtain ⟨hd, hn⟩ := iDec h
  cases iLen1 hn
  intro H locs arr hR hO hL hA
  exact lv_irem C.1 C.2.1 hd hy (k H locs arr hR hO hL hA)

theorem sd_i2l {x : Int32} (C : iCtx D p s m meth c j) (h : iC j pc = some (.i2l, len))  (k : iWG D base l p e R s m args below meth c x0 s0 o σe j (pc + len) ls (vl x.toInt64 :: st) σ) : iWG D base l p e R s m args below meth c x0 s0 o σe j pc ls (vi x :: st) σ := by
  obtain ⟨hd, hn⟩ := iDec h
  cases iLen1 hn
  intro H locs arr hR hO hL hA
  exact lv_i2l C.1 C.2.1 hd rfl (k H locs arr hR hO hL hA)

theorem sd_dup_i {x : Int32} (C : iCtx D p s m meth c j) (h : iC j pc = some (.dup, len))  (k : iWG D base l p e R s m args below meth c x0 s0 o σe j (pc + len) ls (vi x :: vi x :: st) σ) : iWG D base l p e R s m args below meth c x0 s0 o σe j pc ls (vi x :: st) σ := by
  obtain ⟨hd, hn⟩ := iDec h
  cases iLen1 hn
  intro H locs arr hR hO hL hA
  exact lv_dup C.1 C.2.1 hd rfl (k H locs arr hR hO hL hA)

theorem sd_dup_r {a : Nat} (C : iCtx D p s m meth c j) (h : iC j pc = some (.dup, len))  (k : iWG D base l p e R s m args below meth c x0 s0 o σe j (pc + len) ls (vr a :: vr a :: st) σ) : iWG D base l p e R s m args below meth c x0 s0 o σe j pc ls (vr a :: st) σ := by
  obtain ⟨hd, hn⟩ := iDec h
  cases iLen1 hn
  intro H locs arr hR hO hL hA
  exact lv_dup C.1 C.2.1 hd (cv_cat1 a) (k H locs arr hR hO hL hA)

theorem sd_dup2 {x : Int32} {a : Nat} (C : iCtx D p s m meth c j) (h : iC j pc = some (.dup2, len))  (k : iWG D base l p e R s m args below meth c x0 s0 o σe j (pc + len) ls (vi x :: vr a :: vi x :: vr a :: st) σ) : iWG D base l p e R s m args below meth c x0 s0 o σe j pc ls (vi x :: vr a :: st) σ := by
  obtain ⟨hd, hn⟩ := iDec h
  cases iLen1 hn
  intro H locs arr hR hO hL hA
  exact lv_dup2_11 C.1 C.2.1 hd rfl (cv_cat1 a) (k H locs arr hR hO hL hA)

theorem sd_pop_i {x : Int32} (C : iCtx D p s m meth c j) (h : iC j pc = some (.pop, len))  (k : iWG D base l p e R s m args below meth c x0 s0 o σe j (pc + len) ls (st) σ) : iWG D base l p e R s m args below meth c x0 s0 o σe j pc ls (vi x :: st) σ := by
  obtain ⟨hd, hn⟩ := iDec h
  cases iLen1 hn
  intro H locs arr hR hO hL hA
  exact lv_pop C.1 C.2.1 hd (va := .int x) rfl (k H locs arr hR hO hL hA)

theorem sd_pop_r {a : Nat} (C : iCtx D p s m meth c j) (h : iC j pc = some (.pop, len))  (k : iWG D base l p e R s m args below meth c x0 s0 o σe j (pc + len) ls (st) σ) : iWG D base l p e R s m args below meth c x0 s0 o σe j pc ls (vr a :: st) σ := by
  obtain ⟨hd, hn⟩ := iDec h
  cases iLen1 hn
  intro H locs arr hR hO hL hA
  exact lv_pop C.1 C.2.1 hd (cv_cat1 a) (k H locs arr hR hO hL hA)

theorem sd_goto {off : Int} {t : Nat} (C : iCtx D p s m meth c j) (h : iC j pc = some (.goto off, len)) (ht : (pc : Int) + off = (t : Int)) (k : iWG D base l p e R s m args below meth c x0 s0 o σe j t ls st σ) : iWG D base l p e R s m args below meth c x0 s0 o σe j pc ls st σ := by
  obtain ⟨hd, hn⟩ := iDec h
  cases iLen1 hn
  intro H locs arr hR hO hL hA
  exact lv_goto C.1 C.2.1 hd ht (k H locs arr hR hO hL hA)

theorem sd_if_eq {x : Int32} {off : Int} {t : Nat} (C : iCtx D p s m meth c j) (h : iC j pc = some (.ifCond .eq off, len)) (ht : (pc : Int) + off = (t : Int)) (k1 : x = 0 → iWG D base l p e R s m args below meth c x0 s0 o σe j t ls st σ) (k2 : ¬ (x = 0) → iWG D base l p e R s m args below meth c x0 s0 o σe j (pc + len) ls st σ) : iWG D base l p e R s m args below meth c x0 s0 o σe j pc ls (vi x :: st) σ := by
  obtain ⟨hd, hn⟩ := iDec h
  cases iLen1 hn
  intro H locs arr hR hO hL hA
  exact lv_if_eq C.1 C.2.1 hd ht (fun q => k1 q H locs arr hR hO hL hA) (fun q => k2 q H locs arr hR hO hL hA)

theorem sd_if_ne {x : Int32} {off : Int} {t : Nat} (C : iCtx D p s m meth c j) (h : iC j pc = some (.ifCond .ne off, len)) (ht : (pc : Int) + off = (t : Int)) (k1 : x ≠ 0 → iWG D base l p e R s m args below meth c x0 s0 o σe j t ls st σ) (k2 : ¬ (x ≠ 0) → iWG D base l p e R s m args below meth c x0 s0 o σe j (pc + len) ls st σ) : iWG D base l p e R s m args below meth c x0 s0 o σe j pc ls (vi x :: st) σ := by
  obtain ⟨hd, hn⟩ := iDec h
  cases iLen1 hn
  intro H locs arr hR hO hL hA
  exact lv_if_ne C.1 C.2.1 hd ht (fun q => k1 q H locs arr hR hO hL hA) (fun q => k2 (fun z => z q) H locs arr hR hO hL hA)

theorem sd_if_lt {x : Int32} {off : Int} {t : Nat} (C : iCtx D p s m meth c j) (h : iC j pc = some (.ifCond .lt off, len)) (ht : (pc : Int) + off = (t : Int)) (k1 : x < 0 → iWG D base l p e R s m args below meth c x0 s0 o σe j t ls st σ) (k2 : ¬ (x < 0) → iWG D base l p e R s m args below meth c x0 s0 o σe j (pc + len) ls st σ) : iWG D base l p e R s m args below meth c x0 s0 o σe j pc ls (vi x :: st) σ := by
  obtain ⟨hd, hn⟩ := iDec h
  cases iLen1 hn
  intro H locs arr hR hO hL hA
  exact lv_if_lt C.1 C.2.1 hd ht (fun q => k1 q H locs arr hR hO hL hA) (fun q => k2 q H locs arr hR hO hL hA)

theorem sd_if_ge {x : Int32} {off : Int} {t : Nat} (C : iCtx D p s m meth c j) (h : iC j pc = some (.ifCond .ge off, len)) (ht : (pc : Int) + off = (t : Int)) (k1 : 0 ≤ x → iWG D base l p e R s m args below meth c x0 s0 o σe j t ls st σ) (k2 : ¬ (0 ≤ x) → iWG D base l p e R s m args below meth c x0 s0 o σe j (pc + len) ls st σ) : iWG D base l p e R s m args below meth c x0 s0 o σe j pc ls (vi x :: st) σ := by
  obtain ⟨hd, hn⟩ := iDec h
  cases iLen1 hn
  intro H locs arr hR hO hL hA
  exact lv_if_ge C.1 C.2.1 hd ht (fun q => k1 q H locs arr hR hO hL hA) (fun q => k2 q H locs arr hR hO hL hA)

theorem sd_if_gt {x : Int32} {off : Int} {t : Nat} (C : iCtx D p s m meth c j) (h : iC j pc = some (.ifCond .gt off, len)) (ht : (pc : Int) + off = (t : Int)) (k1 : 0 < x → iWG D base l p e R s m args below meth c x0 s0 o σe j t ls st σ) (k2 : ¬ (0 < x) → iWG D base l p e R s m args below meth c x0 s0 o σe j (pc + len) ls st σ) : iWG D base l p e R s m args below meth c x0 s0 o σe j pc ls (vi x :: st) σ := by
  obtain ⟨hd, hn⟩ := iDec h
  cases iLen1 hn
  intro H locs arr hR hO hL hA
  exact lv_if_gt C.1 C.2.1 hd ht (fun q => k1 q H locs arr hR hO hL hA) (fun q => k2 q H locs arr hR hO hL hA)

theorem sd_if_le {x : Int32} {off : Int} {t : Nat} (C : iCtx D p s m meth c j) (h : iC j pc = some (.ifCond .le off, len)) (ht : (pc : Int) + off = (t : Int)) (k1 : x ≤ 0 → iWG D base l p e R s m args below meth c x0 s0 o σe j t ls st σ) (k2 : ¬ (x ≤ 0) → iWG D base l p e R s m args below meth c x0 s0 o σe j (pc + len) ls st σ) : iWG D base l p e R s m args below meth c x0 s0 o σe j pc ls (vi x :: st) σ := by
  obtain ⟨hd, hn⟩ := iDec h
  cases iLen1 hn
  intro H locs arr hR hO hL hA
  exact lv_if_le C.1 C.2.1 hd ht (fun q => k1 q H locs arr hR hO hL hA) (fun q => k2 q H locs arr hR hO hL hA)

theorem sd_icmp_eq {x y : Int32} {off : Int} {t : Nat} (C : iCtx D p s m meth c j) (h : iC j pc = some (.if_icmp .eq off, len)) (ht : (pc : Int) + off = (t : Int)) (k1 : x = y → iWG D base l p e R s m args below meth c x0 s0 o σe j t ls st σ) (k2 : ¬ (x = y) → iWG D base l p e R s m args below meth c x0 s0 o σe j (pc + len) ls st σ) : iWG D base l p e R s m args below meth c x0 s0 o σe j pc ls (vi y :: vi x :: st) σ := by
  obtain ⟨hd, hn⟩ := iDec h
  cases iLen1 hn
  intro H locs arr hR hO hL hA
  exact lv_icmp_eq C.1 C.2.1 hd ht (fun q => k1 q H locs arr hR hO hL hA) (fun q => k2 q H locs arr hR hO hL hA)

theorem sd_icmp_ne {x y : Int32} {off : Int} {t : Nat} (C : iCtx D p s m meth c j) (h : iC j pc = some (.if_icmp .ne off, len)) (ht : (pc : Int) + off = (t : Int)) (k1 : x ≠ y → iWG D base l p e R s m args below meth c x0 s0 o σe j t ls st σ) (k2 : ¬ (x ≠ y) → iWG D base l p e R s m args below meth c x0 s0 o σe j (pc + len) ls st σ) : iWG D base l p e R s m args below meth c x0 s0 o σe j pc ls (vi y :: vi x :: st) σ := by
  obtain ⟨hd, hn⟩ := iDec h
  cases iLen1 hn
  intro H locs arr hR hO hL hA
  exact lv_icmp_ne C.1 C.2.1 hd ht (fun q => k1 q H locs arr hR hO hL hA) (fun q => k2 (fun z => z q) H locs arr hR hO hL hA)

theorem sd_icmp_lt {x y : Int32} {off : Int} {t : Nat} (C : iCtx D p s m meth c j) (h : iC j pc = some (.if_icmp .lt off, len)) (ht : (pc : Int) + off = (t : Int)) (k1 : x < y → iWG D base l p e R s m args below meth c x0 s0 o σe j t ls st σ) (k2 : ¬ (x < y) → iWG D base l p e R s m args below meth c x0 s0 o σe j (pc + len) ls st σ) : iWG D base l p e R s m args below meth c x0 s0 o σe j pc ls (vi y :: vi x :: st) σ := by
  obtain ⟨hd, hn⟩ := iDec h
  cases iLen1 hn
  intro H locs arr hR hO hL hA
  exact lv_icmp_lt C.1 C.2.1 hd ht (fun q => k1 q H locs arr hR hO hL hA) (fun q => k2 q H locs arr hR hO hL hA)

theorem sd_icmp_ge {x y : Int32} {off : Int} {t : Nat} (C : iCtx D p s m meth c j) (h : iC j pc = some (.if_icmp .ge off, len)) (ht : (pc : Int) + off = (t : Int)) (k1 : y ≤ x → iWG D base l p e R s m args below meth c x0 s0 o σe j t ls st σ) (k2 : ¬ (y ≤ x) → iWG D base l p e R s m args below meth c x0 s0 o σe j (pc + len) ls st σ) : iWG D base l p e R s m args below meth c x0 s0 o σe j pc ls (vi y :: vi x :: st) σ := by
  obtain ⟨hd, hn⟩ := iDec h
  cases iLen1 hn
  intro H locs arr hR hO hL hA
  exact lv_icmp_ge C.1 C.2.1 hd ht (fun q => k1 q H locs arr hR hO hL hA) (fun q => k2 q H locs arr hR hO hL hA)

theorem sd_icmp_gt {x y : Int32} {off : Int} {t : Nat} (C : iCtx D p s m meth c j) (h : iC j pc = some (.if_icmp .gt off, len)) (ht : (pc : Int) + off = (t : Int)) (k1 : y < x → iWG D base l p e R s m args below meth c x0 s0 o σe j t ls st σ) (k2 : ¬ (y < x) → iWG D base l p e R s m args below meth c x0 s0 o σe j (pc + len) ls st σ) : iWG D base l p e R s m args below meth c x0 s0 o σe j pc ls (vi y :: vi x :: st) σ := by
  obtain ⟨hd, hn⟩ := iDec h
  cases iLen1 hn
  intro H locs arr hR hO hL hA
  exact lv_icmp_gt C.1 C.2.1 hd ht (fun q => k1 q H locs arr hR hO hL hA) (fun q => k2 q H locs arr hR hO hL hA)

theorem sd_icmp_le {x y : Int32} {off : Int} {t : Nat} (C : iCtx D p s m meth c j) (h : iC j pc = some (.if_icmp .le off, len)) (ht : (pc : Int) + off = (t : Int)) (k1 : x ≤ y → iWG D base l p e R s m args below meth c x0 s0 o σe j t ls st σ) (k2 : ¬ (x ≤ y) → iWG D base l p e R s m args below meth c x0 s0 o σe j (pc + len) ls st σ) : iWG D base l p e R s m args below meth c x0 s0 o σe j pc ls (vi y :: vi x :: st) σ := by
  obtain ⟨hd, hn⟩ := iDec h
  cases iLen1 hn
  intro H locs arr hR hO hL hA
  exact lv_icmp_le C.1 C.2.1 hd ht (fun q => k1 q H locs arr hR hO hL hA) (fun q => k2 q H locs arr hR hO hL hA)

theorem sd_ifnull {a : Nat} {off : Int} {t : Nat} (C : iCtx D p s m meth c j) (h : iC j pc = some (.ifnull off, len)) (ht : (pc : Int) + off = (t : Int)) (k1 : a = 0 → iWG D base l p e R s m args below meth c x0 s0 o σe j t ls st σ) (k2 : ¬ (a = 0) → iWG D base l p e R s m args below meth c x0 s0 o σe j (pc + len) ls st σ) : iWG D base l p e R s m args below meth c x0 s0 o σe j pc ls (vr a :: st) σ := by
  obtain ⟨hd, hn⟩ := iDec h
  cases iLen1 hn
  intro H locs arr hR hO hL hA
  by_cases ha : a = 0
  · subst ha
    exact lv_ifnullN C.1 C.2.1 hd ht (k1 rfl H locs arr hR hO hL hA)
  · rw [List.map_cons, cv_r ha]
    exact lv_ifnull C.1 C.2.1 hd (k2 ha H locs arr hR hO hL hA)
theorem sd_ifnonnull {a : Nat} {off : Int} {t : Nat} (C : iCtx D p s m meth c j) (h : iC j pc = some (.ifnonnull off, len)) (ht : (pc : Int) + off = (t : Int)) (k1 : a ≠ 0 → iWG D base l p e R s m args below meth c x0 s0 o σe j t ls st σ) (k2 : ¬ (a ≠ 0) → iWG D base l p e R s m args below meth c x0 s0 o σe j (pc + len) ls st σ) : iWG D base l p e R s m args below meth c x0 s0 o σe j pc ls (vr a :: st) σ := by
  obtain ⟨hd, hn⟩ := iDec h
  cases iLen1 hn
  intro H locs arr hR hO hL hA
  by_cases ha : a = 0
  · subst ha
    exact lv_ifnonnullN C.1 C.2.1 hd (k2 (fun q => q rfl) H locs arr hR hO hL hA)
  · rw [List.map_cons, cv_r ha]
    exact lv_ifnonnull C.1 C.2.1 hd ht (k1 ha H locs arr hR hO hL hA)
theorem sd_tableO {d lo hi : Int} {offs : Array Int} {x : Int32} {t : Nat} (C : iCtx D p s m meth c j) (h : iC j pc = some (.tableswitch d lo hi offs, len)) (hx : x.toInt < lo ∨ hi < x.toInt) (ht : (pc : Int) + d = (t : Int)) (k : iWG D base l p e R s m args below meth c x0 s0 o σe j t ls st σ) : iWG D base l p e R s m args below meth c x0 s0 o σe j pc ls (vi x :: st) σ := by
  obtain ⟨hd, hn⟩ := iDec h
  intro H locs arr hR hO hL hA
  exact lv_tableOut C.1 C.2.1 hd hx ht (k H locs arr hR hO hL hA)
theorem sd_tableI {d lo hi off : Int} {offs : Array Int} {x : Int32} {t : Nat} (C : iCtx D p s m meth c j) (h : iC j pc = some (.tableswitch d lo hi offs, len)) (hx : ¬ (x.toInt < lo ∨ hi < x.toInt)) (ho : offs[(x.toInt - lo).toNat]? = some off) (ht : (pc : Int) + off = (t : Int)) (k : iWG D base l p e R s m args below meth c x0 s0 o σe j t ls st σ) : iWG D base l p e R s m args below meth c x0 s0 o σe j pc ls (vi x :: st) σ := by
  obtain ⟨hd, hn⟩ := iDec h
  intro H locs arr hR hO hL hA
  exact lv_tableIn C.1 C.2.1 hd (fun q => hx (Or.inl q)) (fun q => hx (Or.inr q)) ho ht (k H locs arr hR hO hL hA)
theorem sd_lookup {d : Int} {ps : Array (Int × Int)} {x : Int32} {t : Nat} (C : iCtx D p s m meth c j) (h : iC j pc = some (.lookupswitch d ps, len)) (hp : (ps.toList.zip (ps.toList.drop 1)).all (fun (a, next) => a.1 < next.1) = true) (ht : (pc : Int) + Op.lookupswitch.offset ps.toList d x.toInt = (t : Int)) (k : iWG D base l p e R s m args below meth c x0 s0 o σe j t ls st σ) : iWG D base l p e R s m args below meth c x0 s0 o σe j pc ls (vi x :: st) σ := by
  obtain ⟨hd, hn⟩ := iDec h
  intro H locs arr hR hO hL hA
  exact lv_lookup C.1 C.2.1 hd hp rfl ht (k H locs arr hR hO hL hA)
theorem sd_lcmp {x y : Int64} (C : iCtx D p s m meth c j) (h : iC j pc = some (.lcmp, len)) (k : ∀ r : Int32, (x = y → r = 0) → (¬ x = y → x < y → r = -1) → (¬ x = y → ¬ x < y → r = 1) → iWG D base l p e R s m args below meth c x0 s0 o σe j (pc + len) ls (vi r :: st) σ) : iWG D base l p e R s m args below meth c x0 s0 o σe j pc ls (vl y :: vl x :: st) σ := by
  obtain ⟨hd, hn⟩ := iDec h
  cases iLen1 hn
  intro H locs arr hR hO hL hA
  refine W.lcmp C.1 C.2.1 hd (k (lg_cmp x y) (fun q => ?_) (fun q1 q2 => ?_) (fun q1 q2 => ?_) H locs arr hR hO hL hA)
  · subst q
    have h0 : ¬ x < x := by rw [Int64.lt_iff_toInt_lt]; omega
    simp [lg_cmp, h0]
  · have h0 : ¬ y < x := by rw [Int64.lt_iff_toInt_lt] at q2 ⊢; omega
    simp [lg_cmp, h0, q1]
  · have h0 : y < x := by
      have h1 : ¬ x.toInt = y.toInt := fun z => q1 (Int64.toInt_inj.mp z)
      rw [Int64.lt_iff_toInt_lt] at q2 ⊢; omega
    simp [lg_cmp, h0]
end SD
end
section
/-! STEPS ON THE HEAP. -/
set_option maxRecDepth 20000 in
theorem kw_in : ∀ c, c < 11 → ∀ w ∈ u_ws (kR c) (kT c) (kN c), w ∈ lw_tbl := by decide +kernel
theorem kw_ty : ∀ c, c < 11 → ∀ f, f < kN c → parseFieldDescriptor (kT c f).2.2.1 = some (kY c f) := by decide +kernel
theorem kw_nm : ∀ c, c < 11 → ∀ a, a < kN c → ∀ b, b < kN c → a ≠ b → (kT c a).2.1 ≠ (kT c b).2.1 := by decide +kernel
theorem kw_ow : ∀ c, c < 11 → ∀ f, f < kN c → (kT c f).1 = kR c := by decide +kernel
theorem kw_32 : ∀ c, c < 11 → kN c < 64 := by decide +kernel
theorem kw_vw {c : Nat} (h1 : 1 ≤ c) (h2 : c ≤ 10) : vwC[c - 1]? = some (kR c, kT c, kN c) := by
  rcases (by omega : c = 1 ∨ c = 2 ∨ c = 3 ∨ c = 4 ∨ c = 5 ∨ c = 6 ∨ c = 7 ∨ c = 8 ∨ c = 9 ∨ c = 10) with rfl | rfl | rfl | rfl | rfl | rfl | rfl | rfl | rfl | rfl <;> rfl
theorem u_ws_gw {C : String} {T : u_T} {N : Nat} : ∀ w ∈ u_ws C T N, iGW w = true := by
  intro w hw
  obtain ⟨k, -, rfl⟩ := List.mem_map.mp hw
  unfold u_lay
  split <;> rfl
theorem iTw.lay {s : State} (h : iTw s) {c : Nat} (h2 : c ≤ 10) (args : Array Value) : ∀ w ∈ u_ws (kR c) (kT c) (kN c), w.before args s = true :=
  fun w hw => h.use (kw_in c (by omega) w hw) (u_ws_gw w hw) args
def iVv (t : Nat) (x : Int32) (a : Nat) : iV := match t with
  | 2 => vr a
  | _ => vi x
theorem iFv_t {t : Nat} {ty : FieldType} {x : Int32} {a : Nat} (h : iTyOk t ty = true) : iFv ty x a = cv (iVv t x a) := by
  match t, ty, h with
  | 0, .int, _ => rfl
  | 1, .boolean, _ => rfl
  | 2, .object _, _ => rfl
  | 2, .array _, _ => rfl
section SH
variable {D : iD} {base : Nat} {l : Launch} {p : Program} {e : Env} {R : Room} {s : State} {m : MethodId} {args : Array Value} {below : List Frame} {meth : Method} {c : Code} {x0 s0 : Nat} {o : iO} {σe : iS} {j pc len : Nat} {ls st : List iV} {σ : iS}
theorem sd_getf {k kc f t a : Nat} (C : iCtx D p s m meth c j) (h : iC j pc = some (.getfield k, len)) (hF : pF (mO j) k = some (kc, f, t)) (hk : sK σ a = kc) (kk : iWG D base l p e R s m args below meth c x0 s0 o σe j (pc + len) ls (iVv t (sI σ (kc * 32 + f) a) (sR σ (kc * 32 + f) a) :: st) σ) : iWG D base l p e R s m args below meth c x0 s0 o σe j pc ls (vr a :: st) σ := by
  obtain ⟨hd, hn⟩ := iDec h
  cases iLen1 hn
  intro H locs arr hR hO hL hA
  obtain ⟨hl, hf, ⟨h1, h2⟩, ht⟩ := iFx hF
  obtain ⟨cx, cb, -, -, co, -, -, ct, cK, -⟩ := C
  have hk0 : sK σ a ≠ 0 := by omega
  obtain ⟨cell, e1, e2, e3, e4⟩ := (hR.2.2.2.2.2 a).1 (by omega) (by omega)
  rw [hk] at e2 e4
  obtain ⟨hS, hfc, kC, hkC, hkind⟩ := cK.1 (kc - 1) _ (kw_vw h1 h2)
  obtain ⟨cf, kf, fi, fd, hi, hsl⟩ := hS f hf
  have hlay := ct.lay h2 args
  have hst := (u_facts hfc hkC (u_lays hlay (fun _ h => h) hf) hi).1
  rw [kw_ow kc (by omega) f hf] at hi
  have hv : cell.slots[fd.slot]? = some (cv (iVv t (sI σ (kc * 32 + f) a) (sR σ (kc * 32 + f) a))) := by
    rw [hsl, e4 f hf, iFv_t ht]
  rw [List.map_cons, cv_r (hR.lt hk0).1]
  rcases hl with hl | hl
  · exact W.getf cx cb co (ct.use hl rfl args) hi hst e1 (by rw [e3]; exact fun h => by cases h) hv rfl rfl hd (kk H locs arr hR hO hL hA)
  · exact va_Wgetf cx cb co (ct.use hl rfl args) hi hst e1 (by rw [e3]; exact fun h => by cases h) hv rfl rfl hd (kk H locs arr hR hO hL hA)
theorem iSame_wI {f a b : Nat} {x : Int32} (hb : b ≠ a) : iSame σ (wI σ f a x) b := ⟨rfl, rfl, fun g => by simp [sI, wI, u2, hb], fun _ => rfl, fun _ => rfl, fun _ => rfl, fun _ => rfl⟩
theorem iSame_wR {f a b x : Nat} (hb : b ≠ a) : iSame σ (wR σ f a x) b := ⟨rfl, rfl, fun _ => rfl, fun g => by simp [sR, wR, u2, hb], fun _ => rfl, fun _ => rfl, fun _ => rfl⟩
theorem iSame_wA {i a b : Nat} {x : Int32} (hb : b ≠ a) : iSame σ (wA σ a i x) b := ⟨rfl, rfl, fun _ => rfl, fun _ => rfl, fun q => by simp [sA, wA, u2, hb], fun _ => rfl, fun _ => rfl⟩
theorem iSame_wB {i a b x : Nat} (hb : b ≠ a) : iSame σ (wB σ a i x) b := ⟨rfl, rfl, fun _ => rfl, fun _ => rfl, fun _ => rfl, fun q => by simp [sB, wB, u2, hb], fun _ => rfl⟩
theorem iSame_wL {i a b : Nat} {x : Int64} (hb : b ≠ a) : iSame σ (wL σ a i x) b := ⟨rfl, rfl, fun _ => rfl, fun _ => rfl, fun _ => rfl, fun _ => rfl, fun q => by simp [sL, wL, u2, hb]⟩
theorem iSame_nO {k n b : Nat} (hb : b ≠ sX σ) : iSame σ (nO σ k n) b := ⟨by simp [sK, nO, u1]; exact fun h => absurd h hb, rfl, fun g => by simp [sI, nO, uf]; exact fun h => absurd h hb, fun g => by simp [sR, nO, uf]; exact fun h => absurd h hb, fun _ => rfl, fun _ => rfl, fun _ => rfl⟩
theorem iSame_nA {k n b : Nat} (hb : b ≠ sX σ) : iSame σ (nA σ k n) b := ⟨by simp [sK, nA, u1]; exact fun h => absurd h hb, by simp [sN, nA, u1]; exact fun h => absurd h hb, fun _ => rfl, fun _ => rfl, fun g => by simp [sA, nA, uz]; exact fun h => absurd h hb, fun g => by simp [sB, nA, uz]; exact fun h => absurd h hb, fun g => by simp [sL, nA, uz]; exact fun h => absurd h hb⟩
/-- what is stored behind a field's write: the same cell with one slot changed -/
theorem iAt_obj {kc a : Nat} {cell : Cell} {σ' : iS} {fI : Nat → Int32} (h1 : 1 ≤ kc) (h2 : kc ≤ 10) (hk : sK σ' a = kc) (q2 : cell.cls = D.1.1 (kc - 1)) (q3 : cell.vm = .none) (q4 : ∀ f, f < kN kc → cell.slots[D.1.2 (kc - 1) f]? = some (iFv (kY kc f) (sI σ' (kc * 32 + f) a) (sR σ' (kc * 32 + f) a))) : iAt D σ' a (some cell) := by
  unfold iAt
  rw [hk]
  refine ⟨fun _ _ => ⟨cell, rfl, q2, q3, q4⟩, fun h => ?_, fun h => ?_, fun h => ?_, fun h => ?_, fun c hc h => ?_, Or.inl h2⟩ <;> omega
theorem sd_putf {k kc f t a : Nat} {v : iV} {σ' : iS} (C : iCtx D p s m meth c j) (h : iC j pc = some (.putfield k, len)) (hF : pF (mO j) k = some (kc, f, t)) (hfin : (kT kc f).2.2.2 = false ∨ ((iY j).name = "<init>" ∧ iOw j = kR kc)) (hk : sK σ a = kc)
    (hn1 : narrow (kY kc f) (cv v) = cv v) (hn2 : fits (kY kc f) (cv v) = true) (hx : sX σ' = sX σ) (hs : sS σ' = sS σ) (hK : ∀ b, sK σ' b = sK σ b) (hsm : ∀ b, b ≠ a → iSame σ σ' b)
    (hf0 : ∀ g, g < kN kc → iFv (kY kc g) (sI σ' (kc * 32 + g) a) (sR σ' (kc * 32 + g) a) = if g = f then cv v else iFv (kY kc g) (sI σ (kc * 32 + g) a) (sR σ (kc * 32 + g) a))
    (kk : iWG D base l p e R s m args below meth c x0 s0 o σe j (pc + len) ls st σ') : iWG D base l p e R s m args below meth c x0 s0 o σe j pc ls (v :: vr a :: st) σ := by
  obtain ⟨hd, hn⟩ := iDec h
  cases iLen1 hn
  intro H locs arr hR hO hL hA
  obtain ⟨hl, hf, ⟨h1, h2⟩, ht⟩ := iFx hF
  obtain ⟨cx, cb, -, -, co, -, cn, ct, cK, -⟩ := C
  have hk0 : sK σ a ≠ 0 := by omega
  have hba : base ≤ a := hR.2.2.2.2.1 a hk0 (by omega)
  obtain ⟨cell, e1, e2, e3, e4⟩ := (hR.2.2.2.2.2 a).1 (by omega) (by omega)
  rw [hk] at e2 e4
  have hvw := kw_vw h1 h2
  have hlay := ct.lay h2 args
  have hap := va_apart (own := iOw j) hlay (fun _ h => h) (kY kc) (kw_ty kc (by omega)) (kw_nm kc (by omega)) cK hvw
  obtain ⟨hS, hfc, kC, hkC, hkind⟩ := cK.1 (kc - 1) _ hvw
  obtain ⟨cf, kf, fi, fd, hi, hsl⟩ := hS f hf
  have hly := hlay _ (u_in_lay hf)
  have hst := (u_facts hfc hkC (u_lays hlay (fun _ h => h) hf) hi).1
  have hty := kw_ty kc (by omega) f hf
  have hi2 := hi
  rw [kw_ow kc (by omega) f hf] at hi2
  have fin : ∀ H' : Heap, H'[a]? = some (cell.setSlot fd.slot (cv v)) → H'.size = H.size → (∀ q, q ≠ a → H'[q]? = H[q]?) → W p l e R s m args below meth c H' (locs ++ [⟨a, fd.slot⟩]) (sX σ - x0) (sS σ - s0) (iEnd D base below s o σe (sX σe - x0) (sS σe - s0)) (F0 m (pc + 3) arr (st.map cv)) := by
    intro H' g1 g2 g3
    rw [← hx, ← hs]
    refine kk H' _ arr (hR.put hK hx hsm g2 g3 ?_) (fun q hq => (g3 q (by omega)).trans (hO q hq)) (fun z hz => ?_) hA
    · rw [g1]
      refine iAt_obj (fI := fun _ => 0) h1 h2 ((hK a).trans hk) e2 e3 (fun g hg => ?_)
      rw [hsl, t_set (V := fun g => iFv (kY kc g) (sI σ (kc * 32 + g) a) (sR σ (kc * 32 + g) a)) e4 hap hf (cv v) g hg, hf0 g hg]
      rfl
    · rcases List.mem_append.mp hz with hz | hz
      · exact hL z hz
      · rw [List.mem_singleton.mp hz]; exact hba
  rw [List.map_cons, List.map_cons, cv_r (hR.lt hk0).1]
  have hlt : fd.slot < cell.slots.size := by rw [hsl]; exact k2_hasslot (e4 f hf)
  cases hfn : (kT kc f).2.2.2 with
  | false =>
    unfold u_lay at hly
    rw [if_neg (by rw [hfn]; decide)] at hly
    have h6 := u_store hfc hkC hkind hly hi hty hn1 hn2
    rcases hl with hl | hl
    · exact W.putK cx cb (f := fd) ⟨co, ct.use hl rfl args, ⟨_, _, _, hi2⟩, hst⟩ (by rw [e2]; exact h6) e1 e3 hlt rfl rfl hd fin
    · exact va_WputK cx cb (f := fd) co (ct.use hl rfl args) hi2 hst (by rw [e2]; exact h6) e1 e3 hlt rfl rfl hd fin
  | true =>
    unfold u_lay at hly
    rw [if_pos hfn] at hly
    rcases hfin with hfin | ⟨q1, q2⟩
    · rw [hfn] at hfin; cases hfin
    · have hcf : m.cls = cf := by
        obtain ⟨_, _, c', _, _, _, -, -, hf', -, -, -, hown2, -⟩ := Cond.laysFinal_spec hly
        have e9 : c' = cf := by have := hi.symm.trans hf'; simp at this; exact this.1.symm
        rw [kw_ow kc (by omega) f hf, ← q2] at hown2
        rw [← e9]; exact Option.some.inj (co.symm.trans hown2)
      have h6 := u_fits hfc hkC hkind (Or.inr hly) hi hty hn1 hn2
      rcases hl with hl | hl
      · exact W.putFinK cx cb co (ct.use hl rfl args) hi2 hst hcf (cn.trans q1) (by rw [e2]; exact h6) e1 e3 hlt rfl rfl hd fin
      · have ha : a < H.size := (Array.getElem?_eq_some_iff.mp e1).1
        refine va_Wputf cx cb co (ct.use hl rfl args) hi2 hst (Or.inr ⟨hcf, cn.trans q1⟩) e1 (by rw [e3]; exact fun h => by cases h) hlt h6.1 (by rw [e2, e3]; exact h6.2) rfl rfl hd ?_
        refine fin _ ?_ ?_ ?_
        · simp [Array.getElem?_setIfInBounds, ha]
        · simp
        · intro q hq
          simp [Array.getElem?_setIfInBounds, Ne.symm hq]
theorem iT0 (cK : va_K D.1 vwC (iTys D) s) : ArrOfT s D.2.1 .int ∧ va_RA s D.2.1 .int := cK.2 0 (D.2.1, .int) rfl
theorem iT1 (cK : va_K D.1 vwC (iTys D) s) : ArrOfT s D.2.2.1 .boolean ∧ va_RA s D.2.2.1 .boolean := cK.2 1 (D.2.2.1, .boolean) rfl
theorem iT2 (cK : va_K D.1 vwC (iTys D) s) : ArrOfT s D.2.2.2.1 .long ∧ va_RA s D.2.2.2.1 .long := cK.2 2 (D.2.2.2.1, .long) rfl
theorem iT3 (cK : va_K D.1 vwC (iTys D) s) {q : Nat} (hq : q = 2 ∨ q = 4 ∨ q = 6 ∨ q = 9) : ArrOfT s (D.2.2.2.2 q) (.object (kR q)) ∧ va_RA s (D.2.2.2.2 q) (.object (kR q)) := by
  rcases hq with rfl | rfl | rfl | rfl
  · exact cK.2 3 (D.2.2.2.2 2, .object (kR 2)) rfl
  · exact cK.2 4 (D.2.2.2.2 4, .object (kR 4)) rfl
  · exact cK.2 5 (D.2.2.2.2 6, .object (kR 6)) rfl
  · exact cK.2 6 (D.2.2.2.2 9, .object (kR 9)) rfl
/-- an array's cell: its class, that it is one, its length -/
theorem iArrC (cK : va_K D.1 vwC (iTys D) s) {H : Heap} {a : Nat} (hR : iRel D base σ H) (ha : iArr (sK σ a) = true) : ∃ (cell : Cell) (ty : FieldType), H[a]? = some cell ∧ s.isArrayOf cell ty ∧ cell.slots.size = sN σ a := by
  have hv := (hR.2.2.2.2.2 a).2.2.2.2.2.2
  unfold iArr at ha
  rw [Bool.and_eq_true] at ha
  have h1 := Nat.le_of_ble_eq_true ha.1
  have h2 := Nat.le_of_ble_eq_true ha.2
  rcases hv with h | h | h | h | h | h | h
  · omega
  · rcases (by omega : sK σ a = 100 ∨ sK σ a = 101 ∨ sK σ a = 102 ∨ sK σ a = 103) with q | q | q | q
    · obtain ⟨cell, e1, e2, e3, -, e5, -⟩ := (hR.2.2.2.2.2 a).2.1 q
      obtain ⟨-, kk, hk, comp, hc⟩ := (iT0 cK).1 0 (fun _ => .null)
      exact ⟨cell, .int, e1, ⟨e3, kk, by rw [e2]; exact hk, comp, hc⟩, e5⟩
    · exact ⟨_, .int, (hR.2.2.2.2.2 a).2.2.1 q, (iT0 cK).1 _ _, arrV_size _ _ _⟩
    · exact ⟨_, .boolean, (hR.2.2.2.2.2 a).2.2.2.1 q, (iT1 cK).1 _ _, arrV_size _ _ _⟩
    · exact ⟨_, .long, (hR.2.2.2.2.2 a).2.2.2.2.1 q, (iT2 cK).1 _ _, arrV_size _ _ _⟩
  · exact ⟨_, _, (hR.2.2.2.2.2 a).2.2.2.2.2.1 2 (by omega) (by omega), (iT3 cK (by omega)).1 _ _, arrV_size _ _ _⟩
  · exact ⟨_, _, (hR.2.2.2.2.2 a).2.2.2.2.2.1 4 (by omega) (by omega), (iT3 cK (by omega)).1 _ _, arrV_size _ _ _⟩
  · exact ⟨_, _, (hR.2.2.2.2.2 a).2.2.2.2.2.1 6 (by omega) (by omega), (iT3 cK (by omega)).1 _ _, arrV_size _ _ _⟩
  · exact ⟨_, _, (hR.2.2.2.2.2 a).2.2.2.2.2.1 9 (by omega) (by omega), (iT3 cK (by omega)).1 _ _, arrV_size _ _ _⟩
  · omega
theorem sd_alen {a : Nat} (C : iCtx D p s m meth c j) (h : iC j pc = some (.arraylength, len)) (hk : iArr (sK σ a) = true) (kk : iWG D base l p e R s m args below meth c x0 s0 o σe j (pc + len) ls (vi (nI (sN σ a)) :: st) σ) : iWG D base l p e R s m args below meth c x0 s0 o σe j pc ls (vr a :: st) σ := by
  obtain ⟨hd, hn⟩ := iDec h
  cases iLen1 hn
  intro H locs arr hR hO hL hA
  obtain ⟨cx, cb, -, -, co, -, -, ct, cK, -⟩ := C
  obtain ⟨cell, ty, e1, e2, e3⟩ := iArrC cK hR hk
  have hk0 : sK σ a ≠ 0 := by intro z; rw [z] at hk; cases hk
  rw [List.map_cons, cv_r (hR.lt hk0).1]
  exact W.alen cx cb e1 e2 (by rw [e3]; rfl) rfl rfl hd (kk H locs arr hR hO hL hA)
theorem iCl {x : Int32} {n : Nat} (h : iIn x n) : x.toNatClampNeg < n := Nat.not_le.mp fun q => h (Or.inr q)
theorem sd_iald {a : Nat} {x : Int32} (C : iCtx D p s m meth c j) (h : iC j pc = some (.iaload, len)) (hk : sK σ a = 100 ∨ sK σ a = 101) (hi : iIn x (sN σ a)) (kk : iWG D base l p e R s m args below meth c x0 s0 o σe j (pc + len) ls (vi (sA σ a x.toNatClampNeg) :: st) σ) : iWG D base l p e R s m args below meth c x0 s0 o σe j pc ls (vi x :: vr a :: st) σ := by
  obtain ⟨hd, hn⟩ := iDec h
  cases iLen1 hn
  intro H locs arr hR hO hL hA
  obtain ⟨cx, cb, -, -, co, -, -, ct, cK, -⟩ := C
  have hk0 : sK σ a ≠ 0 := by omega
  rw [List.map_cons, List.map_cons, cv_r (hR.lt hk0).1]
  rcases hk with q | q
  · obtain ⟨cell, e1, e2, e3, e4, e5, -, e6⟩ := (hR.2.2.2.2.2 a).2.1 q
    obtain ⟨-, kk9, hk9, comp, hc9⟩ := (iT0 cK).1 0 (fun _ => .null)
    exact W.iald cx cb e1 ⟨e3, kk9, by rw [e2]; exact hk9, comp, hc9⟩ e4 (by rw [e5]; exact hi) (e6 _ (iCl hi)) rfl rfl hd (kk H locs arr hR hO hL hA)
  · exact W.iald cx cb ((hR.2.2.2.2.2 a).2.2.1 q) ((iT0 cK).1 _ _) (fun q => by cases q) (by rw [arrV_size]; exact hi) (arrV_read _ _ (iCl hi)) rfl rfl hd (kk H locs arr hR hO hL hA)
theorem sd_bald {a : Nat} {x : Int32} (C : iCtx D p s m meth c j) (h : iC j pc = some (.baload, len)) (hk : sK σ a = 102) (hi : iIn x (sN σ a)) (kk : iWG D base l p e R s m args below meth c x0 s0 o σe j (pc + len) ls (vi (sA σ a x.toNatClampNeg) :: st) σ) : iWG D base l p e R s m args below meth c x0 s0 o σe j pc ls (vi x :: vr a :: st) σ := by
  obtain ⟨hd, hn⟩ := iDec h
  cases iLen1 hn
  intro H locs arr hR hO hL hA
  obtain ⟨cx, cb, -, -, co, -, -, ct, cK, -⟩ := C
  have hk0 : sK σ a ≠ 0 := by omega
  rw [List.map_cons, List.map_cons, cv_r (hR.lt hk0).1]
  exact W.zald cx cb ((hR.2.2.2.2.2 a).2.2.2.1 hk) ((iT1 cK).1 _ _) (fun q => by cases q) (by rw [arrV_size]; exact hi) (arrV_read _ _ (iCl hi)) rfl rfl hd (kk H locs arr hR hO hL hA)
theorem sd_lald {a : Nat} {x : Int32} (C : iCtx D p s m meth c j) (h : iC j pc = some (.laload, len)) (hk : sK σ a = 103) (hi : iIn x (sN σ a)) (kk : iWG D base l p e R s m args below meth c x0 s0 o σe j (pc + len) ls (vl (sL σ a x.toNatClampNeg) :: st) σ) : iWG D base l p e R s m args below meth c x0 s0 o σe j pc ls (vi x :: vr a :: st) σ := by
  obtain ⟨hd, hn⟩ := iDec h
  cases iLen1 hn
  intro H locs arr hR hO hL hA
  obtain ⟨cx, cb, -, -, co, -, -, ct, cK, -⟩ := C
  have hk0 : sK σ a ≠ 0 := by omega
  rw [List.map_cons, List.map_cons, cv_r (hR.lt hk0).1]
  exact W.lald cx cb ((hR.2.2.2.2.2 a).2.2.2.2.1 hk) ((iT2 cK).1 _ _) (fun q => by cases q) (by rw [arrV_size]; exact hi) (arrV_read _ _ (iCl hi)) rfl rfl hd (kk H locs arr hR hO hL hA)
/-- an array of references: which kind -/
theorem iRk {a : Nat} {H : Heap} (hR : iRel D base σ H) (hk : 110 ≤ sK σ a ∧ sK σ a < 200) : ∃ q, (q = 2 ∨ q = 4 ∨ q = 6 ∨ q = 9) ∧ sK σ a = 110 + q ∧ H[a]? = some (arrV (D.2.2.2.2 q) (sN σ a) (fun z => cv (vr (sB σ a z)))) := by
  have hv := (hR.2.2.2.2.2 a).2.2.2.2.2.2
  obtain ⟨q, hq, hk2⟩ : ∃ q, (q = 2 ∨ q = 4 ∨ q = 6 ∨ q = 9) ∧ sK σ a = 110 + q := ⟨sK σ a - 110, by omega, by omega⟩
  exact ⟨q, hq, hk2, (hR.2.2.2.2.2 a).2.2.2.2.2.1 q hq hk2⟩
theorem sd_aald {a : Nat} {x : Int32} (C : iCtx D p s m meth c j) (h : iC j pc = some (.aaload, len)) (hk : 110 ≤ sK σ a ∧ sK σ a < 200) (hi : iIn x (sN σ a)) (kk : iWG D base l p e R s m args below meth c x0 s0 o σe j (pc + len) ls (vr (sB σ a x.toNatClampNeg) :: st) σ) : iWG D base l p e R s m args below meth c x0 s0 o σe j pc ls (vi x :: vr a :: st) σ := by
  obtain ⟨hd, hn⟩ := iDec h
  cases iLen1 hn
  intro H locs arr hR hO hL hA
  obtain ⟨cx, cb, -, -, co, -, -, ct, cK, -⟩ := C
  have hk0 : sK σ a ≠ 0 := by omega
  rw [List.map_cons, List.map_cons, cv_r (hR.lt hk0).1]
  obtain ⟨q, hq, -, e1⟩ := iRk hR hk
  exact W.aald (ty := .object (kR q)) cx cb e1 ((iT3 cK hq).1 _ _) rfl (fun q => by cases q) (by rw [arrV_size]; exact hi) (arrV_read _ _ (iCl hi)) rfl rfl hd (kk H locs arr hR hO hL hA)
end SH
end
section
/-! STORES, NEW CELLS, ANSWERS. -/
theorem kac_int : Cond.arrayClass .int ∈ lw_tbl := List.mem_of_getElem? (i := 87) (by decide +kernel)
theorem kac_bool : Cond.arrayClass .boolean ∈ lw_tbl := List.mem_of_getElem? (i := 155) (by decide +kernel)
theorem kac_long : Cond.arrayClass .long ∈ lw_tbl := List.mem_of_getElem? (i := 994) (by decide +kernel)
theorem kw_any : ∀ c, c < 11 → ∀ f, f < kN c → (iTyOk 0 (kY c f) || iTyOk 1 (kY c f) || iTyOk 2 (kY c f)) = true := by decide +kernel
theorem iFv_0 {ty : FieldType} (h : (iTyOk 0 ty || iTyOk 1 ty || iTyOk 2 ty) = true) : iFv ty 0 0 = defaultValue ty := by
  cases ty <;> first | rfl | (exact (nomatch (h : false = true)))
theorem isum_cat : ∀ st : List iV, ((st.map cv).map fun v => v.category).sum = isum st
  | [] => rfl
  | .inl x :: r => by
    have := isum_cat r
    simp only [List.map_cons, List.sum_cons, this, isum]
    show 1 + _ = _
    omega
  | .inr (.inl a) :: r => by
    have := isum_cat r
    simp only [List.map_cons, List.sum_cons, this, isum]
    rw [cv_cat1]
    omega
  | .inr (.inr y) :: r => by
    have := isum_cat r
    simp only [List.map_cons, List.sum_cons, this, isum]
    show 2 + _ = _
    omega
theorem iLocs {base a k : Nat} {locs : List Loc} (hL : ∀ z ∈ locs, base ≤ z.base) (h : base ≤ a) : ∀ z ∈ locs ++ [(⟨a, k⟩ : Loc)], base ≤ z.base := by
  intro z hz
  rcases List.mem_append.mp hz with hz | hz
  · exact hL z hz
  · rw [List.mem_singleton.mp hz]; exact h
section ST
variable {D : iD} {base : Nat} {l : Launch} {p : Program} {e : Env} {R : Room} {s : State} {m : MethodId} {args : Array Value} {below : List Frame} {meth : Method} {c : Code} {x0 s0 : Nat} {o : iO} {σe : iS} {j pc len : Nat} {ls st : List iV} {σ : iS}
theorem iAt_101 {a : Nat} {oc : Option Cell} (hk : sK σ a = 101) (h : oc = some (arrV D.2.1 (sN σ a) (fun q => .int (sA σ a q)))) : iAt D σ a oc := by
  unfold iAt
  rw [hk]
  exact ⟨fun _ h => by omega, fun h => by omega, fun _ => h, fun h => by omega, fun h => by omega, fun c hc h => by omega, by omega⟩
theorem iAt_102 {a : Nat} {oc : Option Cell} (hk : sK σ a = 102) (h : oc = some (arrV D.2.2.1 (sN σ a) (fun q => .int (sA σ a q)))) : iAt D σ a oc := by
  unfold iAt
  rw [hk]
  exact ⟨fun _ h => by omega, fun h => by omega, fun h => by omega, fun _ => h, fun h => by omega, fun c hc h => by omega, by omega⟩
theorem iAt_103 {a : Nat} {oc : Option Cell} (hk : sK σ a = 103) (h : oc = some (arrV D.2.2.2.1 (sN σ a) (fun q => .long (sL σ a q)))) : iAt D σ a oc := by
  unfold iAt
  rw [hk]
  exact ⟨fun _ h => by omega, fun h => by omega, fun h => by omega, fun h => by omega, fun _ => h, fun c hc h => by omega, by omega⟩
theorem iAt_11 {a q : Nat} {oc : Option Cell} (hq : q = 2 ∨ q = 4 ∨ q = 6 ∨ q = 9) (hk : sK σ a = 110 + q) (h : oc = some (arrV (D.2.2.2.2 q) (sN σ a) (fun z => cv (vr (sB σ a z))))) : iAt D σ a oc := by
  unfold iAt
  rw [hk]
  refine ⟨fun _ h => by omega, fun h => by omega, fun h => by omega, fun h => by omega, fun h => by omega, fun c hc h2 => ?_, by omega⟩
  have : c = q := by omega
  subst this
  exact h
theorem iAt_200 {a q : Nat} {oc : Option Cell} (hk : sK σ a = 200 + q) : iAt D σ a oc := by
  unfold iAt
  rw [hk]
  exact ⟨fun _ h => by omega, fun h => by omega, fun h => by omega, fun h => by omega, fun h => by omega, fun c hc h => by omega, by omega⟩
theorem sd_iast {a : Nat} {x y : Int32} (C : iCtx D p s m meth c j) (h : iC j pc = some (.iastore, len)) (hk : sK σ a = 101) (hi : iIn x (sN σ a)) (kk : iWG D base l p e R s m args below meth c x0 s0 o σe j (pc + len) ls st (wA σ a x.toNatClampNeg y)) : iWG D base l p e R s m args below meth c x0 s0 o σe j pc ls (vi y :: vi x :: vr a :: st) σ := by
  obtain ⟨hd, hn⟩ := iDec h
  cases iLen1 hn
  intro H locs arr hR hO hL hA
  obtain ⟨cx, cb, -, -, co, -, -, ct, cK, -⟩ := C
  have hk0 : sK σ a ≠ 0 := by omega
  have hba : base ≤ a := hR.2.2.2.2.1 a hk0 (by omega)
  rw [List.map_cons, List.map_cons, List.map_cons, cv_r (hR.lt hk0).1]
  refine W.iast cx cb ((hR.2.2.2.2.2 a).2.2.1 hk) ((iT0 cK).1 _ _) (fun q => by cases q) (by rw [arrV_size]; exact hi) rfl rfl hd (fun H' g1 g2 g3 => ?_)
  refine kk H' _ arr (hR.put (fun _ => rfl) rfl (fun b hb => iSame_wA hb) g2 g3 ?_) (fun q hq => (g3 q (Nat.ne_of_lt (Nat.lt_of_lt_of_le hq hba))).trans (hO q hq)) (iLocs hL hba) hA
  rw [g1, arrV_store]
  refine iAt_101 hk ?_
  show some (arrV D.2.1 (sN σ a) _) = some (arrV D.2.1 (sN σ a) _)
  congr 2
  funext q
  by_cases hq : q = x.toNatClampNeg
  · simp [updV, sA, wA, u2, hq]
  · simp [updV, sA, wA, u2, hq]
theorem sd_bast {a : Nat} {x y : Int32} (C : iCtx D p s m meth c j) (h : iC j pc = some (.bastore, len)) (hk : sK σ a = 102) (hy : iBool y) (hi : iIn x (sN σ a)) (kk : iWG D base l p e R s m args below meth c x0 s0 o σe j (pc + len) ls st (wA σ a x.toNatClampNeg y)) : iWG D base l p e R s m args below meth c x0 s0 o σe j pc ls (vi y :: vi x :: vr a :: st) σ := by
  obtain ⟨hd, hn⟩ := iDec h
  cases iLen1 hn
  intro H locs arr hR hO hL hA
  obtain ⟨cx, cb, -, -, co, -, -, ct, cK, -⟩ := C
  have hk0 : sK σ a ≠ 0 := by omega
  have hba : base ≤ a := hR.2.2.2.2.1 a hk0 (by omega)
  have hny : narrow .boolean (.int y) = .int y := by rcases hy with rfl | rfl <;> rfl
  rw [List.map_cons, List.map_cons, List.map_cons, cv_r (hR.lt hk0).1]
  refine W.zast cx cb ((hR.2.2.2.2.2 a).2.2.2.1 hk) ((iT1 cK).1 _ _) (fun q => by cases q) (by rw [arrV_size]; exact hi) rfl rfl hd (fun H' g1 g2 g3 => ?_)
  refine kk H' _ arr (hR.put (fun _ => rfl) rfl (fun b hb => iSame_wA hb) g2 g3 ?_) (fun q hq => (g3 q (Nat.ne_of_lt (Nat.lt_of_lt_of_le hq hba))).trans (hO q hq)) (iLocs hL hba) hA
  rw [g1, hny, arrV_store]
  refine iAt_102 hk ?_
  show some (arrV D.2.2.1 (sN σ a) _) = some (arrV D.2.2.1 (sN σ a) _)
  congr 2
  funext q
  by_cases hq : q = x.toNatClampNeg
  · simp [updV, sA, wA, u2, hq]
  · simp [updV, sA, wA, u2, hq]
theorem sd_last {a : Nat} {x : Int32} {y : Int64} (C : iCtx D p s m meth c j) (h : iC j pc = some (.lastore, len)) (hk : sK σ a = 103) (hi : iIn x (sN σ a)) (kk : iWG D base l p e R s m args below meth c x0 s0 o σe j (pc + len) ls st (wL σ a x.toNatClampNeg y)) : iWG D base l p e R s m args below meth c x0 s0 o σe j pc ls (vl y :: vi x :: vr a :: st) σ := by
  obtain ⟨hd, hn⟩ := iDec h
  cases iLen1 hn
  intro H locs arr hR hO hL hA
  obtain ⟨cx, cb, -, -, co, -, -, ct, cK, -⟩ := C
  have hk0 : sK σ a ≠ 0 := by omega
  have hba : base ≤ a := hR.2.2.2.2.1 a hk0 (by omega)
  rw [List.map_cons, List.map_cons, List.map_cons, cv_r (hR.lt hk0).1]
  refine W.last cx cb ((hR.2.2.2.2.2 a).2.2.2.2.1 hk) ((iT2 cK).1 _ _) (fun q => by cases q) (by rw [arrV_size]; exact hi) rfl rfl hd (fun H' g1 g2 g3 => ?_)
  refine kk H' _ arr (hR.put (fun _ => rfl) rfl (fun b hb => iSame_wL hb) g2 g3 ?_) (fun q hq => (g3 q (Nat.ne_of_lt (Nat.lt_of_lt_of_le hq hba))).trans (hO q hq)) (iLocs hL hba) hA
  rw [g1, arrV_store]
  refine iAt_103 hk ?_
  show some (arrV D.2.2.2.1 (sN σ a) _) = some (arrV D.2.2.2.1 (sN σ a) _)
  congr 2
  funext q
  by_cases hq : q = x.toNatClampNeg
  · simp [updV, sL, wL, u2, hq]
  · simp [updV, sL, wL, u2, hq]
theorem sd_aast {a b : Nat} {x : Int32} (C : iCtx D p s m meth c j) (h : iC j pc = some (.aastore, len)) (hk : 110 ≤ sK σ a ∧ sK σ a < 200) (hb : b = 0 ∨ sK σ b + 110 = sK σ a) (hi : iIn x (sN σ a)) (kk : iWG D base l p e R s m args below meth c x0 s0 o σe j (pc + len) ls st (wB σ a x.toNatClampNeg b)) : iWG D base l p e R s m args below meth c x0 s0 o σe j pc ls (vr b :: vi x :: vr a :: st) σ := by
  obtain ⟨hd, hn⟩ := iDec h
  cases iLen1 hn
  intro H locs arr hR hO hL hA
  obtain ⟨cx, cb, -, -, co, -, -, ct, cK, -⟩ := C
  have hk0 : sK σ a ≠ 0 := by omega
  have hba : base ≤ a := hR.2.2.2.2.1 a hk0 (by omega)
  obtain ⟨q, hq, hk2, e1⟩ := iRk hR hk
  have fin : ∀ H' : Heap, H'[a]? = some ((arrV (D.2.2.2.2 q) (sN σ a) (fun z => cv (vr (sB σ a z)))).setSlot x.toNatClampNeg (cv (vr b))) → H'.size = H.size → (∀ q, q ≠ a → H'[q]? = H[q]?) → W p l e R s m args below meth c H' (locs ++ [⟨a, x.toNatClampNeg⟩]) (sX σ - x0) (sS σ - s0) (iEnd D base below s o σe (sX σe - x0) (sS σe - s0)) (F0 m (pc + 1) arr (st.map cv)) := by
    intro H' g1 g2 g3
    refine kk H' _ arr (hR.put (fun _ => rfl) rfl (fun b hb => iSame_wB hb) g2 g3 ?_) (fun q hq => (g3 q (Nat.ne_of_lt (Nat.lt_of_lt_of_le hq hba))).trans (hO q hq)) (iLocs hL hba) hA
    rw [g1, arrV_store]
    refine iAt_11 hq hk2 ?_
    show some (arrV (D.2.2.2.2 q) (sN σ a) _) = some (arrV (D.2.2.2.2 q) (sN σ a) _)
    congr 2
    funext z
    by_cases hz : z = x.toNatClampNeg
    · simp [updV, sB, wB, u2, hz]
    · simp [updV, sB, wB, u2, hz]
  rw [List.map_cons, List.map_cons, List.map_cons, cv_r (hR.lt hk0).1]
  by_cases hb0 : b = 0
  · subst hb0
    exact va_WaastN (C := kR q) cx cb e1 ((iT3 cK hq).1 _ _) (fun z => by cases z) (by rw [arrV_size]; exact hi) rfl rfl hd fin
  · have hbk : sK σ b = q := by omega
    obtain ⟨cellV, g1, g2, g3, -⟩ := (hR.2.2.2.2.2 b).1 (by omega) (by omega)
    rw [hbk] at g2
    obtain ⟨hS, hcl⟩ := cK.1 (q - 1) _ (kw_vw (c := q) (by omega) (by omega))
    obtain ⟨kA, comp, k1, k2, k3, -⟩ := (iT3 cK hq).2
    have hcomp : comp = D.1.1 (q - 1) := Option.some.inj (k3.symm.trans hcl.1)
    subst hcomp
    obtain ⟨kC, hkC, -⟩ := id hcl.2
    rw [cv_r hb0] at fin ⊢
    exact W.aast cx cb e1 (fun z h => by cases h) (fun h => by cases h) k1 k2 rfl hkC ⟨fun z => hi (Or.inl z), by rw [arrV_size]; exact iCl hi⟩ g1 (fun z h => by rw [g3] at h; cases h) (by rw [g2]; exact hkC) (by rw [g2]; exact va_assign hcl) rfl rfl hd fin
theorem sd_new {k kc n : Nat} (C : iCtx D p s m meth c j) (h : iC j pc = some (.new k, len)) (hN : pN (mO j) k = some (kc, n)) (hx0 : x0 ≤ sX σ) (hs0 : s0 ≤ sS σ) (hc : sX σ - x0 + 1 ≤ R.cells) (hs : sS σ - s0 + n ≤ R.slots) (kk : iWG D base l p e R s m args below meth c x0 s0 o σe j (pc + len) ls (vr (sX σ) :: st) (nO σ kc n)) : iWG D base l p e R s m args below meth c x0 s0 o σe j pc ls st σ := by
  obtain ⟨hd, hn⟩ := iDec h
  cases iLen1 hn
  intro H locs arr hR hO hL hA
  obtain ⟨cx, cb, -, -, co, -, -, ct, cK, -⟩ := C
  obtain ⟨w1, w2, w3, ⟨h1, h2⟩, hnn⟩ := iNx hN
  have hvw := kw_vw h1 h2
  have hK0 := cK.1 (kc - 1) _ hvw
  have hb0 : sX σ ≠ 0 := by have := hR.2.1; have := hR.2.2.1; omega
  refine W.newcK cx cb co (ct.use w1 rfl args) (ct.use w2 rfl args) (ct.use w3 rfl args) rfl hd hc hs hK0.2.1 hR.1 (fun H' kC hkC g1 g2 g3 => ?_)
  have e1 : sX σ - x0 + 1 = sX (nO σ kc n) - x0 := by show _ = sX σ + 1 - x0; omega
  have e2 : sS σ - s0 + n = sS (nO σ kc n) - s0 := by show _ = sS σ + n - s0; omega
  rw [e1, e2]
  have kk2 := kk H' locs arr (hR.new (σ' := nO σ kc n) rfl (by simp [sK, nO, u1]; omega) (fun b hb => iSame_nO hb) (by rw [g2, hR.1]) (fun q hq => g3 q (by rw [← hR.1]; exact hq)) ?_) (fun q hq => (g3 q (by have := hR.2.2.1; omega)).trans (hO q hq)) hL hA
  · rw [List.map_cons, cv_r hb0] at kk2
    exact kk2
  · rw [g1]
    obtain ⟨cell, q1, q2, q3, q4⟩ := u_born (kY kc) (ct.lay h2 args) (fun _ h => h) hK0 hkC g1 (kw_ty kc (by omega))
    cases Option.some.inj (g1.symm.trans q1)
    refine iAt_obj (fI := fun _ => 0) h1 h2 (by simp [sK, nO, u1]) q2 q3 (fun f hf => ?_)
    rw [q4 f hf]
    show some (defaultValue (kY kc f)) = _
    rw [← iFv_0 (kw_any kc (by omega) f hf)]
    simp [sI, sR, nO, uf]
theorem sd_newA {t : ArrayType} {ty : FieldType} {kd : Nat} {x : Int32} (C : iCtx D p s m meth c j) (h : iC j pc = some (.newarray t, len)) (hty : newarray.typeOf t = ty) (hw : Cond.arrayClass ty ∈ lw_tbl) (hx : ¬ x < 0) (hx2 : x.toNatClampNeg ≤ 100000) (hcb : componentBytes ty ≤ 8) (hx0 : x0 ≤ sX σ) (hs0 : s0 ≤ sS σ) (hc : sX σ - x0 + 1 ≤ R.cells) (hs : sS σ - s0 + x.toNatClampNeg ≤ R.slots) (hkd : kd ≠ 100)
    (hat : ∀ cA : ClassId, s.vm.findClass ("[" ++ ty.toString) = some cA → iAt D (nA σ kd x.toNatClampNeg) (sX σ) (some (arrV cA x.toNatClampNeg (fun _ => defaultValue ty))))
    (kk : iWG D base l p e R s m args below meth c x0 s0 o σe j (pc + len) ls (vr (sX σ) :: st) (nA σ kd x.toNatClampNeg)) : iWG D base l p e R s m args below meth c x0 s0 o σe j pc ls (vi x :: st) σ := by
  obtain ⟨hd, hn⟩ := iDec h
  cases iLen1 hn
  subst hty
  intro H locs arr hR hO hL hA
  obtain ⟨cx, cb, -, -, co, -, -, ct, cK, -⟩ := C
  have hb0 : sX σ ≠ 0 := by have := hR.2.1; have := hR.2.2.1; omega
  have hby : x.toNatClampNeg * componentBytes (newarray.typeOf t) ≤ 536870912 := Nat.le_trans (Nat.mul_le_mul hx2 hcb) (by decide)
  refine W.newa cx cb (ct.use hw rfl args) rfl hd rfl hx hby hc hs (fun cA kA comp f1 f2 f3 => ?_)
  generalize hH : H.push ({ cls := cA, slots := Array.replicate x.toNatClampNeg (defaultValue (newarray.typeOf t)), vm := .none } : Cell) = H'
  have g2 : H'.size = H.size + 1 := by rw [← hH, Array.size_push]
  have g1 : H'[sX σ]? = some (arrV cA x.toNatClampNeg (fun _ => defaultValue (newarray.typeOf t))) := by rw [← hH, ← hR.1, Array.getElem?_push_size, ← arrV_new]
  have g3 : ∀ q : Nat, q < H.size → H'[q]? = H[q]? := fun q hq => by rw [← hH, Array.getElem?_push, if_neg (Nat.ne_of_lt hq)]
  have e1 : sX σ - x0 + 1 = sX (nA σ kd x.toNatClampNeg) - x0 := by show _ = sX σ + 1 - x0; omega
  have e2 : sS σ - s0 + x.toNatClampNeg = sS (nA σ kd x.toNatClampNeg) - s0 := by show _ = sS σ + x.toNatClampNeg - s0; omega
  rw [e1, e2]
  have kk2 := kk H' locs arr (hR.new (σ' := nA σ kd x.toNatClampNeg) rfl (by simp [sK, nA, u1]; exact hkd) (fun b hb => iSame_nA hb) g2 g3 (by rw [g1]; exact hat cA f1)) (fun q hq => (g3 q (by have := hR.2.2.1; have := hR.1; omega)).trans (hO q hq)) hL hA
  rw [List.map_cons, cv_r hb0] at kk2
  rw [hR.1]
  exact kk2
theorem sd_newV {k q : Nat} {x : Int32} (C : iCtx D p s m meth c j) (h : iC j pc = some (.anewarray k, len)) (hV : pV (mO j) k = some q) (hx : ¬ x < 0) (hx2 : x.toNatClampNeg ≤ 100000) (hx0 : x0 ≤ sX σ) (hs0 : s0 ≤ sS σ) (hc : sX σ - x0 + 1 ≤ R.cells) (hs : sS σ - s0 + x.toNatClampNeg ≤ R.slots)
    (kk : iWG D base l p e R s m args below meth c x0 s0 o σe j (pc + len) ls (vr (sX σ) :: st) (nA σ (110 + q) x.toNatClampNeg)) : iWG D base l p e R s m args below meth c x0 s0 o σe j pc ls (vi x :: st) σ := by
  obtain ⟨hd, hn⟩ := iDec h
  cases iLen1 hn
  intro H locs arr hR hO hL hA
  obtain ⟨cx, cb, -, -, co, -, -, ct, cK, -⟩ := C
  obtain ⟨w1, w2, ⟨h1, h2⟩, hq⟩ := iVx hV
  have hb0 : sX σ ≠ 0 := by have := hR.2.1; have := hR.2.2.1; omega
  refine W.anew cx cb co (ct.use w1 rfl args) (ct.use w2 rfl args) rfl hd rfl hx (Nat.le_trans (Nat.mul_le_mul_right 4 hx2) (by decide)) hc hs (fun cA kA comp f1 f2 f3 f4 => ?_)
  generalize hH : H.push ({ cls := cA, slots := Array.replicate x.toNatClampNeg .null, vm := .none } : Cell) = H'
  have g2 : H'.size = H.size + 1 := by rw [← hH, Array.size_push]
  have g1 : H'[sX σ]? = some (arrV cA x.toNatClampNeg (fun _ => .null)) := by rw [← hH, ← hR.1, Array.getElem?_push_size, ← arrV_new]
  have g3 : ∀ q : Nat, q < H.size → H'[q]? = H[q]? := fun q hq => by rw [← hH, Array.getElem?_push, if_neg (Nat.ne_of_lt hq)]
  have e1 : sX σ - x0 + 1 = sX (nA σ (110 + q) x.toNatClampNeg) - x0 := by show _ = sX σ + 1 - x0; omega
  have e2 : sS σ - s0 + x.toNatClampNeg = sS (nA σ (110 + q) x.toNatClampNeg) - s0 := by show _ = sS σ + x.toNatClampNeg - s0; omega
  have hcA : cA = D.2.2.2.2 q := by
    obtain ⟨kA2, comp2, -, -, -, k4⟩ := (iT3 cK hq).2
    exact Option.some.inj (f1.symm.trans k4)
  rw [e1, e2]
  have kk2 := kk H' locs arr (hR.new (σ' := nA σ (110 + q) x.toNatClampNeg) rfl (by simp [sK, nA, u1]; omega) (fun b hb => iSame_nA hb) g2 g3 ?_) (fun q hq => (g3 q (by have := hR.2.2.1; have := hR.1; omega)).trans (hO q hq)) hL hA
  · rw [List.map_cons, cv_r hb0] at kk2
    rw [hR.1]
    exact kk2
  · refine iAt_11 hq (by simp [sK, nA, u1]) ?_
    rw [g1, hcA]
    simp [sN, sB, nA, u1, uz, cv_0]
end ST
end
section
/-! each instruction is right by the tables: printed by gen7.py -/
def iStrs : List (Nat × String) := [(44, "a text has 0 to 60 signs"), (55, "there are 40 texts"), (219, "there is no such text"), (223, "there is no such place"), (65, "a sign is 0 to 255"), (221, "the text is empty"), (225, "there is no such kind of phrase"), (227, "there is no such counter"), (232, "there are 20 phrases"), (119, "what is put is not of the size of what it replaces"), (124, "the two texts are not of one size"), (137, "there are 20 parts"), (160, "there are 8 delimiters"), (169, "there are 20 receivers"), (187, "a table has 1 to 60 rows"), (192, "there are 10 tables"), (237, "there is no such table"), (239, "there is no such row")]
def iNm : List String := ["java/lang/RuntimeException", "java/lang/Exception"]
def iFnOk (j k : Nat) : Bool := match pF (mO j) k with
  | some (c, f, _) => !(kT c f).2.2.2 || (decide ((iY j).name = "<init>") && decide (iOw j = kR c))
  | none => true
def iClOk (j sp k : Nat) : Bool := match pM (mO j) k with
  | some (q, _, _) => if Nat.beq q 999 = true then Nat.ble 1 (rF j) && Nat.ble 20 (rL j) else Nat.ble (rF q + 1) (rF j) && Nat.ble (8 + (mL q + 11) + rL q) (rL j) && (match sp with
    | 0 => true
    | 1 => decide ((iY q).name ≠ "<init>")
    | _ => decide ((iY q).name = "<init>"))
  | none => true
def iThOk (j pc k : Nat) : Bool := match mE j pc with
  | none => true
  | some e => Nat.ble 6 (rF j) && Nat.ble 90 (rL j) && (iHh j).isEmpty && Nat.beq (mO j) 0 && (match iC j (pc + 3), iC j (pc + 4), iC j (pc + 6), iC j (pc + 9) with
    | some (.dup, 1), some (.ldc z, 2), some (.invokespecial ic, 3), some (.athrow, 1) => iStrs.any (fun q => Nat.beq q.1 z) && ((Nat.beq e 1 && Nat.beq k 42 && Nat.beq ic 46) || (Nat.beq e 2 && Nat.beq k 53 && Nat.beq ic 57))
    | _, _, _, _ => false)
def iRtOk (j : Nat) (i : Instr) : Bool := match i with
  | .ireturn => (match iRt j with
    | some .int => !mR j
    | some .boolean => mR j
    | _ => false)
  | .areturn => (match iRt j with
    | some (.object _) => true
    | some (.array _) => true
    | _ => false)
  | .return_ => (iRt j).isNone
  | _ => true
def iOk (j pc : Nat) (i : Instr) : Bool := match i with
  | .putfield k => iFnOk j k
  | .invokestatic k => iClOk j 0 k
  | .invokevirtual k => iClOk j 1 k
  | .invokespecial k => iClOk j 2 k
  | .new k => iThOk j pc k
  | i => iRtOk j i
theorem ok_0 : ∀ ch ∈ mC 0, ∀ q ∈ ch, iOk 0 q.1 q.2.1 = true := by decide +kernel
theorem ok_1 : ∀ ch ∈ mC 1, ∀ q ∈ ch, iOk 1 q.1 q.2.1 = true := by decide +kernel
theorem ok_2 : ∀ ch ∈ mC 2, ∀ q ∈ ch, iOk 2 q.1 q.2.1 = true := by decide +kernel
theorem ok_3 : ∀ ch ∈ mC 3, ∀ q ∈ ch, iOk 3 q.1 q.2.1 = true := by decide +kernel
theorem ok_4 : ∀ ch ∈ mC 4, ∀ q ∈ ch, iOk 4 q.1 q.2.1 = true := by decide +kernel
theorem ok_5 : ∀ ch ∈ mC 5, ∀ q ∈ ch, iOk 5 q.1 q.2.1 = true := by decide +kernel
theorem ok_6 : ∀ ch ∈ mC 6, ∀ q ∈ ch, iOk 6 q.1 q.2.1 = true := by decide +kernel
theorem ok_7 : ∀ ch ∈ mC 7, ∀ q ∈ ch, iOk 7 q.1 q.2.1 = true := by decide +kernel
theorem ok_8 : ∀ ch ∈ mC 8, ∀ q ∈ ch, iOk 8 q.1 q.2.1 = true := by decide +kernel
theorem ok_9 : ∀ ch ∈ mC 9, ∀ q ∈ ch, iOk 9 q.1 q.2.1 = true := by decide +kernel
theorem ok_10 : ∀ ch ∈ mC 10, ∀ q ∈ ch, iOk 10 q.1 q.2.1 = true := by decide +kernel
theorem ok_11 : ∀ ch ∈ mC 11, ∀ q ∈ ch, iOk 11 q.1 q.2.1 = true := by decide +kernel
theorem ok_12 : ∀ ch ∈ mC 12, ∀ q ∈ ch, iOk 12 q.1 q.2.1 = true := by decide +kernel
theorem ok_13 : ∀ ch ∈ mC 13, ∀ q ∈ ch, iOk 13 q.1 q.2.1 = true := by decide +kernel
theorem ok_14 : ∀ ch ∈ mC 14, ∀ q ∈ ch, iOk 14 q.1 q.2.1 = true := by decide +kernel
theorem ok_15 : ∀ ch ∈ mC 15, ∀ q ∈ ch, iOk 15 q.1 q.2.1 = true := by decide +kernel
theorem ok_16 : ∀ ch ∈ mC 16, ∀ q ∈ ch, iOk 16 q.1 q.2.1 = true := by decide +kernel
theorem ok_17 : ∀ ch ∈ mC 17, ∀ q ∈ ch, iOk 17 q.1 q.2.1 = true := by decide +kernel
theorem ok_18 : ∀ ch ∈ mC 18, ∀ q ∈ ch, iOk 18 q.1 q.2.1 = true := by decide +kernel
theorem ok_19 : ∀ ch ∈ mC 19, ∀ q ∈ ch, iOk 19 q.1 q.2.1 = true := by decide +kernel
theorem ok_20 : ∀ ch ∈ mC 20, ∀ q ∈ ch, iOk 20 q.1 q.2.1 = true := by decide +kernel
theorem ok_21 : ∀ ch ∈ mC 21, ∀ q ∈ ch, iOk 21 q.1 q.2.1 = true := by decide +kernel
theorem ok_22 : ∀ ch ∈ mC 22, ∀ q ∈ ch, iOk 22 q.1 q.2.1 = true := by decide +kernel
theorem ok_23 : ∀ ch ∈ mC 23, ∀ q ∈ ch, iOk 23 q.1 q.2.1 = true := by decide +kernel
theorem ok_24 : ∀ ch ∈ mC 24, ∀ q ∈ ch, iOk 24 q.1 q.2.1 = true := by decide +kernel
theorem ok_25 : ∀ ch ∈ mC 25, ∀ q ∈ ch, iOk 25 q.1 q.2.1 = true := by decide +kernel
theorem ok_26 : ∀ ch ∈ mC 26, ∀ q ∈ ch, iOk 26 q.1 q.2.1 = true := by decide +kernel
theorem ok_27 : ∀ ch ∈ mC 27, ∀ q ∈ ch, iOk 27 q.1 q.2.1 = true := by decide +kernel
theorem ok_28 : ∀ ch ∈ mC 28, ∀ q ∈ ch, iOk 28 q.1 q.2.1 = true := by decide +kernel
theorem ok_29 : ∀ ch ∈ mC 29, ∀ q ∈ ch, iOk 29 q.1 q.2.1 = true := by decide +kernel
theorem ok_30 : ∀ ch ∈ mC 30, ∀ q ∈ ch, iOk 30 q.1 q.2.1 = true := by decide +kernel
theorem ok_31 : ∀ ch ∈ mC 31, ∀ q ∈ ch, iOk 31 q.1 q.2.1 = true := by decide +kernel
theorem ok_32 : ∀ ch ∈ mC 32, ∀ q ∈ ch, iOk 32 q.1 q.2.1 = true := by decide +kernel
theorem ok_33 : ∀ ch ∈ mC 33, ∀ q ∈ ch, iOk 33 q.1 q.2.1 = true := by decide +kernel
theorem ok_34 : ∀ ch ∈ mC 34, ∀ q ∈ ch, iOk 34 q.1 q.2.1 = true := by decide +kernel
theorem ok_35 : ∀ ch ∈ mC 35, ∀ q ∈ ch, iOk 35 q.1 q.2.1 = true := by decide +kernel
theorem ok_36 : ∀ ch ∈ mC 36, ∀ q ∈ ch, iOk 36 q.1 q.2.1 = true := by decide +kernel
theorem ok_37 : ∀ ch ∈ mC 37, ∀ q ∈ ch, iOk 37 q.1 q.2.1 = true := by decide +kernel
theorem ok_38 : ∀ ch ∈ mC 38, ∀ q ∈ ch, iOk 38 q.1 q.2.1 = true := by decide +kernel
theorem ok_39 : ∀ ch ∈ mC 39, ∀ q ∈ ch, iOk 39 q.1 q.2.1 = true := by decide +kernel
theorem ok_40 : ∀ ch ∈ mC 40, ∀ q ∈ ch, iOk 40 q.1 q.2.1 = true := by decide +kernel
theorem ok_41 : ∀ ch ∈ mC 41, ∀ q ∈ ch, iOk 41 q.1 q.2.1 = true := by decide +kernel
theorem ok_42 : ∀ ch ∈ mC 42, ∀ q ∈ ch, iOk 42 q.1 q.2.1 = true := by decide +kernel
theorem ok_43 : ∀ ch ∈ mC 43, ∀ q ∈ ch, iOk 43 q.1 q.2.1 = true := by decide +kernel
theorem ok_44 : ∀ ch ∈ mC 44, ∀ q ∈ ch, iOk 44 q.1 q.2.1 = true := by decide +kernel
theorem ok_45 : ∀ ch ∈ mC 45, ∀ q ∈ ch, iOk 45 q.1 q.2.1 = true := by decide +kernel
theorem ok_46 : ∀ ch ∈ mC 46, ∀ q ∈ ch, iOk 46 q.1 q.2.1 = true := by decide +kernel
theorem ok_47 : ∀ ch ∈ mC 47, ∀ q ∈ ch, iOk 47 q.1 q.2.1 = true := by decide +kernel
theorem ok_48 : ∀ ch ∈ mC 48, ∀ q ∈ ch, iOk 48 q.1 q.2.1 = true := by decide +kernel
theorem ok_49 : ∀ ch ∈ mC 49, ∀ q ∈ ch, iOk 49 q.1 q.2.1 = true := by decide +kernel
theorem ok_50 : ∀ ch ∈ mC 50, ∀ q ∈ ch, iOk 50 q.1 q.2.1 = true := by decide +kernel
theorem ok_51 : ∀ ch ∈ mC 51, ∀ q ∈ ch, iOk 51 q.1 q.2.1 = true := by decide +kernel
theorem ok_52 : ∀ ch ∈ mC 52, ∀ q ∈ ch, iOk 52 q.1 q.2.1 = true := by decide +kernel
theorem ok_53 : ∀ ch ∈ mC 53, ∀ q ∈ ch, iOk 53 q.1 q.2.1 = true := by decide +kernel
theorem ok_54 : ∀ ch ∈ mC 54, ∀ q ∈ ch, iOk 54 q.1 q.2.1 = true := by decide +kernel
theorem ok_55 : ∀ ch ∈ mC 55, ∀ q ∈ ch, iOk 55 q.1 q.2.1 = true := by decide +kernel
theorem ok_56 : ∀ ch ∈ mC 56, ∀ q ∈ ch, iOk 56 q.1 q.2.1 = true := by decide +kernel
theorem ok_57 : ∀ ch ∈ mC 57, ∀ q ∈ ch, iOk 57 q.1 q.2.1 = true := by decide +kernel
theorem ok_58 : ∀ ch ∈ mC 58, ∀ q ∈ ch, iOk 58 q.1 q.2.1 = true := by decide +kernel
theorem ok_59 : ∀ ch ∈ mC 59, ∀ q ∈ ch, iOk 59 q.1 q.2.1 = true := by decide +kernel
theorem ok_60 : ∀ ch ∈ mC 60, ∀ q ∈ ch, iOk 60 q.1 q.2.1 = true := by decide +kernel
theorem ok_61 : ∀ ch ∈ mC 61, ∀ q ∈ ch, iOk 61 q.1 q.2.1 = true := by decide +kernel
theorem ok_62 : ∀ ch ∈ mC 62, ∀ q ∈ ch, iOk 62 q.1 q.2.1 = true := by decide +kernel
theorem ok_63 : ∀ ch ∈ mC 63, ∀ q ∈ ch, iOk 63 q.1 q.2.1 = true := by decide +kernel
theorem ok_64 : ∀ ch ∈ mC 64, ∀ q ∈ ch, iOk 64 q.1 q.2.1 = true := by decide +kernel
theorem ok_65 : ∀ ch ∈ mC 65, ∀ q ∈ ch, iOk 65 q.1 q.2.1 = true := by decide +kernel
theorem ok_66 : ∀ ch ∈ mC 66, ∀ q ∈ ch, iOk 66 q.1 q.2.1 = true := by decide +kernel
theorem ok_67 : ∀ ch ∈ mC 67, ∀ q ∈ ch, iOk 67 q.1 q.2.1 = true := by decide +kernel
theorem ok_68 : ∀ ch ∈ mC 68, ∀ q ∈ ch, iOk 68 q.1 q.2.1 = true := by decide +kernel
theorem ok_69 : ∀ ch ∈ mC 69, ∀ q ∈ ch, iOk 69 q.1 q.2.1 = true := by decide +kernel
theorem ok_70 : ∀ ch ∈ mC 70, ∀ q ∈ ch, iOk 70 q.1 q.2.1 = true := by decide +kernel
theorem ok_71 : ∀ ch ∈ mC 71, ∀ q ∈ ch, iOk 71 q.1 q.2.1 = true := by decide +kernel
theorem ok_72 : ∀ ch ∈ mC 72, ∀ q ∈ ch, iOk 72 q.1 q.2.1 = true := by decide +kernel
theorem ok_73 : ∀ ch ∈ mC 73, ∀ q ∈ ch, iOk 73 q.1 q.2.1 = true := by decide +kernel
theorem ok_74 : ∀ ch ∈ mC 74, ∀ q ∈ ch, iOk 74 q.1 q.2.1 = true := by decide +kernel
theorem ok_75 : ∀ ch ∈ mC 75, ∀ q ∈ ch, iOk 75 q.1 q.2.1 = true := by decide +kernel
theorem ok_76 : ∀ ch ∈ mC 76, ∀ q ∈ ch, iOk 76 q.1 q.2.1 = true := by decide +kernel
theorem ok_77 : ∀ ch ∈ mC 77, ∀ q ∈ ch, iOk 77 q.1 q.2.1 = true := by decide +kernel
theorem ok_78 : ∀ ch ∈ mC 78, ∀ q ∈ ch, iOk 78 q.1 q.2.1 = true := by decide +kernel
theorem ok_79 : ∀ ch ∈ mC 79, ∀ q ∈ ch, iOk 79 q.1 q.2.1 = true := by decide +kernel
theorem ok_80 : ∀ ch ∈ mC 80, ∀ q ∈ ch, iOk 80 q.1 q.2.1 = true := by decide +kernel
theorem ok_81 : ∀ ch ∈ mC 81, ∀ q ∈ ch, iOk 81 q.1 q.2.1 = true := by decide +kernel
theorem ok_82 : ∀ ch ∈ mC 82, ∀ q ∈ ch, iOk 82 q.1 q.2.1 = true := by decide +kernel
theorem ok_83 : ∀ ch ∈ mC 83, ∀ q ∈ ch, iOk 83 q.1 q.2.1 = true := by decide +kernel
theorem ok_84 : ∀ ch ∈ mC 84, ∀ q ∈ ch, iOk 84 q.1 q.2.1 = true := by decide +kernel
theorem ok_85 : ∀ ch ∈ mC 85, ∀ q ∈ ch, iOk 85 q.1 q.2.1 = true := by decide +kernel
theorem ok_86 : ∀ ch ∈ mC 86, ∀ q ∈ ch, iOk 86 q.1 q.2.1 = true := by decide +kernel
theorem ok_87 : ∀ ch ∈ mC 87, ∀ q ∈ ch, iOk 87 q.1 q.2.1 = true := by decide +kernel
theorem ok_88 : ∀ ch ∈ mC 88, ∀ q ∈ ch, iOk 88 q.1 q.2.1 = true := by decide +kernel
theorem ok_89 : ∀ ch ∈ mC 89, ∀ q ∈ ch, iOk 89 q.1 q.2.1 = true := by decide +kernel
theorem ok_90 : ∀ ch ∈ mC 90, ∀ q ∈ ch, iOk 90 q.1 q.2.1 = true := by decide +kernel
theorem ok_91 : ∀ ch ∈ mC 91, ∀ q ∈ ch, iOk 91 q.1 q.2.1 = true := by decide +kernel
theorem ok_92 : ∀ ch ∈ mC 92, ∀ q ∈ ch, iOk 92 q.1 q.2.1 = true := by decide +kernel
theorem ok_93 : ∀ ch ∈ mC 93, ∀ q ∈ ch, iOk 93 q.1 q.2.1 = true := by decide +kernel
theorem ok_94 : ∀ ch ∈ mC 94, ∀ q ∈ ch, iOk 94 q.1 q.2.1 = true := by decide +kernel
theorem ok_95 : ∀ ch ∈ mC 95, ∀ q ∈ ch, iOk 95 q.1 q.2.1 = true := by decide +kernel
theorem ok_96 : ∀ ch ∈ mC 96, ∀ q ∈ ch, iOk 96 q.1 q.2.1 = true := by decide +kernel
theorem ok_97 : ∀ ch ∈ mC 97, ∀ q ∈ ch, iOk 97 q.1 q.2.1 = true := by decide +kernel
theorem ok_98 : ∀ ch ∈ mC 98, ∀ q ∈ ch, iOk 98 q.1 q.2.1 = true := by decide +kernel
theorem ok_99 : ∀ ch ∈ mC 99, ∀ q ∈ ch, iOk 99 q.1 q.2.1 = true := by decide +kernel
theorem ok_100 : ∀ ch ∈ mC 100, ∀ q ∈ ch, iOk 100 q.1 q.2.1 = true := by decide +kernel
theorem ok_101 : ∀ ch ∈ mC 101, ∀ q ∈ ch, iOk 101 q.1 q.2.1 = true := by decide +kernel
theorem ok_102 : ∀ ch ∈ mC 102, ∀ q ∈ ch, iOk 102 q.1 q.2.1 = true := by decide +kernel
theorem ok_103 : ∀ ch ∈ mC 103, ∀ q ∈ ch, iOk 103 q.1 q.2.1 = true := by decide +kernel
theorem ok_104 : ∀ ch ∈ mC 104, ∀ q ∈ ch, iOk 104 q.1 q.2.1 = true := by decide +kernel
theorem ok_105 : ∀ ch ∈ mC 105, ∀ q ∈ ch, iOk 105 q.1 q.2.1 = true := by decide +kernel
theorem ok_106 : ∀ ch ∈ mC 106, ∀ q ∈ ch, iOk 106 q.1 q.2.1 = true := by decide +kernel
theorem ok_107 : ∀ ch ∈ mC 107, ∀ q ∈ ch, iOk 107 q.1 q.2.1 = true := by decide +kernel
theorem ok_108 : ∀ ch ∈ mC 108, ∀ q ∈ ch, iOk 108 q.1 q.2.1 = true := by decide +kernel
theorem ok_109 : ∀ ch ∈ mC 109, ∀ q ∈ ch, iOk 109 q.1 q.2.1 = true := by decide +kernel
theorem ok_110 : ∀ ch ∈ mC 110, ∀ q ∈ ch, iOk 110 q.1 q.2.1 = true := by decide +kernel
theorem ok_111 : ∀ ch ∈ mC 111, ∀ q ∈ ch, iOk 111 q.1 q.2.1 = true := by decide +kernel
theorem ok_112 : ∀ ch ∈ mC 112, ∀ q ∈ ch, iOk 112 q.1 q.2.1 = true := by decide +kernel
theorem ok_113 : ∀ ch ∈ mC 113, ∀ q ∈ ch, iOk 113 q.1 q.2.1 = true := by decide +kernel
theorem ok_114 : ∀ ch ∈ mC 114, ∀ q ∈ ch, iOk 114 q.1 q.2.1 = true := by decide +kernel
theorem ok_115 : ∀ ch ∈ mC 115, ∀ q ∈ ch, iOk 115 q.1 q.2.1 = true := by decide +kernel
theorem ok_116 : ∀ ch ∈ mC 116, ∀ q ∈ ch, iOk 116 q.1 q.2.1 = true := by decide +kernel
theorem ok_117 : ∀ ch ∈ mC 117, ∀ q ∈ ch, iOk 117 q.1 q.2.1 = true := by decide +kernel
theorem ok_118 : ∀ ch ∈ mC 118, ∀ q ∈ ch, iOk 118 q.1 q.2.1 = true := by decide +kernel
theorem ok_119 : ∀ ch ∈ mC 119, ∀ q ∈ ch, iOk 119 q.1 q.2.1 = true := by decide +kernel
theorem ok_120 : ∀ ch ∈ mC 120, ∀ q ∈ ch, iOk 120 q.1 q.2.1 = true := by decide +kernel
theorem ok_121 : ∀ ch ∈ mC 121, ∀ q ∈ ch, iOk 121 q.1 q.2.1 = true := by decide +kernel
theorem ok_122 : ∀ ch ∈ mC 122, ∀ q ∈ ch, iOk 122 q.1 q.2.1 = true := by decide +kernel
theorem ok_123 : ∀ ch ∈ mC 123, ∀ q ∈ ch, iOk 123 q.1 q.2.1 = true := by decide +kernel
theorem ok_124 : ∀ ch ∈ mC 124, ∀ q ∈ ch, iOk 124 q.1 q.2.1 = true := by decide +kernel
theorem ok_125 : ∀ ch ∈ mC 125, ∀ q ∈ ch, iOk 125 q.1 q.2.1 = true := by decide +kernel
theorem ok_126 : ∀ ch ∈ mC 126, ∀ q ∈ ch, iOk 126 q.1 q.2.1 = true := by decide +kernel
theorem ok_127 : ∀ ch ∈ mC 127, ∀ q ∈ ch, iOk 127 q.1 q.2.1 = true := by decide +kernel
theorem ok_128 : ∀ ch ∈ mC 128, ∀ q ∈ ch, iOk 128 q.1 q.2.1 = true := by decide +kernel
theorem ok_129 : ∀ ch ∈ mC 129, ∀ q ∈ ch, iOk 129 q.1 q.2.1 = true := by decide +kernel
theorem ok_130 : ∀ ch ∈ mC 130, ∀ q ∈ ch, iOk 130 q.1 q.2.1 = true := by decide +kernel
theorem ok_131 : ∀ ch ∈ mC 131, ∀ q ∈ ch, iOk 131 q.1 q.2.1 = true := by decide +kernel
theorem ok_132 : ∀ ch ∈ mC 132, ∀ q ∈ ch, iOk 132 q.1 q.2.1 = true := by decide +kernel
theorem ok_133 : ∀ ch ∈ mC 133, ∀ q ∈ ch, iOk 133 q.1 q.2.1 = true := by decide +kernel
theorem ok_134 : ∀ ch ∈ mC 134, ∀ q ∈ ch, iOk 134 q.1 q.2.1 = true := by decide +kernel
theorem ok_135 : ∀ ch ∈ mC 135, ∀ q ∈ ch, iOk 135 q.1 q.2.1 = true := by decide +kernel
theorem ok_136 : ∀ ch ∈ mC 136, ∀ q ∈ ch, iOk 136 q.1 q.2.1 = true := by decide +kernel
theorem ok_137 : ∀ ch ∈ mC 137, ∀ q ∈ ch, iOk 137 q.1 q.2.1 = true := by decide +kernel
theorem ok_138 : ∀ ch ∈ mC 138, ∀ q ∈ ch, iOk 138 q.1 q.2.1 = true := by decide +kernel
theorem ok_139 : ∀ ch ∈ mC 139, ∀ q ∈ ch, iOk 139 q.1 q.2.1 = true := by decide +kernel
theorem okA : ∀ j : Nat, ∀ ch ∈ mC j, ∀ q ∈ ch, iOk j q.1 q.2.1 = true
  | 0 => ok_0
  | 1 => ok_1
  | 2 => ok_2
  | 3 => ok_3
  | 4 => ok_4
  | 5 => ok_5
  | 6 => ok_6
  | 7 => ok_7
  | 8 => ok_8
  | 9 => ok_9
  | 10 => ok_10
  | 11 => ok_11
  | 12 => ok_12
  | 13 => ok_13
  | 14 => ok_14
  | 15 => ok_15
  | 16 => ok_16
  | 17 => ok_17
  | 18 => ok_18
  | 19 => ok_19
  | 20 => ok_20
  | 21 => ok_21
  | 22 => ok_22
  | 23 => ok_23
  | 24 => ok_24
  | 25 => ok_25
  | 26 => ok_26
  | 27 => ok_27
  | 28 => ok_28
  | 29 => ok_29
  | 30 => ok_30
  | 31 => ok_31
  | 32 => ok_32
  | 33 => ok_33
  | 34 => ok_34
  | 35 => ok_35
  | 36 => ok_36
  | 37 => ok_37
  | 38 => ok_38
  | 39 => ok_39
  | 40 => ok_40
  | 41 => ok_41
  | 42 => ok_42
  | 43 => ok_43
  | 44 => ok_44
  | 45 => ok_45
  | 46 => ok_46
  | 47 => ok_47
  | 48 => ok_48
  | 49 => ok_49
  | 50 => ok_50
  | 51 => ok_51
  | 52 => ok_52
  | 53 => ok_53
  | 54 => ok_54
  | 55 => ok_55
  | 56 => ok_56
  | 57 => ok_57
  | 58 => ok_58
  | 59 => ok_59
  | 60 => ok_60
  | 61 => ok_61
  | 62 => ok_62
  | 63 => ok_63
  | 64 => ok_64
  | 65 => ok_65
  | 66 => ok_66
  | 67 => ok_67
  | 68 => ok_68
  | 69 => ok_69
  | 70 => ok_70
  | 71 => ok_71
  | 72 => ok_72
  | 73 => ok_73
  | 74 => ok_74
  | 75 => ok_75
  | 76 => ok_76
  | 77 => ok_77
  | 78 => ok_78
  | 79 => ok_79
  | 80 => ok_80
  | 81 => ok_81
  | 82 => ok_82
  | 83 => ok_83
  | 84 => ok_84
  | 85 => ok_85
  | 86 => ok_86
  | 87 => ok_87
  | 88 => ok_88
  | 89 => ok_89
  | 90 => ok_90
  | 91 => ok_91
  | 92 => ok_92
  | 93 => ok_93
  | 94 => ok_94
  | 95 => ok_95
  | 96 => ok_96
  | 97 => ok_97
  | 98 => ok_98
  | 99 => ok_99
  | 100 => ok_100
  | 101 => ok_101
  | 102 => ok_102
  | 103 => ok_103
  | 104 => ok_104
  | 105 => ok_105
  | 106 => ok_106
  | 107 => ok_107
  | 108 => ok_108
  | 109 => ok_109
  | 110 => ok_110
  | 111 => ok_111
  | 112 => ok_112
  | 113 => ok_113
  | 114 => ok_114
  | 115 => ok_115
  | 116 => ok_116
  | 117 => ok_117
  | 118 => ok_118
  | 119 => ok_119
  | 120 => ok_120
  | 121 => ok_121
  | 122 => ok_122
  | 123 => ok_123
  | 124 => ok_124
  | 125 => ok_125
  | 126 => ok_126
  | 127 => ok_127
  | 128 => ok_128
  | 129 => ok_129
  | 130 => ok_130
  | 131 => ok_131
  | 132 => ok_132
  | 133 => ok_133
  | 134 => ok_134
  | 135 => ok_135
  | 136 => ok_136
  | 137 => ok_137
  | 138 => ok_138
  | 139 => ok_139
  | j + 140 => fun _ h => absurd (show _ ∈ ([] : List (List (Nat × Instr × Nat))) from h) List.not_mem_nil

theorem iOkA {j pc : Nat} {i : Instr} {len : Nat} (h : iC j pc = some (i, len)) : iOk j pc i = true := by
  unfold iC at h
  cases hc : (mC j)[pc / 64]? with
  | none => rw [hc] at h; cases h
  | some ch =>
    rw [hc] at h
    exact okA j ch (List.mem_of_getElem? hc) (pc, i, len) (iLk h)
theorem iMx {w k q n r : Nat} (h : pM w k = some (q, n, r)) : (q = 999 ∧ Cond.methodLink (iO_ w) k objectInit ∈ lw_tbl) ∨ (q < 140 ∧ q ≠ 137 ∧ iMO w k q n r) := pMxA w (k, q, n, r) (iLk h)
end
section
/-! ANSWERS, Object's constructor, throws. -/
theorem koi_i : Cond.instanceMethod objectInit ∈ lw_tbl := List.mem_of_getElem? (i := 61) (by decide +kernel)
theorem koi_c : Cond.code objectInit ⟨#[0xb1]⟩ 1 none ∈ lw_tbl := List.mem_of_getElem? (i := 62) (by decide +kernel)
section EN
variable {D : iD} {base : Nat} {l : Launch} {p : Program} {e : Env} {R : Room} {s : State} {m : MethodId} {args : Array Value} {below : List Frame} {meth : Method} {c : Code} {x0 s0 : Nat} {o : iO} {σe : iS} {j pc len : Nat} {ls st : List iV} {σ : iS}
theorem iMQ {Qc : Array Value → State → Outcome → State → Prop} {H : Heap} {locs : List Loc} {cells slots cc ss : Nat} {free : Addr → Prop} {g : JFrame} (k : W p l e R s m args below meth c H locs cells slots (MQ below Qc args s cc ss free) g) (hf : ∀ q, free q → base ≤ q) (hq : ∀ oc t, Qc args s oc t → iOut o oc ∧ iThC o s t ∧ iRel D base σe t.heap) : W p l e R s m args below meth c H locs cells slots (iEnd D base below s o σe cc ss) g := by
  intro T hT X
  obtain ⟨t, a1, oc, b1, b2, b3, L, ⟨-, hW, hsm⟩, hL⟩ := k T hT X
  obtain ⟨c1, c2, c3⟩ := hq oc t b3
  exact ⟨t, a1, oc, b1, b2, c1, c2, c3, hW, L, hsm, fun z hz => hf _ (hL z hz)⟩
theorem sd_iret {x : Int32} (C : iCtx D p s m meth c j) (h : iC j pc = some (.ireturn, len)) (hx : mR j = true → iBool x) : iWG D base l p e R s m args below meth c x0 s0 (.inl (some (vi x))) σ j pc ls [vi x] σ := by
  obtain ⟨hd, hn⟩ := iDec h
  cases iLen1 hn
  have hok : iRtOk j .ireturn = true := iOkA h
  intro H locs arr hR hO hL hA
  obtain ⟨cx, cb, cr, cl, co, -, -, ct, cK, -⟩ := C
  obtain ⟨ty, hty, hnr⟩ : ∃ ty, iRt j = some ty ∧ narrow ty (.int x) = .int x := by
    unfold iRtOk at hok
    cases hr : iRt j with
    | none => rw [hr] at hok; cases hok
    | some ty =>
      rw [hr] at hok
      cases ty with
      | int => exact ⟨_, rfl, rfl⟩
      | boolean => exact ⟨_, rfl, by rcases hx hok with rfl | rfl <;> rfl⟩
      | _ => cases hok
  exact iMQ (W.zret (Qc := fun _ _ oc t => oc = .returned (some (.int x)) ∧ t.heap = H) (free := fun q => base ≤ q) cx cb (cr.trans hty) hnr (fun t ht _ => ⟨rfl, ht⟩) hL hd cl) (fun _ h => h) (fun oc t h => ⟨h.1, trivial, by rw [h.2]; exact hR⟩)
theorem sd_aret {a : Nat} (C : iCtx D p s m meth c j) (h : iC j pc = some (.areturn, len)) : iWG D base l p e R s m args below meth c x0 s0 (.inl (some (vr a))) σ j pc ls [vr a] σ := by
  obtain ⟨hd, hn⟩ := iDec h
  cases iLen1 hn
  have hok : iRtOk j .areturn = true := iOkA h
  intro H locs arr hR hO hL hA
  obtain ⟨cx, cb, cr, cl, co, -, -, ct, cK, -⟩ := C
  obtain ⟨ty, hty, hrt⟩ : ∃ ty, iRt j = some ty ∧ ((∃ n, ty = .object n) ∨ ∃ t, ty = .array t) := by
    unfold iRtOk at hok
    cases hr : iRt j with
    | none => rw [hr] at hok; cases hok
    | some ty =>
      rw [hr] at hok
      cases ty with
      | object n => exact ⟨_, rfl, Or.inl ⟨n, rfl⟩⟩
      | array t => exact ⟨_, rfl, Or.inr ⟨t, rfl⟩⟩
      | _ => cases hok
  have hv : cv (vr a) = .null ∨ ∃ b, cv (vr a) = .ref b := by
    by_cases ha : a = 0
    · subst ha; exact Or.inl rfl
    · exact Or.inr ⟨a, cv_r ha⟩
  exact iMQ (W.aret (Qc := fun _ _ oc t => oc = .returned (some (cv (vr a))) ∧ t.heap = H) (free := fun q => base ≤ q) cx cb (cr.trans hty) hrt hv (fun t ht _ => ⟨rfl, ht⟩) hL hd cl) (fun _ h => h) (fun oc t h => ⟨h.1, trivial, by rw [h.2]; exact hR⟩)
theorem sd_vret (C : iCtx D p s m meth c j) (h : iC j pc = some (.return_, len)) : iWG D base l p e R s m args below meth c x0 s0 (.inl none) σ j pc ls [] σ := by
  obtain ⟨hd, hn⟩ := iDec h
  cases iLen1 hn
  have hok : iRtOk j .return_ = true := iOkA h
  intro H locs arr hR hO hL hA
  obtain ⟨cx, cb, cr, cl, co, -, -, ct, cK, -⟩ := C
  have hty : iRt j = none := by
    unfold iRtOk at hok
    cases hr : iRt j with
    | none => rfl
    | some ty => rw [hr] at hok; cases hok
  exact iMQ (W.vret (Qc := fun _ _ oc t => oc = .returned none ∧ t.heap = H) (free := fun q => base ≤ q) cx cb (cr.trans hty) (fun t ht _ => ⟨rfl, ht⟩) hL hd cl) (fun _ h => h) (fun oc t h => ⟨h.1, trivial, by rw [h.2]; exact hR⟩)
theorem sd_oinit {k a n r : Nat} (C : iCtx D p s m meth c j) (h : iC j pc = some (.invokespecial k, len)) (hM : pM (mO j) k = some (999, n, r)) (hf : rF j ≤ R.frames) (hl : rL j ≤ R.locals) (hs : isum st ≤ 8) (ha : a ≠ 0) (kk : iWG D base l p e R s m args below meth c x0 s0 o σe j (pc + len) ls st σ) : iWG D base l p e R s m args below meth c x0 s0 o σe j pc ls (vr a :: st) σ := by
  obtain ⟨hd, hn⟩ := iDec h
  cases iLen1 hn
  have hok : iClOk j 2 k = true := iOkA h
  unfold iClOk at hok
  rw [hM] at hok
  have hok2 : (Nat.ble 1 (rF j) && Nat.ble 20 (rL j)) = true := hok
  rw [Bool.and_eq_true] at hok2
  have h1 := Nat.le_of_ble_eq_true hok2.1
  have h2 := Nat.le_of_ble_eq_true hok2.2
  intro H locs arr hR hO hL hA
  obtain ⟨cx, cb, -, -, co, cm, -, ct, cK, -⟩ := C
  rw [List.map_cons, cv_r ha]
  have hlk : Cond.methodLink (iOw j) k objectInit ∈ lw_tbl := by
    rcases iMx hM with ⟨-, h⟩ | ⟨h, -⟩
    · exact h
    · omega
  refine W.objInit cx cb co (ct.use hlk rfl args) (ct.use koi_i rfl args) (ct.use koi_c rfl args) rfl (by rw [cm]; exact hA.1) rfl hd (by omega) ?_ (kk H locs arr hR hO hL hA)
  rw [isum_cat]
  show 2 * 0 + _ + 12 ≤ _
  omega
/-- 'throw new E(text)', with the state behind it as it is -/
theorem iq_throw {Q : State → Prop} {H : Heap} {locs : List Loc} {cells slots : Nat} {arr : Array Slot} {rest : List Value} {cc : ByteArray} (hexec : p.tables.exec = Jvm.exec) (hb : c.code = cc) (hl : l.stackTraces = false) {own cls text : String} {names : List String} {ik is ic sa : Nat} {A : Nat → Prop}
    (hown : s.vm.findClass own = some m.cls) (hcls : Bundle.fit cls = true) (hnames : ∀ n ∈ names, Bundle.fit n = true)
    (hk : (Cond.classLink own ik cls).before args s = true) (hini : (Cond.initialized cls).before args s = true) (hstr : vk_R own is text sa s) (hat : ∀ w ∈ vx_atS own ic cls names, w.before args s = true)
    (hgood : ∀ w ∈ Cond.classLink own ik cls :: Cond.initialized cls :: vx_atS own ic cls names, vx_ot w = true)
    (hU : vx_Zq Bundle.tN "UNASSIGNED_STACK" Bundle.steD A s s.heap) (hN : vx_Zq Bundle.tN "SUPPRESSED_SENTINEL" Bundle.listD A s s.heap) (hS : va_S A s.heap H locs) (hsize : arr.size = c.maxLocals)
    (d0 : decode cc pc = .ok (.new ik, 3)) (d3 : decode cc (pc + 3) = .ok (.dup, 1)) (d4 : decode cc (pc + 4) = .ok (.ldc is, 2)) (d6 : decode cc (pc + 6) = .ok (.invokespecial ic, 3)) (d9 : decode cc (pc + 9) = .ok (.athrow, 1))
    (hout : ∀ x ∈ c.exceptionTable.toList, covers x (pc + 9) = false)
    (hRframes : names.length + 3 < R.frames) (hRlocals : (rest.map fun v => v.category).sum + (13 * (names.length + 1) + 43) ≤ R.locals) (hRcells : cells + 1 ≤ R.cells) (hRslots : slots + 6 ≤ R.slots) (hlocks : meth.locks = false)
    (hQ : ∀ U : State, U.status = .running → Ended U below (.threw H.size) → s.WarmedH U.vm → s.sameButNew ({ U with vm := s.vm } : State) locs (cells + 1) (slots + 6) → U.heap.size = H.size + 1 → (∀ q : Nat, q < H.size → U.heap[q]? = H[q]?) → (∃ ce : Cell, U.heap[H.size]? = some ce ∧ ce.vm = .none ∧ s.vm.findClass cls = some ce.cls) → Q U) :
    W p l e R s m args below meth c H locs cells slots Q (F0 m pc arr rest) := by
  intro T hT X
  have htr : e.platform.stackTraces = false := (show e.platform.stackTraces = l.stackTraces by rw [X.admits.platform]).trans hl
  have Y := vx_rebase X (R' := { frames := R.frames, locals := R.locals, cells := 1, slots := 6 }) (Nat.le_refl _) (Nat.le_refl _) hRcells hRslots
  obtain ⟨s', hA⟩ : ∃ z, z = (T.setVm s.vm).setFrames (.invoking m args :: below) := ⟨_, rfl⟩
  rw [← hA] at Y
  have hvm : s'.vm = s.vm := by rw [hA]; rfl
  have hhp : s'.heap = H := by rw [hA]; exact hT
  have hW0 : s.WarmedH s'.vm := by rw [hvm]; exact State.WarmedH.refl s
  have hat' : ∀ w ∈ vx_atS own ic cls names, w.before args s' = true := fun w hw => vx_ot_at hW0 hvm.symm (hgood w (List.mem_cons_of_mem _ (List.mem_cons_of_mem _ hw))) (hat w hw)
  have hk' : (Cond.classLink own ik cls).before args s' = true := vx_ot_at hW0 hvm.symm (hgood _ List.mem_cons_self) hk
  have hini' : (Cond.initialized cls).before args s' = true := vx_ot_at hW0 hvm.symm (hgood _ (List.mem_cons_of_mem _ List.mem_cons_self)) hini
  have hU' : vx_Zq Bundle.tN "UNASSIGNED_STACK" Bundle.steD A s' s'.heap := by rw [hhp]; exact vx_Zq.moved hW0.alike (hU.kept hS.2.1)
  have hN' : vx_Zq Bundle.tN "SUPPRESSED_SENTINEL" Bundle.listD A s' s'.heap := by rw [hhp]; exact vx_Zq.moved hW0.alike (hN.kept hS.2.1)
  have h : ∀ w ∈ Bundle.ownAtoms own ic cls names, w.before args s' = true := vx_own hat' (vx_isRefq hU'.1) (vx_isRefq hN'.1) hU'.2.word hN'.2.word
  have hown' : s'.vm.findClass own = some m.cls := by rw [hvm]; exact hown
  have hins : (Cond.instantiable cls 6).before args s' = true := h _ (by simp [Bundle.ownAtoms])
  obtain ⟨vm₁, cX, kX, hfX, hkX, -, -, X₁, st1⟩ := Y.newCold hexec (own := own) (C := cls) (index := ik) (n := 6) hown' hk' hins hini'
    (g := F0 m pc arr rest) rfl (by rw [hb]; exact d0) (Nat.le_refl _) (Nat.le_refl _)
  generalize hT1 : (T.setVm vm₁).pushCell { cls := cX, slots := kX.instanceTypes.map defaultValue, vm := .none } = T1 at X₁ st1
  have hcat : (Value.ref T.heap.size).category = 1 := rfl
  have hcellA : T1.heap[T.heap.size]? = some (freshCell cX kX) := by rw [← hT1]; exact State.heap_pushCell_size _ _
  have d3' : decode c.code (pc + 3) = .ok (.dup, 1) := by rw [hb]; exact d3
  have d4' : decode c.code (pc + 4) = .ok (.ldc is, 2) := by rw [hb]; exact d4
  have hstr' : vk_R own is text sa s' := vk_R.warm hW0 hstr
  obtain ⟨U, hsteps, hrun, hend, hW, hsame, ce, hce, hO⟩ := X₁.ctorThrowS hexec htr (own := own) (cls := cls) (names := names) (ic := ic) hown' hcls hnames h (fun x hx => nomatch hx) hfX hkX hcellA (by rw [hhp, hT]; exact Nat.le_refl _) (msg := .ref sa) rfl
    (g := { method := m, pc := pc + 6, locals := arr, stack := .ref sa :: .ref T.heap.size :: .ref T.heap.size :: rest, locked := none }) rfl hsize rfl rfl (rest := rest) rfl
    (by rw [hb]; exact d6) (by rw [hb]; exact d9) hout hRframes (by simp only [List.map_cons, List.sum_cons, hcat]; omega) hlocks
  obtain ⟨f1, f2⟩ := vx_frame hsame
  rw [hhp] at f1 f2
  have hWs : s.WarmedH U.vm := State.WarmedH.trans hW0 hW
  have hcl : s.vm.findClass cls = some ce.cls := by
    have h9 := hO.cls
    rw [hvm] at h9
    exact h9
  have hsz : U.heap.size ≤ H.size + (0 + 1) := by
    have h9 : ({ U with vm := s'.vm } : State).heap.size ≤ s'.heap.size + (0 + 1) := hsame.2.2.1
    rw [hhp] at h9
    exact h9
  have hall : s.sameButNew ({ U with vm := s.vm } : State) locs (cells + 1) (slots + 6) := by
    subst hA
    obtain ⟨e1, e2⟩ := hsame
    rw [State.setFrames_setFrames] at e1
    have h2 : (T.setVm s.vm).sameButNew ({ U with vm := s.vm } : State) [] (0 + 1) (0 + 6) := ⟨e1, e2⟩
    have h3 := X.same.trans h2
    rw [List.append_nil] at h3
    exact h3.mono (by omega) (by omega)
  rw [hT] at hce hend
  have hlt : H.size < U.heap.size := (Array.getElem?_eq_some_iff.mp hce).1
  refine ⟨U, ?_, hQ U hrun hend hWs hall (by omega) (fun q hq => f2 q hq (fun z hz => nomatch hz)) ⟨ce, hce, hO.vm, hcl⟩⟩
  refine st1 _ ?_
  show Steps p.tables e below (T1.setTop { method := m, pc := pc + 3, locals := arr, stack := .ref T.heap.size :: rest, locked := none }) _
  jvm_step X₁.here [X₁.here.top, hexec, d3', Value.category]
  exact X₁.ldcString hexec (own := own) (text := text) (index := is) (a := sa) hown' hstr'.1 hstr'.2
    (g := { method := m, pc := pc + 4, locals := arr, stack := .ref T.heap.size :: .ref T.heap.size :: rest, locked := none }) rfl d4' _ hsteps
end EN
end
