section
/-! THE IDEAL MACHINE. Values: ints, references (0: null), longs. Heap: a map a field, maps for array elements, kinds, lengths; cells are real addresses. -/
abbrev iV : Type := Int32 ⊕ (Nat ⊕ Int64)
abbrev vi (x : Int32) : iV := Sum.inl x
abbrev vr (a : Nat) : iV := Sum.inr (Sum.inl a)
abbrev vl (y : Int64) : iV := Sum.inr (Sum.inr y)
/-- int fields, ref fields, int elements, ref elements, long elements, kinds, lengths, next cell, slots -/
abbrev iS : Type := (Nat → Nat → Int32) × (Nat → Nat → Nat) × (Nat → Nat → Int32) × (Nat → Nat → Nat) × (Nat → Nat → Int64) × (Nat → Nat) × (Nat → Nat) × Nat × Nat
def sI (σ : iS) : Nat → Nat → Int32 := σ.1
def sR (σ : iS) : Nat → Nat → Nat := σ.2.1
def sA (σ : iS) : Nat → Nat → Int32 := σ.2.2.1
def sB (σ : iS) : Nat → Nat → Nat := σ.2.2.2.1
def sL (σ : iS) : Nat → Nat → Int64 := σ.2.2.2.2.1
def sK (σ : iS) : Nat → Nat := σ.2.2.2.2.2.1
def sN (σ : iS) : Nat → Nat := σ.2.2.2.2.2.2.1
def sX (σ : iS) : Nat := σ.2.2.2.2.2.2.2.1
def sS (σ : iS) : Nat := σ.2.2.2.2.2.2.2.2
def u2 {α : Type} (f : Nat → Nat → α) (a i : Nat) (x : α) : Nat → Nat → α := fun b k => if b = a ∧ k = i then x else f b k
def u1 {α : Type} (f : Nat → α) (a : Nat) (x : α) : Nat → α := fun b => if b = a then x else f b
def uz {α : Type} (f : Nat → Nat → α) (a : Nat) (x : α) : Nat → Nat → α := fun b k => if b = a then x else f b k
def uf {α : Type} (f : Nat → Nat → α) (a : Nat) (x : α) : Nat → Nat → α := fun g b => if b = a then x else f g b
def wI (σ : iS) (f a : Nat) (x : Int32) : iS := (u2 (sI σ) f a x, sR σ, sA σ, sB σ, sL σ, sK σ, sN σ, sX σ, sS σ)
def wR (σ : iS) (f a : Nat) (x : Nat) : iS := (sI σ, u2 (sR σ) f a x, sA σ, sB σ, sL σ, sK σ, sN σ, sX σ, sS σ)
def wA (σ : iS) (a i : Nat) (x : Int32) : iS := (sI σ, sR σ, u2 (sA σ) a i x, sB σ, sL σ, sK σ, sN σ, sX σ, sS σ)
def wB (σ : iS) (a i : Nat) (x : Nat) : iS := (sI σ, sR σ, sA σ, u2 (sB σ) a i x, sL σ, sK σ, sN σ, sX σ, sS σ)
def wL (σ : iS) (a i : Nat) (x : Int64) : iS := (sI σ, sR σ, sA σ, sB σ, u2 (sL σ) a i x, sK σ, sN σ, sX σ, sS σ)
/-- a new object of kind k with n slots, its fields zero -/
def nO (σ : iS) (k n : Nat) : iS := (uf (sI σ) (sX σ) 0, uf (sR σ) (sX σ) 0, sA σ, sB σ, sL σ, u1 (sK σ) (sX σ) k, sN σ, sX σ + 1, sS σ + n)
/-- a new array of kind k, n long, its elements zero -/
def nA (σ : iS) (k n : Nat) : iS := (sI σ, sR σ, uz (sA σ) (sX σ) 0, uz (sB σ) (sX σ) 0, uz (sL σ) (sX σ) 0, u1 (sK σ) (sX σ) k, u1 (sN σ) (sX σ) n, sX σ + 1, sS σ + n)
/-- returned, or threw (number of the class, cell) -/
abbrev iO : Type := Option iV ⊕ (Nat × Nat)
/-- goes on at (pc, locals, stack, heap); ends; calls (method, arguments, rest of the stack) -/
abbrev iT : Type := (Nat × List iV × List iV × iS) ⊕ (iO × iS) ⊕ (Nat × List iV × List iV)
/-- the machine goes on -/
abbrev iGo (pc : Nat) (ls st : List iV) (σ : iS) : Option iT := some (.inl (pc, ls, st, σ))
/-- a jump whose target is no negative number -/
def iJ (pc : Nat) (off : Int) (ls st : List iV) (σ : iS) : Option iT := match (pc : Int) + off with
  | Int.ofNat t => iGo t ls st σ
  | Int.negSucc _ => none
def iArr (k : Nat) : Bool := Nat.ble 100 k && Nat.ble k 199
/-- an index lies in the array -/
def iIn (x : Int32) (n : Nat) : Prop := ¬ (x < 0 ∨ n ≤ x.toNatClampNeg)
def iBool (x : Int32) : Prop := x = 0 ∨ x = 1
/-- a guard, and a choice -/
noncomputable def iG (c : Prop) (t : Option iT) : Option iT := @ite _ c (Classical.propDecidable c) t none
noncomputable def iB (c : Prop) (t f : Option iT) : Option iT := @ite _ c (Classical.propDecidable c) t f
theorem iG_t {c : Prop} {t : Option iT} (h : c) : iG c t = t := if_pos h
theorem iG_s {c : Prop} {t : Option iT} {y : iT} (h : iG c t = some y) : c ∧ t = some y := by
  unfold iG at h
  split at h
  next hc => exact ⟨hc, h⟩
  next => cases h
theorem iB_t {c : Prop} {t f : Option iT} (h : c) : iB c t f = t := if_pos h
theorem iB_f {c : Prop} {t f : Option iT} (h : ¬ c) : iB c t f = f := if_neg h
/-- THE STEP: F gives a field's place by the pool number (kind of its object, field's number, 0 int, 1 boolean, 2 reference); M a callee (number, how many arguments with the receiver, the receiver's kind or 0; number 999: nothing happens); N what 'new' makes (kind, slots); V the kind of an array of references; E an exception's number where a throw begins; rb: the answer is a boolean -/
noncomputable def istep (F : Nat → Option (Nat × Nat × Nat)) (M : Nat → Option (Nat × Nat × Nat)) (N : Nat → Option (Nat × Nat)) (V : Nat → Option Nat) (E : Option Nat) (rb : Bool) (pc : Nat) (i : Instr) (len : Nat) (ls st : List iV) (σ : iS) : Option iT :=
  match i with
  | .iconst v => iGo (pc + len) ls (vi (Int32.ofInt v) :: st) σ
  | .bipush v => iGo (pc + len) ls (vi (Int8.ofInt v).toInt32 :: st) σ
  | .sipush v => iGo (pc + len) ls (vi (Int16.ofInt v).toInt32 :: st) σ
  | .aconst_null => iGo (pc + len) ls (vr 0 :: st) σ
  | .iload k => match ls[k]? with
    | some (.inl x) => iGo (pc + len) ls (vi x :: st) σ
    | _ => none
  | .iload_n k => match ls[k.val]? with
    | some (.inl x) => iGo (pc + len) ls (vi x :: st) σ
    | _ => none
  | .aload k => match ls[k]? with
    | some (.inr (.inl a)) => iGo (pc + len) ls (vr a :: st) σ
    | _ => none
  | .aload_n k => match ls[k.val]? with
    | some (.inr (.inl a)) => iGo (pc + len) ls (vr a :: st) σ
    | _ => none
  | .istore k => match st with
    | .inl x :: st => iG (k < ls.length) (iGo (pc + len) (ls.set k (vi x)) st σ)
    | _ => none
  | .istore_n k => match st with
    | .inl x :: st => iG (k.val < ls.length) (iGo (pc + len) (ls.set k.val (vi x)) st σ)
    | _ => none
  | .astore k => match st with
    | .inr (.inl a) :: st => iG (k < ls.length) (iGo (pc + len) (ls.set k (vr a)) st σ)
    | _ => none
  | .astore_n k => match st with
    | .inr (.inl a) :: st => iG (k.val < ls.length) (iGo (pc + len) (ls.set k.val (vr a)) st σ)
    | _ => none
  | .iinc k v => match ls[k]? with
    | some (.inl x) => iGo (pc + len) (ls.set k (vi (x + Int32.ofInt v))) st σ
    | _ => none
  | .iadd => match st with
    | .inl y :: .inl x :: st => iGo (pc + len) ls (vi (x + y) :: st) σ
    | _ => none
  | .isub => match st with
    | .inl y :: .inl x :: st => iGo (pc + len) ls (vi (x - y) :: st) σ
    | _ => none
  | .imul => match st with
    | .inl y :: .inl x :: st => iGo (pc + len) ls (vi (x * y) :: st) σ
    | _ => none
  | .iand => match st with
    | .inl y :: .inl x :: st => iGo (pc + len) ls (vi (x &&& y) :: st) σ
    | _ => none
  | .idiv => match st with
    | .inl y :: .inl x :: st => iG (y ≠ 0) (iGo (pc + len) ls (vi (x / y) :: st) σ)
    | _ => none
  | .irem => match st with
    | .inl y :: .inl x :: st => iG (y ≠ 0) (iGo (pc + len) ls (vi (x - x / y * y) :: st) σ)
    | _ => none
  | .i2l => match st with
    | .inl x :: st => iGo (pc + len) ls (vl x.toInt64 :: st) σ
    | _ => none
  | .lcmp => match st with
    | .inr (.inr y) :: .inr (.inr x) :: st => iB (x = y) (iGo (pc + len) ls (vi 0 :: st) σ) (iB (x < y) (iGo (pc + len) ls (vi (-1) :: st) σ) (iGo (pc + len) ls (vi 1 :: st) σ))
    | _ => none
  | .dup => match st with
    | .inl x :: st => iGo (pc + len) ls (vi x :: vi x :: st) σ
    | .inr (.inl a) :: st => iGo (pc + len) ls (vr a :: vr a :: st) σ
    | _ => none
  | .dup2 => match st with
    | .inl y :: .inr (.inl a) :: st => iGo (pc + len) ls (vi y :: vr a :: vi y :: vr a :: st) σ
    | _ => none
  | .pop => match st with
    | .inl _ :: st => iGo (pc + len) ls st σ
    | .inr (.inl _) :: st => iGo (pc + len) ls st σ
    | _ => none
  | .goto off => iJ pc off ls st σ
  | .ifCond c off => match c, st with
    | .eq, .inl x :: st => iB (x = 0) (iJ pc off ls st σ) (iGo (pc + len) ls st σ)
    | .ne, .inl x :: st => iB (x ≠ 0) (iJ pc off ls st σ) (iGo (pc + len) ls st σ)
    | .lt, .inl x :: st => iB (x < 0) (iJ pc off ls st σ) (iGo (pc + len) ls st σ)
    | .ge, .inl x :: st => iB (0 ≤ x) (iJ pc off ls st σ) (iGo (pc + len) ls st σ)
    | .gt, .inl x :: st => iB (0 < x) (iJ pc off ls st σ) (iGo (pc + len) ls st σ)
    | .le, .inl x :: st => iB (x ≤ 0) (iJ pc off ls st σ) (iGo (pc + len) ls st σ)
    | _, _ => none
  | .if_icmp c off => match c, st with
    | .eq, .inl y :: .inl x :: st => iB (x = y) (iJ pc off ls st σ) (iGo (pc + len) ls st σ)
    | .ne, .inl y :: .inl x :: st => iB (x ≠ y) (iJ pc off ls st σ) (iGo (pc + len) ls st σ)
    | .lt, .inl y :: .inl x :: st => iB (x < y) (iJ pc off ls st σ) (iGo (pc + len) ls st σ)
    | .ge, .inl y :: .inl x :: st => iB (y ≤ x) (iJ pc off ls st σ) (iGo (pc + len) ls st σ)
    | .gt, .inl y :: .inl x :: st => iB (y < x) (iJ pc off ls st σ) (iGo (pc + len) ls st σ)
    | .le, .inl y :: .inl x :: st => iB (x ≤ y) (iJ pc off ls st σ) (iGo (pc + len) ls st σ)
    | _, _ => none
  | .ifnull off => match st with
    | .inr (.inl a) :: st => iB (a = 0) (iJ pc off ls st σ) (iGo (pc + len) ls st σ)
    | _ => none
  | .ifnonnull off => match st with
    | .inr (.inl a) :: st => iB (a ≠ 0) (iJ pc off ls st σ) (iGo (pc + len) ls st σ)
    | _ => none
  | .tableswitch d lo hi offs => match st with
    | .inl x :: st => iB (x.toInt < lo ∨ hi < x.toInt) (iJ pc d ls st σ) (match offs[(x.toInt - lo).toNat]? with
      | some off => iJ pc off ls st σ
      | none => none)
    | _ => none
  | .lookupswitch d ps => match st with
    | .inl x :: st => iG ((ps.toList.zip (ps.toList.drop 1)).all (fun (a, next) => a.1 < next.1) = true) (iJ pc (Op.lookupswitch.offset ps.toList d x.toInt) ls st σ)
    | _ => none
  | .getfield k => match F k, st with
    | some (c, f, t), .inr (.inl a) :: st => iG (sK σ a = c) (match t with
      | 2 => iGo (pc + len) ls (vr (sR σ (c * 32 + f) a) :: st) σ
      | _ => iGo (pc + len) ls (vi (sI σ (c * 32 + f) a) :: st) σ)
    | _, _ => none
  | .putfield k => match F k, st with
    | some (c, f, 0), .inl x :: .inr (.inl a) :: st => iG (sK σ a = c) (iGo (pc + len) ls st (wI σ (c * 32 + f) a x))
    | some (c, f, 1), .inl x :: .inr (.inl a) :: st => iG (sK σ a = c ∧ iBool x) (iGo (pc + len) ls st (wI σ (c * 32 + f) a x))
    | some (c, f, 2), .inr (.inl b) :: .inr (.inl a) :: st => iG (sK σ a = c) (iGo (pc + len) ls st (wR σ (c * 32 + f) a b))
    | _, _ => none
  | .arraylength => match st with
    | .inr (.inl a) :: st => iG (iArr (sK σ a) = true) (iGo (pc + len) ls (vi (nI (sN σ a)) :: st) σ)
    | _ => none
  | .iaload => match st with
    | .inl x :: .inr (.inl a) :: st => iG ((sK σ a = 100 ∨ sK σ a = 101) ∧ iIn x (sN σ a)) (iGo (pc + len) ls (vi (sA σ a x.toNatClampNeg) :: st) σ)
    | _ => none
  | .baload => match st with
    | .inl x :: .inr (.inl a) :: st => iG (sK σ a = 102 ∧ iIn x (sN σ a)) (iGo (pc + len) ls (vi (sA σ a x.toNatClampNeg) :: st) σ)
    | _ => none
  | .laload => match st with
    | .inl x :: .inr (.inl a) :: st => iG (sK σ a = 103 ∧ iIn x (sN σ a)) (iGo (pc + len) ls (vl (sL σ a x.toNatClampNeg) :: st) σ)
    | _ => none
  | .aaload => match st with
    | .inl x :: .inr (.inl a) :: st => iG ((110 ≤ sK σ a ∧ sK σ a < 200) ∧ iIn x (sN σ a)) (iGo (pc + len) ls (vr (sB σ a x.toNatClampNeg) :: st) σ)
    | _ => none
  | .iastore => match st with
    | .inl y :: .inl x :: .inr (.inl a) :: st => iG (sK σ a = 101 ∧ iIn x (sN σ a)) (iGo (pc + len) ls st (wA σ a x.toNatClampNeg y))
    | _ => none
  | .bastore => match st with
    | .inl y :: .inl x :: .inr (.inl a) :: st => iG (sK σ a = 102 ∧ iBool y ∧ iIn x (sN σ a)) (iGo (pc + len) ls st (wA σ a x.toNatClampNeg y))
    | _ => none
  | .lastore => match st with
    | .inr (.inr y) :: .inl x :: .inr (.inl a) :: st => iG (sK σ a = 103 ∧ iIn x (sN σ a)) (iGo (pc + len) ls st (wL σ a x.toNatClampNeg y))
    | _ => none
  | .aastore => match st with
    | .inr (.inl b) :: .inl x :: .inr (.inl a) :: st => iG ((110 ≤ sK σ a ∧ sK σ a < 200) ∧ (b = 0 ∨ sK σ b + 110 = sK σ a) ∧ iIn x (sN σ a)) (iGo (pc + len) ls st (wB σ a x.toNatClampNeg b))
    | _ => none
  | .newarray t => match t, st with
    | .int, .inl x :: st => iG (¬ x < 0 ∧ x.toNatClampNeg ≤ 100000) (iGo (pc + len) ls (vr (sX σ) :: st) (nA σ 101 x.toNatClampNeg))
    | .boolean, .inl x :: st => iG (¬ x < 0 ∧ x.toNatClampNeg ≤ 100000) (iGo (pc + len) ls (vr (sX σ) :: st) (nA σ 102 x.toNatClampNeg))
    | .long, .inl x :: st => iG (¬ x < 0 ∧ x.toNatClampNeg ≤ 100000) (iGo (pc + len) ls (vr (sX σ) :: st) (nA σ 103 x.toNatClampNeg))
    | _, _ => none
  | .anewarray k => match V k, st with
    | some c, .inl x :: st => iG (¬ x < 0 ∧ x.toNatClampNeg ≤ 100000) (iGo (pc + len) ls (vr (sX σ) :: st) (nA σ (110 + c) x.toNatClampNeg))
    | _, _ => none
  | .new k => match E with
    | some e => some (.inr (.inl (.inr (e, sX σ), nO σ (200 + e) 6)))
    | none => match N k with
      | some (c, n) => iGo (pc + len) ls (vr (sX σ) :: st) (nO σ c n)
      | none => none
  | .invokestatic k => match M k with
    | some (j, n, 0) => iG (n ≤ st.length) (some (.inr (.inr (j, (st.take n).reverse, st.drop n))))
    | _ => none
  | .invokevirtual k => match M k with
    | some (j, n, c + 1) => match (st.take n).reverse with
      | .inr (.inl a) :: as => iG (n ≤ st.length ∧ sK σ a = c + 1) (some (.inr (.inr (j, .inr (.inl a) :: as, st.drop n))))
      | _ => none
    | _ => none
  | .invokespecial k => match M k with
    | some (999, _, _) => match st with
      | .inr (.inl _) :: st => iGo (pc + len) ls st σ
      | _ => none
    | some (j, n, c + 1) => match (st.take n).reverse with
      | .inr (.inl a) :: as => iG (n ≤ st.length ∧ sK σ a = c + 1) (some (.inr (.inr (j, .inr (.inl a) :: as, st.drop n))))
      | _ => none
    | _ => none
  | .ireturn => match st with
    | [.inl x] => iG (rb = true → iBool x) (some (.inr (.inl (.inl (some (vi x)), σ))))
    | _ => none
  | .areturn => match st with
    | [.inr (.inl a)] => some (.inr (.inl (.inl (some (vr a)), σ)))
    | _ => none
  | .return_ => match st with
    | [] => some (.inr (.inl (.inl none, σ)))
    | _ => none
  | _ => none
end
section
/-! THE PROGRAM as the ideal machine reads it: printed by gen2.py out of javap's listing -/
/-- 0: TextVerbs.<init>()V -/
def mC_0_0 : List (Nat × Instr × Nat) := [(0, .aload_n 0, 1), (1, .invokespecial 1, 3), (4, .aload_n 0, 1), (5, .bipush 40, 2), (7, .anewarray 9, 3), (10, .putfield 11, 3), (13, .aload_n 0, 1), (14, .new 15, 3), (17, .dup, 1), (18, .invokespecial 17, 3), (21, .putfield 18, 3), (24, .aload_n 0, 1), (25, .new 22, 3), (28, .dup, 1), (29, .invokespecial 24, 3), (32, .putfield 25, 3), (35, .aload_n 0, 1), (36, .new 29, 3), (39, .dup, 1), (40, .invokespecial 31, 3), (43, .putfield 32, 3), (46, .aload_n 0, 1), (47, .bipush 10, 2), (49, .anewarray 36, 3), (52, .putfield 38, 3), (55, .return_, 1)]
def mC_0 : List (List (Nat × Instr × Nat)) := [mC_0_0]
/-- 1: TextVerbs.text(I)I -/
def mC_1_0 : List (Nat × Instr × Nat) := [(0, .iload_n 1, 1), (1, .ifCond .lt 9, 3), (4, .iload_n 1, 1), (5, .bipush 60, 2), (7, .if_icmp .le 13, 3), (10, .new 42, 3), (13, .dup, 1), (14, .ldc 44, 2), (16, .invokespecial 46, 3), (19, .athrow, 1), (20, .aload_n 0, 1), (21, .getfield 49, 3), (24, .bipush 40, 2), (26, .if_icmp .lt 13, 3), (29, .new 53, 3), (32, .dup, 1), (33, .ldc 55, 2), (35, .invokespecial 57, 3), (38, .athrow, 1), (39, .aload_n 0, 1), (40, .getfield 11, 3), (43, .aload_n 0, 1), (44, .getfield 49, 3), (47, .new 9, 3), (50, .dup, 1), (51, .iload_n 1, 1), (52, .invokespecial 58, 3), (55, .aastore, 1), (56, .aload_n 0, 1), (57, .dup, 1), (58, .getfield 49, 3), (61, .iconst 1, 1), (62, .iadd, 1), (63, .putfield 49, 3)]
def mC_1_1 : List (Nat × Instr × Nat) := [(66, .aload_n 0, 1), (67, .getfield 49, 3), (70, .iconst 1, 1), (71, .isub, 1), (72, .ireturn, 1)]
def mC_1 : List (List (Nat × Instr × Nat)) := [mC_1_0, mC_1_1]
/-- 2: TextVerbs.set(III)V -/
def mC_2_0 : List (Nat × Instr × Nat) := [(0, .aload_n 0, 1), (1, .iload_n 1, 1), (2, .iload_n 2, 1), (3, .invokevirtual 61, 3), (6, .astore 4, 2), (8, .iload_n 3, 1), (9, .ifCond .lt 10, 3), (12, .iload_n 3, 1), (13, .sipush 255, 3), (16, .if_icmp .le 13, 3), (19, .new 42, 3), (22, .dup, 1), (23, .ldc 65, 2), (25, .invokespecial 46, 3), (28, .athrow, 1), (29, .aload 4, 2), (31, .getfield 67, 3), (34, .iload_n 2, 1), (35, .iload_n 3, 1), (36, .iastore, 1), (37, .return_, 1)]
def mC_2 : List (List (Nat × Instr × Nat)) := [mC_2_0]
/-- 3: TextVerbs.at(II)I -/
def mC_3_0 : List (Nat × Instr × Nat) := [(0, .aload_n 0, 1), (1, .iload_n 1, 1), (2, .iload_n 2, 1), (3, .invokevirtual 61, 3), (6, .getfield 67, 3), (9, .iload_n 2, 1), (10, .iaload, 1), (11, .ireturn, 1)]
def mC_3 : List (List (Nat × Instr × Nat)) := [mC_3_0]
/-- 4: TextVerbs.span(ZI)V -/
def mC_4_0 : List (Nat × Instr × Nat) := [(0, .aload_n 0, 1), (1, .iload_n 2, 1), (2, .invokevirtual 71, 3), (5, .astore_n 3, 1), (6, .iload_n 1, 1), (7, .ifCond .eq 11, 3), (10, .aload_n 0, 1), (11, .aload_n 3, 1), (12, .putfield 75, 3), (15, .goto 8, 3), (18, .aload_n 0, 1), (19, .aload_n 3, 1), (20, .putfield 79, 3), (23, .return_, 1)]
def mC_4 : List (List (Nat × Instr × Nat)) := [mC_4_0]
/-- 5: TextVerbs.tally(III)I -/
def mC_5_0 : List (Nat × Instr × Nat) := [(0, .iload_n 1, 1), (1, .iconst 2, 1), (2, .invokestatic 82, 3), (5, .aload_n 0, 1), (6, .iload_n 1, 1), (7, .iload_n 2, 1), (8, .invokevirtual 86, 3), (11, .astore 4, 2), (13, .iload_n 3, 1), (14, .invokestatic 89, 3), (17, .aload_n 0, 1), (18, .invokevirtual 92, 3), (21, .aload_n 0, 1), (22, .getfield 18, 3), (25, .new 95, 3), (28, .dup, 1), (29, .iload_n 1, 1), (30, .aload 4, 2), (32, .iload_n 3, 1), (33, .aconst_null, 1), (34, .aload_n 0, 1), (35, .invokevirtual 97, 3), (38, .invokespecial 101, 3), (41, .invokevirtual 104, 3), (44, .ireturn, 1)]
def mC_5 : List (List (Nat × Instr × Nat)) := [mC_5_0]
/-- 6: TextVerbs.replace(III)I -/
def mC_6_0 : List (Nat × Instr × Nat) := [(0, .iload_n 1, 1), (1, .iconst 3, 1), (2, .invokestatic 82, 3), (5, .aload_n 0, 1), (6, .iload_n 1, 1), (7, .iload_n 2, 1), (8, .invokevirtual 86, 3), (11, .astore 4, 2), (13, .aload_n 0, 1), (14, .iload_n 3, 1), (15, .invokevirtual 108, 3), (18, .astore 5, 2), (20, .aload 5, 2), (22, .invokevirtual 111, 3), (25, .aload 4, 2), (27, .invokestatic 115, 3), (30, .if_icmp .eq 13, 3), (33, .new 42, 3), (36, .dup, 1), (37, .ldc 119, 2), (39, .invokespecial 46, 3), (42, .athrow, 1), (43, .aload_n 0, 1), (44, .invokevirtual 92, 3), (47, .aload_n 0, 1), (48, .getfield 18, 3), (51, .new 95, 3), (54, .dup, 1), (55, .iload_n 1, 1), (56, .aload 4, 2), (58, .iconst (-1), 1), (59, .aload 5, 2), (61, .aload_n 0, 1), (62, .invokevirtual 97, 3)]
def mC_6_1 : List (Nat × Instr × Nat) := [(65, .invokespecial 101, 3), (68, .invokevirtual 104, 3), (71, .ireturn, 1)]
def mC_6 : List (List (Nat × Instr × Nat)) := [mC_6_0, mC_6_1]
/-- 7: TextVerbs.inspect(I)I -/
def mC_7_0 : List (Nat × Instr × Nat) := [(0, .aload_n 0, 1), (1, .getfield 18, 3), (4, .aload_n 0, 1), (5, .iload_n 1, 1), (6, .invokevirtual 108, 3), (9, .invokevirtual 121, 3), (12, .ireturn, 1)]
def mC_7 : List (List (Nat × Instr × Nat)) := [mC_7_0]
/-- 8: TextVerbs.convert(III)I -/
def mC_8_0 : List (Nat × Instr × Nat) := [(0, .aload_n 0, 1), (1, .iload_n 1, 1), (2, .invokevirtual 108, 3), (5, .astore 4, 2), (7, .aload_n 0, 1), (8, .iload_n 2, 1), (9, .invokevirtual 108, 3), (12, .astore 5, 2), (14, .aload_n 0, 1), (15, .iload_n 3, 1), (16, .invokevirtual 108, 3), (19, .astore 6, 2), (21, .aload 5, 2), (23, .invokevirtual 111, 3), (26, .aload 6, 2), (28, .invokevirtual 111, 3), (31, .if_icmp .eq 13, 3), (34, .new 42, 3), (37, .dup, 1), (38, .ldc 124, 2), (40, .invokespecial 46, 3), (43, .athrow, 1), (44, .aload_n 0, 1), (45, .getfield 18, 3), (48, .aload 4, 2), (50, .aload_n 0, 1), (51, .invokevirtual 97, 3), (54, .aload 5, 2), (56, .aload 6, 2), (58, .invokevirtual 126, 3), (61, .ireturn, 1)]
def mC_8 : List (List (Nat × Instr × Nat)) := [mC_8_0]
/-- 9: TextVerbs.counter(I)I -/
def mC_9_0 : List (Nat × Instr × Nat) := [(0, .iload_n 1, 1), (1, .invokestatic 89, 3), (4, .aload_n 0, 1), (5, .getfield 18, 3), (8, .iload_n 1, 1), (9, .invokevirtual 130, 3), (12, .ireturn, 1)]
def mC_9 : List (List (Nat × Instr × Nat)) := [mC_9_0]
/-- 10: TextVerbs.part(II)I -/
def mC_10_0 : List (Nat × Instr × Nat) := [(0, .aload_n 0, 1), (1, .iload_n 1, 1), (2, .invokevirtual 108, 3), (5, .astore_n 3, 1), (6, .iload_n 2, 1), (7, .iconst (-1), 1), (8, .if_icmp .ne 7, 3), (11, .aconst_null, 1), (12, .goto 8, 3), (15, .aload_n 0, 1), (16, .iload_n 2, 1), (17, .invokevirtual 71, 3), (20, .astore 4, 2), (22, .aload_n 0, 1), (23, .getfield 25, 3), (26, .getfield 134, 3), (29, .bipush 20, 2), (31, .if_icmp .lt 13, 3), (34, .new 53, 3), (37, .dup, 1), (38, .ldc 137, 2), (40, .invokespecial 57, 3), (43, .athrow, 1), (44, .aload_n 0, 1), (45, .getfield 25, 3), (48, .new 139, 3), (51, .dup, 1), (52, .aload_n 3, 1), (53, .aload 4, 2), (55, .invokespecial 141, 3), (58, .invokevirtual 144, 3), (61, .ireturn, 1)]
def mC_10 : List (List (Nat × Instr × Nat)) := [mC_10_0]
/-- 11: TextVerbs.join(II)I -/
def mC_11_0 : List (Nat × Instr × Nat) := [(0, .aload_n 0, 1), (1, .getfield 25, 3), (4, .aload_n 0, 1), (5, .iload_n 1, 1), (6, .invokevirtual 108, 3), (9, .iload_n 2, 1), (10, .invokevirtual 147, 3), (13, .istore_n 3, 1), (14, .aload_n 0, 1), (15, .aload_n 0, 1), (16, .getfield 25, 3), (19, .getfield 151, 3), (22, .putfield 154, 3), (25, .iload_n 3, 1), (26, .ifCond .eq 10, 3), (29, .aload_n 0, 1), (30, .getfield 154, 3), (33, .goto 4, 3), (36, .iconst (-1), 1), (37, .ireturn, 1)]
def mC_11 : List (List (Nat × Instr × Nat)) := [mC_11_0]
/-- 12: TextVerbs.delimiter(IZ)I -/
def mC_12_0 : List (Nat × Instr × Nat) := [(0, .aload_n 0, 1), (1, .iload_n 1, 1), (2, .invokevirtual 71, 3), (5, .astore_n 3, 1), (6, .aload_n 0, 1), (7, .getfield 32, 3), (10, .getfield 157, 3), (13, .bipush 8, 2), (15, .if_icmp .lt 13, 3), (18, .new 53, 3), (21, .dup, 1), (22, .ldc 160, 2), (24, .invokespecial 57, 3), (27, .athrow, 1), (28, .aload_n 0, 1), (29, .getfield 32, 3), (32, .aload_n 3, 1), (33, .iload_n 2, 1), (34, .invokevirtual 162, 3), (37, .ireturn, 1)]
def mC_12 : List (List (Nat × Instr × Nat)) := [mC_12_0]
/-- 13: TextVerbs.receiver(I)I -/
def mC_13_0 : List (Nat × Instr × Nat) := [(0, .aload_n 0, 1), (1, .iload_n 1, 1), (2, .invokevirtual 108, 3), (5, .astore_n 2, 1), (6, .aload_n 0, 1), (7, .getfield 32, 3), (10, .getfield 166, 3), (13, .bipush 20, 2), (15, .if_icmp .lt 13, 3), (18, .new 53, 3), (21, .dup, 1), (22, .ldc 169, 2), (24, .invokespecial 57, 3), (27, .athrow, 1), (28, .aload_n 0, 1), (29, .getfield 32, 3), (32, .aload_n 2, 1), (33, .invokevirtual 171, 3), (36, .ireturn, 1)]
def mC_13 : List (List (Nat × Instr × Nat)) := [mC_13_0]
/-- 14: TextVerbs.split(II)I -/
def mC_14_0 : List (Nat × Instr × Nat) := [(0, .aload_n 0, 1), (1, .getfield 32, 3), (4, .aload_n 0, 1), (5, .iload_n 1, 1), (6, .invokevirtual 108, 3), (9, .iload_n 2, 1), (10, .invokevirtual 174, 3), (13, .istore_n 3, 1), (14, .aload_n 0, 1), (15, .aload_n 0, 1), (16, .getfield 32, 3), (19, .getfield 177, 3), (22, .putfield 154, 3), (25, .iload_n 3, 1), (26, .ifCond .eq 10, 3), (29, .aload_n 0, 1), (30, .getfield 154, 3), (33, .goto 4, 3), (36, .iconst (-1), 1), (37, .ireturn, 1)]
def mC_14 : List (List (Nat × Instr × Nat)) := [mC_14_0]
/-- 15: TextVerbs.result(II)I -/
def mC_15_0 : List (Nat × Instr × Nat) := [(0, .iload_n 1, 1), (1, .ifCond .lt 14, 3), (4, .iload_n 1, 1), (5, .aload_n 0, 1), (6, .getfield 32, 3), (9, .getfield 178, 3), (12, .if_icmp .lt 5, 3), (15, .iconst (-1), 1), (16, .ireturn, 1), (17, .iload_n 2, 1), (18, .lookupswitch 46 #[(0, 26), (1, 36)], 26), (44, .aload_n 0, 1), (45, .getfield 32, 3), (48, .getfield 181, 3), (51, .iload_n 1, 1), (52, .iaload, 1), (53, .ireturn, 1), (54, .aload_n 0, 1), (55, .getfield 32, 3), (58, .getfield 184, 3), (61, .iload_n 1, 1), (62, .iaload, 1), (63, .ireturn, 1)]
def mC_15_1 : List (Nat × Instr × Nat) := [(64, .iconst (-1), 1), (65, .ireturn, 1)]
def mC_15 : List (List (Nat × Instr × Nat)) := [mC_15_0, mC_15_1]
/-- 16: TextVerbs.pointer()I -/
def mC_16_0 : List (Nat × Instr × Nat) := [(0, .aload_n 0, 1), (1, .getfield 154, 3), (4, .ireturn, 1)]
def mC_16 : List (List (Nat × Instr × Nat)) := [mC_16_0]
/-- 17: TextVerbs.table(I)I -/
def mC_17_0 : List (Nat × Instr × Nat) := [(0, .iload_n 1, 1), (1, .iconst 1, 1), (2, .if_icmp .lt 9, 3), (5, .iload_n 1, 1), (6, .bipush 60, 2), (8, .if_icmp .le 13, 3), (11, .new 42, 3), (14, .dup, 1), (15, .ldc 187, 2), (17, .invokespecial 46, 3), (20, .athrow, 1), (21, .aload_n 0, 1), (22, .getfield 189, 3), (25, .bipush 10, 2), (27, .if_icmp .lt 13, 3), (30, .new 53, 3), (33, .dup, 1), (34, .ldc 192, 2), (36, .invokespecial 57, 3), (39, .athrow, 1), (40, .aload_n 0, 1), (41, .getfield 38, 3), (44, .aload_n 0, 1), (45, .getfield 189, 3), (48, .new 36, 3), (51, .dup, 1), (52, .iload_n 1, 1), (53, .invokespecial 194, 3), (56, .aastore, 1), (57, .aload_n 0, 1), (58, .dup, 1), (59, .getfield 189, 3), (62, .iconst 1, 1), (63, .iadd, 1)]
def mC_17_1 : List (Nat × Instr × Nat) := [(64, .putfield 189, 3), (67, .aload_n 0, 1), (68, .getfield 189, 3), (71, .iconst 1, 1), (72, .isub, 1), (73, .ireturn, 1)]
def mC_17 : List (List (Nat × Instr × Nat)) := [mC_17_0, mC_17_1]
/-- 18: TextVerbs.row(III)I -/
def mC_18_0 : List (Nat × Instr × Nat) := [(0, .aload_n 0, 1), (1, .iload_n 1, 1), (2, .iload_n 2, 1), (3, .invokevirtual 195, 3), (6, .astore 4, 2), (8, .aload 4, 2), (10, .getfield 199, 3), (13, .iload_n 2, 1), (14, .iconst 1, 1), (15, .isub, 1), (16, .iaload, 1), (17, .istore 5, 2), (19, .aload 4, 2), (21, .getfield 199, 3), (24, .iload_n 2, 1), (25, .iconst 1, 1), (26, .isub, 1), (27, .iload_n 3, 1), (28, .iastore, 1), (29, .iload 5, 2), (31, .ireturn, 1)]
def mC_18 : List (List (Nat × Instr × Nat)) := [mC_18_0]
/-- 19: TextVerbs.index(II)I -/
def mC_19_0 : List (Nat × Instr × Nat) := [(0, .aload_n 0, 1), (1, .iload_n 1, 1), (2, .iload_n 2, 1), (3, .invokevirtual 195, 3), (6, .astore_n 3, 1), (7, .aload_n 3, 1), (8, .getfield 202, 3), (11, .istore 4, 2), (13, .aload_n 3, 1), (14, .iload_n 2, 1), (15, .putfield 202, 3), (18, .iload 4, 2), (20, .ireturn, 1)]
def mC_19 : List (List (Nat × Instr × Nat)) := [mC_19_0]
/-- 20: TextVerbs.search(IZI)I -/
def mC_20_0 : List (Nat × Instr × Nat) := [(0, .aload_n 0, 1), (1, .iload_n 1, 1), (2, .invokevirtual 205, 3), (5, .astore 4, 2), (7, .iload_n 2, 1), (8, .ifCond .eq 12, 3), (11, .aload 4, 2), (13, .iload_n 3, 1), (14, .invokevirtual 209, 3), (17, .goto 9, 3), (20, .aload 4, 2), (22, .iload_n 3, 1), (23, .invokevirtual 212, 3), (26, .istore 5, 2), (28, .iload 5, 2), (30, .ifCond .eq 10, 3), (33, .aload 4, 2), (35, .iload 5, 2), (37, .putfield 202, 3), (40, .iload 5, 2), (42, .ireturn, 1)]
def mC_20 : List (List (Nat × Instr × Nat)) := [mC_20_0]
/-- 21: TextVerbs.sort(IZ)V -/
def mC_21_0 : List (Nat × Instr × Nat) := [(0, .aload_n 0, 1), (1, .iload_n 1, 1), (2, .invokevirtual 205, 3), (5, .iload_n 2, 1), (6, .invokevirtual 215, 3), (9, .return_, 1)]
def mC_21 : List (List (Nat × Instr × Nat)) := [mC_21_0]
/-- 22: TextVerbs.knownText(I)LTextVerbs$Text; -/
def mC_22_0 : List (Nat × Instr × Nat) := [(0, .iload_n 1, 1), (1, .ifCond .lt 11, 3), (4, .iload_n 1, 1), (5, .aload_n 0, 1), (6, .getfield 49, 3), (9, .if_icmp .lt 13, 3), (12, .new 42, 3), (15, .dup, 1), (16, .ldc 219, 2), (18, .invokespecial 46, 3), (21, .athrow, 1), (22, .aload_n 0, 1), (23, .getfield 11, 3), (26, .iload_n 1, 1), (27, .aaload, 1), (28, .areturn, 1)]
def mC_22 : List (List (Nat × Instr × Nat)) := [mC_22_0]
/-- 23: TextVerbs.filledText(I)LTextVerbs$Text; -/
def mC_23_0 : List (Nat × Instr × Nat) := [(0, .aload_n 0, 1), (1, .iload_n 1, 1), (2, .invokevirtual 108, 3), (5, .astore_n 2, 1), (6, .aload_n 2, 1), (7, .invokevirtual 111, 3), (10, .ifCond .ne 13, 3), (13, .new 42, 3), (16, .dup, 1), (17, .ldc 221, 2), (19, .invokespecial 46, 3), (22, .athrow, 1), (23, .aload_n 2, 1), (24, .areturn, 1)]
def mC_23 : List (List (Nat × Instr × Nat)) := [mC_23_0]
/-- 24: TextVerbs.textWithPlace(II)LTextVerbs$Text; -/
def mC_24_0 : List (Nat × Instr × Nat) := [(0, .aload_n 0, 1), (1, .iload_n 1, 1), (2, .invokevirtual 108, 3), (5, .astore_n 3, 1), (6, .iload_n 2, 1), (7, .ifCond .lt 11, 3), (10, .iload_n 2, 1), (11, .aload_n 3, 1), (12, .invokevirtual 111, 3), (15, .if_icmp .lt 13, 3), (18, .new 42, 3), (21, .dup, 1), (22, .ldc 223, 2), (24, .invokespecial 46, 3), (27, .athrow, 1), (28, .aload_n 3, 1), (29, .areturn, 1)]
def mC_24 : List (List (Nat × Instr × Nat)) := [mC_24_0]
/-- 25: TextVerbs.soughtText(II)LTextVerbs$Text; -/
def mC_25_0 : List (Nat × Instr × Nat) := [(0, .iload_n 1, 1), (1, .ifCond .ne 7, 3), (4, .aconst_null, 1), (5, .goto 8, 3), (8, .aload_n 0, 1), (9, .iload_n 2, 1), (10, .invokevirtual 71, 3), (13, .areturn, 1)]
def mC_25 : List (List (Nat × Instr × Nat)) := [mC_25_0]
/-- 26: TextVerbs.widthOf(LTextVerbs$Text;)I -/
def mC_26_0 : List (Nat × Instr × Nat) := [(0, .aload_n 0, 1), (1, .ifnonnull 7, 3), (4, .iconst 1, 1), (5, .goto 7, 3), (8, .aload_n 0, 1), (9, .invokevirtual 111, 3), (12, .ireturn, 1)]
def mC_26 : List (List (Nat × Instr × Nat)) := [mC_26_0]
/-- 27: TextVerbs.checkKind(II)V -/
def mC_27_0 : List (Nat × Instr × Nat) := [(0, .iload_n 0, 1), (1, .ifCond .lt 8, 3), (4, .iload_n 0, 1), (5, .iload_n 1, 1), (6, .if_icmp .le 13, 3), (9, .new 42, 3), (12, .dup, 1), (13, .ldc 225, 2), (15, .invokespecial 46, 3), (18, .athrow, 1), (19, .return_, 1)]
def mC_27 : List (List (Nat × Instr × Nat)) := [mC_27_0]
/-- 28: TextVerbs.checkCounter(I)V -/
def mC_28_0 : List (Nat × Instr × Nat) := [(0, .iload_n 0, 1), (1, .ifCond .lt 9, 3), (4, .iload_n 0, 1), (5, .bipush 10, 2), (7, .if_icmp .lt 13, 3), (10, .new 42, 3), (13, .dup, 1), (14, .ldc 227, 2), (16, .invokespecial 46, 3), (19, .athrow, 1), (20, .return_, 1)]
def mC_28 : List (List (Nat × Instr × Nat)) := [mC_28_0]
/-- 29: TextVerbs.checkRoomForPhrase()V -/
def mC_29_0 : List (Nat × Instr × Nat) := [(0, .aload_n 0, 1), (1, .getfield 18, 3), (4, .getfield 229, 3), (7, .bipush 20, 2), (9, .if_icmp .lt 13, 3), (12, .new 53, 3), (15, .dup, 1), (16, .ldc 232, 2), (18, .invokespecial 57, 3), (21, .athrow, 1), (22, .return_, 1)]
def mC_29 : List (List (Nat × Instr × Nat)) := [mC_29_0]
/-- 30: TextVerbs.takeRegion()LTextVerbs$Region; -/
def mC_30_0 : List (Nat × Instr × Nat) := [(0, .new 234, 3), (3, .dup, 1), (4, .aload_n 0, 1), (5, .getfield 75, 3), (8, .aload_n 0, 1), (9, .getfield 79, 3), (12, .invokespecial 236, 3), (15, .astore_n 1, 1), (16, .aload_n 0, 1), (17, .aconst_null, 1), (18, .putfield 75, 3), (21, .aload_n 0, 1), (22, .aconst_null, 1), (23, .putfield 79, 3), (26, .aload_n 1, 1), (27, .areturn, 1)]
def mC_30 : List (List (Nat × Instr × Nat)) := [mC_30_0]
/-- 31: TextVerbs.knownTable(I)LTextVerbs$Table; -/
def mC_31_0 : List (Nat × Instr × Nat) := [(0, .iload_n 1, 1), (1, .ifCond .lt 11, 3), (4, .iload_n 1, 1), (5, .aload_n 0, 1), (6, .getfield 189, 3), (9, .if_icmp .lt 13, 3), (12, .new 42, 3), (15, .dup, 1), (16, .ldc 237, 2), (18, .invokespecial 46, 3), (21, .athrow, 1), (22, .aload_n 0, 1), (23, .getfield 38, 3), (26, .iload_n 1, 1), (27, .aaload, 1), (28, .areturn, 1)]
def mC_31 : List (List (Nat × Instr × Nat)) := [mC_31_0]
/-- 32: TextVerbs.tableWithRow(II)LTextVerbs$Table; -/
def mC_32_0 : List (Nat × Instr × Nat) := [(0, .aload_n 0, 1), (1, .iload_n 1, 1), (2, .invokevirtual 205, 3), (5, .astore_n 3, 1), (6, .iload_n 2, 1), (7, .iconst 1, 1), (8, .if_icmp .lt 12, 3), (11, .iload_n 2, 1), (12, .aload_n 3, 1), (13, .getfield 199, 3), (16, .arraylength, 1), (17, .if_icmp .le 13, 3), (20, .new 42, 3), (23, .dup, 1), (24, .ldc 239, 2), (26, .invokespecial 46, 3), (29, .athrow, 1), (30, .aload_n 3, 1), (31, .areturn, 1)]
def mC_32 : List (List (Nat × Instr × Nat)) := [mC_32_0]
/-- 33: TextVerbs$Text.<init>(I)V -/
def mC_33_0 : List (Nat × Instr × Nat) := [(0, .aload_n 0, 1), (1, .invokespecial 3, 3), (4, .aload_n 0, 1), (5, .iload_n 1, 1), (6, .newarray .int, 2), (8, .putfield 9, 3), (11, .aload_n 0, 1), (12, .getfield 9, 3), (15, .bipush 32, 2), (17, .invokestatic 15, 3), (20, .return_, 1)]
def mC_33 : List (List (Nat × Instr × Nat)) := [mC_33_0]
/-- 34: TextVerbs$Text.size()I -/
def mC_34_0 : List (Nat × Instr × Nat) := [(0, .aload_n 0, 1), (1, .getfield 9, 3), (4, .arraylength, 1), (5, .ireturn, 1)]
def mC_34 : List (List (Nat × Instr × Nat)) := [mC_34_0]
/-- 35: TextVerbs$Text.holds(LTextVerbs$Text;I)Z -/
def mC_35_0 : List (Nat × Instr × Nat) := [(0, .aload_n 1, 1), (1, .invokevirtual 21, 3), (4, .istore_n 3, 1), (5, .iload_n 2, 1), (6, .ifCond .lt 14, 3), (9, .iload_n 3, 1), (10, .aload_n 0, 1), (11, .getfield 9, 3), (14, .arraylength, 1), (15, .iload_n 2, 1), (16, .isub, 1), (17, .if_icmp .le 5, 3), (20, .iconst 0, 1), (21, .ireturn, 1), (22, .iconst 0, 1), (23, .istore 4, 2), (25, .iload 4, 2), (27, .iload_n 3, 1), (28, .if_icmp .ge 30, 3), (31, .aload_n 0, 1), (32, .getfield 9, 3), (35, .iload_n 2, 1), (36, .iload 4, 2), (38, .iadd, 1), (39, .iaload, 1), (40, .aload_n 1, 1), (41, .getfield 9, 3), (44, .iload 4, 2), (46, .iaload, 1), (47, .if_icmp .eq 5, 3), (50, .iconst 0, 1), (51, .ireturn, 1), (52, .iinc 4 1, 3), (55, .goto (-30), 3), (58, .iconst 1, 1), (59, .ireturn, 1)]
def mC_35 : List (List (Nat × Instr × Nat)) := [mC_35_0]
/-- 36: TextVerbs$Text.firstPlaceOf(LTextVerbs$Text;)I -/
def mC_36_0 : List (Nat × Instr × Nat) := [(0, .iconst 0, 1), (1, .istore_n 2, 1), (2, .iload_n 2, 1), (3, .aload_n 0, 1), (4, .getfield 9, 3), (7, .arraylength, 1), (8, .if_icmp .ge 20, 3), (11, .aload_n 0, 1), (12, .aload_n 1, 1), (13, .iload_n 2, 1), (14, .invokevirtual 25, 3), (17, .ifCond .eq 5, 3), (20, .iload_n 2, 1), (21, .ireturn, 1), (22, .iinc 2 1, 3), (25, .goto (-23), 3), (28, .iconst (-1), 1), (29, .ireturn, 1)]
def mC_36 : List (List (Nat × Instr × Nat)) := [mC_36_0]
/-- 37: TextVerbs$Text.firstPlaceOfSign(I)I -/
def mC_37_0 : List (Nat × Instr × Nat) := [(0, .iconst 0, 1), (1, .istore_n 2, 1), (2, .iload_n 2, 1), (3, .aload_n 0, 1), (4, .getfield 9, 3), (7, .arraylength, 1), (8, .if_icmp .ge 21, 3), (11, .aload_n 0, 1), (12, .getfield 9, 3), (15, .iload_n 2, 1), (16, .iaload, 1), (17, .iload_n 1, 1), (18, .if_icmp .ne 5, 3), (21, .iload_n 2, 1), (22, .ireturn, 1), (23, .iinc 2 1, 3), (26, .goto (-24), 3), (29, .iconst (-1), 1), (30, .ireturn, 1)]
def mC_37 : List (List (Nat × Instr × Nat)) := [mC_37_0]
/-- 38: TextVerbs$Text.copyTo([I)V -/
def mC_38_0 : List (Nat × Instr × Nat) := [(0, .iconst 0, 1), (1, .istore_n 2, 1), (2, .iload_n 2, 1), (3, .aload_n 0, 1), (4, .getfield 9, 3), (7, .arraylength, 1), (8, .if_icmp .ge 24, 3), (11, .iload_n 2, 1), (12, .aload_n 1, 1), (13, .arraylength, 1), (14, .if_icmp .ge 18, 3), (17, .aload_n 1, 1), (18, .iload_n 2, 1), (19, .aload_n 0, 1), (20, .getfield 9, 3), (23, .iload_n 2, 1), (24, .iaload, 1), (25, .iastore, 1), (26, .iinc 2 1, 3), (29, .goto (-27), 3), (32, .return_, 1)]
def mC_38 : List (List (Nat × Instr × Nat)) := [mC_38_0]
/-- 39: TextVerbs$Text.fillFrom([III)V -/
def mC_39_0 : List (Nat × Instr × Nat) := [(0, .iconst 0, 1), (1, .istore 4, 2), (3, .iload 4, 2), (5, .aload_n 0, 1), (6, .getfield 9, 3), (9, .arraylength, 1), (10, .if_icmp .ge 33, 3), (13, .aload_n 0, 1), (14, .getfield 9, 3), (17, .iload 4, 2), (19, .iload 4, 2), (21, .iload_n 3, 1), (22, .if_icmp .ge 12, 3), (25, .aload_n 1, 1), (26, .iload_n 2, 1), (27, .iload 4, 2), (29, .iadd, 1), (30, .iaload, 1), (31, .goto 5, 3), (34, .bipush 32, 2), (36, .iastore, 1), (37, .iinc 4 1, 3), (40, .goto (-37), 3), (43, .return_, 1)]
def mC_39 : List (List (Nat × Instr × Nat)) := [mC_39_0]
/-- 40: TextVerbs$Region.<init>(LTextVerbs$Text;LTextVerbs$Text;)V -/
def mC_40_0 : List (Nat × Instr × Nat) := [(0, .aload_n 0, 1), (1, .invokespecial 3, 3), (4, .aload_n 0, 1), (5, .aload_n 1, 1), (6, .putfield 9, 3), (9, .aload_n 0, 1), (10, .aload_n 2, 1), (11, .putfield 15, 3), (14, .return_, 1)]
def mC_40 : List (List (Nat × Instr × Nat)) := [mC_40_0]
/-- 41: TextVerbs$Region.beginIn(LTextVerbs$Text;)I -/
def mC_41_0 : List (Nat × Instr × Nat) := [(0, .aload_n 0, 1), (1, .getfield 9, 3), (4, .ifnonnull 5, 3), (7, .iconst 0, 1), (8, .ireturn, 1), (9, .aload_n 1, 1), (10, .aload_n 0, 1), (11, .getfield 9, 3), (14, .invokevirtual 18, 3), (17, .istore_n 2, 1), (18, .iload_n 2, 1), (19, .iconst (-1), 1), (20, .if_icmp .ne 10, 3), (23, .aload_n 1, 1), (24, .invokevirtual 24, 3), (27, .goto 12, 3), (30, .iload_n 2, 1), (31, .aload_n 0, 1), (32, .getfield 9, 3), (35, .invokevirtual 24, 3), (38, .iadd, 1), (39, .ireturn, 1)]
def mC_41 : List (List (Nat × Instr × Nat)) := [mC_41_0]
/-- 42: TextVerbs$Region.endIn(LTextVerbs$Text;)I -/
def mC_42_0 : List (Nat × Instr × Nat) := [(0, .aload_n 0, 1), (1, .getfield 15, 3), (4, .ifnonnull 7, 3), (7, .iconst (-1), 1), (8, .goto 11, 3), (11, .aload_n 1, 1), (12, .aload_n 0, 1), (13, .getfield 15, 3), (16, .invokevirtual 18, 3), (19, .istore_n 2, 1), (20, .iload_n 2, 1), (21, .iconst (-1), 1), (22, .if_icmp .ne 10, 3), (25, .aload_n 1, 1), (26, .invokevirtual 24, 3), (29, .goto 4, 3), (32, .iload_n 2, 1), (33, .ireturn, 1)]
def mC_42 : List (List (Nat × Instr × Nat)) := [mC_42_0]
/-- 43: TextVerbs$Phrase.<init>(ILTextVerbs$Text;ILTextVerbs$Text;LTextVerbs$Region;)V -/
def mC_43_0 : List (Nat × Instr × Nat) := [(0, .aload_n 0, 1), (1, .invokespecial 3, 3), (4, .aload_n 0, 1), (5, .iload_n 1, 1), (6, .putfield 9, 3), (9, .aload_n 0, 1), (10, .aload_n 2, 1), (11, .putfield 15, 3), (14, .aload_n 0, 1), (15, .iload_n 3, 1), (16, .putfield 19, 3), (19, .aload_n 0, 1), (20, .aload 4, 2), (22, .putfield 22, 3), (25, .aload_n 0, 1), (26, .aload 5, 2), (28, .putfield 25, 3), (31, .aload_n 0, 1), (32, .aload_n 2, 1), (33, .invokestatic 29, 3), (36, .putfield 33, 3), (39, .return_, 1)]
def mC_43 : List (List (Nat × Instr × Nat)) := [mC_43_0]
/-- 44: TextVerbs$Phrase.isReplacing()Z -/
def mC_44_0 : List (Nat × Instr × Nat) := [(0, .aload_n 0, 1), (1, .getfield 22, 3), (4, .ifnull 7, 3), (7, .iconst 1, 1), (8, .goto 4, 3), (11, .iconst 0, 1), (12, .ireturn, 1)]
def mC_44 : List (List (Nat × Instr × Nat)) := [mC_44_0]
/-- 45: TextVerbs$Phrase.startIn(LTextVerbs$Text;)V -/
def mC_45_0 : List (Nat × Instr × Nat) := [(0, .aload_n 0, 1), (1, .aload_n 0, 1), (2, .getfield 25, 3), (5, .aload_n 1, 1), (6, .invokevirtual 36, 3), (9, .putfield 41, 3), (12, .aload_n 0, 1), (13, .aload_n 0, 1), (14, .getfield 25, 3), (17, .aload_n 1, 1), (18, .invokevirtual 44, 3), (21, .putfield 47, 3), (24, .aload_n 0, 1), (25, .aload_n 0, 1), (26, .getfield 41, 3), (29, .putfield 50, 3), (32, .return_, 1)]
def mC_45 : List (List (Nat × Instr × Nat)) := [mC_45_0]
/-- 46: TextVerbs$Phrase.matches(LTextVerbs$Text;I)Z -/
def mC_46_0 : List (Nat × Instr × Nat) := [(0, .iload_n 2, 1), (1, .aload_n 0, 1), (2, .getfield 41, 3), (5, .if_icmp .lt 16, 3), (8, .iload_n 2, 1), (9, .aload_n 0, 1), (10, .getfield 33, 3), (13, .iadd, 1), (14, .aload_n 0, 1), (15, .getfield 47, 3), (18, .if_icmp .le 5, 3), (21, .iconst 0, 1), (22, .ireturn, 1), (23, .aload_n 0, 1), (24, .getfield 9, 3), (27, .iconst 2, 1), (28, .if_icmp .ne 13, 3), (31, .iload_n 2, 1), (32, .aload_n 0, 1), (33, .getfield 50, 3), (36, .if_icmp .eq 5, 3), (39, .iconst 0, 1), (40, .ireturn, 1), (41, .aload_n 0, 1), (42, .getfield 9, 3), (45, .iconst 3, 1), (46, .if_icmp .ne 12, 3), (49, .aload_n 0, 1), (50, .getfield 53, 3), (53, .ifCond .eq 5, 3), (56, .iconst 0, 1), (57, .ireturn, 1), (58, .aload_n 0, 1), (59, .getfield 15, 3), (62, .ifnull 15, 3)]
def mC_46_1 : List (Nat × Instr × Nat) := [(65, .aload_n 1, 1), (66, .aload_n 0, 1), (67, .getfield 15, 3), (70, .iload_n 2, 1), (71, .invokevirtual 57, 3), (74, .ifCond .eq 7, 3), (77, .iconst 1, 1), (78, .goto 4, 3), (81, .iconst 0, 1), (82, .ireturn, 1)]
def mC_46 : List (List (Nat × Instr × Nat)) := [mC_46_0, mC_46_1]
/-- 47: TextVerbs$Phrase.noteMatch(I)V -/
def mC_47_0 : List (Nat × Instr × Nat) := [(0, .aload_n 0, 1), (1, .iload_n 1, 1), (2, .aload_n 0, 1), (3, .getfield 33, 3), (6, .iadd, 1), (7, .putfield 50, 3), (10, .aload_n 0, 1), (11, .iconst 1, 1), (12, .putfield 53, 3), (15, .return_, 1)]
def mC_47 : List (List (Nat × Instr × Nat)) := [mC_47_0]
/-- 48: TextVerbs$Inspection.<init>()V -/
def mC_48_0 : List (Nat × Instr × Nat) := [(0, .aload_n 0, 1), (1, .invokespecial 3, 3), (4, .aload_n 0, 1), (5, .bipush 20, 2), (7, .anewarray 9, 3), (10, .putfield 11, 3), (13, .aload_n 0, 1), (14, .bipush 10, 2), (16, .newarray .int, 2), (18, .putfield 17, 3), (21, .aload_n 0, 1), (22, .bipush 60, 2), (24, .newarray .int, 2), (26, .putfield 21, 3), (29, .return_, 1)]
def mC_48 : List (List (Nat × Instr × Nat)) := [mC_48_0]
/-- 49: TextVerbs$Inspection.collect(LTextVerbs$Phrase;)I -/
def mC_49_0 : List (Nat × Instr × Nat) := [(0, .aload_n 0, 1), (1, .getfield 11, 3), (4, .aload_n 0, 1), (5, .getfield 24, 3), (8, .aload_n 1, 1), (9, .aastore, 1), (10, .aload_n 0, 1), (11, .dup, 1), (12, .getfield 24, 3), (15, .iconst 1, 1), (16, .iadd, 1), (17, .putfield 24, 3), (20, .aload_n 0, 1), (21, .getfield 24, 3), (24, .ireturn, 1)]
def mC_49 : List (List (Nat × Instr × Nat)) := [mC_49_0]
/-- 50: TextVerbs$Inspection.takeCount(I)I -/
def mC_50_0 : List (Nat × Instr × Nat) := [(0, .aload_n 0, 1), (1, .getfield 17, 3), (4, .iload_n 1, 1), (5, .iaload, 1), (6, .istore_n 2, 1), (7, .aload_n 0, 1), (8, .getfield 17, 3), (11, .iload_n 1, 1), (12, .iconst 0, 1), (13, .iastore, 1), (14, .iload_n 2, 1), (15, .ireturn, 1)]
def mC_50 : List (List (Nat × Instr × Nat)) := [mC_50_0]
/-- 51: TextVerbs$Inspection.goThrough(LTextVerbs$Text;)I -/
def mC_51_0 : List (Nat × Instr × Nat) := [(0, .aload_n 1, 1), (1, .aload_n 0, 1), (2, .getfield 21, 3), (5, .invokevirtual 28, 3), (8, .aload_n 0, 1), (9, .aload_n 1, 1), (10, .iconst 0, 1), (11, .invokevirtual 34, 3), (14, .pop, 1), (15, .aload_n 0, 1), (16, .aload_n 1, 1), (17, .iconst 1, 1), (18, .invokevirtual 34, 3), (21, .istore_n 2, 1), (22, .aload_n 1, 1), (23, .aload_n 0, 1), (24, .getfield 21, 3), (27, .iconst 0, 1), (28, .aload_n 1, 1), (29, .invokevirtual 38, 3), (32, .invokevirtual 42, 3), (35, .aload_n 0, 1), (36, .iconst 0, 1), (37, .putfield 24, 3), (40, .iload_n 2, 1), (41, .ireturn, 1)]
def mC_51 : List (List (Nat × Instr × Nat)) := [mC_51_0]
/-- 52: TextVerbs$Inspection.goOver(LTextVerbs$Text;Z)I -/
def mC_52_0 : List (Nat × Instr × Nat) := [(0, .iconst 0, 1), (1, .istore_n 3, 1), (2, .iload_n 3, 1), (3, .aload_n 0, 1), (4, .getfield 24, 3), (7, .if_icmp .ge 19, 3), (10, .aload_n 0, 1), (11, .getfield 11, 3), (14, .iload_n 3, 1), (15, .aaload, 1), (16, .aload_n 1, 1), (17, .invokevirtual 46, 3), (20, .iinc 3 1, 3), (23, .goto (-21), 3), (26, .iconst 0, 1), (27, .istore_n 3, 1), (28, .iconst 0, 1), (29, .istore 4, 2), (31, .iconst 0, 1), (32, .istore 5, 2), (34, .iload 5, 2), (36, .aload_n 1, 1), (37, .invokevirtual 38, 3), (40, .if_icmp .ge 63, 3), (43, .iload 5, 2), (45, .iload 4, 2), (47, .if_icmp .ge 7, 3), (50, .aconst_null, 1), (51, .goto 11, 3), (54, .aload_n 0, 1), (55, .aload_n 1, 1), (56, .iload 5, 2), (58, .iload_n 2, 1), (59, .invokevirtual 50, 3), (62, .astore 6, 2)]
def mC_52_1 : List (Nat × Instr × Nat) := [(64, .aload 6, 2), (66, .ifnull 31, 3), (69, .aload 6, 2), (71, .iload 5, 2), (73, .invokevirtual 54, 3), (76, .aload_n 0, 1), (77, .aload 6, 2), (79, .iload 5, 2), (81, .invokevirtual 58, 3), (84, .iinc 3 1, 3), (87, .iload 5, 2), (89, .aload 6, 2), (91, .getfield 62, 3), (94, .iadd, 1), (95, .istore 4, 2), (97, .iinc 5 1, 3), (100, .goto (-66), 3), (103, .iload_n 3, 1), (104, .ireturn, 1)]
def mC_52 : List (List (Nat × Instr × Nat)) := [mC_52_0, mC_52_1]
/-- 53: TextVerbs$Inspection.firstMatch(LTextVerbs$Text;IZ)LTextVerbs$Phrase; -/
def mC_53_0 : List (Nat × Instr × Nat) := [(0, .iconst 0, 1), (1, .istore 4, 2), (3, .iload 4, 2), (5, .aload_n 0, 1), (6, .getfield 24, 3), (9, .if_icmp .ge 40, 3), (12, .aload_n 0, 1), (13, .getfield 11, 3), (16, .iload 4, 2), (18, .aaload, 1), (19, .astore 5, 2), (21, .aload 5, 2), (23, .invokevirtual 65, 3), (26, .iload_n 3, 1), (27, .if_icmp .ne 16, 3), (30, .aload 5, 2), (32, .aload_n 1, 1), (33, .iload_n 2, 1), (34, .invokevirtual 69, 3), (37, .ifCond .eq 6, 3), (40, .aload 5, 2), (42, .areturn, 1), (43, .iinc 4 1, 3), (46, .goto (-43), 3), (49, .aconst_null, 1), (50, .areturn, 1)]
def mC_53 : List (List (Nat × Instr × Nat)) := [mC_53_0]
/-- 54: TextVerbs$Inspection.act(LTextVerbs$Phrase;I)V -/
def mC_54_0 : List (Nat × Instr × Nat) := [(0, .aload_n 1, 1), (1, .getfield 73, 3), (4, .ifnonnull 17, 3), (7, .aload_n 0, 1), (8, .getfield 17, 3), (11, .aload_n 1, 1), (12, .getfield 77, 3), (15, .dup2, 1), (16, .iaload, 1), (17, .iconst 1, 1), (18, .iadd, 1), (19, .iastore, 1), (20, .return_, 1), (21, .iconst 0, 1), (22, .istore_n 3, 1), (23, .iload_n 3, 1), (24, .aload_n 1, 1), (25, .getfield 62, 3), (28, .if_icmp .ge 26, 3), (31, .aload_n 0, 1), (32, .getfield 21, 3), (35, .iload_n 2, 1), (36, .iload_n 3, 1), (37, .iadd, 1), (38, .aload_n 1, 1), (39, .getfield 73, 3), (42, .getfield 80, 3), (45, .iload_n 3, 1), (46, .iaload, 1), (47, .iastore, 1), (48, .iinc 3 1, 3), (51, .goto (-28), 3), (54, .return_, 1)]
def mC_54 : List (List (Nat × Instr × Nat)) := [mC_54_0]
/-- 55: TextVerbs$Inspection.exchange(LTextVerbs$Text;LTextVerbs$Region;LTextVerbs$Text;LTextVerbs$Text;)I -/
def mC_55_0 : List (Nat × Instr × Nat) := [(0, .aload_n 1, 1), (1, .aload_n 0, 1), (2, .getfield 21, 3), (5, .invokevirtual 28, 3), (8, .aload_n 2, 1), (9, .aload_n 1, 1), (10, .invokevirtual 83, 3), (13, .istore 5, 2), (15, .aload_n 2, 1), (16, .aload_n 1, 1), (17, .invokevirtual 89, 3), (20, .istore 6, 2), (22, .iconst 0, 1), (23, .istore 7, 2), (25, .iload 5, 2), (27, .istore 8, 2), (29, .iload 8, 2), (31, .iload 6, 2), (33, .if_icmp .ge 46, 3), (36, .aload_n 3, 1), (37, .aload_n 1, 1), (38, .getfield 80, 3), (41, .iload 8, 2), (43, .iaload, 1), (44, .invokevirtual 92, 3), (47, .istore 9, 2), (49, .iload 9, 2), (51, .iconst (-1), 1), (52, .if_icmp .eq 21, 3), (55, .aload_n 0, 1), (56, .getfield 21, 3), (59, .iload 8, 2), (61, .aload 4, 2), (63, .getfield 80, 3)]
def mC_55_1 : List (Nat × Instr × Nat) := [(66, .iload 9, 2), (68, .iaload, 1), (69, .iastore, 1), (70, .iinc 7 1, 3), (73, .iinc 8 1, 3), (76, .goto (-47), 3), (79, .aload_n 1, 1), (80, .aload_n 0, 1), (81, .getfield 21, 3), (84, .iconst 0, 1), (85, .aload_n 1, 1), (86, .invokevirtual 38, 3), (89, .invokevirtual 42, 3), (92, .iload 7, 2), (94, .ireturn, 1)]
def mC_55 : List (List (Nat × Instr × Nat)) := [mC_55_0, mC_55_1]
/-- 56: TextVerbs$Part.<init>(LTextVerbs$Text;LTextVerbs$Text;)V -/
def mC_56_0 : List (Nat × Instr × Nat) := [(0, .aload_n 0, 1), (1, .invokespecial 3, 3), (4, .aload_n 0, 1), (5, .aload_n 1, 1), (6, .putfield 9, 3), (9, .aload_n 0, 1), (10, .aload_n 2, 1), (11, .putfield 15, 3), (14, .return_, 1)]
def mC_56 : List (List (Nat × Instr × Nat)) := [mC_56_0]
/-- 57: TextVerbs$Part.length()I -/
def mC_57_0 : List (Nat × Instr × Nat) := [(0, .aload_n 0, 1), (1, .getfield 15, 3), (4, .ifnonnull 7, 3), (7, .iconst (-1), 1), (8, .goto 14, 3), (11, .aload_n 0, 1), (12, .getfield 9, 3), (15, .aload_n 0, 1), (16, .getfield 15, 3), (19, .invokevirtual 18, 3), (22, .istore_n 1, 1), (23, .iload_n 1, 1), (24, .iconst (-1), 1), (25, .if_icmp .ne 13, 3), (28, .aload_n 0, 1), (29, .getfield 9, 3), (32, .invokevirtual 24, 3), (35, .goto 4, 3), (38, .iload_n 1, 1), (39, .ireturn, 1)]
def mC_57 : List (List (Nat × Instr × Nat)) := [mC_57_0]
/-- 58: TextVerbs$Joining.<init>()V -/
def mC_58_0 : List (Nat × Instr × Nat) := [(0, .aload_n 0, 1), (1, .invokespecial 3, 3), (4, .aload_n 0, 1), (5, .bipush 20, 2), (7, .anewarray 9, 3), (10, .putfield 11, 3), (13, .return_, 1)]
def mC_58 : List (List (Nat × Instr × Nat)) := [mC_58_0]
/-- 59: TextVerbs$Joining.collect(LTextVerbs$Part;)I -/
def mC_59_0 : List (Nat × Instr × Nat) := [(0, .aload_n 0, 1), (1, .getfield 11, 3), (4, .aload_n 0, 1), (5, .getfield 17, 3), (8, .aload_n 1, 1), (9, .aastore, 1), (10, .aload_n 0, 1), (11, .dup, 1), (12, .getfield 17, 3), (15, .iconst 1, 1), (16, .iadd, 1), (17, .putfield 17, 3), (20, .aload_n 0, 1), (21, .getfield 17, 3), (24, .ireturn, 1)]
def mC_59 : List (List (Nat × Instr × Nat)) := [mC_59_0]
/-- 60: TextVerbs$Joining.putInto(LTextVerbs$Text;I)Z -/
def mC_60_0 : List (Nat × Instr × Nat) := [(0, .aload_n 0, 1), (1, .getfield 17, 3), (4, .istore_n 3, 1), (5, .aload_n 0, 1), (6, .iconst 0, 1), (7, .putfield 17, 3), (10, .aload_n 0, 1), (11, .iload_n 2, 1), (12, .putfield 21, 3), (15, .iload_n 2, 1), (16, .iconst 1, 1), (17, .if_icmp .lt 11, 3), (20, .iload_n 2, 1), (21, .aload_n 1, 1), (22, .invokevirtual 24, 3), (25, .if_icmp .le 5, 3), (28, .iconst 0, 1), (29, .ireturn, 1), (30, .iconst 0, 1), (31, .istore 4, 2), (33, .iload 4, 2), (35, .iload_n 3, 1), (36, .if_icmp .ge 26, 3), (39, .aload_n 0, 1), (40, .aload_n 0, 1), (41, .getfield 11, 3), (44, .iload 4, 2), (46, .aaload, 1), (47, .aload_n 1, 1), (48, .invokevirtual 30, 3), (51, .ifCond .ne 5, 3), (54, .iconst 0, 1), (55, .ireturn, 1), (56, .iinc 4 1, 3), (59, .goto (-26), 3), (62, .iconst 1, 1), (63, .ireturn, 1)]
def mC_60 : List (List (Nat × Instr × Nat)) := [mC_60_0]
/-- 61: TextVerbs$Joining.putPart(LTextVerbs$Part;LTextVerbs$Text;)Z -/
def mC_61_0 : List (Nat × Instr × Nat) := [(0, .aload_n 1, 1), (1, .invokevirtual 34, 3), (4, .istore_n 3, 1), (5, .iconst 0, 1), (6, .istore 4, 2), (8, .iload 4, 2), (10, .iload_n 3, 1), (11, .if_icmp .ge 53, 3), (14, .aload_n 0, 1), (15, .getfield 21, 3), (18, .aload_n 2, 1), (19, .invokevirtual 24, 3), (22, .if_icmp .le 5, 3), (25, .iconst 0, 1), (26, .ireturn, 1), (27, .aload_n 2, 1), (28, .getfield 37, 3), (31, .aload_n 0, 1), (32, .getfield 21, 3), (35, .iconst 1, 1), (36, .isub, 1), (37, .aload_n 1, 1), (38, .getfield 41, 3), (41, .getfield 37, 3), (44, .iload 4, 2), (46, .iaload, 1), (47, .iastore, 1), (48, .aload_n 0, 1), (49, .dup, 1), (50, .getfield 21, 3), (53, .iconst 1, 1), (54, .iadd, 1), (55, .putfield 21, 3), (58, .iinc 4 1, 3), (61, .goto (-53), 3)]
def mC_61_1 : List (Nat × Instr × Nat) := [(64, .iconst 1, 1), (65, .ireturn, 1)]
def mC_61 : List (List (Nat × Instr × Nat)) := [mC_61_0, mC_61_1]
/-- 62: TextVerbs$Splitting.<init>()V -/
def mC_62_0 : List (Nat × Instr × Nat) := [(0, .aload_n 0, 1), (1, .invokespecial 3, 3), (4, .aload_n 0, 1), (5, .bipush 8, 2), (7, .anewarray 9, 3), (10, .putfield 11, 3), (13, .aload_n 0, 1), (14, .bipush 8, 2), (16, .newarray .boolean, 2), (18, .putfield 17, 3), (21, .aload_n 0, 1), (22, .bipush 20, 2), (24, .anewarray 9, 3), (27, .putfield 21, 3), (30, .aload_n 0, 1), (31, .bipush 20, 2), (33, .newarray .int, 2), (35, .putfield 24, 3), (38, .aload_n 0, 1), (39, .bipush 20, 2), (41, .newarray .int, 2), (43, .putfield 28, 3), (46, .aload_n 0, 1), (47, .bipush 20, 2), (49, .newarray .int, 2), (51, .putfield 31, 3), (54, .aload_n 0, 1), (55, .bipush 60, 2), (57, .newarray .int, 2), (59, .putfield 34, 3), (62, .return_, 1)]
def mC_62 : List (List (Nat × Instr × Nat)) := [mC_62_0]
/-- 63: TextVerbs$Splitting.collectDelimiter(LTextVerbs$Text;Z)I -/
def mC_63_0 : List (Nat × Instr × Nat) := [(0, .aload_n 0, 1), (1, .getfield 11, 3), (4, .aload_n 0, 1), (5, .getfield 37, 3), (8, .aload_n 1, 1), (9, .aastore, 1), (10, .aload_n 0, 1), (11, .getfield 17, 3), (14, .aload_n 0, 1), (15, .getfield 37, 3), (18, .iload_n 2, 1), (19, .bastore, 1), (20, .aload_n 0, 1), (21, .dup, 1), (22, .getfield 37, 3), (25, .iconst 1, 1), (26, .iadd, 1), (27, .putfield 37, 3), (30, .aload_n 0, 1), (31, .getfield 37, 3), (34, .ireturn, 1)]
def mC_63 : List (List (Nat × Instr × Nat)) := [mC_63_0]
/-- 64: TextVerbs$Splitting.collectReceiver(LTextVerbs$Text;)I -/
def mC_64_0 : List (Nat × Instr × Nat) := [(0, .aload_n 0, 1), (1, .getfield 21, 3), (4, .aload_n 0, 1), (5, .getfield 41, 3), (8, .aload_n 1, 1), (9, .aastore, 1), (10, .aload_n 0, 1), (11, .dup, 1), (12, .getfield 41, 3), (15, .iconst 1, 1), (16, .iadd, 1), (17, .putfield 41, 3), (20, .aload_n 0, 1), (21, .getfield 41, 3), (24, .ireturn, 1)]
def mC_64 : List (List (Nat × Instr × Nat)) := [mC_64_0]
/-- 65: TextVerbs$Splitting.takeApart(LTextVerbs$Text;I)Z -/
def mC_65_0 : List (Nat × Instr × Nat) := [(0, .aload_n 0, 1), (1, .iconst 0, 1), (2, .putfield 44, 3), (5, .aload_n 0, 1), (6, .iload_n 2, 1), (7, .putfield 47, 3), (10, .iconst 0, 1), (11, .istore_n 3, 1), (12, .iload_n 2, 1), (13, .iconst 1, 1), (14, .if_icmp .lt 38, 3), (17, .iload_n 2, 1), (18, .aload_n 1, 1), (19, .invokevirtual 50, 3), (22, .if_icmp .gt 30, 3), (25, .aload_n 0, 1), (26, .aload_n 1, 1), (27, .invokevirtual 54, 3), (30, .aload_n 0, 1), (31, .aload_n 1, 1), (32, .invokevirtual 58, 3), (35, .aload_n 0, 1), (36, .getfield 47, 3), (39, .aload_n 1, 1), (40, .invokevirtual 50, 3), (43, .if_icmp .le 7, 3), (46, .iconst 1, 1), (47, .goto 4, 3), (50, .iconst 0, 1), (51, .istore_n 3, 1), (52, .aload_n 0, 1), (53, .iconst 0, 1), (54, .putfield 37, 3), (57, .aload_n 0, 1), (58, .iconst 0, 1), (59, .putfield 41, 3), (62, .iload_n 3, 1), (63, .ireturn, 1)]
def mC_65 : List (List (Nat × Instr × Nat)) := [mC_65_0]
/-- 66: TextVerbs$Splitting.cutPieces(LTextVerbs$Text;)V -/
def mC_66_0 : List (Nat × Instr × Nat) := [(0, .aload_n 0, 1), (1, .getfield 47, 3), (4, .iconst 1, 1), (5, .isub, 1), (6, .istore_n 2, 1), (7, .iconst 0, 1), (8, .istore_n 3, 1), (9, .iload_n 3, 1), (10, .aload_n 0, 1), (11, .getfield 41, 3), (14, .if_icmp .ge 49, 3), (17, .iload_n 2, 1), (18, .aload_n 1, 1), (19, .invokevirtual 50, 3), (22, .if_icmp .ge 41, 3), (25, .aload_n 0, 1), (26, .getfield 37, 3), (29, .ifCond .ne 13, 3), (32, .aload_n 0, 1), (33, .aload_n 1, 1), (34, .iload_n 2, 1), (35, .iload_n 3, 1), (36, .invokevirtual 61, 3), (39, .goto 10, 3), (42, .aload_n 0, 1), (43, .aload_n 1, 1), (44, .iload_n 2, 1), (45, .iload_n 3, 1), (46, .invokevirtual 65, 3), (49, .istore_n 2, 1), (50, .aload_n 0, 1), (51, .iload_n 3, 1), (52, .iconst 1, 1), (53, .iadd, 1), (54, .putfield 44, 3), (57, .iinc 3 1, 3), (60, .goto (-51), 3), (63, .aload_n 0, 1)]
def mC_66_1 : List (Nat × Instr × Nat) := [(64, .iload_n 2, 1), (65, .iconst 1, 1), (66, .iadd, 1), (67, .putfield 47, 3), (70, .return_, 1)]
def mC_66 : List (List (Nat × Instr × Nat)) := [mC_66_0, mC_66_1]
/-- 67: TextVerbs$Splitting.cutBySize(LTextVerbs$Text;II)I -/
def mC_67_0 : List (Nat × Instr × Nat) := [(0, .aload_n 0, 1), (1, .getfield 21, 3), (4, .iload_n 3, 1), (5, .aaload, 1), (6, .invokevirtual 50, 3), (9, .aload_n 1, 1), (10, .invokevirtual 50, 3), (13, .iload_n 2, 1), (14, .isub, 1), (15, .invokestatic 68, 3), (18, .istore 4, 2), (20, .aload_n 0, 1), (21, .iload_n 3, 1), (22, .iload_n 2, 1), (23, .iload 4, 2), (25, .iconst (-1), 1), (26, .invokevirtual 74, 3), (29, .iload_n 2, 1), (30, .iload 4, 2), (32, .iadd, 1), (33, .ireturn, 1)]
def mC_67 : List (List (Nat × Instr × Nat)) := [mC_67_0]
/-- 68: TextVerbs$Splitting.cutByDelimiter(LTextVerbs$Text;II)I -/
def mC_68_0 : List (Nat × Instr × Nat) := [(0, .iload_n 2, 1), (1, .istore 4, 2), (3, .iload 4, 2), (5, .aload_n 1, 1), (6, .invokevirtual 50, 3), (9, .if_icmp .ge 46, 3), (12, .aload_n 0, 1), (13, .aload_n 1, 1), (14, .iload 4, 2), (16, .invokevirtual 78, 3), (19, .istore 5, 2), (21, .iload 5, 2), (23, .iconst (-1), 1), (24, .if_icmp .eq 25, 3), (27, .aload_n 0, 1), (28, .iload_n 3, 1), (29, .iload_n 2, 1), (30, .iload 4, 2), (32, .iload_n 2, 1), (33, .isub, 1), (34, .iload 5, 2), (36, .invokevirtual 74, 3), (39, .aload_n 0, 1), (40, .aload_n 1, 1), (41, .iload 4, 2), (43, .iload 5, 2), (45, .invokevirtual 82, 3), (48, .ireturn, 1), (49, .iinc 4 1, 3), (52, .goto (-49), 3), (55, .aload_n 0, 1), (56, .iload_n 3, 1), (57, .iload_n 2, 1), (58, .aload_n 1, 1), (59, .invokevirtual 50, 3), (62, .iload_n 2, 1), (63, .isub, 1)]
def mC_68_1 : List (Nat × Instr × Nat) := [(64, .iconst (-1), 1), (65, .invokevirtual 74, 3), (68, .aload_n 1, 1), (69, .invokevirtual 50, 3), (72, .ireturn, 1)]
def mC_68 : List (List (Nat × Instr × Nat)) := [mC_68_0, mC_68_1]
/-- 69: TextVerbs$Splitting.keepPiece(IIII)V -/
def mC_69_0 : List (Nat × Instr × Nat) := [(0, .aload_n 0, 1), (1, .getfield 24, 3), (4, .iload_n 1, 1), (5, .iload_n 2, 1), (6, .iastore, 1), (7, .aload_n 0, 1), (8, .getfield 28, 3), (11, .iload_n 1, 1), (12, .iload_n 3, 1), (13, .iastore, 1), (14, .aload_n 0, 1), (15, .getfield 31, 3), (18, .iload_n 1, 1), (19, .iload 4, 2), (21, .iastore, 1), (22, .return_, 1)]
def mC_69 : List (List (Nat × Instr × Nat)) := [mC_69_0]
/-- 70: TextVerbs$Splitting.delimiterAt(LTextVerbs$Text;I)I -/
def mC_70_0 : List (Nat × Instr × Nat) := [(0, .iconst 0, 1), (1, .istore_n 3, 1), (2, .iload_n 3, 1), (3, .aload_n 0, 1), (4, .getfield 37, 3), (7, .if_icmp .ge 25, 3), (10, .aload_n 1, 1), (11, .aload_n 0, 1), (12, .getfield 11, 3), (15, .iload_n 3, 1), (16, .aaload, 1), (17, .iload_n 2, 1), (18, .invokevirtual 85, 3), (21, .ifCond .eq 5, 3), (24, .iload_n 3, 1), (25, .ireturn, 1), (26, .iinc 3 1, 3), (29, .goto (-27), 3), (32, .iconst (-1), 1), (33, .ireturn, 1)]
def mC_70 : List (List (Nat × Instr × Nat)) := [mC_70_0]
/-- 71: TextVerbs$Splitting.placeBehind(LTextVerbs$Text;II)I -/
def mC_71_0 : List (Nat × Instr × Nat) := [(0, .aload_n 0, 1), (1, .getfield 11, 3), (4, .iload_n 3, 1), (5, .aaload, 1), (6, .astore 4, 2), (8, .iload_n 2, 1), (9, .aload 4, 2), (11, .invokevirtual 50, 3), (14, .iadd, 1), (15, .istore 5, 2), (17, .aload_n 0, 1), (18, .getfield 17, 3), (21, .iload_n 3, 1), (22, .baload, 1), (23, .ifCond .eq 42, 3), (26, .iconst 0, 1), (27, .istore 6, 2), (29, .iload 6, 2), (31, .aload_n 1, 1), (32, .invokevirtual 50, 3), (35, .if_icmp .ge 30, 3), (38, .aload_n 1, 1), (39, .aload 4, 2), (41, .iload 5, 2), (43, .invokevirtual 85, 3), (46, .ifCond .eq 19, 3), (49, .iload 5, 2), (51, .aload 4, 2), (53, .invokevirtual 50, 3), (56, .iadd, 1), (57, .istore 5, 2), (59, .iinc 6 1, 3), (62, .goto (-33), 3)]
def mC_71_1 : List (Nat × Instr × Nat) := [(65, .iload 5, 2), (67, .ireturn, 1)]
def mC_71 : List (List (Nat × Instr × Nat)) := [mC_71_0, mC_71_1]
/-- 72: TextVerbs$Splitting.handOut(LTextVerbs$Text;)V -/
def mC_72_0 : List (Nat × Instr × Nat) := [(0, .aload_n 1, 1), (1, .aload_n 0, 1), (2, .getfield 34, 3), (5, .invokevirtual 89, 3), (8, .iconst 0, 1), (9, .istore_n 2, 1), (10, .iload_n 2, 1), (11, .aload_n 0, 1), (12, .getfield 44, 3), (15, .if_icmp .ge 34, 3), (18, .aload_n 0, 1), (19, .getfield 21, 3), (22, .iload_n 2, 1), (23, .aaload, 1), (24, .aload_n 0, 1), (25, .getfield 34, 3), (28, .aload_n 0, 1), (29, .getfield 24, 3), (32, .iload_n 2, 1), (33, .iaload, 1), (34, .aload_n 0, 1), (35, .getfield 28, 3), (38, .iload_n 2, 1), (39, .iaload, 1), (40, .invokevirtual 93, 3), (43, .iinc 2 1, 3), (46, .goto (-36), 3), (49, .return_, 1)]
def mC_72 : List (List (Nat × Instr × Nat)) := [mC_72_0]
/-- 73: TextVerbs$Table.<init>(I)V -/
def mC_73_0 : List (Nat × Instr × Nat) := [(0, .aload_n 0, 1), (1, .invokespecial 1, 3), (4, .aload_n 0, 1), (5, .iconst 1, 1), (6, .putfield 7, 3), (9, .aload_n 0, 1), (10, .iload_n 1, 1), (11, .newarray .int, 2), (13, .putfield 13, 3), (16, .return_, 1)]
def mC_73 : List (List (Nat × Instr × Nat)) := [mC_73_0]
/-- 74: TextVerbs$Table.findInOrder(I)I -/
def mC_74_0 : List (Nat × Instr × Nat) := [(0, .aload_n 0, 1), (1, .getfield 7, 3), (4, .iconst 1, 1), (5, .isub, 1), (6, .istore_n 2, 1), (7, .iload_n 2, 1), (8, .aload_n 0, 1), (9, .getfield 13, 3), (12, .arraylength, 1), (13, .if_icmp .ge 23, 3), (16, .aload_n 0, 1), (17, .getfield 13, 3), (20, .iload_n 2, 1), (21, .iaload, 1), (22, .iload_n 1, 1), (23, .if_icmp .ne 7, 3), (26, .iload_n 2, 1), (27, .iconst 1, 1), (28, .iadd, 1), (29, .ireturn, 1), (30, .iinc 2 1, 3), (33, .goto (-26), 3), (36, .iconst 0, 1), (37, .ireturn, 1)]
def mC_74 : List (List (Nat × Instr × Nat)) := [mC_74_0]
/-- 75: TextVerbs$Table.findByHalves(I)I -/
def mC_75_0 : List (Nat × Instr × Nat) := [(0, .iconst 0, 1), (1, .istore_n 2, 1), (2, .aload_n 0, 1), (3, .getfield 13, 3), (6, .arraylength, 1), (7, .iconst 1, 1), (8, .isub, 1), (9, .istore_n 3, 1), (10, .iconst 0, 1), (11, .istore 4, 2), (13, .iload 4, 2), (15, .aload_n 0, 1), (16, .getfield 13, 3), (19, .arraylength, 1), (20, .if_icmp .ge 61, 3), (23, .iload_n 2, 1), (24, .iload_n 3, 1), (25, .if_icmp .gt 56, 3), (28, .iload_n 2, 1), (29, .iload_n 3, 1), (30, .iadd, 1), (31, .iconst 2, 1), (32, .idiv, 1), (33, .istore 5, 2), (35, .iload_n 1, 1), (36, .aload_n 0, 1), (37, .getfield 13, 3), (40, .iload 5, 2), (42, .iaload, 1), (43, .if_icmp .ne 8, 3), (46, .iload 5, 2), (48, .iconst 1, 1), (49, .iadd, 1), (50, .ireturn, 1), (51, .iload_n 1, 1), (52, .aload_n 0, 1), (53, .getfield 13, 3), (56, .iload 5, 2), (58, .iaload, 1), (59, .if_icmp .ge 11, 3), (62, .iload 5, 2)]
def mC_75_1 : List (Nat × Instr × Nat) := [(64, .iconst 1, 1), (65, .isub, 1), (66, .istore_n 3, 1), (67, .goto 8, 3), (70, .iload 5, 2), (72, .iconst 1, 1), (73, .iadd, 1), (74, .istore_n 2, 1), (75, .iinc 4 1, 3), (78, .goto (-65), 3), (81, .iconst 0, 1), (82, .ireturn, 1)]
def mC_75 : List (List (Nat × Instr × Nat)) := [mC_75_0, mC_75_1]
/-- 76: TextVerbs$Table.putInOrder(Z)V -/
def mC_76_0 : List (Nat × Instr × Nat) := [(0, .iconst 1, 1), (1, .istore_n 2, 1), (2, .iload_n 2, 1), (3, .aload_n 0, 1), (4, .getfield 13, 3), (7, .arraylength, 1), (8, .if_icmp .ge 71, 3), (11, .aload_n 0, 1), (12, .getfield 13, 3), (15, .iload_n 2, 1), (16, .iaload, 1), (17, .istore_n 3, 1), (18, .iload_n 2, 1), (19, .istore 4, 2), (21, .iload 4, 2), (23, .ifCond .le 42, 3), (26, .iload_n 3, 1), (27, .aload_n 0, 1), (28, .getfield 13, 3), (31, .iload 4, 2), (33, .iconst 1, 1), (34, .isub, 1), (35, .iaload, 1), (36, .iload_n 1, 1), (37, .invokestatic 17, 3), (40, .ifCond .eq 25, 3), (43, .aload_n 0, 1), (44, .getfield 13, 3), (47, .iload 4, 2), (49, .aload_n 0, 1), (50, .getfield 13, 3), (53, .iload 4, 2), (55, .iconst 1, 1), (56, .isub, 1), (57, .iaload, 1), (58, .iastore, 1), (59, .iinc 4 (-1), 3), (62, .goto (-41), 3)]
def mC_76_1 : List (Nat × Instr × Nat) := [(65, .aload_n 0, 1), (66, .getfield 13, 3), (69, .iload 4, 2), (71, .iload_n 3, 1), (72, .iastore, 1), (73, .iinc 2 1, 3), (76, .goto (-74), 3), (79, .return_, 1)]
def mC_76 : List (List (Nat × Instr × Nat)) := [mC_76_0, mC_76_1]
/-- 77: TextVerbs$Table.isAhead(IIZ)Z -/
def mC_77_0 : List (Nat × Instr × Nat) := [(0, .iload_n 2, 1), (1, .ifCond .eq 16, 3), (4, .iload_n 0, 1), (5, .iload_n 1, 1), (6, .if_icmp .le 7, 3), (9, .iconst 1, 1), (10, .goto 17, 3), (13, .iconst 0, 1), (14, .goto 13, 3), (17, .iload_n 0, 1), (18, .iload_n 1, 1), (19, .if_icmp .ge 7, 3), (22, .iconst 1, 1), (23, .goto 4, 3), (26, .iconst 0, 1), (27, .ireturn, 1)]
def mC_77 : List (List (Nat × Instr × Nat)) := [mC_77_0]
/-- 78: TextVerbsModel.<init>()V -/
def mC_78_0 : List (Nat × Instr × Nat) := [(0, .aload_n 0, 1), (1, .invokespecial 1, 3), (4, .aload_n 0, 1), (5, .sipush 2400, 3), (8, .newarray .int, 2), (10, .putfield 7, 3), (13, .aload_n 0, 1), (14, .sipush 2400, 3), (17, .newarray .int, 2), (19, .putfield 13, 3), (22, .aload_n 0, 1), (23, .bipush 40, 2), (25, .newarray .int, 2), (27, .putfield 16, 3), (30, .aload_n 0, 1), (31, .iconst (-1), 1), (32, .putfield 19, 3), (35, .aload_n 0, 1), (36, .iconst (-1), 1), (37, .putfield 23, 3), (40, .aload_n 0, 1), (41, .bipush 20, 2), (43, .newarray .int, 2), (45, .putfield 26, 3), (48, .aload_n 0, 1), (49, .bipush 20, 2), (51, .newarray .int, 2), (53, .putfield 29, 3), (56, .aload_n 0, 1), (57, .bipush 20, 2), (59, .newarray .int, 2), (61, .putfield 32, 3)]
def mC_78_1 : List (Nat × Instr × Nat) := [(64, .aload_n 0, 1), (65, .bipush 20, 2), (67, .newarray .int, 2), (69, .putfield 35, 3), (72, .aload_n 0, 1), (73, .bipush 20, 2), (75, .newarray .int, 2), (77, .putfield 38, 3), (80, .aload_n 0, 1), (81, .bipush 20, 2), (83, .newarray .int, 2), (85, .putfield 41, 3), (88, .aload_n 0, 1), (89, .bipush 20, 2), (91, .newarray .int, 2), (93, .putfield 44, 3), (96, .aload_n 0, 1), (97, .bipush 20, 2), (99, .newarray .int, 2), (101, .putfield 47, 3), (104, .aload_n 0, 1), (105, .bipush 20, 2), (107, .newarray .boolean, 2), (109, .putfield 50, 3), (112, .aload_n 0, 1), (113, .bipush 10, 2), (115, .newarray .int, 2), (117, .putfield 54, 3), (120, .aload_n 0, 1), (121, .bipush 20, 2), (123, .newarray .int, 2), (125, .putfield 57, 3)]
def mC_78_2 : List (Nat × Instr × Nat) := [(128, .aload_n 0, 1), (129, .bipush 20, 2), (131, .newarray .int, 2), (133, .putfield 60, 3), (136, .aload_n 0, 1), (137, .bipush 8, 2), (139, .newarray .int, 2), (141, .putfield 63, 3), (144, .aload_n 0, 1), (145, .bipush 20, 2), (147, .newarray .int, 2), (149, .putfield 66, 3), (152, .aload_n 0, 1), (153, .bipush 20, 2), (155, .newarray .int, 2), (157, .putfield 69, 3), (160, .aload_n 0, 1), (161, .bipush 20, 2), (163, .newarray .int, 2), (165, .putfield 72, 3), (168, .aload_n 0, 1), (169, .bipush 8, 2), (171, .newarray .boolean, 2), (173, .putfield 75, 3), (176, .aload_n 0, 1), (177, .sipush 600, 3), (180, .newarray .int, 2), (182, .putfield 78, 3), (185, .aload_n 0, 1), (186, .bipush 10, 2), (188, .newarray .int, 2), (190, .putfield 81, 3)]
def mC_78_3 : List (Nat × Instr × Nat) := [(193, .aload_n 0, 1), (194, .bipush 10, 2), (196, .newarray .int, 2), (198, .putfield 84, 3), (201, .iconst 0, 1), (202, .istore_n 1, 1), (203, .iload_n 1, 1), (204, .bipush 20, 2), (206, .if_icmp .ge 23, 3), (209, .aload_n 0, 1), (210, .getfield 69, 3), (213, .iload_n 1, 1), (214, .iconst (-1), 1), (215, .iastore, 1), (216, .aload_n 0, 1), (217, .getfield 72, 3), (220, .iload_n 1, 1), (221, .iconst (-1), 1), (222, .iastore, 1), (223, .iinc 1 1, 3), (226, .goto (-23), 3), (229, .return_, 1)]
def mC_78 : List (List (Nat × Instr × Nat)) := [mC_78_0, mC_78_1, mC_78_2, mC_78_3]
/-- 79: TextVerbsModel.thrown()I -/
def mC_79_0 : List (Nat × Instr × Nat) := [(0, .aload_n 0, 1), (1, .getfield 87, 3), (4, .ireturn, 1)]
def mC_79 : List (List (Nat × Instr × Nat)) := [mC_79_0]
/-- 80: TextVerbsModel.fails(ZZ)Z -/
def mC_80_0 : List (Nat × Instr × Nat) := [(0, .aload_n 0, 1), (1, .iload_n 1, 1), (2, .ifCond .eq 7, 3), (5, .iconst 1, 1), (6, .goto 12, 3), (9, .iload_n 2, 1), (10, .ifCond .eq 7, 3), (13, .iconst 2, 1), (14, .goto 4, 3), (17, .iconst 0, 1), (18, .putfield 87, 3), (21, .aload_n 0, 1), (22, .getfield 87, 3), (25, .ifCond .le 7, 3), (28, .iconst 1, 1), (29, .goto 4, 3), (32, .iconst 0, 1), (33, .ireturn, 1)]
def mC_80 : List (List (Nat × Instr × Nat)) := [mC_80_0]
/-- 81: TextVerbsModel.isText(I)Z -/
def mC_81_0 : List (Nat × Instr × Nat) := [(0, .iload_n 1, 1), (1, .ifCond .lt 15, 3), (4, .iload_n 1, 1), (5, .aload_n 0, 1), (6, .getfield 90, 3), (9, .if_icmp .ge 7, 3), (12, .iconst 1, 1), (13, .goto 4, 3), (16, .iconst 0, 1), (17, .ireturn, 1)]
def mC_81 : List (List (Nat × Instr × Nat)) := [mC_81_0]
/-- 82: TextVerbsModel.isFull(I)Z -/
def mC_82_0 : List (Nat × Instr × Nat) := [(0, .aload_n 0, 1), (1, .iload_n 1, 1), (2, .invokevirtual 93, 3), (5, .ifCond .eq 16, 3), (8, .aload_n 0, 1), (9, .getfield 16, 3), (12, .iload_n 1, 1), (13, .iaload, 1), (14, .ifCond .le 7, 3), (17, .iconst 1, 1), (18, .goto 4, 3), (21, .iconst 0, 1), (22, .ireturn, 1)]
def mC_82 : List (List (Nat × Instr × Nat)) := [mC_82_0]
/-- 83: TextVerbsModel.text(I)I -/
def mC_83_0 : List (Nat × Instr × Nat) := [(0, .iload_n 1, 1), (1, .ifCond .lt 9, 3), (4, .iload_n 1, 1), (5, .bipush 60, 2), (7, .if_icmp .le 7, 3), (10, .iconst 1, 1), (11, .goto 4, 3), (14, .iconst 0, 1), (15, .istore_n 2, 1), (16, .aload_n 0, 1), (17, .iload_n 2, 1), (18, .iload_n 2, 1), (19, .ifCond .ne 16, 3), (22, .aload_n 0, 1), (23, .getfield 90, 3), (26, .bipush 40, 2), (28, .if_icmp .ne 7, 3), (31, .iconst 1, 1), (32, .goto 4, 3), (35, .iconst 0, 1), (36, .invokevirtual 97, 3), (39, .ifCond .eq 5, 3), (42, .iconst 0, 1), (43, .ireturn, 1), (44, .aload_n 0, 1), (45, .getfield 16, 3), (48, .aload_n 0, 1), (49, .getfield 90, 3), (52, .iload_n 1, 1), (53, .iastore, 1), (54, .iconst 0, 1), (55, .istore_n 3, 1), (56, .iload_n 3, 1), (57, .iload_n 1, 1), (58, .if_icmp .ge 25, 3), (61, .aload_n 0, 1), (62, .getfield 7, 3)]
def mC_83_1 : List (Nat × Instr × Nat) := [(65, .bipush 60, 2), (67, .aload_n 0, 1), (68, .getfield 90, 3), (71, .imul, 1), (72, .iload_n 3, 1), (73, .iadd, 1), (74, .bipush 32, 2), (76, .iastore, 1), (77, .iinc 3 1, 3), (80, .goto (-24), 3), (83, .aload_n 0, 1), (84, .dup, 1), (85, .getfield 90, 3), (88, .iconst 1, 1), (89, .iadd, 1), (90, .putfield 90, 3), (93, .aload_n 0, 1), (94, .getfield 90, 3), (97, .iconst 1, 1), (98, .isub, 1), (99, .ireturn, 1)]
def mC_83 : List (List (Nat × Instr × Nat)) := [mC_83_0, mC_83_1]
/-- 84: TextVerbsModel.isPlace(II)Z -/
def mC_84_0 : List (Nat × Instr × Nat) := [(0, .aload_n 0, 1), (1, .iload_n 1, 1), (2, .invokevirtual 93, 3), (5, .ifCond .eq 21, 3), (8, .iload_n 2, 1), (9, .ifCond .lt 17, 3), (12, .iload_n 2, 1), (13, .aload_n 0, 1), (14, .getfield 16, 3), (17, .iload_n 1, 1), (18, .iaload, 1), (19, .if_icmp .ge 7, 3), (22, .iconst 1, 1), (23, .goto 4, 3), (26, .iconst 0, 1), (27, .ireturn, 1)]
def mC_84 : List (List (Nat × Instr × Nat)) := [mC_84_0]
/-- 85: TextVerbsModel.set(III)V -/
def mC_85_0 : List (Nat × Instr × Nat) := [(0, .aload_n 0, 1), (1, .aload_n 0, 1), (2, .iload_n 1, 1), (3, .iload_n 2, 1), (4, .invokevirtual 101, 3), (7, .ifCond .eq 14, 3), (10, .iload_n 3, 1), (11, .ifCond .lt 10, 3), (14, .iload_n 3, 1), (15, .sipush 255, 3), (18, .if_icmp .le 7, 3), (21, .iconst 1, 1), (22, .goto 4, 3), (25, .iconst 0, 1), (26, .iconst 0, 1), (27, .invokevirtual 97, 3), (30, .ifCond .eq 4, 3), (33, .return_, 1), (34, .aload_n 0, 1), (35, .getfield 7, 3), (38, .bipush 60, 2), (40, .iload_n 1, 1), (41, .imul, 1), (42, .iload_n 2, 1), (43, .iadd, 1), (44, .iload_n 3, 1), (45, .iastore, 1), (46, .return_, 1)]
def mC_85 : List (List (Nat × Instr × Nat)) := [mC_85_0]
/-- 86: TextVerbsModel.at(II)I -/
def mC_86_0 : List (Nat × Instr × Nat) := [(0, .aload_n 0, 1), (1, .aload_n 0, 1), (2, .iload_n 1, 1), (3, .iload_n 2, 1), (4, .invokevirtual 101, 3), (7, .ifCond .ne 7, 3), (10, .iconst 1, 1), (11, .goto 4, 3), (14, .iconst 0, 1), (15, .iconst 0, 1), (16, .invokevirtual 97, 3), (19, .ifCond .eq 5, 3), (22, .iconst 0, 1), (23, .ireturn, 1), (24, .aload_n 0, 1), (25, .getfield 7, 3), (28, .bipush 60, 2), (30, .iload_n 1, 1), (31, .imul, 1), (32, .iload_n 2, 1), (33, .iadd, 1), (34, .iaload, 1), (35, .ireturn, 1)]
def mC_86 : List (List (Nat × Instr × Nat)) := [mC_86_0]
/-- 87: TextVerbsModel.remember()V -/
def mC_87_0 : List (Nat × Instr × Nat) := [(0, .iconst 0, 1), (1, .istore_n 1, 1), (2, .iload_n 1, 1), (3, .aload_n 0, 1), (4, .getfield 13, 3), (7, .arraylength, 1), (8, .if_icmp .ge 21, 3), (11, .aload_n 0, 1), (12, .getfield 13, 3), (15, .iload_n 1, 1), (16, .aload_n 0, 1), (17, .getfield 7, 3), (20, .iload_n 1, 1), (21, .iaload, 1), (22, .iastore, 1), (23, .iinc 1 1, 3), (26, .goto (-24), 3), (29, .return_, 1)]
def mC_87 : List (List (Nat × Instr × Nat)) := [mC_87_0]
/-- 88: TextVerbsModel.occurs([IIIII)Z -/
def mC_88_0 : List (Nat × Instr × Nat) := [(0, .iload 4, 2), (2, .aload_n 0, 1), (3, .getfield 16, 3), (6, .iload_n 2, 1), (7, .iaload, 1), (8, .iadd, 1), (9, .iload 5, 2), (11, .if_icmp .gt 7, 3), (14, .iconst 1, 1), (15, .goto 4, 3), (18, .iconst 0, 1), (19, .istore 6, 2), (21, .iconst 0, 1), (22, .istore 7, 2), (24, .iload 7, 2), (26, .aload_n 0, 1), (27, .getfield 16, 3), (30, .iload_n 2, 1), (31, .iaload, 1), (32, .if_icmp .ge 45, 3), (35, .iload 6, 2), (37, .ifCond .eq 40, 3), (40, .aload_n 1, 1), (41, .bipush 60, 2), (43, .iload_n 2, 1), (44, .imul, 1), (45, .iload 7, 2), (47, .iadd, 1), (48, .iaload, 1), (49, .aload_n 1, 1), (50, .bipush 60, 2), (52, .iload_n 3, 1), (53, .imul, 1), (54, .iload 4, 2), (56, .iadd, 1), (57, .iload 7, 2), (59, .iadd, 1), (60, .iaload, 1), (61, .if_icmp .ne 7, 3)]
def mC_88_1 : List (Nat × Instr × Nat) := [(64, .iconst 1, 1), (65, .goto 4, 3), (68, .iconst 0, 1), (69, .istore 6, 2), (71, .iinc 7 1, 3), (74, .goto (-50), 3), (77, .iload 6, 2), (79, .ireturn, 1)]
def mC_88 : List (List (Nat × Instr × Nat)) := [mC_88_0, mC_88_1]
/-- 89: TextVerbsModel.first([III)I -/
def mC_89_0 : List (Nat × Instr × Nat) := [(0, .iconst 0, 1), (1, .istore 4, 2), (3, .iload 4, 2), (5, .aload_n 0, 1), (6, .getfield 16, 3), (9, .iload_n 3, 1), (10, .iaload, 1), (11, .if_icmp .ge 30, 3), (14, .aload_n 0, 1), (15, .aload_n 1, 1), (16, .iload_n 2, 1), (17, .iload_n 3, 1), (18, .iload 4, 2), (20, .aload_n 0, 1), (21, .getfield 16, 3), (24, .iload_n 3, 1), (25, .iaload, 1), (26, .invokevirtual 105, 3), (29, .ifCond .eq 6, 3), (32, .iload 4, 2), (34, .ireturn, 1), (35, .iinc 4 1, 3), (38, .goto (-35), 3), (41, .iconst (-1), 1), (42, .ireturn, 1)]
def mC_89 : List (List (Nat × Instr × Nat)) := [mC_89_0]
/-- 90: TextVerbsModel.span(ZI)V -/
def mC_90_0 : List (Nat × Instr × Nat) := [(0, .aload_n 0, 1), (1, .aload_n 0, 1), (2, .iload_n 2, 1), (3, .invokevirtual 109, 3), (6, .ifCond .ne 7, 3), (9, .iconst 1, 1), (10, .goto 4, 3), (13, .iconst 0, 1), (14, .iconst 0, 1), (15, .invokevirtual 97, 3), (18, .ifCond .eq 4, 3), (21, .return_, 1), (22, .iload_n 1, 1), (23, .ifCond .eq 11, 3), (26, .aload_n 0, 1), (27, .iload_n 2, 1), (28, .putfield 19, 3), (31, .goto 8, 3), (34, .aload_n 0, 1), (35, .iload_n 2, 1), (36, .putfield 23, 3), (39, .return_, 1)]
def mC_90 : List (List (Nat × Instr × Nat)) := [mC_90_0]
/-- 91: TextVerbsModel.phrase(III)I -/
def mC_91_0 : List (Nat × Instr × Nat) := [(0, .aload_n 0, 1), (1, .getfield 26, 3), (4, .aload_n 0, 1), (5, .getfield 112, 3), (8, .iload_n 1, 1), (9, .iastore, 1), (10, .aload_n 0, 1), (11, .getfield 29, 3), (14, .aload_n 0, 1), (15, .getfield 112, 3), (18, .iload_n 2, 1), (19, .iastore, 1), (20, .aload_n 0, 1), (21, .getfield 32, 3), (24, .aload_n 0, 1), (25, .getfield 112, 3), (28, .iload_n 3, 1), (29, .iastore, 1), (30, .aload_n 0, 1), (31, .getfield 35, 3), (34, .aload_n 0, 1), (35, .getfield 112, 3), (38, .aload_n 0, 1), (39, .getfield 19, 3), (42, .iastore, 1), (43, .aload_n 0, 1), (44, .getfield 38, 3), (47, .aload_n 0, 1), (48, .getfield 112, 3), (51, .aload_n 0, 1), (52, .getfield 23, 3), (55, .iastore, 1), (56, .aload_n 0, 1), (57, .iconst (-1), 1), (58, .putfield 19, 3), (61, .aload_n 0, 1), (62, .iconst (-1), 1), (63, .putfield 23, 3)]
def mC_91_1 : List (Nat × Instr × Nat) := [(66, .aload_n 0, 1), (67, .dup, 1), (68, .getfield 112, 3), (71, .iconst 1, 1), (72, .iadd, 1), (73, .putfield 112, 3), (76, .aload_n 0, 1), (77, .getfield 112, 3), (80, .ireturn, 1)]
def mC_91 : List (List (Nat × Instr × Nat)) := [mC_91_0, mC_91_1]
/-- 92: TextVerbsModel.tally(III)I -/
def mC_92_0 : List (Nat × Instr × Nat) := [(0, .iload_n 1, 1), (1, .ifCond .lt 30, 3), (4, .iload_n 1, 1), (5, .iconst 2, 1), (6, .if_icmp .gt 25, 3), (9, .iload_n 1, 1), (10, .ifCond .le 11, 3), (13, .aload_n 0, 1), (14, .iload_n 2, 1), (15, .invokevirtual 109, 3), (18, .ifCond .eq 13, 3), (21, .iload_n 3, 1), (22, .ifCond .lt 9, 3), (25, .iload_n 3, 1), (26, .bipush 9, 2), (28, .if_icmp .le 7, 3), (31, .iconst 1, 1), (32, .goto 4, 3), (35, .iconst 0, 1), (36, .istore 4, 2), (38, .aload_n 0, 1), (39, .iload 4, 2), (41, .iload 4, 2), (43, .ifCond .ne 16, 3), (46, .aload_n 0, 1), (47, .getfield 112, 3), (50, .bipush 20, 2), (52, .if_icmp .ne 7, 3), (55, .iconst 1, 1), (56, .goto 4, 3), (59, .iconst 0, 1), (60, .invokevirtual 97, 3), (63, .ifCond .eq 5, 3)]
def mC_92_1 : List (Nat × Instr × Nat) := [(66, .iconst 0, 1), (67, .ireturn, 1), (68, .aload_n 0, 1), (69, .iload_n 1, 1), (70, .iload_n 2, 1), (71, .iload_n 3, 1), (72, .invokevirtual 115, 3), (75, .ireturn, 1)]
def mC_92 : List (List (Nat × Instr × Nat)) := [mC_92_0, mC_92_1]
/-- 93: TextVerbsModel.replace(III)I -/
def mC_93_0 : List (Nat × Instr × Nat) := [(0, .iload_n 1, 1), (1, .ifCond .lt 51, 3), (4, .iload_n 1, 1), (5, .iconst 3, 1), (6, .if_icmp .gt 46, 3), (9, .iload_n 1, 1), (10, .ifCond .le 11, 3), (13, .aload_n 0, 1), (14, .iload_n 2, 1), (15, .invokevirtual 109, 3), (18, .ifCond .eq 34, 3), (21, .aload_n 0, 1), (22, .iload_n 3, 1), (23, .invokevirtual 93, 3), (26, .ifCond .eq 26, 3), (29, .aload_n 0, 1), (30, .getfield 16, 3), (33, .iload_n 3, 1), (34, .iaload, 1), (35, .iload_n 1, 1), (36, .ifCond .ne 7, 3), (39, .iconst 1, 1), (40, .goto 9, 3), (43, .aload_n 0, 1), (44, .getfield 16, 3), (47, .iload_n 2, 1), (48, .iaload, 1), (49, .if_icmp .eq 7, 3), (52, .iconst 1, 1), (53, .goto 4, 3), (56, .iconst 0, 1), (57, .istore 4, 2), (59, .aload_n 0, 1), (60, .iload 4, 2), (62, .iload 4, 2)]
def mC_93_1 : List (Nat × Instr × Nat) := [(64, .ifCond .ne 16, 3), (67, .aload_n 0, 1), (68, .getfield 112, 3), (71, .bipush 20, 2), (73, .if_icmp .ne 7, 3), (76, .iconst 1, 1), (77, .goto 4, 3), (80, .iconst 0, 1), (81, .invokevirtual 97, 3), (84, .ifCond .eq 5, 3), (87, .iconst 0, 1), (88, .ireturn, 1), (89, .aload_n 0, 1), (90, .bipush 10, 2), (92, .iload_n 1, 1), (93, .iadd, 1), (94, .iload_n 2, 1), (95, .iload_n 3, 1), (96, .invokevirtual 115, 3), (99, .ireturn, 1)]
def mC_93 : List (List (Nat × Instr × Nat)) := [mC_93_0, mC_93_1]
/-- 94: TextVerbsModel.beginOf(II)I -/
def mC_94_0 : List (Nat × Instr × Nat) := [(0, .iload_n 2, 1), (1, .iconst (-1), 1), (2, .if_icmp .ne 5, 3), (5, .iconst 0, 1), (6, .ireturn, 1), (7, .aload_n 0, 1), (8, .aload_n 0, 1), (9, .getfield 13, 3), (12, .iload_n 2, 1), (13, .iload_n 1, 1), (14, .invokevirtual 119, 3), (17, .istore_n 3, 1), (18, .iload_n 3, 1), (19, .iconst (-1), 1), (20, .if_icmp .ne 12, 3), (23, .aload_n 0, 1), (24, .getfield 16, 3), (27, .iload_n 1, 1), (28, .iaload, 1), (29, .goto 11, 3), (32, .iload_n 3, 1), (33, .aload_n 0, 1), (34, .getfield 16, 3), (37, .iload_n 2, 1), (38, .iaload, 1), (39, .iadd, 1), (40, .ireturn, 1)]
def mC_94 : List (List (Nat × Instr × Nat)) := [mC_94_0]
/-- 95: TextVerbsModel.endOf(II)I -/
def mC_95_0 : List (Nat × Instr × Nat) := [(0, .iload_n 2, 1), (1, .iconst (-1), 1), (2, .if_icmp .ne 7, 3), (5, .iconst (-1), 1), (6, .goto 13, 3), (9, .aload_n 0, 1), (10, .aload_n 0, 1), (11, .getfield 13, 3), (14, .iload_n 2, 1), (15, .iload_n 1, 1), (16, .invokevirtual 119, 3), (19, .istore_n 3, 1), (20, .iload_n 3, 1), (21, .iconst (-1), 1), (22, .if_icmp .ne 12, 3), (25, .aload_n 0, 1), (26, .getfield 16, 3), (29, .iload_n 1, 1), (30, .iaload, 1), (31, .goto 4, 3), (34, .iload_n 3, 1), (35, .ireturn, 1)]
def mC_95 : List (List (Nat × Instr × Nat)) := [mC_95_0]
/-- 96: TextVerbsModel.matches(III)Z -/
def mC_96_0 : List (Nat × Instr × Nat) := [(0, .aload_n 0, 1), (1, .getfield 26, 3), (4, .iload_n 1, 1), (5, .iaload, 1), (6, .bipush 10, 2), (8, .irem, 1), (9, .istore 4, 2), (11, .iload_n 3, 1), (12, .aload_n 0, 1), (13, .getfield 41, 3), (16, .iload_n 1, 1), (17, .iaload, 1), (18, .if_icmp .lt 44, 3), (21, .iload_n 3, 1), (22, .aload_n 0, 1), (23, .getfield 44, 3), (26, .iload_n 1, 1), (27, .iaload, 1), (28, .if_icmp .ge 34, 3), (31, .iload 4, 2), (33, .iconst 3, 1), (34, .if_icmp .ne 12, 3), (37, .aload_n 0, 1), (38, .getfield 50, 3), (41, .iload_n 1, 1), (42, .baload, 1), (43, .ifCond .ne 19, 3), (46, .iload 4, 2), (48, .iconst 2, 1), (49, .if_icmp .ne 15, 3), (52, .aload_n 0, 1), (53, .getfield 47, 3), (56, .iload_n 1, 1), (57, .iaload, 1), (58, .iload_n 3, 1), (59, .if_icmp .eq 5, 3), (62, .iconst 0, 1), (63, .ireturn, 1)]
def mC_96_1 : List (Nat × Instr × Nat) := [(64, .iload 4, 2), (66, .ifCond .eq 28, 3), (69, .aload_n 0, 1), (70, .aload_n 0, 1), (71, .getfield 13, 3), (74, .aload_n 0, 1), (75, .getfield 29, 3), (78, .iload_n 1, 1), (79, .iaload, 1), (80, .iload_n 2, 1), (81, .iload_n 3, 1), (82, .aload_n 0, 1), (83, .getfield 44, 3), (86, .iload_n 1, 1), (87, .iaload, 1), (88, .invokevirtual 105, 3), (91, .ifCond .eq 7, 3), (94, .iconst 1, 1), (95, .goto 4, 3), (98, .iconst 0, 1), (99, .ireturn, 1)]
def mC_96 : List (List (Nat × Instr × Nat)) := [mC_96_0, mC_96_1]
/-- 97: TextVerbsModel.over(IZ)I -/
def mC_97_0 : List (Nat × Instr × Nat) := [(0, .aload_n 0, 1), (1, .invokevirtual 123, 3), (4, .iconst 0, 1), (5, .istore_n 3, 1), (6, .iload_n 3, 1), (7, .aload_n 0, 1), (8, .getfield 112, 3), (11, .if_icmp .ge 62, 3), (14, .aload_n 0, 1), (15, .getfield 41, 3), (18, .iload_n 3, 1), (19, .aload_n 0, 1), (20, .iload_n 1, 1), (21, .aload_n 0, 1), (22, .getfield 35, 3), (25, .iload_n 3, 1), (26, .iaload, 1), (27, .invokevirtual 126, 3), (30, .iastore, 1), (31, .aload_n 0, 1), (32, .getfield 44, 3), (35, .iload_n 3, 1), (36, .aload_n 0, 1), (37, .iload_n 1, 1), (38, .aload_n 0, 1), (39, .getfield 38, 3), (42, .iload_n 3, 1), (43, .iaload, 1), (44, .invokevirtual 130, 3), (47, .iastore, 1), (48, .aload_n 0, 1), (49, .getfield 47, 3), (52, .iload_n 3, 1), (53, .aload_n 0, 1), (54, .getfield 41, 3), (57, .iload_n 3, 1), (58, .iaload, 1), (59, .iastore, 1), (60, .aload_n 0, 1), (61, .getfield 50, 3)]
def mC_97_1 : List (Nat × Instr × Nat) := [(64, .iload_n 3, 1), (65, .iconst 0, 1), (66, .bastore, 1), (67, .iinc 3 1, 3), (70, .goto (-64), 3), (73, .iconst 0, 1), (74, .istore_n 3, 1), (75, .iconst 0, 1), (76, .istore 4, 2), (78, .iload 4, 2), (80, .aload_n 0, 1), (81, .getfield 16, 3), (84, .iload_n 1, 1), (85, .iaload, 1), (86, .if_icmp .ge 155, 3), (89, .iconst (-1), 1), (90, .istore 5, 2), (92, .aload_n 0, 1), (93, .getfield 112, 3), (96, .iconst 1, 1), (97, .isub, 1), (98, .istore 6, 2), (100, .iload 6, 2), (102, .ifCond .lt 51, 3), (105, .aload_n 0, 1), (106, .getfield 26, 3), (109, .iload 6, 2), (111, .iaload, 1), (112, .bipush 9, 2), (114, .if_icmp .le 7, 3), (117, .iconst 1, 1), (118, .goto 4, 3), (121, .iconst 0, 1), (122, .iload_n 2, 1), (123, .if_icmp .ne 20, 3), (126, .aload_n 0, 1), (127, .iload 6, 2)]
def mC_97_2 : List (Nat × Instr × Nat) := [(129, .iload_n 1, 1), (130, .iload 4, 2), (132, .invokevirtual 133, 3), (135, .ifCond .eq 8, 3), (138, .iload 6, 2), (140, .goto 5, 3), (143, .iload 5, 2), (145, .istore 5, 2), (147, .iinc 6 (-1), 3), (150, .goto (-50), 3), (153, .iload 5, 2), (155, .iconst (-1), 1), (156, .if_icmp .eq 16, 3), (159, .aload_n 0, 1), (160, .getfield 26, 3), (163, .iload 5, 2), (165, .iaload, 1), (166, .bipush 10, 2), (168, .irem, 1), (169, .ifCond .ne 7, 3), (172, .iconst 1, 1), (173, .goto 15, 3), (176, .aload_n 0, 1), (177, .getfield 16, 3), (180, .aload_n 0, 1), (181, .getfield 29, 3), (184, .iload 5, 2), (186, .iaload, 1), (187, .iaload, 1), (188, .istore 6, 2), (190, .iload 5, 2)]
def mC_97_3 : List (Nat × Instr × Nat) := [(192, .iconst (-1), 1), (193, .if_icmp .eq 38, 3), (196, .iinc 3 1, 3), (199, .aload_n 0, 1), (200, .getfield 50, 3), (203, .iload 5, 2), (205, .iconst 1, 1), (206, .bastore, 1), (207, .aload_n 0, 1), (208, .getfield 47, 3), (211, .iload 5, 2), (213, .iload 4, 2), (215, .iload 6, 2), (217, .iadd, 1), (218, .iastore, 1), (219, .aload_n 0, 1), (220, .iload 5, 2), (222, .iload_n 1, 1), (223, .iload 4, 2), (225, .iload 6, 2), (227, .iload_n 2, 1), (228, .invokevirtual 137, 3), (231, .iload 4, 2), (233, .iload 6, 2), (235, .iadd, 1), (236, .istore 4, 2), (238, .goto (-160), 3), (241, .iload_n 3, 1), (242, .ireturn, 1)]
def mC_97 : List (List (Nat × Instr × Nat)) := [mC_97_0, mC_97_1, mC_97_2, mC_97_3]
/-- 98: TextVerbsModel.act(IIIIZ)V -/
def mC_98_0 : List (Nat × Instr × Nat) := [(0, .iload 5, 2), (2, .ifCond .ne 19, 3), (5, .aload_n 0, 1), (6, .getfield 54, 3), (9, .aload_n 0, 1), (10, .getfield 32, 3), (13, .iload_n 1, 1), (14, .iaload, 1), (15, .dup2, 1), (16, .iaload, 1), (17, .iconst 1, 1), (18, .iadd, 1), (19, .iastore, 1), (20, .return_, 1), (21, .iconst 0, 1), (22, .istore 6, 2), (24, .iload 6, 2), (26, .iload 4, 2), (28, .if_icmp .ge 40, 3), (31, .aload_n 0, 1), (32, .getfield 7, 3), (35, .bipush 60, 2), (37, .iload_n 2, 1), (38, .imul, 1), (39, .iload_n 3, 1), (40, .iadd, 1), (41, .iload 6, 2), (43, .iadd, 1), (44, .aload_n 0, 1), (45, .getfield 13, 3), (48, .bipush 60, 2), (50, .aload_n 0, 1), (51, .getfield 32, 3), (54, .iload_n 1, 1), (55, .iaload, 1), (56, .imul, 1), (57, .iload 6, 2), (59, .iadd, 1), (60, .iaload, 1), (61, .iastore, 1), (62, .iinc 6 1, 3)]
def mC_98_1 : List (Nat × Instr × Nat) := [(65, .goto (-41), 3), (68, .return_, 1)]
def mC_98 : List (List (Nat × Instr × Nat)) := [mC_98_0, mC_98_1]
/-- 99: TextVerbsModel.inspect(I)I -/
def mC_99_0 : List (Nat × Instr × Nat) := [(0, .aload_n 0, 1), (1, .aload_n 0, 1), (2, .iload_n 1, 1), (3, .invokevirtual 93, 3), (6, .ifCond .ne 7, 3), (9, .iconst 1, 1), (10, .goto 4, 3), (13, .iconst 0, 1), (14, .iconst 0, 1), (15, .invokevirtual 97, 3), (18, .ifCond .eq 5, 3), (21, .iconst 0, 1), (22, .ireturn, 1), (23, .aload_n 0, 1), (24, .iload_n 1, 1), (25, .iconst 0, 1), (26, .invokevirtual 141, 3), (29, .pop, 1), (30, .aload_n 0, 1), (31, .iload_n 1, 1), (32, .iconst 1, 1), (33, .invokevirtual 141, 3), (36, .istore_n 2, 1), (37, .aload_n 0, 1), (38, .iconst 0, 1), (39, .putfield 112, 3), (42, .iload_n 2, 1), (43, .ireturn, 1)]
def mC_99 : List (List (Nat × Instr × Nat)) := [mC_99_0]
/-- 100: TextVerbsModel.convert(III)I -/
def mC_100_0 : List (Nat × Instr × Nat) := [(0, .aload_n 0, 1), (1, .aload_n 0, 1), (2, .iload_n 1, 1), (3, .invokevirtual 93, 3), (6, .ifCond .eq 34, 3), (9, .aload_n 0, 1), (10, .iload_n 2, 1), (11, .invokevirtual 93, 3), (14, .ifCond .eq 26, 3), (17, .aload_n 0, 1), (18, .iload_n 3, 1), (19, .invokevirtual 93, 3), (22, .ifCond .eq 18, 3), (25, .aload_n 0, 1), (26, .getfield 16, 3), (29, .iload_n 2, 1), (30, .iaload, 1), (31, .aload_n 0, 1), (32, .getfield 16, 3), (35, .iload_n 3, 1), (36, .iaload, 1), (37, .if_icmp .eq 7, 3), (40, .iconst 1, 1), (41, .goto 4, 3), (44, .iconst 0, 1), (45, .iconst 0, 1), (46, .invokevirtual 97, 3), (49, .ifCond .eq 5, 3), (52, .iconst 0, 1), (53, .ireturn, 1), (54, .aload_n 0, 1), (55, .invokevirtual 123, 3), (58, .aload_n 0, 1), (59, .iload_n 1, 1), (60, .aload_n 0, 1), (61, .getfield 19, 3)]
def mC_100_1 : List (Nat × Instr × Nat) := [(64, .invokevirtual 126, 3), (67, .istore 4, 2), (69, .aload_n 0, 1), (70, .iload_n 1, 1), (71, .aload_n 0, 1), (72, .getfield 23, 3), (75, .invokevirtual 130, 3), (78, .istore 5, 2), (80, .aload_n 0, 1), (81, .iconst (-1), 1), (82, .putfield 19, 3), (85, .aload_n 0, 1), (86, .iconst (-1), 1), (87, .putfield 23, 3), (90, .iconst 0, 1), (91, .istore 6, 2), (93, .iload 4, 2), (95, .istore 7, 2), (97, .iload 7, 2), (99, .iload 5, 2), (101, .if_icmp .ge 105, 3), (104, .iconst (-1), 1), (105, .istore 8, 2), (107, .aload_n 0, 1), (108, .getfield 16, 3), (111, .iload_n 2, 1), (112, .iaload, 1), (113, .iconst 1, 1), (114, .isub, 1), (115, .istore 9, 2), (117, .iload 9, 2), (119, .ifCond .lt 45, 3), (122, .aload_n 0, 1), (123, .getfield 13, 3), (126, .bipush 60, 2)]
def mC_100_2 : List (Nat × Instr × Nat) := [(128, .iload_n 2, 1), (129, .imul, 1), (130, .iload 9, 2), (132, .iadd, 1), (133, .iaload, 1), (134, .aload_n 0, 1), (135, .getfield 13, 3), (138, .bipush 60, 2), (140, .iload_n 1, 1), (141, .imul, 1), (142, .iload 7, 2), (144, .iadd, 1), (145, .iaload, 1), (146, .if_icmp .ne 8, 3), (149, .iload 9, 2), (151, .goto 5, 3), (154, .iload 8, 2), (156, .istore 8, 2), (158, .iinc 9 (-1), 3), (161, .goto (-44), 3), (164, .iload 8, 2), (166, .iconst (-1), 1), (167, .if_icmp .ne 6, 3), (170, .goto 30, 3), (173, .aload_n 0, 1), (174, .getfield 7, 3), (177, .bipush 60, 2), (179, .iload_n 1, 1), (180, .imul, 1), (181, .iload 7, 2), (183, .iadd, 1), (184, .aload_n 0, 1), (185, .getfield 13, 3), (188, .bipush 60, 2), (190, .iload_n 3, 1), (191, .imul, 1)]
def mC_100_3 : List (Nat × Instr × Nat) := [(192, .iload 8, 2), (194, .iadd, 1), (195, .iaload, 1), (196, .iastore, 1), (197, .iinc 6 1, 3), (200, .iinc 7 1, 3), (203, .goto (-106), 3), (206, .iload 6, 2), (208, .ireturn, 1)]
def mC_100 : List (List (Nat × Instr × Nat)) := [mC_100_0, mC_100_1, mC_100_2, mC_100_3]
/-- 101: TextVerbsModel.counter(I)I -/
def mC_101_0 : List (Nat × Instr × Nat) := [(0, .aload_n 0, 1), (1, .iload_n 1, 1), (2, .ifCond .lt 9, 3), (5, .iload_n 1, 1), (6, .bipush 9, 2), (8, .if_icmp .le 7, 3), (11, .iconst 1, 1), (12, .goto 4, 3), (15, .iconst 0, 1), (16, .iconst 0, 1), (17, .invokevirtual 97, 3), (20, .ifCond .eq 5, 3), (23, .iconst 0, 1), (24, .ireturn, 1), (25, .aload_n 0, 1), (26, .getfield 54, 3), (29, .iload_n 1, 1), (30, .iaload, 1), (31, .istore_n 2, 1), (32, .aload_n 0, 1), (33, .getfield 54, 3), (36, .iload_n 1, 1), (37, .iconst 0, 1), (38, .iastore, 1), (39, .iload_n 2, 1), (40, .ireturn, 1)]
def mC_101 : List (List (Nat × Instr × Nat)) := [mC_101_0]
/-- 102: TextVerbsModel.part(II)I -/
def mC_102_0 : List (Nat × Instr × Nat) := [(0, .aload_n 0, 1), (1, .iload_n 1, 1), (2, .invokevirtual 93, 3), (5, .ifCond .eq 16, 3), (8, .iload_n 2, 1), (9, .iconst (-1), 1), (10, .if_icmp .eq 15, 3), (13, .aload_n 0, 1), (14, .iload_n 2, 1), (15, .invokevirtual 109, 3), (18, .ifCond .ne 7, 3), (21, .iconst 1, 1), (22, .goto 4, 3), (25, .iconst 0, 1), (26, .istore_n 3, 1), (27, .aload_n 0, 1), (28, .iload_n 3, 1), (29, .iload_n 3, 1), (30, .ifCond .ne 16, 3), (33, .aload_n 0, 1), (34, .getfield 145, 3), (37, .bipush 20, 2), (39, .if_icmp .ne 7, 3), (42, .iconst 1, 1), (43, .goto 4, 3), (46, .iconst 0, 1), (47, .invokevirtual 97, 3), (50, .ifCond .eq 5, 3), (53, .iconst 0, 1), (54, .ireturn, 1), (55, .aload_n 0, 1), (56, .getfield 57, 3), (59, .aload_n 0, 1), (60, .getfield 145, 3), (63, .iload_n 1, 1)]
def mC_102_1 : List (Nat × Instr × Nat) := [(64, .iastore, 1), (65, .aload_n 0, 1), (66, .getfield 60, 3), (69, .aload_n 0, 1), (70, .getfield 145, 3), (73, .iload_n 2, 1), (74, .iastore, 1), (75, .aload_n 0, 1), (76, .dup, 1), (77, .getfield 145, 3), (80, .iconst 1, 1), (81, .iadd, 1), (82, .putfield 145, 3), (85, .aload_n 0, 1), (86, .getfield 145, 3), (89, .ireturn, 1)]
def mC_102 : List (List (Nat × Instr × Nat)) := [mC_102_0, mC_102_1]
/-- 103: TextVerbsModel.join(II)I -/
def mC_103_0 : List (Nat × Instr × Nat) := [(0, .aload_n 0, 1), (1, .aload_n 0, 1), (2, .iload_n 1, 1), (3, .invokevirtual 93, 3), (6, .ifCond .ne 7, 3), (9, .iconst 1, 1), (10, .goto 4, 3), (13, .iconst 0, 1), (14, .iconst 0, 1), (15, .invokevirtual 97, 3), (18, .ifCond .eq 5, 3), (21, .iconst 0, 1), (22, .ireturn, 1), (23, .iload_n 2, 1), (24, .istore_n 3, 1), (25, .iload_n 2, 1), (26, .iconst 1, 1), (27, .if_icmp .lt 17, 3), (30, .iload_n 2, 1), (31, .aload_n 0, 1), (32, .getfield 16, 3), (35, .iload_n 1, 1), (36, .iaload, 1), (37, .if_icmp .gt 7, 3), (40, .iconst 1, 1), (41, .goto 4, 3), (44, .iconst 0, 1), (45, .istore 4, 2), (47, .iconst 0, 1), (48, .istore 5, 2), (50, .iload 5, 2), (52, .aload_n 0, 1), (53, .getfield 145, 3), (56, .if_icmp .ge 152, 3), (59, .iload 4, 2), (61, .ifCond .eq 147, 3)]
def mC_103_1 : List (Nat × Instr × Nat) := [(64, .aload_n 0, 1), (65, .getfield 57, 3), (68, .iload 5, 2), (70, .iaload, 1), (71, .istore 6, 2), (73, .aload_n 0, 1), (74, .getfield 60, 3), (77, .iload 5, 2), (79, .iaload, 1), (80, .iconst (-1), 1), (81, .if_icmp .ne 7, 3), (84, .iconst (-1), 1), (85, .goto 20, 3), (88, .aload_n 0, 1), (89, .aload_n 0, 1), (90, .getfield 7, 3), (93, .aload_n 0, 1), (94, .getfield 60, 3), (97, .iload 5, 2), (99, .iaload, 1), (100, .iload 6, 2), (102, .invokevirtual 119, 3), (105, .istore 7, 2), (107, .iload 7, 2), (109, .iconst (-1), 1), (110, .if_icmp .ne 13, 3), (113, .aload_n 0, 1), (114, .getfield 16, 3), (117, .iload 6, 2), (119, .iaload, 1), (120, .goto 5, 3), (123, .iload 7, 2), (125, .istore 7, 2), (127, .iconst 0, 1)]
def mC_103_2 : List (Nat × Instr × Nat) := [(128, .istore 8, 2), (130, .iload 8, 2), (132, .iload 7, 2), (134, .if_icmp .ge 68, 3), (137, .iload 4, 2), (139, .ifCond .eq 63, 3), (142, .iload_n 3, 1), (143, .aload_n 0, 1), (144, .getfield 16, 3), (147, .iload_n 1, 1), (148, .iaload, 1), (149, .if_icmp .gt 7, 3), (152, .iconst 1, 1), (153, .goto 4, 3), (156, .iconst 0, 1), (157, .istore 4, 2), (159, .iload 4, 2), (161, .ifCond .ne 6, 3), (164, .goto 32, 3), (167, .aload_n 0, 1), (168, .getfield 7, 3), (171, .bipush 60, 2), (173, .iload_n 1, 1), (174, .imul, 1), (175, .iload_n 3, 1), (176, .iadd, 1), (177, .iconst 1, 1), (178, .isub, 1), (179, .aload_n 0, 1), (180, .getfield 7, 3), (183, .bipush 60, 2), (185, .iload 6, 2), (187, .imul, 1), (188, .iload 8, 2), (190, .iadd, 1), (191, .iaload, 1)]
def mC_103_3 : List (Nat × Instr × Nat) := [(192, .iastore, 1), (193, .iinc 3 1, 3), (196, .iinc 8 1, 3), (199, .goto (-69), 3), (202, .iinc 5 1, 3), (205, .goto (-155), 3), (208, .aload_n 0, 1), (209, .iconst 0, 1), (210, .putfield 145, 3), (213, .aload_n 0, 1), (214, .iload_n 3, 1), (215, .putfield 148, 3), (218, .iload 4, 2), (220, .ifCond .eq 7, 3), (223, .iload_n 3, 1), (224, .goto 4, 3), (227, .iconst (-1), 1), (228, .ireturn, 1)]
def mC_103 : List (List (Nat × Instr × Nat)) := [mC_103_0, mC_103_1, mC_103_2, mC_103_3]
/-- 104: TextVerbsModel.delimiter(IZ)I -/
def mC_104_0 : List (Nat × Instr × Nat) := [(0, .aload_n 0, 1), (1, .iload_n 1, 1), (2, .invokevirtual 109, 3), (5, .ifCond .ne 7, 3), (8, .iconst 1, 1), (9, .goto 4, 3), (12, .iconst 0, 1), (13, .istore_n 3, 1), (14, .aload_n 0, 1), (15, .iload_n 3, 1), (16, .iload_n 3, 1), (17, .ifCond .ne 16, 3), (20, .aload_n 0, 1), (21, .getfield 151, 3), (24, .bipush 8, 2), (26, .if_icmp .ne 7, 3), (29, .iconst 1, 1), (30, .goto 4, 3), (33, .iconst 0, 1), (34, .invokevirtual 97, 3), (37, .ifCond .eq 5, 3), (40, .iconst 0, 1), (41, .ireturn, 1), (42, .aload_n 0, 1), (43, .getfield 63, 3), (46, .aload_n 0, 1), (47, .getfield 151, 3), (50, .iload_n 1, 1), (51, .iastore, 1), (52, .aload_n 0, 1), (53, .getfield 75, 3), (56, .aload_n 0, 1), (57, .getfield 151, 3), (60, .iload_n 2, 1), (61, .bastore, 1), (62, .aload_n 0, 1), (63, .dup, 1)]
def mC_104_1 : List (Nat × Instr × Nat) := [(64, .getfield 151, 3), (67, .iconst 1, 1), (68, .iadd, 1), (69, .putfield 151, 3), (72, .aload_n 0, 1), (73, .getfield 151, 3), (76, .ireturn, 1)]
def mC_104 : List (List (Nat × Instr × Nat)) := [mC_104_0, mC_104_1]
/-- 105: TextVerbsModel.receiver(I)I -/
def mC_105_0 : List (Nat × Instr × Nat) := [(0, .aload_n 0, 1), (1, .iload_n 1, 1), (2, .invokevirtual 93, 3), (5, .ifCond .ne 7, 3), (8, .iconst 1, 1), (9, .goto 4, 3), (12, .iconst 0, 1), (13, .istore_n 2, 1), (14, .aload_n 0, 1), (15, .iload_n 2, 1), (16, .iload_n 2, 1), (17, .ifCond .ne 16, 3), (20, .aload_n 0, 1), (21, .getfield 154, 3), (24, .bipush 20, 2), (26, .if_icmp .ne 7, 3), (29, .iconst 1, 1), (30, .goto 4, 3), (33, .iconst 0, 1), (34, .invokevirtual 97, 3), (37, .ifCond .eq 5, 3), (40, .iconst 0, 1), (41, .ireturn, 1), (42, .aload_n 0, 1), (43, .getfield 66, 3), (46, .aload_n 0, 1), (47, .getfield 154, 3), (50, .iload_n 1, 1), (51, .iastore, 1), (52, .aload_n 0, 1), (53, .dup, 1), (54, .getfield 154, 3), (57, .iconst 1, 1), (58, .iadd, 1), (59, .putfield 154, 3), (62, .aload_n 0, 1), (63, .getfield 154, 3)]
def mC_105_1 : List (Nat × Instr × Nat) := [(66, .ireturn, 1)]
def mC_105 : List (List (Nat × Instr × Nat)) := [mC_105_0, mC_105_1]
/-- 106: TextVerbsModel.here(II)I -/
def mC_106_0 : List (Nat × Instr × Nat) := [(0, .iconst (-1), 1), (1, .istore_n 3, 1), (2, .aload_n 0, 1), (3, .getfield 151, 3), (6, .iconst 1, 1), (7, .isub, 1), (8, .istore 4, 2), (10, .iload 4, 2), (12, .ifCond .lt 42, 3), (15, .aload_n 0, 1), (16, .aload_n 0, 1), (17, .getfield 13, 3), (20, .aload_n 0, 1), (21, .getfield 63, 3), (24, .iload 4, 2), (26, .iaload, 1), (27, .iload_n 1, 1), (28, .iload_n 2, 1), (29, .aload_n 0, 1), (30, .getfield 16, 3), (33, .iload_n 1, 1), (34, .iaload, 1), (35, .invokevirtual 105, 3), (38, .ifCond .eq 8, 3), (41, .iload 4, 2), (43, .goto 4, 3), (46, .iload_n 3, 1), (47, .istore_n 3, 1), (48, .iinc 4 (-1), 3), (51, .goto (-41), 3), (54, .iload_n 3, 1), (55, .ireturn, 1)]
def mC_106 : List (List (Nat × Instr × Nat)) := [mC_106_0]
/-- 107: TextVerbsModel.move(IIII)V -/
def mC_107_0 : List (Nat × Instr × Nat) := [(0, .iconst 0, 1), (1, .istore 5, 2), (3, .iload 5, 2), (5, .aload_n 0, 1), (6, .getfield 16, 3), (9, .iload 4, 2), (11, .iaload, 1), (12, .if_icmp .ge 47, 3), (15, .aload_n 0, 1), (16, .getfield 7, 3), (19, .bipush 60, 2), (21, .iload 4, 2), (23, .imul, 1), (24, .iload 5, 2), (26, .iadd, 1), (27, .iload 5, 2), (29, .iload_n 3, 1), (30, .if_icmp .ge 20, 3), (33, .aload_n 0, 1), (34, .getfield 13, 3), (37, .bipush 60, 2), (39, .iload_n 1, 1), (40, .imul, 1), (41, .iload_n 2, 1), (42, .iadd, 1), (43, .iload 5, 2), (45, .iadd, 1), (46, .iaload, 1), (47, .goto 5, 3), (50, .bipush 32, 2), (52, .iastore, 1), (53, .iinc 5 1, 3), (56, .goto (-53), 3), (59, .return_, 1)]
def mC_107 : List (List (Nat × Instr × Nat)) := [mC_107_0]
/-- 108: TextVerbsModel.split(II)I -/
def mC_108_0 : List (Nat × Instr × Nat) := [(0, .aload_n 0, 1), (1, .aload_n 0, 1), (2, .iload_n 1, 1), (3, .invokevirtual 93, 3), (6, .ifCond .ne 7, 3), (9, .iconst 1, 1), (10, .goto 4, 3), (13, .iconst 0, 1), (14, .iconst 0, 1), (15, .invokevirtual 97, 3), (18, .ifCond .eq 5, 3), (21, .iconst 0, 1), (22, .ireturn, 1), (23, .aload_n 0, 1), (24, .invokevirtual 123, 3), (27, .iconst 0, 1), (28, .istore_n 3, 1), (29, .iload_n 3, 1), (30, .bipush 20, 2), (32, .if_icmp .ge 23, 3), (35, .aload_n 0, 1), (36, .getfield 69, 3), (39, .iload_n 3, 1), (40, .iconst (-1), 1), (41, .iastore, 1), (42, .aload_n 0, 1), (43, .getfield 72, 3), (46, .iload_n 3, 1), (47, .iconst (-1), 1), (48, .iastore, 1), (49, .iinc 3 1, 3), (52, .goto (-23), 3), (55, .iload_n 2, 1), (56, .iconst 1, 1), (57, .isub, 1), (58, .istore_n 3, 1), (59, .iload_n 2, 1), (60, .iconst 1, 1), (61, .if_icmp .lt 17, 3)]
def mC_108_1 : List (Nat × Instr × Nat) := [(64, .iload_n 2, 1), (65, .aload_n 0, 1), (66, .getfield 16, 3), (69, .iload_n 1, 1), (70, .iaload, 1), (71, .if_icmp .gt 7, 3), (74, .iconst 1, 1), (75, .goto 4, 3), (78, .iconst 0, 1), (79, .istore 4, 2), (81, .iconst 0, 1), (82, .istore 5, 2), (84, .iload 5, 2), (86, .aload_n 0, 1), (87, .getfield 154, 3), (90, .if_icmp .ge 259, 3), (93, .iload 4, 2), (95, .ifCond .eq 254, 3), (98, .iload_n 3, 1), (99, .aload_n 0, 1), (100, .getfield 16, 3), (103, .iload_n 1, 1), (104, .iaload, 1), (105, .if_icmp .ge 244, 3), (108, .iload_n 3, 1), (109, .istore 6, 2), (111, .iconst (-1), 1), (112, .istore 7, 2), (114, .aload_n 0, 1), (115, .getfield 151, 3), (118, .ifCond .ne 54, 3), (121, .iload_n 3, 1), (122, .aload_n 0, 1), (123, .getfield 16, 3), (126, .aload_n 0, 1), (127, .getfield 66, 3)]
def mC_108_2 : List (Nat × Instr × Nat) := [(130, .iload 5, 2), (132, .iaload, 1), (133, .iaload, 1), (134, .iadd, 1), (135, .aload_n 0, 1), (136, .getfield 16, 3), (139, .iload_n 1, 1), (140, .iaload, 1), (141, .if_icmp .ge 20, 3), (144, .iload_n 3, 1), (145, .aload_n 0, 1), (146, .getfield 16, 3), (149, .aload_n 0, 1), (150, .getfield 66, 3), (153, .iload 5, 2), (155, .iaload, 1), (156, .iaload, 1), (157, .iadd, 1), (158, .goto 9, 3), (161, .aload_n 0, 1), (162, .getfield 16, 3), (165, .iload_n 1, 1), (166, .iaload, 1), (167, .istore 6, 2), (169, .goto 55, 3), (172, .iload 6, 2), (174, .aload_n 0, 1), (175, .getfield 16, 3), (178, .iload_n 1, 1), (179, .iaload, 1), (180, .if_icmp .ge 20, 3), (183, .aload_n 0, 1), (184, .iload_n 1, 1), (185, .iload 6, 2), (187, .invokevirtual 157, 3), (190, .iconst (-1), 1), (191, .if_icmp .ne 9, 3)]
def mC_108_3 : List (Nat × Instr × Nat) := [(194, .iinc 6 1, 3), (197, .goto (-25), 3), (200, .iload 6, 2), (202, .aload_n 0, 1), (203, .getfield 16, 3), (206, .iload_n 1, 1), (207, .iaload, 1), (208, .if_icmp .ge 13, 3), (211, .aload_n 0, 1), (212, .iload_n 1, 1), (213, .iload 6, 2), (215, .invokevirtual 157, 3), (218, .goto 4, 3), (221, .iconst (-1), 1), (222, .istore 7, 2), (224, .aload_n 0, 1), (225, .iload_n 1, 1), (226, .iload_n 3, 1), (227, .iload 6, 2), (229, .iload_n 3, 1), (230, .isub, 1), (231, .aload_n 0, 1), (232, .getfield 66, 3), (235, .iload 5, 2), (237, .iaload, 1), (238, .invokevirtual 160, 3), (241, .aload_n 0, 1), (242, .getfield 69, 3), (245, .iload 5, 2), (247, .iload 6, 2), (249, .iload_n 3, 1), (250, .isub, 1), (251, .iastore, 1), (252, .aload_n 0, 1), (253, .getfield 72, 3)]
def mC_108_4 : List (Nat × Instr × Nat) := [(256, .iload 5, 2), (258, .iload 7, 2), (260, .iastore, 1), (261, .iload 6, 2), (263, .istore_n 3, 1), (264, .iload 7, 2), (266, .iconst (-1), 1), (267, .if_icmp .eq 7, 3), (270, .iconst 1, 1), (271, .goto 4, 3), (274, .iconst 0, 1), (275, .istore 8, 2), (277, .iload 8, 2), (279, .ifCond .eq 64, 3), (282, .iload_n 3, 1), (283, .aload_n 0, 1), (284, .getfield 16, 3), (287, .aload_n 0, 1), (288, .getfield 63, 3), (291, .iload 7, 2), (293, .iaload, 1), (294, .iaload, 1), (295, .iadd, 1), (296, .istore_n 3, 1), (297, .aload_n 0, 1), (298, .getfield 75, 3), (301, .iload 7, 2), (303, .baload, 1), (304, .ifCond .eq 33, 3), (307, .aload_n 0, 1), (308, .aload_n 0, 1), (309, .getfield 13, 3), (312, .aload_n 0, 1), (313, .getfield 63, 3), (316, .iload 7, 2), (318, .iaload, 1), (319, .iload_n 1, 1)]
def mC_108_5 : List (Nat × Instr × Nat) := [(320, .iload_n 3, 1), (321, .aload_n 0, 1), (322, .getfield 16, 3), (325, .iload_n 1, 1), (326, .iaload, 1), (327, .invokevirtual 105, 3), (330, .ifCond .eq 7, 3), (333, .iconst 1, 1), (334, .goto 4, 3), (337, .iconst 0, 1), (338, .istore 8, 2), (340, .goto (-63), 3), (343, .iinc 5 1, 3), (346, .goto (-262), 3), (349, .aload_n 0, 1), (350, .iconst 0, 1), (351, .putfield 151, 3), (354, .aload_n 0, 1), (355, .iconst 0, 1), (356, .putfield 154, 3), (359, .aload_n 0, 1), (360, .iload 4, 2), (362, .ifCond .eq 9, 3), (365, .iload_n 3, 1), (366, .iconst 1, 1), (367, .iadd, 1), (368, .goto 4, 3), (371, .iload_n 2, 1), (372, .putfield 148, 3), (375, .iload 4, 2), (377, .ifCond .eq 19, 3), (380, .iload_n 3, 1), (381, .aload_n 0, 1), (382, .getfield 16, 3)]
def mC_108_6 : List (Nat × Instr × Nat) := [(385, .iload_n 1, 1), (386, .iaload, 1), (387, .if_icmp .lt 9, 3), (390, .iload_n 3, 1), (391, .iconst 1, 1), (392, .iadd, 1), (393, .goto 4, 3), (396, .iconst (-1), 1), (397, .ireturn, 1)]
def mC_108 : List (List (Nat × Instr × Nat)) := [mC_108_0, mC_108_1, mC_108_2, mC_108_3, mC_108_4, mC_108_5, mC_108_6]
/-- 109: TextVerbsModel.result(II)I -/
def mC_109_0 : List (Nat × Instr × Nat) := [(0, .aload_n 0, 1), (1, .iconst 0, 1), (2, .putfield 87, 3), (5, .iload_n 1, 1), (6, .ifCond .lt 18, 3), (9, .iload_n 1, 1), (10, .bipush 20, 2), (12, .if_icmp .ge 12, 3), (15, .iload_n 2, 1), (16, .ifCond .lt 8, 3), (19, .iload_n 2, 1), (20, .iconst 1, 1), (21, .if_icmp .le 7, 3), (24, .iconst (-1), 1), (25, .goto 22, 3), (28, .iload_n 2, 1), (29, .ifCond .ne 12, 3), (32, .aload_n 0, 1), (33, .getfield 69, 3), (36, .iload_n 1, 1), (37, .iaload, 1), (38, .goto 9, 3), (41, .aload_n 0, 1), (42, .getfield 72, 3), (45, .iload_n 1, 1), (46, .iaload, 1), (47, .ireturn, 1)]
def mC_109 : List (List (Nat × Instr × Nat)) := [mC_109_0]
/-- 110: TextVerbsModel.pointer()I -/
def mC_110_0 : List (Nat × Instr × Nat) := [(0, .aload_n 0, 1), (1, .iconst 0, 1), (2, .putfield 87, 3), (5, .aload_n 0, 1), (6, .getfield 148, 3), (9, .ireturn, 1)]
def mC_110 : List (List (Nat × Instr × Nat)) := [mC_110_0]
/-- 111: TextVerbsModel.table(I)I -/
def mC_111_0 : List (Nat × Instr × Nat) := [(0, .iload_n 1, 1), (1, .iconst 1, 1), (2, .if_icmp .lt 9, 3), (5, .iload_n 1, 1), (6, .bipush 60, 2), (8, .if_icmp .le 7, 3), (11, .iconst 1, 1), (12, .goto 4, 3), (15, .iconst 0, 1), (16, .istore_n 2, 1), (17, .aload_n 0, 1), (18, .iload_n 2, 1), (19, .iload_n 2, 1), (20, .ifCond .ne 16, 3), (23, .aload_n 0, 1), (24, .getfield 164, 3), (27, .bipush 10, 2), (29, .if_icmp .ne 7, 3), (32, .iconst 1, 1), (33, .goto 4, 3), (36, .iconst 0, 1), (37, .invokevirtual 97, 3), (40, .ifCond .eq 5, 3), (43, .iconst 0, 1), (44, .ireturn, 1), (45, .aload_n 0, 1), (46, .getfield 81, 3), (49, .aload_n 0, 1), (50, .getfield 164, 3), (53, .iload_n 1, 1), (54, .iastore, 1), (55, .aload_n 0, 1), (56, .getfield 84, 3), (59, .aload_n 0, 1), (60, .getfield 164, 3), (63, .iconst 1, 1)]
def mC_111_1 : List (Nat × Instr × Nat) := [(64, .iastore, 1), (65, .aload_n 0, 1), (66, .dup, 1), (67, .getfield 164, 3), (70, .iconst 1, 1), (71, .iadd, 1), (72, .putfield 164, 3), (75, .aload_n 0, 1), (76, .getfield 164, 3), (79, .iconst 1, 1), (80, .isub, 1), (81, .ireturn, 1)]
def mC_111 : List (List (Nat × Instr × Nat)) := [mC_111_0, mC_111_1]
/-- 112: TextVerbsModel.isTable(I)Z -/
def mC_112_0 : List (Nat × Instr × Nat) := [(0, .iload_n 1, 1), (1, .ifCond .lt 15, 3), (4, .iload_n 1, 1), (5, .aload_n 0, 1), (6, .getfield 164, 3), (9, .if_icmp .ge 7, 3), (12, .iconst 1, 1), (13, .goto 4, 3), (16, .iconst 0, 1), (17, .ireturn, 1)]
def mC_112 : List (List (Nat × Instr × Nat)) := [mC_112_0]
/-- 113: TextVerbsModel.isRow(II)Z -/
def mC_113_0 : List (Nat × Instr × Nat) := [(0, .aload_n 0, 1), (1, .iload_n 1, 1), (2, .invokevirtual 167, 3), (5, .ifCond .eq 22, 3), (8, .iload_n 2, 1), (9, .iconst 1, 1), (10, .if_icmp .lt 17, 3), (13, .iload_n 2, 1), (14, .aload_n 0, 1), (15, .getfield 81, 3), (18, .iload_n 1, 1), (19, .iaload, 1), (20, .if_icmp .gt 7, 3), (23, .iconst 1, 1), (24, .goto 4, 3), (27, .iconst 0, 1), (28, .ireturn, 1)]
def mC_113 : List (List (Nat × Instr × Nat)) := [mC_113_0]
/-- 114: TextVerbsModel.row(III)I -/
def mC_114_0 : List (Nat × Instr × Nat) := [(0, .aload_n 0, 1), (1, .aload_n 0, 1), (2, .iload_n 1, 1), (3, .iload_n 2, 1), (4, .invokevirtual 170, 3), (7, .ifCond .ne 7, 3), (10, .iconst 1, 1), (11, .goto 4, 3), (14, .iconst 0, 1), (15, .iconst 0, 1), (16, .invokevirtual 97, 3), (19, .ifCond .eq 5, 3), (22, .iconst 0, 1), (23, .ireturn, 1), (24, .aload_n 0, 1), (25, .getfield 78, 3), (28, .bipush 60, 2), (30, .iload_n 1, 1), (31, .imul, 1), (32, .iload_n 2, 1), (33, .iadd, 1), (34, .iconst 1, 1), (35, .isub, 1), (36, .iaload, 1), (37, .istore 4, 2), (39, .aload_n 0, 1), (40, .getfield 78, 3), (43, .bipush 60, 2), (45, .iload_n 1, 1), (46, .imul, 1), (47, .iload_n 2, 1), (48, .iadd, 1), (49, .iconst 1, 1), (50, .isub, 1), (51, .iload_n 3, 1), (52, .iastore, 1), (53, .iload 4, 2), (55, .ireturn, 1)]
def mC_114 : List (List (Nat × Instr × Nat)) := [mC_114_0]
/-- 115: TextVerbsModel.index(II)I -/
def mC_115_0 : List (Nat × Instr × Nat) := [(0, .aload_n 0, 1), (1, .aload_n 0, 1), (2, .iload_n 1, 1), (3, .iload_n 2, 1), (4, .invokevirtual 170, 3), (7, .ifCond .ne 7, 3), (10, .iconst 1, 1), (11, .goto 4, 3), (14, .iconst 0, 1), (15, .iconst 0, 1), (16, .invokevirtual 97, 3), (19, .ifCond .eq 5, 3), (22, .iconst 0, 1), (23, .ireturn, 1), (24, .aload_n 0, 1), (25, .getfield 84, 3), (28, .iload_n 1, 1), (29, .iaload, 1), (30, .istore_n 3, 1), (31, .aload_n 0, 1), (32, .getfield 84, 3), (35, .iload_n 1, 1), (36, .iload_n 2, 1), (37, .iastore, 1), (38, .iload_n 3, 1), (39, .ireturn, 1)]
def mC_115 : List (List (Nat × Instr × Nat)) := [mC_115_0]
/-- 116: TextVerbsModel.search(IZI)I -/
def mC_116_0 : List (Nat × Instr × Nat) := [(0, .aload_n 0, 1), (1, .aload_n 0, 1), (2, .iload_n 1, 1), (3, .invokevirtual 167, 3), (6, .ifCond .ne 7, 3), (9, .iconst 1, 1), (10, .goto 4, 3), (13, .iconst 0, 1), (14, .iconst 0, 1), (15, .invokevirtual 97, 3), (18, .ifCond .eq 5, 3), (21, .iconst 0, 1), (22, .ireturn, 1), (23, .iconst 0, 1), (24, .istore 4, 2), (26, .iconst 1, 1), (27, .istore 5, 2), (29, .aload_n 0, 1), (30, .getfield 81, 3), (33, .iload_n 1, 1), (34, .iaload, 1), (35, .istore 6, 2), (37, .iload_n 2, 1), (38, .ifCond .eq 78, 3), (41, .iload 4, 2), (43, .ifCond .ne 73, 3), (46, .iload 5, 2), (48, .iload 6, 2), (50, .if_icmp .gt 66, 3), (53, .iload 5, 2), (55, .iload 6, 2), (57, .iadd, 1), (58, .iconst 2, 1), (59, .idiv, 1), (60, .istore 7, 2), (62, .aload_n 0, 1), (63, .getfield 78, 3)]
def mC_116_1 : List (Nat × Instr × Nat) := [(66, .bipush 60, 2), (68, .iload_n 1, 1), (69, .imul, 1), (70, .iload 7, 2), (72, .iadd, 1), (73, .iconst 1, 1), (74, .isub, 1), (75, .iaload, 1), (76, .istore 8, 2), (78, .iload 8, 2), (80, .iload_n 3, 1), (81, .if_icmp .ne 8, 3), (84, .iload 7, 2), (86, .goto 4, 3), (89, .iconst 0, 1), (90, .istore 4, 2), (92, .iload_n 3, 1), (93, .iload 8, 2), (95, .if_icmp .ge 12, 3), (98, .iload 7, 2), (100, .iconst 1, 1), (101, .isub, 1), (102, .istore 6, 2), (104, .goto 9, 3), (107, .iload 7, 2), (109, .iconst 1, 1), (110, .iadd, 1), (111, .istore 5, 2), (113, .goto (-76), 3), (116, .aload_n 0, 1), (117, .getfield 81, 3), (120, .iload_n 1, 1), (121, .iaload, 1), (122, .istore 7, 2), (124, .iload 7, 2), (126, .aload_n 0, 1), (127, .getfield 84, 3)]
def mC_116_2 : List (Nat × Instr × Nat) := [(130, .iload_n 1, 1), (131, .iaload, 1), (132, .if_icmp .lt 40, 3), (135, .iload_n 2, 1), (136, .ifCond .ne 36, 3), (139, .aload_n 0, 1), (140, .getfield 78, 3), (143, .bipush 60, 2), (145, .iload_n 1, 1), (146, .imul, 1), (147, .iload 7, 2), (149, .iadd, 1), (150, .iconst 1, 1), (151, .isub, 1), (152, .iaload, 1), (153, .iload_n 3, 1), (154, .if_icmp .ne 8, 3), (157, .iload 7, 2), (159, .goto 5, 3), (162, .iload 4, 2), (164, .istore 4, 2), (166, .iinc 7 (-1), 3), (169, .goto (-45), 3), (172, .iload 4, 2), (174, .ifCond .le 11, 3), (177, .aload_n 0, 1), (178, .getfield 84, 3), (181, .iload_n 1, 1), (182, .iload 4, 2), (184, .iastore, 1), (185, .iload 4, 2), (187, .ireturn, 1)]
def mC_116 : List (List (Nat × Instr × Nat)) := [mC_116_0, mC_116_1, mC_116_2]
/-- 117: TextVerbsModel.sort(IZ)V -/
def mC_117_0 : List (Nat × Instr × Nat) := [(0, .aload_n 0, 1), (1, .aload_n 0, 1), (2, .iload_n 1, 1), (3, .invokevirtual 167, 3), (6, .ifCond .ne 7, 3), (9, .iconst 1, 1), (10, .goto 4, 3), (13, .iconst 0, 1), (14, .iconst 0, 1), (15, .invokevirtual 97, 3), (18, .ifCond .eq 4, 3), (21, .return_, 1), (22, .iconst 1, 1), (23, .istore_n 3, 1), (24, .iload_n 3, 1), (25, .aload_n 0, 1), (26, .getfield 81, 3), (29, .iload_n 1, 1), (30, .iaload, 1), (31, .if_icmp .ge 132, 3), (34, .bipush 60, 2), (36, .iload_n 1, 1), (37, .imul, 1), (38, .istore 4, 2), (40, .iload 4, 2), (42, .bipush 60, 2), (44, .iload_n 1, 1), (45, .imul, 1), (46, .aload_n 0, 1), (47, .getfield 81, 3), (50, .iload_n 1, 1), (51, .iaload, 1), (52, .iadd, 1), (53, .iload_n 3, 1), (54, .isub, 1), (55, .if_icmp .ge 102, 3), (58, .aload_n 0, 1), (59, .getfield 78, 3), (62, .iload 4, 2)]
def mC_117_1 : List (Nat × Instr × Nat) := [(64, .iaload, 1), (65, .istore 5, 2), (67, .aload_n 0, 1), (68, .getfield 78, 3), (71, .iload 4, 2), (73, .iconst 1, 1), (74, .iadd, 1), (75, .iaload, 1), (76, .istore 6, 2), (78, .iload_n 2, 1), (79, .ifCond .eq 18, 3), (82, .iload 5, 2), (84, .iload 6, 2), (86, .if_icmp .ge 7, 3), (89, .iconst 1, 1), (90, .goto 19, 3), (93, .iconst 0, 1), (94, .goto 15, 3), (97, .iload 5, 2), (99, .iload 6, 2), (101, .if_icmp .le 7, 3), (104, .iconst 1, 1), (105, .goto 4, 3), (108, .iconst 0, 1), (109, .istore 7, 2), (111, .aload_n 0, 1), (112, .getfield 78, 3), (115, .iload 4, 2), (117, .iload 7, 2), (119, .ifCond .eq 8, 3), (122, .iload 6, 2), (124, .goto 5, 3), (127, .iload 5, 2)]
def mC_117_2 : List (Nat × Instr × Nat) := [(129, .iastore, 1), (130, .aload_n 0, 1), (131, .getfield 78, 3), (134, .iload 4, 2), (136, .iconst 1, 1), (137, .iadd, 1), (138, .iload 7, 2), (140, .ifCond .eq 8, 3), (143, .iload 5, 2), (145, .goto 5, 3), (148, .iload 6, 2), (150, .iastore, 1), (151, .iinc 4 1, 3), (154, .goto (-114), 3), (157, .iinc 3 1, 3), (160, .goto (-136), 3), (163, .return_, 1)]
def mC_117 : List (List (Nat × Instr × Nat)) := [mC_117_0, mC_117_1, mC_117_2]
/-- 118: TextVerbsLaw.text(LTextVerbs;I[J)I -/
def mC_118_0 : List (Nat × Instr × Nat) := [(0, .aload_n 2, 1), (1, .iconst 0, 1), (2, .aload_n 0, 1), (3, .iload_n 1, 1), (4, .invokevirtual 7, 3), (7, .i2l, 1), (8, .lastore, 1), (9, .goto 9, 3), (12, .astore_n 3, 1), (13, .iconst 1, 1), (14, .ireturn, 1), (15, .astore_n 3, 1), (16, .iconst 2, 1), (17, .ireturn, 1), (18, .iconst 0, 1), (19, .ireturn, 1)]
def mC_118 : List (List (Nat × Instr × Nat)) := [mC_118_0]
/-- 119: TextVerbsLaw.set(LTextVerbs;III)I -/
def mC_119_0 : List (Nat × Instr × Nat) := [(0, .aload_n 0, 1), (1, .iload_n 1, 1), (2, .iload_n 2, 1), (3, .iload_n 3, 1), (4, .invokevirtual 17, 3), (7, .goto 7, 3), (10, .astore 4, 2), (12, .iconst 1, 1), (13, .ireturn, 1), (14, .iconst 0, 1), (15, .ireturn, 1)]
def mC_119 : List (List (Nat × Instr × Nat)) := [mC_119_0]
/-- 120: TextVerbsLaw.at(LTextVerbs;II[J)I -/
def mC_120_0 : List (Nat × Instr × Nat) := [(0, .aload_n 3, 1), (1, .iconst 0, 1), (2, .aload_n 0, 1), (3, .iload_n 1, 1), (4, .iload_n 2, 1), (5, .invokevirtual 21, 3), (8, .i2l, 1), (9, .lastore, 1), (10, .goto 7, 3), (13, .astore 4, 2), (15, .iconst 1, 1), (16, .ireturn, 1), (17, .iconst 0, 1), (18, .ireturn, 1)]
def mC_120 : List (List (Nat × Instr × Nat)) := [mC_120_0]
/-- 121: TextVerbsLaw.span(LTextVerbs;ZI)I -/
def mC_121_0 : List (Nat × Instr × Nat) := [(0, .aload_n 0, 1), (1, .iload_n 1, 1), (2, .iload_n 2, 1), (3, .invokevirtual 25, 3), (6, .goto 6, 3), (9, .astore_n 3, 1), (10, .iconst 1, 1), (11, .ireturn, 1), (12, .iconst 0, 1), (13, .ireturn, 1)]
def mC_121 : List (List (Nat × Instr × Nat)) := [mC_121_0]
/-- 122: TextVerbsLaw.tally(LTextVerbs;III[J)I -/
def mC_122_0 : List (Nat × Instr × Nat) := [(0, .aload 4, 2), (2, .iconst 0, 1), (3, .aload_n 0, 1), (4, .iload_n 1, 1), (5, .iload_n 2, 1), (6, .iload_n 3, 1), (7, .invokevirtual 29, 3), (10, .i2l, 1), (11, .lastore, 1), (12, .goto 11, 3), (15, .astore 5, 2), (17, .iconst 1, 1), (18, .ireturn, 1), (19, .astore 5, 2), (21, .iconst 2, 1), (22, .ireturn, 1), (23, .iconst 0, 1), (24, .ireturn, 1)]
def mC_122 : List (List (Nat × Instr × Nat)) := [mC_122_0]
/-- 123: TextVerbsLaw.replace(LTextVerbs;III[J)I -/
def mC_123_0 : List (Nat × Instr × Nat) := [(0, .aload 4, 2), (2, .iconst 0, 1), (3, .aload_n 0, 1), (4, .iload_n 1, 1), (5, .iload_n 2, 1), (6, .iload_n 3, 1), (7, .invokevirtual 33, 3), (10, .i2l, 1), (11, .lastore, 1), (12, .goto 11, 3), (15, .astore 5, 2), (17, .iconst 1, 1), (18, .ireturn, 1), (19, .astore 5, 2), (21, .iconst 2, 1), (22, .ireturn, 1), (23, .iconst 0, 1), (24, .ireturn, 1)]
def mC_123 : List (List (Nat × Instr × Nat)) := [mC_123_0]
/-- 124: TextVerbsLaw.inspect(LTextVerbs;I[J)I -/
def mC_124_0 : List (Nat × Instr × Nat) := [(0, .aload_n 2, 1), (1, .iconst 0, 1), (2, .aload_n 0, 1), (3, .iload_n 1, 1), (4, .invokevirtual 36, 3), (7, .i2l, 1), (8, .lastore, 1), (9, .goto 6, 3), (12, .astore_n 3, 1), (13, .iconst 1, 1), (14, .ireturn, 1), (15, .iconst 0, 1), (16, .ireturn, 1)]
def mC_124 : List (List (Nat × Instr × Nat)) := [mC_124_0]
/-- 125: TextVerbsLaw.convert(LTextVerbs;III[J)I -/
def mC_125_0 : List (Nat × Instr × Nat) := [(0, .aload 4, 2), (2, .iconst 0, 1), (3, .aload_n 0, 1), (4, .iload_n 1, 1), (5, .iload_n 2, 1), (6, .iload_n 3, 1), (7, .invokevirtual 39, 3), (10, .i2l, 1), (11, .lastore, 1), (12, .goto 7, 3), (15, .astore 5, 2), (17, .iconst 1, 1), (18, .ireturn, 1), (19, .iconst 0, 1), (20, .ireturn, 1)]
def mC_125 : List (List (Nat × Instr × Nat)) := [mC_125_0]
/-- 126: TextVerbsLaw.counter(LTextVerbs;I[J)I -/
def mC_126_0 : List (Nat × Instr × Nat) := [(0, .aload_n 2, 1), (1, .iconst 0, 1), (2, .aload_n 0, 1), (3, .iload_n 1, 1), (4, .invokevirtual 42, 3), (7, .i2l, 1), (8, .lastore, 1), (9, .goto 6, 3), (12, .astore_n 3, 1), (13, .iconst 1, 1), (14, .ireturn, 1), (15, .iconst 0, 1), (16, .ireturn, 1)]
def mC_126 : List (List (Nat × Instr × Nat)) := [mC_126_0]
/-- 127: TextVerbsLaw.part(LTextVerbs;II[J)I -/
def mC_127_0 : List (Nat × Instr × Nat) := [(0, .aload_n 3, 1), (1, .iconst 0, 1), (2, .aload_n 0, 1), (3, .iload_n 1, 1), (4, .iload_n 2, 1), (5, .invokevirtual 45, 3), (8, .i2l, 1), (9, .lastore, 1), (10, .goto 11, 3), (13, .astore 4, 2), (15, .iconst 1, 1), (16, .ireturn, 1), (17, .astore 4, 2), (19, .iconst 2, 1), (20, .ireturn, 1), (21, .iconst 0, 1), (22, .ireturn, 1)]
def mC_127 : List (List (Nat × Instr × Nat)) := [mC_127_0]
/-- 128: TextVerbsLaw.join(LTextVerbs;II[J)I -/
def mC_128_0 : List (Nat × Instr × Nat) := [(0, .aload_n 3, 1), (1, .iconst 0, 1), (2, .aload_n 0, 1), (3, .iload_n 1, 1), (4, .iload_n 2, 1), (5, .invokevirtual 48, 3), (8, .i2l, 1), (9, .lastore, 1), (10, .goto 7, 3), (13, .astore 4, 2), (15, .iconst 1, 1), (16, .ireturn, 1), (17, .iconst 0, 1), (18, .ireturn, 1)]
def mC_128 : List (List (Nat × Instr × Nat)) := [mC_128_0]
/-- 129: TextVerbsLaw.delimiter(LTextVerbs;IZ[J)I -/
def mC_129_0 : List (Nat × Instr × Nat) := [(0, .aload_n 3, 1), (1, .iconst 0, 1), (2, .aload_n 0, 1), (3, .iload_n 1, 1), (4, .iload_n 2, 1), (5, .invokevirtual 51, 3), (8, .i2l, 1), (9, .lastore, 1), (10, .goto 11, 3), (13, .astore 4, 2), (15, .iconst 1, 1), (16, .ireturn, 1), (17, .astore 4, 2), (19, .iconst 2, 1), (20, .ireturn, 1), (21, .iconst 0, 1), (22, .ireturn, 1)]
def mC_129 : List (List (Nat × Instr × Nat)) := [mC_129_0]
/-- 130: TextVerbsLaw.receiver(LTextVerbs;I[J)I -/
def mC_130_0 : List (Nat × Instr × Nat) := [(0, .aload_n 2, 1), (1, .iconst 0, 1), (2, .aload_n 0, 1), (3, .iload_n 1, 1), (4, .invokevirtual 55, 3), (7, .i2l, 1), (8, .lastore, 1), (9, .goto 9, 3), (12, .astore_n 3, 1), (13, .iconst 1, 1), (14, .ireturn, 1), (15, .astore_n 3, 1), (16, .iconst 2, 1), (17, .ireturn, 1), (18, .iconst 0, 1), (19, .ireturn, 1)]
def mC_130 : List (List (Nat × Instr × Nat)) := [mC_130_0]
/-- 131: TextVerbsLaw.split(LTextVerbs;II[J)I -/
def mC_131_0 : List (Nat × Instr × Nat) := [(0, .aload_n 3, 1), (1, .iconst 0, 1), (2, .aload_n 0, 1), (3, .iload_n 1, 1), (4, .iload_n 2, 1), (5, .invokevirtual 58, 3), (8, .i2l, 1), (9, .lastore, 1), (10, .goto 7, 3), (13, .astore 4, 2), (15, .iconst 1, 1), (16, .ireturn, 1), (17, .iconst 0, 1), (18, .ireturn, 1)]
def mC_131 : List (List (Nat × Instr × Nat)) := [mC_131_0]
/-- 132: TextVerbsLaw.table(LTextVerbs;I[J)I -/
def mC_132_0 : List (Nat × Instr × Nat) := [(0, .aload_n 2, 1), (1, .iconst 0, 1), (2, .aload_n 0, 1), (3, .iload_n 1, 1), (4, .invokevirtual 61, 3), (7, .i2l, 1), (8, .lastore, 1), (9, .goto 9, 3), (12, .astore_n 3, 1), (13, .iconst 1, 1), (14, .ireturn, 1), (15, .astore_n 3, 1), (16, .iconst 2, 1), (17, .ireturn, 1), (18, .iconst 0, 1), (19, .ireturn, 1)]
def mC_132 : List (List (Nat × Instr × Nat)) := [mC_132_0]
/-- 133: TextVerbsLaw.row(LTextVerbs;III[J)I -/
def mC_133_0 : List (Nat × Instr × Nat) := [(0, .aload 4, 2), (2, .iconst 0, 1), (3, .aload_n 0, 1), (4, .iload_n 1, 1), (5, .iload_n 2, 1), (6, .iload_n 3, 1), (7, .invokevirtual 64, 3), (10, .i2l, 1), (11, .lastore, 1), (12, .goto 7, 3), (15, .astore 5, 2), (17, .iconst 1, 1), (18, .ireturn, 1), (19, .iconst 0, 1), (20, .ireturn, 1)]
def mC_133 : List (List (Nat × Instr × Nat)) := [mC_133_0]
/-- 134: TextVerbsLaw.index(LTextVerbs;II[J)I -/
def mC_134_0 : List (Nat × Instr × Nat) := [(0, .aload_n 3, 1), (1, .iconst 0, 1), (2, .aload_n 0, 1), (3, .iload_n 1, 1), (4, .iload_n 2, 1), (5, .invokevirtual 67, 3), (8, .i2l, 1), (9, .lastore, 1), (10, .goto 7, 3), (13, .astore 4, 2), (15, .iconst 1, 1), (16, .ireturn, 1), (17, .iconst 0, 1), (18, .ireturn, 1)]
def mC_134 : List (List (Nat × Instr × Nat)) := [mC_134_0]
/-- 135: TextVerbsLaw.search(LTextVerbs;IZI[J)I -/
def mC_135_0 : List (Nat × Instr × Nat) := [(0, .aload 4, 2), (2, .iconst 0, 1), (3, .aload_n 0, 1), (4, .iload_n 1, 1), (5, .iload_n 2, 1), (6, .iload_n 3, 1), (7, .invokevirtual 70, 3), (10, .i2l, 1), (11, .lastore, 1), (12, .goto 7, 3), (15, .astore 5, 2), (17, .iconst 1, 1), (18, .ireturn, 1), (19, .iconst 0, 1), (20, .ireturn, 1)]
def mC_135 : List (List (Nat × Instr × Nat)) := [mC_135_0]
/-- 136: TextVerbsLaw.sort(LTextVerbs;IZ)I -/
def mC_136_0 : List (Nat × Instr × Nat) := [(0, .aload_n 0, 1), (1, .iload_n 1, 1), (2, .iload_n 2, 1), (3, .invokevirtual 74, 3), (6, .goto 6, 3), (9, .astore_n 3, 1), (10, .iconst 1, 1), (11, .ireturn, 1), (12, .iconst 0, 1), (13, .ireturn, 1)]
def mC_136 : List (List (Nat × Instr × Nat)) := [mC_136_0]
/-- 137: TextVerbsLaw.law([I)Z -/
def mC_137_0 : List (Nat × Instr × Nat) := [(0, .new 8, 3), (3, .dup, 1), (4, .invokespecial 78, 3), (7, .astore_n 1, 1), (8, .new 79, 3), (11, .dup, 1), (12, .invokespecial 81, 3), (15, .astore_n 2, 1), (16, .iconst 1, 1), (17, .newarray .long, 2), (19, .astore_n 3, 1), (20, .iconst 0, 1), (21, .istore 4, 2), (23, .iload 4, 2), (25, .aload_n 0, 1), (26, .arraylength, 1), (27, .iconst 4, 1), (28, .isub, 1), (29, .if_icmp .gt 1471, 3), (32, .aload_n 0, 1), (33, .iload 4, 2), (35, .iaload, 1), (36, .bipush 31, 2), (38, .iand, 1), (39, .tableswitch 1455 0 20 #[97, 153, 213, 281, 345, 425, 505, 561, 641, 697, 765, 833, 917, 973, 1041, 1078, 1091, 1147, 1227, 1295, 1391], 97)]
def mC_137_2 : List (Nat × Instr × Nat) := [(136, .aload_n 1, 1), (137, .aload_n 0, 1), (138, .iload 4, 2), (140, .iconst 1, 1), (141, .iadd, 1), (142, .iaload, 1), (143, .aload_n 3, 1), (144, .invokestatic 82, 3), (147, .istore 5, 2), (149, .aload_n 2, 1), (150, .aload_n 0, 1), (151, .iload 4, 2), (153, .iconst 1, 1), (154, .iadd, 1), (155, .iaload, 1), (156, .invokevirtual 87, 3), (159, .istore 6, 2), (161, .aload_n 2, 1), (162, .invokevirtual 88, 3), (165, .iload 5, 2), (167, .if_icmp .eq 5, 3), (170, .iconst 0, 1), (171, .ireturn, 1), (172, .iload 5, 2), (174, .ifCond .ne 15, 3), (177, .aload_n 3, 1), (178, .iconst 0, 1), (179, .laload, 1), (180, .iload 6, 2), (182, .i2l, 1), (183, .lcmp, 1), (184, .ifCond .eq 5, 3), (187, .iconst 0, 1), (188, .ireturn, 1), (189, .goto 1305, 3)]
def mC_137_3 : List (Nat × Instr × Nat) := [(192, .aload_n 1, 1), (193, .aload_n 0, 1), (194, .iload 4, 2), (196, .iconst 1, 1), (197, .iadd, 1), (198, .iaload, 1), (199, .aload_n 0, 1), (200, .iload 4, 2), (202, .iconst 2, 1), (203, .iadd, 1), (204, .iaload, 1), (205, .aload_n 0, 1), (206, .iload 4, 2), (208, .iconst 3, 1), (209, .iadd, 1), (210, .iaload, 1), (211, .invokestatic 92, 3), (214, .istore 5, 2), (216, .aload_n 2, 1), (217, .aload_n 0, 1), (218, .iload 4, 2), (220, .iconst 1, 1), (221, .iadd, 1), (222, .iaload, 1), (223, .aload_n 0, 1), (224, .iload 4, 2), (226, .iconst 2, 1), (227, .iadd, 1), (228, .iaload, 1), (229, .aload_n 0, 1), (230, .iload 4, 2), (232, .iconst 3, 1), (233, .iadd, 1), (234, .iaload, 1), (235, .invokevirtual 95, 3), (238, .aload_n 2, 1), (239, .invokevirtual 88, 3), (242, .iload 5, 2), (244, .if_icmp .eq 5, 3), (247, .iconst 0, 1), (248, .ireturn, 1), (249, .goto 1245, 3), (252, .aload_n 1, 1), (253, .aload_n 0, 1), (254, .iload 4, 2)]
def mC_137_4 : List (Nat × Instr × Nat) := [(256, .iconst 1, 1), (257, .iadd, 1), (258, .iaload, 1), (259, .aload_n 0, 1), (260, .iload 4, 2), (262, .iconst 2, 1), (263, .iadd, 1), (264, .iaload, 1), (265, .aload_n 3, 1), (266, .invokestatic 96, 3), (269, .istore 5, 2), (271, .aload_n 2, 1), (272, .aload_n 0, 1), (273, .iload 4, 2), (275, .iconst 1, 1), (276, .iadd, 1), (277, .iaload, 1), (278, .aload_n 0, 1), (279, .iload 4, 2), (281, .iconst 2, 1), (282, .iadd, 1), (283, .iaload, 1), (284, .invokevirtual 99, 3), (287, .istore 6, 2), (289, .aload_n 2, 1), (290, .invokevirtual 88, 3), (293, .iload 5, 2), (295, .if_icmp .eq 5, 3), (298, .iconst 0, 1), (299, .ireturn, 1), (300, .iload 5, 2), (302, .ifCond .ne 15, 3), (305, .aload_n 3, 1), (306, .iconst 0, 1), (307, .laload, 1), (308, .iload 6, 2), (310, .i2l, 1), (311, .lcmp, 1), (312, .ifCond .eq 5, 3), (315, .iconst 0, 1), (316, .ireturn, 1), (317, .goto 1177, 3)]
def mC_137_5 : List (Nat × Instr × Nat) := [(320, .aload_n 1, 1), (321, .aload_n 0, 1), (322, .iload 4, 2), (324, .iconst 1, 1), (325, .iadd, 1), (326, .iaload, 1), (327, .ifCond .eq 7, 3), (330, .iconst 1, 1), (331, .goto 4, 3), (334, .iconst 0, 1), (335, .aload_n 0, 1), (336, .iload 4, 2), (338, .iconst 2, 1), (339, .iadd, 1), (340, .iaload, 1), (341, .invokestatic 100, 3), (344, .istore 5, 2), (346, .aload_n 2, 1), (347, .aload_n 0, 1), (348, .iload 4, 2), (350, .iconst 1, 1), (351, .iadd, 1), (352, .iaload, 1), (353, .ifCond .eq 7, 3), (356, .iconst 1, 1), (357, .goto 4, 3), (360, .iconst 0, 1), (361, .aload_n 0, 1), (362, .iload 4, 2), (364, .iconst 2, 1), (365, .iadd, 1), (366, .iaload, 1), (367, .invokevirtual 103, 3), (370, .aload_n 2, 1), (371, .invokevirtual 88, 3), (374, .iload 5, 2), (376, .if_icmp .eq 5, 3), (379, .iconst 0, 1), (380, .ireturn, 1), (381, .goto 1113, 3)]
def mC_137_6 : List (Nat × Instr × Nat) := [(384, .aload_n 1, 1), (385, .aload_n 0, 1), (386, .iload 4, 2), (388, .iconst 1, 1), (389, .iadd, 1), (390, .iaload, 1), (391, .aload_n 0, 1), (392, .iload 4, 2), (394, .iconst 2, 1), (395, .iadd, 1), (396, .iaload, 1), (397, .aload_n 0, 1), (398, .iload 4, 2), (400, .iconst 3, 1), (401, .iadd, 1), (402, .iaload, 1), (403, .aload_n 3, 1), (404, .invokestatic 104, 3), (407, .istore 5, 2), (409, .aload_n 2, 1), (410, .aload_n 0, 1), (411, .iload 4, 2), (413, .iconst 1, 1), (414, .iadd, 1), (415, .iaload, 1), (416, .aload_n 0, 1), (417, .iload 4, 2), (419, .iconst 2, 1), (420, .iadd, 1), (421, .iaload, 1), (422, .aload_n 0, 1), (423, .iload 4, 2), (425, .iconst 3, 1), (426, .iadd, 1), (427, .iaload, 1), (428, .invokevirtual 107, 3), (431, .istore 6, 2), (433, .aload_n 2, 1), (434, .invokevirtual 88, 3), (437, .iload 5, 2), (439, .if_icmp .eq 5, 3), (442, .iconst 0, 1), (443, .ireturn, 1), (444, .iload 5, 2), (446, .ifCond .ne 15, 3)]
def mC_137_7 : List (Nat × Instr × Nat) := [(449, .aload_n 3, 1), (450, .iconst 0, 1), (451, .laload, 1), (452, .iload 6, 2), (454, .i2l, 1), (455, .lcmp, 1), (456, .ifCond .eq 5, 3), (459, .iconst 0, 1), (460, .ireturn, 1), (461, .goto 1033, 3), (464, .aload_n 1, 1), (465, .aload_n 0, 1), (466, .iload 4, 2), (468, .iconst 1, 1), (469, .iadd, 1), (470, .iaload, 1), (471, .aload_n 0, 1), (472, .iload 4, 2), (474, .iconst 2, 1), (475, .iadd, 1), (476, .iaload, 1), (477, .aload_n 0, 1), (478, .iload 4, 2), (480, .iconst 3, 1), (481, .iadd, 1), (482, .iaload, 1), (483, .aload_n 3, 1), (484, .invokestatic 108, 3), (487, .istore 5, 2), (489, .aload_n 2, 1), (490, .aload_n 0, 1), (491, .iload 4, 2), (493, .iconst 1, 1), (494, .iadd, 1), (495, .iaload, 1), (496, .aload_n 0, 1), (497, .iload 4, 2), (499, .iconst 2, 1), (500, .iadd, 1), (501, .iaload, 1), (502, .aload_n 0, 1), (503, .iload 4, 2), (505, .iconst 3, 1), (506, .iadd, 1), (507, .iaload, 1), (508, .invokevirtual 110, 3), (511, .istore 6, 2)]
def mC_137_8 : List (Nat × Instr × Nat) := [(513, .aload_n 2, 1), (514, .invokevirtual 88, 3), (517, .iload 5, 2), (519, .if_icmp .eq 5, 3), (522, .iconst 0, 1), (523, .ireturn, 1), (524, .iload 5, 2), (526, .ifCond .ne 15, 3), (529, .aload_n 3, 1), (530, .iconst 0, 1), (531, .laload, 1), (532, .iload 6, 2), (534, .i2l, 1), (535, .lcmp, 1), (536, .ifCond .eq 5, 3), (539, .iconst 0, 1), (540, .ireturn, 1), (541, .goto 953, 3), (544, .aload_n 1, 1), (545, .aload_n 0, 1), (546, .iload 4, 2), (548, .iconst 1, 1), (549, .iadd, 1), (550, .iaload, 1), (551, .aload_n 3, 1), (552, .invokestatic 111, 3), (555, .istore 5, 2), (557, .aload_n 2, 1), (558, .aload_n 0, 1), (559, .iload 4, 2), (561, .iconst 1, 1), (562, .iadd, 1), (563, .iaload, 1), (564, .invokevirtual 113, 3), (567, .istore 6, 2), (569, .aload_n 2, 1), (570, .invokevirtual 88, 3), (573, .iload 5, 2), (575, .if_icmp .eq 5, 3)]
def mC_137_9 : List (Nat × Instr × Nat) := [(578, .iconst 0, 1), (579, .ireturn, 1), (580, .iload 5, 2), (582, .ifCond .ne 15, 3), (585, .aload_n 3, 1), (586, .iconst 0, 1), (587, .laload, 1), (588, .iload 6, 2), (590, .i2l, 1), (591, .lcmp, 1), (592, .ifCond .eq 5, 3), (595, .iconst 0, 1), (596, .ireturn, 1), (597, .goto 897, 3), (600, .aload_n 1, 1), (601, .aload_n 0, 1), (602, .iload 4, 2), (604, .iconst 1, 1), (605, .iadd, 1), (606, .iaload, 1), (607, .aload_n 0, 1), (608, .iload 4, 2), (610, .iconst 2, 1), (611, .iadd, 1), (612, .iaload, 1), (613, .aload_n 0, 1), (614, .iload 4, 2), (616, .iconst 3, 1), (617, .iadd, 1), (618, .iaload, 1), (619, .aload_n 3, 1), (620, .invokestatic 114, 3), (623, .istore 5, 2), (625, .aload_n 2, 1), (626, .aload_n 0, 1), (627, .iload 4, 2), (629, .iconst 1, 1), (630, .iadd, 1), (631, .iaload, 1), (632, .aload_n 0, 1), (633, .iload 4, 2), (635, .iconst 2, 1), (636, .iadd, 1), (637, .iaload, 1), (638, .aload_n 0, 1), (639, .iload 4, 2)]
def mC_137_10 : List (Nat × Instr × Nat) := [(641, .iconst 3, 1), (642, .iadd, 1), (643, .iaload, 1), (644, .invokevirtual 116, 3), (647, .istore 6, 2), (649, .aload_n 2, 1), (650, .invokevirtual 88, 3), (653, .iload 5, 2), (655, .if_icmp .eq 5, 3), (658, .iconst 0, 1), (659, .ireturn, 1), (660, .iload 5, 2), (662, .ifCond .ne 15, 3), (665, .aload_n 3, 1), (666, .iconst 0, 1), (667, .laload, 1), (668, .iload 6, 2), (670, .i2l, 1), (671, .lcmp, 1), (672, .ifCond .eq 5, 3), (675, .iconst 0, 1), (676, .ireturn, 1), (677, .goto 817, 3), (680, .aload_n 1, 1), (681, .aload_n 0, 1), (682, .iload 4, 2), (684, .iconst 1, 1), (685, .iadd, 1), (686, .iaload, 1), (687, .aload_n 3, 1), (688, .invokestatic 117, 3), (691, .istore 5, 2), (693, .aload_n 2, 1), (694, .aload_n 0, 1), (695, .iload 4, 2), (697, .iconst 1, 1), (698, .iadd, 1), (699, .iaload, 1), (700, .invokevirtual 119, 3), (703, .istore 6, 2)]
def mC_137_11 : List (Nat × Instr × Nat) := [(705, .aload_n 2, 1), (706, .invokevirtual 88, 3), (709, .iload 5, 2), (711, .if_icmp .eq 5, 3), (714, .iconst 0, 1), (715, .ireturn, 1), (716, .iload 5, 2), (718, .ifCond .ne 15, 3), (721, .aload_n 3, 1), (722, .iconst 0, 1), (723, .laload, 1), (724, .iload 6, 2), (726, .i2l, 1), (727, .lcmp, 1), (728, .ifCond .eq 5, 3), (731, .iconst 0, 1), (732, .ireturn, 1), (733, .goto 761, 3), (736, .aload_n 1, 1), (737, .aload_n 0, 1), (738, .iload 4, 2), (740, .iconst 1, 1), (741, .iadd, 1), (742, .iaload, 1), (743, .aload_n 0, 1), (744, .iload 4, 2), (746, .iconst 2, 1), (747, .iadd, 1), (748, .iaload, 1), (749, .aload_n 3, 1), (750, .invokestatic 120, 3), (753, .istore 5, 2), (755, .aload_n 2, 1), (756, .aload_n 0, 1), (757, .iload 4, 2), (759, .iconst 1, 1), (760, .iadd, 1), (761, .iaload, 1), (762, .aload_n 0, 1), (763, .iload 4, 2), (765, .iconst 2, 1), (766, .iadd, 1), (767, .iaload, 1)]
def mC_137_12 : List (Nat × Instr × Nat) := [(768, .invokevirtual 122, 3), (771, .istore 6, 2), (773, .aload_n 2, 1), (774, .invokevirtual 88, 3), (777, .iload 5, 2), (779, .if_icmp .eq 5, 3), (782, .iconst 0, 1), (783, .ireturn, 1), (784, .iload 5, 2), (786, .ifCond .ne 15, 3), (789, .aload_n 3, 1), (790, .iconst 0, 1), (791, .laload, 1), (792, .iload 6, 2), (794, .i2l, 1), (795, .lcmp, 1), (796, .ifCond .eq 5, 3), (799, .iconst 0, 1), (800, .ireturn, 1), (801, .goto 693, 3), (804, .aload_n 1, 1), (805, .aload_n 0, 1), (806, .iload 4, 2), (808, .iconst 1, 1), (809, .iadd, 1), (810, .iaload, 1), (811, .aload_n 0, 1), (812, .iload 4, 2), (814, .iconst 2, 1), (815, .iadd, 1), (816, .iaload, 1), (817, .aload_n 3, 1), (818, .invokestatic 123, 3), (821, .istore 5, 2), (823, .aload_n 2, 1), (824, .aload_n 0, 1), (825, .iload 4, 2), (827, .iconst 1, 1), (828, .iadd, 1), (829, .iaload, 1), (830, .aload_n 0, 1), (831, .iload 4, 2)]
def mC_137_13 : List (Nat × Instr × Nat) := [(833, .iconst 2, 1), (834, .iadd, 1), (835, .iaload, 1), (836, .invokevirtual 125, 3), (839, .istore 6, 2), (841, .aload_n 2, 1), (842, .invokevirtual 88, 3), (845, .iload 5, 2), (847, .if_icmp .eq 5, 3), (850, .iconst 0, 1), (851, .ireturn, 1), (852, .iload 5, 2), (854, .ifCond .ne 15, 3), (857, .aload_n 3, 1), (858, .iconst 0, 1), (859, .laload, 1), (860, .iload 6, 2), (862, .i2l, 1), (863, .lcmp, 1), (864, .ifCond .eq 5, 3), (867, .iconst 0, 1), (868, .ireturn, 1), (869, .goto 625, 3), (872, .aload_n 1, 1), (873, .aload_n 0, 1), (874, .iload 4, 2), (876, .iconst 1, 1), (877, .iadd, 1), (878, .iaload, 1), (879, .aload_n 0, 1), (880, .iload 4, 2), (882, .iconst 2, 1), (883, .iadd, 1), (884, .iaload, 1), (885, .ifCond .eq 7, 3), (888, .iconst 1, 1), (889, .goto 4, 3), (892, .iconst 0, 1), (893, .aload_n 3, 1), (894, .invokestatic 126, 3)]
def mC_137_14 : List (Nat × Instr × Nat) := [(897, .istore 5, 2), (899, .aload_n 2, 1), (900, .aload_n 0, 1), (901, .iload 4, 2), (903, .iconst 1, 1), (904, .iadd, 1), (905, .iaload, 1), (906, .aload_n 0, 1), (907, .iload 4, 2), (909, .iconst 2, 1), (910, .iadd, 1), (911, .iaload, 1), (912, .ifCond .eq 7, 3), (915, .iconst 1, 1), (916, .goto 4, 3), (919, .iconst 0, 1), (920, .invokevirtual 129, 3), (923, .istore 6, 2), (925, .aload_n 2, 1), (926, .invokevirtual 88, 3), (929, .iload 5, 2), (931, .if_icmp .eq 5, 3), (934, .iconst 0, 1), (935, .ireturn, 1), (936, .iload 5, 2), (938, .ifCond .ne 15, 3), (941, .aload_n 3, 1), (942, .iconst 0, 1), (943, .laload, 1), (944, .iload 6, 2), (946, .i2l, 1), (947, .lcmp, 1), (948, .ifCond .eq 5, 3), (951, .iconst 0, 1), (952, .ireturn, 1), (953, .goto 541, 3), (956, .aload_n 1, 1), (957, .aload_n 0, 1), (958, .iload 4, 2)]
def mC_137_15 : List (Nat × Instr × Nat) := [(960, .iconst 1, 1), (961, .iadd, 1), (962, .iaload, 1), (963, .aload_n 3, 1), (964, .invokestatic 130, 3), (967, .istore 5, 2), (969, .aload_n 2, 1), (970, .aload_n 0, 1), (971, .iload 4, 2), (973, .iconst 1, 1), (974, .iadd, 1), (975, .iaload, 1), (976, .invokevirtual 132, 3), (979, .istore 6, 2), (981, .aload_n 2, 1), (982, .invokevirtual 88, 3), (985, .iload 5, 2), (987, .if_icmp .eq 5, 3), (990, .iconst 0, 1), (991, .ireturn, 1), (992, .iload 5, 2), (994, .ifCond .ne 15, 3), (997, .aload_n 3, 1), (998, .iconst 0, 1), (999, .laload, 1), (1000, .iload 6, 2), (1002, .i2l, 1), (1003, .lcmp, 1), (1004, .ifCond .eq 5, 3), (1007, .iconst 0, 1), (1008, .ireturn, 1), (1009, .goto 485, 3), (1012, .aload_n 1, 1), (1013, .aload_n 0, 1), (1014, .iload 4, 2), (1016, .iconst 1, 1), (1017, .iadd, 1), (1018, .iaload, 1), (1019, .aload_n 0, 1), (1020, .iload 4, 2), (1022, .iconst 2, 1), (1023, .iadd, 1)]
def mC_137_16 : List (Nat × Instr × Nat) := [(1024, .iaload, 1), (1025, .aload_n 3, 1), (1026, .invokestatic 133, 3), (1029, .istore 5, 2), (1031, .aload_n 2, 1), (1032, .aload_n 0, 1), (1033, .iload 4, 2), (1035, .iconst 1, 1), (1036, .iadd, 1), (1037, .iaload, 1), (1038, .aload_n 0, 1), (1039, .iload 4, 2), (1041, .iconst 2, 1), (1042, .iadd, 1), (1043, .iaload, 1), (1044, .invokevirtual 135, 3), (1047, .istore 6, 2), (1049, .aload_n 2, 1), (1050, .invokevirtual 88, 3), (1053, .iload 5, 2), (1055, .if_icmp .eq 5, 3), (1058, .iconst 0, 1), (1059, .ireturn, 1), (1060, .iload 5, 2), (1062, .ifCond .ne 15, 3), (1065, .aload_n 3, 1), (1066, .iconst 0, 1), (1067, .laload, 1), (1068, .iload 6, 2), (1070, .i2l, 1), (1071, .lcmp, 1), (1072, .ifCond .eq 5, 3), (1075, .iconst 0, 1), (1076, .ireturn, 1), (1077, .goto 417, 3), (1080, .aload_n 1, 1), (1081, .aload_n 0, 1), (1082, .iload 4, 2), (1084, .iconst 1, 1), (1085, .iadd, 1), (1086, .iaload, 1), (1087, .aload_n 0, 1)]
def mC_137_17 : List (Nat × Instr × Nat) := [(1088, .iload 4, 2), (1090, .iconst 2, 1), (1091, .iadd, 1), (1092, .iaload, 1), (1093, .invokevirtual 136, 3), (1096, .aload_n 2, 1), (1097, .aload_n 0, 1), (1098, .iload 4, 2), (1100, .iconst 1, 1), (1101, .iadd, 1), (1102, .iaload, 1), (1103, .aload_n 0, 1), (1104, .iload 4, 2), (1106, .iconst 2, 1), (1107, .iadd, 1), (1108, .iaload, 1), (1109, .invokevirtual 139, 3), (1112, .if_icmp .eq 382, 3), (1115, .iconst 0, 1), (1116, .ireturn, 1), (1117, .aload_n 1, 1), (1118, .invokevirtual 140, 3), (1121, .aload_n 2, 1), (1122, .invokevirtual 143, 3), (1125, .if_icmp .eq 369, 3), (1128, .iconst 0, 1), (1129, .ireturn, 1), (1130, .aload_n 1, 1), (1131, .aload_n 0, 1), (1132, .iload 4, 2), (1134, .iconst 1, 1), (1135, .iadd, 1), (1136, .iaload, 1), (1137, .aload_n 3, 1), (1138, .invokestatic 144, 3), (1141, .istore 5, 2), (1143, .aload_n 2, 1), (1144, .aload_n 0, 1), (1145, .iload 4, 2), (1147, .iconst 1, 1), (1148, .iadd, 1), (1149, .iaload, 1), (1150, .invokevirtual 146, 3)]
def mC_137_18 : List (Nat × Instr × Nat) := [(1153, .istore 6, 2), (1155, .aload_n 2, 1), (1156, .invokevirtual 88, 3), (1159, .iload 5, 2), (1161, .if_icmp .eq 5, 3), (1164, .iconst 0, 1), (1165, .ireturn, 1), (1166, .iload 5, 2), (1168, .ifCond .ne 15, 3), (1171, .aload_n 3, 1), (1172, .iconst 0, 1), (1173, .laload, 1), (1174, .iload 6, 2), (1176, .i2l, 1), (1177, .lcmp, 1), (1178, .ifCond .eq 5, 3), (1181, .iconst 0, 1), (1182, .ireturn, 1), (1183, .goto 311, 3), (1186, .aload_n 1, 1), (1187, .aload_n 0, 1), (1188, .iload 4, 2), (1190, .iconst 1, 1), (1191, .iadd, 1), (1192, .iaload, 1), (1193, .aload_n 0, 1), (1194, .iload 4, 2), (1196, .iconst 2, 1), (1197, .iadd, 1), (1198, .iaload, 1), (1199, .aload_n 0, 1), (1200, .iload 4, 2), (1202, .iconst 3, 1), (1203, .iadd, 1), (1204, .iaload, 1), (1205, .aload_n 3, 1), (1206, .invokestatic 147, 3), (1209, .istore 5, 2), (1211, .aload_n 2, 1), (1212, .aload_n 0, 1), (1213, .iload 4, 2), (1215, .iconst 1, 1)]
def mC_137_19 : List (Nat × Instr × Nat) := [(1216, .iadd, 1), (1217, .iaload, 1), (1218, .aload_n 0, 1), (1219, .iload 4, 2), (1221, .iconst 2, 1), (1222, .iadd, 1), (1223, .iaload, 1), (1224, .aload_n 0, 1), (1225, .iload 4, 2), (1227, .iconst 3, 1), (1228, .iadd, 1), (1229, .iaload, 1), (1230, .invokevirtual 149, 3), (1233, .istore 6, 2), (1235, .aload_n 2, 1), (1236, .invokevirtual 88, 3), (1239, .iload 5, 2), (1241, .if_icmp .eq 5, 3), (1244, .iconst 0, 1), (1245, .ireturn, 1), (1246, .iload 5, 2), (1248, .ifCond .ne 15, 3), (1251, .aload_n 3, 1), (1252, .iconst 0, 1), (1253, .laload, 1), (1254, .iload 6, 2), (1256, .i2l, 1), (1257, .lcmp, 1), (1258, .ifCond .eq 5, 3), (1261, .iconst 0, 1), (1262, .ireturn, 1), (1263, .goto 231, 3), (1266, .aload_n 1, 1), (1267, .aload_n 0, 1), (1268, .iload 4, 2), (1270, .iconst 1, 1), (1271, .iadd, 1), (1272, .iaload, 1), (1273, .aload_n 0, 1), (1274, .iload 4, 2), (1276, .iconst 2, 1), (1277, .iadd, 1), (1278, .iaload, 1), (1279, .aload_n 3, 1)]
def mC_137_20 : List (Nat × Instr × Nat) := [(1280, .invokestatic 150, 3), (1283, .istore 5, 2), (1285, .aload_n 2, 1), (1286, .aload_n 0, 1), (1287, .iload 4, 2), (1289, .iconst 1, 1), (1290, .iadd, 1), (1291, .iaload, 1), (1292, .aload_n 0, 1), (1293, .iload 4, 2), (1295, .iconst 2, 1), (1296, .iadd, 1), (1297, .iaload, 1), (1298, .invokevirtual 152, 3), (1301, .istore 6, 2), (1303, .aload_n 2, 1), (1304, .invokevirtual 88, 3), (1307, .iload 5, 2), (1309, .if_icmp .eq 5, 3), (1312, .iconst 0, 1), (1313, .ireturn, 1), (1314, .iload 5, 2), (1316, .ifCond .ne 15, 3), (1319, .aload_n 3, 1), (1320, .iconst 0, 1), (1321, .laload, 1), (1322, .iload 6, 2), (1324, .i2l, 1), (1325, .lcmp, 1), (1326, .ifCond .eq 5, 3), (1329, .iconst 0, 1), (1330, .ireturn, 1), (1331, .goto 163, 3), (1334, .aload_n 1, 1), (1335, .aload_n 0, 1), (1336, .iload 4, 2), (1338, .iconst 1, 1), (1339, .iadd, 1), (1340, .iaload, 1), (1341, .aload_n 0, 1), (1342, .iload 4, 2)]
def mC_137_21 : List (Nat × Instr × Nat) := [(1344, .iconst 2, 1), (1345, .iadd, 1), (1346, .iaload, 1), (1347, .ifCond .eq 7, 3), (1350, .iconst 1, 1), (1351, .goto 4, 3), (1354, .iconst 0, 1), (1355, .aload_n 0, 1), (1356, .iload 4, 2), (1358, .iconst 3, 1), (1359, .iadd, 1), (1360, .iaload, 1), (1361, .aload_n 3, 1), (1362, .invokestatic 153, 3), (1365, .istore 5, 2), (1367, .aload_n 2, 1), (1368, .aload_n 0, 1), (1369, .iload 4, 2), (1371, .iconst 1, 1), (1372, .iadd, 1), (1373, .iaload, 1), (1374, .aload_n 0, 1), (1375, .iload 4, 2), (1377, .iconst 2, 1), (1378, .iadd, 1), (1379, .iaload, 1), (1380, .ifCond .eq 7, 3), (1383, .iconst 1, 1), (1384, .goto 4, 3), (1387, .iconst 0, 1), (1388, .aload_n 0, 1), (1389, .iload 4, 2), (1391, .iconst 3, 1), (1392, .iadd, 1), (1393, .iaload, 1), (1394, .invokevirtual 156, 3), (1397, .istore 6, 2), (1399, .aload_n 2, 1), (1400, .invokevirtual 88, 3), (1403, .iload 5, 2), (1405, .if_icmp .eq 5, 3)]
def mC_137_22 : List (Nat × Instr × Nat) := [(1408, .iconst 0, 1), (1409, .ireturn, 1), (1410, .iload 5, 2), (1412, .ifCond .ne 15, 3), (1415, .aload_n 3, 1), (1416, .iconst 0, 1), (1417, .laload, 1), (1418, .iload 6, 2), (1420, .i2l, 1), (1421, .lcmp, 1), (1422, .ifCond .eq 5, 3), (1425, .iconst 0, 1), (1426, .ireturn, 1), (1427, .goto 67, 3), (1430, .aload_n 1, 1), (1431, .aload_n 0, 1), (1432, .iload 4, 2), (1434, .iconst 1, 1), (1435, .iadd, 1), (1436, .iaload, 1), (1437, .aload_n 0, 1), (1438, .iload 4, 2), (1440, .iconst 2, 1), (1441, .iadd, 1), (1442, .iaload, 1), (1443, .ifCond .eq 7, 3), (1446, .iconst 1, 1), (1447, .goto 4, 3), (1450, .iconst 0, 1), (1451, .invokestatic 157, 3), (1454, .istore 5, 2), (1456, .aload_n 2, 1), (1457, .aload_n 0, 1), (1458, .iload 4, 2), (1460, .iconst 1, 1), (1461, .iadd, 1), (1462, .iaload, 1), (1463, .aload_n 0, 1), (1464, .iload 4, 2), (1466, .iconst 2, 1), (1467, .iadd, 1), (1468, .iaload, 1), (1469, .ifCond .eq 7, 3)]
def mC_137_23 : List (Nat × Instr × Nat) := [(1472, .iconst 1, 1), (1473, .goto 4, 3), (1476, .iconst 0, 1), (1477, .invokevirtual 160, 3), (1480, .aload_n 2, 1), (1481, .invokevirtual 88, 3), (1484, .iload 5, 2), (1486, .if_icmp .eq 5, 3), (1489, .iconst 0, 1), (1490, .ireturn, 1), (1491, .goto 3, 3), (1494, .iinc 4 4, 3), (1497, .goto (-1474), 3), (1500, .iconst 1, 1), (1501, .ireturn, 1)]
def mC_137 : List (List (Nat × Instr × Nat)) := [mC_137_0, [], mC_137_2, mC_137_3, mC_137_4, mC_137_5, mC_137_6, mC_137_7, mC_137_8, mC_137_9, mC_137_10, mC_137_11, mC_137_12, mC_137_13, mC_137_14, mC_137_15, mC_137_16, mC_137_17, mC_137_18, mC_137_19, mC_137_20, mC_137_21, mC_137_22, mC_137_23]
/-- 138: java/util/Arrays.fill([II)V -/
def mC_138_0 : List (Nat × Instr × Nat) := [(0, .iconst 0, 1), (1, .istore_n 2, 1), (2, .aload_n 0, 1), (3, .arraylength, 1), (4, .istore_n 3, 1), (5, .iload_n 2, 1), (6, .iload_n 3, 1), (7, .if_icmp .ge 13, 3), (10, .aload_n 0, 1), (11, .iload_n 2, 1), (12, .iload_n 1, 1), (13, .iastore, 1), (14, .iinc 2 1, 3), (17, .goto (-12), 3), (20, .return_, 1)]
def mC_138 : List (List (Nat × Instr × Nat)) := [mC_138_0]
/-- 139: java/lang/Math.min(II)I -/
def mC_139_0 : List (Nat × Instr × Nat) := [(0, .iload_n 0, 1), (1, .iload_n 1, 1), (2, .if_icmp .gt 7, 3), (5, .iload_n 0, 1), (6, .goto 4, 3), (9, .iload_n 1, 1), (10, .ireturn, 1)]
def mC_139 : List (List (Nat × Instr × Nat)) := [mC_139_0]
def mCs : List (List (List (Nat × Instr × Nat))) := [mC_0, mC_1, mC_2, mC_3, mC_4, mC_5, mC_6, mC_7, mC_8, mC_9, mC_10, mC_11, mC_12, mC_13, mC_14, mC_15, mC_16, mC_17, mC_18, mC_19, mC_20, mC_21, mC_22, mC_23, mC_24, mC_25, mC_26, mC_27, mC_28, mC_29, mC_30, mC_31, mC_32, mC_33, mC_34, mC_35, mC_36, mC_37, mC_38, mC_39, mC_40, mC_41, mC_42, mC_43, mC_44, mC_45, mC_46, mC_47, mC_48, mC_49, mC_50, mC_51, mC_52, mC_53, mC_54, mC_55, mC_56, mC_57, mC_58, mC_59, mC_60, mC_61, mC_62, mC_63, mC_64, mC_65, mC_66, mC_67, mC_68, mC_69, mC_70, mC_71, mC_72, mC_73, mC_74, mC_75, mC_76, mC_77, mC_78, mC_79, mC_80, mC_81, mC_82, mC_83, mC_84, mC_85, mC_86, mC_87, mC_88, mC_89, mC_90, mC_91, mC_92, mC_93, mC_94, mC_95, mC_96, mC_97, mC_98, mC_99, mC_100, mC_101, mC_102, mC_103, mC_104, mC_105, mC_106, mC_107, mC_108, mC_109, mC_110, mC_111, mC_112, mC_113, mC_114, mC_115, mC_116, mC_117, mC_118, mC_119, mC_120, mC_121, mC_122, mC_123, mC_124, mC_125, mC_126, mC_127, mC_128, mC_129, mC_130, mC_131, mC_132, mC_133, mC_134, mC_135, mC_136, mC_137, mC_138, mC_139]
def mLs : List Nat := [1, 2, 5, 3, 4, 5, 6, 2, 7, 2, 5, 4, 4, 3, 4, 3, 1, 2, 6, 5, 6, 3, 2, 3, 4, 3, 1, 2, 1, 1, 2, 2, 4, 2, 1, 5, 3, 3, 3, 5, 3, 3, 3, 6, 1, 2, 3, 2, 1, 2, 3, 3, 7, 6, 4, 10, 3, 2, 1, 2, 5, 5, 1, 3, 2, 4, 4, 5, 6, 5, 4, 7, 3, 2, 3, 6, 5, 3, 2, 1, 3, 2, 2, 4, 3, 4, 3, 2, 8, 5, 3, 4, 5, 5, 4, 4, 5, 7, 7, 3, 10, 3, 4, 9, 4, 3, 5, 6, 9, 3, 1, 3, 2, 3, 5, 4, 9, 8, 4, 5, 5, 4, 6, 6, 4, 6, 4, 5, 5, 5, 4, 5, 4, 6, 5, 6, 4, 7, 4, 2]
def mOs : List Nat := [0, 0, 0, 0, 0, 0, 0, 0, 0, 0, 0, 0, 0, 0, 0, 0, 0, 0, 0, 0, 0, 0, 0, 0, 0, 0, 0, 0, 0, 0, 0, 0, 0, 1, 1, 1, 1, 1, 1, 1, 2, 2, 2, 3, 3, 3, 3, 3, 4, 4, 4, 4, 4, 4, 4, 4, 5, 5, 6, 6, 6, 6, 7, 7, 7, 7, 7, 7, 7, 7, 7, 7, 7, 8, 8, 8, 8, 8, 9, 9, 9, 9, 9, 9, 9, 9, 9, 9, 9, 9, 9, 9, 9, 9, 9, 9, 9, 9, 9, 9, 9, 9, 9, 9, 9, 9, 9, 9, 9, 9, 9, 9, 9, 9, 9, 9, 9, 9, 10, 10, 10, 10, 10, 10, 10, 10, 10, 10, 10, 10, 10, 10, 10, 10, 10, 10, 10, 10, 11, 12]
def mRs : List Bool := [false, false, false, false, false, false, false, false, false, false, false, false, false, false, false, false, false, false, false, false, false, false, false, false, false, false, false, false, false, false, false, false, false, false, false, true, false, false, false, false, false, false, false, false, true, false, true, false, false, false, false, false, false, false, false, false, false, false, false, false, true, true, false, false, false, true, false, false, false, false, false, false, false, false, false, false, false, true, false, false, true, true, true, false, true, false, false, false, true, false, false, false, false, false, false, false, true, false, false, false, false, false, false, false, false, false, false, false, false, false, false, false, true, true, false, false, false, false, false, false, false, false, false, false, false, false, false, false, false, false, false, false, false, false, false, false, false, true, false, false]
def mEs : List (List (Nat × Nat)) := [[], [(10, 1), (29, 2)], [(19, 1)], [], [], [], [(33, 1)], [], [(34, 1)], [], [(34, 2)], [], [(18, 2)], [(18, 2)], [], [], [], [(11, 1), (30, 2)], [], [], [], [], [(12, 1)], [(13, 1)], [(18, 1)], [], [], [(9, 1)], [(10, 1)], [(12, 2)], [], [(12, 1)], [(20, 1)], [], [], [], [], [], [], [], [], [], [], [], [], [], [], [], [], [], [], [], [], [], [], [], [], [], [], [], [], [], [], [], [], [], [], [], [], [], [], [], [], [], [], [], [], [], [], [], [], [], [], [], [], [], [], [], [], [], [], [], [], [], [], [], [], [], [], [], [], [], [], [], [], [], [], [], [], [], [], [], [], [], [], [], [], [], [], [], [], [], [], [], [], [], [], [], [], [], [], [], [], [], [], [], [], [], [], []]
def mHs : List (List (Nat × Nat × Nat × Nat)) := [[], [], [], [], [], [], [], [], [], [], [], [], [], [], [], [], [], [], [], [], [], [], [], [], [], [], [], [], [], [], [], [], [], [], [], [], [], [], [], [], [], [], [], [], [], [], [], [], [], [], [], [], [], [], [], [], [], [], [], [], [], [], [], [], [], [], [], [], [], [], [], [], [], [], [], [], [], [], [], [], [], [], [], [], [], [], [], [], [], [], [], [], [], [], [], [], [], [], [], [], [], [], [], [], [], [], [], [], [], [], [], [], [], [], [], [], [], [], [(0, 9, 12, 1), (0, 9, 15, 2)], [(0, 7, 10, 1)], [(0, 10, 13, 1)], [(0, 6, 9, 1)], [(0, 12, 15, 1), (0, 12, 19, 2)], [(0, 12, 15, 1), (0, 12, 19, 2)], [(0, 9, 12, 1)], [(0, 12, 15, 1)], [(0, 9, 12, 1)], [(0, 10, 13, 1), (0, 10, 17, 2)], [(0, 10, 13, 1)], [(0, 10, 13, 1), (0, 10, 17, 2)], [(0, 9, 12, 1), (0, 9, 15, 2)], [(0, 10, 13, 1)], [(0, 9, 12, 1), (0, 9, 15, 2)], [(0, 12, 15, 1)], [(0, 10, 13, 1)], [(0, 12, 15, 1)], [(0, 6, 9, 1)], [], [], []]
def pFs : List (List (Nat × Nat × Nat × Nat)) := [[(11, (1, 0, 2)), (18, (1, 4, 2)), (25, (1, 5, 2)), (32, (1, 6, 2)), (38, (1, 8, 2)), (49, (1, 1, 0)), (67, (2, 0, 2)), (75, (1, 2, 2)), (79, (1, 3, 2)), (134, (7, 1, 0)), (151, (7, 2, 0)), (154, (1, 7, 0)), (157, (8, 2, 0)), (166, (8, 4, 0)), (177, (8, 9, 0)), (178, (8, 8, 0)), (181, (8, 6, 2)), (184, (8, 7, 2)), (189, (1, 9, 0)), (199, (9, 0, 2)), (202, (9, 1, 0)), (229, (5, 1, 0))], [(9, (2, 0, 2))], [(9, (3, 0, 2)), (15, (3, 1, 2))], [(9, (4, 0, 0)), (15, (4, 1, 2)), (19, (4, 2, 0)), (22, (4, 3, 2)), (25, (4, 4, 2)), (33, (4, 5, 0)), (41, (4, 6, 0)), (47, (4, 7, 0)), (50, (4, 8, 0)), (53, (4, 9, 1))], [(11, (5, 0, 2)), (17, (5, 2, 2)), (21, (5, 3, 2)), (24, (5, 1, 0)), (62, (4, 5, 0)), (73, (4, 3, 2)), (77, (4, 2, 0)), (80, (2, 0, 2))], [(9, (6, 0, 2)), (15, (6, 1, 2))], [(11, (7, 0, 2)), (17, (7, 1, 0)), (21, (7, 2, 0)), (37, (2, 0, 2)), (41, (6, 0, 2))], [(11, (8, 0, 2)), (17, (8, 1, 2)), (21, (8, 3, 2)), (24, (8, 5, 2)), (28, (8, 6, 2)), (31, (8, 7, 2)), (34, (8, 10, 2)), (37, (8, 2, 0)), (41, (8, 4, 0)), (44, (8, 8, 0)), (47, (8, 9, 0))], [(7, (9, 1, 0)), (13, (9, 0, 2))], [(7, (10, 1, 2)), (13, (10, 2, 2)), (16, (10, 3, 2)), (19, (10, 5, 0)), (23, (10, 6, 0)), (26, (10, 7, 2)), (29, (10, 8, 2)), (32, (10, 9, 2)), (35, (10, 10, 2)), (38, (10, 11, 2)), (41, (10, 12, 2)), (44, (10, 13, 2)), (47, (10, 14, 2)), (50, (10, 15, 2)), (54, (10, 17, 2)), (57, (10, 18, 2)), (60, (10, 19, 2)), (63, (10, 21, 2)), (66, (10, 22, 2)), (69, (10, 23, 2)), (72, (10, 24, 2)), (75, (10, 25, 2)), (78, (10, 29, 2)), (81, (10, 30, 2)), (84, (10, 31, 2)), (87, (10, 0, 0)), (90, (10, 4, 0)), (112, (10, 16, 0)), (145, (10, 20, 0)), (148, (10, 28, 0)), (151, (10, 26, 0)), (154, (10, 27, 0)), (164, (10, 32, 0))], [], [], []]
def pMs : List (List (Nat × Nat × Nat × Nat)) := [[(1, (999, 1, 1)), (17, (48, 1, 5)), (24, (58, 1, 7)), (31, (62, 1, 8)), (58, (33, 2, 2)), (61, (24, 3, 1)), (71, (23, 2, 1)), (82, (27, 2, 0)), (86, (25, 3, 1)), (89, (28, 1, 0)), (92, (29, 1, 1)), (97, (30, 1, 1)), (101, (43, 6, 4)), (104, (49, 2, 5)), (108, (22, 2, 1)), (111, (34, 1, 2)), (115, (26, 1, 0)), (121, (51, 2, 5)), (126, (55, 5, 5)), (130, (50, 2, 5)), (141, (56, 3, 6)), (144, (59, 2, 7)), (147, (60, 3, 7)), (162, (63, 3, 8)), (171, (64, 2, 8)), (174, (65, 3, 8)), (194, (73, 2, 9)), (195, (32, 3, 1)), (205, (31, 2, 1)), (209, (75, 2, 9)), (212, (74, 2, 9)), (215, (76, 2, 9)), (236, (40, 3, 3))], [(3, (999, 1, 1)), (15, (138, 2, 0)), (21, (34, 1, 2)), (25, (35, 3, 2))], [(3, (999, 1, 1)), (18, (36, 2, 2)), (24, (34, 1, 2))], [(3, (999, 1, 1)), (29, (26, 1, 0)), (36, (41, 2, 3)), (44, (42, 2, 3)), (57, (35, 3, 2))], [(3, (999, 1, 1)), (28, (38, 2, 2)), (34, (52, 3, 5)), (38, (34, 1, 2)), (42, (39, 4, 2)), (46, (45, 2, 4)), (50, (53, 4, 5)), (54, (47, 2, 4)), (58, (54, 3, 5)), (65, (44, 1, 4)), (69, (46, 3, 4)), (83, (41, 2, 3)), (89, (42, 2, 3)), (92, (37, 2, 2))], [(3, (999, 1, 1)), (18, (36, 2, 2)), (24, (34, 1, 2))], [(3, (999, 1, 1)), (24, (34, 1, 2)), (30, (61, 3, 7)), (34, (57, 1, 6))], [(3, (999, 1, 1)), (50, (34, 1, 2)), (54, (66, 2, 8)), (58, (72, 2, 8)), (61, (67, 4, 8)), (65, (68, 4, 8)), (68, (139, 2, 0)), (74, (69, 5, 8)), (78, (70, 3, 8)), (82, (71, 4, 8)), (85, (35, 3, 2)), (89, (38, 2, 2)), (93, (39, 4, 2))], [(1, (999, 1, 1)), (17, (77, 3, 0))], [(1, (999, 1, 1)), (93, (81, 2, 10)), (97, (80, 3, 10)), (101, (84, 3, 10)), (105, (88, 6, 10)), (109, (82, 2, 10)), (115, (91, 4, 10)), (119, (89, 4, 10)), (123, (87, 1, 10)), (126, (94, 3, 10)), (130, (95, 3, 10)), (133, (96, 4, 10)), (137, (98, 6, 10)), (141, (97, 3, 10)), (157, (106, 3, 10)), (160, (107, 5, 10)), (167, (112, 2, 10)), (170, (113, 3, 10))], [(7, (1, 2, 1)), (17, (2, 4, 1)), (21, (3, 3, 1)), (25, (4, 3, 1)), (29, (5, 4, 1)), (33, (6, 4, 1)), (36, (7, 2, 1)), (39, (8, 4, 1)), (42, (9, 2, 1)), (45, (10, 3, 1)), (48, (11, 3, 1)), (51, (12, 3, 1)), (55, (13, 2, 1)), (58, (14, 3, 1)), (61, (17, 2, 1)), (64, (18, 4, 1)), (67, (19, 3, 1)), (70, (20, 4, 1)), (74, (21, 3, 1)), (78, (0, 1, 1)), (81, (78, 1, 10)), (82, (118, 3, 0)), (87, (83, 2, 10)), (88, (79, 1, 10)), (92, (119, 4, 0)), (95, (85, 4, 10)), (96, (120, 4, 0)), (99, (86, 3, 10)), (100, (121, 3, 0)), (103, (90, 3, 10)), (104, (122, 5, 0)), (107, (92, 4, 10)), (108, (123, 5, 0)), (110, (93, 4, 10)), (111, (124, 3, 0)), (113, (99, 2, 10)), (114, (125, 5, 0)), (116, (100, 4, 10)), (117, (126, 3, 0)), (119, (101, 2, 10)), (120, (127, 4, 0)), (122, (102, 3, 10)), (123, (128, 4, 0)), (125, (103, 3, 10)), (126, (129, 4, 0)), (129, (104, 3, 10)), (130, (130, 3, 0)), (132, (105, 2, 10)), (133, (131, 4, 0)), (135, (108, 3, 10)), (136, (15, 3, 1)), (139, (109, 3, 10)), (140, (16, 1, 1)), (143, (110, 1, 10)), (144, (132, 3, 0)), (146, (111, 2, 10)), (147, (133, 5, 0)), (149, (114, 4, 10)), (150, (134, 4, 0)), (152, (115, 3, 10)), (153, (135, 5, 0)), (156, (116, 4, 10)), (157, (136, 3, 0)), (160, (117, 3, 10))], [], []]
def pNs : List (List (Nat × Nat × Nat)) := [[(9, (2, 1)), (15, (5, 4)), (22, (7, 3)), (29, (8, 11)), (36, (9, 2)), (95, (4, 10)), (139, (6, 2)), (234, (3, 2))], [], [], [], [], [], [], [], [], [], [(8, (1, 10)), (79, (10, 33))], [], []]
def pVs : List (List (Nat × Nat)) := [[(9, 2), (36, 9)], [], [], [], [(9, 4)], [], [(9, 6)], [(9, 2)], [], [], [], [], []]
abbrev J_X_init : Nat := 0
abbrev J_X_text : Nat := 1
abbrev J_X_set : Nat := 2
abbrev J_X_at : Nat := 3
abbrev J_X_span : Nat := 4
abbrev J_X_tally : Nat := 5
abbrev J_X_replace : Nat := 6
abbrev J_X_inspect : Nat := 7
abbrev J_X_convert : Nat := 8
abbrev J_X_counter : Nat := 9
abbrev J_X_part : Nat := 10
abbrev J_X_join : Nat := 11
abbrev J_X_delimiter : Nat := 12
abbrev J_X_receiver : Nat := 13
abbrev J_X_split : Nat := 14
abbrev J_X_result : Nat := 15
abbrev J_X_pointer : Nat := 16
abbrev J_X_table : Nat := 17
abbrev J_X_row : Nat := 18
abbrev J_X_index : Nat := 19
abbrev J_X_search : Nat := 20
abbrev J_X_sort : Nat := 21
abbrev J_X_knownText : Nat := 22
abbrev J_X_filledText : Nat := 23
abbrev J_X_textWithPlace : Nat := 24
abbrev J_X_soughtText : Nat := 25
abbrev J_X_widthOf : Nat := 26
abbrev J_X_checkKind : Nat := 27
abbrev J_X_checkCounter : Nat := 28
abbrev J_X_checkRoomForPhrase : Nat := 29
abbrev J_X_takeRegion : Nat := 30
abbrev J_X_knownTable : Nat := 31
abbrev J_X_tableWithRow : Nat := 32
abbrev J_Text_init : Nat := 33
abbrev J_Text_size : Nat := 34
abbrev J_Text_holds : Nat := 35
abbrev J_Text_firstPlaceOf : Nat := 36
abbrev J_Text_firstPlaceOfSign : Nat := 37
abbrev J_Text_copyTo : Nat := 38
abbrev J_Text_fillFrom : Nat := 39
abbrev J_Region_init : Nat := 40
abbrev J_Region_beginIn : Nat := 41
abbrev J_Region_endIn : Nat := 42
abbrev J_Phrase_init : Nat := 43
abbrev J_Phrase_isReplacing : Nat := 44
abbrev J_Phrase_startIn : Nat := 45
abbrev J_Phrase_matches : Nat := 46
abbrev J_Phrase_noteMatch : Nat := 47
abbrev J_Inspection_init : Nat := 48
abbrev J_Inspection_collect : Nat := 49
abbrev J_Inspection_takeCount : Nat := 50
abbrev J_Inspection_goThrough : Nat := 51
abbrev J_Inspection_goOver : Nat := 52
abbrev J_Inspection_firstMatch : Nat := 53
abbrev J_Inspection_act : Nat := 54
abbrev J_Inspection_exchange : Nat := 55
abbrev J_Part_init : Nat := 56
abbrev J_Part_length : Nat := 57
abbrev J_Joining_init : Nat := 58
abbrev J_Joining_collect : Nat := 59
abbrev J_Joining_putInto : Nat := 60
abbrev J_Joining_putPart : Nat := 61
abbrev J_Splitting_init : Nat := 62
abbrev J_Splitting_collectDelimiter : Nat := 63
abbrev J_Splitting_collectReceiver : Nat := 64
abbrev J_Splitting_takeApart : Nat := 65
abbrev J_Splitting_cutPieces : Nat := 66
abbrev J_Splitting_cutBySize : Nat := 67
abbrev J_Splitting_cutByDelimiter : Nat := 68
abbrev J_Splitting_keepPiece : Nat := 69
abbrev J_Splitting_delimiterAt : Nat := 70
abbrev J_Splitting_placeBehind : Nat := 71
abbrev J_Splitting_handOut : Nat := 72
abbrev J_Table_init : Nat := 73
abbrev J_Table_findInOrder : Nat := 74
abbrev J_Table_findByHalves : Nat := 75
abbrev J_Table_putInOrder : Nat := 76
abbrev J_Table_isAhead : Nat := 77
abbrev J_M_init : Nat := 78
abbrev J_M_thrown : Nat := 79
abbrev J_M_fails : Nat := 80
abbrev J_M_isText : Nat := 81
abbrev J_M_isFull : Nat := 82
abbrev J_M_text : Nat := 83
abbrev J_M_isPlace : Nat := 84
abbrev J_M_set : Nat := 85
abbrev J_M_at : Nat := 86
abbrev J_M_remember : Nat := 87
abbrev J_M_occurs : Nat := 88
abbrev J_M_first : Nat := 89
abbrev J_M_span : Nat := 90
abbrev J_M_phrase : Nat := 91
abbrev J_M_tally : Nat := 92
abbrev J_M_replace : Nat := 93
abbrev J_M_beginOf : Nat := 94
abbrev J_M_endOf : Nat := 95
abbrev J_M_matches : Nat := 96
abbrev J_M_over : Nat := 97
abbrev J_M_act : Nat := 98
abbrev J_M_inspect : Nat := 99
abbrev J_M_convert : Nat := 100
abbrev J_M_counter : Nat := 101
abbrev J_M_part : Nat := 102
abbrev J_M_join : Nat := 103
abbrev J_M_delimiter : Nat := 104
abbrev J_M_receiver : Nat := 105
abbrev J_M_here : Nat := 106
abbrev J_M_move : Nat := 107
abbrev J_M_split : Nat := 108
abbrev J_M_result : Nat := 109
abbrev J_M_pointer : Nat := 110
abbrev J_M_table : Nat := 111
abbrev J_M_isTable : Nat := 112
abbrev J_M_isRow : Nat := 113
abbrev J_M_row : Nat := 114
abbrev J_M_index : Nat := 115
abbrev J_M_search : Nat := 116
abbrev J_M_sort : Nat := 117
abbrev J_L_text : Nat := 118
abbrev J_L_set : Nat := 119
abbrev J_L_at : Nat := 120
abbrev J_L_span : Nat := 121
abbrev J_L_tally : Nat := 122
abbrev J_L_replace : Nat := 123
abbrev J_L_inspect : Nat := 124
abbrev J_L_convert : Nat := 125
abbrev J_L_counter : Nat := 126
abbrev J_L_part : Nat := 127
abbrev J_L_join : Nat := 128
abbrev J_L_delimiter : Nat := 129
abbrev J_L_receiver : Nat := 130
abbrev J_L_split : Nat := 131
abbrev J_L_table : Nat := 132
abbrev J_L_row : Nat := 133
abbrev J_L_index : Nat := 134
abbrev J_L_search : Nat := 135
abbrev J_L_sort : Nat := 136
abbrev J_L_law : Nat := 137
abbrev J_Arrays_fill : Nat := 138
abbrev J_Math_min : Nat := 139
def mC (j : Nat) : List (List (Nat × Instr × Nat)) := (mCs[j]?).getD []
def mL (j : Nat) : Nat := (mLs[j]?).getD 0
def mO (j : Nat) : Nat := (mOs[j]?).getD 0
def mR (j : Nat) : Bool := (mRs[j]?).getD false
def mE (j pc : Nat) : Option Nat := ((mEs[j]?).getD []).lookup pc
def mH (j pc e : Nat) : Option Nat := (((mHs[j]?).getD []).find? (fun h => Nat.ble h.1 pc && Nat.blt pc h.2.1 && Nat.beq h.2.2.2 e)).map (fun h => h.2.2.1)
def pF (w k : Nat) : Option (Nat × Nat × Nat) := ((pFs[w]?).getD []).lookup k
def pM (w k : Nat) : Option (Nat × Nat × Nat) := ((pMs[w]?).getD []).lookup k
def pN (w k : Nat) : Option (Nat × Nat) := ((pNs[w]?).getD []).lookup k
def pV (w k : Nat) : Option Nat := ((pVs[w]?).getD []).lookup k
end
section
/-! THE RUN, and what it gives: ca (a call), wp (from a place on). -/
def iC (j pc : Nat) : Option (Instr × Nat) := (((mC j)[pc / 64]?).getD []).lookup pc
def ipad (j : Nat) (as : List iV) : List iV := as ++ List.replicate (mL j - as.length) (vl 0)
noncomputable def ist (j pc : Nat) (i : Instr) (len : Nat) (ls st : List iV) (σ : iS) : Option iT := istep (pF (mO j)) (pM (mO j)) (pN (mO j)) (pV (mO j)) (mE j pc) (mR j) pc i len ls st σ
noncomputable def irun : Nat → Nat → Nat → List iV → List iV → iS → Option (iO × iS)
  | 0, _, _, _, _, _ => none
  | n + 1, j, pc, ls, st, σ => match iC j pc with
    | none => none
    | some (i, len) => match ist j pc i len ls st σ with
      | none => none
      | some (.inl (pc', ls', st', σ')) => irun n j pc' ls' st' σ'
      | some (.inr (.inl r)) => some r
      | some (.inr (.inr (j', as, rest))) => match irun n j' 0 (ipad j' as) [] σ with
        | none => none
        | some (.inl v, σ1) => irun n j (pc + len) ls (v.toList ++ rest) σ1
        | some (.inr (e, a), σ1) => match mH j pc e with
          | some h => irun n j h ls [vr a] σ1
          | none => some (.inr (e, a), σ1)
theorem irun_s (n : Nat) : ∀ (j pc : Nat) (ls st : List iV) (σ : iS) (r : iO × iS), irun n j pc ls st σ = some r → irun (n + 1) j pc ls st σ = some r := by
  induction n with
  | zero => intro j pc ls st σ r h; simp [irun] at h
  | succ n ih =>
    intro j pc ls st σ r h
    rw [irun] at h ⊢
    cases hc : iC j pc with
    | none => rw [hc] at h; cases h
    | some q =>
      obtain ⟨i, len⟩ := q
      rw [hc] at h
      (try dsimp only at h); (try dsimp only)
      cases hs : ist j pc i len ls st σ with
      | none => rw [hs] at h; cases h
      | some y =>
        rw [hs] at h
        (try dsimp only at h); (try dsimp only)
        rcases y with ⟨pc', ls', st', σ'⟩ | y | ⟨j', as, rest⟩
        · exact ih _ _ _ _ _ _ h
        · exact h
        · (try dsimp only at h); (try dsimp only)
          cases hr : irun n j' 0 (ipad j' as) [] σ with
          | none => rw [hr] at h; cases h
          | some z =>
            rw [hr] at h
            rw [ih _ _ _ _ _ _ hr]
            (try dsimp only at h); (try dsimp only)
            rcases z with ⟨v | ⟨e, a⟩, σ1⟩
            · exact ih _ _ _ _ _ _ h
            · (try dsimp only at h); (try dsimp only)
              cases hh : mH j pc e with
              | none => rw [hh] at h; exact h
              | some hp => rw [hh] at h; exact ih _ _ _ _ _ _ h
theorem irun_le {n m : Nat} (hm : n ≤ m) {j pc : Nat} {ls st : List iV} {σ : iS} {r : iO × iS} (h : irun n j pc ls st σ = some r) : irun m j pc ls st σ = some r := by
  induction hm with
  | refl => exact h
  | step _ ih => exact irun_s _ _ _ _ _ _ _ ih
def wp (j pc : Nat) (ls st : List iV) (σ : iS) (Q : iO → iS → Prop) : Prop := ∃ (n : Nat) (o : iO) (σ' : iS), irun n j pc ls st σ = some (o, σ') ∧ Q o σ'
def ca (j : Nat) (as : List iV) (σ : iS) (Q : iO → iS → Prop) : Prop := wp j 0 (ipad j as) [] σ Q
theorem wp_mono {j pc : Nat} {ls st : List iV} {σ : iS} {Q Q' : iO → iS → Prop} (h : wp j pc ls st σ Q) (hq : ∀ o σ', Q o σ' → Q' o σ') : wp j pc ls st σ Q' := by
  obtain ⟨n, o, σ', h1, h2⟩ := h
  exact ⟨n, o, σ', h1, hq _ _ h2⟩
theorem ca_mono {j : Nat} {as : List iV} {σ : iS} {Q Q' : iO → iS → Prop} (h : ca j as σ Q) (hq : ∀ o σ', Q o σ' → Q' o σ') : ca j as σ Q' := wp_mono h hq
section WP
variable {j pc : Nat} {ls st : List iV} {σ : iS} {Q : iO → iS → Prop} {i : Instr} {len : Nat}
theorem w_go {pc' : Nat} {ls' st' : List iV} {σ' : iS} (h : iC j pc = some (i, len)) (hs : ist j pc i len ls st σ = some (.inl (pc', ls', st', σ'))) (k : wp j pc' ls' st' σ' Q) : wp j pc ls st σ Q := by
  obtain ⟨n, o, τ, h1, h2⟩ := k
  exact ⟨n + 1, o, τ, by rw [irun, h]; dsimp only; rw [hs]; exact h1, h2⟩
theorem w_gd {c : Prop} {t : Option iT} {pc' : Nat} {ls' st' : List iV} {σ' : iS} (h : iC j pc = some (i, len)) (hs : ist j pc i len ls st σ = iG c t) (ht : t = some (.inl (pc', ls', st', σ'))) (hc : c) (k : wp j pc' ls' st' σ' Q) : wp j pc ls st σ Q := w_go h (by rw [hs, iG_t hc]; exact ht) k
theorem w_br {c : Prop} {t f : Option iT} {pc1 pc2 : Nat} {ls1 st1 ls2 st2 : List iV} {σ1 σ2 : iS} (h : iC j pc = some (i, len)) (hs : ist j pc i len ls st σ = iB c t f) (ht : t = some (.inl (pc1, ls1, st1, σ1))) (hf : f = some (.inl (pc2, ls2, st2, σ2))) (k1 : c → wp j pc1 ls1 st1 σ1 Q) (k2 : ¬ c → wp j pc2 ls2 st2 σ2 Q) : wp j pc ls st σ Q := by
  by_cases hc : c
  · exact w_go h (by rw [hs, iB_t hc]; exact ht) (k1 hc)
  · exact w_go h (by rw [hs, iB_f hc]; exact hf) (k2 hc)
theorem w_ret {r : iO × iS} (h : iC j pc = some (i, len)) (hs : ist j pc i len ls st σ = some (.inr (.inl r))) (k : Q r.1 r.2) : wp j pc ls st σ Q := ⟨1, r.1, r.2, by rw [irun, h]; dsimp only; rw [hs], k⟩
theorem w_retG {c : Prop} {t : Option iT} {r : iO × iS} (h : iC j pc = some (i, len)) (hs : ist j pc i len ls st σ = iG c t) (ht : t = some (.inr (.inl r))) (hc : c) (k : Q r.1 r.2) : wp j pc ls st σ Q := w_ret h (by rw [hs, iG_t hc]; exact ht) k
/-- what a caller makes of its callee's end -/
def w_K (j pc len : Nat) (ls rest : List iV) (Q : iO → iS → Prop) : iO → iS → Prop := fun o σ1 => match o with
  | .inl v => wp j (pc + len) ls (v.toList ++ rest) σ1 Q
  | .inr (e, a) => match mH j pc e with
    | some h => wp j h ls [vr a] σ1 Q
    | none => Q (.inr (e, a)) σ1
theorem w_call {j' : Nat} {as rest : List iV} (h : iC j pc = some (i, len)) (hs : ist j pc i len ls st σ = some (.inr (.inr (j', as, rest)))) (k : ca j' as σ (w_K j pc len ls rest Q)) : wp j pc ls st σ Q := by
  obtain ⟨n, o, τ, h1, h2⟩ := k
  rcases o with v | ⟨e, a⟩
  · obtain ⟨n2, o2, τ2, g1, g2⟩ := h2
    refine ⟨max n n2 + 1, o2, τ2, ?_, g2⟩
    rw [irun, h]; dsimp only; rw [hs]; dsimp only
    rw [irun_le (Nat.le_max_left n n2) h1]
    exact irun_le (Nat.le_max_right n n2) g1
  · dsimp only [w_K] at h2
    cases hh : mH j pc e with
    | none =>
      rw [hh] at h2
      refine ⟨n + 1, .inr (e, a), τ, ?_, h2⟩
      rw [irun, h]; dsimp only; rw [hs]; dsimp only
      rw [h1]; dsimp only; rw [hh]
    | some hp =>
      rw [hh] at h2
      obtain ⟨n2, o2, τ2, g1, g2⟩ := h2
      refine ⟨max n n2 + 1, o2, τ2, ?_, g2⟩
      rw [irun, h]; dsimp only; rw [hs]; dsimp only
      rw [irun_le (Nat.le_max_left n n2) h1]; dsimp only; rw [hh]
      exact irun_le (Nat.le_max_right n n2) g1
theorem w_callG {c : Prop} {t : Option iT} {j' : Nat} {as rest : List iV} (h : iC j pc = some (i, len)) (hs : ist j pc i len ls st σ = iG c t) (ht : t = some (.inr (.inr (j', as, rest)))) (hc : c) (k : ca j' as σ (w_K j pc len ls rest Q)) : wp j pc ls st σ Q := w_call h (by rw [hs, iG_t hc]; exact ht) k
theorem w_ic {v : Int} {x : Int32} (h : iC j pc = some (.iconst v, len)) (hv : Int32.ofInt v = x) (k : wp j (pc + len) ls (vi x :: st) σ Q) : wp j pc ls st σ Q := by
  subst hv
  exact w_go h rfl k
theorem w_bp {v : Int} {x : Int32} (h : iC j pc = some (.bipush v, len)) (hv : (Int8.ofInt v).toInt32 = x) (k : wp j (pc + len) ls (vi x :: st) σ Q) : wp j pc ls st σ Q := by
  subst hv
  exact w_go h rfl k
theorem w_sp {v : Int} {x : Int32} (h : iC j pc = some (.sipush v, len)) (hv : (Int16.ofInt v).toInt32 = x) (k : wp j (pc + len) ls (vi x :: st) σ Q) : wp j pc ls st σ Q := by
  subst hv
  exact w_go h rfl k
theorem w_inc {v : Int} {n : Nat} {x y : Int32} (h : iC j pc = some (.iinc n v, len)) (hn : ls[n]? = some (vi x)) (hv : Int32.ofInt v = y) (k : wp j (pc + len) (ls.set n (vi (x + y))) st σ Q) : wp j pc ls st σ Q := by
  subst hv
  exact w_go h (by unfold ist istep; dsimp only; rw [hn]) k
theorem w_lc {x y : Int64} {rest : List iV} (h : iC j pc = some (.lcmp, len)) (hst : st = vl y :: vl x :: rest) (k1 : x = y → wp j (pc + len) ls (vi 0 :: rest) σ Q) (k2 : ¬ x = y → ∀ r : Int32, r ≠ 0 → wp j (pc + len) ls (vi r :: rest) σ Q) : wp j pc ls st σ Q := by
  subst hst
  by_cases hc : x = y
  · exact w_go h (iB_t hc) (k1 hc)
  · by_cases hd : x < y
    · exact w_go h ((iB_f hc).trans (iB_t hd)) (k2 hc (-1) (by decide))
    · exact w_go h ((iB_f hc).trans (iB_f hd)) (k2 hc 1 (by decide))
/-- a long comparison, then ifeq -/
theorem w_lcE {x y : Int64} {rest : List iV} {off : Int} {len2 : Nat} {pc1 pc2 : Nat} (h : iC j pc = some (.lcmp, len)) (hst : st = vl y :: vl x :: rest) (h2 : iC j (pc + len) = some (.ifCond .eq off, len2)) (hj : iJ (pc + len) off ls rest σ = some (.inl (pc1, ls, rest, σ))) (k1 : x = y → wp j pc1 ls rest σ Q) (k2 : ¬ x = y → wp j (pc + len + len2) ls rest σ Q) : wp j pc ls st σ Q :=
  w_lc h hst (fun c => w_go h2 ((iB_t rfl).trans hj) (k1 c)) (fun c r hr => w_go h2 (iB_f hr) (k2 c))
theorem w_lcN {x y : Int64} {rest : List iV} {off : Int} {len2 : Nat} {pc1 : Nat} (h : iC j pc = some (.lcmp, len)) (hst : st = vl y :: vl x :: rest) (h2 : iC j (pc + len) = some (.ifCond .ne off, len2)) (hj : iJ (pc + len) off ls rest σ = some (.inl (pc1, ls, rest, σ))) (k1 : x = y → wp j (pc + len + len2) ls rest σ Q) (k2 : ¬ x = y → wp j pc1 ls rest σ Q) : wp j pc ls st σ Q :=
  w_lc h hst (fun c => w_go h2 (iB_f (fun q => q rfl)) (k1 c)) (fun c r hr => w_go h2 ((iB_t hr).trans hj) (k2 c))
/-- a callee's end that is an int, a reference, nothing; what is thrown goes on -/
abbrev cI (f : Int32 → iS → Prop) (Q : iO → iS → Prop) : iO → iS → Prop := fun o σ1 => match o with
  | .inl (some (.inl r)) => f r σ1
  | .inr ea => Q (.inr ea) σ1
  | _ => False
abbrev cA (f : Nat → iS → Prop) (Q : iO → iS → Prop) : iO → iS → Prop := fun o σ1 => match o with
  | .inl (some (.inr (.inl r))) => f r σ1
  | .inr ea => Q (.inr ea) σ1
  | _ => False
abbrev cV (f : iS → Prop) (Q : iO → iS → Prop) : iO → iS → Prop := fun o σ1 => match o with
  | .inl none => f σ1
  | .inr ea => Q (.inr ea) σ1
  | _ => False
abbrev hI (f : Int32 → iS → Prop) (g : Nat → Nat → iS → Prop) : iO → iS → Prop := fun o σ1 => match o with
  | .inl (some (.inl r)) => f r σ1
  | .inr (e, a) => g e a σ1
  | _ => False
abbrev hV (f : iS → Prop) (g : Nat → Nat → iS → Prop) : iO → iS → Prop := fun o σ1 => match o with
  | .inl none => f σ1
  | .inr (e, a) => g e a σ1
  | _ => False
variable {c : Prop} {t : Option iT} {j' : Nat} {as rest : List iV}
theorem w_cI {f : Int32 → iS → Prop} (h : iC j pc = some (i, len)) (hs : ist j pc i len ls st σ = iG c t) (ht : t = some (.inr (.inr (j', as, rest)))) (hc : c) (hh : ∀ e, mH j pc e = none) (k : ca j' as σ (cI f Q)) (kf : ∀ r σ1, f r σ1 → wp j (pc + len) ls (vi r :: rest) σ1 Q) : wp j pc ls st σ Q :=
  w_callG h hs ht hc (ca_mono k (fun o σ1 hq => by
    match o, hq with
    | .inl (some (.inl r)), hq => exact kf r σ1 hq
    | .inr (e, a), hq => dsimp only [w_K]; rw [hh e]; exact hq))
theorem w_cA {f : Nat → iS → Prop} (h : iC j pc = some (i, len)) (hs : ist j pc i len ls st σ = iG c t) (ht : t = some (.inr (.inr (j', as, rest)))) (hc : c) (hh : ∀ e, mH j pc e = none) (k : ca j' as σ (cA f Q)) (kf : ∀ r σ1, f r σ1 → wp j (pc + len) ls (vr r :: rest) σ1 Q) : wp j pc ls st σ Q :=
  w_callG h hs ht hc (ca_mono k (fun o σ1 hq => by
    match o, hq with
    | .inl (some (.inr (.inl r))), hq => exact kf r σ1 hq
    | .inr (e, a), hq => dsimp only [w_K]; rw [hh e]; exact hq))
theorem w_cV {f : iS → Prop} (h : iC j pc = some (i, len)) (hs : ist j pc i len ls st σ = iG c t) (ht : t = some (.inr (.inr (j', as, rest)))) (hc : c) (hh : ∀ e, mH j pc e = none) (k : ca j' as σ (cV f Q)) (kf : ∀ σ1, f σ1 → wp j (pc + len) ls rest σ1 Q) : wp j pc ls st σ Q :=
  w_callG h hs ht hc (ca_mono k (fun o σ1 hq => by
    match o, hq with
    | .inl none, hq => exact kf σ1 hq
    | .inr (e, a), hq => dsimp only [w_K]; rw [hh e]; exact hq))
theorem w_hI {f : Int32 → iS → Prop} {g : Nat → Nat → iS → Prop} (h : iC j pc = some (i, len)) (hs : ist j pc i len ls st σ = iG c t) (ht : t = some (.inr (.inr (j', as, rest)))) (hc : c) (k : ca j' as σ (hI f g)) (kf : ∀ r σ1, f r σ1 → wp j (pc + len) ls (vi r :: rest) σ1 Q) (kg : ∀ e a σ1, g e a σ1 → w_K j pc len ls rest Q (.inr (e, a)) σ1) : wp j pc ls st σ Q :=
  w_callG h hs ht hc (ca_mono k (fun o σ1 hq => by
    match o, hq with
    | .inl (some (.inl r)), hq => exact kf r σ1 hq
    | .inr (e, a), hq => exact kg e a σ1 hq))
theorem w_hV {f : iS → Prop} {g : Nat → Nat → iS → Prop} (h : iC j pc = some (i, len)) (hs : ist j pc i len ls st σ = iG c t) (ht : t = some (.inr (.inr (j', as, rest)))) (hc : c) (k : ca j' as σ (hV f g)) (kf : ∀ σ1, f σ1 → wp j (pc + len) ls rest σ1 Q) (kg : ∀ e a σ1, g e a σ1 → w_K j pc len ls rest Q (.inr (e, a)) σ1) : wp j pc ls st σ Q :=
  w_callG h hs ht hc (ca_mono k (fun o σ1 hq => by
    match o, hq with
    | .inl none, hq => exact kf σ1 hq
    | .inr (e, a), hq => exact kg e a σ1 hq))
/-- one catch (of number 1), two catches (of 1 and 2) -/
theorem b_h1 {e a p1 : Nat} (h1 : mH j pc 1 = some p1) (k : (e = 1 → wp j p1 ls [vr a] σ Q) ∧ (e = 1)) : w_K j pc len ls rest Q (.inr (e, a)) σ := by
  obtain ⟨k1, rfl⟩ := k
  dsimp only [w_K]
  rw [h1]
  exact k1 rfl
theorem b_h2 {e a p1 p2 : Nat} (h1 : mH j pc 1 = some p1) (h2 : mH j pc 2 = some p2) (k : (e = 1 → wp j p1 ls [vr a] σ Q) ∧ (e = 2 → wp j p2 ls [vr a] σ Q) ∧ (e = 1 ∨ e = 2)) : w_K j pc len ls rest Q (.inr (e, a)) σ := by
  obtain ⟨k1, k2, rfl | rfl⟩ := k
  · dsimp only [w_K]; rw [h1]; exact k1 rfl
  · dsimp only [w_K]; rw [h2]; exact k2 rfl
end WP
end
