/-! each instruction is right by the tables: printed by gen7.py -/
def iStrs : List (Nat × String) := [(44, "a text has 0 to 60 signs"), (55, "there are 40 texts"), (219, "there is no such text"), (223, "there is no such place"), (65, "a sign is 0 to 255"), (221, "the text is empty"), (225, "there is no such kind of phrase"), (227, "there is no such counter"), (232, "there are 20 phrases"), (119, "what is put is not of the size of what it replaces"), (124, "the two texts are not of one size"), (137, "there are 20 parts"), (160, "there are 8 delimiters"), (169, "there are 20 receivers"), (187, "a table has 1 to 60 rows"), (192, "there are 10 tables"), (237, "there is no such table"), (239, "there is no such row")]
def iNm : List String := ["java/lang/RuntimeException", "java/lang/Exception"]
def iFnOk (j k : Nat) : Bool := match pF (mO j) k with
  | some (c, f, _) => !(kT c f).2.2.2 || (decide ((iY j).name = "<init>") && decide (iOw j = kR c))
  | none => true
def iClOk (j sp k : Nat) : Bool := match pM (mO j) k with
  | some (q, n, _) => if Nat.beq q 999 = true then Nat.beq sp 2 && Nat.ble 1 (rF j) && Nat.ble 20 (rL j) else Nat.ble (rF q + 1) (rF j) && Nat.ble (8 + (mL q + 11) + rL q) (rL j) && Nat.ble n (mL q) && (match sp with
    | 0 => true
    | 1 => decide ((iY q).name ≠ "<init>")
    | _ => decide ((iY q).name = "<init>"))
  | none => true
def iThOk (j pc k : Nat) : Bool := match mE j pc with
  | none => true
  | some e => Nat.ble 6 (rF j) && Nat.ble 90 (rL j) && (iHh j).isEmpty && Nat.beq (mO j) 0 && (match iC j (pc + 3), iC j (pc + 4), iC j (pc + 6), iC j (pc + 9) with
    | some (.dup, 1), some (.ldc z, 2), some (.invokespecial ic, 3), some (.athrow, 1) => iStrs.any (fun q => Nat.beq q.1 z) && ((Nat.beq e 1 && Nat.beq k 42 && Nat.beq ic 46) || (Nat.beq e 2 && Nat.beq k 53 && Nat.beq ic 57))
    | _, _, _, _ => false)
def iRtOk (j : Nat) (i : Instr) : Bool := match i with
  | .ireturn => (match iRt j with
    | some .int => !mR j
    | some .boolean => mR j
    | _ => false)
  | .areturn => (match iRt j with
    | some (.object _) => true
    | some (.array _) => true
    | _ => false)
  | .return_ => (iRt j).isNone
  | _ => true
def iOk (j pc : Nat) (i : Instr) : Bool := match i with
  | .putfield k => iFnOk j k
  | .invokestatic k => iClOk j 0 k
  | .invokevirtual k => iClOk j 1 k
  | .invokespecial k => iClOk j 2 k
  | .new k => iThOk j pc k
  | .ifCond _ off => decide (0 ≤ (pc : Int) + off)
  | .if_icmp _ off => decide (0 ≤ (pc : Int) + off)
  | .ifnull off => decide (0 ≤ (pc : Int) + off)
  | .ifnonnull off => decide (0 ≤ (pc : Int) + off)
  | i => iRtOk j i
theorem ok_0 : ∀ ch ∈ mC 0, ∀ q ∈ ch, iOk 0 q.1 q.2.1 = true := by decide +kernel
theorem ok_1 : ∀ ch ∈ mC 1, ∀ q ∈ ch, iOk 1 q.1 q.2.1 = true := by decide +kernel
theorem ok_2 : ∀ ch ∈ mC 2, ∀ q ∈ ch, iOk 2 q.1 q.2.1 = true := by decide +kernel
theorem ok_3 : ∀ ch ∈ mC 3, ∀ q ∈ ch, iOk 3 q.1 q.2.1 = true := by decide +kernel
theorem ok_4 : ∀ ch ∈ mC 4, ∀ q ∈ ch, iOk 4 q.1 q.2.1 = true := by decide +kernel
theorem ok_5 : ∀ ch ∈ mC 5, ∀ q ∈ ch, iOk 5 q.1 q.2.1 = true := by decide +kernel
theorem ok_6 : ∀ ch ∈ mC 6, ∀ q ∈ ch, iOk 6 q.1 q.2.1 = true := by decide +kernel
theorem ok_7 : ∀ ch ∈ mC 7, ∀ q ∈ ch, iOk 7 q.1 q.2.1 = true := by decide +kernel
theorem ok_8 : ∀ ch ∈ mC 8, ∀ q ∈ ch, iOk 8 q.1 q.2.1 = true := by decide +kernel
theorem ok_9 : ∀ ch ∈ mC 9, ∀ q ∈ ch, iOk 9 q.1 q.2.1 = true := by decide +kernel
theorem ok_10 : ∀ ch ∈ mC 10, ∀ q ∈ ch, iOk 10 q.1 q.2.1 = true := by decide +kernel
theorem ok_11 : ∀ ch ∈ mC 11, ∀ q ∈ ch, iOk 11 q.1 q.2.1 = true := by decide +kernel
theorem ok_12 : ∀ ch ∈ mC 12, ∀ q ∈ ch, iOk 12 q.1 q.2.1 = true := by decide +kernel
theorem ok_13 : ∀ ch ∈ mC 13, ∀ q ∈ ch, iOk 13 q.1 q.2.1 = true := by decide +kernel
theorem ok_14 : ∀ ch ∈ mC 14, ∀ q ∈ ch, iOk 14 q.1 q.2.1 = true := by decide +kernel
theorem ok_15 : ∀ ch ∈ mC 15, ∀ q ∈ ch, iOk 15 q.1 q.2.1 = true := by decide +kernel
theorem ok_16 : ∀ ch ∈ mC 16, ∀ q ∈ ch, iOk 16 q.1 q.2.1 = true := by decide +kernel
theorem ok_17 : ∀ ch ∈ mC 17, ∀ q ∈ ch, iOk 17 q.1 q.2.1 = true := by decide +kernel
theorem ok_18 : ∀ ch ∈ mC 18, ∀ q ∈ ch, iOk 18 q.1 q.2.1 = true := by decide +kernel
theorem ok_19 : ∀ ch ∈ mC 19, ∀ q ∈ ch, iOk 19 q.1 q.2.1 = true := by decide +kernel
theorem ok_20 : ∀ ch ∈ mC 20, ∀ q ∈ ch, iOk 20 q.1 q.2.1 = true := by decide +kernel
theorem ok_21 : ∀ ch ∈ mC 21, ∀ q ∈ ch, iOk 21 q.1 q.2.1 = true := by decide +kernel
theorem ok_22 : ∀ ch ∈ mC 22, ∀ q ∈ ch, iOk 22 q.1 q.2.1 = true := by decide +kernel
theorem ok_23 : ∀ ch ∈ mC 23, ∀ q ∈ ch, iOk 23 q.1 q.2.1 = true := by decide +kernel
theorem ok_24 : ∀ ch ∈ mC 24, ∀ q ∈ ch, iOk 24 q.1 q.2.1 = true := by decide +kernel
theorem ok_25 : ∀ ch ∈ mC 25, ∀ q ∈ ch, iOk 25 q.1 q.2.1 = true := by decide +kernel
theorem ok_26 : ∀ ch ∈ mC 26, ∀ q ∈ ch, iOk 26 q.1 q.2.1 = true := by decide +kernel
theorem ok_27 : ∀ ch ∈ mC 27, ∀ q ∈ ch, iOk 27 q.1 q.2.1 = true := by decide +kernel
theorem ok_28 : ∀ ch ∈ mC 28, ∀ q ∈ ch, iOk 28 q.1 q.2.1 = true := by decide +kernel
theorem ok_29 : ∀ ch ∈ mC 29, ∀ q ∈ ch, iOk 29 q.1 q.2.1 = true := by decide +kernel
theorem ok_30 : ∀ ch ∈ mC 30, ∀ q ∈ ch, iOk 30 q.1 q.2.1 = true := by decide +kernel
theorem ok_31 : ∀ ch ∈ mC 31, ∀ q ∈ ch, iOk 31 q.1 q.2.1 = true := by decide +kernel
theorem ok_32 : ∀ ch ∈ mC 32, ∀ q ∈ ch, iOk 32 q.1 q.2.1 = true := by decide +kernel
theorem ok_33 : ∀ ch ∈ mC 33, ∀ q ∈ ch, iOk 33 q.1 q.2.1 = true := by decide +kernel
theorem ok_34 : ∀ ch ∈ mC 34, ∀ q ∈ ch, iOk 34 q.1 q.2.1 = true := by decide +kernel
theorem ok_35 : ∀ ch ∈ mC 35, ∀ q ∈ ch, iOk 35 q.1 q.2.1 = true := by decide +kernel
theorem ok_36 : ∀ ch ∈ mC 36, ∀ q ∈ ch, iOk 36 q.1 q.2.1 = true := by decide +kernel
theorem ok_37 : ∀ ch ∈ mC 37, ∀ q ∈ ch, iOk 37 q.1 q.2.1 = true := by decide +kernel
theorem ok_38 : ∀ ch ∈ mC 38, ∀ q ∈ ch, iOk 38 q.1 q.2.1 = true := by decide +kernel
theorem ok_39 : ∀ ch ∈ mC 39, ∀ q ∈ ch, iOk 39 q.1 q.2.1 = true := by decide +kernel
theorem ok_40 : ∀ ch ∈ mC 40, ∀ q ∈ ch, iOk 40 q.1 q.2.1 = true := by decide +kernel
theorem ok_41 : ∀ ch ∈ mC 41, ∀ q ∈ ch, iOk 41 q.1 q.2.1 = true := by decide +kernel
theorem ok_42 : ∀ ch ∈ mC 42, ∀ q ∈ ch, iOk 42 q.1 q.2.1 = true := by decide +kernel
theorem ok_43 : ∀ ch ∈ mC 43, ∀ q ∈ ch, iOk 43 q.1 q.2.1 = true := by decide +kernel
theorem ok_44 : ∀ ch ∈ mC 44, ∀ q ∈ ch, iOk 44 q.1 q.2.1 = true := by decide +kernel
theorem ok_45 : ∀ ch ∈ mC 45, ∀ q ∈ ch, iOk 45 q.1 q.2.1 = true := by decide +kernel
theorem ok_46 : ∀ ch ∈ mC 46, ∀ q ∈ ch, iOk 46 q.1 q.2.1 = true := by decide +kernel
theorem ok_47 : ∀ ch ∈ mC 47, ∀ q ∈ ch, iOk 47 q.1 q.2.1 = true := by decide +kernel
theorem ok_48 : ∀ ch ∈ mC 48, ∀ q ∈ ch, iOk 48 q.1 q.2.1 = true := by decide +kernel
theorem ok_49 : ∀ ch ∈ mC 49, ∀ q ∈ ch, iOk 49 q.1 q.2.1 = true := by decide +kernel
theorem ok_50 : ∀ ch ∈ mC 50, ∀ q ∈ ch, iOk 50 q.1 q.2.1 = true := by decide +kernel
theorem ok_51 : ∀ ch ∈ mC 51, ∀ q ∈ ch, iOk 51 q.1 q.2.1 = true := by decide +kernel
theorem ok_52 : ∀ ch ∈ mC 52, ∀ q ∈ ch, iOk 52 q.1 q.2.1 = true := by decide +kernel
theorem ok_53 : ∀ ch ∈ mC 53, ∀ q ∈ ch, iOk 53 q.1 q.2.1 = true := by decide +kernel
theorem ok_54 : ∀ ch ∈ mC 54, ∀ q ∈ ch, iOk 54 q.1 q.2.1 = true := by decide +kernel
theorem ok_55 : ∀ ch ∈ mC 55, ∀ q ∈ ch, iOk 55 q.1 q.2.1 = true := by decide +kernel
theorem ok_56 : ∀ ch ∈ mC 56, ∀ q ∈ ch, iOk 56 q.1 q.2.1 = true := by decide +kernel
theorem ok_57 : ∀ ch ∈ mC 57, ∀ q ∈ ch, iOk 57 q.1 q.2.1 = true := by decide +kernel
theorem ok_58 : ∀ ch ∈ mC 58, ∀ q ∈ ch, iOk 58 q.1 q.2.1 = true := by decide +kernel
theorem ok_59 : ∀ ch ∈ mC 59, ∀ q ∈ ch, iOk 59 q.1 q.2.1 = true := by decide +kernel
theorem ok_60 : ∀ ch ∈ mC 60, ∀ q ∈ ch, iOk 60 q.1 q.2.1 = true := by decide +kernel
theorem ok_61 : ∀ ch ∈ mC 61, ∀ q ∈ ch, iOk 61 q.1 q.2.1 = true := by decide +kernel
theorem ok_62 : ∀ ch ∈ mC 62, ∀ q ∈ ch, iOk 62 q.1 q.2.1 = true := by decide +kernel
theorem ok_63 : ∀ ch ∈ mC 63, ∀ q ∈ ch, iOk 63 q.1 q.2.1 = true := by decide +kernel
theorem ok_64 : ∀ ch ∈ mC 64, ∀ q ∈ ch, iOk 64 q.1 q.2.1 = true := by decide +kernel
theorem ok_65 : ∀ ch ∈ mC 65, ∀ q ∈ ch, iOk 65 q.1 q.2.1 = true := by decide +kernel
theorem ok_66 : ∀ ch ∈ mC 66, ∀ q ∈ ch, iOk 66 q.1 q.2.1 = true := by decide +kernel
theorem ok_67 : ∀ ch ∈ mC 67, ∀ q ∈ ch, iOk 67 q.1 q.2.1 = true := by decide +kernel
theorem ok_68 : ∀ ch ∈ mC 68, ∀ q ∈ ch, iOk 68 q.1 q.2.1 = true := by decide +kernel
theorem ok_69 : ∀ ch ∈ mC 69, ∀ q ∈ ch, iOk 69 q.1 q.2.1 = true := by decide +kernel
theorem ok_70 : ∀ ch ∈ mC 70, ∀ q ∈ ch, iOk 70 q.1 q.2.1 = true := by decide +kernel
theorem ok_71 : ∀ ch ∈ mC 71, ∀ q ∈ ch, iOk 71 q.1 q.2.1 = true := by decide +kernel
theorem ok_72 : ∀ ch ∈ mC 72, ∀ q ∈ ch, iOk 72 q.1 q.2.1 = true := by decide +kernel
theorem ok_73 : ∀ ch ∈ mC 73, ∀ q ∈ ch, iOk 73 q.1 q.2.1 = true := by decide +kernel
theorem ok_74 : ∀ ch ∈ mC 74, ∀ q ∈ ch, iOk 74 q.1 q.2.1 = true := by decide +kernel
theorem ok_75 : ∀ ch ∈ mC 75, ∀ q ∈ ch, iOk 75 q.1 q.2.1 = true := by decide +kernel
theorem ok_76 : ∀ ch ∈ mC 76, ∀ q ∈ ch, iOk 76 q.1 q.2.1 = true := by decide +kernel
theorem ok_77 : ∀ ch ∈ mC 77, ∀ q ∈ ch, iOk 77 q.1 q.2.1 = true := by decide +kernel
theorem ok_78 : ∀ ch ∈ mC 78, ∀ q ∈ ch, iOk 78 q.1 q.2.1 = true := by decide +kernel
theorem ok_79 : ∀ ch ∈ mC 79, ∀ q ∈ ch, iOk 79 q.1 q.2.1 = true := by decide +kernel
theorem ok_80 : ∀ ch ∈ mC 80, ∀ q ∈ ch, iOk 80 q.1 q.2.1 = true := by decide +kernel
theorem ok_81 : ∀ ch ∈ mC 81, ∀ q ∈ ch, iOk 81 q.1 q.2.1 = true := by decide +kernel
theorem ok_82 : ∀ ch ∈ mC 82, ∀ q ∈ ch, iOk 82 q.1 q.2.1 = true := by decide +kernel
theorem ok_83 : ∀ ch ∈ mC 83, ∀ q ∈ ch, iOk 83 q.1 q.2.1 = true := by decide +kernel
theorem ok_84 : ∀ ch ∈ mC 84, ∀ q ∈ ch, iOk 84 q.1 q.2.1 = true := by decide +kernel
theorem ok_85 : ∀ ch ∈ mC 85, ∀ q ∈ ch, iOk 85 q.1 q.2.1 = true := by decide +kernel
theorem ok_86 : ∀ ch ∈ mC 86, ∀ q ∈ ch, iOk 86 q.1 q.2.1 = true := by decide +kernel
theorem ok_87 : ∀ ch ∈ mC 87, ∀ q ∈ ch, iOk 87 q.1 q.2.1 = true := by decide +kernel
theorem ok_88 : ∀ ch ∈ mC 88, ∀ q ∈ ch, iOk 88 q.1 q.2.1 = true := by decide +kernel
theorem ok_89 : ∀ ch ∈ mC 89, ∀ q ∈ ch, iOk 89 q.1 q.2.1 = true := by decide +kernel
theorem ok_90 : ∀ ch ∈ mC 90, ∀ q ∈ ch, iOk 90 q.1 q.2.1 = true := by decide +kernel
theorem ok_91 : ∀ ch ∈ mC 91, ∀ q ∈ ch, iOk 91 q.1 q.2.1 = true := by decide +kernel
theorem ok_92 : ∀ ch ∈ mC 92, ∀ q ∈ ch, iOk 92 q.1 q.2.1 = true := by decide +kernel
theorem ok_93 : ∀ ch ∈ mC 93, ∀ q ∈ ch, iOk 93 q.1 q.2.1 = true := by decide +kernel
theorem ok_94 : ∀ ch ∈ mC 94, ∀ q ∈ ch, iOk 94 q.1 q.2.1 = true := by decide +kernel
theorem ok_95 : ∀ ch ∈ mC 95, ∀ q ∈ ch, iOk 95 q.1 q.2.1 = true := by decide +kernel
theorem ok_96 : ∀ ch ∈ mC 96, ∀ q ∈ ch, iOk 96 q.1 q.2.1 = true := by decide +kernel
theorem ok_97 : ∀ ch ∈ mC 97, ∀ q ∈ ch, iOk 97 q.1 q.2.1 = true := by decide +kernel
theorem ok_98 : ∀ ch ∈ mC 98, ∀ q ∈ ch, iOk 98 q.1 q.2.1 = true := by decide +kernel
theorem ok_99 : ∀ ch ∈ mC 99, ∀ q ∈ ch, iOk 99 q.1 q.2.1 = true := by decide +kernel
theorem ok_100 : ∀ ch ∈ mC 100, ∀ q ∈ ch, iOk 100 q.1 q.2.1 = true := by decide +kernel
theorem ok_101 : ∀ ch ∈ mC 101, ∀ q ∈ ch, iOk 101 q.1 q.2.1 = true := by decide +kernel
theorem ok_102 : ∀ ch ∈ mC 102, ∀ q ∈ ch, iOk 102 q.1 q.2.1 = true := by decide +kernel
theorem ok_103 : ∀ ch ∈ mC 103, ∀ q ∈ ch, iOk 103 q.1 q.2.1 = true := by decide +kernel
theorem ok_104 : ∀ ch ∈ mC 104, ∀ q ∈ ch, iOk 104 q.1 q.2.1 = true := by decide +kernel
theorem ok_105 : ∀ ch ∈ mC 105, ∀ q ∈ ch, iOk 105 q.1 q.2.1 = true := by decide +kernel
theorem ok_106 : ∀ ch ∈ mC 106, ∀ q ∈ ch, iOk 106 q.1 q.2.1 = true := by decide +kernel
theorem ok_107 : ∀ ch ∈ mC 107, ∀ q ∈ ch, iOk 107 q.1 q.2.1 = true := by decide +kernel
theorem ok_108 : ∀ ch ∈ mC 108, ∀ q ∈ ch, iOk 108 q.1 q.2.1 = true := by decide +kernel
theorem ok_109 : ∀ ch ∈ mC 109, ∀ q ∈ ch, iOk 109 q.1 q.2.1 = true := by decide +kernel
theorem ok_110 : ∀ ch ∈ mC 110, ∀ q ∈ ch, iOk 110 q.1 q.2.1 = true := by decide +kernel
theorem ok_111 : ∀ ch ∈ mC 111, ∀ q ∈ ch, iOk 111 q.1 q.2.1 = true := by decide +kernel
theorem ok_112 : ∀ ch ∈ mC 112, ∀ q ∈ ch, iOk 112 q.1 q.2.1 = true := by decide +kernel
theorem ok_113 : ∀ ch ∈ mC 113, ∀ q ∈ ch, iOk 113 q.1 q.2.1 = true := by decide +kernel
theorem ok_114 : ∀ ch ∈ mC 114, ∀ q ∈ ch, iOk 114 q.1 q.2.1 = true := by decide +kernel
theorem ok_115 : ∀ ch ∈ mC 115, ∀ q ∈ ch, iOk 115 q.1 q.2.1 = true := by decide +kernel
theorem ok_116 : ∀ ch ∈ mC 116, ∀ q ∈ ch, iOk 116 q.1 q.2.1 = true := by decide +kernel
theorem ok_117 : ∀ ch ∈ mC 117, ∀ q ∈ ch, iOk 117 q.1 q.2.1 = true := by decide +kernel
theorem ok_118 : ∀ ch ∈ mC 118, ∀ q ∈ ch, iOk 118 q.1 q.2.1 = true := by decide +kernel
theorem ok_119 : ∀ ch ∈ mC 119, ∀ q ∈ ch, iOk 119 q.1 q.2.1 = true := by decide +kernel
theorem ok_120 : ∀ ch ∈ mC 120, ∀ q ∈ ch, iOk 120 q.1 q.2.1 = true := by decide +kernel
theorem ok_121 : ∀ ch ∈ mC 121, ∀ q ∈ ch, iOk 121 q.1 q.2.1 = true := by decide +kernel
theorem ok_122 : ∀ ch ∈ mC 122, ∀ q ∈ ch, iOk 122 q.1 q.2.1 = true := by decide +kernel
theorem ok_123 : ∀ ch ∈ mC 123, ∀ q ∈ ch, iOk 123 q.1 q.2.1 = true := by decide +kernel
theorem ok_124 : ∀ ch ∈ mC 124, ∀ q ∈ ch, iOk 124 q.1 q.2.1 = true := by decide +kernel
theorem ok_125 : ∀ ch ∈ mC 125, ∀ q ∈ ch, iOk 125 q.1 q.2.1 = true := by decide +kernel
theorem ok_126 : ∀ ch ∈ mC 126, ∀ q ∈ ch, iOk 126 q.1 q.2.1 = true := by decide +kernel
theorem ok_127 : ∀ ch ∈ mC 127, ∀ q ∈ ch, iOk 127 q.1 q.2.1 = true := by decide +kernel
theorem ok_128 : ∀ ch ∈ mC 128, ∀ q ∈ ch, iOk 128 q.1 q.2.1 = true := by decide +kernel
theorem ok_129 : ∀ ch ∈ mC 129, ∀ q ∈ ch, iOk 129 q.1 q.2.1 = true := by decide +kernel
theorem ok_130 : ∀ ch ∈ mC 130, ∀ q ∈ ch, iOk 130 q.1 q.2.1 = true := by decide +kernel
theorem ok_131 : ∀ ch ∈ mC 131, ∀ q ∈ ch, iOk 131 q.1 q.2.1 = true := by decide +kernel
theorem ok_132 : ∀ ch ∈ mC 132, ∀ q ∈ ch, iOk 132 q.1 q.2.1 = true := by decide +kernel
theorem ok_133 : ∀ ch ∈ mC 133, ∀ q ∈ ch, iOk 133 q.1 q.2.1 = true := by decide +kernel
theorem ok_134 : ∀ ch ∈ mC 134, ∀ q ∈ ch, iOk 134 q.1 q.2.1 = true := by decide +kernel
theorem ok_135 : ∀ ch ∈ mC 135, ∀ q ∈ ch, iOk 135 q.1 q.2.1 = true := by decide +kernel
theorem ok_136 : ∀ ch ∈ mC 136, ∀ q ∈ ch, iOk 136 q.1 q.2.1 = true := by decide +kernel
theorem ok_137 : ∀ ch ∈ mC 137, ∀ q ∈ ch, iOk 137 q.1 q.2.1 = true := by decide +kernel
theorem ok_138 : ∀ ch ∈ mC 138, ∀ q ∈ ch, iOk 138 q.1 q.2.1 = true := by decide +kernel
theorem ok_139 : ∀ ch ∈ mC 139, ∀ q ∈ ch, iOk 139 q.1 q.2.1 = true := by decide +kernel
theorem okA : ∀ j : Nat, ∀ ch ∈ mC j, ∀ q ∈ ch, iOk j q.1 q.2.1 = true
  | 0 => ok_0
  | 1 => ok_1
  | 2 => ok_2
  | 3 => ok_3
  | 4 => ok_4
  | 5 => ok_5
  | 6 => ok_6
  | 7 => ok_7
  | 8 => ok_8
  | 9 => ok_9
  | 10 => ok_10
  | 11 => ok_11
  | 12 => ok_12
  | 13 => ok_13
  | 14 => ok_14
  | 15 => ok_15
  | 16 => ok_16
  | 17 => ok_17
  | 18 => ok_18
  | 19 => ok_19
  | 20 => ok_20
  | 21 => ok_21
  | 22 => ok_22
  | 23 => ok_23
  | 24 => ok_24
  | 25 => ok_25
  | 26 => ok_26
  | 27 => ok_27
  | 28 => ok_28
  | 29 => ok_29
  | 30 => ok_30
  | 31 => ok_31
  | 32 => ok_32
  | 33 => ok_33
  | 34 => ok_34
  | 35 => ok_35
  | 36 => ok_36
  | 37 => ok_37
  | 38 => ok_38
  | 39 => ok_39
  | 40 => ok_40
  | 41 => ok_41
  | 42 => ok_42
  | 43 => ok_43
  | 44 => ok_44
  | 45 => ok_45
  | 46 => ok_46
  | 47 => ok_47
  | 48 => ok_48
  | 49 => ok_49
  | 50 => ok_50
  | 51 => ok_51
  | 52 => ok_52
  | 53 => ok_53
  | 54 => ok_54
  | 55 => ok_55
  | 56 => ok_56
  | 57 => ok_57
  | 58 => ok_58
  | 59 => ok_59
  | 60 => ok_60
  | 61 => ok_61
  | 62 => ok_62
  | 63 => ok_63
  | 64 => ok_64
  | 65 => ok_65
  | 66 => ok_66
  | 67 => ok_67
  | 68 => ok_68
  | 69 => ok_69
  | 70 => ok_70
  | 71 => ok_71
  | 72 => ok_72
  | 73 => ok_73
  | 74 => ok_74
  | 75 => ok_75
  | 76 => ok_76
  | 77 => ok_77
  | 78 => ok_78
  | 79 => ok_79
  | 80 => ok_80
  | 81 => ok_81
  | 82 => ok_82
  | 83 => ok_83
  | 84 => ok_84
  | 85 => ok_85
  | 86 => ok_86
  | 87 => ok_87
  | 88 => ok_88
  | 89 => ok_89
  | 90 => ok_90
  | 91 => ok_91
  | 92 => ok_92
  | 93 => ok_93
  | 94 => ok_94
  | 95 => ok_95
  | 96 => ok_96
  | 97 => ok_97
  | 98 => ok_98
  | 99 => ok_99
  | 100 => ok_100
  | 101 => ok_101
  | 102 => ok_102
  | 103 => ok_103
  | 104 => ok_104
  | 105 => ok_105
  | 106 => ok_106
  | 107 => ok_107
  | 108 => ok_108
  | 109 => ok_109
  | 110 => ok_110
  | 111 => ok_111
  | 112 => ok_112
  | 113 => ok_113
  | 114 => ok_114
  | 115 => ok_115
  | 116 => ok_116
  | 117 => ok_117
  | 118 => ok_118
  | 119 => ok_119
  | 120 => ok_120
  | 121 => ok_121
  | 122 => ok_122
  | 123 => ok_123
  | 124 => ok_124
  | 125 => ok_125
  | 126 => ok_126
  | 127 => ok_127
  | 128 => ok_128
  | 129 => ok_129
  | 130 => ok_130
  | 131 => ok_131
  | 132 => ok_132
  | 133 => ok_133
  | 134 => ok_134
  | 135 => ok_135
  | 136 => ok_136
  | 137 => ok_137
  | 138 => ok_138
  | 139 => ok_139
  | j + 140 => fun _ h => absurd (show _ ∈ ([] : List (List (Nat × Instr × Nat))) from h) List.not_mem_nil

theorem iOkA {j pc : Nat} {i : Instr} {len : Nat} (h : iC j pc = some (i, len)) : iOk j pc i = true := by
  unfold iC at h
  cases hc : (mC j)[pc / 64]? with
  | none => rw [hc] at h; cases h
  | some ch =>
    rw [hc] at h
    exact okA j ch (List.mem_of_getElem? hc) (pc, i, len) (iLk h)
theorem iMx {w k q n r : Nat} (h : pM w k = some (q, n, r)) : (q = 999 ∧ Cond.methodLink (iO_ w) k objectInit ∈ lw_tbl) ∨ (q < 140 ∧ q ≠ 137 ∧ iMO w k q n r) := pMxA w (k, q, n, r) (iLk h)
