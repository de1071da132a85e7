/-! ===== the constructors: a machine that makes the cells, one after another ===== -/
abbrev Mu : Type := Nat × (Nat → List Value)
def mSet (μ : Nat → List Value) (k : Nat) (l : List Value) : Nat → List Value := fun a => cond (Nat.beq a k) l (μ a)
def mMul (μ : Nat → List Value) (n N m : Nat) : Nat → List Value := fun a => cond (Nat.beq a n) ((List.range N).map (fun j => Value.ref (n + 1 + j))) (cond (Nat.ble (n + 1) a && Nat.ble a (n + N)) (List.replicate m (.int 0)) (μ a))
def kT : List mRow := [(⟨"NamesInRow$Row", "<init>", "()V"⟩, prog_7_method_1_code, 1, none, 5, 0, false, 1, 12), (⟨"NamesInRow$Ranking", "<init>", "()V"⟩, prog_6_method_1_code, 1, none, 4, 0, false, 2, 32), (⟨"NamesInRow$Arrangement", "<init>", "()V"⟩, prog_2_method_1_code, 1, none, 0, 0, false, 3, 52), (⟨"NamesInRow$Division", "<init>", "()V"⟩, prog_3_method_1_code, 1, none, 1, 0, false, 1, 12), (⟨"NamesInRow$Quarrels", "<init>", "()V"⟩, prog_5_method_1_code, 2, none, 3, 0, false, 2, 32), (⟨"NamesInRow$Paper", "<init>", "()V"⟩, prog_4_method_1_code, 2, none, 2, 0, false, 2, 32), (⟨"NamesInRow", "<init>", "()V"⟩, prog_1_method_1_code, 2, none, 6, 0, false, 4, 72), (⟨"NamesInRowModel", "<init>", "()V"⟩, prog_9_method_1_code, 2, none, 7, 0, false, 1, 12), (⟨"NamesInRowLaw", "law", "([I)Z"⟩, code, 4, some .boolean, 8, 1, true, 7, 177)]
def kE (M : Nat) : mRow := kT.getD M mDf
def kY (M : Nat) : MethodName := (kE M).1
def kB (M : Nat) : ByteArray := (kE M).2.1
def kL (M : Nat) : Nat := (kE M).2.2.1
def kR (M : Nat) : Option FieldType := (kE M).2.2.2.1
def kC (M : Nat) : Nat := (kE M).2.2.2.2.1
def kF (M : Nat) : Nat := (kE M).2.2.2.2.2.2.2.1
def kQ (M : Nat) : Nat := (kE M).2.2.2.2.2.2.2.2
def newT : List ((Nat × Nat) × Nat) := [((8, 7), 6), ((8, 10), 7), ((6, 22), 0), ((6, 29), 1), ((6, 36), 3), ((6, 43), 4), ((6, 9), 2), ((0, 9), 4), ((0, 18), 5), ((4, 9), 5), ((3, 20), 5), ((2, 26), 5)]
def iniT : List ((Nat × Nat) × Nat × Bool) := [((8, 9), 6, false), ((8, 12), 7, false), ((6, 24), 2, true), ((6, 31), 3, true), ((6, 38), 4, false), ((6, 45), 1, true), ((6, 50), 5, false), ((0, 11), 1, true), ((0, 20), 0, true), ((4, 11), 0, true), ((3, 22), 0, true), ((2, 28), 0, true)]
def objT : List ((Nat × Nat) × Nat) := [((6, 1), 0), ((7, 1), 0), ((0, 3), 0), ((1, 3), 0), ((2, 3), 0), ((3, 3), 0), ((4, 3), 0), ((5, 3), 0)]
def maT : List ((Nat × Nat) × Nat) := [((3, 9), 0), ((2, 18), 0)]
def dfV (ci j : Nat) : Value := match fC ci j with
  | 0 => .int 0
  | 1 => .long 0
  | _ => .null
def dfl (ci n : Nat) : List Value := (List.range n).map (dfV ci)
def okF (ci j : Nat) (v : Value) : Bool := match fC ci j, v with
  | 0, .int _ => true
  | 1, .long _ => true
  | _ + 2, .ref _ => true
  | _, _ => false
def σz : Mem := (fun _ _ => 0, fun _ _ => 0)
abbrev Cx : Type := Option (Nat × List Value × List Value × Mu)
def lf (w : Nx) (μ : Mu) : Cx := w.map (fun r => (r.1, r.2.1, r.2.2.1, μ))
def cNew (c i p : Nat) (ls st : List Value) (μ : Mu) : Cx := match newT.lookup (c, i) with
  | some ci => if cK μ.1 = ci then some (p, ls, .ref μ.1 :: st, (μ.1 + 1, mSet μ.2 μ.1 (dfl ci (cN μ.1)))) else none
  | none => none
def cArr (t : ArrayType) (p : Nat) (ls st : List Value) (μ : Mu) : Cx := match st with
  | .int x :: r => if x = nI (cN μ.1) then (if t = .int ∧ cK μ.1 = 10 then some (p, ls, .ref μ.1 :: r, (μ.1 + 1, mSet μ.2 μ.1 (List.replicate (cN μ.1) (.int 0)))) else if t = .long ∧ cK μ.1 = 11 then some (p, ls, .ref μ.1 :: r, (μ.1 + 1, mSet μ.2 μ.1 (List.replicate (cN μ.1) (.long 0)))) else none) else none
  | _ => none
def cAnw (c i p : Nat) (ls st : List Value) (μ : Mu) : Cx := match st with
  | .int x :: r => if x = nI (cN μ.1) ∧ c = 6 ∧ i = 9 ∧ cK μ.1 = 12 then some (p, ls, .ref μ.1 :: r, (μ.1 + 1, mSet μ.2 μ.1 (List.replicate (cN μ.1) .null))) else none
  | _ => none
def cMul (c i p : Nat) (ls st : List Value) (μ : Mu) : Cx := match st with
  | .int y :: .int x :: r => if (maT.lookup (c, i)).isSome = true ∧ x = nI (cN μ.1) ∧ y = nI 7 ∧ cK μ.1 = 13 ∧ (∀ j, j < cN μ.1 → cK (μ.1 + 1 + j) = 10 ∧ cN (μ.1 + 1 + j) = 7) then some (p, ls, .ref μ.1 :: r, (μ.1 + 1 + cN μ.1, mMul μ.2 μ.1 (cN μ.1) 7)) else none
  | _ => none
def cPut (c i p : Nat) (ls st : List Value) (μ : Mu) : Cx := match fTb.lookup (c, i), st with
  | some (ci, j), v :: .ref k :: r => if ci = c ∧ cK k = ci ∧ k < μ.1 ∧ okF ci j v = true then some (p, ls, r, (μ.1, mSet μ.2 k ((μ.2 k).set j v))) else none
  | _, _ => none
def cGet (c i p : Nat) (ls st : List Value) (μ : Mu) : Cx := match fTb.lookup (c, i), st with
  | some (ci, j), .ref k :: r => if cK k = ci ∧ k < μ.1 then (match (μ.2 k).getD j .null with
      | .ref x => some (p, ls, .ref x :: r, μ)
      | _ => none) else none
  | _, _ => none
def cIas (p : Nat) (ls st : List Value) (μ : Mu) : Cx := match st with
  | .int x :: .int i :: .ref k :: r => if cK k = 10 ∧ k < μ.1 ∧ ¬ (i < 0 ∨ cN k ≤ i.toNatClampNeg) then some (p, ls, r, (μ.1, mSet μ.2 k ((μ.2 k).set i.toNatClampNeg (.int x)))) else none
  | _ => none
def cAas (p : Nat) (ls st : List Value) (μ : Mu) : Cx := match st with
  | .ref v :: .int i :: .ref k :: r => if cK k = 12 ∧ k < μ.1 ∧ cK v = 2 ∧ v < μ.1 ∧ ¬ (i < 0 ∨ cN k ≤ i.toNatClampNeg) then some (p, ls, r, (μ.1, mSet μ.2 k ((μ.2 k).set i.toNatClampNeg (.ref v)))) else none
  | _ => none
def cStp (c : Nat) (ins : Instr) (p0 p : Nat) (ls st : List Value) (μ : Mu) : Cx := match ins with
  | .aload_n k => lf (hLA k.val p ls st σz) μ
  | .iload_n k => lf (hLI k.val p ls st σz) μ
  | .istore_n k => lf (hSI k.val p ls st σz) μ
  | .astore_n k => lf (hSA k.val p ls st σz) μ
  | .iinc k n => lf (hInc k n p ls st σz) μ
  | .iconst n => some (p, ls, .int (Int32.ofInt n) :: st, μ)
  | .bipush n => some (p, ls, .int (Int8.ofInt n).toInt32 :: st, μ)
  | .sipush n => some (p, ls, .int (Int16.ofInt n).toInt32 :: st, μ)
  | .lconst n => some (p, ls, .long (Int64.ofNat n) :: st, μ)
  | .irem => lf (dI (fun x y => x - x / y * y) p ls st σz) μ
  | .dup => lf (hDup p ls st σz) μ
  | .goto off => lf (hGo p0 off ls st σz) μ
  | .ifCond cd off => lf (hIf cd p0 off p ls st σz) μ
  | .if_icmp cd off => lf (hIc cd p0 off p ls st σz) μ
  | .new i => cNew c i p ls st μ
  | .newarray t => cArr t p ls st μ
  | .anewarray i => cAnw c i p ls st μ
  | .multianewarray i d => if d = 2 then cMul c i p ls st μ else none
  | .putfield i => cPut c i p ls st μ
  | .getfield i => cGet c i p ls st μ
  | .iastore => cIas p ls st μ
  | .aastore => cAas p ls st μ
  | _ => none
def ilC (ins : Instr) : Nat := match ins with
  | .new _ => 3
  | .newarray _ => 2
  | .anewarray _ => 3
  | .multianewarray _ _ => 4
  | .invokespecial _ => 3
  | i => il i
def kdC (ins : Instr) : Nat := match ins with
  | .return_ => 1
  | .invokespecial _ => 2
  | _ => 0
def okK (M k : Nat) (r : List Value) : Bool := decide (dep r ≤ 8) && decide (kF k + 1 ≤ kF M) && decide (8 + (kL k + 11) + kQ k ≤ kQ M)
/-- whom an invokespecial calls: 99 for Object's own -/
def cSp (M : Nat) (ins : Instr) (st : List Value) (n : Nat) : Option (Nat × Nat × List Value) := match ins, st with
  | .invokespecial i, .ref b :: r => (match objT.lookup (kC M, i) with
    | some _ => if r = [] ∧ M < 8 then some (99, b, r) else none
    | none => (match iniT.lookup (kC M, i) with
      | some (k, _) => if okK M k r = true ∧ cK b = kC k ∧ b < n then some (k, b, r) else none
      | none => none))
  | _, _ => none
def kI_0 : List (Nat × Instr × Nat) := [(0, .aload_n 0, 1), (1, .invokespecial 3, 3), (4, .aload_n 0, 1), (5, .bipush 7, 2), (7, .newarray .int, 2), (9, .putfield 9, 3), (12, .return_, 1)]
def kI_1 : List (Nat × Instr × Nat) := [(0, .aload_n 0, 1), (1, .invokespecial 3, 3), (4, .aload_n 0, 1), (5, .new 9, 3), (8, .dup, 1), (9, .invokespecial 11, 3), (12, .putfield 12, 3), (15, .aload_n 0, 1), (16, .bipush 7, 2), (18, .newarray .long, 2), (20, .putfield 18, 3), (23, .return_, 1)]
def kI_2 : List (Nat × Instr × Nat) := [(0, .aload_n 0, 1), (1, .invokespecial 3, 3), (4, .aload_n 0, 1), (5, .new 9, 3), (8, .dup, 1), (9, .invokespecial 11, 3), (12, .putfield 12, 3), (15, .aload_n 0, 1), (16, .new 18, 3), (19, .dup, 1), (20, .invokespecial 20, 3), (23, .putfield 21, 3), (26, .return_, 1)]
def kI_3 : List (Nat × Instr × Nat) := [(0, .aload_n 0, 1), (1, .invokespecial 3, 3), (4, .aload_n 0, 1), (5, .bipush 7, 2), (7, .newarray .int, 2), (9, .putfield 9, 3), (12, .aload_n 0, 1), (13, .iconst 1, 1), (14, .putfield 15, 3), (17, .aload_n 0, 1), (18, .bipush 7, 2), (20, .newarray .int, 2), (22, .putfield 19, 3), (25, .return_, 1)]
def kI_4 : List (Nat × Instr × Nat) := [(0, .aload_n 0, 1), (1, .invokespecial 3, 3), (4, .aload_n 0, 1), (5, .bipush 7, 2), (7, .bipush 7, 2), (9, .multianewarray 9 2, 4), (13, .putfield 11, 3), (16, .aload_n 0, 1), (17, .bipush 7, 2), (19, .newarray .int, 2), (21, .putfield 16, 3), (24, .aload_n 0, 1), (25, .new 20, 3), (28, .dup, 1), (29, .invokespecial 22, 3), (32, .putfield 23, 3), (35, .aload_n 0, 1), (36, .sipush 128, 3), (39, .newarray .int, 2), (41, .putfield 27, 3), (44, .iconst 0, 1), (45, .istore_n 1, 1), (46, .iload_n 1, 1), (47, .bipush 7, 2), (49, .if_icmp .ge 17, 3), (52, .aload_n 0, 1), (53, .getfield 16, 3), (56, .iload_n 1, 1), (57, .bipush 60, 2), (59, .iastore, 1), (60, .iinc 1 1, 3), (63, .goto (-17), 3), (66, .return_, 1)]
def kI_5 : List (Nat × Instr × Nat) := [(0, .aload_n 0, 1), (1, .invokespecial 3, 3), (4, .aload_n 0, 1), (5, .iconst 4, 1), (6, .newarray .int, 2), (8, .putfield 9, 3), (11, .aload_n 0, 1), (12, .iconst 4, 1), (13, .newarray .int, 2), (15, .putfield 15, 3), (18, .aload_n 0, 1), (19, .iconst 4, 1), (20, .bipush 7, 2), (22, .multianewarray 18 2, 4), (26, .putfield 20, 3), (29, .aload_n 0, 1), (30, .bipush 7, 2), (32, .newarray .int, 2), (34, .putfield 23, 3), (37, .aload_n 0, 1), (38, .new 26, 3), (41, .dup, 1), (42, .invokespecial 28, 3), (45, .putfield 29, 3), (48, .aload_n 0, 1), (49, .bipush 7, 2), (51, .newarray .long, 2), (53, .putfield 33, 3), (56, .aload_n 0, 1), (57, .lconst 1, 1), (58, .putfield 37, 3), (61, .aload_n 0, 1), (62, .getfield 9, 3), (65, .iconst 0, 1), (66, .iconst 1, 1), (67, .iastore, 1), (68, .iconst 0, 1), (69, .istore_n 1, 1), (70, .iload_n 1, 1), (71, .iconst 4, 1), (72, .if_icmp .ge 16, 3), (75, .aload_n 0, 1), (76, .getfield 15, 3), (79, .iload_n 1, 1), (80, .iconst 1, 1), (81, .iastore, 1), (82, .iinc 1 1, 3), (85, .goto (-15), 3), (88, .return_, 1)]
def kI_6 : List (Nat × Instr × Nat) := [(0, .aload_n 0, 1), (1, .invokespecial 1, 3), (4, .aload_n 0, 1), (5, .bipush 8, 2), (7, .anewarray 9, 3), (10, .putfield 11, 3), (13, .aload_n 0, 1), (14, .iconst 3, 1), (15, .newarray .int, 2), (17, .putfield 15, 3), (20, .aload_n 0, 1), (21, .bipush 7, 2), (23, .newarray .int, 2), (25, .putfield 19, 3), (28, .aload_n 0, 1), (29, .new 22, 3), (32, .dup, 1), (33, .invokespecial 24, 3), (36, .putfield 25, 3), (39, .aload_n 0, 1), (40, .new 29, 3), (43, .dup, 1), (44, .invokespecial 31, 3), (47, .putfield 32, 3), (50, .aload_n 0, 1), (51, .new 36, 3), (54, .dup, 1), (55, .invokespecial 38, 3), (58, .putfield 39, 3), (61, .aload_n 0, 1), (62, .new 43, 3), (65, .dup, 1), (66, .invokespecial 45, 3), (69, .putfield 46, 3), (72, .iconst 0, 1), (73, .istore_n 1, 1), (74, .iload_n 1, 1), (75, .bipush 8, 2), (77, .if_icmp .ge 22, 3), (80, .aload_n 0, 1), (81, .getfield 11, 3), (84, .iload_n 1, 1), (85, .new 9, 3), (88, .dup, 1), (89, .invokespecial 50, 3), (92, .aastore, 1), (93, .iinc 1 1, 3), (96, .goto (-22), 3), (99, .iconst 0, 1), (100, .istore_n 1, 1), (101, .iload_n 1, 1), (102, .iconst 3, 1), (103, .if_icmp .ge 17, 3), (106, .aload_n 0, 1), (107, .getfield 15, 3), (110, .iload_n 1, 1), (111, .bipush (-9), 2), (113, .iastore, 1), (114, .iinc 1 1, 3), (117, .goto (-16), 3), (120, .return_, 1)]
def kI_7 : List (Nat × Instr × Nat) := [(0, .aload_n 0, 1), (1, .invokespecial 1, 3), (4, .aload_n 0, 1), (5, .bipush 8, 2), (7, .newarray .int, 2), (9, .putfield 7, 3), (12, .aload_n 0, 1), (13, .bipush 32, 2), (15, .newarray .int, 2), (17, .putfield 13, 3), (20, .aload_n 0, 1), (21, .bipush 32, 2), (23, .newarray .int, 2), (25, .putfield 16, 3), (28, .aload_n 0, 1), (29, .sipush 224, 3), (32, .newarray .int, 2), (34, .putfield 19, 3), (37, .aload_n 0, 1), (38, .bipush 8, 2), (40, .newarray .int, 2), (42, .putfield 22, 3), (45, .aload_n 0, 1), (46, .bipush 56, 2), (48, .newarray .int, 2), (50, .putfield 25, 3), (53, .aload_n 0, 1), (54, .bipush 7, 2), (56, .newarray .long, 2), (58, .putfield 28, 3), (61, .aload_n 0, 1), (62, .iconst 3, 1), (63, .newarray .int, 2), (65, .putfield 32, 3), (68, .aload_n 0, 1), (69, .bipush 7, 2), (71, .newarray .int, 2), (73, .putfield 35, 3), (76, .aload_n 0, 1), (77, .bipush 7, 2), (79, .newarray .int, 2), (81, .putfield 38, 3), (84, .aload_n 0, 1), (85, .bipush 7, 2), (87, .newarray .long, 2), (89, .putfield 41, 3), (92, .aload_n 0, 1), (93, .bipush 7, 2), (95, .newarray .long, 2), (97, .putfield 44, 3), (100, .aload_n 0, 1), (101, .bipush 56, 2), (103, .newarray .int, 2), (105, .putfield 47, 3), (108, .aload_n 0, 1), (109, .bipush 7, 2), (111, .newarray .long, 2), (113, .putfield 50, 3), (116, .aload_n 0, 1), (117, .bipush 49, 2), (119, .newarray .int, 2), (121, .putfield 53, 3), (124, .aload_n 0, 1), (125, .bipush 7, 2), (127, .newarray .int, 2), (129, .putfield 56, 3), (132, .aload_n 0, 1), (133, .bipush 7, 2), (135, .newarray .int, 2), (137, .putfield 59, 3), (140, .aload_n 0, 1), (141, .bipush 7, 2), (143, .newarray .int, 2), (145, .putfield 62, 3), (148, .aload_n 0, 1), (149, .bipush 7, 2), (151, .newarray .int, 2), (153, .putfield 65, 3), (156, .iconst 0, 1), (157, .istore_n 1, 1), (158, .iload_n 1, 1), (159, .bipush 32, 2), (161, .if_icmp .ge 33, 3), (164, .aload_n 0, 1), (165, .getfield 13, 3), (168, .iload_n 1, 1), (169, .iload_n 1, 1), (170, .iconst 4, 1), (171, .irem, 1), (172, .ifCond .ne 7, 3), (175, .iconst 1, 1), (176, .goto 4, 3), (179, .iconst 0, 1), (180, .iastore, 1), (181, .aload_n 0, 1), (182, .getfield 16, 3), (185, .iload_n 1, 1), (186, .iconst 1, 1), (187, .iastore, 1), (188, .iinc 1 1, 3), (191, .goto (-33), 3), (194, .iconst 0, 1), (195, .istore_n 1, 1), (196, .iload_n 1, 1), (197, .bipush 7, 2), (199, .if_icmp .ge 17, 3), (202, .aload_n 0, 1), (203, .getfield 56, 3), (206, .iload_n 1, 1), (207, .bipush 60, 2), (209, .iastore, 1), (210, .iinc 1 1, 3), (213, .goto (-17), 3), (216, .iconst 0, 1), (217, .istore_n 1, 1), (218, .iload_n 1, 1), (219, .iconst 3, 1), (220, .if_icmp .ge 17, 3), (223, .aload_n 0, 1), (224, .getfield 32, 3), (227, .iload_n 1, 1), (228, .bipush (-9), 2), (230, .iastore, 1), (231, .iinc 1 1, 3), (234, .goto (-16), 3), (237, .return_, 1)]
def kI_8 : List (Nat × Instr × Nat) := [(0, .new 7, 3), (3, .dup, 1), (4, .invokespecial 9, 3), (7, .astore_n 1, 1), (8, .new 10, 3), (11, .dup, 1), (12, .invokespecial 12, 3), (15, .astore_n 2, 1), (16, .iconst 0, 1), (17, .istore_n 3, 1)]
def kI (M : Nat) : List (Nat × Instr × Nat) := match M with
  | 0 => kI_0
  | 1 => kI_1
  | 2 => kI_2
  | 3 => kI_3
  | 4 => kI_4
  | 5 => kI_5
  | 6 => kI_6
  | 7 => kI_7
  | _ => kI_8
def exC : Nat → Nat → Nat → List Value → List Value → Mu → Cx
  | 0, _, _, _, _, _ => none
  | f + 1, M, pc, ls, st, μ => if M = 8 ∧ pc = 18 then some (pc, ls, st, μ) else match (kI M).lookup pc with
    | none => none
    | some (ins, len) => if len = ilC ins then
        (if kdC ins = 1 then (if st = [] ∧ M < 8 then some (pc, ls, st, μ) else none)
        else if kdC ins = 2 then (match cSp M ins st μ.1 with
          | none => none
          | some (k, b, r) => if k = 99 then exC f M (pc + len) ls r μ else (match exC f k 0 (ent (kL k) [.ref b]) [] μ with
            | none => none
            | some (_, _, _, μ') => exC f M (pc + len) ls r μ'))
        else (match cStp (kC M) ins pc (pc + len) ls st μ with
          | none => none
          | some (p', ls', st', μ') => exC f M p' ls' st' μ')) else none
/-! ===== what they leave ===== -/
def σi : Mem := (fun k j => if k = 2 ∨ k = 135 then -9 else if k = 11 then (if j = 1 then 1 else 0) else if k = 23 ∨ k = 143 then 60 else if 31 ≤ k ∧ k < 127 then (if (k - 31) % 12 = 1 then (if j = 0 then 1 else 0) else if (k - 31) % 12 = 2 then 1 else 0) else if k = 129 then (if j % 4 = 0 then 1 else 0) else if k = 130 then 1 else 0, fun k j => if 31 ≤ k ∧ k < 127 ∧ (k - 31) % 12 = 0 ∧ j = 9 then 1 else 0)
def i0 (k : Nat) : List Value := if cK k = 10 then (List.range (cN k)).map (fun j => .int (σi.1 k j)) else if cK k = 11 then (List.range (cN k)).map (fun j => .long (σi.2 k j)) else if cK k = 12 ∨ cK k = 13 then (List.range (cN k)).map (fun j => .ref (rA k j)) else (List.range (cN k)).map (aV σi (cK k) k)
