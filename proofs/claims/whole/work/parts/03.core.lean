/-! ===== the cells' memory: whole numbers by cell and place; references never change after the constructors ===== -/
abbrev Mem : Type := (Nat → Nat → Int32) × (Nat → Nat → Int64)
def sI (σ : Mem) (k j : Nat) (v : Int32) : Mem := (fun a b => if a = k ∧ b = j then v else σ.1 a b, σ.2)
def sL (σ : Mem) (k j : Nat) (v : Int64) : Mem := (σ.1, fun a b => if a = k ∧ b = j then v else σ.2 a b)
def mDf : mRow := (⟨"", "", ""⟩, .empty, 0, none, 99, 0, false, 0, 0)
def mE (M : Nat) : mRow := mT.getD M mDf
def mY (M : Nat) : MethodName := (mE M).1
def mB (M : Nat) : ByteArray := (mE M).2.1
def mL (M : Nat) : Nat := (mE M).2.2.1
def mR (M : Nat) : Option FieldType := (mE M).2.2.2.1
def mC (M : Nat) : Nat := (mE M).2.2.2.2.1
def mN (M : Nat) : Nat := (mE M).2.2.2.2.2.1
def mS (M : Nat) : Bool := (mE M).2.2.2.2.2.2.1
def mF (M : Nat) : Nat := (mE M).2.2.2.2.2.2.2.1
def mQ (M : Nat) : Nat := (mE M).2.2.2.2.2.2.2.2
/-- class names by number -/
def cNm : List String := ["NamesInRow$Arrangement", "NamesInRow$Division", "NamesInRow$Paper", "NamesInRow$Quarrels", "NamesInRow$Ranking", "NamesInRow$Row", "NamesInRow", "NamesInRowModel", "NamesInRowLaw", "java/lang/Integer", "java/lang/Math"]
/-- kinds of cells: 0 to 7 an object of that class, 10 int[], 11 long[], 12 Paper[], 13 int[][] -/
def cK0 : List Nat := [6, 12, 10, 10, 0, 4, 5, 10, 11, 5, 10, 1, 10, 10, 3, 13, 10, 10, 10, 10, 10, 10, 10, 10, 5, 10, 10, 4, 5, 10, 11]
def cN0 : List Nat := [7, 8, 3, 7, 2, 2, 2, 7, 7, 2, 7, 3, 7, 7, 4, 7, 7, 7, 7, 7, 7, 7, 7, 7, 2, 7, 128, 2, 2, 7, 7]
def cK1 : List Nat := [2, 10, 10, 13, 10, 10, 10, 10, 10, 5, 10, 11]
def cN1 : List Nat := [10, 4, 4, 4, 7, 7, 7, 7, 7, 2, 7, 7]
def cK2 : List Nat := [7, 10, 10, 10, 10, 10, 10, 11, 10, 10, 10, 11, 11, 10, 11, 10, 10, 10, 10, 10]
def cN2 : List Nat := [27, 8, 32, 32, 224, 8, 56, 7, 3, 7, 7, 7, 7, 56, 7, 49, 7, 7, 7, 7]
def cK (k : Nat) : Nat := if k < 31 then cK0.getD k 99 else if k < 127 then cK1.getD ((k - 31) % 12) 99 else if k < 147 then cK2.getD (k - 127) 99 else 99
def cN (k : Nat) : Nat := if k < 31 then cN0.getD k 0 else if k < 127 then cN1.getD ((k - 31) % 12) 0 else if k < 147 then cN2.getD (k - 127) 0 else 0
/-- fields by class: 0 int, 1 long, n + 2 a reference to the cell n further on -/
def fCl : List (List Nat) := [[3, 7], [3, 0, 4], [0, 3, 4, 5, 10, 11, 0, 0, 13, 1], [3, 11, 12, 14], [3, 5], [3, 0], [3, 4, 5, 6, 13, 16, 29], [3, 4, 5, 6, 7, 8, 9, 1, 10, 11, 12, 1, 1, 13, 14, 15, 16, 1, 1, 1, 17, 18, 19, 20, 0, 0, 21]]
def fC (ci j : Nat) : Nat := (fCl.getD ci []).getD j 99
/-- what an array of references holds -/
def rA (k j : Nat) : Nat := if k = 1 then 31 + 12 * j else k + 1 + j
def cSC : Nat := 147
def cUN : Nat := 148
def uV (j : Nat) : Int64 := ([1, 420, 120, 182761425, 1000] : List Int64).getD j 0
/-! ===== the machine over that memory ===== -/
def g1 (ls : List Value) (i : Nat) : Value := ls.getD i .null
def clr (v : Value) : Value := match v with
  | .long _ => .null
  | .double _ => .null
  | v => v
def put1 (ls : List Value) (i : Nat) (v : Value) : List Value := match i with
  | 0 => ls.set 0 v
  | j + 1 => (ls.modify j clr).set (j + 1) v
def put2 (ls : List Value) (i : Nat) (v : Value) : List Value := (put1 ls i v).set (i + 1) .null
abbrev Nx : Type := Option (Nat × List Value × List Value × Mem)
def hLI (i p : Nat) (ls st : List Value) (σ : Mem) : Nx := match g1 ls i with
  | .int x => some (p, ls, .int x :: st, σ)
  | _ => none
def hLL (i p : Nat) (ls st : List Value) (σ : Mem) : Nx := match g1 ls i with
  | .long x => some (p, ls, .long x :: st, σ)
  | _ => none
def hLA (i p : Nat) (ls st : List Value) (σ : Mem) : Nx := match g1 ls i with
  | .ref x => some (p, ls, .ref x :: st, σ)
  | _ => none
def hSI (i p : Nat) (ls st : List Value) (σ : Mem) : Nx := match st with
  | .int x :: r => if i < ls.length then some (p, put1 ls i (.int x), r, σ) else none
  | _ => none
def hSA (i p : Nat) (ls st : List Value) (σ : Mem) : Nx := match st with
  | .ref x :: r => if i < ls.length then some (p, put1 ls i (.ref x), r, σ) else none
  | _ => none
def hSL (i p : Nat) (ls st : List Value) (σ : Mem) : Nx := match st with
  | .long x :: r => if i + 1 < ls.length then some (p, put2 ls i (.long x), r, σ) else none
  | _ => none
def hInc (i : Nat) (n : Int) (p : Nat) (ls st : List Value) (σ : Mem) : Nx := match g1 ls i with
  | .int x => if i < ls.length then some (p, put1 ls i (.int (x + Int32.ofInt n)), st, σ) else none
  | _ => none
def bI (f : Int32 → Int32 → Int32) (p : Nat) (ls st : List Value) (σ : Mem) : Nx := match st with
  | .int y :: .int x :: r => some (p, ls, .int (f x y) :: r, σ)
  | _ => none
def bL (f : Int64 → Int64 → Int64) (p : Nat) (ls st : List Value) (σ : Mem) : Nx := match st with
  | .long y :: .long x :: r => some (p, ls, .long (f x y) :: r, σ)
  | _ => none
def dI (f : Int32 → Int32 → Int32) (p : Nat) (ls st : List Value) (σ : Mem) : Nx := match st with
  | .int y :: .int x :: r => if y = 0 then none else some (p, ls, .int (f x y) :: r, σ)
  | _ => none
def dL (f : Int64 → Int64 → Int64) (p : Nat) (ls st : List Value) (σ : Mem) : Nx := match st with
  | .long y :: .long x :: r => if y = 0 then none else some (p, ls, .long (f x y) :: r, σ)
  | _ => none
def hI2L (p : Nat) (ls st : List Value) (σ : Mem) : Nx := match st with
  | .int x :: r => some (p, ls, .long x.toInt64 :: r, σ)
  | _ => none
def hNeg (p : Nat) (ls st : List Value) (σ : Mem) : Nx := match st with
  | .long x :: r => some (p, ls, .long (-x) :: r, σ)
  | _ => none
def hCmp (p : Nat) (ls st : List Value) (σ : Mem) : Nx := match st with
  | .long y :: .long x :: r => some (p, ls, .int (lg_cmp x y) :: r, σ)
  | _ => none
def hDup (p : Nat) (ls st : List Value) (σ : Mem) : Nx := match st with
  | .int x :: r => some (p, ls, .int x :: .int x :: r, σ)
  | .ref x :: r => some (p, ls, .ref x :: .ref x :: r, σ)
  | _ => none
def hDup2 (p : Nat) (ls st : List Value) (σ : Mem) : Nx := match st with
  | .int y :: .ref x :: r => some (p, ls, .int y :: .ref x :: .int y :: .ref x :: r, σ)
  | _ => none
def tg (p0 : Nat) (off : Int) : Nat := ((p0 : Int) + off).toNat
def hGo (p0 : Nat) (off : Int) (ls st : List Value) (σ : Mem) : Nx := if 0 ≤ (p0 : Int) + off then some (tg p0 off, ls, st, σ) else none
def cmI (cd : Jvm.ClassFile.Cond) (x y : Int32) : Bool := match cd with
  | .eq => decide (x = y)
  | .ne => decide (¬ x = y)
  | .lt => decide (x < y)
  | .ge => decide (y ≤ x)
  | .gt => decide (y < x)
  | .le => decide (x ≤ y)
def hIf (cd : Jvm.ClassFile.Cond) (p0 : Nat) (off : Int) (p : Nat) (ls st : List Value) (σ : Mem) : Nx := match st with
  | .int x :: r => if 0 ≤ (p0 : Int) + off then some (if cmI cd x 0 = true then tg p0 off else p, ls, r, σ) else none
  | _ => none
def hIc (cd : Jvm.ClassFile.Cond) (p0 : Nat) (off : Int) (p : Nat) (ls st : List Value) (σ : Mem) : Nx := match st with
  | .int y :: .int x :: r => if 0 ≤ (p0 : Int) + off then some (if cmI cd x y = true then tg p0 off else p, ls, r, σ) else none
  | _ => none
def swO (d lo hi : Int) (offs : Array Int) (x : Int32) : Int := if x.toInt < lo ∨ hi < x.toInt then d else offs.getD (x.toInt - lo).toNat d
def hSw (d lo hi : Int) (offs : Array Int) (p0 : Nat) (ls st : List Value) (σ : Mem) : Nx := match st with
  | .int x :: r => if 0 ≤ (p0 : Int) + swO d lo hi offs x ∧ (hi - lo).toNat < offs.size ∧ lo ≤ hi then some (tg p0 (swO d lo hi offs x), ls, r, σ) else none
  | _ => none
def hGet (c idx p : Nat) (ls st : List Value) (σ : Mem) : Nx := match fTb.lookup (c, idx), st with
  | some (ci, j), .ref k :: r => if cK k = ci then (match fC ci j with
      | 0 => some (p, ls, .int (σ.1 k j) :: r, σ)
      | 1 => some (p, ls, .long (σ.2 k j) :: r, σ)
      | n + 2 => some (p, ls, .ref (k + n) :: r, σ)) else none
  | _, _ => none
def hPut (c idx p : Nat) (ls st : List Value) (σ : Mem) : Nx := match fTb.lookup (c, idx), st with
  | some (ci, j), .int x :: .ref k :: r => if cK k = ci ∧ fC ci j = 0 then some (p, ls, r, sI σ k j x) else none
  | some (ci, j), .long x :: .ref k :: r => if cK k = ci ∧ fC ci j = 1 then some (p, ls, r, sL σ k j x) else none
  | _, _ => none
def hGs (c idx p : Nat) (ls st : List Value) (σ : Mem) : Nx := if c = 6 ∧ idx = 163 then some (p, ls, .retAddr 0 :: st, σ) else none
def hIal (X : Nat × (Nat → Int32)) (c p : Nat) (ls st : List Value) (σ : Mem) : Nx := match st with
  | .int i :: .ref k :: r => if c = 8 then (if k = cSC ∧ ¬ (i < 0 ∨ X.1 ≤ i.toNatClampNeg) then some (p, ls, .int (X.2 i.toNatClampNeg) :: r, σ) else none)
      else if cK k = 10 ∧ ¬ (i < 0 ∨ cN k ≤ i.toNatClampNeg) then some (p, ls, .int (σ.1 k i.toNatClampNeg) :: r, σ) else none
  | _ => none
def hLal (p : Nat) (ls st : List Value) (σ : Mem) : Nx := match st with
  | .int i :: .retAddr _ :: r => if ¬ (i < 0 ∨ 5 ≤ i.toNatClampNeg) then some (p, ls, .long (uV i.toNatClampNeg) :: r, σ) else none
  | .int i :: .ref k :: r => if cK k = 11 ∧ ¬ (i < 0 ∨ cN k ≤ i.toNatClampNeg) then some (p, ls, .long (σ.2 k i.toNatClampNeg) :: r, σ) else none
  | _ => none
def hAal (p : Nat) (ls st : List Value) (σ : Mem) : Nx := match st with
  | .int i :: .ref k :: r => if (cK k = 12 ∨ cK k = 13) ∧ ¬ (i < 0 ∨ cN k ≤ i.toNatClampNeg) then some (p, ls, .ref (rA k i.toNatClampNeg) :: r, σ) else none
  | _ => none
def hIas (p : Nat) (ls st : List Value) (σ : Mem) : Nx := match st with
  | .int x :: .int i :: .ref k :: r => if cK k = 10 ∧ ¬ (i < 0 ∨ cN k ≤ i.toNatClampNeg) then some (p, ls, r, sI σ k i.toNatClampNeg x) else none
  | _ => none
def hLas (p : Nat) (ls st : List Value) (σ : Mem) : Nx := match st with
  | .long x :: .int i :: .ref k :: r => if cK k = 11 ∧ ¬ (i < 0 ∨ cN k ≤ i.toNatClampNeg) then some (p, ls, r, sL σ k i.toNatClampNeg x) else none
  | _ => none
def hLen (X : Nat × (Nat → Int32)) (p : Nat) (ls st : List Value) (σ : Mem) : Nx := match st with
  | .ref k :: r => if k = cSC then some (p, ls, .int (Int32.ofNat X.1) :: r, σ) else none
  | _ => none
/-- one instruction that is no call and no return -/
def stp (X : Nat × (Nat → Int32)) (c : Nat) (ins : Instr) (p0 p : Nat) (ls st : List Value) (σ : Mem) : Nx := match ins with
  | .iload_n k => hLI k.val p ls st σ
  | .iload k => hLI k p ls st σ
  | .lload_n k => hLL k.val p ls st σ
  | .lload k => hLL k p ls st σ
  | .aload_n k => hLA k.val p ls st σ
  | .aload k => hLA k p ls st σ
  | .istore_n k => hSI k.val p ls st σ
  | .istore k => hSI k p ls st σ
  | .lstore_n k => hSL k.val p ls st σ
  | .lstore k => hSL k p ls st σ
  | .astore_n k => hSA k.val p ls st σ
  | .astore k => hSA k p ls st σ
  | .iinc k n => hInc k n p ls st σ
  | .iconst n => some (p, ls, .int (Int32.ofInt n) :: st, σ)
  | .bipush n => some (p, ls, .int (Int8.ofInt n).toInt32 :: st, σ)
  | .sipush n => some (p, ls, .int (Int16.ofInt n).toInt32 :: st, σ)
  | .lconst n => some (p, ls, .long (Int64.ofNat n) :: st, σ)
  | .ldc_w i => (cIb.lookup (c, i)).elim none (fun v => some (p, ls, .int v :: st, σ))
  | .ldc2_w i => (cLb.lookup (c, i)).elim none (fun v => some (p, ls, .long v :: st, σ))
  | .iadd => bI (fun x y => x + y) p ls st σ
  | .isub => bI (fun x y => x - y) p ls st σ
  | .imul => bI (fun x y => x * y) p ls st σ
  | .iand => bI (fun x y => x &&& y) p ls st σ
  | .ior => bI (fun x y => x ||| y) p ls st σ
  | .ixor => bI (fun x y => x ^^^ y) p ls st σ
  | .ishl => bI (fun x y => x <<< (y &&& 31)) p ls st σ
  | .ishr => bI (fun x y => x >>> (y &&& 31)) p ls st σ
  | .iushr => bI (fun x y => (x.toUInt32 >>> (y.toUInt32 &&& Int32.toUInt32 31)).toInt32) p ls st σ
  | .idiv => dI (fun x y => x / y) p ls st σ
  | .irem => dI (fun x y => x - x / y * y) p ls st σ
  | .ladd => bL (fun x y => x + y) p ls st σ
  | .lsub => bL (fun x y => x - y) p ls st σ
  | .lmul => bL (fun x y => x * y) p ls st σ
  | .ldiv => dL (fun x y => x / y) p ls st σ
  | .lrem => dL (fun x y => x - x / y * y) p ls st σ
  | .lneg => hNeg p ls st σ
  | .i2l => hI2L p ls st σ
  | .lcmp => hCmp p ls st σ
  | .dup => hDup p ls st σ
  | .dup2 => hDup2 p ls st σ
  | .goto off => hGo p0 off ls st σ
  | .ifCond cd off => hIf cd p0 off p ls st σ
  | .if_icmp cd off => hIc cd p0 off p ls st σ
  | .tableswitch d lo hi offs => hSw d lo hi offs p0 ls st σ
  | .getfield i => hGet c i p ls st σ
  | .putfield i => hPut c i p ls st σ
  | .getstatic i => hGs c i p ls st σ
  | .iaload => hIal X c p ls st σ
  | .laload => hLal p ls st σ
  | .aaload => hAal p ls st σ
  | .iastore => hIas p ls st σ
  | .lastore => hLas p ls st σ
  | .arraylength => hLen X p ls st σ
  | _ => none
/-- how long an instruction is (0: a switch, any length) -/
def il (ins : Instr) : Nat := match ins with
  | .iload _ => 2
  | .lload _ => 2
  | .aload _ => 2
  | .istore _ => 2
  | .lstore _ => 2
  | .astore _ => 2
  | .iinc _ _ => 3
  | .bipush _ => 2
  | .sipush _ => 3
  | .ldc_w _ => 3
  | .ldc2_w _ => 3
  | .goto _ => 3
  | .ifCond _ _ => 3
  | .if_icmp _ _ => 3
  | .tableswitch _ _ _ _ => 0
  | .getfield _ => 3
  | .putfield _ => 3
  | .getstatic _ => 3
  | .invokestatic _ => 3
  | .invokevirtual _ => 3
  | _ => 1
def kd (ins : Instr) : Nat := match ins with
  | .ireturn => 1
  | .lreturn => 1
  | .areturn => 1
  | .return_ => 1
  | .invokestatic _ => 2
  | .invokevirtual _ => 2
  | _ => 0
def okR (ins : Instr) (r : Option FieldType) (st : List Value) : Bool := match ins, r, st with
  | .ireturn, some .boolean, [.int v] => v == 0 || v == 1
  | .ireturn, some .int, [.int _] => true
  | .lreturn, some .long, [.long _] => true
  | .areturn, some (.object _), [.ref _] => true
  | .return_, none, [] => true
  | _, _, _ => false
def dep (st : List Value) : Nat := (st.map fun v => v.category).sum
def spr : List Value → List Value
  | [] => []
  | v :: vs => if v.category = 2 then v :: .null :: spr vs else v :: spr vs
def ent (n : Nat) (vs : List Value) : List Value := spr vs ++ List.replicate (n - (spr vs).length) .null
def okC (M k : Nat) (vs r : List Value) : Bool := decide (dep r ≤ 8) && decide ((spr vs).length ≤ mL k) && decide (mF k + 1 ≤ mF M) && decide (8 + (mL k + 11) + mQ k ≤ mQ M)
def cal (M : Nat) (ins : Instr) (st : List Value) : Option (Nat × List Value × List Value) := match ins with
  | .invokestatic i => (match mTb.lookup (mC M, i) with
    | some (k, _) => if mS k = true ∧ mN k ≤ st.length ∧ okC M k (st.take (mN k)).reverse (st.drop (mN k)) = true then some (k, (st.take (mN k)).reverse, st.drop (mN k)) else none
    | none => none)
  | .invokevirtual i => (match mTb.lookup (mC M, i) with
    | some (k, _) => (match st.drop (mN k) with
      | .ref b :: r => if mS k = false ∧ cK b = mC k ∧ okC M k (.ref b :: (st.take (mN k)).reverse) r = true then some (k, .ref b :: (st.take (mN k)).reverse, r) else none
      | _ => none)
    | none => none)
  | _ => none
/-- a run of n steps at most: where it returns, with what, and the memory -/
def ex (X : Nat × (Nat → Int32)) : Nat → Nat → Nat → List Value → List Value → Mem → Option (Nat × List Value × Mem)
  | 0, _, _, _, _, _ => none
  | n + 1, M, pc, ls, st, σ => match decode (mB M) pc with
    | .error _ => none
    | .ok (ins, len) => if len = il ins ∨ il ins = 0 then
        (if kd ins = 1 then (if okR ins (mR M) st = true then some (pc, st, σ) else none)
        else if kd ins = 2 then (match cal M ins st with
          | none => none
          | some (k, vs, r) => (match ex X n k 0 (ent (mL k) vs) [] σ with
            | none => none
            | some (_, v, σ') => ex X n M (pc + len) ls (v ++ r) σ'))
        else (match stp X (mC M) ins pc (pc + len) ls st σ with
          | none => none
          | some (p', ls', st', σ') => ex X n M p' ls' st' σ')) else none
theorem ex_mono (X : Nat × (Nat → Int32)) : ∀ (n M pc : Nat) (ls st : List Value) (σ : Mem) (r : Nat × List Value × Mem), ex X n M pc ls st σ = some r → ex X (n + 1) M pc ls st σ = some r := by
  intro n
  induction n with
  | zero => intro M pc ls st σ r h; simp [ex] at h
  | succ n ih =>
    intro M pc ls st σ r h
    rw [ex] at h ⊢
    cases hd : decode (mB M) pc with
    | error e => rw [hd] at h; cases h
    | ok q =>
      obtain ⟨ins, len⟩ := q
      rw [hd] at h
      dsimp only at h ⊢
      by_cases h1 : len = il ins ∨ il ins = 0
      · rw [if_pos h1] at h ⊢
        by_cases h2 : kd ins = 1
        · rw [if_pos h2] at h ⊢
          exact h
        · rw [if_neg h2] at h ⊢
          by_cases h3 : kd ins = 2
          · rw [if_pos h3] at h ⊢
            cases hc : cal M ins st with
            | none => rw [hc] at h; cases h
            | some w =>
              obtain ⟨k, vs, rr⟩ := w
              rw [hc] at h
              dsimp only at h ⊢
              cases he : ex X n k 0 (ent (mL k) vs) [] σ with
              | none => rw [he] at h; cases h
              | some y =>
                obtain ⟨y1, y2, y3⟩ := y
                rw [he] at h
                rw [ih _ _ _ _ _ _ he]
                exact ih _ _ _ _ _ _ h
          · rw [if_neg h3] at h ⊢
            cases hc : stp X (mC M) ins pc (pc + len) ls st σ with
            | none => rw [hc] at h; cases h
            | some w =>
              obtain ⟨w1, w2, w3, w4⟩ := w
              rw [hc] at h
              exact ih _ _ _ _ _ _ h
      · rw [if_neg h1] at h
        cases h
theorem ex_le {X : Nat × (Nat → Int32)} {n m M pc : Nat} {ls st : List Value} {σ : Mem} {r : Nat × List Value × Mem} (h : ex X n M pc ls st σ = some r) (hm : n ≤ m) : ex X m M pc ls st σ = some r := by
  obtain ⟨d, rfl⟩ := Nat.exists_eq_add_of_le hm
  induction d with
  | zero => exact h
  | succ d ih => exact ex_mono X _ _ _ _ _ _ _ (ih (by omega))
/-- from here the method returns, with a stack and a memory of which Q holds -/
def Rn (X : Nat × (Nat → Int32)) (M pc : Nat) (ls st : List Value) (σ : Mem) (Q : List Value → Mem → Prop) : Prop := ∃ (n : Nat) (r : Nat × List Value × Mem), ex X n M pc ls st σ = some r ∧ Q r.2.1 r.2.2
section RnLaws
variable {X : Nat × (Nat → Int32)} {M pc : Nat} {ls st : List Value} {σ : Mem} {Q : List Value → Mem → Prop}
theorem Rn_step {ins : Instr} {len p' : Nat} {ls' st' : List Value} {σ' : Mem} (hd : decode (mB M) pc = .ok (ins, len)) (hl : len = il ins ∨ il ins = 0) (hk : kd ins = 0) (hs : stp X (mC M) ins pc (pc + len) ls st σ = some (p', ls', st', σ')) : Rn X M pc ls st σ Q ↔ Rn X M p' ls' st' σ' Q := by
  have key : ∀ n, ex X (n + 1) M pc ls st σ = ex X n M p' ls' st' σ' := by
    intro n
    rw [ex, hd]
    dsimp only
    rw [if_pos hl, if_neg (by rw [hk]; decide), if_neg (by rw [hk]; decide), hs]
  constructor
  · rintro ⟨n, r, h, q⟩
    cases n with
    | zero => simp [ex] at h
    | succ n => rw [key] at h; exact ⟨n, r, h, q⟩
  · rintro ⟨n, r, h, q⟩
    exact ⟨n + 1, r, by rw [key]; exact h, q⟩
theorem Rn_ret {ins : Instr} {len : Nat} (hd : decode (mB M) pc = .ok (ins, len)) (hl : len = il ins ∨ il ins = 0) (hk : kd ins = 1) (hs : okR ins (mR M) st = true) : Rn X M pc ls st σ Q ↔ Q st σ := by
  have key : ∀ n, ex X (n + 1) M pc ls st σ = some (pc, st, σ) := by
    intro n
    rw [ex, hd]
    dsimp only
    rw [if_pos hl, if_pos hk, if_pos hs]
  constructor
  · rintro ⟨n, r, h, q⟩
    cases n with
    | zero => simp [ex] at h
    | succ n => rw [key] at h; cases h; exact q
  · intro q
    exact ⟨1, _, key 0, q⟩
theorem Rn_call {ins : Instr} {len k : Nat} {vs r : List Value} (hd : decode (mB M) pc = .ok (ins, len)) (hl : len = il ins ∨ il ins = 0) (hk : kd ins = 2) (hs : cal M ins st = some (k, vs, r)) : Rn X M pc ls st σ Q ↔ Rn X k 0 (ent (mL k) vs) [] σ (fun v σ' => Rn X M (pc + len) ls (v ++ r) σ' Q) := by
  have key : ∀ n, ex X (n + 1) M pc ls st σ = match ex X n k 0 (ent (mL k) vs) [] σ with
            | none => none
            | some (_, v, σ') => ex X n M (pc + len) ls (v ++ r) σ' := by
    intro n
    rw [ex, hd]
    dsimp only
    rw [if_pos hl, if_neg (by rw [hk]; decide), if_pos hk, hs]
  constructor
  · rintro ⟨n, w, h, q⟩
    cases n with
    | zero => simp [ex] at h
    | succ n =>
      rw [key] at h
      cases he : ex X n k 0 (ent (mL k) vs) [] σ with
      | none => rw [he] at h; cases h
      | some y =>
        obtain ⟨y1, y2, y3⟩ := y
        rw [he] at h
        exact ⟨n, (y1, y2, y3), he, n, w, h, q⟩
  · rintro ⟨n, ⟨y1, y2, y3⟩, he, n2, w, h, q⟩
    refine ⟨max n n2 + 1, w, ?_, q⟩
    rw [key, ex_le he (Nat.le_max_left n n2)]
    exact ex_le h (Nat.le_max_right n n2)
theorem Rn_mono {Q' : List Value → Mem → Prop} (h : Rn X M pc ls st σ Q) (hq : ∀ v s, Q v s → Q' v s) : Rn X M pc ls st σ Q' := by
  obtain ⟨n, r, h1, h2⟩ := h
  exact ⟨n, r, h1, hq _ _ h2⟩
theorem Rn_br {c : Prop} [Decidable c] {ins : Instr} {len p1 p2 : Nat} {ls' st' : List Value} {σ' : Mem} (hd : decode (mB M) pc = .ok (ins, len)) (hl : len = il ins ∨ il ins = 0) (hk : kd ins = 0) (hs : stp X (mC M) ins pc (pc + len) ls st σ = some (if c then p1 else p2, ls', st', σ')) : Rn X M pc ls st σ Q ↔ if c then Rn X M p1 ls' st' σ' Q else Rn X M p2 ls' st' σ' Q := by
  rw [Rn_step hd hl hk hs]
  by_cases h : c
  · rw [if_pos h, if_pos h]
  · rw [if_neg h, if_neg h]
end RnLaws
