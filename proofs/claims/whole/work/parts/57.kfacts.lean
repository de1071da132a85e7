/-! ===== words of the constructors ===== -/
def nwPr (e : (Nat × Nat) × Nat) : Prop := ∃ q : vw_C, vwCl[e.2]? = some q ∧ e.2 < 8 ∧ Cond.classLink (cNm.getD e.1.1 "") e.1.2 q.1 ∈ gw ∧ Cond.instantiable q.1 q.2.2 ∈ gw ∧ Cond.initialized q.1 ∈ gw
theorem nw_8_7 : nwPr ((8, 7), 6) := ⟨(RX6, TX6, 7), rfl, by decide, gw_in (i := 64) (by decide +kernel) (by decide +kernel), gw_in (i := 65) (by decide +kernel) (by decide +kernel), gw_in (i := 54) (by decide +kernel) (by decide +kernel)⟩
theorem nw_8_10 : nwPr ((8, 10), 7) := ⟨(RX7, TX7, 27), rfl, by decide, gw_in (i := 674) (by decide +kernel) (by decide +kernel), gw_in (i := 675) (by decide +kernel) (by decide +kernel), gw_in (i := 61) (by decide +kernel) (by decide +kernel)⟩
theorem nw_6_22 : nwPr ((6, 22), 0) := ⟨(RX0, TX0, 2), rfl, by decide, gw_in (i := 74) (by decide +kernel) (by decide +kernel), gw_in (i := 75) (by decide +kernel) (by decide +kernel), gw_in (i := 55) (by decide +kernel) (by decide +kernel)⟩
theorem nw_6_29 : nwPr ((6, 29), 1) := ⟨(RX1, TX1, 3), rfl, by decide, gw_in (i := 126) (by decide +kernel) (by decide +kernel), gw_in (i := 127) (by decide +kernel) (by decide +kernel), gw_in (i := 58) (by decide +kernel) (by decide +kernel)⟩
theorem nw_6_36 : nwPr ((6, 36), 3) := ⟨(RX3, TX3, 4), rfl, by decide, gw_in (i := 144) (by decide +kernel) (by decide +kernel), gw_in (i := 145) (by decide +kernel) (by decide +kernel), gw_in (i := 59) (by decide +kernel) (by decide +kernel)⟩
theorem nw_6_43 : nwPr ((6, 43), 4) := ⟨(RX4, TX4, 2), rfl, by decide, gw_in (i := 170) (by decide +kernel) (by decide +kernel), gw_in (i := 81) (by decide +kernel) (by decide +kernel), gw_in (i := 56) (by decide +kernel) (by decide +kernel)⟩
theorem nw_6_9 : nwPr ((6, 9), 2) := ⟨(RX2, TX2, 10), rfl, by decide, gw_in (i := 72) (by decide +kernel) (by decide +kernel), gw_in (i := 172) (by decide +kernel) (by decide +kernel), gw_in (i := 60) (by decide +kernel) (by decide +kernel)⟩
theorem nw_0_9 : nwPr ((0, 9), 4) := ⟨(RX4, TX4, 2), rfl, by decide, gw_in (i := 80) (by decide +kernel) (by decide +kernel), gw_in (i := 81) (by decide +kernel) (by decide +kernel), gw_in (i := 56) (by decide +kernel) (by decide +kernel)⟩
theorem nw_0_18 : nwPr ((0, 18), 5) := ⟨(RX5, TX5, 2), rfl, by decide, gw_in (i := 117) (by decide +kernel) (by decide +kernel), gw_in (i := 87) (by decide +kernel) (by decide +kernel), gw_in (i := 57) (by decide +kernel) (by decide +kernel)⟩
theorem nw_4_9 : nwPr ((4, 9), 5) := ⟨(RX5, TX5, 2), rfl, by decide, gw_in (i := 86) (by decide +kernel) (by decide +kernel), gw_in (i := 87) (by decide +kernel) (by decide +kernel), gw_in (i := 57) (by decide +kernel) (by decide +kernel)⟩
theorem nw_3_20 : nwPr ((3, 20), 5) := ⟨(RX5, TX5, 2), rfl, by decide, gw_in (i := 152) (by decide +kernel) (by decide +kernel), gw_in (i := 87) (by decide +kernel) (by decide +kernel), gw_in (i := 57) (by decide +kernel) (by decide +kernel)⟩
theorem nw_2_26 : nwPr ((2, 26), 5) := ⟨(RX5, TX5, 2), rfl, by decide, gw_in (i := 178) (by decide +kernel) (by decide +kernel), gw_in (i := 87) (by decide +kernel) (by decide +kernel), gw_in (i := 57) (by decide +kernel) (by decide +kernel)⟩
theorem newT_ok : ∀ e ∈ newT, nwPr e := List.forall_mem_cons.mpr ⟨nw_8_7, List.forall_mem_cons.mpr ⟨nw_8_10, List.forall_mem_cons.mpr ⟨nw_6_22, List.forall_mem_cons.mpr ⟨nw_6_29, List.forall_mem_cons.mpr ⟨nw_6_36, List.forall_mem_cons.mpr ⟨nw_6_43, List.forall_mem_cons.mpr ⟨nw_6_9, List.forall_mem_cons.mpr ⟨nw_0_9, List.forall_mem_cons.mpr ⟨nw_0_18, List.forall_mem_cons.mpr ⟨nw_4_9, List.forall_mem_cons.mpr ⟨nw_3_20, List.forall_mem_cons.mpr ⟨nw_2_26, fun _ h => absurd h List.not_mem_nil⟩⟩⟩⟩⟩⟩⟩⟩⟩⟩⟩⟩
def nwk : List (String × Nat × MethodName) := [("NamesInRow", 24, ⟨"NamesInRow$Arrangement", "<init>", "()V"⟩), ("NamesInRow", 31, ⟨"NamesInRow$Division", "<init>", "()V"⟩), ("NamesInRow", 45, ⟨"NamesInRow$Ranking", "<init>", "()V"⟩), ("NamesInRow$Arrangement", 11, ⟨"NamesInRow$Ranking", "<init>", "()V"⟩), ("NamesInRow$Arrangement", 20, ⟨"NamesInRow$Row", "<init>", "()V"⟩), ("NamesInRow$Ranking", 11, ⟨"NamesInRow$Row", "<init>", "()V"⟩), ("NamesInRow$Quarrels", 22, ⟨"NamesInRow$Row", "<init>", "()V"⟩), ("NamesInRow$Paper", 28, ⟨"NamesInRow$Row", "<init>", "()V"⟩)]
def inPr (e : (Nat × Nat) × Nat × Bool) : Prop := e.2.1 < 8 ∧ Cond.code (kY e.2.1) (kB e.2.1) (kL e.2.1) (kR e.2.1) ∈ gw ∧ Cond.initialized (kY e.2.1).cls ∈ gw ∧ Cond.instanceMethod (kY e.2.1) ∈ gw ∧ (kY e.2.1).name = "<init>" ∧ ((kY e.2.1).cls ≠ "java/lang/invoke/MethodHandle" ∧ (kY e.2.1).cls ≠ "java/lang/invoke/VarHandle" ∧ (parseMethodDescriptor (kY e.2.1).desc).map (fun d => d.parameters.length) = some 0) ∧ plainFor (kY e.2.1) = true ∧ cNm.getD (kC e.2.1) "" = (kY e.2.1).cls ∧ kR e.2.1 = none ∧ 1 ≤ kL e.2.1 ∧ (e.2.2 = false → Cond.methodLink (cNm.getD e.1.1 "") e.1.2 (kY e.2.1) ∈ gw) ∧ (e.2.2 = true → (cNm.getD e.1.1 "", e.1.2, kY e.2.1) ∈ nwk)
theorem in_8_9 : inPr ((8, 9), 6, false) := ⟨by decide, gw_in (i := 68) (by decide +kernel) (by decide +kernel), gw_in (i := 54) (by decide +kernel) (by decide +kernel), gw_in (i := 67) (by decide +kernel) (by decide +kernel), by decide +kernel, by decide +kernel, by decide +kernel, by decide +kernel, by decide +kernel, by decide +kernel, fun _ => gw_in (i := 66) (by decide +kernel) (by decide +kernel), fun h => absurd h (by decide)⟩
theorem in_8_12 : inPr ((8, 12), 7, false) := ⟨by decide, gw_in (i := 678) (by decide +kernel) (by decide +kernel), gw_in (i := 61) (by decide +kernel) (by decide +kernel), gw_in (i := 677) (by decide +kernel) (by decide +kernel), by decide +kernel, by decide +kernel, by decide +kernel, by decide +kernel, by decide +kernel, by decide +kernel, fun _ => gw_in (i := 676) (by decide +kernel) (by decide +kernel), fun h => absurd h (by decide)⟩
theorem in_6_24 : inPr ((6, 24), 2, true) := ⟨by decide, gw_in (i := 78) (by decide +kernel) (by decide +kernel), gw_in (i := 55) (by decide +kernel) (by decide +kernel), gw_in (i := 77) (by decide +kernel) (by decide +kernel), by decide +kernel, by decide +kernel, by decide +kernel, by decide +kernel, by decide +kernel, by decide +kernel, fun h => absurd h (by decide), fun _ => by decide +kernel⟩
theorem in_6_31 : inPr ((6, 31), 3, true) := ⟨by decide, gw_in (i := 130) (by decide +kernel) (by decide +kernel), gw_in (i := 58) (by decide +kernel) (by decide +kernel), gw_in (i := 129) (by decide +kernel) (by decide +kernel), by decide +kernel, by decide +kernel, by decide +kernel, by decide +kernel, by decide +kernel, by decide +kernel, fun h => absurd h (by decide), fun _ => by decide +kernel⟩
theorem in_6_38 : inPr ((6, 38), 4, false) := ⟨by decide, gw_in (i := 148) (by decide +kernel) (by decide +kernel), gw_in (i := 59) (by decide +kernel) (by decide +kernel), gw_in (i := 147) (by decide +kernel) (by decide +kernel), by decide +kernel, by decide +kernel, by decide +kernel, by decide +kernel, by decide +kernel, by decide +kernel, fun _ => gw_in (i := 146) (by decide +kernel) (by decide +kernel), fun h => absurd h (by decide)⟩
theorem in_6_45 : inPr ((6, 45), 1, true) := ⟨by decide, gw_in (i := 84) (by decide +kernel) (by decide +kernel), gw_in (i := 56) (by decide +kernel) (by decide +kernel), gw_in (i := 83) (by decide +kernel) (by decide +kernel), by decide +kernel, by decide +kernel, by decide +kernel, by decide +kernel, by decide +kernel, by decide +kernel, fun h => absurd h (by decide), fun _ => by decide +kernel⟩
theorem in_6_50 : inPr ((6, 50), 5, false) := ⟨by decide, gw_in (i := 175) (by decide +kernel) (by decide +kernel), gw_in (i := 60) (by decide +kernel) (by decide +kernel), gw_in (i := 174) (by decide +kernel) (by decide +kernel), by decide +kernel, by decide +kernel, by decide +kernel, by decide +kernel, by decide +kernel, by decide +kernel, fun _ => gw_in (i := 173) (by decide +kernel) (by decide +kernel), fun h => absurd h (by decide)⟩
theorem in_0_11 : inPr ((0, 11), 1, true) := ⟨by decide, gw_in (i := 84) (by decide +kernel) (by decide +kernel), gw_in (i := 56) (by decide +kernel) (by decide +kernel), gw_in (i := 83) (by decide +kernel) (by decide +kernel), by decide +kernel, by decide +kernel, by decide +kernel, by decide +kernel, by decide +kernel, by decide +kernel, fun h => absurd h (by decide), fun _ => by decide +kernel⟩
theorem in_0_20 : inPr ((0, 20), 0, true) := ⟨by decide, gw_in (i := 90) (by decide +kernel) (by decide +kernel), gw_in (i := 57) (by decide +kernel) (by decide +kernel), gw_in (i := 89) (by decide +kernel) (by decide +kernel), by decide +kernel, by decide +kernel, by decide +kernel, by decide +kernel, by decide +kernel, by decide +kernel, fun h => absurd h (by decide), fun _ => by decide +kernel⟩
theorem in_4_11 : inPr ((4, 11), 0, true) := ⟨by decide, gw_in (i := 90) (by decide +kernel) (by decide +kernel), gw_in (i := 57) (by decide +kernel) (by decide +kernel), gw_in (i := 89) (by decide +kernel) (by decide +kernel), by decide +kernel, by decide +kernel, by decide +kernel, by decide +kernel, by decide +kernel, by decide +kernel, fun h => absurd h (by decide), fun _ => by decide +kernel⟩
theorem in_3_22 : inPr ((3, 22), 0, true) := ⟨by decide, gw_in (i := 90) (by decide +kernel) (by decide +kernel), gw_in (i := 57) (by decide +kernel) (by decide +kernel), gw_in (i := 89) (by decide +kernel) (by decide +kernel), by decide +kernel, by decide +kernel, by decide +kernel, by decide +kernel, by decide +kernel, by decide +kernel, fun h => absurd h (by decide), fun _ => by decide +kernel⟩
theorem in_2_28 : inPr ((2, 28), 0, true) := ⟨by decide, gw_in (i := 90) (by decide +kernel) (by decide +kernel), gw_in (i := 57) (by decide +kernel) (by decide +kernel), gw_in (i := 89) (by decide +kernel) (by decide +kernel), by decide +kernel, by decide +kernel, by decide +kernel, by decide +kernel, by decide +kernel, by decide +kernel, fun h => absurd h (by decide), fun _ => by decide +kernel⟩
theorem iniT_ok : ∀ e ∈ iniT, inPr e := List.forall_mem_cons.mpr ⟨in_8_9, List.forall_mem_cons.mpr ⟨in_8_12, List.forall_mem_cons.mpr ⟨in_6_24, List.forall_mem_cons.mpr ⟨in_6_31, List.forall_mem_cons.mpr ⟨in_6_38, List.forall_mem_cons.mpr ⟨in_6_45, List.forall_mem_cons.mpr ⟨in_6_50, List.forall_mem_cons.mpr ⟨in_0_11, List.forall_mem_cons.mpr ⟨in_0_20, List.forall_mem_cons.mpr ⟨in_4_11, List.forall_mem_cons.mpr ⟨in_3_22, List.forall_mem_cons.mpr ⟨in_2_28, fun _ h => absurd h List.not_mem_nil⟩⟩⟩⟩⟩⟩⟩⟩⟩⟩⟩⟩
def obPr (e : (Nat × Nat) × Nat) : Prop := Cond.methodLink (cNm.getD e.1.1 "") e.1.2 objectInit ∈ gw
theorem ob_6_1 : obPr ((6, 1), 0) := gw_in (i := 69) (by decide +kernel) (by decide +kernel)
theorem ob_7_1 : obPr ((7, 1), 0) := gw_in (i := 679) (by decide +kernel) (by decide +kernel)
theorem ob_0_3 : obPr ((0, 3), 0) := gw_in (i := 79) (by decide +kernel) (by decide +kernel)
theorem ob_1_3 : obPr ((1, 3), 0) := gw_in (i := 131) (by decide +kernel) (by decide +kernel)
theorem ob_2_3 : obPr ((2, 3), 0) := gw_in (i := 176) (by decide +kernel) (by decide +kernel)
theorem ob_3_3 : obPr ((3, 3), 0) := gw_in (i := 149) (by decide +kernel) (by decide +kernel)
theorem ob_4_3 : obPr ((4, 3), 0) := gw_in (i := 85) (by decide +kernel) (by decide +kernel)
theorem ob_5_3 : obPr ((5, 3), 0) := gw_in (i := 91) (by decide +kernel) (by decide +kernel)
theorem objT_ok : ∀ e ∈ objT, obPr e := List.forall_mem_cons.mpr ⟨ob_6_1, List.forall_mem_cons.mpr ⟨ob_7_1, List.forall_mem_cons.mpr ⟨ob_0_3, List.forall_mem_cons.mpr ⟨ob_1_3, List.forall_mem_cons.mpr ⟨ob_2_3, List.forall_mem_cons.mpr ⟨ob_3_3, List.forall_mem_cons.mpr ⟨ob_4_3, List.forall_mem_cons.mpr ⟨ob_5_3, fun _ h => absurd h List.not_mem_nil⟩⟩⟩⟩⟩⟩⟩⟩
theorem ob_inst : Cond.instanceMethod objectInit ∈ gw := gw_in (i := 70) (by decide +kernel) (by decide +kernel)
theorem ob_code : Cond.code objectInit ⟨#[0xb1]⟩ 1 none ∈ gw := gw_in (i := 71) (by decide +kernel) (by decide +kernel)
def maPr (e : (Nat × Nat) × Nat) : Prop := Cond.classLink (cNm.getD e.1.1 "") e.1.2 "[[I" ∈ gw
theorem ma_3_9 : maPr ((3, 9), 0) := gw_in (i := 150) (by decide +kernel) (by decide +kernel)
theorem ma_2_18 : maPr ((2, 18), 0) := gw_in (i := 177) (by decide +kernel) (by decide +kernel)
theorem maT_ok : ∀ e ∈ maT, maPr e := List.forall_mem_cons.mpr ⟨ma_3_9, List.forall_mem_cons.mpr ⟨ma_2_18, fun _ h => absurd h List.not_mem_nil⟩⟩
theorem ar_int : Cond.arrayClass .int ∈ gw := gw_in (i := 106) (by decide +kernel) (by decide +kernel)
theorem ar_long : Cond.arrayClass .long ∈ gw := gw_in (i := 116) (by decide +kernel) (by decide +kernel)
theorem an_link : Cond.classLink "NamesInRow" 9 "NamesInRow$Paper" ∈ gw := gw_in (i := 72) (by decide +kernel) (by decide +kernel)
theorem an_over : Cond.arrayOver (.object "NamesInRow$Paper") ∈ tables_1 := List.mem_of_getElem? (i := 20) (by decide +kernel)
theorem aa_over : Cond.arrayOver (.array .int) ∈ tables_1 := List.mem_of_getElem? (i := 98) (by decide +kernel)
theorem kd_0 : ∀ e ∈ kI_0, decode (kB 0) e.1 = .ok e.2 := by decide +kernel
theorem kd_1 : ∀ e ∈ kI_1, decode (kB 1) e.1 = .ok e.2 := by decide +kernel
theorem kd_2 : ∀ e ∈ kI_2, decode (kB 2) e.1 = .ok e.2 := by decide +kernel
theorem kd_3 : ∀ e ∈ kI_3, decode (kB 3) e.1 = .ok e.2 := by decide +kernel
theorem kd_4 : ∀ e ∈ kI_4, decode (kB 4) e.1 = .ok e.2 := by decide +kernel
theorem kd_5 : ∀ e ∈ kI_5, decode (kB 5) e.1 = .ok e.2 := by decide +kernel
theorem kd_6 : ∀ e ∈ kI_6, decode (kB 6) e.1 = .ok e.2 := by decide +kernel
theorem kd_7 : ∀ e ∈ kI_7, decode (kB 7) e.1 = .ok e.2 := by decide +kernel
theorem kd_8 : ∀ e ∈ kI_8, decode (kB 8) e.1 = .ok e.2 := by decide +kernel
theorem kd_all : ∀ M, M < 9 → ∀ e ∈ kI M, decode (kB M) e.1 = .ok e.2 := by
  intro M hM
  match M, hM with
  | 0, _ => exact kd_0
  | 1, _ => exact kd_1
  | 2, _ => exact kd_2
  | 3, _ => exact kd_3
  | 4, _ => exact kd_4
  | 5, _ => exact kd_5
  | 6, _ => exact kd_6
  | 7, _ => exact kd_7
  | 8, _ => exact kd_8
theorem lk1_mem {α : Type} : ∀ (l : List (Nat × α)) (k : Nat) (v : α), l.lookup k = some v → (k, v) ∈ l
  | [], k, v, h => by simp [List.lookup] at h
  | (a, b) :: l, k, v, h => by
    rw [List.lookup_cons] at h
    by_cases e : k = a
    · subst e
      simp at h
      subst h
      exact List.mem_cons_self
    · have e2 : (k == a) = false := by simpa using e
      rw [e2] at h
      exact List.mem_cons_of_mem _ (lk1_mem l k v h)
theorem kI_dec {M pc : Nat} {w : Instr × Nat} (hM : M < 9) (h : (kI M).lookup pc = some w) : decode (kB M) pc = .ok w := by
  have q := kd_all M hM (pc, w) (lk1_mem _ _ _ h)
  dsimp only at q
  exact q
theorem tkA : ∀ (ci : Nat) (q : vw_C), vwCl[ci]? = some q → ∃ ty0 : Nat → FieldType, (∀ k, k < q.2.2 → parseFieldDescriptor (q.2.1 k).2.2.1 = some (ty0 k)) ∧ (∀ a, a < q.2.2 → ∀ b, b < q.2.2 → a ≠ b → (q.2.1 a).2.1 ≠ (q.2.1 b).2.1) ∧ (∀ k, k < q.2.2 → defaultValue (ty0 k) = dfV ci k ∧ (2 ≤ fC ci k → (ty0 k).isReference = true ∧ (q.2.1 k).2.2.2 = true)) ∧ (∀ k, k < q.2.2 → (q.2.1 k).1 = cNm.getD ci "") := vw_all ⟨tyX0, tyX0_ok, nmX0, by decide +kernel, by decide +kernel⟩ ⟨tyX1, tyX1_ok, nmX1, by decide +kernel, by decide +kernel⟩ ⟨tyX2, tyX2_ok, nmX2, by decide +kernel, by decide +kernel⟩ ⟨tyX3, tyX3_ok, nmX3, by decide +kernel, by decide +kernel⟩ ⟨tyX4, tyX4_ok, nmX4, by decide +kernel, by decide +kernel⟩ ⟨tyX5, tyX5_ok, nmX5, by decide +kernel, by decide +kernel⟩ ⟨tyX6, tyX6_ok, nmX6, by decide +kernel, by decide +kernel⟩ ⟨tyX7, tyX7_ok, nmX7, by decide +kernel, by decide +kernel⟩
