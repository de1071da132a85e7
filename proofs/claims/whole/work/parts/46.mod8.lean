/-! ===== the reference: which fraction is less, fairest ===== -/
theorem frac_lt {x b y d : Nat} (hb : 0 < b) (hd : 0 < d) : x * d < y * b ↔ x / b < y / d ∨ (x / b = y / d ∧ x % b * d < y % d * b) := by
  have e1 := Nat.div_add_mod x b
  have e2 := Nat.div_add_mod y d
  have r1 := Nat.mod_lt x hb
  have r2 := Nat.mod_lt y hd
  generalize x / b = q at *
  generalize y / d = s at *
  generalize x % b = l at *
  generalize y % d = r at *
  subst e1
  subst e2
  rcases Nat.lt_trichotomy q s with c | c | c
  · refine ⟨fun _ => Or.inl c, fun _ => ?_⟩
    have h1 : b * q + l < b * s := by
      have : b * (q + 1) ≤ b * s := Nat.mul_le_mul_left _ c
      rw [Nat.mul_add, Nat.mul_one] at this
      omega
    have h2 : (b * q + l) * d < b * s * d := Nat.mul_lt_mul_of_pos_right h1 hd
    have h3 : b * s * d ≤ (d * s + r) * b := by
      rw [Nat.add_mul, Nat.mul_assoc, Nat.mul_comm b, Nat.mul_comm s]
      omega
    omega
  · subst c
    have h1 : (b * q + l) * d = b * q * d + l * d := Nat.add_mul _ _ _
    have h2 : (d * q + r) * b = b * q * d + r * b := by
      rw [Nat.add_mul, Nat.mul_assoc d, Nat.mul_comm d, Nat.mul_comm q b]
    rw [h1, h2]
    constructor
    · intro h; exact Or.inr ⟨rfl, by omega⟩
    · rintro (h | h)
      · omega
      · omega
  · refine ⟨fun h => ?_, fun h => ?_⟩
    · have h1 : d * s + r < d * q := by
        have : d * (s + 1) ≤ d * q := Nat.mul_le_mul_left _ c
        rw [Nat.mul_add, Nat.mul_one] at this
        omega
      have h2 : (d * s + r) * b < d * q * b := Nat.mul_lt_mul_of_pos_right h1 hb
      have h3 : d * q * b ≤ (b * q + l) * d := by
        rw [Nat.add_mul, Nat.mul_assoc, Nat.mul_comm d, Nat.mul_comm q]
        omega
      omega
    · rcases h with h | h
      · omega
      · omega
def ltF (x b y d t : Nat) : Prop := if t = 0 then x * d < y * b else y * b < x * d
theorem lRemN {x b : Nat} (hx : x < 9223372036854775808) (h0 : 0 < b) (hb : b < 9223372036854775808) : lN x - lN (x / b * b) = lN (x % b) := by
  have h := lRem hx h0 hb
  rw [lDiv hx h0 hb, lMul] at h
  exact h
theorem l_less2 {X : Nat × (Nat → Int32)} {σ : Mem} {Q : List Value → Mem → Prop} {a0 a2 a4 a6 : Int64} {v1 v3 v5 : Value} : ∀ b x y d t (v7 w17 w18 w19 w20 w21 w22 : Value) (R : Bool), (R = true ↔ (if t = 0 then x * d < y * b else y * b < x * d)) → (t = 0 ∨ t = 1) → 0 < b → 0 < d → x < 9223372036854775808 → b < 9223372036854775808 → y < 9223372036854775808 → d < 9223372036854775808 → (Rn X 153 17 [.long a0, v1, .long a2, v3, .long a4, v5, .long a6, v7, .long (lN x), .null, .long (lN b), .null, .long (lN y), .null, .long (lN d), .null, .int (nI t), w17, w18, w19, w20, w21, w22] [] σ Q ↔ Q [.int (b2 (R = true))] σ) := by
  intro b
  induction b using Nat.strongRecOn with
  | ind b ih =>
    intro x y d t v7 w17 w18 w19 w20 w21 w22 R hR ht hb hd h1 h2 h3 h4
    have r1 : x % b < b := Nat.mod_lt x hb
    have r2 : y % d < d := Nat.mod_lt y hd
    have q1 : x / b ≤ x := Nat.div_le_self _ _
    have q2 : y / d ≤ y := Nat.div_le_self _ _
    have f1 := frac_lt (x := x) (y := y) hb hd
    have f2 := frac_lt (x := y) (y := x) hd hb
    have m1 := lRemN h1 hb h2
    have m2 := lRemN h3 hd h4
    have d1 := lDiv h1 hb h2
    have d2 := lDiv h3 hd h4
    have n1 := lNe0 hb h2
    have n2 := lNe0 hd h4
    rw [q_153_17]
    by_cases c : x / b = y / d ∧ 0 < x % b ∧ 0 < y % d
    · obtain ⟨c1, c2, c3⟩ := c
      have key : (if t = 0 then x * d < y * b else y * b < x * d) ↔ (if 1 - t = 0 then b * (y % d) < d * (x % b) else d * (x % b) < b * (y % d)) := by
        have e1 : x % b * d = d * (x % b) := Nat.mul_comm _ _
        have e2 : y % d * b = b * (y % d) := Nat.mul_comm _ _
        rw [e1, e2] at f1 f2
        rcases ht with rfl | rfl
        · rw [if_pos rfl, if_neg (by omega), f1]
          constructor
          · rintro (q | q)
            · omega
            · exact q.2
          · intro q; exact Or.inr ⟨c1, q⟩
        · rw [if_neg (by omega), if_pos (by omega), f2]
          constructor
          · rintro (q | q)
            · omega
            · exact q.2
          · intro q; exact Or.inr ⟨c1.symm, q⟩
      have h9 := ih (x % b) r1 b d (y % d) (1 - t) (clr v7) (.long (lN (x % b))) .null (.long (lN (y % d))) .null w21 w22 R (hR.trans key) (by omega) c2 c3 h2 (by omega) h4 (by omega)
      rcases ht with rfl | rfl
      · simp (disch := omega) only [q_153_19, q_153_21, q_153_22, q_153_24, q_153_26, q_153_27, q_153_28, q_153_31, q_153_33, q_153_35, q_153_36, q_153_37, q_153_38, q_153_41, q_153_43, q_153_45, q_153_46, q_153_47, q_153_48, q_153_51, q_153_53, q_153_55, q_153_56, q_153_58, q_153_60, q_153_62, q_153_63, q_153_65, q_153_67, q_153_69, q_153_71, q_153_73, q_153_75, q_153_77, q_153_79, q_153_81, q_153_83, q_153_86, q_153_87, q_153_90, q_153_91, q_153_93, vinT, iClamp, clr_i, clr_l, clr_r, clr_n, true_and, and_true, or_true, true_or, false_or, or_false, iLe, iLt, iEq, iAdd, iMul, List.cons_append, List.nil_append, List.append_nil, zb0, zb1, if_true, if_false, not_true_eq_false, not_false_eq_true, Bool.false_eq_true, Nat.one_ne_zero, Nat.zero_ne_one, Nat.reduceEqDiff, Nat.reduceAdd, if_pos, if_neg, n1, n2, d1, d2, lMul, m1, m2, lc_eq, lEq, lc_le, lLt]
        exact h9
      · simp (disch := omega) only [q_153_19, q_153_21, q_153_22, q_153_24, q_153_26, q_153_27, q_153_28, q_153_31, q_153_33, q_153_35, q_153_36, q_153_37, q_153_38, q_153_41, q_153_43, q_153_45, q_153_46, q_153_47, q_153_48, q_153_51, q_153_53, q_153_55, q_153_56, q_153_58, q_153_60, q_153_62, q_153_63, q_153_65, q_153_67, q_153_69, q_153_71, q_153_73, q_153_75, q_153_77, q_153_79, q_153_81, q_153_83, q_153_86, q_153_87, q_153_90, q_153_91, q_153_93, vinT, iClamp, clr_i, clr_l, clr_r, clr_n, true_and, and_true, or_true, true_or, false_or, or_false, iLe, iLt, iEq, iAdd, iMul, List.cons_append, List.nil_append, List.append_nil, zb0, zb1, if_true, if_false, not_true_eq_false, not_false_eq_true, Bool.false_eq_true, Nat.one_ne_zero, Nat.zero_ne_one, Nat.reduceEqDiff, Nat.reduceAdd, if_pos, if_neg, n1, n2, d1, d2, lMul, m1, m2, lc_eq, lEq, lc_le, lLt]
        exact h9
    · rcases Nat.lt_trichotomy (x / b) (y / d) with c1 | c1 | c1
      · rcases ht with rfl | rfl
        · have eR : b2 (R = true) = nI 1 := b2_t (hR.mpr (by rw [if_pos rfl, f1]; omega))
          simp (disch := omega) only [q_153_19, q_153_21, q_153_22, q_153_24, q_153_26, q_153_27, q_153_28, q_153_31, q_153_33, q_153_35, q_153_36, q_153_37, q_153_38, q_153_41, q_153_43, q_153_45, q_153_46, q_153_47, q_153_48, q_153_96, q_153_98, q_153_100, q_153_101, q_153_103, q_153_105, q_153_107, q_153_108, q_153_110, q_153_112, q_153_114, q_153_115, q_153_118, q_153_120, q_153_122, q_153_123, q_153_126, q_153_128, q_153_130, q_153_131, q_153_132, q_153_133, q_153_136, q_153_138, q_153_140, q_153_141, q_153_142, q_153_143, q_153_146, q_153_147, q_153_150, q_153_151, q_153_153, q_153_155, q_153_157, q_153_158, q_153_161, q_153_163, q_153_165, q_153_166, q_153_169, q_153_171, q_153_173, q_153_174, q_153_175, q_153_176, q_153_179, q_153_181, q_153_183, q_153_184, q_153_185, q_153_186, q_153_189, q_153_190, q_153_193, q_153_194, q_153_196, q_153_198, q_153_201, q_153_203, q_153_206, q_153_208, vinT, iClamp, clr_i, clr_l, clr_r, clr_n, true_and, and_true, or_true, true_or, false_or, or_false, iLe, iLt, iEq, iAdd, iMul, List.cons_append, List.nil_append, List.append_nil, zb0, zb1, if_true, if_false, not_true_eq_false, not_false_eq_true, Bool.false_eq_true, Nat.one_ne_zero, Nat.zero_ne_one, Nat.reduceEqDiff, Nat.reduceAdd, if_pos, if_neg, n1, n2, d1, d2, lMul, m1, m2, lc_eq, lEq, lc_le, lc_lt, lc_gt, lLt, eR]
        · have eR : b2 (R = true) = nI 0 := b2_f (fun q => by have q2 := hR.mp q; rw [if_neg (by omega), f2] at q2; omega)
          simp (disch := omega) only [q_153_19, q_153_21, q_153_22, q_153_24, q_153_26, q_153_27, q_153_28, q_153_31, q_153_33, q_153_35, q_153_36, q_153_37, q_153_38, q_153_41, q_153_43, q_153_45, q_153_46, q_153_47, q_153_48, q_153_96, q_153_98, q_153_100, q_153_101, q_153_103, q_153_105, q_153_107, q_153_108, q_153_110, q_153_112, q_153_114, q_153_115, q_153_118, q_153_120, q_153_122, q_153_123, q_153_126, q_153_128, q_153_130, q_153_131, q_153_132, q_153_133, q_153_136, q_153_138, q_153_140, q_153_141, q_153_142, q_153_143, q_153_146, q_153_147, q_153_150, q_153_151, q_153_153, q_153_155, q_153_157, q_153_158, q_153_161, q_153_163, q_153_165, q_153_166, q_153_169, q_153_171, q_153_173, q_153_174, q_153_175, q_153_176, q_153_179, q_153_181, q_153_183, q_153_184, q_153_185, q_153_186, q_153_189, q_153_190, q_153_193, q_153_194, q_153_196, q_153_198, q_153_201, q_153_203, q_153_206, q_153_208, vinT, iClamp, clr_i, clr_l, clr_r, clr_n, true_and, and_true, or_true, true_or, false_or, or_false, iLe, iLt, iEq, iAdd, iMul, List.cons_append, List.nil_append, List.append_nil, zb0, zb1, if_true, if_false, not_true_eq_false, not_false_eq_true, Bool.false_eq_true, Nat.one_ne_zero, Nat.zero_ne_one, Nat.reduceEqDiff, Nat.reduceAdd, if_pos, if_neg, n1, n2, d1, d2, lMul, m1, m2, lc_eq, lEq, lc_le, lc_lt, lc_gt, lLt, eR]
      · by_cases c2 : x % b = 0
        · by_cases c3 : y % d = 0
          · rw [c2, c3, Nat.zero_mul, Nat.zero_mul] at f1
            rw [c2, c3, Nat.zero_mul, Nat.zero_mul] at f2
            rcases ht with rfl | rfl
            · have eR : b2 (R = true) = nI 0 := b2_f (fun q => by have q2 := hR.mp q; rw [if_pos rfl, f1] at q2; omega)
              simp (disch := omega) only [q_153_19, q_153_21, q_153_22, q_153_24, q_153_26, q_153_27, q_153_28, q_153_31, q_153_33, q_153_35, q_153_36, q_153_37, q_153_38, q_153_41, q_153_43, q_153_45, q_153_46, q_153_47, q_153_48, q_153_96, q_153_98, q_153_100, q_153_101, q_153_103, q_153_105, q_153_107, q_153_108, q_153_110, q_153_112, q_153_114, q_153_115, q_153_118, q_153_120, q_153_122, q_153_123, q_153_126, q_153_128, q_153_130, q_153_131, q_153_132, q_153_133, q_153_136, q_153_138, q_153_140, q_153_141, q_153_142, q_153_143, q_153_146, q_153_147, q_153_150, q_153_151, q_153_153, q_153_155, q_153_157, q_153_158, q_153_161, q_153_163, q_153_165, q_153_166, q_153_169, q_153_171, q_153_173, q_153_174, q_153_175, q_153_176, q_153_179, q_153_181, q_153_183, q_153_184, q_153_185, q_153_186, q_153_189, q_153_190, q_153_193, q_153_194, q_153_196, q_153_198, q_153_201, q_153_203, q_153_206, q_153_208, vinT, iClamp, clr_i, clr_l, clr_r, clr_n, true_and, and_true, or_true, true_or, false_or, or_false, iLe, iLt, iEq, iAdd, iMul, List.cons_append, List.nil_append, List.append_nil, zb0, zb1, if_true, if_false, not_true_eq_false, not_false_eq_true, Bool.false_eq_true, Nat.one_ne_zero, Nat.zero_ne_one, Nat.reduceEqDiff, Nat.reduceAdd, if_pos, if_neg, n1, n2, d1, d2, lMul, m1, m2, lc_eq, lEq, lc_le, lc_lt, lc_gt, lLt, eR]
            · have eR : b2 (R = true) = nI 0 := b2_f (fun q => by have q2 := hR.mp q; rw [if_neg (by omega), f2] at q2; omega)
              simp (disch := omega) only [q_153_19, q_153_21, q_153_22, q_153_24, q_153_26, q_153_27, q_153_28, q_153_31, q_153_33, q_153_35, q_153_36, q_153_37, q_153_38, q_153_41, q_153_43, q_153_45, q_153_46, q_153_47, q_153_48, q_153_96, q_153_98, q_153_100, q_153_101, q_153_103, q_153_105, q_153_107, q_153_108, q_153_110, q_153_112, q_153_114, q_153_115, q_153_118, q_153_120, q_153_122, q_153_123, q_153_126, q_153_128, q_153_130, q_153_131, q_153_132, q_153_133, q_153_136, q_153_138, q_153_140, q_153_141, q_153_142, q_153_143, q_153_146, q_153_147, q_153_150, q_153_151, q_153_153, q_153_155, q_153_157, q_153_158, q_153_161, q_153_163, q_153_165, q_153_166, q_153_169, q_153_171, q_153_173, q_153_174, q_153_175, q_153_176, q_153_179, q_153_181, q_153_183, q_153_184, q_153_185, q_153_186, q_153_189, q_153_190, q_153_193, q_153_194, q_153_196, q_153_198, q_153_201, q_153_203, q_153_206, q_153_208, vinT, iClamp, clr_i, clr_l, clr_r, clr_n, true_and, and_true, or_true, true_or, false_or, or_false, iLe, iLt, iEq, iAdd, iMul, List.cons_append, List.nil_append, List.append_nil, zb0, zb1, if_true, if_false, not_true_eq_false, not_false_eq_true, Bool.false_eq_true, Nat.one_ne_zero, Nat.zero_ne_one, Nat.reduceEqDiff, Nat.reduceAdd, if_pos, if_neg, n1, n2, d1, d2, lMul, m1, m2, lc_eq, lEq, lc_le, lc_lt, lc_gt, lLt, eR]
          · have g1 : 0 < y % d * b := Nat.mul_pos (by omega) hb
            rw [c2, Nat.zero_mul] at f1
            rw [c2, Nat.zero_mul] at f2
            rcases ht with rfl | rfl
            · have eR : b2 (R = true) = nI 1 := b2_t (hR.mpr (by rw [if_pos rfl, f1]; omega))
              simp (disch := omega) only [q_153_19, q_153_21, q_153_22, q_153_24, q_153_26, q_153_27, q_153_28, q_153_31, q_153_33, q_153_35, q_153_36, q_153_37, q_153_38, q_153_41, q_153_43, q_153_45, q_153_46, q_153_47, q_153_48, q_153_96, q_153_98, q_153_100, q_153_101, q_153_103, q_153_105, q_153_107, q_153_108, q_153_110, q_153_112, q_153_114, q_153_115, q_153_118, q_153_120, q_153_122, q_153_123, q_153_126, q_153_128, q_153_130, q_153_131, q_153_132, q_153_133, q_153_136, q_153_138, q_153_140, q_153_141, q_153_142, q_153_143, q_153_146, q_153_147, q_153_150, q_153_151, q_153_153, q_153_155, q_153_157, q_153_158, q_153_161, q_153_163, q_153_165, q_153_166, q_153_169, q_153_171, q_153_173, q_153_174, q_153_175, q_153_176, q_153_179, q_153_181, q_153_183, q_153_184, q_153_185, q_153_186, q_153_189, q_153_190, q_153_193, q_153_194, q_153_196, q_153_198, q_153_201, q_153_203, q_153_206, q_153_208, vinT, iClamp, clr_i, clr_l, clr_r, clr_n, true_and, and_true, or_true, true_or, false_or, or_false, iLe, iLt, iEq, iAdd, iMul, List.cons_append, List.nil_append, List.append_nil, zb0, zb1, if_true, if_false, not_true_eq_false, not_false_eq_true, Bool.false_eq_true, Nat.one_ne_zero, Nat.zero_ne_one, Nat.reduceEqDiff, Nat.reduceAdd, if_pos, if_neg, n1, n2, d1, d2, lMul, m1, m2, lc_eq, lEq, lc_le, lc_lt, lc_gt, lLt, eR]
            · have eR : b2 (R = true) = nI 0 := b2_f (fun q => by have q2 := hR.mp q; rw [if_neg (by omega), f2] at q2; omega)
              simp (disch := omega) only [q_153_19, q_153_21, q_153_22, q_153_24, q_153_26, q_153_27, q_153_28, q_153_31, q_153_33, q_153_35, q_153_36, q_153_37, q_153_38, q_153_41, q_153_43, q_153_45, q_153_46, q_153_47, q_153_48, q_153_96, q_153_98, q_153_100, q_153_101, q_153_103, q_153_105, q_153_107, q_153_108, q_153_110, q_153_112, q_153_114, q_153_115, q_153_118, q_153_120, q_153_122, q_153_123, q_153_126, q_153_128, q_153_130, q_153_131, q_153_132, q_153_133, q_153_136, q_153_138, q_153_140, q_153_141, q_153_142, q_153_143, q_153_146, q_153_147, q_153_150, q_153_151, q_153_153, q_153_155, q_153_157, q_153_158, q_153_161, q_153_163, q_153_165, q_153_166, q_153_169, q_153_171, q_153_173, q_153_174, q_153_175, q_153_176, q_153_179, q_153_181, q_153_183, q_153_184, q_153_185, q_153_186, q_153_189, q_153_190, q_153_193, q_153_194, q_153_196, q_153_198, q_153_201, q_153_203, q_153_206, q_153_208, vinT, iClamp, clr_i, clr_l, clr_r, clr_n, true_and, and_true, or_true, true_or, false_or, or_false, iLe, iLt, iEq, iAdd, iMul, List.cons_append, List.nil_append, List.append_nil, zb0, zb1, if_true, if_false, not_true_eq_false, not_false_eq_true, Bool.false_eq_true, Nat.one_ne_zero, Nat.zero_ne_one, Nat.reduceEqDiff, Nat.reduceAdd, if_pos, if_neg, n1, n2, d1, d2, lMul, m1, m2, lc_eq, lEq, lc_le, lc_lt, lc_gt, lLt, eR]
        · have c3 : y % d = 0 := by omega
          have g1 : 0 < x % b * d := Nat.mul_pos (by omega) hd
          rw [c3, Nat.zero_mul] at f1
          rw [c3, Nat.zero_mul] at f2
          rcases ht with rfl | rfl
          · have eR : b2 (R = true) = nI 0 := b2_f (fun q => by have q2 := hR.mp q; rw [if_pos rfl, f1] at q2; omega)
            simp (disch := omega) only [q_153_19, q_153_21, q_153_22, q_153_24, q_153_26, q_153_27, q_153_28, q_153_31, q_153_33, q_153_35, q_153_36, q_153_37, q_153_38, q_153_41, q_153_43, q_153_45, q_153_46, q_153_47, q_153_48, q_153_96, q_153_98, q_153_100, q_153_101, q_153_103, q_153_105, q_153_107, q_153_108, q_153_110, q_153_112, q_153_114, q_153_115, q_153_118, q_153_120, q_153_122, q_153_123, q_153_126, q_153_128, q_153_130, q_153_131, q_153_132, q_153_133, q_153_136, q_153_138, q_153_140, q_153_141, q_153_142, q_153_143, q_153_146, q_153_147, q_153_150, q_153_151, q_153_153, q_153_155, q_153_157, q_153_158, q_153_161, q_153_163, q_153_165, q_153_166, q_153_169, q_153_171, q_153_173, q_153_174, q_153_175, q_153_176, q_153_179, q_153_181, q_153_183, q_153_184, q_153_185, q_153_186, q_153_189, q_153_190, q_153_193, q_153_194, q_153_196, q_153_198, q_153_201, q_153_203, q_153_206, q_153_208, vinT, iClamp, clr_i, clr_l, clr_r, clr_n, true_and, and_true, or_true, true_or, false_or, or_false, iLe, iLt, iEq, iAdd, iMul, List.cons_append, List.nil_append, List.append_nil, zb0, zb1, if_true, if_false, not_true_eq_false, not_false_eq_true, Bool.false_eq_true, Nat.one_ne_zero, Nat.zero_ne_one, Nat.reduceEqDiff, Nat.reduceAdd, if_pos, if_neg, n1, n2, d1, d2, lMul, m1, m2, lc_eq, lEq, lc_le, lc_lt, lc_gt, lLt, eR]
          · have eR : b2 (R = true) = nI 1 := b2_t (hR.mpr (by rw [if_neg (by omega), f2]; omega))
            simp (disch := omega) only [q_153_19, q_153_21, q_153_22, q_153_24, q_153_26, q_153_27, q_153_28, q_153_31, q_153_33, q_153_35, q_153_36, q_153_37, q_153_38, q_153_41, q_153_43, q_153_45, q_153_46, q_153_47, q_153_48, q_153_96, q_153_98, q_153_100, q_153_101, q_153_103, q_153_105, q_153_107, q_153_108, q_153_110, q_153_112, q_153_114, q_153_115, q_153_118, q_153_120, q_153_122, q_153_123, q_153_126, q_153_128, q_153_130, q_153_131, q_153_132, q_153_133, q_153_136, q_153_138, q_153_140, q_153_141, q_153_142, q_153_143, q_153_146, q_153_147, q_153_150, q_153_151, q_153_153, q_153_155, q_153_157, q_153_158, q_153_161, q_153_163, q_153_165, q_153_166, q_153_169, q_153_171, q_153_173, q_153_174, q_153_175, q_153_176, q_153_179, q_153_181, q_153_183, q_153_184, q_153_185, q_153_186, q_153_189, q_153_190, q_153_193, q_153_194, q_153_196, q_153_198, q_153_201, q_153_203, q_153_206, q_153_208, vinT, iClamp, clr_i, clr_l, clr_r, clr_n, true_and, and_true, or_true, true_or, false_or, or_false, iLe, iLt, iEq, iAdd, iMul, List.cons_append, List.nil_append, List.append_nil, zb0, zb1, if_true, if_false, not_true_eq_false, not_false_eq_true, Bool.false_eq_true, Nat.one_ne_zero, Nat.zero_ne_one, Nat.reduceEqDiff, Nat.reduceAdd, if_pos, if_neg, n1, n2, d1, d2, lMul, m1, m2, lc_eq, lEq, lc_le, lc_lt, lc_gt, lLt, eR]
      · rcases ht with rfl | rfl
        · have eR : b2 (R = true) = nI 0 := b2_f (fun q => by have q2 := hR.mp q; rw [if_pos rfl, f1] at q2; omega)
          simp (disch := omega) only [q_153_19, q_153_21, q_153_22, q_153_24, q_153_26, q_153_27, q_153_28, q_153_31, q_153_33, q_153_35, q_153_36, q_153_37, q_153_38, q_153_41, q_153_43, q_153_45, q_153_46, q_153_47, q_153_48, q_153_96, q_153_98, q_153_100, q_153_101, q_153_103, q_153_105, q_153_107, q_153_108, q_153_110, q_153_112, q_153_114, q_153_115, q_153_118, q_153_120, q_153_122, q_153_123, q_153_126, q_153_128, q_153_130, q_153_131, q_153_132, q_153_133, q_153_136, q_153_138, q_153_140, q_153_141, q_153_142, q_153_143, q_153_146, q_153_147, q_153_150, q_153_151, q_153_153, q_153_155, q_153_157, q_153_158, q_153_161, q_153_163, q_153_165, q_153_166, q_153_169, q_153_171, q_153_173, q_153_174, q_153_175, q_153_176, q_153_179, q_153_181, q_153_183, q_153_184, q_153_185, q_153_186, q_153_189, q_153_190, q_153_193, q_153_194, q_153_196, q_153_198, q_153_201, q_153_203, q_153_206, q_153_208, vinT, iClamp, clr_i, clr_l, clr_r, clr_n, true_and, and_true, or_true, true_or, false_or, or_false, iLe, iLt, iEq, iAdd, iMul, List.cons_append, List.nil_append, List.append_nil, zb0, zb1, if_true, if_false, not_true_eq_false, not_false_eq_true, Bool.false_eq_true, Nat.one_ne_zero, Nat.zero_ne_one, Nat.reduceEqDiff, Nat.reduceAdd, if_pos, if_neg, n1, n2, d1, d2, lMul, m1, m2, lc_eq, lEq, lc_le, lc_lt, lc_gt, lLt, eR]
        · have eR : b2 (R = true) = nI 1 := b2_t (hR.mpr (by rw [if_neg (by omega), f2]; omega))
          simp (disch := omega) only [q_153_19, q_153_21, q_153_22, q_153_24, q_153_26, q_153_27, q_153_28, q_153_31, q_153_33, q_153_35, q_153_36, q_153_37, q_153_38, q_153_41, q_153_43, q_153_45, q_153_46, q_153_47, q_153_48, q_153_96, q_153_98, q_153_100, q_153_101, q_153_103, q_153_105, q_153_107, q_153_108, q_153_110, q_153_112, q_153_114, q_153_115, q_153_118, q_153_120, q_153_122, q_153_123, q_153_126, q_153_128, q_153_130, q_153_131, q_153_132, q_153_133, q_153_136, q_153_138, q_153_140, q_153_141, q_153_142, q_153_143, q_153_146, q_153_147, q_153_150, q_153_151, q_153_153, q_153_155, q_153_157, q_153_158, q_153_161, q_153_163, q_153_165, q_153_166, q_153_169, q_153_171, q_153_173, q_153_174, q_153_175, q_153_176, q_153_179, q_153_181, q_153_183, q_153_184, q_153_185, q_153_186, q_153_189, q_153_190, q_153_193, q_153_194, q_153_196, q_153_198, q_153_201, q_153_203, q_153_206, q_153_208, vinT, iClamp, clr_i, clr_l, clr_r, clr_n, true_and, and_true, or_true, true_or, false_or, or_false, iLe, iLt, iEq, iAdd, iMul, List.cons_append, List.nil_append, List.append_nil, zb0, zb1, if_true, if_false, not_true_eq_false, not_false_eq_true, Bool.false_eq_true, Nat.one_ne_zero, Nat.zero_ne_one, Nat.reduceEqDiff, Nat.reduceAdd, if_pos, if_neg, n1, n2, d1, d2, lMul, m1, m2, lc_eq, lEq, lc_le, lc_lt, lc_gt, lLt, eR]
theorem s_less2 {X : Nat × (Nat → Int32)} {σ : Mem} {Q : List Value → Mem → Prop} {x b y d : Nat} {v1 v3 v5 v7 u8 u9 u10 u11 u12 u13 u14 u15 u16 u17 u18 u19 u20 u21 u22 : Value} (hb : 0 < b) (hd : 0 < d) (h1 : x < 9223372036854775808) (h2 : b < 9223372036854775808) (h3 : y < 9223372036854775808) (h4 : d < 9223372036854775808) : Rn X 153 0 [.long (lN x), v1, .long (lN b), v3, .long (lN y), v5, .long (lN d), v7, u8, u9, u10, u11, u12, u13, u14, u15, u16, u17, u18, u19, u20, u21, u22] [] σ Q ↔ Q [.int (b2 (x * d < y * b))] σ := by
  have h := fun (v1 v3 v5 v7 w17 w18 w19 w20 w21 w22 : Value) => l_less2 (X := X) (σ := σ) (Q := Q) (a0 := lN x) (a2 := lN b) (a4 := lN y) (a6 := lN d) (v1 := v1) (v3 := v3) (v5 := v5) b x y d 0 v7 w17 w18 w19 w20 w21 w22 (decide (x * d < y * b)) (by rw [if_pos rfl, decide_eq_true_eq]) (Or.inl rfl) hb hd h1 h2 h3 h4
  have e : b2 (decide (x * d < y * b) = true) = b2 (x * d < y * b) := b2_c (by rw [decide_eq_true_eq])
  rw [e] at h
  simp (disch := omega) only [q_153_0, q_153_1, q_153_3, q_153_4, q_153_6, q_153_8, q_153_10, q_153_12, q_153_14, q_153_15, vinT, iClamp, clr_i, clr_l, clr_r, clr_n, true_and, and_true, or_true, true_or, false_or, or_false, iLe, iLt, iEq, iAdd, iMul, List.cons_append, List.nil_append, List.append_nil, zb0, zb1, if_true, if_false, not_true_eq_false, not_false_eq_true, Bool.false_eq_true, Nat.one_ne_zero, Nat.zero_ne_one, Nat.reduceEqDiff, Nat.reduceAdd, if_pos, if_neg, h]
/-! fairest -/
theorem ufS_le {a : AS} {p r : Nat} (ok : AOK a) (hp : p < 8) : ufS a p r ≤ 7 * 45368527680000 ∧ 0 < ufD a p r ∧ ufD a p r ≤ 700 * 567106596 ∧ 0 < dvL (cl a p) r := by
  obtain ⟨o1, o2, o3, o4, o5, o6, o7, o8⟩ := ok.1 p hp
  obtain ⟨d1, d2⟩ := dvL_le (cl := cl a p) (r := r) o5
  have z2 := (pt_le ok hp (show 0 < 7 by omega)).2.1
  have z3 := (pt_le ok hp (show 0 < 7 by omega)).2.2
  exact ⟨uf_le (fun q hq => dvU_le o5 hq) d2 z2 (fun q hq => (pt_le ok hp hq).1), Nat.mul_pos (by omega) z3, Nat.mul_le_mul d2 z2, by omega⟩
theorem fair_cmp {a : AS} {p r s : Nat} (ok : AOK a) (hp : p < 8) : tI (ufS a p r) (ufD a p r) 1 * tI (ufS a p s) (ufD a p s) 0 < tI (ufS a p s) (ufD a p s) 1 * tI (ufS a p r) (ufD a p r) 0 ↔ ufS a p r * dvL (cl a p) s < ufS a p s * dvL (cl a p) r := by
  obtain ⟨x1, x2, x3, x4⟩ := ufS_le (r := r) ok hp
  obtain ⟨y1, y2, y3, y4⟩ := ufS_le (r := s) ok hp
  have z3 := (pt_le ok hp (show 0 < 7 by omega)).2.2
  have k1 := tI_mul (a := ufS a p r) x2
  have k2 := tI_mul (a := ufS a p s) y2
  obtain ⟨p1, p2, p3⟩ := tI_pos (a := ufS a p r) x2
  obtain ⟨p4, p5, p6⟩ := tI_pos (a := ufS a p s) y2
  generalize tI (ufS a p r) (ufD a p r) 1 = ur at *
  generalize tI (ufS a p r) (ufD a p r) 0 = dr at *
  generalize tI (ufS a p s) (ufD a p s) 1 = us at *
  generalize tI (ufS a p s) (ufD a p s) 0 = ds at *
  -- times the two lower parts
  have e1 : ur * ds * (ufD a p r * ufD a p s) = ufS a p r * ufD a p s * (dr * ds) := by
    calc ur * ds * (ufD a p r * ufD a p s) = (ur * ufD a p r) * (ds * ufD a p s) := by rw [Nat.mul_mul_mul_comm]
      _ = (ufS a p r * dr) * (ds * ufD a p s) := by rw [k1]
      _ = ufS a p r * ufD a p s * (dr * ds) := by rw [Nat.mul_comm ds, Nat.mul_mul_mul_comm]
  have e2 : us * dr * (ufD a p r * ufD a p s) = ufS a p s * ufD a p r * (dr * ds) := by
    calc us * dr * (ufD a p r * ufD a p s) = (us * ufD a p s) * (dr * ufD a p r) := by rw [Nat.mul_comm (ufD a p r), Nat.mul_mul_mul_comm]
      _ = (ufS a p s * ds) * (dr * ufD a p r) := by rw [k2]
      _ = ufS a p s * ufD a p r * (dr * ds) := by rw [Nat.mul_comm dr, Nat.mul_mul_mul_comm, Nat.mul_comm ds]
  have e3 : ur * ds < us * dr ↔ ufS a p r * ufD a p s < ufS a p s * ufD a p r := by
    rw [← Nat.mul_lt_mul_right (a := ufD a p r * ufD a p s) (Nat.mul_pos x2 y2), e1, e2]
    exact Nat.mul_lt_mul_right (Nat.mul_pos p1 p4)
  rw [e3]
  have e4 : ufS a p r * ufD a p s = ufS a p r * dvL (cl a p) s * whL (wt a p) (hr a p) := by rw [Nat.mul_assoc]
  have e5 : ufS a p s * ufD a p r = ufS a p s * dvL (cl a p) r * whL (wt a p) (hr a p) := by rw [Nat.mul_assoc]
  rw [e4, e5]
  exact Nat.mul_lt_mul_right z3
theorem l_fairM {X : Nat × (Nat → Int32)} {a : AS} {p : Nat} (ok : AOK a) (hp : p < 8) : ∀ n i b (σ : Mem), MI σ a → i + n = 3 → 1 ≤ i → b < i → ∃ σ', (∀ Q, Rn X 154 31 [.ref 127, .int (nI p), .int (nI b), .long (lN (tI (ufS a p b) (ufD a p b) 1)), .null, .long (lN (tI (ufS a p b) (ufD a p b) 0)), .null, .int (nI i)] [] σ Q ↔ Q [.int (nI (faF a p i n b (ufS a p b) (dvL (cl a p) b)))] σ') ∧ Off [127, 134, 141] σ σ' := by
  intro n
  induction n with
  | zero =>
    intro i b σ h hi h1 hb
    have e : i = 3 := by omega
    subst e
    refine ⟨σ, fun Q => ?_, Off.rf _ _⟩
    rw [q_154_31]
    simp (disch := omega) only [q_154_0, q_154_1, q_154_4, q_154_7, q_154_8, q_154_9, q_154_10, q_154_11, q_154_12, q_154_13, q_154_14, q_154_17, q_154_18, q_154_21, q_154_22, q_154_23, q_154_26, q_154_28, q_154_29, q_154_33, q_154_34, q_154_37, q_154_38, q_154_39, q_154_41, q_154_44, q_154_45, q_154_48, q_154_49, q_154_52, q_154_53, q_154_55, q_154_58, q_154_61, q_154_63, q_154_64, q_154_65, q_154_68, q_154_69, q_154_70, q_154_73, q_154_75, q_154_78, q_154_81, q_154_82, vinT, iClamp, clr_i, clr_l, clr_r, clr_n, true_and, and_true, or_true, true_or, false_or, or_false, iLe, iLt, iEq, iAdd, iMul, List.cons_append, List.nil_append, List.append_nil, zb0, zb1, if_true, if_false, not_true_eq_false, not_false_eq_true, Bool.false_eq_true, Nat.one_ne_zero, Nat.zero_ne_one, Nat.reduceEqDiff, Nat.reduceAdd, if_pos, if_neg, faF]
  | succ n ih =>
    intro i b σ h hi h1 hb
    obtain ⟨σ1, i1, i2, i3, i4⟩ := s_unfM (X := X) (r := i) (u3 := .null) (u4 := .null) (u5 := .null) ok h hp (by omega)
    have i1' := fun Q => i1 Q
    have h' := MI_scr h (i4.mono (by decide))
    obtain ⟨x1, x2, x3, x4⟩ := ufS_le (r := i) ok hp
    obtain ⟨y1, y2, y3, y4⟩ := ufS_le (r := b) ok hp
    obtain ⟨p1, p2, p3⟩ := tI_pos (a := ufS a p i) x2
    obtain ⟨p4, p5, p6⟩ := tI_pos (a := ufS a p b) y2
    have hcmp := fair_cmp (r := i) (s := b) ok hp
    have hls := fun (Q : List Value → Mem → Prop) (v1 v3 v5 v7 u8 u9 u10 u11 u12 u13 u14 u15 u16 u17 u18 u19 u20 u21 u22 : Value) => s_less2 (X := X) (σ := σ1) (Q := Q) (x := tI (ufS a p i) (ufD a p i) 1) (b := tI (ufS a p i) (ufD a p i) 0) (y := tI (ufS a p b) (ufD a p b) 1) (d := tI (ufS a p b) (ufD a p b) 0) (v1 := v1) (v3 := v3) (v5 := v5) (v7 := v7) (u8 := u8) (u9 := u9) (u10 := u10) (u11 := u11) (u12 := u12) (u13 := u13) (u14 := u14) (u15 := u15) (u16 := u16) (u17 := u17) (u18 := u18) (u19 := u19) (u20 := u20) (u21 := u21) (u22 := u22) p1 p4 (by omega) (by omega) (by omega) (by omega)
    by_cases c : ufS a p i * dvL (cl a p) b < ufS a p b * dvL (cl a p) i
    · have ec := b2_t (hcmp.mpr c)
      obtain ⟨σ', j1, j2⟩ := ih (i + 1) i σ1 h' (by omega) (by omega) (by omega)
      refine ⟨σ', fun Q => ?_, i4.tr j2⟩
      rw [q_154_31, faF, if_pos (Or.inr c)]
      simp (disch := omega) only [q_154_0, q_154_1, q_154_4, q_154_7, q_154_8, q_154_9, q_154_10, q_154_11, q_154_12, q_154_13, q_154_14, q_154_17, q_154_18, q_154_21, q_154_22, q_154_23, q_154_26, q_154_28, q_154_29, q_154_33, q_154_34, q_154_37, q_154_38, q_154_39, q_154_41, q_154_44, q_154_45, q_154_48, q_154_49, q_154_52, q_154_53, q_154_55, q_154_58, q_154_61, q_154_63, q_154_64, q_154_65, q_154_68, q_154_69, q_154_70, q_154_73, q_154_75, q_154_78, q_154_81, q_154_82, vinT, iClamp, clr_i, clr_l, clr_r, clr_n, true_and, and_true, or_true, true_or, false_or, or_false, iLe, iLt, iEq, iAdd, iMul, List.cons_append, List.nil_append, List.append_nil, zb0, zb1, if_true, if_false, not_true_eq_false, not_false_eq_true, Bool.false_eq_true, Nat.one_ne_zero, Nat.zero_ne_one, Nat.reduceEqDiff, Nat.reduceAdd, if_pos, if_neg, m127, m128k, m128n, m129k, m129n, m130k, m130n, m131k, m131n, m132k, m132n, m133k, m133n, m134k, m134n, m135k, m135n, m136k, m136n, m137k, m137n, m138k, m138n, m139k, m139n, m140k, m140n, m141k, m141n, m142k, m142n, m143k, m143n, m144k, m144n, m145k, m145n, m146k, m146n, i1', i2, i3, hls, ec]
      exact j1 Q
    · have ec := b2_f (fun q => c (hcmp.mp q))
      obtain ⟨σ', j1, j2⟩ := ih (i + 1) b σ1 h' (by omega) (by omega) (by omega)
      refine ⟨σ', fun Q => ?_, i4.tr j2⟩
      rw [q_154_31, faF, if_neg (fun q => by rcases q with q | q; omega; exact c q)]
      simp (disch := omega) only [q_154_0, q_154_1, q_154_4, q_154_7, q_154_8, q_154_9, q_154_10, q_154_11, q_154_12, q_154_13, q_154_14, q_154_17, q_154_18, q_154_21, q_154_22, q_154_23, q_154_26, q_154_28, q_154_29, q_154_33, q_154_34, q_154_37, q_154_38, q_154_39, q_154_41, q_154_44, q_154_45, q_154_48, q_154_49, q_154_52, q_154_53, q_154_55, q_154_58, q_154_61, q_154_63, q_154_64, q_154_65, q_154_68, q_154_69, q_154_70, q_154_73, q_154_75, q_154_78, q_154_81, q_154_82, vinT, iClamp, clr_i, clr_l, clr_r, clr_n, true_and, and_true, or_true, true_or, false_or, or_false, iLe, iLt, iEq, iAdd, iMul, List.cons_append, List.nil_append, List.append_nil, zb0, zb1, if_true, if_false, not_true_eq_false, not_false_eq_true, Bool.false_eq_true, Nat.one_ne_zero, Nat.zero_ne_one, Nat.reduceEqDiff, Nat.reduceAdd, if_pos, if_neg, m127, m128k, m128n, m129k, m129n, m130k, m130n, m131k, m131n, m132k, m132n, m133k, m133n, m134k, m134n, m135k, m135n, m136k, m136n, m137k, m137n, m138k, m138n, m139k, m139n, m140k, m140n, m141k, m141n, m142k, m142n, m143k, m143n, m144k, m144n, m145k, m145n, m146k, m146n, i1', i2, i3, hls, ec]
      exact j1 Q
theorem m_Fa {X : Nat × (Nat → Int32)} {σ : Mem} {a : AS} {x : Int32} {w0 w1 w2 w3 w4 w5 : Value} (ok : AOK a) (h : MI σ a) : ∃ σ', Ev X 154 [.ref 127, .int x, w0, w1, w2, w3, w4, w5] σ [.int (anFa a x)] σ' ∧ MI σ' a ∧ Hi σ σ' := by
  by_cases k0 : inR x 8
  · have e0 : b2 (inR x 8) = nI 1 := b2_t k0
    rw [anFa, if_pos k0]
    obtain ⟨p, hp, rfl⟩ := inR_of k0 (by omega)
    rw [tn_nI (by omega)]
    obtain ⟨σ1, i1, i2, i3, i4⟩ := s_unfM (X := X) (r := 0) (u3 := .null) (u4 := .null) (u5 := .null) ok h hp (by omega)
    have i1' := fun Q => i1 Q
    obtain ⟨σ', j1, j2⟩ := l_fairM (X := X) ok hp 2 1 0 σ1 (MI_scr h (i4.mono (by decide))) rfl (by omega) (by omega)
    have ho := i4.tr j2
    refine ⟨σ', fun Q => ?_, MI_scr h (ho.mono (by decide)), ho.hi (by simp)⟩
    have ef : faF a p 0 3 0 0 0 = faF a p 1 2 0 (ufS a p 0) (dvL (cl a p) 0) := by rw [faF, if_pos (Or.inl rfl)]
    rw [ef]
    simp (disch := omega) only [q_154_0, q_154_1, q_154_4, q_154_7, q_154_8, q_154_9, q_154_10, q_154_11, q_154_12, q_154_13, q_154_14, q_154_17, q_154_18, q_154_21, q_154_22, q_154_23, q_154_26, q_154_28, q_154_29, vinT, iClamp, clr_i, clr_l, clr_r, clr_n, true_and, and_true, or_true, true_or, false_or, or_false, iLe, iLt, iEq, iAdd, iMul, List.cons_append, List.nil_append, List.append_nil, zb0, zb1, if_true, if_false, not_true_eq_false, not_false_eq_true, Bool.false_eq_true, Nat.one_ne_zero, Nat.zero_ne_one, Nat.reduceEqDiff, Nat.reduceAdd, if_pos, if_neg, m127, m128k, m128n, m129k, m129n, m130k, m130n, m131k, m131n, m132k, m132n, m133k, m133n, m134k, m134n, m135k, m135n, m136k, m136n, m137k, m137n, m138k, m138n, m139k, m139n, m140k, m140n, m141k, m141n, m142k, m142n, m143k, m143n, m144k, m144n, m145k, m145n, m146k, m146n, s_isPaperM, e0, i1', i2, i3]
    exact j1 Q
  · have e0 : b2 (inR x 8) = nI 0 := b2_f k0
    rw [anFa, if_neg k0]
    refine ⟨σ, fun Q => ?_, h, Hi.rf σ⟩
    simp (disch := omega) only [q_154_0, q_154_1, q_154_4, q_154_7, q_154_8, q_154_9, q_154_10, q_154_11, q_154_12, q_154_13, q_154_14, q_154_17, q_154_18, q_154_21, q_154_22, q_154_23, q_154_26, q_154_28, q_154_29, vinT, iClamp, clr_i, clr_l, clr_r, clr_n, true_and, and_true, or_true, true_or, false_or, or_false, iLe, iLt, iEq, iAdd, iMul, List.cons_append, List.nil_append, List.append_nil, zb0, zb1, if_true, if_false, not_true_eq_false, not_false_eq_true, Bool.false_eq_true, Nat.one_ne_zero, Nat.zero_ne_one, Nat.reduceEqDiff, Nat.reduceAdd, if_pos, if_neg, s_isPaperM, e0]
