/-! ===== the reference: worth, scores ===== -/
theorem l_fallM {X : Nat × (Nat → Int32)} {σ : Mem} {Q : List Value → Mem → Prop} {n : Nat} (hn : n ≤ 7) : ∀ m j s, j + m = n → (Rn X 132 4 [.int (nI n), .long (lN s), .null, .int (nI (j + 1))] [] σ Q ↔ Q [.long (lN (s + smF fq j m))] σ) := by
  intro m
  induction m with
  | zero =>
    intro j s hj
    rw [q_132_4]
    simp (disch := omega) only [q_132_0, q_132_1, q_132_2, q_132_3, q_132_5, q_132_6, q_132_9, q_132_10, q_132_13, q_132_14, q_132_15, q_132_16, q_132_17, q_132_18, q_132_21, q_132_24, q_132_25, vinT, iClamp, clr_i, clr_l, clr_r, clr_n, true_and, and_true, or_true, true_or, false_or, or_false, iLe, iLt, iEq, iAdd, iMul, List.cons_append, List.nil_append, List.append_nil, zb0, zb1, if_true, if_false, not_true_eq_false, not_false_eq_true, Bool.false_eq_true, Nat.one_ne_zero, Nat.zero_ne_one, Nat.reduceEqDiff, Nat.reduceAdd, if_pos, if_neg, smF, Nat.add_zero]
  | succ m ih =>
    intro j s hj
    have hfq : (420 : Nat) / (j + 1) = fq j := rfl
    rw [q_132_4]
    simp (disch := omega) only [q_132_0, q_132_1, q_132_2, q_132_3, q_132_5, q_132_6, q_132_9, q_132_10, q_132_13, q_132_14, q_132_15, q_132_16, q_132_17, q_132_18, q_132_21, q_132_24, q_132_25, vinT, iClamp, clr_i, clr_l, clr_r, clr_n, true_and, and_true, or_true, true_or, false_or, or_false, iLe, iLt, iEq, iAdd, iMul, List.cons_append, List.nil_append, List.append_nil, zb0, zb1, if_true, if_false, not_true_eq_false, not_false_eq_true, Bool.false_eq_true, Nat.one_ne_zero, Nat.zero_ne_one, Nat.reduceEqDiff, Nat.reduceAdd, if_pos, if_neg, i2L, lNe0, lDiv, hfq, lAdd]
    rw [ih (j + 1) _ (by omega), smF, Nat.add_assoc]
theorem s_fallM {X : Nat × (Nat → Int32)} {σ : Mem} {Q : List Value → Mem → Prop} {n : Nat} {u1 u2 u3 : Value} (hn : n ≤ 7) : Rn X 132 0 [.int (nI n), u1, u2, u3] [] σ Q ↔ Q [.long (lN (smF fq 0 n))] σ := by
  have h := l_fallM (X := X) (σ := σ) (Q := Q) hn n 0 0 (by omega)
  rw [Nat.zero_add] at h
  simp only [q_132_0, q_132_1, q_132_2, q_132_3, clr_i, clr_n, h, Nat.zero_add]
theorem fall_ex : ∀ n, n ≤ 7 → ∀ j, j < n → (182761425 * fq j / smF fq 0 n) * smF fq 0 n = 182761425 * fq j ∧ 0 < smF fq 0 n ∧ smF fq 0 n ≤ 2000 ∧ fq j ≤ 1000 := by decide
theorem first_ex : ∀ n, n ≤ 7 → 1 < n → ∀ j, j < n → fsU n j * (if j = 0 then 2 else 2 * (n - 1)) = 120 := by decide
theorem even_ex : ∀ n, n ≤ 7 → 0 < n → 420 / n * n = 420 := by decide
theorem puX_nin {l : List Nat} {w : Nat → Nat} {h : Nat → Nat → Nat} {way : Nat} {x : Int32} (hx : ¬ inR x l.length) : puX l w h way x = 0 := by
  unfold puX
  by_cases c1 : x < nI 0
  · rw [if_pos c1]
  · rw [if_neg c1]
    by_cases c2 : nI l.length ≤ x
    · rw [if_pos c2]
    · exact absurd ⟨Int32.not_lt.mp c1, Int32.not_le.mp c2⟩ hx
theorem s_worthM {X : Nat × (Nat → Int32)} {σ : Mem} {a : AS} {p way : Nat} {x : Int32} {v : Value} (ok : AOK a) (h : MI σ a) (hp : p < 8) (hw : way < 5) : ∃ σ' U D, Ev X 133 [.ref 127, .int (nI p), .int (nI way), .int x, v] σ [] σ' ∧ σ'.2 127 11 = lN U ∧ σ'.2 127 12 = lN D ∧ U * uN way = puX (ro a p) (wt a p) (hr a p) way x * D ∧ (0 < D ∧ D ≤ 2000 ∧ U ≤ 1000) ∧ Off [127, 134] σ σ' := by
  obtain ⟨m1, m2, m3, m4, m5, m6, m7, m8, m9, m10⟩ := id h
  obtain ⟨o1, o2, o3, o4, o5, o6, o7, o8⟩ := ok.1 p hp
  have q5 := m5 p hp
  have ho : Off [127, 134] σ (sL (sL σ 127 11 (lN 1)) 127 12 (lN 1)) := ((Off.rf _ σ).sL (by simp) _ _).sL (by simp) _ _
  by_cases c : inR x (ro a p).length
  · have ei : b2 (inR x (ro a p).length) = nI 1 := b2_t c
    obtain ⟨j, hj, rfl⟩ := inR_of c (by omega)
    rw [puX_in hj o6]
    have e : way = 0 ∨ way = 1 ∨ way = 2 ∨ way = 3 ∨ way = 4 := by omega
    rcases e with rfl | rfl | rfl | rfl | rfl
    · refine ⟨_, 1, 1, fun Q => ?_, ?_, ?_, by simp [puN, uN], by omega, ho⟩
      · simp (disch := omega) only [q_133_0, q_133_1, q_133_4, q_133_5, q_133_6, q_133_8, q_133_9, q_133_10, q_133_13, q_133_14, q_133_15, q_133_18, q_133_19, q_133_20, q_133_21, q_133_23, q_133_24, q_133_25, q_133_26, q_133_29, q_133_32, q_133_33, q_133_34, q_133_37, q_133_40, q_133_41, q_133_42, q_133_45, q_133_46, q_133_48, q_133_49, q_133_52, q_133_55, q_133_56, q_133_57, q_133_60, q_133_62, q_133_63, q_133_66, q_133_67, q_133_68, q_133_71, q_133_74, q_133_77, q_133_80, q_133_82, q_133_83, q_133_84, q_133_85, q_133_86, q_133_89, q_133_92, q_133_93, q_133_94, q_133_97, q_133_98, q_133_101, q_133_102, q_133_103, q_133_104, q_133_105, q_133_106, q_133_109, q_133_110, q_133_112, q_133_115, q_133_118, q_133_121, q_133_122, q_133_123, q_133_126, q_133_127, q_133_128, q_133_131, q_133_132, q_133_135, q_133_136, q_133_139, q_133_140, q_133_143, q_133_145, q_133_146, q_133_147, q_133_148, q_133_149, q_133_150, q_133_151, q_133_152, q_133_153, q_133_156, q_133_157, q_133_160, q_133_161, q_133_164, q_133_167, vinT, iClamp, clr_i, clr_l, clr_r, clr_n, true_and, and_true, or_true, true_or, false_or, or_false, iLe, iLt, iEq, iAdd, iMul, List.cons_append, List.nil_append, List.append_nil, zb0, zb1, if_true, if_false, not_true_eq_false, not_false_eq_true, Bool.false_eq_true, Nat.one_ne_zero, Nat.zero_ne_one, Nat.reduceEqDiff, Nat.reduceAdd, if_pos, if_neg, m127, m128k, m128n, m129k, m129n, m130k, m130n, m131k, m131n, m132k, m132n, m133k, m133n, m134k, m134n, m135k, m135n, m136k, m136n, m137k, m137n, m138k, m138n, m139k, m139n, m140k, m140n, m141k, m141n, m142k, m142n, m143k, m143n, m144k, m144n, m145k, m145n, m146k, m146n, q5, s_inL, ei, sL_fst]
      · rw [sL_off (by omega), sL_at]
      · rw [sL_at]
    · have hx := even_ex (ro a p).length o6 (by omega)
      refine ⟨sL (sL (sL σ 127 11 (lN 1)) 127 12 (lN 1)) 127 12 (lN (ro a p).length), 1, (ro a p).length, fun Q => ?_, ?_, ?_, ?_, by omega, ho.sL (by simp) _ _⟩
      · simp (disch := omega) only [q_133_0, q_133_1, q_133_4, q_133_5, q_133_6, q_133_8, q_133_9, q_133_10, q_133_13, q_133_14, q_133_15, q_133_18, q_133_19, q_133_20, q_133_21, q_133_23, q_133_24, q_133_25, q_133_26, q_133_29, q_133_32, q_133_33, q_133_34, q_133_37, vinT, iClamp, clr_i, clr_l, clr_r, clr_n, true_and, and_true, or_true, true_or, false_or, or_false, iLe, iLt, iEq, iAdd, iMul, List.cons_append, List.nil_append, List.append_nil, zb0, zb1, if_true, if_false, not_true_eq_false, not_false_eq_true, Bool.false_eq_true, Nat.one_ne_zero, Nat.zero_ne_one, Nat.reduceEqDiff, Nat.reduceAdd, if_pos, if_neg, m127, m128k, m128n, m129k, m129n, m130k, m130n, m131k, m131n, m132k, m132n, m133k, m133n, m134k, m134n, m135k, m135n, m136k, m136n, m137k, m137n, m138k, m138n, m139k, m139n, m140k, m140n, m141k, m141n, m142k, m142n, m143k, m143n, m144k, m144n, m145k, m145n, m146k, m146n, q5, s_inL, ei, sL_fst]
        simp (disch := omega) only [q_133_40, q_133_41, q_133_42, q_133_45, q_133_46, q_133_48, q_133_49, q_133_52, q_133_55, q_133_56, q_133_57, q_133_60, q_133_62, q_133_63, q_133_66, q_133_67, q_133_68, q_133_71, q_133_74, q_133_77, q_133_80, q_133_82, q_133_83, q_133_84, q_133_85, q_133_86, q_133_89, q_133_92, q_133_93, q_133_94, q_133_97, q_133_98, q_133_101, q_133_102, q_133_103, q_133_104, q_133_105, q_133_106, q_133_109, q_133_110, q_133_112, q_133_115, q_133_118, q_133_121, q_133_122, q_133_123, q_133_126, q_133_127, q_133_128, q_133_131, q_133_132, q_133_135, q_133_136, q_133_139, q_133_140, q_133_143, q_133_145, q_133_146, q_133_147, q_133_148, q_133_149, q_133_150, q_133_151, q_133_152, q_133_153, q_133_156, q_133_157, q_133_160, q_133_161, q_133_164, q_133_167, vinT, iClamp, clr_i, clr_l, clr_r, clr_n, true_and, and_true, or_true, true_or, false_or, or_false, iLe, iLt, iEq, iAdd, iMul, List.cons_append, List.nil_append, List.append_nil, zb0, zb1, if_true, if_false, not_true_eq_false, not_false_eq_true, Bool.false_eq_true, Nat.one_ne_zero, Nat.zero_ne_one, Nat.reduceEqDiff, Nat.reduceAdd, if_pos, if_neg, m127, m128k, m128n, m129k, m129n, m130k, m130n, m131k, m131n, m132k, m132n, m133k, m133n, m134k, m134n, m135k, m135n, m136k, m136n, m137k, m137n, m138k, m138n, m139k, m139n, m140k, m140n, m141k, m141n, m142k, m142n, m143k, m143n, m144k, m144n, m145k, m145n, m146k, m146n, q5, sL_fst, i2L]
      · rw [sL_off (by omega), sL_off (by omega), sL_at]
      · rw [sL_at]
      · show 1 * 420 = 420 / (ro a p).length * (ro a p).length
        omega
    · by_cases c1 : 1 < (ro a p).length
      · have hx := first_ex (ro a p).length o6 c1 j hj
        by_cases c2 : j = 0
        · refine ⟨sL (sL (sL σ 127 11 (lN 1)) 127 12 (lN 1)) 127 12 (lN 2), 1, 2, fun Q => ?_, ?_, ?_, ?_, by omega, ho.sL (by simp) _ _⟩
          · simp (disch := omega) only [q_133_0, q_133_1, q_133_4, q_133_5, q_133_6, q_133_8, q_133_9, q_133_10, q_133_13, q_133_14, q_133_15, q_133_18, q_133_19, q_133_20, q_133_21, q_133_23, q_133_24, q_133_25, q_133_26, q_133_29, q_133_32, q_133_33, q_133_34, q_133_37, vinT, iClamp, clr_i, clr_l, clr_r, clr_n, true_and, and_true, or_true, true_or, false_or, or_false, iLe, iLt, iEq, iAdd, iMul, List.cons_append, List.nil_append, List.append_nil, zb0, zb1, if_true, if_false, not_true_eq_false, not_false_eq_true, Bool.false_eq_true, Nat.one_ne_zero, Nat.zero_ne_one, Nat.reduceEqDiff, Nat.reduceAdd, if_pos, if_neg, m127, m128k, m128n, m129k, m129n, m130k, m130n, m131k, m131n, m132k, m132n, m133k, m133n, m134k, m134n, m135k, m135n, m136k, m136n, m137k, m137n, m138k, m138n, m139k, m139n, m140k, m140n, m141k, m141n, m142k, m142n, m143k, m143n, m144k, m144n, m145k, m145n, m146k, m146n, q5, s_inL, ei, sL_fst]
            simp (disch := omega) only [q_133_40, q_133_41, q_133_42, q_133_45, q_133_46, q_133_48, q_133_49, q_133_52, q_133_55, q_133_56, q_133_57, q_133_60, q_133_62, q_133_63, q_133_66, q_133_67, q_133_68, q_133_71, q_133_74, q_133_77, q_133_80, q_133_82, q_133_83, q_133_84, q_133_85, q_133_86, q_133_89, q_133_92, q_133_93, q_133_94, q_133_97, q_133_98, q_133_101, q_133_102, q_133_103, q_133_104, q_133_105, q_133_106, q_133_109, q_133_110, q_133_112, q_133_115, q_133_118, q_133_121, q_133_122, q_133_123, q_133_126, q_133_127, q_133_128, q_133_131, q_133_132, q_133_135, q_133_136, q_133_139, q_133_140, q_133_143, q_133_145, q_133_146, q_133_147, q_133_148, q_133_149, q_133_150, q_133_151, q_133_152, q_133_153, q_133_156, q_133_157, q_133_160, q_133_161, q_133_164, q_133_167, vinT, iClamp, clr_i, clr_l, clr_r, clr_n, true_and, and_true, or_true, true_or, false_or, or_false, iLe, iLt, iEq, iAdd, iMul, List.cons_append, List.nil_append, List.append_nil, zb0, zb1, if_true, if_false, not_true_eq_false, not_false_eq_true, Bool.false_eq_true, Nat.one_ne_zero, Nat.zero_ne_one, Nat.reduceEqDiff, Nat.reduceAdd, if_pos, if_neg, m127, m128k, m128n, m129k, m129n, m130k, m130n, m131k, m131n, m132k, m132n, m133k, m133n, m134k, m134n, m135k, m135n, m136k, m136n, m137k, m137n, m138k, m138n, m139k, m139n, m140k, m140n, m141k, m141n, m142k, m142n, m143k, m143n, m144k, m144n, m145k, m145n, m146k, m146n, q5, sL_fst, i2L]
          · rw [sL_off (by omega), sL_off (by omega), sL_at]
          · rw [sL_at]
          · rw [if_pos c2] at hx
            show 1 * 120 = fsU (ro a p).length j * 2
            omega
        · refine ⟨sL (sL (sL σ 127 11 (lN 1)) 127 12 (lN 1)) 127 12 (lN (2 * ((ro a p).length - 1))), 1, 2 * ((ro a p).length - 1), fun Q => ?_, ?_, ?_, ?_, by omega, ho.sL (by simp) _ _⟩
          · simp (disch := omega) only [q_133_0, q_133_1, q_133_4, q_133_5, q_133_6, q_133_8, q_133_9, q_133_10, q_133_13, q_133_14, q_133_15, q_133_18, q_133_19, q_133_20, q_133_21, q_133_23, q_133_24, q_133_25, q_133_26, q_133_29, q_133_32, q_133_33, q_133_34, q_133_37, vinT, iClamp, clr_i, clr_l, clr_r, clr_n, true_and, and_true, or_true, true_or, false_or, or_false, iLe, iLt, iEq, iAdd, iMul, List.cons_append, List.nil_append, List.append_nil, zb0, zb1, if_true, if_false, not_true_eq_false, not_false_eq_true, Bool.false_eq_true, Nat.one_ne_zero, Nat.zero_ne_one, Nat.reduceEqDiff, Nat.reduceAdd, if_pos, if_neg, m127, m128k, m128n, m129k, m129n, m130k, m130n, m131k, m131n, m132k, m132n, m133k, m133n, m134k, m134n, m135k, m135n, m136k, m136n, m137k, m137n, m138k, m138n, m139k, m139n, m140k, m140n, m141k, m141n, m142k, m142n, m143k, m143n, m144k, m144n, m145k, m145n, m146k, m146n, q5, s_inL, ei, sL_fst]
            simp (disch := omega) only [q_133_40, q_133_41, q_133_42, q_133_45, q_133_46, q_133_48, q_133_49, q_133_52, q_133_55, q_133_56, q_133_57, q_133_60, q_133_62, q_133_63, q_133_66, q_133_67, q_133_68, q_133_71, q_133_74, q_133_77, q_133_80, q_133_82, q_133_83, q_133_84, q_133_85, q_133_86, q_133_89, q_133_92, q_133_93, q_133_94, q_133_97, q_133_98, q_133_101, q_133_102, q_133_103, q_133_104, q_133_105, q_133_106, q_133_109, q_133_110, q_133_112, q_133_115, q_133_118, q_133_121, q_133_122, q_133_123, q_133_126, q_133_127, q_133_128, q_133_131, q_133_132, q_133_135, q_133_136, q_133_139, q_133_140, q_133_143, q_133_145, q_133_146, q_133_147, q_133_148, q_133_149, q_133_150, q_133_151, q_133_152, q_133_153, q_133_156, q_133_157, q_133_160, q_133_161, q_133_164, q_133_167, vinT, iClamp, clr_i, clr_l, clr_r, clr_n, true_and, and_true, or_true, true_or, false_or, or_false, iLe, iLt, iEq, iAdd, iMul, List.cons_append, List.nil_append, List.append_nil, zb0, zb1, if_true, if_false, not_true_eq_false, not_false_eq_true, Bool.false_eq_true, Nat.one_ne_zero, Nat.zero_ne_one, Nat.reduceEqDiff, Nat.reduceAdd, if_pos, if_neg, m127, m128k, m128n, m129k, m129n, m130k, m130n, m131k, m131n, m132k, m132n, m133k, m133n, m134k, m134n, m135k, m135n, m136k, m136n, m137k, m137n, m138k, m138n, m139k, m139n, m140k, m140n, m141k, m141n, m142k, m142n, m143k, m143n, m144k, m144n, m145k, m145n, m146k, m146n, q5, sL_fst, iSub, i2L, lMul]
          · rw [sL_off (by omega), sL_off (by omega), sL_at]
          · rw [sL_at]
          · rw [if_neg c2] at hx
            show 1 * 120 = fsU (ro a p).length j * (2 * ((ro a p).length - 1))
            omega
      · refine ⟨_, 1, 1, fun Q => ?_, ?_, ?_, ?_, by omega, ho⟩
        · simp (disch := omega) only [q_133_0, q_133_1, q_133_4, q_133_5, q_133_6, q_133_8, q_133_9, q_133_10, q_133_13, q_133_14, q_133_15, q_133_18, q_133_19, q_133_20, q_133_21, q_133_23, q_133_24, q_133_25, q_133_26, q_133_29, q_133_32, q_133_33, q_133_34, q_133_37, q_133_40, q_133_41, q_133_42, q_133_45, q_133_46, q_133_48, q_133_49, q_133_52, q_133_55, q_133_56, q_133_57, q_133_60, q_133_62, q_133_63, q_133_66, q_133_67, q_133_68, q_133_71, q_133_74, q_133_77, q_133_80, q_133_82, q_133_83, q_133_84, q_133_85, q_133_86, q_133_89, q_133_92, q_133_93, q_133_94, q_133_97, q_133_98, q_133_101, q_133_102, q_133_103, q_133_104, q_133_105, q_133_106, q_133_109, q_133_110, q_133_112, q_133_115, q_133_118, q_133_121, q_133_122, q_133_123, q_133_126, q_133_127, q_133_128, q_133_131, q_133_132, q_133_135, q_133_136, q_133_139, q_133_140, q_133_143, q_133_145, q_133_146, q_133_147, q_133_148, q_133_149, q_133_150, q_133_151, q_133_152, q_133_153, q_133_156, q_133_157, q_133_160, q_133_161, q_133_164, q_133_167, vinT, iClamp, clr_i, clr_l, clr_r, clr_n, true_and, and_true, or_true, true_or, false_or, or_false, iLe, iLt, iEq, iAdd, iMul, List.cons_append, List.nil_append, List.append_nil, zb0, zb1, if_true, if_false, not_true_eq_false, not_false_eq_true, Bool.false_eq_true, Nat.one_ne_zero, Nat.zero_ne_one, Nat.reduceEqDiff, Nat.reduceAdd, if_pos, if_neg, m127, m128k, m128n, m129k, m129n, m130k, m130n, m131k, m131n, m132k, m132n, m133k, m133n, m134k, m134n, m135k, m135n, m136k, m136n, m137k, m137n, m138k, m138n, m139k, m139n, m140k, m140n, m141k, m141n, m142k, m142n, m143k, m143n, m144k, m144n, m145k, m145n, m146k, m146n, q5, s_inL, ei, sL_fst]
        · rw [sL_off (by omega), sL_at]
        · rw [sL_at]
        · show 1 * 120 = fsU (ro a p).length j * 1
          rw [fsU, if_pos (by omega)]
    · obtain ⟨x1, x2, x3, x4⟩ := fall_ex (ro a p).length o6 j hj
      have hfq : (420 : Nat) / (j + 1) = fq j := rfl
      refine ⟨sL (sL (sL (sL σ 127 11 (lN 1)) 127 12 (lN 1)) 127 11 (lN (fq j))) 127 12 (lN (smF fq 0 (ro a p).length)), fq j, smF fq 0 (ro a p).length, fun Q => ?_, ?_, ?_, ?_, ⟨x2, x3, x4⟩, (ho.sL (by simp) _ _).sL (by simp) _ _⟩
      · simp (disch := omega) only [q_133_0, q_133_1, q_133_4, q_133_5, q_133_6, q_133_8, q_133_9, q_133_10, q_133_13, q_133_14, q_133_15, q_133_18, q_133_19, q_133_20, q_133_21, q_133_23, q_133_24, q_133_25, q_133_26, q_133_29, q_133_32, q_133_33, q_133_34, q_133_37, vinT, iClamp, clr_i, clr_l, clr_r, clr_n, true_and, and_true, or_true, true_or, false_or, or_false, iLe, iLt, iEq, iAdd, iMul, List.cons_append, List.nil_append, List.append_nil, zb0, zb1, if_true, if_false, not_true_eq_false, not_false_eq_true, Bool.false_eq_true, Nat.one_ne_zero, Nat.zero_ne_one, Nat.reduceEqDiff, Nat.reduceAdd, if_pos, if_neg, m127, m128k, m128n, m129k, m129n, m130k, m130n, m131k, m131n, m132k, m132n, m133k, m133n, m134k, m134n, m135k, m135n, m136k, m136n, m137k, m137n, m138k, m138n, m139k, m139n, m140k, m140n, m141k, m141n, m142k, m142n, m143k, m143n, m144k, m144n, m145k, m145n, m146k, m146n, q5, s_inL, ei, sL_fst]
        simp (disch := omega) only [q_133_40, q_133_41, q_133_42, q_133_45, q_133_46, q_133_48, q_133_49, q_133_52, q_133_55, q_133_56, q_133_57, q_133_60, q_133_62, q_133_63, q_133_66, q_133_67, q_133_68, q_133_71, q_133_74, q_133_77, q_133_80, q_133_82, q_133_83, q_133_84, q_133_85, q_133_86, q_133_89, q_133_92, q_133_93, q_133_94, q_133_97, q_133_98, q_133_101, q_133_102, q_133_103, q_133_104, q_133_105, q_133_106, q_133_109, q_133_110, q_133_112, q_133_115, q_133_118, q_133_121, q_133_122, q_133_123, q_133_126, q_133_127, q_133_128, q_133_131, q_133_132, q_133_135, q_133_136, q_133_139, q_133_140, q_133_143, q_133_145, q_133_146, q_133_147, q_133_148, q_133_149, q_133_150, q_133_151, q_133_152, q_133_153, q_133_156, q_133_157, q_133_160, q_133_161, q_133_164, q_133_167, vinT, iClamp, clr_i, clr_l, clr_r, clr_n, true_and, and_true, or_true, true_or, false_or, or_false, iLe, iLt, iEq, iAdd, iMul, List.cons_append, List.nil_append, List.append_nil, zb0, zb1, if_true, if_false, not_true_eq_false, not_false_eq_true, Bool.false_eq_true, Nat.one_ne_zero, Nat.zero_ne_one, Nat.reduceEqDiff, Nat.reduceAdd, if_pos, if_neg, m127, m128k, m128n, m129k, m129n, m130k, m130n, m131k, m131n, m132k, m132n, m133k, m133n, m134k, m134n, m135k, m135n, m136k, m136n, m137k, m137n, m138k, m138n, m139k, m139n, m140k, m140n, m141k, m141n, m142k, m142n, m143k, m143n, m144k, m144n, m145k, m145n, m146k, m146n, q5, sL_fst, i2L, lNe0, lDiv, hfq, s_fallM o6]
      · rw [sL_off (by omega), sL_at]
      · rw [sL_at]
      · show fq j * 182761425 = 182761425 * fq j / smF fq 0 (ro a p).length * smF fq 0 (ro a p).length
        rw [x1, Nat.mul_comm]
    · have hj7 := o7 j hj
      have q6 := m6 p hp j hj
      obtain ⟨z1, z2, z3⟩ := pt_le ok hp hj7
      have z4 := ptL_wh (w := wt a p) (h := hr a p) hj7
      have h1 := MI_scr h (ho.mono (by decide))
      obtain ⟨σ1, i1, i2, i3, i4, i5⟩ := s_layM (X := X) (u1 := .null) (u2 := .null) (u3 := .null) (u4 := .null) (u5 := .null) ok h1 hp
      have i1' := fun Q => i1 Q
      have q6' : σ1.1 133 (7 * p + j) = nI ((ro a p).getD j 0) := by rw [i5]; exact q6
      have hle : 1000 * ptL (wt a p) (hr a p) ((ro a p).getD j 0) 4 / whL (wt a p) (hr a p) ≤ 1000 := Nat.div_le_of_le_mul (by rw [Nat.mul_comm]; exact Nat.mul_le_mul_right _ z4)
      have i21 := i2.1
      have i22 := i2.2 _ hj7
      refine ⟨sL (sL σ1 127 11 (lN (1000 * ptL (wt a p) (hr a p) ((ro a p).getD j 0) 4 / whL (wt a p) (hr a p)))) 127 12 (lN 1000), 1000 * ptL (wt a p) (hr a p) ((ro a p).getD j 0) 4 / whL (wt a p) (hr a p), 1000, fun Q => ?_, ?_, ?_, ?_, ⟨by omega, by omega, hle⟩, ((ho.tr i3).sL (by simp) _ _).sL (by simp) _ _⟩
      · simp (disch := omega) only [q_133_0, q_133_1, q_133_4, q_133_5, q_133_6, q_133_8, q_133_9, q_133_10, q_133_13, q_133_14, q_133_15, q_133_18, q_133_19, q_133_20, q_133_21, q_133_23, q_133_24, q_133_25, q_133_26, q_133_29, q_133_32, q_133_33, q_133_34, q_133_37, q_133_40, q_133_41, q_133_42, q_133_45, q_133_46, q_133_48, q_133_49, q_133_52, q_133_55, q_133_56, q_133_57, q_133_60, q_133_62, q_133_63, q_133_66, q_133_67, q_133_68, q_133_71, q_133_74, q_133_77, q_133_80, q_133_82, q_133_83, q_133_84, q_133_85, q_133_86, q_133_89, q_133_92, q_133_93, q_133_94, q_133_97, q_133_98, q_133_101, q_133_102, q_133_103, q_133_104, q_133_105, q_133_106, q_133_109, q_133_110, q_133_112, q_133_115, q_133_118, q_133_121, q_133_122, q_133_123, q_133_126, q_133_127, q_133_128, q_133_131, q_133_132, q_133_135, q_133_136, q_133_139, q_133_140, q_133_143, q_133_145, q_133_146, q_133_147, q_133_148, q_133_149, q_133_150, q_133_151, q_133_152, q_133_153, q_133_156, q_133_157, q_133_160, q_133_161, q_133_164, q_133_167, vinT, iClamp, clr_i, clr_l, clr_r, clr_n, true_and, and_true, or_true, true_or, false_or, or_false, iLe, iLt, iEq, iAdd, iMul, List.cons_append, List.nil_append, List.append_nil, zb0, zb1, if_true, if_false, not_true_eq_false, not_false_eq_true, Bool.false_eq_true, Nat.one_ne_zero, Nat.zero_ne_one, Nat.reduceEqDiff, Nat.reduceAdd, if_pos, if_neg, m127, m128k, m128n, m129k, m129n, m130k, m130n, m131k, m131n, m132k, m132n, m133k, m133n, m134k, m134n, m135k, m135n, m136k, m136n, m137k, m137n, m138k, m138n, m139k, m139n, m140k, m140n, m141k, m141n, m142k, m142n, m143k, m143n, m144k, m144n, m145k, m145n, m146k, m146n, q5, s_inL, ei, sL_fst, i1', q6', i21, i22, lMul, lNe0, lDiv]
      · rw [sL_off (by omega), sL_at]
      · rw [sL_at]
      · show 1000 * ptL (wt a p) (hr a p) ((ro a p).getD j 0) 4 / whL (wt a p) (hr a p) * 1000 = ptL (wt a p) (hr a p) ((ro a p).getD j 0) 4 * 1000 / whL (wt a p) (hr a p) * 1000
        rw [Nat.mul_comm 1000]
  · have ei : b2 (inR x (ro a p).length) = nI 0 := b2_f c
    rw [puX_nin c]
    refine ⟨sL (sL (sL σ 127 11 (lN 1)) 127 12 (lN 1)) 127 11 (lN 0), 0, 1, fun Q => ?_, ?_, ?_, by simp, by omega, ho.sL (by simp) _ _⟩
    · simp (disch := omega) only [q_133_0, q_133_1, q_133_4, q_133_5, q_133_6, q_133_8, q_133_9, q_133_10, q_133_13, q_133_14, q_133_15, q_133_18, q_133_19, q_133_20, q_133_21, q_133_23, q_133_24, q_133_25, q_133_26, q_133_29, q_133_32, q_133_33, q_133_34, q_133_37, q_133_40, q_133_41, q_133_42, q_133_45, q_133_46, q_133_48, q_133_49, q_133_52, q_133_55, q_133_56, q_133_57, q_133_60, q_133_62, q_133_63, q_133_66, q_133_67, q_133_68, q_133_71, q_133_74, q_133_77, q_133_80, q_133_82, q_133_83, q_133_84, q_133_85, q_133_86, q_133_89, q_133_92, q_133_93, q_133_94, q_133_97, q_133_98, q_133_101, q_133_102, q_133_103, q_133_104, q_133_105, q_133_106, q_133_109, q_133_110, q_133_112, q_133_115, q_133_118, q_133_121, q_133_122, q_133_123, q_133_126, q_133_127, q_133_128, q_133_131, q_133_132, q_133_135, q_133_136, q_133_139, q_133_140, q_133_143, q_133_145, q_133_146, q_133_147, q_133_148, q_133_149, q_133_150, q_133_151, q_133_152, q_133_153, q_133_156, q_133_157, q_133_160, q_133_161, q_133_164, q_133_167, vinT, iClamp, clr_i, clr_l, clr_r, clr_n, true_and, and_true, or_true, true_or, false_or, or_false, iLe, iLt, iEq, iAdd, iMul, List.cons_append, List.nil_append, List.append_nil, zb0, zb1, if_true, if_false, not_true_eq_false, not_false_eq_true, Bool.false_eq_true, Nat.one_ne_zero, Nat.zero_ne_one, Nat.reduceEqDiff, Nat.reduceAdd, if_pos, if_neg, m127, m128k, m128n, m129k, m129n, m130k, m130n, m131k, m131n, m132k, m132n, m133k, m133n, m134k, m134n, m135k, m135n, m136k, m136n, m137k, m137n, m138k, m138n, m139k, m139n, m140k, m140n, m141k, m141n, m142k, m142n, m143k, m143n, m144k, m144n, m145k, m145n, m146k, m146n, q5, s_inL, ei, sL_fst]
    · rw [sL_at]
    · rw [sL_off (by omega), sL_at]
/-! scores -/
theorem tI_1 (a b : Nat) : tI a b 1 = a / Nat.gcd a b := by rw [tI, if_pos rfl]
theorem tI_0 (a b : Nat) : tI a b 0 = b / Nat.gcd a b := by rw [tI, if_neg (by omega)]
theorem score_add {s u U U1 D1 : Nat} (hU : 0 < U) (e : U1 * U = u * D1) (hD : 0 < D1) : ∀ w, tI (tI s U 1 * D1 + U1 * tI s U 0) (tI s U 0 * D1) w = tI (s + u) U w := fun w => by
  obtain ⟨p1, p2, p3⟩ := tI_pos (a := s) hU
  refine tI_cross (Nat.mul_pos p1 hD) hU ?_
  have h := tI_mul (a := s) hU
  rw [Nat.add_mul, Nat.mul_right_comm, h, Nat.mul_right_comm U1, e, Nat.add_mul, Nat.mul_right_comm u, Nat.mul_assoc, Nat.mul_assoc u]
theorem scP_9 {a : AS} {q way p : Nat} (c : plF (rF (ro a p)) (nI q) 0 (ro a p).length = -9) : scP a q way p = 0 := by
  rw [scP, c, puX, if_pos (by decide)]
def SCw : List Nat := [127, 134, 138, 139]
theorem SCw_scr : ∀ b, b ∈ SCw → b ∈ SCM := by decide
theorem SCw_ge : ∀ b, b ∈ SCw → 127 ≤ b := by decide
theorem l_scoI {X : Nat × (Nat → Int32)} {a : AS} {q way : Nat} (ok : AOK a) (hq : q < 7) (hw : way < 5) : ∀ n p s (σ : Mem) (v4 v5 v6 v7 v8 v9 v10 : Value), MI σ a → p + n = 8 → s ≤ p * uN way → σ.2 138 q = lN (tI s (uN way) 1) → σ.2 139 q = lN (tI s (uN way) 0) → ∃ σ' w4 w5 w6 w7 w8 w9 w10, (∀ Q, Rn X 135 24 [.ref 127, .int (nI way), .int (nI q), .int (nI p), v4, v5, v6, v7, v8, v9, v10] [] σ Q ↔ Rn X 135 128 [.ref 127, .int (nI way), .int (nI q), .int (nI 8), w4, w5, w6, w7, w8, w9, w10] [] σ' Q) ∧ σ'.2 138 q = lN (tI (s + smF (scP a q way) p n) (uN way) 1) ∧ σ'.2 139 q = lN (tI (s + smF (scP a q way) p n) (uN way) 0) ∧ (∀ j, j ≠ q → σ'.2 138 j = σ.2 138 j ∧ σ'.2 139 j = σ.2 139 j) ∧ Off SCw σ σ' := by
  obtain ⟨u1, u2, u3⟩ := uN_v way hw
  intro n
  induction n with
  | zero =>
    intro p s σ v4 v5 v6 v7 v8 v9 v10 h hpn hs h1 h2
    have e : p = 8 := by omega
    subst e
    refine ⟨σ, v4, v5, v6, v7, v8, v9, v10, fun Q => ?_, h1, h2, fun _ _ => ⟨rfl, rfl⟩, Off.rf _ _⟩
    rw [q_135_24]
    simp (disch := omega) only [q_135_25, q_135_27, q_135_30, q_135_31, q_135_32, q_135_33, q_135_36, q_135_38, q_135_40, q_135_42, q_135_45, q_135_46, q_135_47, q_135_48, q_135_50, q_135_53, q_135_54, q_135_57, q_135_58, q_135_59, q_135_60, q_135_63, q_135_64, q_135_65, q_135_68, q_135_69, q_135_72, q_135_73, q_135_74, q_135_75, q_135_76, q_135_78, q_135_79, q_135_82, q_135_83, q_135_84, q_135_85, q_135_88, q_135_89, q_135_91, q_135_93, q_135_95, q_135_98, q_135_100, q_135_101, q_135_104, q_135_105, q_135_107, q_135_109, q_135_110, q_135_111, q_135_112, q_135_115, q_135_116, q_135_118, q_135_120, q_135_121, q_135_122, q_135_125, vinT, iClamp, clr_i, clr_l, clr_r, clr_n, true_and, and_true, or_true, true_or, false_or, or_false, iLe, iLt, iEq, iAdd, iMul, List.cons_append, List.nil_append, List.append_nil, zb0, zb1, if_true, if_false, not_true_eq_false, not_false_eq_true, Bool.false_eq_true, Nat.one_ne_zero, Nat.zero_ne_one, Nat.reduceEqDiff, Nat.reduceAdd, if_pos, if_neg]
  | succ n ih =>
    intro p s σ v4 v5 v6 v7 v8 v9 v10 h hpn hs h1 h2
    have hp : p < 8 := by omega
    obtain ⟨o1, o2, o3, o4, o5, o6, o7, o8⟩ := ok.1 p hp
    rw [smF, ← Nat.add_assoc]
    have hle : scP a q way p ≤ uN way := puX_le hw o6 o7 o3
    have hs2 : s + scP a q way p ≤ (p + 1) * uN way := by rw [Nat.succ_mul]; omega
    by_cases c : plF (rF (ro a p)) (nI q) 0 (ro a p).length = -9
    · have e0 := scP_9 (way := way) c
      obtain ⟨σ', w4, w5, w6, w7, w8, w9, w10, i1, i2⟩ := ih (p + 1) (s + scP a q way p) σ (.int (-9)) v5 v6 v7 v8 v9 v10 h (by omega) hs2 (by rw [e0, Nat.add_zero]; exact h1) (by rw [e0, Nat.add_zero]; exact h2)
      refine ⟨σ', w4, w5, w6, w7, w8, w9, w10, fun Q => ?_, i2⟩
      rw [q_135_24]
      simp (disch := omega) only [q_135_25, q_135_27, q_135_30, q_135_31, q_135_32, q_135_33, q_135_36, q_135_38, q_135_40, q_135_42, q_135_45, q_135_46, q_135_47, q_135_48, q_135_50, q_135_53, q_135_54, q_135_57, q_135_58, q_135_59, q_135_60, q_135_63, q_135_64, q_135_65, q_135_68, q_135_69, q_135_72, q_135_73, q_135_74, q_135_75, q_135_76, q_135_78, q_135_79, q_135_82, q_135_83, q_135_84, q_135_85, q_135_88, q_135_89, q_135_91, q_135_93, q_135_95, q_135_98, q_135_100, q_135_101, q_135_104, q_135_105, q_135_107, q_135_109, q_135_110, q_135_111, q_135_112, q_135_115, q_135_116, q_135_118, q_135_120, q_135_121, q_135_122, q_135_125, vinT, iClamp, clr_i, clr_l, clr_r, clr_n, true_and, and_true, or_true, true_or, false_or, or_false, iLe, iLt, iEq, iAdd, iMul, List.cons_append, List.nil_append, List.append_nil, zb0, zb1, if_true, if_false, not_true_eq_false, not_false_eq_true, Bool.false_eq_true, Nat.one_ne_zero, Nat.zero_ne_one, Nat.reduceEqDiff, Nat.reduceAdd, if_pos, if_neg, m127, m128k, m128n, m129k, m129n, m130k, m130n, m131k, m131n, m132k, m132n, m133k, m133n, m134k, m134n, m135k, m135n, m136k, m136n, m137k, m137n, m138k, m138n, m139k, m139n, m140k, m140n, m141k, m141n, m142k, m142n, m143k, m143n, m144k, m144n, m145k, m145n, m146k, m146n, s_placeM h hp o6, c]
      exact i1 Q
    · have esc : puX (ro a p) (wt a p) (hr a p) way (plF (rF (ro a p)) (nI q) 0 (ro a p).length) = scP a q way p := rfl
      obtain ⟨σ1, U1, D1, e1, e2, e3, e4, ⟨e5, e6, e7⟩, e8⟩ := s_worthM (X := X) (v := .null) (x := plF (rF (ro a p)) (nI q) 0 (ro a p).length) ok h hp hw
      have e1' := fun Q => e1 Q
      rw [esc] at e4
      have hsa := score_add (s := s) u2 e4 e5
      obtain ⟨p1, p2, p3⟩ := tI_pos (a := s) u2
      have hs3 : s ≤ 1462091400 := by
        have := uN_le way hw
        have h9 : p * uN way ≤ 8 * uN way := Nat.mul_le_mul_right _ (by omega)
        omega
      have b1 : tI s (uN way) 1 * D1 ≤ 1462091400 * 2000 := Nat.mul_le_mul (by omega) e6
      have b2 : U1 * tI s (uN way) 0 ≤ 1000 * 182761425 := Nat.mul_le_mul e7 (by omega)
      have b3 : tI s (uN way) 0 * D1 ≤ 182761425 * 2000 := Nat.mul_le_mul (by omega) e6
      have b4 : 0 < tI s (uN way) 0 * D1 := Nat.mul_pos p1 e5
      have hg : 0 < Nat.gcd (tI s (uN way) 1 * D1 + U1 * tI s (uN way) 0) (tI s (uN way) 0 * D1) := Nat.gcd_pos_of_pos_right _ b4
      have hgl : Nat.gcd (tI s (uN way) 1 * D1 + U1 * tI s (uN way) 0) (tI s (uN way) 0 * D1) ≤ tI s (uN way) 0 * D1 := Nat.gcd_le_right _ b4
      have f1 : σ1.2 138 q = lN (tI s (uN way) 1) := by rw [(e8 138 (by simp)).2]; exact h1
      have f2 : σ1.2 139 q = lN (tI s (uN way) 0) := by rw [(e8 139 (by simp)).2]; exact h2
      have hc := fun (Q : List Value → Mem → Prop) (v1 v3 u0 u1 u2 u3 u4 u5 : Value) => s_commonM (X := X) (σ := σ1) (Q := Q) (a := tI s (uN way) 1 * D1 + U1 * tI s (uN way) 0) (b := tI s (uN way) 0 * D1) (v1 := v1) (v3 := v3) (u0 := u0) (u1 := u1) (u2 := u2) (u3 := u3) (u4 := u4) (u5 := u5) (by omega) (by omega)
      have g1 : (tI s (uN way) 1 * D1 + U1 * tI s (uN way) 0) / Nat.gcd (tI s (uN way) 1 * D1 + U1 * tI s (uN way) 0) (tI s (uN way) 0 * D1) = tI (s + scP a q way p) (uN way) 1 := (tI_1 _ _).symm.trans (hsa 1)
      have g2 : (tI s (uN way) 0 * D1) / Nat.gcd (tI s (uN way) 1 * D1 + U1 * tI s (uN way) 0) (tI s (uN way) 0 * D1) = tI (s + scP a q way p) (uN way) 0 := (tI_0 _ _).symm.trans (hsa 0)
      have ho : Off SCw σ (sL (sL σ1 138 q (lN (tI (s + scP a q way p) (uN way) 1))) 139 q (lN (tI (s + scP a q way p) (uN way) 0))) := ((e8.mono (by decide)).sL (by decide) _ _).sL (by decide) _ _
      obtain ⟨σ', w4, w5, w6, w7, w8, w9, w10, i1, i2, i3, i4, i5⟩ := ih (p + 1) (s + scP a q way p) (sL (sL σ1 138 q (lN (tI (s + scP a q way p) (uN way) 1))) 139 q (lN (tI (s + scP a q way p) (uN way) 0))) (.int (plF (rF (ro a p)) (nI q) 0 (ro a p).length)) (.long (lN (tI s (uN way) 1 * D1 + U1 * tI s (uN way) 0))) .null (.long (lN (tI s (uN way) 0 * D1))) .null (.long (lN (Nat.gcd (tI s (uN way) 1 * D1 + U1 * tI s (uN way) 0) (tI s (uN way) 0 * D1)))) .null (MI_scr h (ho.mono SCw_scr)) (by omega) hs2 (by rw [sL_off (by omega), sL_at]) (by rw [sL_at])
      refine ⟨σ', w4, w5, w6, w7, w8, w9, w10, fun Q => ?_, i2, i3, fun j hj => ?_, ho.tr i5⟩
      · rw [q_135_24]
        simp (disch := omega) only [q_135_25, q_135_27, q_135_30, q_135_31, q_135_32, q_135_33, q_135_36, q_135_38, q_135_40, q_135_42, q_135_45, q_135_46, q_135_47, q_135_48, q_135_50, q_135_53, q_135_54, q_135_57, q_135_58, q_135_59, q_135_60, q_135_63, q_135_64, q_135_65, q_135_68, q_135_69, q_135_72, q_135_73, q_135_74, q_135_75, q_135_76, q_135_78, q_135_79, q_135_82, q_135_83, q_135_84, q_135_85, q_135_88, q_135_89, q_135_91, q_135_93, q_135_95, vinT, iClamp, clr_i, clr_l, clr_r, clr_n, true_and, and_true, or_true, true_or, false_or, or_false, iLe, iLt, iEq, iAdd, iMul, List.cons_append, List.nil_append, List.append_nil, zb0, zb1, if_true, if_false, not_true_eq_false, not_false_eq_true, Bool.false_eq_true, Nat.one_ne_zero, Nat.zero_ne_one, Nat.reduceEqDiff, Nat.reduceAdd, if_pos, if_neg, m127, m128k, m128n, m129k, m129n, m130k, m130n, m131k, m131n, m132k, m132n, m133k, m133n, m134k, m134n, m135k, m135n, m136k, m136n, m137k, m137n, m138k, m138n, m139k, m139n, m140k, m140n, m141k, m141n, m142k, m142n, m143k, m143n, m144k, m144n, m145k, m145n, m146k, m146n, s_placeM h hp o6, c, e1', e2, e3, f1, f2, lMul, lAdd, hc]
        simp (disch := omega) only [q_135_98, q_135_100, q_135_101, q_135_104, q_135_105, q_135_107, q_135_109, q_135_110, q_135_111, q_135_112, q_135_115, q_135_116, q_135_118, q_135_120, q_135_121, q_135_122, q_135_125, vinT, iClamp, clr_i, clr_l, clr_r, clr_n, true_and, and_true, or_true, true_or, false_or, or_false, iLe, iLt, iEq, iAdd, iMul, List.cons_append, List.nil_append, List.append_nil, zb0, zb1, if_true, if_false, not_true_eq_false, not_false_eq_true, Bool.false_eq_true, Nat.one_ne_zero, Nat.zero_ne_one, Nat.reduceEqDiff, Nat.reduceAdd, if_pos, if_neg, m127, m128k, m128n, m129k, m129n, m130k, m130n, m131k, m131n, m132k, m132n, m133k, m133n, m134k, m134n, m135k, m135n, m136k, m136n, m137k, m137n, m138k, m138n, m139k, m139n, m140k, m140n, m141k, m141n, m142k, m142n, m143k, m143n, m144k, m144n, m145k, m145n, m146k, m146n, lNe0, lDiv, g1, g2]
        exact i1 Q
      · obtain ⟨x1, x2⟩ := i4 j hj
        rw [x1, x2, sL_off (by omega), sL_off (by omega), sL_off (by omega), sL_off (by omega), (e8 138 (by simp)).2, (e8 139 (by simp)).2]
        exact ⟨rfl, rfl⟩
/-- scores laid out -/
def SO (σ : Mem) (a : AS) (way : Nat) : Prop := ∀ q, q < 7 → σ.2 138 q = lN (tI (scU a q way) (uN way) 1) ∧ σ.2 139 q = lN (tI (scU a q way) (uN way) 0)
theorem l_scoM {X : Nat × (Nat → Int32)} {a : AS} {way : Nat} (ok : AOK a) (hw : way < 5) : ∀ n i (σ : Mem) (v3 v4 v5 v6 v7 v8 v9 v10 : Value), MI σ a → i + n = 7 → ∃ σ', (∀ Q, Rn X 135 2 [.ref 127, .int (nI way), .int (nI i), v3, v4, v5, v6, v7, v8, v9, v10] [] σ Q ↔ Q [] σ') ∧ (∀ q, i ≤ q → q < 7 → σ'.2 138 q = lN (tI (scU a q way) (uN way) 1) ∧ σ'.2 139 q = lN (tI (scU a q way) (uN way) 0)) ∧ (∀ q, q < i → σ'.2 138 q = σ.2 138 q ∧ σ'.2 139 q = σ.2 139 q) ∧ Off SCw σ σ' := by
  obtain ⟨u1, u2, u3⟩ := uN_v way hw
  intro n
  induction n with
  | zero =>
    intro i σ v3 v4 v5 v6 v7 v8 v9 v10 h hi
    have e : i = 7 := by omega
    subst e
    refine ⟨σ, fun Q => ?_, fun q h1 h2 => absurd h2 (by omega), fun _ _ => ⟨rfl, rfl⟩, Off.rf _ _⟩
    rw [q_135_2]
    simp (disch := omega) only [q_135_3, q_135_5, q_135_8, q_135_9, q_135_12, q_135_13, q_135_14, q_135_15, q_135_16, q_135_19, q_135_20, q_135_21, q_135_22, q_135_23, q_135_128, q_135_131, q_135_134, vinT, iClamp, clr_i, clr_l, clr_r, clr_n, true_and, and_true, or_true, true_or, false_or, or_false, iLe, iLt, iEq, iAdd, iMul, List.cons_append, List.nil_append, List.append_nil, zb0, zb1, if_true, if_false, not_true_eq_false, not_false_eq_true, Bool.false_eq_true, Nat.one_ne_zero, Nat.zero_ne_one, Nat.reduceEqDiff, Nat.reduceAdd, if_pos, if_neg]
  | succ n ih =>
    intro i σ v3 v4 v5 v6 v7 v8 v9 v10 h hi
    have ho : Off SCw σ (sL (sL σ 138 i (lN 0)) 139 i (lN 1)) := ((Off.rf _ σ).sL (by decide) _ _).sL (by decide) _ _
    have t1 : tI 0 (uN way) 1 = 0 := by rw [tI, if_pos rfl, Nat.zero_div]
    have t0 : tI 0 (uN way) 0 = 1 := by rw [tI, if_neg (by omega), Nat.gcd_zero_left, Nat.div_self u2]
    obtain ⟨σ1, w4, w5, w6, w7, w8, w9, w10, i1, i2, i3, i4, i5⟩ := l_scoI (X := X) ok (show i < 7 by omega) hw 8 0 0 (sL (sL σ 138 i (lN 0)) 139 i (lN 1)) v4 v5 v6 v7 v8 v9 v10 (MI_scr h (ho.mono SCw_scr)) rfl (by omega) (by rw [sL_off (by omega), sL_at, t1]) (by rw [sL_at, t0])
    rw [Nat.zero_add] at i2 i3
    have ho2 := ho.tr i5
    obtain ⟨σ', j1, j2, j3, j4⟩ := ih (i + 1) σ1 (.int (nI 8)) w4 w5 w6 w7 w8 w9 w10 (MI_scr h (ho2.mono SCw_scr)) (by omega)
    refine ⟨σ', fun Q => ?_, fun q h1 h2 => ?_, fun q hq => ?_, ho2.tr j4⟩
    · rw [q_135_2]
      simp (disch := omega) only [q_135_3, q_135_5, q_135_8, q_135_9, q_135_12, q_135_13, q_135_14, q_135_15, q_135_16, q_135_19, q_135_20, q_135_21, q_135_22, q_135_23, vinT, iClamp, clr_i, clr_l, clr_r, clr_n, true_and, and_true, or_true, true_or, false_or, or_false, iLe, iLt, iEq, iAdd, iMul, List.cons_append, List.nil_append, List.append_nil, zb0, zb1, if_true, if_false, not_true_eq_false, not_false_eq_true, Bool.false_eq_true, Nat.one_ne_zero, Nat.zero_ne_one, Nat.reduceEqDiff, Nat.reduceAdd, if_pos, if_neg, m127, m128k, m128n, m129k, m129n, m130k, m130n, m131k, m131n, m132k, m132n, m133k, m133n, m134k, m134n, m135k, m135n, m136k, m136n, m137k, m137n, m138k, m138n, m139k, m139n, m140k, m140n, m141k, m141n, m142k, m142n, m143k, m143n, m144k, m144n, m145k, m145n, m146k, m146n]
      rw [i1 Q]
      simp (disch := omega) only [q_135_128, q_135_131, vinT, iClamp, clr_i, clr_l, clr_r, clr_n, true_and, and_true, or_true, true_or, false_or, or_false, iLe, iLt, iEq, iAdd, iMul, List.cons_append, List.nil_append, List.append_nil, zb0, zb1, if_true, if_false, not_true_eq_false, not_false_eq_true, Bool.false_eq_true, Nat.one_ne_zero, Nat.zero_ne_one, Nat.reduceEqDiff, Nat.reduceAdd, if_pos, if_neg]
      exact j1 Q
    · by_cases e : q = i
      · obtain ⟨x1, x2⟩ := j3 q (by omega)
        rw [x1, x2, e, i2, i3]
        exact ⟨rfl, rfl⟩
      · exact j2 q (by omega) h2
    · obtain ⟨x1, x2⟩ := j3 q (by omega)
      obtain ⟨x3, x4⟩ := i4 q (by omega)
      rw [x1, x2, x3, x4, sL_off (by omega), sL_off (by omega), sL_off (by omega), sL_off (by omega)]
      exact ⟨rfl, rfl⟩
theorem s_scoM {X : Nat × (Nat → Int32)} {σ : Mem} {a : AS} {way : Nat} {v2 v3 v4 v5 v6 v7 v8 v9 v10 : Value} (ok : AOK a) (h : MI σ a) (hw : way < 5) : ∃ σ', Ev X 135 [.ref 127, .int (nI way), v2, v3, v4, v5, v6, v7, v8, v9, v10] σ [] σ' ∧ SO σ' a way ∧ Off SCw σ σ' := by
  obtain ⟨σ', j1, j2, j3, j4⟩ := l_scoM (X := X) ok hw 7 0 σ v3 v4 v5 v6 v7 v8 v9 v10 h rfl
  refine ⟨σ', fun Q => ?_, fun q hq => j2 q (by omega) hq, j4⟩
  simp only [q_135_0, q_135_1, clr_i]
  exact j1 Q
theorem scU_leM {a : AS} {q way : Nat} (ok : AOK a) (hw : way < 5) : scU a q way ≤ 1462091400 := by
  have h : scU a q way ≤ 8 * uN way := smF_le 8 0 (fun p _ hp => by
    obtain ⟨o1, o2, o3, o4, o5, o6, o7, o8⟩ := ok.1 p (by omega)
    exact puX_le hw o6 o7 o3)
  have := uN_le way hw
  omega
theorem s_isAheadM {X : Nat × (Nat → Int32)} {σ : Mem} {Q : List Value → Mem → Prop} {a : AS} {way x y : Nat} (ok : AOK a) (hw : way < 5) (hS : SO σ a way) (hx : x < 7) (hy : y < 7) : Rn X 137 0 [.ref 127, .int (nI x), .int (nI y)] [] σ Q ↔ Q [.int (b2 (scU a y way < scU a x way))] σ := by
  obtain ⟨u1, u2, u3⟩ := uN_v way hw
  obtain ⟨x1, x2⟩ := hS x hx
  obtain ⟨y1, y2⟩ := hS y hy
  have b1 := scU_leM (q := x) ok hw
  have b2' := scU_leM (q := y) ok hw
  obtain ⟨p1, p2, p3⟩ := tI_pos (a := scU a x way) u2
  obtain ⟨p4, p5, p6⟩ := tI_pos (a := scU a y way) u2
  have k1 := tI_mul (a := scU a x way) u2
  have k2 := tI_mul (a := scU a y way) u2
  have c1 : tI (scU a x way) (uN way) 1 * tI (scU a y way) (uN way) 0 ≤ 1462091400 * 182761425 := Nat.mul_le_mul (by omega) (by omega)
  have c2 : tI (scU a y way) (uN way) 1 * tI (scU a x way) (uN way) 0 ≤ 1462091400 * 182761425 := Nat.mul_le_mul (by omega) (by omega)
  have key : tI (scU a y way) (uN way) 1 * tI (scU a x way) (uN way) 0 < tI (scU a x way) (uN way) 1 * tI (scU a y way) (uN way) 0 ↔ scU a y way < scU a x way := by
    rw [← Nat.mul_lt_mul_right (a := uN way) u2, Nat.mul_right_comm, k2, Nat.mul_right_comm (tI (scU a x way) (uN way) 1), k1, Nat.mul_assoc, Nat.mul_assoc, Nat.mul_comm (tI (scU a x way) (uN way) 0)]
    exact Nat.mul_lt_mul_right (Nat.mul_pos p4 p1)
  by_cases c : scU a y way < scU a x way
  · have c' := key.mpr c
    simp (disch := omega) only [q_137_0, q_137_1, q_137_4, q_137_5, q_137_6, q_137_7, q_137_10, q_137_11, q_137_12, q_137_13, q_137_14, q_137_17, q_137_18, q_137_19, q_137_20, q_137_23, q_137_24, q_137_25, q_137_26, q_137_27, q_137_30, q_137_31, q_137_34, q_137_35, vinT, iClamp, clr_i, clr_l, clr_r, clr_n, true_and, and_true, or_true, true_or, false_or, or_false, iLe, iLt, iEq, iAdd, iMul, List.cons_append, List.nil_append, List.append_nil, zb0, zb1, if_true, if_false, not_true_eq_false, not_false_eq_true, Bool.false_eq_true, Nat.one_ne_zero, Nat.zero_ne_one, Nat.reduceEqDiff, Nat.reduceAdd, if_pos, if_neg, m127, m128k, m128n, m129k, m129n, m130k, m130n, m131k, m131n, m132k, m132n, m133k, m133n, m134k, m134n, m135k, m135n, m136k, m136n, m137k, m137n, m138k, m138n, m139k, m139n, m140k, m140n, m141k, m141n, m142k, m142n, m143k, m143n, m144k, m144n, m145k, m145n, m146k, m146n, x1, x2, y1, y2, lMul, lc_le, lLt, b2_t c]
  · have c' : ¬ tI (scU a y way) (uN way) 1 * tI (scU a x way) (uN way) 0 < tI (scU a x way) (uN way) 1 * tI (scU a y way) (uN way) 0 := fun q => c (key.mp q)
    simp (disch := omega) only [q_137_0, q_137_1, q_137_4, q_137_5, q_137_6, q_137_7, q_137_10, q_137_11, q_137_12, q_137_13, q_137_14, q_137_17, q_137_18, q_137_19, q_137_20, q_137_23, q_137_24, q_137_25, q_137_26, q_137_27, q_137_30, q_137_31, q_137_34, q_137_35, vinT, iClamp, clr_i, clr_l, clr_r, clr_n, true_and, and_true, or_true, true_or, false_or, or_false, iLe, iLt, iEq, iAdd, iMul, List.cons_append, List.nil_append, List.append_nil, zb0, zb1, if_true, if_false, not_true_eq_false, not_false_eq_true, Bool.false_eq_true, Nat.one_ne_zero, Nat.zero_ne_one, Nat.reduceEqDiff, Nat.reduceAdd, if_pos, if_neg, m127, m128k, m128n, m129k, m129n, m130k, m130n, m131k, m131n, m132k, m132n, m133k, m133n, m134k, m134n, m135k, m135n, m136k, m136n, m137k, m137n, m138k, m138n, m139k, m139n, m140k, m140n, m141k, m141n, m142k, m142n, m143k, m143n, m144k, m144n, m145k, m145n, m146k, m146n, x1, x2, y1, y2, lMul, lc_le, lLt, b2_f c]
theorem l_aheadM {X : Nat × (Nat → Int32)} {a : AS} {x y : Nat} (ok : AOK a) (hx : x < 7) (hy : y < 7) : ∀ n i s (σ : Mem), MI σ a → i + n = 5 → ∃ σ', (∀ Q, Rn X 138 21 [.ref 127, .int (nI x), .int (nI y), .int (nI s), .int (nI i)] [] σ Q ↔ Q [.int (nI (ahF a x y i n s))] σ') ∧ Off SCw σ σ' := by
  intro n
  induction n with
  | zero =>
    intro i s σ h hi
    have e : i = 5 := by omega
    subst e
    refine ⟨σ, fun Q => ?_, Off.rf _ _⟩
    rw [q_138_21]
    simp (disch := omega) only [q_138_0, q_138_1, q_138_4, q_138_7, q_138_8, q_138_11, q_138_14, q_138_15, q_138_16, q_138_17, q_138_18, q_138_19, q_138_23, q_138_24, q_138_27, q_138_28, q_138_30, q_138_33, q_138_34, q_138_35, q_138_36, q_138_37, q_138_40, q_138_43, q_138_44, q_138_46, q_138_47, q_138_50, q_138_51, q_138_52, q_138_53, q_138_56, q_138_59, q_138_60, vinT, iClamp, clr_i, clr_l, clr_r, clr_n, true_and, and_true, or_true, true_or, false_or, or_false, iLe, iLt, iEq, iAdd, iMul, List.cons_append, List.nil_append, List.append_nil, zb0, zb1, if_true, if_false, not_true_eq_false, not_false_eq_true, Bool.false_eq_true, Nat.one_ne_zero, Nat.zero_ne_one, Nat.reduceEqDiff, Nat.reduceAdd, if_pos, if_neg, ahF]
  | succ n ih =>
    intro i s σ h hi
    obtain ⟨σ1, k1, k2, k3⟩ := s_scoM (X := X) (v2 := .null) (v3 := .null) (v4 := .null) (v5 := .null) (v6 := .null) (v7 := .null) (v8 := .null) (v9 := .null) (v10 := .null) ok h (show i < 5 by omega)
    have k1' := fun Q => k1 Q
    have h' := MI_scr h (k3.mono SCw_scr)
    by_cases c : scU a y i < scU a x i
    · obtain ⟨σ', j1, j2⟩ := ih (i + 1) (s ||| 2 ^ i) σ1 h' (by omega)
      refine ⟨σ', fun Q => ?_, k3.tr j2⟩
      rw [q_138_21, ahF, if_pos c]
      simp (disch := omega) only [q_138_0, q_138_1, q_138_4, q_138_7, q_138_8, q_138_11, q_138_14, q_138_15, q_138_16, q_138_17, q_138_18, q_138_19, q_138_23, q_138_24, q_138_27, q_138_28, q_138_30, q_138_33, q_138_34, q_138_35, q_138_36, q_138_37, q_138_40, q_138_43, q_138_44, q_138_46, q_138_47, q_138_50, q_138_51, q_138_52, q_138_53, q_138_56, q_138_59, q_138_60, vinT, iClamp, clr_i, clr_l, clr_r, clr_n, true_and, and_true, or_true, true_or, false_or, or_false, iLe, iLt, iEq, iAdd, iMul, List.cons_append, List.nil_append, List.append_nil, zb0, zb1, if_true, if_false, not_true_eq_false, not_false_eq_true, Bool.false_eq_true, Nat.one_ne_zero, Nat.zero_ne_one, Nat.reduceEqDiff, Nat.reduceAdd, if_pos, if_neg, m127, m128k, m128n, m129k, m129n, m130k, m130n, m131k, m131n, m132k, m132n, m133k, m133n, m134k, m134n, m135k, m135n, m136k, m136n, m137k, m137n, m138k, m138n, m139k, m139n, m140k, m140n, m141k, m141n, m142k, m142n, m143k, m143n, m144k, m144n, m145k, m145n, m146k, m146n, k1', s_isAheadM ok (show i < 5 by omega) k2 hx hy, b2_t c, one_shl, fa_or]
      exact j1 Q
    · obtain ⟨σ', j1, j2⟩ := ih (i + 1) s σ1 h' (by omega)
      refine ⟨σ', fun Q => ?_, k3.tr j2⟩
      rw [q_138_21, ahF, if_neg c]
      simp (disch := omega) only [q_138_0, q_138_1, q_138_4, q_138_7, q_138_8, q_138_11, q_138_14, q_138_15, q_138_16, q_138_17, q_138_18, q_138_19, q_138_23, q_138_24, q_138_27, q_138_28, q_138_30, q_138_33, q_138_34, q_138_35, q_138_36, q_138_37, q_138_40, q_138_43, q_138_44, q_138_46, q_138_47, q_138_50, q_138_51, q_138_52, q_138_53, q_138_56, q_138_59, q_138_60, vinT, iClamp, clr_i, clr_l, clr_r, clr_n, true_and, and_true, or_true, true_or, false_or, or_false, iLe, iLt, iEq, iAdd, iMul, List.cons_append, List.nil_append, List.append_nil, zb0, zb1, if_true, if_false, not_true_eq_false, not_false_eq_true, Bool.false_eq_true, Nat.one_ne_zero, Nat.zero_ne_one, Nat.reduceEqDiff, Nat.reduceAdd, if_pos, if_neg, m127, m128k, m128n, m129k, m129n, m130k, m130n, m131k, m131n, m132k, m132n, m133k, m133n, m134k, m134n, m135k, m135n, m136k, m136n, m137k, m137n, m138k, m138n, m139k, m139n, m140k, m140n, m141k, m141n, m142k, m142n, m143k, m143n, m144k, m144n, m145k, m145n, m146k, m146n, k1', s_isAheadM ok (show i < 5 by omega) k2 hx hy, b2_f c, fa_or, Nat.or_zero]
      exact j1 Q
theorem m_Ah {X : Nat × (Nat → Int32)} {σ : Mem} {a : AS} {x y : Int32} {w0 w1 : Value} (ok : AOK a) (h : MI σ a) : ∃ σ', Ev X 138 [.ref 127, .int x, .int y, w0, w1] σ [.int (anAh a x y)] σ' ∧ MI σ' a ∧ Hi σ σ' := by
  by_cases k0 : inR x 7
  · have e0 : b2 (inR x 7) = nI 1 := b2_t k0
    by_cases k1 : inR y 7
    · have e1 : b2 (inR y 7) = nI 1 := b2_t k1
      rw [anAh, if_pos k0, if_pos k1]
      obtain ⟨i, hi, rfl⟩ := inR_of k0 (by omega)
      obtain ⟨j, hj, rfl⟩ := inR_of k1 (by omega)
      simp (disch := omega) only [tn_nI]
      obtain ⟨σ', j1, j2⟩ := l_aheadM (X := X) ok hi hj 5 0 0 σ h rfl
      refine ⟨σ', fun Q => ?_, MI_scr h (j2.mono SCw_scr), j2.hi SCw_ge⟩
      simp (disch := omega) only [q_138_0, q_138_1, q_138_4, q_138_7, q_138_8, q_138_11, q_138_14, q_138_15, q_138_16, q_138_17, q_138_18, q_138_19, vinT, iClamp, clr_i, clr_l, clr_r, clr_n, true_and, and_true, or_true, true_or, false_or, or_false, iLe, iLt, iEq, iAdd, iMul, List.cons_append, List.nil_append, List.append_nil, zb0, zb1, if_true, if_false, not_true_eq_false, not_false_eq_true, Bool.false_eq_true, Nat.one_ne_zero, Nat.zero_ne_one, Nat.reduceEqDiff, Nat.reduceAdd, if_pos, if_neg, s_isPersonM, e0, e1]
      exact j1 Q
    · have e1 : b2 (inR y 7) = nI 0 := b2_f k1
      rw [anAh, if_pos k0, if_neg k1]
      refine ⟨σ, fun Q => ?_, h, Hi.rf σ⟩
      simp (disch := omega) only [q_138_0, q_138_1, q_138_4, q_138_7, q_138_8, q_138_11, q_138_14, q_138_15, q_138_16, q_138_17, q_138_18, q_138_19, vinT, iClamp, clr_i, clr_l, clr_r, clr_n, true_and, and_true, or_true, true_or, false_or, or_false, iLe, iLt, iEq, iAdd, iMul, List.cons_append, List.nil_append, List.append_nil, zb0, zb1, if_true, if_false, not_true_eq_false, not_false_eq_true, Bool.false_eq_true, Nat.one_ne_zero, Nat.zero_ne_one, Nat.reduceEqDiff, Nat.reduceAdd, if_pos, if_neg, s_isPersonM, e0, e1]
  · have e0 : b2 (inR x 7) = nI 0 := b2_f k0
    rw [anAh, if_neg k0]
    refine ⟨σ, fun Q => ?_, h, Hi.rf σ⟩
    simp (disch := omega) only [q_138_0, q_138_1, q_138_4, q_138_7, q_138_8, q_138_11, q_138_14, q_138_15, q_138_16, q_138_17, q_138_18, q_138_19, vinT, iClamp, clr_i, clr_l, clr_r, clr_n, true_and, and_true, or_true, true_or, false_or, or_false, iLe, iLt, iEq, iAdd, iMul, List.cons_append, List.nil_append, List.append_nil, zb0, zb1, if_true, if_false, not_true_eq_false, not_false_eq_true, Bool.false_eq_true, Nat.one_ne_zero, Nat.zero_ne_one, Nat.reduceEqDiff, Nat.reduceAdd, if_pos, if_neg, s_isPersonM, e0]
/-! rank -/
theorem ah_sc {a : AS} {way x z : Nat} (ok : AOK a) (hw : way < 5) : ah (fun q => lN (scU a q way)) x z = true ↔ scU a z way < scU a x way ∨ (scU a z way = scU a x way ∧ x < z) := by
  have b1 := scU_leM (q := x) ok hw
  have b2' := scU_leM (q := z) ok hw
  rw [ah_iff, lLt (by omega) (by omega), lEq (by omega) (by omega)]
theorem l_rankI {X : Nat × (Nat → Int32)} {σ : Mem} {Q : List Value → Mem → Prop} {a : AS} {way z : Nat} {y : Int32} (ok : AOK a) (hw : way < 5) (hS : SO σ a way) (hz : z < 7) : ∀ n i s, i + n = 7 → (Rn X 139 34 [.ref 127, .int (nI way), .int y, .int (nI z), .int (nI s), .int (nI i)] [] σ Q ↔ Rn X 139 83 [.ref 127, .int (nI way), .int y, .int (nI z), .int (nI (s + smF (fun q => if ah (fun q => lN (scU a q way)) q z = true then 1 else 0) i n)), .int (nI 7)] [] σ Q) := by
  intro n
  induction n with
  | zero =>
    intro i s hi
    have e : i = 7 := by omega
    subst e
    rw [q_139_34]
    simp (disch := omega) only [q_139_36, q_139_38, q_139_41, q_139_43, q_139_44, q_139_46, q_139_47, q_139_50, q_139_53, q_139_54, q_139_55, q_139_57, q_139_60, q_139_63, q_139_65, q_139_66, q_139_69, q_139_70, q_139_73, q_139_74, q_139_75, q_139_77, q_139_80, vinT, iClamp, clr_i, clr_l, clr_r, clr_n, true_and, and_true, or_true, true_or, false_or, or_false, iLe, iLt, iEq, iAdd, iMul, List.cons_append, List.nil_append, List.append_nil, zb0, zb1, if_true, if_false, not_true_eq_false, not_false_eq_true, Bool.false_eq_true, Nat.one_ne_zero, Nat.zero_ne_one, Nat.reduceEqDiff, Nat.reduceAdd, if_pos, if_neg, smF, Nat.add_zero]
  | succ n ih =>
    intro i s hi
    rw [q_139_34, smF]
    have hx : i < 7 := by omega
    have q := ah_sc (way := way) (x := i) (z := z) ok hw
    by_cases c1 : scU a z way < scU a i way
    · rw [if_pos (q.mpr (Or.inl c1))]
      simp (disch := omega) only [q_139_36, q_139_38, q_139_41, q_139_43, q_139_44, q_139_46, q_139_47, q_139_50, q_139_53, q_139_54, q_139_55, q_139_57, q_139_60, q_139_63, q_139_65, q_139_66, q_139_69, q_139_70, q_139_73, q_139_74, q_139_75, q_139_77, q_139_80, vinT, iClamp, clr_i, clr_l, clr_r, clr_n, true_and, and_true, or_true, true_or, false_or, or_false, iLe, iLt, iEq, iAdd, iMul, List.cons_append, List.nil_append, List.append_nil, zb0, zb1, if_true, if_false, not_true_eq_false, not_false_eq_true, Bool.false_eq_true, Nat.one_ne_zero, Nat.zero_ne_one, Nat.reduceEqDiff, Nat.reduceAdd, if_pos, if_neg, m127, m128k, m128n, m129k, m129n, m130k, m130n, m131k, m131n, m132k, m132n, m133k, m133n, m134k, m134n, m135k, m135n, m136k, m136n, m137k, m137n, m138k, m138n, m139k, m139n, m140k, m140n, m141k, m141n, m142k, m142n, m143k, m143n, m144k, m144n, m145k, m145n, m146k, m146n, s_isAheadM ok hw hS hx hz, b2_t c1]
      rw [ih (i + 1) _ (by omega), Nat.add_assoc]
    · by_cases c2 : scU a i way < scU a z way
      · rw [if_neg (fun r => by have := q.mp r; omega)]
        simp (disch := omega) only [q_139_36, q_139_38, q_139_41, q_139_43, q_139_44, q_139_46, q_139_47, q_139_50, q_139_53, q_139_54, q_139_55, q_139_57, q_139_60, q_139_63, q_139_65, q_139_66, q_139_69, q_139_70, q_139_73, q_139_74, q_139_75, q_139_77, q_139_80, vinT, iClamp, clr_i, clr_l, clr_r, clr_n, true_and, and_true, or_true, true_or, false_or, or_false, iLe, iLt, iEq, iAdd, iMul, List.cons_append, List.nil_append, List.append_nil, zb0, zb1, if_true, if_false, not_true_eq_false, not_false_eq_true, Bool.false_eq_true, Nat.one_ne_zero, Nat.zero_ne_one, Nat.reduceEqDiff, Nat.reduceAdd, if_pos, if_neg, m127, m128k, m128n, m129k, m129n, m130k, m130n, m131k, m131n, m132k, m132n, m133k, m133n, m134k, m134n, m135k, m135n, m136k, m136n, m137k, m137n, m138k, m138n, m139k, m139n, m140k, m140n, m141k, m141n, m142k, m142n, m143k, m143n, m144k, m144n, m145k, m145n, m146k, m146n, s_isAheadM ok hw hS hx hz, s_isAheadM ok hw hS hz hx, b2_f c1, b2_t c2]
        rw [ih (i + 1) _ (by omega), Nat.add_zero, Nat.zero_add]
      · by_cases c3 : i < z
        · rw [if_pos (q.mpr (Or.inr ⟨by omega, c3⟩))]
          simp (disch := omega) only [q_139_36, q_139_38, q_139_41, q_139_43, q_139_44, q_139_46, q_139_47, q_139_50, q_139_53, q_139_54, q_139_55, q_139_57, q_139_60, q_139_63, q_139_65, q_139_66, q_139_69, q_139_70, q_139_73, q_139_74, q_139_75, q_139_77, q_139_80, vinT, iClamp, clr_i, clr_l, clr_r, clr_n, true_and, and_true, or_true, true_or, false_or, or_false, iLe, iLt, iEq, iAdd, iMul, List.cons_append, List.nil_append, List.append_nil, zb0, zb1, if_true, if_false, not_true_eq_false, not_false_eq_true, Bool.false_eq_true, Nat.one_ne_zero, Nat.zero_ne_one, Nat.reduceEqDiff, Nat.reduceAdd, if_pos, if_neg, m127, m128k, m128n, m129k, m129n, m130k, m130n, m131k, m131n, m132k, m132n, m133k, m133n, m134k, m134n, m135k, m135n, m136k, m136n, m137k, m137n, m138k, m138n, m139k, m139n, m140k, m140n, m141k, m141n, m142k, m142n, m143k, m143n, m144k, m144n, m145k, m145n, m146k, m146n, s_isAheadM ok hw hS hx hz, s_isAheadM ok hw hS hz hx, b2_f c1, b2_f c2]
          rw [ih (i + 1) _ (by omega), Nat.add_assoc]
        · rw [if_neg (fun r => by have := q.mp r; omega)]
          simp (disch := omega) only [q_139_36, q_139_38, q_139_41, q_139_43, q_139_44, q_139_46, q_139_47, q_139_50, q_139_53, q_139_54, q_139_55, q_139_57, q_139_60, q_139_63, q_139_65, q_139_66, q_139_69, q_139_70, q_139_73, q_139_74, q_139_75, q_139_77, q_139_80, vinT, iClamp, clr_i, clr_l, clr_r, clr_n, true_and, and_true, or_true, true_or, false_or, or_false, iLe, iLt, iEq, iAdd, iMul, List.cons_append, List.nil_append, List.append_nil, zb0, zb1, if_true, if_false, not_true_eq_false, not_false_eq_true, Bool.false_eq_true, Nat.one_ne_zero, Nat.zero_ne_one, Nat.reduceEqDiff, Nat.reduceAdd, if_pos, if_neg, m127, m128k, m128n, m129k, m129n, m130k, m130n, m131k, m131n, m132k, m132n, m133k, m133n, m134k, m134n, m135k, m135n, m136k, m136n, m137k, m137n, m138k, m138n, m139k, m139n, m140k, m140n, m141k, m141n, m142k, m142n, m143k, m143n, m144k, m144n, m145k, m145n, m146k, m146n, s_isAheadM ok hw hS hx hz, s_isAheadM ok hw hS hz hx, b2_f c1, b2_f c2]
          rw [ih (i + 1) _ (by omega), Nat.add_zero, Nat.zero_add]
theorem cnA_all {N : Nat → Int64} {z : Nat} : cnA N (List.range 7) z = smF (fun q => if ah N q z = true then 1 else 0) 0 7 := smF_congr _ _ (fun j _ h => if_pos (List.mem_range.mpr (by omega)))
theorem l_rankM {X : Nat × (Nat → Int32)} {σ : Mem} {Q : List Value → Mem → Prop} {a : AS} {way : Nat} {y : Int32} (ok : AOK a) (hw : way < 5) (hS : SO σ a way) : ∀ n i (v4 v5 : Value), i + n = 7 → (Rn X 139 22 [.ref 127, .int (nI way), .int y, .int (nI i), v4, v5] [] σ Q ↔ Q [.int (oI (fsF (rkP (fun q => lN (scU a q way)) (List.range 7) y) i n))] σ) := by
  intro n
  induction n with
  | zero =>
    intro i v4 v5 hi
    have e : i = 7 := by omega
    subst e
    rw [q_139_22]
    simp (disch := omega) only [q_139_23, q_139_25, q_139_28, q_139_29, q_139_31, q_139_32, q_139_83, q_139_85, q_139_86, q_139_89, q_139_90, q_139_91, q_139_94, q_139_97, q_139_99, vinT, iClamp, clr_i, clr_l, clr_r, clr_n, true_and, and_true, or_true, true_or, false_or, or_false, iLe, iLt, iEq, iAdd, iMul, List.cons_append, List.nil_append, List.append_nil, zb0, zb1, if_true, if_false, not_true_eq_false, not_false_eq_true, Bool.false_eq_true, Nat.one_ne_zero, Nat.zero_ne_one, Nat.reduceEqDiff, Nat.reduceAdd, if_pos, if_neg, fsF, oI]
  | succ n ih =>
    intro i v4 v5 hi
    have hm : i ∈ List.range 7 := List.mem_range.mpr (by omega)
    rw [q_139_22, fsF]
    simp (disch := omega) only [q_139_23, q_139_25, q_139_28, q_139_29, q_139_31, q_139_32, vinT, iClamp, clr_i, clr_l, clr_r, clr_n, true_and, and_true, or_true, true_or, false_or, or_false, iLe, iLt, iEq, iAdd, iMul, List.cons_append, List.nil_append, List.append_nil, zb0, zb1, if_true, if_false, not_true_eq_false, not_false_eq_true, Bool.false_eq_true, Nat.one_ne_zero, Nat.zero_ne_one, Nat.reduceEqDiff, Nat.reduceAdd, if_pos, if_neg]
    rw [l_rankI ok hw hS (show i < 7 by omega) 7 0 0 rfl, Nat.zero_add, ← cnA_all]
    by_cases c : nI (cnA (fun q => lN (scU a q way)) (List.range 7) i) = y
    · have e : rkP (fun q => lN (scU a q way)) (List.range 7) y i = true := by rw [rkP, Bool.and_eq_true, decide_eq_true_eq, decide_eq_true_eq]; exact ⟨hm, c⟩
      rw [if_pos e, oI]
      simp (disch := omega) only [q_139_83, q_139_85, q_139_86, q_139_89, q_139_90, q_139_91, q_139_94, q_139_97, q_139_99, vinT, iClamp, clr_i, clr_l, clr_r, clr_n, true_and, and_true, or_true, true_or, false_or, or_false, iLe, iLt, iEq, iAdd, iMul, List.cons_append, List.nil_append, List.append_nil, zb0, zb1, if_true, if_false, not_true_eq_false, not_false_eq_true, Bool.false_eq_true, Nat.one_ne_zero, Nat.zero_ne_one, Nat.reduceEqDiff, Nat.reduceAdd, if_pos, if_neg, c]
    · have e : ¬ rkP (fun q => lN (scU a q way)) (List.range 7) y i = true := by rw [rkP, Bool.and_eq_true, decide_eq_true_eq, decide_eq_true_eq]; exact fun q => c q.2
      rw [if_neg e]
      simp (disch := omega) only [q_139_83, q_139_85, q_139_86, q_139_89, q_139_90, q_139_91, q_139_94, q_139_97, q_139_99, vinT, iClamp, clr_i, clr_l, clr_r, clr_n, true_and, and_true, or_true, true_or, false_or, or_false, iLe, iLt, iEq, iAdd, iMul, List.cons_append, List.nil_append, List.append_nil, zb0, zb1, if_true, if_false, not_true_eq_false, not_false_eq_true, Bool.false_eq_true, Nat.one_ne_zero, Nat.zero_ne_one, Nat.reduceEqDiff, Nat.reduceAdd, if_pos, if_neg, c]
      rw [ih (i + 1) _ _ (by omega)]
theorem m_Rk {X : Nat × (Nat → Int32)} {σ : Mem} {a : AS} {x i : Int32} {w0 w1 w2 : Value} (ok : AOK a) (h : MI σ a) : ∃ σ', Ev X 139 [.ref 127, .int x, .int i, w0, w1, w2] σ [.int (anRk a x i)] σ' ∧ MI σ' a ∧ Hi σ σ' := by
  by_cases k0 : inR x 5
  · have e0 : b2 (inR x 5) = nI 1 := b2_t k0
    rw [← b2_QR x 4 (by omega)] at e0
    rw [anRk, if_pos k0]
    obtain ⟨m, hm, rfl⟩ := inR_of k0 (by omega)
    rw [tn_nI (by omega), ← rank_pA List.nodup_range (fun x hx => List.mem_range.mp hx) (by simp)]
    obtain ⟨σ', k1, k2, k3⟩ := s_scoM (X := X) (v2 := .null) (v3 := .null) (v4 := .null) (v5 := .null) (v6 := .null) (v7 := .null) (v8 := .null) (v9 := .null) (v10 := .null) ok h hm
    have k1' := fun Q => k1 Q
    refine ⟨σ', fun Q => ?_, MI_scr h (k3.mono SCw_scr), k3.hi SCw_ge⟩
    simp (disch := omega) only [q_139_0, q_139_1, q_139_2, q_139_3, q_139_6, q_139_9, q_139_12, q_139_14, q_139_15, q_139_16, q_139_17, q_139_20, q_139_21, vinT, iClamp, clr_i, clr_l, clr_r, clr_n, true_and, and_true, or_true, true_or, false_or, or_false, iLe, iLt, iEq, iAdd, iMul, List.cons_append, List.nil_append, List.append_nil, zb0, zb1, if_true, if_false, not_true_eq_false, not_false_eq_true, Bool.false_eq_true, Nat.one_ne_zero, Nat.zero_ne_one, Nat.reduceEqDiff, Nat.reduceAdd, if_pos, if_neg, m127, m128k, m128n, m129k, m129n, m130k, m130n, m131k, m131n, m132k, m132n, m133k, m133n, m134k, m134n, m135k, m135n, m136k, m136n, m137k, m137n, m138k, m138n, m139k, m139n, m140k, m140n, m141k, m141n, m142k, m142n, m143k, m143n, m144k, m144n, m145k, m145n, m146k, m146n, s_in0, e0, k1']
    rw [l_rankM ok hm k2 7 0 _ _ rfl]
  · have e0 : b2 (inR x 5) = nI 0 := b2_f k0
    rw [← b2_QR x 4 (by omega)] at e0
    rw [anRk, if_neg k0]
    refine ⟨σ, fun Q => ?_, h, Hi.rf σ⟩
    simp (disch := omega) only [q_139_0, q_139_1, q_139_2, q_139_3, q_139_6, q_139_9, q_139_12, q_139_14, q_139_15, q_139_16, q_139_17, q_139_20, q_139_21, vinT, iClamp, clr_i, clr_l, clr_r, clr_n, true_and, and_true, or_true, true_or, false_or, or_false, iLe, iLt, iEq, iAdd, iMul, List.cons_append, List.nil_append, List.append_nil, zb0, zb1, if_true, if_false, not_true_eq_false, not_false_eq_true, Bool.false_eq_true, Nat.one_ne_zero, Nat.zero_ne_one, Nat.reduceEqDiff, Nat.reduceAdd, if_pos, if_neg, s_in0, e0]
theorem m_Wo {X : Nat × (Nat → Int32)} {σ : Mem} {a : AS} {x y i : Int32} {u : Nat} (hu : u = 0 ∨ u = 1) (ok : AOK a) (h : MI σ a) : ∃ σ', Ev X 134 [.ref 127, .int x, .int y, .int i, .int (nI u)] σ [.long (anWo a x y i u)] σ' ∧ MI σ' a ∧ Hi σ σ' := by
  by_cases cc0 : inR x 8
  · have e0 : b2 (inR x 8) = nI 1 := b2_t cc0
    by_cases cc1 : inR y 5
    · have e1 : b2 (inR y 5) = nI 1 := b2_t cc1
      rw [← b2_QR y 4 (by omega)] at e1
      obtain ⟨p, hp, rfl⟩ := inR_of cc0 (by omega)
      obtain ⟨m, hm, rfl⟩ := inR_of cc1 (by omega)
      have ea : anWo a (nI p) (nI m) i u = lN (tI (puX (ro a p) (wt a p) (hr a p) m i) (uN m) u) := by
        rw [anWo, if_pos cc0, if_pos cc1]
        simp (disch := omega) only [tn_nI]
      rw [ea]
      obtain ⟨m1, m2, m3, m4, m5, m6, m7, m8, m9, m10⟩ := id h
      obtain ⟨u1, u2, u3⟩ := uN_v m hm
      obtain ⟨σ', U1, D1, f1, f2, f3, f4, ⟨f5, f6, f7⟩, f8⟩ := s_worthM (X := X) (v := .null) (x := i) ok h hp hm
      have f1' := fun Q => f1 Q
      have hls := fun (Q : List Value → Mem → Prop) (v1 v3 w0 w1 : Value) => s_told (X := X) (σ := σ') (Q := Q) (a := U1) (b := D1) (v1 := v1) (v3 := v3) (w0 := w0) (w1 := w1) (by omega) (by omega) f5 hu
      rw [← tI_cross f5 u2 f4]
      refine ⟨σ', fun Q => ?_, MI_scr h (f8.mono (by decide)), f8.hi (by simp)⟩
      simp (disch := omega) only [q_134_0, q_134_1, q_134_4, q_134_7, q_134_10, q_134_11, q_134_12, q_134_13, q_134_14, q_134_17, q_134_20, q_134_23, q_134_26, q_134_27, q_134_28, q_134_29, q_134_30, q_134_31, q_134_34, q_134_35, q_134_38, q_134_39, q_134_42, q_134_44, q_134_47, vinT, iClamp, clr_i, clr_l, clr_r, clr_n, true_and, and_true, or_true, true_or, false_or, or_false, iLe, iLt, iEq, iAdd, iMul, List.cons_append, List.nil_append, List.append_nil, zb0, zb1, if_true, if_false, not_true_eq_false, not_false_eq_true, Bool.false_eq_true, Nat.one_ne_zero, Nat.zero_ne_one, Nat.reduceEqDiff, Nat.reduceAdd, if_pos, if_neg, s_isPaperM, s_in0, e0, e1, m127, m128k, m128n, m129k, m129n, m130k, m130n, m131k, m131n, m132k, m132n, m133k, m133n, m134k, m134n, m135k, m135n, m136k, m136n, m137k, m137n, m138k, m138n, m139k, m139n, m140k, m140n, m141k, m141n, m142k, m142n, m143k, m143n, m144k, m144n, m145k, m145n, m146k, m146n, f1', f2, f3, hls]
    · have e1 : b2 (inR y 5) = nI 0 := b2_f cc1
      rw [← b2_QR y 4 (by omega)] at e1
      refine ⟨σ, fun Q => ?_, h, Hi.rf σ⟩
      rw [anWo, if_pos cc0, if_neg cc1]
      simp (disch := omega) only [q_134_0, q_134_1, q_134_4, q_134_7, q_134_10, q_134_11, q_134_12, q_134_13, q_134_14, q_134_17, q_134_20, q_134_23, q_134_26, q_134_27, q_134_28, q_134_29, q_134_30, q_134_31, q_134_34, q_134_35, q_134_38, q_134_39, q_134_42, q_134_44, q_134_47, vinT, iClamp, clr_i, clr_l, clr_r, clr_n, true_and, and_true, or_true, true_or, false_or, or_false, iLe, iLt, iEq, iAdd, iMul, List.cons_append, List.nil_append, List.append_nil, zb0, zb1, if_true, if_false, not_true_eq_false, not_false_eq_true, Bool.false_eq_true, Nat.one_ne_zero, Nat.zero_ne_one, Nat.reduceEqDiff, Nat.reduceAdd, if_pos, if_neg, s_isPaperM, s_in0, e0, e1]
  · have e0 : b2 (inR x 8) = nI 0 := b2_f cc0
    refine ⟨σ, fun Q => ?_, h, Hi.rf σ⟩
    rw [anWo, if_neg cc0]
    simp (disch := omega) only [q_134_0, q_134_1, q_134_4, q_134_7, q_134_10, q_134_11, q_134_12, q_134_13, q_134_14, q_134_17, q_134_20, q_134_23, q_134_26, q_134_27, q_134_28, q_134_29, q_134_30, q_134_31, q_134_34, q_134_35, q_134_38, q_134_39, q_134_42, q_134_44, q_134_47, vinT, iClamp, clr_i, clr_l, clr_r, clr_n, true_and, and_true, or_true, true_or, false_or, or_false, iLe, iLt, iEq, iAdd, iMul, List.cons_append, List.nil_append, List.append_nil, zb0, zb1, if_true, if_false, not_true_eq_false, not_false_eq_true, Bool.false_eq_true, Nat.one_ne_zero, Nat.zero_ne_one, Nat.reduceEqDiff, Nat.reduceAdd, if_pos, if_neg, s_isPaperM, s_in0, e0]
theorem m_Sc {X : Nat × (Nat → Int32)} {σ : Mem} {a : AS} {x y : Int32} {u : Nat} (hu : u = 0 ∨ u = 1) (ok : AOK a) (h : MI σ a) : ∃ σ', Ev X 136 [.ref 127, .int x, .int y, .int (nI u)] σ [.long (anSc a x y u)] σ' ∧ MI σ' a ∧ Hi σ σ' := by
  by_cases cc0 : inR x 7
  · have e0 : b2 (inR x 7) = nI 1 := b2_t cc0
    by_cases cc1 : inR y 5
    · have e1 : b2 (inR y 5) = nI 1 := b2_t cc1
      rw [← b2_QR y 4 (by omega)] at e1
      obtain ⟨j, hj, rfl⟩ := inR_of cc0 (by omega)
      obtain ⟨m, hm, rfl⟩ := inR_of cc1 (by omega)
      have ea : anSc a (nI j) (nI m) u = lN (tI (scU a j m) (uN m) u) := by
        rw [anSc, if_pos cc0, if_pos cc1]
        simp (disch := omega) only [tn_nI]
      rw [ea]
      obtain ⟨m1, m2, m3, m4, m5, m6, m7, m8, m9, m10⟩ := id h
      obtain ⟨σ', k1, k2, k3⟩ := s_scoM (X := X) (v2 := .null) (v3 := .null) (v4 := .null) (v5 := .null) (v6 := .null) (v7 := .null) (v8 := .null) (v9 := .null) (v10 := .null) ok h hm
      have k1' := fun Q => k1 Q
      obtain ⟨x1, x2⟩ := k2 j hj
      refine ⟨σ', fun Q => ?_, MI_scr h (k3.mono SCw_scr), k3.hi SCw_ge⟩
      rcases hu with rfl | rfl
      · simp (disch := omega) only [q_136_0, q_136_1, q_136_4, q_136_7, q_136_10, q_136_11, q_136_12, q_136_13, q_136_14, q_136_17, q_136_20, q_136_23, q_136_26, q_136_27, q_136_28, q_136_29, q_136_32, q_136_33, q_136_36, q_136_37, q_136_40, q_136_41, q_136_42, q_136_45, q_136_46, q_136_49, q_136_50, q_136_51, vinT, iClamp, clr_i, clr_l, clr_r, clr_n, true_and, and_true, or_true, true_or, false_or, or_false, iLe, iLt, iEq, iAdd, iMul, List.cons_append, List.nil_append, List.append_nil, zb0, zb1, if_true, if_false, not_true_eq_false, not_false_eq_true, Bool.false_eq_true, Nat.one_ne_zero, Nat.zero_ne_one, Nat.reduceEqDiff, Nat.reduceAdd, if_pos, if_neg, s_isPersonM, s_in0, e0, e1, m127, m128k, m128n, m129k, m129n, m130k, m130n, m131k, m131n, m132k, m132n, m133k, m133n, m134k, m134n, m135k, m135n, m136k, m136n, m137k, m137n, m138k, m138n, m139k, m139n, m140k, m140n, m141k, m141n, m142k, m142n, m143k, m143n, m144k, m144n, m145k, m145n, m146k, m146n, k1', x1, x2]
      · simp (disch := omega) only [q_136_0, q_136_1, q_136_4, q_136_7, q_136_10, q_136_11, q_136_12, q_136_13, q_136_14, q_136_17, q_136_20, q_136_23, q_136_26, q_136_27, q_136_28, q_136_29, q_136_32, q_136_33, q_136_36, q_136_37, q_136_40, q_136_41, q_136_42, q_136_45, q_136_46, q_136_49, q_136_50, q_136_51, vinT, iClamp, clr_i, clr_l, clr_r, clr_n, true_and, and_true, or_true, true_or, false_or, or_false, iLe, iLt, iEq, iAdd, iMul, List.cons_append, List.nil_append, List.append_nil, zb0, zb1, if_true, if_false, not_true_eq_false, not_false_eq_true, Bool.false_eq_true, Nat.one_ne_zero, Nat.zero_ne_one, Nat.reduceEqDiff, Nat.reduceAdd, if_pos, if_neg, s_isPersonM, s_in0, e0, e1, m127, m128k, m128n, m129k, m129n, m130k, m130n, m131k, m131n, m132k, m132n, m133k, m133n, m134k, m134n, m135k, m135n, m136k, m136n, m137k, m137n, m138k, m138n, m139k, m139n, m140k, m140n, m141k, m141n, m142k, m142n, m143k, m143n, m144k, m144n, m145k, m145n, m146k, m146n, k1', x1, x2]
    · have e1 : b2 (inR y 5) = nI 0 := b2_f cc1
      rw [← b2_QR y 4 (by omega)] at e1
      refine ⟨σ, fun Q => ?_, h, Hi.rf σ⟩
      rw [anSc, if_pos cc0, if_neg cc1]
      simp (disch := omega) only [q_136_0, q_136_1, q_136_4, q_136_7, q_136_10, q_136_11, q_136_12, q_136_13, q_136_14, q_136_17, q_136_20, q_136_23, q_136_26, q_136_27, q_136_28, q_136_29, q_136_32, q_136_33, q_136_36, q_136_37, q_136_40, q_136_41, q_136_42, q_136_45, q_136_46, q_136_49, q_136_50, q_136_51, vinT, iClamp, clr_i, clr_l, clr_r, clr_n, true_and, and_true, or_true, true_or, false_or, or_false, iLe, iLt, iEq, iAdd, iMul, List.cons_append, List.nil_append, List.append_nil, zb0, zb1, if_true, if_false, not_true_eq_false, not_false_eq_true, Bool.false_eq_true, Nat.one_ne_zero, Nat.zero_ne_one, Nat.reduceEqDiff, Nat.reduceAdd, if_pos, if_neg, s_isPersonM, s_in0, e0, e1]
  · have e0 : b2 (inR x 7) = nI 0 := b2_f cc0
    refine ⟨σ, fun Q => ?_, h, Hi.rf σ⟩
    rw [anSc, if_neg cc0]
    simp (disch := omega) only [q_136_0, q_136_1, q_136_4, q_136_7, q_136_10, q_136_11, q_136_12, q_136_13, q_136_14, q_136_17, q_136_20, q_136_23, q_136_26, q_136_27, q_136_28, q_136_29, q_136_32, q_136_33, q_136_36, q_136_37, q_136_40, q_136_41, q_136_42, q_136_45, q_136_46, q_136_49, q_136_50, q_136_51, vinT, iClamp, clr_i, clr_l, clr_r, clr_n, true_and, and_true, or_true, true_or, false_or, or_false, iLe, iLt, iEq, iAdd, iMul, List.cons_append, List.nil_append, List.append_nil, zb0, zb1, if_true, if_false, not_true_eq_false, not_false_eq_true, Bool.false_eq_true, Nat.one_ne_zero, Nat.zero_ne_one, Nat.reduceEqDiff, Nat.reduceAdd, if_pos, if_neg, s_isPersonM, s_in0, e0]
