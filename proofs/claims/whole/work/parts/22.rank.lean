/-! ===== small questions ===== -/
abbrev inR (x : Int32) (n : Nat) : Prop := nI 0 ≤ x ∧ x < nI n
abbrev inQ (x : Int32) (n : Nat) : Prop := nI 0 ≤ x ∧ x ≤ nI n
theorem nI0_le {x : Int32} : nI 0 ≤ x ↔ ¬ x < nI 0 := Int32.not_lt.symm
theorem nI_nle' {x : Int32} {n : Nat} : x < nI n ↔ ¬ nI n ≤ x := Int32.not_le.symm
theorem inR_of {x : Int32} {n : Nat} (h : inR x n) (hn : n < 2147483648) : ∃ j, j < n ∧ x = nI j := by
  rcases pk_ix x (n := n) hn with h1 | h1 | h1
  · exact absurd (by rw [nI_0]; exact h1) (nI0_le.mp h.1)
  · exact absurd h1 (nI_nle'.mp h.2)
  · exact h1
theorem inR_nI {j n : Nat} (h : j < n) (hn : n < 2147483648) : inR (nI j) n := ⟨by rw [iLe (by omega) (by omega)]; omega, by rw [iLt (by omega) hn]; exact h⟩
theorem inQ_of {x : Int32} {n : Nat} (h : inQ x n) (hn : n < 2147483647) : ∃ j, j ≤ n ∧ x = nI j := by
  obtain ⟨j, hj, rfl⟩ := pk_ix x (n := n + 1) (by omega) |>.elim (fun h1 => absurd (by rw [nI_0]; exact h1) (nI0_le.mp h.1)) (fun q => q.elim (fun h1 => absurd (Int32.le_trans h1 h.2) (by rw [iLe (by omega) (by omega)]; omega)) (fun q => q))
  exact ⟨j, by omega, rfl⟩
theorem inQ_nI {j n : Nat} (h : j ≤ n) (hn : n < 2147483648) : inQ (nI j) n := ⟨by rw [iLe (by omega) (by omega)]; omega, by rw [iLe (by omega) hn]; exact h⟩
theorem s_isPerson {X : Nat × (Nat → Int32)} {σ : Mem} {Q : List Value → Mem → Prop} {x : Int32} : Rn X 90 0 [.int x] [] σ Q ↔ Q [.int (b2 (inR x 7))] σ := by
  by_cases c1 : x < nI 0
  · simp (disch := omega) only [q_90_0, q_90_1, q_90_4, q_90_5, q_90_7, q_90_10, q_90_11, q_90_14, q_90_15, vinT, iClamp, clr_i, clr_l, clr_r, clr_n, true_and, and_true, or_true, true_or, false_or, or_false, iLe, iLt, iEq, iAdd, iMul, List.cons_append, List.nil_append, List.append_nil, zb0, zb1, if_true, if_false, not_true_eq_false, not_false_eq_true, Bool.false_eq_true, Nat.one_ne_zero, Nat.zero_ne_one, Nat.reduceEqDiff, Nat.reduceAdd, if_pos, if_neg, c1, b2, inR, nI0_le, false_and]
  · by_cases c2 : nI 7 ≤ x
    · simp (disch := omega) only [q_90_0, q_90_1, q_90_4, q_90_5, q_90_7, q_90_10, q_90_11, q_90_14, q_90_15, vinT, iClamp, clr_i, clr_l, clr_r, clr_n, true_and, and_true, or_true, true_or, false_or, or_false, iLe, iLt, iEq, iAdd, iMul, List.cons_append, List.nil_append, List.append_nil, zb0, zb1, if_true, if_false, not_true_eq_false, not_false_eq_true, Bool.false_eq_true, Nat.one_ne_zero, Nat.zero_ne_one, Nat.reduceEqDiff, Nat.reduceAdd, if_pos, if_neg, c1, c2, b2, inR, nI0_le, nI_nle', and_false]
    · simp (disch := omega) only [q_90_0, q_90_1, q_90_4, q_90_5, q_90_7, q_90_10, q_90_11, q_90_14, q_90_15, vinT, iClamp, clr_i, clr_l, clr_r, clr_n, true_and, and_true, or_true, true_or, false_or, or_false, iLe, iLt, iEq, iAdd, iMul, List.cons_append, List.nil_append, List.append_nil, zb0, zb1, if_true, if_false, not_true_eq_false, not_false_eq_true, Bool.false_eq_true, Nat.one_ne_zero, Nat.zero_ne_one, Nat.reduceEqDiff, Nat.reduceAdd, if_pos, if_neg, c1, c2, b2, inR, nI0_le, nI_nle']
theorem s_isPaper {X : Nat × (Nat → Int32)} {σ : Mem} {Q : List Value → Mem → Prop} {x : Int32} : Rn X 91 0 [.int x] [] σ Q ↔ Q [.int (b2 (inR x 8))] σ := by
  by_cases c1 : x < nI 0
  · simp (disch := omega) only [q_91_0, q_91_1, q_91_4, q_91_5, q_91_7, q_91_10, q_91_11, q_91_14, q_91_15, vinT, iClamp, clr_i, clr_l, clr_r, clr_n, true_and, and_true, or_true, true_or, false_or, or_false, iLe, iLt, iEq, iAdd, iMul, List.cons_append, List.nil_append, List.append_nil, zb0, zb1, if_true, if_false, not_true_eq_false, not_false_eq_true, Bool.false_eq_true, Nat.one_ne_zero, Nat.zero_ne_one, Nat.reduceEqDiff, Nat.reduceAdd, if_pos, if_neg, c1, b2, inR, nI0_le, false_and]
  · by_cases c2 : nI 8 ≤ x
    · simp (disch := omega) only [q_91_0, q_91_1, q_91_4, q_91_5, q_91_7, q_91_10, q_91_11, q_91_14, q_91_15, vinT, iClamp, clr_i, clr_l, clr_r, clr_n, true_and, and_true, or_true, true_or, false_or, or_false, iLe, iLt, iEq, iAdd, iMul, List.cons_append, List.nil_append, List.append_nil, zb0, zb1, if_true, if_false, not_true_eq_false, not_false_eq_true, Bool.false_eq_true, Nat.one_ne_zero, Nat.zero_ne_one, Nat.reduceEqDiff, Nat.reduceAdd, if_pos, if_neg, c1, c2, b2, inR, nI0_le, nI_nle', and_false]
    · simp (disch := omega) only [q_91_0, q_91_1, q_91_4, q_91_5, q_91_7, q_91_10, q_91_11, q_91_14, q_91_15, vinT, iClamp, clr_i, clr_l, clr_r, clr_n, true_and, and_true, or_true, true_or, false_or, or_false, iLe, iLt, iEq, iAdd, iMul, List.cons_append, List.nil_append, List.append_nil, zb0, zb1, if_true, if_false, not_true_eq_false, not_false_eq_true, Bool.false_eq_true, Nat.one_ne_zero, Nat.zero_ne_one, Nat.reduceEqDiff, Nat.reduceAdd, if_pos, if_neg, c1, c2, b2, inR, nI0_le, nI_nle']
theorem s_isTask {X : Nat × (Nat → Int32)} {σ : Mem} {Q : List Value → Mem → Prop} {x : Int32} : Rn X 92 0 [.int x] [] σ Q ↔ Q [.int (b2 (inR x 4))] σ := by
  by_cases c1 : x < nI 0
  · simp (disch := omega) only [q_92_0, q_92_1, q_92_4, q_92_5, q_92_6, q_92_9, q_92_10, q_92_13, q_92_14, vinT, iClamp, clr_i, clr_l, clr_r, clr_n, true_and, and_true, or_true, true_or, false_or, or_false, iLe, iLt, iEq, iAdd, iMul, List.cons_append, List.nil_append, List.append_nil, zb0, zb1, if_true, if_false, not_true_eq_false, not_false_eq_true, Bool.false_eq_true, Nat.one_ne_zero, Nat.zero_ne_one, Nat.reduceEqDiff, Nat.reduceAdd, if_pos, if_neg, c1, b2, inR, nI0_le, false_and]
  · by_cases c2 : nI 4 ≤ x
    · simp (disch := omega) only [q_92_0, q_92_1, q_92_4, q_92_5, q_92_6, q_92_9, q_92_10, q_92_13, q_92_14, vinT, iClamp, clr_i, clr_l, clr_r, clr_n, true_and, and_true, or_true, true_or, false_or, or_false, iLe, iLt, iEq, iAdd, iMul, List.cons_append, List.nil_append, List.append_nil, zb0, zb1, if_true, if_false, not_true_eq_false, not_false_eq_true, Bool.false_eq_true, Nat.one_ne_zero, Nat.zero_ne_one, Nat.reduceEqDiff, Nat.reduceAdd, if_pos, if_neg, c1, c2, b2, inR, nI0_le, nI_nle', and_false]
    · simp (disch := omega) only [q_92_0, q_92_1, q_92_4, q_92_5, q_92_6, q_92_9, q_92_10, q_92_13, q_92_14, vinT, iClamp, clr_i, clr_l, clr_r, clr_n, true_and, and_true, or_true, true_or, false_or, or_false, iLe, iLt, iEq, iAdd, iMul, List.cons_append, List.nil_append, List.append_nil, zb0, zb1, if_true, if_false, not_true_eq_false, not_false_eq_true, Bool.false_eq_true, Nat.one_ne_zero, Nat.zero_ne_one, Nat.reduceEqDiff, Nat.reduceAdd, if_pos, if_neg, c1, c2, b2, inR, nI0_le, nI_nle']
theorem s_isTrade {X : Nat × (Nat → Int32)} {σ : Mem} {Q : List Value → Mem → Prop} {x : Int32} : Rn X 93 0 [.int x] [] σ Q ↔ Q [.int (b2 (inR x 3))] σ := by
  by_cases c1 : x < nI 0
  · simp (disch := omega) only [q_93_0, q_93_1, q_93_4, q_93_5, q_93_6, q_93_9, q_93_10, q_93_13, q_93_14, vinT, iClamp, clr_i, clr_l, clr_r, clr_n, true_and, and_true, or_true, true_or, false_or, or_false, iLe, iLt, iEq, iAdd, iMul, List.cons_append, List.nil_append, List.append_nil, zb0, zb1, if_true, if_false, not_true_eq_false, not_false_eq_true, Bool.false_eq_true, Nat.one_ne_zero, Nat.zero_ne_one, Nat.reduceEqDiff, Nat.reduceAdd, if_pos, if_neg, c1, b2, inR, nI0_le, false_and]
  · by_cases c2 : nI 3 ≤ x
    · simp (disch := omega) only [q_93_0, q_93_1, q_93_4, q_93_5, q_93_6, q_93_9, q_93_10, q_93_13, q_93_14, vinT, iClamp, clr_i, clr_l, clr_r, clr_n, true_and, and_true, or_true, true_or, false_or, or_false, iLe, iLt, iEq, iAdd, iMul, List.cons_append, List.nil_append, List.append_nil, zb0, zb1, if_true, if_false, not_true_eq_false, not_false_eq_true, Bool.false_eq_true, Nat.one_ne_zero, Nat.zero_ne_one, Nat.reduceEqDiff, Nat.reduceAdd, if_pos, if_neg, c1, c2, b2, inR, nI0_le, nI_nle', and_false]
    · simp (disch := omega) only [q_93_0, q_93_1, q_93_4, q_93_5, q_93_6, q_93_9, q_93_10, q_93_13, q_93_14, vinT, iClamp, clr_i, clr_l, clr_r, clr_n, true_and, and_true, or_true, true_or, false_or, or_false, iLe, iLt, iEq, iAdd, iMul, List.cons_append, List.nil_append, List.append_nil, zb0, zb1, if_true, if_false, not_true_eq_false, not_false_eq_true, Bool.false_eq_true, Nat.one_ne_zero, Nat.zero_ne_one, Nat.reduceEqDiff, Nat.reduceAdd, if_pos, if_neg, c1, c2, b2, inR, nI0_le, nI_nle']
theorem s_isCustom {X : Nat × (Nat → Int32)} {σ : Mem} {Q : List Value → Mem → Prop} {x : Int32} : Rn X 94 0 [.int x] [] σ Q ↔ Q [.int (b2 (inR x 4))] σ := by
  by_cases c1 : x < nI 0
  · simp (disch := omega) only [q_94_0, q_94_1, q_94_4, q_94_5, q_94_6, q_94_9, q_94_10, q_94_13, q_94_14, vinT, iClamp, clr_i, clr_l, clr_r, clr_n, true_and, and_true, or_true, true_or, false_or, or_false, iLe, iLt, iEq, iAdd, iMul, List.cons_append, List.nil_append, List.append_nil, zb0, zb1, if_true, if_false, not_true_eq_false, not_false_eq_true, Bool.false_eq_true, Nat.one_ne_zero, Nat.zero_ne_one, Nat.reduceEqDiff, Nat.reduceAdd, if_pos, if_neg, c1, b2, inR, nI0_le, false_and]
  · by_cases c2 : nI 4 ≤ x
    · simp (disch := omega) only [q_94_0, q_94_1, q_94_4, q_94_5, q_94_6, q_94_9, q_94_10, q_94_13, q_94_14, vinT, iClamp, clr_i, clr_l, clr_r, clr_n, true_and, and_true, or_true, true_or, false_or, or_false, iLe, iLt, iEq, iAdd, iMul, List.cons_append, List.nil_append, List.append_nil, zb0, zb1, if_true, if_false, not_true_eq_false, not_false_eq_true, Bool.false_eq_true, Nat.one_ne_zero, Nat.zero_ne_one, Nat.reduceEqDiff, Nat.reduceAdd, if_pos, if_neg, c1, c2, b2, inR, nI0_le, nI_nle', and_false]
    · simp (disch := omega) only [q_94_0, q_94_1, q_94_4, q_94_5, q_94_6, q_94_9, q_94_10, q_94_13, q_94_14, vinT, iClamp, clr_i, clr_l, clr_r, clr_n, true_and, and_true, or_true, true_or, false_or, or_false, iLe, iLt, iEq, iAdd, iMul, List.cons_append, List.nil_append, List.append_nil, zb0, zb1, if_true, if_false, not_true_eq_false, not_false_eq_true, Bool.false_eq_true, Nat.one_ne_zero, Nat.zero_ne_one, Nat.reduceEqDiff, Nat.reduceAdd, if_pos, if_neg, c1, c2, b2, inR, nI0_le, nI_nle']
theorem s_isWay {X : Nat × (Nat → Int32)} {σ : Mem} {Q : List Value → Mem → Prop} {x : Int32} : Rn X 95 0 [.int x] [] σ Q ↔ Q [.int (b2 (inR x 5))] σ := by
  by_cases c1 : x < nI 0
  · simp (disch := omega) only [q_95_0, q_95_1, q_95_4, q_95_5, q_95_6, q_95_9, q_95_10, q_95_13, q_95_14, vinT, iClamp, clr_i, clr_l, clr_r, clr_n, true_and, and_true, or_true, true_or, false_or, or_false, iLe, iLt, iEq, iAdd, iMul, List.cons_append, List.nil_append, List.append_nil, zb0, zb1, if_true, if_false, not_true_eq_false, not_false_eq_true, Bool.false_eq_true, Nat.one_ne_zero, Nat.zero_ne_one, Nat.reduceEqDiff, Nat.reduceAdd, if_pos, if_neg, c1, b2, inR, nI0_le, false_and]
  · by_cases c2 : nI 5 ≤ x
    · simp (disch := omega) only [q_95_0, q_95_1, q_95_4, q_95_5, q_95_6, q_95_9, q_95_10, q_95_13, q_95_14, vinT, iClamp, clr_i, clr_l, clr_r, clr_n, true_and, and_true, or_true, true_or, false_or, or_false, iLe, iLt, iEq, iAdd, iMul, List.cons_append, List.nil_append, List.append_nil, zb0, zb1, if_true, if_false, not_true_eq_false, not_false_eq_true, Bool.false_eq_true, Nat.one_ne_zero, Nat.zero_ne_one, Nat.reduceEqDiff, Nat.reduceAdd, if_pos, if_neg, c1, c2, b2, inR, nI0_le, nI_nle', and_false]
    · simp (disch := omega) only [q_95_0, q_95_1, q_95_4, q_95_5, q_95_6, q_95_9, q_95_10, q_95_13, q_95_14, vinT, iClamp, clr_i, clr_l, clr_r, clr_n, true_and, and_true, or_true, true_or, false_or, or_false, iLe, iLt, iEq, iAdd, iMul, List.cons_append, List.nil_append, List.append_nil, zb0, zb1, if_true, if_false, not_true_eq_false, not_false_eq_true, Bool.false_eq_true, Nat.one_ne_zero, Nat.zero_ne_one, Nat.reduceEqDiff, Nat.reduceAdd, if_pos, if_neg, c1, c2, b2, inR, nI0_le, nI_nle']
theorem s_isRule {X : Nat × (Nat → Int32)} {σ : Mem} {Q : List Value → Mem → Prop} {x : Int32} : Rn X 96 0 [.int x] [] σ Q ↔ Q [.int (b2 (inR x 3))] σ := by
  by_cases c1 : x < nI 0
  · simp (disch := omega) only [q_96_0, q_96_1, q_96_4, q_96_5, q_96_6, q_96_9, q_96_10, q_96_13, q_96_14, vinT, iClamp, clr_i, clr_l, clr_r, clr_n, true_and, and_true, or_true, true_or, false_or, or_false, iLe, iLt, iEq, iAdd, iMul, List.cons_append, List.nil_append, List.append_nil, zb0, zb1, if_true, if_false, not_true_eq_false, not_false_eq_true, Bool.false_eq_true, Nat.one_ne_zero, Nat.zero_ne_one, Nat.reduceEqDiff, Nat.reduceAdd, if_pos, if_neg, c1, b2, inR, nI0_le, false_and]
  · by_cases c2 : nI 3 ≤ x
    · simp (disch := omega) only [q_96_0, q_96_1, q_96_4, q_96_5, q_96_6, q_96_9, q_96_10, q_96_13, q_96_14, vinT, iClamp, clr_i, clr_l, clr_r, clr_n, true_and, and_true, or_true, true_or, false_or, or_false, iLe, iLt, iEq, iAdd, iMul, List.cons_append, List.nil_append, List.append_nil, zb0, zb1, if_true, if_false, not_true_eq_false, not_false_eq_true, Bool.false_eq_true, Nat.one_ne_zero, Nat.zero_ne_one, Nat.reduceEqDiff, Nat.reduceAdd, if_pos, if_neg, c1, c2, b2, inR, nI0_le, nI_nle', and_false]
    · simp (disch := omega) only [q_96_0, q_96_1, q_96_4, q_96_5, q_96_6, q_96_9, q_96_10, q_96_13, q_96_14, vinT, iClamp, clr_i, clr_l, clr_r, clr_n, true_and, and_true, or_true, true_or, false_or, or_false, iLe, iLt, iEq, iAdd, iMul, List.cons_append, List.nil_append, List.append_nil, zb0, zb1, if_true, if_false, not_true_eq_false, not_false_eq_true, Bool.false_eq_true, Nat.one_ne_zero, Nat.zero_ne_one, Nat.reduceEqDiff, Nat.reduceAdd, if_pos, if_neg, c1, c2, b2, inR, nI0_le, nI_nle']
theorem s_isSet {X : Nat × (Nat → Int32)} {σ : Mem} {Q : List Value → Mem → Prop} {x : Int32} : Rn X 97 0 [.int x] [] σ Q ↔ Q [.int (b2 (inR x 128))] σ := by
  by_cases c1 : x < nI 0
  · simp (disch := omega) only [q_97_0, q_97_1, q_97_4, q_97_5, q_97_8, q_97_11, q_97_12, q_97_15, q_97_16, vinT, iClamp, clr_i, clr_l, clr_r, clr_n, true_and, and_true, or_true, true_or, false_or, or_false, iLe, iLt, iEq, iAdd, iMul, List.cons_append, List.nil_append, List.append_nil, zb0, zb1, if_true, if_false, not_true_eq_false, not_false_eq_true, Bool.false_eq_true, Nat.one_ne_zero, Nat.zero_ne_one, Nat.reduceEqDiff, Nat.reduceAdd, if_pos, if_neg, c1, b2, inR, nI0_le, false_and]
  · by_cases c2 : nI 128 ≤ x
    · simp (disch := omega) only [q_97_0, q_97_1, q_97_4, q_97_5, q_97_8, q_97_11, q_97_12, q_97_15, q_97_16, vinT, iClamp, clr_i, clr_l, clr_r, clr_n, true_and, and_true, or_true, true_or, false_or, or_false, iLe, iLt, iEq, iAdd, iMul, List.cons_append, List.nil_append, List.append_nil, zb0, zb1, if_true, if_false, not_true_eq_false, not_false_eq_true, Bool.false_eq_true, Nat.one_ne_zero, Nat.zero_ne_one, Nat.reduceEqDiff, Nat.reduceAdd, if_pos, if_neg, c1, c2, b2, inR, nI0_le, nI_nle', and_false]
    · simp (disch := omega) only [q_97_0, q_97_1, q_97_4, q_97_5, q_97_8, q_97_11, q_97_12, q_97_15, q_97_16, vinT, iClamp, clr_i, clr_l, clr_r, clr_n, true_and, and_true, or_true, true_or, false_or, or_false, iLe, iLt, iEq, iAdd, iMul, List.cons_append, List.nil_append, List.append_nil, zb0, zb1, if_true, if_false, not_true_eq_false, not_false_eq_true, Bool.false_eq_true, Nat.one_ne_zero, Nat.zero_ne_one, Nat.reduceEqDiff, Nat.reduceAdd, if_pos, if_neg, c1, c2, b2, inR, nI0_le, nI_nle']
theorem s_isWithin {X : Nat × (Nat → Int32)} {σ : Mem} {Q : List Value → Mem → Prop} {x : Int32} {n : Nat} : Rn X 89 0 [.int x, .int (nI n)] [] σ Q ↔ Q [.int (b2 (inQ x n))] σ := by
  by_cases c1 : x < nI 0
  · simp (disch := omega) only [q_89_0, q_89_1, q_89_4, q_89_5, q_89_6, q_89_9, q_89_10, q_89_13, q_89_14, vinT, iClamp, clr_i, clr_l, clr_r, clr_n, true_and, and_true, or_true, true_or, false_or, or_false, iLe, iLt, iEq, iAdd, iMul, List.cons_append, List.nil_append, List.append_nil, zb0, zb1, if_true, if_false, not_true_eq_false, not_false_eq_true, Bool.false_eq_true, Nat.one_ne_zero, Nat.zero_ne_one, Nat.reduceEqDiff, Nat.reduceAdd, if_pos, if_neg, c1, b2, inQ, nI0_le, false_and]
  · by_cases c2 : nI n < x
    · have c3 : ¬ x ≤ nI n := Int32.not_le.mpr c2
      simp (disch := omega) only [q_89_0, q_89_1, q_89_4, q_89_5, q_89_6, q_89_9, q_89_10, q_89_13, q_89_14, vinT, iClamp, clr_i, clr_l, clr_r, clr_n, true_and, and_true, or_true, true_or, false_or, or_false, iLe, iLt, iEq, iAdd, iMul, List.cons_append, List.nil_append, List.append_nil, zb0, zb1, if_true, if_false, not_true_eq_false, not_false_eq_true, Bool.false_eq_true, Nat.one_ne_zero, Nat.zero_ne_one, Nat.reduceEqDiff, Nat.reduceAdd, if_pos, if_neg, c1, c2, c3, b2, inQ, nI0_le, and_false]
    · have c3 : x ≤ nI n := Int32.not_lt.mp c2
      simp (disch := omega) only [q_89_0, q_89_1, q_89_4, q_89_5, q_89_6, q_89_9, q_89_10, q_89_13, q_89_14, vinT, iClamp, clr_i, clr_l, clr_r, clr_n, true_and, and_true, or_true, true_or, false_or, or_false, iLe, iLt, iEq, iAdd, iMul, List.cons_append, List.nil_append, List.append_nil, zb0, zb1, if_true, if_false, not_true_eq_false, not_false_eq_true, Bool.false_eq_true, Nat.one_ne_zero, Nat.zero_ne_one, Nat.reduceEqDiff, Nat.reduceAdd, if_pos, if_neg, c1, c2, c3, b2, inQ, nI0_le]
theorem sh_cnt : ∀ m, m < 8 → ((nI m &&& 31).toBitVec.smod 32).toNat = m := by decide
theorem bit_at {s m : Nat} (hs : s < 2147483648) (hm : m < 8) : (nI s >>> (nI m &&& 31)) &&& nI 1 = nI (s / 2 ^ m % 2) := by
  rw [pk_shrN hs _ m (sh_cnt m hm)]
  have h := pk_andN (n := s / 2 ^ m) (m := nI 1) (by have := Nat.div_le_self s (2 ^ m); omega) 1 (by decide)
  rw [h]
theorem one_shl {x : Nat} (hx : x < 8) : nI 1 <<< (nI x &&& 31) = nI (2 ^ x) := by
  have h := pk_shlN (n := 1) (nI x &&& 31) x (sh_cnt x hx) (by have : 2 ^ x ≤ 2 ^ 7 := Nat.pow_le_pow_right (by omega) (by omega); omega)
  rw [h, Nat.one_mul]
abbrev bitN (s m : Nat) : Prop := s / 2 ^ m % 2 = 1
theorem s_isIn {X : Nat × (Nat → Int32)} {σ : Mem} {Q : List Value → Mem → Prop} {s m : Nat} (hs : s < 2147483648) (hm : m < 8) : Rn X 98 0 [.int (nI s), .int (nI m)] [] σ Q ↔ Q [.int (b2 (bitN s m))] σ := by
  have h2 : s / 2 ^ m % 2 < 2 := Nat.mod_lt _ (by omega)
  by_cases c : s / 2 ^ m % 2 = 1
  · simp (disch := omega) only [q_98_0, q_98_1, q_98_2, q_98_3, q_98_4, q_98_5, q_98_6, q_98_9, q_98_10, q_98_13, q_98_14, vinT, iClamp, clr_i, clr_l, clr_r, clr_n, true_and, and_true, or_true, true_or, false_or, or_false, iLe, iLt, iEq, iAdd, iMul, List.cons_append, List.nil_append, List.append_nil, zb0, zb1, if_true, if_false, not_true_eq_false, not_false_eq_true, Bool.false_eq_true, Nat.one_ne_zero, Nat.zero_ne_one, Nat.reduceEqDiff, Nat.reduceAdd, if_pos, if_neg, bit_at hs hm, c, b2, bitN]
  · have c0 : s / 2 ^ m % 2 = 0 := by omega
    simp (disch := omega) only [q_98_0, q_98_1, q_98_2, q_98_3, q_98_4, q_98_5, q_98_6, q_98_9, q_98_10, q_98_13, q_98_14, vinT, iClamp, clr_i, clr_l, clr_r, clr_n, true_and, and_true, or_true, true_or, false_or, or_false, iLe, iLt, iEq, iAdd, iMul, List.cons_append, List.nil_append, List.append_nil, zb0, zb1, if_true, if_false, not_true_eq_false, not_false_eq_true, Bool.false_eq_true, Nat.one_ne_zero, Nat.zero_ne_one, Nat.reduceEqDiff, Nat.reduceAdd, if_pos, if_neg, bit_at hs hm, c0, b2, bitN, show ¬ (0 : Nat) = 1 by omega]
/-- the set of those at places i on -/
def mbF (f : Nat → Nat) (i : Nat) : Nat → Nat → Nat
  | 0, a => a
  | n + 1, a => mbF f (i + 1) n (a ||| 2 ^ f i)
theorem l_members {X : Nat × (Nat → Int32)} {σ : Mem} {Q : List Value → Mem → Prop} {r : Nat} {l : List Nat} (hr : cK r = 5) (h : RI σ r l) : ∀ n i a, i + n = l.length → (Rn X 41 4 [.ref r, .int (nI a), .int (nI i)] [] σ Q ↔ Q [.int (nI (mbF (fun j => l.getD j 0) i n a))] σ) := by
  obtain ⟨f1, f2⟩ := F5 hr
  obtain ⟨h1, h2, h3⟩ := h
  intro n
  induction n with
  | zero =>
    intro i a hi
    rw [q_41_4]
    simp (disch := omega) only [q_41_0, q_41_1, q_41_2, q_41_3, q_41_5, q_41_6, q_41_9, q_41_12, q_41_13, q_41_14, q_41_15, q_41_18, q_41_19, q_41_20, q_41_21, q_41_22, q_41_23, q_41_26, q_41_29, q_41_30, vinT, iClamp, clr_i, clr_l, clr_r, clr_n, true_and, and_true, or_true, true_or, false_or, or_false, iLe, iLt, iEq, iAdd, iMul, List.cons_append, List.nil_append, List.append_nil, zb0, zb1, if_true, if_false, not_true_eq_false, not_false_eq_true, Bool.false_eq_true, Nat.one_ne_zero, Nat.zero_ne_one, Nat.reduceEqDiff, Nat.reduceAdd, if_pos, if_neg, hr, h2, mbF]
  | succ n ih =>
    intro i a hi
    rw [q_41_4, mbF]
    have h9 := (h3 i (by omega)).2
    simp (disch := omega) only [q_41_0, q_41_1, q_41_2, q_41_3, q_41_5, q_41_6, q_41_9, q_41_12, q_41_13, q_41_14, q_41_15, q_41_18, q_41_19, q_41_20, q_41_21, q_41_22, q_41_23, q_41_26, q_41_29, q_41_30, vinT, iClamp, clr_i, clr_l, clr_r, clr_n, true_and, and_true, or_true, true_or, false_or, or_false, iLe, iLt, iEq, iAdd, iMul, List.cons_append, List.nil_append, List.append_nil, zb0, zb1, if_true, if_false, not_true_eq_false, not_false_eq_true, Bool.false_eq_true, Nat.one_ne_zero, Nat.zero_ne_one, Nat.reduceEqDiff, Nat.reduceAdd, if_pos, if_neg, hr, h2, f1, f2, (h3 i (by omega)).1, one_shl, fa_or]
    rw [ih (i + 1) _ (by omega)]
theorem s_members {X : Nat × (Nat → Int32)} {σ : Mem} {Q : List Value → Mem → Prop} {r : Nat} {l : List Nat} {v w : Value} (hr : cK r = 5) (h : RI σ r l) : Rn X 41 0 [.ref r, v, w] [] σ Q ↔ Q [.int (nI (mbF (fun j => l.getD j 0) 0 l.length 0))] σ := by
  simp only [q_41_0, q_41_1, q_41_2, q_41_3, clr_r, clr_i, l_members hr h l.length 0 0 (by omega)]
/-! ===== Ranking ===== -/
theorem kk4 : ∀ k, k < 147 → cK k = 4 → (cK (k + 1) = 5 ∧ cK (k + 3) = 11 ∧ cN (k + 3) = 7) := by decide +kernel
theorem F4 {k : Nat} (h : cK k = 4) : cK (k + 1) = 5 ∧ cK (k + 3) = 11 ∧ cN (k + 3) = 7 := kk4 k (cK_lt h (by omega)) h
/-- x comes ahead of s by the numbers N: the greater number, of like ones the lesser person -/
def ah (N : Nat → Int64) (x s : Nat) : Bool := decide (N s < N x) || (decide (N s = N x) && decide (x < s))
theorem s_isLess {X : Nat × (Nat → Int32)} {σ : Mem} {Q : List Value → Mem → Prop} {q p x : Nat} {l : List Nat} {v : Value} (hq : cK q = 4) (h : RI σ (q + 1) l) (hp : p < l.length) (hx : x < 7) : Rn X 34 0 [.ref q, .int (nI p), .int (nI x), v] [] σ Q ↔ Q [.int (b2 (ah (σ.2 (q + 3)) x (l.getD p 0) = true))] σ := by
  obtain ⟨f1, f2, f3⟩ := F4 hq
  obtain ⟨f4, f5⟩ := F5 f1
  obtain ⟨h1, h2, h3⟩ := h
  have h9 := (h3 p hp).2
  simp (disch := omega) only [q_34_0, q_34_1, q_34_4, q_34_7, q_34_8, q_34_9, q_34_10, q_34_11, q_34_14, q_34_15, q_34_16, q_34_17, q_34_20, q_34_21, q_34_22, q_34_23, q_34_26, q_34_27, q_34_30, q_34_31, q_34_32, q_34_33, q_34_36, q_34_37, q_34_38, q_34_39, q_34_42, q_34_43, q_34_46, q_34_47, q_34_48, q_34_49, q_34_50, q_34_53, q_34_54, q_34_57, q_34_58, vinT, iClamp, clr_i, clr_l, clr_r, clr_n, true_and, and_true, or_true, true_or, false_or, or_false, iLe, iLt, iEq, iAdd, iMul, List.cons_append, List.nil_append, List.append_nil, zb0, zb1, if_true, if_false, not_true_eq_false, not_false_eq_true, Bool.false_eq_true, Nat.one_ne_zero, Nat.zero_ne_one, Nat.reduceEqDiff, Nat.reduceAdd, if_pos, if_neg, hq, f1, f2, f3, f4, f5, (h3 p hp).1, lc_eq, lc_ge]
  generalize l.getD p 0 = s at h9 ⊢
  generalize σ.2 (q + 3) = N
  by_cases c1 : N s = N x
  · rw [if_pos c1]
    by_cases c2 : x < s
    · rw [if_neg (by omega), b2_t (by simp [ah, c1, c2])]
    · rw [if_pos (by omega), b2_f (by simp [ah, c1, c2])]
  · rw [if_neg c1]
    by_cases c2 : N s < N x
    · rw [if_neg (by simp [c2]), b2_t (by simp [ah, c2])]
    · rw [if_pos c2, b2_f (by simp [ah, c1, c2])]
/-- where x comes to stand: leftwards as long as it comes ahead; A is turned about -/
def insA (P : Nat → Bool) (x : Nat) : List Nat → List Nat → List Nat
  | [], B => x :: B
  | y :: r, B => if P y = true then insA P x r (y :: B) else (y :: r).reverse ++ x :: B
def insL (P : Nat → Bool) (x : Nat) (l : List Nat) : List Nat := insA P x l.reverse []
theorem insA_len (P : Nat → Bool) (x : Nat) : ∀ A B, (insA P x A B).length = A.length + B.length + 1
  | [], B => by simp [insA]
  | y :: r, B => by
    rw [insA]
    by_cases c : P y = true
    · rw [if_pos c, insA_len P x r (y :: B)]
      simp; omega
    · rw [if_neg c]
      simp; omega
theorem insL_len (P : Nat → Bool) (x : Nat) (l : List Nat) : (insL P x l).length = l.length + 1 := by simp [insL, insA_len]
theorem sub2 : ∀ n, n < 8 → nI (n + 1) - nI 2 = nI n + (-1) := by decide
theorem neg1_lt : (nI 0 + (-1) : Int32) < nI 0 := by decide
theorem l_put {X : Nat × (Nat → Int32)} {q x : Nat} {v : Int64} (hq : cK q = 4) (hx : x < 7) : ∀ (A B : List Nat) (σ : Mem), RI σ (q + 1) (A.reverse ++ x :: B) → ∃ σ', (∀ Q, Rn X 33 34 [.ref q, .int (nI x), .long v, .null, .int (nI A.length + (-1))] [] σ Q ↔ Q [] σ') ∧ RI σ' (q + 1) (insA (ah (σ.2 (q + 3)) x) x A B) ∧ Off [q + 2] σ σ' := by
  obtain ⟨f1, f2, f3⟩ := F4 hq
  intro A
  induction A with
  | nil =>
    intro B σ h
    refine ⟨σ, fun Q => ?_, h, Off.rf _ _⟩
    rw [q_33_34]
    simp (disch := omega) only [q_33_0, q_33_1, q_33_4, q_33_7, q_33_8, q_33_9, q_33_12, q_33_13, q_33_14, q_33_15, q_33_16, q_33_19, q_33_20, q_33_23, q_33_24, q_33_27, q_33_30, q_33_31, q_33_32, q_33_36, q_33_39, q_33_40, q_33_42, q_33_43, q_33_46, q_33_49, q_33_50, q_33_53, q_33_55, q_33_58, q_33_61, q_33_64, vinT, iClamp, clr_i, clr_l, clr_r, clr_n, true_and, and_true, or_true, true_or, false_or, or_false, iLe, iLt, iEq, iAdd, iMul, List.cons_append, List.nil_append, List.append_nil, zb0, zb1, if_true, if_false, not_true_eq_false, not_false_eq_true, Bool.false_eq_true, Nat.one_ne_zero, Nat.zero_ne_one, Nat.reduceEqDiff, Nat.reduceAdd, if_pos, if_neg, List.length_nil, neg1_lt]
  | cons y A ih =>
    intro B σ h
    have hl := h.1
    simp at hl
    have hp : A.length < ((y :: A).reverse ++ x :: B).length := by simp <;> omega
    have hg : ((y :: A).reverse ++ x :: B).getD A.length 0 = y := by
      rw [List.reverse_cons, List.append_assoc, gD_r (by simp)]
      simp
    have hn : nI (y :: A).length + (-1) = nI A.length := pk_m1 A.length
    by_cases c : ah (σ.2 (q + 3)) x y = true
    · have hsw : swp ((y :: A).reverse ++ x :: B) A.length = A.reverse ++ x :: (y :: B) := by
        have := swp_mid A.reverse B y x
        rw [List.length_reverse] at this
        rw [← this, List.reverse_cons, List.append_assoc]
        rfl
      obtain ⟨σ1, e1, e2, e3⟩ := s_change (X := X) (v := .null) f1 h (p := A.length) (by simp <;> omega)
      rw [hsw] at e2
      obtain ⟨σ', g1, g2, g3⟩ := ih (y :: B) σ1 e2
      have hN : σ1.2 (q + 3) = σ.2 (q + 3) := (e3 (q + 3) (by simp)).2
      refine ⟨σ', fun Q => ?_, ?_, ?_⟩
      · rw [q_33_34, hn]
        have e1' := fun Q => e1 Q
        simp (disch := omega) only [q_33_0, q_33_1, q_33_4, q_33_7, q_33_8, q_33_9, q_33_12, q_33_13, q_33_14, q_33_15, q_33_16, q_33_19, q_33_20, q_33_23, q_33_24, q_33_27, q_33_30, q_33_31, q_33_32, q_33_36, q_33_39, q_33_40, q_33_42, q_33_43, q_33_46, q_33_49, q_33_50, q_33_53, q_33_55, q_33_58, q_33_61, q_33_64, vinT, iClamp, clr_i, clr_l, clr_r, clr_n, true_and, and_true, or_true, true_or, false_or, or_false, iLe, iLt, iEq, iAdd, iMul, List.cons_append, List.nil_append, List.append_nil, zb0, zb1, if_true, if_false, not_true_eq_false, not_false_eq_true, Bool.false_eq_true, Nat.one_ne_zero, Nat.zero_ne_one, Nat.reduceEqDiff, Nat.reduceAdd, if_pos, if_neg, hq, f1, s_isLess hq h hp hx, hg, b2_0, c, e1']
        exact g1 Q
      · rw [insA, if_pos c, ← hN]
        exact g2
      · exact (e3.mono (by simp)).tr g3
    · refine ⟨σ, fun Q => ?_, ?_, Off.rf _ _⟩
      · rw [q_33_34, hn]
        simp (disch := omega) only [q_33_0, q_33_1, q_33_4, q_33_7, q_33_8, q_33_9, q_33_12, q_33_13, q_33_14, q_33_15, q_33_16, q_33_19, q_33_20, q_33_23, q_33_24, q_33_27, q_33_30, q_33_31, q_33_32, q_33_36, q_33_39, q_33_40, q_33_42, q_33_43, q_33_46, q_33_49, q_33_50, q_33_53, q_33_55, q_33_58, q_33_61, q_33_64, vinT, iClamp, clr_i, clr_l, clr_r, clr_n, true_and, and_true, or_true, true_or, false_or, or_false, iLe, iLt, iEq, iAdd, iMul, List.cons_append, List.nil_append, List.append_nil, zb0, zb1, if_true, if_false, not_true_eq_false, not_false_eq_true, Bool.false_eq_true, Nat.one_ne_zero, Nat.zero_ne_one, Nat.reduceEqDiff, Nat.reduceAdd, if_pos, if_neg, hq, f1, s_isLess hq h hp hx, hg, b2_0, c]
      · rw [insA, if_neg c]
        exact h
theorem s_put {X : Nat × (Nat → Int32)} {σ : Mem} {q x : Nat} {v : Int64} {l : List Nat} {w : Value} (hq : cK q = 4) (hx : x < 7) (h : RI σ (q + 1) l) (hl : l.length < 7) : ∃ σ', Ev X 33 [.ref q, .int (nI x), .long v, .null, w] σ [] σ' ∧ RI σ' (q + 1) (insL (ah (vp_updL (σ.2 (q + 3)) x v) x) x l) ∧ σ'.2 (q + 3) = vp_updL (σ.2 (q + 3)) x v ∧ Off [q + 1, q + 2, q + 3] σ σ' := by
  obtain ⟨f1, f2, f3⟩ := F4 hq
  have h' : RI (sL σ (q + 3) x v) (q + 1) l := h
  obtain ⟨σ1, e1, e2, e3, e4⟩ := s_append (X := X) (q := x) f1 h' hx hl
  obtain ⟨σ', g1, g2, g3⟩ := l_put (X := X) (v := v) hq hx l.reverse [] σ1 (by rw [List.reverse_reverse]; exact e2)
  have hN : σ1.2 (q + 3) = vp_updL (σ.2 (q + 3)) x v := by
    rw [(e3 (q + 3) (by simp)).2, sL_upd]
  refine ⟨σ', fun Q => ?_, ?_, ?_, ?_⟩
  · have e1' := fun Q => e1 Q
    have hin : inR (nI x) 7 := inR_nI hx (by omega)
    simp (disch := omega) only [q_33_0, q_33_1, q_33_4, q_33_7, q_33_8, q_33_9, q_33_12, q_33_13, q_33_14, q_33_15, q_33_16, q_33_19, q_33_20, q_33_23, q_33_24, q_33_27, q_33_30, q_33_31, q_33_32, q_33_36, q_33_39, q_33_40, q_33_42, q_33_43, q_33_46, q_33_49, q_33_50, q_33_53, q_33_55, q_33_58, q_33_61, q_33_64, vinT, iClamp, clr_i, clr_l, clr_r, clr_n, true_and, and_true, or_true, true_or, false_or, or_false, iLe, iLt, iEq, iAdd, iMul, List.cons_append, List.nil_append, List.append_nil, zb0, zb1, if_true, if_false, not_true_eq_false, not_false_eq_true, Bool.false_eq_true, Nat.one_ne_zero, Nat.zero_ne_one, Nat.reduceEqDiff, Nat.reduceAdd, if_pos, if_neg, hq, f1, f2, f3, s_isPerson, b2_t hin, e1', e2.2.1, List.length_append, List.length_cons, List.length_nil, Nat.zero_add, sub2]
    have := g1 Q
    rw [List.length_reverse] at this
    exact this
  · rw [hN] at g2
    exact g2
  · rw [(g3 (q + 3) (by simp)).2, hN]
  · exact (((Off.rf _ σ).sL (by simp) _ _).tr (e3.mono (by simp))).tr (g3.mono (by simp))
