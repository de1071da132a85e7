/-! ===== the reference: its state ===== -/
theorem m127 : cK 127 = 7 := by decide
theorem m128k : cK 128 = 10 := by decide
theorem m128n : cN 128 = 8 := by decide
theorem m129k : cK 129 = 10 := by decide
theorem m129n : cN 129 = 32 := by decide
theorem m130k : cK 130 = 10 := by decide
theorem m130n : cN 130 = 32 := by decide
theorem m131k : cK 131 = 10 := by decide
theorem m131n : cN 131 = 224 := by decide
theorem m132k : cK 132 = 10 := by decide
theorem m132n : cN 132 = 8 := by decide
theorem m133k : cK 133 = 10 := by decide
theorem m133n : cN 133 = 56 := by decide
theorem m134k : cK 134 = 11 := by decide
theorem m134n : cN 134 = 7 := by decide
theorem m135k : cK 135 = 10 := by decide
theorem m135n : cN 135 = 3 := by decide
theorem m136k : cK 136 = 10 := by decide
theorem m136n : cN 136 = 7 := by decide
theorem m137k : cK 137 = 10 := by decide
theorem m137n : cN 137 = 7 := by decide
theorem m138k : cK 138 = 11 := by decide
theorem m138n : cN 138 = 7 := by decide
theorem m139k : cK 139 = 11 := by decide
theorem m139n : cN 139 = 7 := by decide
theorem m140k : cK 140 = 10 := by decide
theorem m140n : cN 140 = 56 := by decide
theorem m141k : cK 141 = 11 := by decide
theorem m141n : cN 141 = 7 := by decide
theorem m142k : cK 142 = 10 := by decide
theorem m142n : cN 142 = 49 := by decide
theorem m143k : cK 143 = 10 := by decide
theorem m143n : cN 143 = 7 := by decide
theorem m144k : cK 144 = 10 := by decide
theorem m144n : cN 144 = 7 := by decide
theorem m145k : cK 145 = 10 := by decide
theorem m145n : cN 145 = 7 := by decide
theorem m146k : cK 146 = 10 := by decide
theorem m146n : cN 146 = 7 := by decide
abbrev PN : Type := (Nat → Nat) × (Nat → Nat → Nat)
def AP (a : AS) (p : Nat) : Prop := tr a p < 3 ∧ okW (wt a p) ∧ okH (hr a p) ∧ (∀ t, t < 4 → co a p t ≤ 50) ∧ (∀ q, q < 7 → cl a p q ≤ 100) ∧ (ro a p).length ≤ 7 ∧ (∀ j, j < (ro a p).length → (ro a p).getD j 0 < 7) ∧ (ro a p).Nodup
def AOK (a : AS) : Prop := (∀ p, p < 8 → AP a p) ∧ (∀ t, t < 3 → okI (rm a t)) ∧ (∀ x, x < 7 → ∀ y, y < 7 → mi a x y ≤ 9) ∧ (∀ x, x < 7 → be a x ≤ 60)
theorem CI_ok {σ : Mem} {a : AS} (h : CI σ a) : AOK a := by
  obtain ⟨h1, h2, h3⟩ := h
  refine ⟨fun p hp => ?_, fun t ht => (h2 t ht).2, fun x hx y hy => (h3.1 x hx y hy).2, fun x hx => (h3.2 x hx).2⟩
  obtain ⟨⟨q1, q2⟩, ⟨y1, y2, y3, y4⟩, q4, q5, q6, q7, q8⟩ := h1 p hp
  exact ⟨q2, y3, y4, fun t ht => (q5 t ht).2, fun q hq => (q6 q hq).2, q7.1, fun j hj => (q7.2.2 j hj).2, q8⟩
def MI (σ : Mem) (a : AS) : Prop :=
  (∀ p, p < 8 → σ.1 128 p = nI (tr a p)) ∧
  (∀ p, p < 8 → ∀ t, t < 4 → σ.1 129 (4 * p + t) = nI (wt a p t)) ∧
  (∀ p, p < 8 → ∀ t, t < 4 → σ.1 130 (4 * p + t) = nI (co a p t)) ∧
  (∀ p, p < 8 → ∀ t, t < 4 → ∀ q, q < 7 → σ.1 131 (7 * (4 * p + t) + q) = nI (hr a p t q)) ∧
  (∀ p, p < 8 → σ.1 132 p = nI (ro a p).length) ∧
  (∀ p, p < 8 → ∀ j, j < (ro a p).length → σ.1 133 (7 * p + j) = nI ((ro a p).getD j 0)) ∧
  (∀ t, t < 3 → σ.1 135 t = rm a t) ∧
  (∀ p, p < 8 → ∀ q, q < 7 → σ.1 140 (7 * p + q) = nI (cl a p q)) ∧
  (∀ x, x < 7 → ∀ y, y < 7 → σ.1 142 (7 * x + y) = nI (mi a x y)) ∧
  (∀ x, x < 7 → σ.1 143 x = nI (be a x))
theorem MI_eq {σ σ' : Mem} {a : AS} (h : MI σ a) (e : ∀ b, b ∈ ([128, 129, 130, 131, 132, 133, 135, 140, 142, 143] : List Nat) → σ'.1 b = σ.1 b) : MI σ' a := by
  obtain ⟨m1, m2, m3, m4, m5, m6, m7, m8, m9, m10⟩ := h
  refine ⟨?_, ?_, ?_, ?_, ?_, ?_, ?_, ?_, ?_, ?_⟩
  · rw [e 128 (by simp)]; exact m1
  · rw [e 129 (by simp)]; exact m2
  · rw [e 130 (by simp)]; exact m3
  · rw [e 131 (by simp)]; exact m4
  · rw [e 132 (by simp)]; exact m5
  · rw [e 133 (by simp)]; exact m6
  · rw [e 135 (by simp)]; exact m7
  · rw [e 140 (by simp)]; exact m8
  · rw [e 142 (by simp)]; exact m9
  · rw [e 143 (by simp)]; exact m10
/-- the reference's cells that hold nothing between calls -/
def SCM : List Nat := [127, 134, 136, 137, 138, 139, 141, 144, 145, 146]
theorem SCM_ge : ∀ b, b ∈ SCM → 127 ≤ b := by decide
theorem SCM_off : ∀ b, b ∈ ([128, 129, 130, 131, 132, 133, 135, 140, 142, 143] : List Nat) → b ∉ SCM := by decide
theorem MI_scr {σ σ' : Mem} {a : AS} (h : MI σ a) (ho : Off SCM σ σ') : MI σ' a := MI_eq h (fun b hb => (ho b (SCM_off b hb)).1)
theorem MI_lo {σ σ' : Mem} {a : AS} (h : MI σ a) (ho : Lo σ σ') : MI σ' a := MI_eq h (fun b hb => (ho b (by simp at hb; omega)).1)
theorem Hi.tr {σ σ1 σ2 : Mem} (h1 : Hi σ σ1) (h2 : Hi σ1 σ2) : Hi σ σ2 := fun b hb => ⟨(h2 b hb).1.trans (h1 b hb).1, (h2 b hb).2.trans (h1 b hb).2⟩
/-! numbers within -/
theorem s_in {X : Nat × (Nat → Int32)} {σ : Mem} {Q : List Value → Mem → Prop} {x y z : Int64} {v1 v3 v5 : Value} : Rn X 101 0 [.long x, v1, .long y, v3, .long z, v5] [] σ Q ↔ Q [.int (b2 (y ≤ x ∧ x ≤ z))] σ := by
  by_cases c1 : x < y
  · have c2 : ¬ y ≤ x := Int64.not_le.mpr c1
    simp (disch := omega) only [q_101_0, q_101_1, q_101_2, q_101_3, q_101_6, q_101_7, q_101_9, q_101_10, q_101_13, q_101_14, q_101_17, q_101_18, vinT, iClamp, clr_i, clr_l, clr_r, clr_n, true_and, and_true, or_true, true_or, false_or, or_false, iLe, iLt, iEq, iAdd, iMul, List.cons_append, List.nil_append, List.append_nil, zb0, zb1, if_true, if_false, not_true_eq_false, not_false_eq_true, Bool.false_eq_true, Nat.one_ne_zero, Nat.zero_ne_one, Nat.reduceEqDiff, Nat.reduceAdd, if_pos, if_neg, lc_lt, lc_gt, c1, c2, b2, false_and]
  · have c2 : y ≤ x := Int64.not_lt.mp c1
    by_cases c3 : z < x
    · have c4 : ¬ x ≤ z := Int64.not_le.mpr c3
      simp (disch := omega) only [q_101_0, q_101_1, q_101_2, q_101_3, q_101_6, q_101_7, q_101_9, q_101_10, q_101_13, q_101_14, q_101_17, q_101_18, vinT, iClamp, clr_i, clr_l, clr_r, clr_n, true_and, and_true, or_true, true_or, false_or, or_false, iLe, iLt, iEq, iAdd, iMul, List.cons_append, List.nil_append, List.append_nil, zb0, zb1, if_true, if_false, not_true_eq_false, not_false_eq_true, Bool.false_eq_true, Nat.one_ne_zero, Nat.zero_ne_one, Nat.reduceEqDiff, Nat.reduceAdd, if_pos, if_neg, lc_lt, lc_gt, c1, c2, c3, c4, b2, and_false]
    · have c4 : x ≤ z := Int64.not_lt.mp c3
      simp (disch := omega) only [q_101_0, q_101_1, q_101_2, q_101_3, q_101_6, q_101_7, q_101_9, q_101_10, q_101_13, q_101_14, q_101_17, q_101_18, vinT, iClamp, clr_i, clr_l, clr_r, clr_n, true_and, and_true, or_true, true_or, false_or, or_false, iLe, iLt, iEq, iAdd, iMul, List.cons_append, List.nil_append, List.append_nil, zb0, zb1, if_true, if_false, not_true_eq_false, not_false_eq_true, Bool.false_eq_true, Nat.one_ne_zero, Nat.zero_ne_one, Nat.reduceEqDiff, Nat.reduceAdd, if_pos, if_neg, lc_lt, lc_gt, c1, c2, c3, c4, b2]
theorem wGe {x : Int32} {n : Nat} (hn : n < 2147483648) : lN n ≤ x.toInt64 ↔ nI n ≤ x := by rw [← i2L hn, fa_wide_le]
theorem wLe {x : Int32} {n : Nat} (hn : n < 2147483648) : x.toInt64 ≤ lN n ↔ x ≤ nI n := by rw [← i2L hn, fa_wide_le]
theorem le_lt1 {x : Int32} {n : Nat} (hn : n < 2147483647) : x ≤ nI n ↔ x < nI (n + 1) := by
  rw [Int32.le_iff_toInt_le, Int32.lt_iff_toInt_lt, nI_toInt (by omega), nI_toInt (by omega)]
  omega
theorem s_in0 {X : Nat × (Nat → Int32)} {σ : Mem} {Q : List Value → Mem → Prop} {x : Int32} {n : Nat} {v1 v3 v5 : Value} (hn : n < 2147483648) : Rn X 101 0 [.long x.toInt64, v1, .long (lN 0), v3, .long (lN n), v5] [] σ Q ↔ Q [.int (b2 (inQ x n))] σ := by
  rw [s_in, b2_c (show (lN 0 ≤ x.toInt64 ∧ x.toInt64 ≤ lN n) ↔ inQ x n by rw [wGe (by omega), wLe hn])]
theorem inL1 {x : Int32} {l : Nat} (hl : l < 1000) : (nI 0 ≤ x ∧ x ≤ nI l - nI 1) ↔ inR x l := by
  by_cases c : l = 0
  · subst c
    have e : ∀ y : Int32, y ≤ nI 0 - nI 1 → y < nI 0 := fun y hy => by
      have e2 : (nI 0 - nI 1 : Int32).toInt = -1 := by decide
      rw [Int32.le_iff_toInt_le, e2] at hy
      rw [Int32.lt_iff_toInt_lt, nI_toInt (by omega)]
      omega
    exact ⟨fun q => absurd (e x q.2) (Int32.not_lt.mpr q.1), fun q => absurd q.2 (Int32.not_lt.mpr q.1)⟩
  · rw [iSub (by omega), le_lt1 (by omega), show l - 1 + 1 = l by omega]
theorem s_inL {X : Nat × (Nat → Int32)} {σ : Mem} {Q : List Value → Mem → Prop} {x : Int32} {l : Nat} {v1 v3 v5 : Value} (hl : l < 1000) : Rn X 101 0 [.long x.toInt64, v1, .long (lN 0), v3, .long (nI l - nI 1).toInt64, v5] [] σ Q ↔ Q [.int (b2 (inR x l))] σ := by
  rw [s_in, b2_c (show (lN 0 ≤ x.toInt64 ∧ x.toInt64 ≤ (nI l - nI 1).toInt64) ↔ inR x l by rw [wGe (by omega), fa_wide_le, inL1 hl])]
theorem inL2 {x : Int32} {l : Nat} (hl : l < 1000) : (nI 0 ≤ x ∧ x ≤ nI l - nI 2) ↔ inR x (l - 1) := by
  by_cases c : l = 0
  · subst c
    have e : ∀ y : Int32, y ≤ nI 0 - nI 2 → y < nI 0 := fun y hy => by
      have e2 : (nI 0 - nI 2 : Int32).toInt = -2 := by decide
      rw [Int32.le_iff_toInt_le, e2] at hy
      rw [Int32.lt_iff_toInt_lt, nI_toInt (by omega)]
      omega
    exact ⟨fun q => absurd (e x q.2) (Int32.not_lt.mpr q.1), fun q => absurd q.2 (Int32.not_lt.mpr q.1)⟩
  · have e : nI l - nI 2 = nI (l - 1) - nI 1 := by
      rw [show nI 2 = nI 1 + nI 1 by rfl, ← iSub (show 1 ≤ l by omega), Int32.sub_sub]
    rw [e, inL1 (by omega)]
theorem s_inL2 {X : Nat × (Nat → Int32)} {σ : Mem} {Q : List Value → Mem → Prop} {x : Int32} {l : Nat} {v1 v3 v5 : Value} (hl : l < 1000) : Rn X 101 0 [.long x.toInt64, v1, .long (lN 0), v3, .long (nI l - nI 2).toInt64, v5] [] σ Q ↔ Q [.int (b2 (inR x (l - 1)))] σ := by
  rw [s_in, b2_c (show (lN 0 ≤ x.toInt64 ∧ x.toInt64 ≤ (nI l - nI 2).toInt64) ↔ inR x (l - 1) by rw [wGe (by omega), fa_wide_le, inL2 hl])]
theorem inT {t : Int32} : ((-1 : Int64) ≤ t.toInt64 ∧ t.toInt64 ≤ lN 2) ↔ (t = -1 ∨ inR t 3) := by
  have e1 : (-1 : Int64).toInt = -1 := by decide
  have e3 : (-1 : Int32).toInt = -1 := by decide
  rw [wLe (by omega), Int64.le_iff_toInt_le, e1, Int32.toInt_toInt64, Int32.le_iff_toInt_le, nI_toInt (by omega), ← Int32.toInt_inj, e3]
  simp only [inR]
  rw [Int32.le_iff_toInt_le, Int32.lt_iff_toInt_lt, nI_toInt (by omega), nI_toInt (by omega)]
  omega
theorem s_inT {X : Nat × (Nat → Int32)} {σ : Mem} {Q : List Value → Mem → Prop} {t : Int32} {v1 v3 v5 : Value} : Rn X 101 0 [.long t.toInt64, v1, .long (-1), v3, .long (lN 2), v5] [] σ Q ↔ Q [.int (b2 (t = -1 ∨ inR t 3))] σ := by
  rw [s_in, b2_c inT]
theorem b2_QR (x : Int32) (n : Nat) (hn : n < 2147483647) : b2 (inQ x n) = b2 (inR x (n + 1)) := b2_c (by
  simp only [inQ, inR]
  rw [le_lt1 hn])
theorem s_isPaperM {X : Nat × (Nat → Int32)} {σ : Mem} {Q : List Value → Mem → Prop} {x : Int32} : Rn X 104 0 [.int x] [] σ Q ↔ Q [.int (b2 (inR x 8))] σ := by
  simp (disch := omega) only [q_104_0, q_104_1, q_104_2, q_104_3, q_104_6, q_104_9, vinT, iClamp, clr_i, clr_l, clr_r, clr_n, true_and, and_true, or_true, true_or, false_or, or_false, iLe, iLt, iEq, iAdd, iMul, List.cons_append, List.nil_append, List.append_nil, zb0, zb1, if_true, if_false, not_true_eq_false, not_false_eq_true, Bool.false_eq_true, Nat.one_ne_zero, Nat.zero_ne_one, Nat.reduceEqDiff, Nat.reduceAdd, if_pos, if_neg, s_in0, zb_b2]
  rw [b2_QR _ _ (by omega)]
theorem s_isPersonM {X : Nat × (Nat → Int32)} {σ : Mem} {Q : List Value → Mem → Prop} {x : Int32} : Rn X 105 0 [.int x] [] σ Q ↔ Q [.int (b2 (inR x 7))] σ := by
  simp (disch := omega) only [q_105_0, q_105_1, q_105_2, q_105_3, q_105_6, q_105_9, vinT, iClamp, clr_i, clr_l, clr_r, clr_n, true_and, and_true, or_true, true_or, false_or, or_false, iLe, iLt, iEq, iAdd, iMul, List.cons_append, List.nil_append, List.append_nil, zb0, zb1, if_true, if_false, not_true_eq_false, not_false_eq_true, Bool.false_eq_true, Nat.one_ne_zero, Nat.zero_ne_one, Nat.reduceEqDiff, Nat.reduceAdd, if_pos, if_neg, s_in0, zb_b2]
  rw [b2_QR _ _ (by omega)]
theorem s_isTaskM {X : Nat × (Nat → Int32)} {σ : Mem} {Q : List Value → Mem → Prop} {x : Int32} : Rn X 106 0 [.int x] [] σ Q ↔ Q [.int (b2 (inR x 4))] σ := by
  simp (disch := omega) only [q_106_0, q_106_1, q_106_2, q_106_3, q_106_6, q_106_9, vinT, iClamp, clr_i, clr_l, clr_r, clr_n, true_and, and_true, or_true, true_or, false_or, or_false, iLe, iLt, iEq, iAdd, iMul, List.cons_append, List.nil_append, List.append_nil, zb0, zb1, if_true, if_false, not_true_eq_false, not_false_eq_true, Bool.false_eq_true, Nat.one_ne_zero, Nat.zero_ne_one, Nat.reduceEqDiff, Nat.reduceAdd, if_pos, if_neg, s_in0, zb_b2]
  rw [b2_QR _ _ (by omega)]
theorem s_isTradeM {X : Nat × (Nat → Int32)} {σ : Mem} {Q : List Value → Mem → Prop} {x : Int32} : Rn X 107 0 [.int x] [] σ Q ↔ Q [.int (b2 (inR x 3))] σ := by
  simp (disch := omega) only [q_107_0, q_107_1, q_107_2, q_107_3, q_107_6, q_107_9, vinT, iClamp, clr_i, clr_l, clr_r, clr_n, true_and, and_true, or_true, true_or, false_or, or_false, iLe, iLt, iEq, iAdd, iMul, List.cons_append, List.nil_append, List.append_nil, zb0, zb1, if_true, if_false, not_true_eq_false, not_false_eq_true, Bool.false_eq_true, Nat.one_ne_zero, Nat.zero_ne_one, Nat.reduceEqDiff, Nat.reduceAdd, if_pos, if_neg, s_in0, zb_b2]
  rw [b2_QR _ _ (by omega)]
/-! least terms -/
theorem l_commonM {X : Nat × (Nat → Int32)} {σ : Mem} {Q : List Value → Mem → Prop} {x0 x2 : Int64} {v1 : Value} : ∀ l g (v3 u1 u2 : Value), g < 9223372036854775808 → l < 9223372036854775808 → (Rn X 102 17 [.long x0, v1, .long x2, v3, .long (lN g), .null, .long (lN l), .null, u1, u2] [] σ Q ↔ Q [.long (lN (Nat.gcd g l))] σ) := by
  intro l
  induction l using Nat.strongRecOn with
  | ind l ih =>
    intro g v3 u1 u2 hg hl
    rw [q_102_17]
    by_cases c : l = 0
    · subst c
      simp (disch := omega) only [q_102_0, q_102_1, q_102_2, q_102_3, q_102_6, q_102_7, q_102_8, q_102_11, q_102_12, q_102_14, q_102_15, q_102_19, q_102_20, q_102_21, q_102_24, q_102_26, q_102_28, q_102_29, q_102_31, q_102_33, q_102_35, q_102_37, q_102_39, q_102_42, q_102_44, vinT, iClamp, clr_i, clr_l, clr_r, clr_n, true_and, and_true, or_true, true_or, false_or, or_false, iLe, iLt, iEq, iAdd, iMul, List.cons_append, List.nil_append, List.append_nil, zb0, zb1, if_true, if_false, not_true_eq_false, not_false_eq_true, Bool.false_eq_true, Nat.one_ne_zero, Nat.zero_ne_one, Nat.reduceEqDiff, Nat.reduceAdd, if_pos, if_neg, lc_eq, Nat.gcd_zero_right]
    · have hr : g % l < l := Nat.mod_lt _ (by omega)
      have hd : lN g - lN (g / l) * lN l = lN (g % l) := by rw [← lDiv hg (by omega) hl]; exact lRem hg (by omega) hl
      rw [lMul] at hd
      simp (disch := omega) only [q_102_0, q_102_1, q_102_2, q_102_3, q_102_6, q_102_7, q_102_8, q_102_11, q_102_12, q_102_14, q_102_15, q_102_19, q_102_20, q_102_21, q_102_24, q_102_26, q_102_28, q_102_29, q_102_31, q_102_33, q_102_35, q_102_37, q_102_39, q_102_42, q_102_44, vinT, iClamp, clr_i, clr_l, clr_r, clr_n, true_and, and_true, or_true, true_or, false_or, or_false, iLe, iLt, iEq, iAdd, iMul, List.cons_append, List.nil_append, List.append_nil, zb0, zb1, if_true, if_false, not_true_eq_false, not_false_eq_true, Bool.false_eq_true, Nat.one_ne_zero, Nat.zero_ne_one, Nat.reduceEqDiff, Nat.reduceAdd, if_pos, if_neg, lc_eq, lEq, lNe0, lDiv, lMul, hd]
      rw [ih (g % l) hr l _ _ _ hl (by omega), Nat.gcd_comm l, ← Nat.gcd_rec, Nat.gcd_comm]
theorem lNn {a : Nat} (h : a < 9223372036854775808) : ¬ lN a < lN 0 := by
  rw [lLt h (by omega)]
  omega
theorem s_commonM {X : Nat × (Nat → Int32)} {σ : Mem} {Q : List Value → Mem → Prop} {a b : Nat} {v1 v3 u0 u1 u2 u3 u4 u5 : Value} (ha : a < 9223372036854775808) (hb : b < 9223372036854775808) : Rn X 102 0 [.long (lN a), v1, .long (lN b), v3, u0, u1, u2, u3, u4, u5] [] σ Q ↔ Q [.long (lN (Nat.gcd a b))] σ := by
  have h := fun (v1 v3 a1 a2 : Value) => l_commonM (X := X) (σ := σ) (Q := Q) (x0 := lN a) (x2 := lN b) (v1 := v1) b a v3 a1 a2 ha hb
  simp (disch := omega) only [q_102_0, q_102_1, q_102_2, q_102_3, q_102_6, q_102_7, q_102_8, q_102_11, q_102_12, q_102_14, q_102_15, vinT, iClamp, clr_i, clr_l, clr_r, clr_n, true_and, and_true, or_true, true_or, false_or, or_false, iLe, iLt, iEq, iAdd, iMul, List.cons_append, List.nil_append, List.append_nil, zb0, zb1, if_true, if_false, not_true_eq_false, not_false_eq_true, Bool.false_eq_true, Nat.one_ne_zero, Nat.zero_ne_one, Nat.reduceEqDiff, Nat.reduceAdd, if_pos, if_neg, lc_ge, lNn, h]
theorem s_told {X : Nat × (Nat → Int32)} {σ : Mem} {Q : List Value → Mem → Prop} {a b u : Nat} {v1 v3 w0 w1 : Value} (ha : a < 9223372036854775808) (hb : b < 9223372036854775808) (h0 : 0 < b) (hu : u = 0 ∨ u = 1) : Rn X 103 0 [.long (lN a), v1, .long (lN b), v3, .int (nI u), w0, w1] [] σ Q ↔ Q [.long (lN (tI a b u))] σ := by
  have hg : 0 < Nat.gcd a b := Nat.gcd_pos_of_pos_right _ h0
  have hgl : Nat.gcd a b ≤ b := Nat.gcd_le_right _ h0
  rcases hu with rfl | rfl
  · simp (disch := omega) only [q_103_0, q_103_1, q_103_2, q_103_5, q_103_7, q_103_9, q_103_12, q_103_13, q_103_15, q_103_16, q_103_19, q_103_20, q_103_22, q_103_23, vinT, iClamp, clr_i, clr_l, clr_r, clr_n, true_and, and_true, or_true, true_or, false_or, or_false, iLe, iLt, iEq, iAdd, iMul, List.cons_append, List.nil_append, List.append_nil, zb0, zb1, if_true, if_false, not_true_eq_false, not_false_eq_true, Bool.false_eq_true, Nat.one_ne_zero, Nat.zero_ne_one, Nat.reduceEqDiff, Nat.reduceAdd, if_pos, if_neg, s_commonM ha hb, tI, lNe0, lDiv]
  · simp (disch := omega) only [q_103_0, q_103_1, q_103_2, q_103_5, q_103_7, q_103_9, q_103_12, q_103_13, q_103_15, q_103_16, q_103_19, q_103_20, q_103_22, q_103_23, vinT, iClamp, clr_i, clr_l, clr_r, clr_n, true_and, and_true, or_true, true_or, false_or, or_false, iLe, iLt, iEq, iAdd, iMul, List.cons_append, List.nil_append, List.append_nil, zb0, zb1, if_true, if_false, not_true_eq_false, not_false_eq_true, Bool.false_eq_true, Nat.one_ne_zero, Nat.zero_ne_one, Nat.reduceEqDiff, Nat.reduceAdd, if_pos, if_neg, s_commonM ha hb, tI, lNe0, lDiv]
/-! where someone stands, hours, what is done -/
theorem l_placeM {X : Nat × (Nat → Int32)} {σ : Mem} {Q : List Value → Mem → Prop} {a : AS} {p : Nat} {y : Int32} (h : MI σ a) (hp : p < 8) (hl : (ro a p).length ≤ 7) : ∀ n i, i + n = (ro a p).length → (Rn X 111 2 [.ref 127, .int (nI p), .int y, .int (nI i)] [] σ Q ↔ Q [.int (plF (rF (ro a p)) y i n)] σ) := by
  obtain ⟨m1, m2, m3, m4, m5, m6, m7, m8, m9, m10⟩ := id h
  intro n
  induction n with
  | zero =>
    intro i hi
    rw [q_111_2]
    simp (disch := omega) only [q_111_0, q_111_1, q_111_3, q_111_4, q_111_7, q_111_8, q_111_9, q_111_12, q_111_13, q_111_16, q_111_18, q_111_19, q_111_20, q_111_21, q_111_22, q_111_23, q_111_24, q_111_27, q_111_28, q_111_29, q_111_32, q_111_35, q_111_37, vinT, iClamp, clr_i, clr_l, clr_r, clr_n, true_and, and_true, or_true, true_or, false_or, or_false, iLe, iLt, iEq, iAdd, iMul, List.cons_append, List.nil_append, List.append_nil, zb0, zb1, if_true, if_false, not_true_eq_false, not_false_eq_true, Bool.false_eq_true, Nat.one_ne_zero, Nat.zero_ne_one, Nat.reduceEqDiff, Nat.reduceAdd, if_pos, if_neg, m127, m128k, m128n, m129k, m129n, m130k, m130n, m131k, m131n, m132k, m132n, m133k, m133n, m134k, m134n, m135k, m135n, m136k, m136n, m137k, m137n, m138k, m138n, m139k, m139n, m140k, m140n, m141k, m141n, m142k, m142n, m143k, m143n, m144k, m144n, m145k, m145n, m146k, m146n, m5 p hp, plF]
  | succ n ih =>
    intro i hi
    rw [q_111_2]
    simp (disch := omega) only [q_111_0, q_111_1, q_111_3, q_111_4, q_111_7, q_111_8, q_111_9, q_111_12, q_111_13, q_111_16, q_111_18, q_111_19, q_111_20, q_111_21, q_111_22, q_111_23, q_111_24, q_111_27, q_111_28, q_111_29, q_111_32, q_111_35, q_111_37, vinT, iClamp, clr_i, clr_l, clr_r, clr_n, true_and, and_true, or_true, true_or, false_or, or_false, iLe, iLt, iEq, iAdd, iMul, List.cons_append, List.nil_append, List.append_nil, zb0, zb1, if_true, if_false, not_true_eq_false, not_false_eq_true, Bool.false_eq_true, Nat.one_ne_zero, Nat.zero_ne_one, Nat.reduceEqDiff, Nat.reduceAdd, if_pos, if_neg, m127, m128k, m128n, m129k, m129n, m130k, m130n, m131k, m131n, m132k, m132n, m133k, m133n, m134k, m134n, m135k, m135n, m136k, m136n, m137k, m137n, m138k, m138n, m139k, m139n, m140k, m140n, m141k, m141n, m142k, m142n, m143k, m143n, m144k, m144n, m145k, m145n, m146k, m146n, m5 p hp, m6 p hp i (by omega)]
    rw [plF]
    by_cases c : nI ((ro a p).getD i 0) = y
    · rw [if_pos c, if_pos (show rF (ro a p) i = y from c)]
    · rw [if_neg c, if_neg (show ¬ rF (ro a p) i = y from c)]
      exact ih (i + 1) (by omega)
theorem s_placeM {X : Nat × (Nat → Int32)} {σ : Mem} {Q : List Value → Mem → Prop} {a : AS} {p : Nat} {y : Int32} {w : Value} (h : MI σ a) (hp : p < 8) (hl : (ro a p).length ≤ 7) : Rn X 111 0 [.ref 127, .int (nI p), .int y, w] [] σ Q ↔ Q [.int (plF (rF (ro a p)) y 0 (ro a p).length)] σ := by
  simp only [q_111_0, q_111_1, clr_i, l_placeM h hp hl (ro a p).length 0 (by omega)]
theorem l_hoursM {X : Nat × (Nat → Int32)} {σ : Mem} {Q : List Value → Mem → Prop} {a : AS} {p t : Nat} (h : MI σ a) (hp : p < 8) (ht : t < 4) : ∀ n i s, i + n = 7 → (Rn X 116 4 [.ref 127, .int (nI (4 * p + t)), .int (nI s), .int (nI i)] [] σ Q ↔ Q [.int (nI (s + smF (hr a p t) i n))] σ) := by
  obtain ⟨m1, m2, m3, m4, m5, m6, m7, m8, m9, m10⟩ := id h
  intro n
  induction n with
  | zero =>
    intro i s hi
    have e : i = 7 := by omega
    subst e
    rw [q_116_4]
    simp (disch := omega) only [q_116_0, q_116_1, q_116_2, q_116_3, q_116_5, q_116_7, q_116_10, q_116_11, q_116_12, q_116_15, q_116_17, q_116_18, q_116_19, q_116_20, q_116_21, q_116_22, q_116_23, q_116_24, q_116_27, q_116_30, q_116_31, vinT, iClamp, clr_i, clr_l, clr_r, clr_n, true_and, and_true, or_true, true_or, false_or, or_false, iLe, iLt, iEq, iAdd, iMul, List.cons_append, List.nil_append, List.append_nil, zb0, zb1, if_true, if_false, not_true_eq_false, not_false_eq_true, Bool.false_eq_true, Nat.one_ne_zero, Nat.zero_ne_one, Nat.reduceEqDiff, Nat.reduceAdd, if_pos, if_neg, smF, Nat.add_zero]
  | succ n ih =>
    intro i s hi
    rw [q_116_4]
    simp (disch := omega) only [q_116_0, q_116_1, q_116_2, q_116_3, q_116_5, q_116_7, q_116_10, q_116_11, q_116_12, q_116_15, q_116_17, q_116_18, q_116_19, q_116_20, q_116_21, q_116_22, q_116_23, q_116_24, q_116_27, q_116_30, q_116_31, vinT, iClamp, clr_i, clr_l, clr_r, clr_n, true_and, and_true, or_true, true_or, false_or, or_false, iLe, iLt, iEq, iAdd, iMul, List.cons_append, List.nil_append, List.append_nil, zb0, zb1, if_true, if_false, not_true_eq_false, not_false_eq_true, Bool.false_eq_true, Nat.one_ne_zero, Nat.zero_ne_one, Nat.reduceEqDiff, Nat.reduceAdd, if_pos, if_neg, m127, m128k, m128n, m129k, m129n, m130k, m130n, m131k, m131n, m132k, m132n, m133k, m133n, m134k, m134n, m135k, m135n, m136k, m136n, m137k, m137n, m138k, m138n, m139k, m139n, m140k, m140n, m141k, m141n, m142k, m142n, m143k, m143n, m144k, m144n, m145k, m145n, m146k, m146n, m4 p hp t ht i (by omega)]
    rw [ih (i + 1) _ (by omega), smF, Nat.add_assoc]
theorem s_hoursM {X : Nat × (Nat → Int32)} {σ : Mem} {Q : List Value → Mem → Prop} {a : AS} {p t : Nat} {u v : Value} (h : MI σ a) (hp : p < 8) (ht : t < 4) : Rn X 116 0 [.ref 127, .int (nI (4 * p + t)), u, v] [] σ Q ↔ Q [.int (nI (HH (hr a p) t))] σ := by
  simp only [q_116_0, q_116_1, q_116_2, q_116_3, clr_i, l_hoursM h hp ht 7 0 0 rfl, Nat.zero_add, HH]
theorem s_isDoneM {X : Nat × (Nat → Int32)} {σ : Mem} {Q : List Value → Mem → Prop} {a : AS} {p t : Nat} (h : MI σ a) (ok : AOK a) (hp : p < 8) (ht : t < 4) : Rn X 117 0 [.ref 127, .int (nI (4 * p + t))] [] σ Q ↔ Q [.int (b2 (dn (wt a p) (hr a p) t = true))] σ := by
  obtain ⟨m1, m2, m3, m4, m5, m6, m7, m8, m9, m10⟩ := id h
  obtain ⟨o1, o2, o3, o4, o5, o6, o7, o8⟩ := ok.1 p hp
  have q1 := o2 t ht
  have q2 := HH_le o3 ht
  by_cases c : dn (wt a p) (hr a p) t = true
  · obtain ⟨c1, c2⟩ := dn_spec.mp c
    simp (disch := omega) only [q_117_0, q_117_1, q_117_4, q_117_5, q_117_6, q_117_9, q_117_10, q_117_11, q_117_14, q_117_17, q_117_18, q_117_21, q_117_22, vinT, iClamp, clr_i, clr_l, clr_r, clr_n, true_and, and_true, or_true, true_or, false_or, or_false, iLe, iLt, iEq, iAdd, iMul, List.cons_append, List.nil_append, List.append_nil, zb0, zb1, if_true, if_false, not_true_eq_false, not_false_eq_true, Bool.false_eq_true, Nat.one_ne_zero, Nat.zero_ne_one, Nat.reduceEqDiff, Nat.reduceAdd, if_pos, if_neg, m127, m128k, m128n, m129k, m129n, m130k, m130n, m131k, m131n, m132k, m132n, m133k, m133n, m134k, m134n, m135k, m135n, m136k, m136n, m137k, m137n, m138k, m138n, m139k, m139n, m140k, m140n, m141k, m141n, m142k, m142n, m143k, m143n, m144k, m144n, m145k, m145n, m146k, m146n, m2 p hp t ht, s_hoursM h hp ht, b2_t c]
  · have c' : ¬ (0 < wt a p t ∧ 0 < HH (hr a p) t) := fun q => c (dn_spec.mpr q)
    by_cases c1 : wt a p t ≤ 0
    · simp (disch := omega) only [q_117_0, q_117_1, q_117_4, q_117_5, q_117_6, q_117_9, q_117_10, q_117_11, q_117_14, q_117_17, q_117_18, q_117_21, q_117_22, vinT, iClamp, clr_i, clr_l, clr_r, clr_n, true_and, and_true, or_true, true_or, false_or, or_false, iLe, iLt, iEq, iAdd, iMul, List.cons_append, List.nil_append, List.append_nil, zb0, zb1, if_true, if_false, not_true_eq_false, not_false_eq_true, Bool.false_eq_true, Nat.one_ne_zero, Nat.zero_ne_one, Nat.reduceEqDiff, Nat.reduceAdd, if_pos, if_neg, m127, m128k, m128n, m129k, m129n, m130k, m130n, m131k, m131n, m132k, m132n, m133k, m133n, m134k, m134n, m135k, m135n, m136k, m136n, m137k, m137n, m138k, m138n, m139k, m139n, m140k, m140n, m141k, m141n, m142k, m142n, m143k, m143n, m144k, m144n, m145k, m145n, m146k, m146n, m2 p hp t ht, b2_f c]
    · simp (disch := omega) only [q_117_0, q_117_1, q_117_4, q_117_5, q_117_6, q_117_9, q_117_10, q_117_11, q_117_14, q_117_17, q_117_18, q_117_21, q_117_22, vinT, iClamp, clr_i, clr_l, clr_r, clr_n, true_and, and_true, or_true, true_or, false_or, or_false, iLe, iLt, iEq, iAdd, iMul, List.cons_append, List.nil_append, List.append_nil, zb0, zb1, if_true, if_false, not_true_eq_false, not_false_eq_true, Bool.false_eq_true, Nat.one_ne_zero, Nat.zero_ne_one, Nat.reduceEqDiff, Nat.reduceAdd, if_pos, if_neg, m127, m128k, m128n, m129k, m129n, m130k, m130n, m131k, m131n, m132k, m132n, m133k, m133n, m134k, m134n, m135k, m135n, m136k, m136n, m137k, m137n, m138k, m138n, m139k, m139n, m140k, m140n, m141k, m141n, m142k, m142n, m143k, m143n, m144k, m144n, m145k, m145n, m146k, m146n, m2 p hp t ht, s_hoursM h hp ht, b2_f c]
