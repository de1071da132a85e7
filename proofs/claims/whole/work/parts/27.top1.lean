/-! ===== least terms ===== -/
def eu : Nat → Nat → Nat → Nat
  | 0, g, _ => g
  | n + 1, g, l => if l = 0 then g else eu n l (g % l)
theorem eu_gcd : ∀ m n g l, l < 2 ^ m → 2 * m + 1 ≤ n → eu n g l = Nat.gcd g l
  | 0, n, g, l, hl, hn => by
    have e : l = 0 := by simpa using hl
    obtain ⟨k, rfl⟩ := Nat.exists_eq_add_of_le hn
    subst e
    rw [show 2 * 0 + 1 + k = k + 1 by omega, eu, if_pos rfl, Nat.gcd_zero_right]
  | m + 1, n, g, l, hl, hn => by
    obtain ⟨k, rfl⟩ := Nat.exists_eq_add_of_le hn
    rw [show 2 * (m + 1) + 1 + k = (2 * m + 1 + k + 1) + 1 by omega, eu]
    by_cases c : l = 0
    · rw [if_pos c, c, Nat.gcd_zero_right]
    · rw [if_neg c, eu]
      have hr : g % l < l := Nat.mod_lt _ (by omega)
      rw [Nat.gcd_comm g l, Nat.gcd_rec l g]
      by_cases c2 : g % l = 0
      · rw [if_pos c2, c2, Nat.gcd_zero_left]
      · rw [if_neg c2]
        have h2 : l % (g % l) < 2 ^ m := by
          have h3 : l % (g % l) < g % l := Nat.mod_lt _ (by omega)
          have h4 : g % l + l % (g % l) ≤ l := by
            have h5 := Nat.div_add_mod l (g % l)
            have h6 : 1 ≤ l / (g % l) := Nat.div_pos (by omega) (by omega)
            have h7 : g % l ≤ g % l * (l / (g % l)) := Nat.le_mul_of_pos_right _ h6
            omega
          rw [Nat.pow_succ] at hl
          omega
        rw [eu_gcd m _ (g % l) (l % (g % l)) h2 (by omega), Nat.gcd_comm (g % l), ← Nat.gcd_rec]
theorem lRem {a b : Nat} (ha : a < 9223372036854775808) (h0 : 0 < b) (hb : b < 9223372036854775808) : lN a - lN a / lN b * lN b = lN (a % b) := pk_lRem ha h0 hb
theorem l_common {X : Nat × (Nat → Int32)} {σ : Mem} {Q : List Value → Mem → Prop} {v0 : Value} {x0 x2 : Int64} : ∀ n i g l (v1 u1 u2 : Value), i + n = 100 → g < 9223372036854775808 → l < 9223372036854775808 → (Rn X 100 9 [.long x0, v0, .long x2, v1, .long (lN g), .null, .long (lN l), .null, .int (nI i), u1, u2] [] σ Q ↔ Q [.long (lN (eu n g l))] σ) := by
  intro n
  induction n with
  | zero =>
    intro i g l v1 u1 u2 hi hg hl
    have e : i = 100 := by omega
    subst e
    rw [q_100_9]
    simp (disch := omega) only [q_100_0, q_100_1, q_100_3, q_100_4, q_100_6, q_100_7, q_100_11, q_100_13, q_100_16, q_100_18, q_100_19, q_100_20, q_100_23, q_100_25, q_100_27, q_100_28, q_100_30, q_100_32, q_100_34, q_100_36, q_100_38, q_100_41, q_100_44, q_100_46, vinT, iClamp, clr_i, clr_l, clr_r, clr_n, true_and, and_true, or_true, true_or, false_or, or_false, iLe, iLt, iEq, iAdd, iMul, List.cons_append, List.nil_append, List.append_nil, zb0, zb1, if_true, if_false, not_true_eq_false, not_false_eq_true, Bool.false_eq_true, Nat.one_ne_zero, Nat.zero_ne_one, Nat.reduceEqDiff, Nat.reduceAdd, if_pos, if_neg, eu]
  | succ n ih =>
    intro i g l v1 u1 u2 hi hg hl
    rw [q_100_9]
    by_cases c : l = 0
    · subst c
      simp (disch := omega) only [q_100_0, q_100_1, q_100_3, q_100_4, q_100_6, q_100_7, q_100_11, q_100_13, q_100_16, q_100_18, q_100_19, q_100_20, q_100_23, q_100_25, q_100_27, q_100_28, q_100_30, q_100_32, q_100_34, q_100_36, q_100_38, q_100_41, q_100_44, q_100_46, vinT, iClamp, clr_i, clr_l, clr_r, clr_n, true_and, and_true, or_true, true_or, false_or, or_false, iLe, iLt, iEq, iAdd, iMul, List.cons_append, List.nil_append, List.append_nil, zb0, zb1, if_true, if_false, not_true_eq_false, not_false_eq_true, Bool.false_eq_true, Nat.one_ne_zero, Nat.zero_ne_one, Nat.reduceEqDiff, Nat.reduceAdd, if_pos, if_neg, lc_eq, eu]
    · have hr : g % l < l := Nat.mod_lt _ (by omega)
      have hd : lN g - lN (g / l) * lN l = lN (g % l) := by rw [← lDiv hg (by omega) hl]; exact lRem hg (by omega) hl
      rw [lMul] at hd
      simp (disch := omega) only [q_100_0, q_100_1, q_100_3, q_100_4, q_100_6, q_100_7, q_100_11, q_100_13, q_100_16, q_100_18, q_100_19, q_100_20, q_100_23, q_100_25, q_100_27, q_100_28, q_100_30, q_100_32, q_100_34, q_100_36, q_100_38, q_100_41, q_100_44, q_100_46, vinT, iClamp, clr_i, clr_l, clr_r, clr_n, true_and, and_true, or_true, true_or, false_or, or_false, iLe, iLt, iEq, iAdd, iMul, List.cons_append, List.nil_append, List.append_nil, zb0, zb1, if_true, if_false, not_true_eq_false, not_false_eq_true, Bool.false_eq_true, Nat.one_ne_zero, Nat.zero_ne_one, Nat.reduceEqDiff, Nat.reduceAdd, if_pos, if_neg, lc_eq, lEq, lNe0, lDiv, lMul, hd]
      rw [ih (i + 1) l (g % l) _ _ _ (by omega) hl (by omega), eu, if_neg c]
theorem s_common {X : Nat × (Nat → Int32)} {σ : Mem} {Q : List Value → Mem → Prop} {a b : Nat} {v0 v1 u0 u1 u2 u3 u4 u5 u6 : Value} (ha : a < 9223372036854775808) (hb : b < 562949953421312) : Rn X 100 0 [.long (lN a), v0, .long (lN b), v1, u0, u1, u2, u3, u4, u5, u6] [] σ Q ↔ Q [.long (lN (Nat.gcd a b))] σ := by
  have h := fun (Q : List Value → Mem → Prop) (v0 v1 a1 a2 : Value) => l_common (X := X) (σ := σ) (Q := Q) (v0 := v0) (x0 := lN a) (x2 := lN b) 100 0 a b v1 a1 a2 rfl ha (by omega)
  simp only [q_100_0, q_100_1, q_100_3, q_100_4, q_100_6, q_100_7, clr_n, clr_l, h, eu_gcd 49 100 a b (by omega) (by omega)]
def tI (a b u : Nat) : Nat := (if u = 1 then a else b) / Nat.gcd a b
theorem s_least2 {X : Nat × (Nat → Int32)} {σ : Mem} {Q : List Value → Mem → Prop} {a b u : Nat} {v0 v1 w0 w1 w2 w3 : Value} (ha : a < 9223372036854775808) (hb : b < 562949953421312) (h0 : 0 < b) (hu : u = 0 ∨ u = 1) : Rn X 99 0 [.long (lN a), v0, .long (lN b), v1, .int (nI u), w0, w1, w2, w3] [] σ Q ↔ Q [.long (lN (tI a b u))] σ := by
  have hg : 0 < Nat.gcd a b := Nat.gcd_pos_of_pos_right _ h0
  have hgl : Nat.gcd a b ≤ b := Nat.gcd_le_right _ h0
  rcases hu with rfl | rfl
  · by_cases c : Nat.gcd a b = 1
    · simp (disch := omega) only [q_99_0, q_99_1, q_99_2, q_99_5, q_99_7, q_99_9, q_99_12, q_99_13, q_99_16, q_99_17, q_99_19, q_99_21, q_99_22, q_99_23, q_99_26, q_99_28, q_99_30, q_99_31, q_99_34, q_99_36, vinT, iClamp, clr_i, clr_l, clr_r, clr_n, true_and, and_true, or_true, true_or, false_or, or_false, iLe, iLt, iEq, iAdd, iMul, List.cons_append, List.nil_append, List.append_nil, zb0, zb1, if_true, if_false, not_true_eq_false, not_false_eq_true, Bool.false_eq_true, Nat.one_ne_zero, Nat.zero_ne_one, Nat.reduceEqDiff, Nat.reduceAdd, if_pos, if_neg, s_common ha hb, lc_le, lLt, c, tI, Nat.div_one]
    · simp (disch := omega) only [q_99_0, q_99_1, q_99_2, q_99_5, q_99_7, q_99_9, q_99_12, q_99_13, q_99_16, q_99_17, q_99_19, q_99_21, q_99_22, q_99_23, q_99_26, q_99_28, q_99_30, q_99_31, q_99_34, q_99_36, vinT, iClamp, clr_i, clr_l, clr_r, clr_n, true_and, and_true, or_true, true_or, false_or, or_false, iLe, iLt, iEq, iAdd, iMul, List.cons_append, List.nil_append, List.append_nil, zb0, zb1, if_true, if_false, not_true_eq_false, not_false_eq_true, Bool.false_eq_true, Nat.one_ne_zero, Nat.zero_ne_one, Nat.reduceEqDiff, Nat.reduceAdd, if_pos, if_neg, s_common ha hb, lc_le, lLt, tI, lNe0, lDiv]
  · by_cases c : Nat.gcd a b = 1
    · simp (disch := omega) only [q_99_0, q_99_1, q_99_2, q_99_5, q_99_7, q_99_9, q_99_12, q_99_13, q_99_16, q_99_17, q_99_19, q_99_21, q_99_22, q_99_23, q_99_26, q_99_28, q_99_30, q_99_31, q_99_34, q_99_36, vinT, iClamp, clr_i, clr_l, clr_r, clr_n, true_and, and_true, or_true, true_or, false_or, or_false, iLe, iLt, iEq, iAdd, iMul, List.cons_append, List.nil_append, List.append_nil, zb0, zb1, if_true, if_false, not_true_eq_false, not_false_eq_true, Bool.false_eq_true, Nat.one_ne_zero, Nat.zero_ne_one, Nat.reduceEqDiff, Nat.reduceAdd, if_pos, if_neg, s_common ha hb, lc_le, lLt, c, tI, Nat.div_one]
    · simp (disch := omega) only [q_99_0, q_99_1, q_99_2, q_99_5, q_99_7, q_99_9, q_99_12, q_99_13, q_99_16, q_99_17, q_99_19, q_99_21, q_99_22, q_99_23, q_99_26, q_99_28, q_99_30, q_99_31, q_99_34, q_99_36, vinT, iClamp, clr_i, clr_l, clr_r, clr_n, true_and, and_true, or_true, true_or, false_or, or_false, iLe, iLt, iEq, iAdd, iMul, List.cons_append, List.nil_append, List.append_nil, zb0, zb1, if_true, if_false, not_true_eq_false, not_false_eq_true, Bool.false_eq_true, Nat.one_ne_zero, Nat.zero_ne_one, Nat.reduceEqDiff, Nat.reduceAdd, if_pos, if_neg, s_common ha hb, lc_le, lLt, tI, lNe0, lDiv]
/-! ===== what a place is worth ===== -/
theorem iDiv {a b : Nat} (ha : a < 2147483648) (h0 : 0 < b) (hb : b < 2147483648) : nI a / nI b = nI (a / b) := pk_div ha h0 hb
theorem uv0 : uV 0 = lN 1 := by decide
theorem uv1 : uV 1 = lN 420 := by decide
theorem uv2 : uV 2 = lN 120 := by decide
theorem uv3 : uV 3 = lN 182761425 := by decide
theorem uv4 : uV 4 = lN 1000 := by decide
def fq (i : Nat) : Nat := 420 / (i + 1)
theorem fq_le (i : Nat) : fq i ≤ 420 := Nat.div_le_self _ _
theorem l_falling {X : Nat × (Nat → Int32)} {σ : Mem} {Q : List Value → Mem → Prop} {n j : Nat} (hn : n ≤ 7) (hj : j < n) : ∀ m i s (v : Value), i + m = n → s ≤ i * 420 → (Rn X 69 7 [.int (nI n), .int (nI j), .int (nI s), .int (nI (if j < i then fq j else 0)), .int (nI i), v] [] σ Q ↔ Rn X 69 43 [.int (nI n), .int (nI j), .int (nI (s + smF fq i m)), .int (nI (fq j)), .int (nI n), if m = 0 then v else .int (nI (fq (n - 1)))] [] σ Q) := by
  intro m
  induction m with
  | zero =>
    intro i s v hi hs
    have e : i = n := by omega
    subst e
    rw [q_69_7, if_pos hj]
    simp (disch := omega) only [q_69_9, q_69_10, q_69_13, q_69_16, q_69_18, q_69_19, q_69_20, q_69_21, q_69_23, q_69_24, q_69_26, q_69_27, q_69_28, q_69_30, q_69_31, q_69_34, q_69_36, q_69_37, q_69_40, vinT, iClamp, clr_i, clr_l, clr_r, clr_n, true_and, and_true, or_true, true_or, false_or, or_false, iLe, iLt, iEq, iAdd, iMul, List.cons_append, List.nil_append, List.append_nil, zb0, zb1, if_true, if_false, not_true_eq_false, not_false_eq_true, Bool.false_eq_true, Nat.one_ne_zero, Nat.zero_ne_one, Nat.reduceEqDiff, Nat.reduceAdd, if_pos, if_neg, smF, Nat.add_zero]
  | succ m ih =>
    intro i s v hi hs
    have h1 := fq_le i
    have hfq : (420 : Nat) / (i + 1) = fq i := rfl
    rw [q_69_7]
    have key : ∀ (w : Value), (if m = 0 then w else Value.int (nI (fq (n - 1)))) = (if m = 0 then w else Value.int (nI (fq (n - 1)))) := fun _ => rfl
    have fin : (if m = 0 then Value.int (nI (fq i)) else Value.int (nI (fq (n - 1)))) = Value.int (nI (fq (n - 1))) := by
      by_cases c : m = 0
      · rw [if_pos c, show i = n - 1 by omega]
      · rw [if_neg c]
    by_cases c : i = j
    · subst c
      rw [if_neg (by omega)]
      simp (disch := omega) only [q_69_9, q_69_10, q_69_13, q_69_16, q_69_18, q_69_19, q_69_20, q_69_21, q_69_23, q_69_24, q_69_26, q_69_27, q_69_28, q_69_30, q_69_31, q_69_34, q_69_36, q_69_37, q_69_40, vinT, iClamp, clr_i, clr_l, clr_r, clr_n, true_and, and_true, or_true, true_or, false_or, or_false, iLe, iLt, iEq, iAdd, iMul, List.cons_append, List.nil_append, List.append_nil, zb0, zb1, if_true, if_false, not_true_eq_false, not_false_eq_true, Bool.false_eq_true, Nat.one_ne_zero, Nat.zero_ne_one, Nat.reduceEqDiff, Nat.reduceAdd, if_pos, if_neg, iDiv, hfq]
      have h2 := ih (i + 1) (s + fq i) (.int (nI (fq i))) (by omega) (by omega)
      rw [if_pos (by omega), fin] at h2
      rw [h2, smF, Nat.add_assoc]
    · simp (disch := omega) only [q_69_9, q_69_10, q_69_13, q_69_16, q_69_18, q_69_19, q_69_20, q_69_21, q_69_23, q_69_24, q_69_26, q_69_27, q_69_28, q_69_30, q_69_31, q_69_34, q_69_36, q_69_37, q_69_40, vinT, iClamp, clr_i, clr_l, clr_r, clr_n, true_and, and_true, or_true, true_or, false_or, or_false, iLe, iLt, iEq, iAdd, iMul, List.cons_append, List.nil_append, List.append_nil, zb0, zb1, if_true, if_false, not_true_eq_false, not_false_eq_true, Bool.false_eq_true, Nat.one_ne_zero, Nat.zero_ne_one, Nat.reduceEqDiff, Nat.reduceAdd, if_pos, if_neg, iDiv, hfq]
      have h2 := ih (i + 1) (s + fq i) (.int (nI (fq i))) (by omega) (by omega)
      rw [fin] at h2
      have e : (if j < i + 1 then fq j else 0) = (if j < i then fq j else 0) := by
        by_cases q : j < i
        · rw [if_pos q, if_pos (by omega)]
        · rw [if_neg q, if_neg (by omega)]
      rw [e] at h2
      rw [h2, smF, Nat.add_assoc]
theorem s_falling {X : Nat × (Nat → Int32)} {σ : Mem} {Q : List Value → Mem → Prop} {n j : Nat} {u1 u2 u3 u4 : Value} (hn : n ≤ 7) (hj : j < n) : Rn X 69 0 [.int (nI n), .int (nI j), u1, u2, u3, u4] [] σ Q ↔ Q [.long (lN (182761425 * fq j / smF fq 0 n))] σ := by
  have h := l_falling (X := X) (σ := σ) (Q := Q) hn hj n 0 0 u4 (by omega) (by omega)
  rw [if_neg (by omega)] at h
  have h1 := fq_le j
  have h2 : smF fq 0 n ≤ n * 420 := smF_le n 0 (fun i _ _ => fq_le i)
  have h3 : fq 0 ≤ smF fq 0 n := smF_part n 0 0 (by omega) (by omega)
  have h4 : fq 0 = 420 := rfl
  simp only [q_69_0, q_69_1, q_69_2, q_69_3, q_69_4, q_69_5, clr_i, h, Nat.zero_add]
  simp (disch := omega) only [q_69_0, q_69_1, q_69_2, q_69_3, q_69_4, q_69_5, q_69_9, q_69_10, q_69_13, q_69_16, q_69_18, q_69_19, q_69_20, q_69_21, q_69_23, q_69_24, q_69_26, q_69_27, q_69_28, q_69_30, q_69_31, q_69_34, q_69_36, q_69_37, q_69_40, q_69_43, q_69_44, q_69_47, q_69_50, q_69_51, q_69_52, q_69_53, q_69_54, q_69_55, q_69_56, q_69_57, q_69_58, q_69_61, q_69_62, vinT, iClamp, clr_i, clr_l, clr_r, clr_n, true_and, and_true, or_true, true_or, false_or, or_false, iLe, iLt, iEq, iAdd, iMul, List.cons_append, List.nil_append, List.append_nil, zb0, zb1, if_true, if_false, not_true_eq_false, not_false_eq_true, Bool.false_eq_true, Nat.one_ne_zero, Nat.zero_ne_one, Nat.reduceEqDiff, Nat.reduceAdd, if_pos, if_neg, uv3, i2L, lMul, lDiv, lNe0]
def fsU (n j : Nat) : Nat := if n < 2 then 120 else if j = 0 then 60 else 60 / (n - 1)
theorem s_firstU {X : Nat × (Nat → Int32)} {σ : Mem} {Q : List Value → Mem → Prop} {n j : Nat} {u1 u2 : Value} (hn : n ≤ 7) (hj : j < n) : Rn X 68 0 [.int (nI n), .int (nI j), u1, u2] [] σ Q ↔ Q [.long (lN (fsU n j))] σ := by
  by_cases c : n < 2
  · simp (disch := omega) only [q_68_0, q_68_1, q_68_2, q_68_5, q_68_8, q_68_9, q_68_10, q_68_11, q_68_14, q_68_15, q_68_16, q_68_19, q_68_20, q_68_21, q_68_22, q_68_25, q_68_26, q_68_29, q_68_30, q_68_31, q_68_32, q_68_33, q_68_34, q_68_35, vinT, iClamp, clr_i, clr_l, clr_r, clr_n, true_and, and_true, or_true, true_or, false_or, or_false, iLe, iLt, iEq, iAdd, iMul, List.cons_append, List.nil_append, List.append_nil, zb0, zb1, if_true, if_false, not_true_eq_false, not_false_eq_true, Bool.false_eq_true, Nat.one_ne_zero, Nat.zero_ne_one, Nat.reduceEqDiff, Nat.reduceAdd, if_pos, if_neg, uv2, fsU]
  · have e60 : (120 : Nat) / 2 = 60 := rfl
    by_cases c2 : j = 0
    · simp (disch := omega) only [q_68_0, q_68_1, q_68_2, q_68_5, q_68_8, q_68_9, q_68_10, q_68_11, q_68_14, q_68_15, q_68_16, q_68_19, q_68_20, q_68_21, q_68_22, q_68_25, q_68_26, q_68_29, q_68_30, q_68_31, q_68_32, q_68_33, q_68_34, q_68_35, vinT, iClamp, clr_i, clr_l, clr_r, clr_n, true_and, and_true, or_true, true_or, false_or, or_false, iLe, iLt, iEq, iAdd, iMul, List.cons_append, List.nil_append, List.append_nil, zb0, zb1, if_true, if_false, not_true_eq_false, not_false_eq_true, Bool.false_eq_true, Nat.one_ne_zero, Nat.zero_ne_one, Nat.reduceEqDiff, Nat.reduceAdd, if_pos, if_neg, uv2, fsU, lNe0, lDiv, e60]
    · simp (disch := omega) only [q_68_0, q_68_1, q_68_2, q_68_5, q_68_8, q_68_9, q_68_10, q_68_11, q_68_14, q_68_15, q_68_16, q_68_19, q_68_20, q_68_21, q_68_22, q_68_25, q_68_26, q_68_29, q_68_30, q_68_31, q_68_32, q_68_33, q_68_34, q_68_35, vinT, iClamp, clr_i, clr_l, clr_r, clr_n, true_and, and_true, or_true, true_or, false_or, or_false, iLe, iLt, iEq, iAdd, iMul, List.cons_append, List.nil_append, List.append_nil, zb0, zb1, if_true, if_false, not_true_eq_false, not_false_eq_true, Bool.false_eq_true, Nat.one_ne_zero, Nat.zero_ne_one, Nat.reduceEqDiff, Nat.reduceAdd, if_pos, if_neg, uv2, fsU, lNe0, lDiv, e60, iSub, i2L]
def puN (l : List Nat) (w : Nat → Nat) (h : Nat → Nat → Nat) (way j : Nat) : Nat := if way = 0 then 1 else if way = 1 then 420 / l.length else if way = 2 then fsU l.length j else if way = 3 then 182761425 * fq j / smF fq 0 l.length else ptL w h (l.getD j 0) 4 * 1000 / whL w h
def puX (l : List Nat) (w : Nat → Nat) (h : Nat → Nat → Nat) (way : Nat) (x : Int32) : Nat := if x < nI 0 then 0 else if nI l.length ≤ x then 0 else puN l w h way x.toNatClampNeg
theorem puX_in {l : List Nat} {w : Nat → Nat} {h : Nat → Nat → Nat} {way j : Nat} (hj : j < l.length) (hl : l.length ≤ 7) : puX l w h way (nI j) = puN l w h way j := by
  rw [puX, if_neg (by rw [iLt (by omega) (by omega)]; omega), if_neg (by rw [iLe (by omega) (by omega)]; omega), iClamp (by omega)]
theorem s_placeUnits {X : Nat × (Nat → Int32)} {σ : Mem} {Q : List Value → Mem → Prop} {k way : Nat} {x : Int32} {l : List Nat} {w : Nat → Nat} {h : Nat → Nat → Nat} {v : Value} (hk : cK k = 2) (hw : okW w) (hh : okH h) (hD : DI σ k w h) (hR : RI σ (k + 9) l) (hway : way < 5) : Rn X 67 0 [.ref k, .int (nI way), .int x, v] [] σ Q ↔ Q [.long (lN (puX l w h way x))] σ := by
  obtain ⟨⟨f1, f2, f3, f4, f5, f6⟩, ⟨f7, f8, f9, f10, f11, f13, f14⟩, f12⟩ := F2 hk
  obtain ⟨h1, h2, h3⟩ := id hR
  by_cases c1 : x < nI 0
  · simp (disch := omega) only [q_67_0, q_67_1, q_67_4, q_67_7, q_67_8, q_67_9, q_67_12, q_67_13, q_67_14, q_67_17, q_67_18, vinT, iClamp, clr_i, clr_l, clr_r, clr_n, true_and, and_true, or_true, true_or, false_or, or_false, iLe, iLt, iEq, iAdd, iMul, List.cons_append, List.nil_append, List.append_nil, zb0, zb1, if_true, if_false, not_true_eq_false, not_false_eq_true, Bool.false_eq_true, Nat.one_ne_zero, Nat.zero_ne_one, Nat.reduceEqDiff, Nat.reduceAdd, if_pos, if_neg, hk, f9, h2, c1, puX]
  · by_cases c2 : nI l.length ≤ x
    · have c3 : ¬ x < nI l.length := Int32.not_lt.mpr c2
      simp (disch := omega) only [q_67_0, q_67_1, q_67_4, q_67_7, q_67_8, q_67_9, q_67_12, q_67_13, q_67_14, q_67_17, q_67_18, vinT, iClamp, clr_i, clr_l, clr_r, clr_n, true_and, and_true, or_true, true_or, false_or, or_false, iLe, iLt, iEq, iAdd, iMul, List.cons_append, List.nil_append, List.append_nil, zb0, zb1, if_true, if_false, not_true_eq_false, not_false_eq_true, Bool.false_eq_true, Nat.one_ne_zero, Nat.zero_ne_one, Nat.reduceEqDiff, Nat.reduceAdd, if_pos, if_neg, hk, f9, h2, c1, c2, c3, puX]
    · have c3 : x < nI l.length := Int32.not_le.mp c2
      obtain ⟨-, c4⟩ := vin_of c1 c2 h1 (by omega)
      have hx : x = nI x.toNatClampNeg := by
        rcases pk_ix x (n := l.length) (by omega) with q | q | ⟨j, hj, q⟩
        · exact absurd (by rw [nI_0]; exact q) c1
        · exact absurd q c2
        · rw [q, iClamp (by omega)]
      generalize x.toNatClampNeg = j at c4 hx
      subst hx
      rw [puX_in c4 h1]
      have e : way = 0 ∨ way = 1 ∨ way = 2 ∨ way = 3 ∨ way = 4 := by omega
      have hj7 := (h3 j c4).2
      rcases e with rfl | rfl | rfl | rfl | rfl
      · have s1 := fun (Q : List Value → Mem → Prop) (ls st : List Value) => q_67_20 (X := X) (σ := σ) (Q := Q) (x := nI 0) (p := 56) (ls := ls) (st := st) (by decide)
        simp (disch := omega) only [q_67_0, q_67_1, q_67_4, q_67_7, q_67_8, q_67_9, q_67_12, q_67_13, q_67_14, q_67_17, q_67_18, q_67_19, q_67_56, q_67_59, q_67_60, q_67_61, q_67_62, q_67_65, q_67_66, q_67_67, q_67_68, q_67_69, q_67_70, q_67_71, q_67_72, q_67_73, q_67_76, q_67_77, q_67_78, q_67_79, q_67_82, q_67_83, q_67_84, q_67_85, q_67_88, q_67_89, q_67_92, q_67_95, q_67_96, q_67_97, vinT, iClamp, clr_i, clr_l, clr_r, clr_n, true_and, and_true, or_true, true_or, false_or, or_false, iLe, iLt, iEq, iAdd, iMul, List.cons_append, List.nil_append, List.append_nil, zb0, zb1, if_true, if_false, not_true_eq_false, not_false_eq_true, Bool.false_eq_true, Nat.one_ne_zero, Nat.zero_ne_one, Nat.reduceEqDiff, Nat.reduceAdd, if_pos, if_neg, hk, f9, h2, s1, uv0, puN]
      · have s1 := fun (Q : List Value → Mem → Prop) (ls st : List Value) => q_67_20 (X := X) (σ := σ) (Q := Q) (x := nI 1) (p := 62) (ls := ls) (st := st) (by decide)
        simp (disch := omega) only [q_67_0, q_67_1, q_67_4, q_67_7, q_67_8, q_67_9, q_67_12, q_67_13, q_67_14, q_67_17, q_67_18, q_67_19, q_67_56, q_67_59, q_67_60, q_67_61, q_67_62, q_67_65, q_67_66, q_67_67, q_67_68, q_67_69, q_67_70, q_67_71, q_67_72, q_67_73, q_67_76, q_67_77, q_67_78, q_67_79, q_67_82, q_67_83, q_67_84, q_67_85, q_67_88, q_67_89, q_67_92, q_67_95, q_67_96, q_67_97, vinT, iClamp, clr_i, clr_l, clr_r, clr_n, true_and, and_true, or_true, true_or, false_or, or_false, iLe, iLt, iEq, iAdd, iMul, List.cons_append, List.nil_append, List.append_nil, zb0, zb1, if_true, if_false, not_true_eq_false, not_false_eq_true, Bool.false_eq_true, Nat.one_ne_zero, Nat.zero_ne_one, Nat.reduceEqDiff, Nat.reduceAdd, if_pos, if_neg, hk, f9, h2, s1, uv1, puN, i2L, lNe0, lDiv]
      · have s1 := fun (Q : List Value → Mem → Prop) (ls st : List Value) => q_67_20 (X := X) (σ := σ) (Q := Q) (x := nI 2) (p := 71) (ls := ls) (st := st) (by decide)
        simp (disch := omega) only [q_67_0, q_67_1, q_67_4, q_67_7, q_67_8, q_67_9, q_67_12, q_67_13, q_67_14, q_67_17, q_67_18, q_67_19, q_67_56, q_67_59, q_67_60, q_67_61, q_67_62, q_67_65, q_67_66, q_67_67, q_67_68, q_67_69, q_67_70, q_67_71, q_67_72, q_67_73, q_67_76, q_67_77, q_67_78, q_67_79, q_67_82, q_67_83, q_67_84, q_67_85, q_67_88, q_67_89, q_67_92, q_67_95, q_67_96, q_67_97, vinT, iClamp, clr_i, clr_l, clr_r, clr_n, true_and, and_true, or_true, true_or, false_or, or_false, iLe, iLt, iEq, iAdd, iMul, List.cons_append, List.nil_append, List.append_nil, zb0, zb1, if_true, if_false, not_true_eq_false, not_false_eq_true, Bool.false_eq_true, Nat.one_ne_zero, Nat.zero_ne_one, Nat.reduceEqDiff, Nat.reduceAdd, if_pos, if_neg, hk, f9, h2, s1, s_firstU h1 c4, puN]
      · have s1 := fun (Q : List Value → Mem → Prop) (ls st : List Value) => q_67_20 (X := X) (σ := σ) (Q := Q) (x := nI 3) (p := 77) (ls := ls) (st := st) (by decide)
        simp (disch := omega) only [q_67_0, q_67_1, q_67_4, q_67_7, q_67_8, q_67_9, q_67_12, q_67_13, q_67_14, q_67_17, q_67_18, q_67_19, q_67_56, q_67_59, q_67_60, q_67_61, q_67_62, q_67_65, q_67_66, q_67_67, q_67_68, q_67_69, q_67_70, q_67_71, q_67_72, q_67_73, q_67_76, q_67_77, q_67_78, q_67_79, q_67_82, q_67_83, q_67_84, q_67_85, q_67_88, q_67_89, q_67_92, q_67_95, q_67_96, q_67_97, vinT, iClamp, clr_i, clr_l, clr_r, clr_n, true_and, and_true, or_true, true_or, false_or, or_false, iLe, iLt, iEq, iAdd, iMul, List.cons_append, List.nil_append, List.append_nil, zb0, zb1, if_true, if_false, not_true_eq_false, not_false_eq_true, Bool.false_eq_true, Nat.one_ne_zero, Nat.zero_ne_one, Nat.reduceEqDiff, Nat.reduceAdd, if_pos, if_neg, hk, f9, h2, s1, s_falling h1 c4, puN]
      · have s1 := fun (Q : List Value → Mem → Prop) (ls st : List Value) => q_67_20 (X := X) (σ := σ) (Q := Q) (x := nI 4) (p := 83) (ls := ls) (st := st) (by decide)
        simp (disch := omega) only [q_67_0, q_67_1, q_67_4, q_67_7, q_67_8, q_67_9, q_67_12, q_67_13, q_67_14, q_67_17, q_67_18, q_67_19, q_67_56, q_67_59, q_67_60, q_67_61, q_67_62, q_67_65, q_67_66, q_67_67, q_67_68, q_67_69, q_67_70, q_67_71, q_67_72, q_67_73, q_67_76, q_67_77, q_67_78, q_67_79, q_67_82, q_67_83, q_67_84, q_67_85, q_67_88, q_67_89, q_67_92, q_67_95, q_67_96, q_67_97, vinT, iClamp, clr_i, clr_l, clr_r, clr_n, true_and, and_true, or_true, true_or, false_or, or_false, iLe, iLt, iEq, iAdd, iMul, List.cons_append, List.nil_append, List.append_nil, zb0, zb1, if_true, if_false, not_true_eq_false, not_false_eq_true, Bool.false_eq_true, Nat.one_ne_zero, Nat.zero_ne_one, Nat.reduceEqDiff, Nat.reduceAdd, if_pos, if_neg, hk, f9, h2, s1, s_personAt f9 hR, pA_in c4 h1, s_thousandths hk hj7 hw hh hD, puN]
/-! ===== the class's state: 8 papers, rooms, quarrels ===== -/
def pk (p : Nat) : Nat := 31 + 12 * p
theorem pk_K : ∀ p, p < 8 → cK (pk p) = 2 := by decide
theorem rA1 (p : Nat) : rA 1 p = pk p := by simp [rA, pk]
theorem c0 : cK 0 = 6 := by decide
theorem c1k : cK 1 = 12 := by decide
theorem c1n : cN 1 = 8 := by decide
theorem c2k : cK 2 = 10 := by decide
theorem c2n : cN 2 = 3 := by decide
theorem c3k : cK 3 = 10 := by decide
theorem c3n : cN 3 = 7 := by decide
theorem c4k : cK 4 = 0 := by decide
theorem c11k : cK 11 = 1 := by decide
theorem c14k : cK 14 = 3 := by decide
theorem c27k : cK 27 = 4 := by decide
theorem c28k : cK 28 = 5 := by decide
theorem c9k : cK 9 = 5 := by decide
theorem c24k : cK 24 = 5 := by decide
abbrev AS : Type := (Nat → Nat) × (Nat → Nat → Nat) × (Nat → Nat → Nat) × (Nat → Nat → Nat → Nat) × (Nat → List Nat) × (Nat → Nat → Nat) × (Nat → Int32) × (Nat → Nat → Nat) × (Nat → Nat)
def tr (a : AS) : Nat → Nat := a.1
def wt (a : AS) : Nat → Nat → Nat := a.2.1
def co (a : AS) : Nat → Nat → Nat := a.2.2.1
def hr (a : AS) : Nat → Nat → Nat → Nat := a.2.2.2.1
def ro (a : AS) : Nat → List Nat := a.2.2.2.2.1
def cl (a : AS) : Nat → Nat → Nat := a.2.2.2.2.2.1
def rm (a : AS) : Nat → Int32 := a.2.2.2.2.2.2.1
def mi (a : AS) : Nat → Nat → Nat := a.2.2.2.2.2.2.2.1
def be (a : AS) : Nat → Nat := a.2.2.2.2.2.2.2.2
/-- one paper -/
def PI (σ : Mem) (k : Nat) (t : Nat) (w : Nat → Nat) (h : Nat → Nat → Nat) (c : Nat → Nat) (d : Nat → Nat) (l : List Nat) : Prop :=
  (σ.1 k 0 = nI t ∧ t < 3) ∧ WH σ k w h ∧ DI σ k w h ∧ (∀ t, t < 4 → σ.1 (k + 2) t = nI (c t) ∧ c t ≤ 50) ∧ (∀ p, p < 7 → σ.1 (k + 8) p = nI (d p) ∧ d p ≤ 100) ∧ RI σ (k + 9) l ∧ l.Nodup
theorem PI_congr {σ σ' : Mem} {k t : Nat} {w : Nat → Nat} {h : Nat → Nat → Nat} {c d : Nat → Nat} {l : List Nat} (hp : PI σ k t w h c d l) (e : ∀ a, k ≤ a → a < k + 12 → σ'.1 a = σ.1 a ∧ σ'.2 a = σ.2 a) : PI σ' k t w h c d l := by
  obtain ⟨⟨h1, h2⟩, h3, ⟨d1, d2, d3, d4⟩, h5, h6, h7, h8⟩ := hp
  refine ⟨⟨by rw [(e k (by omega) (by omega)).1]; exact h1, h2⟩, WH_congr h3 (fun a a1 a2 => (e a (by omega) (by omega)).1), ⟨by rw [(e k (by omega) (by omega)).1]; exact d1, by rw [(e k (by omega) (by omega)).1]; exact d2, fun p hp => by rw [(e (k + 11) (by omega) (by omega)).2]; exact d3 p hp, by rw [(e k (by omega) (by omega)).2]; exact d4⟩, fun t ht => by rw [(e (k + 2) (by omega) (by omega)).1]; exact h5 t ht, fun p hp => by rw [(e (k + 8) (by omega) (by omega)).1]; exact h6 p hp, RI_congr h7 (by rw [(e (k + 9) (by omega) (by omega)).1]) (fun j _ => by rw [(e (k + 9 + 1) (by omega) (by omega)).1]), h8⟩
abbrev okI (x : Int32) : Prop := x = -9 ∨ ∃ q, q < 7 ∧ x = nI q
def CI (σ : Mem) (a : AS) : Prop := (∀ p, p < 8 → PI σ (pk p) (tr a p) (wt a p) (hr a p) (co a p) (cl a p) (ro a p)) ∧ (∀ t, t < 3 → σ.1 2 t = rm a t ∧ okI (rm a t)) ∧ MB σ 14 (mi a) (be a)
/-- the cells that hold nothing between calls -/
def SCR : List Nat := [3, 6, 7, 8, 9, 10, 11, 12, 13, 24, 25, 26, 28, 29, 30, 127, 134, 136, 137, 138, 139, 141, 144, 145, 146]
theorem CI_scr {σ σ' : Mem} {a : AS} (h : CI σ a) (ho : Off SCR σ σ') : CI σ' a := by
  obtain ⟨h1, h2, h3⟩ := h
  refine ⟨fun p hp => PI_congr (h1 p hp) (fun b b1 b2 => ho b ?_), fun t ht => by rw [(ho 2 (by decide)).1]; exact h2 t ht, MB_off h3 ho (fun b b1 b2 => ?_)⟩
  · simp only [pk] at b1 b2
    simp only [SCR, List.mem_cons, List.not_mem_nil, or_false]
    omega
  · simp only [SCR, List.mem_cons, List.not_mem_nil, or_false]
    omega
