/-! ===== Division ===== -/
theorem s_min {X : Nat × (Nat → Int32)} {σ : Mem} {Q : List Value → Mem → Prop} {x y : Int32} : Rn X 176 0 [.int x, .int y] [] σ Q ↔ Q [.int (if y < x then y else x)] σ := by
  by_cases c : y < x
  · simp (disch := omega) only [q_176_0, q_176_1, q_176_2, q_176_5, q_176_6, q_176_9, q_176_10, vinT, iClamp, clr_i, clr_l, clr_r, clr_n, true_and, and_true, or_true, true_or, false_or, or_false, iLe, iLt, iEq, iAdd, iMul, List.cons_append, List.nil_append, List.append_nil, zb0, zb1, if_true, if_false, not_true_eq_false, not_false_eq_true, Bool.false_eq_true, Nat.one_ne_zero, Nat.zero_ne_one, Nat.reduceEqDiff, Nat.reduceAdd, if_pos, if_neg, c]
  · simp (disch := omega) only [q_176_0, q_176_1, q_176_2, q_176_5, q_176_6, q_176_9, q_176_10, vinT, iClamp, clr_i, clr_l, clr_r, clr_n, true_and, and_true, or_true, true_or, false_or, or_false, iLe, iLt, iEq, iAdd, iMul, List.cons_append, List.nil_append, List.append_nil, zb0, zb1, if_true, if_false, not_true_eq_false, not_false_eq_true, Bool.false_eq_true, Nat.one_ne_zero, Nat.zero_ne_one, Nat.reduceEqDiff, Nat.reduceAdd, if_pos, if_neg, c]
theorem s_max {X : Nat × (Nat → Int32)} {σ : Mem} {Q : List Value → Mem → Prop} {x y : Int32} : Rn X 175 0 [.int x, .int y] [] σ Q ↔ Q [.int (if x < y then y else x)] σ := by
  by_cases c : x < y
  · simp (disch := omega) only [q_175_0, q_175_1, q_175_2, q_175_5, q_175_6, q_175_9, q_175_10, vinT, iClamp, clr_i, clr_l, clr_r, clr_n, true_and, and_true, or_true, true_or, false_or, or_false, iLe, iLt, iEq, iAdd, iMul, List.cons_append, List.nil_append, List.append_nil, zb0, zb1, if_true, if_false, not_true_eq_false, not_false_eq_true, Bool.false_eq_true, Nat.one_ne_zero, Nat.zero_ne_one, Nat.reduceEqDiff, Nat.reduceAdd, if_pos, if_neg, c]
  · simp (disch := omega) only [q_175_0, q_175_1, q_175_2, q_175_5, q_175_6, q_175_9, q_175_10, vinT, iClamp, clr_i, clr_l, clr_r, clr_n, true_and, and_true, or_true, true_or, false_or, or_false, iLe, iLt, iEq, iAdd, iMul, List.cons_append, List.nil_append, List.append_nil, zb0, zb1, if_true, if_false, not_true_eq_false, not_false_eq_true, Bool.false_eq_true, Nat.one_ne_zero, Nat.zero_ne_one, Nat.reduceEqDiff, Nat.reduceAdd, if_pos, if_neg, c]
theorem s_abs {X : Nat × (Nat → Int32)} {σ : Mem} {Q : List Value → Mem → Prop} {x : Int64} {v : Value} : Rn X 174 0 [.long x, v] [] σ Q ↔ Q [.long (if x < lN 0 then -x else x)] σ := by
  by_cases c : x < lN 0
  · simp (disch := omega) only [q_174_0, q_174_1, q_174_2, q_174_3, q_174_6, q_174_7, q_174_8, q_174_11, q_174_12, vinT, iClamp, clr_i, clr_l, clr_r, clr_n, true_and, and_true, or_true, true_or, false_or, or_false, iLe, iLt, iEq, iAdd, iMul, List.cons_append, List.nil_append, List.append_nil, zb0, zb1, if_true, if_false, not_true_eq_false, not_false_eq_true, Bool.false_eq_true, Nat.one_ne_zero, Nat.zero_ne_one, Nat.reduceEqDiff, Nat.reduceAdd, if_pos, if_neg, lc_ge, c]
  · simp (disch := omega) only [q_174_0, q_174_1, q_174_2, q_174_3, q_174_6, q_174_7, q_174_8, q_174_11, q_174_12, vinT, iClamp, clr_i, clr_l, clr_r, clr_n, true_and, and_true, or_true, true_or, false_or, or_false, iLe, iLt, iEq, iAdd, iMul, List.cons_append, List.nil_append, List.append_nil, zb0, zb1, if_true, if_false, not_true_eq_false, not_false_eq_true, Bool.false_eq_true, Nat.one_ne_zero, Nat.zero_ne_one, Nat.reduceEqDiff, Nat.reduceAdd, if_pos, if_neg, lc_ge, c]
theorem dLt {a b c : Nat} (ha : a < 1073741824) (hb : b < 1073741824) (hc : c < 1073741824) : nI a - nI b < nI c ↔ a < c + b := by
  rw [Int32.lt_iff_toInt_lt, pk_sub_toInt ha hb, nI_toInt (by omega)]
  omega
theorem dGe {a b c : Nat} (ha : a < 1073741824) (hb : b < 1073741824) (hc : c < 1073741824) : nI c ≤ nI a - nI b ↔ c + b ≤ a := by
  rw [Int32.le_iff_toInt_le, pk_sub_toInt ha hb, nI_toInt (by omega)]
  omega
theorem kk1 : ∀ k, k < 147 → cK k = 1 → k = 11 := by decide +kernel
theorem Fa1 {d : Nat} (h : cK d = 1) : cK (d + 1) = 10 ∧ cN (d + 1) = 7 ∧ cK (d + 2) = 10 ∧ cN (d + 2) = 7 ∧ d = 11 := by
  have e := kk1 d (cK_lt h (by omega)) h
  subst e
  exact ⟨by decide, by decide, by decide, by decide, rfl⟩
/-- an array begins with a list -/
def AI (σ : Mem) (c : Nat) (l : List Nat) : Prop := ∀ j, j < l.length → σ.1 c j = nI (l.getD j 0)
theorem AI_off {S : List Nat} {σ σ' : Mem} {c : Nat} {l : List Nat} (h : AI σ c l) (ho : Off S σ σ') (h1 : c ∉ S) : AI σ' c l := fun j hj => by rw [(ho c h1).1]; exact h j hj
theorem l_sumOf {X : Nat × (Nat → Int32)} {σ : Mem} {Q : List Value → Mem → Prop} {d m : Nat} {F : Nat → Nat} (hd : cK d = 1) (hm : m ≤ 7) (hF : ∀ j, j < 7 → σ.1 (d + 2) j = nI (F j)) : ∀ n i s, i + n = m → (Rn X 11 4 [.ref d, .int (nI m), .int (nI s), .int (nI i)] [] σ Q ↔ Q [.int (nI (s + smF F i n))] σ) := by
  obtain ⟨f1, f2, f3, f4, f5⟩ := Fa1 hd
  intro n
  induction n with
  | zero =>
    intro i s hi
    have e : i = m := by omega
    subst e
    rw [q_11_4]
    simp (disch := omega) only [q_11_0, q_11_1, q_11_2, q_11_3, q_11_5, q_11_6, q_11_9, q_11_10, q_11_11, q_11_14, q_11_15, q_11_16, q_11_17, q_11_18, q_11_21, q_11_24, q_11_25, vinT, iClamp, clr_i, clr_l, clr_r, clr_n, true_and, and_true, or_true, true_or, false_or, or_false, iLe, iLt, iEq, iAdd, iMul, List.cons_append, List.nil_append, List.append_nil, zb0, zb1, if_true, if_false, not_true_eq_false, not_false_eq_true, Bool.false_eq_true, Nat.one_ne_zero, Nat.zero_ne_one, Nat.reduceEqDiff, Nat.reduceAdd, if_pos, if_neg, smF, Nat.add_zero]
  | succ n ih =>
    intro i s hi
    rw [q_11_4]
    simp (disch := omega) only [q_11_0, q_11_1, q_11_2, q_11_3, q_11_5, q_11_6, q_11_9, q_11_10, q_11_11, q_11_14, q_11_15, q_11_16, q_11_17, q_11_18, q_11_21, q_11_24, q_11_25, vinT, iClamp, clr_i, clr_l, clr_r, clr_n, true_and, and_true, or_true, true_or, false_or, or_false, iLe, iLt, iEq, iAdd, iMul, List.cons_append, List.nil_append, List.append_nil, zb0, zb1, if_true, if_false, not_true_eq_false, not_false_eq_true, Bool.false_eq_true, Nat.one_ne_zero, Nat.zero_ne_one, Nat.reduceEqDiff, Nat.reduceAdd, if_pos, if_neg, hd, f3, f4, hF]
    rw [ih (i + 1) _ (by omega), smF, Nat.add_assoc]
theorem s_sumOf {X : Nat × (Nat → Int32)} {σ : Mem} {Q : List Value → Mem → Prop} {d m : Nat} {F : Nat → Nat} {u v : Value} (hd : cK d = 1) (hm : m ≤ 7) (hF : ∀ j, j < 7 → σ.1 (d + 2) j = nI (F j)) : Rn X 11 0 [.ref d, .int (nI m), u, v] [] σ Q ↔ Q [.int (nI (smF F 0 m))] σ := by
  simp only [q_11_0, q_11_1, q_11_2, q_11_3, clr_i, l_sumOf hd hm hF m 0 0 (by omega), Nat.zero_add]
/-- a gap in an array: A stands ahead of it turned about, B behind it -/
def GI (σ : Mem) (c : Nat) (A B : List Nat) : Prop := (∀ j, j < A.length → σ.1 c j = nI (A.reverse.getD j 0)) ∧ (∀ j, j < B.length → σ.1 c (A.length + 1 + j) = nI (B.getD j 0))
theorem rev_last (y : Nat) (A : List Nat) : (y :: A).reverse.getD A.length 0 = y := by
  rw [List.reverse_cons, gD_r (by simp)]
  simp
theorem rev_front {y : Nat} {A : List Nat} {j : Nat} (h : j < A.length) : (y :: A).reverse.getD j 0 = A.reverse.getD j 0 := by
  rw [List.reverse_cons, gD_l (by simpa using h)]
theorem GI_shift {σ : Mem} {c y : Nat} {A B : List Nat} (h : GI σ c (y :: A) B) : GI (sI σ c (A.length + 1) (nI y)) c A (y :: B) := by
  obtain ⟨h1, h2⟩ := h
  refine ⟨fun j hj => ?_, fun j hj => ?_⟩
  · rw [sI_off (by omega), h1 j (by simp; omega), rev_front hj]
  · by_cases e : j = 0
    · subst e
      rw [Nat.add_zero, sI_at]
      rfl
    · obtain ⟨i, rfl⟩ := Nat.exists_eq_add_of_le (show 1 ≤ j by omega)
      have h3 := h2 i (by simp at hj; omega)
      rw [List.length_cons] at h3
      rw [sI_off (by omega), show A.length + 1 + (1 + i) = A.length + 1 + 1 + i by omega, h3, Nat.add_comm 1 i]
      rfl
theorem GI_put {σ : Mem} {c x : Nat} {A B : List Nat} (h : GI σ c A B) : AI (sI σ c A.length (nI x)) c (A.reverse ++ x :: B) := by
  obtain ⟨h1, h2⟩ := h
  intro j hj
  by_cases c1 : j < A.length
  · rw [sI_off (by omega), h1 j c1, gD_l (by simpa using c1)]
  · by_cases c2 : j = A.length
    · subst c2
      rw [sI_at, gD_r (by simp), List.length_reverse, Nat.sub_self]
      rfl
    · have hj2 : j < A.length + (B.length + 1) := by simpa using hj
      have h3 := h2 (j - A.length - 1) (by omega)
      rw [show A.length + 1 + (j - A.length - 1) = j by omega] at h3
      rw [sI_off (by omega), h3, gD_r (by simp; omega), List.length_reverse]
      obtain ⟨i, hi⟩ := Nat.exists_eq_add_of_le (show 1 ≤ j - A.length by omega)
      rw [hi, Nat.add_sub_cancel_left, Nat.add_comm 1 i]
      rfl
theorem GI_off {S : List Nat} {σ σ' : Mem} {c : Nat} {A B : List Nat} (h : GI σ c A B) (ho : Off S σ σ') (h1 : c ∉ S) : GI σ' c A B := ⟨fun j hj => by rw [(ho c h1).1]; exact h.1 j hj, fun j hj => by rw [(ho c h1).1]; exact h.2 j hj⟩
def ltB (c : Nat) (y : Nat) : Bool := decide (y < c)
theorem l_fallI {X : Nat × (Nat → Int32)} {d a i : Nat} {cl : Nat → Nat} (hd : cK d = 1) (ha : cK a = 10) (hn : cN a = 7) (had : a ≠ d + 2) (hi : i < 7) (hcl : ∀ p, p < 7 → cl p ≤ 100) : ∀ (A B : List Nat) (σ : Mem), A.length + B.length = i → (∀ y, y ∈ A → y ≤ 100) → (∀ p, p < 7 → σ.1 a p = nI (cl p)) → GI σ (d + 2) A B → ∃ σ' v, (∀ Q, Rn X 12 10 [.ref d, .ref a, .int (nI i), .int (nI A.length)] [] σ Q ↔ Rn X 12 2 [.ref d, .ref a, .int (nI (i + 1)), v] [] σ' Q) ∧ AI σ' (d + 2) (insA (ltB (cl i)) (cl i) A B) ∧ Off [d + 2] σ σ' := by
  obtain ⟨f1, f2, f3, f4, f5⟩ := Fa1 hd
  intro A
  induction A with
  | nil =>
    intro B σ hl hA hc hG
    refine ⟨sI σ (d + 2) 0 (nI (cl i)), .int (nI 0), fun Q => ?_, GI_put hG, (Off.rf _ σ).sI (by simp) _ _⟩
    rw [q_12_10]
    simp (disch := omega) only [q_12_11, q_12_14, q_12_15, q_12_18, q_12_19, q_12_20, q_12_21, q_12_22, q_12_23, q_12_24, q_12_25, q_12_28, q_12_29, q_12_32, q_12_33, q_12_34, q_12_37, q_12_38, q_12_39, q_12_40, q_12_41, q_12_42, q_12_45, q_12_48, q_12_49, q_12_52, q_12_53, q_12_54, q_12_55, q_12_56, q_12_57, q_12_60, vinT, iClamp, clr_i, clr_l, clr_r, clr_n, true_and, and_true, or_true, true_or, false_or, or_false, iLe, iLt, iEq, iAdd, iMul, List.cons_append, List.nil_append, List.append_nil, zb0, zb1, if_true, if_false, not_true_eq_false, not_false_eq_true, Bool.false_eq_true, Nat.one_ne_zero, Nat.zero_ne_one, Nat.reduceEqDiff, Nat.reduceAdd, if_pos, if_neg, List.length_nil, hd, ha, hn, f3, f4, hc]
  | cons y A ih =>
    intro B σ hl hA hc hG
    rw [List.length_cons] at hl
    have h1 := hG.1 A.length (by simp)
    rw [rev_last] at h1
    have hy := hA y (by simp)
    have hci := hcl i hi
    have ho : Off [d + 2] σ (sI σ (d + 2) (A.length + 1) (nI y)) := (Off.rf _ σ).sI (by simp) _ _
    by_cases c : y < cl i
    · obtain ⟨σ', v, e1, e2, e3⟩ := ih (y :: B) (sI σ (d + 2) (A.length + 1) (nI y)) (by simp; omega) (fun z hz => hA z (by simp [hz])) (fun p hp => by rw [(ho a (by simp; omega)).1]; exact hc p hp) (GI_shift hG)
      refine ⟨σ', v, fun Q => ?_, ?_, ho.tr e3⟩
      · rw [q_12_10]
        simp (disch := omega) only [q_12_11, q_12_14, q_12_15, q_12_18, q_12_19, q_12_20, q_12_21, q_12_22, q_12_23, q_12_24, q_12_25, q_12_28, q_12_29, q_12_32, q_12_33, q_12_34, q_12_37, q_12_38, q_12_39, q_12_40, q_12_41, q_12_42, q_12_45, q_12_48, q_12_49, q_12_52, q_12_53, q_12_54, q_12_55, q_12_56, q_12_57, q_12_60, vinT, iClamp, clr_i, clr_l, clr_r, clr_n, true_and, and_true, or_true, true_or, false_or, or_false, iLe, iLt, iEq, iAdd, iMul, List.cons_append, List.nil_append, List.append_nil, zb0, zb1, if_true, if_false, not_true_eq_false, not_false_eq_true, Bool.false_eq_true, Nat.one_ne_zero, Nat.zero_ne_one, Nat.reduceEqDiff, Nat.reduceAdd, if_pos, if_neg, List.length_cons, hd, ha, hn, f3, f4, hc, iSub, Nat.add_sub_cancel, h1, pk_m1]
        exact e1 Q
      · rw [insA, if_pos (by simpa [ltB] using c)]
        exact e2
    · refine ⟨sI σ (d + 2) (y :: A).length (nI (cl i)), .int (nI (y :: A).length), fun Q => ?_, ?_, (Off.rf _ σ).sI (by simp) _ _⟩
      · rw [q_12_10]
        simp (disch := omega) only [q_12_11, q_12_14, q_12_15, q_12_18, q_12_19, q_12_20, q_12_21, q_12_22, q_12_23, q_12_24, q_12_25, q_12_28, q_12_29, q_12_32, q_12_33, q_12_34, q_12_37, q_12_38, q_12_39, q_12_40, q_12_41, q_12_42, q_12_45, q_12_48, q_12_49, q_12_52, q_12_53, q_12_54, q_12_55, q_12_56, q_12_57, q_12_60, vinT, iClamp, clr_i, clr_l, clr_r, clr_n, true_and, and_true, or_true, true_or, false_or, or_false, iLe, iLt, iEq, iAdd, iMul, List.cons_append, List.nil_append, List.append_nil, zb0, zb1, if_true, if_false, not_true_eq_false, not_false_eq_true, Bool.false_eq_true, Nat.one_ne_zero, Nat.zero_ne_one, Nat.reduceEqDiff, Nat.reduceAdd, if_pos, if_neg, List.length_cons, hd, ha, hn, f3, f4, hc, iSub, Nat.add_sub_cancel, h1]
      · rw [insA, if_neg (by simpa [ltB] using c)]
        exact GI_put hG
def flL (cl : Nat → Nat) : Nat → List Nat
  | 0 => []
  | n + 1 => insL (ltB (cl n)) (cl n) (flL cl n)
theorem flL_len (cl : Nat → Nat) : ∀ n, (flL cl n).length = n
  | 0 => rfl
  | n + 1 => by rw [flL, insL_len, flL_len cl n]
theorem flL_le {cl : Nat → Nat} {c : Nat} : ∀ n, (∀ p, p < n → cl p ≤ c) → ∀ y, y ∈ flL cl n → y ≤ c
  | 0, _, y, h => by simp [flL] at h
  | n + 1, hc, y, h => by
    rw [flL, insL_mem] at h
    rcases h with rfl | h
    · exact hc n (by omega)
    · exact flL_le n (fun p hp => hc p (by omega)) y h
theorem GI_of {σ : Mem} {c : Nat} {l : List Nat} (h : AI σ c l) : GI σ c l.reverse [] := ⟨fun j hj => by rw [List.reverse_reverse]; exact h j (by simpa using hj), fun j hj => by simp at hj⟩
theorem l_fall {X : Nat × (Nat → Int32)} {d a : Nat} {cl : Nat → Nat} (hd : cK d = 1) (ha : cK a = 10) (hn : cN a = 7) (had : a ≠ d + 2) (hcl : ∀ p, p < 7 → cl p ≤ 100) : ∀ n i (σ : Mem) (v : Value), i + n = 7 → (∀ p, p < 7 → σ.1 a p = nI (cl p)) → AI σ (d + 2) (flL cl i) → ∃ σ', (∀ Q, Rn X 12 2 [.ref d, .ref a, .int (nI i), v] [] σ Q ↔ Q [] σ') ∧ AI σ' (d + 2) (flL cl 7) ∧ Off [d + 2] σ σ' := by
  obtain ⟨f1, f2, f3, f4, f5⟩ := Fa1 hd
  intro n
  induction n with
  | zero =>
    intro i σ v hi hc hA
    have e : i = 7 := by omega
    subst e
    refine ⟨σ, fun Q => ?_, hA, Off.rf _ _⟩
    rw [q_12_2]
    simp (disch := omega) only [q_12_0, q_12_1, q_12_3, q_12_5, q_12_8, q_12_9, q_12_11, q_12_14, q_12_15, q_12_18, q_12_19, q_12_20, q_12_21, q_12_22, q_12_23, q_12_24, q_12_25, q_12_28, q_12_29, q_12_32, q_12_33, q_12_34, q_12_37, q_12_38, q_12_39, q_12_40, q_12_41, q_12_42, q_12_45, q_12_48, q_12_49, q_12_52, q_12_53, q_12_54, q_12_55, q_12_56, q_12_57, q_12_60, q_12_63, vinT, iClamp, clr_i, clr_l, clr_r, clr_n, true_and, and_true, or_true, true_or, false_or, or_false, iLe, iLt, iEq, iAdd, iMul, List.cons_append, List.nil_append, List.append_nil, zb0, zb1, if_true, if_false, not_true_eq_false, not_false_eq_true, Bool.false_eq_true, Nat.one_ne_zero, Nat.zero_ne_one, Nat.reduceEqDiff, Nat.reduceAdd, if_pos, if_neg]
  | succ n ih =>
    intro i σ v hi hc hA
    obtain ⟨σ1, v1, e1, e2, e3⟩ := l_fallI (X := X) (i := i) hd ha hn had (by omega) hcl (flL cl i).reverse [] σ (by simp [flL_len]) (fun y hy => flL_le i (fun p hp => hcl p (by omega)) y (by simpa using hy)) hc (GI_of hA)
    obtain ⟨σ', i1, i2, i3⟩ := ih (i + 1) σ1 v1 (by omega) (fun p hp => by rw [(e3 a (by simp; omega)).1]; exact hc p hp) e2
    refine ⟨σ', fun Q => ?_, i2, e3.tr i3⟩
    rw [q_12_2]
    simp (disch := omega) only [q_12_3, q_12_5, q_12_8, q_12_9, vinT, iClamp, clr_i, clr_l, clr_r, clr_n, true_and, and_true, or_true, true_or, false_or, or_false, iLe, iLt, iEq, iAdd, iMul, List.cons_append, List.nil_append, List.append_nil, zb0, zb1, if_true, if_false, not_true_eq_false, not_false_eq_true, Bool.false_eq_true, Nat.one_ne_zero, Nat.zero_ne_one, Nat.reduceEqDiff, Nat.reduceAdd, if_pos, if_neg]
    have e1' := e1 Q
    rw [List.length_reverse, flL_len] at e1'
    rw [e1']
    exact i1 Q
theorem s_fall {X : Nat × (Nat → Int32)} {σ : Mem} {d a : Nat} {cl : Nat → Nat} {u v : Value} (hd : cK d = 1) (ha : cK a = 10) (hn : cN a = 7) (had : a ≠ d + 2) (hcl : ∀ p, p < 7 → cl p ≤ 100) (hc : ∀ p, p < 7 → σ.1 a p = nI (cl p)) : ∃ σ', Ev X 12 [.ref d, .ref a, u, v] σ [] σ' ∧ AI σ' (d + 2) (flL cl 7) ∧ Off [d + 2] σ σ' := by
  obtain ⟨σ', e1, e2, e3⟩ := l_fall (X := X) hd ha hn had hcl 7 0 σ v rfl hc (fun j hj => by simp [flL] at hj)
  refine ⟨σ', fun Q => ?_, e2, e3⟩
  simp only [q_12_0, q_12_1, clr_r]
  exact e1 Q
/-! the uppers, one after another -/
theorem l_said {X : Nat × (Nat → Int32)} {d a : Nat} {cl : Nat → Nat} (hd : cK d = 1) (ha : cK a = 10) (hn : cN a = 7) (had : a ≠ d + 1) : ∀ n i (σ : Mem), i + n = 7 → (∀ p, p < 7 → σ.1 a p = nI (cl p)) → ∃ σ', (∀ Q, Rn X 6 7 [.ref d, .ref a, .int (nI i)] [] σ Q ↔ Q [] σ') ∧ (∀ p, i ≤ p → p < 7 → σ'.1 (d + 1) p = nI (cl p)) ∧ (∀ p, p < i → σ'.1 (d + 1) p = σ.1 (d + 1) p) ∧ Off [d + 1] σ σ' := by
  obtain ⟨f1, f2, f3, f4, f5⟩ := Fa1 hd
  intro n
  induction n with
  | zero =>
    intro i σ hi hc
    have e : i = 7 := by omega
    subst e
    refine ⟨σ, fun Q => ?_, fun p a b => absurd b (by omega), fun _ _ => rfl, Off.rf _ _⟩
    rw [q_6_7]
    simp (disch := omega) only [q_6_0, q_6_1, q_6_2, q_6_5, q_6_6, q_6_8, q_6_10, q_6_13, q_6_14, q_6_17, q_6_18, q_6_19, q_6_20, q_6_21, q_6_22, q_6_25, q_6_28, vinT, iClamp, clr_i, clr_l, clr_r, clr_n, true_and, and_true, or_true, true_or, false_or, or_false, iLe, iLt, iEq, iAdd, iMul, List.cons_append, List.nil_append, List.append_nil, zb0, zb1, if_true, if_false, not_true_eq_false, not_false_eq_true, Bool.false_eq_true, Nat.one_ne_zero, Nat.zero_ne_one, Nat.reduceEqDiff, Nat.reduceAdd, if_pos, if_neg]
  | succ n ih =>
    intro i σ hi hc
    have ho : Off [d + 1] σ (sI σ (d + 1) i (nI (cl i))) := (Off.rf _ σ).sI (by simp) _ _
    obtain ⟨σ', e1, e2, e3, e4⟩ := ih (i + 1) (sI σ (d + 1) i (nI (cl i))) (by omega) (fun p hp => by rw [(ho a (by simp; omega)).1]; exact hc p hp)
    refine ⟨σ', fun Q => ?_, fun p h1 h2 => ?_, fun p hp => ?_, ho.tr e4⟩
    · rw [q_6_7]
      simp (disch := omega) only [q_6_0, q_6_1, q_6_2, q_6_5, q_6_6, q_6_8, q_6_10, q_6_13, q_6_14, q_6_17, q_6_18, q_6_19, q_6_20, q_6_21, q_6_22, q_6_25, q_6_28, vinT, iClamp, clr_i, clr_l, clr_r, clr_n, true_and, and_true, or_true, true_or, false_or, or_false, iLe, iLt, iEq, iAdd, iMul, List.cons_append, List.nil_append, List.append_nil, zb0, zb1, if_true, if_false, not_true_eq_false, not_false_eq_true, Bool.false_eq_true, Nat.one_ne_zero, Nat.zero_ne_one, Nat.reduceEqDiff, Nat.reduceAdd, if_pos, if_neg, hd, ha, hn, f1, f2, hc]
      exact e1 Q
    · by_cases e : p = i
      · subst e; rw [e3 p (by omega), sI_at]
      · exact e2 p (by omega) h2
    · rw [e3 p (by omega), sI_off (by omega)]
theorem l_parts {X : Nat × (Nat → Int32)} {d a : Nat} {cl : Nat → Nat} {u : Value} (hd : cK d = 1) (ha : cK a = 10) (hn : cN a = 7) (had : a ≠ d + 1) : ∀ n i (σ : Mem) (u : Value), i + n = 7 → (∀ p, p < 7 → σ.1 a p = nI (cl p)) → ∃ σ', (∀ Q, Rn X 7 7 [.ref d, .ref a, u, .int (nI i)] [] σ Q ↔ Q [] σ') ∧ (∀ p, i ≤ p → p < 7 → σ'.1 (d + 1) p = nI (cl p * 100)) ∧ (∀ p, p < i → σ'.1 (d + 1) p = σ.1 (d + 1) p) ∧ Off [d + 1] σ σ' := by
  obtain ⟨f1, f2, f3, f4, f5⟩ := Fa1 hd
  intro n
  induction n with
  | zero =>
    intro i σ u hi hc
    have e : i = 7 := by omega
    subst e
    refine ⟨σ, fun Q => ?_, fun p a b => absurd b (by omega), fun _ _ => rfl, Off.rf _ _⟩
    rw [q_7_7]
    simp (disch := omega) only [q_7_0, q_7_1, q_7_2, q_7_5, q_7_6, q_7_8, q_7_10, q_7_13, q_7_14, q_7_17, q_7_18, q_7_19, q_7_20, q_7_21, q_7_23, q_7_24, q_7_25, q_7_28, q_7_31, vinT, iClamp, clr_i, clr_l, clr_r, clr_n, true_and, and_true, or_true, true_or, false_or, or_false, iLe, iLt, iEq, iAdd, iMul, List.cons_append, List.nil_append, List.append_nil, zb0, zb1, if_true, if_false, not_true_eq_false, not_false_eq_true, Bool.false_eq_true, Nat.one_ne_zero, Nat.zero_ne_one, Nat.reduceEqDiff, Nat.reduceAdd, if_pos, if_neg]
  | succ n ih =>
    intro i σ u hi hc
    have ho : Off [d + 1] σ (sI σ (d + 1) i (nI (cl i * 100))) := (Off.rf _ σ).sI (by simp) _ _
    obtain ⟨σ', e1, e2, e3, e4⟩ := ih (i + 1) (sI σ (d + 1) i (nI (cl i * 100))) (clr u) (by omega) (fun p hp => by rw [(ho a (by simp; omega)).1]; exact hc p hp)
    refine ⟨σ', fun Q => ?_, fun p h1 h2 => ?_, fun p hp => ?_, ho.tr e4⟩
    · rw [q_7_7]
      simp (disch := omega) only [q_7_0, q_7_1, q_7_2, q_7_5, q_7_6, q_7_8, q_7_10, q_7_13, q_7_14, q_7_17, q_7_18, q_7_19, q_7_20, q_7_21, q_7_23, q_7_24, q_7_25, q_7_28, q_7_31, vinT, iClamp, clr_i, clr_l, clr_r, clr_n, true_and, and_true, or_true, true_or, false_or, or_false, iLe, iLt, iEq, iAdd, iMul, List.cons_append, List.nil_append, List.append_nil, zb0, zb1, if_true, if_false, not_true_eq_false, not_false_eq_true, Bool.false_eq_true, Nat.one_ne_zero, Nat.zero_ne_one, Nat.reduceEqDiff, Nat.reduceAdd, if_pos, if_neg, hd, ha, hn, f1, f2, hc]
      exact e1 Q
    · by_cases e : p = i
      · subst e; rw [e3 p (by omega), sI_at]
      · exact e2 p (by omega) h2
    · rw [e3 p (by omega), sI_off (by omega)]
theorem l_capU {X : Nat × (Nat → Int32)} {d a c cap : Nat} {cl : Nat → Nat} {y : Int32} (hd : cK d = 1) (ha : cK a = 10) (hn : cN a = 7) (had : a ≠ d + 1) (hcl : ∀ p, p < 7 → cl p ≤ 100) (hc7 : c ≤ 7) (hcap : cap ≤ 1000) : ∀ n i (σ : Mem), i + n = 7 → (∀ p, p < 7 → σ.1 a p = nI (cl p)) → ∃ σ', (∀ Q, Rn X 8 49 [.ref d, .ref a, .int y, .int (nI c), .int (nI cap), .int (nI i)] [] σ Q ↔ Q [] σ') ∧ (∀ p, i ≤ p → p < 7 → σ'.1 (d + 1) p = nI (min (cl p * c) cap)) ∧ (∀ p, p < i → σ'.1 (d + 1) p = σ.1 (d + 1) p) ∧ Off [d + 1] σ σ' := by
  obtain ⟨f1, f2, f3, f4, f5⟩ := Fa1 hd
  intro n
  induction n with
  | zero =>
    intro i σ hi hc
    have e : i = 7 := by omega
    subst e
    refine ⟨σ, fun Q => ?_, fun p a b => absurd b (by omega), fun _ _ => rfl, Off.rf _ _⟩
    rw [q_8_49]
    simp (disch := omega) only [q_8_51, q_8_53, q_8_56, q_8_57, q_8_60, q_8_62, q_8_63, q_8_65, q_8_66, q_8_67, q_8_68, q_8_70, q_8_73, q_8_74, q_8_77, q_8_80, vinT, iClamp, clr_i, clr_l, clr_r, clr_n, true_and, and_true, or_true, true_or, false_or, or_false, iLe, iLt, iEq, iAdd, iMul, List.cons_append, List.nil_append, List.append_nil, zb0, zb1, if_true, if_false, not_true_eq_false, not_false_eq_true, Bool.false_eq_true, Nat.one_ne_zero, Nat.zero_ne_one, Nat.reduceEqDiff, Nat.reduceAdd, if_pos, if_neg]
  | succ n ih =>
    intro i σ hi hc
    have ho : Off [d + 1] σ (sI σ (d + 1) i (nI (min (cl i * c) cap))) := (Off.rf _ σ).sI (by simp) _ _
    obtain ⟨σ', e1, e2, e3, e4⟩ := ih (i + 1) (sI σ (d + 1) i (nI (min (cl i * c) cap))) (by omega) (fun p hp => by rw [(ho a (by simp; omega)).1]; exact hc p hp)
    refine ⟨σ', fun Q => ?_, fun p h1 h2 => ?_, fun p hp => ?_, ho.tr e4⟩
    · rw [q_8_49]
      have h9 : cl i * c ≤ 100 * 7 := Nat.mul_le_mul (hcl i (by omega)) hc7
      have hmn : (if cap < cl i * c then nI cap else nI (cl i * c)) = nI (min (cl i * c) cap) := by
        by_cases q : cap < cl i * c
        · rw [if_pos q, Nat.min_eq_right (by omega)]
        · rw [if_neg q, Nat.min_eq_left (by omega)]
      simp (disch := omega) only [q_8_51, q_8_53, q_8_56, q_8_57, q_8_60, q_8_62, q_8_63, q_8_65, q_8_66, q_8_67, q_8_68, q_8_70, q_8_73, q_8_74, q_8_77, q_8_80, vinT, iClamp, clr_i, clr_l, clr_r, clr_n, true_and, and_true, or_true, true_or, false_or, or_false, iLe, iLt, iEq, iAdd, iMul, List.cons_append, List.nil_append, List.append_nil, zb0, zb1, if_true, if_false, not_true_eq_false, not_false_eq_true, Bool.false_eq_true, Nat.one_ne_zero, Nat.zero_ne_one, Nat.reduceEqDiff, Nat.reduceAdd, if_pos, if_neg, hd, ha, hn, f1, f2, hc, s_min, hmn]
      exact e1 Q
    · by_cases e : p = i
      · subst e; rw [e3 p (by omega), sI_at]
      · exact e2 p (by omega) h2
    · rw [e3 p (by omega), sI_off (by omega)]
theorem l_lossU {X : Nat × (Nat → Int32)} {d a c lo : Nat} {cl : Nat → Nat} (hd : cK d = 1) (ha : cK a = 10) (hn : cN a = 7) (had : a ≠ d + 1) (hcl : ∀ p, p < 7 → cl p ≤ 100) (hc7 : c ≤ 7) (hlo : lo ≤ 1000) : ∀ n i (σ : Mem), i + n = 7 → (∀ p, p < 7 → σ.1 a p = nI (cl p)) → ∃ σ', (∀ Q, Rn X 10 50 [.ref d, .ref a, .int (nI c), .int (nI lo), .int (nI i)] [] σ Q ↔ Q [] σ') ∧ (∀ p, i ≤ p → p < 7 → σ'.1 (d + 1) p = nI (cl p * c - lo)) ∧ (∀ p, p < i → σ'.1 (d + 1) p = σ.1 (d + 1) p) ∧ Off [d + 1] σ σ' := by
  obtain ⟨f1, f2, f3, f4, f5⟩ := Fa1 hd
  intro n
  induction n with
  | zero =>
    intro i σ hi hc
    have e : i = 7 := by omega
    subst e
    refine ⟨σ, fun Q => ?_, fun p a b => absurd b (by omega), fun _ _ => rfl, Off.rf _ _⟩
    rw [q_10_50]
    simp (disch := omega) only [q_10_52, q_10_54, q_10_57, q_10_58, q_10_61, q_10_63, q_10_64, q_10_66, q_10_67, q_10_68, q_10_69, q_10_70, q_10_71, q_10_72, q_10_75, q_10_76, q_10_79, q_10_82, vinT, iClamp, clr_i, clr_l, clr_r, clr_n, true_and, and_true, or_true, true_or, false_or, or_false, iLe, iLt, iEq, iAdd, iMul, List.cons_append, List.nil_append, List.append_nil, zb0, zb1, if_true, if_false, not_true_eq_false, not_false_eq_true, Bool.false_eq_true, Nat.one_ne_zero, Nat.zero_ne_one, Nat.reduceEqDiff, Nat.reduceAdd, if_pos, if_neg]
  | succ n ih =>
    intro i σ hi hc
    have ho : Off [d + 1] σ (sI σ (d + 1) i (nI (cl i * c - lo))) := (Off.rf _ σ).sI (by simp) _ _
    obtain ⟨σ', e1, e2, e3, e4⟩ := ih (i + 1) (sI σ (d + 1) i (nI (cl i * c - lo))) (by omega) (fun p hp => by rw [(ho a (by simp; omega)).1]; exact hc p hp)
    refine ⟨σ', fun Q => ?_, fun p h1 h2 => ?_, fun p hp => ?_, ho.tr e4⟩
    · rw [q_10_50]
      have h9 : cl i * c ≤ 100 * 7 := Nat.mul_le_mul (hcl i (by omega)) hc7
      have hmn : (if cl i * c < 0 + lo then nI 0 else nI (cl i * c) - nI lo) = nI (cl i * c - lo) := by
        by_cases q : cl i * c < 0 + lo
        · rw [if_pos q, show cl i * c - lo = 0 by omega]
        · rw [if_neg q, iSub (by omega)]
      simp (disch := omega) only [q_10_52, q_10_54, q_10_57, q_10_58, q_10_61, q_10_63, q_10_64, q_10_66, q_10_67, q_10_68, q_10_69, q_10_70, q_10_71, q_10_72, q_10_75, q_10_76, q_10_79, q_10_82, vinT, iClamp, clr_i, clr_l, clr_r, clr_n, true_and, and_true, or_true, true_or, false_or, or_false, iLe, iLt, iEq, iAdd, iMul, List.cons_append, List.nil_append, List.append_nil, zb0, zb1, if_true, if_false, not_true_eq_false, not_false_eq_true, Bool.false_eq_true, Nat.one_ne_zero, Nat.zero_ne_one, Nat.reduceEqDiff, Nat.reduceAdd, if_pos, if_neg, hd, ha, hn, f1, f2, hc, s_max, dLt, hmn]
      exact e1 Q
    · by_cases e : p = i
      · subst e; rw [e3 p (by omega), sI_at]
      · exact e2 p (by omega) h2
    · rw [e3 p (by omega), sI_off (by omega)]
/-! how many are capped, how many lose -/
def SS (F : Nat → Nat) (n : Nat) : Nat := smF F 0 n
theorem smF_snoc (f : Nat → Nat) : ∀ n i, smF f i (n + 1) = smF f i n + f (i + n)
  | 0, i => by simp [smF]
  | n + 1, i => by
    rw [smF, smF_snoc f n (i + 1), smF, show i + 1 + n = i + (n + 1) by omega]
    omega
theorem SS_succ (F : Nat → Nat) (n : Nat) : SS F (n + 1) = SS F n + F n := by
  rw [SS, SS, smF_snoc, Nat.zero_add]
theorem SS_mono (F : Nat → Nat) {m n : Nat} (h : m ≤ n) : SS F m ≤ SS F n := by
  obtain ⟨d, rfl⟩ := Nat.exists_eq_add_of_le h
  induction d with
  | zero => exact Nat.le_refl _
  | succ d ih =>
    have := ih (by omega)
    rw [← Nat.add_assoc, SS_succ]
    omega
def cpF (F : Nat → Nat) (all : Nat) : Nat → Nat
  | 0 => 1
  | n + 1 => if F (n + 1) * (n + 1 + 1) < 100 + SS F (n + 1 + 1) - all then cpF F all n else n + 1 + 1
def loF (F : Nat → Nat) : Nat → Nat → Nat
  | 0, l => l
  | m + 1, l => if SS F l < F l * l + 100 then loF F m (l + 1) else l
theorem s_left {X : Nat × (Nat → Int32)} {σ : Mem} {Q : List Value → Mem → Prop} {d m all : Nat} {F : Nat → Nat} (hd : cK d = 1) (hm : m ≤ 7) (hF : ∀ j, j < 7 → σ.1 (d + 2) j = nI (F j)) (h1 : SS F m ≤ all) (h2 : all ≤ 100 + SS F m) (hall : all ≤ 700) : Rn X 9 0 [.ref d, .int (nI m), .int (nI all)] [] σ Q ↔ Q [.int (nI (100 + SS F m - all))] σ := by
  have e : smF F 0 m = SS F m := rfl
  simp (disch := omega) only [q_9_0, q_9_2, q_9_3, q_9_4, q_9_5, q_9_8, q_9_9, q_9_10, vinT, iClamp, clr_i, clr_l, clr_r, clr_n, true_and, and_true, or_true, true_or, false_or, or_false, iLe, iLt, iEq, iAdd, iMul, List.cons_append, List.nil_append, List.append_nil, zb0, zb1, if_true, if_false, not_true_eq_false, not_false_eq_true, Bool.false_eq_true, Nat.one_ne_zero, Nat.zero_ne_one, Nat.reduceEqDiff, Nat.reduceAdd, if_pos, if_neg, hd, s_sumOf hd hm hF, e, iSub]
  rw [show 100 - (all - SS F m) = 100 + SS F m - all by omega]
theorem cpF_ok {F : Nat → Nat} {all : Nat} : ∀ n, all ≤ 100 + SS F (n + 1) → 1 ≤ cpF F all n ∧ cpF F all n ≤ n + 1 ∧ all ≤ 100 + SS F (cpF F all n)
  | 0, h => ⟨by simp [cpF], by simp [cpF], h⟩
  | n + 1, h => by
    rw [cpF]
    by_cases c : F (n + 1) * (n + 1 + 1) < 100 + SS F (n + 1 + 1) - all
    · rw [if_pos c]
      have h3 : F (n + 1) ≤ F (n + 1) * (n + 1 + 1) := Nat.le_mul_of_pos_right _ (by omega)
      have h4 := SS_succ F (n + 1)
      obtain ⟨a, b, e⟩ := cpF_ok (F := F) (all := all) n (by omega)
      exact ⟨a, by omega, e⟩
    · rw [if_neg c]
      exact ⟨by omega, by omega, h⟩
theorem l_cap {X : Nat × (Nat → Int32)} {σ : Mem} {Q : List Value → Mem → Prop} {d a all : Nat} {F : Nat → Nat} {u v : Value} (hd : cK d = 1) (hF : ∀ j, j < 7 → σ.1 (d + 2) j = nI (F j)) (hF1 : ∀ j, j < 7 → F j ≤ 100) (hall : all ≤ 700) (hS : SS F 7 = all) : ∀ n, n ≤ 6 → all ≤ 100 + SS F (n + 1) → (Rn X 8 3 [.ref d, .ref a, .int (nI all), .int (nI (n + 1)), u, v] [] σ Q ↔ Rn X 8 33 [.ref d, .ref a, .int (nI all), .int (nI (cpF F all n)), u, v] [] σ Q) := by
  obtain ⟨f1, f2, f3, f4, f5⟩ := Fa1 hd
  intro n
  induction n with
  | zero =>
    intro hn h
    rw [q_8_3]
    simp (disch := omega) only [q_8_4, q_8_5, q_8_8, q_8_9, q_8_12, q_8_13, q_8_14, q_8_15, q_8_16, q_8_17, q_8_18, q_8_19, q_8_20, q_8_21, q_8_24, q_8_27, q_8_30, vinT, iClamp, clr_i, clr_l, clr_r, clr_n, true_and, and_true, or_true, true_or, false_or, or_false, iLe, iLt, iEq, iAdd, iMul, List.cons_append, List.nil_append, List.append_nil, zb0, zb1, if_true, if_false, not_true_eq_false, not_false_eq_true, Bool.false_eq_true, Nat.one_ne_zero, Nat.zero_ne_one, Nat.reduceEqDiff, Nat.reduceAdd, if_pos, if_neg, cpF]
  | succ n ih =>
    intro hn h
    have hs := SS_mono F (m := n + 1 + 1) (n := 7) (by omega)
    have q1 := hF (n + 1) (by omega)
    have q2 := hF1 (n + 1) (by omega)
    have q3 : F (n + 1) * (n + 1 + 1) ≤ 100 * 8 := Nat.mul_le_mul q2 (by omega)
    have q4 := SS_succ F (n + 1)
    have q5 : F (n + 1) ≤ F (n + 1) * (n + 1 + 1) := Nat.le_mul_of_pos_right _ (by omega)
    rw [q_8_3, cpF]
    simp (disch := omega) only [q_8_4, q_8_5, q_8_8, q_8_9, q_8_12, q_8_13, q_8_14, q_8_15, q_8_16, q_8_17, q_8_18, q_8_19, q_8_20, q_8_21, q_8_24, q_8_27, q_8_30, vinT, iClamp, clr_i, clr_l, clr_r, clr_n, true_and, and_true, or_true, true_or, false_or, or_false, iLe, iLt, iEq, iAdd, iMul, List.cons_append, List.nil_append, List.append_nil, zb0, zb1, if_true, if_false, not_true_eq_false, not_false_eq_true, Bool.false_eq_true, Nat.one_ne_zero, Nat.zero_ne_one, Nat.reduceEqDiff, Nat.reduceAdd, if_pos, if_neg, hd, f3, f4, iSub, Nat.add_sub_cancel, q1, s_left hd (show n + 1 + 1 ≤ 7 by omega) hF (by omega) h hall]
    by_cases c : F (n + 1) * (n + 1 + 1) < 100 + SS F (n + 1 + 1) - all
    · rw [if_neg (by omega), if_pos c, pk_m1]
      exact ih (by omega) (by omega)
    · rw [if_pos (by omega), if_neg c]
theorem loF_ok {F : Nat → Nat} : ∀ m l, 1 ≤ l → 1 ≤ loF F m l ∧ loF F m l ≤ l + m ∧ (100 < SS F (l + m) → 100 ≤ SS F (loF F m l))
  | 0, l, h => ⟨h, by simp [loF], fun q => by simpa [loF] using Nat.le_of_lt q⟩
  | m + 1, l, h => by
    rw [loF]
    by_cases c : SS F l < F l * l + 100
    · rw [if_pos c]
      obtain ⟨a, b, e⟩ := loF_ok (F := F) m (l + 1) (by omega)
      exact ⟨a, by omega, fun q => e (by rw [show l + 1 + m = l + (m + 1) by omega]; exact q)⟩
    · rw [if_neg c]
      exact ⟨h, by omega, fun _ => by omega⟩
theorem l_less {X : Nat × (Nat → Int32)} {σ : Mem} {Q : List Value → Mem → Prop} {d a : Nat} {F : Nat → Nat} {u v : Value} (hd : cK d = 1) (hF : ∀ j, j < 7 → σ.1 (d + 2) j = nI (F j)) (hF1 : ∀ j, j < 7 → F j ≤ 100) : ∀ m l, 1 ≤ l → l + m = 7 → (Rn X 10 2 [.ref d, .ref a, .int (nI l), u, v] [] σ Q ↔ Rn X 10 33 [.ref d, .ref a, .int (nI (loF F m l)), u, v] [] σ Q) := by
  obtain ⟨f1, f2, f3, f4, f5⟩ := Fa1 hd
  intro m
  induction m with
  | zero =>
    intro l h1 hl
    have e : l = 7 := by omega
    subst e
    rw [q_10_2]
    simp (disch := omega) only [q_10_3, q_10_5, q_10_8, q_10_9, q_10_10, q_10_13, q_10_15, q_10_16, q_10_17, q_10_20, q_10_21, q_10_22, q_10_23, q_10_24, q_10_27, q_10_30, vinT, iClamp, clr_i, clr_l, clr_r, clr_n, true_and, and_true, or_true, true_or, false_or, or_false, iLe, iLt, iEq, iAdd, iMul, List.cons_append, List.nil_append, List.append_nil, zb0, zb1, if_true, if_false, not_true_eq_false, not_false_eq_true, Bool.false_eq_true, Nat.one_ne_zero, Nat.zero_ne_one, Nat.reduceEqDiff, Nat.reduceAdd, if_pos, if_neg, loF]
  | succ m ih =>
    intro l h1 hl
    have hs : SS F l ≤ l * 100 := smF_le l 0 (fun j _ b => hF1 j (by omega))
    have q1 := hF l (by omega)
    have q2 := hF1 l (by omega)
    have q3 : F l * l ≤ 100 * 7 := Nat.mul_le_mul q2 (by omega)
    have e : smF F 0 l = SS F l := rfl
    rw [q_10_2, loF]
    simp (disch := omega) only [q_10_3, q_10_5, q_10_8, q_10_9, q_10_10, q_10_13, q_10_15, q_10_16, q_10_17, q_10_20, q_10_21, q_10_22, q_10_23, q_10_24, q_10_27, q_10_30, vinT, iClamp, clr_i, clr_l, clr_r, clr_n, true_and, and_true, or_true, true_or, false_or, or_false, iLe, iLt, iEq, iAdd, iMul, List.cons_append, List.nil_append, List.append_nil, zb0, zb1, if_true, if_false, not_true_eq_false, not_false_eq_true, Bool.false_eq_true, Nat.one_ne_zero, Nat.zero_ne_one, Nat.reduceEqDiff, Nat.reduceAdd, if_pos, if_neg, hd, f3, f4, q1, s_sumOf hd (show l ≤ 7 by omega) hF, e, dGe]
    by_cases c : SS F l < F l * l + 100
    · rw [if_neg (by omega), if_pos c]
      exact ih (l + 1) (by omega) (by omega)
    · rw [if_pos (by omega), if_neg c]
/-- what is brought down: lower part, upper parts -/
def fF (cl : Nat → Nat) (j : Nat) : Nat := (flL cl 7).getD j 0
def dvL (cl : Nat → Nat) (r : Nat) : Nat := if SS (fF cl) 7 ≤ 100 then 1 else if r = 0 then SS (fF cl) 7 else if r = 1 then cpF (fF cl) (SS (fF cl) 7) 6 else loF (fF cl) 6 1
def dvU (cl : Nat → Nat) (r p : Nat) : Nat := if SS (fF cl) 7 ≤ 100 then cl p else if r = 0 then cl p * 100 else if r = 1 then min (cl p * dvL cl r) (100 + SS (fF cl) (dvL cl r) - SS (fF cl) 7) else cl p * dvL cl r - (SS (fF cl) (dvL cl r) - 100)
def DV (σ : Mem) (d : Nat) (cl : Nat → Nat) (r : Nat) : Prop := σ.1 d 1 = nI (dvL cl r) ∧ ∀ p, p < 7 → σ.1 (d + 1) p = nI (dvU cl r p)
theorem fF_le {cl : Nat → Nat} (hcl : ∀ p, p < 7 → cl p ≤ 100) {j : Nat} (hj : j < 7) : fF cl j ≤ 100 := by
  apply flL_le 7 hcl
  rw [fF, List.getD_eq_getElem?_getD, List.getElem?_eq_getElem (by rw [flL_len]; exact hj)]
  exact List.getElem_mem _
theorem SS_le {cl : Nat → Nat} (hcl : ∀ p, p < 7 → cl p ≤ 100) {n : Nat} (hn : n ≤ 7) : SS (fF cl) n ≤ 700 := by
  have h : SS (fF cl) n ≤ n * 100 := smF_le n 0 (fun j _ b => fF_le hcl (by omega))
  omega
theorem s_divide {X : Nat × (Nat → Int32)} {σ : Mem} {d a r : Nat} {cl : Nat → Nat} {v : Value} (hd : cK d = 1) (ha : cK a = 10) (hn : cN a = 7) (had : 30 < a) (hr : r < 3) (hcl : ∀ p, p < 7 → cl p ≤ 100) (hc : ∀ p, p < 7 → σ.1 a p = nI (cl p)) : ∃ σ', Ev X 4 [.ref d, .ref a, .int (nI r), v] σ [] σ' ∧ DV σ' d cl r ∧ Off [d, d + 1, d + 2] σ σ' := by
  obtain ⟨f1, f2, f3, f4, f5⟩ := Fa1 hd
  obtain ⟨σ1, e1, e2, e3⟩ := s_fall (X := X) (u := .null) (v := .null) hd ha hn (by omega) hcl hc
  have e1' := fun Q => e1 Q
  have hF : ∀ j, j < 7 → σ1.1 (d + 2) j = nI (fF cl j) := fun j hj => e2 j (by rw [flL_len]; exact hj)
  have hF1 : ∀ j, j < 7 → fF cl j ≤ 100 := fun j hj => fF_le hcl hj
  have hc1 : ∀ p, p < 7 → σ1.1 a p = nI (cl p) := fun p hp => by rw [(e3 a (by simp; omega)).1]; exact hc p hp
  have hall := SS_le hcl (Nat.le_refl 7)
  have eS : smF (fF cl) 0 7 = SS (fF cl) 7 := rfl
  have ho1 : Off [d, d + 1, d + 2] σ σ1 := e3.mono (by simp)
  have hsum := fun (Q : List Value → Mem → Prop) (a b : Value) => s_sumOf (X := X) (Q := Q) (u := a) (v := b) hd (Nat.le_refl 7) hF
  by_cases c1 : SS (fF cl) 7 ≤ 100
  · have hoa : Off [d] σ1 (sI σ1 d 1 (nI 1)) := (Off.rf _ _).sI (by simp) _ _
    obtain ⟨σ', i1, i2, i3, i4⟩ := l_said (X := X) (cl := cl) hd ha hn (by omega) 7 0 (sI σ1 d 1 (nI 1)) rfl (fun p hp => by rw [(hoa a (by simp; omega)).1]; exact hc1 p hp)
    refine ⟨σ', fun Q => ?_, ⟨?_, fun p hp => ?_⟩, ho1.tr ((hoa.mono (by simp)).tr (i4.mono (by simp)))⟩
    · simp (disch := omega) only [q_4_0, q_4_1, q_4_2, q_4_5, q_4_6, q_4_8, q_4_11, q_4_12, q_4_13, q_4_15, q_4_18, q_4_19, q_4_20, q_4_23, q_4_26, q_4_27, q_4_30, q_4_31, q_4_32, q_4_33, q_4_36, q_4_39, q_4_40, q_4_41, q_4_44, q_4_45, q_4_46, q_4_47, q_4_50, q_4_53, q_4_54, q_4_55, q_4_58, q_6_0, q_6_1, q_6_2, q_6_5, q_6_6, vinT, iClamp, clr_i, clr_l, clr_r, clr_n, true_and, and_true, or_true, true_or, false_or, or_false, iLe, iLt, iEq, iAdd, iMul, List.cons_append, List.nil_append, List.append_nil, zb0, zb1, if_true, if_false, not_true_eq_false, not_false_eq_true, Bool.false_eq_true, Nat.one_ne_zero, Nat.zero_ne_one, Nat.reduceEqDiff, Nat.reduceAdd, if_pos, if_neg, hd, e1', hsum, eS, i1]
    · rw [(i4 d (by simp)).1, sI_at, dvL, if_pos c1]
    · rw [i2 p (by omega) hp, dvU, if_pos c1]
  · by_cases c2 : r = 0
    · subst c2
      have hoa : Off [d] σ1 (sI σ1 d 1 (nI (SS (fF cl) 7))) := (Off.rf _ _).sI (by simp) _ _
      obtain ⟨σ', i1, i2, i3, i4⟩ := l_parts (X := X) (cl := cl) (u := .null) hd ha hn (by omega) 7 0 (sI σ1 d 1 (nI (SS (fF cl) 7))) (.int (nI (SS (fF cl) 7))) rfl (fun p hp => by rw [(hoa a (by simp; omega)).1]; exact hc1 p hp)
      refine ⟨σ', fun Q => ?_, ⟨?_, fun p hp => ?_⟩, ho1.tr ((hoa.mono (by simp)).tr (i4.mono (by simp)))⟩
      · simp (disch := omega) only [q_4_0, q_4_1, q_4_2, q_4_5, q_4_6, q_4_8, q_4_11, q_4_12, q_4_13, q_4_15, q_4_18, q_4_19, q_4_20, q_4_23, q_4_26, q_4_27, q_4_30, q_4_31, q_4_32, q_4_33, q_4_36, q_4_39, q_4_40, q_4_41, q_4_44, q_4_45, q_4_46, q_4_47, q_4_50, q_4_53, q_4_54, q_4_55, q_4_58, q_7_0, q_7_1, q_7_2, q_7_5, q_7_6, vinT, iClamp, clr_i, clr_l, clr_r, clr_n, true_and, and_true, or_true, true_or, false_or, or_false, iLe, iLt, iEq, iAdd, iMul, List.cons_append, List.nil_append, List.append_nil, zb0, zb1, if_true, if_false, not_true_eq_false, not_false_eq_true, Bool.false_eq_true, Nat.one_ne_zero, Nat.zero_ne_one, Nat.reduceEqDiff, Nat.reduceAdd, if_pos, if_neg, hd, e1', hsum, eS, i1]
      · rw [(i4 d (by simp)).1, sI_at, dvL, if_neg c1, if_pos rfl]
      · rw [i2 p (by omega) hp, dvU, if_neg c1, if_pos rfl]
    · by_cases c3 : r = 1
      · subst c3
        obtain ⟨g1, g2, g3⟩ := cpF_ok (F := fF cl) (all := SS (fF cl) 7) 6 (Nat.le_add_left _ _)
        have el : dvL cl 1 = cpF (fF cl) (SS (fF cl) 7) 6 := by rw [dvL, if_neg c1, if_neg (by omega), if_pos rfl]
        have hS1 := SS_mono (fF cl) (m := cpF (fF cl) (SS (fF cl) 7) 6) (n := 7) (by omega)
        have hoa : Off [d] σ1 (sI σ1 d 1 (nI (cpF (fF cl) (SS (fF cl) 7) 6))) := (Off.rf _ _).sI (by simp) _ _
        obtain ⟨σ', i1, i2, i3, i4⟩ := l_capU (X := X) (c := cpF (fF cl) (SS (fF cl) 7) 6) (cap := 100 + SS (fF cl) (cpF (fF cl) (SS (fF cl) 7) 6) - SS (fF cl) 7) (y := nI (SS (fF cl) 7)) hd ha hn (by omega) hcl g2 (by omega) 7 0 (sI σ1 d 1 (nI (cpF (fF cl) (SS (fF cl) 7) 6))) rfl (fun p hp => by rw [(hoa a (by simp; omega)).1]; exact hc1 p hp)
        have hcapL := fun (Q : List Value → Mem → Prop) (u v : Value) => l_cap (X := X) (Q := Q) (a := a) (u := u) (v := v) hd hF hF1 hall rfl 6 (by omega) (Nat.le_add_left _ _)
        have hleft := fun (Q : List Value → Mem → Prop) => s_left (X := X) (Q := Q) (m := cpF (fF cl) (SS (fF cl) 7) 6) (all := SS (fF cl) 7) hd g2 hF hS1 g3 hall
        refine ⟨σ', fun Q => ?_, ⟨?_, fun p hp => ?_⟩, ho1.tr ((hoa.mono (by simp)).tr (i4.mono (by simp)))⟩
        · simp (disch := omega) only [q_4_0, q_4_1, q_4_2, q_4_5, q_4_6, q_4_8, q_4_11, q_4_12, q_4_13, q_4_15, q_4_18, q_4_19, q_4_20, q_4_23, q_4_26, q_4_27, q_4_30, q_4_31, q_4_32, q_4_33, q_4_36, q_4_39, q_4_40, q_4_41, q_4_44, q_4_45, q_4_46, q_4_47, q_4_50, q_4_53, q_4_54, q_4_55, q_4_58, q_8_0, q_8_2, vinT, iClamp, clr_i, clr_l, clr_r, clr_n, true_and, and_true, or_true, true_or, false_or, or_false, iLe, iLt, iEq, iAdd, iMul, List.cons_append, List.nil_append, List.append_nil, zb0, zb1, if_true, if_false, not_true_eq_false, not_false_eq_true, Bool.false_eq_true, Nat.one_ne_zero, Nat.zero_ne_one, Nat.reduceEqDiff, Nat.reduceAdd, if_pos, if_neg, hd, e1', hsum, eS]
          rw [hcapL]
          simp (disch := omega) only [q_4_0, q_4_1, q_4_2, q_4_5, q_4_6, q_4_8, q_4_11, q_4_12, q_4_13, q_4_15, q_4_18, q_4_19, q_4_20, q_4_23, q_4_26, q_4_27, q_4_30, q_4_31, q_4_32, q_4_33, q_4_36, q_4_39, q_4_40, q_4_41, q_4_44, q_4_45, q_4_46, q_4_47, q_4_50, q_4_53, q_4_54, q_4_55, q_4_58, q_8_33, q_8_34, q_8_35, q_8_36, q_8_39, q_8_41, q_8_42, q_8_43, q_8_46, q_8_47, vinT, iClamp, clr_i, clr_l, clr_r, clr_n, true_and, and_true, or_true, true_or, false_or, or_false, iLe, iLt, iEq, iAdd, iMul, List.cons_append, List.nil_append, List.append_nil, zb0, zb1, if_true, if_false, not_true_eq_false, not_false_eq_true, Bool.false_eq_true, Nat.one_ne_zero, Nat.zero_ne_one, Nat.reduceEqDiff, Nat.reduceAdd, if_pos, if_neg, hd, hleft, i1]
        · rw [(i4 d (by simp)).1, sI_at, el]
        · rw [i2 p (by omega) hp, dvU, if_neg c1, if_neg (by omega), if_pos rfl, el]
      · have c4 : r = 2 := by omega
        subst c4
        obtain ⟨g1, g2, g3⟩ := loF_ok (F := fF cl) 6 1 (by omega)
        have g4 := g3 (Nat.lt_of_not_le c1)
        have el : dvL cl 2 = loF (fF cl) 6 1 := by rw [dvL, if_neg c1, if_neg (by omega), if_neg (by omega)]
        have hS1 := SS_le hcl (n := loF (fF cl) 6 1) (by omega)
        have hoa : Off [d] σ1 (sI σ1 d 1 (nI (loF (fF cl) 6 1))) := (Off.rf _ _).sI (by simp) _ _
        obtain ⟨σ', i1, i2, i3, i4⟩ := l_lossU (X := X) (c := loF (fF cl) 6 1) (lo := SS (fF cl) (loF (fF cl) 6 1) - 100) hd ha hn (by omega) hcl (by omega) (by omega) 7 0 (sI σ1 d 1 (nI (loF (fF cl) 6 1))) rfl (fun p hp => by rw [(hoa a (by simp; omega)).1]; exact hc1 p hp)
        have hlessL := fun (Q : List Value → Mem → Prop) (u v : Value) => l_less (X := X) (Q := Q) (a := a) (u := u) (v := v) hd hF hF1 6 1 (by omega) rfl
        have hsm := fun (Q : List Value → Mem → Prop) (a b : Value) => s_sumOf (X := X) (Q := Q) (u := a) (v := b) (m := loF (fF cl) 6 1) hd (by omega) hF
        have eS2 : smF (fF cl) 0 (loF (fF cl) 6 1) = SS (fF cl) (loF (fF cl) 6 1) := rfl
        refine ⟨σ', fun Q => ?_, ⟨?_, fun p hp => ?_⟩, ho1.tr ((hoa.mono (by simp)).tr (i4.mono (by simp)))⟩
        · simp (disch := omega) only [q_4_0, q_4_1, q_4_2, q_4_5, q_4_6, q_4_8, q_4_11, q_4_12, q_4_13, q_4_15, q_4_18, q_4_19, q_4_20, q_4_23, q_4_26, q_4_27, q_4_30, q_4_31, q_4_32, q_4_33, q_4_36, q_4_39, q_4_40, q_4_41, q_4_44, q_4_45, q_4_46, q_4_47, q_4_50, q_4_53, q_4_54, q_4_55, q_4_58, q_10_0, q_10_1, vinT, iClamp, clr_i, clr_l, clr_r, clr_n, true_and, and_true, or_true, true_or, false_or, or_false, iLe, iLt, iEq, iAdd, iMul, List.cons_append, List.nil_append, List.append_nil, zb0, zb1, if_true, if_false, not_true_eq_false, not_false_eq_true, Bool.false_eq_true, Nat.one_ne_zero, Nat.zero_ne_one, Nat.reduceEqDiff, Nat.reduceAdd, if_pos, if_neg, hd, e1', hsum, eS]
          rw [hlessL]
          simp (disch := omega) only [q_4_0, q_4_1, q_4_2, q_4_5, q_4_6, q_4_8, q_4_11, q_4_12, q_4_13, q_4_15, q_4_18, q_4_19, q_4_20, q_4_23, q_4_26, q_4_27, q_4_30, q_4_31, q_4_32, q_4_33, q_4_36, q_4_39, q_4_40, q_4_41, q_4_44, q_4_45, q_4_46, q_4_47, q_4_50, q_4_53, q_4_54, q_4_55, q_4_58, q_10_33, q_10_34, q_10_35, q_10_38, q_10_40, q_10_41, q_10_42, q_10_43, q_10_44, q_10_47, q_10_48, vinT, iClamp, clr_i, clr_l, clr_r, clr_n, true_and, and_true, or_true, true_or, false_or, or_false, iLe, iLt, iEq, iAdd, iMul, List.cons_append, List.nil_append, List.append_nil, zb0, zb1, if_true, if_false, not_true_eq_false, not_false_eq_true, Bool.false_eq_true, Nat.one_ne_zero, Nat.zero_ne_one, Nat.reduceEqDiff, Nat.reduceAdd, if_pos, if_neg, hd, hsm, eS2, iSub, i1]
        · rw [(i4 d (by simp)).1, sI_at, el]
        · rw [i2 p (by omega) hp, dvU, if_neg c1, if_neg (by omega), if_neg (by omega), el]
/-! ===== how unfair: far from the shares ===== -/
def zL (z : Int) : Int64 := Int64.ofInt z
theorem zL_n (n : Nat) : zL (n : Int) = lN n := rfl
theorem zL_toInt {z : Int} (h1 : -4611686018427387904 ≤ z) (h2 : z ≤ 4611686018427387904) : (zL z).toInt = z := Int64.toInt_ofInt_of_le (by omega) (by omega)
theorem lSubZ {a b : Nat} (ha : a ≤ 4611686018427387904) (hb : b ≤ 4611686018427387904) : lN a - lN b = zL ((a : Int) - b) := by
  apply Int64.toInt_inj.mp
  rw [zL_toInt (by omega) (by omega), fb_subL (by rw [pk_lT (by omega), pk_lT (by omega)]; omega) (by rw [pk_lT (by omega), pk_lT (by omega)]; omega), pk_lT (by omega), pk_lT (by omega)]
theorem absZ {z : Int} (h1 : -4611686018427387904 ≤ z) (h2 : z ≤ 4611686018427387904) : (if zL z < lN 0 then -(zL z) else zL z) = lN z.natAbs := by
  have e0 : (lN 0).toInt = 0 := rfl
  apply Int64.toInt_inj.mp
  rw [pk_lT (by omega)]
  by_cases c : z < 0
  · have en : -(zL z) = zL (-z) := by
      unfold zL
      first | exact (Int64.ofInt_neg z).symm | exact Int64.ofInt_neg z | simp [Int64.ofInt_neg]
    rw [if_pos (by rw [Int64.lt_iff_toInt_lt, zL_toInt h1 h2, e0]; exact c), en, zL_toInt (by omega) (by omega)]
    omega
  · rw [if_neg (by rw [Int64.lt_iff_toInt_lt, zL_toInt h1 h2, e0]; exact c), zL_toInt h1 h2]
    omega
def ufF (u pt : Nat → Nat) (lo wh p : Nat) : Nat := ((u p * wh : Nat) - (pt p * 100 * lo : Nat) : Int).natAbs
theorem l_unfair {X : Nat × (Nat → Int32)} {σ : Mem} {Q : List Value → Mem → Prop} {d k lo wh : Nat} {u pt : Nat → Nat} (hd : cK d = 1) (hk : cK k = 2) (hu : ∀ p, p < 7 → σ.1 (d + 1) p = nI (u p)) (hl : σ.1 d 1 = nI lo) (hw : σ.2 k 9 = lN wh) (hp : ∀ p, p < 7 → σ.2 (k + 11) p = lN (pt p)) (b1 : ∀ p, p < 7 → u p ≤ 10000) (b2 : lo ≤ 700) (b3 : wh ≤ 567106596) (b4 : ∀ p, p < 7 → pt p ≤ 567106596) : ∀ n i s (v1 v2 v3 v4 : Value), i + n = 7 → (Rn X 5 5 [.ref d, .ref k, .long (lN s), .null, .int (nI i), v1, v2, v3, v4] [] σ Q ↔ Q [.long (lN (s + smF (ufF u pt lo wh) i n))] σ) := by
  obtain ⟨f1, f2, f3, f4, f5⟩ := Fa1 hd
  obtain ⟨⟨g1, g2, g3, g4, g5, g6⟩, ⟨g7, g8, g9, g10, g11, g13, g14⟩, g12⟩ := F2 hk
  intro n
  induction n with
  | zero =>
    intro i s v1 v2 v3 v4 hi
    have e : i = 7 := by omega
    subst e
    rw [q_5_5]
    simp (disch := omega) only [q_5_0, q_5_1, q_5_2, q_5_3, q_5_7, q_5_9, q_5_12, q_5_13, q_5_16, q_5_18, q_5_19, q_5_20, q_5_21, q_5_24, q_5_25, q_5_27, q_5_28, q_5_31, q_5_33, q_5_34, q_5_37, q_5_38, q_5_39, q_5_42, q_5_43, q_5_44, q_5_46, q_5_47, q_5_49, q_5_51, q_5_52, q_5_55, q_5_56, q_5_57, q_5_60, q_5_63, q_5_64, vinT, iClamp, clr_i, clr_l, clr_r, clr_n, true_and, and_true, or_true, true_or, false_or, or_false, iLe, iLt, iEq, iAdd, iMul, List.cons_append, List.nil_append, List.append_nil, zb0, zb1, if_true, if_false, not_true_eq_false, not_false_eq_true, Bool.false_eq_true, Nat.one_ne_zero, Nat.zero_ne_one, Nat.reduceEqDiff, Nat.reduceAdd, if_pos, if_neg, smF, Nat.add_zero]
  | succ n ih =>
    intro i s v1 v2 v3 v4 hi
    rw [q_5_5]
    have q1 := hu i (by omega)
    have q2 := hp i (by omega)
    have q3 := b1 i (by omega)
    have q4 := b4 i (by omega)
    have m1 : u i * wh ≤ 10000 * 567106596 := Nat.mul_le_mul q3 b3
    have m2 : pt i * 100 * lo ≤ 567106596 * 100 * 700 := Nat.mul_le_mul (Nat.mul_le_mul q4 (Nat.le_refl _)) b2
    have e3 := absZ (z := (u i * wh : Nat) - (pt i * 100 * lo : Nat)) (by omega) (by omega)
    have e4 : ((u i * wh : Nat) - (pt i * 100 * lo : Nat) : Int).natAbs = ufF u pt lo wh i := rfl
    rw [e4] at e3
    simp (disch := omega) only [q_5_0, q_5_1, q_5_2, q_5_3, q_5_7, q_5_9, q_5_12, q_5_13, q_5_16, q_5_18, q_5_19, q_5_20, q_5_21, q_5_24, q_5_25, q_5_27, q_5_28, q_5_31, q_5_33, q_5_34, q_5_37, q_5_38, q_5_39, q_5_42, q_5_43, q_5_44, q_5_46, q_5_47, q_5_49, q_5_51, q_5_52, q_5_55, q_5_56, q_5_57, q_5_60, q_5_63, q_5_64, vinT, iClamp, clr_i, clr_l, clr_r, clr_n, true_and, and_true, or_true, true_or, false_or, or_false, iLe, iLt, iEq, iAdd, iMul, List.cons_append, List.nil_append, List.append_nil, zb0, zb1, if_true, if_false, not_true_eq_false, not_false_eq_true, Bool.false_eq_true, Nat.one_ne_zero, Nat.zero_ne_one, Nat.reduceEqDiff, Nat.reduceAdd, if_pos, if_neg, hd, hk, f1, f2, g10, g11, q1, q2, hl, hw, i2L, lMul, lSubZ, s_abs, e3, lAdd]
    rw [ih (i + 1) _ _ _ _ _ (by omega), smF, Nat.add_assoc]
theorem s_unfair {X : Nat × (Nat → Int32)} {σ : Mem} {Q : List Value → Mem → Prop} {d k lo wh : Nat} {u pt : Nat → Nat} {w1 w2 w3 v1 v2 v3 v4 : Value} (hd : cK d = 1) (hk : cK k = 2) (hu : ∀ p, p < 7 → σ.1 (d + 1) p = nI (u p)) (hl : σ.1 d 1 = nI lo) (hw : σ.2 k 9 = lN wh) (hp : ∀ p, p < 7 → σ.2 (k + 11) p = lN (pt p)) (b1 : ∀ p, p < 7 → u p ≤ 10000) (b2 : lo ≤ 700) (b3 : wh ≤ 567106596) (b4 : ∀ p, p < 7 → pt p ≤ 567106596) : Rn X 5 0 [.ref d, .ref k, w1, w2, w3, v1, v2, v3, v4] [] σ Q ↔ Q [.long (lN (smF (ufF u pt lo wh) 0 7))] σ := by
  simp only [q_5_0, q_5_1, q_5_2, q_5_3, clr_r, clr_n, l_unfair hd hk hu hl hw hp b1 b2 b3 b4 7 0 0 _ _ _ _ rfl, Nat.zero_add]
theorem dvL_le {cl : Nat → Nat} {r : Nat} (hcl : ∀ p, p < 7 → cl p ≤ 100) : 1 ≤ dvL cl r ∧ dvL cl r ≤ 700 := by
  unfold dvL
  have hall := SS_le hcl (Nat.le_refl 7)
  by_cases c1 : SS (fF cl) 7 ≤ 100
  · rw [if_pos c1]; omega
  · rw [if_neg c1]
    by_cases c2 : r = 0
    · rw [if_pos c2]; omega
    · rw [if_neg c2]
      by_cases c3 : r = 1
      · rw [if_pos c3]
        obtain ⟨g1, g2, g3⟩ := cpF_ok (F := fF cl) (all := SS (fF cl) 7) 6 (Nat.le_add_left _ _)
        omega
      · rw [if_neg c3]
        obtain ⟨g1, g2, g3⟩ := loF_ok (F := fF cl) 6 1 (by omega)
        omega
theorem dvU_le {cl : Nat → Nat} {r p : Nat} (hcl : ∀ p, p < 7 → cl p ≤ 100) (hp : p < 7) : dvU cl r p ≤ 10000 := by
  have h1 := hcl p hp
  unfold dvU
  by_cases c1 : SS (fF cl) 7 ≤ 100
  · rw [if_pos c1]; omega
  · rw [if_neg c1]
    by_cases c2 : r = 0
    · rw [if_pos c2]; omega
    · rw [if_neg c2]
      have h2 : dvL cl r ≤ 7 := by
        rw [dvL, if_neg c1, if_neg c2]
        by_cases c3 : r = 1
        · rw [if_pos c3]
          obtain ⟨g1, g2, g3⟩ := cpF_ok (F := fF cl) (all := SS (fF cl) 7) 6 (Nat.le_add_left _ _)
          omega
        · rw [if_neg c3]
          obtain ⟨g1, g2, g3⟩ := loF_ok (F := fF cl) 6 1 (by omega)
          omega
      have h3 : cl p * dvL cl r ≤ 100 * 7 := Nat.mul_le_mul h1 h2
      by_cases c3 : r = 1
      · rw [if_pos c3]
        have := Nat.min_le_left (cl p * dvL cl r) (100 + SS (fF cl) (dvL cl r) - SS (fF cl) 7)
        omega
      · rw [if_neg c3]; omega
