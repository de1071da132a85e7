/-! ===== the class: asking, with loops ===== -/
def fnd (a : AS) (p g j : Nat) : Bool := if g = 1 then decide (plF (rF (ro a p)) (nI j) 0 (ro a p).length = -9 ∧ 0 < ptL (wt a p) (hr a p) j 4) else decide (j < (ro a p).length ∧ ptL (wt a p) (hr a p) ((ro a p).getD j 0) 4 = 0)
theorem s_isFound {X : Nat × (Nat → Int32)} {σ : Mem} {Q : List Value → Mem → Prop} {a : AS} {p g j : Nat} (h : CI σ a) (hp : p < 8) (hg : g = 0 ∨ g = 1) (hj : j < 7) : Rn X 54 0 [.ref (pk p), .int (nI g), .int (nI j)] [] σ Q ↔ Q [.int (b2 (fnd a p g j = true))] σ := by
  have hk := pk_K p hp
  obtain ⟨⟨q1, q2⟩, q3, q4, q5, q6, q7, q8⟩ := h.1 p hp
  obtain ⟨y1, y2, y3, y4⟩ := id q3
  rcases hg with rfl | rfl
  · have e : b2 (j < (ro a p).length ∧ ptL (wt a p) (hr a p) ((ro a p).getD j 0) 4 = 0) = b2 (fnd a p 0 j = true) := b2_c (by simp only [fnd, if_neg (show ¬ (0 : Nat) = 1 by omega), decide_eq_true_eq])
    simp (disch := omega) only [q_54_0, q_54_1, q_54_4, q_54_5, q_54_6, q_54_9, q_54_12, q_54_13, q_54_14, q_54_17, vinT, iClamp, clr_i, clr_l, clr_r, clr_n, true_and, and_true, or_true, true_or, false_or, or_false, iLe, iLt, iEq, iAdd, iMul, List.cons_append, List.nil_append, List.append_nil, zb0, zb1, if_true, if_false, not_true_eq_false, not_false_eq_true, Bool.false_eq_true, Nat.one_ne_zero, Nat.zero_ne_one, Nat.reduceEqDiff, Nat.reduceAdd, if_pos, if_neg, hk, s_isGiftAt hk hj y3 y4 q4 q7, e, zb_b2]
  · have e : b2 (plF (rF (ro a p)) (nI j) 0 (ro a p).length = -9 ∧ 0 < ptL (wt a p) (hr a p) j 4) = b2 (fnd a p 1 j = true) := b2_c (by simp only [fnd, if_pos, decide_eq_true_eq])
    simp (disch := omega) only [q_54_0, q_54_1, q_54_4, q_54_5, q_54_6, q_54_9, q_54_12, q_54_13, q_54_14, q_54_17, vinT, iClamp, clr_i, clr_l, clr_r, clr_n, true_and, and_true, or_true, true_or, false_or, or_false, iLe, iLt, iEq, iAdd, iMul, List.cons_append, List.nil_append, List.append_nil, zb0, zb1, if_true, if_false, not_true_eq_false, not_false_eq_true, Bool.false_eq_true, Nat.one_ne_zero, Nat.zero_ne_one, Nat.reduceEqDiff, Nat.reduceAdd, if_pos, if_neg, hk, s_isGhost hk hj y3 y4 q4 q7, e, zb_b2]
theorem l_gifts {X : Nat × (Nat → Int32)} {σ : Mem} {Q : List Value → Mem → Prop} {a : AS} {p g : Nat} (h : CI σ a) (hp : p < 8) (hg : g = 0 ∨ g = 1) : ∀ n i s, i + n = 7 → (Rn X 52 14 [.ref 0, .int (nI p), .int (nI g), .int (nI s), .int (nI i)] [] σ Q ↔ Q [.int (nI (s + smF (fun j => if fnd a p g j = true then 1 else 0) i n))] σ) := by
  intro n
  induction n with
  | zero =>
    intro i s hi
    have e : i = 7 := by omega
    subst e
    rw [q_52_14]
    simp (disch := omega) only [q_52_0, q_52_1, q_52_4, q_52_7, q_52_8, q_52_9, q_52_10, q_52_11, q_52_12, q_52_16, q_52_18, q_52_21, q_52_22, q_52_25, q_52_26, q_52_27, q_52_28, q_52_30, q_52_33, q_52_36, q_52_39, q_52_42, q_52_45, q_52_46, vinT, iClamp, clr_i, clr_l, clr_r, clr_n, true_and, and_true, or_true, true_or, false_or, or_false, iLe, iLt, iEq, iAdd, iMul, List.cons_append, List.nil_append, List.append_nil, zb0, zb1, if_true, if_false, not_true_eq_false, not_false_eq_true, Bool.false_eq_true, Nat.one_ne_zero, Nat.zero_ne_one, Nat.reduceEqDiff, Nat.reduceAdd, if_pos, if_neg, smF, Nat.add_zero]
  | succ n ih =>
    intro i s hi
    rw [q_52_14]
    by_cases c : fnd a p g i = true
    · simp (disch := omega) only [q_52_0, q_52_1, q_52_4, q_52_7, q_52_8, q_52_9, q_52_10, q_52_11, q_52_12, q_52_16, q_52_18, q_52_21, q_52_22, q_52_25, q_52_26, q_52_27, q_52_28, q_52_30, q_52_33, q_52_36, q_52_39, q_52_42, q_52_45, q_52_46, vinT, iClamp, clr_i, clr_l, clr_r, clr_n, true_and, and_true, or_true, true_or, false_or, or_false, iLe, iLt, iEq, iAdd, iMul, List.cons_append, List.nil_append, List.append_nil, zb0, zb1, if_true, if_false, not_true_eq_false, not_false_eq_true, Bool.false_eq_true, Nat.one_ne_zero, Nat.zero_ne_one, Nat.reduceEqDiff, Nat.reduceAdd, if_pos, if_neg, c0, c1k, c1n, rA1, s_isFound h hp hg (show i < 7 by omega), b2_t c]
      rw [ih (i + 1) _ (by omega), smF, if_pos c, Nat.add_assoc]
    · simp (disch := omega) only [q_52_0, q_52_1, q_52_4, q_52_7, q_52_8, q_52_9, q_52_10, q_52_11, q_52_12, q_52_16, q_52_18, q_52_21, q_52_22, q_52_25, q_52_26, q_52_27, q_52_28, q_52_30, q_52_33, q_52_36, q_52_39, q_52_42, q_52_45, q_52_46, vinT, iClamp, clr_i, clr_l, clr_r, clr_n, true_and, and_true, or_true, true_or, false_or, or_false, iLe, iLt, iEq, iAdd, iMul, List.cons_append, List.nil_append, List.append_nil, zb0, zb1, if_true, if_false, not_true_eq_false, not_false_eq_true, Bool.false_eq_true, Nat.one_ne_zero, Nat.zero_ne_one, Nat.reduceEqDiff, Nat.reduceAdd, if_pos, if_neg, c0, c1k, c1n, rA1, s_isFound h hp hg (show i < 7 by omega), b2_f c]
      rw [ih (i + 1) _ (by omega), smF, if_neg c, Nat.zero_add]
def anGs (a : AS) (x : Int32) (g : Nat) : Int32 := if inR x 8 then nI (smF (fun j => if fnd a (tn x) g j = true then 1 else 0) 0 7) else -1
theorem x_Gs {X : Nat × (Nat → Int32)} {σ : Mem} {a : AS} {x : Int32} {g : Nat} {w0 w1 : Value} (hg : g = 0 ∨ g = 1) (h : CI σ a) : ∃ σ', Ev X 52 [.ref 0, .int x, .int (nI g), w0, w1] σ [.int (anGs a x g)] σ' ∧ CI σ' a ∧ Lo σ σ' := by
  refine ⟨σ, fun Q => ?_, h, Lo.rf σ⟩
  by_cases k0 : inR x 8
  · have e0 : b2 (inR x 8) = nI 1 := b2_t k0
    rw [anGs, if_pos k0]
    obtain ⟨p, hp, rfl⟩ := inR_of k0 (by omega)
    simp (disch := omega) only [q_52_0, q_52_1, q_52_4, q_52_7, q_52_8, q_52_9, q_52_10, q_52_11, q_52_12, vinT, iClamp, clr_i, clr_l, clr_r, clr_n, true_and, and_true, or_true, true_or, false_or, or_false, iLe, iLt, iEq, iAdd, iMul, List.cons_append, List.nil_append, List.append_nil, zb0, zb1, if_true, if_false, not_true_eq_false, not_false_eq_true, Bool.false_eq_true, Nat.one_ne_zero, Nat.zero_ne_one, Nat.reduceEqDiff, Nat.reduceAdd, if_pos, if_neg, s_isPaper, e0]
    rw [l_gifts h hp hg 7 0 0 rfl, Nat.zero_add, tn_nI (by omega)]
  · have e0 : b2 (inR x 8) = nI 0 := b2_f k0
    rw [anGs, if_neg k0]
    simp (disch := omega) only [q_52_0, q_52_1, q_52_4, q_52_7, q_52_8, q_52_9, q_52_10, q_52_11, q_52_12, vinT, iClamp, clr_i, clr_l, clr_r, clr_n, true_and, and_true, or_true, true_or, false_or, or_false, iLe, iLt, iEq, iAdd, iMul, List.cons_append, List.nil_append, List.append_nil, zb0, zb1, if_true, if_false, not_true_eq_false, not_false_eq_true, Bool.false_eq_true, Nat.one_ne_zero, Nat.zero_ne_one, Nat.reduceEqDiff, Nat.reduceAdd, if_pos, if_neg, s_isPaper, e0]
/-- the i-th that is found -/
def giF (f : Nat → Bool) (g : Nat → Int32) (i : Int32) (j : Nat) : Nat → Nat → Int32
  | 0, _ => -9
  | m + 1, n => if f j = true then (if nI n = i then g j else giF f g i (j + 1) m (n + 1)) else giF f g i (j + 1) m n
theorem l_gift {X : Nat × (Nat → Int32)} {σ : Mem} {Q : List Value → Mem → Prop} {a : AS} {p g : Nat} {i : Int32} (h : CI σ a) (hp : p < 8) (hg : g = 0 ∨ g = 1) : ∀ m j n, j + m = 7 → (Rn X 53 15 [.ref 0, .int (nI p), .int (nI g), .int i, .int (nI n), .int (nI j)] [] σ Q ↔ Q [.int (giF (fnd a p g) (fun j => if g = 1 then nI j else pA (ro a p) (nI j)) i j m n)] σ) := by
  have hk := pk_K p hp
  obtain ⟨⟨f1, f2, f3, f4, f5, f6⟩, ⟨f7, f8, f9, f10, f11, f13, f14⟩, f12⟩ := F2 hk
  have q7 := (h.1 p hp).2.2.2.2.2.1
  intro m
  induction m with
  | zero =>
    intro j n hj
    have e : j = 7 := by omega
    subst e
    rw [q_53_15]
    simp (disch := omega) only [q_53_0, q_53_1, q_53_4, q_53_7, q_53_8, q_53_9, q_53_10, q_53_12, q_53_13, q_53_17, q_53_19, q_53_22, q_53_23, q_53_26, q_53_27, q_53_28, q_53_29, q_53_31, q_53_34, q_53_37, q_53_39, q_53_40, q_53_43, q_53_44, q_53_47, q_53_49, q_53_52, q_53_53, q_53_56, q_53_57, q_53_58, q_53_61, q_53_63, q_53_66, q_53_67, q_53_70, q_53_73, q_53_76, q_53_78, vinT, iClamp, clr_i, clr_l, clr_r, clr_n, true_and, and_true, or_true, true_or, false_or, or_false, iLe, iLt, iEq, iAdd, iMul, List.cons_append, List.nil_append, List.append_nil, zb0, zb1, if_true, if_false, not_true_eq_false, not_false_eq_true, Bool.false_eq_true, Nat.one_ne_zero, Nat.zero_ne_one, Nat.reduceEqDiff, Nat.reduceAdd, if_pos, if_neg, giF]
  | succ m ih =>
    intro j n hj
    rw [q_53_15]
    by_cases c : fnd a p g j = true
    · by_cases c2 : nI n = i
      · rcases hg with rfl | rfl
        · simp (disch := omega) only [q_53_0, q_53_1, q_53_4, q_53_7, q_53_8, q_53_9, q_53_10, q_53_12, q_53_13, q_53_17, q_53_19, q_53_22, q_53_23, q_53_26, q_53_27, q_53_28, q_53_29, q_53_31, q_53_34, q_53_37, q_53_39, q_53_40, q_53_43, q_53_44, q_53_47, q_53_49, q_53_52, q_53_53, q_53_56, q_53_57, q_53_58, q_53_61, q_53_63, q_53_66, q_53_67, q_53_70, q_53_73, q_53_76, q_53_78, vinT, iClamp, clr_i, clr_l, clr_r, clr_n, true_and, and_true, or_true, true_or, false_or, or_false, iLe, iLt, iEq, iAdd, iMul, List.cons_append, List.nil_append, List.append_nil, zb0, zb1, if_true, if_false, not_true_eq_false, not_false_eq_true, Bool.false_eq_true, Nat.one_ne_zero, Nat.zero_ne_one, Nat.reduceEqDiff, Nat.reduceAdd, if_pos, if_neg, c0, c1k, c1n, rA1, s_isFound h hp (Or.inl rfl) (show j < 7 by omega), b2_t c, c2, hk, f9, s_personAt f9 q7]
          rw [giF, if_pos c, if_pos c2]
        · simp (disch := omega) only [q_53_0, q_53_1, q_53_4, q_53_7, q_53_8, q_53_9, q_53_10, q_53_12, q_53_13, q_53_17, q_53_19, q_53_22, q_53_23, q_53_26, q_53_27, q_53_28, q_53_29, q_53_31, q_53_34, q_53_37, q_53_39, q_53_40, q_53_43, q_53_44, q_53_47, q_53_49, q_53_52, q_53_53, q_53_56, q_53_57, q_53_58, q_53_61, q_53_63, q_53_66, q_53_67, q_53_70, q_53_73, q_53_76, q_53_78, vinT, iClamp, clr_i, clr_l, clr_r, clr_n, true_and, and_true, or_true, true_or, false_or, or_false, iLe, iLt, iEq, iAdd, iMul, List.cons_append, List.nil_append, List.append_nil, zb0, zb1, if_true, if_false, not_true_eq_false, not_false_eq_true, Bool.false_eq_true, Nat.one_ne_zero, Nat.zero_ne_one, Nat.reduceEqDiff, Nat.reduceAdd, if_pos, if_neg, c0, c1k, c1n, rA1, s_isFound h hp (Or.inr rfl) (show j < 7 by omega), b2_t c, c2]
          rw [giF, if_pos c, if_pos c2]
      · simp (disch := omega) only [q_53_0, q_53_1, q_53_4, q_53_7, q_53_8, q_53_9, q_53_10, q_53_12, q_53_13, q_53_17, q_53_19, q_53_22, q_53_23, q_53_26, q_53_27, q_53_28, q_53_29, q_53_31, q_53_34, q_53_37, q_53_39, q_53_40, q_53_43, q_53_44, q_53_47, q_53_49, q_53_52, q_53_53, q_53_56, q_53_57, q_53_58, q_53_61, q_53_63, q_53_66, q_53_67, q_53_70, q_53_73, q_53_76, q_53_78, vinT, iClamp, clr_i, clr_l, clr_r, clr_n, true_and, and_true, or_true, true_or, false_or, or_false, iLe, iLt, iEq, iAdd, iMul, List.cons_append, List.nil_append, List.append_nil, zb0, zb1, if_true, if_false, not_true_eq_false, not_false_eq_true, Bool.false_eq_true, Nat.one_ne_zero, Nat.zero_ne_one, Nat.reduceEqDiff, Nat.reduceAdd, if_pos, if_neg, c0, c1k, c1n, rA1, s_isFound h hp hg (show j < 7 by omega), b2_t c, c2]
        rw [ih (j + 1) (n + 1) (by omega), giF, if_pos c, if_neg c2]
    · simp (disch := omega) only [q_53_0, q_53_1, q_53_4, q_53_7, q_53_8, q_53_9, q_53_10, q_53_12, q_53_13, q_53_17, q_53_19, q_53_22, q_53_23, q_53_26, q_53_27, q_53_28, q_53_29, q_53_31, q_53_34, q_53_37, q_53_39, q_53_40, q_53_43, q_53_44, q_53_47, q_53_49, q_53_52, q_53_53, q_53_56, q_53_57, q_53_58, q_53_61, q_53_63, q_53_66, q_53_67, q_53_70, q_53_73, q_53_76, q_53_78, vinT, iClamp, clr_i, clr_l, clr_r, clr_n, true_and, and_true, or_true, true_or, false_or, or_false, iLe, iLt, iEq, iAdd, iMul, List.cons_append, List.nil_append, List.append_nil, zb0, zb1, if_true, if_false, not_true_eq_false, not_false_eq_true, Bool.false_eq_true, Nat.one_ne_zero, Nat.zero_ne_one, Nat.reduceEqDiff, Nat.reduceAdd, if_pos, if_neg, c0, c1k, c1n, rA1, s_isFound h hp hg (show j < 7 by omega), b2_f c]
      rw [ih (j + 1) n (by omega), giF, if_neg c]
def anGi (a : AS) (x i : Int32) (g : Nat) : Int32 := if inR x 8 then giF (fnd a (tn x) g) (fun j => if g = 1 then nI j else pA (ro a (tn x)) (nI j)) i 0 7 0 else -1
theorem x_Gi {X : Nat × (Nat → Int32)} {σ : Mem} {a : AS} {x i : Int32} {g : Nat} {w0 w1 : Value} (hg : g = 0 ∨ g = 1) (h : CI σ a) : ∃ σ', Ev X 53 [.ref 0, .int x, .int (nI g), .int i, w0, w1] σ [.int (anGi a x i g)] σ' ∧ CI σ' a ∧ Lo σ σ' := by
  refine ⟨σ, fun Q => ?_, h, Lo.rf σ⟩
  by_cases k0 : inR x 8
  · have e0 : b2 (inR x 8) = nI 1 := b2_t k0
    rw [anGi, if_pos k0]
    obtain ⟨p, hp, rfl⟩ := inR_of k0 (by omega)
    simp (disch := omega) only [q_53_0, q_53_1, q_53_4, q_53_7, q_53_8, q_53_9, q_53_10, q_53_12, q_53_13, vinT, iClamp, clr_i, clr_l, clr_r, clr_n, true_and, and_true, or_true, true_or, false_or, or_false, iLe, iLt, iEq, iAdd, iMul, List.cons_append, List.nil_append, List.append_nil, zb0, zb1, if_true, if_false, not_true_eq_false, not_false_eq_true, Bool.false_eq_true, Nat.one_ne_zero, Nat.zero_ne_one, Nat.reduceEqDiff, Nat.reduceAdd, if_pos, if_neg, s_isPaper, e0]
    rw [l_gift h hp hg 7 0 0 rfl, tn_nI (by omega)]
  · have e0 : b2 (inR x 8) = nI 0 := b2_f k0
    rw [anGi, if_neg k0]
    simp (disch := omega) only [q_53_0, q_53_1, q_53_4, q_53_7, q_53_8, q_53_9, q_53_10, q_53_12, q_53_13, vinT, iClamp, clr_i, clr_l, clr_r, clr_n, true_and, and_true, or_true, true_or, false_or, or_false, iLe, iLt, iEq, iAdd, iMul, List.cons_append, List.nil_append, List.append_nil, zb0, zb1, if_true, if_false, not_true_eq_false, not_false_eq_true, Bool.false_eq_true, Nat.one_ne_zero, Nat.zero_ne_one, Nat.reduceEqDiff, Nat.reduceAdd, if_pos, if_neg, s_isPaper, e0]
/-! fits, learn -/
def arrP (a : AS) (p c : Nat) : List Nat := arrL c (fun q => lN (ptL (wt a p) (hr a p) q 4)) (rm a (tr a p)) (ro a p)
def fitB (a : AS) (p c : Nat) : Bool := decide (puF (fun j => pA (ro a p) (nI j)) (fun j => pA (arrP a p c) (nI j)) 0 7 = 0)
def ftF (f : Nat → Bool) (i : Nat) : Nat → Nat → Nat
  | 0, s => s
  | n + 1, s => ftF f (i + 1) n (if f i = true then s ||| 2 ^ i else s)
theorem puF_le (f g : Nat → Int32) : ∀ n i, puF f g i n ≤ n
  | 0, i => Nat.le_refl _
  | n + 1, i => by
    rw [puF]
    have := puF_le f g n (i + 1)
    split <;> omega
theorem l_fits {X : Nat × (Nat → Int32)} {a : AS} {p : Nat} (hp : p < 8) : ∀ n i s (σ : Mem), CI σ a → i + n = 4 → ∃ σ', (∀ Q, Rn X 61 4 [.ref 0, .ref (pk p), .int (nI s), .int (nI i)] [] σ Q ↔ Q [.int (nI (ftF (fitB a p) i n s))] σ') ∧ Off SC5 σ σ' := by
  have hk := pk_K p hp
  obtain ⟨⟨f1, f2, f3, f4, f5, f6⟩, ⟨f7, f8, f9, f10, f11, f13, f14⟩, f12⟩ := F2 hk
  intro n
  induction n with
  | zero =>
    intro i s σ h hi
    have e : i = 4 := by omega
    subst e
    refine ⟨σ, fun Q => ?_, Off.rf _ _⟩
    rw [q_61_4]
    simp (disch := omega) only [q_61_0, q_61_1, q_61_2, q_61_3, q_61_5, q_61_6, q_61_9, q_61_10, q_61_13, q_61_14, q_61_15, q_61_16, q_61_19, q_61_22, q_61_25, q_61_26, q_61_27, q_61_28, q_61_29, q_61_30, q_61_31, q_61_34, q_61_37, q_61_38, vinT, iClamp, clr_i, clr_l, clr_r, clr_n, true_and, and_true, or_true, true_or, false_or, or_false, iLe, iLt, iEq, iAdd, iMul, List.cons_append, List.nil_append, List.append_nil, zb0, zb1, if_true, if_false, not_true_eq_false, not_false_eq_true, Bool.false_eq_true, Nat.one_ne_zero, Nat.zero_ne_one, Nat.reduceEqDiff, Nat.reduceAdd, if_pos, if_neg, ftF]
  | succ n ih =>
    intro i s σ h hi
    obtain ⟨σ1, i1, i2, i3⟩ := s_arranged (X := X) (c := i) h hp (by omega)
    have h' := CI_scr h (i3.mono SC5_scr)
    have q7 := (h'.1 p hp).2.2.2.2.2.1
    have i1' := fun Q => i1 Q
    have hle := puF_le (fun j => pA (ro a p) (nI j)) (fun j => pA (arrP a p i) (nI j)) 7 0
    have hun := fun (Q : List Value → Mem → Prop) (v w : Value) => s_unlike (X := X) (σ := σ1) (Q := Q) (v := v) (w := w) f9 c9k q7 i2
    have eqp : ∀ (c : Nat), arrL c (fun q => lN (ptL (wt a p) (hr a p) q 4)) (rm a (tr a p)) (ro a p) = arrP a p c := fun _ => rfl
    obtain ⟨σ', k1, k2⟩ := ih (i + 1) (if fitB a p i = true then s ||| 2 ^ i else s) σ1 h' (by omega)
    refine ⟨σ', fun Q => ?_, i3.tr k2⟩
    rw [q_61_4]
    have k1' := k1 Q
    by_cases c : fitB a p i = true
    · have c' : puF (fun j => pA (ro a p) (nI j)) (fun j => pA (arrP a p i) (nI j)) 0 7 = 0 := by simpa [fitB] using c
      rw [if_pos c] at k1'
      simp (disch := omega) only [q_61_0, q_61_1, q_61_2, q_61_3, q_61_5, q_61_6, q_61_9, q_61_10, q_61_13, q_61_14, q_61_15, q_61_16, q_61_19, q_61_22, q_61_25, q_61_26, q_61_27, q_61_28, q_61_29, q_61_30, q_61_31, q_61_34, q_61_37, q_61_38, vinT, iClamp, clr_i, clr_l, clr_r, clr_n, true_and, and_true, or_true, true_or, false_or, or_false, iLe, iLt, iEq, iAdd, iMul, List.cons_append, List.nil_append, List.append_nil, zb0, zb1, if_true, if_false, not_true_eq_false, not_false_eq_true, Bool.false_eq_true, Nat.one_ne_zero, Nat.zero_ne_one, Nat.reduceEqDiff, Nat.reduceAdd, if_pos, if_neg, hk, f9, c0, i1', hun, eqp, c', one_shl, fa_or]
      rw [k1', ftF, if_pos c]
    · have c' : ¬ puF (fun j => pA (ro a p) (nI j)) (fun j => pA (arrP a p i) (nI j)) 0 7 = 0 := by simpa [fitB] using c
      rw [if_neg c] at k1'
      simp (disch := omega) only [q_61_0, q_61_1, q_61_2, q_61_3, q_61_5, q_61_6, q_61_9, q_61_10, q_61_13, q_61_14, q_61_15, q_61_16, q_61_19, q_61_22, q_61_25, q_61_26, q_61_27, q_61_28, q_61_29, q_61_30, q_61_31, q_61_34, q_61_37, q_61_38, vinT, iClamp, clr_i, clr_l, clr_r, clr_n, true_and, and_true, or_true, true_or, false_or, or_false, iLe, iLt, iEq, iAdd, iMul, List.cons_append, List.nil_append, List.append_nil, zb0, zb1, if_true, if_false, not_true_eq_false, not_false_eq_true, Bool.false_eq_true, Nat.one_ne_zero, Nat.zero_ne_one, Nat.reduceEqDiff, Nat.reduceAdd, if_pos, if_neg, hk, f9, c0, i1', hun, eqp, c']
      rw [k1', ftF, if_neg c]
theorem s_fits {X : Nat × (Nat → Int32)} {σ : Mem} {a : AS} {p : Nat} {v w : Value} (h : CI σ a) (hp : p < 8) : ∃ σ', Ev X 61 [.ref 0, .ref (pk p), v, w] σ [.int (nI (ftF (fitB a p) 0 4 0))] σ' ∧ Off SC5 σ σ' := by
  obtain ⟨σ', k1, k2⟩ := l_fits (X := X) hp 4 0 0 σ h rfl
  refine ⟨σ', fun Q => ?_, k2⟩
  simp only [q_61_0, q_61_1, q_61_2, q_61_3, clr_r, clr_i]
  exact k1 Q
def anFi (a : AS) (x : Int32) : Int32 := if inR x 8 then nI (ftF (fitB a (tn x)) 0 4 0) else -1
theorem x_Fi {X : Nat × (Nat → Int32)} {σ : Mem} {a : AS} {x : Int32} (h : CI σ a) : ∃ σ', Ev X 57 [.ref 0, .int x] σ [.int (anFi a x)] σ' ∧ CI σ' a ∧ Lo σ σ' := by
  by_cases k0 : inR x 8
  · have e0 : b2 (inR x 8) = nI 1 := b2_t k0
    rw [anFi, if_pos k0]
    obtain ⟨p, hp, rfl⟩ := inR_of k0 (by omega)
    obtain ⟨σ', k1, k2⟩ := s_fits (X := X) (v := .null) (w := .null) h hp
    have k1' := fun Q => k1 Q
    refine ⟨σ', fun Q => ?_, CI_scr h (k2.mono SC5_scr), k2.lo SC5_lt⟩
    rw [tn_nI (by omega)]
    simp (disch := omega) only [q_57_0, q_57_1, q_57_4, q_57_7, q_57_8, q_57_9, q_57_10, q_57_11, q_57_14, q_57_15, q_57_16, q_57_19, vinT, iClamp, clr_i, clr_l, clr_r, clr_n, true_and, and_true, or_true, true_or, false_or, or_false, iLe, iLt, iEq, iAdd, iMul, List.cons_append, List.nil_append, List.append_nil, zb0, zb1, if_true, if_false, not_true_eq_false, not_false_eq_true, Bool.false_eq_true, Nat.one_ne_zero, Nat.zero_ne_one, Nat.reduceEqDiff, Nat.reduceAdd, if_pos, if_neg, s_isPaper, e0, c0, c1k, c1n, rA1, k1']
  · have e0 : b2 (inR x 8) = nI 0 := b2_f k0
    rw [anFi, if_neg k0]
    refine ⟨σ, fun Q => ?_, h, Lo.rf σ⟩
    simp (disch := omega) only [q_57_0, q_57_1, q_57_4, q_57_7, q_57_8, q_57_9, q_57_10, q_57_11, q_57_14, q_57_15, q_57_16, q_57_19, vinT, iClamp, clr_i, clr_l, clr_r, clr_n, true_and, and_true, or_true, true_or, false_or, or_false, iLe, iLt, iEq, iAdd, iMul, List.cons_append, List.nil_append, List.append_nil, zb0, zb1, if_true, if_false, not_true_eq_false, not_false_eq_true, Bool.false_eq_true, Nat.one_ne_zero, Nat.zero_ne_one, Nat.reduceEqDiff, Nat.reduceAdd, if_pos, if_neg, s_isPaper, e0]
def leF (a : AS) (t : Nat) (i : Nat) : Nat → Nat → Nat
  | 0, s => s
  | n + 1, s => leF a t (i + 1) n (if tr a i = t then s &&& ftF (fitB a i) 0 4 0 else s)
theorem l_learn {X : Nat × (Nat → Int32)} {a : AS} {t : Nat} (ht : t < 3) : ∀ n i s (σ : Mem), CI σ a → i + n = 8 → ∃ σ', (∀ Q, Rn X 58 15 [.ref 0, .int (nI t), .int (nI s), .int (nI i)] [] σ Q ↔ Q [.int (nI (leF a t i n s))] σ') ∧ Off SC5 σ σ' := by
  intro n
  induction n with
  | zero =>
    intro i s σ h hi
    have e : i = 8 := by omega
    subst e
    refine ⟨σ, fun Q => ?_, Off.rf _ _⟩
    rw [q_58_15]
    simp (disch := omega) only [q_58_0, q_58_1, q_58_4, q_58_7, q_58_9, q_58_10, q_58_12, q_58_13, q_58_14, q_58_16, q_58_18, q_58_21, q_58_22, q_58_25, q_58_26, q_58_27, q_58_30, q_58_31, q_58_34, q_58_35, q_58_36, q_58_37, q_58_40, q_58_41, q_58_42, q_58_45, q_58_46, q_58_47, q_58_50, q_58_53, q_58_54, vinT, iClamp, clr_i, clr_l, clr_r, clr_n, true_and, and_true, or_true, true_or, false_or, or_false, iLe, iLt, iEq, iAdd, iMul, List.cons_append, List.nil_append, List.append_nil, zb0, zb1, if_true, if_false, not_true_eq_false, not_false_eq_true, Bool.false_eq_true, Nat.one_ne_zero, Nat.zero_ne_one, Nat.reduceEqDiff, Nat.reduceAdd, if_pos, if_neg, leF]
  | succ n ih =>
    intro i s σ h hi
    have hk := pk_K i (by omega)
    obtain ⟨⟨q1, q2⟩, -⟩ := h.1 i (by omega)
    by_cases c : tr a i = t
    · obtain ⟨σ1, k1, k2⟩ := s_fits (X := X) (v := .null) (w := .null) h (show i < 8 by omega)
      have k1' := fun Q => k1 Q
      obtain ⟨σ', j1, j2⟩ := ih (i + 1) (s &&& ftF (fitB a i) 0 4 0) σ1 (CI_scr h (k2.mono SC5_scr)) (by omega)
      refine ⟨σ', fun Q => ?_, k2.tr j2⟩
      rw [q_58_15]
      simp (disch := omega) only [q_58_0, q_58_1, q_58_4, q_58_7, q_58_9, q_58_10, q_58_12, q_58_13, q_58_14, q_58_16, q_58_18, q_58_21, q_58_22, q_58_25, q_58_26, q_58_27, q_58_30, q_58_31, q_58_34, q_58_35, q_58_36, q_58_37, q_58_40, q_58_41, q_58_42, q_58_45, q_58_46, q_58_47, q_58_50, q_58_53, q_58_54, vinT, iClamp, clr_i, clr_l, clr_r, clr_n, true_and, and_true, or_true, true_or, false_or, or_false, iLe, iLt, iEq, iAdd, iMul, List.cons_append, List.nil_append, List.append_nil, zb0, zb1, if_true, if_false, not_true_eq_false, not_false_eq_true, Bool.false_eq_true, Nat.one_ne_zero, Nat.zero_ne_one, Nat.reduceEqDiff, Nat.reduceAdd, if_pos, if_neg, c0, c1k, c1n, rA1, hk, q1, c, k1', fa_and]
      rw [j1 Q, leF, if_pos c]
    · obtain ⟨σ', j1, j2⟩ := ih (i + 1) s σ h (by omega)
      refine ⟨σ', fun Q => ?_, j2⟩
      rw [q_58_15]
      simp (disch := omega) only [q_58_0, q_58_1, q_58_4, q_58_7, q_58_9, q_58_10, q_58_12, q_58_13, q_58_14, q_58_16, q_58_18, q_58_21, q_58_22, q_58_25, q_58_26, q_58_27, q_58_30, q_58_31, q_58_34, q_58_35, q_58_36, q_58_37, q_58_40, q_58_41, q_58_42, q_58_45, q_58_46, q_58_47, q_58_50, q_58_53, q_58_54, vinT, iClamp, clr_i, clr_l, clr_r, clr_n, true_and, and_true, or_true, true_or, false_or, or_false, iLe, iLt, iEq, iAdd, iMul, List.cons_append, List.nil_append, List.append_nil, zb0, zb1, if_true, if_false, not_true_eq_false, not_false_eq_true, Bool.false_eq_true, Nat.one_ne_zero, Nat.zero_ne_one, Nat.reduceEqDiff, Nat.reduceAdd, if_pos, if_neg, c0, c1k, c1n, rA1, hk, q1, c]
      rw [j1 Q, leF, if_neg c]
def anLe (a : AS) (x : Int32) : Int32 := if inR x 3 then nI (leF a (tn x) 0 8 15) else -2
theorem x_Le {X : Nat × (Nat → Int32)} {σ : Mem} {a : AS} {x : Int32} {w0 w1 : Value} (h : CI σ a) : ∃ σ', Ev X 58 [.ref 0, .int x, w0, w1] σ [.int (anLe a x)] σ' ∧ CI σ' a ∧ Lo σ σ' := by
  by_cases k0 : inR x 3
  · have e0 : b2 (inR x 3) = nI 1 := b2_t k0
    rw [anLe, if_pos k0]
    obtain ⟨t, ht, rfl⟩ := inR_of k0 (by omega)
    obtain ⟨σ', k1, k2⟩ := l_learn (X := X) ht 8 0 15 σ h rfl
    refine ⟨σ', fun Q => ?_, CI_scr h (k2.mono SC5_scr), k2.lo SC5_lt⟩
    rw [tn_nI (by omega)]
    simp (disch := omega) only [q_58_0, q_58_1, q_58_4, q_58_7, q_58_9, q_58_10, q_58_12, q_58_13, q_58_14, vinT, iClamp, clr_i, clr_l, clr_r, clr_n, true_and, and_true, or_true, true_or, false_or, or_false, iLe, iLt, iEq, iAdd, iMul, List.cons_append, List.nil_append, List.append_nil, zb0, zb1, if_true, if_false, not_true_eq_false, not_false_eq_true, Bool.false_eq_true, Nat.one_ne_zero, Nat.zero_ne_one, Nat.reduceEqDiff, Nat.reduceAdd, if_pos, if_neg, s_isTrade, e0]
    exact k1 Q
  · have e0 : b2 (inR x 3) = nI 0 := b2_f k0
    rw [anLe, if_neg k0]
    refine ⟨σ, fun Q => ?_, h, Lo.rf σ⟩
    simp (disch := omega) only [q_58_0, q_58_1, q_58_4, q_58_7, q_58_9, q_58_10, q_58_12, q_58_13, q_58_14, vinT, iClamp, clr_i, clr_l, clr_r, clr_n, true_and, and_true, or_true, true_or, false_or, or_false, iLe, iLt, iEq, iAdd, iMul, List.cons_append, List.nil_append, List.append_nil, zb0, zb1, if_true, if_false, not_true_eq_false, not_false_eq_true, Bool.false_eq_true, Nat.one_ne_zero, Nat.zero_ne_one, Nat.reduceEqDiff, Nat.reduceAdd, if_pos, if_neg, s_isTrade, e0]
/-! score, ahead, rank -/
def scP (a : AS) (q way p : Nat) : Nat := puX (ro a p) (wt a p) (hr a p) way (plF (rF (ro a p)) (nI q) 0 (ro a p).length)
def scU (a : AS) (q way : Nat) : Nat := smF (scP a q way) 0 8
theorem l_score {X : Nat × (Nat → Int32)} {σ : Mem} {Q : List Value → Mem → Prop} {a : AS} {q way : Nat} (h : CI σ a) (hq : q < 7) (hw : way < 5) : ∀ n i s, i + n = 8 → (Rn X 66 5 [.ref 0, .int (nI q), .int (nI way), .long (lN s), .null, .int (nI i)] [] σ Q ↔ Q [.long (lN (s + smF (scP a q way) i n))] σ) := by
  intro n
  induction n with
  | zero =>
    intro i s hi
    have e : i = 8 := by omega
    subst e
    rw [q_66_5]
    simp (disch := omega) only [q_66_0, q_66_1, q_66_2, q_66_3, q_66_7, q_66_9, q_66_12, q_66_13, q_66_14, q_66_17, q_66_19, q_66_20, q_66_21, q_66_22, q_66_25, q_66_27, q_66_28, q_66_31, q_66_32, q_66_35, q_66_38, q_66_39, q_66_40, q_66_43, q_66_46, q_66_47, vinT, iClamp, clr_i, clr_l, clr_r, clr_n, true_and, and_true, or_true, true_or, false_or, or_false, iLe, iLt, iEq, iAdd, iMul, List.cons_append, List.nil_append, List.append_nil, zb0, zb1, if_true, if_false, not_true_eq_false, not_false_eq_true, Bool.false_eq_true, Nat.one_ne_zero, Nat.zero_ne_one, Nat.reduceEqDiff, Nat.reduceAdd, if_pos, if_neg, smF, Nat.add_zero]
  | succ n ih =>
    intro i s hi
    have hk := pk_K i (by omega)
    obtain ⟨⟨q1, q2⟩, q3, q4, q5, q6, q7, q8⟩ := h.1 i (by omega)
    obtain ⟨y1, y2, y3, y4⟩ := id q3
    obtain ⟨⟨f1, f2, f3, f4, f5, f6⟩, ⟨f7, f8, f9, f10, f11, f13, f14⟩, f12⟩ := F2 hk
    have e : puX (ro a i) (wt a i) (hr a i) way (plF (rF (ro a i)) (nI q) 0 (ro a i).length) = scP a q way i := rfl
    rw [q_66_5]
    simp (disch := omega) only [q_66_0, q_66_1, q_66_2, q_66_3, q_66_7, q_66_9, q_66_12, q_66_13, q_66_14, q_66_17, q_66_19, q_66_20, q_66_21, q_66_22, q_66_25, q_66_27, q_66_28, q_66_31, q_66_32, q_66_35, q_66_38, q_66_39, q_66_40, q_66_43, q_66_46, q_66_47, vinT, iClamp, clr_i, clr_l, clr_r, clr_n, true_and, and_true, or_true, true_or, false_or, or_false, iLe, iLt, iEq, iAdd, iMul, List.cons_append, List.nil_append, List.append_nil, zb0, zb1, if_true, if_false, not_true_eq_false, not_false_eq_true, Bool.false_eq_true, Nat.one_ne_zero, Nat.zero_ne_one, Nat.reduceEqDiff, Nat.reduceAdd, if_pos, if_neg, c0, c1k, c1n, rA1, hk, f9, s_placeOf f9 q7, s_placeUnits hk y3 y4 q4 q7 hw, e, lAdd]
    rw [ih (i + 1) _ (by omega), smF, Nat.add_assoc]
theorem s_score {X : Nat × (Nat → Int32)} {σ : Mem} {Q : List Value → Mem → Prop} {a : AS} {q way : Nat} {w1 w2 w3 : Value} (h : CI σ a) (hq : q < 7) (hw : way < 5) : Rn X 66 0 [.ref 0, .int (nI q), .int (nI way), w1, w2, w3] [] σ Q ↔ Q [.long (lN (scU a q way))] σ := by
  simp only [q_66_0, q_66_1, q_66_2, q_66_3, clr_i, clr_n, l_score h hq hw 8 0 0 rfl, Nat.zero_add, scU]
theorem scU_le {σ : Mem} {a : AS} {q way : Nat} (h : CI σ a) (hw : way < 5) : scU a q way ≤ 8 * uN way := smF_le 8 0 (fun p _ hp => by
  obtain ⟨⟨q1, q2⟩, q3, q4, q5, q6, q7, q8⟩ := h.1 p (by omega)
  exact puX_le hw q7.1 (fun j hj => (q7.2.2 j hj).2) q3.2.2.2)
def anSc (a : AS) (x y : Int32) (u : Nat) : Int64 := if inR x 7 then (if inR y 5 then lN (tI (scU a (tn x) (tn y)) (uN (tn y)) u) else -2) else -1
theorem x_Sc {X : Nat × (Nat → Int32)} {σ : Mem} {a : AS} {x y : Int32} {u : Nat} (hu : u = 0 ∨ u = 1) (h : CI σ a) : ∃ σ', Ev X 63 [.ref 0, .int x, .int y, .int (nI u)] σ [.long (anSc a x y u)] σ' ∧ CI σ' a ∧ Lo σ σ' := by
  refine ⟨σ, fun Q => ?_, h, Lo.rf σ⟩
  by_cases k0 : inR x 7
  · have e0 : b2 (inR x 7) = nI 1 := b2_t k0
    by_cases k1 : inR y 5
    · have e1 : b2 (inR y 5) = nI 1 := b2_t k1
      rw [anSc, if_pos k0, if_pos k1]
      obtain ⟨q, hq, rfl⟩ := inR_of k0 (by omega)
      obtain ⟨m, hm, rfl⟩ := inR_of k1 (by omega)
      simp (disch := omega) only [tn_nI]
      obtain ⟨u1, u2, u3⟩ := uN_v m hm
      have z1 := scU_le (q := q) h hm
      have hls := fun (Q : List Value → Mem → Prop) (v0 v1 w0 w1 w2 w3 : Value) => s_least2 (X := X) (σ := σ) (Q := Q) (a := scU a q m) (b := uN m) (v0 := v0) (v1 := v1) (w0 := w0) (w1 := w1) (w2 := w2) (w3 := w3) (by omega) (by omega) u2 hu
      simp (disch := omega) only [q_63_0, q_63_1, q_63_4, q_63_7, q_63_10, q_63_11, q_63_12, q_63_15, q_63_18, q_63_21, q_63_22, q_63_23, q_63_24, q_63_25, q_63_28, q_63_31, q_63_32, q_63_33, q_63_34, q_63_37, vinT, iClamp, clr_i, clr_l, clr_r, clr_n, true_and, and_true, or_true, true_or, false_or, or_false, iLe, iLt, iEq, iAdd, iMul, List.cons_append, List.nil_append, List.append_nil, zb0, zb1, if_true, if_false, not_true_eq_false, not_false_eq_true, Bool.false_eq_true, Nat.one_ne_zero, Nat.zero_ne_one, Nat.reduceEqDiff, Nat.reduceAdd, if_pos, if_neg, s_isPerson, s_isWay, e0, e1, c0, s_score h hq hm, u1, hls]
    · have e1 : b2 (inR y 5) = nI 0 := b2_f k1
      rw [anSc, if_pos k0, if_neg k1]
      simp (disch := omega) only [q_63_0, q_63_1, q_63_4, q_63_7, q_63_10, q_63_11, q_63_12, q_63_15, q_63_18, q_63_21, q_63_22, q_63_23, q_63_24, q_63_25, q_63_28, q_63_31, q_63_32, q_63_33, q_63_34, q_63_37, vinT, iClamp, clr_i, clr_l, clr_r, clr_n, true_and, and_true, or_true, true_or, false_or, or_false, iLe, iLt, iEq, iAdd, iMul, List.cons_append, List.nil_append, List.append_nil, zb0, zb1, if_true, if_false, not_true_eq_false, not_false_eq_true, Bool.false_eq_true, Nat.one_ne_zero, Nat.zero_ne_one, Nat.reduceEqDiff, Nat.reduceAdd, if_pos, if_neg, s_isPerson, s_isWay, e0, e1]
  · have e0 : b2 (inR x 7) = nI 0 := b2_f k0
    rw [anSc, if_neg k0]
    simp (disch := omega) only [q_63_0, q_63_1, q_63_4, q_63_7, q_63_10, q_63_11, q_63_12, q_63_15, q_63_18, q_63_21, q_63_22, q_63_23, q_63_24, q_63_25, q_63_28, q_63_31, q_63_32, q_63_33, q_63_34, q_63_37, vinT, iClamp, clr_i, clr_l, clr_r, clr_n, true_and, and_true, or_true, true_or, false_or, or_false, iLe, iLt, iEq, iAdd, iMul, List.cons_append, List.nil_append, List.append_nil, zb0, zb1, if_true, if_false, not_true_eq_false, not_false_eq_true, Bool.false_eq_true, Nat.one_ne_zero, Nat.zero_ne_one, Nat.reduceEqDiff, Nat.reduceAdd, if_pos, if_neg, s_isPerson, e0]
def ahF (a : AS) (x y : Nat) (i : Nat) : Nat → Nat → Nat
  | 0, s => s
  | n + 1, s => ahF a x y (i + 1) n (if scU a y i < scU a x i then s ||| 2 ^ i else s)
theorem uN_le : ∀ w, w < 5 → 8 * uN w ≤ 1462091400 := by decide
theorem l_ahead {X : Nat × (Nat → Int32)} {σ : Mem} {Q : List Value → Mem → Prop} {a : AS} {x y : Nat} (h : CI σ a) (hx : x < 7) (hy : y < 7) : ∀ n i s, i + n = 5 → (Rn X 64 21 [.ref 0, .int (nI x), .int (nI y), .int (nI s), .int (nI i)] [] σ Q ↔ Q [.int (nI (ahF a x y i n s))] σ) := by
  intro n
  induction n with
  | zero =>
    intro i s hi
    have e : i = 5 := by omega
    subst e
    rw [q_64_21]
    simp (disch := omega) only [q_64_0, q_64_1, q_64_4, q_64_7, q_64_8, q_64_11, q_64_14, q_64_15, q_64_16, q_64_17, q_64_18, q_64_19, q_64_23, q_64_24, q_64_27, q_64_28, q_64_29, q_64_31, q_64_34, q_64_35, q_64_36, q_64_38, q_64_41, q_64_42, q_64_45, q_64_46, q_64_47, q_64_49, q_64_50, q_64_51, q_64_52, q_64_55, q_64_58, q_64_59, vinT, iClamp, clr_i, clr_l, clr_r, clr_n, true_and, and_true, or_true, true_or, false_or, or_false, iLe, iLt, iEq, iAdd, iMul, List.cons_append, List.nil_append, List.append_nil, zb0, zb1, if_true, if_false, not_true_eq_false, not_false_eq_true, Bool.false_eq_true, Nat.one_ne_zero, Nat.zero_ne_one, Nat.reduceEqDiff, Nat.reduceAdd, if_pos, if_neg, ahF]
  | succ n ih =>
    intro i s hi
    have z1 := scU_le (q := x) h (show i < 5 by omega)
    have z2 := scU_le (q := y) h (show i < 5 by omega)
    have z3 := uN_le i (by omega)
    rw [q_64_21]
    by_cases c : scU a y i < scU a x i
    · simp (disch := omega) only [q_64_0, q_64_1, q_64_4, q_64_7, q_64_8, q_64_11, q_64_14, q_64_15, q_64_16, q_64_17, q_64_18, q_64_19, q_64_23, q_64_24, q_64_27, q_64_28, q_64_29, q_64_31, q_64_34, q_64_35, q_64_36, q_64_38, q_64_41, q_64_42, q_64_45, q_64_46, q_64_47, q_64_49, q_64_50, q_64_51, q_64_52, q_64_55, q_64_58, q_64_59, vinT, iClamp, clr_i, clr_l, clr_r, clr_n, true_and, and_true, or_true, true_or, false_or, or_false, iLe, iLt, iEq, iAdd, iMul, List.cons_append, List.nil_append, List.append_nil, zb0, zb1, if_true, if_false, not_true_eq_false, not_false_eq_true, Bool.false_eq_true, Nat.one_ne_zero, Nat.zero_ne_one, Nat.reduceEqDiff, Nat.reduceAdd, if_pos, if_neg, c0, s_score h hx (show i < 5 by omega), s_score h hy (show i < 5 by omega), lc_le, lLt, one_shl, fa_or]
      rw [ih (i + 1) _ (by omega), ahF, if_pos c]
    · simp (disch := omega) only [q_64_0, q_64_1, q_64_4, q_64_7, q_64_8, q_64_11, q_64_14, q_64_15, q_64_16, q_64_17, q_64_18, q_64_19, q_64_23, q_64_24, q_64_27, q_64_28, q_64_29, q_64_31, q_64_34, q_64_35, q_64_36, q_64_38, q_64_41, q_64_42, q_64_45, q_64_46, q_64_47, q_64_49, q_64_50, q_64_51, q_64_52, q_64_55, q_64_58, q_64_59, vinT, iClamp, clr_i, clr_l, clr_r, clr_n, true_and, and_true, or_true, true_or, false_or, or_false, iLe, iLt, iEq, iAdd, iMul, List.cons_append, List.nil_append, List.append_nil, zb0, zb1, if_true, if_false, not_true_eq_false, not_false_eq_true, Bool.false_eq_true, Nat.one_ne_zero, Nat.zero_ne_one, Nat.reduceEqDiff, Nat.reduceAdd, if_pos, if_neg, c0, s_score h hx (show i < 5 by omega), s_score h hy (show i < 5 by omega), lc_le, lLt]
      rw [ih (i + 1) _ (by omega), ahF, if_neg c]
def anAh (a : AS) (x y : Int32) : Int32 := if inR x 7 then (if inR y 7 then nI (ahF a (tn x) (tn y) 0 5 0) else -1) else -1
theorem x_Ah {X : Nat × (Nat → Int32)} {σ : Mem} {a : AS} {x y : Int32} {w0 w1 : Value} (h : CI σ a) : ∃ σ', Ev X 64 [.ref 0, .int x, .int y, w0, w1] σ [.int (anAh a x y)] σ' ∧ CI σ' a ∧ Lo σ σ' := by
  refine ⟨σ, fun Q => ?_, h, Lo.rf σ⟩
  by_cases k0 : inR x 7
  · have e0 : b2 (inR x 7) = nI 1 := b2_t k0
    by_cases k1 : inR y 7
    · have e1 : b2 (inR y 7) = nI 1 := b2_t k1
      rw [anAh, if_pos k0, if_pos k1]
      obtain ⟨i, hi, rfl⟩ := inR_of k0 (by omega)
      obtain ⟨j, hj, rfl⟩ := inR_of k1 (by omega)
      simp (disch := omega) only [tn_nI]
      simp (disch := omega) only [q_64_0, q_64_1, q_64_4, q_64_7, q_64_8, q_64_11, q_64_14, q_64_15, q_64_16, q_64_17, q_64_18, q_64_19, vinT, iClamp, clr_i, clr_l, clr_r, clr_n, true_and, and_true, or_true, true_or, false_or, or_false, iLe, iLt, iEq, iAdd, iMul, List.cons_append, List.nil_append, List.append_nil, zb0, zb1, if_true, if_false, not_true_eq_false, not_false_eq_true, Bool.false_eq_true, Nat.one_ne_zero, Nat.zero_ne_one, Nat.reduceEqDiff, Nat.reduceAdd, if_pos, if_neg, s_isPerson, e0, e1]
      rw [l_ahead h hi hj 5 0 0 rfl]
    · have e1 : b2 (inR y 7) = nI 0 := b2_f k1
      rw [anAh, if_pos k0, if_neg k1]
      simp (disch := omega) only [q_64_0, q_64_1, q_64_4, q_64_7, q_64_8, q_64_11, q_64_14, q_64_15, q_64_16, q_64_17, q_64_18, q_64_19, vinT, iClamp, clr_i, clr_l, clr_r, clr_n, true_and, and_true, or_true, true_or, false_or, or_false, iLe, iLt, iEq, iAdd, iMul, List.cons_append, List.nil_append, List.append_nil, zb0, zb1, if_true, if_false, not_true_eq_false, not_false_eq_true, Bool.false_eq_true, Nat.one_ne_zero, Nat.zero_ne_one, Nat.reduceEqDiff, Nat.reduceAdd, if_pos, if_neg, s_isPerson, e0, e1]
  · have e0 : b2 (inR x 7) = nI 0 := b2_f k0
    rw [anAh, if_neg k0]
    simp (disch := omega) only [q_64_0, q_64_1, q_64_4, q_64_7, q_64_8, q_64_11, q_64_14, q_64_15, q_64_16, q_64_17, q_64_18, q_64_19, vinT, iClamp, clr_i, clr_l, clr_r, clr_n, true_and, and_true, or_true, true_or, false_or, or_false, iLe, iLt, iEq, iAdd, iMul, List.cons_append, List.nil_append, List.append_nil, zb0, zb1, if_true, if_false, not_true_eq_false, not_false_eq_true, Bool.false_eq_true, Nat.one_ne_zero, Nat.zero_ne_one, Nat.reduceEqDiff, Nat.reduceAdd, if_pos, if_neg, s_isPerson, e0]
def SCk : List Nat := [28, 29, 30]
theorem SCk_scr : ∀ b, b ∈ SCk → b ∈ SCR := by decide
theorem SCk_lt : ∀ b, b ∈ SCk → b < 127 := by decide
theorem l_rank {X : Nat × (Nat → Int32)} {a : AS} {way : Nat} {y : Int32} (hw : way < 5) : ∀ n i (σ : Mem), CI σ a → i + n = 7 → RI σ 28 (srt (fun q => lN (scU a q way)) (List.range i)) → (∀ q, q < i → σ.2 30 q = lN (scU a q way)) → ∃ σ', (∀ Q, Rn X 65 23 [.ref 0, .int (nI way), .int y, .int (nI i)] [] σ Q ↔ Q [.int (pA (srt (fun q => lN (scU a q way)) (List.range 7)) y)] σ') ∧ Off SCk σ σ' := by
  intro n
  induction n with
  | zero =>
    intro i σ h hi hR hN
    have e : i = 7 := by omega
    subst e
    refine ⟨σ, fun Q => ?_, Off.rf _ _⟩
    rw [q_65_23]
    simp (disch := omega) only [q_65_0, q_65_1, q_65_4, q_65_7, q_65_9, q_65_10, q_65_11, q_65_14, q_65_17, q_65_18, q_65_21, q_65_22, q_65_24, q_65_26, q_65_29, q_65_30, q_65_33, q_65_34, q_65_35, q_65_36, q_65_37, q_65_40, q_65_43, q_65_46, q_65_49, q_65_50, q_65_53, q_65_56, q_65_57, q_65_60, vinT, iClamp, clr_i, clr_l, clr_r, clr_n, true_and, and_true, or_true, true_or, false_or, or_false, iLe, iLt, iEq, iAdd, iMul, List.cons_append, List.nil_append, List.append_nil, zb0, zb1, if_true, if_false, not_true_eq_false, not_false_eq_true, Bool.false_eq_true, Nat.one_ne_zero, Nat.zero_ne_one, Nat.reduceEqDiff, Nat.reduceAdd, if_pos, if_neg, c0, c27k, c28k, s_personAt c28k hR]
  | succ n ih =>
    intro i σ h hi hR hN
    obtain ⟨σ1, k1, k2, k3, k4⟩ := s_put (X := X) (x := i) (v := lN (scU a i way)) (w := .null) c27k (show i < 7 by omega) hR (by rw [srt_len, List.length_range]; omega)
    have k1' := fun Q => k1 Q
    have k4' : Off SCk σ σ1 := k4
    have hnew : insL (ah (vp_updL (σ.2 (27 + 3)) i (lN (scU a i way))) i) i (srt (fun q => lN (scU a q way)) (List.range i)) = srt (fun q => lN (scU a q way)) (List.range (i + 1)) := by
      rw [List.range_succ, srt_snoc]
      apply insL_congr
      intro z hz
      have hz' : z < i := List.mem_range.mp ((srt_perm _ _).mem_iff.mp hz)
      apply ah_congr
      · rw [updL_at]
      · rw [updL_ne (by omega)]
        exact hN z hz'
    rw [hnew] at k2
    obtain ⟨σ', j1, j2⟩ := ih (i + 1) σ1 (CI_scr h (k4'.mono SCk_scr)) (by omega) k2 (fun q hq => by
      have e : σ1.2 30 = vp_updL (σ.2 (27 + 3)) i (lN (scU a i way)) := k3
      rw [e]
      by_cases c : q = i
      · rw [c, updL_at]
      · rw [updL_ne c]; exact hN q (by omega))
    refine ⟨σ', fun Q => ?_, k4'.tr j2⟩
    rw [q_65_23]
    simp (disch := omega) only [q_65_0, q_65_1, q_65_4, q_65_7, q_65_9, q_65_10, q_65_11, q_65_14, q_65_17, q_65_18, q_65_21, q_65_22, q_65_24, q_65_26, q_65_29, q_65_30, q_65_33, q_65_34, q_65_35, q_65_36, q_65_37, q_65_40, q_65_43, q_65_46, q_65_49, q_65_50, q_65_53, q_65_56, q_65_57, q_65_60, vinT, iClamp, clr_i, clr_l, clr_r, clr_n, true_and, and_true, or_true, true_or, false_or, or_false, iLe, iLt, iEq, iAdd, iMul, List.cons_append, List.nil_append, List.append_nil, zb0, zb1, if_true, if_false, not_true_eq_false, not_false_eq_true, Bool.false_eq_true, Nat.one_ne_zero, Nat.zero_ne_one, Nat.reduceEqDiff, Nat.reduceAdd, if_pos, if_neg, c0, c27k, s_score h (show i < 7 by omega) hw, k1']
    exact j1 Q
def anRk (a : AS) (x i : Int32) : Int32 := if inR x 5 then pA (srt (fun q => lN (scU a q (tn x))) (List.range 7)) i else -2
theorem x_Rk {X : Nat × (Nat → Int32)} {σ : Mem} {a : AS} {x i : Int32} {w0 : Value} (h : CI σ a) : ∃ σ', Ev X 65 [.ref 0, .int x, .int i, w0] σ [.int (anRk a x i)] σ' ∧ CI σ' a ∧ Lo σ σ' := by
  by_cases k0 : inR x 5
  · have e0 : b2 (inR x 5) = nI 1 := b2_t k0
    rw [anRk, if_pos k0]
    obtain ⟨m, hm, rfl⟩ := inR_of k0 (by omega)
    rw [tn_nI (by omega)]
    have ho : Off SCk σ (sI σ 28 1 (nI 0)) := (Off.rf _ σ).sI (by decide) _ _
    obtain ⟨σ', j1, j2⟩ := l_rank (X := X) (y := i) hm 7 0 (sI σ 28 1 (nI 0)) (CI_scr h (ho.mono SCk_scr)) rfl (RI_nil (sI_at _ _ _ _)) (fun q hq => absurd hq (by omega))
    refine ⟨σ', fun Q => ?_, CI_scr h ((ho.tr j2).mono SCk_scr), (ho.tr j2).lo SCk_lt⟩
    simp (disch := omega) only [q_65_0, q_65_1, q_65_4, q_65_7, q_65_9, q_65_10, q_65_11, q_65_14, q_65_17, q_65_18, q_65_21, q_65_22, vinT, iClamp, clr_i, clr_l, clr_r, clr_n, true_and, and_true, or_true, true_or, false_or, or_false, iLe, iLt, iEq, iAdd, iMul, List.cons_append, List.nil_append, List.append_nil, zb0, zb1, if_true, if_false, not_true_eq_false, not_false_eq_true, Bool.false_eq_true, Nat.one_ne_zero, Nat.zero_ne_one, Nat.reduceEqDiff, Nat.reduceAdd, if_pos, if_neg, s_isWay, e0, c0, c27k, c28k]
    exact j1 Q
  · have e0 : b2 (inR x 5) = nI 0 := b2_f k0
    rw [anRk, if_neg k0]
    refine ⟨σ, fun Q => ?_, h, Lo.rf σ⟩
    simp (disch := omega) only [q_65_0, q_65_1, q_65_4, q_65_7, q_65_9, q_65_10, q_65_11, q_65_14, q_65_17, q_65_18, q_65_21, q_65_22, vinT, iClamp, clr_i, clr_l, clr_r, clr_n, true_and, and_true, or_true, true_or, false_or, or_false, iLe, iLt, iEq, iAdd, iMul, List.cons_append, List.nil_append, List.append_nil, zb0, zb1, if_true, if_false, not_true_eq_false, not_false_eq_true, Bool.false_eq_true, Nat.one_ne_zero, Nat.zero_ne_one, Nat.reduceEqDiff, Nat.reduceAdd, if_pos, if_neg, s_isWay, e0]
