/-! ===== Row ===== -/
def RI (σ : Mem) (r : Nat) (l : List Nat) : Prop := l.length ≤ 7 ∧ σ.1 r 1 = nI l.length ∧ ∀ j, j < l.length → σ.1 (r + 1) j = nI (l.getD j 0) ∧ l.getD j 0 < 7
theorem RI_congr {σ σ' : Mem} {r : Nat} {l : List Nat} (h : RI σ r l) (h1 : σ'.1 r 1 = σ.1 r 1) (h2 : ∀ j, j < 7 → σ'.1 (r + 1) j = σ.1 (r + 1) j) : RI σ' r l := by
  obtain ⟨a, b, c⟩ := h
  exact ⟨a, h1.trans b, fun j hj => ⟨(h2 j (by omega)).trans (c j hj).1, (c j hj).2⟩⟩
theorem RI_off {S : List Nat} {σ σ' : Mem} {r : Nat} {l : List Nat} (h : RI σ r l) (ho : Off S σ σ') (h1 : r ∉ S) (h2 : r + 1 ∉ S) : RI σ' r l := RI_congr h (by rw [(ho r h1).1]) (fun j _ => by rw [(ho (r + 1) h2).1])
/-- the person at a place -/
def pA (l : List Nat) (x : Int32) : Int32 := if x < nI 0 then -9 else if nI l.length ≤ x then -9 else nI (l.getD x.toNatClampNeg 0)
theorem pA_in {l : List Nat} {j : Nat} (h : j < l.length) (hl : l.length ≤ 7) : pA l (nI j) = nI (l.getD j 0) := by
  rw [pA, if_neg (by rw [iLt (by omega) (by omega)]; omega), if_neg (by rw [iLe (by omega) (by omega)]; omega), iClamp (by omega)]
theorem pA_out {l : List Nat} {j : Nat} (h : l.length ≤ j) (hj : j < 2147483648) : pA l (nI j) = -9 := by
  rw [pA, if_neg (by rw [iLt (by omega) (by omega)]; omega), if_pos (by rw [iLe (by omega) (by omega)]; omega)]
theorem vin_of {x : Int32} {n m : Nat} (h1 : ¬ x < nI 0) (h2 : ¬ nI n ≤ x) (hn : n ≤ m) (hm : m < 2147483648) : vp_in x m ∧ x.toNatClampNeg < n := by
  rcases pk_ix x (n := n) (by omega) with h | h | ⟨j, hj, rfl⟩
  · exact absurd (by rw [nI_0]; exact h) h1
  · exact absurd h h2
  · rw [vinN (by omega), iClamp (by omega)]
    exact ⟨by omega, hj⟩
theorem s_personAt {X : Nat × (Nat → Int32)} {σ : Mem} {Q : List Value → Mem → Prop} {r : Nat} {l : List Nat} {x : Int32} (hr : cK r = 5) (h : RI σ r l) : Rn X 35 0 [.ref r, .int x] [] σ Q ↔ Q [.int (pA l x)] σ := by
  obtain ⟨f1, f2⟩ := F5 hr
  obtain ⟨h1, h2, h3⟩ := h
  by_cases c1 : x < nI 0
  · simp (disch := omega) only [q_35_0, q_35_1, q_35_4, q_35_5, q_35_6, q_35_9, q_35_12, q_35_13, q_35_16, q_35_17, q_35_18, q_35_21, q_35_23, vinT, iClamp, clr_i, clr_l, clr_r, clr_n, true_and, and_true, or_true, true_or, false_or, or_false, iLe, iLt, iEq, iAdd, iMul, List.cons_append, List.nil_append, List.append_nil, zb0, zb1, if_true, if_false, not_true_eq_false, not_false_eq_true, Bool.false_eq_true, Nat.one_ne_zero, Nat.zero_ne_one, Nat.reduceEqDiff, Nat.reduceAdd, if_pos, if_neg, hr, c1, pA]
  · by_cases c2 : nI l.length ≤ x
    · simp (disch := omega) only [q_35_0, q_35_1, q_35_4, q_35_5, q_35_6, q_35_9, q_35_12, q_35_13, q_35_16, q_35_17, q_35_18, q_35_21, q_35_23, vinT, iClamp, clr_i, clr_l, clr_r, clr_n, true_and, and_true, or_true, true_or, false_or, or_false, iLe, iLt, iEq, iAdd, iMul, List.cons_append, List.nil_append, List.append_nil, zb0, zb1, if_true, if_false, not_true_eq_false, not_false_eq_true, Bool.false_eq_true, Nat.one_ne_zero, Nat.zero_ne_one, Nat.reduceEqDiff, Nat.reduceAdd, if_pos, if_neg, hr, c1, c2, pA, h2, if_false, if_true]
    · obtain ⟨c3, c4⟩ := vin_of c1 c2 h1 (by omega)
      simp (disch := omega) only [q_35_0, q_35_1, q_35_4, q_35_5, q_35_6, q_35_9, q_35_12, q_35_13, q_35_16, q_35_17, q_35_18, q_35_21, q_35_23, vinT, iClamp, clr_i, clr_l, clr_r, clr_n, true_and, and_true, or_true, true_or, false_or, or_false, iLe, iLt, iEq, iAdd, iMul, List.cons_append, List.nil_append, List.append_nil, zb0, zb1, if_true, if_false, not_true_eq_false, not_false_eq_true, Bool.false_eq_true, Nat.one_ne_zero, Nat.zero_ne_one, Nat.reduceEqDiff, Nat.reduceAdd, if_pos, if_neg, hr, c1, c2, pA, h2, if_false, f1, f2, c3, (h3 _ c4).1]
/-- the first place of a value from i on -/
def plF (f : Nat → Int32) (y : Int32) (i : Nat) : Nat → Int32
  | 0 => -9
  | n + 1 => if f i = y then nI i else plF f y (i + 1) n
def rF (l : List Nat) : Nat → Int32 := fun j => nI (l.getD j 0)
theorem l_placeOf {X : Nat × (Nat → Int32)} {σ : Mem} {Q : List Value → Mem → Prop} {r : Nat} {l : List Nat} {y : Int32} (hr : cK r = 5) (h : RI σ r l) : ∀ n i, i + n = l.length → (Rn X 36 2 [.ref r, .int y, .int (nI i)] [] σ Q ↔ Q [.int (plF (rF l) y i n)] σ) := by
  obtain ⟨f1, f2⟩ := F5 hr
  obtain ⟨h1, h2, h3⟩ := h
  intro n
  induction n with
  | zero =>
    intro i hi
    rw [q_36_2]
    simp (disch := omega) only [q_36_0, q_36_1, q_36_3, q_36_4, q_36_7, q_36_10, q_36_11, q_36_14, q_36_15, q_36_16, q_36_17, q_36_20, q_36_21, q_36_22, q_36_25, q_36_28, q_36_30, vinT, iClamp, clr_i, clr_l, clr_r, clr_n, true_and, and_true, or_true, true_or, false_or, or_false, iLe, iLt, iEq, iAdd, iMul, List.cons_append, List.nil_append, List.append_nil, zb0, zb1, if_true, if_false, not_true_eq_false, not_false_eq_true, Bool.false_eq_true, Nat.one_ne_zero, Nat.zero_ne_one, Nat.reduceEqDiff, Nat.reduceAdd, if_pos, if_neg, hr, h2, plF]
  | succ n ih =>
    intro i hi
    rw [q_36_2]
    simp (disch := omega) only [q_36_0, q_36_1, q_36_3, q_36_4, q_36_7, q_36_10, q_36_11, q_36_14, q_36_15, q_36_16, q_36_17, q_36_20, q_36_21, q_36_22, q_36_25, q_36_28, q_36_30, vinT, iClamp, clr_i, clr_l, clr_r, clr_n, true_and, and_true, or_true, true_or, false_or, or_false, iLe, iLt, iEq, iAdd, iMul, List.cons_append, List.nil_append, List.append_nil, zb0, zb1, if_true, if_false, not_true_eq_false, not_false_eq_true, Bool.false_eq_true, Nat.one_ne_zero, Nat.zero_ne_one, Nat.reduceEqDiff, Nat.reduceAdd, if_pos, if_neg, hr, h2, f1, f2, (h3 i (by omega)).1]
    rw [plF]
    by_cases c : nI (l.getD i 0) = y
    · rw [if_pos c, if_pos (show rF l i = y from c)]
    · rw [if_neg c, if_neg (show ¬ rF l i = y from c)]
      exact ih (i + 1) (by omega)
theorem s_placeOf {X : Nat × (Nat → Int32)} {σ : Mem} {Q : List Value → Mem → Prop} {r : Nat} {l : List Nat} {y : Int32} (hr : cK r = 5) (h : RI σ r l) : Rn X 36 0 [.ref r, .int y, .null] [] σ Q ↔ Q [.int (plF (rF l) y 0 l.length)] σ := by
  simp only [q_36_0, q_36_1, clr_i, l_placeOf hr h l.length 0 (by omega)]
theorem s_holds {X : Nat × (Nat → Int32)} {σ : Mem} {Q : List Value → Mem → Prop} {r : Nat} {l : List Nat} {y : Int32} (hr : cK r = 5) (h : RI σ r l) : Rn X 37 0 [.ref r, .int y] [] σ Q ↔ Q [.int (b2 (¬ plF (rF l) y 0 l.length = -9))] σ := by
  by_cases c : plF (rF l) y 0 l.length = -9
  · simp (disch := omega) only [q_37_0, q_37_1, q_37_2, q_37_5, q_37_7, q_37_10, q_37_11, q_37_14, q_37_15, vinT, iClamp, clr_i, clr_l, clr_r, clr_n, true_and, and_true, or_true, true_or, false_or, or_false, iLe, iLt, iEq, iAdd, iMul, List.cons_append, List.nil_append, List.append_nil, zb0, zb1, if_true, if_false, not_true_eq_false, not_false_eq_true, Bool.false_eq_true, Nat.one_ne_zero, Nat.zero_ne_one, Nat.reduceEqDiff, Nat.reduceAdd, if_pos, if_neg, hr, s_placeOf hr h, c, b2, not_true]
  · simp (disch := omega) only [q_37_0, q_37_1, q_37_2, q_37_5, q_37_7, q_37_10, q_37_11, q_37_14, q_37_15, vinT, iClamp, clr_i, clr_l, clr_r, clr_n, true_and, and_true, or_true, true_or, false_or, or_false, iLe, iLt, iEq, iAdd, iMul, List.cons_append, List.nil_append, List.append_nil, zb0, zb1, if_true, if_false, not_true_eq_false, not_false_eq_true, Bool.false_eq_true, Nat.one_ne_zero, Nat.zero_ne_one, Nat.reduceEqDiff, Nat.reduceAdd, if_pos, if_neg, hr, s_placeOf hr h, c, b2, not_false_iff]
/-- one behind a row -/
theorem s_append {X : Nat × (Nat → Int32)} {σ : Mem} {r q : Nat} {l : List Nat} (hr : cK r = 5) (h : RI σ r l) (hq : q < 7) (hl : l.length < 7) : ∃ σ', Ev X 38 [.ref r, .int (nI q)] σ [] σ' ∧ RI σ' r (l ++ [q]) ∧ Off [r, r + 1] σ σ' ∧ (∀ j, j ≠ 1 → σ'.1 r j = σ.1 r j) := by
  obtain ⟨f1, f2⟩ := F5 hr
  obtain ⟨h1, h2, h3⟩ := h
  refine ⟨sI (sI σ (r + 1) l.length (nI q)) r 1 (nI (l.length + 1)), ?_, ?_, ?_, ?_⟩
  · intro Q
    simp (disch := omega) only [q_38_0, q_38_1, q_38_4, q_38_6, q_38_9, q_38_10, q_38_13, q_38_14, q_38_17, q_38_18, q_38_19, q_38_20, q_38_21, q_38_24, q_38_25, q_38_26, q_38_29, vinT, iClamp, clr_i, clr_l, clr_r, clr_n, true_and, and_true, or_true, true_or, false_or, or_false, iLe, iLt, iEq, iAdd, iMul, List.cons_append, List.nil_append, List.append_nil, zb0, zb1, if_true, if_false, not_true_eq_false, not_false_eq_true, Bool.false_eq_true, Nat.one_ne_zero, Nat.zero_ne_one, Nat.reduceEqDiff, Nat.reduceAdd, if_pos, if_neg, hr, h2, f1, f2, sI_off]
  · refine ⟨by simp; omega, by rw [sI_at]; simp, fun j hj => ?_⟩
    simp at hj
    by_cases e : j = l.length
    · subst e
      rw [sI_off (by omega), sI_at]
      simp [hq]
    · rw [sI_off (by omega), sI_off (by omega), (h3 j (by omega)).1, gD_l (by omega)]
      exact ⟨rfl, (h3 j (by omega)).2⟩
  · exact ((Off.rf _ σ).sI (by simp) _ _).sI (by simp) _ _
  · intro j hj
    rw [sI_off (by omega), sI_off (by omega)]
def swp (l : List Nat) (p : Nat) : List Nat := (l.set p (l.getD (p + 1) 0)).set (p + 1) (l.getD p 0)
theorem s_change {X : Nat × (Nat → Int32)} {σ : Mem} {r p : Nat} {l : List Nat} {v : Value} (hr : cK r = 5) (h : RI σ r l) (hp : p + 1 < l.length) : ∃ σ', Ev X 39 [.ref r, .int (nI p), v] σ [] σ' ∧ RI σ' r (swp l p) ∧ Off [r + 1] σ σ' := by
  obtain ⟨f1, f2⟩ := F5 hr
  obtain ⟨h1, h2, h3⟩ := h
  refine ⟨sI (sI σ (r + 1) p (nI (l.getD (p + 1) 0))) (r + 1) (p + 1) (nI (l.getD p 0)), ?_, ?_, ?_⟩
  · intro Q
    simp (disch := omega) only [q_39_0, q_39_1, q_39_4, q_39_5, q_39_6, q_39_9, q_39_10, q_39_11, q_39_14, q_39_15, q_39_18, q_39_19, q_39_20, q_39_21, q_39_22, q_39_25, q_39_26, q_39_27, q_39_30, q_39_31, q_39_32, q_39_33, q_39_34, q_39_35, q_39_36, q_39_39, q_39_40, q_39_41, q_39_42, q_39_43, q_39_44, vinT, iClamp, clr_i, clr_l, clr_r, clr_n, true_and, and_true, or_true, true_or, false_or, or_false, iLe, iLt, iEq, iAdd, iMul, List.cons_append, List.nil_append, List.append_nil, zb0, zb1, if_true, if_false, not_true_eq_false, not_false_eq_true, Bool.false_eq_true, Nat.one_ne_zero, Nat.zero_ne_one, Nat.reduceEqDiff, Nat.reduceAdd, if_pos, if_neg, hr, h2, f1, f2, sI_off, iSub, (h3 p (by omega)).1, (h3 (p + 1) (by omega)).1]
  · refine ⟨by simp [swp]; omega, by rw [sI_off (by omega), sI_off (by omega), h2]; simp [swp], fun j hj => ?_⟩
    have hj2 : j < l.length := by simpa [swp] using hj
    have e0 : (swp l p).getD j 0 = if j = p + 1 then l.getD p 0 else if j = p then l.getD (p + 1) 0 else l.getD j 0 := by
      rw [swp, List.getD_eq_getElem?_getD]
      by_cases c1 : j = p + 1
      · subst c1
        rw [List.getElem?_set_self (by simpa using hp), if_pos rfl]
        rfl
      · rw [List.getElem?_set_ne (fun q => c1 q.symm), if_neg c1]
        by_cases c2 : j = p
        · subst c2
          rw [List.getElem?_set_self hj2, if_pos rfl]
          rfl
        · rw [List.getElem?_set_ne (fun q => c2 q.symm), if_neg c2, List.getD_eq_getElem?_getD]
    rw [e0]
    by_cases c1 : j = p + 1
    · subst c1
      rw [sI_at, if_pos rfl]
      exact ⟨rfl, (h3 p (by omega)).2⟩
    · rw [sI_off (by omega), if_neg c1]
      by_cases c2 : j = p
      · subst c2
        rw [sI_at, if_pos rfl]
        exact ⟨rfl, (h3 _ (by omega)).2⟩
      · rw [sI_off (by omega), if_neg c2]
        exact h3 j hj2
  · exact ((Off.rf _ σ).sI (by simp) _ _).sI (by simp) _ _
theorem swp_mid (A B : List Nat) (x y : Nat) : swp (A ++ x :: y :: B) A.length = A ++ y :: x :: B := by
  have h1 : (A ++ x :: y :: B).getD A.length 0 = x := by rw [gD_r (Nat.le_refl _), Nat.sub_self]; rfl
  have h2 : (A ++ x :: y :: B).getD (A.length + 1) 0 = y := by rw [gD_r (by omega), Nat.add_sub_cancel_left]; rfl
  rw [swp, h1, h2, List.set_append_right _ _ (Nat.le_refl _), Nat.sub_self]
  rw [List.set_append_right _ _ (by omega), Nat.add_sub_cancel_left]
  rfl
theorem l_copy {X : Nat × (Nat → Int32)} {r o : Nat} (hr : cK r = 5) (ho : cK o = 5) (hne : o ≠ r ∧ o ≠ r + 1 ∧ o + 1 ≠ r) : ∀ n i (σ : Mem), i + n = 7 → ∃ σ', (∀ Q, Rn X 40 2 [.ref r, .ref o, .int (nI i)] [] σ Q ↔ Q [] σ') ∧ (∀ j, i ≤ j → j < 7 → σ'.1 (r + 1) j = σ.1 (o + 1) j) ∧ (∀ j, j < i → σ'.1 (r + 1) j = σ.1 (r + 1) j) ∧ σ'.1 r 1 = σ.1 o 1 ∧ Off [r, r + 1] σ σ' := by
  obtain ⟨f1, f2⟩ := F5 hr
  obtain ⟨f3, f4⟩ := F5 ho
  intro n
  induction n with
  | zero =>
    intro i σ hi
    have e : i = 7 := by omega
    subst e
    refine ⟨sI σ r 1 (σ.1 o 1), fun Q => ?_, fun j h1 h2 => absurd h2 (by omega), fun j hj => sI_off (by omega), sI_at _ _ _ _, (Off.rf _ σ).sI (by simp) _ _⟩
    rw [q_40_2]
    simp (disch := omega) only [q_40_0, q_40_1, q_40_3, q_40_5, q_40_8, q_40_9, q_40_12, q_40_13, q_40_14, q_40_17, q_40_18, q_40_19, q_40_20, q_40_23, q_40_26, q_40_27, q_40_28, q_40_31, q_40_34, vinT, iClamp, clr_i, clr_l, clr_r, clr_n, true_and, and_true, or_true, true_or, false_or, or_false, iLe, iLt, iEq, iAdd, iMul, List.cons_append, List.nil_append, List.append_nil, zb0, zb1, if_true, if_false, not_true_eq_false, not_false_eq_true, Bool.false_eq_true, Nat.one_ne_zero, Nat.zero_ne_one, Nat.reduceEqDiff, Nat.reduceAdd, if_pos, if_neg, hr, ho]
  | succ n ih =>
    intro i σ hi
    obtain ⟨σ', h1, h2, h3, h4, h5⟩ := ih (i + 1) (sI σ (r + 1) i (σ.1 (o + 1) i)) (by omega)
    refine ⟨σ', fun Q => ?_, fun j hj1 hj2 => ?_, fun j hj => ?_, ?_, ?_⟩
    · rw [q_40_2]
      simp (disch := omega) only [q_40_0, q_40_1, q_40_3, q_40_5, q_40_8, q_40_9, q_40_12, q_40_13, q_40_14, q_40_17, q_40_18, q_40_19, q_40_20, q_40_23, q_40_26, q_40_27, q_40_28, q_40_31, q_40_34, vinT, iClamp, clr_i, clr_l, clr_r, clr_n, true_and, and_true, or_true, true_or, false_or, or_false, iLe, iLt, iEq, iAdd, iMul, List.cons_append, List.nil_append, List.append_nil, zb0, zb1, if_true, if_false, not_true_eq_false, not_false_eq_true, Bool.false_eq_true, Nat.one_ne_zero, Nat.zero_ne_one, Nat.reduceEqDiff, Nat.reduceAdd, if_pos, if_neg, hr, ho, f1, f2, f3, f4]
      exact h1 Q
    · by_cases c : j = i
      · subst c
        rw [h3 j (by omega), sI_at]
      · rw [h2 j (by omega) hj2, sI_off (by omega)]
    · rw [h3 j (by omega), sI_off (by omega)]
    · rw [h4, sI_off (by omega)]
    · exact ((Off.rf _ σ).sI (by simp) _ _).tr h5
theorem s_copy {X : Nat × (Nat → Int32)} {σ : Mem} {r o : Nat} {l : List Nat} {v : Value} (hr : cK r = 5) (ho : cK o = 5) (hne : o ≠ r ∧ o ≠ r + 1 ∧ o + 1 ≠ r) (h : RI σ o l) : ∃ σ', Ev X 40 [.ref r, .ref o, v] σ [] σ' ∧ RI σ' r l ∧ Off [r, r + 1] σ σ' := by
  obtain ⟨σ', h1, h2, h3, h4, h5⟩ := l_copy (X := X) hr ho hne 7 0 σ rfl
  refine ⟨σ', fun Q => ?_, ?_, h5⟩
  · simp only [q_40_0, q_40_1, clr_r]
    exact h1 Q
  · obtain ⟨a, b, c⟩ := h
    exact ⟨a, h4.trans b, fun j hj => ⟨(h2 j (by omega) (by omega)).trans (c j hj).1, (c j hj).2⟩⟩
/-- how many places hold otherwise -/
def puF (f g : Nat → Int32) (i : Nat) : Nat → Nat
  | 0 => 0
  | n + 1 => (if f i = g i then 0 else 1) + puF f g (i + 1) n
theorem l_unlike {X : Nat × (Nat → Int32)} {σ : Mem} {Q : List Value → Mem → Prop} {r o : Nat} {l m : List Nat} (hr : cK r = 5) (ho : cK o = 5) (h : RI σ r l) (h' : RI σ o m) : ∀ n i s, i + n = 7 → (Rn X 42 4 [.ref r, .ref o, .int (nI s), .int (nI i)] [] σ Q ↔ Q [.int (nI (s + puF (fun j => pA l (nI j)) (fun j => pA m (nI j)) i n))] σ) := by
  intro n
  induction n with
  | zero =>
    intro i s hi
    have e : i = 7 := by omega
    subst e
    rw [q_42_4]
    simp (disch := omega) only [q_42_0, q_42_1, q_42_2, q_42_3, q_42_5, q_42_7, q_42_10, q_42_11, q_42_12, q_42_15, q_42_16, q_42_17, q_42_20, q_42_23, q_42_26, q_42_29, q_42_32, q_42_33, vinT, iClamp, clr_i, clr_l, clr_r, clr_n, true_and, and_true, or_true, true_or, false_or, or_false, iLe, iLt, iEq, iAdd, iMul, List.cons_append, List.nil_append, List.append_nil, zb0, zb1, if_true, if_false, not_true_eq_false, not_false_eq_true, Bool.false_eq_true, Nat.one_ne_zero, Nat.zero_ne_one, Nat.reduceEqDiff, Nat.reduceAdd, if_pos, if_neg, puF, Nat.add_zero]
  | succ n ih =>
    intro i s hi
    rw [q_42_4, puF]
    simp (disch := omega) only [q_42_0, q_42_1, q_42_2, q_42_3, q_42_5, q_42_7, q_42_10, q_42_11, q_42_12, q_42_15, q_42_16, q_42_17, q_42_20, q_42_23, q_42_26, q_42_29, q_42_32, q_42_33, vinT, iClamp, clr_i, clr_l, clr_r, clr_n, true_and, and_true, or_true, true_or, false_or, or_false, iLe, iLt, iEq, iAdd, iMul, List.cons_append, List.nil_append, List.append_nil, zb0, zb1, if_true, if_false, not_true_eq_false, not_false_eq_true, Bool.false_eq_true, Nat.one_ne_zero, Nat.zero_ne_one, Nat.reduceEqDiff, Nat.reduceAdd, if_pos, if_neg, hr, ho, s_personAt hr h, s_personAt ho h']
    by_cases c : pA l (nI i) = pA m (nI i)
    · rw [if_pos c, if_pos c, ih (i + 1) s (by omega), Nat.zero_add]
    · rw [if_neg c, if_neg c, ih (i + 1) (s + 1) (by omega), Nat.add_assoc]
theorem s_unlike {X : Nat × (Nat → Int32)} {σ : Mem} {Q : List Value → Mem → Prop} {r o : Nat} {l m : List Nat} {v w : Value} (hr : cK r = 5) (ho : cK o = 5) (h : RI σ r l) (h' : RI σ o m) : Rn X 42 0 [.ref r, .ref o, v, w] [] σ Q ↔ Q [.int (nI (puF (fun j => pA l (nI j)) (fun j => pA m (nI j)) 0 7))] σ := by
  simp only [q_42_0, q_42_1, q_42_2, q_42_3, clr_r, clr_i, l_unlike hr ho h h' 7 0 0 rfl, Nat.zero_add]
/-- pairs the other way about: by j behind i, then by i -/
def ivI (g : Nat → Int32) (i j : Nat) : Nat → Nat
  | 0 => 0
  | n + 1 => (if g i ≤ g j then 0 else 1) + ivI g i (j + 1) n
def ivO (g : Nat → Int32) (N i : Nat) : Nat → Nat
  | 0 => 0
  | n + 1 => ivI g i (i + 1) (N - (i + 1)) + ivO g N (i + 1) n
theorem l_pairsI {X : Nat × (Nat → Int32)} {σ : Mem} {Q : List Value → Mem → Prop} {r o : Nat} {l m : List Nat} (hr : cK r = 5) (ho : cK o = 5) (h : RI σ r l) (h' : RI σ o m) {i : Nat} (hi : i < l.length) : ∀ n j s, j + n = l.length → (Rn X 43 17 [.ref r, .ref o, .int (nI s), .int (nI i), .int (nI j)] [] σ Q ↔ Rn X 43 59 [.ref r, .ref o, .int (nI (s + ivI (fun j => plF (rF m) (nI (l.getD j 0)) 0 m.length) i j n)), .int (nI i), .int (nI l.length)] [] σ Q) := by
  obtain ⟨f1, f2⟩ := F5 hr
  obtain ⟨h1, h2, h3⟩ := id h
  intro n
  induction n with
  | zero =>
    intro j s hj
    have e : j = l.length := by omega
    subst e
    rw [q_43_17]
    simp (disch := omega) only [q_43_19, q_43_20, q_43_23, q_43_26, q_43_27, q_43_28, q_43_31, q_43_32, q_43_33, q_43_36, q_43_37, q_43_38, q_43_41, q_43_43, q_43_44, q_43_47, q_43_50, q_43_53, q_43_56, vinT, iClamp, clr_i, clr_l, clr_r, clr_n, true_and, and_true, or_true, true_or, false_or, or_false, iLe, iLt, iEq, iAdd, iMul, List.cons_append, List.nil_append, List.append_nil, zb0, zb1, if_true, if_false, not_true_eq_false, not_false_eq_true, Bool.false_eq_true, Nat.one_ne_zero, Nat.zero_ne_one, Nat.reduceEqDiff, Nat.reduceAdd, if_pos, if_neg, hr, h2, ivI, Nat.add_zero]
  | succ n ih =>
    intro j s hj
    rw [q_43_17, ivI]
    simp (disch := omega) only [q_43_19, q_43_20, q_43_23, q_43_26, q_43_27, q_43_28, q_43_31, q_43_32, q_43_33, q_43_36, q_43_37, q_43_38, q_43_41, q_43_43, q_43_44, q_43_47, q_43_50, q_43_53, q_43_56, vinT, iClamp, clr_i, clr_l, clr_r, clr_n, true_and, and_true, or_true, true_or, false_or, or_false, iLe, iLt, iEq, iAdd, iMul, List.cons_append, List.nil_append, List.append_nil, zb0, zb1, if_true, if_false, not_true_eq_false, not_false_eq_true, Bool.false_eq_true, Nat.one_ne_zero, Nat.zero_ne_one, Nat.reduceEqDiff, Nat.reduceAdd, if_pos, if_neg, hr, ho, h2, f1, f2, (h3 i hi).1, (h3 j (by omega)).1, s_placeOf ho h']
    by_cases c : plF (rF m) (nI (l.getD i 0)) 0 m.length ≤ plF (rF m) (nI (l.getD j 0)) 0 m.length
    · rw [if_pos c, if_pos c, ih (j + 1) s (by omega), Nat.zero_add]
    · rw [if_neg c, if_neg c, ih (j + 1) (s + 1) (by omega), Nat.add_assoc]
theorem l_pairs {X : Nat × (Nat → Int32)} {σ : Mem} {Q : List Value → Mem → Prop} {r o : Nat} {l m : List Nat} (hr : cK r = 5) (ho : cK o = 5) (h : RI σ r l) (h' : RI σ o m) : ∀ n i s (v : Value), i + n = l.length → (Rn X 43 4 [.ref r, .ref o, .int (nI s), .int (nI i), v] [] σ Q ↔ Q [.int (nI (s + ivO (fun j => plF (rF m) (nI (l.getD j 0)) 0 m.length) l.length i n))] σ) := by
  obtain ⟨f1, f2⟩ := F5 hr
  obtain ⟨h1, h2, h3⟩ := id h
  intro n
  induction n with
  | zero =>
    intro i s v hi
    have e : i = l.length := by omega
    subst e
    rw [q_43_4]
    simp (disch := omega) only [q_43_0, q_43_1, q_43_2, q_43_3, q_43_5, q_43_6, q_43_9, q_43_12, q_43_13, q_43_14, q_43_15, q_43_19, q_43_20, q_43_23, q_43_26, q_43_27, q_43_28, q_43_31, q_43_32, q_43_33, q_43_36, q_43_37, q_43_38, q_43_41, q_43_43, q_43_44, q_43_47, q_43_50, q_43_53, q_43_56, q_43_59, q_43_62, q_43_65, q_43_66, vinT, iClamp, clr_i, clr_l, clr_r, clr_n, true_and, and_true, or_true, true_or, false_or, or_false, iLe, iLt, iEq, iAdd, iMul, List.cons_append, List.nil_append, List.append_nil, zb0, zb1, if_true, if_false, not_true_eq_false, not_false_eq_true, Bool.false_eq_true, Nat.one_ne_zero, Nat.zero_ne_one, Nat.reduceEqDiff, Nat.reduceAdd, if_pos, if_neg, hr, h2, ivO, Nat.add_zero]
  | succ n ih =>
    intro i s v hi
    rw [q_43_4, ivO]
    simp (disch := omega) only [q_43_5, q_43_6, q_43_9, q_43_12, q_43_13, q_43_14, q_43_15, vinT, iClamp, clr_i, clr_l, clr_r, clr_n, true_and, and_true, or_true, true_or, false_or, or_false, iLe, iLt, iEq, iAdd, iMul, List.cons_append, List.nil_append, List.append_nil, zb0, zb1, if_true, if_false, not_true_eq_false, not_false_eq_true, Bool.false_eq_true, Nat.one_ne_zero, Nat.zero_ne_one, Nat.reduceEqDiff, Nat.reduceAdd, if_pos, if_neg, hr, h2]
    rw [l_pairsI hr ho h h' (by omega) (l.length - (i + 1)) (i + 1) s (by omega)]
    simp (disch := omega) only [q_43_59, q_43_62, vinT, iClamp, clr_i, clr_l, clr_r, clr_n, true_and, and_true, or_true, true_or, false_or, or_false, iLe, iLt, iEq, iAdd, iMul, List.cons_append, List.nil_append, List.append_nil, zb0, zb1, if_true, if_false, not_true_eq_false, not_false_eq_true, Bool.false_eq_true, Nat.one_ne_zero, Nat.zero_ne_one, Nat.reduceEqDiff, Nat.reduceAdd, if_pos, if_neg]
    rw [ih (i + 1) _ _ (by omega), Nat.add_assoc]
theorem s_pairs {X : Nat × (Nat → Int32)} {σ : Mem} {Q : List Value → Mem → Prop} {r o : Nat} {l m : List Nat} {v w u : Value} (hr : cK r = 5) (ho : cK o = 5) (h : RI σ r l) (h' : RI σ o m) : Rn X 43 0 [.ref r, .ref o, v, w, u] [] σ Q ↔ Q [.int (nI (ivO (fun j => plF (rF m) (nI (l.getD j 0)) 0 m.length) l.length 0 l.length))] σ := by
  simp only [q_43_0, q_43_1, q_43_2, q_43_3, clr_r, clr_i, l_pairs hr ho h h' l.length 0 0 u (by omega), Nat.zero_add]
