/-! ===== Quarrels ===== -/
theorem kk3 : ∀ k, k < 147 → cK k = 3 → k = 14 := by decide +kernel
theorem qr0 : ∀ x, x < 7 → (cK (14 + 2 + x) = 10 ∧ cN (14 + 2 + x) = 7 ∧ rA (14 + 1) x = 14 + 2 + x) := by decide
theorem Fa3 {e : Nat} (h : cK e = 3) : cK (e + 1) = 13 ∧ cN (e + 1) = 7 ∧ cK (e + 9) = 10 ∧ cN (e + 9) = 7 ∧ cK (e + 10) = 5 ∧ cK (e + 12) = 10 ∧ cN (e + 12) = 128 ∧ e = 14 ∧ ∀ x, x < 7 → (cK (e + 2 + x) = 10 ∧ cN (e + 2 + x) = 7 ∧ rA (e + 1) x = e + 2 + x) := by
  have q := kk3 e (cK_lt h (by omega)) h
  subst q
  exact ⟨by decide, by decide, by decide, by decide, by decide, by decide, by decide, rfl, qr0⟩
/-- what all mind, what each bears -/
def MB (σ : Mem) (e : Nat) (mi : Nat → Nat → Nat) (be : Nat → Nat) : Prop := (∀ x, x < 7 → ∀ y, y < 7 → σ.1 (e + 2 + x) y = nI (mi x y) ∧ mi x y ≤ 9) ∧ ∀ x, x < 7 → σ.1 (e + 9) x = nI (be x) ∧ be x ≤ 60
theorem MB_off {S : List Nat} {σ σ' : Mem} {e : Nat} {mi : Nat → Nat → Nat} {be : Nat → Nat} (h : MB σ e mi be) (ho : Off S σ σ') (h1 : ∀ a, e + 2 ≤ a → a ≤ e + 9 → a ∉ S) : MB σ' e mi be :=
  ⟨fun x hx y hy => by rw [(ho (e + 2 + x) (h1 _ (by omega) (by omega))).1]; exact h.1 x hx y hy, fun x hx => by rw [(ho (e + 9) (h1 _ (by omega) (by omega))).1]; exact h.2 x hx⟩
def mbF1 (mi : Nat → Nat → Nat) (x s y : Nat) : Nat := if bitN s y then mi x y else 0
def mbh (mi : Nat → Nat → Nat) (x s : Nat) : Nat := smF (mbF1 mi x s) 0 7
theorem mbh_le {mi : Nat → Nat → Nat} {x s : Nat} (h : ∀ y, y < 7 → mi x y ≤ 9) : mbh mi x s ≤ 63 := smF_le (f := mbF1 mi x s) (c := 9) 7 0 (fun j _ b => by
  have := h j (by omega)
  unfold mbF1
  split <;> omega)
theorem l_behind {X : Nat × (Nat → Int32)} {σ : Mem} {Q : List Value → Mem → Prop} {e x s : Nat} {mi : Nat → Nat → Nat} {be : Nat → Nat} (he : cK e = 3) (hx : x < 7) (hs : s < 128) (h : MB σ e mi be) : ∀ n i a, i + n = 7 → (Rn X 25 5 [.ref e, .int (nI x), .int (nI s), .int (nI a), .int (nI i)] [] σ Q ↔ Q [.int (nI (a + smF (mbF1 mi x s) i n))] σ) := by
  obtain ⟨f1, f2, f3, f4, f5, f6, f7, f8, f9⟩ := Fa3 he
  obtain ⟨g1, g2, g3⟩ := f9 x hx
  intro n
  induction n with
  | zero =>
    intro i a hi
    have e : i = 7 := by omega
    subst e
    rw [q_25_5]
    simp (disch := omega) only [q_25_0, q_25_1, q_25_2, q_25_3, q_25_7, q_25_9, q_25_12, q_25_13, q_25_15, q_25_18, q_25_21, q_25_22, q_25_23, q_25_26, q_25_27, q_25_28, q_25_30, q_25_31, q_25_32, q_25_33, q_25_36, q_25_39, q_25_40, vinT, iClamp, clr_i, clr_l, clr_r, clr_n, true_and, and_true, or_true, true_or, false_or, or_false, iLe, iLt, iEq, iAdd, iMul, List.cons_append, List.nil_append, List.append_nil, zb0, zb1, if_true, if_false, not_true_eq_false, not_false_eq_true, Bool.false_eq_true, Nat.one_ne_zero, Nat.zero_ne_one, Nat.reduceEqDiff, Nat.reduceAdd, if_pos, if_neg, smF, Nat.add_zero]
  | succ n ih =>
    intro i a hi
    rw [q_25_5, smF]
    by_cases c : bitN s i
    · simp (disch := omega) only [q_25_0, q_25_1, q_25_2, q_25_3, q_25_7, q_25_9, q_25_12, q_25_13, q_25_15, q_25_18, q_25_21, q_25_22, q_25_23, q_25_26, q_25_27, q_25_28, q_25_30, q_25_31, q_25_32, q_25_33, q_25_36, q_25_39, q_25_40, vinT, iClamp, clr_i, clr_l, clr_r, clr_n, true_and, and_true, or_true, true_or, false_or, or_false, iLe, iLt, iEq, iAdd, iMul, List.cons_append, List.nil_append, List.append_nil, zb0, zb1, if_true, if_false, not_true_eq_false, not_false_eq_true, Bool.false_eq_true, Nat.one_ne_zero, Nat.zero_ne_one, Nat.reduceEqDiff, Nat.reduceAdd, if_pos, if_neg, he, f1, f2, g1, g2, g3, s_isIn, b2_t c, (h.1 x hx i (by omega)).1]
      rw [ih (i + 1) _ (by omega), mbF1, if_pos c, Nat.add_assoc]
    · simp (disch := omega) only [q_25_0, q_25_1, q_25_2, q_25_3, q_25_7, q_25_9, q_25_12, q_25_13, q_25_15, q_25_18, q_25_21, q_25_22, q_25_23, q_25_26, q_25_27, q_25_28, q_25_30, q_25_31, q_25_32, q_25_33, q_25_36, q_25_39, q_25_40, vinT, iClamp, clr_i, clr_l, clr_r, clr_n, true_and, and_true, or_true, true_or, false_or, or_false, iLe, iLt, iEq, iAdd, iMul, List.cons_append, List.nil_append, List.append_nil, zb0, zb1, if_true, if_false, not_true_eq_false, not_false_eq_true, Bool.false_eq_true, Nat.one_ne_zero, Nat.zero_ne_one, Nat.reduceEqDiff, Nat.reduceAdd, if_pos, if_neg, he, s_isIn, b2_f c]
      rw [ih (i + 1) _ (by omega), mbF1, if_neg c, Nat.zero_add]
theorem s_behind {X : Nat × (Nat → Int32)} {σ : Mem} {Q : List Value → Mem → Prop} {e x s : Nat} {mi : Nat → Nat → Nat} {be : Nat → Nat} {u v : Value} (he : cK e = 3) (hx : x < 7) (hs : s < 128) (h : MB σ e mi be) : Rn X 25 0 [.ref e, .int (nI x), .int (nI s), u, v] [] σ Q ↔ Q [.int (nI (mbh mi x s))] σ := by
  simp only [q_25_0, q_25_1, q_25_2, q_25_3, clr_i, l_behind he hx hs h 7 0 0 rfl, Nat.zero_add, mbh]
/-- what all in a row mind, how many don't bear it -/
def miF (mi : Nat → Nat → Nat) (f : Nat → Nat) (i : Nat) : Nat → Nat → Nat
  | 0, _ => 0
  | n + 1, b => mbh mi (f i) b + miF mi f (i + 1) n (b ||| 2 ^ f i)
def ubF (mi : Nat → Nat → Nat) (be : Nat → Nat) (f : Nat → Nat) (i : Nat) : Nat → Nat → Nat
  | 0, _ => 0
  | n + 1, b => (if be (f i) < mbh mi (f i) b then 1 else 0) + ubF mi be f (i + 1) n (b ||| 2 ^ f i)
theorem l_mindedIn {X : Nat × (Nat → Int32)} {σ : Mem} {Q : List Value → Mem → Prop} {e r : Nat} {l : List Nat} {mi : Nat → Nat → Nat} {be : Nat → Nat} (he : cK e = 3) (hr : cK r = 5) (h : MB σ e mi be) (hR : RI σ r l) : ∀ n i a b (v : Value), i + n = l.length → b < 128 → (Rn X 26 7 [.ref e, .ref r, .int (nI a), .int (nI b), .int (nI i), v] [] σ Q ↔ Q [.int (nI (a + miF mi (fun j => l.getD j 0) i n b))] σ) := by
  obtain ⟨f1, f2⟩ := F5 hr
  obtain ⟨h1, h2, h3⟩ := hR
  intro n
  induction n with
  | zero =>
    intro i a b v hi hb
    rw [q_26_7]
    simp (disch := omega) only [q_26_0, q_26_1, q_26_2, q_26_3, q_26_4, q_26_5, q_26_9, q_26_10, q_26_13, q_26_16, q_26_17, q_26_20, q_26_22, q_26_23, q_26_25, q_26_26, q_26_27, q_26_29, q_26_30, q_26_33, q_26_34, q_26_35, q_26_36, q_26_37, q_26_39, q_26_40, q_26_41, q_26_42, q_26_45, q_26_48, q_26_49, vinT, iClamp, clr_i, clr_l, clr_r, clr_n, true_and, and_true, or_true, true_or, false_or, or_false, iLe, iLt, iEq, iAdd, iMul, List.cons_append, List.nil_append, List.append_nil, zb0, zb1, if_true, if_false, not_true_eq_false, not_false_eq_true, Bool.false_eq_true, Nat.one_ne_zero, Nat.zero_ne_one, Nat.reduceEqDiff, Nat.reduceAdd, if_pos, if_neg, hr, h2, miF, Nat.add_zero]
  | succ n ih =>
    intro i a b v hi hb
    rw [q_26_7, miF]
    have q1 := (h3 i (by omega)).1
    have q2 := (h3 i (by omega)).2
    generalize l.getD i 0 = x at q1 q2 ⊢
    simp (disch := omega) only [q_26_0, q_26_1, q_26_2, q_26_3, q_26_4, q_26_5, q_26_9, q_26_10, q_26_13, q_26_16, q_26_17, q_26_20, q_26_22, q_26_23, q_26_25, q_26_26, q_26_27, q_26_29, q_26_30, q_26_33, q_26_34, q_26_35, q_26_36, q_26_37, q_26_39, q_26_40, q_26_41, q_26_42, q_26_45, q_26_48, q_26_49, vinT, iClamp, clr_i, clr_l, clr_r, clr_n, true_and, and_true, or_true, true_or, false_or, or_false, iLe, iLt, iEq, iAdd, iMul, List.cons_append, List.nil_append, List.append_nil, zb0, zb1, if_true, if_false, not_true_eq_false, not_false_eq_true, Bool.false_eq_true, Nat.one_ne_zero, Nat.zero_ne_one, Nat.reduceEqDiff, Nat.reduceAdd, if_pos, if_neg, he, hr, h2, f1, f2, q1, s_behind he q2 hb h, one_shl, fa_or]
    rw [ih (i + 1) _ _ _ (by omega) (or_lt b hb x q2), Nat.add_assoc]
theorem s_mindedIn {X : Nat × (Nat → Int32)} {σ : Mem} {Q : List Value → Mem → Prop} {e r : Nat} {l : List Nat} {mi : Nat → Nat → Nat} {be : Nat → Nat} {u1 u2 u3 u4 : Value} (he : cK e = 3) (hr : cK r = 5) (h : MB σ e mi be) (hR : RI σ r l) : Rn X 26 0 [.ref e, .ref r, u1, u2, u3, u4] [] σ Q ↔ Q [.int (nI (miF mi (fun j => l.getD j 0) 0 l.length 0))] σ := by
  simp only [q_26_0, q_26_1, q_26_2, q_26_3, q_26_4, q_26_5, clr_i, clr_r, l_mindedIn he hr h hR l.length 0 0 0 u4 (by omega) (by omega), Nat.zero_add]
theorem l_unborne {X : Nat × (Nat → Int32)} {σ : Mem} {Q : List Value → Mem → Prop} {e r : Nat} {l : List Nat} {mi : Nat → Nat → Nat} {be : Nat → Nat} (he : cK e = 3) (hr : cK r = 5) (h : MB σ e mi be) (hR : RI σ r l) : ∀ n i a b (v : Value), i + n = l.length → b < 128 → (Rn X 27 7 [.ref e, .ref r, .int (nI a), .int (nI b), .int (nI i), v] [] σ Q ↔ Q [.int (nI (a + ubF mi be (fun j => l.getD j 0) i n b))] σ) := by
  obtain ⟨f1, f2⟩ := F5 hr
  obtain ⟨g1, g2, g3, g4, g5, g6, g7, g8, g9⟩ := Fa3 he
  obtain ⟨h1, h2, h3⟩ := hR
  intro n
  induction n with
  | zero =>
    intro i a b v hi hb
    rw [q_27_7]
    simp (disch := omega) only [q_27_0, q_27_1, q_27_2, q_27_3, q_27_4, q_27_5, q_27_9, q_27_10, q_27_13, q_27_16, q_27_17, q_27_20, q_27_22, q_27_23, q_27_25, q_27_26, q_27_28, q_27_29, q_27_32, q_27_33, q_27_36, q_27_38, q_27_39, q_27_42, q_27_45, q_27_46, q_27_47, q_27_49, q_27_50, q_27_51, q_27_52, q_27_55, q_27_58, q_27_59, vinT, iClamp, clr_i, clr_l, clr_r, clr_n, true_and, and_true, or_true, true_or, false_or, or_false, iLe, iLt, iEq, iAdd, iMul, List.cons_append, List.nil_append, List.append_nil, zb0, zb1, if_true, if_false, not_true_eq_false, not_false_eq_true, Bool.false_eq_true, Nat.one_ne_zero, Nat.zero_ne_one, Nat.reduceEqDiff, Nat.reduceAdd, if_pos, if_neg, hr, h2, ubF, Nat.add_zero]
  | succ n ih =>
    intro i a b v hi hb
    rw [q_27_7, ubF]
    have q1 := (h3 i (by omega)).1
    have q2 := (h3 i (by omega)).2
    generalize l.getD i 0 = x at q1 q2 ⊢
    obtain ⟨q3, q4⟩ := h.2 x q2
    have q5 := mbh_le (s := b) (fun y hy => (h.1 x q2 y hy).2)
    simp (disch := omega) only [q_27_0, q_27_1, q_27_2, q_27_3, q_27_4, q_27_5, q_27_9, q_27_10, q_27_13, q_27_16, q_27_17, q_27_20, q_27_22, q_27_23, q_27_25, q_27_26, q_27_28, q_27_29, q_27_32, q_27_33, q_27_36, q_27_38, q_27_39, q_27_42, q_27_45, q_27_46, q_27_47, q_27_49, q_27_50, q_27_51, q_27_52, q_27_55, q_27_58, q_27_59, vinT, iClamp, clr_i, clr_l, clr_r, clr_n, true_and, and_true, or_true, true_or, false_or, or_false, iLe, iLt, iEq, iAdd, iMul, List.cons_append, List.nil_append, List.append_nil, zb0, zb1, if_true, if_false, not_true_eq_false, not_false_eq_true, Bool.false_eq_true, Nat.one_ne_zero, Nat.zero_ne_one, Nat.reduceEqDiff, Nat.reduceAdd, if_pos, if_neg, he, hr, h2, f1, f2, g3, g4, q1, q3, s_behind he q2 hb h, one_shl, fa_or]
    by_cases c : be x < mbh mi x b
    · rw [if_neg (by omega), if_pos c, ih (i + 1) _ _ _ (by omega) (or_lt b hb x q2), Nat.add_assoc]
    · rw [if_pos (by omega), if_neg c, ih (i + 1) _ _ _ (by omega) (or_lt b hb x q2), Nat.zero_add]
theorem s_unborne {X : Nat × (Nat → Int32)} {σ : Mem} {Q : List Value → Mem → Prop} {e r : Nat} {l : List Nat} {mi : Nat → Nat → Nat} {be : Nat → Nat} {u1 u2 u3 u4 : Value} (he : cK e = 3) (hr : cK r = 5) (h : MB σ e mi be) (hR : RI σ r l) : Rn X 27 0 [.ref e, .ref r, u1, u2, u3, u4] [] σ Q ↔ Q [.int (nI (ubF mi be (fun j => l.getD j 0) 0 l.length 0))] σ := by
  simp only [q_27_0, q_27_1, q_27_2, q_27_3, q_27_4, q_27_5, clr_i, clr_r, l_unborne he hr h hR l.length 0 0 0 u4 (by omega) (by omega), Nat.zero_add]
/-- if x comes next: the least from there on, by st behind it -/
def mFr (mi : Nat → Nat → Nat) (be : Nat → Nat) (st : Nat → Nat) (b x : Nat) : Nat := if be x < mbh mi x b then 1000 else mbh mi x b + st (b ||| 2 ^ x)
abbrev lft (s b x : Nat) : Prop := bitN s x ∧ ¬ bitN b x
def lbF (mi : Nat → Nat → Nat) (be : Nat → Nat) (st : Nat → Nat) (s b : Nat) (i : Nat) : Nat → Nat → Nat
  | 0, a => a
  | n + 1, a => lbF mi be st s b (i + 1) n (if lft s b i then min a (mFr mi be st b i) else a)
def op (mi : Nat → Nat → Nat) (be : Nat → Nat) (s : Nat) : Nat → Nat → Nat
  | 0, _ => 0
  | n + 1, b => if b = s then 0 else lbF mi be (op mi be s n) s b 0 7 1000
theorem lbF_le (mi : Nat → Nat → Nat) (be : Nat → Nat) (st : Nat → Nat) (s b : Nat) : ∀ n i a, lbF mi be st s b i n a ≤ a
  | 0, i, a => Nat.le_refl _
  | n + 1, i, a => by
    rw [lbF]
    refine Nat.le_trans (lbF_le mi be st s b n (i + 1) _) ?_
    split
    · exact Nat.min_le_left _ _
    · exact Nat.le_refl _
theorem lbF_congr {mi : Nat → Nat → Nat} {be : Nat → Nat} {st st' : Nat → Nat} {s b : Nat} (h : ∀ x, x < 7 → lft s b x → st (b ||| 2 ^ x) = st' (b ||| 2 ^ x)) : ∀ n i a, i + n ≤ 7 → lbF mi be st s b i n a = lbF mi be st' s b i n a
  | 0, i, a, _ => rfl
  | n + 1, i, a, hi => by
    rw [lbF, lbF, lbF_congr h n (i + 1) _ (by omega)]
    by_cases c : lft s b i
    · rw [if_pos c, if_pos c, mFr, mFr, h i (by omega) c]
    · rw [if_neg c, if_neg c]
def rem (s b : Nat) : Nat := smF (fun x => if lft s b x then 1 else 0) 0 7
theorem smF_lt {f g : Nat → Nat} : ∀ n i x, i ≤ x → x < i + n → f x < g x → (∀ j, f j ≤ g j) → smF f i n < smF g i n
  | 0, i, x, h1, h2, _, _ => absurd h2 (by omega)
  | n + 1, i, x, h1, h2, h3, h4 => by
    rw [smF, smF]
    by_cases e : x = i
    · subst e
      have : smF f (x + 1) n ≤ smF g (x + 1) n := by
        clear h1 h2 h3
        generalize x + 1 = y
        induction n generalizing y with
        | zero => simp [smF]
        | succ n ih => rw [smF, smF]; exact Nat.add_le_add (h4 y) (ih (y + 1))
      omega
    · have := smF_lt (f := f) (g := g) n (i + 1) x (by omega) (by omega) h3 h4
      have := h4 i
      omega
theorem rem_or {s b x : Nat} (hb : b < 128) (hx : x < 7) (h : lft s b x) : rem s (b ||| 2 ^ x) < rem s b := by
  have key : ∀ j, j < 7 → (lft s (b ||| 2 ^ x) j → lft s b j) := fun j hj q => ⟨q.1, fun r => q.2 ((bit_or b hb x hx j hj).mpr (Or.inl r))⟩
  have h7 : ∀ f g : Nat → Nat, (∀ j, j < 7 → f j ≤ g j) → f x < g x → smF f 0 7 < smF g 0 7 := by
    intro f g h1 h2
    have e : ∀ f : Nat → Nat, smF f 0 7 = smF (fun j => if j < 7 then f j else 0) 0 7 := fun f => by simp [smF]
    rw [e f, e g]
    refine smF_lt 7 0 x (by omega) (by omega) (by simp [hx, h2]) (fun j => ?_)
    by_cases c : j < 7
    · simp [c, h1 j c]
    · simp [c]
  refine h7 _ _ (fun j hj => ?_) ?_
  · by_cases c : lft s (b ||| 2 ^ x) j
    · simp only [if_pos c, if_pos (key j hj c)]; omega
    · simp only [if_neg c]; omega
  · have n1 : ¬ lft s (b ||| 2 ^ x) x := fun q => q.2 ((bit_or b hb x hx x hx).mpr (Or.inr rfl))
    simp only [if_neg n1, if_pos h]
    omega
theorem op_stable {mi : Nat → Nat → Nat} {be : Nat → Nat} {s : Nat} (hs : s < 128) : ∀ n b, b < 128 → Sub b s → rem s b ≤ n → op mi be s (n + 1) b = op mi be s n b
  | 0, b, hb, hsub, h => by
    have e : b = s := by
      apply bit_ext b hb s hs
      intro x hx
      refine ⟨hsub x hx, fun q => Decidable.byContradiction fun r => ?_⟩
      have := smF_part (f := fun x => if lft s b x then 1 else 0) 7 0 x (by omega) (by omega)
      simp only [if_pos (show lft s b x from ⟨q, r⟩)] at this
      unfold rem at h
      omega
    subst e
    simp [op]
  | n + 1, b, hb, hsub, h => by
    rw [op, op]
    by_cases e : b = s
    · rw [if_pos e, if_pos e]
    · rw [if_neg e, if_neg e]
      refine lbF_congr (fun x hx hl => ?_) 7 0 1000 (by omega)
      have hlt := or_lt b hb x hx
      have hr := rem_or hb hx hl
      refine op_stable hs n _ hlt (fun y hy q => ?_) (by omega)
      rcases (bit_or b hb x hx y hy).mp q with q | q
      · exact hsub y hy q
      · rw [q]; exact hl.1
theorem rem_le (s b : Nat) : rem s b ≤ 7 := smF_le (f := fun x => if lft s b x then 1 else 0) (c := 1) 7 0 (fun j _ _ => by
  by_cases c : lft s b j
  · simp only [if_pos c]; omega
  · simp only [if_neg c]; omega)
theorem op7 {mi : Nat → Nat → Nat} {be : Nat → Nat} {s b : Nat} (hs : s < 128) (hb : b < 128) (hsub : Sub b s) (h : b ≠ s) : op mi be s 7 b = lbF mi be (op mi be s 7) s b 0 7 1000 := by
  rw [← op_stable hs 7 b hb hsub (rem_le s b), op, if_neg h]
theorem op_le (mi : Nat → Nat → Nat) (be : Nat → Nat) (s n b : Nat) : op mi be s n b ≤ 1000 := by
  cases n with
  | zero => simp [op]
  | succ n =>
    rw [op]
    split
    · omega
    · exact lbF_le _ _ _ _ _ _ _ _
/-- still minded: of all sets from b on -/
def SM (σ : Mem) (e : Nat) (mi : Nat → Nat → Nat) (be : Nat → Nat) (s b : Nat) : Prop := ∀ c, b ≤ c → c < 128 → Sub c s → σ.1 (e + 12) c = nI (op mi be s 7 c)
theorem s_from {X : Nat × (Nat → Int32)} {σ : Mem} {Q : List Value → Mem → Prop} {e x s b : Nat} {mi : Nat → Nat → Nat} {be : Nat → Nat} {v : Value} (he : cK e = 3) (hx : x < 7) (hs : s < 128) (hb : b < 128) (h : MB σ e mi be) (hsub : Sub b s) (hl : lft s b x) (hS : SM σ e mi be s (b + 1)) : Rn X 30 0 [.ref e, .int (nI x), .int (nI b), v] [] σ Q ↔ Q [.int (nI (mFr mi be (op mi be s 7) b x))] σ := by
  obtain ⟨g1, g2, g3, g4, g5, g6, g7, g8, g9⟩ := Fa3 he
  obtain ⟨q3, q4⟩ := h.2 x hx
  have q5 := mbh_le (s := b) (fun y hy => (h.1 x hx y hy).2)
  have hlt := or_lt b hb x hx
  have hgt := or_gt b hb x hx hl.2
  have hsm := hS (b ||| 2 ^ x) (by omega) hlt (fun y hy q => by
    rcases (bit_or b hb x hx y hy).mp q with q | q
    · exact hsub y hy q
    · rw [q]; exact hl.1)
  by_cases c : be x < mbh mi x b
  · simp (disch := omega) only [q_30_0, q_30_1, q_30_2, q_30_3, q_30_6, q_30_7, q_30_8, q_30_9, q_30_12, q_30_13, q_30_14, q_30_17, q_30_20, q_30_23, q_30_24, q_30_25, q_30_28, q_30_29, q_30_30, q_30_31, q_30_32, q_30_33, q_30_34, q_30_35, vinT, iClamp, clr_i, clr_l, clr_r, clr_n, true_and, and_true, or_true, true_or, false_or, or_false, iLe, iLt, iEq, iAdd, iMul, List.cons_append, List.nil_append, List.append_nil, zb0, zb1, if_true, if_false, not_true_eq_false, not_false_eq_true, Bool.false_eq_true, Nat.one_ne_zero, Nat.zero_ne_one, Nat.reduceEqDiff, Nat.reduceAdd, if_pos, if_neg, he, g3, g4, q3, s_behind he hx hb h, mFr, if_pos c]
  · simp (disch := omega) only [q_30_0, q_30_1, q_30_2, q_30_3, q_30_6, q_30_7, q_30_8, q_30_9, q_30_12, q_30_13, q_30_14, q_30_17, q_30_20, q_30_23, q_30_24, q_30_25, q_30_28, q_30_29, q_30_30, q_30_31, q_30_32, q_30_33, q_30_34, q_30_35, vinT, iClamp, clr_i, clr_l, clr_r, clr_n, true_and, and_true, or_true, true_or, false_or, or_false, iLe, iLt, iEq, iAdd, iMul, List.cons_append, List.nil_append, List.append_nil, zb0, zb1, if_true, if_false, not_true_eq_false, not_false_eq_true, Bool.false_eq_true, Nat.one_ne_zero, Nat.zero_ne_one, Nat.reduceEqDiff, Nat.reduceAdd, if_pos, if_neg, he, g3, g4, g6, g7, q3, s_behind he hx hb h, mFr, if_neg c, one_shl, fa_or, hsm]
theorem mFr_le {mi : Nat → Nat → Nat} {be : Nat → Nat} {s b x n : Nat} (h : ∀ y, y < 7 → mi x y ≤ 9) : mFr mi be (op mi be s n) b x ≤ 1063 := by
  unfold mFr
  have h1 := mbh_le (s := b) h
  have h2 := op_le mi be s n (b ||| 2 ^ x)
  split <;> omega
theorem l_least {X : Nat × (Nat → Int32)} {σ : Mem} {Q : List Value → Mem → Prop} {e s b : Nat} {mi : Nat → Nat → Nat} {be : Nat → Nat} (he : cK e = 3) (hs : s < 128) (hb : b < 128) (h : MB σ e mi be) (hsub : Sub b s) (hS : SM σ e mi be s (b + 1)) : ∀ n i a, i + n = 7 → a ≤ 1000 → (Rn X 29 7 [.ref e, .int (nI b), .int (nI s), .int (nI a), .int (nI i)] [] σ Q ↔ Q [.int (nI (lbF mi be (op mi be s 7) s b i n a))] σ) := by
  intro n
  induction n with
  | zero =>
    intro i a hi ha
    have e : i = 7 := by omega
    subst e
    rw [q_29_7]
    simp (disch := omega) only [q_29_0, q_29_3, q_29_4, q_29_5, q_29_9, q_29_11, q_29_14, q_29_15, q_29_17, q_29_20, q_29_23, q_29_24, q_29_26, q_29_29, q_29_32, q_29_33, q_29_34, q_29_36, q_29_37, q_29_40, q_29_43, q_29_44, q_29_47, q_29_50, q_29_51, vinT, iClamp, clr_i, clr_l, clr_r, clr_n, true_and, and_true, or_true, true_or, false_or, or_false, iLe, iLt, iEq, iAdd, iMul, List.cons_append, List.nil_append, List.append_nil, zb0, zb1, if_true, if_false, not_true_eq_false, not_false_eq_true, Bool.false_eq_true, Nat.one_ne_zero, Nat.zero_ne_one, Nat.reduceEqDiff, Nat.reduceAdd, if_pos, if_neg, lbF]
  | succ n ih =>
    intro i a hi ha
    rw [q_29_7]
    by_cases c1 : bitN s i
    · by_cases c2 : bitN b i
      · simp (disch := omega) only [q_29_0, q_29_3, q_29_4, q_29_5, q_29_9, q_29_11, q_29_14, q_29_15, q_29_17, q_29_20, q_29_23, q_29_24, q_29_26, q_29_29, q_29_32, q_29_33, q_29_34, q_29_36, q_29_37, q_29_40, q_29_43, q_29_44, q_29_47, q_29_50, q_29_51, vinT, iClamp, clr_i, clr_l, clr_r, clr_n, true_and, and_true, or_true, true_or, false_or, or_false, iLe, iLt, iEq, iAdd, iMul, List.cons_append, List.nil_append, List.append_nil, zb0, zb1, if_true, if_false, not_true_eq_false, not_false_eq_true, Bool.false_eq_true, Nat.one_ne_zero, Nat.zero_ne_one, Nat.reduceEqDiff, Nat.reduceAdd, if_pos, if_neg, he, s_isIn, b2_t c1, b2_t c2]
        rw [ih (i + 1) a (by omega) ha, lbF, if_neg (fun q : lft s b i => q.2 c2)]
      · have hm := mFr_le (be := be) (s := s) (b := b) (n := 7) (fun y hy => (h.1 i (by omega) y hy).2)
        have hmn : (if mFr mi be (op mi be s 7) b i < a then nI (mFr mi be (op mi be s 7) b i) else nI a) = nI (min a (mFr mi be (op mi be s 7) b i)) := by
          by_cases q : mFr mi be (op mi be s 7) b i < a
          · rw [if_pos q, Nat.min_eq_right (by omega)]
          · rw [if_neg q, Nat.min_eq_left (by omega)]
        simp (disch := omega) only [q_29_0, q_29_3, q_29_4, q_29_5, q_29_9, q_29_11, q_29_14, q_29_15, q_29_17, q_29_20, q_29_23, q_29_24, q_29_26, q_29_29, q_29_32, q_29_33, q_29_34, q_29_36, q_29_37, q_29_40, q_29_43, q_29_44, q_29_47, q_29_50, q_29_51, vinT, iClamp, clr_i, clr_l, clr_r, clr_n, true_and, and_true, or_true, true_or, false_or, or_false, iLe, iLt, iEq, iAdd, iMul, List.cons_append, List.nil_append, List.append_nil, zb0, zb1, if_true, if_false, not_true_eq_false, not_false_eq_true, Bool.false_eq_true, Nat.one_ne_zero, Nat.zero_ne_one, Nat.reduceEqDiff, Nat.reduceAdd, if_pos, if_neg, he, s_isIn, b2_t c1, b2_f c2, s_from he (show i < 7 by omega) hs hb h hsub ⟨c1, c2⟩ hS, s_min, hmn]
        rw [ih (i + 1) _ (by omega) (by have := Nat.min_le_left a (mFr mi be (op mi be s 7) b i); omega), lbF, if_pos (show lft s b i from ⟨c1, c2⟩)]
    · simp (disch := omega) only [q_29_0, q_29_3, q_29_4, q_29_5, q_29_9, q_29_11, q_29_14, q_29_15, q_29_17, q_29_20, q_29_23, q_29_24, q_29_26, q_29_29, q_29_32, q_29_33, q_29_34, q_29_36, q_29_37, q_29_40, q_29_43, q_29_44, q_29_47, q_29_50, q_29_51, vinT, iClamp, clr_i, clr_l, clr_r, clr_n, true_and, and_true, or_true, true_or, false_or, or_false, iLe, iLt, iEq, iAdd, iMul, List.cons_append, List.nil_append, List.append_nil, zb0, zb1, if_true, if_false, not_true_eq_false, not_false_eq_true, Bool.false_eq_true, Nat.one_ne_zero, Nat.zero_ne_one, Nat.reduceEqDiff, Nat.reduceAdd, if_pos, if_neg, he, s_isIn, b2_f c1]
      rw [ih (i + 1) a (by omega) ha, lbF, if_neg (fun q : lft s b i => c1 q.1)]
theorem s_least {X : Nat × (Nat → Int32)} {σ : Mem} {Q : List Value → Mem → Prop} {e s b : Nat} {mi : Nat → Nat → Nat} {be : Nat → Nat} {u v : Value} (he : cK e = 3) (hs : s < 128) (hb : b < 128) (h : MB σ e mi be) (hsub : Sub b s) (hne : b ≠ s) (hS : SM σ e mi be s (b + 1)) : Rn X 29 0 [.ref e, .int (nI b), .int (nI s), u, v] [] σ Q ↔ Q [.int (nI (op mi be s 7 b))] σ := by
  simp only [q_29_0, q_29_3, q_29_4, q_29_5, clr_i, l_least he hs hb h hsub hS 7 0 1000 rfl (by omega), op7 hs hb hsub hne]
theorem l_peace0 {X : Nat × (Nat → Int32)} {e s : Nat} {mi : Nat → Nat → Nat} {be : Nat → Nat} (he : cK e = 3) (hs : s < 128) : ∀ n (σ : Mem), n ≤ s + 1 → MB σ e mi be → SM σ e mi be s n → ∃ σ', (∀ Q, Rn X 28 11 [.ref e, .int (nI s), .int (nI n + (-1))] [] σ Q ↔ Rn X 28 50 [.ref e, .int (nI s), .int (nI 0 + (-1))] [] σ' Q) ∧ SM σ' e mi be s 0 ∧ Off [e + 12] σ σ' := by
  obtain ⟨g1, g2, g3, g4, g5, g6, g7, g8, g9⟩ := Fa3 he
  intro n
  induction n with
  | zero =>
    intro σ hn h hS
    refine ⟨σ, fun Q => ?_, hS, Off.rf _ _⟩
    rw [q_28_11]
    simp (disch := omega) only [q_28_12, q_28_15, q_28_16, q_28_17, q_28_18, q_28_19, q_28_20, q_28_23, q_28_24, q_28_27, q_28_28, q_28_29, q_28_30, q_28_33, q_28_34, q_28_37, q_28_38, q_28_39, q_28_40, q_28_43, q_28_44, q_28_47, vinT, iClamp, clr_i, clr_l, clr_r, clr_n, true_and, and_true, or_true, true_or, false_or, or_false, iLe, iLt, iEq, iAdd, iMul, List.cons_append, List.nil_append, List.append_nil, zb0, zb1, if_true, if_false, not_true_eq_false, not_false_eq_true, Bool.false_eq_true, Nat.one_ne_zero, Nat.zero_ne_one, Nat.reduceEqDiff, Nat.reduceAdd, if_pos, if_neg, neg1_lt]
  | succ n ih =>
    intro σ hn h hS
    by_cases c : Sub n s
    · have ho : Off [e + 12] σ (sI σ (e + 12) n (nI (op mi be s 7 n))) := (Off.rf _ σ).sI (by simp) _ _
      obtain ⟨σ', i1, i2, i3⟩ := ih (sI σ (e + 12) n (nI (op mi be s 7 n))) (by omega) (MB_off h ho (fun a h1 h2 => by simp; omega)) (fun q h1 h2 h3 => by
        by_cases e1 : q = n
        · subst e1; rw [sI_at]
        · rw [sI_off (by omega)]; exact hS q (by omega) h2 h3)
      refine ⟨σ', fun Q => ?_, i2, ho.tr i3⟩
      rw [q_28_11, pk_m1]
      have hz := (sub_and n (by omega) s hs).mpr c
      by_cases c2 : n = s
      · have e0 : op mi be s 7 n = 0 := by rw [c2]; simp [op]
        rw [e0] at i1
        subst c2
        simp (disch := omega) only [q_28_12, q_28_15, q_28_16, q_28_17, q_28_18, q_28_19, q_28_20, q_28_23, q_28_24, q_28_27, q_28_28, q_28_29, q_28_30, q_28_33, q_28_34, q_28_37, q_28_38, q_28_39, q_28_40, q_28_43, q_28_44, q_28_47, vinT, iClamp, clr_i, clr_l, clr_r, clr_n, true_and, and_true, or_true, true_or, false_or, or_false, iLe, iLt, iEq, iAdd, iMul, List.cons_append, List.nil_append, List.append_nil, zb0, zb1, if_true, if_false, not_true_eq_false, not_false_eq_true, Bool.false_eq_true, Nat.one_ne_zero, Nat.zero_ne_one, Nat.reduceEqDiff, Nat.reduceAdd, if_pos, if_neg, he, g6, g7, hz]
        exact i1 Q
      · simp (disch := omega) only [q_28_12, q_28_15, q_28_16, q_28_17, q_28_18, q_28_19, q_28_20, q_28_23, q_28_24, q_28_27, q_28_28, q_28_29, q_28_30, q_28_33, q_28_34, q_28_37, q_28_38, q_28_39, q_28_40, q_28_43, q_28_44, q_28_47, vinT, iClamp, clr_i, clr_l, clr_r, clr_n, true_and, and_true, or_true, true_or, false_or, or_false, iLe, iLt, iEq, iAdd, iMul, List.cons_append, List.nil_append, List.append_nil, zb0, zb1, if_true, if_false, not_true_eq_false, not_false_eq_true, Bool.false_eq_true, Nat.one_ne_zero, Nat.zero_ne_one, Nat.reduceEqDiff, Nat.reduceAdd, if_pos, if_neg, he, g6, g7, hz, s_least he hs (show n < 128 by omega) h c c2 hS]
        exact i1 Q
    · obtain ⟨σ', i1, i2, i3⟩ := ih σ (by omega) h (fun q h1 h2 h3 => by
        by_cases e1 : q = n
        · rw [e1] at h3; exact absurd h3 c
        · exact hS q (by omega) h2 h3)
      refine ⟨σ', fun Q => ?_, i2, i3⟩
      rw [q_28_11, pk_m1]
      have hz : ¬ nI n &&& (nI s ^^^ (-1)) = nI 0 := fun q => c ((sub_and n (by omega) s hs).mp q)
      simp (disch := omega) only [q_28_12, q_28_15, q_28_16, q_28_17, q_28_18, q_28_19, q_28_20, q_28_23, q_28_24, q_28_27, q_28_28, q_28_29, q_28_30, q_28_33, q_28_34, q_28_37, q_28_38, q_28_39, q_28_40, q_28_43, q_28_44, q_28_47, vinT, iClamp, clr_i, clr_l, clr_r, clr_n, true_and, and_true, or_true, true_or, false_or, or_false, iLe, iLt, iEq, iAdd, iMul, List.cons_append, List.nil_append, List.append_nil, zb0, zb1, if_true, if_false, not_true_eq_false, not_false_eq_true, Bool.false_eq_true, Nat.one_ne_zero, Nat.zero_ne_one, Nat.reduceEqDiff, Nat.reduceAdd, if_pos, if_neg, he, hz]
      exact i1 Q
/-- the first who leads to the least -/
def foF (mi : Nat → Nat → Nat) (be : Nat → Nat) (s b i : Nat) : Nat → Option Nat
  | 0 => none
  | n + 1 => if lft s b i ∧ mFr mi be (op mi be s 7) b i = op mi be s 7 b then some i else foF mi be s b (i + 1) n
def oI (o : Option Nat) : Int32 := match o with
  | some x => nI x
  | none => -9
theorem foF_lt {mi : Nat → Nat → Nat} {be : Nat → Nat} {s b : Nat} : ∀ n i x, foF mi be s b i n = some x → i ≤ x ∧ x < i + n ∧ lft s b x ∧ mFr mi be (op mi be s 7) b x = op mi be s 7 b
  | 0, i, x, h => by cases h
  | n + 1, i, x, h => by
    rw [foF] at h
    by_cases c : lft s b i ∧ mFr mi be (op mi be s 7) b i = op mi be s 7 b
    · rw [if_pos c] at h
      cases h
      exact ⟨by omega, by omega, c.1, c.2⟩
    · rw [if_neg c] at h
      obtain ⟨h1, h2, h3⟩ := foF_lt n (i + 1) x h
      exact ⟨by omega, by omega, h3⟩
theorem l_first {X : Nat × (Nat → Int32)} {σ : Mem} {Q : List Value → Mem → Prop} {e s b : Nat} {mi : Nat → Nat → Nat} {be : Nat → Nat} (he : cK e = 3) (hs : s < 128) (hb : b < 128) (h : MB σ e mi be) (hsub : Sub b s) (hS : SM σ e mi be s 0) : ∀ n i (v : Value), i + n = 7 → (Rn X 32 2 [.ref e, .int (nI b), .int (nI s), .int (nI i), v] [] σ Q ↔ Q [.int (oI (foF mi be s b i n))] σ) := by
  obtain ⟨g1, g2, g3, g4, g5, g6, g7, g8, g9⟩ := Fa3 he
  have q0 := hS b (by omega) hb hsub
  have q9 := op_le mi be s 7 b
  intro n
  induction n with
  | zero =>
    intro i v hi
    have e : i = 7 := by omega
    subst e
    rw [q_32_2]
    simp (disch := omega) only [q_32_0, q_32_1, q_32_3, q_32_5, q_32_8, q_32_9, q_32_10, q_32_13, q_32_16, q_32_17, q_32_18, q_32_21, q_32_24, q_32_25, q_32_28, q_32_29, q_32_31, q_32_33, q_32_36, q_32_37, q_32_38, q_32_39, q_32_42, q_32_43, q_32_46, q_32_47, q_32_48, q_32_51, q_32_52, q_32_53, q_32_56, q_32_59, q_32_61, vinT, iClamp, clr_i, clr_l, clr_r, clr_n, true_and, and_true, or_true, true_or, false_or, or_false, iLe, iLt, iEq, iAdd, iMul, List.cons_append, List.nil_append, List.append_nil, zb0, zb1, if_true, if_false, not_true_eq_false, not_false_eq_true, Bool.false_eq_true, Nat.one_ne_zero, Nat.zero_ne_one, Nat.reduceEqDiff, Nat.reduceAdd, if_pos, if_neg, foF, oI]
  | succ n ih =>
    intro i v hi
    rw [q_32_2]
    by_cases c1 : bitN s i
    · by_cases c2 : bitN b i
      · simp (disch := omega) only [q_32_0, q_32_1, q_32_3, q_32_5, q_32_8, q_32_9, q_32_10, q_32_13, q_32_16, q_32_17, q_32_18, q_32_21, q_32_24, q_32_25, q_32_28, q_32_29, q_32_31, q_32_33, q_32_36, q_32_37, q_32_38, q_32_39, q_32_42, q_32_43, q_32_46, q_32_47, q_32_48, q_32_51, q_32_52, q_32_53, q_32_56, q_32_59, q_32_61, vinT, iClamp, clr_i, clr_l, clr_r, clr_n, true_and, and_true, or_true, true_or, false_or, or_false, iLe, iLt, iEq, iAdd, iMul, List.cons_append, List.nil_append, List.append_nil, zb0, zb1, if_true, if_false, not_true_eq_false, not_false_eq_true, Bool.false_eq_true, Nat.one_ne_zero, Nat.zero_ne_one, Nat.reduceEqDiff, Nat.reduceAdd, if_pos, if_neg, he, s_isIn, b2_t c1, b2_t c2]
        rw [ih (i + 1) _ (by omega), foF, if_neg (fun q : lft s b i ∧ _ => q.1.2 c2)]
      · have hm := mFr_le (be := be) (s := s) (b := b) (n := 7) (fun y hy => (h.1 i (by omega) y hy).2)
        simp (disch := omega) only [q_32_0, q_32_1, q_32_3, q_32_5, q_32_8, q_32_9, q_32_10, q_32_13, q_32_16, q_32_17, q_32_18, q_32_21, q_32_24, q_32_25, q_32_28, q_32_29, q_32_31, q_32_33, q_32_36, q_32_37, q_32_38, q_32_39, q_32_42, q_32_43, q_32_46, q_32_47, q_32_48, q_32_51, q_32_52, q_32_53, q_32_56, q_32_59, q_32_61, vinT, iClamp, clr_i, clr_l, clr_r, clr_n, true_and, and_true, or_true, true_or, false_or, or_false, iLe, iLt, iEq, iAdd, iMul, List.cons_append, List.nil_append, List.append_nil, zb0, zb1, if_true, if_false, not_true_eq_false, not_false_eq_true, Bool.false_eq_true, Nat.one_ne_zero, Nat.zero_ne_one, Nat.reduceEqDiff, Nat.reduceAdd, if_pos, if_neg, he, g6, g7, s_isIn, b2_t c1, b2_f c2, s_from he (show i < 7 by omega) hs hb h hsub ⟨c1, c2⟩ (fun c h1 h2 h3 => hS c (by omega) h2 h3), q0]
        by_cases c3 : mFr mi be (op mi be s 7) b i = op mi be s 7 b
        · rw [if_pos c3, foF, if_pos (show lft s b i ∧ _ from ⟨⟨c1, c2⟩, c3⟩), oI]
        · rw [if_neg c3, ih (i + 1) _ (by omega), foF, if_neg (fun q : lft s b i ∧ _ => c3 q.2)]
    · simp (disch := omega) only [q_32_0, q_32_1, q_32_3, q_32_5, q_32_8, q_32_9, q_32_10, q_32_13, q_32_16, q_32_17, q_32_18, q_32_21, q_32_24, q_32_25, q_32_28, q_32_29, q_32_31, q_32_33, q_32_36, q_32_37, q_32_38, q_32_39, q_32_42, q_32_43, q_32_46, q_32_47, q_32_48, q_32_51, q_32_52, q_32_53, q_32_56, q_32_59, q_32_61, vinT, iClamp, clr_i, clr_l, clr_r, clr_n, true_and, and_true, or_true, true_or, false_or, or_false, iLe, iLt, iEq, iAdd, iMul, List.cons_append, List.nil_append, List.append_nil, zb0, zb1, if_true, if_false, not_true_eq_false, not_false_eq_true, Bool.false_eq_true, Nat.one_ne_zero, Nat.zero_ne_one, Nat.reduceEqDiff, Nat.reduceAdd, if_pos, if_neg, he, s_isIn, b2_f c1]
      rw [ih (i + 1) _ (by omega), foF, if_neg (fun q : lft s b i ∧ _ => c1 q.1.1)]
theorem s_first {X : Nat × (Nat → Int32)} {σ : Mem} {Q : List Value → Mem → Prop} {e s b : Nat} {mi : Nat → Nat → Nat} {be : Nat → Nat} {u v : Value} (he : cK e = 3) (hs : s < 128) (hb : b < 128) (h : MB σ e mi be) (hsub : Sub b s) (hS : SM σ e mi be s 0) : Rn X 32 0 [.ref e, .int (nI b), .int (nI s), u, v] [] σ Q ↔ Q [.int (oI (foF mi be s b 0 7))] σ := by
  simp only [q_32_0, q_32_1, clr_i, l_first he hs hb h hsub hS 7 0 v rfl]
/-- the line, one after another -/
def luF (mi : Nat → Nat → Nat) (be : Nat → Nat) (s : Nat) : Nat → Nat → List Nat
  | 0, _ => []
  | n + 1, b => if b = s then [] else match foF mi be s b 0 7 with
    | some x => x :: luF mi be s n (b ||| 2 ^ x)
    | none => []
theorem l_line {X : Nat × (Nat → Int32)} {e s : Nat} {mi : Nat → Nat → Nat} {be : Nat → Nat} (he : cK e = 3) (hs : s < 128) : ∀ n i b (l : List Nat) (σ : Mem) (v : Value), i + n = 7 → b < 128 → Sub b s → l.length = i → MB σ e mi be → SM σ e mi be s 0 → RI σ (e + 10) l → ∃ σ', (∀ Q, Rn X 31 4 [.ref e, .int (nI s), .int (nI b), .int (nI i), v] [] σ Q ↔ Q [] σ') ∧ RI σ' (e + 10) (l ++ luF mi be s n b) ∧ Off [e + 10, e + 11] σ σ' := by
  obtain ⟨g1, g2, g3, g4, g5, g6, g7, g8, g9⟩ := Fa3 he
  intro n
  induction n with
  | zero =>
    intro i b l σ v hi hb hsub hl h hS hR
    have e : i = 7 := by omega
    subst e
    refine ⟨σ, fun Q => ?_, by simpa [luF] using hR, Off.rf _ _⟩
    rw [q_31_4]
    simp (disch := omega) only [q_31_0, q_31_1, q_31_2, q_31_3, q_31_5, q_31_7, q_31_10, q_31_11, q_31_12, q_31_15, q_31_16, q_31_17, q_31_18, q_31_21, q_31_23, q_31_25, q_31_28, q_31_31, q_31_32, q_31_33, q_31_36, q_31_38, q_31_41, q_31_42, q_31_43, q_31_45, q_31_46, q_31_47, q_31_48, q_31_51, q_31_54, vinT, iClamp, clr_i, clr_l, clr_r, clr_n, true_and, and_true, or_true, true_or, false_or, or_false, iLe, iLt, iEq, iAdd, iMul, List.cons_append, List.nil_append, List.append_nil, zb0, zb1, if_true, if_false, not_true_eq_false, not_false_eq_true, Bool.false_eq_true, Nat.one_ne_zero, Nat.zero_ne_one, Nat.reduceEqDiff, Nat.reduceAdd, if_pos, if_neg]
  | succ n ih =>
    intro i b l σ v hi hb hsub hl h hS hR
    by_cases c1 : b = s
    · refine ⟨σ, fun Q => ?_, by simpa [luF, c1] using hR, Off.rf _ _⟩
      rw [q_31_4]
      simp (disch := omega) only [q_31_0, q_31_1, q_31_2, q_31_3, q_31_5, q_31_7, q_31_10, q_31_11, q_31_12, q_31_15, q_31_16, q_31_17, q_31_18, q_31_21, q_31_23, q_31_25, q_31_28, q_31_31, q_31_32, q_31_33, q_31_36, q_31_38, q_31_41, q_31_42, q_31_43, q_31_45, q_31_46, q_31_47, q_31_48, q_31_51, q_31_54, vinT, iClamp, clr_i, clr_l, clr_r, clr_n, true_and, and_true, or_true, true_or, false_or, or_false, iLe, iLt, iEq, iAdd, iMul, List.cons_append, List.nil_append, List.append_nil, zb0, zb1, if_true, if_false, not_true_eq_false, not_false_eq_true, Bool.false_eq_true, Nat.one_ne_zero, Nat.zero_ne_one, Nat.reduceEqDiff, Nat.reduceAdd, if_pos, if_neg]
    · cases c2 : foF mi be s b 0 7 with
      | none =>
        refine ⟨σ, fun Q => ?_, by simpa [luF, c1, c2] using hR, Off.rf _ _⟩
        rw [q_31_4]
        have hn : ¬ inR (-9 : Int32) 7 := fun q => absurd q.1 (by decide)
        simp (disch := omega) only [q_31_0, q_31_1, q_31_2, q_31_3, q_31_5, q_31_7, q_31_10, q_31_11, q_31_12, q_31_15, q_31_16, q_31_17, q_31_18, q_31_21, q_31_23, q_31_25, q_31_28, q_31_31, q_31_32, q_31_33, q_31_36, q_31_38, q_31_41, q_31_42, q_31_43, q_31_45, q_31_46, q_31_47, q_31_48, q_31_51, q_31_54, vinT, iClamp, clr_i, clr_l, clr_r, clr_n, true_and, and_true, or_true, true_or, false_or, or_false, iLe, iLt, iEq, iAdd, iMul, List.cons_append, List.nil_append, List.append_nil, zb0, zb1, if_true, if_false, not_true_eq_false, not_false_eq_true, Bool.false_eq_true, Nat.one_ne_zero, Nat.zero_ne_one, Nat.reduceEqDiff, Nat.reduceAdd, if_pos, if_neg, he, s_first he hs hb h hsub hS, c2, oI, s_isPerson, b2_f hn]
      | some x =>
        obtain ⟨k1, k2, k3, k4⟩ := foF_lt 7 0 x c2
        have hx : x < 7 := by omega
        have hin : inR (nI x) 7 := inR_nI hx (by omega)
        obtain ⟨σ1, e1, e2, e3, e4⟩ := s_append (X := X) g5 hR hx (by omega)
        obtain ⟨σ', i1, i2, i3⟩ := ih (i + 1) (b ||| 2 ^ x) (l ++ [x]) σ1 (.int (nI x)) (by omega) (or_lt b hb x hx) (fun y hy q => by
          rcases (bit_or b hb x hx y hy).mp q with q | q
          · exact hsub y hy q
          · rw [q]; exact k3.1) (by simp [hl]) (MB_off h e3 (fun a h1 h2 => by simp; omega)) (fun q a1 a2 a3 => by rw [(e3 (e + 12) (by simp)).1]; exact hS q a1 a2 a3) e2
        refine ⟨σ', fun Q => ?_, ?_, e3.tr i3⟩
        · rw [q_31_4]
          have e1' := fun Q => e1 Q
          simp (disch := omega) only [q_31_0, q_31_1, q_31_2, q_31_3, q_31_5, q_31_7, q_31_10, q_31_11, q_31_12, q_31_15, q_31_16, q_31_17, q_31_18, q_31_21, q_31_23, q_31_25, q_31_28, q_31_31, q_31_32, q_31_33, q_31_36, q_31_38, q_31_41, q_31_42, q_31_43, q_31_45, q_31_46, q_31_47, q_31_48, q_31_51, q_31_54, vinT, iClamp, clr_i, clr_l, clr_r, clr_n, true_and, and_true, or_true, true_or, false_or, or_false, iLe, iLt, iEq, iAdd, iMul, List.cons_append, List.nil_append, List.append_nil, zb0, zb1, if_true, if_false, not_true_eq_false, not_false_eq_true, Bool.false_eq_true, Nat.one_ne_zero, Nat.zero_ne_one, Nat.reduceEqDiff, Nat.reduceAdd, if_pos, if_neg, he, g5, s_first he hs hb h hsub hS, c2, oI, s_isPerson, b2_t hin, e1', one_shl, fa_or]
          exact i1 Q
        · rw [luF, if_neg c1, c2]
          simpa using i2
theorem s_peace {X : Nat × (Nat → Int32)} {σ : Mem} {e s : Nat} {mi : Nat → Nat → Nat} {be : Nat → Nat} {v : Value} (he : cK e = 3) (hs : s < 128) (h : MB σ e mi be) : ∃ σ', Ev X 28 [.ref e, .int (nI s), v] σ [.int (b2 (op mi be s 7 0 < 1000))] σ' ∧ (op mi be s 7 0 < 1000 → RI σ' (e + 10) (luF mi be s 7 0)) ∧ Off [e + 10, e + 11, e + 12] σ σ' := by
  obtain ⟨g1, g2, g3, g4, g5, g6, g7, g8, g9⟩ := Fa3 he
  have hin : inR (nI s) 128 := inR_nI hs (by omega)
  obtain ⟨σ1, e1, e2, e3⟩ := l_peace0 (X := X) he hs (s + 1) σ (Nat.le_refl _) h (fun c h1 h2 h3 => by
    exact absurd h3 (sub_gt s hs c h2 (by omega)))
  have q0 := e2 0 (by omega) (by omega) (fun x hx q => absurd q (bit_0 x hx))
  have q9 := op_le mi be s 7 0
  have ho : Off [e + 10] σ1 (sI σ1 (e + 10) 1 (nI 0)) := (Off.rf _ _).sI (by simp) _ _
  have h1 := MB_off h (e3.mono (T := [e + 12, e + 10]) (by simp) |>.tr (ho.mono (by simp))) (fun a a1 a2 => by simp; omega)
  have q1 : (sI σ1 (e + 10) 1 (nI 0)).1 (e + 12) 0 = nI (op mi be s 7 0) := by rw [sI_off (by omega)]; exact q0
  by_cases c : op mi be s 7 0 < 1000
  · obtain ⟨σ', i1, i2, i3⟩ := l_line (X := X) (mi := mi) (be := be) he hs 7 0 0 [] (sI σ1 (e + 10) 1 (nI 0)) .null rfl (by omega) (fun x hx q => absurd q (bit_0 x hx)) rfl h1 (fun q a1 a2 a3 => by rw [(ho (e + 12) (by simp)).1]; exact e2 q a1 a2 a3) (RI_nil (sI_at _ _ _ _))
    refine ⟨σ', fun Q => ?_, fun _ => by simpa using i2, ((e3.mono (by simp)).tr (ho.mono (by simp))).tr (i3.mono (by simp))⟩
    simp (disch := omega) only [q_28_0, q_28_1, q_28_4, q_28_7, q_28_8, q_28_9, q_28_10, vinT, iClamp, clr_i, clr_l, clr_r, clr_n, true_and, and_true, or_true, true_or, false_or, or_false, iLe, iLt, iEq, iAdd, iMul, List.cons_append, List.nil_append, List.append_nil, zb0, zb1, if_true, if_false, not_true_eq_false, not_false_eq_true, Bool.false_eq_true, Nat.one_ne_zero, Nat.zero_ne_one, Nat.reduceEqDiff, Nat.reduceAdd, if_pos, if_neg, s_isSet, b2_t hin]
    have e1' := e1 Q
    rw [pk_m1] at e1'
    rw [e1']
    simp (disch := omega) only [q_28_50, q_28_51, q_28_54, q_28_55, q_28_58, q_28_59, q_28_62, q_28_63, q_28_64, q_28_67, q_28_70, q_28_71, q_28_72, q_28_73, q_28_74, q_28_77, q_28_78, q_31_0, q_31_1, q_31_2, q_31_3, vinT, iClamp, clr_i, clr_l, clr_r, clr_n, true_and, and_true, or_true, true_or, false_or, or_false, iLe, iLt, iEq, iAdd, iMul, List.cons_append, List.nil_append, List.append_nil, zb0, zb1, if_true, if_false, not_true_eq_false, not_false_eq_true, Bool.false_eq_true, Nat.one_ne_zero, Nat.zero_ne_one, Nat.reduceEqDiff, Nat.reduceAdd, if_pos, if_neg, he, g5, g6, g7, q1, i1, b2_t c]
  · refine ⟨sI σ1 (e + 10) 1 (nI 0), fun Q => ?_, fun q => absurd q c, (e3.mono (by simp)).tr (ho.mono (by simp))⟩
    simp (disch := omega) only [q_28_0, q_28_1, q_28_4, q_28_7, q_28_8, q_28_9, q_28_10, vinT, iClamp, clr_i, clr_l, clr_r, clr_n, true_and, and_true, or_true, true_or, false_or, or_false, iLe, iLt, iEq, iAdd, iMul, List.cons_append, List.nil_append, List.append_nil, zb0, zb1, if_true, if_false, not_true_eq_false, not_false_eq_true, Bool.false_eq_true, Nat.one_ne_zero, Nat.zero_ne_one, Nat.reduceEqDiff, Nat.reduceAdd, if_pos, if_neg, s_isSet, b2_t hin]
    have e1' := e1 Q
    rw [pk_m1] at e1'
    rw [e1']
    simp (disch := omega) only [q_28_50, q_28_51, q_28_54, q_28_55, q_28_58, q_28_59, q_28_62, q_28_63, q_28_64, q_28_67, q_28_70, q_28_71, q_28_72, q_28_73, q_28_74, q_28_77, q_28_78, vinT, iClamp, clr_i, clr_l, clr_r, clr_n, true_and, and_true, or_true, true_or, false_or, or_false, iLe, iLt, iEq, iAdd, iMul, List.cons_append, List.nil_append, List.append_nil, zb0, zb1, if_true, if_false, not_true_eq_false, not_false_eq_true, Bool.false_eq_true, Nat.one_ne_zero, Nat.zero_ne_one, Nat.reduceEqDiff, Nat.reduceAdd, if_pos, if_neg, he, g5, g6, g7, q1, b2_f c]
