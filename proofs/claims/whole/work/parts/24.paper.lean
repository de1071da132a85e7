/-! ===== Paper: what it is made of ===== -/
def HH (h : Nat → Nat → Nat) (t : Nat) : Nat := smF (h t) 0 7
def dn (w : Nat → Nat) (h : Nat → Nat → Nat) (t : Nat) : Bool := decide (0 < w t) && decide (0 < HH h t)
def prL (w : Nat → Nat) (h : Nat → Nat → Nat) : Nat → Nat
  | 0 => 1
  | n + 1 => if dn w h n = true then prL w h n * HH h n else prL w h n
def wsL (w : Nat → Nat) (h : Nat → Nat → Nat) : Nat → Nat
  | 0 => 0
  | n + 1 => if dn w h n = true then wsL w h n + w n else wsL w h n
def dtL (w : Nat → Nat) (h : Nat → Nat → Nat) : Nat → Nat
  | 0 => 0
  | n + 1 => if dn w h n = true then dtL w h n ||| 2 ^ n else dtL w h n
def whL (w : Nat → Nat) (h : Nat → Nat → Nat) : Nat := if dtL w h 4 = 0 then 1 else wsL w h 4 * prL w h 4
def ptL (w : Nat → Nat) (h : Nat → Nat → Nat) (p : Nat) : Nat → Nat
  | 0 => 0
  | n + 1 => if dn w h n = true then ptL w h p n + h n p * (prL w h 4 / HH h n * w n) else ptL w h p n
abbrev okW (w : Nat → Nat) : Prop := ∀ t, t < 4 → w t ≤ 9
abbrev okH (h : Nat → Nat → Nat) : Prop := ∀ t, t < 4 → ∀ p, p < 7 → h t p ≤ 9
theorem smF_le {f : Nat → Nat} {c : Nat} : ∀ n i, (∀ j, i ≤ j → j < i + n → f j ≤ c) → smF f i n ≤ n * c
  | 0, i, _ => by simp [smF]
  | n + 1, i, h => by
    rw [smF, Nat.succ_mul]
    have h1 := h i (by omega) (by omega)
    have h2 := smF_le (f := f) n (i + 1) (fun j a b => h j (by omega) (by omega))
    omega
theorem smF_part {f : Nat → Nat} : ∀ n i j, i ≤ j → j < i + n → f j ≤ smF f i n
  | 0, i, j, h1, h2 => absurd h2 (by omega)
  | n + 1, i, j, h1, h2 => by
    rw [smF]
    by_cases e : j = i
    · subst e; omega
    · have := smF_part (f := f) n (i + 1) j (by omega) (by omega)
      omega
theorem HH_le {h : Nat → Nat → Nat} (hh : okH h) {t : Nat} (ht : t < 4) : HH h t ≤ 63 := smF_le 7 0 (fun j _ b => hh t ht j (by omega))
theorem prL_le {w : Nat → Nat} {h : Nat → Nat → Nat} (hh : okH h) : ∀ n, n ≤ 4 → prL w h n ≤ 63 ^ n ∧ 0 < prL w h n
  | 0, _ => by simp [prL]
  | n + 1, hn => by
    have ih := prL_le (w := w) hh n (by omega)
    rw [prL]
    by_cases c : dn w h n = true
    · rw [if_pos c, Nat.pow_succ]
      have h1 := HH_le hh (t := n) (by omega)
      simp only [dn, Bool.and_eq_true, decide_eq_true_eq] at c
      exact ⟨Nat.mul_le_mul ih.1 h1, Nat.mul_pos ih.2 c.2⟩
    · rw [if_neg c, Nat.pow_succ]
      exact ⟨by omega, ih.2⟩
theorem prL4 {w : Nat → Nat} {h : Nat → Nat → Nat} (hh : okH h) {n : Nat} (hn : n ≤ 4) : prL w h n ≤ 15752961 ∧ 0 < prL w h n := by
  obtain ⟨h1, h2⟩ := prL_le (w := w) hh n hn
  have : 63 ^ n ≤ 63 ^ 4 := Nat.pow_le_pow_right (by omega) hn
  exact ⟨by omega, h2⟩
theorem wsL_le {w : Nat → Nat} {h : Nat → Nat → Nat} (hw : okW w) : ∀ n, n ≤ 4 → wsL w h n ≤ 9 * n
  | 0, _ => by simp [wsL]
  | n + 1, hn => by
    have ih := wsL_le (h := h) hw n (by omega)
    have := hw n (by omega)
    rw [wsL]
    split <;> omega
theorem dn_spec {w : Nat → Nat} {h : Nat → Nat → Nat} {t : Nat} : dn w h t = true ↔ 0 < w t ∧ 0 < HH h t := by simp [dn]
theorem dtL_bit {w : Nat → Nat} {h : Nat → Nat → Nat} {t : Nat} (ht : t < 4) : bitN (dtL w h 4) t ↔ dn w h t = true := by
  simp only [dtL]
  have e : t = 0 ∨ t = 1 ∨ t = 2 ∨ t = 3 := by omega
  rcases e with rfl | rfl | rfl | rfl <;> (cases dn w h 0 <;> cases dn w h 1 <;> cases dn w h 2 <;> cases dn w h 3 <;> simp [bitN])
theorem dtL_lt {w : Nat → Nat} {h : Nat → Nat → Nat} {n : Nat} (hn : n ≤ 4) : dtL w h n < 16 := by
  have e : n = 0 ∨ n = 1 ∨ n = 2 ∨ n = 3 ∨ n = 4 := by omega
  rcases e with rfl | rfl | rfl | rfl | rfl <;> simp only [dtL] <;> (cases dn w h 0 <;> cases dn w h 1 <;> cases dn w h 2 <;> cases dn w h 3 <;> simp)
theorem dtL_0 {w : Nat → Nat} {h : Nat → Nat → Nat} : dtL w h 4 = 0 ↔ wsL w h 4 = 0 := by
  have h0 := @dn_spec w h 0
  have h1 := @dn_spec w h 1
  have h2 := @dn_spec w h 2
  have h3 := @dn_spec w h 3
  simp only [dtL, wsL]
  cases c0 : dn w h 0 <;> cases c1 : dn w h 1 <;> cases c2 : dn w h 2 <;> cases c3 : dn w h 3 <;> simp [c0, c1, c2, c3] at h0 h1 h2 h3 ⊢ <;> omega
theorem ptL_le {w : Nat → Nat} {h : Nat → Nat → Nat} (p : Nat) (hp : p < 7) : ∀ n, ptL w h p n ≤ wsL w h n * prL w h 4
  | 0 => by simp [ptL]
  | n + 1 => by
    have ih := ptL_le (w := w) (h := h) p hp n
    rw [ptL, wsL]
    by_cases c : dn w h n = true
    · rw [if_pos c, if_pos c, Nat.add_mul]
      have h1 : h n p ≤ HH h n := smF_part 7 0 p (by omega) (by omega)
      have h2 : h n p * (prL w h 4 / HH h n * w n) ≤ w n * prL w h 4 := by
        calc h n p * (prL w h 4 / HH h n * w n) ≤ HH h n * (prL w h 4 / HH h n * w n) := Nat.mul_le_mul_right _ h1
          _ = (prL w h 4 / HH h n * HH h n) * w n := by rw [Nat.mul_comm (HH h n), Nat.mul_assoc, Nat.mul_comm (w n), ← Nat.mul_assoc]
          _ ≤ prL w h 4 * w n := Nat.mul_le_mul_right _ (Nat.div_mul_le_self _ _)
          _ = w n * prL w h 4 := Nat.mul_comm _ _
      omega
    · rw [if_neg c, if_neg c]
      exact ih
theorem whL_pos {w : Nat → Nat} {h : Nat → Nat → Nat} (hh : okH h) : 0 < whL w h := by
  unfold whL
  by_cases c : dtL w h 4 = 0
  · rw [if_pos c]; omega
  · rw [if_neg c]
    have : wsL w h 4 ≠ 0 := fun e => c (dtL_0.mpr e)
    exact Nat.mul_pos (by omega) (prL4 hh (Nat.le_refl 4)).2
theorem whL_le {w : Nat → Nat} {h : Nat → Nat → Nat} (hw : okW w) (hh : okH h) : whL w h ≤ 567106596 := by
  unfold whL
  by_cases c : dtL w h 4 = 0
  · rw [if_pos c]; omega
  · rw [if_neg c]
    have h1 := wsL_le (h := h) hw 4 (by omega)
    have h2 := (prL4 (w := w) hh (Nat.le_refl 4)).1
    calc wsL w h 4 * prL w h 4 ≤ 36 * 15752961 := Nat.mul_le_mul h1 h2
      _ = 567106596 := rfl
theorem ptL_wh {w : Nat → Nat} {h : Nat → Nat → Nat} {p : Nat} (hp : p < 7) : ptL w h p 4 ≤ whL w h := by
  have h1 := ptL_le (w := w) (h := h) p hp 4
  unfold whL
  by_cases c : dtL w h 4 = 0
  · rw [if_pos c]
    rw [dtL_0.mp c] at h1
    omega
  · rw [if_neg c]; exact h1
/-! ===== Paper: its hours, its shares ===== -/
theorem l_hoursIn {X : Nat × (Nat → Int32)} {σ : Mem} {Q : List Value → Mem → Prop} {k t : Nat} {h : Nat → Nat} (hk : cK k = 2) (ht : t < 4) (hw : ∀ p, p < 7 → σ.1 (k + 4 + t) p = nI (h p)) : ∀ (n i s : Nat), i + n = 7 → (Rn X 16 4 [.ref k, .int (nI t), .int (nI s), .int (nI i)] [] σ Q ↔ Q [.int (nI (s + smF h i n))] σ) := by
  obtain ⟨⟨f1, f2, f3, f4, f5, f6⟩, ⟨f7, f8, f9, f10, f11, f13, f14⟩, f12⟩ := F2 hk
  obtain ⟨g1, g2, g3⟩ := f12 t ht
  intro n
  induction n with
  | zero =>
    intro i s hi
    have e : i = 7 := by omega
    subst e
    rw [q_16_4]
    simp (disch := omega) only [q_16_0, q_16_1, q_16_2, q_16_3, q_16_5, q_16_7, q_16_10, q_16_11, q_16_12, q_16_15, q_16_16, q_16_17, q_16_18, q_16_19, q_16_20, q_16_21, q_16_24, q_16_27, q_16_28, vinT, iClamp, clr_i, clr_l, clr_r, clr_n, true_and, and_true, or_true, true_or, false_or, or_false, iLe, iLt, iEq, iAdd, iMul, List.cons_append, List.nil_append, List.append_nil, zb0, zb1, if_true, if_false, not_true_eq_false, not_false_eq_true, Bool.false_eq_true, Nat.one_ne_zero, Nat.zero_ne_one, Nat.reduceEqDiff, Nat.reduceAdd, if_pos, if_neg, smF, Nat.add_zero]
  | succ n ih =>
    intro i s hi
    rw [q_16_4]
    simp (disch := omega) only [q_16_0, q_16_1, q_16_2, q_16_3, q_16_5, q_16_7, q_16_10, q_16_11, q_16_12, q_16_15, q_16_16, q_16_17, q_16_18, q_16_19, q_16_20, q_16_21, q_16_24, q_16_27, q_16_28, vinT, iClamp, clr_i, clr_l, clr_r, clr_n, true_and, and_true, or_true, true_or, false_or, or_false, iLe, iLt, iEq, iAdd, iMul, List.cons_append, List.nil_append, List.append_nil, zb0, zb1, if_true, if_false, not_true_eq_false, not_false_eq_true, Bool.false_eq_true, Nat.one_ne_zero, Nat.zero_ne_one, Nat.reduceEqDiff, Nat.reduceAdd, if_pos, if_neg, hk, f5, f6, g1, g2, g3, hw]
    rw [ih (i + 1) _ (by omega), smF, Nat.add_assoc]
theorem s_hoursIn {X : Nat × (Nat → Int32)} {σ : Mem} {Q : List Value → Mem → Prop} {k t : Nat} {h : Nat → Nat} {v w : Value} (hk : cK k = 2) (ht : t < 4) (hw : ∀ p, p < 7 → σ.1 (k + 4 + t) p = nI (h p)) : Rn X 16 0 [.ref k, .int (nI t), v, w] [] σ Q ↔ Q [.int (nI (smF h 0 7))] σ := by
  simp only [q_16_0, q_16_1, q_16_2, q_16_3, clr_i, l_hoursIn hk ht hw 7 0 0 rfl, Nat.zero_add]
theorem i2L {n : Nat} (h : n < 2147483648) : (nI n).toInt64 = lN n := nI_l h
theorem lMul (a b : Nat) : lN a * lN b = lN (a * b) := lN_mul a b
theorem lAdd (a b : Nat) : lN a + lN b = lN (a + b) := lN_add a b
theorem lDiv {a b : Nat} (ha : a < 9223372036854775808) (h0 : 0 < b) (hb : b < 9223372036854775808) : lN a / lN b = lN (a / b) := pk_lDiv ha h0 hb
theorem lEq {a b : Nat} (ha : a < 9223372036854775808) (hb : b < 9223372036854775808) : lN a = lN b ↔ a = b := pk_lEQ ha hb
theorem lLt {a b : Nat} (ha : a < 9223372036854775808) (hb : b < 9223372036854775808) : lN a < lN b ↔ a < b := pk_lLT ha hb
theorem lLe {a b : Nat} (ha : a < 9223372036854775808) (hb : b < 9223372036854775808) : lN a ≤ lN b ↔ a ≤ b := pk_lLE ha hb
theorem lNe0 {b : Nat} (h0 : 0 < b) (hb : b < 9223372036854775808) : (lN b = 0) = False := by
  rw [eq_iff_iff, iff_false]
  intro e
  have : lN b = lN 0 := e
  rw [lEq hb (by omega)] at this
  omega
theorem l_addParts {X : Nat × (Nat → Int32)} {k a c : Nat} {g : Nat → Nat} (hk : cK k = 2) (ha : cK a = 10) (hn : cN a = 7) (hg : ∀ p, p < 7 → g p < 2147483648) : ∀ n i (f : Nat → Nat) (σ : Mem), i + n = 7 → (∀ p, p < 7 → σ.1 a p = nI (g p)) → (∀ p, p < 7 → σ.2 (k + 11) p = lN (f p)) → ∃ σ', (∀ Q, Rn X 15 3 [.ref k, .ref a, .long (lN c), .null, .int (nI i)] [] σ Q ↔ Q [] σ') ∧ (∀ p, p < 7 → σ'.2 (k + 11) p = lN (if i ≤ p then f p + g p * c else f p)) ∧ σ'.1 = σ.1 ∧ Off [k + 11] σ σ' := by
  obtain ⟨⟨f1, f2, f3, f4, f5, f6⟩, ⟨f7, f8, f9, f10, f11, f13, f14⟩, f12⟩ := F2 hk
  intro n
  induction n with
  | zero =>
    intro i f σ hi h1 h2
    have e : i = 7 := by omega
    subst e
    refine ⟨σ, fun Q => ?_, fun p hp => ?_, rfl, Off.rf _ _⟩
    · rw [q_15_3]
      simp (disch := omega) only [q_15_0, q_15_1, q_15_5, q_15_7, q_15_10, q_15_11, q_15_14, q_15_16, q_15_17, q_15_18, q_15_19, q_15_21, q_15_22, q_15_23, q_15_24, q_15_25, q_15_26, q_15_27, q_15_30, q_15_33, vinT, iClamp, clr_i, clr_l, clr_r, clr_n, true_and, and_true, or_true, true_or, false_or, or_false, iLe, iLt, iEq, iAdd, iMul, List.cons_append, List.nil_append, List.append_nil, zb0, zb1, if_true, if_false, not_true_eq_false, not_false_eq_true, Bool.false_eq_true, Nat.one_ne_zero, Nat.zero_ne_one, Nat.reduceEqDiff, Nat.reduceAdd, if_pos, if_neg]
    · rw [if_neg (by omega)]; exact h2 p hp
  | succ n ih =>
    intro i f σ hi h1 h2
    have hs2 : ∀ p, p < 7 → (sL σ (k + 11) i (lN (f i + g i * c))).2 (k + 11) p = lN (if p = i then f i + g i * c else f p) := fun p hp => by
      by_cases e : p = i
      · subst e; rw [sL_at, if_pos rfl]
      · rw [sL_off (by omega), if_neg e]; exact h2 p hp
    obtain ⟨σ', e1, e2, e3, e4⟩ := ih (i + 1) _ (sL σ (k + 11) i (lN (f i + g i * c))) (by omega) (fun p hp => h1 p hp) hs2
    refine ⟨σ', fun Q => ?_, fun p hp => ?_, e3, ((Off.rf _ σ).sL (by simp) _ _).tr e4⟩
    · rw [q_15_3]
      have q1 := h1 i (by omega)
      have q2 := h2 i (by omega)
      have q3 := hg i (by omega)
      simp (disch := omega) only [q_15_0, q_15_1, q_15_5, q_15_7, q_15_10, q_15_11, q_15_14, q_15_16, q_15_17, q_15_18, q_15_19, q_15_21, q_15_22, q_15_23, q_15_24, q_15_25, q_15_26, q_15_27, q_15_30, q_15_33, vinT, iClamp, clr_i, clr_l, clr_r, clr_n, true_and, and_true, or_true, true_or, false_or, or_false, iLe, iLt, iEq, iAdd, iMul, List.cons_append, List.nil_append, List.append_nil, zb0, zb1, if_true, if_false, not_true_eq_false, not_false_eq_true, Bool.false_eq_true, Nat.one_ne_zero, Nat.zero_ne_one, Nat.reduceEqDiff, Nat.reduceAdd, if_pos, if_neg, hk, ha, hn, f10, f11, q1, q2, i2L, lMul, lAdd]
      exact e1 Q
    · rw [e2 p hp]
      congr 1
      by_cases e : p = i
      · subst e
        rw [if_neg (by omega), if_pos rfl, if_pos (by omega)]
      · rw [if_neg e]
        by_cases c2 : i ≤ p
        · rw [if_pos (by omega), if_pos c2]
        · rw [if_neg (by omega), if_neg c2]
theorem s_addParts {X : Nat × (Nat → Int32)} {σ : Mem} {k a c : Nat} {f g : Nat → Nat} {v : Value} (hk : cK k = 2) (ha : cK a = 10) (hn : cN a = 7) (hg : ∀ p, p < 7 → g p < 2147483648) (h1 : ∀ p, p < 7 → σ.1 a p = nI (g p)) (h2 : ∀ p, p < 7 → σ.2 (k + 11) p = lN (f p)) : ∃ σ', Ev X 15 [.ref k, .ref a, .long (lN c), .null, v] σ [] σ' ∧ (∀ p, p < 7 → σ'.2 (k + 11) p = lN (f p + g p * c)) ∧ σ'.1 = σ.1 ∧ Off [k + 11] σ σ' := by
  obtain ⟨σ', e1, e2, e3, e4⟩ := l_addParts (X := X) (c := c) hk ha hn hg 7 0 f σ rfl h1 h2
  refine ⟨σ', fun Q => ?_, fun p hp => ?_, e3, e4⟩
  · simp only [q_15_0, q_15_1, clr_n]
    exact e1 Q
  · rw [e2 p hp, if_pos (by omega)]
/-- weights and hours of a paper -/
def WH (σ : Mem) (k : Nat) (w : Nat → Nat) (h : Nat → Nat → Nat) : Prop := (∀ t, t < 4 → σ.1 (k + 1) t = nI (w t)) ∧ (∀ t, t < 4 → ∀ p, p < 7 → σ.1 (k + 4 + t) p = nI (h t p)) ∧ okW w ∧ okH h
theorem WH_congr {σ σ' : Mem} {k : Nat} {w : Nat → Nat} {h : Nat → Nat → Nat} (hh : WH σ k w h) (e : ∀ a, k < a → a < k + 8 → σ'.1 a = σ.1 a) : WH σ' k w h := by
  obtain ⟨h1, h2, h3, h4⟩ := hh
  exact ⟨fun t ht => by rw [e (k + 1) (by omega) (by omega)]; exact h1 t ht, fun t ht p hp => by rw [e (k + 4 + t) (by omega) (by omega)]; exact h2 t ht p hp, h3, h4⟩
theorem l_fill0 {X : Nat × (Nat → Int32)} {k : Nat} {c : Int64} {v : Value} (hk : cK k = 2) : ∀ n i (σ : Mem), i + n = 7 → ∃ σ', (∀ Q, Rn X 14 2 [.ref k, .long c, .null, .int (nI i), v] [] σ Q ↔ Rn X 14 23 [.ref k, .long c, .null, .int (nI 0), v] [] σ' Q) ∧ (∀ p, i ≤ p → p < 7 → σ'.2 (k + 11) p = lN 0) ∧ (∀ p, p < i → σ'.2 (k + 11) p = σ.2 (k + 11) p) ∧ σ'.1 = σ.1 ∧ Off [k + 11] σ σ' := by
  obtain ⟨⟨f1, f2, f3, f4, f5, f6⟩, ⟨f7, f8, f9, f10, f11, f13, f14⟩, f12⟩ := F2 hk
  intro n
  induction n with
  | zero =>
    intro i σ hi
    have e : i = 7 := by omega
    subst e
    refine ⟨σ, fun Q => ?_, fun p h1 h2 => absurd h2 (by omega), fun _ _ => rfl, rfl, Off.rf _ _⟩
    rw [q_14_2]
    simp (disch := omega) only [q_14_3, q_14_5, q_14_8, q_14_9, q_14_12, q_14_13, q_14_14, q_14_15, q_14_18, q_14_21, q_14_22, vinT, iClamp, clr_i, clr_l, clr_r, clr_n, true_and, and_true, or_true, true_or, false_or, or_false, iLe, iLt, iEq, iAdd, iMul, List.cons_append, List.nil_append, List.append_nil, zb0, zb1, if_true, if_false, not_true_eq_false, not_false_eq_true, Bool.false_eq_true, Nat.one_ne_zero, Nat.zero_ne_one, Nat.reduceEqDiff, Nat.reduceAdd, if_pos, if_neg]
  | succ n ih =>
    intro i σ hi
    obtain ⟨σ', e1, e2, e3, e4, e5⟩ := ih (i + 1) (sL σ (k + 11) i (lN 0)) (by omega)
    refine ⟨σ', fun Q => ?_, fun p h1 h2 => ?_, fun p hp => ?_, e4, ((Off.rf _ σ).sL (by simp) _ _).tr e5⟩
    · rw [q_14_2]
      simp (disch := omega) only [q_14_3, q_14_5, q_14_8, q_14_9, q_14_12, q_14_13, q_14_14, q_14_15, q_14_18, q_14_21, q_14_22, vinT, iClamp, clr_i, clr_l, clr_r, clr_n, true_and, and_true, or_true, true_or, false_or, or_false, iLe, iLt, iEq, iAdd, iMul, List.cons_append, List.nil_append, List.append_nil, zb0, zb1, if_true, if_false, not_true_eq_false, not_false_eq_true, Bool.false_eq_true, Nat.one_ne_zero, Nat.zero_ne_one, Nat.reduceEqDiff, Nat.reduceAdd, if_pos, if_neg, hk, f10, f11]
      exact e1 Q
    · by_cases e : p = i
      · subst e; rw [e3 p (by omega), sL_at]
      · exact e2 p (by omega) h2
    · rw [e3 p (by omega), sL_off (by omega)]
theorem l_fill {X : Nat × (Nat → Int32)} {k : Nat} {w : Nat → Nat} {h : Nat → Nat → Nat} (hk : cK k = 2) : ∀ n i (σ : Mem) (v : Value), i + n = 4 → WH σ k w h → σ.1 k 6 = nI (dtL w h 4) → (∀ p, p < 7 → σ.2 (k + 11) p = lN (ptL w h p i)) → ∃ σ', (∀ Q, Rn X 14 23 [.ref k, .long (lN (prL w h 4)), .null, .int (nI i), v] [] σ Q ↔ Q [] σ') ∧ (∀ p, p < 7 → σ'.2 (k + 11) p = lN (ptL w h p 4)) ∧ σ'.1 = σ.1 ∧ Off [k + 11] σ σ' := by
  obtain ⟨⟨f1, f2, f3, f4, f5, f6⟩, ⟨f7, f8, f9, f10, f11, f13, f14⟩, f12⟩ := F2 hk
  intro n
  induction n with
  | zero =>
    intro i σ v hi hW h6 hp
    have e : i = 4 := by omega
    subst e
    refine ⟨σ, fun Q => ?_, hp, rfl, Off.rf _ _⟩
    rw [q_14_23]
    simp (disch := omega) only [q_14_24, q_14_25, q_14_28, q_14_29, q_14_30, q_14_33, q_14_35, q_14_36, q_14_39, q_14_40, q_14_43, q_14_46, q_14_48, q_14_51, q_14_52, q_14_53, q_14_56, q_14_57, q_14_58, q_14_59, q_14_61, q_14_62, q_14_63, q_14_64, q_14_67, q_14_68, q_14_69, q_14_70, q_14_71, q_14_74, q_14_77, q_14_80, vinT, iClamp, clr_i, clr_l, clr_r, clr_n, true_and, and_true, or_true, true_or, false_or, or_false, iLe, iLt, iEq, iAdd, iMul, List.cons_append, List.nil_append, List.append_nil, zb0, zb1, if_true, if_false, not_true_eq_false, not_false_eq_true, Bool.false_eq_true, Nat.one_ne_zero, Nat.zero_ne_one, Nat.reduceEqDiff, Nat.reduceAdd, if_pos, if_neg]
  | succ n ih =>
    intro i σ v hi hW h6 hp
    obtain ⟨w1, w2, w3, w4⟩ := id hW
    obtain ⟨g1, g2, g3⟩ := f12 i (by omega)
    have hH := HH_le w4 (t := i) (by omega)
    have hHH : smF (h i) 0 7 = HH h i := rfl
    have hd := dtL_lt (w := w) (h := h) (n := 4) (by omega)
    have hP := prL4 (w := w) w4 (n := 4) (by omega)
    have hwi := w3 i (by omega)
    have hoi := fun (Q : List Value → Mem → Prop) (a b : Value) => s_hoursIn (X := X) (Q := Q) (v := a) (w := b) hk (show i < 4 by omega) (fun p hp => w2 i (by omega) p hp)
    by_cases c : dn w h i = true
    · obtain ⟨c1, c2⟩ := dn_spec.mp c
      obtain ⟨σ1, e1, e2, e3, e4⟩ := s_addParts (X := X) (σ := σ) (c := prL w h 4 / HH h i * w i) (v := .null) hk g1 g2 (fun p hp => by have := w4 i (by omega) p hp; omega) (fun p hp => w2 i (by omega) p hp) hp
      obtain ⟨σ', i1, i2, i3, i4⟩ := ih (i + 1) σ1 (.int (nI (HH h i))) (by omega) (WH_congr hW (fun a _ _ => by rw [e3])) (by rw [e3]; exact h6) (fun p hp => by rw [e2 p hp, ptL, if_pos c])
      refine ⟨σ', fun Q => ?_, i2, by rw [i3, e3], e4.tr i4⟩
      rw [q_14_23]
      have e1' := fun Q => e1 Q
      have hb := b2_t (dtL_bit (w := w) (h := h) (t := i) (by omega) |>.mpr c)
      have q1 := w1 i (by omega)
      simp (disch := omega) only [q_14_0, q_14_1, q_14_3, q_14_5, q_14_8, q_14_9, q_14_12, q_14_13, q_14_14, q_14_15, q_14_18, q_14_21, q_14_22, q_14_24, q_14_25, q_14_28, q_14_29, q_14_30, q_14_33, q_14_35, q_14_36, q_14_39, q_14_40, q_14_43, q_14_46, q_14_48, q_14_51, q_14_52, q_14_53, q_14_56, q_14_57, q_14_58, q_14_59, q_14_61, q_14_62, q_14_63, q_14_64, q_14_67, q_14_68, q_14_69, q_14_70, q_14_71, q_14_74, q_14_77, q_14_80, vinT, iClamp, clr_i, clr_l, clr_r, clr_n, true_and, and_true, or_true, true_or, false_or, or_false, iLe, iLt, iEq, iAdd, iMul, List.cons_append, List.nil_append, List.append_nil, zb0, zb1, if_true, if_false, not_true_eq_false, not_false_eq_true, Bool.false_eq_true, Nat.one_ne_zero, Nat.zero_ne_one, Nat.reduceEqDiff, Nat.reduceAdd, if_pos, if_neg, hk, hoi, hHH, h6, s_isIn, hb, f1, f2, f5, f6, g3, q1, i2L, lDiv, lMul, lNe0, e1']
      exact i1 Q
    · obtain ⟨σ', i1, i2, i3, i4⟩ := ih (i + 1) σ (.int (nI (HH h i))) (by omega) hW h6 (fun p hp' => by rw [ptL, if_neg c]; exact hp p hp')
      refine ⟨σ', fun Q => ?_, i2, i3, i4⟩
      rw [q_14_23]
      have hb := b2_f (fun q => c ((dtL_bit (w := w) (h := h) (t := i) (by omega)).mp q))
      simp (disch := omega) only [q_14_0, q_14_1, q_14_3, q_14_5, q_14_8, q_14_9, q_14_12, q_14_13, q_14_14, q_14_15, q_14_18, q_14_21, q_14_22, q_14_24, q_14_25, q_14_28, q_14_29, q_14_30, q_14_33, q_14_35, q_14_36, q_14_39, q_14_40, q_14_43, q_14_46, q_14_48, q_14_51, q_14_52, q_14_53, q_14_56, q_14_57, q_14_58, q_14_59, q_14_61, q_14_62, q_14_63, q_14_64, q_14_67, q_14_68, q_14_69, q_14_70, q_14_71, q_14_74, q_14_77, q_14_80, vinT, iClamp, clr_i, clr_l, clr_r, clr_n, true_and, and_true, or_true, true_or, false_or, or_false, iLe, iLt, iEq, iAdd, iMul, List.cons_append, List.nil_append, List.append_nil, zb0, zb1, if_true, if_false, not_true_eq_false, not_false_eq_true, Bool.false_eq_true, Nat.one_ne_zero, Nat.zero_ne_one, Nat.reduceEqDiff, Nat.reduceAdd, if_pos, if_neg, hk, hoi, hHH, h6, s_isIn, hb]
      exact i1 Q
theorem s_fill {X : Nat × (Nat → Int32)} {σ : Mem} {k : Nat} {w : Nat → Nat} {h : Nat → Nat → Nat} {u v : Value} (hk : cK k = 2) (hW : WH σ k w h) (h6 : σ.1 k 6 = nI (dtL w h 4)) : ∃ σ', Ev X 14 [.ref k, .long (lN (prL w h 4)), .null, u, v] σ [] σ' ∧ (∀ p, p < 7 → σ'.2 (k + 11) p = lN (ptL w h p 4)) ∧ σ'.1 = σ.1 ∧ Off [k + 11] σ σ' := by
  obtain ⟨σ1, e1, e2, e3, e4, e5⟩ := l_fill0 (X := X) (c := lN (prL w h 4)) (v := v) hk 7 0 σ rfl
  obtain ⟨σ', i1, i2, i3, i4⟩ := l_fill (X := X) (w := w) (h := h) hk 4 0 σ1 v rfl (WH_congr hW (fun a _ _ => by rw [e4])) (by rw [e4]; exact h6) (fun p hp => by rw [ptL]; exact e2 p (by omega) hp)
  refine ⟨σ', fun Q => ?_, i2, by rw [i3, e4], e5.tr i4⟩
  simp only [q_14_0, q_14_1, clr_n]
  rw [e1 Q]
  exact i1 Q
/-- what is reckoned of a paper -/
def DI (σ : Mem) (k : Nat) (w : Nat → Nat) (h : Nat → Nat → Nat) : Prop := σ.1 k 6 = nI (dtL w h 4) ∧ σ.1 k 7 = nI (wsL w h 4) ∧ (∀ p, p < 7 → σ.2 (k + 11) p = lN (ptL w h p 4)) ∧ σ.2 k 9 = lN (whL w h)
theorem l_reckon {X : Nat × (Nat → Int32)} {k : Nat} {w : Nat → Nat} {h : Nat → Nat → Nat} (hk : cK k = 2) : ∀ n i (σ : Mem) (v : Value), i + n = 4 → WH σ k w h → σ.1 k 6 = nI (dtL w h i) → σ.1 k 7 = nI (wsL w h i) → ∃ σ' v', (∀ Q, Rn X 13 14 [.ref k, .long (lN (prL w h i)), .null, .int (nI i), v] [] σ Q ↔ Rn X 13 79 [.ref k, .long (lN (prL w h 4)), .null, .int (nI 4), v'] [] σ' Q) ∧ σ'.1 k 6 = nI (dtL w h 4) ∧ σ'.1 k 7 = nI (wsL w h 4) ∧ (∀ j, j ≠ 6 → j ≠ 7 → σ'.1 k j = σ.1 k j) ∧ σ'.2 = σ.2 ∧ Off [k] σ σ' := by
  obtain ⟨⟨f1, f2, f3, f4, f5, f6⟩, ⟨f7, f8, f9, f10, f11, f13, f14⟩, f12⟩ := F2 hk
  intro n
  induction n with
  | zero =>
    intro i σ v hi hW h6 h7
    have e : i = 4 := by omega
    subst e
    refine ⟨σ, v, fun Q => ?_, h6, h7, fun _ _ _ => rfl, rfl, Off.rf _ _⟩
    rw [q_13_14]
    simp (disch := omega) only [q_13_15, q_13_16, q_13_19, q_13_20, q_13_21, q_13_24, q_13_26, q_13_27, q_13_30, q_13_31, q_13_32, q_13_35, q_13_37, q_13_40, q_13_41, q_13_42, q_13_45, q_13_46, q_13_47, q_13_48, q_13_49, q_13_52, q_13_53, q_13_54, q_13_57, q_13_58, q_13_61, q_13_62, q_13_63, q_13_64, q_13_67, q_13_68, q_13_70, q_13_71, q_13_72, q_13_73, q_13_76, vinT, iClamp, clr_i, clr_l, clr_r, clr_n, true_and, and_true, or_true, true_or, false_or, or_false, iLe, iLt, iEq, iAdd, iMul, List.cons_append, List.nil_append, List.append_nil, zb0, zb1, if_true, if_false, not_true_eq_false, not_false_eq_true, Bool.false_eq_true, Nat.one_ne_zero, Nat.zero_ne_one, Nat.reduceEqDiff, Nat.reduceAdd, if_pos, if_neg]
  | succ n ih =>
    intro i σ v hi hW h6 h7
    obtain ⟨w1, w2, w3, w4⟩ := id hW
    have hH := HH_le w4 (t := i) (by omega)
    have hHH : smF (h i) 0 7 = HH h i := rfl
    have hwi := w3 i (by omega)
    have q1 := w1 i (by omega)
    have hoi := fun (Q : List Value → Mem → Prop) (a b : Value) => s_hoursIn (X := X) (Q := Q) (v := a) (w := b) hk (show i < 4 by omega) (fun p hp => w2 i (by omega) p hp)
    by_cases c : dn w h i = true
    · obtain ⟨c1, c2⟩ := dn_spec.mp c
      have ho : Off [k] σ (sI (sI σ k 6 (nI (dtL w h i ||| 2 ^ i))) k 7 (nI (wsL w h i + w i))) := ((Off.rf _ σ).sI (by simp) _ _).sI (by simp) _ _
      obtain ⟨σ', v', i1, i2, i3, i4, i5, i6⟩ := ih (i + 1) (sI (sI σ k 6 (nI (dtL w h i ||| 2 ^ i))) k 7 (nI (wsL w h i + w i))) (.int (nI (HH h i))) (by omega) (WH_congr hW (fun a ha _ => by rw [(ho a (by simp; omega)).1])) (by rw [sI_off (by omega), sI_at, dtL, if_pos c]) (by rw [sI_at, wsL, if_pos c])
      refine ⟨σ', v', fun Q => ?_, i2, i3, fun j a b => by rw [i4 j a b, sI_off (by omega), sI_off (by omega)], i5, ho.tr i6⟩
      rw [q_13_14]
      simp (disch := omega) only [q_13_15, q_13_16, q_13_19, q_13_20, q_13_21, q_13_24, q_13_26, q_13_27, q_13_30, q_13_31, q_13_32, q_13_35, q_13_37, q_13_40, q_13_41, q_13_42, q_13_45, q_13_46, q_13_47, q_13_48, q_13_49, q_13_52, q_13_53, q_13_54, q_13_57, q_13_58, q_13_61, q_13_62, q_13_63, q_13_64, q_13_67, q_13_68, q_13_70, q_13_71, q_13_72, q_13_73, q_13_76, vinT, iClamp, clr_i, clr_l, clr_r, clr_n, true_and, and_true, or_true, true_or, false_or, or_false, iLe, iLt, iEq, iAdd, iMul, List.cons_append, List.nil_append, List.append_nil, zb0, zb1, if_true, if_false, not_true_eq_false, not_false_eq_true, Bool.false_eq_true, Nat.one_ne_zero, Nat.zero_ne_one, Nat.reduceEqDiff, Nat.reduceAdd, if_pos, if_neg, hk, hoi, hHH, q1, f1, f2, h6, h7, sI_off, one_shl, fa_or, i2L, lMul]
      rw [← i1 Q, prL, if_pos c]
    · obtain ⟨σ', v', i1, i2, i3, i4, i5, i6⟩ := ih (i + 1) σ (.int (nI (HH h i))) (by omega) hW (by rw [h6, dtL, if_neg c]) (by rw [h7, wsL, if_neg c])
      refine ⟨σ', v', fun Q => ?_, i2, i3, i4, i5, i6⟩
      rw [q_13_14]
      have c' : ¬ (0 < w i ∧ 0 < HH h i) := fun q => c (dn_spec.mpr q)
      by_cases c1 : w i ≤ 0
      · simp (disch := omega) only [q_13_15, q_13_16, q_13_19, q_13_20, q_13_21, q_13_24, q_13_26, q_13_27, q_13_30, q_13_31, q_13_32, q_13_35, q_13_37, q_13_40, q_13_41, q_13_42, q_13_45, q_13_46, q_13_47, q_13_48, q_13_49, q_13_52, q_13_53, q_13_54, q_13_57, q_13_58, q_13_61, q_13_62, q_13_63, q_13_64, q_13_67, q_13_68, q_13_70, q_13_71, q_13_72, q_13_73, q_13_76, vinT, iClamp, clr_i, clr_l, clr_r, clr_n, true_and, and_true, or_true, true_or, false_or, or_false, iLe, iLt, iEq, iAdd, iMul, List.cons_append, List.nil_append, List.append_nil, zb0, zb1, if_true, if_false, not_true_eq_false, not_false_eq_true, Bool.false_eq_true, Nat.one_ne_zero, Nat.zero_ne_one, Nat.reduceEqDiff, Nat.reduceAdd, if_pos, if_neg, hk, hoi, hHH, q1, f1, f2]
        rw [← i1 Q, prL, if_neg c]
      · simp (disch := omega) only [q_13_15, q_13_16, q_13_19, q_13_20, q_13_21, q_13_24, q_13_26, q_13_27, q_13_30, q_13_31, q_13_32, q_13_35, q_13_37, q_13_40, q_13_41, q_13_42, q_13_45, q_13_46, q_13_47, q_13_48, q_13_49, q_13_52, q_13_53, q_13_54, q_13_57, q_13_58, q_13_61, q_13_62, q_13_63, q_13_64, q_13_67, q_13_68, q_13_70, q_13_71, q_13_72, q_13_73, q_13_76, vinT, iClamp, clr_i, clr_l, clr_r, clr_n, true_and, and_true, or_true, true_or, false_or, or_false, iLe, iLt, iEq, iAdd, iMul, List.cons_append, List.nil_append, List.append_nil, zb0, zb1, if_true, if_false, not_true_eq_false, not_false_eq_true, Bool.false_eq_true, Nat.one_ne_zero, Nat.zero_ne_one, Nat.reduceEqDiff, Nat.reduceAdd, if_pos, if_neg, hk, hoi, hHH, q1, f1, f2]
        rw [← i1 Q, prL, if_neg c]
theorem s_reckon {X : Nat × (Nat → Int32)} {σ : Mem} {k : Nat} {w : Nat → Nat} {h : Nat → Nat → Nat} {u1 u2 u3 u4 : Value} (hk : cK k = 2) (hW : WH σ k w h) : ∃ σ', Ev X 13 [.ref k, u1, u2, u3, u4] σ [] σ' ∧ DI σ' k w h ∧ σ'.1 k 0 = σ.1 k 0 ∧ Off [k, k + 11] σ σ' := by
  obtain ⟨⟨f1, f2, f3, f4, f5, f6⟩, ⟨f7, f8, f9, f10, f11, f13, f14⟩, f12⟩ := F2 hk
  obtain ⟨w1, w2, w3, w4⟩ := id hW
  have ho : Off [k] σ (sI (sI σ k 6 (nI 0)) k 7 (nI 0)) := ((Off.rf _ σ).sI (by simp) _ _).sI (by simp) _ _
  obtain ⟨σ1, v1, e1, e2, e3, e4, e5, e6⟩ := l_reckon (X := X) (w := w) (h := h) hk 4 0 (sI (sI σ k 6 (nI 0)) k 7 (nI 0)) u4 rfl (WH_congr hW (fun a ha _ => by rw [(ho a (by simp; omega)).1])) (by rw [sI_off (by omega), sI_at, dtL]) (by rw [sI_at, wsL])
  have hd := dtL_lt (w := w) (h := h) (n := 4) (by omega)
  have hws := wsL_le (h := h) w3 4 (by omega)
  have ho2 : Off [k] σ (sL σ1 k 9 (lN (whL w h))) := (ho.tr e6).sL (by simp) _ _
  obtain ⟨σ2, i1, i2, i3, i4⟩ := s_fill (X := X) (w := w) (h := h) (u := .null) (v := .null) (σ := sL σ1 k 9 (lN (whL w h))) hk (WH_congr hW (fun a ha _ => by rw [(ho2 a (by simp; omega)).1])) e2
  refine ⟨σ2, fun Q => ?_, ⟨by rw [i3]; exact e2, by rw [i3]; exact e3, i2, by rw [(i4 k (by simp)).2, sL_at]⟩, ?_, (ho2.mono (by simp)).tr (i4.mono (by simp))⟩
  · have i1' := fun Q => i1 Q
    simp (disch := omega) only [q_13_0, q_13_1, q_13_2, q_13_5, q_13_6, q_13_7, q_13_10, q_13_11, q_13_12, q_13_13, vinT, iClamp, clr_i, clr_l, clr_r, clr_n, true_and, and_true, or_true, true_or, false_or, or_false, iLe, iLt, iEq, iAdd, iMul, List.cons_append, List.nil_append, List.append_nil, zb0, zb1, if_true, if_false, not_true_eq_false, not_false_eq_true, Bool.false_eq_true, Nat.one_ne_zero, Nat.zero_ne_one, Nat.reduceEqDiff, Nat.reduceAdd, if_pos, if_neg, hk]
    rw [show lN 1 = lN (prL w h 0) from rfl, e1 Q]
    by_cases c : dtL w h 4 = 0
    · have ew : whL w h = 1 := by rw [whL, if_pos c]
      rw [ew] at i1'
      simp (disch := omega) only [q_13_0, q_13_1, q_13_2, q_13_5, q_13_6, q_13_7, q_13_10, q_13_11, q_13_12, q_13_13, q_13_15, q_13_16, q_13_19, q_13_20, q_13_21, q_13_24, q_13_26, q_13_27, q_13_30, q_13_31, q_13_32, q_13_35, q_13_37, q_13_40, q_13_41, q_13_42, q_13_45, q_13_46, q_13_47, q_13_48, q_13_49, q_13_52, q_13_53, q_13_54, q_13_57, q_13_58, q_13_61, q_13_62, q_13_63, q_13_64, q_13_67, q_13_68, q_13_70, q_13_71, q_13_72, q_13_73, q_13_76, q_13_79, q_13_80, q_13_81, q_13_84, q_13_87, q_13_88, q_13_91, q_13_92, q_13_95, q_13_96, q_13_97, q_13_98, q_13_101, q_13_102, q_13_103, q_13_106, vinT, iClamp, clr_i, clr_l, clr_r, clr_n, true_and, and_true, or_true, true_or, false_or, or_false, iLe, iLt, iEq, iAdd, iMul, List.cons_append, List.nil_append, List.append_nil, zb0, zb1, if_true, if_false, not_true_eq_false, not_false_eq_true, Bool.false_eq_true, Nat.one_ne_zero, Nat.zero_ne_one, Nat.reduceEqDiff, Nat.reduceAdd, if_pos, if_neg, hk, e2, c, i1']
    · have ew : whL w h = wsL w h 4 * prL w h 4 := by rw [whL, if_neg c]
      rw [ew] at i1'
      simp (disch := omega) only [q_13_0, q_13_1, q_13_2, q_13_5, q_13_6, q_13_7, q_13_10, q_13_11, q_13_12, q_13_13, q_13_15, q_13_16, q_13_19, q_13_20, q_13_21, q_13_24, q_13_26, q_13_27, q_13_30, q_13_31, q_13_32, q_13_35, q_13_37, q_13_40, q_13_41, q_13_42, q_13_45, q_13_46, q_13_47, q_13_48, q_13_49, q_13_52, q_13_53, q_13_54, q_13_57, q_13_58, q_13_61, q_13_62, q_13_63, q_13_64, q_13_67, q_13_68, q_13_70, q_13_71, q_13_72, q_13_73, q_13_76, q_13_79, q_13_80, q_13_81, q_13_84, q_13_87, q_13_88, q_13_91, q_13_92, q_13_95, q_13_96, q_13_97, q_13_98, q_13_101, q_13_102, q_13_103, q_13_106, vinT, iClamp, clr_i, clr_l, clr_r, clr_n, true_and, and_true, or_true, true_or, false_or, or_false, iLe, iLt, iEq, iAdd, iMul, List.cons_append, List.nil_append, List.append_nil, zb0, zb1, if_true, if_false, not_true_eq_false, not_false_eq_true, Bool.false_eq_true, Nat.one_ne_zero, Nat.zero_ne_one, Nat.reduceEqDiff, Nat.reduceAdd, if_pos, if_neg, hk, e2, e3, c, i2L, lMul, i1']
  · rw [i3, sL_fst, e4 0 (by omega) (by omega), sI_off (by omega), sI_off (by omega)]
/-! ===== Paper: the rest ===== -/
theorem s_thousandths {X : Nat × (Nat → Int32)} {σ : Mem} {Q : List Value → Mem → Prop} {k x : Nat} {w : Nat → Nat} {h : Nat → Nat → Nat} (hk : cK k = 2) (hx : x < 7) (hw : okW w) (hh : okH h) (hD : DI σ k w h) : Rn X 17 0 [.ref k, .int (nI x)] [] σ Q ↔ Q [.long (lN (ptL w h x 4 * 1000 / whL w h))] σ := by
  obtain ⟨⟨f1, f2, f3, f4, f5, f6⟩, ⟨f7, f8, f9, f10, f11, f13, f14⟩, f12⟩ := F2 hk
  obtain ⟨d1, d2, d3, d4⟩ := hD
  have hp := whL_pos (w := w) hh
  have hl := whL_le hw hh
  have hq := ptL_wh (w := w) (h := h) hx
  have hin : inR (nI x) 7 := inR_nI hx (by omega)
  simp (disch := omega) only [q_17_0, q_17_1, q_17_4, q_17_7, q_17_8, q_17_11, q_17_12, q_17_13, q_17_16, q_17_17, q_17_20, q_17_21, q_17_22, q_17_25, q_17_26, q_17_27, q_17_30, q_17_31, q_17_34, q_17_35, vinT, iClamp, clr_i, clr_l, clr_r, clr_n, true_and, and_true, or_true, true_or, false_or, or_false, iLe, iLt, iEq, iAdd, iMul, List.cons_append, List.nil_append, List.append_nil, zb0, zb1, if_true, if_false, not_true_eq_false, not_false_eq_true, Bool.false_eq_true, Nat.one_ne_zero, Nat.zero_ne_one, Nat.reduceEqDiff, Nat.reduceAdd, if_pos, if_neg, hk, s_isPerson, b2_t hin, f10, f11, d3 x hx, d4, lc_le, lLt, lMul, lDiv, lNe0]
theorem pA_cases (l : List Nat) (j : Nat) (hj : j < 7) (hl : l.length ≤ 7) (h7 : ∀ j, j < l.length → l.getD j 0 < 7) : (j < l.length ∧ pA l (nI j) = nI (l.getD j 0) ∧ inR (pA l (nI j)) 7) ∨ (l.length ≤ j ∧ pA l (nI j) = -9 ∧ ¬ inR (pA l (nI j)) 7) := by
  by_cases c : j < l.length
  · refine Or.inl ⟨c, pA_in c hl, ?_⟩
    rw [pA_in c hl]
    exact inR_nI (h7 j c) (by omega)
  · refine Or.inr ⟨by omega, pA_out (by omega) (by omega), ?_⟩
    rw [pA_out (by omega) (by omega)]
    intro q
    exact absurd q.1 (by decide)
theorem s_isGiftAt {X : Nat × (Nat → Int32)} {σ : Mem} {Q : List Value → Mem → Prop} {k j : Nat} {l : List Nat} {w : Nat → Nat} {h : Nat → Nat → Nat} {v : Value} (hk : cK k = 2) (hj : j < 7) (hw : okW w) (hh : okH h) (hD : DI σ k w h) (hR : RI σ (k + 9) l) : Rn X 18 0 [.ref k, .int (nI j), v] [] σ Q ↔ Q [.int (b2 (j < l.length ∧ ptL w h (l.getD j 0) 4 = 0))] σ := by
  obtain ⟨⟨f1, f2, f3, f4, f5, f6⟩, ⟨f7, f8, f9, f10, f11, f13, f14⟩, f12⟩ := F2 hk
  obtain ⟨d1, d2, d3, d4⟩ := hD
  obtain ⟨h1, h2, h3⟩ := id hR
  rcases pA_cases l j hj h1 (fun j hj => (h3 j hj).2) with ⟨c1, c2, c3⟩ | ⟨c1, c2, c3⟩
  · have hx := (h3 j c1).2
    have hq := ptL_wh (w := w) (h := h) hx
    have hl := whL_le hw hh
    have q3 := b2_t c3
    rw [c2] at q3
    have q4 := d3 _ hx
    generalize l.getD j 0 = x at *
    simp (disch := omega) only [q_18_0, q_18_1, q_18_4, q_18_5, q_18_8, q_18_9, q_18_10, q_18_13, q_18_16, q_18_17, q_18_20, q_18_21, q_18_22, q_18_23, q_18_24, q_18_27, q_18_28, q_18_31, q_18_32, vinT, iClamp, clr_i, clr_l, clr_r, clr_n, true_and, and_true, or_true, true_or, false_or, or_false, iLe, iLt, iEq, iAdd, iMul, List.cons_append, List.nil_append, List.append_nil, zb0, zb1, if_true, if_false, not_true_eq_false, not_false_eq_true, Bool.false_eq_true, Nat.one_ne_zero, Nat.zero_ne_one, Nat.reduceEqDiff, Nat.reduceAdd, if_pos, if_neg, hk, f9, s_personAt f9 hR, c2, s_isPerson, q3, f10, f11, q4, lc_eq, lEq]
    by_cases c : ptL w h x 4 = 0
    · rw [if_pos c, b2_t ⟨c1, c⟩]
    · rw [if_neg c, b2_f (fun q => c q.2)]
  · simp (disch := omega) only [q_18_0, q_18_1, q_18_4, q_18_5, q_18_8, q_18_9, q_18_10, q_18_13, q_18_16, q_18_17, q_18_20, q_18_21, q_18_22, q_18_23, q_18_24, q_18_27, q_18_28, q_18_31, q_18_32, vinT, iClamp, clr_i, clr_l, clr_r, clr_n, true_and, and_true, or_true, true_or, false_or, or_false, iLe, iLt, iEq, iAdd, iMul, List.cons_append, List.nil_append, List.append_nil, zb0, zb1, if_true, if_false, not_true_eq_false, not_false_eq_true, Bool.false_eq_true, Nat.one_ne_zero, Nat.zero_ne_one, Nat.reduceEqDiff, Nat.reduceAdd, if_pos, if_neg, hk, f9, s_personAt f9 hR, s_isPerson, b2_f c3]
    rw [b2_f (fun q => absurd q.1 (by omega))]
theorem s_isGhost {X : Nat × (Nat → Int32)} {σ : Mem} {Q : List Value → Mem → Prop} {k x : Nat} {l : List Nat} {w : Nat → Nat} {h : Nat → Nat → Nat} (hk : cK k = 2) (hx : x < 7) (hw : okW w) (hh : okH h) (hD : DI σ k w h) (hR : RI σ (k + 9) l) : Rn X 19 0 [.ref k, .int (nI x)] [] σ Q ↔ Q [.int (b2 (plF (rF l) (nI x) 0 l.length = -9 ∧ 0 < ptL w h x 4))] σ := by
  obtain ⟨⟨f1, f2, f3, f4, f5, f6⟩, ⟨f7, f8, f9, f10, f11, f13, f14⟩, f12⟩ := F2 hk
  obtain ⟨d1, d2, d3, d4⟩ := hD
  have hin : inR (nI x) 7 := inR_nI hx (by omega)
  have hq := ptL_wh (w := w) (h := h) hx
  have hl := whL_le hw hh
  by_cases c1 : plF (rF l) (nI x) 0 l.length = -9
  · have e1 : b2 (¬ plF (rF l) (nI x) 0 l.length = -9) = nI 0 := b2_f (fun q => q c1)
    simp (disch := omega) only [q_19_0, q_19_1, q_19_4, q_19_7, q_19_8, q_19_11, q_19_12, q_19_15, q_19_18, q_19_19, q_19_22, q_19_23, q_19_24, q_19_25, q_19_26, q_19_29, q_19_30, q_19_33, q_19_34, vinT, iClamp, clr_i, clr_l, clr_r, clr_n, true_and, and_true, or_true, true_or, false_or, or_false, iLe, iLt, iEq, iAdd, iMul, List.cons_append, List.nil_append, List.append_nil, zb0, zb1, if_true, if_false, not_true_eq_false, not_false_eq_true, Bool.false_eq_true, Nat.one_ne_zero, Nat.zero_ne_one, Nat.reduceEqDiff, Nat.reduceAdd, if_pos, if_neg, hk, f9, s_isPerson, b2_t hin, s_holds f9 hR, e1, f10, f11, d3 x hx, lc_le, lLt]
    by_cases c : 0 < ptL w h x 4
    · rw [if_neg (by omega), b2_t ⟨c1, c⟩]
    · rw [if_pos (by omega), b2_f (fun q => c q.2)]
  · have e1 : b2 (¬ plF (rF l) (nI x) 0 l.length = -9) = nI 1 := b2_t c1
    simp (disch := omega) only [q_19_0, q_19_1, q_19_4, q_19_7, q_19_8, q_19_11, q_19_12, q_19_15, q_19_18, q_19_19, q_19_22, q_19_23, q_19_24, q_19_25, q_19_26, q_19_29, q_19_30, q_19_33, q_19_34, vinT, iClamp, clr_i, clr_l, clr_r, clr_n, true_and, and_true, or_true, true_or, false_or, or_false, iLe, iLt, iEq, iAdd, iMul, List.cons_append, List.nil_append, List.append_nil, zb0, zb1, if_true, if_false, not_true_eq_false, not_false_eq_true, Bool.false_eq_true, Nat.one_ne_zero, Nat.zero_ne_one, Nat.reduceEqDiff, Nat.reduceAdd, if_pos, if_neg, hk, f9, s_isPerson, b2_t hin, s_holds f9 hR, e1]
    rw [b2_f (fun q => c1 q.1)]
theorem l_claimed {X : Nat × (Nat → Int32)} {σ : Mem} {Q : List Value → Mem → Prop} {k : Nat} {c : Nat → Nat} (hk : cK k = 2) (hc : ∀ p, p < 7 → σ.1 (k + 8) p = nI (c p)) : ∀ (n i s : Nat), i + n = 7 → (Rn X 20 4 [.ref k, .int (nI s), .int (nI i)] [] σ Q ↔ Q [.int (nI (s + smF c i n) - nI 100)] σ) := by
  obtain ⟨⟨f1, f2, f3, f4, f5, f6⟩, ⟨f7, f8, f9, f10, f11, f13, f14⟩, f12⟩ := F2 hk
  intro n
  induction n with
  | zero =>
    intro i s hi
    have e : i = 7 := by omega
    subst e
    rw [q_20_4]
    simp (disch := omega) only [q_20_0, q_20_1, q_20_2, q_20_3, q_20_5, q_20_7, q_20_10, q_20_11, q_20_12, q_20_15, q_20_16, q_20_17, q_20_18, q_20_19, q_20_22, q_20_25, q_20_26, q_20_28, q_20_29, vinT, iClamp, clr_i, clr_l, clr_r, clr_n, true_and, and_true, or_true, true_or, false_or, or_false, iLe, iLt, iEq, iAdd, iMul, List.cons_append, List.nil_append, List.append_nil, zb0, zb1, if_true, if_false, not_true_eq_false, not_false_eq_true, Bool.false_eq_true, Nat.one_ne_zero, Nat.zero_ne_one, Nat.reduceEqDiff, Nat.reduceAdd, if_pos, if_neg, smF, Nat.add_zero]
  | succ n ih =>
    intro i s hi
    rw [q_20_4]
    simp (disch := omega) only [q_20_0, q_20_1, q_20_2, q_20_3, q_20_5, q_20_7, q_20_10, q_20_11, q_20_12, q_20_15, q_20_16, q_20_17, q_20_18, q_20_19, q_20_22, q_20_25, q_20_26, q_20_28, q_20_29, vinT, iClamp, clr_i, clr_l, clr_r, clr_n, true_and, and_true, or_true, true_or, false_or, or_false, iLe, iLt, iEq, iAdd, iMul, List.cons_append, List.nil_append, List.append_nil, zb0, zb1, if_true, if_false, not_true_eq_false, not_false_eq_true, Bool.false_eq_true, Nat.one_ne_zero, Nat.zero_ne_one, Nat.reduceEqDiff, Nat.reduceAdd, if_pos, if_neg, hk, f7, f8, hc]
    rw [ih (i + 1) _ (by omega), smF, Nat.add_assoc]
theorem s_claimed {X : Nat × (Nat → Int32)} {σ : Mem} {Q : List Value → Mem → Prop} {k : Nat} {c : Nat → Nat} {v w : Value} (hk : cK k = 2) (hc : ∀ p, p < 7 → σ.1 (k + 8) p = nI (c p)) : Rn X 20 0 [.ref k, v, w] [] σ Q ↔ Q [.int (nI (smF c 0 7) - nI 100)] σ := by
  simp only [q_20_0, q_20_1, q_20_2, q_20_3, clr_i, clr_r, l_claimed hk hc 7 0 0 rfl, Nat.zero_add]
def lsF (w : Nat → Nat) (h : Nat → Nat → Nat) (s : Nat) (t : Nat) : Nat := if dn w h t = true ∧ ¬ bitN s t then w t else 0
theorem l_isKnown {X : Nat × (Nat → Int32)} {σ : Mem} {Q : List Value → Mem → Prop} {k s x : Nat} {w : Nat → Nat} {h : Nat → Nat → Nat} (hk : cK k = 2) (hs : s < 16) (hW : WH σ k w h) (h6 : σ.1 k 6 = nI (dtL w h 4)) : ∀ (n i a : Nat), i + n = 4 → (Rn X 21 5 [.ref k, .int (nI s), .int (nI x), .int (nI a), .int (nI i)] [] σ Q ↔ Rn X 21 48 [.ref k, .int (nI s), .int (nI x), .int (nI (a + smF (lsF w h s) i n)), .int (nI 4)] [] σ Q) := by
  obtain ⟨⟨f1, f2, f3, f4, f5, f6⟩, ⟨f7, f8, f9, f10, f11, f13, f14⟩, f12⟩ := F2 hk
  obtain ⟨w1, w2, w3, w4⟩ := id hW
  have hd := dtL_lt (w := w) (h := h) (n := 4) (by omega)
  intro n
  induction n with
  | zero =>
    intro i a hi
    have e : i = 4 := by omega
    subst e
    rw [q_21_5]
    simp (disch := omega) only [q_21_7, q_21_8, q_21_11, q_21_12, q_21_15, q_21_17, q_21_20, q_21_23, q_21_24, q_21_26, q_21_29, q_21_32, q_21_33, q_21_34, q_21_37, q_21_39, q_21_40, q_21_41, q_21_42, q_21_45, vinT, iClamp, clr_i, clr_l, clr_r, clr_n, true_and, and_true, or_true, true_or, false_or, or_false, iLe, iLt, iEq, iAdd, iMul, List.cons_append, List.nil_append, List.append_nil, zb0, zb1, if_true, if_false, not_true_eq_false, not_false_eq_true, Bool.false_eq_true, Nat.one_ne_zero, Nat.zero_ne_one, Nat.reduceEqDiff, Nat.reduceAdd, if_pos, if_neg, smF, Nat.add_zero]
  | succ n ih =>
    intro i a hi
    rw [q_21_5, smF]
    have q1 := w1 i (by omega)
    by_cases c1 : dn w h i = true
    · have hb := b2_t (dtL_bit (w := w) (h := h) (t := i) (by omega) |>.mpr c1)
      by_cases c2 : bitN s i
      · simp (disch := omega) only [q_21_7, q_21_8, q_21_11, q_21_12, q_21_15, q_21_17, q_21_20, q_21_23, q_21_24, q_21_26, q_21_29, q_21_32, q_21_33, q_21_34, q_21_37, q_21_39, q_21_40, q_21_41, q_21_42, q_21_45, vinT, iClamp, clr_i, clr_l, clr_r, clr_n, true_and, and_true, or_true, true_or, false_or, or_false, iLe, iLt, iEq, iAdd, iMul, List.cons_append, List.nil_append, List.append_nil, zb0, zb1, if_true, if_false, not_true_eq_false, not_false_eq_true, Bool.false_eq_true, Nat.one_ne_zero, Nat.zero_ne_one, Nat.reduceEqDiff, Nat.reduceAdd, if_pos, if_neg, hk, h6, s_isIn, hb, b2_t c2]
        rw [ih (i + 1) _ (by omega), lsF, if_neg (fun q => q.2 c2), Nat.zero_add]
      · simp (disch := omega) only [q_21_7, q_21_8, q_21_11, q_21_12, q_21_15, q_21_17, q_21_20, q_21_23, q_21_24, q_21_26, q_21_29, q_21_32, q_21_33, q_21_34, q_21_37, q_21_39, q_21_40, q_21_41, q_21_42, q_21_45, vinT, iClamp, clr_i, clr_l, clr_r, clr_n, true_and, and_true, or_true, true_or, false_or, or_false, iLe, iLt, iEq, iAdd, iMul, List.cons_append, List.nil_append, List.append_nil, zb0, zb1, if_true, if_false, not_true_eq_false, not_false_eq_true, Bool.false_eq_true, Nat.one_ne_zero, Nat.zero_ne_one, Nat.reduceEqDiff, Nat.reduceAdd, if_pos, if_neg, hk, h6, s_isIn, hb, b2_f c2, f1, f2, q1]
        rw [ih (i + 1) _ (by omega), lsF, if_pos ⟨c1, c2⟩, Nat.add_assoc]
    · have hb := b2_f (fun q => c1 ((dtL_bit (w := w) (h := h) (t := i) (by omega)).mp q))
      simp (disch := omega) only [q_21_7, q_21_8, q_21_11, q_21_12, q_21_15, q_21_17, q_21_20, q_21_23, q_21_24, q_21_26, q_21_29, q_21_32, q_21_33, q_21_34, q_21_37, q_21_39, q_21_40, q_21_41, q_21_42, q_21_45, vinT, iClamp, clr_i, clr_l, clr_r, clr_n, true_and, and_true, or_true, true_or, false_or, or_false, iLe, iLt, iEq, iAdd, iMul, List.cons_append, List.nil_append, List.append_nil, zb0, zb1, if_true, if_false, not_true_eq_false, not_false_eq_true, Bool.false_eq_true, Nat.one_ne_zero, Nat.zero_ne_one, Nat.reduceEqDiff, Nat.reduceAdd, if_pos, if_neg, hk, h6, s_isIn, hb]
      rw [ih (i + 1) _ (by omega), lsF, if_neg (fun q => c1 q.1), Nat.zero_add]
def knW (w : Nat → Nat) (h : Nat → Nat → Nat) (x s : Nat) : Bool := decide (smF (lsF w h s) 0 4 * 100 ≤ x * wsL w h 4)
theorem s_isKnown {X : Nat × (Nat → Int32)} {σ : Mem} {Q : List Value → Mem → Prop} {k s x : Nat} {w : Nat → Nat} {h : Nat → Nat → Nat} {u v : Value} (hk : cK k = 2) (hs : s < 16) (hx : x ≤ 100) (hW : WH σ k w h) (hD : DI σ k w h) : Rn X 21 0 [.ref k, .int (nI s), .int (nI x), u, v] [] σ Q ↔ Q [.int (b2 (knW w h x s = true))] σ := by
  obtain ⟨d1, d2, d3, d4⟩ := hD
  obtain ⟨w1, w2, w3, w4⟩ := id hW
  have hws := wsL_le (h := h) w3 4 (by omega)
  have hls : smF (lsF w h s) 0 4 ≤ 4 * 9 := smF_le 4 0 (fun j _ b => by
    have := w3 j (by omega)
    unfold lsF
    split <;> omega)
  have hm : x * wsL w h 4 ≤ 100 * 36 := Nat.mul_le_mul hx hws
  simp only [q_21_0, q_21_1, q_21_2, q_21_3, clr_i, l_isKnown hk hs hW d1 4 0 0 rfl, Nat.zero_add]
  simp (disch := omega) only [q_21_0, q_21_1, q_21_2, q_21_3, q_21_7, q_21_8, q_21_11, q_21_12, q_21_15, q_21_17, q_21_20, q_21_23, q_21_24, q_21_26, q_21_29, q_21_32, q_21_33, q_21_34, q_21_37, q_21_39, q_21_40, q_21_41, q_21_42, q_21_45, q_21_48, q_21_49, q_21_51, q_21_52, q_21_53, q_21_54, q_21_57, q_21_58, q_21_61, q_21_62, q_21_65, q_21_66, vinT, iClamp, clr_i, clr_l, clr_r, clr_n, true_and, and_true, or_true, true_or, false_or, or_false, iLe, iLt, iEq, iAdd, iMul, List.cons_append, List.nil_append, List.append_nil, zb0, zb1, if_true, if_false, not_true_eq_false, not_false_eq_true, Bool.false_eq_true, Nat.one_ne_zero, Nat.zero_ne_one, Nat.reduceEqDiff, Nat.reduceAdd, if_pos, if_neg, hk, d2]
  by_cases c : smF (lsF w h s) 0 4 * 100 ≤ x * wsL w h 4
  · rw [if_neg (by omega), b2_t (by simpa [knW] using c)]
  · rw [if_pos (by omega), b2_f (by simpa [knW] using c)]
def csF (co : Nat → Nat) (s t : Nat) : Nat := if bitN s t then co t else 0
theorem l_costOf {X : Nat × (Nat → Int32)} {σ : Mem} {Q : List Value → Mem → Prop} {k s : Nat} {co : Nat → Nat} (hk : cK k = 2) (hs : s < 16) (hc : ∀ t, t < 4 → σ.1 (k + 2) t = nI (co t)) : ∀ (n i a : Nat), i + n = 4 → (Rn X 22 4 [.ref k, .int (nI s), .int (nI a), .int (nI i)] [] σ Q ↔ Q [.int (nI (a + smF (csF co s) i n))] σ) := by
  obtain ⟨⟨f1, f2, f3, f4, f5, f6⟩, ⟨f7, f8, f9, f10, f11, f13, f14⟩, f12⟩ := F2 hk
  intro n
  induction n with
  | zero =>
    intro i a hi
    have e : i = 4 := by omega
    subst e
    rw [q_22_4]
    simp (disch := omega) only [q_22_0, q_22_1, q_22_2, q_22_3, q_22_5, q_22_6, q_22_9, q_22_10, q_22_11, q_22_14, q_22_17, q_22_18, q_22_19, q_22_22, q_22_23, q_22_24, q_22_25, q_22_26, q_22_29, q_22_32, q_22_33, vinT, iClamp, clr_i, clr_l, clr_r, clr_n, true_and, and_true, or_true, true_or, false_or, or_false, iLe, iLt, iEq, iAdd, iMul, List.cons_append, List.nil_append, List.append_nil, zb0, zb1, if_true, if_false, not_true_eq_false, not_false_eq_true, Bool.false_eq_true, Nat.one_ne_zero, Nat.zero_ne_one, Nat.reduceEqDiff, Nat.reduceAdd, if_pos, if_neg, smF, Nat.add_zero]
  | succ n ih =>
    intro i a hi
    rw [q_22_4, smF]
    by_cases c2 : bitN s i
    · simp (disch := omega) only [q_22_0, q_22_1, q_22_2, q_22_3, q_22_5, q_22_6, q_22_9, q_22_10, q_22_11, q_22_14, q_22_17, q_22_18, q_22_19, q_22_22, q_22_23, q_22_24, q_22_25, q_22_26, q_22_29, q_22_32, q_22_33, vinT, iClamp, clr_i, clr_l, clr_r, clr_n, true_and, and_true, or_true, true_or, false_or, or_false, iLe, iLt, iEq, iAdd, iMul, List.cons_append, List.nil_append, List.append_nil, zb0, zb1, if_true, if_false, not_true_eq_false, not_false_eq_true, Bool.false_eq_true, Nat.one_ne_zero, Nat.zero_ne_one, Nat.reduceEqDiff, Nat.reduceAdd, if_pos, if_neg, hk, s_isIn, b2_t c2, f3, f4, hc]
      rw [ih (i + 1) _ (by omega), csF, if_pos c2, Nat.add_assoc]
    · simp (disch := omega) only [q_22_0, q_22_1, q_22_2, q_22_3, q_22_5, q_22_6, q_22_9, q_22_10, q_22_11, q_22_14, q_22_17, q_22_18, q_22_19, q_22_22, q_22_23, q_22_24, q_22_25, q_22_26, q_22_29, q_22_32, q_22_33, vinT, iClamp, clr_i, clr_l, clr_r, clr_n, true_and, and_true, or_true, true_or, false_or, or_false, iLe, iLt, iEq, iAdd, iMul, List.cons_append, List.nil_append, List.append_nil, zb0, zb1, if_true, if_false, not_true_eq_false, not_false_eq_true, Bool.false_eq_true, Nat.one_ne_zero, Nat.zero_ne_one, Nat.reduceEqDiff, Nat.reduceAdd, if_pos, if_neg, hk, s_isIn, b2_f c2]
      rw [ih (i + 1) _ (by omega), csF, if_neg c2, Nat.zero_add]
theorem s_costOf {X : Nat × (Nat → Int32)} {σ : Mem} {Q : List Value → Mem → Prop} {k s : Nat} {co : Nat → Nat} {u v : Value} (hk : cK k = 2) (hs : s < 16) (hc : ∀ t, t < 4 → σ.1 (k + 2) t = nI (co t)) : Rn X 22 0 [.ref k, .int (nI s), u, v] [] σ Q ↔ Q [.int (nI (smF (csF co s) 0 4))] σ := by
  simp only [q_22_0, q_22_1, q_22_2, q_22_3, clr_i, l_costOf hk hs hc 4 0 0 rfl, Nat.zero_add]
def pc4 (s : Nat) : Nat := s % 2 + s / 2 % 2 + s / 4 % 2 + s / 8 % 2
theorem s_bitCount {X : Nat × (Nat → Int32)} {σ : Mem} {Q : List Value → Mem → Prop} {s : Nat} (hs : s < 16) : Rn X 173 0 [.int (nI s)] [] σ Q ↔ Q [.int (nI (pc4 s))] σ := by
  simp only [q_173_0, q_173_1, q_173_2, q_173_3, q_173_4, q_173_7, q_173_8, q_173_9, q_173_10, q_173_11, q_173_14, q_173_15, q_173_16, q_173_17, q_173_18, q_173_21, q_173_22, q_173_23, q_173_24, q_173_25, q_173_26, q_173_27, q_173_28, q_173_29, q_173_32, q_173_33, q_173_34, q_173_35, q_173_36, q_173_38, q_173_39, q_173_40, q_173_41, q_173_42, q_173_43, q_173_45, q_173_46, q_173_47, q_173_48, q_173_49, q_173_51, q_173_52]
  refine iff_of_eq (congrArg (fun z => Q [Value.int z] σ) ?_)
  revert s
  decide
def drB (co : Nat → Nat) (a b : Nat) : Bool := if smF (csF co a) 0 4 = smF (csF co b) 0 4 then decide (pc4 b < pc4 a) else decide (smF (csF co b) 0 4 < smF (csF co a) 0 4)
theorem pc4_le (s : Nat) : pc4 s ≤ 4 := by unfold pc4; omega
theorem csF_le {co : Nat → Nat} (hc : ∀ t, t < 4 → co t ≤ 50) (s : Nat) : smF (csF co s) 0 4 ≤ 4 * 50 := smF_le 4 0 (fun j _ b => by
    have := hc j (by omega)
    unfold csF
    split <;> omega)
theorem s_isDearer {X : Nat × (Nat → Int32)} {σ : Mem} {Q : List Value → Mem → Prop} {k a b : Nat} {co : Nat → Nat} {u v : Value} (hk : cK k = 2) (ha : a < 16) (hb : b < 16) (hc : ∀ t, t < 4 → σ.1 (k + 2) t = nI (co t)) (hl : ∀ t, t < 4 → co t ≤ 50) : Rn X 24 0 [.ref k, .int (nI a), .int (nI b), u, v] [] σ Q ↔ Q [.int (b2 (drB co a b = true))] σ := by
  have h1 := csF_le hl a
  have h2 := csF_le hl b
  have h3 := pc4_le a
  have h4 := pc4_le b
  simp (disch := omega) only [q_24_0, q_24_1, q_24_2, q_24_5, q_24_6, q_24_7, q_24_8, q_24_11, q_24_13, q_24_14, q_24_16, q_24_19, q_24_20, q_24_22, q_24_25, q_24_26, q_24_29, q_24_30, q_24_31, q_24_32, q_24_35, q_24_36, q_24_39, q_24_42, q_24_43, q_24_46, q_24_47, vinT, iClamp, clr_i, clr_l, clr_r, clr_n, true_and, and_true, or_true, true_or, false_or, or_false, iLe, iLt, iEq, iAdd, iMul, List.cons_append, List.nil_append, List.append_nil, zb0, zb1, if_true, if_false, not_true_eq_false, not_false_eq_true, Bool.false_eq_true, Nat.one_ne_zero, Nat.zero_ne_one, Nat.reduceEqDiff, Nat.reduceAdd, if_pos, if_neg, hk, s_costOf hk ha hc, s_costOf hk hb hc, s_bitCount ha, s_bitCount hb]
  unfold drB
  by_cases c : smF (csF co a) 0 4 = smF (csF co b) 0 4
  · rw [if_pos c]
    by_cases c2 : pc4 b < pc4 a
    · rw [if_neg (by omega), b2_t (by rw [if_pos c]; simpa using c2)]
    · rw [if_pos (by omega), b2_f (by rw [if_pos c]; simpa using c2)]
  · rw [if_neg c]
    by_cases c2 : smF (csF co b) 0 4 < smF (csF co a) 0 4
    · rw [if_neg (by omega), b2_t (by rw [if_neg c]; simpa using c2)]
    · rw [if_pos (by omega), b2_f (by rw [if_neg c]; simpa using c2)]
/-- the best set below n, from above -/
def tkD (kn : Nat → Bool) (dr : Nat → Nat → Bool) : Nat → Nat → Nat
  | 0, b => b
  | n + 1, b => tkD kn dr n (if kn n = true ∧ dr n b = false then n else b)
theorem tkD_lt {kn : Nat → Bool} {dr : Nat → Nat → Bool} : ∀ n b, n ≤ 16 → b < 16 → tkD kn dr n b < 16
  | 0, b, _, h => h
  | n + 1, b, hn, h => by
    rw [tkD]
    apply tkD_lt n _ (by omega)
    split <;> omega
theorem l_keep {X : Nat × (Nat → Int32)} {σ : Mem} {Q : List Value → Mem → Prop} {k x : Nat} {w : Nat → Nat} {h : Nat → Nat → Nat} {co : Nat → Nat} (hk : cK k = 2) (hx : x ≤ 100) (hW : WH σ k w h) (hD : DI σ k w h) (hc : ∀ t, t < 4 → σ.1 (k + 2) t = nI (co t)) (hl : ∀ t, t < 4 → co t ≤ 50) : ∀ n b, n ≤ 15 → b < 16 → (Rn X 23 7 [.ref k, .int (nI x), .int (nI b), .int (nI n + (-1))] [] σ Q ↔ Q [.int (nI (tkD (knW w h x) (drB co) n b))] σ) := by
  intro n
  induction n with
  | zero =>
    intro b hn hb
    rw [q_23_7]
    simp (disch := omega) only [q_23_0, q_23_2, q_23_3, q_23_4, q_23_5, q_23_6, q_23_8, q_23_11, q_23_12, q_23_13, q_23_14, q_23_17, q_23_20, q_23_21, q_23_22, q_23_23, q_23_26, q_23_29, q_23_30, q_23_31, q_23_34, q_23_37, q_23_38, vinT, iClamp, clr_i, clr_l, clr_r, clr_n, true_and, and_true, or_true, true_or, false_or, or_false, iLe, iLt, iEq, iAdd, iMul, List.cons_append, List.nil_append, List.append_nil, zb0, zb1, if_true, if_false, not_true_eq_false, not_false_eq_true, Bool.false_eq_true, Nat.one_ne_zero, Nat.zero_ne_one, Nat.reduceEqDiff, Nat.reduceAdd, if_pos, if_neg, neg1_lt, tkD]
  | succ n ih =>
    intro b hn hb
    rw [q_23_7, pk_m1, tkD]
    by_cases c1 : knW w h x n = true
    · by_cases c2 : drB co n b = true
      · simp (disch := omega) only [q_23_0, q_23_2, q_23_3, q_23_4, q_23_5, q_23_6, q_23_8, q_23_11, q_23_12, q_23_13, q_23_14, q_23_17, q_23_20, q_23_21, q_23_22, q_23_23, q_23_26, q_23_29, q_23_30, q_23_31, q_23_34, q_23_37, q_23_38, vinT, iClamp, clr_i, clr_l, clr_r, clr_n, true_and, and_true, or_true, true_or, false_or, or_false, iLe, iLt, iEq, iAdd, iMul, List.cons_append, List.nil_append, List.append_nil, zb0, zb1, if_true, if_false, not_true_eq_false, not_false_eq_true, Bool.false_eq_true, Nat.one_ne_zero, Nat.zero_ne_one, Nat.reduceEqDiff, Nat.reduceAdd, if_pos, if_neg, hk, s_isKnown hk (show n < 16 by omega) hx hW hD, b2_t c1, s_isDearer hk (show n < 16 by omega) hb hc hl, b2_t c2]
        rw [ih b (by omega) hb, if_neg (by simp [c2])]
      · simp (disch := omega) only [q_23_0, q_23_2, q_23_3, q_23_4, q_23_5, q_23_6, q_23_8, q_23_11, q_23_12, q_23_13, q_23_14, q_23_17, q_23_20, q_23_21, q_23_22, q_23_23, q_23_26, q_23_29, q_23_30, q_23_31, q_23_34, q_23_37, q_23_38, vinT, iClamp, clr_i, clr_l, clr_r, clr_n, true_and, and_true, or_true, true_or, false_or, or_false, iLe, iLt, iEq, iAdd, iMul, List.cons_append, List.nil_append, List.append_nil, zb0, zb1, if_true, if_false, not_true_eq_false, not_false_eq_true, Bool.false_eq_true, Nat.one_ne_zero, Nat.zero_ne_one, Nat.reduceEqDiff, Nat.reduceAdd, if_pos, if_neg, hk, s_isKnown hk (show n < 16 by omega) hx hW hD, b2_t c1, s_isDearer hk (show n < 16 by omega) hb hc hl, b2_f c2]
        rw [ih n (by omega) (by omega), if_pos ⟨c1, by simpa using c2⟩]
    · simp (disch := omega) only [q_23_0, q_23_2, q_23_3, q_23_4, q_23_5, q_23_6, q_23_8, q_23_11, q_23_12, q_23_13, q_23_14, q_23_17, q_23_20, q_23_21, q_23_22, q_23_23, q_23_26, q_23_29, q_23_30, q_23_31, q_23_34, q_23_37, q_23_38, vinT, iClamp, clr_i, clr_l, clr_r, clr_n, true_and, and_true, or_true, true_or, false_or, or_false, iLe, iLt, iEq, iAdd, iMul, List.cons_append, List.nil_append, List.append_nil, zb0, zb1, if_true, if_false, not_true_eq_false, not_false_eq_true, Bool.false_eq_true, Nat.one_ne_zero, Nat.zero_ne_one, Nat.reduceEqDiff, Nat.reduceAdd, if_pos, if_neg, hk, s_isKnown hk (show n < 16 by omega) hx hW hD, b2_f c1]
      rw [ih b (by omega) hb, if_neg (by simp [c1])]
theorem s_keep {X : Nat × (Nat → Int32)} {σ : Mem} {Q : List Value → Mem → Prop} {k x : Nat} {w : Nat → Nat} {h : Nat → Nat → Nat} {co : Nat → Nat} {u v : Value} (hk : cK k = 2) (hx : x ≤ 100) (hW : WH σ k w h) (hD : DI σ k w h) (hc : ∀ t, t < 4 → σ.1 (k + 2) t = nI (co t)) (hl : ∀ t, t < 4 → co t ≤ 50) : Rn X 23 0 [.ref k, .int (nI x), u, v] [] σ Q ↔ Q [.int (nI (tkD (knW w h x) (drB co) 15 15))] σ := by
  simp only [q_23_0, q_23_2, q_23_3, q_23_4, q_23_5, q_23_6, clr_i]
  rw [show nI 15 - nI 1 = nI 15 + (-1) by decide]
  exact l_keep hk hx hW hD hc hl 15 15 (by omega) (by omega)
