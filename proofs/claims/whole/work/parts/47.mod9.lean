/-! ===== the reference: what to keep, what it costs, how many ===== -/
theorem bit01 (s m : Nat) : s / 2 ^ m % 2 = 0 ∨ s / 2 ^ m % 2 = 1 := by omega
theorem l_costM {X : Nat × (Nat → Int32)} {σ : Mem} {Q : List Value → Mem → Prop} {a : AS} {p s : Nat} (h : MI σ a) (hp : p < 8) (hs : s < 16) : ∀ n i c, i + n = 4 → (Rn X 167 5 [.ref 127, .int (nI p), .int (nI s), .int (nI c), .int (nI i)] [] σ Q ↔ Q [.int (nI (c + smF (csF (co a p) s) i n))] σ) := by
  obtain ⟨m1, m2, m3, m4, m5, m6, m7, m8, m9, m10⟩ := id h
  intro n
  induction n with
  | zero =>
    intro i c hi
    have e : i = 4 := by omega
    subst e
    rw [q_167_5]
    simp (disch := omega) only [q_167_0, q_167_1, q_167_2, q_167_3, q_167_7, q_167_8, q_167_11, q_167_12, q_167_13, q_167_15, q_167_16, q_167_17, q_167_18, q_167_19, q_167_22, q_167_23, q_167_26, q_167_27, q_167_28, q_167_29, q_167_31, q_167_32, q_167_33, q_167_36, q_167_37, q_167_38, q_167_39, q_167_42, q_167_45, q_167_46, vinT, iClamp, clr_i, clr_l, clr_r, clr_n, true_and, and_true, or_true, true_or, false_or, or_false, iLe, iLt, iEq, iAdd, iMul, List.cons_append, List.nil_append, List.append_nil, zb0, zb1, if_true, if_false, not_true_eq_false, not_false_eq_true, Bool.false_eq_true, Nat.one_ne_zero, Nat.zero_ne_one, Nat.reduceEqDiff, Nat.reduceAdd, if_pos, if_neg, smF, Nat.add_zero]
  | succ n ih =>
    intro i c hi
    rw [q_167_5, smF]
    by_cases c2 : bitN s i
    · have c3 : s / 2 ^ i % 2 = 1 := c2
      simp (disch := omega) only [q_167_0, q_167_1, q_167_2, q_167_3, q_167_7, q_167_8, q_167_11, q_167_12, q_167_13, q_167_15, q_167_16, q_167_17, q_167_18, q_167_19, q_167_22, q_167_23, q_167_26, q_167_27, q_167_28, q_167_29, q_167_31, q_167_32, q_167_33, q_167_36, q_167_37, q_167_38, q_167_39, q_167_42, q_167_45, q_167_46, vinT, iClamp, clr_i, clr_l, clr_r, clr_n, true_and, and_true, or_true, true_or, false_or, or_false, iLe, iLt, iEq, iAdd, iMul, List.cons_append, List.nil_append, List.append_nil, zb0, zb1, if_true, if_false, not_true_eq_false, not_false_eq_true, Bool.false_eq_true, Nat.one_ne_zero, Nat.zero_ne_one, Nat.reduceEqDiff, Nat.reduceAdd, if_pos, if_neg, m127, m128k, m128n, m129k, m129n, m130k, m130n, m131k, m131n, m132k, m132n, m133k, m133n, m134k, m134n, m135k, m135n, m136k, m136n, m137k, m137n, m138k, m138n, m139k, m139n, m140k, m140n, m141k, m141n, m142k, m142n, m143k, m143n, m144k, m144n, m145k, m145n, m146k, m146n, bit_at, c3, m3 p hp i (by omega)]
      rw [ih (i + 1) _ (by omega), csF, if_pos c2, Nat.add_assoc]
    · have c3 : s / 2 ^ i % 2 = 0 := (bit01 s i).resolve_right c2
      simp (disch := omega) only [q_167_0, q_167_1, q_167_2, q_167_3, q_167_7, q_167_8, q_167_11, q_167_12, q_167_13, q_167_15, q_167_16, q_167_17, q_167_18, q_167_19, q_167_22, q_167_23, q_167_26, q_167_27, q_167_28, q_167_29, q_167_31, q_167_32, q_167_33, q_167_36, q_167_37, q_167_38, q_167_39, q_167_42, q_167_45, q_167_46, vinT, iClamp, clr_i, clr_l, clr_r, clr_n, true_and, and_true, or_true, true_or, false_or, or_false, iLe, iLt, iEq, iAdd, iMul, List.cons_append, List.nil_append, List.append_nil, zb0, zb1, if_true, if_false, not_true_eq_false, not_false_eq_true, Bool.false_eq_true, Nat.one_ne_zero, Nat.zero_ne_one, Nat.reduceEqDiff, Nat.reduceAdd, if_pos, if_neg, m127, m128k, m128n, m129k, m129n, m130k, m130n, m131k, m131n, m132k, m132n, m133k, m133n, m134k, m134n, m135k, m135n, m136k, m136n, m137k, m137n, m138k, m138n, m139k, m139n, m140k, m140n, m141k, m141n, m142k, m142n, m143k, m143n, m144k, m144n, m145k, m145n, m146k, m146n, bit_at, c3]
      rw [ih (i + 1) _ (by omega), csF, if_neg c2, Nat.zero_add, Nat.add_zero]
theorem s_costM {X : Nat × (Nat → Int32)} {σ : Mem} {Q : List Value → Mem → Prop} {a : AS} {p s : Nat} {u v : Value} (h : MI σ a) (hp : p < 8) (hs : s < 16) : Rn X 167 0 [.ref 127, .int (nI p), .int (nI s), u, v] [] σ Q ↔ Q [.int (nI (smF (csF (co a p) s) 0 4))] σ := by
  simp only [q_167_0, q_167_1, q_167_2, q_167_3, clr_i, l_costM h hp hs 4 0 0 rfl, Nat.zero_add]
theorem s_ones {X : Nat × (Nat → Int32)} {σ : Mem} {Q : List Value → Mem → Prop} {s : Nat} (hs : s < 16) : Rn X 168 0 [.int (nI s)] [] σ Q ↔ Q [.int (nI (pc4 s))] σ := by
  simp only [q_168_0, q_168_1, q_168_2, q_168_3, q_168_4, q_168_5, q_168_6, q_168_7, q_168_8, q_168_9, q_168_10, q_168_11, q_168_12, q_168_13, q_168_14, q_168_15, q_168_16, q_168_17, q_168_18, q_168_19, q_168_20, q_168_21]
  refine iff_of_eq (congrArg (fun z => Q [Value.int z] σ) ?_)
  revert s
  decide
/-! the best set, from below -/
def tkS (kn : Nat → Bool) (dr : Nat → Nat → Bool) (s : Nat) (o : Option Nat) : Option Nat := if kn s = true then o.elim (some s) (fun b => if dr b s = true then some s else some b) else o
def tkU (kn : Nat → Bool) (dr : Nat → Nat → Bool) (s : Nat) : Nat → Option Nat → Option Nat
  | 0, o => o
  | n + 1, o => tkU kn dr (s + 1) n (tkS kn dr s o)
def lexL (W : Nat → Nat) (r s : Nat) : Prop := W r < W s ∨ (W r = W s ∧ r ≤ s)
theorem tkD_min {kn : Nat → Bool} {dr : Nat → Nat → Bool} {W : Nat → Nat} (hd : ∀ a b, a < 16 → b < 16 → (dr a b = true ↔ W b < W a)) : ∀ n b, n ≤ b → b < 16 → kn b = true → lexL W (tkD kn dr n b) b ∧ kn (tkD kn dr n b) = true ∧ ∀ s, s < n → kn s = true → lexL W (tkD kn dr n b) s
  | 0, b, _, _, hk => ⟨Or.inr ⟨rfl, Nat.le_refl _⟩, hk, fun s hs => absurd hs (by omega)⟩
  | n + 1, b, hn, hb, hk => by
    rw [tkD]
    have hq := hd n b (by omega) hb
    by_cases c : kn n = true ∧ dr n b = false
    · rw [if_pos c]
      obtain ⟨i1, i2, i3⟩ := tkD_min hd n n (Nat.le_refl _) (by omega) c.1
      have h1 : ¬ W b < W n := fun q => by
        have := hq.mpr q
        rw [c.2] at this
        cases this
      refine ⟨?_, i2, fun s hs hk2 => ?_⟩
      · unfold lexL at i1 ⊢
        omega
      · by_cases e : s = n
        · rw [e]; exact i1
        · exact i3 s (by omega) hk2
    · rw [if_neg c]
      obtain ⟨i1, i2, i3⟩ := tkD_min hd n b (by omega) hb hk
      refine ⟨i1, i2, fun s hs hk2 => ?_⟩
      by_cases e : s = n
      · subst e
        have h1 : W b < W s := by
          rw [← hq]
          cases h2 : dr s b with
          | true => rfl
          | false => exact absurd ⟨hk2, h2⟩ c
        unfold lexL at i1 ⊢
        omega
      · exact i3 s (by omega) hk2
def tkG (kn : Nat → Bool) (W : Nat → Nat) (s : Nat) (o : Option Nat) : Prop := (o = none ∧ ∀ j, j < s → kn j = false) ∨ ∃ b, o = some b ∧ b < s ∧ kn b = true ∧ ∀ j, j < s → kn j = true → lexL W b j
theorem tkS_ok {kn : Nat → Bool} {dr : Nat → Nat → Bool} {W : Nat → Nat} (hd : ∀ a b, a < 16 → b < 16 → (dr a b = true ↔ W b < W a)) {s : Nat} {o : Option Nat} (hs : s < 16) (h : tkG kn W s o) : tkG kn W (s + 1) (tkS kn dr s o) := by
  unfold tkS
  by_cases c : kn s = true
  · rw [if_pos c]
    rcases h with ⟨rfl, h⟩ | ⟨b, rfl, h1, h2, h3⟩
    · refine Or.inr ⟨s, rfl, by omega, c, fun j hj hk => ?_⟩
      by_cases e : j = s
      · rw [e]; exact Or.inr ⟨rfl, Nat.le_refl _⟩
      · rw [h j (by omega)] at hk
        cases hk
    · have hq := hd b s (by omega) hs
      show tkG kn W (s + 1) (if dr b s = true then some s else some b)
      by_cases c2 : dr b s = true
      · rw [if_pos c2]
        have := hq.mp c2
        refine Or.inr ⟨s, rfl, by omega, c, fun j hj hk => ?_⟩
        by_cases e : j = s
        · rw [e]; exact Or.inr ⟨rfl, Nat.le_refl _⟩
        · have := h3 j (by omega) hk
          unfold lexL at this ⊢
          omega
      · rw [if_neg c2]
        have : ¬ W s < W b := fun q => c2 (hq.mpr q)
        refine Or.inr ⟨b, rfl, by omega, h2, fun j hj hk => ?_⟩
        by_cases e : j = s
        · subst e
          unfold lexL
          omega
        · exact h3 j (by omega) hk
  · rw [if_neg c]
    rcases h with ⟨rfl, h⟩ | ⟨b, rfl, h1, h2, h3⟩
    · refine Or.inl ⟨rfl, fun j hj => ?_⟩
      by_cases e : j = s
      · rw [e]; simpa using c
      · exact h j (by omega)
    · refine Or.inr ⟨b, rfl, by omega, h2, fun j hj hk => ?_⟩
      by_cases e : j = s
      · rw [e] at hk; exact absurd hk c
      · exact h3 j (by omega) hk
theorem tkU_ok {kn : Nat → Bool} {dr : Nat → Nat → Bool} {W : Nat → Nat} (hd : ∀ a b, a < 16 → b < 16 → (dr a b = true ↔ W b < W a)) : ∀ n s o, s + n = 16 → tkG kn W s o → tkG kn W 16 (tkU kn dr s n o)
  | 0, s, o, hs, h => by
    have e : s = 16 := by omega
    rw [tkU, ← e]
    exact h
  | n + 1, s, o, hs, h => by
    rw [tkU]
    exact tkU_ok hd n (s + 1) _ (by omega) (tkS_ok hd (by omega) h)
theorem tk_eq {kn : Nat → Bool} {dr : Nat → Nat → Bool} {W : Nat → Nat} (hd : ∀ a b, a < 16 → b < 16 → (dr a b = true ↔ W b < W a)) (h15 : kn 15 = true) : tkU kn dr 0 16 none = some (tkD kn dr 15 15) := by
  obtain ⟨i1, i2, i3⟩ := tkD_min (kn := kn) hd 15 15 (Nat.le_refl _) (by omega) h15
  have hl := tkD_lt (kn := kn) (dr := dr) 15 15 (by omega) (by omega)
  rcases tkU_ok (kn := kn) hd 16 0 none rfl (Or.inl ⟨rfl, fun j hj => absurd hj (by omega)⟩) with ⟨h1, h2⟩ | ⟨b, h1, h2, h3, h4⟩
  · have := h2 15 (by omega)
    rw [h15] at this
    cases this
  · rw [h1]
    have a1 := h4 _ hl i2
    have a2 : lexL W (tkD kn dr 15 15) b := by
      by_cases e : b = 15
      · rw [e]; exact i1
      · exact i3 b (by omega) h3
    unfold lexL at a1 a2
    congr 1
    omega
theorem drB_W {c : Nat → Nat} (a b : Nat) : drB c a b = true ↔ smF (csF c b) 0 4 * 5 + pc4 b < smF (csF c a) 0 4 * 5 + pc4 a := by
  have h3 := pc4_le a
  have h4 := pc4_le b
  unfold drB
  by_cases e : smF (csF c a) 0 4 = smF (csF c b) 0 4
  · rw [if_pos e, decide_eq_true_eq]
    omega
  · rw [if_neg e, decide_eq_true_eq]
    omega
theorem kn15 (w : Nat → Nat) (h : Nat → Nat → Nat) (x : Nat) : knW w h x 15 = true := by
  have e : smF (lsF w h 15) 0 4 = 0 := by
    simp [smF, lsF]
  rw [knW, decide_eq_true_eq, e]
  omega
def wdF (w : Nat → Nat) (h : Nat → Nat → Nat) (t : Nat) : Nat := if dn w h t = true then w t else 0
theorem wdF_ws (w : Nat → Nat) (h : Nat → Nat → Nat) : smF (wdF w h) 0 4 = wsL w h 4 := by
  simp only [smF, wsL, wdF, Nat.reduceAdd]
  split <;> split <;> split <;> split <;> omega
theorem l_keptI {X : Nat × (Nat → Int32)} {σ : Mem} {a : AS} {p s w : Nat} {b : Int32} (ok : AOK a) (h : MI σ a) (hp : p < 8) (hs : s < 16) : ∀ n i A L (v : Value), i + n = 4 → ∃ v', ∀ Q, (Rn X 169 22 [.ref 127, .int (nI p), .int (nI w), .int b, .int (nI s), .int (nI A), .int (nI L), .int (nI i), v] [] σ Q ↔ Rn X 169 93 [.ref 127, .int (nI p), .int (nI w), .int b, .int (nI s), .int (nI (A + smF (wdF (wt a p) (hr a p)) i n)), .int (nI (L + smF (lsF (wt a p) (hr a p) s) i n)), .int (nI 4), v'] [] σ Q) := by
  obtain ⟨m1, m2, m3, m4, m5, m6, m7, m8, m9, m10⟩ := id h
  intro n
  induction n with
  | zero =>
    intro i A L v hi
    have e : i = 4 := by omega
    subst e
    refine ⟨v, fun Q => ?_⟩
    rw [q_169_22]
    simp (disch := omega) only [q_169_24, q_169_25, q_169_28, q_169_29, q_169_30, q_169_31, q_169_32, q_169_34, q_169_35, q_169_38, q_169_41, q_169_42, q_169_45, q_169_46, q_169_47, q_169_48, q_169_50, q_169_51, q_169_52, q_169_55, q_169_56, q_169_58, q_169_60, q_169_62, q_169_63, q_169_65, q_169_67, q_169_69, q_169_71, q_169_72, q_169_73, q_169_74, q_169_75, q_169_78, q_169_79, q_169_82, q_169_84, q_169_85, q_169_87, q_169_90, vinT, iClamp, clr_i, clr_l, clr_r, clr_n, true_and, and_true, or_true, true_or, false_or, or_false, iLe, iLt, iEq, iAdd, iMul, List.cons_append, List.nil_append, List.append_nil, zb0, zb1, if_true, if_false, not_true_eq_false, not_false_eq_true, Bool.false_eq_true, Nat.one_ne_zero, Nat.zero_ne_one, Nat.reduceEqDiff, Nat.reduceAdd, if_pos, if_neg, smF, Nat.add_zero]
  | succ n ih =>
    intro i A L v hi
    have hi4 : i < 4 := by omega
    by_cases c1 : dn (wt a p) (hr a p) i = true
    · by_cases c2 : bitN s i
      · have c3 : s / 2 ^ i % 2 = 1 := c2
        obtain ⟨v', i1⟩ := ih (i + 1) (A + wt a p i) L (.int (nI (wt a p i))) (by omega)
        refine ⟨v', fun Q => ?_⟩
        rw [q_169_22, smF, smF]
        simp (disch := omega) only [q_169_24, q_169_25, q_169_28, q_169_29, q_169_30, q_169_31, q_169_32, q_169_34, q_169_35, q_169_38, q_169_41, q_169_42, q_169_45, q_169_46, q_169_47, q_169_48, q_169_50, q_169_51, q_169_52, q_169_55, q_169_56, q_169_58, q_169_60, q_169_62, q_169_63, q_169_65, q_169_67, q_169_69, q_169_71, q_169_72, q_169_73, q_169_74, q_169_75, q_169_78, q_169_79, q_169_82, q_169_84, q_169_85, q_169_87, q_169_90, vinT, iClamp, clr_i, clr_l, clr_r, clr_n, true_and, and_true, or_true, true_or, false_or, or_false, iLe, iLt, iEq, iAdd, iMul, List.cons_append, List.nil_append, List.append_nil, zb0, zb1, if_true, if_false, not_true_eq_false, not_false_eq_true, Bool.false_eq_true, Nat.one_ne_zero, Nat.zero_ne_one, Nat.reduceEqDiff, Nat.reduceAdd, if_pos, if_neg, m127, m128k, m128n, m129k, m129n, m130k, m130n, m131k, m131n, m132k, m132n, m133k, m133n, m134k, m134n, m135k, m135n, m136k, m136n, m137k, m137n, m138k, m138n, m139k, m139n, m140k, m140n, m141k, m141n, m142k, m142n, m143k, m143n, m144k, m144n, m145k, m145n, m146k, m146n, s_isDoneM h ok hp hi4, b2_t c1, bit_at, c3, m2 p hp i hi4]
        rw [Nat.add_zero, i1 Q, wdF, if_pos c1, lsF, if_neg (fun q => q.2 c2), Nat.add_assoc, Nat.zero_add]
      · have c3 : s / 2 ^ i % 2 = 0 := (bit01 s i).resolve_right c2
        obtain ⟨v', i1⟩ := ih (i + 1) (A + wt a p i) (L + wt a p i) (.int (nI (wt a p i))) (by omega)
        refine ⟨v', fun Q => ?_⟩
        rw [q_169_22, smF, smF]
        simp (disch := omega) only [q_169_24, q_169_25, q_169_28, q_169_29, q_169_30, q_169_31, q_169_32, q_169_34, q_169_35, q_169_38, q_169_41, q_169_42, q_169_45, q_169_46, q_169_47, q_169_48, q_169_50, q_169_51, q_169_52, q_169_55, q_169_56, q_169_58, q_169_60, q_169_62, q_169_63, q_169_65, q_169_67, q_169_69, q_169_71, q_169_72, q_169_73, q_169_74, q_169_75, q_169_78, q_169_79, q_169_82, q_169_84, q_169_85, q_169_87, q_169_90, vinT, iClamp, clr_i, clr_l, clr_r, clr_n, true_and, and_true, or_true, true_or, false_or, or_false, iLe, iLt, iEq, iAdd, iMul, List.cons_append, List.nil_append, List.append_nil, zb0, zb1, if_true, if_false, not_true_eq_false, not_false_eq_true, Bool.false_eq_true, Nat.one_ne_zero, Nat.zero_ne_one, Nat.reduceEqDiff, Nat.reduceAdd, if_pos, if_neg, m127, m128k, m128n, m129k, m129n, m130k, m130n, m131k, m131n, m132k, m132n, m133k, m133n, m134k, m134n, m135k, m135n, m136k, m136n, m137k, m137n, m138k, m138n, m139k, m139n, m140k, m140n, m141k, m141n, m142k, m142n, m143k, m143n, m144k, m144n, m145k, m145n, m146k, m146n, s_isDoneM h ok hp hi4, b2_t c1, bit_at, c3, m2 p hp i hi4]
        rw [i1 Q, wdF, if_pos c1, lsF, if_pos ⟨c1, c2⟩, Nat.add_assoc, Nat.add_assoc]
    · obtain ⟨v', i1⟩ := ih (i + 1) A L (.int (nI 0)) (by omega)
      refine ⟨v', fun Q => ?_⟩
      rw [q_169_22, smF, smF, wdF, if_neg c1, lsF, if_neg (fun q => c1 q.1)]
      by_cases c2 : bitN s i
      · have c3 : s / 2 ^ i % 2 = 1 := c2
        simp (disch := omega) only [q_169_24, q_169_25, q_169_28, q_169_29, q_169_30, q_169_31, q_169_32, q_169_34, q_169_35, q_169_38, q_169_41, q_169_42, q_169_45, q_169_46, q_169_47, q_169_48, q_169_50, q_169_51, q_169_52, q_169_55, q_169_56, q_169_58, q_169_60, q_169_62, q_169_63, q_169_65, q_169_67, q_169_69, q_169_71, q_169_72, q_169_73, q_169_74, q_169_75, q_169_78, q_169_79, q_169_82, q_169_84, q_169_85, q_169_87, q_169_90, vinT, iClamp, clr_i, clr_l, clr_r, clr_n, true_and, and_true, or_true, true_or, false_or, or_false, iLe, iLt, iEq, iAdd, iMul, List.cons_append, List.nil_append, List.append_nil, zb0, zb1, if_true, if_false, not_true_eq_false, not_false_eq_true, Bool.false_eq_true, Nat.one_ne_zero, Nat.zero_ne_one, Nat.reduceEqDiff, Nat.reduceAdd, if_pos, if_neg, m127, m128k, m128n, m129k, m129n, m130k, m130n, m131k, m131n, m132k, m132n, m133k, m133n, m134k, m134n, m135k, m135n, m136k, m136n, m137k, m137n, m138k, m138n, m139k, m139n, m140k, m140n, m141k, m141n, m142k, m142n, m143k, m143n, m144k, m144n, m145k, m145n, m146k, m146n, s_isDoneM h ok hp hi4, b2_f c1, bit_at, c3]
        rw [Nat.add_zero, Nat.add_zero, i1 Q, Nat.zero_add, Nat.zero_add]
      · have c3 : s / 2 ^ i % 2 = 0 := (bit01 s i).resolve_right c2
        simp (disch := omega) only [q_169_24, q_169_25, q_169_28, q_169_29, q_169_30, q_169_31, q_169_32, q_169_34, q_169_35, q_169_38, q_169_41, q_169_42, q_169_45, q_169_46, q_169_47, q_169_48, q_169_50, q_169_51, q_169_52, q_169_55, q_169_56, q_169_58, q_169_60, q_169_62, q_169_63, q_169_65, q_169_67, q_169_69, q_169_71, q_169_72, q_169_73, q_169_74, q_169_75, q_169_78, q_169_79, q_169_82, q_169_84, q_169_85, q_169_87, q_169_90, vinT, iClamp, clr_i, clr_l, clr_r, clr_n, true_and, and_true, or_true, true_or, false_or, or_false, iLe, iLt, iEq, iAdd, iMul, List.cons_append, List.nil_append, List.append_nil, zb0, zb1, if_true, if_false, not_true_eq_false, not_false_eq_true, Bool.false_eq_true, Nat.one_ne_zero, Nat.zero_ne_one, Nat.reduceEqDiff, Nat.reduceAdd, if_pos, if_neg, m127, m128k, m128n, m129k, m129n, m130k, m130n, m131k, m131n, m132k, m132n, m133k, m133n, m134k, m134n, m135k, m135n, m136k, m136n, m137k, m137n, m138k, m138n, m139k, m139n, m140k, m140n, m141k, m141n, m142k, m142n, m143k, m143n, m144k, m144n, m145k, m145n, m146k, m146n, s_isDoneM h ok hp hi4, b2_f c1, bit_at, c3]
        rw [Nat.add_zero, Nat.add_zero, i1 Q, Nat.zero_add, Nat.zero_add]
theorem oI_n : oI none = -9 := rfl
theorem oI_s (x : Nat) : oI (some x) = nI x := rfl
theorem l_keptM {X : Nat × (Nat → Int32)} {σ : Mem} {a : AS} {p w : Nat} (ok : AOK a) (h : MI σ a) (hp : p < 8) (hw : w ≤ 100) : ∀ n s o (v5 v6 v7 v8 : Value), s + n = 16 → (∀ b, o = some b → b < 16) → ∀ Q, (Rn X 169 6 [.ref 127, .int (nI p), .int (nI w), .int (oI o), .int (nI s), v5, v6, v7, v8] [] σ Q ↔ Q [.int (oI (tkU (knW (wt a p) (hr a p) w) (drB (co a p)) s n o))] σ) := by
  obtain ⟨o1, o2, o3, o4, o5, o6, o7, o8⟩ := ok.1 p hp
  intro n
  induction n with
  | zero =>
    intro s o v5 v6 v7 v8 hs ho Q
    have e : s = 16 := by omega
    subst e
    rw [q_169_6]
    simp (disch := omega) only [q_169_8, q_169_10, q_169_13, q_169_14, q_169_16, q_169_17, q_169_19, q_169_20, q_169_93, q_169_95, q_169_97, q_169_98, q_169_99, q_169_101, q_169_102, q_169_105, q_169_106, q_169_108, q_169_111, q_169_112, q_169_115, q_169_116, q_169_117, q_169_119, q_169_122, q_169_123, q_169_124, q_169_125, q_169_128, q_169_129, q_169_131, q_169_133, q_169_136, q_169_138, q_169_141, q_169_143, q_169_146, q_169_147, q_169_150, q_169_153, q_169_155, q_169_158, q_169_159, q_169_160, q_169_163, q_169_166, q_169_167, vinT, iClamp, clr_i, clr_l, clr_r, clr_n, true_and, and_true, or_true, true_or, false_or, or_false, iLe, iLt, iEq, iAdd, iMul, List.cons_append, List.nil_append, List.append_nil, zb0, zb1, if_true, if_false, not_true_eq_false, not_false_eq_true, Bool.false_eq_true, Nat.one_ne_zero, Nat.zero_ne_one, Nat.reduceEqDiff, Nat.reduceAdd, if_pos, if_neg, tkU]
  | succ n ih =>
    intro s o v5 v6 v7 v8 hs ho Q
    have hs16 : s < 16 := by omega
    obtain ⟨v', i1⟩ := l_keptI (X := X) (w := w) (b := oI o) ok h hp hs16 4 0 0 0 (clr v8) rfl
    have hws := wsL_le (h := hr a p) o2 4 (by omega)
    have hls : smF (lsF (wt a p) (hr a p) s) 0 4 ≤ 4 * 9 := smF_le 4 0 (fun j _ b => by
      have := o2 j (by omega)
      unfold lsF
      split <;> omega)
    have hm : w * wsL (wt a p) (hr a p) 4 ≤ 100 * 36 := Nat.mul_le_mul hw hws
    rw [Nat.zero_add, Nat.zero_add, wdF_ws] at i1
    rw [q_169_6, tkU]
    simp (disch := omega) only [q_169_8, q_169_10, q_169_13, q_169_14, q_169_16, q_169_17, q_169_19, q_169_20, vinT, iClamp, clr_i, clr_l, clr_r, clr_n, true_and, and_true, or_true, true_or, false_or, or_false, iLe, iLt, iEq, iAdd, iMul, List.cons_append, List.nil_append, List.append_nil, zb0, zb1, if_true, if_false, not_true_eq_false, not_false_eq_true, Bool.false_eq_true, Nat.one_ne_zero, Nat.zero_ne_one, Nat.reduceEqDiff, Nat.reduceAdd, if_pos, if_neg]
    first | rw [i1 Q] | (obtain ⟨v', i1⟩ := l_keptI (X := X) (w := w) (b := oI o) ok h hp hs16 4 0 0 0 v8 rfl; rw [i1 Q, Nat.zero_add, Nat.zero_add, wdF_ws])
    by_cases c1 : knW (wt a p) (hr a p) w s = true
    · have c1' := c1
      rw [knW, decide_eq_true_eq] at c1'
      cases o with
      | none =>
        have hneg : (-1 : Int32) < nI 0 := by decide
        have e9 : tkS (knW (wt a p) (hr a p) w) (drB (co a p)) s none = some s := by rw [tkS, if_pos c1]; rfl
        rw [e9]
        simp (disch := omega) only [q_169_93, q_169_95, q_169_97, q_169_98, q_169_99, q_169_101, q_169_102, q_169_105, q_169_106, q_169_108, q_169_111, q_169_112, q_169_115, q_169_116, q_169_117, q_169_119, q_169_122, q_169_123, q_169_124, q_169_125, q_169_128, q_169_129, q_169_131, q_169_133, q_169_136, q_169_138, q_169_141, q_169_143, q_169_146, q_169_147, q_169_150, q_169_153, q_169_155, q_169_158, q_169_159, q_169_160, q_169_163, q_169_166, q_169_167, vinT, iClamp, clr_i, clr_l, clr_r, clr_n, true_and, and_true, or_true, true_or, false_or, or_false, iLe, iLt, iEq, iAdd, iMul, List.cons_append, List.nil_append, List.append_nil, zb0, zb1, if_true, if_false, not_true_eq_false, not_false_eq_true, Bool.false_eq_true, Nat.one_ne_zero, Nat.zero_ne_one, Nat.reduceEqDiff, Nat.reduceAdd, if_pos, if_neg, oI_n, hneg]
        exact ih (s + 1) (some s) _ _ _ _ (by omega) (fun b hb => by cases hb; omega) Q
      | some b =>
        have hb := ho b rfl
        have hn9 := nI_n9 (p := b) (by omega)
        have g1 := csF_le o4 s
        have g2 := csF_le o4 b
        have g3 := pc4_le s
        have g4 := pc4_le b
        have hq := drB_W (c := co a p) b s
        by_cases c2 : drB (co a p) b s = true
        · have e9 : tkS (knW (wt a p) (hr a p) w) (drB (co a p)) s (some b) = some s := by rw [tkS, if_pos c1]; exact if_pos c2
          rw [e9]
          have c3 := hq.mp c2
          by_cases c4 : smF (csF (co a p) s) 0 4 < smF (csF (co a p) b) 0 4
          · simp (disch := omega) only [q_169_93, q_169_95, q_169_97, q_169_98, q_169_99, q_169_101, q_169_102, q_169_105, q_169_106, q_169_108, q_169_111, q_169_112, q_169_115, q_169_116, q_169_117, q_169_119, q_169_122, q_169_123, q_169_124, q_169_125, q_169_128, q_169_129, q_169_131, q_169_133, q_169_136, q_169_138, q_169_141, q_169_143, q_169_146, q_169_147, q_169_150, q_169_153, q_169_155, q_169_158, q_169_159, q_169_160, q_169_163, q_169_166, q_169_167, vinT, iClamp, clr_i, clr_l, clr_r, clr_n, true_and, and_true, or_true, true_or, false_or, or_false, iLe, iLt, iEq, iAdd, iMul, List.cons_append, List.nil_append, List.append_nil, zb0, zb1, if_true, if_false, not_true_eq_false, not_false_eq_true, Bool.false_eq_true, Nat.one_ne_zero, Nat.zero_ne_one, Nat.reduceEqDiff, Nat.reduceAdd, if_pos, if_neg, oI_s, hn9, m127, s_costM h hp hs16, s_costM h hp hb, dLt, dEq]
            exact ih (s + 1) (some s) _ _ _ _ (by omega) (fun b hb => by cases hb; omega) Q
          · simp (disch := omega) only [q_169_93, q_169_95, q_169_97, q_169_98, q_169_99, q_169_101, q_169_102, q_169_105, q_169_106, q_169_108, q_169_111, q_169_112, q_169_115, q_169_116, q_169_117, q_169_119, q_169_122, q_169_123, q_169_124, q_169_125, q_169_128, q_169_129, q_169_131, q_169_133, q_169_136, q_169_138, q_169_141, q_169_143, q_169_146, q_169_147, q_169_150, q_169_153, q_169_155, q_169_158, q_169_159, q_169_160, q_169_163, q_169_166, q_169_167, vinT, iClamp, clr_i, clr_l, clr_r, clr_n, true_and, and_true, or_true, true_or, false_or, or_false, iLe, iLt, iEq, iAdd, iMul, List.cons_append, List.nil_append, List.append_nil, zb0, zb1, if_true, if_false, not_true_eq_false, not_false_eq_true, Bool.false_eq_true, Nat.one_ne_zero, Nat.zero_ne_one, Nat.reduceEqDiff, Nat.reduceAdd, if_pos, if_neg, oI_s, hn9, m127, s_costM h hp hs16, s_costM h hp hb, dLt, dEq, s_ones]
            exact ih (s + 1) (some s) _ _ _ _ (by omega) (fun b hb => by cases hb; omega) Q
        · have e9 : tkS (knW (wt a p) (hr a p) w) (drB (co a p)) s (some b) = some b := by rw [tkS, if_pos c1]; exact if_neg c2
          rw [e9]
          have c3 : ¬ _ := fun q => c2 (hq.mpr q)
          by_cases c4 : smF (csF (co a p) s) 0 4 = smF (csF (co a p) b) 0 4
          · simp (disch := omega) only [q_169_93, q_169_95, q_169_97, q_169_98, q_169_99, q_169_101, q_169_102, q_169_105, q_169_106, q_169_108, q_169_111, q_169_112, q_169_115, q_169_116, q_169_117, q_169_119, q_169_122, q_169_123, q_169_124, q_169_125, q_169_128, q_169_129, q_169_131, q_169_133, q_169_136, q_169_138, q_169_141, q_169_143, q_169_146, q_169_147, q_169_150, q_169_153, q_169_155, q_169_158, q_169_159, q_169_160, q_169_163, q_169_166, q_169_167, vinT, iClamp, clr_i, clr_l, clr_r, clr_n, true_and, and_true, or_true, true_or, false_or, or_false, iLe, iLt, iEq, iAdd, iMul, List.cons_append, List.nil_append, List.append_nil, zb0, zb1, if_true, if_false, not_true_eq_false, not_false_eq_true, Bool.false_eq_true, Nat.one_ne_zero, Nat.zero_ne_one, Nat.reduceEqDiff, Nat.reduceAdd, if_pos, if_neg, oI_s, hn9, m127, s_costM h hp hs16, s_costM h hp hb, dLt, dEq, s_ones]
            exact ih (s + 1) (some b) _ _ _ _ (by omega) ho Q
          · simp (disch := omega) only [q_169_93, q_169_95, q_169_97, q_169_98, q_169_99, q_169_101, q_169_102, q_169_105, q_169_106, q_169_108, q_169_111, q_169_112, q_169_115, q_169_116, q_169_117, q_169_119, q_169_122, q_169_123, q_169_124, q_169_125, q_169_128, q_169_129, q_169_131, q_169_133, q_169_136, q_169_138, q_169_141, q_169_143, q_169_146, q_169_147, q_169_150, q_169_153, q_169_155, q_169_158, q_169_159, q_169_160, q_169_163, q_169_166, q_169_167, vinT, iClamp, clr_i, clr_l, clr_r, clr_n, true_and, and_true, or_true, true_or, false_or, or_false, iLe, iLt, iEq, iAdd, iMul, List.cons_append, List.nil_append, List.append_nil, zb0, zb1, if_true, if_false, not_true_eq_false, not_false_eq_true, Bool.false_eq_true, Nat.one_ne_zero, Nat.zero_ne_one, Nat.reduceEqDiff, Nat.reduceAdd, if_pos, if_neg, oI_s, hn9, m127, s_costM h hp hs16, s_costM h hp hb, dLt, dEq, s_ones]
            exact ih (s + 1) (some b) _ _ _ _ (by omega) ho Q
    · have c1' := c1
      rw [knW, decide_eq_true_eq] at c1'
      have e9 : tkS (knW (wt a p) (hr a p) w) (drB (co a p)) s o = o := by rw [tkS, if_neg c1]
      rw [e9]
      simp (disch := omega) only [q_169_93, q_169_95, q_169_97, q_169_98, q_169_99, q_169_101, q_169_102, q_169_105, q_169_106, q_169_108, q_169_111, q_169_112, q_169_115, q_169_116, q_169_117, q_169_119, q_169_122, q_169_123, q_169_124, q_169_125, q_169_128, q_169_129, q_169_131, q_169_133, q_169_136, q_169_138, q_169_141, q_169_143, q_169_146, q_169_147, q_169_150, q_169_153, q_169_155, q_169_158, q_169_159, q_169_160, q_169_163, q_169_166, q_169_167, vinT, iClamp, clr_i, clr_l, clr_r, clr_n, true_and, and_true, or_true, true_or, false_or, or_false, iLe, iLt, iEq, iAdd, iMul, List.cons_append, List.nil_append, List.append_nil, zb0, zb1, if_true, if_false, not_true_eq_false, not_false_eq_true, Bool.false_eq_true, Nat.one_ne_zero, Nat.zero_ne_one, Nat.reduceEqDiff, Nat.reduceAdd, if_pos, if_neg]
      exact ih (s + 1) o _ _ _ _ (by omega) ho Q
theorem s_keptM {X : Nat × (Nat → Int32)} {σ : Mem} {Q : List Value → Mem → Prop} {a : AS} {p w : Nat} {u3 u4 u5 u6 u7 u8 : Value} (ok : AOK a) (h : MI σ a) (hp : p < 8) (hw : w ≤ 100) : Rn X 169 0 [.ref 127, .int (nI p), .int (nI w), u3, u4, u5, u6, u7, u8] [] σ Q ↔ Q [.int (nI (tkD (knW (wt a p) (hr a p) w) (drB (co a p)) 15 15))] σ := by
  have e : (-9 : Int32) = oI none := rfl
  simp only [q_169_0, q_169_2, q_169_3, q_169_4, clr_i, e, l_keptM ok h hp hw 16 0 none _ _ _ _ rfl (fun b hb => by cases hb)]
  rw [tk_eq (W := fun s => smF (csF (co a p) s) 0 4 * 5 + pc4 s) (fun x y _ _ => drB_W x y) (kn15 _ _ _), oI_s]
theorem m_Ke {X : Nat × (Nat → Int32)} {σ : Mem} {a : AS} {x y : Int32} (ok : AOK a) (h : MI σ a) : ∃ σ', Ev X 170 [.ref 127, .int x, .int y] σ [.int (anKe a x y)] σ' ∧ MI σ' a ∧ Hi σ σ' := by
  refine ⟨σ, fun Q => ?_, h, Hi.rf σ⟩
  by_cases cc0 : inR x 8
  · have e0 : b2 (inR x 8) = nI 1 := b2_t cc0
    rw [anKe, if_pos cc0]
    by_cases cc1 : inQ y 100
    · have e1 : b2 (inQ y 100) = nI 1 := b2_t cc1
      rw [if_pos cc1]
      obtain ⟨p, hp, rfl⟩ := inR_of cc0 (by omega)
      obtain ⟨m, hm, rfl⟩ := inQ_of cc1 (by omega)
      rw [tn_nI (by omega), tn_nI (by omega)]
      simp (disch := omega) only [q_170_0, q_170_1, q_170_4, q_170_7, q_170_8, q_170_9, q_170_10, q_170_11, q_170_12, q_170_15, q_170_18, q_170_21, q_170_22, q_170_23, q_170_24, q_170_27, q_170_30, q_170_32, vinT, iClamp, clr_i, clr_l, clr_r, clr_n, true_and, and_true, or_true, true_or, false_or, or_false, iLe, iLt, iEq, iAdd, iMul, List.cons_append, List.nil_append, List.append_nil, zb0, zb1, if_true, if_false, not_true_eq_false, not_false_eq_true, Bool.false_eq_true, Nat.one_ne_zero, Nat.zero_ne_one, Nat.reduceEqDiff, Nat.reduceAdd, if_pos, if_neg, s_isPaperM, s_in0, e0, e1, m127, m128k, m128n, m129k, m129n, m130k, m130n, m131k, m131n, m132k, m132n, m133k, m133n, m134k, m134n, m135k, m135n, m136k, m136n, m137k, m137n, m138k, m138n, m139k, m139n, m140k, m140n, m141k, m141n, m142k, m142n, m143k, m143n, m144k, m144n, m145k, m145n, m146k, m146n, s_keptM ok h hp hm]
    · have e1 : b2 (inQ y 100) = nI 0 := b2_f cc1
      rw [if_neg cc1]
      simp (disch := omega) only [q_170_0, q_170_1, q_170_4, q_170_7, q_170_8, q_170_9, q_170_10, q_170_11, q_170_12, q_170_15, q_170_18, q_170_21, q_170_22, q_170_23, q_170_24, q_170_27, q_170_30, q_170_32, vinT, iClamp, clr_i, clr_l, clr_r, clr_n, true_and, and_true, or_true, true_or, false_or, or_false, iLe, iLt, iEq, iAdd, iMul, List.cons_append, List.nil_append, List.append_nil, zb0, zb1, if_true, if_false, not_true_eq_false, not_false_eq_true, Bool.false_eq_true, Nat.one_ne_zero, Nat.zero_ne_one, Nat.reduceEqDiff, Nat.reduceAdd, if_pos, if_neg, s_isPaperM, s_in0, e0, e1]
  · have e0 : b2 (inR x 8) = nI 0 := b2_f cc0
    rw [anKe, if_neg cc0]
    simp (disch := omega) only [q_170_0, q_170_1, q_170_4, q_170_7, q_170_8, q_170_9, q_170_10, q_170_11, q_170_12, q_170_15, q_170_18, q_170_21, q_170_22, q_170_23, q_170_24, q_170_27, q_170_30, q_170_32, vinT, iClamp, clr_i, clr_l, clr_r, clr_n, true_and, and_true, or_true, true_or, false_or, or_false, iLe, iLt, iEq, iAdd, iMul, List.cons_append, List.nil_append, List.append_nil, zb0, zb1, if_true, if_false, not_true_eq_false, not_false_eq_true, Bool.false_eq_true, Nat.one_ne_zero, Nat.zero_ne_one, Nat.reduceEqDiff, Nat.reduceAdd, if_pos, if_neg, s_isPaperM, s_in0, e0]
theorem m_Co {X : Nat × (Nat → Int32)} {σ : Mem} {a : AS} {x y : Int32} (ok : AOK a) (h : MI σ a) : ∃ σ', Ev X 171 [.ref 127, .int x, .int y] σ [.int (anCo a x y)] σ' ∧ MI σ' a ∧ Hi σ σ' := by
  refine ⟨σ, fun Q => ?_, h, Hi.rf σ⟩
  by_cases cc0 : inR x 8
  · have e0 : b2 (inR x 8) = nI 1 := b2_t cc0
    rw [anCo, if_pos cc0]
    by_cases cc1 : inQ y 100
    · have e1 : b2 (inQ y 100) = nI 1 := b2_t cc1
      rw [if_pos cc1]
      obtain ⟨p, hp, rfl⟩ := inR_of cc0 (by omega)
      obtain ⟨m, hm, rfl⟩ := inQ_of cc1 (by omega)
      rw [tn_nI (by omega), tn_nI (by omega)]
      have hl := tkD_lt (kn := knW (wt a p) (hr a p) m) (dr := drB (co a p)) 15 15 (by omega) (by omega)
      simp (disch := omega) only [q_171_0, q_171_1, q_171_4, q_171_7, q_171_8, q_171_9, q_171_10, q_171_11, q_171_12, q_171_15, q_171_18, q_171_21, q_171_22, q_171_23, q_171_24, q_171_25, q_171_26, q_171_29, q_171_32, q_171_35, q_171_37, vinT, iClamp, clr_i, clr_l, clr_r, clr_n, true_and, and_true, or_true, true_or, false_or, or_false, iLe, iLt, iEq, iAdd, iMul, List.cons_append, List.nil_append, List.append_nil, zb0, zb1, if_true, if_false, not_true_eq_false, not_false_eq_true, Bool.false_eq_true, Nat.one_ne_zero, Nat.zero_ne_one, Nat.reduceEqDiff, Nat.reduceAdd, if_pos, if_neg, s_isPaperM, s_in0, e0, e1, m127, m128k, m128n, m129k, m129n, m130k, m130n, m131k, m131n, m132k, m132n, m133k, m133n, m134k, m134n, m135k, m135n, m136k, m136n, m137k, m137n, m138k, m138n, m139k, m139n, m140k, m140n, m141k, m141n, m142k, m142n, m143k, m143n, m144k, m144n, m145k, m145n, m146k, m146n, s_keptM ok h hp hm, s_costM h hp hl]
    · have e1 : b2 (inQ y 100) = nI 0 := b2_f cc1
      rw [if_neg cc1]
      simp (disch := omega) only [q_171_0, q_171_1, q_171_4, q_171_7, q_171_8, q_171_9, q_171_10, q_171_11, q_171_12, q_171_15, q_171_18, q_171_21, q_171_22, q_171_23, q_171_24, q_171_25, q_171_26, q_171_29, q_171_32, q_171_35, q_171_37, vinT, iClamp, clr_i, clr_l, clr_r, clr_n, true_and, and_true, or_true, true_or, false_or, or_false, iLe, iLt, iEq, iAdd, iMul, List.cons_append, List.nil_append, List.append_nil, zb0, zb1, if_true, if_false, not_true_eq_false, not_false_eq_true, Bool.false_eq_true, Nat.one_ne_zero, Nat.zero_ne_one, Nat.reduceEqDiff, Nat.reduceAdd, if_pos, if_neg, s_isPaperM, s_in0, e0, e1]
  · have e0 : b2 (inR x 8) = nI 0 := b2_f cc0
    rw [anCo, if_neg cc0]
    simp (disch := omega) only [q_171_0, q_171_1, q_171_4, q_171_7, q_171_8, q_171_9, q_171_10, q_171_11, q_171_12, q_171_15, q_171_18, q_171_21, q_171_22, q_171_23, q_171_24, q_171_25, q_171_26, q_171_29, q_171_32, q_171_35, q_171_37, vinT, iClamp, clr_i, clr_l, clr_r, clr_n, true_and, and_true, or_true, true_or, false_or, or_false, iLe, iLt, iEq, iAdd, iMul, List.cons_append, List.nil_append, List.append_nil, zb0, zb1, if_true, if_false, not_true_eq_false, not_false_eq_true, Bool.false_eq_true, Nat.one_ne_zero, Nat.zero_ne_one, Nat.reduceEqDiff, Nat.reduceAdd, if_pos, if_neg, s_isPaperM, s_in0, e0]
/-! how many -/
theorem s_isDoneK {X : Nat × (Nat → Int32)} {σ : Mem} {Q : List Value → Mem → Prop} {a : AS} {k : Nat} (h : MI σ a) (ok : AOK a) (hk : k < 32) : Rn X 117 0 [.ref 127, .int (nI k)] [] σ Q ↔ Q [.int (b2 (dn (wt a (k / 4)) (hr a (k / 4)) (k % 4) = true))] σ := by
  have q := s_isDoneM (X := X) (σ := σ) (Q := Q) (p := k / 4) (t := k % 4) h ok (by omega) (by omega)
  rw [show 4 * (k / 4) + k % 4 = k by omega] at q
  exact q
def dnK (a : AS) (k : Nat) : Nat := if dn (wt a (k / 4)) (hr a (k / 4)) (k % 4) = true then 1 else 0
theorem l_cnt1 {X : Nat × (Nat → Int32)} {σ : Mem} {Q : List Value → Mem → Prop} {a : AS} {x : Int32} (ok : AOK a) (h : MI σ a) : ∀ n i r nm ov, i + n = 8 → (Rn X 172 13 [.ref 127, .int x, .int (nI r), .int (nI nm), .int (nI 0), .int (nI ov), .int (nI i)] [] σ Q ↔ Rn X 172 75 [.ref 127, .int x, .int (nI (r + smF (ctN a 0) i n)), .int (nI (nm + smF (ctN a 1) i n)), .int (nI 0), .int (nI (ov + smF (ctN a 3) i n)), .int (nI 8)] [] σ Q) := by
  obtain ⟨m1, m2, m3, m4, m5, m6, m7, m8, m9, m10⟩ := id h
  intro n
  induction n with
  | zero =>
    intro i r nm ov hi
    have e : i = 8 := by omega
    subst e
    rw [q_172_13]
    simp (disch := omega) only [q_172_15, q_172_17, q_172_20, q_172_21, q_172_22, q_172_25, q_172_27, q_172_28, q_172_31, q_172_32, q_172_35, q_172_36, q_172_37, q_172_38, q_172_39, q_172_40, q_172_43, q_172_45, q_172_46, q_172_47, q_172_48, q_172_50, q_172_51, q_172_53, q_172_56, q_172_58, q_172_61, q_172_62, q_172_65, q_172_66, q_172_67, q_172_69, q_172_72, vinT, iClamp, clr_i, clr_l, clr_r, clr_n, true_and, and_true, or_true, true_or, false_or, or_false, iLe, iLt, iEq, iAdd, iMul, List.cons_append, List.nil_append, List.append_nil, zb0, zb1, if_true, if_false, not_true_eq_false, not_false_eq_true, Bool.false_eq_true, Nat.one_ne_zero, Nat.zero_ne_one, Nat.reduceEqDiff, Nat.reduceAdd, if_pos, if_neg, smF, Nat.add_zero]
  | succ n ih =>
    intro i r nm ov hi
    have hp : i < 8 := by omega
    obtain ⟨o1, o2, o3, o4, o5, o6, o7, o8⟩ := ok.1 i hp
    have hsm : smF (cl a i) 0 7 ≤ 7 * 100 := smF_le 7 0 (fun j _ b => o5 j (by omega))
    have c1 : ctN a 1 i = (ro a i).length := rfl
    rw [q_172_13, smF, smF, smF, c1]
    by_cases k0 : 0 < (ro a i).length
    · have c0' : ctN a 0 i = 1 := if_pos k0
      by_cases k3 : 100 < smF (cl a i) 0 7
      · have c3 : ctN a 3 i = 1 := if_pos k3
        simp (disch := omega) only [q_172_15, q_172_17, q_172_20, q_172_21, q_172_22, q_172_25, q_172_27, q_172_28, q_172_31, q_172_32, q_172_35, q_172_36, q_172_37, q_172_38, q_172_39, q_172_40, q_172_43, q_172_45, q_172_46, q_172_47, q_172_48, q_172_50, q_172_51, q_172_53, q_172_56, q_172_58, q_172_61, q_172_62, q_172_65, q_172_66, q_172_67, q_172_69, q_172_72, vinT, iClamp, clr_i, clr_l, clr_r, clr_n, true_and, and_true, or_true, true_or, false_or, or_false, iLe, iLt, iEq, iAdd, iMul, List.cons_append, List.nil_append, List.append_nil, zb0, zb1, if_true, if_false, not_true_eq_false, not_false_eq_true, Bool.false_eq_true, Nat.one_ne_zero, Nat.zero_ne_one, Nat.reduceEqDiff, Nat.reduceAdd, if_pos, if_neg, m127, m128k, m128n, m129k, m129n, m130k, m130n, m131k, m131n, m132k, m132n, m133k, m133n, m134k, m134n, m135k, m135n, m136k, m136n, m137k, m137n, m138k, m138n, m139k, m139n, m140k, m140n, m141k, m141n, m142k, m142n, m143k, m143n, m144k, m144n, m145k, m145n, m146k, m146n, m5 i hp, s_allM h hp]
        rw [ih (i + 1) _ _ _ (by omega), c0', c3]
        simp only [Nat.add_assoc, Nat.zero_add, Nat.add_zero]
      · have c3 : ctN a 3 i = 0 := if_neg k3
        simp (disch := omega) only [q_172_15, q_172_17, q_172_20, q_172_21, q_172_22, q_172_25, q_172_27, q_172_28, q_172_31, q_172_32, q_172_35, q_172_36, q_172_37, q_172_38, q_172_39, q_172_40, q_172_43, q_172_45, q_172_46, q_172_47, q_172_48, q_172_50, q_172_51, q_172_53, q_172_56, q_172_58, q_172_61, q_172_62, q_172_65, q_172_66, q_172_67, q_172_69, q_172_72, vinT, iClamp, clr_i, clr_l, clr_r, clr_n, true_and, and_true, or_true, true_or, false_or, or_false, iLe, iLt, iEq, iAdd, iMul, List.cons_append, List.nil_append, List.append_nil, zb0, zb1, if_true, if_false, not_true_eq_false, not_false_eq_true, Bool.false_eq_true, Nat.one_ne_zero, Nat.zero_ne_one, Nat.reduceEqDiff, Nat.reduceAdd, if_pos, if_neg, m127, m128k, m128n, m129k, m129n, m130k, m130n, m131k, m131n, m132k, m132n, m133k, m133n, m134k, m134n, m135k, m135n, m136k, m136n, m137k, m137n, m138k, m138n, m139k, m139n, m140k, m140n, m141k, m141n, m142k, m142n, m143k, m143n, m144k, m144n, m145k, m145n, m146k, m146n, m5 i hp, s_allM h hp]
        rw [ih (i + 1) _ _ _ (by omega), c0', c3]
        simp only [Nat.add_assoc, Nat.zero_add, Nat.add_zero]
    · have c0' : ctN a 0 i = 0 := if_neg k0
      by_cases k3 : 100 < smF (cl a i) 0 7
      · have c3 : ctN a 3 i = 1 := if_pos k3
        simp (disch := omega) only [q_172_15, q_172_17, q_172_20, q_172_21, q_172_22, q_172_25, q_172_27, q_172_28, q_172_31, q_172_32, q_172_35, q_172_36, q_172_37, q_172_38, q_172_39, q_172_40, q_172_43, q_172_45, q_172_46, q_172_47, q_172_48, q_172_50, q_172_51, q_172_53, q_172_56, q_172_58, q_172_61, q_172_62, q_172_65, q_172_66, q_172_67, q_172_69, q_172_72, vinT, iClamp, clr_i, clr_l, clr_r, clr_n, true_and, and_true, or_true, true_or, false_or, or_false, iLe, iLt, iEq, iAdd, iMul, List.cons_append, List.nil_append, List.append_nil, zb0, zb1, if_true, if_false, not_true_eq_false, not_false_eq_true, Bool.false_eq_true, Nat.one_ne_zero, Nat.zero_ne_one, Nat.reduceEqDiff, Nat.reduceAdd, if_pos, if_neg, m127, m128k, m128n, m129k, m129n, m130k, m130n, m131k, m131n, m132k, m132n, m133k, m133n, m134k, m134n, m135k, m135n, m136k, m136n, m137k, m137n, m138k, m138n, m139k, m139n, m140k, m140n, m141k, m141n, m142k, m142n, m143k, m143n, m144k, m144n, m145k, m145n, m146k, m146n, m5 i hp, s_allM h hp]
        rw [ih (i + 1) _ _ _ (by omega), c0', c3]
        simp only [Nat.add_assoc, Nat.zero_add, Nat.add_zero]
      · have c3 : ctN a 3 i = 0 := if_neg k3
        simp (disch := omega) only [q_172_15, q_172_17, q_172_20, q_172_21, q_172_22, q_172_25, q_172_27, q_172_28, q_172_31, q_172_32, q_172_35, q_172_36, q_172_37, q_172_38, q_172_39, q_172_40, q_172_43, q_172_45, q_172_46, q_172_47, q_172_48, q_172_50, q_172_51, q_172_53, q_172_56, q_172_58, q_172_61, q_172_62, q_172_65, q_172_66, q_172_67, q_172_69, q_172_72, vinT, iClamp, clr_i, clr_l, clr_r, clr_n, true_and, and_true, or_true, true_or, false_or, or_false, iLe, iLt, iEq, iAdd, iMul, List.cons_append, List.nil_append, List.append_nil, zb0, zb1, if_true, if_false, not_true_eq_false, not_false_eq_true, Bool.false_eq_true, Nat.one_ne_zero, Nat.zero_ne_one, Nat.reduceEqDiff, Nat.reduceAdd, if_pos, if_neg, m127, m128k, m128n, m129k, m129n, m130k, m130n, m131k, m131n, m132k, m132n, m133k, m133n, m134k, m134n, m135k, m135n, m136k, m136n, m137k, m137n, m138k, m138n, m139k, m139n, m140k, m140n, m141k, m141n, m142k, m142n, m143k, m143n, m144k, m144n, m145k, m145n, m146k, m146n, m5 i hp, s_allM h hp]
        rw [ih (i + 1) _ _ _ (by omega), c0', c3]
        simp only [Nat.add_assoc, Nat.zero_add, Nat.add_zero]
theorem l_cnt2 {X : Nat × (Nat → Int32)} {σ : Mem} {Q : List Value → Mem → Prop} {a : AS} {x u v w : Int32} (ok : AOK a) (h : MI σ a) : ∀ n i d, i + n = 32 → (Rn X 172 78 [.ref 127, .int x, .int u, .int v, .int (nI d), .int w, .int (nI i)] [] σ Q ↔ Rn X 172 110 [.ref 127, .int x, .int u, .int v, .int (nI (d + smF (dnK a) i n)), .int w, .int (nI 32)] [] σ Q) := by
  intro n
  induction n with
  | zero =>
    intro i d hi
    have e : i = 32 := by omega
    subst e
    rw [q_172_78]
    simp (disch := omega) only [q_172_80, q_172_82, q_172_85, q_172_87, q_172_88, q_172_90, q_172_93, q_172_96, q_172_97, q_172_100, q_172_101, q_172_102, q_172_104, q_172_107, vinT, iClamp, clr_i, clr_l, clr_r, clr_n, true_and, and_true, or_true, true_or, false_or, or_false, iLe, iLt, iEq, iAdd, iMul, List.cons_append, List.nil_append, List.append_nil, zb0, zb1, if_true, if_false, not_true_eq_false, not_false_eq_true, Bool.false_eq_true, Nat.one_ne_zero, Nat.zero_ne_one, Nat.reduceEqDiff, Nat.reduceAdd, if_pos, if_neg, smF, Nat.add_zero]
  | succ n ih =>
    intro i d hi
    rw [q_172_78, smF, dnK]
    by_cases c : dn (wt a (i / 4)) (hr a (i / 4)) (i % 4) = true
    · simp (disch := omega) only [q_172_80, q_172_82, q_172_85, q_172_87, q_172_88, q_172_90, q_172_93, q_172_96, q_172_97, q_172_100, q_172_101, q_172_102, q_172_104, q_172_107, vinT, iClamp, clr_i, clr_l, clr_r, clr_n, true_and, and_true, or_true, true_or, false_or, or_false, iLe, iLt, iEq, iAdd, iMul, List.cons_append, List.nil_append, List.append_nil, zb0, zb1, if_true, if_false, not_true_eq_false, not_false_eq_true, Bool.false_eq_true, Nat.one_ne_zero, Nat.zero_ne_one, Nat.reduceEqDiff, Nat.reduceAdd, if_pos, if_neg, m127, s_isDoneK h ok (show i < 32 by omega), b2_t c]
      rw [ih (i + 1) _ (by omega), Nat.add_assoc]
    · simp (disch := omega) only [q_172_80, q_172_82, q_172_85, q_172_87, q_172_88, q_172_90, q_172_93, q_172_96, q_172_97, q_172_100, q_172_101, q_172_102, q_172_104, q_172_107, vinT, iClamp, clr_i, clr_l, clr_r, clr_n, true_and, and_true, or_true, true_or, false_or, or_false, iLe, iLt, iEq, iAdd, iMul, List.cons_append, List.nil_append, List.append_nil, zb0, zb1, if_true, if_false, not_true_eq_false, not_false_eq_true, Bool.false_eq_true, Nat.one_ne_zero, Nat.zero_ne_one, Nat.reduceEqDiff, Nat.reduceAdd, if_pos, if_neg, m127, s_isDoneK h ok (show i < 32 by omega), b2_f c]
      rw [ih (i + 1) _ (by omega), Nat.zero_add, Nat.add_zero]
theorem dt_bit {w : Nat → Nat} {h : Nat → Nat → Nat} {t : Nat} (ht : t < 4) : dtL w h 4 / 2 ^ t % 2 = if dn w h t = true then 1 else 0 := by
  have q := dtL_bit (w := w) (h := h) ht
  by_cases c : dn w h t = true
  · rw [if_pos c]; exact q.mpr c
  · rw [if_neg c]; exact (bit01 _ _).resolve_right (fun z => c (q.mp z))
theorem pc4_dt (w : Nat → Nat) (h : Nat → Nat → Nat) : pc4 (dtL w h 4) = (if dn w h 0 = true then 1 else 0) + (if dn w h 1 = true then 1 else 0) + (if dn w h 2 = true then 1 else 0) + (if dn w h 3 = true then 1 else 0) := by
  have e0 := dt_bit (w := w) (h := h) (t := 0) (by omega)
  have e1 := dt_bit (w := w) (h := h) (t := 1) (by omega)
  have e2 := dt_bit (w := w) (h := h) (t := 2) (by omega)
  have e3 := dt_bit (w := w) (h := h) (t := 3) (by omega)
  rw [← e0, ← e1, ← e2, ← e3, pc4]
  simp
theorem dnK_sum (a : AS) : smF (dnK a) 0 32 = smF (ctN a 2) 0 8 := by
  have e : ∀ p, p < 8 → ctN a 2 p = dnK a (4 * p) + dnK a (4 * p + 1) + dnK a (4 * p + 2) + dnK a (4 * p + 3) := by
    intro p hp
    have e1 : ctN a 2 p = pc4 (dtL (wt a p) (hr a p) 4) := rfl
    rw [e1, pc4_dt, dnK, dnK, dnK, dnK, show 4 * p / 4 = p by omega, show (4 * p + 1) / 4 = p by omega, show (4 * p + 2) / 4 = p by omega, show (4 * p + 3) / 4 = p by omega, show 4 * p % 4 = 0 by omega, show (4 * p + 1) % 4 = 1 by omega, show (4 * p + 2) % 4 = 2 by omega, show (4 * p + 3) % 4 = 3 by omega]
  rw [smF_congr 8 0 (fun p _ hp => e p (by omega))]
  generalize dnK a = f
  simp only [smF, Nat.reduceAdd, Nat.reduceMul]
  omega
theorem m_Ct {X : Nat × (Nat → Int32)} {σ : Mem} {a : AS} {x : Int32} {w2 w3 w4 w5 w6 : Value} (ok : AOK a) (h : MI σ a) : ∃ σ', Ev X 172 [.ref 127, .int x, w2, w3, w4, w5, w6] σ [.int (anCt a x)] σ' ∧ MI σ' a ∧ Hi σ σ' := by
  refine ⟨σ, fun Q => ?_, h, Hi.rf σ⟩
  simp only [q_172_0, q_172_1, q_172_2, q_172_3, q_172_4, q_172_5, q_172_7, q_172_8, q_172_10, q_172_11, clr_i, clr_r, l_cnt1 ok h 8 0 0 0 0 rfl, Nat.zero_add]
  simp only [q_172_75, q_172_76, clr_i, l_cnt2 ok h 32 0 0 rfl, Nat.zero_add, dnK_sum]
  by_cases k0 : inQ x 3
  · rw [anCt, if_pos k0]
    obtain ⟨m, hm, rfl⟩ := inQ_of k0 (by omega)
    rw [tn_nI (by omega)]
    have e : m = 0 ∨ m = 1 ∨ m = 2 ∨ m = 3 := by omega
    rcases e with rfl | rfl | rfl | rfl
    · have s1 := fun (Q : List Value → Mem → Prop) (ls st : List Value) => q_172_111 (X := X) (σ := σ) (Q := Q) (x := nI 0) (p := 140) (ls := ls) (st := st) (by decide)
      simp (disch := omega) only [q_172_110, q_172_140, q_172_141, q_172_142, q_172_143, q_172_144, q_172_146, q_172_147, q_172_149, q_172_150, q_172_152, vinT, iClamp, clr_i, clr_l, clr_r, clr_n, true_and, and_true, or_true, true_or, false_or, or_false, iLe, iLt, iEq, iAdd, iMul, List.cons_append, List.nil_append, List.append_nil, zb0, zb1, if_true, if_false, not_true_eq_false, not_false_eq_true, Bool.false_eq_true, Nat.one_ne_zero, Nat.zero_ne_one, Nat.reduceEqDiff, Nat.reduceAdd, if_pos, if_neg, s1]
    · have s1 := fun (Q : List Value → Mem → Prop) (ls st : List Value) => q_172_111 (X := X) (σ := σ) (Q := Q) (x := nI 1) (p := 142) (ls := ls) (st := st) (by decide)
      simp (disch := omega) only [q_172_110, q_172_140, q_172_141, q_172_142, q_172_143, q_172_144, q_172_146, q_172_147, q_172_149, q_172_150, q_172_152, vinT, iClamp, clr_i, clr_l, clr_r, clr_n, true_and, and_true, or_true, true_or, false_or, or_false, iLe, iLt, iEq, iAdd, iMul, List.cons_append, List.nil_append, List.append_nil, zb0, zb1, if_true, if_false, not_true_eq_false, not_false_eq_true, Bool.false_eq_true, Nat.one_ne_zero, Nat.zero_ne_one, Nat.reduceEqDiff, Nat.reduceAdd, if_pos, if_neg, s1]
    · have s1 := fun (Q : List Value → Mem → Prop) (ls st : List Value) => q_172_111 (X := X) (σ := σ) (Q := Q) (x := nI 2) (p := 144) (ls := ls) (st := st) (by decide)
      simp (disch := omega) only [q_172_110, q_172_140, q_172_141, q_172_142, q_172_143, q_172_144, q_172_146, q_172_147, q_172_149, q_172_150, q_172_152, vinT, iClamp, clr_i, clr_l, clr_r, clr_n, true_and, and_true, or_true, true_or, false_or, or_false, iLe, iLt, iEq, iAdd, iMul, List.cons_append, List.nil_append, List.append_nil, zb0, zb1, if_true, if_false, not_true_eq_false, not_false_eq_true, Bool.false_eq_true, Nat.one_ne_zero, Nat.zero_ne_one, Nat.reduceEqDiff, Nat.reduceAdd, if_pos, if_neg, s1]
    · have s1 := fun (Q : List Value → Mem → Prop) (ls st : List Value) => q_172_111 (X := X) (σ := σ) (Q := Q) (x := nI 3) (p := 147) (ls := ls) (st := st) (by decide)
      simp (disch := omega) only [q_172_110, q_172_140, q_172_141, q_172_142, q_172_143, q_172_144, q_172_146, q_172_147, q_172_149, q_172_150, q_172_152, vinT, iClamp, clr_i, clr_l, clr_r, clr_n, true_and, and_true, or_true, true_or, false_or, or_false, iLe, iLt, iEq, iAdd, iMul, List.cons_append, List.nil_append, List.append_nil, zb0, zb1, if_true, if_false, not_true_eq_false, not_false_eq_true, Bool.false_eq_true, Nat.one_ne_zero, Nat.zero_ne_one, Nat.reduceEqDiff, Nat.reduceAdd, if_pos, if_neg, s1]
  · rw [anCt, if_neg k0]
    have e : swO 39 0 3 #[29, 31, 33, 36] x = 39 := by
      have k1 : x.toInt < 0 ∨ 3 < x.toInt := by
        have k2 : ¬ (nI 0 ≤ x ∧ x ≤ nI 3) := k0
        rw [fa_le, fa_le, nI_toInt (by omega), nI_toInt (by omega)] at k2
        omega
      exact if_pos k1
    have s1 := fun (Q : List Value → Mem → Prop) (ls st : List Value) => q_172_111 (X := X) (σ := σ) (Q := Q) (x := x) (p := 150) (ls := ls) (st := st) (by rw [e]; decide)
    simp (disch := omega) only [q_172_110, q_172_140, q_172_141, q_172_142, q_172_143, q_172_144, q_172_146, q_172_147, q_172_149, q_172_150, q_172_152, vinT, iClamp, clr_i, clr_l, clr_r, clr_n, true_and, and_true, or_true, true_or, false_or, or_false, iLe, iLt, iEq, iAdd, iMul, List.cons_append, List.nil_append, List.append_nil, zb0, zb1, if_true, if_false, not_true_eq_false, not_false_eq_true, Bool.false_eq_true, Nat.one_ne_zero, Nat.zero_ne_one, Nat.reduceEqDiff, Nat.reduceAdd, if_pos, if_neg, s1]
