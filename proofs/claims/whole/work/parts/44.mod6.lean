/-! ===== the reference: claims ===== -/
theorem l_allM {X : Nat × (Nat → Int32)} {σ : Mem} {Q : List Value → Mem → Prop} {a : AS} {p : Nat} (h : MI σ a) (hp : p < 8) : ∀ n i s, i + n = 7 → (Rn X 141 4 [.ref 127, .int (nI p), .int (nI s), .int (nI i)] [] σ Q ↔ Q [.int (nI (s + smF (cl a p) i n))] σ) := by
  obtain ⟨m1, m2, m3, m4, m5, m6, m7, m8, m9, m10⟩ := id h
  intro n
  induction n with
  | zero =>
    intro i s hi
    have e : i = 7 := by omega
    subst e
    rw [q_141_4]
    simp (disch := omega) only [q_141_0, q_141_1, q_141_2, q_141_3, q_141_5, q_141_7, q_141_10, q_141_11, q_141_12, q_141_15, q_141_17, q_141_18, q_141_19, q_141_20, q_141_21, q_141_22, q_141_23, q_141_24, q_141_27, q_141_30, q_141_31, vinT, iClamp, clr_i, clr_l, clr_r, clr_n, true_and, and_true, or_true, true_or, false_or, or_false, iLe, iLt, iEq, iAdd, iMul, List.cons_append, List.nil_append, List.append_nil, zb0, zb1, if_true, if_false, not_true_eq_false, not_false_eq_true, Bool.false_eq_true, Nat.one_ne_zero, Nat.zero_ne_one, Nat.reduceEqDiff, Nat.reduceAdd, if_pos, if_neg, smF, Nat.add_zero]
  | succ n ih =>
    intro i s hi
    rw [q_141_4]
    simp (disch := omega) only [q_141_0, q_141_1, q_141_2, q_141_3, q_141_5, q_141_7, q_141_10, q_141_11, q_141_12, q_141_15, q_141_17, q_141_18, q_141_19, q_141_20, q_141_21, q_141_22, q_141_23, q_141_24, q_141_27, q_141_30, q_141_31, vinT, iClamp, clr_i, clr_l, clr_r, clr_n, true_and, and_true, or_true, true_or, false_or, or_false, iLe, iLt, iEq, iAdd, iMul, List.cons_append, List.nil_append, List.append_nil, zb0, zb1, if_true, if_false, not_true_eq_false, not_false_eq_true, Bool.false_eq_true, Nat.one_ne_zero, Nat.zero_ne_one, Nat.reduceEqDiff, Nat.reduceAdd, if_pos, if_neg, m127, m128k, m128n, m129k, m129n, m130k, m130n, m131k, m131n, m132k, m132n, m133k, m133n, m134k, m134n, m135k, m135n, m136k, m136n, m137k, m137n, m138k, m138n, m139k, m139n, m140k, m140n, m141k, m141n, m142k, m142n, m143k, m143n, m144k, m144n, m145k, m145n, m146k, m146n, m8 p hp i (by omega)]
    rw [ih (i + 1) _ (by omega), smF, Nat.add_assoc]
theorem s_allM {X : Nat × (Nat → Int32)} {σ : Mem} {Q : List Value → Mem → Prop} {a : AS} {p : Nat} {u v : Value} (h : MI σ a) (hp : p < 8) : Rn X 141 0 [.ref 127, .int (nI p), u, v] [] σ Q ↔ Q [.int (nI (smF (cl a p) 0 7))] σ := by
  simp only [q_141_0, q_141_1, q_141_2, q_141_3, clr_i, l_allM h hp 7 0 0 rfl, Nat.zero_add]
theorem over_eq (s : Nat) : nI s - nI 100 + nI 1000 = nI (s + 900) := by
  rw [show nI 1000 = nI 100 + nI 900 by rfl, ← Int32.add_assoc, Int32.sub_add_cancel, iAdd]
theorem dGt {a b c : Nat} (ha : a < 1073741824) (hb : b < 1073741824) (hc : c < 1073741824) : nI c < nI a - nI b ↔ c + b < a := by
  rw [Int32.lt_iff_toInt_lt, pk_sub_toInt ha hb, nI_toInt (by omega)]
  omega
theorem dEq {a b : Nat} (ha : a < 1073741824) (hb : b < 1073741824) : nI a - nI b = nI 0 ↔ a = b := by
  rw [← Int32.toInt_inj, pk_sub_toInt ha hb, nI_toInt (by omega)]
  omega
theorem ah_cl {c : Nat → Nat} {x z : Nat} (hx : c x ≤ 100) (hz : c z ≤ 100) : ah (clN c) x z = true ↔ c z < c x ∨ (c z = c x ∧ x < z) := by
  rw [ah_iff, lLt (by omega) (by omega), lEq (by omega) (by omega)]
theorem l_rkOf {X : Nat × (Nat → Int32)} {σ : Mem} {Q : List Value → Mem → Prop} {a : AS} {p z : Nat} (ok : AOK a) (h : MI σ a) (hp : p < 8) (hz : z < 7) : ∀ n i s (v : Value), i + n = 7 → (Rn X 144 5 [.ref 127, .int (nI p), .int (nI z), .int (nI s), .int (nI i), v] [] σ Q ↔ Q [.int (nI (s + smF (fun q => if ah (clN (cl a p)) q z = true then 1 else 0) i n))] σ) := by
  obtain ⟨m1, m2, m3, m4, m5, m6, m7, m8, m9, m10⟩ := id h
  obtain ⟨o1, o2, o3, o4, o5, o6, o7, o8⟩ := ok.1 p hp
  intro n
  induction n with
  | zero =>
    intro i s v hi
    have e : i = 7 := by omega
    subst e
    rw [q_144_5]
    simp (disch := omega) only [q_144_0, q_144_1, q_144_2, q_144_3, q_144_7, q_144_9, q_144_12, q_144_13, q_144_16, q_144_18, q_144_19, q_144_20, q_144_22, q_144_23, q_144_24, q_144_25, q_144_28, q_144_30, q_144_31, q_144_32, q_144_33, q_144_34, q_144_35, q_144_36, q_144_38, q_144_39, q_144_41, q_144_44, q_144_46, q_144_49, q_144_51, q_144_52, q_144_55, q_144_56, q_144_59, q_144_60, q_144_61, q_144_62, q_144_65, q_144_68, q_144_69, vinT, iClamp, clr_i, clr_l, clr_r, clr_n, true_and, and_true, or_true, true_or, false_or, or_false, iLe, iLt, iEq, iAdd, iMul, List.cons_append, List.nil_append, List.append_nil, zb0, zb1, if_true, if_false, not_true_eq_false, not_false_eq_true, Bool.false_eq_true, Nat.one_ne_zero, Nat.zero_ne_one, Nat.reduceEqDiff, Nat.reduceAdd, if_pos, if_neg, smF, Nat.add_zero]
  | succ n ih =>
    intro i s v hi
    have q1 := m8 p hp i (by omega)
    have q2 := m8 p hp z hz
    have b1 := o5 i (by omega)
    have b2' := o5 z hz
    have q := ah_cl (c := cl a p) (x := i) (z := z) b1 b2'
    rw [q_144_5, smF]
    by_cases c1 : cl a p z < cl a p i
    · rw [if_pos (q.mpr (Or.inl c1))]
      simp (disch := omega) only [q_144_0, q_144_1, q_144_2, q_144_3, q_144_7, q_144_9, q_144_12, q_144_13, q_144_16, q_144_18, q_144_19, q_144_20, q_144_22, q_144_23, q_144_24, q_144_25, q_144_28, q_144_30, q_144_31, q_144_32, q_144_33, q_144_34, q_144_35, q_144_36, q_144_38, q_144_39, q_144_41, q_144_44, q_144_46, q_144_49, q_144_51, q_144_52, q_144_55, q_144_56, q_144_59, q_144_60, q_144_61, q_144_62, q_144_65, q_144_68, q_144_69, vinT, iClamp, clr_i, clr_l, clr_r, clr_n, true_and, and_true, or_true, true_or, false_or, or_false, iLe, iLt, iEq, iAdd, iMul, List.cons_append, List.nil_append, List.append_nil, zb0, zb1, if_true, if_false, not_true_eq_false, not_false_eq_true, Bool.false_eq_true, Nat.one_ne_zero, Nat.zero_ne_one, Nat.reduceEqDiff, Nat.reduceAdd, if_pos, if_neg, m127, m128k, m128n, m129k, m129n, m130k, m130n, m131k, m131n, m132k, m132n, m133k, m133n, m134k, m134n, m135k, m135n, m136k, m136n, m137k, m137n, m138k, m138n, m139k, m139n, m140k, m140n, m141k, m141n, m142k, m142n, m143k, m143n, m144k, m144n, m145k, m145n, m146k, m146n, q1, q2, dGt, dEq]
      rw [ih (i + 1) _ _ (by omega), Nat.add_assoc]
    · by_cases c2 : cl a p i = cl a p z
      · by_cases c3 : i < z
        · rw [if_pos (q.mpr (Or.inr ⟨c2.symm, c3⟩))]
          simp (disch := omega) only [q_144_0, q_144_1, q_144_2, q_144_3, q_144_7, q_144_9, q_144_12, q_144_13, q_144_16, q_144_18, q_144_19, q_144_20, q_144_22, q_144_23, q_144_24, q_144_25, q_144_28, q_144_30, q_144_31, q_144_32, q_144_33, q_144_34, q_144_35, q_144_36, q_144_38, q_144_39, q_144_41, q_144_44, q_144_46, q_144_49, q_144_51, q_144_52, q_144_55, q_144_56, q_144_59, q_144_60, q_144_61, q_144_62, q_144_65, q_144_68, q_144_69, vinT, iClamp, clr_i, clr_l, clr_r, clr_n, true_and, and_true, or_true, true_or, false_or, or_false, iLe, iLt, iEq, iAdd, iMul, List.cons_append, List.nil_append, List.append_nil, zb0, zb1, if_true, if_false, not_true_eq_false, not_false_eq_true, Bool.false_eq_true, Nat.one_ne_zero, Nat.zero_ne_one, Nat.reduceEqDiff, Nat.reduceAdd, if_pos, if_neg, m127, m128k, m128n, m129k, m129n, m130k, m130n, m131k, m131n, m132k, m132n, m133k, m133n, m134k, m134n, m135k, m135n, m136k, m136n, m137k, m137n, m138k, m138n, m139k, m139n, m140k, m140n, m141k, m141n, m142k, m142n, m143k, m143n, m144k, m144n, m145k, m145n, m146k, m146n, q1, q2, dGt, dEq]
          rw [ih (i + 1) _ _ (by omega), Nat.add_assoc]
        · rw [if_neg (fun r => by have := q.mp r; omega)]
          simp (disch := omega) only [q_144_0, q_144_1, q_144_2, q_144_3, q_144_7, q_144_9, q_144_12, q_144_13, q_144_16, q_144_18, q_144_19, q_144_20, q_144_22, q_144_23, q_144_24, q_144_25, q_144_28, q_144_30, q_144_31, q_144_32, q_144_33, q_144_34, q_144_35, q_144_36, q_144_38, q_144_39, q_144_41, q_144_44, q_144_46, q_144_49, q_144_51, q_144_52, q_144_55, q_144_56, q_144_59, q_144_60, q_144_61, q_144_62, q_144_65, q_144_68, q_144_69, vinT, iClamp, clr_i, clr_l, clr_r, clr_n, true_and, and_true, or_true, true_or, false_or, or_false, iLe, iLt, iEq, iAdd, iMul, List.cons_append, List.nil_append, List.append_nil, zb0, zb1, if_true, if_false, not_true_eq_false, not_false_eq_true, Bool.false_eq_true, Nat.one_ne_zero, Nat.zero_ne_one, Nat.reduceEqDiff, Nat.reduceAdd, if_pos, if_neg, m127, m128k, m128n, m129k, m129n, m130k, m130n, m131k, m131n, m132k, m132n, m133k, m133n, m134k, m134n, m135k, m135n, m136k, m136n, m137k, m137n, m138k, m138n, m139k, m139n, m140k, m140n, m141k, m141n, m142k, m142n, m143k, m143n, m144k, m144n, m145k, m145n, m146k, m146n, q1, q2, dGt, dEq]
          rw [ih (i + 1) _ _ (by omega), Nat.add_zero, Nat.zero_add]
      · rw [if_neg (fun r => by have := q.mp r; omega)]
        simp (disch := omega) only [q_144_0, q_144_1, q_144_2, q_144_3, q_144_7, q_144_9, q_144_12, q_144_13, q_144_16, q_144_18, q_144_19, q_144_20, q_144_22, q_144_23, q_144_24, q_144_25, q_144_28, q_144_30, q_144_31, q_144_32, q_144_33, q_144_34, q_144_35, q_144_36, q_144_38, q_144_39, q_144_41, q_144_44, q_144_46, q_144_49, q_144_51, q_144_52, q_144_55, q_144_56, q_144_59, q_144_60, q_144_61, q_144_62, q_144_65, q_144_68, q_144_69, vinT, iClamp, clr_i, clr_l, clr_r, clr_n, true_and, and_true, or_true, true_or, false_or, or_false, iLe, iLt, iEq, iAdd, iMul, List.cons_append, List.nil_append, List.append_nil, zb0, zb1, if_true, if_false, not_true_eq_false, not_false_eq_true, Bool.false_eq_true, Nat.one_ne_zero, Nat.zero_ne_one, Nat.reduceEqDiff, Nat.reduceAdd, if_pos, if_neg, m127, m128k, m128n, m129k, m129n, m130k, m130n, m131k, m131n, m132k, m132n, m133k, m133n, m134k, m134n, m135k, m135n, m136k, m136n, m137k, m137n, m138k, m138n, m139k, m139n, m140k, m140n, m141k, m141n, m142k, m142n, m143k, m143n, m144k, m144n, m145k, m145n, m146k, m146n, q1, q2, dGt, dEq]
        rw [ih (i + 1) _ _ (by omega), Nat.add_zero, Nat.zero_add]
abbrev rkC (a : AS) (p z : Nat) : Nat := cnA (clN (cl a p)) (List.range 7) z
theorem s_rkOf {X : Nat × (Nat → Int32)} {σ : Mem} {Q : List Value → Mem → Prop} {a : AS} {p z : Nat} {u1 u2 u3 : Value} (ok : AOK a) (h : MI σ a) (hp : p < 8) (hz : z < 7) : Rn X 144 0 [.ref 127, .int (nI p), .int (nI z), u1, u2, u3] [] σ Q ↔ Q [.int (nI (rkC a p z))] σ := by
  simp only [q_144_0, q_144_1, q_144_2, q_144_3, clr_i, l_rkOf ok h hp hz 7 0 0 u3 rfl, Nat.zero_add]
  rw [← cnA_all]
def oC (c : Nat → Nat) (o : Option Nat) : Int32 := match o with
  | some z => nI (c z)
  | none => nI 0
theorem l_clAt {X : Nat × (Nat → Int32)} {σ : Mem} {Q : List Value → Mem → Prop} {a : AS} {p r : Nat} (ok : AOK a) (h : MI σ a) (hp : p < 8) (hr : r ≤ 7) : ∀ n i, i + n = 7 → (Rn X 145 2 [.ref 127, .int (nI p), .int (nI r), .int (nI i)] [] σ Q ↔ Q [.int (oC (cl a p) (fsF (rkP (clN (cl a p)) (List.range 7) (nI r)) i n))] σ) := by
  obtain ⟨m1, m2, m3, m4, m5, m6, m7, m8, m9, m10⟩ := id h
  obtain ⟨o1, o2, o3, o4, o5, o6, o7, o8⟩ := ok.1 p hp
  intro n
  induction n with
  | zero =>
    intro i hi
    have e : i = 7 := by omega
    subst e
    rw [q_145_2]
    simp (disch := omega) only [q_145_0, q_145_1, q_145_3, q_145_5, q_145_8, q_145_9, q_145_10, q_145_11, q_145_14, q_145_15, q_145_18, q_145_19, q_145_22, q_145_24, q_145_25, q_145_26, q_145_27, q_145_28, q_145_29, q_145_30, q_145_33, q_145_36, q_145_37, vinT, iClamp, clr_i, clr_l, clr_r, clr_n, true_and, and_true, or_true, true_or, false_or, or_false, iLe, iLt, iEq, iAdd, iMul, List.cons_append, List.nil_append, List.append_nil, zb0, zb1, if_true, if_false, not_true_eq_false, not_false_eq_true, Bool.false_eq_true, Nat.one_ne_zero, Nat.zero_ne_one, Nat.reduceEqDiff, Nat.reduceAdd, if_pos, if_neg, fsF, oC]
  | succ n ih =>
    intro i hi
    have hm : i ∈ List.range 7 := List.mem_range.mpr (by omega)
    have h7 : rkC a p i < 7 := (fF_rank (c := cl a p) o5 (show i < 7 by omega)).1
    rw [q_145_2, fsF]
    by_cases c : rkC a p i = r
    · have e : rkP (clN (cl a p)) (List.range 7) (nI r) i = true := by rw [rkP, Bool.and_eq_true, decide_eq_true_eq, decide_eq_true_eq]; exact ⟨hm, by rw [← c]⟩
      rw [if_pos e, oC]
      simp (disch := omega) only [q_145_0, q_145_1, q_145_3, q_145_5, q_145_8, q_145_9, q_145_10, q_145_11, q_145_14, q_145_15, q_145_18, q_145_19, q_145_22, q_145_24, q_145_25, q_145_26, q_145_27, q_145_28, q_145_29, q_145_30, q_145_33, q_145_36, q_145_37, vinT, iClamp, clr_i, clr_l, clr_r, clr_n, true_and, and_true, or_true, true_or, false_or, or_false, iLe, iLt, iEq, iAdd, iMul, List.cons_append, List.nil_append, List.append_nil, zb0, zb1, if_true, if_false, not_true_eq_false, not_false_eq_true, Bool.false_eq_true, Nat.one_ne_zero, Nat.zero_ne_one, Nat.reduceEqDiff, Nat.reduceAdd, if_pos, if_neg, m127, m128k, m128n, m129k, m129n, m130k, m130n, m131k, m131n, m132k, m132n, m133k, m133n, m134k, m134n, m135k, m135n, m136k, m136n, m137k, m137n, m138k, m138n, m139k, m139n, m140k, m140n, m141k, m141n, m142k, m142n, m143k, m143n, m144k, m144n, m145k, m145n, m146k, m146n, s_rkOf ok h hp (show i < 7 by omega), c, m8 p hp i (by omega)]
    · have e : ¬ rkP (clN (cl a p)) (List.range 7) (nI r) i = true := by
        rw [rkP, Bool.and_eq_true, decide_eq_true_eq, decide_eq_true_eq]
        exact fun q => c ((iEq (by omega) (by omega)).mp q.2)
      rw [if_neg e]
      simp (disch := omega) only [q_145_0, q_145_1, q_145_3, q_145_5, q_145_8, q_145_9, q_145_10, q_145_11, q_145_14, q_145_15, q_145_18, q_145_19, q_145_22, q_145_24, q_145_25, q_145_26, q_145_27, q_145_28, q_145_29, q_145_30, q_145_33, q_145_36, q_145_37, vinT, iClamp, clr_i, clr_l, clr_r, clr_n, true_and, and_true, or_true, true_or, false_or, or_false, iLe, iLt, iEq, iAdd, iMul, List.cons_append, List.nil_append, List.append_nil, zb0, zb1, if_true, if_false, not_true_eq_false, not_false_eq_true, Bool.false_eq_true, Nat.one_ne_zero, Nat.zero_ne_one, Nat.reduceEqDiff, Nat.reduceAdd, if_pos, if_neg, m127, m128k, m128n, m129k, m129n, m130k, m130n, m131k, m131n, m132k, m132n, m133k, m133n, m134k, m134n, m135k, m135n, m136k, m136n, m137k, m137n, m138k, m138n, m139k, m139n, m140k, m140n, m141k, m141n, m142k, m142n, m143k, m143n, m144k, m144n, m145k, m145n, m146k, m146n, s_rkOf ok h hp (show i < 7 by omega), c]
      rw [ih (i + 1) (by omega)]
theorem s_clAt {X : Nat × (Nat → Int32)} {σ : Mem} {Q : List Value → Mem → Prop} {a : AS} {p r : Nat} {u : Value} (ok : AOK a) (h : MI σ a) (hp : p < 8) (hr : r ≤ 7) : Rn X 145 0 [.ref 127, .int (nI p), .int (nI r), u] [] σ Q ↔ Q [.int (nI (fF (cl a p) r))] σ := by
  obtain ⟨o1, o2, o3, o4, o5, o6, o7, o8⟩ := ok.1 p hp
  have e : oC (cl a p) (fsF (rkP (clN (cl a p)) (List.range 7) (nI r)) 0 7) = nI (fF (cl a p) r) := by
    rcases fs_rank (N := clN (cl a p)) (y := nI r) r7_nd r7_lt (by simp) with ⟨k, h1, h2, h3⟩ | ⟨h1, h2⟩
    · rw [r7_len] at h1
      have ek : r = k := (iEq (by omega) (by omega)).mp h2
      subst ek
      rw [h3, fF_at o5 h1]
      rfl
    · rw [r7_len] at h1
      have ek : r = 7 := by
        by_cases q : r < 7
        · exact absurd (inR_nI q (by omega)) h1
        · omega
      rw [h2, ek, fF_out]
      rfl
  simp only [q_145_0, q_145_1, clr_i, l_clAt ok h hp hr 7 0 rfl, e]
theorem l_smOf {X : Nat × (Nat → Int32)} {σ : Mem} {Q : List Value → Mem → Prop} {a : AS} {p m : Nat} (ok : AOK a) (h : MI σ a) (hp : p < 8) (hm : m ≤ 7) : ∀ n i s, i + n = m → (Rn X 146 5 [.ref 127, .int (nI p), .int (nI m), .int (nI s), .int (nI i)] [] σ Q ↔ Q [.int (nI (s + smF (fF (cl a p)) i n))] σ) := by
  intro n
  induction n with
  | zero =>
    intro i s hi
    have e : i = m := by omega
    subst e
    rw [q_146_5]
    simp (disch := omega) only [q_146_0, q_146_1, q_146_2, q_146_3, q_146_7, q_146_8, q_146_11, q_146_12, q_146_13, q_146_14, q_146_16, q_146_19, q_146_20, q_146_21, q_146_24, q_146_27, q_146_28, vinT, iClamp, clr_i, clr_l, clr_r, clr_n, true_and, and_true, or_true, true_or, false_or, or_false, iLe, iLt, iEq, iAdd, iMul, List.cons_append, List.nil_append, List.append_nil, zb0, zb1, if_true, if_false, not_true_eq_false, not_false_eq_true, Bool.false_eq_true, Nat.one_ne_zero, Nat.zero_ne_one, Nat.reduceEqDiff, Nat.reduceAdd, if_pos, if_neg, smF, Nat.add_zero]
  | succ n ih =>
    intro i s hi
    rw [q_146_5]
    simp (disch := omega) only [q_146_0, q_146_1, q_146_2, q_146_3, q_146_7, q_146_8, q_146_11, q_146_12, q_146_13, q_146_14, q_146_16, q_146_19, q_146_20, q_146_21, q_146_24, q_146_27, q_146_28, vinT, iClamp, clr_i, clr_l, clr_r, clr_n, true_and, and_true, or_true, true_or, false_or, or_false, iLe, iLt, iEq, iAdd, iMul, List.cons_append, List.nil_append, List.append_nil, zb0, zb1, if_true, if_false, not_true_eq_false, not_false_eq_true, Bool.false_eq_true, Nat.one_ne_zero, Nat.zero_ne_one, Nat.reduceEqDiff, Nat.reduceAdd, if_pos, if_neg, m127, m128k, m128n, m129k, m129n, m130k, m130n, m131k, m131n, m132k, m132n, m133k, m133n, m134k, m134n, m135k, m135n, m136k, m136n, m137k, m137n, m138k, m138n, m139k, m139n, m140k, m140n, m141k, m141n, m142k, m142n, m143k, m143n, m144k, m144n, m145k, m145n, m146k, m146n, s_clAt ok h hp (show i ≤ 7 by omega)]
    rw [ih (i + 1) _ (by omega), smF, Nat.add_assoc]
theorem s_smOf {X : Nat × (Nat → Int32)} {σ : Mem} {Q : List Value → Mem → Prop} {a : AS} {p m : Nat} {u v : Value} (ok : AOK a) (h : MI σ a) (hp : p < 8) (hm : m ≤ 7) : Rn X 146 0 [.ref 127, .int (nI p), .int (nI m), u, v] [] σ Q ↔ Q [.int (nI (SS (fF (cl a p)) m))] σ := by
  simp only [q_146_0, q_146_1, q_146_2, q_146_3, clr_i, l_smOf ok h hp hm m 0 0 (by omega), Nat.zero_add, SS]
def cpB (F : Nat → Nat) (m : Nat) : Bool := decide (SS F 7 ≤ 100 + SS F m) && (decide (100 + SS F m - SS F 7 ≤ m * F (m - 1)) && decide (m * F m ≤ 100 + SS F m - SS F 7))
def loB (F : Nat → Nat) (m : Nat) : Bool := decide (100 ≤ SS F m) && (decide (SS F m - 100 ≤ m * F (m - 1)) && decide (m * F m ≤ SS F m - 100))
theorem cpB_iff {F : Nat → Nat} {m : Nat} : cpB F m = true ↔ capP F m := by simp [cpB, capP]
theorem loB_iff {F : Nat → Nat} {m : Nat} : loB F m = true ↔ losP F m := by simp [loB, losP]
theorem fF_b {a : AS} {p : Nat} (ok : AOK a) (hp : p < 8) {j : Nat} (hj : j ≤ 7) : fF (cl a p) j ≤ 100 := by
  obtain ⟨o1, o2, o3, o4, o5, o6, o7, o8⟩ := ok.1 p hp
  by_cases c : j < 7
  · exact fF_le o5 c
  · rw [show j = 7 by omega, fF_out]; omega
theorem s_isCapM {X : Nat × (Nat → Int32)} {σ : Mem} {Q : List Value → Mem → Prop} {a : AS} {p m : Nat} {u : Value} (ok : AOK a) (h : MI σ a) (hp : p < 8) (h1 : 1 ≤ m) (hm : m ≤ 7) : Rn X 147 0 [.ref 127, .int (nI p), .int (nI m), u] [] σ Q ↔ Q [.int (b2 (cpB (fF (cl a p)) m = true))] σ := by
  obtain ⟨o1, o2, o3, o4, o5, o6, o7, o8⟩ := ok.1 p hp
  have eall := SS_all (c := cl a p) o5
  have hle := SS_le o5 (n := m) hm
  have hal := SS_le o5 (n := 7) (by omega)
  have hmo := SS_mono (fF (cl a p)) hm
  have b1 := fF_b ok hp (show m - 1 ≤ 7 by omega)
  have b2' := fF_b ok hp hm
  have b3 : m * fF (cl a p) (m - 1) ≤ 7 * 100 := Nat.mul_le_mul hm b1
  have b4 : m * fF (cl a p) m ≤ 7 * 100 := Nat.mul_le_mul hm b2'
  have hs : 100 - (SS (fF (cl a p)) 7 - SS (fF (cl a p)) m) = 100 + SS (fF (cl a p)) m - SS (fF (cl a p)) 7 ∨ 100 < SS (fF (cl a p)) 7 - SS (fF (cl a p)) m := by omega
  by_cases c1 : SS (fF (cl a p)) 7 ≤ 100 + SS (fF (cl a p)) m
  · by_cases c2 : 100 + SS (fF (cl a p)) m - SS (fF (cl a p)) 7 ≤ m * fF (cl a p) (m - 1)
    · by_cases c3 : m * fF (cl a p) m ≤ 100 + SS (fF (cl a p)) m - SS (fF (cl a p)) 7
      · have e : b2 (cpB (fF (cl a p)) m = true) = nI 1 := b2_t (cpB_iff.mpr ⟨c1, c2, c3⟩)
        simp (disch := omega) only [q_147_0, q_147_2, q_147_3, q_147_4, q_147_7, q_147_8, q_147_9, q_147_10, q_147_13, q_147_14, q_147_15, q_147_16, q_147_17, q_147_20, q_147_21, q_147_22, q_147_23, q_147_24, q_147_25, q_147_26, q_147_27, q_147_30, q_147_31, q_147_34, q_147_35, q_147_36, q_147_37, q_147_38, q_147_39, q_147_42, q_147_43, q_147_46, q_147_47, q_147_50, q_147_51, vinT, iClamp, clr_i, clr_l, clr_r, clr_n, true_and, and_true, or_true, true_or, false_or, or_false, iLe, iLt, iEq, iAdd, iMul, List.cons_append, List.nil_append, List.append_nil, zb0, zb1, if_true, if_false, not_true_eq_false, not_false_eq_true, Bool.false_eq_true, Nat.one_ne_zero, Nat.zero_ne_one, Nat.reduceEqDiff, Nat.reduceAdd, if_pos, if_neg, m127, m128k, m128n, m129k, m129n, m130k, m130n, m131k, m131n, m132k, m132n, m133k, m133n, m134k, m134n, m135k, m135n, m136k, m136n, m137k, m137n, m138k, m138n, m139k, m139n, m140k, m140n, m141k, m141n, m142k, m142n, m143k, m143n, m144k, m144n, m145k, m145n, m146k, m146n, s_allM h hp, ← eall, s_smOf ok h hp hm, iSub, s_clAt ok h hp hm, s_clAt ok h hp (show m - 1 ≤ 7 by omega), e]
      · have e : b2 (cpB (fF (cl a p)) m = true) = nI 0 := b2_f (fun q => c3 (cpB_iff.mp q).2.2)
        simp (disch := omega) only [q_147_0, q_147_2, q_147_3, q_147_4, q_147_7, q_147_8, q_147_9, q_147_10, q_147_13, q_147_14, q_147_15, q_147_16, q_147_17, q_147_20, q_147_21, q_147_22, q_147_23, q_147_24, q_147_25, q_147_26, q_147_27, q_147_30, q_147_31, q_147_34, q_147_35, q_147_36, q_147_37, q_147_38, q_147_39, q_147_42, q_147_43, q_147_46, q_147_47, q_147_50, q_147_51, vinT, iClamp, clr_i, clr_l, clr_r, clr_n, true_and, and_true, or_true, true_or, false_or, or_false, iLe, iLt, iEq, iAdd, iMul, List.cons_append, List.nil_append, List.append_nil, zb0, zb1, if_true, if_false, not_true_eq_false, not_false_eq_true, Bool.false_eq_true, Nat.one_ne_zero, Nat.zero_ne_one, Nat.reduceEqDiff, Nat.reduceAdd, if_pos, if_neg, m127, m128k, m128n, m129k, m129n, m130k, m130n, m131k, m131n, m132k, m132n, m133k, m133n, m134k, m134n, m135k, m135n, m136k, m136n, m137k, m137n, m138k, m138n, m139k, m139n, m140k, m140n, m141k, m141n, m142k, m142n, m143k, m143n, m144k, m144n, m145k, m145n, m146k, m146n, s_allM h hp, ← eall, s_smOf ok h hp hm, iSub, s_clAt ok h hp hm, s_clAt ok h hp (show m - 1 ≤ 7 by omega), e]
    · have e : b2 (cpB (fF (cl a p)) m = true) = nI 0 := b2_f (fun q => c2 (cpB_iff.mp q).2.1)
      simp (disch := omega) only [q_147_0, q_147_2, q_147_3, q_147_4, q_147_7, q_147_8, q_147_9, q_147_10, q_147_13, q_147_14, q_147_15, q_147_16, q_147_17, q_147_20, q_147_21, q_147_22, q_147_23, q_147_24, q_147_25, q_147_26, q_147_27, q_147_30, q_147_31, q_147_34, q_147_35, q_147_36, q_147_37, q_147_38, q_147_39, q_147_42, q_147_43, q_147_46, q_147_47, q_147_50, q_147_51, vinT, iClamp, clr_i, clr_l, clr_r, clr_n, true_and, and_true, or_true, true_or, false_or, or_false, iLe, iLt, iEq, iAdd, iMul, List.cons_append, List.nil_append, List.append_nil, zb0, zb1, if_true, if_false, not_true_eq_false, not_false_eq_true, Bool.false_eq_true, Nat.one_ne_zero, Nat.zero_ne_one, Nat.reduceEqDiff, Nat.reduceAdd, if_pos, if_neg, m127, m128k, m128n, m129k, m129n, m130k, m130n, m131k, m131n, m132k, m132n, m133k, m133n, m134k, m134n, m135k, m135n, m136k, m136n, m137k, m137n, m138k, m138n, m139k, m139n, m140k, m140n, m141k, m141n, m142k, m142n, m143k, m143n, m144k, m144n, m145k, m145n, m146k, m146n, s_allM h hp, ← eall, s_smOf ok h hp hm, iSub, s_clAt ok h hp hm, s_clAt ok h hp (show m - 1 ≤ 7 by omega), e]
  · have e : b2 (cpB (fF (cl a p)) m = true) = nI 0 := b2_f (fun q => c1 (cpB_iff.mp q).1)
    simp (disch := omega) only [q_147_0, q_147_2, q_147_3, q_147_4, q_147_7, q_147_8, q_147_9, q_147_10, q_147_13, q_147_14, q_147_15, q_147_16, q_147_17, q_147_20, q_147_21, q_147_22, q_147_23, q_147_24, q_147_25, q_147_26, q_147_27, q_147_30, q_147_31, q_147_34, q_147_35, q_147_36, q_147_37, q_147_38, q_147_39, q_147_42, q_147_43, q_147_46, q_147_47, q_147_50, q_147_51, vinT, iClamp, clr_i, clr_l, clr_r, clr_n, true_and, and_true, or_true, true_or, false_or, or_false, iLe, iLt, iEq, iAdd, iMul, List.cons_append, List.nil_append, List.append_nil, zb0, zb1, if_true, if_false, not_true_eq_false, not_false_eq_true, Bool.false_eq_true, Nat.one_ne_zero, Nat.zero_ne_one, Nat.reduceEqDiff, Nat.reduceAdd, if_pos, if_neg, m127, m128k, m128n, m129k, m129n, m130k, m130n, m131k, m131n, m132k, m132n, m133k, m133n, m134k, m134n, m135k, m135n, m136k, m136n, m137k, m137n, m138k, m138n, m139k, m139n, m140k, m140n, m141k, m141n, m142k, m142n, m143k, m143n, m144k, m144n, m145k, m145n, m146k, m146n, s_allM h hp, ← eall, s_smOf ok h hp hm, iSub, dLt, e]
theorem s_isLossM {X : Nat × (Nat → Int32)} {σ : Mem} {Q : List Value → Mem → Prop} {a : AS} {p m : Nat} {u : Value} (ok : AOK a) (h : MI σ a) (hp : p < 8) (h1 : 1 ≤ m) (hm : m ≤ 7) : Rn X 148 0 [.ref 127, .int (nI p), .int (nI m), u] [] σ Q ↔ Q [.int (b2 (loB (fF (cl a p)) m = true))] σ := by
  obtain ⟨o1, o2, o3, o4, o5, o6, o7, o8⟩ := ok.1 p hp
  have hle := SS_le o5 (n := m) hm
  have b1 := fF_b ok hp (show m - 1 ≤ 7 by omega)
  have b2' := fF_b ok hp hm
  have b3 : m * fF (cl a p) (m - 1) ≤ 7 * 100 := Nat.mul_le_mul hm b1
  have b4 : m * fF (cl a p) m ≤ 7 * 100 := Nat.mul_le_mul hm b2'
  by_cases c1 : 100 ≤ SS (fF (cl a p)) m
  · by_cases c2 : SS (fF (cl a p)) m - 100 ≤ m * fF (cl a p) (m - 1)
    · by_cases c3 : m * fF (cl a p) m ≤ SS (fF (cl a p)) m - 100
      · have e : b2 (loB (fF (cl a p)) m = true) = nI 1 := b2_t (loB_iff.mpr ⟨c1, c2, c3⟩)
        simp (disch := omega) only [q_148_0, q_148_1, q_148_2, q_148_3, q_148_6, q_148_8, q_148_9, q_148_10, q_148_11, q_148_14, q_148_15, q_148_16, q_148_17, q_148_18, q_148_19, q_148_20, q_148_21, q_148_24, q_148_25, q_148_28, q_148_29, q_148_30, q_148_31, q_148_32, q_148_33, q_148_36, q_148_37, q_148_40, q_148_41, q_148_44, q_148_45, vinT, iClamp, clr_i, clr_l, clr_r, clr_n, true_and, and_true, or_true, true_or, false_or, or_false, iLe, iLt, iEq, iAdd, iMul, List.cons_append, List.nil_append, List.append_nil, zb0, zb1, if_true, if_false, not_true_eq_false, not_false_eq_true, Bool.false_eq_true, Nat.one_ne_zero, Nat.zero_ne_one, Nat.reduceEqDiff, Nat.reduceAdd, if_pos, if_neg, m127, m128k, m128n, m129k, m129n, m130k, m130n, m131k, m131n, m132k, m132n, m133k, m133n, m134k, m134n, m135k, m135n, m136k, m136n, m137k, m137n, m138k, m138n, m139k, m139n, m140k, m140n, m141k, m141n, m142k, m142n, m143k, m143n, m144k, m144n, m145k, m145n, m146k, m146n, s_smOf ok h hp hm, iSub, s_clAt ok h hp hm, s_clAt ok h hp (show m - 1 ≤ 7 by omega), e]
      · have e : b2 (loB (fF (cl a p)) m = true) = nI 0 := b2_f (fun q => c3 (loB_iff.mp q).2.2)
        simp (disch := omega) only [q_148_0, q_148_1, q_148_2, q_148_3, q_148_6, q_148_8, q_148_9, q_148_10, q_148_11, q_148_14, q_148_15, q_148_16, q_148_17, q_148_18, q_148_19, q_148_20, q_148_21, q_148_24, q_148_25, q_148_28, q_148_29, q_148_30, q_148_31, q_148_32, q_148_33, q_148_36, q_148_37, q_148_40, q_148_41, q_148_44, q_148_45, vinT, iClamp, clr_i, clr_l, clr_r, clr_n, true_and, and_true, or_true, true_or, false_or, or_false, iLe, iLt, iEq, iAdd, iMul, List.cons_append, List.nil_append, List.append_nil, zb0, zb1, if_true, if_false, not_true_eq_false, not_false_eq_true, Bool.false_eq_true, Nat.one_ne_zero, Nat.zero_ne_one, Nat.reduceEqDiff, Nat.reduceAdd, if_pos, if_neg, m127, m128k, m128n, m129k, m129n, m130k, m130n, m131k, m131n, m132k, m132n, m133k, m133n, m134k, m134n, m135k, m135n, m136k, m136n, m137k, m137n, m138k, m138n, m139k, m139n, m140k, m140n, m141k, m141n, m142k, m142n, m143k, m143n, m144k, m144n, m145k, m145n, m146k, m146n, s_smOf ok h hp hm, iSub, s_clAt ok h hp hm, s_clAt ok h hp (show m - 1 ≤ 7 by omega), e]
    · have e : b2 (loB (fF (cl a p)) m = true) = nI 0 := b2_f (fun q => c2 (loB_iff.mp q).2.1)
      simp (disch := omega) only [q_148_0, q_148_1, q_148_2, q_148_3, q_148_6, q_148_8, q_148_9, q_148_10, q_148_11, q_148_14, q_148_15, q_148_16, q_148_17, q_148_18, q_148_19, q_148_20, q_148_21, q_148_24, q_148_25, q_148_28, q_148_29, q_148_30, q_148_31, q_148_32, q_148_33, q_148_36, q_148_37, q_148_40, q_148_41, q_148_44, q_148_45, vinT, iClamp, clr_i, clr_l, clr_r, clr_n, true_and, and_true, or_true, true_or, false_or, or_false, iLe, iLt, iEq, iAdd, iMul, List.cons_append, List.nil_append, List.append_nil, zb0, zb1, if_true, if_false, not_true_eq_false, not_false_eq_true, Bool.false_eq_true, Nat.one_ne_zero, Nat.zero_ne_one, Nat.reduceEqDiff, Nat.reduceAdd, if_pos, if_neg, m127, m128k, m128n, m129k, m129n, m130k, m130n, m131k, m131n, m132k, m132n, m133k, m133n, m134k, m134n, m135k, m135n, m136k, m136n, m137k, m137n, m138k, m138n, m139k, m139n, m140k, m140n, m141k, m141n, m142k, m142n, m143k, m143n, m144k, m144n, m145k, m145n, m146k, m146n, s_smOf ok h hp hm, iSub, s_clAt ok h hp hm, s_clAt ok h hp (show m - 1 ≤ 7 by omega), e]
  · have e : b2 (loB (fF (cl a p)) m = true) = nI 0 := b2_f (fun q => c1 (loB_iff.mp q).1)
    simp (disch := omega) only [q_148_0, q_148_1, q_148_2, q_148_3, q_148_6, q_148_8, q_148_9, q_148_10, q_148_11, q_148_14, q_148_15, q_148_16, q_148_17, q_148_18, q_148_19, q_148_20, q_148_21, q_148_24, q_148_25, q_148_28, q_148_29, q_148_30, q_148_31, q_148_32, q_148_33, q_148_36, q_148_37, q_148_40, q_148_41, q_148_44, q_148_45, vinT, iClamp, clr_i, clr_l, clr_r, clr_n, true_and, and_true, or_true, true_or, false_or, or_false, iLe, iLt, iEq, iAdd, iMul, List.cons_append, List.nil_append, List.append_nil, zb0, zb1, if_true, if_false, not_true_eq_false, not_false_eq_true, Bool.false_eq_true, Nat.one_ne_zero, Nat.zero_ne_one, Nat.reduceEqDiff, Nat.reduceAdd, if_pos, if_neg, m127, m128k, m128n, m129k, m129n, m130k, m130n, m131k, m131n, m132k, m132n, m133k, m133n, m134k, m134n, m135k, m135n, m136k, m136n, m137k, m137n, m138k, m138n, m139k, m139n, m140k, m140n, m141k, m141n, m142k, m142n, m143k, m143n, m144k, m144n, m145k, m145n, m146k, m146n, s_smOf ok h hp hm, iSub, dLt, e]
/-! the cut -/
def gcF (a : AS) (p r m q : Nat) : Nat := if r = 1 then (if rkC a p q < m then 100 + SS (fF (cl a p)) m - SS (fF (cl a p)) 7 else m * cl a p q) else (if rkC a p q < m then m * cl a p q - (SS (fF (cl a p)) m - 100) else 0)
def cuB (a : AS) (p r m : Nat) : Bool := if r = 1 then cpB (fF (cl a p)) m else loB (fF (cl a p)) m
theorem lSub {a b : Nat} (h : b ≤ a) : lN a - lN b = lN (a - b) := lN_sub h
theorem l_cutM {X : Nat × (Nat → Int32)} {a : AS} {p r m : Nat} {kc kl : Int32} (ok : AOK a) (hp : p < 8) (hr : r = 1 ∨ r = 2) (hm1 : 1 ≤ m) (hm : m ≤ 7) (hP : cuB a p r m = true) (hkc : r = 1 → kc = nI (100 + SS (fF (cl a p)) m - SS (fF (cl a p)) 7)) (hkl : r = 2 → kl = nI (SS (fF (cl a p)) m - 100)) : ∀ n i (σ : Mem) (v7 v8 v9 : Value), MI σ a → i + n = 7 → ∃ σ', (∀ Q, Rn X 149 37 [.ref 127, .int (nI p), .int (nI r), .int (nI m), .int kc, .int kl, .int (nI i), v7, v8, v9] [] σ Q ↔ Q [] σ') ∧ (∀ q, i ≤ q → q < 7 → σ'.2 141 q = lN (gcF a p r m q)) ∧ (∀ q, q < i → σ'.2 141 q = σ.2 141 q) ∧ Off [141] σ σ' := by
  obtain ⟨o1, o2, o3, o4, o5, o6, o7, o8⟩ := ok.1 p hp
  have hle := SS_le o5 (n := m) hm
  intro n
  induction n with
  | zero =>
    intro i σ v7 v8 v9 h hi
    have e : i = 7 := by omega
    subst e
    refine ⟨σ, fun Q => ?_, fun q h1 h2 => absurd h2 (by omega), fun _ _ => rfl, Off.rf _ _⟩
    rw [q_149_37]
    simp (disch := omega) only [q_149_39, q_149_41, q_149_44, q_149_45, q_149_46, q_149_47, q_149_50, q_149_52, q_149_53, q_149_54, q_149_56, q_149_57, q_149_58, q_149_59, q_149_60, q_149_62, q_149_63, q_149_64, q_149_66, q_149_69, q_149_70, q_149_73, q_149_74, q_149_77, q_149_78, q_149_80, q_149_81, q_149_84, q_149_86, q_149_87, q_149_88, q_149_91, q_149_93, q_149_96, q_149_98, q_149_99, q_149_102, q_149_104, q_149_107, q_149_109, q_149_112, q_149_114, q_149_116, q_149_117, q_149_118, q_149_121, q_149_122, q_149_123, q_149_126, q_149_129, vinT, iClamp, clr_i, clr_l, clr_r, clr_n, true_and, and_true, or_true, true_or, false_or, or_false, iLe, iLt, iEq, iAdd, iMul, List.cons_append, List.nil_append, List.append_nil, zb0, zb1, if_true, if_false, not_true_eq_false, not_false_eq_true, Bool.false_eq_true, Nat.one_ne_zero, Nat.zero_ne_one, Nat.reduceEqDiff, Nat.reduceAdd, if_pos, if_neg]
  | succ n ih =>
    intro i σ v7 v8 v9 h hi
    obtain ⟨m1, m2, m3, m4, m5, m6, m7, m8, m9, m10⟩ := id h
    have hi7 : i < 7 := by omega
    have q8 := m8 p hp i hi7
    have b1 := o5 i hi7
    have k7 : rkC a p i < 7 := (fF_rank (c := cl a p) o5 hi7).1
    have kv : fF (cl a p) (rkC a p i) = cl a p i := (fF_rank (c := cl a p) o5 hi7).2
    have b3 : m * cl a p i ≤ 7 * 100 := Nat.mul_le_mul hm b1
    have ho : Off [141] σ (sL σ 141 i (lN (gcF a p r m i))) := (Off.rf _ σ).sL (by simp) _ _
    have fin : ∀ (σ' : Mem) (v : Int32), (∀ Q, Rn X 149 37 [.ref 127, .int (nI p), .int (nI r), .int (nI m), .int kc, .int kl, .int (nI i), v7, v8, v9] [] σ Q ↔ Rn X 149 37 [.ref 127, .int (nI p), .int (nI r), .int (nI m), .int kc, .int kl, .int (nI (i + 1)), .long (lN (m * cl a p i)), .null, .int v] [] (sL σ 141 i (lN (gcF a p r m i))) Q) → ∃ σ', (∀ Q, Rn X 149 37 [.ref 127, .int (nI p), .int (nI r), .int (nI m), .int kc, .int kl, .int (nI i), v7, v8, v9] [] σ Q ↔ Q [] σ') ∧ (∀ q, i ≤ q → q < 7 → σ'.2 141 q = lN (gcF a p r m q)) ∧ (∀ q, q < i → σ'.2 141 q = σ.2 141 q) ∧ Off [141] σ σ' := fun _ v hq => by
      obtain ⟨σ', i1, i2, i3, i4⟩ := ih (i + 1) (sL σ 141 i (lN (gcF a p r m i))) (.long (lN (m * cl a p i))) .null (.int v) (MI_scr h (ho.mono (by decide))) (by omega)
      refine ⟨σ', fun Q => (hq Q).trans (i1 Q), fun q h1 h2 => ?_, fun q hq => ?_, ho.tr i4⟩
      · by_cases e : q = i
        · rw [i3 q (by omega), e, sL_at]
        · exact i2 q (by omega) h2
      · rw [i3 q (by omega), sL_off (by omega)]
    by_cases c : rkC a p i < m
    · refine fin σ (nI 1) (fun Q => ?_)
      rw [q_149_37]
      rcases hr with rfl | rfl
      · have eg : gcF a p 1 m i = 100 + SS (fF (cl a p)) m - SS (fF (cl a p)) 7 := by rw [gcF, if_pos rfl, if_pos c]
        rw [eg, hkc rfl]
        simp (disch := omega) only [q_149_39, q_149_41, q_149_44, q_149_45, q_149_46, q_149_47, q_149_50, q_149_52, q_149_53, q_149_54, q_149_56, q_149_57, q_149_58, q_149_59, q_149_60, q_149_62, q_149_63, q_149_64, q_149_66, q_149_69, q_149_70, q_149_73, q_149_74, q_149_77, q_149_78, q_149_80, q_149_81, q_149_84, q_149_86, q_149_87, q_149_88, q_149_91, q_149_93, q_149_96, q_149_98, q_149_99, q_149_102, q_149_104, q_149_107, q_149_109, q_149_112, q_149_114, q_149_116, q_149_117, q_149_118, q_149_121, q_149_122, q_149_123, q_149_126, q_149_129, vinT, iClamp, clr_i, clr_l, clr_r, clr_n, true_and, and_true, or_true, true_or, false_or, or_false, iLe, iLt, iEq, iAdd, iMul, List.cons_append, List.nil_append, List.append_nil, zb0, zb1, if_true, if_false, not_true_eq_false, not_false_eq_true, Bool.false_eq_true, Nat.one_ne_zero, Nat.zero_ne_one, Nat.reduceEqDiff, Nat.reduceAdd, if_pos, if_neg, m127, m128k, m128n, m129k, m129n, m130k, m130n, m131k, m131n, m132k, m132n, m133k, m133n, m134k, m134n, m135k, m135n, m136k, m136n, m137k, m137n, m138k, m138n, m139k, m139n, m140k, m140n, m141k, m141n, m142k, m142n, m143k, m143n, m144k, m144n, m145k, m145n, m146k, m146n, q8, i2L, lMul, s_rkOf ok h hp hi7]
      · have eg : gcF a p 2 m i = m * cl a p i - (SS (fF (cl a p)) m - 100) := by rw [gcF, if_neg (by omega), if_pos c]
        have hP' : losP (fF (cl a p)) m := loB_iff.mp (by simpa [cuB] using hP)
        have hown := los_own (fF_mono o5) hm hP' c kv
        rw [eg, hkl rfl]
        simp (disch := omega) only [q_149_39, q_149_41, q_149_44, q_149_45, q_149_46, q_149_47, q_149_50, q_149_52, q_149_53, q_149_54, q_149_56, q_149_57, q_149_58, q_149_59, q_149_60, q_149_62, q_149_63, q_149_64, q_149_66, q_149_69, q_149_70, q_149_73, q_149_74, q_149_77, q_149_78, q_149_80, q_149_81, q_149_84, q_149_86, q_149_87, q_149_88, q_149_91, q_149_93, q_149_96, q_149_98, q_149_99, q_149_102, q_149_104, q_149_107, q_149_109, q_149_112, q_149_114, q_149_116, q_149_117, q_149_118, q_149_121, q_149_122, q_149_123, q_149_126, q_149_129, vinT, iClamp, clr_i, clr_l, clr_r, clr_n, true_and, and_true, or_true, true_or, false_or, or_false, iLe, iLt, iEq, iAdd, iMul, List.cons_append, List.nil_append, List.append_nil, zb0, zb1, if_true, if_false, not_true_eq_false, not_false_eq_true, Bool.false_eq_true, Nat.one_ne_zero, Nat.zero_ne_one, Nat.reduceEqDiff, Nat.reduceAdd, if_pos, if_neg, m127, m128k, m128n, m129k, m129n, m130k, m130n, m131k, m131n, m132k, m132n, m133k, m133n, m134k, m134n, m135k, m135n, m136k, m136n, m137k, m137n, m138k, m138n, m139k, m139n, m140k, m140n, m141k, m141n, m142k, m142n, m143k, m143n, m144k, m144n, m145k, m145n, m146k, m146n, q8, i2L, lMul, s_rkOf ok h hp hi7, lSub]
    · refine fin σ (nI 0) (fun Q => ?_)
      rw [q_149_37]
      rcases hr with rfl | rfl
      · have eg : gcF a p 1 m i = m * cl a p i := by rw [gcF, if_pos rfl, if_neg c]
        rw [eg]
        simp (disch := omega) only [q_149_39, q_149_41, q_149_44, q_149_45, q_149_46, q_149_47, q_149_50, q_149_52, q_149_53, q_149_54, q_149_56, q_149_57, q_149_58, q_149_59, q_149_60, q_149_62, q_149_63, q_149_64, q_149_66, q_149_69, q_149_70, q_149_73, q_149_74, q_149_77, q_149_78, q_149_80, q_149_81, q_149_84, q_149_86, q_149_87, q_149_88, q_149_91, q_149_93, q_149_96, q_149_98, q_149_99, q_149_102, q_149_104, q_149_107, q_149_109, q_149_112, q_149_114, q_149_116, q_149_117, q_149_118, q_149_121, q_149_122, q_149_123, q_149_126, q_149_129, vinT, iClamp, clr_i, clr_l, clr_r, clr_n, true_and, and_true, or_true, true_or, false_or, or_false, iLe, iLt, iEq, iAdd, iMul, List.cons_append, List.nil_append, List.append_nil, zb0, zb1, if_true, if_false, not_true_eq_false, not_false_eq_true, Bool.false_eq_true, Nat.one_ne_zero, Nat.zero_ne_one, Nat.reduceEqDiff, Nat.reduceAdd, if_pos, if_neg, m127, m128k, m128n, m129k, m129n, m130k, m130n, m131k, m131n, m132k, m132n, m133k, m133n, m134k, m134n, m135k, m135n, m136k, m136n, m137k, m137n, m138k, m138n, m139k, m139n, m140k, m140n, m141k, m141n, m142k, m142n, m143k, m143n, m144k, m144n, m145k, m145n, m146k, m146n, q8, i2L, lMul, s_rkOf ok h hp hi7]
      · have eg : gcF a p 2 m i = 0 := by rw [gcF, if_neg (by omega), if_neg c]
        rw [eg]
        simp (disch := omega) only [q_149_39, q_149_41, q_149_44, q_149_45, q_149_46, q_149_47, q_149_50, q_149_52, q_149_53, q_149_54, q_149_56, q_149_57, q_149_58, q_149_59, q_149_60, q_149_62, q_149_63, q_149_64, q_149_66, q_149_69, q_149_70, q_149_73, q_149_74, q_149_77, q_149_78, q_149_80, q_149_81, q_149_84, q_149_86, q_149_87, q_149_88, q_149_91, q_149_93, q_149_96, q_149_98, q_149_99, q_149_102, q_149_104, q_149_107, q_149_109, q_149_112, q_149_114, q_149_116, q_149_117, q_149_118, q_149_121, q_149_122, q_149_123, q_149_126, q_149_129, vinT, iClamp, clr_i, clr_l, clr_r, clr_n, true_and, and_true, or_true, true_or, false_or, or_false, iLe, iLt, iEq, iAdd, iMul, List.cons_append, List.nil_append, List.append_nil, zb0, zb1, if_true, if_false, not_true_eq_false, not_false_eq_true, Bool.false_eq_true, Nat.one_ne_zero, Nat.zero_ne_one, Nat.reduceEqDiff, Nat.reduceAdd, if_pos, if_neg, m127, m128k, m128n, m129k, m129n, m130k, m130n, m131k, m131n, m132k, m132n, m133k, m133n, m134k, m134n, m135k, m135n, m136k, m136n, m137k, m137n, m138k, m138n, m139k, m139n, m140k, m140n, m141k, m141n, m142k, m142n, m143k, m143n, m144k, m144n, m145k, m145n, m146k, m146n, q8, i2L, lMul, s_rkOf ok h hp hi7]
theorem s_cutM {X : Nat × (Nat → Int32)} {σ : Mem} {a : AS} {p r m : Nat} {u4 u5 u6 u7 u8 u9 : Value} (ok : AOK a) (h : MI σ a) (hp : p < 8) (hr : r = 1 ∨ r = 2) (hm1 : 1 ≤ m) (hm : m ≤ 7) (hP : cuB a p r m = true) : ∃ σ', Ev X 149 [.ref 127, .int (nI p), .int (nI r), .int (nI m), u4, u5, u6, u7, u8, u9] σ [] σ' ∧ σ'.2 127 17 = lN m ∧ (∀ q, q < 7 → σ'.2 141 q = lN (gcF a p r m q)) ∧ Off [127, 141] σ σ' := by
  obtain ⟨o1, o2, o3, o4, o5, o6, o7, o8⟩ := ok.1 p hp
  have eall := SS_all (c := cl a p) o5
  have hle := SS_le o5 (n := m) hm
  have hal := SS_le o5 (n := 7) (by omega)
  have hmo := SS_mono (fF (cl a p)) hm
  have ho : Off [127, 141] σ (sL σ 127 17 (lN m)) := (Off.rf _ σ).sL (by simp) _ _
  have h' := MI_scr h (ho.mono (by decide))
  obtain ⟨σ', i1, i2, i3, i4⟩ := l_cutM (X := X) (kc := nI 100 - nI (SS (fF (cl a p)) 7 - SS (fF (cl a p)) m)) (kl := nI (SS (fF (cl a p)) m) - nI 100) ok hp hr hm1 hm hP (fun e => by
    have hP' : capP (fF (cl a p)) m := cpB_iff.mp (by rw [e] at hP; simpa [cuB] using hP)
    have := hP'.1
    rw [iSub (by omega), show 100 - (SS (fF (cl a p)) 7 - SS (fF (cl a p)) m) = 100 + SS (fF (cl a p)) m - SS (fF (cl a p)) 7 by omega]) (fun e => by
    have hP' : losP (fF (cl a p)) m := loB_iff.mp (by rw [e] at hP; simpa [cuB] using hP)
    have := hP'.1
    rw [iSub (by omega)]) 7 0 (sL σ 127 17 (lN m)) u7 u8 u9 h' rfl
  have es : nI (SS (fF (cl a p)) 7) - nI (SS (fF (cl a p)) m) = nI (SS (fF (cl a p)) 7 - SS (fF (cl a p)) m) := iSub hmo
  refine ⟨σ', fun Q => ?_, by rw [(i4 127 (by simp)).2, sL_at], fun q hq => i2 q (by omega) hq, ho.tr (i4.mono (by simp))⟩
  simp (disch := omega) only [q_149_0, q_149_1, q_149_2, q_149_3, q_149_6, q_149_8, q_149_9, q_149_10, q_149_13, q_149_14, q_149_15, q_149_16, q_149_19, q_149_20, q_149_21, q_149_23, q_149_24, q_149_25, q_149_26, q_149_29, q_149_31, q_149_32, q_149_34, q_149_35, vinT, iClamp, clr_i, clr_l, clr_r, clr_n, true_and, and_true, or_true, true_or, false_or, or_false, iLe, iLt, iEq, iAdd, iMul, List.cons_append, List.nil_append, List.append_nil, zb0, zb1, if_true, if_false, not_true_eq_false, not_false_eq_true, Bool.false_eq_true, Nat.one_ne_zero, Nat.zero_ne_one, Nat.reduceEqDiff, Nat.reduceAdd, if_pos, if_neg, m127, m128k, m128n, m129k, m129n, m130k, m130n, m131k, m131n, m132k, m132n, m133k, m133n, m134k, m134n, m135k, m135n, m136k, m136n, m137k, m137n, m138k, m138n, m139k, m139n, m140k, m140n, m141k, m141n, m142k, m142n, m143k, m143n, m144k, m144n, m145k, m145n, m146k, m146n, i2L, s_allM h' hp, ← eall, s_smOf ok h' hp hm, es]
  exact i1 Q
/-! gets -/
theorem l_get1 {X : Nat × (Nat → Int32)} {a : AS} {p r : Nat} (hp : p < 8) (hcl : ∀ q, q < 7 → cl a p q ≤ 100) {y : Int32} : ∀ n i (σ : Mem), MI σ a → i + n = 7 → ∃ σ', (∀ Q, Rn X 143 14 [.ref 127, .int (nI p), .int (nI r), .int y, .int (nI i)] [] σ Q ↔ Rn X 143 47 [.ref 127, .int (nI p), .int (nI r), .int y, .int (nI 7)] [] σ' Q) ∧ (∀ q, i ≤ q → q < 7 → σ'.2 141 q = lN (cl a p q)) ∧ (∀ q, q < i → σ'.2 141 q = σ.2 141 q) ∧ Off [141] σ σ' := by
  intro n
  induction n with
  | zero =>
    intro i σ h hi
    have e : i = 7 := by omega
    subst e
    refine ⟨σ, fun Q => ?_, fun q h1 h2 => absurd h2 (by omega), fun _ _ => rfl, Off.rf _ _⟩
    rw [q_143_14]
    simp (disch := omega) only [q_143_16, q_143_18, q_143_21, q_143_22, q_143_25, q_143_27, q_143_28, q_143_31, q_143_33, q_143_34, q_143_35, q_143_37, q_143_38, q_143_39, q_143_40, q_143_41, q_143_44, vinT, iClamp, clr_i, clr_l, clr_r, clr_n, true_and, and_true, or_true, true_or, false_or, or_false, iLe, iLt, iEq, iAdd, iMul, List.cons_append, List.nil_append, List.append_nil, zb0, zb1, if_true, if_false, not_true_eq_false, not_false_eq_true, Bool.false_eq_true, Nat.one_ne_zero, Nat.zero_ne_one, Nat.reduceEqDiff, Nat.reduceAdd, if_pos, if_neg]
  | succ n ih =>
    intro i σ h hi
    obtain ⟨m1, m2, m3, m4, m5, m6, m7, m8, m9, m10⟩ := id h
    have q8 := m8 p hp i (by omega)
    have b1 := hcl i (by omega)
    have ho : Off [141] σ (sL σ 141 i (lN (cl a p i))) := (Off.rf _ σ).sL (by simp) _ _
    obtain ⟨σ', i1, i2, i3, i4⟩ := ih (i + 1) _ (MI_scr h (ho.mono (by decide))) (by omega)
    refine ⟨σ', fun Q => ?_, fun q h1 h2 => ?_, fun q hq => ?_, ho.tr i4⟩
    · rw [q_143_14]
      simp (disch := omega) only [q_143_16, q_143_18, q_143_21, q_143_22, q_143_25, q_143_27, q_143_28, q_143_31, q_143_33, q_143_34, q_143_35, q_143_37, q_143_38, q_143_39, q_143_40, q_143_41, q_143_44, vinT, iClamp, clr_i, clr_l, clr_r, clr_n, true_and, and_true, or_true, true_or, false_or, or_false, iLe, iLt, iEq, iAdd, iMul, List.cons_append, List.nil_append, List.append_nil, zb0, zb1, if_true, if_false, not_true_eq_false, not_false_eq_true, Bool.false_eq_true, Nat.one_ne_zero, Nat.zero_ne_one, Nat.reduceEqDiff, Nat.reduceAdd, if_pos, if_neg, m127, m128k, m128n, m129k, m129n, m130k, m130n, m131k, m131n, m132k, m132n, m133k, m133n, m134k, m134n, m135k, m135n, m136k, m136n, m137k, m137n, m138k, m138n, m139k, m139n, m140k, m140n, m141k, m141n, m142k, m142n, m143k, m143n, m144k, m144n, m145k, m145n, m146k, m146n, q8, i2L]
      exact i1 Q
    · by_cases e : q = i
      · rw [i3 q (by omega), e, sL_at]
      · exact i2 q (by omega) h2
    · rw [i3 q (by omega), sL_off (by omega)]
theorem l_get2 {X : Nat × (Nat → Int32)} {a : AS} {p r : Nat} (hp : p < 8) (hcl : ∀ q, q < 7 → cl a p q ≤ 100) {y : Int32} : ∀ n i (σ : Mem), MI σ a → i + n = 7 → ∃ σ', (∀ Q, Rn X 143 66 [.ref 127, .int (nI p), .int (nI r), .int y, .int (nI i)] [] σ Q ↔ Q [] σ') ∧ (∀ q, i ≤ q → q < 7 → σ'.2 141 q = lN (100 * cl a p q)) ∧ (∀ q, q < i → σ'.2 141 q = σ.2 141 q) ∧ Off [141] σ σ' := by
  intro n
  induction n with
  | zero =>
    intro i σ h hi
    have e : i = 7 := by omega
    subst e
    refine ⟨σ, fun Q => ?_, fun q h1 h2 => absurd h2 (by omega), fun _ _ => rfl, Off.rf _ _⟩
    rw [q_143_66]
    simp (disch := omega) only [q_143_68, q_143_70, q_143_73, q_143_74, q_143_77, q_143_79, q_143_82, q_143_83, q_143_86, q_143_88, q_143_89, q_143_90, q_143_92, q_143_93, q_143_94, q_143_95, q_143_96, q_143_97, q_143_100, q_143_103, q_143_165, vinT, iClamp, clr_i, clr_l, clr_r, clr_n, true_and, and_true, or_true, true_or, false_or, or_false, iLe, iLt, iEq, iAdd, iMul, List.cons_append, List.nil_append, List.append_nil, zb0, zb1, if_true, if_false, not_true_eq_false, not_false_eq_true, Bool.false_eq_true, Nat.one_ne_zero, Nat.zero_ne_one, Nat.reduceEqDiff, Nat.reduceAdd, if_pos, if_neg]
  | succ n ih =>
    intro i σ h hi
    obtain ⟨m1, m2, m3, m4, m5, m6, m7, m8, m9, m10⟩ := id h
    have q8 := m8 p hp i (by omega)
    have b1 := hcl i (by omega)
    have ho : Off [141] σ (sL σ 141 i (lN (100 * cl a p i))) := (Off.rf _ σ).sL (by simp) _ _
    obtain ⟨σ', i1, i2, i3, i4⟩ := ih (i + 1) _ (MI_scr h (ho.mono (by decide))) (by omega)
    refine ⟨σ', fun Q => ?_, fun q h1 h2 => ?_, fun q hq => ?_, ho.tr i4⟩
    · rw [q_143_66]
      simp (disch := omega) only [q_143_68, q_143_70, q_143_73, q_143_74, q_143_77, q_143_79, q_143_82, q_143_83, q_143_86, q_143_88, q_143_89, q_143_90, q_143_92, q_143_93, q_143_94, q_143_95, q_143_96, q_143_97, q_143_100, q_143_103, vinT, iClamp, clr_i, clr_l, clr_r, clr_n, true_and, and_true, or_true, true_or, false_or, or_false, iLe, iLt, iEq, iAdd, iMul, List.cons_append, List.nil_append, List.append_nil, zb0, zb1, if_true, if_false, not_true_eq_false, not_false_eq_true, Bool.false_eq_true, Nat.one_ne_zero, Nat.zero_ne_one, Nat.reduceEqDiff, Nat.reduceAdd, if_pos, if_neg, m127, m128k, m128n, m129k, m129n, m130k, m130n, m131k, m131n, m132k, m132n, m133k, m133n, m134k, m134n, m135k, m135n, m136k, m136n, m137k, m137n, m138k, m138n, m139k, m139n, m140k, m140n, m141k, m141n, m142k, m142n, m143k, m143n, m144k, m144n, m145k, m145n, m146k, m146n, q8, i2L, lMul]
      exact i1 Q
    · by_cases e : q = i
      · rw [i3 q (by omega), e, sL_at]
      · exact i2 q (by omega) h2
    · rw [i3 q (by omega), sL_off (by omega)]
theorem l_get3 {X : Nat × (Nat → Int32)} {σ : Mem} {a : AS} {p r : Nat} {y : Int32} (ok : AOK a) (h : MI σ a) (hp : p < 8) (hr : r = 1 ∨ r = 2) : ∀ n m, m + n = 8 → 1 ≤ m → (∃ x, m ≤ x ∧ x ≤ 7 ∧ cuB a p r x = true) → ∃ m', 1 ≤ m' ∧ m' ≤ 7 ∧ cuB a p r m' = true ∧ (∀ Q, Rn X 143 115 [.ref 127, .int (nI p), .int (nI r), .int y, .int (nI m)] [] σ Q ↔ Rn X 143 150 [.ref 127, .int (nI p), .int (nI r), .int y, .int (nI m')] [] σ Q) := by
  intro n
  induction n with
  | zero =>
    intro m hm h1 hx
    obtain ⟨x, x1, x2, x3⟩ := hx
    omega
  | succ n ih =>
    intro m hm h1 hx
    by_cases c : cuB a p r m = true
    · refine ⟨m, h1, by omega, c, fun Q => ?_⟩
      rw [q_143_115]
      rcases hr with rfl | rfl
      · have c' : cpB (fF (cl a p)) m = true := by simpa [cuB] using c
        simp (disch := omega) only [q_143_117, q_143_119, q_143_122, q_143_123, q_143_124, q_143_127, q_143_128, q_143_129, q_143_131, q_143_134, q_143_137, q_143_140, q_143_141, q_143_142, q_143_144, q_143_147, vinT, iClamp, clr_i, clr_l, clr_r, clr_n, true_and, and_true, or_true, true_or, false_or, or_false, iLe, iLt, iEq, iAdd, iMul, List.cons_append, List.nil_append, List.append_nil, zb0, zb1, if_true, if_false, not_true_eq_false, not_false_eq_true, Bool.false_eq_true, Nat.one_ne_zero, Nat.zero_ne_one, Nat.reduceEqDiff, Nat.reduceAdd, if_pos, if_neg, m127, m128k, m128n, m129k, m129n, m130k, m130n, m131k, m131n, m132k, m132n, m133k, m133n, m134k, m134n, m135k, m135n, m136k, m136n, m137k, m137n, m138k, m138n, m139k, m139n, m140k, m140n, m141k, m141n, m142k, m142n, m143k, m143n, m144k, m144n, m145k, m145n, m146k, m146n, s_isCapM ok h hp h1 (show m ≤ 7 by omega), b2_t c']
      · have c' : loB (fF (cl a p)) m = true := by simpa [cuB] using c
        simp (disch := omega) only [q_143_117, q_143_119, q_143_122, q_143_123, q_143_124, q_143_127, q_143_128, q_143_129, q_143_131, q_143_134, q_143_137, q_143_140, q_143_141, q_143_142, q_143_144, q_143_147, vinT, iClamp, clr_i, clr_l, clr_r, clr_n, true_and, and_true, or_true, true_or, false_or, or_false, iLe, iLt, iEq, iAdd, iMul, List.cons_append, List.nil_append, List.append_nil, zb0, zb1, if_true, if_false, not_true_eq_false, not_false_eq_true, Bool.false_eq_true, Nat.one_ne_zero, Nat.zero_ne_one, Nat.reduceEqDiff, Nat.reduceAdd, if_pos, if_neg, m127, m128k, m128n, m129k, m129n, m130k, m130n, m131k, m131n, m132k, m132n, m133k, m133n, m134k, m134n, m135k, m135n, m136k, m136n, m137k, m137n, m138k, m138n, m139k, m139n, m140k, m140n, m141k, m141n, m142k, m142n, m143k, m143n, m144k, m144n, m145k, m145n, m146k, m146n, s_isLossM ok h hp h1 (show m ≤ 7 by omega), b2_t c']
    · obtain ⟨x, x1, x2, x3⟩ := hx
      have hne : m ≠ x := fun q => c (by rw [q]; exact x3)
      obtain ⟨m', g1, g2, g3, g4⟩ := ih (m + 1) (by omega) (by omega) ⟨x, by omega, x2, x3⟩
      refine ⟨m', g1, g2, g3, fun Q => ?_⟩
      rw [q_143_115]
      rcases hr with rfl | rfl
      · have c' : ¬ cpB (fF (cl a p)) m = true := by simpa [cuB] using c
        simp (disch := omega) only [q_143_117, q_143_119, q_143_122, q_143_123, q_143_124, q_143_127, q_143_128, q_143_129, q_143_131, q_143_134, q_143_137, q_143_140, q_143_141, q_143_142, q_143_144, q_143_147, q_143_159, q_143_162, vinT, iClamp, clr_i, clr_l, clr_r, clr_n, true_and, and_true, or_true, true_or, false_or, or_false, iLe, iLt, iEq, iAdd, iMul, List.cons_append, List.nil_append, List.append_nil, zb0, zb1, if_true, if_false, not_true_eq_false, not_false_eq_true, Bool.false_eq_true, Nat.one_ne_zero, Nat.zero_ne_one, Nat.reduceEqDiff, Nat.reduceAdd, if_pos, if_neg, m127, m128k, m128n, m129k, m129n, m130k, m130n, m131k, m131n, m132k, m132n, m133k, m133n, m134k, m134n, m135k, m135n, m136k, m136n, m137k, m137n, m138k, m138n, m139k, m139n, m140k, m140n, m141k, m141n, m142k, m142n, m143k, m143n, m144k, m144n, m145k, m145n, m146k, m146n, s_isCapM ok h hp h1 (show m ≤ 7 by omega), b2_f c']
        exact g4 Q
      · have c' : ¬ loB (fF (cl a p)) m = true := by simpa [cuB] using c
        simp (disch := omega) only [q_143_117, q_143_119, q_143_122, q_143_123, q_143_124, q_143_127, q_143_128, q_143_129, q_143_131, q_143_134, q_143_137, q_143_140, q_143_141, q_143_142, q_143_144, q_143_147, q_143_159, q_143_162, vinT, iClamp, clr_i, clr_l, clr_r, clr_n, true_and, and_true, or_true, true_or, false_or, or_false, iLe, iLt, iEq, iAdd, iMul, List.cons_append, List.nil_append, List.append_nil, zb0, zb1, if_true, if_false, not_true_eq_false, not_false_eq_true, Bool.false_eq_true, Nat.one_ne_zero, Nat.zero_ne_one, Nat.reduceEqDiff, Nat.reduceAdd, if_pos, if_neg, m127, m128k, m128n, m129k, m129n, m130k, m130n, m131k, m131n, m132k, m132n, m133k, m133n, m134k, m134n, m135k, m135n, m136k, m136n, m137k, m137n, m138k, m138n, m139k, m139n, m140k, m140n, m141k, m141n, m142k, m142n, m143k, m143n, m144k, m144n, m145k, m145n, m146k, m146n, s_isLossM ok h hp h1 (show m ≤ 7 by omega), b2_f c']
        exact g4 Q
theorem s_getM {X : Nat × (Nat → Int32)} {σ : Mem} {a : AS} {p r : Nat} {u3 u4 : Value} (ok : AOK a) (h : MI σ a) (hp : p < 8) (hr : r < 3) : ∃ (σ' : Mem) (G : Nat → Nat) (B : Nat), Ev X 143 [.ref 127, .int (nI p), .int (nI r), u3, u4] σ [] σ' ∧ σ'.2 127 17 = lN B ∧ (∀ q, q < 7 → σ'.2 141 q = lN (G q)) ∧ (1 ≤ B ∧ B ≤ 700) ∧ (∀ q, q < 7 → G q ≤ 10000 ∧ G q * dvL (cl a p) r = dvU (cl a p) r q * B) ∧ Off [127, 141] σ σ' := by
  obtain ⟨o1, o2, o3, o4, o5, o6, o7, o8⟩ := ok.1 p hp
  have eall := SS_all (c := cl a p) o5
  have hal := SS_le o5 (n := 7) (by omega)
  have hmono := fF_mono (c := cl a p) o5
  have ho : Off [127, 141] σ (sL σ 127 17 (lN 1)) := (Off.rf _ σ).sL (by simp) _ _
  have h1 := MI_scr h (ho.mono (by decide))
  obtain ⟨σ1, i1, i2, i3, i4⟩ := l_get1 (X := X) (r := r) (y := nI (SS (fF (cl a p)) 7)) hp o5 7 0 (sL σ 127 17 (lN 1)) h1 rfl
  have ho1 : Off [127, 141] σ σ1 := ho.tr (i4.mono (by simp))
  have h2 := MI_scr h (ho1.mono (by decide))
  have hst : ∀ Q, Rn X 143 0 [.ref 127, .int (nI p), .int (nI r), u3, u4] [] σ Q ↔ Rn X 143 47 [.ref 127, .int (nI p), .int (nI r), .int (nI (SS (fF (cl a p)) 7)), .int (nI 7)] [] σ1 Q := fun Q => by
    have := i1 Q
    simp (disch := omega) only [q_143_0, q_143_1, q_143_2, q_143_5, q_143_6, q_143_7, q_143_8, q_143_11, q_143_12, vinT, iClamp, clr_i, clr_l, clr_r, clr_n, true_and, and_true, or_true, true_or, false_or, or_false, iLe, iLt, iEq, iAdd, iMul, List.cons_append, List.nil_append, List.append_nil, zb0, zb1, if_true, if_false, not_true_eq_false, not_false_eq_true, Bool.false_eq_true, Nat.one_ne_zero, Nat.zero_ne_one, Nat.reduceEqDiff, Nat.reduceAdd, if_pos, if_neg, m127, m128k, m128n, m129k, m129n, m130k, m130n, m131k, m131n, m132k, m132n, m133k, m133n, m134k, m134n, m135k, m135n, m136k, m136n, m137k, m137n, m138k, m138n, m139k, m139n, m140k, m140n, m141k, m141n, m142k, m142n, m143k, m143n, m144k, m144n, m145k, m145n, m146k, m146n, s_allM h hp, ← eall]
    exact this
  by_cases c1 : SS (fF (cl a p)) 7 ≤ 100
  · refine ⟨σ1, cl a p, 1, fun Q => ?_, by rw [(i4 127 (by simp)).2, sL_at], fun q hq => i2 q (by omega) hq, by omega, fun q hq => ⟨by have := o5 q hq; omega, by rw [dvL, if_pos c1, dvU, if_pos c1]⟩, ho1⟩
    rw [hst Q]
    simp (disch := omega) only [q_143_47, q_143_48, q_143_50, q_143_53, q_143_54, q_143_57, q_143_58, q_143_59, q_143_60, q_143_63, q_143_64, q_143_103, q_143_106, q_143_107, q_143_109, q_143_112, q_143_113, q_143_165, vinT, iClamp, clr_i, clr_l, clr_r, clr_n, true_and, and_true, or_true, true_or, false_or, or_false, iLe, iLt, iEq, iAdd, iMul, List.cons_append, List.nil_append, List.append_nil, zb0, zb1, if_true, if_false, not_true_eq_false, not_false_eq_true, Bool.false_eq_true, Nat.one_ne_zero, Nat.zero_ne_one, Nat.reduceEqDiff, Nat.reduceAdd, if_pos, if_neg]
  · by_cases c2 : r = 0
    · subst c2
      have ho2 : Off [127, 141] σ (sL σ1 127 17 (lN (SS (fF (cl a p)) 7))) := ho1.sL (by simp) _ _
      obtain ⟨σ', j1, j2, j3, j4⟩ := l_get2 (X := X) (r := 0) (y := nI (SS (fF (cl a p)) 7)) hp o5 7 0 _ (MI_scr h (ho2.mono (by decide))) rfl
      refine ⟨σ', fun q => 100 * cl a p q, SS (fF (cl a p)) 7, fun Q => ?_, by rw [(j4 127 (by simp)).2, sL_at], fun q hq => j2 q (by omega) hq, by omega, fun q hq => ⟨by have := o5 q hq; show 100 * cl a p q ≤ 10000; omega, by show 100 * cl a p q * _ = _; rw [dvL, if_neg c1, if_pos rfl, dvU, if_neg c1, if_pos rfl, Nat.mul_comm 100]⟩, ho2.tr (j4.mono (by simp))⟩
      rw [hst Q]
      simp (disch := omega) only [q_143_47, q_143_48, q_143_50, q_143_53, q_143_54, q_143_57, q_143_58, q_143_59, q_143_60, q_143_63, q_143_64, vinT, iClamp, clr_i, clr_l, clr_r, clr_n, true_and, and_true, or_true, true_or, false_or, or_false, iLe, iLt, iEq, iAdd, iMul, List.cons_append, List.nil_append, List.append_nil, zb0, zb1, if_true, if_false, not_true_eq_false, not_false_eq_true, Bool.false_eq_true, Nat.one_ne_zero, Nat.zero_ne_one, Nat.reduceEqDiff, Nat.reduceAdd, if_pos, if_neg, m127, m128k, m128n, m129k, m129n, m130k, m130n, m131k, m131n, m132k, m132n, m133k, m133n, m134k, m134n, m135k, m135n, m136k, m136n, m137k, m137n, m138k, m138n, m139k, m139n, m140k, m140n, m141k, m141n, m142k, m142n, m143k, m143n, m144k, m144n, m145k, m145n, m146k, m146n, i2L]
      exact j1 Q
    · have hr' : r = 1 ∨ r = 2 := by omega
      have hex : cuB a p r (dvL (cl a p) r) = true := by
        rcases hr' with rfl | rfl
        · rw [cuB, if_pos rfl, cpB_iff, dvL, if_neg c1, if_neg (by omega), if_pos rfl]
          exact cpF_cap fF_out (by omega)
        · rw [cuB, if_neg (by omega), loB_iff, dvL, if_neg c1, if_neg (by omega), if_neg (by omega)]
          exact loF_los fF_out (by omega)
      have hdl : 1 ≤ dvL (cl a p) r ∧ dvL (cl a p) r ≤ 7 := by
        rcases hr' with rfl | rfl
        · rw [dvL, if_neg c1, if_neg (by omega), if_pos rfl]
          obtain ⟨g1, g2, g3⟩ := cpF_ok (F := fF (cl a p)) (all := SS (fF (cl a p)) 7) 6 (Nat.le_add_left _ _)
          omega
        · rw [dvL, if_neg c1, if_neg (by omega), if_neg (by omega)]
          obtain ⟨g1, g2, g3⟩ := loF_ok (F := fF (cl a p)) 6 1 (by omega)
          omega
      obtain ⟨m, g1, g2, g3, g4⟩ := l_get3 (X := X) (y := nI (SS (fF (cl a p)) 7)) ok h2 hp hr' 7 1 rfl (by omega) ⟨dvL (cl a p) r, hdl.1, hdl.2, hex⟩
      obtain ⟨σ', j1, j2, j3, j4⟩ := s_cutM (X := X) (u4 := .null) (u5 := .null) (u6 := .null) (u7 := .null) (u8 := .null) (u9 := .null) ok h2 hp hr' g1 g2 g3
      have j1' := fun Q => j1 Q
      have hle := SS_le o5 (n := m) g2
      refine ⟨σ', gcF a p r m, m, fun Q => ?_, j2, j3, by omega, fun q hq => ⟨?_, ?_⟩, ho1.tr j4⟩
      · rw [hst Q]
        have g4' := g4 Q
        rcases hr' with rfl | rfl
        · simp (disch := omega) only [q_143_47, q_143_48, q_143_50, q_143_53, q_143_54, q_143_57, q_143_58, q_143_59, q_143_60, q_143_63, q_143_64, q_143_103, q_143_106, q_143_107, q_143_109, q_143_112, q_143_113, vinT, iClamp, clr_i, clr_l, clr_r, clr_n, true_and, and_true, or_true, true_or, false_or, or_false, iLe, iLt, iEq, iAdd, iMul, List.cons_append, List.nil_append, List.append_nil, zb0, zb1, if_true, if_false, not_true_eq_false, not_false_eq_true, Bool.false_eq_true, Nat.one_ne_zero, Nat.zero_ne_one, Nat.reduceEqDiff, Nat.reduceAdd, if_pos, if_neg]
          rw [g4']
          simp (disch := omega) only [q_143_150, q_143_151, q_143_152, q_143_153, q_143_155, q_143_158, vinT, iClamp, clr_i, clr_l, clr_r, clr_n, true_and, and_true, or_true, true_or, false_or, or_false, iLe, iLt, iEq, iAdd, iMul, List.cons_append, List.nil_append, List.append_nil, zb0, zb1, if_true, if_false, not_true_eq_false, not_false_eq_true, Bool.false_eq_true, Nat.one_ne_zero, Nat.zero_ne_one, Nat.reduceEqDiff, Nat.reduceAdd, if_pos, if_neg, m127, m128k, m128n, m129k, m129n, m130k, m130n, m131k, m131n, m132k, m132n, m133k, m133n, m134k, m134n, m135k, m135n, m136k, m136n, m137k, m137n, m138k, m138n, m139k, m139n, m140k, m140n, m141k, m141n, m142k, m142n, m143k, m143n, m144k, m144n, m145k, m145n, m146k, m146n, j1']
        · simp (disch := omega) only [q_143_47, q_143_48, q_143_50, q_143_53, q_143_54, q_143_57, q_143_58, q_143_59, q_143_60, q_143_63, q_143_64, q_143_103, q_143_106, q_143_107, q_143_109, q_143_112, q_143_113, vinT, iClamp, clr_i, clr_l, clr_r, clr_n, true_and, and_true, or_true, true_or, false_or, or_false, iLe, iLt, iEq, iAdd, iMul, List.cons_append, List.nil_append, List.append_nil, zb0, zb1, if_true, if_false, not_true_eq_false, not_false_eq_true, Bool.false_eq_true, Nat.one_ne_zero, Nat.zero_ne_one, Nat.reduceEqDiff, Nat.reduceAdd, if_pos, if_neg]
          rw [g4']
          simp (disch := omega) only [q_143_150, q_143_151, q_143_152, q_143_153, q_143_155, q_143_158, vinT, iClamp, clr_i, clr_l, clr_r, clr_n, true_and, and_true, or_true, true_or, false_or, or_false, iLe, iLt, iEq, iAdd, iMul, List.cons_append, List.nil_append, List.append_nil, zb0, zb1, if_true, if_false, not_true_eq_false, not_false_eq_true, Bool.false_eq_true, Nat.one_ne_zero, Nat.zero_ne_one, Nat.reduceEqDiff, Nat.reduceAdd, if_pos, if_neg, m127, m128k, m128n, m129k, m129n, m130k, m130n, m131k, m131n, m132k, m132n, m133k, m133n, m134k, m134n, m135k, m135n, m136k, m136n, m137k, m137n, m138k, m138n, m139k, m139n, m140k, m140n, m141k, m141n, m142k, m142n, m143k, m143n, m144k, m144n, m145k, m145n, m146k, m146n, j1']
      · have b1 := o5 q hq
        have b3 : m * cl a p q ≤ 7 * 100 := Nat.mul_le_mul g2 b1
        unfold gcF
        split
        · split <;> omega
        · split <;> omega
      · have kk : rkC a p q < 7 := (fF_rank (c := cl a p) o5 hq).1
        have kv : fF (cl a p) (rkC a p q) = cl a p q := (fF_rank (c := cl a p) o5 hq).2
        rcases hr' with rfl | rfl
        · have e1 : cpB (fF (cl a p)) m = true := by simpa [cuB] using g3
          have e2 : cpB (fF (cl a p)) (dvL (cl a p) 1) = true := by simpa [cuB] using hex
          have eg : gcF a p 1 m q = if rkC a p q < m then 100 + SS (fF (cl a p)) m - SS (fF (cl a p)) 7 else m * cl a p q := by rw [gcF, if_pos rfl]
          have ed : dvU (cl a p) 1 q = min (cl a p q * dvL (cl a p) 1) (100 + SS (fF (cl a p)) (dvL (cl a p) 1) - SS (fF (cl a p)) 7) := by rw [dvU, if_neg c1, if_neg (show ¬ (1 : Nat) = 0 by omega), if_pos rfl]
          rw [eg, ed]
          exact cap_get hmono g1 g2 hdl.1 hdl.2 (cpB_iff.mp e1) (cpB_iff.mp e2) kk kv
        · have e1 : loB (fF (cl a p)) m = true := by simpa [cuB] using g3
          have e2 : loB (fF (cl a p)) (dvL (cl a p) 2) = true := by simpa [cuB] using hex
          have eg : gcF a p 2 m q = if rkC a p q < m then m * cl a p q - (SS (fF (cl a p)) m - 100) else 0 := by rw [gcF, if_neg (show ¬ (2 : Nat) = 1 by omega)]
          have ed : dvU (cl a p) 2 q = cl a p q * dvL (cl a p) 2 - (SS (fF (cl a p)) (dvL (cl a p) 2) - 100) := by rw [dvU, if_neg c1, if_neg (show ¬ (2 : Nat) = 0 by omega), if_neg (show ¬ (2 : Nat) = 1 by omega)]
          rw [eg, ed]
          exact los_get hmono g1 g2 hdl.1 hdl.2 (loB_iff.mp e1) (loB_iff.mp e2) kk kv
