/-! ===== the reference: shares, gifts ===== -/
theorem l_lay1 {X : Nat × (Nat → Int32)} {σ : Mem} {Q : List Value → Mem → Prop} {a : AS} {p : Nat} (h : MI σ a) (ok : AOK a) (hp : p < 8) : ∀ n t (v6 : Value), t + n = 4 → (Rn X 118 10 [.ref 127, .int (nI p), .long (lN (prL (wt a p) (hr a p) t)), .null, .int (nI (wsL (wt a p) (hr a p) t)), .int (nI (4 * p + t)), v6] [] σ Q ↔ Rn X 118 74 [.ref 127, .int (nI p), .long (lN (prL (wt a p) (hr a p) 4)), .null, .int (nI (wsL (wt a p) (hr a p) 4)), .int (nI (4 * p + 4)), v6] [] σ Q) := by
  obtain ⟨m1, m2, m3, m4, m5, m6, m7, m8, m9, m10⟩ := id h
  obtain ⟨o1, o2, o3, o4, o5, o6, o7, o8⟩ := ok.1 p hp
  intro n
  induction n with
  | zero =>
    intro t v6 ht
    have e : t = 4 := by omega
    subst e
    rw [q_118_10]
    simp (disch := omega) only [q_118_12, q_118_13, q_118_14, q_118_15, q_118_16, q_118_17, q_118_20, q_118_21, q_118_22, q_118_24, q_118_27, q_118_30, q_118_31, q_118_33, q_118_36, q_118_37, q_118_40, q_118_41, q_118_42, q_118_43, q_118_45, q_118_46, q_118_48, q_118_51, q_118_54, q_118_55, q_118_58, q_118_60, q_118_61, q_118_64, q_118_65, q_118_66, q_118_68, q_118_71, vinT, iClamp, clr_i, clr_l, clr_r, clr_n, true_and, and_true, or_true, true_or, false_or, or_false, iLe, iLt, iEq, iAdd, iMul, List.cons_append, List.nil_append, List.append_nil, zb0, zb1, if_true, if_false, not_true_eq_false, not_false_eq_true, Bool.false_eq_true, Nat.one_ne_zero, Nat.zero_ne_one, Nat.reduceEqDiff, Nat.reduceAdd, if_pos, if_neg]
  | succ n ih =>
    intro t v6 ht
    have hH := HH_le o3 (show t < 4 by omega)
    rw [q_118_10]
    have ih' := ih (t + 1) v6 (by omega)
    rw [← Nat.add_assoc] at ih'
    by_cases c : dn (wt a p) (hr a p) t = true
    · rw [prL, if_pos c, wsL, if_pos c] at ih'
      simp (disch := omega) only [q_118_12, q_118_13, q_118_14, q_118_15, q_118_16, q_118_17, q_118_20, q_118_21, q_118_22, q_118_24, q_118_27, q_118_30, q_118_31, q_118_33, q_118_36, q_118_37, q_118_40, q_118_41, q_118_42, q_118_43, q_118_45, q_118_46, q_118_48, q_118_51, q_118_54, q_118_55, q_118_58, q_118_60, q_118_61, q_118_64, q_118_65, q_118_66, q_118_68, q_118_71, vinT, iClamp, clr_i, clr_l, clr_r, clr_n, true_and, and_true, or_true, true_or, false_or, or_false, iLe, iLt, iEq, iAdd, iMul, List.cons_append, List.nil_append, List.append_nil, zb0, zb1, if_true, if_false, not_true_eq_false, not_false_eq_true, Bool.false_eq_true, Nat.one_ne_zero, Nat.zero_ne_one, Nat.reduceEqDiff, Nat.reduceAdd, if_pos, if_neg, m127, m128k, m128n, m129k, m129n, m130k, m130n, m131k, m131n, m132k, m132n, m133k, m133n, m134k, m134n, m135k, m135n, m136k, m136n, m137k, m137n, m138k, m138n, m139k, m139n, m140k, m140n, m141k, m141n, m142k, m142n, m143k, m143n, m144k, m144n, m145k, m145n, m146k, m146n, s_isDoneM h ok hp (show t < 4 by omega), s_hoursM h hp (show t < 4 by omega), b2_t c, m2 p hp t (by omega), i2L, lMul]
      exact ih'
    · rw [prL, if_neg c, wsL, if_neg c] at ih'
      simp (disch := omega) only [q_118_12, q_118_13, q_118_14, q_118_15, q_118_16, q_118_17, q_118_20, q_118_21, q_118_22, q_118_24, q_118_27, q_118_30, q_118_31, q_118_33, q_118_36, q_118_37, q_118_40, q_118_41, q_118_42, q_118_43, q_118_45, q_118_46, q_118_48, q_118_51, q_118_54, q_118_55, q_118_58, q_118_60, q_118_61, q_118_64, q_118_65, q_118_66, q_118_68, q_118_71, vinT, iClamp, clr_i, clr_l, clr_r, clr_n, true_and, and_true, or_true, true_or, false_or, or_false, iLe, iLt, iEq, iAdd, iMul, List.cons_append, List.nil_append, List.append_nil, zb0, zb1, if_true, if_false, not_true_eq_false, not_false_eq_true, Bool.false_eq_true, Nat.one_ne_zero, Nat.zero_ne_one, Nat.reduceEqDiff, Nat.reduceAdd, if_pos, if_neg, m127, m128k, m128n, m129k, m129n, m130k, m130n, m131k, m131n, m132k, m132n, m133k, m133n, m134k, m134n, m135k, m135n, m136k, m136n, m137k, m137n, m138k, m138n, m139k, m139n, m140k, m140n, m141k, m141n, m142k, m142n, m143k, m143n, m144k, m144n, m145k, m145n, m146k, m146n, s_isDoneM h ok hp (show t < 4 by omega), b2_f c, lMul, Nat.mul_one, Nat.add_zero]
      exact ih'
theorem l_lay3 {X : Nat × (Nat → Int32)} {a : AS} {p q ws : Nat} (ok : AOK a) (hp : p < 8) (hq : q < 7) : ∀ n t (σ : Mem), MI σ a → t + n = 4 → σ.2 134 q = lN (ptL (wt a p) (hr a p) q t) → ∃ σ', (∀ Q, Rn X 118 115 [.ref 127, .int (nI p), .long (lN (prL (wt a p) (hr a p) 4)), .null, .int (nI ws), .int (nI q), .int (nI (4 * p + t))] [] σ Q ↔ Rn X 118 187 [.ref 127, .int (nI p), .long (lN (prL (wt a p) (hr a p) 4)), .null, .int (nI ws), .int (nI q), .int (nI (4 * p + 4))] [] σ' Q) ∧ σ'.2 134 q = lN (ptL (wt a p) (hr a p) q 4) ∧ (∀ j, j ≠ q → σ'.2 134 j = σ.2 134 j) ∧ Off [134] σ σ' ∧ σ'.1 = σ.1 := by
  obtain ⟨o1, o2, o3, o4, o5, o6, o7, o8⟩ := ok.1 p hp
  intro n
  induction n with
  | zero =>
    intro t σ h ht h0
    have e : t = 4 := by omega
    subst e
    refine ⟨σ, fun Q => ?_, h0, fun _ _ => rfl, Off.rf _ _, rfl⟩
    rw [q_118_115]
    simp (disch := omega) only [q_118_117, q_118_118, q_118_119, q_118_120, q_118_121, q_118_122, q_118_125, q_118_126, q_118_129, q_118_131, q_118_132, q_118_133, q_118_134, q_118_136, q_118_139, q_118_142, q_118_143, q_118_144, q_118_146, q_118_149, q_118_150, q_118_151, q_118_152, q_118_155, q_118_157, q_118_158, q_118_159, q_118_160, q_118_161, q_118_164, q_118_166, q_118_168, q_118_169, q_118_171, q_118_172, q_118_173, q_118_174, q_118_175, q_118_178, q_118_179, q_118_180, q_118_181, q_118_184, vinT, iClamp, clr_i, clr_l, clr_r, clr_n, true_and, and_true, or_true, true_or, false_or, or_false, iLe, iLt, iEq, iAdd, iMul, List.cons_append, List.nil_append, List.append_nil, zb0, zb1, if_true, if_false, not_true_eq_false, not_false_eq_true, Bool.false_eq_true, Nat.one_ne_zero, Nat.zero_ne_one, Nat.reduceEqDiff, Nat.reduceAdd, if_pos, if_neg]
  | succ n ih =>
    intro t σ h ht h0
    obtain ⟨m1, m2, m3, m4, m5, m6, m7, m8, m9, m10⟩ := id h
    have hH := HH_le o3 (show t < 4 by omega)
    have hw := o2 t (by omega)
    have hh := o3 t (by omega) q hq
    have hpr := prL4 (w := wt a p) o3 (Nat.le_refl 4)
    by_cases c : dn (wt a p) (hr a p) t = true
    · obtain ⟨c1, c2⟩ := dn_spec.mp c
      have ho : Off [134] σ (sL σ 134 q (lN (ptL (wt a p) (hr a p) q t + prL (wt a p) (hr a p) 4 / HH (hr a p) t * wt a p t * hr a p t q))) := (Off.rf _ σ).sL (by simp) _ _
      obtain ⟨σ', i1, i2, i3, i4, i5⟩ := ih (t + 1) _ (MI_scr h (ho.mono (by decide))) (by omega) (by rw [sL_at, ptL, if_pos c, Nat.mul_comm (hr a p t q)])
      refine ⟨σ', fun Q => ?_, i2, fun j hj => by rw [i3 j hj, sL_off (by omega)], ho.tr i4, i5⟩
      rw [q_118_115]
      simp (disch := omega) only [q_118_117, q_118_118, q_118_119, q_118_120, q_118_121, q_118_122, q_118_125, q_118_126, q_118_129, q_118_131, q_118_132, q_118_133, q_118_134, q_118_136, q_118_139, q_118_142, q_118_143, q_118_144, q_118_146, q_118_149, q_118_150, q_118_151, q_118_152, q_118_155, q_118_157, q_118_158, q_118_159, q_118_160, q_118_161, q_118_164, q_118_166, q_118_168, q_118_169, q_118_171, q_118_172, q_118_173, q_118_174, q_118_175, q_118_178, q_118_179, q_118_180, q_118_181, q_118_184, vinT, iClamp, clr_i, clr_l, clr_r, clr_n, true_and, and_true, or_true, true_or, false_or, or_false, iLe, iLt, iEq, iAdd, iMul, List.cons_append, List.nil_append, List.append_nil, zb0, zb1, if_true, if_false, not_true_eq_false, not_false_eq_true, Bool.false_eq_true, Nat.one_ne_zero, Nat.zero_ne_one, Nat.reduceEqDiff, Nat.reduceAdd, if_pos, if_neg, m127, m128k, m128n, m129k, m129n, m130k, m130n, m131k, m131n, m132k, m132n, m133k, m133n, m134k, m134n, m135k, m135n, m136k, m136n, m137k, m137n, m138k, m138n, m139k, m139n, m140k, m140n, m141k, m141n, m142k, m142n, m143k, m143n, m144k, m144n, m145k, m145n, m146k, m146n, s_isDoneM h ok hp (show t < 4 by omega), s_hoursM h hp (show t < 4 by omega), b2_t c, m2 p hp t (by omega), m4 p hp t (by omega) q hq, i2L, lMul, lNe0, lDiv, lAdd, h0]
      exact i1 Q
    · have ho : Off [134] σ (sL σ 134 q (lN (ptL (wt a p) (hr a p) q t + 0))) := (Off.rf _ σ).sL (by simp) _ _
      obtain ⟨σ', i1, i2, i3, i4, i5⟩ := ih (t + 1) _ (MI_scr h (ho.mono (by decide))) (by omega) (by rw [sL_at, ptL, if_neg c, Nat.add_zero])
      refine ⟨σ', fun Q => ?_, i2, fun j hj => by rw [i3 j hj, sL_off (by omega)], ho.tr i4, i5⟩
      rw [q_118_115]
      simp (disch := omega) only [q_118_117, q_118_118, q_118_119, q_118_120, q_118_121, q_118_122, q_118_125, q_118_126, q_118_129, q_118_131, q_118_132, q_118_133, q_118_134, q_118_136, q_118_139, q_118_142, q_118_143, q_118_144, q_118_146, q_118_149, q_118_150, q_118_151, q_118_152, q_118_155, q_118_157, q_118_158, q_118_159, q_118_160, q_118_161, q_118_164, q_118_166, q_118_168, q_118_169, q_118_171, q_118_172, q_118_173, q_118_174, q_118_175, q_118_178, q_118_179, q_118_180, q_118_181, q_118_184, vinT, iClamp, clr_i, clr_l, clr_r, clr_n, true_and, and_true, or_true, true_or, false_or, or_false, iLe, iLt, iEq, iAdd, iMul, List.cons_append, List.nil_append, List.append_nil, zb0, zb1, if_true, if_false, not_true_eq_false, not_false_eq_true, Bool.false_eq_true, Nat.one_ne_zero, Nat.zero_ne_one, Nat.reduceEqDiff, Nat.reduceAdd, if_pos, if_neg, m127, m128k, m128n, m129k, m129n, m130k, m130n, m131k, m131n, m132k, m132n, m133k, m133n, m134k, m134n, m135k, m135n, m136k, m136n, m137k, m137n, m138k, m138n, m139k, m139n, m140k, m140n, m141k, m141n, m142k, m142n, m143k, m143n, m144k, m144n, m145k, m145n, m146k, m146n, s_isDoneM h ok hp (show t < 4 by omega), b2_f c, lAdd, h0]
      exact i1 Q
theorem l_lay2 {X : Nat × (Nat → Int32)} {a : AS} {p ws : Nat} (ok : AOK a) (hp : p < 8) : ∀ n i (σ : Mem) (v6 : Value), MI σ a → i + n = 7 → ∃ σ', (∀ Q, Rn X 118 95 [.ref 127, .int (nI p), .long (lN (prL (wt a p) (hr a p) 4)), .null, .int (nI ws), .int (nI i), v6] [] σ Q ↔ Q [] σ') ∧ (∀ q, i ≤ q → q < 7 → σ'.2 134 q = lN (ptL (wt a p) (hr a p) q 4)) ∧ (∀ q, q < i → σ'.2 134 q = σ.2 134 q) ∧ Off [134] σ σ' ∧ σ'.1 = σ.1 := by
  intro n
  induction n with
  | zero =>
    intro i σ v6 h hi
    have e : i = 7 := by omega
    subst e
    refine ⟨σ, fun Q => ?_, fun q h1 h2 => absurd h2 (by omega), fun _ _ => rfl, Off.rf _ _, rfl⟩
    rw [q_118_95]
    simp (disch := omega) only [q_118_97, q_118_99, q_118_102, q_118_103, q_118_106, q_118_108, q_118_109, q_118_110, q_118_111, q_118_112, q_118_113, q_118_187, q_118_190, q_118_193, vinT, iClamp, clr_i, clr_l, clr_r, clr_n, true_and, and_true, or_true, true_or, false_or, or_false, iLe, iLt, iEq, iAdd, iMul, List.cons_append, List.nil_append, List.append_nil, zb0, zb1, if_true, if_false, not_true_eq_false, not_false_eq_true, Bool.false_eq_true, Nat.one_ne_zero, Nat.zero_ne_one, Nat.reduceEqDiff, Nat.reduceAdd, if_pos, if_neg]
  | succ n ih =>
    intro i σ v6 h hi
    have ho : Off [134] σ (sL σ 134 i (lN 0)) := (Off.rf _ σ).sL (by simp) _ _
    obtain ⟨σ1, i1, i2, i3, i4, i5⟩ := l_lay3 (X := X) (ws := ws) ok hp (show i < 7 by omega) 4 0 (sL σ 134 i (lN 0)) (MI_scr h (ho.mono (by decide))) rfl (by rw [sL_at, ptL])
    have ho2 := ho.tr i4
    obtain ⟨σ', j1, j2, j3, j4, j5⟩ := ih (i + 1) σ1 (.int (nI (4 * p + 4))) (MI_scr h (ho2.mono (by decide))) (by omega)
    refine ⟨σ', fun Q => ?_, fun q h1 h2 => ?_, fun q hq => ?_, ho2.tr j4, j5.trans i5⟩
    · rw [q_118_95]
      simp (disch := omega) only [q_118_97, q_118_99, q_118_102, q_118_103, q_118_106, q_118_108, q_118_109, q_118_110, q_118_111, q_118_112, q_118_113, vinT, iClamp, clr_i, clr_l, clr_r, clr_n, true_and, and_true, or_true, true_or, false_or, or_false, iLe, iLt, iEq, iAdd, iMul, List.cons_append, List.nil_append, List.append_nil, zb0, zb1, if_true, if_false, not_true_eq_false, not_false_eq_true, Bool.false_eq_true, Nat.one_ne_zero, Nat.zero_ne_one, Nat.reduceEqDiff, Nat.reduceAdd, if_pos, if_neg, m127, m128k, m128n, m129k, m129n, m130k, m130n, m131k, m131n, m132k, m132n, m133k, m133n, m134k, m134n, m135k, m135n, m136k, m136n, m137k, m137n, m138k, m138n, m139k, m139n, m140k, m140n, m141k, m141n, m142k, m142n, m143k, m143n, m144k, m144n, m145k, m145n, m146k, m146n]
      have i1' := i1 Q
      rw [Nat.add_zero] at i1'
      rw [i1']
      simp (disch := omega) only [q_118_187, q_118_190, q_118_193, vinT, iClamp, clr_i, clr_l, clr_r, clr_n, true_and, and_true, or_true, true_or, false_or, or_false, iLe, iLt, iEq, iAdd, iMul, List.cons_append, List.nil_append, List.append_nil, zb0, zb1, if_true, if_false, not_true_eq_false, not_false_eq_true, Bool.false_eq_true, Nat.one_ne_zero, Nat.zero_ne_one, Nat.reduceEqDiff, Nat.reduceAdd, if_pos, if_neg]
      exact j1 Q
    · by_cases e : q = i
      · rw [j3 q (by omega), e, i2]
      · exact j2 q (by omega) h2
    · rw [j3 q (by omega), i3 q (by omega), sL_off (by omega)]
/-- shares laid out -/
def LSh (σ : Mem) (a : AS) (p : Nat) : Prop := σ.2 127 7 = lN (whL (wt a p) (hr a p)) ∧ ∀ q, q < 7 → σ.2 134 q = lN (ptL (wt a p) (hr a p) q 4)
theorem s_layM {X : Nat × (Nat → Int32)} {σ : Mem} {a : AS} {p : Nat} {u1 u2 u3 u4 u5 : Value} (ok : AOK a) (h : MI σ a) (hp : p < 8) : ∃ σ', Ev X 118 [.ref 127, .int (nI p), u1, u2, u3, u4, u5] σ [] σ' ∧ LSh σ' a p ∧ Off [127, 134] σ σ' ∧ (∀ j, j ≠ 7 → σ'.2 127 j = σ.2 127 j) ∧ σ'.1 = σ.1 := by
  obtain ⟨o1, o2, o3, o4, o5, o6, o7, o8⟩ := ok.1 p hp
  have hw := wsL_le (h := hr a p) o2 4 (by omega)
  have hpr := prL4 (w := wt a p) o3 (Nat.le_refl 4)
  have ho : Off [127, 134] σ (sL σ 127 7 (lN (whL (wt a p) (hr a p)))) := (Off.rf _ σ).sL (by simp) _ _
  obtain ⟨σ', i1, i2, i3, i4, i5⟩ := l_lay2 (X := X) (ws := wsL (wt a p) (hr a p) 4) ok hp 7 0 (sL σ 127 7 (lN (whL (wt a p) (hr a p)))) u5 (MI_scr h (ho.mono (by decide))) rfl
  refine ⟨σ', fun Q => ?_, ⟨?_, fun q hq => i2 q (by omega) hq⟩, ho.tr (i4.mono (by simp)), fun j hj => ?_, i5⟩
  · have h1 := l_lay1 (X := X) (σ := σ) (Q := Q) h ok hp 4 0 u5 rfl
    rw [Nat.add_zero, show prL (wt a p) (hr a p) 0 = 1 from rfl, show wsL (wt a p) (hr a p) 0 = 0 from rfl] at h1
    simp (disch := omega) only [q_118_0, q_118_1, q_118_2, q_118_3, q_118_5, q_118_6, q_118_7, q_118_8, vinT, iClamp, clr_i, clr_l, clr_r, clr_n, true_and, and_true, or_true, true_or, false_or, or_false, iLe, iLt, iEq, iAdd, iMul, List.cons_append, List.nil_append, List.append_nil, zb0, zb1, if_true, if_false, not_true_eq_false, not_false_eq_true, Bool.false_eq_true, Nat.one_ne_zero, Nat.zero_ne_one, Nat.reduceEqDiff, Nat.reduceAdd, if_pos, if_neg]
    rw [h1]
    by_cases c : dtL (wt a p) (hr a p) 4 = 0
    · have c2 := dtL_0.mp c
      have ew : whL (wt a p) (hr a p) = 1 := by rw [whL, if_pos c]
      rw [ew] at i1
      simp (disch := omega) only [q_118_74, q_118_75, q_118_77, q_118_80, q_118_81, q_118_84, q_118_85, q_118_87, q_118_88, q_118_89, q_118_92, q_118_93, vinT, iClamp, clr_i, clr_l, clr_r, clr_n, true_and, and_true, or_true, true_or, false_or, or_false, iLe, iLt, iEq, iAdd, iMul, List.cons_append, List.nil_append, List.append_nil, zb0, zb1, if_true, if_false, not_true_eq_false, not_false_eq_true, Bool.false_eq_true, Nat.one_ne_zero, Nat.zero_ne_one, Nat.reduceEqDiff, Nat.reduceAdd, if_pos, if_neg, m127, m128k, m128n, m129k, m129n, m130k, m130n, m131k, m131n, m132k, m132n, m133k, m133n, m134k, m134n, m135k, m135n, m136k, m136n, m137k, m137n, m138k, m138n, m139k, m139n, m140k, m140n, m141k, m141n, m142k, m142n, m143k, m143n, m144k, m144n, m145k, m145n, m146k, m146n]
      exact i1 Q
    · have c2 : ¬ wsL (wt a p) (hr a p) 4 = 0 := fun q => c (dtL_0.mpr q)
      have ew : whL (wt a p) (hr a p) = prL (wt a p) (hr a p) 4 * wsL (wt a p) (hr a p) 4 := by rw [whL, if_neg c, Nat.mul_comm]
      rw [ew] at i1
      simp (disch := omega) only [q_118_74, q_118_75, q_118_77, q_118_80, q_118_81, q_118_84, q_118_85, q_118_87, q_118_88, q_118_89, q_118_92, q_118_93, vinT, iClamp, clr_i, clr_l, clr_r, clr_n, true_and, and_true, or_true, true_or, false_or, or_false, iLe, iLt, iEq, iAdd, iMul, List.cons_append, List.nil_append, List.append_nil, zb0, zb1, if_true, if_false, not_true_eq_false, not_false_eq_true, Bool.false_eq_true, Nat.one_ne_zero, Nat.zero_ne_one, Nat.reduceEqDiff, Nat.reduceAdd, if_pos, if_neg, m127, m128k, m128n, m129k, m129n, m130k, m130n, m131k, m131n, m132k, m132n, m133k, m133n, m134k, m134n, m135k, m135n, m136k, m136n, m137k, m137n, m138k, m138n, m139k, m139n, m140k, m140n, m141k, m141n, m142k, m142n, m143k, m143n, m144k, m144n, m145k, m145n, m146k, m146n, i2L, lMul]
      exact i1 Q
  · rw [(i4 127 (by simp)).2, sL_at]
  · rw [(i4 127 (by simp)).2, sL_off (by omega)]
theorem LSh_off {S : List Nat} {σ σ' : Mem} {a : AS} {p : Nat} (h : LSh σ a p) (ho : Off S σ σ') (h1 : 127 ∉ S) (h2 : 134 ∉ S) : LSh σ' a p := ⟨by rw [(ho 127 h1).2]; exact h.1, fun q hq => by rw [(ho 134 h2).2]; exact h.2 q hq⟩
theorem pt_le {a : AS} {p q : Nat} (ok : AOK a) (hp : p < 8) (hq : q < 7) : ptL (wt a p) (hr a p) q 4 ≤ 567106596 ∧ whL (wt a p) (hr a p) ≤ 567106596 ∧ 0 < whL (wt a p) (hr a p) := by
  obtain ⟨o1, o2, o3, o4, o5, o6, o7, o8⟩ := ok.1 p hp
  have h1 := ptL_wh (w := wt a p) (h := hr a p) hq
  have h2 := whL_le o2 o3
  exact ⟨by omega, h2, whL_pos o3⟩
def gfB (a : AS) (p g q : Nat) : Bool := if g = 1 then decide (plF (rF (ro a p)) (nI q) 0 (ro a p).length = -9 ∧ 0 < ptL (wt a p) (hr a p) q 4) else decide (¬ plF (rF (ro a p)) (nI q) 0 (ro a p).length = -9 ∧ ptL (wt a p) (hr a p) q 4 = 0)
theorem s_isGiftM {X : Nat × (Nat → Int32)} {σ : Mem} {Q : List Value → Mem → Prop} {a : AS} {p q g : Nat} {v : Value} (ok : AOK a) (h : MI σ a) (hL : LSh σ a p) (hp : p < 8) (hq : q < 7) (hg : g = 0 ∨ g = 1) : Rn X 120 0 [.ref 127, .int (nI p), .int (nI q), .int (nI g), v] [] σ Q ↔ Q [.int (b2 (gfB a p g q = true))] σ := by
  obtain ⟨o1, o2, o3, o4, o5, o6, o7, o8⟩ := ok.1 p hp
  obtain ⟨z1, z2, z3⟩ := pt_le ok hp hq
  have l2 := hL.2 q hq
  rcases hg with rfl | rfl
  · by_cases c1 : plF (rF (ro a p)) (nI q) 0 (ro a p).length = -9
    · have e : b2 (gfB a p 0 q = true) = nI 0 := b2_f (by simp [gfB, c1])
      simp (disch := omega) only [q_120_0, q_120_1, q_120_2, q_120_3, q_120_6, q_120_8, q_120_11, q_120_12, q_120_15, q_120_16, q_120_18, q_120_19, q_120_22, q_120_24, q_120_27, q_120_28, q_120_31, q_120_32, q_120_33, q_120_34, q_120_35, q_120_38, q_120_39, q_120_42, q_120_43, q_120_46, q_120_48, q_120_51, q_120_52, q_120_55, q_120_56, q_120_57, q_120_58, q_120_59, q_120_62, q_120_63, q_120_66, q_120_67, vinT, iClamp, clr_i, clr_l, clr_r, clr_n, true_and, and_true, or_true, true_or, false_or, or_false, iLe, iLt, iEq, iAdd, iMul, List.cons_append, List.nil_append, List.append_nil, zb0, zb1, if_true, if_false, not_true_eq_false, not_false_eq_true, Bool.false_eq_true, Nat.one_ne_zero, Nat.zero_ne_one, Nat.reduceEqDiff, Nat.reduceAdd, if_pos, if_neg, m127, m128k, m128n, m129k, m129n, m130k, m130n, m131k, m131n, m132k, m132n, m133k, m133n, m134k, m134n, m135k, m135n, m136k, m136n, m137k, m137n, m138k, m138n, m139k, m139n, m140k, m140n, m141k, m141n, m142k, m142n, m143k, m143n, m144k, m144n, m145k, m145n, m146k, m146n, s_placeM h hp o6, c1, e]
    · by_cases c2 : ptL (wt a p) (hr a p) q 4 = 0
      · have e : b2 (gfB a p 0 q = true) = nI 1 := b2_t (by simp [gfB, c1, c2])
        simp (disch := omega) only [q_120_0, q_120_1, q_120_2, q_120_3, q_120_6, q_120_8, q_120_11, q_120_12, q_120_15, q_120_16, q_120_18, q_120_19, q_120_22, q_120_24, q_120_27, q_120_28, q_120_31, q_120_32, q_120_33, q_120_34, q_120_35, q_120_38, q_120_39, q_120_42, q_120_43, q_120_46, q_120_48, q_120_51, q_120_52, q_120_55, q_120_56, q_120_57, q_120_58, q_120_59, q_120_62, q_120_63, q_120_66, q_120_67, vinT, iClamp, clr_i, clr_l, clr_r, clr_n, true_and, and_true, or_true, true_or, false_or, or_false, iLe, iLt, iEq, iAdd, iMul, List.cons_append, List.nil_append, List.append_nil, zb0, zb1, if_true, if_false, not_true_eq_false, not_false_eq_true, Bool.false_eq_true, Nat.one_ne_zero, Nat.zero_ne_one, Nat.reduceEqDiff, Nat.reduceAdd, if_pos, if_neg, m127, m128k, m128n, m129k, m129n, m130k, m130n, m131k, m131n, m132k, m132n, m133k, m133n, m134k, m134n, m135k, m135n, m136k, m136n, m137k, m137n, m138k, m138n, m139k, m139n, m140k, m140n, m141k, m141n, m142k, m142n, m143k, m143n, m144k, m144n, m145k, m145n, m146k, m146n, s_placeM h hp o6, c1, l2, lc_eq, lEq, e]
      · have e : b2 (gfB a p 0 q = true) = nI 0 := b2_f (by simp [gfB, c2])
        simp (disch := omega) only [q_120_0, q_120_1, q_120_2, q_120_3, q_120_6, q_120_8, q_120_11, q_120_12, q_120_15, q_120_16, q_120_18, q_120_19, q_120_22, q_120_24, q_120_27, q_120_28, q_120_31, q_120_32, q_120_33, q_120_34, q_120_35, q_120_38, q_120_39, q_120_42, q_120_43, q_120_46, q_120_48, q_120_51, q_120_52, q_120_55, q_120_56, q_120_57, q_120_58, q_120_59, q_120_62, q_120_63, q_120_66, q_120_67, vinT, iClamp, clr_i, clr_l, clr_r, clr_n, true_and, and_true, or_true, true_or, false_or, or_false, iLe, iLt, iEq, iAdd, iMul, List.cons_append, List.nil_append, List.append_nil, zb0, zb1, if_true, if_false, not_true_eq_false, not_false_eq_true, Bool.false_eq_true, Nat.one_ne_zero, Nat.zero_ne_one, Nat.reduceEqDiff, Nat.reduceAdd, if_pos, if_neg, m127, m128k, m128n, m129k, m129n, m130k, m130n, m131k, m131n, m132k, m132n, m133k, m133n, m134k, m134n, m135k, m135n, m136k, m136n, m137k, m137n, m138k, m138n, m139k, m139n, m140k, m140n, m141k, m141n, m142k, m142n, m143k, m143n, m144k, m144n, m145k, m145n, m146k, m146n, s_placeM h hp o6, c1, l2, lc_eq, lEq, e]
  · by_cases c1 : plF (rF (ro a p)) (nI q) 0 (ro a p).length = -9
    · by_cases c2 : 0 < ptL (wt a p) (hr a p) q 4
      · have e : b2 (gfB a p 1 q = true) = nI 1 := b2_t (by simp [gfB, c1, c2])
        simp (disch := omega) only [q_120_0, q_120_1, q_120_2, q_120_3, q_120_6, q_120_8, q_120_11, q_120_12, q_120_15, q_120_16, q_120_18, q_120_19, q_120_22, q_120_24, q_120_27, q_120_28, q_120_31, q_120_32, q_120_33, q_120_34, q_120_35, q_120_38, q_120_39, q_120_42, q_120_43, q_120_46, q_120_48, q_120_51, q_120_52, q_120_55, q_120_56, q_120_57, q_120_58, q_120_59, q_120_62, q_120_63, q_120_66, q_120_67, vinT, iClamp, clr_i, clr_l, clr_r, clr_n, true_and, and_true, or_true, true_or, false_or, or_false, iLe, iLt, iEq, iAdd, iMul, List.cons_append, List.nil_append, List.append_nil, zb0, zb1, if_true, if_false, not_true_eq_false, not_false_eq_true, Bool.false_eq_true, Nat.one_ne_zero, Nat.zero_ne_one, Nat.reduceEqDiff, Nat.reduceAdd, if_pos, if_neg, m127, m128k, m128n, m129k, m129n, m130k, m130n, m131k, m131n, m132k, m132n, m133k, m133n, m134k, m134n, m135k, m135n, m136k, m136n, m137k, m137n, m138k, m138n, m139k, m139n, m140k, m140n, m141k, m141n, m142k, m142n, m143k, m143n, m144k, m144n, m145k, m145n, m146k, m146n, s_placeM h hp o6, c1, l2, lc_le, lLt, e]
      · have e : b2 (gfB a p 1 q = true) = nI 0 := b2_f (by simp [gfB, c2])
        simp (disch := omega) only [q_120_0, q_120_1, q_120_2, q_120_3, q_120_6, q_120_8, q_120_11, q_120_12, q_120_15, q_120_16, q_120_18, q_120_19, q_120_22, q_120_24, q_120_27, q_120_28, q_120_31, q_120_32, q_120_33, q_120_34, q_120_35, q_120_38, q_120_39, q_120_42, q_120_43, q_120_46, q_120_48, q_120_51, q_120_52, q_120_55, q_120_56, q_120_57, q_120_58, q_120_59, q_120_62, q_120_63, q_120_66, q_120_67, vinT, iClamp, clr_i, clr_l, clr_r, clr_n, true_and, and_true, or_true, true_or, false_or, or_false, iLe, iLt, iEq, iAdd, iMul, List.cons_append, List.nil_append, List.append_nil, zb0, zb1, if_true, if_false, not_true_eq_false, not_false_eq_true, Bool.false_eq_true, Nat.one_ne_zero, Nat.zero_ne_one, Nat.reduceEqDiff, Nat.reduceAdd, if_pos, if_neg, m127, m128k, m128n, m129k, m129n, m130k, m130n, m131k, m131n, m132k, m132n, m133k, m133n, m134k, m134n, m135k, m135n, m136k, m136n, m137k, m137n, m138k, m138n, m139k, m139n, m140k, m140n, m141k, m141n, m142k, m142n, m143k, m143n, m144k, m144n, m145k, m145n, m146k, m146n, s_placeM h hp o6, c1, l2, lc_le, lLt, e]
    · have e : b2 (gfB a p 1 q = true) = nI 0 := b2_f (by simp [gfB, c1])
      simp (disch := omega) only [q_120_0, q_120_1, q_120_2, q_120_3, q_120_6, q_120_8, q_120_11, q_120_12, q_120_15, q_120_16, q_120_18, q_120_19, q_120_22, q_120_24, q_120_27, q_120_28, q_120_31, q_120_32, q_120_33, q_120_34, q_120_35, q_120_38, q_120_39, q_120_42, q_120_43, q_120_46, q_120_48, q_120_51, q_120_52, q_120_55, q_120_56, q_120_57, q_120_58, q_120_59, q_120_62, q_120_63, q_120_66, q_120_67, vinT, iClamp, clr_i, clr_l, clr_r, clr_n, true_and, and_true, or_true, true_or, false_or, or_false, iLe, iLt, iEq, iAdd, iMul, List.cons_append, List.nil_append, List.append_nil, zb0, zb1, if_true, if_false, not_true_eq_false, not_false_eq_true, Bool.false_eq_true, Nat.one_ne_zero, Nat.zero_ne_one, Nat.reduceEqDiff, Nat.reduceAdd, if_pos, if_neg, m127, m128k, m128n, m129k, m129n, m130k, m130n, m131k, m131n, m132k, m132n, m133k, m133n, m134k, m134n, m135k, m135n, m136k, m136n, m137k, m137n, m138k, m138n, m139k, m139n, m140k, m140n, m141k, m141n, m142k, m142n, m143k, m143n, m144k, m144n, m145k, m145n, m146k, m146n, s_placeM h hp o6, c1, e]
theorem l_giftsM {X : Nat × (Nat → Int32)} {σ : Mem} {Q : List Value → Mem → Prop} {a : AS} {p g : Nat} (ok : AOK a) (h : MI σ a) (hL : LSh σ a p) (hp : p < 8) (hg : g = 0 ∨ g = 1) : ∀ n i s, i + n = 7 → (Rn X 121 19 [.ref 127, .int (nI p), .int (nI g), .int (nI s), .int (nI i)] [] σ Q ↔ Q [.int (nI (s + smF (fun j => if gfB a p g j = true then 1 else 0) i n))] σ) := by
  intro n
  induction n with
  | zero =>
    intro i s hi
    have e : i = 7 := by omega
    subst e
    rw [q_121_19]
    simp (disch := omega) only [q_121_0, q_121_1, q_121_4, q_121_7, q_121_8, q_121_9, q_121_10, q_121_11, q_121_14, q_121_15, q_121_16, q_121_17, q_121_21, q_121_23, q_121_26, q_121_27, q_121_28, q_121_29, q_121_31, q_121_32, q_121_35, q_121_38, q_121_39, q_121_42, q_121_43, q_121_44, q_121_45, q_121_48, q_121_51, q_121_52, vinT, iClamp, clr_i, clr_l, clr_r, clr_n, true_and, and_true, or_true, true_or, false_or, or_false, iLe, iLt, iEq, iAdd, iMul, List.cons_append, List.nil_append, List.append_nil, zb0, zb1, if_true, if_false, not_true_eq_false, not_false_eq_true, Bool.false_eq_true, Nat.one_ne_zero, Nat.zero_ne_one, Nat.reduceEqDiff, Nat.reduceAdd, if_pos, if_neg, smF, Nat.add_zero]
  | succ n ih =>
    intro i s hi
    rw [q_121_19]
    by_cases c : gfB a p g i = true
    · simp (disch := omega) only [q_121_0, q_121_1, q_121_4, q_121_7, q_121_8, q_121_9, q_121_10, q_121_11, q_121_14, q_121_15, q_121_16, q_121_17, q_121_21, q_121_23, q_121_26, q_121_27, q_121_28, q_121_29, q_121_31, q_121_32, q_121_35, q_121_38, q_121_39, q_121_42, q_121_43, q_121_44, q_121_45, q_121_48, q_121_51, q_121_52, vinT, iClamp, clr_i, clr_l, clr_r, clr_n, true_and, and_true, or_true, true_or, false_or, or_false, iLe, iLt, iEq, iAdd, iMul, List.cons_append, List.nil_append, List.append_nil, zb0, zb1, if_true, if_false, not_true_eq_false, not_false_eq_true, Bool.false_eq_true, Nat.one_ne_zero, Nat.zero_ne_one, Nat.reduceEqDiff, Nat.reduceAdd, if_pos, if_neg, m127, m128k, m128n, m129k, m129n, m130k, m130n, m131k, m131n, m132k, m132n, m133k, m133n, m134k, m134n, m135k, m135n, m136k, m136n, m137k, m137n, m138k, m138n, m139k, m139n, m140k, m140n, m141k, m141n, m142k, m142n, m143k, m143n, m144k, m144n, m145k, m145n, m146k, m146n, s_isGiftM ok h hL hp (show i < 7 by omega) hg, b2_t c]
      rw [ih (i + 1) _ (by omega), smF, if_pos c, Nat.add_assoc]
    · simp (disch := omega) only [q_121_0, q_121_1, q_121_4, q_121_7, q_121_8, q_121_9, q_121_10, q_121_11, q_121_14, q_121_15, q_121_16, q_121_17, q_121_21, q_121_23, q_121_26, q_121_27, q_121_28, q_121_29, q_121_31, q_121_32, q_121_35, q_121_38, q_121_39, q_121_42, q_121_43, q_121_44, q_121_45, q_121_48, q_121_51, q_121_52, vinT, iClamp, clr_i, clr_l, clr_r, clr_n, true_and, and_true, or_true, true_or, false_or, or_false, iLe, iLt, iEq, iAdd, iMul, List.cons_append, List.nil_append, List.append_nil, zb0, zb1, if_true, if_false, not_true_eq_false, not_false_eq_true, Bool.false_eq_true, Nat.one_ne_zero, Nat.zero_ne_one, Nat.reduceEqDiff, Nat.reduceAdd, if_pos, if_neg, m127, m128k, m128n, m129k, m129n, m130k, m130n, m131k, m131n, m132k, m132n, m133k, m133n, m134k, m134n, m135k, m135n, m136k, m136n, m137k, m137n, m138k, m138n, m139k, m139n, m140k, m140n, m141k, m141n, m142k, m142n, m143k, m143n, m144k, m144n, m145k, m145n, m146k, m146n, s_isGiftM ok h hL hp (show i < 7 by omega) hg, b2_f c]
      rw [ih (i + 1) _ (by omega), smF, if_neg c, Nat.zero_add, Nat.add_zero]
theorem gifts_eq {a : AS} {p g : Nat} (ok : AOK a) (hp : p < 8) (hg : g = 0 ∨ g = 1) : smF (fun j => if gfB a p g j = true then 1 else 0) 0 7 = smF (fun j => if fnd a p g j = true then 1 else 0) 0 7 := by
  obtain ⟨o1, o2, o3, o4, o5, o6, o7, o8⟩ := ok.1 p hp
  rcases hg with rfl | rfl
  · have e1 : smF (fun j => if fnd a p 0 j = true then 1 else 0) 0 7 = smF (fun j => if ptL (wt a p) (hr a p) ((ro a p).getD j 0) 4 = 0 then 1 else 0) 0 (ro a p).length := by
      rw [smF_cut7 o6 (fun j h1 h2 => if_neg (by simp [fnd]; omega))]
      refine smF_congr _ _ (fun j h1 h2 => ?_)
      have h3 : j < (ro a p).length := by omega
      by_cases c : ptL (wt a p) (hr a p) ((ro a p).getD j 0) 4 = 0
      · rw [if_pos c, if_pos (by simp only [fnd, if_neg (show ¬ (0 : Nat) = 1 by omega), decide_eq_true_eq]; exact ⟨h3, c⟩)]
      · rw [if_neg c, if_neg (by simp only [fnd, if_neg (show ¬ (0 : Nat) = 1 by omega), decide_eq_true_eq]; exact fun q => c q.2)]
    rw [e1, sum_row o8 o7 (fun q => if ptL (wt a p) (hr a p) q 4 = 0 then 1 else 0)]
    refine smF_congr _ _ (fun j h1 h2 => ?_)
    have hn := plF_not o6 o7 (show j < 7 by omega)
    by_cases c : j ∈ ro a p
    · have c1 : ¬ plF (rF (ro a p)) (nI j) 0 (ro a p).length = -9 := fun q => hn.mp q c
      simp [gfB, c, c1]
    · have c1 := hn.mpr c
      simp [gfB, c, c1]
  · refine smF_congr _ _ (fun j h1 h2 => ?_)
    simp only [gfB, fnd, if_true]
theorem m_Gs {X : Nat × (Nat → Int32)} {σ : Mem} {a : AS} {x : Int32} {g : Nat} {w0 w1 : Value} (hg : g = 0 ∨ g = 1) (ok : AOK a) (h : MI σ a) : ∃ σ', Ev X 121 [.ref 127, .int x, .int (nI g), w0, w1] σ [.int (anGs a x g)] σ' ∧ MI σ' a ∧ Hi σ σ' := by
  by_cases k0 : inR x 8
  · have e0 : b2 (inR x 8) = nI 1 := b2_t k0
    rw [anGs, if_pos k0]
    obtain ⟨p, hp, rfl⟩ := inR_of k0 (by omega)
    rw [tn_nI (by omega), ← gifts_eq ok hp hg]
    obtain ⟨σ', i1, i2, i3, i4, i5⟩ := s_layM (X := X) (u1 := .null) (u2 := .null) (u3 := .null) (u4 := .null) (u5 := .null) ok h hp
    have i1' := fun Q => i1 Q
    have h' := MI_scr h (i3.mono (by decide))
    refine ⟨σ', fun Q => ?_, h', i3.hi (by simp)⟩
    simp (disch := omega) only [q_121_0, q_121_1, q_121_4, q_121_7, q_121_8, q_121_9, q_121_10, q_121_11, q_121_14, q_121_15, q_121_16, q_121_17, vinT, iClamp, clr_i, clr_l, clr_r, clr_n, true_and, and_true, or_true, true_or, false_or, or_false, iLe, iLt, iEq, iAdd, iMul, List.cons_append, List.nil_append, List.append_nil, zb0, zb1, if_true, if_false, not_true_eq_false, not_false_eq_true, Bool.false_eq_true, Nat.one_ne_zero, Nat.zero_ne_one, Nat.reduceEqDiff, Nat.reduceAdd, if_pos, if_neg, m127, m128k, m128n, m129k, m129n, m130k, m130n, m131k, m131n, m132k, m132n, m133k, m133n, m134k, m134n, m135k, m135n, m136k, m136n, m137k, m137n, m138k, m138n, m139k, m139n, m140k, m140n, m141k, m141n, m142k, m142n, m143k, m143n, m144k, m144n, m145k, m145n, m146k, m146n, s_isPaperM, e0, i1']
    rw [l_giftsM ok h' i2 hp hg 7 0 0 rfl, Nat.zero_add]
  · have e0 : b2 (inR x 8) = nI 0 := b2_f k0
    rw [anGs, if_neg k0]
    refine ⟨σ, fun Q => ?_, h, Hi.rf σ⟩
    simp (disch := omega) only [q_121_0, q_121_1, q_121_4, q_121_7, q_121_8, q_121_9, q_121_10, q_121_11, q_121_14, q_121_15, q_121_16, q_121_17, vinT, iClamp, clr_i, clr_l, clr_r, clr_n, true_and, and_true, or_true, true_or, false_or, or_false, iLe, iLt, iEq, iAdd, iMul, List.cons_append, List.nil_append, List.append_nil, zb0, zb1, if_true, if_false, not_true_eq_false, not_false_eq_true, Bool.false_eq_true, Nat.one_ne_zero, Nat.zero_ne_one, Nat.reduceEqDiff, Nat.reduceAdd, if_pos, if_neg, s_isPaperM, e0]
theorem l_giftM1 {X : Nat × (Nat → Int32)} {σ : Mem} {Q : List Value → Mem → Prop} {a : AS} {p : Nat} {i : Int32} (ok : AOK a) (h : MI σ a) (hL : LSh σ a p) (hp : p < 8) : ∀ m j n (v : Value), j + m = 7 → (Rn X 122 20 [.ref 127, .int (nI p), .int (nI 1), .int i, .int (nI n), .int (nI j), v] [] σ Q ↔ Q [.int (giF (gfB a p 1) (fun j => nI j) i j m n)] σ) := by
  intro m
  induction m with
  | zero =>
    intro j n v hj
    have e : j = 7 := by omega
    subst e
    rw [q_122_20]
    simp (disch := omega) only [q_122_0, q_122_1, q_122_4, q_122_7, q_122_8, q_122_9, q_122_10, q_122_11, q_122_14, q_122_15, q_122_17, q_122_18, q_122_22, q_122_23, q_122_26, q_122_28, q_122_31, q_122_32, q_122_35, q_122_36, q_122_37, q_122_40, q_122_41, q_122_44, q_122_46, q_122_49, q_122_50, q_122_53, q_122_55, q_122_56, q_122_57, q_122_59, q_122_60, q_122_61, q_122_63, q_122_64, q_122_65, q_122_67, q_122_68, q_122_71, q_122_74, q_122_76, q_122_77, q_122_80, q_122_82, q_122_83, q_122_86, q_122_89, q_122_92, q_122_94, vinT, iClamp, clr_i, clr_l, clr_r, clr_n, true_and, and_true, or_true, true_or, false_or, or_false, iLe, iLt, iEq, iAdd, iMul, List.cons_append, List.nil_append, List.append_nil, zb0, zb1, if_true, if_false, not_true_eq_false, not_false_eq_true, Bool.false_eq_true, Nat.one_ne_zero, Nat.zero_ne_one, Nat.reduceEqDiff, Nat.reduceAdd, if_pos, if_neg, giF]
  | succ m ih =>
    intro j n v hj
    rw [q_122_20, giF]
    by_cases c : gfB a p 1 j = true
    · by_cases c2 : nI n = i
      · simp (disch := omega) only [q_122_0, q_122_1, q_122_4, q_122_7, q_122_8, q_122_9, q_122_10, q_122_11, q_122_14, q_122_15, q_122_17, q_122_18, q_122_22, q_122_23, q_122_26, q_122_28, q_122_31, q_122_32, q_122_35, q_122_36, q_122_37, q_122_40, q_122_41, q_122_44, q_122_46, q_122_49, q_122_50, q_122_53, q_122_55, q_122_56, q_122_57, q_122_59, q_122_60, q_122_61, q_122_63, q_122_64, q_122_65, q_122_67, q_122_68, q_122_71, q_122_74, q_122_76, q_122_77, q_122_80, q_122_82, q_122_83, q_122_86, q_122_89, q_122_92, q_122_94, vinT, iClamp, clr_i, clr_l, clr_r, clr_n, true_and, and_true, or_true, true_or, false_or, or_false, iLe, iLt, iEq, iAdd, iMul, List.cons_append, List.nil_append, List.append_nil, zb0, zb1, if_true, if_false, not_true_eq_false, not_false_eq_true, Bool.false_eq_true, Nat.one_ne_zero, Nat.zero_ne_one, Nat.reduceEqDiff, Nat.reduceAdd, if_pos, if_neg, m127, m128k, m128n, m129k, m129n, m130k, m130n, m131k, m131n, m132k, m132n, m133k, m133n, m134k, m134n, m135k, m135n, m136k, m136n, m137k, m137n, m138k, m138n, m139k, m139n, m140k, m140n, m141k, m141n, m142k, m142n, m143k, m143n, m144k, m144n, m145k, m145n, m146k, m146n, s_isGiftM ok h hL hp (show j < 7 by omega) (Or.inr rfl), b2_t c, c2]
      · simp (disch := omega) only [q_122_0, q_122_1, q_122_4, q_122_7, q_122_8, q_122_9, q_122_10, q_122_11, q_122_14, q_122_15, q_122_17, q_122_18, q_122_22, q_122_23, q_122_26, q_122_28, q_122_31, q_122_32, q_122_35, q_122_36, q_122_37, q_122_40, q_122_41, q_122_44, q_122_46, q_122_49, q_122_50, q_122_53, q_122_55, q_122_56, q_122_57, q_122_59, q_122_60, q_122_61, q_122_63, q_122_64, q_122_65, q_122_67, q_122_68, q_122_71, q_122_74, q_122_76, q_122_77, q_122_80, q_122_82, q_122_83, q_122_86, q_122_89, q_122_92, q_122_94, vinT, iClamp, clr_i, clr_l, clr_r, clr_n, true_and, and_true, or_true, true_or, false_or, or_false, iLe, iLt, iEq, iAdd, iMul, List.cons_append, List.nil_append, List.append_nil, zb0, zb1, if_true, if_false, not_true_eq_false, not_false_eq_true, Bool.false_eq_true, Nat.one_ne_zero, Nat.zero_ne_one, Nat.reduceEqDiff, Nat.reduceAdd, if_pos, if_neg, m127, m128k, m128n, m129k, m129n, m130k, m130n, m131k, m131n, m132k, m132n, m133k, m133n, m134k, m134n, m135k, m135n, m136k, m136n, m137k, m137n, m138k, m138n, m139k, m139n, m140k, m140n, m141k, m141n, m142k, m142n, m143k, m143n, m144k, m144n, m145k, m145n, m146k, m146n, s_isGiftM ok h hL hp (show j < 7 by omega) (Or.inr rfl), b2_t c, c2]
        rw [ih (j + 1) (n + 1) _ (by omega)]
    · simp (disch := omega) only [q_122_0, q_122_1, q_122_4, q_122_7, q_122_8, q_122_9, q_122_10, q_122_11, q_122_14, q_122_15, q_122_17, q_122_18, q_122_22, q_122_23, q_122_26, q_122_28, q_122_31, q_122_32, q_122_35, q_122_36, q_122_37, q_122_40, q_122_41, q_122_44, q_122_46, q_122_49, q_122_50, q_122_53, q_122_55, q_122_56, q_122_57, q_122_59, q_122_60, q_122_61, q_122_63, q_122_64, q_122_65, q_122_67, q_122_68, q_122_71, q_122_74, q_122_76, q_122_77, q_122_80, q_122_82, q_122_83, q_122_86, q_122_89, q_122_92, q_122_94, vinT, iClamp, clr_i, clr_l, clr_r, clr_n, true_and, and_true, or_true, true_or, false_or, or_false, iLe, iLt, iEq, iAdd, iMul, List.cons_append, List.nil_append, List.append_nil, zb0, zb1, if_true, if_false, not_true_eq_false, not_false_eq_true, Bool.false_eq_true, Nat.one_ne_zero, Nat.zero_ne_one, Nat.reduceEqDiff, Nat.reduceAdd, if_pos, if_neg, m127, m128k, m128n, m129k, m129n, m130k, m130n, m131k, m131n, m132k, m132n, m133k, m133n, m134k, m134n, m135k, m135n, m136k, m136n, m137k, m137n, m138k, m138n, m139k, m139n, m140k, m140n, m141k, m141n, m142k, m142n, m143k, m143n, m144k, m144n, m145k, m145n, m146k, m146n, s_isGiftM ok h hL hp (show j < 7 by omega) (Or.inr rfl), b2_f c]
      rw [ih (j + 1) n _ (by omega)]
theorem l_giftM0 {X : Nat × (Nat → Int32)} {σ : Mem} {Q : List Value → Mem → Prop} {a : AS} {p : Nat} {i : Int32} (ok : AOK a) (h : MI σ a) (hL : LSh σ a p) (hp : p < 8) : ∀ m j n (v : Value), j + m = (ro a p).length → (Rn X 122 20 [.ref 127, .int (nI p), .int (nI 0), .int i, .int (nI n), .int (nI j), v] [] σ Q ↔ Q [.int (giF (fun j => gfB a p 0 ((ro a p).getD j 0)) (fun j => nI ((ro a p).getD j 0)) i j m n)] σ) := by
  obtain ⟨m1, m2, m3, m4, m5, m6, m7, m8, m9, m10⟩ := id h
  obtain ⟨o1, o2, o3, o4, o5, o6, o7, o8⟩ := ok.1 p hp
  intro m
  induction m with
  | zero =>
    intro j n v hj
    rw [q_122_20]
    simp (disch := omega) only [q_122_0, q_122_1, q_122_4, q_122_7, q_122_8, q_122_9, q_122_10, q_122_11, q_122_14, q_122_15, q_122_17, q_122_18, q_122_22, q_122_23, q_122_26, q_122_28, q_122_31, q_122_32, q_122_35, q_122_36, q_122_37, q_122_40, q_122_41, q_122_44, q_122_46, q_122_49, q_122_50, q_122_53, q_122_55, q_122_56, q_122_57, q_122_59, q_122_60, q_122_61, q_122_63, q_122_64, q_122_65, q_122_67, q_122_68, q_122_71, q_122_74, q_122_76, q_122_77, q_122_80, q_122_82, q_122_83, q_122_86, q_122_89, q_122_92, q_122_94, vinT, iClamp, clr_i, clr_l, clr_r, clr_n, true_and, and_true, or_true, true_or, false_or, or_false, iLe, iLt, iEq, iAdd, iMul, List.cons_append, List.nil_append, List.append_nil, zb0, zb1, if_true, if_false, not_true_eq_false, not_false_eq_true, Bool.false_eq_true, Nat.one_ne_zero, Nat.zero_ne_one, Nat.reduceEqDiff, Nat.reduceAdd, if_pos, if_neg, m127, m128k, m128n, m129k, m129n, m130k, m130n, m131k, m131n, m132k, m132n, m133k, m133n, m134k, m134n, m135k, m135n, m136k, m136n, m137k, m137n, m138k, m138n, m139k, m139n, m140k, m140n, m141k, m141n, m142k, m142n, m143k, m143n, m144k, m144n, m145k, m145n, m146k, m146n, m5 p hp, giF]
  | succ m ih =>
    intro j n v hj
    rw [q_122_20, giF]
    have hx := o7 j (by omega)
    have hv := m6 p hp j (by omega)
    by_cases c : gfB a p 0 ((ro a p).getD j 0) = true
    · by_cases c2 : nI n = i
      · simp (disch := omega) only [q_122_0, q_122_1, q_122_4, q_122_7, q_122_8, q_122_9, q_122_10, q_122_11, q_122_14, q_122_15, q_122_17, q_122_18, q_122_22, q_122_23, q_122_26, q_122_28, q_122_31, q_122_32, q_122_35, q_122_36, q_122_37, q_122_40, q_122_41, q_122_44, q_122_46, q_122_49, q_122_50, q_122_53, q_122_55, q_122_56, q_122_57, q_122_59, q_122_60, q_122_61, q_122_63, q_122_64, q_122_65, q_122_67, q_122_68, q_122_71, q_122_74, q_122_76, q_122_77, q_122_80, q_122_82, q_122_83, q_122_86, q_122_89, q_122_92, q_122_94, vinT, iClamp, clr_i, clr_l, clr_r, clr_n, true_and, and_true, or_true, true_or, false_or, or_false, iLe, iLt, iEq, iAdd, iMul, List.cons_append, List.nil_append, List.append_nil, zb0, zb1, if_true, if_false, not_true_eq_false, not_false_eq_true, Bool.false_eq_true, Nat.one_ne_zero, Nat.zero_ne_one, Nat.reduceEqDiff, Nat.reduceAdd, if_pos, if_neg, m127, m128k, m128n, m129k, m129n, m130k, m130n, m131k, m131n, m132k, m132n, m133k, m133n, m134k, m134n, m135k, m135n, m136k, m136n, m137k, m137n, m138k, m138n, m139k, m139n, m140k, m140n, m141k, m141n, m142k, m142n, m143k, m143n, m144k, m144n, m145k, m145n, m146k, m146n, m5 p hp, hv, s_isGiftM ok h hL hp hx (Or.inl rfl), b2_t c, c2]
      · simp (disch := omega) only [q_122_0, q_122_1, q_122_4, q_122_7, q_122_8, q_122_9, q_122_10, q_122_11, q_122_14, q_122_15, q_122_17, q_122_18, q_122_22, q_122_23, q_122_26, q_122_28, q_122_31, q_122_32, q_122_35, q_122_36, q_122_37, q_122_40, q_122_41, q_122_44, q_122_46, q_122_49, q_122_50, q_122_53, q_122_55, q_122_56, q_122_57, q_122_59, q_122_60, q_122_61, q_122_63, q_122_64, q_122_65, q_122_67, q_122_68, q_122_71, q_122_74, q_122_76, q_122_77, q_122_80, q_122_82, q_122_83, q_122_86, q_122_89, q_122_92, q_122_94, vinT, iClamp, clr_i, clr_l, clr_r, clr_n, true_and, and_true, or_true, true_or, false_or, or_false, iLe, iLt, iEq, iAdd, iMul, List.cons_append, List.nil_append, List.append_nil, zb0, zb1, if_true, if_false, not_true_eq_false, not_false_eq_true, Bool.false_eq_true, Nat.one_ne_zero, Nat.zero_ne_one, Nat.reduceEqDiff, Nat.reduceAdd, if_pos, if_neg, m127, m128k, m128n, m129k, m129n, m130k, m130n, m131k, m131n, m132k, m132n, m133k, m133n, m134k, m134n, m135k, m135n, m136k, m136n, m137k, m137n, m138k, m138n, m139k, m139n, m140k, m140n, m141k, m141n, m142k, m142n, m143k, m143n, m144k, m144n, m145k, m145n, m146k, m146n, m5 p hp, hv, s_isGiftM ok h hL hp hx (Or.inl rfl), b2_t c, c2]
        rw [ih (j + 1) (n + 1) _ (by omega)]
    · simp (disch := omega) only [q_122_0, q_122_1, q_122_4, q_122_7, q_122_8, q_122_9, q_122_10, q_122_11, q_122_14, q_122_15, q_122_17, q_122_18, q_122_22, q_122_23, q_122_26, q_122_28, q_122_31, q_122_32, q_122_35, q_122_36, q_122_37, q_122_40, q_122_41, q_122_44, q_122_46, q_122_49, q_122_50, q_122_53, q_122_55, q_122_56, q_122_57, q_122_59, q_122_60, q_122_61, q_122_63, q_122_64, q_122_65, q_122_67, q_122_68, q_122_71, q_122_74, q_122_76, q_122_77, q_122_80, q_122_82, q_122_83, q_122_86, q_122_89, q_122_92, q_122_94, vinT, iClamp, clr_i, clr_l, clr_r, clr_n, true_and, and_true, or_true, true_or, false_or, or_false, iLe, iLt, iEq, iAdd, iMul, List.cons_append, List.nil_append, List.append_nil, zb0, zb1, if_true, if_false, not_true_eq_false, not_false_eq_true, Bool.false_eq_true, Nat.one_ne_zero, Nat.zero_ne_one, Nat.reduceEqDiff, Nat.reduceAdd, if_pos, if_neg, m127, m128k, m128n, m129k, m129n, m130k, m130n, m131k, m131n, m132k, m132n, m133k, m133n, m134k, m134n, m135k, m135n, m136k, m136n, m137k, m137n, m138k, m138n, m139k, m139n, m140k, m140n, m141k, m141n, m142k, m142n, m143k, m143n, m144k, m144n, m145k, m145n, m146k, m146n, m5 p hp, hv, s_isGiftM ok h hL hp hx (Or.inl rfl), b2_f c]
      rw [ih (j + 1) n _ (by omega)]
theorem giF_congr {f f' : Nat → Bool} {g g' : Nat → Int32} {i : Int32} : ∀ m j n, (∀ k, j ≤ k → k < j + m → f k = f' k ∧ (f k = true → g k = g' k)) → giF f g i j m n = giF f' g' i j m n
  | 0, j, n, _ => rfl
  | m + 1, j, n, h => by
    obtain ⟨h1, h2⟩ := h j (by omega) (by omega)
    rw [giF, giF, ← h1, giF_congr m (j + 1) (n + 1) (fun k a b => h k (by omega) (by omega)), giF_congr m (j + 1) n (fun k a b => h k (by omega) (by omega))]
    by_cases c : f j = true
    · rw [if_pos c, if_pos c, h2 c]
    · rw [if_neg c, if_neg c]
theorem giF_none {f : Nat → Bool} {g : Nat → Int32} {i : Int32} : ∀ m j n, (∀ k, j ≤ k → k < j + m → f k = false) → giF f g i j m n = -9
  | 0, j, n, _ => rfl
  | m + 1, j, n, h => by
    rw [giF, if_neg (by rw [h j (by omega) (by omega)]; simp), giF_none m (j + 1) n (fun k a b => h k (by omega) (by omega))]
theorem giF_cut {f : Nat → Bool} {g : Nat → Int32} {i : Int32} : ∀ m j n r, (∀ k, j + m ≤ k → k < j + m + r → f k = false) → giF f g i j (m + r) n = giF f g i j m n
  | 0, j, n, r, h => by rw [Nat.zero_add, giF_none r j n (fun k a b => h k (by omega) (by omega)), giF]
  | m + 1, j, n, r, h => by
    rw [show m + 1 + r = (m + r) + 1 by omega, giF, giF, giF_cut m (j + 1) (n + 1) r (fun k a b => h k (by omega) (by omega)), giF_cut m (j + 1) n r (fun k a b => h k (by omega) (by omega))]
theorem m_Gi {X : Nat × (Nat → Int32)} {σ : Mem} {a : AS} {x i : Int32} {g : Nat} {w0 w1 w2 : Value} (hg : g = 0 ∨ g = 1) (ok : AOK a) (h : MI σ a) : ∃ σ', Ev X 122 [.ref 127, .int x, .int (nI g), .int i, w0, w1, w2] σ [.int (anGi a x i g)] σ' ∧ MI σ' a ∧ Hi σ σ' := by
  by_cases k0 : inR x 8
  · have e0 : b2 (inR x 8) = nI 1 := b2_t k0
    rw [anGi, if_pos k0]
    obtain ⟨p, hp, rfl⟩ := inR_of k0 (by omega)
    rw [tn_nI (by omega)]
    obtain ⟨o1, o2, o3, o4, o5, o6, o7, o8⟩ := ok.1 p hp
    obtain ⟨σ', i1, i2, i3, i4, i5⟩ := s_layM (X := X) (u1 := .null) (u2 := .null) (u3 := .null) (u4 := .null) (u5 := .null) ok h hp
    have i1' := fun Q => i1 Q
    have h' := MI_scr h (i3.mono (by decide))
    refine ⟨σ', fun Q => ?_, h', i3.hi (by simp)⟩
    rcases hg with rfl | rfl
    · have e1 : giF (fnd a p 0) (fun j => if 0 = 1 then nI j else pA (ro a p) (nI j)) i 0 7 0 = giF (fun j => gfB a p 0 ((ro a p).getD j 0)) (fun j => nI ((ro a p).getD j 0)) i 0 (ro a p).length 0 := by
        have e2 := giF_cut (f := fnd a p 0) (g := fun j => if 0 = 1 then nI j else pA (ro a p) (nI j)) (i := i) (ro a p).length 0 0 (7 - (ro a p).length) (fun k h1 h2 => by simp [fnd]; omega)
        rw [show (ro a p).length + (7 - (ro a p).length) = 7 by omega] at e2
        rw [e2]
        refine giF_congr _ _ _ (fun k h1 h2 => ?_)
        have h3 : k < (ro a p).length := by omega
        have h4 := plF_self o8 o6 o7 h3
        have h5 := nI_n9 (p := k) (by omega)
        rw [← h4] at h5
        refine ⟨?_, fun _ => ?_⟩
        · simp only [fnd, gfB, if_neg (show ¬ (0 : Nat) = 1 by omega)]
          simp only [h3, h5, true_and, not_false_eq_true]
        · show (if 0 = 1 then nI k else pA (ro a p) (nI k)) = nI ((ro a p).getD k 0)
          rw [if_neg (show ¬ (0 : Nat) = 1 by omega), pA_in h3 o6]
      rw [e1]
      simp (disch := omega) only [q_122_0, q_122_1, q_122_4, q_122_7, q_122_8, q_122_9, q_122_10, q_122_11, q_122_14, q_122_15, q_122_17, q_122_18, vinT, iClamp, clr_i, clr_l, clr_r, clr_n, true_and, and_true, or_true, true_or, false_or, or_false, iLe, iLt, iEq, iAdd, iMul, List.cons_append, List.nil_append, List.append_nil, zb0, zb1, if_true, if_false, not_true_eq_false, not_false_eq_true, Bool.false_eq_true, Nat.one_ne_zero, Nat.zero_ne_one, Nat.reduceEqDiff, Nat.reduceAdd, if_pos, if_neg, m127, m128k, m128n, m129k, m129n, m130k, m130n, m131k, m131n, m132k, m132n, m133k, m133n, m134k, m134n, m135k, m135n, m136k, m136n, m137k, m137n, m138k, m138n, m139k, m139n, m140k, m140n, m141k, m141n, m142k, m142n, m143k, m143n, m144k, m144n, m145k, m145n, m146k, m146n, s_isPaperM, e0, i1']
      rw [l_giftM0 ok h' i2 hp (ro a p).length 0 0 _ (by omega)]
    · simp (disch := omega) only [q_122_0, q_122_1, q_122_4, q_122_7, q_122_8, q_122_9, q_122_10, q_122_11, q_122_14, q_122_15, q_122_17, q_122_18, vinT, iClamp, clr_i, clr_l, clr_r, clr_n, true_and, and_true, or_true, true_or, false_or, or_false, iLe, iLt, iEq, iAdd, iMul, List.cons_append, List.nil_append, List.append_nil, zb0, zb1, if_true, if_false, not_true_eq_false, not_false_eq_true, Bool.false_eq_true, Nat.one_ne_zero, Nat.zero_ne_one, Nat.reduceEqDiff, Nat.reduceAdd, if_pos, if_neg, m127, m128k, m128n, m129k, m129n, m130k, m130n, m131k, m131n, m132k, m132n, m133k, m133n, m134k, m134n, m135k, m135n, m136k, m136n, m137k, m137n, m138k, m138n, m139k, m139n, m140k, m140n, m141k, m141n, m142k, m142n, m143k, m143n, m144k, m144n, m145k, m145n, m146k, m146n, s_isPaperM, e0, i1']
      rw [l_giftM1 ok h' i2 hp 7 0 0 _ rfl]
      have e1 : giF (gfB a p 1) (fun j => nI j) i 0 7 0 = giF (fnd a p 1) (fun j => if 1 = 1 then nI j else pA (ro a p) (nI j)) i 0 7 0 := giF_congr _ _ _ (fun k h1 h2 => ⟨by simp only [fnd, gfB, if_true], fun _ => by rw [if_pos rfl]⟩)
      rw [e1]
      simp only [if_true]
  · have e0 : b2 (inR x 8) = nI 0 := b2_f k0
    rw [anGi, if_neg k0]
    refine ⟨σ, fun Q => ?_, h, Hi.rf σ⟩
    simp (disch := omega) only [q_122_0, q_122_1, q_122_4, q_122_7, q_122_8, q_122_9, q_122_10, q_122_11, q_122_14, q_122_15, q_122_17, q_122_18, vinT, iClamp, clr_i, clr_l, clr_r, clr_n, true_and, and_true, or_true, true_or, false_or, or_false, iLe, iLt, iEq, iAdd, iMul, List.cons_append, List.nil_append, List.append_nil, zb0, zb1, if_true, if_false, not_true_eq_false, not_false_eq_true, Bool.false_eq_true, Nat.one_ne_zero, Nat.zero_ne_one, Nat.reduceEqDiff, Nat.reduceAdd, if_pos, if_neg, s_isPaperM, e0]
theorem m_Sh {X : Nat × (Nat → Int32)} {σ : Mem} {a : AS} {x q : Int32} {u : Nat} (hu : u = 0 ∨ u = 1) (ok : AOK a) (h : MI σ a) : ∃ σ', Ev X 119 [.ref 127, .int x, .int q, .int (nI u)] σ [.long (anSh a x q u)] σ' ∧ MI σ' a ∧ Hi σ σ' := by
  by_cases cc0 : inR x 8
  · have e0 : b2 (inR x 8) = nI 1 := b2_t cc0
    by_cases cc1 : inR q 7
    · have e1 : b2 (inR q 7) = nI 1 := b2_t cc1
      obtain ⟨p, hp, rfl⟩ := inR_of cc0 (by omega)
      obtain ⟨j, hj, rfl⟩ := inR_of cc1 (by omega)
      have ea : anSh a (nI p) (nI j) u = lN (tI (ptL (wt a p) (hr a p) j 4) (whL (wt a p) (hr a p)) u) := by
        rw [anSh, if_pos cc0, if_pos cc1]
        simp (disch := omega) only [tn_nI]
      rw [ea]
      obtain ⟨m1, m2, m3, m4, m5, m6, m7, m8, m9, m10⟩ := id h
      obtain ⟨σ', i1, i2, i3, i4, i5⟩ := s_layM (X := X) (u1 := .null) (u2 := .null) (u3 := .null) (u4 := .null) (u5 := .null) ok h hp
      have i1' := fun Q => i1 Q
      obtain ⟨z1, z2, z3⟩ := pt_le ok hp hj
      refine ⟨σ', fun Q => ?_, MI_scr h (i3.mono (by decide)), i3.hi (by simp)⟩
      have hls := fun (Q : List Value → Mem → Prop) (v1 v3 w0 w1 : Value) => s_told (X := X) (σ := σ') (Q := Q) (a := ptL (wt a p) (hr a p) j 4) (b := whL (wt a p) (hr a p)) (v1 := v1) (v3 := v3) (w0 := w0) (w1 := w1) (by omega) (by omega) z3 hu
      simp (disch := omega) only [q_119_0, q_119_1, q_119_4, q_119_7, q_119_8, q_119_11, q_119_14, q_119_17, q_119_18, q_119_19, q_119_20, q_119_23, q_119_24, q_119_27, q_119_28, q_119_29, q_119_30, q_119_33, q_119_34, q_119_37, vinT, iClamp, clr_i, clr_l, clr_r, clr_n, true_and, and_true, or_true, true_or, false_or, or_false, iLe, iLt, iEq, iAdd, iMul, List.cons_append, List.nil_append, List.append_nil, zb0, zb1, if_true, if_false, not_true_eq_false, not_false_eq_true, Bool.false_eq_true, Nat.one_ne_zero, Nat.zero_ne_one, Nat.reduceEqDiff, Nat.reduceAdd, if_pos, if_neg, s_isPaperM, s_isPersonM, e0, e1, m127, m128k, m128n, m129k, m129n, m130k, m130n, m131k, m131n, m132k, m132n, m133k, m133n, m134k, m134n, m135k, m135n, m136k, m136n, m137k, m137n, m138k, m138n, m139k, m139n, m140k, m140n, m141k, m141n, m142k, m142n, m143k, m143n, m144k, m144n, m145k, m145n, m146k, m146n, i1', i2.2 j hj, i2.1, hls]
    · have e1 : b2 (inR q 7) = nI 0 := b2_f cc1
      refine ⟨σ, fun Q => ?_, h, Hi.rf σ⟩
      rw [anSh, if_pos cc0, if_neg cc1]
      simp (disch := omega) only [q_119_0, q_119_1, q_119_4, q_119_7, q_119_8, q_119_11, q_119_14, q_119_17, q_119_18, q_119_19, q_119_20, q_119_23, q_119_24, q_119_27, q_119_28, q_119_29, q_119_30, q_119_33, q_119_34, q_119_37, vinT, iClamp, clr_i, clr_l, clr_r, clr_n, true_and, and_true, or_true, true_or, false_or, or_false, iLe, iLt, iEq, iAdd, iMul, List.cons_append, List.nil_append, List.append_nil, zb0, zb1, if_true, if_false, not_true_eq_false, not_false_eq_true, Bool.false_eq_true, Nat.one_ne_zero, Nat.zero_ne_one, Nat.reduceEqDiff, Nat.reduceAdd, if_pos, if_neg, s_isPaperM, s_isPersonM, e0, e1]
  · have e0 : b2 (inR x 8) = nI 0 := b2_f cc0
    refine ⟨σ, fun Q => ?_, h, Hi.rf σ⟩
    rw [anSh, if_neg cc0]
    simp (disch := omega) only [q_119_0, q_119_1, q_119_4, q_119_7, q_119_8, q_119_11, q_119_14, q_119_17, q_119_18, q_119_19, q_119_20, q_119_23, q_119_24, q_119_27, q_119_28, q_119_29, q_119_30, q_119_33, q_119_34, q_119_37, vinT, iClamp, clr_i, clr_l, clr_r, clr_n, true_and, and_true, or_true, true_or, false_or, or_false, iLe, iLt, iEq, iAdd, iMul, List.cons_append, List.nil_append, List.append_nil, zb0, zb1, if_true, if_false, not_true_eq_false, not_false_eq_true, Bool.false_eq_true, Nat.one_ne_zero, Nat.zero_ne_one, Nat.reduceEqDiff, Nat.reduceAdd, if_pos, if_neg, s_isPaperM, s_isPersonM, e0]
