/-! ===== the reference: orders ===== -/
abbrev ptN (a : AS) (p : Nat) : Nat → Int64 := fun q => lN (ptL (wt a p) (hr a p) q 4)
theorem s_comes {X : Nat × (Nat → Int32)} {σ : Mem} {Q : List Value → Mem → Prop} {a : AS} {p x y b : Nat} (ok : AOK a) (hp : p < 8) (hL : LSh σ a p) (hx : x < 7) (hy : y < 7) (hb : b = 0 ∨ b = 1) : Rn X 124 0 [.ref 127, .int (nI x), .int (nI y), .int (nI b)] [] σ Q ↔ Q [.int (b2 (ah (nmB b (ptN a p)) x y = true))] σ := by
  obtain ⟨z1, z2, z3⟩ := pt_le ok hp hx
  obtain ⟨z4, z5, z6⟩ := pt_le ok hp hy
  have l1 := hL.2 x hx
  have l2 := hL.2 y hy
  rcases hb with rfl | rfl
  · have eN : ∀ q, nmB 0 (ptN a p) q = lN (ptL (wt a p) (hr a p) q 4) := fun q => by simp [nmB]
    have key : ah (nmB 0 (ptN a p)) x y = (decide (ptL (wt a p) (hr a p) y 4 < ptL (wt a p) (hr a p) x 4) || (decide (ptL (wt a p) (hr a p) y 4 = ptL (wt a p) (hr a p) x 4) && decide (x < y))) := by
      rw [ah, eN, eN]
      simp (disch := omega) only [lLt, lEq]
    by_cases c1 : ptL (wt a p) (hr a p) x 4 = ptL (wt a p) (hr a p) y 4
    · by_cases c2 : x < y
      · have e : b2 (ah (nmB 0 (ptN a p)) x y = true) = nI 1 := b2_t (by rw [key]; simp [c1, c2])
        simp (disch := omega) only [q_124_0, q_124_1, q_124_4, q_124_5, q_124_8, q_124_9, q_124_10, q_124_11, q_124_14, q_124_15, q_124_16, q_124_17, q_124_20, q_124_21, q_124_22, q_124_25, q_124_26, q_124_29, q_124_30, q_124_33, q_124_34, q_124_37, q_124_38, q_124_39, q_124_40, q_124_43, q_124_44, q_124_45, q_124_46, q_124_49, q_124_50, q_124_53, q_124_54, vinT, iClamp, clr_i, clr_l, clr_r, clr_n, true_and, and_true, or_true, true_or, false_or, or_false, iLe, iLt, iEq, iAdd, iMul, List.cons_append, List.nil_append, List.append_nil, zb0, zb1, if_true, if_false, not_true_eq_false, not_false_eq_true, Bool.false_eq_true, Nat.one_ne_zero, Nat.zero_ne_one, Nat.reduceEqDiff, Nat.reduceAdd, if_pos, if_neg, m127, m128k, m128n, m129k, m129n, m130k, m130n, m131k, m131n, m132k, m132n, m133k, m133n, m134k, m134n, m135k, m135n, m136k, m136n, m137k, m137n, m138k, m138n, m139k, m139n, m140k, m140n, m141k, m141n, m142k, m142n, m143k, m143n, m144k, m144n, m145k, m145n, m146k, m146n, l1, l2, lc_eq, lEq, e]
      · have e : b2 (ah (nmB 0 (ptN a p)) x y = true) = nI 0 := b2_f (by rw [key]; simp [c1, c2])
        simp (disch := omega) only [q_124_0, q_124_1, q_124_4, q_124_5, q_124_8, q_124_9, q_124_10, q_124_11, q_124_14, q_124_15, q_124_16, q_124_17, q_124_20, q_124_21, q_124_22, q_124_25, q_124_26, q_124_29, q_124_30, q_124_33, q_124_34, q_124_37, q_124_38, q_124_39, q_124_40, q_124_43, q_124_44, q_124_45, q_124_46, q_124_49, q_124_50, q_124_53, q_124_54, vinT, iClamp, clr_i, clr_l, clr_r, clr_n, true_and, and_true, or_true, true_or, false_or, or_false, iLe, iLt, iEq, iAdd, iMul, List.cons_append, List.nil_append, List.append_nil, zb0, zb1, if_true, if_false, not_true_eq_false, not_false_eq_true, Bool.false_eq_true, Nat.one_ne_zero, Nat.zero_ne_one, Nat.reduceEqDiff, Nat.reduceAdd, if_pos, if_neg, m127, m128k, m128n, m129k, m129n, m130k, m130n, m131k, m131n, m132k, m132n, m133k, m133n, m134k, m134n, m135k, m135n, m136k, m136n, m137k, m137n, m138k, m138n, m139k, m139n, m140k, m140n, m141k, m141n, m142k, m142n, m143k, m143n, m144k, m144n, m145k, m145n, m146k, m146n, l1, l2, lc_eq, lEq, e]
    · have c3 : ¬ ptL (wt a p) (hr a p) y 4 = ptL (wt a p) (hr a p) x 4 := fun q => c1 q.symm
      by_cases c2 : ptL (wt a p) (hr a p) y 4 < ptL (wt a p) (hr a p) x 4
      · have e : b2 (ah (nmB 0 (ptN a p)) x y = true) = nI 1 := b2_t (by rw [key]; simp [c2])
        simp (disch := omega) only [q_124_0, q_124_1, q_124_4, q_124_5, q_124_8, q_124_9, q_124_10, q_124_11, q_124_14, q_124_15, q_124_16, q_124_17, q_124_20, q_124_21, q_124_22, q_124_25, q_124_26, q_124_29, q_124_30, q_124_33, q_124_34, q_124_37, q_124_38, q_124_39, q_124_40, q_124_43, q_124_44, q_124_45, q_124_46, q_124_49, q_124_50, q_124_53, q_124_54, vinT, iClamp, clr_i, clr_l, clr_r, clr_n, true_and, and_true, or_true, true_or, false_or, or_false, iLe, iLt, iEq, iAdd, iMul, List.cons_append, List.nil_append, List.append_nil, zb0, zb1, if_true, if_false, not_true_eq_false, not_false_eq_true, Bool.false_eq_true, Nat.one_ne_zero, Nat.zero_ne_one, Nat.reduceEqDiff, Nat.reduceAdd, if_pos, if_neg, m127, m128k, m128n, m129k, m129n, m130k, m130n, m131k, m131n, m132k, m132n, m133k, m133n, m134k, m134n, m135k, m135n, m136k, m136n, m137k, m137n, m138k, m138n, m139k, m139n, m140k, m140n, m141k, m141n, m142k, m142n, m143k, m143n, m144k, m144n, m145k, m145n, m146k, m146n, l1, l2, lc_eq, lEq, lc_le, lLt, e]
      · have e : b2 (ah (nmB 0 (ptN a p)) x y = true) = nI 0 := b2_f (by rw [key]; simp [c3]; omega)
        simp (disch := omega) only [q_124_0, q_124_1, q_124_4, q_124_5, q_124_8, q_124_9, q_124_10, q_124_11, q_124_14, q_124_15, q_124_16, q_124_17, q_124_20, q_124_21, q_124_22, q_124_25, q_124_26, q_124_29, q_124_30, q_124_33, q_124_34, q_124_37, q_124_38, q_124_39, q_124_40, q_124_43, q_124_44, q_124_45, q_124_46, q_124_49, q_124_50, q_124_53, q_124_54, vinT, iClamp, clr_i, clr_l, clr_r, clr_n, true_and, and_true, or_true, true_or, false_or, or_false, iLe, iLt, iEq, iAdd, iMul, List.cons_append, List.nil_append, List.append_nil, zb0, zb1, if_true, if_false, not_true_eq_false, not_false_eq_true, Bool.false_eq_true, Nat.one_ne_zero, Nat.zero_ne_one, Nat.reduceEqDiff, Nat.reduceAdd, if_pos, if_neg, m127, m128k, m128n, m129k, m129n, m130k, m130n, m131k, m131n, m132k, m132n, m133k, m133n, m134k, m134n, m135k, m135n, m136k, m136n, m137k, m137n, m138k, m138n, m139k, m139n, m140k, m140n, m141k, m141n, m142k, m142n, m143k, m143n, m144k, m144n, m145k, m145n, m146k, m146n, l1, l2, lc_eq, lEq, lc_le, lLt, e]
  · have key : ah (nmB 1 (ptN a p)) x y = decide (x < y) := by
      rw [ah]
      simp [nmB]
    by_cases c2 : x < y
    · have e : b2 (ah (nmB 1 (ptN a p)) x y = true) = nI 1 := b2_t (by rw [key]; simp [c2])
      simp (disch := omega) only [q_124_0, q_124_1, q_124_4, q_124_5, q_124_8, q_124_9, q_124_10, q_124_11, q_124_14, q_124_15, q_124_16, q_124_17, q_124_20, q_124_21, q_124_22, q_124_25, q_124_26, q_124_29, q_124_30, q_124_33, q_124_34, q_124_37, q_124_38, q_124_39, q_124_40, q_124_43, q_124_44, q_124_45, q_124_46, q_124_49, q_124_50, q_124_53, q_124_54, vinT, iClamp, clr_i, clr_l, clr_r, clr_n, true_and, and_true, or_true, true_or, false_or, or_false, iLe, iLt, iEq, iAdd, iMul, List.cons_append, List.nil_append, List.append_nil, zb0, zb1, if_true, if_false, not_true_eq_false, not_false_eq_true, Bool.false_eq_true, Nat.one_ne_zero, Nat.zero_ne_one, Nat.reduceEqDiff, Nat.reduceAdd, if_pos, if_neg, m127, m128k, m128n, m129k, m129n, m130k, m130n, m131k, m131n, m132k, m132n, m133k, m133n, m134k, m134n, m135k, m135n, m136k, m136n, m137k, m137n, m138k, m138n, m139k, m139n, m140k, m140n, m141k, m141n, m142k, m142n, m143k, m143n, m144k, m144n, m145k, m145n, m146k, m146n, e]
    · have e : b2 (ah (nmB 1 (ptN a p)) x y = true) = nI 0 := b2_f (by rw [key]; simp [c2])
      simp (disch := omega) only [q_124_0, q_124_1, q_124_4, q_124_5, q_124_8, q_124_9, q_124_10, q_124_11, q_124_14, q_124_15, q_124_16, q_124_17, q_124_20, q_124_21, q_124_22, q_124_25, q_124_26, q_124_29, q_124_30, q_124_33, q_124_34, q_124_37, q_124_38, q_124_39, q_124_40, q_124_43, q_124_44, q_124_45, q_124_46, q_124_49, q_124_50, q_124_53, q_124_54, vinT, iClamp, clr_i, clr_l, clr_r, clr_n, true_and, and_true, or_true, true_or, false_or, or_false, iLe, iLt, iEq, iAdd, iMul, List.cons_append, List.nil_append, List.append_nil, zb0, zb1, if_true, if_false, not_true_eq_false, not_false_eq_true, Bool.false_eq_true, Nat.one_ne_zero, Nat.zero_ne_one, Nat.reduceEqDiff, Nat.reduceAdd, if_pos, if_neg, m127, m128k, m128n, m129k, m129n, m130k, m130n, m131k, m131n, m132k, m132n, m133k, m133n, m134k, m134n, m135k, m135n, m136k, m136n, m137k, m137n, m138k, m138n, m139k, m139n, m140k, m140n, m141k, m141n, m142k, m142n, m143k, m143n, m144k, m144n, m145k, m145n, m146k, m146n, e]
theorem l_sortI {X : Nat × (Nat → Int32)} {a : AS} {p b i x : Nat} (ok : AOK a) (hp : p < 8) (hb : b = 0 ∨ b = 1) (hi : i < 7) (hx : x < 7) : ∀ (A B : List Nat) (σ : Mem), A.length + B.length = i → (∀ y, y ∈ A → y < 7) → LSh σ a p → GI σ 136 A B → ∃ σ' v, (∀ Q, Rn X 125 33 [.ref 127, .int (nI p), .int (nI b), .int (nI i), .int (nI x), .int (nI A.length)] [] σ Q ↔ Rn X 125 7 [.ref 127, .int (nI p), .int (nI b), .int (nI (i + 1)), .int (nI x), v] [] σ' Q) ∧ AI σ' 136 (insA (ah (nmB b (ptN a p)) x) x A B) ∧ Off [136] σ σ' := by
  intro A
  induction A with
  | nil =>
    intro B σ hl hA hL hG
    refine ⟨sI σ 136 0 (nI x), .int (nI 0), fun Q => ?_, GI_put hG, (Off.rf _ σ).sI (by simp) _ _⟩
    rw [q_125_33]
    simp (disch := omega) only [q_125_35, q_125_38, q_125_39, q_125_41, q_125_42, q_125_45, q_125_47, q_125_48, q_125_49, q_125_50, q_125_51, q_125_54, q_125_57, q_125_58, q_125_61, q_125_63, q_125_64, q_125_67, q_125_69, q_125_70, q_125_71, q_125_72, q_125_73, q_125_76, q_125_79, q_125_80, q_125_83, q_125_85, q_125_87, q_125_88, q_125_91, vinT, iClamp, clr_i, clr_l, clr_r, clr_n, true_and, and_true, or_true, true_or, false_or, or_false, iLe, iLt, iEq, iAdd, iMul, List.cons_append, List.nil_append, List.append_nil, zb0, zb1, if_true, if_false, not_true_eq_false, not_false_eq_true, Bool.false_eq_true, Nat.one_ne_zero, Nat.zero_ne_one, Nat.reduceEqDiff, Nat.reduceAdd, if_pos, if_neg, List.length_nil, m127, m128k, m128n, m129k, m129n, m130k, m130n, m131k, m131n, m132k, m132n, m133k, m133n, m134k, m134n, m135k, m135n, m136k, m136n, m137k, m137n, m138k, m138n, m139k, m139n, m140k, m140n, m141k, m141n, m142k, m142n, m143k, m143n, m144k, m144n, m145k, m145n, m146k, m146n]
  | cons y A ih =>
    intro B σ hl hA hL hG
    rw [List.length_cons] at hl
    have h1 := hG.1 A.length (by simp)
    rw [rev_last] at h1
    have hy := hA y (by simp)
    have ho : Off [136] σ (sI σ 136 (A.length + 1) (nI y)) := (Off.rf _ σ).sI (by simp) _ _
    by_cases c : ah (nmB b (ptN a p)) x y = true
    · obtain ⟨σ', v, e1, e2, e3⟩ := ih (y :: B) (sI σ 136 (A.length + 1) (nI y)) (by simp; omega) (fun z hz => hA z (by simp [hz])) (LSh_off hL ho (by simp) (by simp)) (GI_shift hG)
      refine ⟨σ', v, fun Q => ?_, ?_, ho.tr e3⟩
      · rw [q_125_33]
        simp (disch := omega) only [q_125_35, q_125_38, q_125_39, q_125_41, q_125_42, q_125_45, q_125_47, q_125_48, q_125_49, q_125_50, q_125_51, q_125_54, q_125_57, q_125_58, q_125_61, q_125_63, q_125_64, q_125_67, q_125_69, q_125_70, q_125_71, q_125_72, q_125_73, q_125_76, q_125_79, q_125_80, q_125_83, q_125_85, q_125_87, q_125_88, q_125_91, vinT, iClamp, clr_i, clr_l, clr_r, clr_n, true_and, and_true, or_true, true_or, false_or, or_false, iLe, iLt, iEq, iAdd, iMul, List.cons_append, List.nil_append, List.append_nil, zb0, zb1, if_true, if_false, not_true_eq_false, not_false_eq_true, Bool.false_eq_true, Nat.one_ne_zero, Nat.zero_ne_one, Nat.reduceEqDiff, Nat.reduceAdd, if_pos, if_neg, List.length_cons, m127, m128k, m128n, m129k, m129n, m130k, m130n, m131k, m131n, m132k, m132n, m133k, m133n, m134k, m134n, m135k, m135n, m136k, m136n, m137k, m137n, m138k, m138n, m139k, m139n, m140k, m140n, m141k, m141n, m142k, m142n, m143k, m143n, m144k, m144n, m145k, m145n, m146k, m146n, iSub, Nat.add_sub_cancel, h1, s_comes ok hp hL hx hy hb, b2_t c, pk_m1]
        exact e1 Q
      · rw [insA, if_pos c]
        exact e2
    · refine ⟨sI σ 136 (y :: A).length (nI x), .int (nI (y :: A).length), fun Q => ?_, ?_, (Off.rf _ σ).sI (by simp) _ _⟩
      · rw [q_125_33]
        simp (disch := omega) only [q_125_35, q_125_38, q_125_39, q_125_41, q_125_42, q_125_45, q_125_47, q_125_48, q_125_49, q_125_50, q_125_51, q_125_54, q_125_57, q_125_58, q_125_61, q_125_63, q_125_64, q_125_67, q_125_69, q_125_70, q_125_71, q_125_72, q_125_73, q_125_76, q_125_79, q_125_80, q_125_83, q_125_85, q_125_87, q_125_88, q_125_91, vinT, iClamp, clr_i, clr_l, clr_r, clr_n, true_and, and_true, or_true, true_or, false_or, or_false, iLe, iLt, iEq, iAdd, iMul, List.cons_append, List.nil_append, List.append_nil, zb0, zb1, if_true, if_false, not_true_eq_false, not_false_eq_true, Bool.false_eq_true, Nat.one_ne_zero, Nat.zero_ne_one, Nat.reduceEqDiff, Nat.reduceAdd, if_pos, if_neg, List.length_cons, m127, m128k, m128n, m129k, m129n, m130k, m130n, m131k, m131n, m132k, m132n, m133k, m133n, m134k, m134n, m135k, m135n, m136k, m136n, m137k, m137n, m138k, m138n, m139k, m139n, m140k, m140n, m141k, m141n, m142k, m142n, m143k, m143n, m144k, m144n, m145k, m145n, m146k, m146n, iSub, Nat.add_sub_cancel, h1, s_comes ok hp hL hx hy hb, b2_f c]
      · rw [insA, if_neg c]
        exact GI_put hG
theorem l_sortM {X : Nat × (Nat → Int32)} {a : AS} {p b : Nat} (ok : AOK a) (hp : p < 8) (hb : b = 0 ∨ b = 1) : ∀ (r d : List Nat) (σ : Mem) (v w : Value), ro a p = d ++ r → MI σ a → LSh σ a p → AI σ 136 (srt (nmB b (ptN a p)) d) → ∃ σ', (∀ Q, Rn X 125 7 [.ref 127, .int (nI p), .int (nI b), .int (nI d.length), v, w] [] σ Q ↔ Q [] σ') ∧ AI σ' 136 (srt (nmB b (ptN a p)) (ro a p)) ∧ Off [136] σ σ' := by
  obtain ⟨o1, o2, o3, o4, o5, o6, o7, o8⟩ := ok.1 p hp
  intro r
  induction r with
  | nil =>
    intro d σ v w e h hL hs
    obtain ⟨m1, m2, m3, m4, m5, m6, m7, m8, m9, m10⟩ := id h
    rw [List.append_nil] at e
    rw [e]
    refine ⟨σ, fun Q => ?_, hs, Off.rf _ _⟩
    rw [q_125_7]
    have q5 := m5 p hp
    rw [e] at q5 o6
    simp (disch := omega) only [q_125_8, q_125_9, q_125_12, q_125_13, q_125_14, q_125_17, q_125_18, q_125_21, q_125_23, q_125_24, q_125_25, q_125_26, q_125_27, q_125_28, q_125_30, q_125_31, q_125_35, q_125_38, q_125_39, q_125_41, q_125_42, q_125_45, q_125_47, q_125_48, q_125_49, q_125_50, q_125_51, q_125_54, q_125_57, q_125_58, q_125_61, q_125_63, q_125_64, q_125_67, q_125_69, q_125_70, q_125_71, q_125_72, q_125_73, q_125_76, q_125_79, q_125_80, q_125_83, q_125_85, q_125_87, q_125_88, q_125_91, q_125_94, vinT, iClamp, clr_i, clr_l, clr_r, clr_n, true_and, and_true, or_true, true_or, false_or, or_false, iLe, iLt, iEq, iAdd, iMul, List.cons_append, List.nil_append, List.append_nil, zb0, zb1, if_true, if_false, not_true_eq_false, not_false_eq_true, Bool.false_eq_true, Nat.one_ne_zero, Nat.zero_ne_one, Nat.reduceEqDiff, Nat.reduceAdd, if_pos, if_neg, m127, m128k, m128n, m129k, m129n, m130k, m130n, m131k, m131n, m132k, m132n, m133k, m133n, m134k, m134n, m135k, m135n, m136k, m136n, m137k, m137n, m138k, m138n, m139k, m139n, m140k, m140n, m141k, m141n, m142k, m142n, m143k, m143n, m144k, m144n, m145k, m145n, m146k, m146n, q5]
  | cons x r ih =>
    intro d σ v w e h hL hs
    obtain ⟨m1, m2, m3, m4, m5, m6, m7, m8, m9, m10⟩ := id h
    have hd : d.length < (ro a p).length := by rw [e]; simp
    have hx : (ro a p).getD d.length 0 = x := by rw [e, gD_r (Nat.le_refl _), Nat.sub_self]; rfl
    have hx7 := o7 d.length hd
    have q6 := m6 p hp d.length hd
    rw [hx] at hx7 q6
    have hmem : ∀ y, y ∈ d → y < 7 := fun y hy => row_lt o7 y (by rw [e]; simp [hy])
    obtain ⟨σ1, v1, e1, e2, e3⟩ := l_sortI (X := X) ok hp hb (show d.length < 7 by omega) hx7 (srt (nmB b (ptN a p)) d).reverse [] σ (by simp [srt_len]) (fun y hy => hmem y ((srt_perm _ _).mem_iff.mp (by simpa using hy))) hL (GI_of hs)
    have e2' : AI σ1 136 (srt (nmB b (ptN a p)) (d ++ [x])) := by rw [srt_snoc]; exact e2
    obtain ⟨σ', i1, i2, i3⟩ := ih (d ++ [x]) σ1 (.int (nI x)) v1 (by simp [e]) (MI_scr h (e3.mono (by decide))) (LSh_off hL e3 (by simp) (by simp)) e2'
    refine ⟨σ', fun Q => ?_, i2, e3.tr i3⟩
    rw [q_125_7]
    have i1' := i1 Q
    rw [List.length_append, List.length_cons, List.length_nil, Nat.zero_add] at i1'
    have e1' := e1 Q
    rw [List.length_reverse, srt_len] at e1'
    simp (disch := omega) only [q_125_8, q_125_9, q_125_12, q_125_13, q_125_14, q_125_17, q_125_18, q_125_21, q_125_23, q_125_24, q_125_25, q_125_26, q_125_27, q_125_28, q_125_30, q_125_31, vinT, iClamp, clr_i, clr_l, clr_r, clr_n, true_and, and_true, or_true, true_or, false_or, or_false, iLe, iLt, iEq, iAdd, iMul, List.cons_append, List.nil_append, List.append_nil, zb0, zb1, if_true, if_false, not_true_eq_false, not_false_eq_true, Bool.false_eq_true, Nat.one_ne_zero, Nat.zero_ne_one, Nat.reduceEqDiff, Nat.reduceAdd, if_pos, if_neg, m127, m128k, m128n, m129k, m129n, m130k, m130n, m131k, m131n, m132k, m132n, m133k, m133n, m134k, m134n, m135k, m135n, m136k, m136n, m137k, m137n, m138k, m138n, m139k, m139n, m140k, m140n, m141k, m141n, m142k, m142n, m143k, m143n, m144k, m144n, m145k, m145n, m146k, m146n, m5 p hp, q6]
    rw [e1']
    exact i1'
theorem s_sortM {X : Nat × (Nat → Int32)} {σ : Mem} {a : AS} {p b : Nat} {u1 u2 u3 : Value} (ok : AOK a) (h : MI σ a) (hp : p < 8) (hb : b = 0 ∨ b = 1) : ∃ σ', Ev X 125 [.ref 127, .int (nI p), .int (nI b), u1, u2, u3] σ [] σ' ∧ AI σ' 136 (srt (nmB b (ptN a p)) (ro a p)) ∧ LSh σ' a p ∧ Off [127, 134, 136] σ σ' ∧ (∀ j, j ≠ 7 → σ'.2 127 j = σ.2 127 j) ∧ σ'.1 127 = σ.1 127 := by
  obtain ⟨σ1, e1, e2, e3, e4, e5⟩ := s_layM (X := X) (u1 := .null) (u2 := .null) (u3 := .null) (u4 := .null) (u5 := .null) ok h hp
  have e1' := fun Q => e1 Q
  obtain ⟨σ', i1, i2, i3⟩ := l_sortM (X := X) ok hp hb (ro a p) [] σ1 u2 u3 rfl (MI_scr h (e3.mono (by decide))) e2 (fun j hj => by simp [srt] at hj)
  refine ⟨σ', fun Q => ?_, i2, LSh_off e2 i3 (by simp) (by simp), (e3.mono (by simp)).tr (i3.mono (by simp)), fun j hj => by rw [(i3 127 (by simp)).2]; exact e4 j hj, by rw [(i3 127 (by simp)).1, e5]⟩
  simp (disch := omega) only [q_125_0, q_125_1, q_125_2, q_125_5, q_125_6, vinT, iClamp, clr_i, clr_l, clr_r, clr_n, true_and, and_true, or_true, true_or, false_or, or_false, iLe, iLt, iEq, iAdd, iMul, List.cons_append, List.nil_append, List.append_nil, zb0, zb1, if_true, if_false, not_true_eq_false, not_false_eq_true, Bool.false_eq_true, Nat.one_ne_zero, Nat.zero_ne_one, Nat.reduceEqDiff, Nat.reduceAdd, if_pos, if_neg, m127, m128k, m128n, m129k, m129n, m130k, m130n, m131k, m131n, m132k, m132n, m133k, m133n, m134k, m134n, m135k, m135n, m136k, m136n, m137k, m137n, m138k, m138n, m139k, m139n, m140k, m140n, m141k, m141n, m142k, m142n, m143k, m143n, m144k, m144n, m145k, m145n, m146k, m146n, e1']
  exact i1 Q
/-! from both ends -/
abbrev enD (a : AS) (p c : Nat) (s : List Nat) (i : Nat) : Prop := if c = 2 then nI (s.getD i 0) = rm a (tr a p) else (c = 3 ∧ i % 2 = 1)
theorem l_dueM {X : Nat × (Nat → Int32)} {a : AS} {p c n : Nat} {s : List Nat} (ok : AOK a) (hp : p < 8) (hc : c < 4) (hn : n ≤ 7) (hs : s.length = n) (pos F L : Nat → Nat) (hend : ∀ i, i < n → enD a p c s i → pos i + 1 = L i ∧ L (i + 1) = pos i ∧ F (i + 1) = F i) (hnot : ∀ i, i < n → ¬ enD a p c s i → pos i = F i ∧ F (i + 1) = F i + 1 ∧ L (i + 1) = L i) (hpos : ∀ i, i < n → pos i < 7) (hinj : ∀ i j, i < n → j < n → i ≠ j → pos i ≠ pos j) : ∀ m i (σ : Mem) (v7 v8 : Value), i + m = n → MI σ a → AI σ 136 s → ∃ σ', (∀ Q, Rn X 126 33 [.ref 127, .int (nI p), .int (nI c), .int (nI n), .int (nI (F i)), .int (nI (L i) + (-1)), .int (nI i), v7, v8] [] σ Q ↔ Q [] σ') ∧ (∀ j, i ≤ j → j < n → σ'.1 137 (pos j) = nI (s.getD j 0)) ∧ (∀ j, j < i → σ'.1 137 (pos j) = σ.1 137 (pos j)) ∧ Off [137] σ σ' := by
  intro m
  induction m with
  | zero =>
    intro i σ v7 v8 hi h hA
    refine ⟨σ, fun Q => ?_, fun j h1 h2 => absurd h2 (by omega), fun _ _ => rfl, Off.rf _ _⟩
    rw [q_126_33]
    simp (disch := omega) only [q_126_35, q_126_36, q_126_39, q_126_40, q_126_43, q_126_45, q_126_46, q_126_48, q_126_49, q_126_50, q_126_53, q_126_55, q_126_56, q_126_59, q_126_60, q_126_63, q_126_64, q_126_65, q_126_66, q_126_69, q_126_70, q_126_73, q_126_74, q_126_77, q_126_78, q_126_79, q_126_82, q_126_84, q_126_85, q_126_86, q_126_87, q_126_90, q_126_91, q_126_94, q_126_95, q_126_97, q_126_99, q_126_102, q_126_103, q_126_106, q_126_108, q_126_110, q_126_111, q_126_114, q_126_117, q_126_118, q_126_121, q_126_123, q_126_125, q_126_126, q_126_129, q_126_132, q_126_135, vinT, iClamp, clr_i, clr_l, clr_r, clr_n, true_and, and_true, or_true, true_or, false_or, or_false, iLe, iLt, iEq, iAdd, iMul, List.cons_append, List.nil_append, List.append_nil, zb0, zb1, if_true, if_false, not_true_eq_false, not_false_eq_true, Bool.false_eq_true, Nat.one_ne_zero, Nat.zero_ne_one, Nat.reduceEqDiff, Nat.reduceAdd, if_pos, if_neg]
  | succ m ih =>
    intro i σ v7 v8 hi h hA
    obtain ⟨m1, m2, m3, m4, m5, m6, m7, m8, m9, m10⟩ := id h
    have hv := hA i (by omega)
    have hp7 := hpos i (by omega)
    have htr := (ok.1 p hp).1
    have q1 := m1 p hp
    have q7 := m7 (tr a p) htr
    have ho : Off [137] σ (sI σ 137 (pos i) (nI (s.getD i 0))) := (Off.rf _ σ).sI (by simp) _ _
    obtain ⟨σ', i1, i2, i3, i4⟩ := ih (i + 1) (sI σ 137 (pos i) (nI (s.getD i 0))) (.int (nI (s.getD i 0))) (.int (b2 (enD a p c s i))) (by omega) (MI_scr h (ho.mono (by decide))) (AI_off hA ho (by simp))
    refine ⟨σ', fun Q => ?_, fun j h1 h2 => ?_, fun j hj => ?_, ho.tr i4⟩
    · rw [q_126_33]
      have i1' := i1 Q
      by_cases ce : enD a p c s i
      · obtain ⟨g1, g2, g3⟩ := hend i (by omega) ce
        rw [b2_t ce, g2, g3] at i1'
        rw [← g1]
        have cc : c = 2 ∨ c = 3 := by
          by_cases c2 : c = 2
          · exact Or.inl c2
          · simp only [enD, if_neg c2] at ce
            exact Or.inr ce.1
        rcases cc with rfl | rfl
        · have ce' : nI (s.getD i 0) = rm a (tr a p) := by simpa only [enD, if_true] using ce
          have q7' := q7
          rw [← ce'] at q7'
          simp (disch := omega) only [q_126_35, q_126_36, q_126_39, q_126_40, q_126_43, q_126_45, q_126_46, q_126_48, q_126_49, q_126_50, q_126_53, q_126_55, q_126_56, q_126_59, q_126_60, q_126_63, q_126_64, q_126_65, q_126_66, q_126_69, q_126_70, q_126_73, q_126_74, q_126_77, q_126_78, q_126_79, q_126_82, q_126_84, q_126_85, q_126_86, q_126_87, q_126_90, q_126_91, q_126_94, q_126_95, q_126_97, q_126_99, q_126_102, q_126_103, q_126_106, q_126_108, q_126_110, q_126_111, q_126_114, q_126_117, q_126_118, q_126_121, q_126_123, q_126_125, q_126_126, q_126_129, q_126_132, q_126_135, vinT, iClamp, clr_i, clr_l, clr_r, clr_n, true_and, and_true, or_true, true_or, false_or, or_false, iLe, iLt, iEq, iAdd, iMul, List.cons_append, List.nil_append, List.append_nil, zb0, zb1, if_true, if_false, not_true_eq_false, not_false_eq_true, Bool.false_eq_true, Nat.one_ne_zero, Nat.zero_ne_one, Nat.reduceEqDiff, Nat.reduceAdd, if_pos, if_neg, m127, m128k, m128n, m129k, m129n, m130k, m130n, m131k, m131n, m132k, m132n, m133k, m133n, m134k, m134n, m135k, m135n, m136k, m136n, m137k, m137n, m138k, m138n, m139k, m139n, m140k, m140n, m141k, m141n, m142k, m142n, m143k, m143n, m144k, m144n, m145k, m145n, m146k, m146n, hv, q1, q7', pk_m1]
          exact i1'
        · have ce' : i % 2 = 1 := by
            simp only [enD, if_neg (show ¬ (3 : Nat) = 2 by omega)] at ce
            exact ce.2
          simp (disch := omega) only [q_126_35, q_126_36, q_126_39, q_126_40, q_126_43, q_126_45, q_126_46, q_126_48, q_126_49, q_126_50, q_126_53, q_126_55, q_126_56, q_126_59, q_126_60, q_126_63, q_126_64, q_126_65, q_126_66, q_126_69, q_126_70, q_126_73, q_126_74, q_126_77, q_126_78, q_126_79, q_126_82, q_126_84, q_126_85, q_126_86, q_126_87, q_126_90, q_126_91, q_126_94, q_126_95, q_126_97, q_126_99, q_126_102, q_126_103, q_126_106, q_126_108, q_126_110, q_126_111, q_126_114, q_126_117, q_126_118, q_126_121, q_126_123, q_126_125, q_126_126, q_126_129, q_126_132, q_126_135, vinT, iClamp, clr_i, clr_l, clr_r, clr_n, true_and, and_true, or_true, true_or, false_or, or_false, iLe, iLt, iEq, iAdd, iMul, List.cons_append, List.nil_append, List.append_nil, zb0, zb1, if_true, if_false, not_true_eq_false, not_false_eq_true, Bool.false_eq_true, Nat.one_ne_zero, Nat.zero_ne_one, Nat.reduceEqDiff, Nat.reduceAdd, if_pos, if_neg, m127, m128k, m128n, m129k, m129n, m130k, m130n, m131k, m131n, m132k, m132n, m133k, m133n, m134k, m134n, m135k, m135n, m136k, m136n, m137k, m137n, m138k, m138n, m139k, m139n, m140k, m140n, m141k, m141n, m142k, m142n, m143k, m143n, m144k, m144n, m145k, m145n, m146k, m146n, hv, iDiv2, iSub, pk_m1]
          exact i1'
      · obtain ⟨g1, g2, g3⟩ := hnot i (by omega) ce
        rw [b2_f ce, g2, g3, g1] at i1'
        have cc : c = 0 ∨ c = 1 ∨ c = 2 ∨ c = 3 := by omega
        have hp7' : F i < 7 := by omega
        rcases cc with rfl | rfl | rfl | rfl
        · simp (disch := omega) only [q_126_35, q_126_36, q_126_39, q_126_40, q_126_43, q_126_45, q_126_46, q_126_48, q_126_49, q_126_50, q_126_53, q_126_55, q_126_56, q_126_59, q_126_60, q_126_63, q_126_64, q_126_65, q_126_66, q_126_69, q_126_70, q_126_73, q_126_74, q_126_77, q_126_78, q_126_79, q_126_82, q_126_84, q_126_85, q_126_86, q_126_87, q_126_90, q_126_91, q_126_94, q_126_95, q_126_97, q_126_99, q_126_102, q_126_103, q_126_106, q_126_108, q_126_110, q_126_111, q_126_114, q_126_117, q_126_118, q_126_121, q_126_123, q_126_125, q_126_126, q_126_129, q_126_132, q_126_135, vinT, iClamp, clr_i, clr_l, clr_r, clr_n, true_and, and_true, or_true, true_or, false_or, or_false, iLe, iLt, iEq, iAdd, iMul, List.cons_append, List.nil_append, List.append_nil, zb0, zb1, if_true, if_false, not_true_eq_false, not_false_eq_true, Bool.false_eq_true, Nat.one_ne_zero, Nat.zero_ne_one, Nat.reduceEqDiff, Nat.reduceAdd, if_pos, if_neg, m127, m128k, m128n, m129k, m129n, m130k, m130n, m131k, m131n, m132k, m132n, m133k, m133n, m134k, m134n, m135k, m135n, m136k, m136n, m137k, m137n, m138k, m138n, m139k, m139n, m140k, m140n, m141k, m141n, m142k, m142n, m143k, m143n, m144k, m144n, m145k, m145n, m146k, m146n, hv]
          exact i1'
        · simp (disch := omega) only [q_126_35, q_126_36, q_126_39, q_126_40, q_126_43, q_126_45, q_126_46, q_126_48, q_126_49, q_126_50, q_126_53, q_126_55, q_126_56, q_126_59, q_126_60, q_126_63, q_126_64, q_126_65, q_126_66, q_126_69, q_126_70, q_126_73, q_126_74, q_126_77, q_126_78, q_126_79, q_126_82, q_126_84, q_126_85, q_126_86, q_126_87, q_126_90, q_126_91, q_126_94, q_126_95, q_126_97, q_126_99, q_126_102, q_126_103, q_126_106, q_126_108, q_126_110, q_126_111, q_126_114, q_126_117, q_126_118, q_126_121, q_126_123, q_126_125, q_126_126, q_126_129, q_126_132, q_126_135, vinT, iClamp, clr_i, clr_l, clr_r, clr_n, true_and, and_true, or_true, true_or, false_or, or_false, iLe, iLt, iEq, iAdd, iMul, List.cons_append, List.nil_append, List.append_nil, zb0, zb1, if_true, if_false, not_true_eq_false, not_false_eq_true, Bool.false_eq_true, Nat.one_ne_zero, Nat.zero_ne_one, Nat.reduceEqDiff, Nat.reduceAdd, if_pos, if_neg, m127, m128k, m128n, m129k, m129n, m130k, m130n, m131k, m131n, m132k, m132n, m133k, m133n, m134k, m134n, m135k, m135n, m136k, m136n, m137k, m137n, m138k, m138n, m139k, m139n, m140k, m140n, m141k, m141n, m142k, m142n, m143k, m143n, m144k, m144n, m145k, m145n, m146k, m146n, hv]
          exact i1'
        · have ce' : ¬ nI (s.getD i 0) = rm a (tr a p) := by simpa only [enD, if_true] using ce
          simp (disch := omega) only [q_126_35, q_126_36, q_126_39, q_126_40, q_126_43, q_126_45, q_126_46, q_126_48, q_126_49, q_126_50, q_126_53, q_126_55, q_126_56, q_126_59, q_126_60, q_126_63, q_126_64, q_126_65, q_126_66, q_126_69, q_126_70, q_126_73, q_126_74, q_126_77, q_126_78, q_126_79, q_126_82, q_126_84, q_126_85, q_126_86, q_126_87, q_126_90, q_126_91, q_126_94, q_126_95, q_126_97, q_126_99, q_126_102, q_126_103, q_126_106, q_126_108, q_126_110, q_126_111, q_126_114, q_126_117, q_126_118, q_126_121, q_126_123, q_126_125, q_126_126, q_126_129, q_126_132, q_126_135, vinT, iClamp, clr_i, clr_l, clr_r, clr_n, true_and, and_true, or_true, true_or, false_or, or_false, iLe, iLt, iEq, iAdd, iMul, List.cons_append, List.nil_append, List.append_nil, zb0, zb1, if_true, if_false, not_true_eq_false, not_false_eq_true, Bool.false_eq_true, Nat.one_ne_zero, Nat.zero_ne_one, Nat.reduceEqDiff, Nat.reduceAdd, if_pos, if_neg, m127, m128k, m128n, m129k, m129n, m130k, m130n, m131k, m131n, m132k, m132n, m133k, m133n, m134k, m134n, m135k, m135n, m136k, m136n, m137k, m137n, m138k, m138n, m139k, m139n, m140k, m140n, m141k, m141n, m142k, m142n, m143k, m143n, m144k, m144n, m145k, m145n, m146k, m146n, hv, q1, q7, ce']
          exact i1'
        · have ce' : ¬ i % 2 = 1 := by
            simp only [enD, if_neg (show ¬ (3 : Nat) = 2 by omega)] at ce
            exact fun q => ce ⟨trivial, q⟩
          simp (disch := omega) only [q_126_35, q_126_36, q_126_39, q_126_40, q_126_43, q_126_45, q_126_46, q_126_48, q_126_49, q_126_50, q_126_53, q_126_55, q_126_56, q_126_59, q_126_60, q_126_63, q_126_64, q_126_65, q_126_66, q_126_69, q_126_70, q_126_73, q_126_74, q_126_77, q_126_78, q_126_79, q_126_82, q_126_84, q_126_85, q_126_86, q_126_87, q_126_90, q_126_91, q_126_94, q_126_95, q_126_97, q_126_99, q_126_102, q_126_103, q_126_106, q_126_108, q_126_110, q_126_111, q_126_114, q_126_117, q_126_118, q_126_121, q_126_123, q_126_125, q_126_126, q_126_129, q_126_132, q_126_135, vinT, iClamp, clr_i, clr_l, clr_r, clr_n, true_and, and_true, or_true, true_or, false_or, or_false, iLe, iLt, iEq, iAdd, iMul, List.cons_append, List.nil_append, List.append_nil, zb0, zb1, if_true, if_false, not_true_eq_false, not_false_eq_true, Bool.false_eq_true, Nat.one_ne_zero, Nat.zero_ne_one, Nat.reduceEqDiff, Nat.reduceAdd, if_pos, if_neg, m127, m128k, m128n, m129k, m129n, m130k, m130n, m131k, m131n, m132k, m132n, m133k, m133n, m134k, m134n, m135k, m135n, m136k, m136n, m137k, m137n, m138k, m138n, m139k, m139n, m140k, m140n, m141k, m141n, m142k, m142n, m143k, m143n, m144k, m144n, m145k, m145n, m146k, m146n, hv, iDiv2, iSub]
          exact i1'
    · by_cases e : j = i
      · subst e
        rw [i3 j (by omega), sI_at]
      · exact i2 j (by omega) h2
    · rw [i3 j (by omega), sI_off]
      right
      exact hinj j i (by omega) (by omega) (by omega)
theorem nI_m1 (n : Nat) : nI n - nI 1 = nI n + (-1) := by
  rw [Int32.sub_eq_add_neg]
  rfl
/-- the general case: the list t has at pos j what s has at j -/
theorem s_dueG {X : Nat × (Nat → Int32)} {σ : Mem} {a : AS} {p c : Nat} {t : List Nat} {u1 u2 u3 u4 u5 u6 : Value} (ok : AOK a) (h : MI σ a) (hp : p < 8) (hc : c < 4) (pos F L : Nat → Nat) (hF : F 0 = 0) (hL : L 0 = (ro a p).length) (hend : ∀ i, i < (ro a p).length → enD a p c (srt (nmB (if c = 1 then 1 else 0) (ptN a p)) (ro a p)) i → pos i + 1 = L i ∧ L (i + 1) = pos i ∧ F (i + 1) = F i) (hnot : ∀ i, i < (ro a p).length → ¬ enD a p c (srt (nmB (if c = 1 then 1 else 0) (ptN a p)) (ro a p)) i → pos i = F i ∧ F (i + 1) = F i + 1 ∧ L (i + 1) = L i) (hpos : ∀ i, i < (ro a p).length → pos i < 7) (hinj : ∀ i j, i < (ro a p).length → j < (ro a p).length → i ≠ j → pos i ≠ pos j) (ht : t.length = (ro a p).length) (hsur : ∀ m, m < (ro a p).length → ∃ j, j < (ro a p).length ∧ pos j = m ∧ t.getD m 0 = (srt (nmB (if c = 1 then 1 else 0) (ptN a p)) (ro a p)).getD j 0) : ∃ σ', Ev X 126 [.ref 127, .int (nI p), .int (nI c), u1, u2, u3, u4, u5, u6] σ [] σ' ∧ AI σ' 137 t ∧ Off [127, 134, 136, 137] σ σ' ∧ (∀ j, j ≠ 7 → σ'.2 127 j = σ.2 127 j) ∧ σ'.1 127 = σ.1 127 := by
  obtain ⟨o1, o2, o3, o4, o5, o6, o7, o8⟩ := ok.1 p hp
  have m5 := h.2.2.2.2.1 p hp
  obtain ⟨σ1, e1, e2, e3, e4, e5, e6⟩ := s_sortM (X := X) (u1 := .null) (u2 := .null) (u3 := .null) (b := if c = 1 then 1 else 0) ok h hp (by split <;> simp)
  have e1' := fun Q => e1 Q
  have m5' : σ1.1 132 p = nI (ro a p).length := by rw [(e4 132 (by simp)).1]; exact m5
  obtain ⟨σ', i1, i2, i3, i4⟩ := l_dueM (X := X) ok hp hc o6 (srt_len _ _) pos F L hend hnot hpos hinj (ro a p).length 0 σ1 u5 u6 (by omega) (MI_scr h (e4.mono (by decide))) e2
  rw [hF, hL, ← nI_m1] at i1
  refine ⟨σ', fun Q => ?_, fun m hm => ?_, (e4.mono (by simp)).tr (i4.mono (by simp)), fun j hj => by rw [(i4 127 (by simp)).2]; exact e5 j hj, by rw [(i4 127 (by simp)).1]; exact e6⟩
  · by_cases c1 : c = 1
    · subst c1
      simp only [if_true] at e1'
      simp (disch := omega) only [q_126_0, q_126_1, q_126_2, q_126_3, q_126_4, q_126_7, q_126_8, q_126_11, q_126_12, q_126_15, q_126_16, q_126_19, q_126_20, q_126_21, q_126_22, q_126_23, q_126_25, q_126_26, q_126_27, q_126_28, q_126_30, q_126_31, vinT, iClamp, clr_i, clr_l, clr_r, clr_n, true_and, and_true, or_true, true_or, false_or, or_false, iLe, iLt, iEq, iAdd, iMul, List.cons_append, List.nil_append, List.append_nil, zb0, zb1, if_true, if_false, not_true_eq_false, not_false_eq_true, Bool.false_eq_true, Nat.one_ne_zero, Nat.zero_ne_one, Nat.reduceEqDiff, Nat.reduceAdd, if_pos, if_neg, m127, m128k, m128n, m129k, m129n, m130k, m130n, m131k, m131n, m132k, m132n, m133k, m133n, m134k, m134n, m135k, m135n, m136k, m136n, m137k, m137n, m138k, m138n, m139k, m139n, m140k, m140n, m141k, m141n, m142k, m142n, m143k, m143n, m144k, m144n, m145k, m145n, m146k, m146n, e1', m5']
      exact i1 Q
    · simp only [if_neg c1] at e1'
      simp (disch := omega) only [q_126_0, q_126_1, q_126_2, q_126_3, q_126_4, q_126_7, q_126_8, q_126_11, q_126_12, q_126_15, q_126_16, q_126_19, q_126_20, q_126_21, q_126_22, q_126_23, q_126_25, q_126_26, q_126_27, q_126_28, q_126_30, q_126_31, vinT, iClamp, clr_i, clr_l, clr_r, clr_n, true_and, and_true, or_true, true_or, false_or, or_false, iLe, iLt, iEq, iAdd, iMul, List.cons_append, List.nil_append, List.append_nil, zb0, zb1, if_true, if_false, not_true_eq_false, not_false_eq_true, Bool.false_eq_true, Nat.one_ne_zero, Nat.zero_ne_one, Nat.reduceEqDiff, Nat.reduceAdd, if_pos, if_neg, m127, m128k, m128n, m129k, m129n, m130k, m130n, m131k, m131n, m132k, m132n, m133k, m133n, m134k, m134n, m135k, m135n, m136k, m136n, m137k, m137n, m138k, m138n, m139k, m139n, m140k, m140n, m141k, m141n, m142k, m142n, m143k, m143n, m144k, m144n, m145k, m145n, m146k, m146n, e1', m5']
      exact i1 Q
  · obtain ⟨j, h1, h2, h3⟩ := hsur m (by omega)
    rw [h3, ← h2]
    exact i2 j (by omega) h1
theorem spP_inv {n m : Nat} (h : m < n) : ∃ j, j < n ∧ spP n j = m ∧ j = (if 2 * m < n then 2 * m else 2 * (n - 1 - m) + 1) := by
  by_cases c : 2 * m < n
  · exact ⟨2 * m, c, by rw [spP, if_pos (by omega)]; omega, by rw [if_pos c]⟩
  · exact ⟨2 * (n - 1 - m) + 1, by omega, by rw [spP, if_neg (by omega)]; omega, by rw [if_neg c]⟩
theorem s_dueM {X : Nat × (Nat → Int32)} {σ : Mem} {a : AS} {p c : Nat} {u1 u2 u3 u4 u5 u6 : Value} (ok : AOK a) (h : MI σ a) (hp : p < 8) (hc : c < 4) : ∃ σ', Ev X 126 [.ref 127, .int (nI p), .int (nI c), u1, u2, u3, u4, u5, u6] σ [] σ' ∧ AI σ' 137 (arrP a p c) ∧ Off [127, 134, 136, 137] σ σ' ∧ (∀ j, j ≠ 7 → σ'.2 127 j = σ.2 127 j) ∧ σ'.1 127 = σ.1 127 := by
  obtain ⟨o1, o2, o3, o4, o5, o6, o7, o8⟩ := ok.1 p hp
  by_cases c3 : c = 3
  · subst c3
    have en : ∀ i, enD a p 3 (srt (nmB (if 3 = 1 then 1 else 0) (ptN a p)) (ro a p)) i ↔ i % 2 = 1 := fun i => by simp [enD]
    refine s_dueG ok h hp hc (spP (ro a p).length) (fun i => (i + 1) / 2) (fun i => (ro a p).length - i / 2) rfl (by simp) (fun i hi q => ?_) (fun i hi q => ?_) (fun i hi => ?_) (fun i j hi hj q => ?_) ?_ (fun m hm => ?_)
    · rw [en] at q
      rw [spP, if_neg (by omega)]
      show _ = (ro a p).length - i / 2 ∧ (ro a p).length - (i + 1) / 2 = _ ∧ (i + 1 + 1) / 2 = (i + 1) / 2
      omega
    · rw [en] at q
      rw [spP, if_pos (by omega)]
      show i / 2 = (i + 1) / 2 ∧ (i + 1 + 1) / 2 = (i + 1) / 2 + 1 ∧ (ro a p).length - (i + 1) / 2 = (ro a p).length - i / 2
      omega
    · unfold spP; split <;> omega
    · unfold spP; split <;> split <;> omega
    · show (arrL 3 (ptN a p) (rm a (tr a p)) (ro a p)).length = _
      rw [arrL, if_neg (by omega), if_pos rfl, spL_len, srt_len]
    · obtain ⟨j, h1, h2, h3⟩ := spP_inv hm
      refine ⟨j, h1, h2, ?_⟩
      show (arrL 3 (ptN a p) (rm a (tr a p)) (ro a p)).getD m 0 = _
      rw [arrL, if_neg (by omega), if_pos rfl, spL_at (by rw [srt_len]; exact hm), srt_len, ← h3]
      rfl
  · by_cases c2 : c = 2
    · subst c2
      have sl := srt_len (nmB 0 (ptN a p)) (ro a p)
      have nd : (srt (nmB 0 (ptN a p)) (ro a p)).Nodup := (srt_perm _ _).nodup_iff.mpr o8
      have s7 : ∀ j, j < (srt (nmB 0 (ptN a p)) (ro a p)).length → (srt (nmB 0 (ptN a p)) (ro a p)).getD j 0 < 7 := fun j hj => row_lt o7 _ ((srt_perm _ _).mem_iff.mp (gD_mem hj))
      have en : ∀ i, enD a p 2 (srt (nmB (if 2 = 1 then 1 else 0) (ptN a p)) (ro a p)) i ↔ nI ((srt (nmB 0 (ptN a p)) (ro a p)).getD i 0) = rm a (tr a p) := fun i => by simp [enD]
      have eA : arrP a p 2 = mvL (srt (nmB 0 (ptN a p)) (ro a p)) (rm a (tr a p)) := rfl
      have e21 : (srt (nmB (if 2 = 1 then 1 else 0) (ptN a p)) (ro a p)) = srt (nmB 0 (ptN a p)) (ro a p) := rfl
      rcases plF_spec (rF (srt (nmB 0 (ptN a p)) (ro a p))) (rm a (tr a p)) (srt (nmB 0 (ptN a p)) (ro a p)).length 0 with ⟨d1, d2⟩ | ⟨k, d1, d2, d3, d4, d5⟩
      · rw [eA, mvL, if_pos d1]
        refine s_dueG ok h hp hc (fun i => i) (fun i => i) (fun _ => (ro a p).length) rfl rfl (fun i hi q => ?_) (fun i hi q => ⟨rfl, rfl, rfl⟩) (fun i hi => by show i < 7; omega) (fun i j hi hj q => q) sl (fun m hm => ⟨m, hm, rfl, rfl⟩)
        rw [en] at q
        exact absurd q (d2 i (by omega) (by omega))
      · have hk : k < (ro a p).length := by omega
        have only : ∀ i, i < (ro a p).length → (nI ((srt (nmB 0 (ptN a p)) (ro a p)).getD i 0) = rm a (tr a p) ↔ i = k) := fun i hi => by
          constructor
          · intro q
            have e : (srt (nmB 0 (ptN a p)) (ro a p)).getD i 0 = (srt (nmB 0 (ptN a p)) (ro a p)).getD k 0 := (nI_inj7 (by have := s7 i (by omega); omega) (by have := s7 k (by omega); omega)).mp (q.trans d4.symm)
            exact nd_inj nd i k (by omega) (by omega) e
          · intro q
            rw [q]; exact d4
        have hsp := split_at (l := srt (nmB 0 (ptN a p)) (ro a p)) (p := k) (by omega)
        have eM : arrP a p 2 = (srt (nmB 0 (ptN a p)) (ro a p)).take k ++ (srt (nmB 0 (ptN a p)) (ro a p)).drop (k + 1) ++ [(srt (nmB 0 (ptN a p)) (ro a p)).getD k 0] := by
          rw [eA, mvL, d3, if_neg (nI_n9 (by omega)), iClamp (by omega), List.eraseIdx_eq_take_drop_succ]
        have lT : ((srt (nmB 0 (ptN a p)) (ro a p)).take k).length = k := by simp; omega
        have lD : ((srt (nmB 0 (ptN a p)) (ro a p)).drop (k + 1)).length = (ro a p).length - (k + 1) := by simp [sl]
        refine s_dueG ok h hp hc (fun j => if j < k then j else if j = k then (ro a p).length - 1 else j - 1) (fun i => if i ≤ k then i else i - 1) (fun i => if i ≤ k then (ro a p).length else (ro a p).length - 1) (by simp) (by simp) (fun i hi q => ?_) (fun i hi q => ?_) (fun i hi => ?_) (fun i j hi hj q => ?_) ?_ (fun m hm => ?_)
        · rw [en, only i hi] at q
          subst q
          refine ⟨?_, ?_, ?_⟩
          · show (if i < i then i else if i = i then (ro a p).length - 1 else i - 1) + 1 = if i ≤ i then (ro a p).length else (ro a p).length - 1
            rw [if_neg (Nat.lt_irrefl i), if_pos rfl, if_pos (Nat.le_refl i)]; omega
          · show (if i + 1 ≤ i then (ro a p).length else (ro a p).length - 1) = if i < i then i else if i = i then (ro a p).length - 1 else i - 1
            rw [if_neg (by omega), if_neg (Nat.lt_irrefl i), if_pos rfl]
          · show (if i + 1 ≤ i then i + 1 else i + 1 - 1) = if i ≤ i then i else i - 1
            rw [if_neg (by omega), if_pos (Nat.le_refl i)]; omega
        · rw [en, only i hi] at q
          by_cases c1 : i < k
          · refine ⟨?_, ?_, ?_⟩
            · show (if i < k then i else if i = k then (ro a p).length - 1 else i - 1) = if i ≤ k then i else i - 1
              rw [if_pos c1, if_pos (by omega)]
            · show (if i + 1 ≤ k then i + 1 else i + 1 - 1) = (if i ≤ k then i else i - 1) + 1
              rw [if_pos (by omega), if_pos (by omega)]
            · show (if i + 1 ≤ k then (ro a p).length else (ro a p).length - 1) = if i ≤ k then (ro a p).length else (ro a p).length - 1
              rw [if_pos (by omega), if_pos (by omega)]
          · refine ⟨?_, ?_, ?_⟩
            · show (if i < k then i else if i = k then (ro a p).length - 1 else i - 1) = if i ≤ k then i else i - 1
              rw [if_neg c1, if_neg q, if_neg (by omega)]
            · show (if i + 1 ≤ k then i + 1 else i + 1 - 1) = (if i ≤ k then i else i - 1) + 1
              rw [if_neg (by omega), if_neg (by omega)]; omega
            · show (if i + 1 ≤ k then (ro a p).length else (ro a p).length - 1) = if i ≤ k then (ro a p).length else (ro a p).length - 1
              rw [if_neg (by omega), if_neg (by omega)]
        · show (if i < k then i else if i = k then (ro a p).length - 1 else i - 1) < 7
          split
          · omega
          · split <;> omega
        · show (if i < k then i else if i = k then (ro a p).length - 1 else i - 1) ≠ (if j < k then j else if j = k then (ro a p).length - 1 else j - 1)
          split
          · split
            · omega
            · split <;> omega
          · split
            · split
              · omega
              · split <;> omega
            · split
              · omega
              · split <;> omega
        · rw [eM]
          simp [sl]
          omega
        · rw [eM]
          by_cases c1 : m < k
          · refine ⟨m, hm, ?_, ?_⟩
            · show (if m < k then m else if m = k then (ro a p).length - 1 else m - 1) = m
              rw [if_pos c1]
            · rw [e21, List.append_assoc, gD_l (by omega)]
              conv => rhs; rw [hsp]
              rw [gD_l (by omega)]
          · by_cases c4 : m = (ro a p).length - 1
            · refine ⟨k, hk, ?_, ?_⟩
              · show (if k < k then k else if k = k then (ro a p).length - 1 else k - 1) = m
                rw [if_neg (Nat.lt_irrefl k), if_pos rfl, c4]
              · rw [e21, gD_r (by rw [List.length_append, lT, lD]; omega), List.length_append, lT, lD, show m - (k + ((ro a p).length - (k + 1))) = 0 by omega]
                rfl
            · refine ⟨m + 1, by omega, ?_, ?_⟩
              · show (if m + 1 < k then m + 1 else if m + 1 = k then (ro a p).length - 1 else m + 1 - 1) = m
                rw [if_neg (by omega), if_neg (by omega)]; omega
              · rw [e21, gD_l (by rw [List.length_append, lT, lD]; omega), gD_r (by omega), lT]
                conv => rhs; rw [hsp]
                rw [gD_r (by omega), lT, show m + 1 - k = (m - k) + 1 by omega]
                rfl
    · have en : ∀ i, ¬ enD a p c (srt (nmB (if c = 1 then 1 else 0) (ptN a p)) (ro a p)) i := fun i => by simp [enD, c2, c3]
      have eA : arrP a p c = srt (nmB (if c = 1 then 1 else 0) (ptN a p)) (ro a p) := by
        show arrL c (ptN a p) (rm a (tr a p)) (ro a p) = _
        rw [arrL, if_neg c2, if_neg c3]
      rw [eA]
      exact s_dueG ok h hp hc (fun i => i) (fun i => i) (fun _ => (ro a p).length) rfl rfl (fun i hi q => absurd q (en i)) (fun i hi q => ⟨rfl, rfl, rfl⟩) (fun i hi => by show i < 7; omega) (fun i j hi hj q => q) (srt_len _ _) (fun m hm => ⟨m, hm, rfl, rfl⟩)
