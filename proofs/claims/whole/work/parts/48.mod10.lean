/-! ===== the reference: what is owed, the next row ===== -/
theorem l_own {X : Nat × (Nat → Int32)} {σ : Mem} {Q : List Value → Mem → Prop} {q k0 : Nat} {t S pl : Int32} {p : Nat} {l : List Nat} (hl : l.length ≤ 7) (hA : AI σ 136 l) (h7 : ∀ j, j < l.length → l.getD j 0 < 7) (hq : q < 7) (hk : k0 < l.length) (h1 : l.getD k0 0 = q) (h2 : ∀ j, j < k0 → l.getD j 0 ≠ q) : ∀ n i, i + n = k0 → (Rn X 164 53 [.ref 127, .int (nI q), .int t, .int S, .int (nI p), .int pl, .int (nI i)] [] σ Q ↔ Rn X 164 70 [.ref 127, .int (nI q), .int t, .int S, .int (nI p), .int pl, .int (nI k0)] [] σ Q) := by
  intro n
  induction n with
  | zero =>
    intro i hi
    have e : i = k0 := by omega
    subst e
    rw [q_164_53]
    simp (disch := omega) only [q_164_54, q_164_57, q_164_59, q_164_60, q_164_61, q_164_64, q_164_67, vinT, iClamp, clr_i, clr_l, clr_r, clr_n, true_and, and_true, or_true, true_or, false_or, or_false, iLe, iLt, iEq, iAdd, iMul, List.cons_append, List.nil_append, List.append_nil, zb0, zb1, if_true, if_false, not_true_eq_false, not_false_eq_true, Bool.false_eq_true, Nat.one_ne_zero, Nat.zero_ne_one, Nat.reduceEqDiff, Nat.reduceAdd, if_pos, if_neg, m127, m128k, m128n, m129k, m129n, m130k, m130n, m131k, m131n, m132k, m132n, m133k, m133n, m134k, m134n, m135k, m135n, m136k, m136n, m137k, m137n, m138k, m138n, m139k, m139n, m140k, m140n, m141k, m141n, m142k, m142n, m143k, m143n, m144k, m144n, m145k, m145n, m146k, m146n, hA i hk, h1]
  | succ n ih =>
    intro i hi
    have c := h2 i (by omega)
    have c7 := h7 i (by omega)
    rw [q_164_53]
    simp (disch := omega) only [q_164_54, q_164_57, q_164_59, q_164_60, q_164_61, q_164_64, q_164_67, vinT, iClamp, clr_i, clr_l, clr_r, clr_n, true_and, and_true, or_true, true_or, false_or, or_false, iLe, iLt, iEq, iAdd, iMul, List.cons_append, List.nil_append, List.append_nil, zb0, zb1, if_true, if_false, not_true_eq_false, not_false_eq_true, Bool.false_eq_true, Nat.one_ne_zero, Nat.zero_ne_one, Nat.reduceEqDiff, Nat.reduceAdd, if_pos, if_neg, m127, m128k, m128n, m129k, m129n, m130k, m130n, m131k, m131n, m132k, m132n, m133k, m133n, m134k, m134n, m135k, m135n, m136k, m136n, m137k, m137n, m138k, m138n, m139k, m139n, m140k, m140n, m141k, m141n, m142k, m142n, m143k, m143n, m144k, m144n, m145k, m145n, m146k, m146n, hA i (by omega)]
    exact ih (i + 1) (by omega)
theorem byS_ok {a : AS} {p : Nat} (ok : AOK a) (hp : p < 8) : (byS a p).length ≤ 7 ∧ (byS a p).length = (ro a p).length ∧ (∀ j, j < (byS a p).length → (byS a p).getD j 0 < 7) ∧ ∀ x, x ∈ byS a p ↔ x ∈ ro a p := by
  obtain ⟨o1, o2, o3, o4, o5, o6, o7, o8⟩ := ok.1 p hp
  have hpm : (byS a p).Perm (ro a p) := srt_perm _ _
  have hlen := hpm.length_eq
  refine ⟨by omega, hlen, fun j hj => row_lt o7 _ (hpm.mem_iff.mp (gD_mem hj)), fun x => hpm.mem_iff⟩
def SCx : List Nat := [127, 134, 136]
theorem SCx_scr : ∀ b, b ∈ SCx → b ∈ SCM := by decide
theorem SCx_ge : ∀ b, b ∈ SCx → 127 ≤ b := by decide
theorem l_owedM {X : Nat × (Nat → Int32)} {a : AS} {q : Nat} {t : Int32} (ok : AOK a) (hq : q < 7) (ht : t = -1 ∨ inR t 3) : ∀ n i (d : Int32) (σ : Mem) (v5 v6 : Value), MI σ a → i + n = 8 → ∃ σ', (∀ Q, Rn X 164 5 [.ref 127, .int (nI q), .int t, .int d, .int (nI i), v5, v6] [] σ Q ↔ Q [.int (owF a t q i n d)] σ') ∧ Off SCx σ σ' := by
  intro n
  induction n with
  | zero =>
    intro i d σ v5 v6 h hi
    have e : i = 8 := by omega
    subst e
    refine ⟨σ, fun Q => ?_, Off.rf _ _⟩
    rw [q_164_5]
    simp (disch := omega) only [q_164_7, q_164_9, q_164_12, q_164_13, q_164_15, q_164_16, q_164_19, q_164_21, q_164_23, q_164_25, q_164_28, q_164_29, q_164_32, q_164_33, q_164_36, q_164_38, q_164_39, q_164_40, q_164_43, q_164_44, q_164_46, q_164_47, q_164_50, q_164_51, q_164_70, q_164_71, q_164_73, q_164_75, q_164_76, q_164_77, q_164_78, q_164_81, q_164_84, q_164_85, vinT, iClamp, clr_i, clr_l, clr_r, clr_n, true_and, and_true, or_true, true_or, false_or, or_false, iLe, iLt, iEq, iAdd, iMul, List.cons_append, List.nil_append, List.append_nil, zb0, zb1, if_true, if_false, not_true_eq_false, not_false_eq_true, Bool.false_eq_true, Nat.one_ne_zero, Nat.zero_ne_one, Nat.reduceEqDiff, Nat.reduceAdd, if_pos, if_neg, owF]
  | succ n ih =>
    intro i d σ v5 v6 h hi
    have hp : i < 8 := by omega
    obtain ⟨m1, m2, m3, m4, m5, m6, m7, m8, m9, m10⟩ := id h
    obtain ⟨o1, o2, o3, o4, o5, o6, o7, o8⟩ := ok.1 i hp
    by_cases c1 : plF (rF (ro a i)) (nI q) 0 (ro a i).length = -9
    · obtain ⟨σ', j1, j2⟩ := ih (i + 1) d σ (.int (-9)) v6 h (by omega)
      have e1 : owF a t q i (n + 1) d = owF a t q (i + 1) n d := by
        rw [owF, dAdd, if_pos c1, ite_self]
      refine ⟨σ', fun Q => ?_, j2⟩
      rw [q_164_5, e1]
      simp (disch := omega) only [q_164_7, q_164_9, q_164_12, q_164_13, q_164_15, q_164_16, q_164_19, q_164_21, q_164_23, q_164_25, q_164_28, q_164_29, q_164_32, q_164_33, q_164_36, q_164_38, q_164_39, q_164_40, q_164_43, q_164_44, q_164_46, q_164_47, q_164_50, q_164_51, q_164_70, q_164_71, q_164_73, q_164_75, q_164_76, q_164_77, q_164_78, q_164_81, q_164_84, q_164_85, vinT, iClamp, clr_i, clr_l, clr_r, clr_n, true_and, and_true, or_true, true_or, false_or, or_false, iLe, iLt, iEq, iAdd, iMul, List.cons_append, List.nil_append, List.append_nil, zb0, zb1, if_true, if_false, not_true_eq_false, not_false_eq_true, Bool.false_eq_true, Nat.one_ne_zero, Nat.zero_ne_one, Nat.reduceEqDiff, Nat.reduceAdd, if_pos, if_neg, m127, m128k, m128n, m129k, m129n, m130k, m130n, m131k, m131n, m132k, m132n, m133k, m133n, m134k, m134n, m135k, m135n, m136k, m136n, m137k, m137n, m138k, m138n, m139k, m139n, m140k, m140n, m141k, m141n, m142k, m142n, m143k, m143n, m144k, m144n, m145k, m145n, m146k, m146n, s_placeM h hp o6, c1]
      exact j1 Q
    · by_cases c2 : t = -1 ∨ nI (tr a i) = t
      · have e1 : owF a t q i (n + 1) d = owF a t q (i + 1) n (d + owD a i q) := by
          rw [owF, if_pos c2, dAdd, if_neg c1]
        have hin : q ∈ ro a i := by
          by_cases z : q ∈ ro a i
          · exact z
          · exact absurd ((plF_not o6 o7 hq).mpr z) c1
        obtain ⟨b1, b2, b3, b4⟩ := byS_ok ok hp
        rcases plF_spec (rF (byS a i)) (nI q) (byS a i).length 0 with ⟨g1, g2⟩ | ⟨k0, g1, g2, g3, g4, g5⟩
        · obtain ⟨j, hj, ej⟩ := mem_gD ((b4 q).mpr hin)
          exact absurd (show rF (byS a i) j = nI q by rw [rF, ej]) (g2 j (by omega) (by omega))
        · have hk0 : k0 < (byS a i).length := by omega
          have f1 : (byS a i).getD k0 0 = q := by
            have := b3 k0 hk0
            exact (nI_inj7 (by omega) (by omega)).mp g4
          have f2 : ∀ j, j < k0 → (byS a i).getD j 0 ≠ q := fun j hj e => g5 j (by omega) hj (by rw [rF, e])
          obtain ⟨σ1, s1, s2, s3, s4, s5⟩ := s_sortM (X := X) (b := 0) (u1 := .null) (u2 := .null) (u3 := .null) ok h hp (Or.inl rfl)
          have s1' := fun Q => s1 Q
          have hA : AI σ1 136 (byS a i) := s2
          have h1 : MI σ1 a := MI_scr h (s4.mono (by decide))
          obtain ⟨σ', j1, j2⟩ := ih (i + 1) (d + owD a i q) σ1 (.int (plF (rF (ro a i)) (nI q) 0 (ro a i).length)) (.int (nI k0)) h1 (by omega)
          have how := fun (Q : List Value → Mem → Prop) (S pl : Int32) => l_own (X := X) (σ := σ1) (Q := Q) (t := t) (S := S) (pl := pl) (p := i) b1 hA b3 hq hk0 f1 f2 k0 0 (by omega)
          refine ⟨σ', fun Q => ?_, Off.tr s4 j2⟩
          have eo : owD a i q = plF (rF (ro a i)) (nI q) 0 (ro a i).length - nI k0 := by rw [owD, g3]
          rw [q_164_5, e1]
          rw [eo] at j1 ⊢
          by_cases c3 : t < nI 0
          · simp (disch := omega) only [q_164_7, q_164_9, q_164_12, q_164_13, q_164_15, q_164_16, q_164_19, q_164_21, q_164_23, q_164_25, q_164_28, q_164_29, q_164_32, q_164_33, q_164_36, q_164_38, q_164_39, q_164_40, q_164_43, q_164_44, q_164_46, q_164_47, q_164_50, q_164_51, vinT, iClamp, clr_i, clr_l, clr_r, clr_n, true_and, and_true, or_true, true_or, false_or, or_false, iLe, iLt, iEq, iAdd, iMul, List.cons_append, List.nil_append, List.append_nil, zb0, zb1, if_true, if_false, not_true_eq_false, not_false_eq_true, Bool.false_eq_true, Nat.one_ne_zero, Nat.zero_ne_one, Nat.reduceEqDiff, Nat.reduceAdd, if_pos, if_neg, m127, m128k, m128n, m129k, m129n, m130k, m130n, m131k, m131n, m132k, m132n, m133k, m133n, m134k, m134n, m135k, m135n, m136k, m136n, m137k, m137n, m138k, m138n, m139k, m139n, m140k, m140n, m141k, m141n, m142k, m142n, m143k, m143n, m144k, m144n, m145k, m145n, m146k, m146n, s_placeM h hp o6, c1, c3, s1']
            rw [how Q]
            simp (disch := omega) only [q_164_70, q_164_71, q_164_73, q_164_75, q_164_76, q_164_77, q_164_78, q_164_81, q_164_84, q_164_85, vinT, iClamp, clr_i, clr_l, clr_r, clr_n, true_and, and_true, or_true, true_or, false_or, or_false, iLe, iLt, iEq, iAdd, iMul, List.cons_append, List.nil_append, List.append_nil, zb0, zb1, if_true, if_false, not_true_eq_false, not_false_eq_true, Bool.false_eq_true, Nat.one_ne_zero, Nat.zero_ne_one, Nat.reduceEqDiff, Nat.reduceAdd, if_pos, if_neg]
            exact j1 Q
          · have c4 : nI (tr a i) = t := c2.resolve_left (fun e => c3 (by rw [e]; decide))
            simp (disch := omega) only [q_164_7, q_164_9, q_164_12, q_164_13, q_164_15, q_164_16, q_164_19, q_164_21, q_164_23, q_164_25, q_164_28, q_164_29, q_164_32, q_164_33, q_164_36, q_164_38, q_164_39, q_164_40, q_164_43, q_164_44, q_164_46, q_164_47, q_164_50, q_164_51, vinT, iClamp, clr_i, clr_l, clr_r, clr_n, true_and, and_true, or_true, true_or, false_or, or_false, iLe, iLt, iEq, iAdd, iMul, List.cons_append, List.nil_append, List.append_nil, zb0, zb1, if_true, if_false, not_true_eq_false, not_false_eq_true, Bool.false_eq_true, Nat.one_ne_zero, Nat.zero_ne_one, Nat.reduceEqDiff, Nat.reduceAdd, if_pos, if_neg, m127, m128k, m128n, m129k, m129n, m130k, m130n, m131k, m131n, m132k, m132n, m133k, m133n, m134k, m134n, m135k, m135n, m136k, m136n, m137k, m137n, m138k, m138n, m139k, m139n, m140k, m140n, m141k, m141n, m142k, m142n, m143k, m143n, m144k, m144n, m145k, m145n, m146k, m146n, s_placeM h hp o6, c1, c3, m1 i hp, c4, s1']
            rw [how Q]
            simp (disch := omega) only [q_164_70, q_164_71, q_164_73, q_164_75, q_164_76, q_164_77, q_164_78, q_164_81, q_164_84, q_164_85, vinT, iClamp, clr_i, clr_l, clr_r, clr_n, true_and, and_true, or_true, true_or, false_or, or_false, iLe, iLt, iEq, iAdd, iMul, List.cons_append, List.nil_append, List.append_nil, zb0, zb1, if_true, if_false, not_true_eq_false, not_false_eq_true, Bool.false_eq_true, Nat.one_ne_zero, Nat.zero_ne_one, Nat.reduceEqDiff, Nat.reduceAdd, if_pos, if_neg]
            exact j1 Q
      · obtain ⟨σ', j1, j2⟩ := ih (i + 1) d σ (.int (plF (rF (ro a i)) (nI q) 0 (ro a i).length)) v6 h (by omega)
        have e1 : owF a t q i (n + 1) d = owF a t q (i + 1) n d := by
          rw [owF, if_neg c2]
        have c3 : ¬ t < nI 0 := by
          rcases ht with e | e
          · exact absurd (Or.inl e) c2
          · exact nI0_le.mp e.1
        have c4 : ¬ nI (tr a i) = t := fun e => c2 (Or.inr e)
        refine ⟨σ', fun Q => ?_, j2⟩
        rw [q_164_5, e1]
        simp (disch := omega) only [q_164_7, q_164_9, q_164_12, q_164_13, q_164_15, q_164_16, q_164_19, q_164_21, q_164_23, q_164_25, q_164_28, q_164_29, q_164_32, q_164_33, q_164_36, q_164_38, q_164_39, q_164_40, q_164_43, q_164_44, q_164_46, q_164_47, q_164_50, q_164_51, q_164_70, q_164_71, q_164_73, q_164_75, q_164_76, q_164_77, q_164_78, q_164_81, q_164_84, q_164_85, vinT, iClamp, clr_i, clr_l, clr_r, clr_n, true_and, and_true, or_true, true_or, false_or, or_false, iLe, iLt, iEq, iAdd, iMul, List.cons_append, List.nil_append, List.append_nil, zb0, zb1, if_true, if_false, not_true_eq_false, not_false_eq_true, Bool.false_eq_true, Nat.one_ne_zero, Nat.zero_ne_one, Nat.reduceEqDiff, Nat.reduceAdd, if_pos, if_neg, m127, m128k, m128n, m129k, m129n, m130k, m130n, m131k, m131n, m132k, m132n, m133k, m133n, m134k, m134n, m135k, m135n, m136k, m136n, m137k, m137n, m138k, m138n, m139k, m139n, m140k, m140n, m141k, m141n, m142k, m142n, m143k, m143n, m144k, m144n, m145k, m145n, m146k, m146n, s_placeM h hp o6, c1, c3, m1 i hp, c4]
        exact j1 Q
theorem s_owedM {X : Nat × (Nat → Int32)} {σ : Mem} {a : AS} {q : Nat} {t : Int32} {u3 u4 u5 u6 : Value} (ok : AOK a) (h : MI σ a) (hq : q < 7) (ht : t = -1 ∨ inR t 3) : ∃ σ', Ev X 164 [.ref 127, .int (nI q), .int t, u3, u4, u5, u6] σ [.int (owS a t q)] σ' ∧ Off SCx σ σ' := by
  obtain ⟨σ', j1, j2⟩ := l_owedM (X := X) ok hq ht 8 0 (nI 0) σ u5 u6 h rfl
  refine ⟨σ', fun Q => ?_, j2⟩
  simp only [q_164_0, q_164_1, q_164_2, q_164_3, clr_i]
  exact j1 Q
theorem m_Ow {X : Nat × (Nat → Int32)} {σ : Mem} {a : AS} {x t : Int32} (ok : AOK a) (h : MI σ a) : ∃ σ', Ev X 165 [.ref 127, .int x, .int t] σ [.int (anOw a x t)] σ' ∧ MI σ' a ∧ Hi σ σ' := by
  by_cases k0 : inR x 7
  · have e0 : b2 (inR x 7) = nI 1 := b2_t k0
    rw [anOw, if_pos k0]
    obtain ⟨q, hq, rfl⟩ := inR_of k0 (by omega)
    by_cases k1 : t = -1 ∨ inR t 3
    · have e1 : b2 (t = -1 ∨ inR t 3) = nI 1 := b2_t k1
      rw [if_pos k1, tn_nI (by omega)]
      obtain ⟨σ', j1, j2⟩ := s_owedM (X := X) (u3 := .null) (u4 := .null) (u5 := .null) (u6 := .null) ok h hq k1
      have j1' := fun Q => j1 Q
      refine ⟨σ', fun Q => ?_, MI_scr h (j2.mono SCx_scr), j2.hi SCx_ge⟩
      simp (disch := omega) only [q_165_0, q_165_1, q_165_4, q_165_7, q_165_8, q_165_9, q_165_10, q_165_11, q_165_14, q_165_17, q_165_20, q_165_23, q_165_24, q_165_25, q_165_26, q_165_29, q_165_32, q_165_33, q_165_36, q_165_38, vinT, iClamp, clr_i, clr_l, clr_r, clr_n, true_and, and_true, or_true, true_or, false_or, or_false, iLe, iLt, iEq, iAdd, iMul, List.cons_append, List.nil_append, List.append_nil, zb0, zb1, if_true, if_false, not_true_eq_false, not_false_eq_true, Bool.false_eq_true, Nat.one_ne_zero, Nat.zero_ne_one, Nat.reduceEqDiff, Nat.reduceAdd, if_pos, if_neg, s_isPersonM, e0, s_inT, e1, m127, j1']
    · have e1 : b2 (t = -1 ∨ inR t 3) = nI 0 := b2_f k1
      rw [if_neg k1]
      refine ⟨σ, fun Q => ?_, h, Hi.rf σ⟩
      simp (disch := omega) only [q_165_0, q_165_1, q_165_4, q_165_7, q_165_8, q_165_9, q_165_10, q_165_11, q_165_14, q_165_17, q_165_20, q_165_23, q_165_24, q_165_25, q_165_26, q_165_29, q_165_32, q_165_33, q_165_36, q_165_38, vinT, iClamp, clr_i, clr_l, clr_r, clr_n, true_and, and_true, or_true, true_or, false_or, or_false, iLe, iLt, iEq, iAdd, iMul, List.cons_append, List.nil_append, List.append_nil, zb0, zb1, if_true, if_false, not_true_eq_false, not_false_eq_true, Bool.false_eq_true, Nat.one_ne_zero, Nat.zero_ne_one, Nat.reduceEqDiff, Nat.reduceAdd, if_pos, if_neg, s_isPersonM, e0, s_inT, e1]
  · have e0 : b2 (inR x 7) = nI 0 := b2_f k0
    rw [anOw, if_neg k0]
    refine ⟨σ, fun Q => ?_, h, Hi.rf σ⟩
    simp (disch := omega) only [q_165_0, q_165_1, q_165_4, q_165_7, q_165_8, q_165_9, q_165_10, q_165_11, q_165_14, q_165_17, q_165_20, q_165_23, q_165_24, q_165_25, q_165_26, q_165_29, q_165_32, q_165_33, q_165_36, q_165_38, vinT, iClamp, clr_i, clr_l, clr_r, clr_n, true_and, and_true, or_true, true_or, false_or, or_false, iLe, iLt, iEq, iAdd, iMul, List.cons_append, List.nil_append, List.append_nil, zb0, zb1, if_true, if_false, not_true_eq_false, not_false_eq_true, Bool.false_eq_true, Nat.one_ne_zero, Nat.zero_ne_one, Nat.reduceEqDiff, Nat.reduceAdd, if_pos, if_neg, s_isPersonM, e0]
def SCy : List Nat := [127, 134, 136, 146]
theorem SCy_scr : ∀ b, b ∈ SCy → b ∈ SCM := by decide
theorem SCy_ge : ∀ b, b ∈ SCy → 127 ≤ b := by decide
theorem l_nx1 {X : Nat × (Nat → Int32)} {a : AS} {s : Nat} {t y : Int32} {v5 v6 v7 : Value} (ok : AOK a) (ht : t = -1 ∨ inR t 3) : ∀ n i (σ : Mem), MI σ a → i + n = 7 → (∀ q, q < i → σ.1 146 q = owS a t q) → ∃ σ', (∀ Q, Rn X 166 32 [.ref 127, .int (nI s), .int t, .int y, .int (nI i), v5, v6, v7] [] σ Q ↔ Rn X 166 59 [.ref 127, .int (nI s), .int t, .int y, .int (nI 7), v5, v6, v7] [] σ' Q) ∧ (∀ q, q < 7 → σ'.1 146 q = owS a t q) ∧ Off SCy σ σ' := by
  intro n
  induction n with
  | zero =>
    intro i σ h hi hS
    have e : i = 7 := by omega
    subst e
    refine ⟨σ, fun Q => ?_, hS, Off.rf _ _⟩
    rw [q_166_32]
    simp (disch := omega) only [q_166_34, q_166_36, q_166_39, q_166_40, q_166_43, q_166_45, q_166_46, q_166_48, q_166_49, q_166_52, q_166_53, q_166_56, vinT, iClamp, clr_i, clr_l, clr_r, clr_n, true_and, and_true, or_true, true_or, false_or, or_false, iLe, iLt, iEq, iAdd, iMul, List.cons_append, List.nil_append, List.append_nil, zb0, zb1, if_true, if_false, not_true_eq_false, not_false_eq_true, Bool.false_eq_true, Nat.one_ne_zero, Nat.zero_ne_one, Nat.reduceEqDiff, Nat.reduceAdd, if_pos, if_neg]
  | succ n ih =>
    intro i σ h hi hS
    obtain ⟨σ1, j1, j2⟩ := s_owedM (X := X) (u3 := .null) (u4 := .null) (u5 := .null) (u6 := .null) ok h (show i < 7 by omega) ht
    have j1' := fun Q => j1 Q
    have ho : Off SCy σ (sI σ1 146 i (owS a t i)) := (j2.mono (by decide)).sI (by decide) _ _
    obtain ⟨σ', k1, k2, k3⟩ := ih (i + 1) (sI σ1 146 i (owS a t i)) (MI_scr h (ho.mono SCy_scr)) (by omega) (fun q hq => by
      by_cases e : q = i
      · subst e; rw [sI_at]
      · rw [sI_off (by omega), (j2 146 (by decide)).1]; exact hS q (by omega))
    refine ⟨σ', fun Q => ?_, k2, ho.tr k3⟩
    rw [q_166_32]
    simp (disch := omega) only [q_166_34, q_166_36, q_166_39, q_166_40, q_166_43, q_166_45, q_166_46, q_166_48, q_166_49, q_166_52, q_166_53, q_166_56, vinT, iClamp, clr_i, clr_l, clr_r, clr_n, true_and, and_true, or_true, true_or, false_or, or_false, iLe, iLt, iEq, iAdd, iMul, List.cons_append, List.nil_append, List.append_nil, zb0, zb1, if_true, if_false, not_true_eq_false, not_false_eq_true, Bool.false_eq_true, Nat.one_ne_zero, Nat.zero_ne_one, Nat.reduceEqDiff, Nat.reduceAdd, if_pos, if_neg, m127, m128k, m128n, m129k, m129n, m130k, m130n, m131k, m131n, m132k, m132n, m133k, m133n, m134k, m134n, m135k, m135n, m136k, m136n, m137k, m137n, m138k, m138n, m139k, m139n, m140k, m140n, m141k, m141n, m142k, m142n, m143k, m143n, m144k, m144n, m145k, m145n, m146k, m146n, j1']
    exact k1 Q
theorem ah_ow {a : AS} {t : Int32} {x z : Nat} : ah (owN a t) x z = true ↔ owS a t z < owS a t x ∨ (owS a t z = owS a t x ∧ x < z) := by
  rw [ah_iff, owN, owN, fa_wide_lt, fa_wide_eq]
theorem l_nx3 {X : Nat × (Nat → Int32)} {σ : Mem} {Q : List Value → Mem → Prop} {a : AS} {s z : Nat} {t y : Int32} (hs : s < 128) (hz : z < 7) (hS : ∀ q, q < 7 → σ.1 146 q = owS a t q) : ∀ n i c (v : Value), i + n = 7 → ∃ v', (Rn X 166 75 [.ref 127, .int (nI s), .int t, .int y, .int (nI z), .int (nI c), .int (nI i), v] [] σ Q ↔ Rn X 166 161 [.ref 127, .int (nI s), .int t, .int y, .int (nI z), .int (nI (c + smF (fun q => if q ∈ inS s 7 then (if ah (owN a t) q z = true then 1 else 0) else 0) i n)), .int (nI 7), v'] [] σ Q) := by
  intro n
  induction n with
  | zero =>
    intro i c v hi
    have e : i = 7 := by omega
    subst e
    refine ⟨v, ?_⟩
    rw [q_166_75]
    simp (disch := omega) only [q_166_77, q_166_79, q_166_82, q_166_83, q_166_86, q_166_88, q_166_89, q_166_90, q_166_93, q_166_95, q_166_96, q_166_99, q_166_100, q_166_103, q_166_105, q_166_106, q_166_107, q_166_110, q_166_112, q_166_113, q_166_116, q_166_118, q_166_120, q_166_123, q_166_124, q_166_127, q_166_128, q_166_130, q_166_132, q_166_133, q_166_135, q_166_136, q_166_137, q_166_138, q_166_139, q_166_142, q_166_144, q_166_147, q_166_148, q_166_151, q_166_152, q_166_153, q_166_155, q_166_158, vinT, iClamp, clr_i, clr_l, clr_r, clr_n, true_and, and_true, or_true, true_or, false_or, or_false, iLe, iLt, iEq, iAdd, iMul, List.cons_append, List.nil_append, List.append_nil, zb0, zb1, if_true, if_false, not_true_eq_false, not_false_eq_true, Bool.false_eq_true, Nat.one_ne_zero, Nat.zero_ne_one, Nat.reduceEqDiff, Nat.reduceAdd, if_pos, if_neg, smF, Nat.add_zero]
  | succ n ih =>
    intro i c v hi
    have hi7 : i < 7 := by omega
    have hm : i ∈ inS s 7 ↔ bitN s i := by rw [inS_mem]; exact ⟨fun q => q.2, fun q => ⟨hi7, q⟩⟩
    have qa := ah_ow (a := a) (t := t) (x := i) (z := z)
    have e1 := hS i hi7
    have e2 := hS z hz
    have eq1 : (owS a t i = owS a t z) ↔ (owS a t z = owS a t i) := ⟨fun q => q.symm, fun q => q.symm⟩
    by_cases c2 : bitN s i
    · have c3 : s / 2 ^ i % 2 = 1 := c2
      by_cases c4 : owS a t z < owS a t i
      · obtain ⟨v', i1⟩ := ih (i + 1) (c + 1) (.int (nI 1)) (by omega)
        refine ⟨v', ?_⟩
        rw [q_166_75, smF, if_pos (hm.mpr c2), if_pos (qa.mpr (Or.inl c4))]
        simp (disch := omega) only [q_166_77, q_166_79, q_166_82, q_166_83, q_166_86, q_166_88, q_166_89, q_166_90, q_166_93, q_166_95, q_166_96, q_166_99, q_166_100, q_166_103, q_166_105, q_166_106, q_166_107, q_166_110, q_166_112, q_166_113, q_166_116, q_166_118, q_166_120, q_166_123, q_166_124, q_166_127, q_166_128, q_166_130, q_166_132, q_166_133, q_166_135, q_166_136, q_166_137, q_166_138, q_166_139, q_166_142, q_166_144, q_166_147, q_166_148, q_166_151, q_166_152, q_166_153, q_166_155, q_166_158, vinT, iClamp, clr_i, clr_l, clr_r, clr_n, true_and, and_true, or_true, true_or, false_or, or_false, iLe, iLt, iEq, iAdd, iMul, List.cons_append, List.nil_append, List.append_nil, zb0, zb1, if_true, if_false, not_true_eq_false, not_false_eq_true, Bool.false_eq_true, Nat.one_ne_zero, Nat.zero_ne_one, Nat.reduceEqDiff, Nat.reduceAdd, if_pos, if_neg, m127, m128k, m128n, m129k, m129n, m130k, m130n, m131k, m131n, m132k, m132n, m133k, m133n, m134k, m134n, m135k, m135n, m136k, m136n, m137k, m137n, m138k, m138n, m139k, m139n, m140k, m140n, m141k, m141n, m142k, m142n, m143k, m143n, m144k, m144n, m145k, m145n, m146k, m146n, e1, e2, c4, bit_at, c3]
        rw [i1, Nat.add_assoc]
      · by_cases c5 : owS a t z = owS a t i
        · have c5' : owS a t i = owS a t z := c5.symm
          have c4' : ¬ owS a t z < owS a t z := by rw [c5'] at c4; exact c4
          by_cases c6 : i < z
          · obtain ⟨v', i1⟩ := ih (i + 1) (c + 1) (.int (nI 1)) (by omega)
            refine ⟨v', ?_⟩
            rw [q_166_75, smF, if_pos (hm.mpr c2), if_pos (qa.mpr (Or.inr ⟨c5, c6⟩))]
            simp (disch := omega) only [q_166_77, q_166_79, q_166_82, q_166_83, q_166_86, q_166_88, q_166_89, q_166_90, q_166_93, q_166_95, q_166_96, q_166_99, q_166_100, q_166_103, q_166_105, q_166_106, q_166_107, q_166_110, q_166_112, q_166_113, q_166_116, q_166_118, q_166_120, q_166_123, q_166_124, q_166_127, q_166_128, q_166_130, q_166_132, q_166_133, q_166_135, q_166_136, q_166_137, q_166_138, q_166_139, q_166_142, q_166_144, q_166_147, q_166_148, q_166_151, q_166_152, q_166_153, q_166_155, q_166_158, vinT, iClamp, clr_i, clr_l, clr_r, clr_n, true_and, and_true, or_true, true_or, false_or, or_false, iLe, iLt, iEq, iAdd, iMul, List.cons_append, List.nil_append, List.append_nil, zb0, zb1, if_true, if_false, not_true_eq_false, not_false_eq_true, Bool.false_eq_true, Nat.one_ne_zero, Nat.zero_ne_one, Nat.reduceEqDiff, Nat.reduceAdd, if_pos, if_neg, m127, m128k, m128n, m129k, m129n, m130k, m130n, m131k, m131n, m132k, m132n, m133k, m133n, m134k, m134n, m135k, m135n, m136k, m136n, m137k, m137n, m138k, m138n, m139k, m139n, m140k, m140n, m141k, m141n, m142k, m142n, m143k, m143n, m144k, m144n, m145k, m145n, m146k, m146n, e1, e2, c5', c4', bit_at, c3]
            rw [i1, Nat.add_assoc]
          · obtain ⟨v', i1⟩ := ih (i + 1) c (.int (nI 0)) (by omega)
            refine ⟨v', ?_⟩
            rw [q_166_75, smF, if_pos (hm.mpr c2), if_neg (fun q => (qa.mp q).elim c4 (fun r => c6 r.2))]
            simp (disch := omega) only [q_166_77, q_166_79, q_166_82, q_166_83, q_166_86, q_166_88, q_166_89, q_166_90, q_166_93, q_166_95, q_166_96, q_166_99, q_166_100, q_166_103, q_166_105, q_166_106, q_166_107, q_166_110, q_166_112, q_166_113, q_166_116, q_166_118, q_166_120, q_166_123, q_166_124, q_166_127, q_166_128, q_166_130, q_166_132, q_166_133, q_166_135, q_166_136, q_166_137, q_166_138, q_166_139, q_166_142, q_166_144, q_166_147, q_166_148, q_166_151, q_166_152, q_166_153, q_166_155, q_166_158, vinT, iClamp, clr_i, clr_l, clr_r, clr_n, true_and, and_true, or_true, true_or, false_or, or_false, iLe, iLt, iEq, iAdd, iMul, List.cons_append, List.nil_append, List.append_nil, zb0, zb1, if_true, if_false, not_true_eq_false, not_false_eq_true, Bool.false_eq_true, Nat.one_ne_zero, Nat.zero_ne_one, Nat.reduceEqDiff, Nat.reduceAdd, if_pos, if_neg, m127, m128k, m128n, m129k, m129n, m130k, m130n, m131k, m131n, m132k, m132n, m133k, m133n, m134k, m134n, m135k, m135n, m136k, m136n, m137k, m137n, m138k, m138n, m139k, m139n, m140k, m140n, m141k, m141n, m142k, m142n, m143k, m143n, m144k, m144n, m145k, m145n, m146k, m146n, e1, e2, c5', c4', bit_at, c3]
            rw [Nat.add_zero, i1, Nat.zero_add]
        · have c5' : ¬ owS a t i = owS a t z := fun e => c5 e.symm
          obtain ⟨v', i1⟩ := ih (i + 1) c (.int (nI 0)) (by omega)
          refine ⟨v', ?_⟩
          rw [q_166_75, smF, if_pos (hm.mpr c2), if_neg (fun q => (qa.mp q).elim c4 (fun r => c5 r.1))]
          simp (disch := omega) only [q_166_77, q_166_79, q_166_82, q_166_83, q_166_86, q_166_88, q_166_89, q_166_90, q_166_93, q_166_95, q_166_96, q_166_99, q_166_100, q_166_103, q_166_105, q_166_106, q_166_107, q_166_110, q_166_112, q_166_113, q_166_116, q_166_118, q_166_120, q_166_123, q_166_124, q_166_127, q_166_128, q_166_130, q_166_132, q_166_133, q_166_135, q_166_136, q_166_137, q_166_138, q_166_139, q_166_142, q_166_144, q_166_147, q_166_148, q_166_151, q_166_152, q_166_153, q_166_155, q_166_158, vinT, iClamp, clr_i, clr_l, clr_r, clr_n, true_and, and_true, or_true, true_or, false_or, or_false, iLe, iLt, iEq, iAdd, iMul, List.cons_append, List.nil_append, List.append_nil, zb0, zb1, if_true, if_false, not_true_eq_false, not_false_eq_true, Bool.false_eq_true, Nat.one_ne_zero, Nat.zero_ne_one, Nat.reduceEqDiff, Nat.reduceAdd, if_pos, if_neg, m127, m128k, m128n, m129k, m129n, m130k, m130n, m131k, m131n, m132k, m132n, m133k, m133n, m134k, m134n, m135k, m135n, m136k, m136n, m137k, m137n, m138k, m138n, m139k, m139n, m140k, m140n, m141k, m141n, m142k, m142n, m143k, m143n, m144k, m144n, m145k, m145n, m146k, m146n, e1, e2, c5', c4, bit_at, c3]
          rw [Nat.add_zero, i1, Nat.zero_add]
    · have c3 : s / 2 ^ i % 2 = 0 := (bit01 s i).resolve_right c2
      rw [q_166_75, smF, if_neg (fun q => c2 (hm.mp q))]
      by_cases c4 : owS a t z < owS a t i
      · obtain ⟨v', i1⟩ := ih (i + 1) c (.int (nI 1)) (by omega)
        refine ⟨v', ?_⟩
        simp (disch := omega) only [q_166_77, q_166_79, q_166_82, q_166_83, q_166_86, q_166_88, q_166_89, q_166_90, q_166_93, q_166_95, q_166_96, q_166_99, q_166_100, q_166_103, q_166_105, q_166_106, q_166_107, q_166_110, q_166_112, q_166_113, q_166_116, q_166_118, q_166_120, q_166_123, q_166_124, q_166_127, q_166_128, q_166_130, q_166_132, q_166_133, q_166_135, q_166_136, q_166_137, q_166_138, q_166_139, q_166_142, q_166_144, q_166_147, q_166_148, q_166_151, q_166_152, q_166_153, q_166_155, q_166_158, vinT, iClamp, clr_i, clr_l, clr_r, clr_n, true_and, and_true, or_true, true_or, false_or, or_false, iLe, iLt, iEq, iAdd, iMul, List.cons_append, List.nil_append, List.append_nil, zb0, zb1, if_true, if_false, not_true_eq_false, not_false_eq_true, Bool.false_eq_true, Nat.one_ne_zero, Nat.zero_ne_one, Nat.reduceEqDiff, Nat.reduceAdd, if_pos, if_neg, m127, m128k, m128n, m129k, m129n, m130k, m130n, m131k, m131n, m132k, m132n, m133k, m133n, m134k, m134n, m135k, m135n, m136k, m136n, m137k, m137n, m138k, m138n, m139k, m139n, m140k, m140n, m141k, m141n, m142k, m142n, m143k, m143n, m144k, m144n, m145k, m145n, m146k, m146n, e1, e2, c4, bit_at, c3]
        rw [Nat.add_zero, i1, Nat.zero_add]
      · by_cases c5 : owS a t i = owS a t z
        · have c4' : ¬ owS a t z < owS a t z := by rw [c5] at c4; exact c4
          by_cases c6 : i < z
          · obtain ⟨v', i1⟩ := ih (i + 1) c (.int (nI 1)) (by omega)
            refine ⟨v', ?_⟩
            simp (disch := omega) only [q_166_77, q_166_79, q_166_82, q_166_83, q_166_86, q_166_88, q_166_89, q_166_90, q_166_93, q_166_95, q_166_96, q_166_99, q_166_100, q_166_103, q_166_105, q_166_106, q_166_107, q_166_110, q_166_112, q_166_113, q_166_116, q_166_118, q_166_120, q_166_123, q_166_124, q_166_127, q_166_128, q_166_130, q_166_132, q_166_133, q_166_135, q_166_136, q_166_137, q_166_138, q_166_139, q_166_142, q_166_144, q_166_147, q_166_148, q_166_151, q_166_152, q_166_153, q_166_155, q_166_158, vinT, iClamp, clr_i, clr_l, clr_r, clr_n, true_and, and_true, or_true, true_or, false_or, or_false, iLe, iLt, iEq, iAdd, iMul, List.cons_append, List.nil_append, List.append_nil, zb0, zb1, if_true, if_false, not_true_eq_false, not_false_eq_true, Bool.false_eq_true, Nat.one_ne_zero, Nat.zero_ne_one, Nat.reduceEqDiff, Nat.reduceAdd, if_pos, if_neg, m127, m128k, m128n, m129k, m129n, m130k, m130n, m131k, m131n, m132k, m132n, m133k, m133n, m134k, m134n, m135k, m135n, m136k, m136n, m137k, m137n, m138k, m138n, m139k, m139n, m140k, m140n, m141k, m141n, m142k, m142n, m143k, m143n, m144k, m144n, m145k, m145n, m146k, m146n, e1, e2, c5, c4', bit_at, c3]
            rw [Nat.add_zero, i1, Nat.zero_add]
          · obtain ⟨v', i1⟩ := ih (i + 1) c (.int (nI 0)) (by omega)
            refine ⟨v', ?_⟩
            simp (disch := omega) only [q_166_77, q_166_79, q_166_82, q_166_83, q_166_86, q_166_88, q_166_89, q_166_90, q_166_93, q_166_95, q_166_96, q_166_99, q_166_100, q_166_103, q_166_105, q_166_106, q_166_107, q_166_110, q_166_112, q_166_113, q_166_116, q_166_118, q_166_120, q_166_123, q_166_124, q_166_127, q_166_128, q_166_130, q_166_132, q_166_133, q_166_135, q_166_136, q_166_137, q_166_138, q_166_139, q_166_142, q_166_144, q_166_147, q_166_148, q_166_151, q_166_152, q_166_153, q_166_155, q_166_158, vinT, iClamp, clr_i, clr_l, clr_r, clr_n, true_and, and_true, or_true, true_or, false_or, or_false, iLe, iLt, iEq, iAdd, iMul, List.cons_append, List.nil_append, List.append_nil, zb0, zb1, if_true, if_false, not_true_eq_false, not_false_eq_true, Bool.false_eq_true, Nat.one_ne_zero, Nat.zero_ne_one, Nat.reduceEqDiff, Nat.reduceAdd, if_pos, if_neg, m127, m128k, m128n, m129k, m129n, m130k, m130n, m131k, m131n, m132k, m132n, m133k, m133n, m134k, m134n, m135k, m135n, m136k, m136n, m137k, m137n, m138k, m138n, m139k, m139n, m140k, m140n, m141k, m141n, m142k, m142n, m143k, m143n, m144k, m144n, m145k, m145n, m146k, m146n, e1, e2, c5, c4', bit_at, c3]
            rw [Nat.add_zero, i1, Nat.zero_add]
        · obtain ⟨v', i1⟩ := ih (i + 1) c (.int (nI 0)) (by omega)
          refine ⟨v', ?_⟩
          simp (disch := omega) only [q_166_77, q_166_79, q_166_82, q_166_83, q_166_86, q_166_88, q_166_89, q_166_90, q_166_93, q_166_95, q_166_96, q_166_99, q_166_100, q_166_103, q_166_105, q_166_106, q_166_107, q_166_110, q_166_112, q_166_113, q_166_116, q_166_118, q_166_120, q_166_123, q_166_124, q_166_127, q_166_128, q_166_130, q_166_132, q_166_133, q_166_135, q_166_136, q_166_137, q_166_138, q_166_139, q_166_142, q_166_144, q_166_147, q_166_148, q_166_151, q_166_152, q_166_153, q_166_155, q_166_158, vinT, iClamp, clr_i, clr_l, clr_r, clr_n, true_and, and_true, or_true, true_or, false_or, or_false, iLe, iLt, iEq, iAdd, iMul, List.cons_append, List.nil_append, List.append_nil, zb0, zb1, if_true, if_false, not_true_eq_false, not_false_eq_true, Bool.false_eq_true, Nat.one_ne_zero, Nat.zero_ne_one, Nat.reduceEqDiff, Nat.reduceAdd, if_pos, if_neg, m127, m128k, m128n, m129k, m129n, m130k, m130n, m131k, m131n, m132k, m132n, m133k, m133n, m134k, m134n, m135k, m135n, m136k, m136n, m137k, m137n, m138k, m138n, m139k, m139n, m140k, m140n, m141k, m141n, m142k, m142n, m143k, m143n, m144k, m144n, m145k, m145n, m146k, m146n, e1, e2, c5, c4, bit_at, c3]
          rw [Nat.add_zero, i1, Nat.zero_add]
theorem l_nx2 {X : Nat × (Nat → Int32)} {σ : Mem} {Q : List Value → Mem → Prop} {a : AS} {s : Nat} {t y : Int32} (hs : s < 128) (hS : ∀ q, q < 7 → σ.1 146 q = owS a t q) : ∀ n i (v5 v6 v7 : Value), i + n = 7 → (Rn X 166 62 [.ref 127, .int (nI s), .int t, .int y, .int (nI i), v5, v6, v7] [] σ Q ↔ Q [.int (oI (fsF (rkP (owN a t) (inS s 7) y) i n))] σ) := by
  intro n
  induction n with
  | zero =>
    intro i v5 v6 v7 hi
    have e : i = 7 := by omega
    subst e
    rw [q_166_62]
    simp (disch := omega) only [q_166_64, q_166_66, q_166_69, q_166_70, q_166_72, q_166_73, q_166_161, q_166_162, q_166_164, q_166_165, q_166_166, q_166_167, q_166_168, q_166_171, q_166_173, q_166_174, q_166_177, q_166_179, q_166_180, q_166_183, q_166_186, q_166_188, vinT, iClamp, clr_i, clr_l, clr_r, clr_n, true_and, and_true, or_true, true_or, false_or, or_false, iLe, iLt, iEq, iAdd, iMul, List.cons_append, List.nil_append, List.append_nil, zb0, zb1, if_true, if_false, not_true_eq_false, not_false_eq_true, Bool.false_eq_true, Nat.one_ne_zero, Nat.zero_ne_one, Nat.reduceEqDiff, Nat.reduceAdd, if_pos, if_neg, fsF, oI]
  | succ n ih =>
    intro i v5 v6 v7 hi
    have hi7 : i < 7 := by omega
    have hm : i ∈ inS s 7 ↔ bitN s i := by rw [inS_mem]; exact ⟨fun q => q.2, fun q => ⟨hi7, q⟩⟩
    obtain ⟨v', i1⟩ := l_nx3 (X := X) (σ := σ) (Q := Q) (a := a) (t := t) (y := y) hs hi7 hS 7 0 0 v7 rfl
    rw [Nat.zero_add] at i1
    rw [q_166_62, fsF]
    simp (disch := omega) only [q_166_64, q_166_66, q_166_69, q_166_70, q_166_72, q_166_73, vinT, iClamp, clr_i, clr_l, clr_r, clr_n, true_and, and_true, or_true, true_or, false_or, or_false, iLe, iLt, iEq, iAdd, iMul, List.cons_append, List.nil_append, List.append_nil, zb0, zb1, if_true, if_false, not_true_eq_false, not_false_eq_true, Bool.false_eq_true, Nat.one_ne_zero, Nat.zero_ne_one, Nat.reduceEqDiff, Nat.reduceAdd, if_pos, if_neg]
    rw [i1]
    have hq : rkP (owN a t) (inS s 7) y i = true ↔ bitN s i ∧ nI (cnA (owN a t) (inS s 7) i) = y := by
      rw [rkP, Bool.and_eq_true, decide_eq_true_eq, decide_eq_true_eq, hm]
    have ecn : smF (fun q => if q ∈ inS s 7 then (if ah (owN a t) q i = true then 1 else 0) else 0) 0 7 = cnA (owN a t) (inS s 7) i := rfl
    rw [ecn]
    by_cases c2 : bitN s i
    · have c3 : s / 2 ^ i % 2 = 1 := c2
      by_cases c : nI (cnA (owN a t) (inS s 7) i) = y
      · rw [if_pos (hq.mpr ⟨c2, c⟩), oI]
        simp (disch := omega) only [q_166_161, q_166_162, q_166_164, q_166_165, q_166_166, q_166_167, q_166_168, q_166_171, q_166_173, q_166_174, q_166_177, q_166_179, q_166_180, q_166_183, q_166_186, q_166_188, vinT, iClamp, clr_i, clr_l, clr_r, clr_n, true_and, and_true, or_true, true_or, false_or, or_false, iLe, iLt, iEq, iAdd, iMul, List.cons_append, List.nil_append, List.append_nil, zb0, zb1, if_true, if_false, not_true_eq_false, not_false_eq_true, Bool.false_eq_true, Nat.one_ne_zero, Nat.zero_ne_one, Nat.reduceEqDiff, Nat.reduceAdd, if_pos, if_neg, bit_at, c3, c]
      · rw [if_neg (fun q => c (hq.mp q).2)]
        simp (disch := omega) only [q_166_161, q_166_162, q_166_164, q_166_165, q_166_166, q_166_167, q_166_168, q_166_171, q_166_173, q_166_174, q_166_177, q_166_179, q_166_180, q_166_183, q_166_186, q_166_188, vinT, iClamp, clr_i, clr_l, clr_r, clr_n, true_and, and_true, or_true, true_or, false_or, or_false, iLe, iLt, iEq, iAdd, iMul, List.cons_append, List.nil_append, List.append_nil, zb0, zb1, if_true, if_false, not_true_eq_false, not_false_eq_true, Bool.false_eq_true, Nat.one_ne_zero, Nat.zero_ne_one, Nat.reduceEqDiff, Nat.reduceAdd, if_pos, if_neg, bit_at, c3, c]
        rw [ih (i + 1) _ _ _ (by omega)]
    · have c3 : s / 2 ^ i % 2 = 0 := (bit01 s i).resolve_right c2
      rw [if_neg (fun q => c2 (hq.mp q).1)]
      simp (disch := omega) only [q_166_161, q_166_162, q_166_164, q_166_165, q_166_166, q_166_167, q_166_168, q_166_171, q_166_173, q_166_174, q_166_177, q_166_179, q_166_180, q_166_183, q_166_186, q_166_188, vinT, iClamp, clr_i, clr_l, clr_r, clr_n, true_and, and_true, or_true, true_or, false_or, or_false, iLe, iLt, iEq, iAdd, iMul, List.cons_append, List.nil_append, List.append_nil, zb0, zb1, if_true, if_false, not_true_eq_false, not_false_eq_true, Bool.false_eq_true, Nat.one_ne_zero, Nat.zero_ne_one, Nat.reduceEqDiff, Nat.reduceAdd, if_pos, if_neg, bit_at, c3]
      rw [ih (i + 1) _ _ _ (by omega)]
theorem inS_nd (s n : Nat) : (inS s n).Nodup := List.Pairwise.filter _ List.nodup_range
theorem m_Nx {X : Nat × (Nat → Int32)} {σ : Mem} {a : AS} {x t y : Int32} {w4 w5 w6 w7 : Value} (ok : AOK a) (h : MI σ a) : ∃ σ', Ev X 166 [.ref 127, .int x, .int t, .int y, w4, w5, w6, w7] σ [.int (anNx a x t y)] σ' ∧ MI σ' a ∧ Hi σ σ' := by
  by_cases k0 : inR x 128
  · have e0 : b2 (inR x 128) = nI 1 := b2_t k0
    rw [← b2_QR x 127 (by omega)] at e0
    rw [anNx, if_pos k0]
    obtain ⟨s, hs, rfl⟩ := inR_of k0 (by omega)
    by_cases k1 : t = -1 ∨ inR t 3
    · have e1 : b2 (t = -1 ∨ inR t 3) = nI 1 := b2_t k1
      rw [if_pos k1, tn_nI (by omega), ← rank_pA (inS_nd s 7) (fun x hx => (inS_mem.mp hx).1) (inS_len s 7)]
      obtain ⟨σ', j1, j2, j3⟩ := l_nx1 (X := X) (s := s) (y := y) (v5 := w5) (v6 := w6) (v7 := w7) ok k1 7 0 σ h rfl (fun q hq => absurd hq (by omega))
      refine ⟨σ', fun Q => ?_, MI_scr h (j3.mono SCy_scr), j3.hi SCy_ge⟩
      simp (disch := omega) only [q_166_0, q_166_1, q_166_2, q_166_3, q_166_6, q_166_9, q_166_12, q_166_13, q_166_14, q_166_17, q_166_20, q_166_23, q_166_26, q_166_28, q_166_29, q_166_30, vinT, iClamp, clr_i, clr_l, clr_r, clr_n, true_and, and_true, or_true, true_or, false_or, or_false, iLe, iLt, iEq, iAdd, iMul, List.cons_append, List.nil_append, List.append_nil, zb0, zb1, if_true, if_false, not_true_eq_false, not_false_eq_true, Bool.false_eq_true, Nat.one_ne_zero, Nat.zero_ne_one, Nat.reduceEqDiff, Nat.reduceAdd, if_pos, if_neg, s_in0, e0, s_inT, e1]
      rw [j1 Q]
      simp (disch := omega) only [q_166_59, q_166_60, vinT, iClamp, clr_i, clr_l, clr_r, clr_n, true_and, and_true, or_true, true_or, false_or, or_false, iLe, iLt, iEq, iAdd, iMul, List.cons_append, List.nil_append, List.append_nil, zb0, zb1, if_true, if_false, not_true_eq_false, not_false_eq_true, Bool.false_eq_true, Nat.one_ne_zero, Nat.zero_ne_one, Nat.reduceEqDiff, Nat.reduceAdd, if_pos, if_neg]
      rw [l_nx2 hs j2 7 0 _ _ _ rfl]
    · have e1 : b2 (t = -1 ∨ inR t 3) = nI 0 := b2_f k1
      rw [if_neg k1]
      refine ⟨σ, fun Q => ?_, h, Hi.rf σ⟩
      simp (disch := omega) only [q_166_0, q_166_1, q_166_2, q_166_3, q_166_6, q_166_9, q_166_12, q_166_13, q_166_14, q_166_17, q_166_20, q_166_23, q_166_26, q_166_28, q_166_29, q_166_30, vinT, iClamp, clr_i, clr_l, clr_r, clr_n, true_and, and_true, or_true, true_or, false_or, or_false, iLe, iLt, iEq, iAdd, iMul, List.cons_append, List.nil_append, List.append_nil, zb0, zb1, if_true, if_false, not_true_eq_false, not_false_eq_true, Bool.false_eq_true, Nat.one_ne_zero, Nat.zero_ne_one, Nat.reduceEqDiff, Nat.reduceAdd, if_pos, if_neg, s_in0, e0, s_inT, e1]
  · have e0 : b2 (inR x 128) = nI 0 := b2_f k0
    rw [← b2_QR x 127 (by omega)] at e0
    rw [anNx, if_neg k0]
    refine ⟨σ, fun Q => ?_, h, Hi.rf σ⟩
    simp (disch := omega) only [q_166_0, q_166_1, q_166_2, q_166_3, q_166_6, q_166_9, q_166_12, q_166_13, q_166_14, q_166_17, q_166_20, q_166_23, q_166_26, q_166_28, q_166_29, q_166_30, vinT, iClamp, clr_i, clr_l, clr_r, clr_n, true_and, and_true, or_true, true_or, false_or, or_false, iLe, iLt, iEq, iAdd, iMul, List.cons_append, List.nil_append, List.append_nil, zb0, zb1, if_true, if_false, not_true_eq_false, not_false_eq_true, Bool.false_eq_true, Nat.one_ne_zero, Nat.zero_ne_one, Nat.reduceEqDiff, Nat.reduceAdd, if_pos, if_neg, s_in0, e0]
