/-! ===== the reference: gets, unfair ===== -/
theorem m_Ov {X : Nat × (Nat → Int32)} {σ : Mem} {a : AS} {x : Int32} (ok : AOK a) (h : MI σ a) : ∃ σ', Ev X 142 [.ref 127, .int x] σ [.int (anOv a x)] σ' ∧ MI σ' a ∧ Hi σ σ' := by
  by_cases cc0 : inR x 8
  · have e0 : b2 (inR x 8) = nI 1 := b2_t cc0
    obtain ⟨p, hp, rfl⟩ := inR_of cc0 (by omega)
    have ea : anOv a (nI p) = nI (smF (cl a p) 0 7) - nI 100 + nI 1000 := by
      rw [anOv, if_pos cc0]
      simp (disch := omega) only [tn_nI]
    rw [ea]
    obtain ⟨m1, m2, m3, m4, m5, m6, m7, m8, m9, m10⟩ := id h
    refine ⟨σ, fun Q => ?_, h, Hi.rf σ⟩
    rw [over_eq]
    simp (disch := omega) only [q_142_0, q_142_1, q_142_4, q_142_7, q_142_8, q_142_9, q_142_12, q_142_15, q_142_16, q_142_19, q_142_20, vinT, iClamp, clr_i, clr_l, clr_r, clr_n, true_and, and_true, or_true, true_or, false_or, or_false, iLe, iLt, iEq, iAdd, iMul, List.cons_append, List.nil_append, List.append_nil, zb0, zb1, if_true, if_false, not_true_eq_false, not_false_eq_true, Bool.false_eq_true, Nat.one_ne_zero, Nat.zero_ne_one, Nat.reduceEqDiff, Nat.reduceAdd, if_pos, if_neg, s_isPaperM, e0, m127, m128k, m128n, m129k, m129n, m130k, m130n, m131k, m131n, m132k, m132n, m133k, m133n, m134k, m134n, m135k, m135n, m136k, m136n, m137k, m137n, m138k, m138n, m139k, m139n, m140k, m140n, m141k, m141n, m142k, m142n, m143k, m143n, m144k, m144n, m145k, m145n, m146k, m146n, s_allM h hp]
  · have e0 : b2 (inR x 8) = nI 0 := b2_f cc0
    refine ⟨σ, fun Q => ?_, h, Hi.rf σ⟩
    rw [anOv, if_neg cc0]
    simp (disch := omega) only [q_142_0, q_142_1, q_142_4, q_142_7, q_142_8, q_142_9, q_142_12, q_142_15, q_142_16, q_142_19, q_142_20, vinT, iClamp, clr_i, clr_l, clr_r, clr_n, true_and, and_true, or_true, true_or, false_or, or_false, iLe, iLt, iEq, iAdd, iMul, List.cons_append, List.nil_append, List.append_nil, zb0, zb1, if_true, if_false, not_true_eq_false, not_false_eq_true, Bool.false_eq_true, Nat.one_ne_zero, Nat.zero_ne_one, Nat.reduceEqDiff, Nat.reduceAdd, if_pos, if_neg, s_isPaperM, e0]
theorem m_Ge {X : Nat × (Nat → Int32)} {σ : Mem} {a : AS} {x q y : Int32} {u : Nat} (hu : u = 0 ∨ u = 1) (ok : AOK a) (h : MI σ a) : ∃ σ', Ev X 150 [.ref 127, .int x, .int q, .int y, .int (nI u)] σ [.long (anGe a x q y u)] σ' ∧ MI σ' a ∧ Hi σ σ' := by
  by_cases cc0 : inR x 8
  · have e0 : b2 (inR x 8) = nI 1 := b2_t cc0
    by_cases cc1 : inR q 7
    · have e1 : b2 (inR q 7) = nI 1 := b2_t cc1
      by_cases cc2 : inR y 3
      · have e2 : b2 (inR y 3) = nI 1 := b2_t cc2
        rw [← b2_QR y 2 (by omega)] at e2
        obtain ⟨p, hp, rfl⟩ := inR_of cc0 (by omega)
        obtain ⟨j, hj, rfl⟩ := inR_of cc1 (by omega)
        obtain ⟨m, hm, rfl⟩ := inR_of cc2 (by omega)
        have ea : anGe a (nI p) (nI j) (nI m) u = lN (tI (dvU (cl a p) m j) (dvL (cl a p) m) u) := by
          rw [anGe, if_pos cc0, if_pos cc1, if_pos cc2]
          simp (disch := omega) only [tn_nI]
        rw [ea]
        obtain ⟨m1, m2, m3, m4, m5, m6, m7, m8, m9, m10⟩ := id h
        obtain ⟨o1, o2, o3, o4, o5, o6, o7, o8⟩ := ok.1 p hp
        obtain ⟨σ', G, B1, i1, i2, i3, ⟨i4, i5⟩, i6, i7⟩ := s_getM (X := X) (u3 := .null) (u4 := .null) ok h hp hm
        have i1' := fun Q => i1 Q
        obtain ⟨b1, b2⟩ := dvL_le (cl := cl a p) (r := m) o5
        obtain ⟨z1, z2⟩ := i6 j hj
        have i3j := i3 j hj
        rw [← tI_cross (show 0 < B1 by omega) (show 0 < dvL (cl a p) m by omega) z2]
        have hls := fun (Q : List Value → Mem → Prop) (v1 v3 w0 w1 : Value) => s_told (X := X) (σ := σ') (Q := Q) (a := G j) (b := B1) (v1 := v1) (v3 := v3) (w0 := w0) (w1 := w1) (by omega) (by omega) (by omega) hu
        refine ⟨σ', fun Q => ?_, MI_scr h (i7.mono (by decide)), i7.hi (by simp)⟩
        simp (disch := omega) only [q_150_0, q_150_1, q_150_4, q_150_7, q_150_8, q_150_11, q_150_14, q_150_17, q_150_18, q_150_19, q_150_20, q_150_21, q_150_24, q_150_27, q_150_30, q_150_33, q_150_34, q_150_35, q_150_36, q_150_37, q_150_40, q_150_41, q_150_44, q_150_45, q_150_46, q_150_47, q_150_50, q_150_52, q_150_55, vinT, iClamp, clr_i, clr_l, clr_r, clr_n, true_and, and_true, or_true, true_or, false_or, or_false, iLe, iLt, iEq, iAdd, iMul, List.cons_append, List.nil_append, List.append_nil, zb0, zb1, if_true, if_false, not_true_eq_false, not_false_eq_true, Bool.false_eq_true, Nat.one_ne_zero, Nat.zero_ne_one, Nat.reduceEqDiff, Nat.reduceAdd, if_pos, if_neg, s_isPaperM, s_isPersonM, s_in0, e0, e1, e2, m127, m128k, m128n, m129k, m129n, m130k, m130n, m131k, m131n, m132k, m132n, m133k, m133n, m134k, m134n, m135k, m135n, m136k, m136n, m137k, m137n, m138k, m138n, m139k, m139n, m140k, m140n, m141k, m141n, m142k, m142n, m143k, m143n, m144k, m144n, m145k, m145n, m146k, m146n, i1', i2, i3j, hls]
      · have e2 : b2 (inR y 3) = nI 0 := b2_f cc2
        rw [← b2_QR y 2 (by omega)] at e2
        refine ⟨σ, fun Q => ?_, h, Hi.rf σ⟩
        rw [anGe, if_pos cc0, if_pos cc1, if_neg cc2]
        simp (disch := omega) only [q_150_0, q_150_1, q_150_4, q_150_7, q_150_8, q_150_11, q_150_14, q_150_17, q_150_18, q_150_19, q_150_20, q_150_21, q_150_24, q_150_27, q_150_30, q_150_33, q_150_34, q_150_35, q_150_36, q_150_37, q_150_40, q_150_41, q_150_44, q_150_45, q_150_46, q_150_47, q_150_50, q_150_52, q_150_55, vinT, iClamp, clr_i, clr_l, clr_r, clr_n, true_and, and_true, or_true, true_or, false_or, or_false, iLe, iLt, iEq, iAdd, iMul, List.cons_append, List.nil_append, List.append_nil, zb0, zb1, if_true, if_false, not_true_eq_false, not_false_eq_true, Bool.false_eq_true, Nat.one_ne_zero, Nat.zero_ne_one, Nat.reduceEqDiff, Nat.reduceAdd, if_pos, if_neg, s_isPaperM, s_isPersonM, s_in0, e0, e1, e2]
    · have e1 : b2 (inR q 7) = nI 0 := b2_f cc1
      refine ⟨σ, fun Q => ?_, h, Hi.rf σ⟩
      rw [anGe, if_pos cc0, if_neg cc1]
      simp (disch := omega) only [q_150_0, q_150_1, q_150_4, q_150_7, q_150_8, q_150_11, q_150_14, q_150_17, q_150_18, q_150_19, q_150_20, q_150_21, q_150_24, q_150_27, q_150_30, q_150_33, q_150_34, q_150_35, q_150_36, q_150_37, q_150_40, q_150_41, q_150_44, q_150_45, q_150_46, q_150_47, q_150_50, q_150_52, q_150_55, vinT, iClamp, clr_i, clr_l, clr_r, clr_n, true_and, and_true, or_true, true_or, false_or, or_false, iLe, iLt, iEq, iAdd, iMul, List.cons_append, List.nil_append, List.append_nil, zb0, zb1, if_true, if_false, not_true_eq_false, not_false_eq_true, Bool.false_eq_true, Nat.one_ne_zero, Nat.zero_ne_one, Nat.reduceEqDiff, Nat.reduceAdd, if_pos, if_neg, s_isPaperM, s_isPersonM, s_in0, e0, e1]
  · have e0 : b2 (inR x 8) = nI 0 := b2_f cc0
    refine ⟨σ, fun Q => ?_, h, Hi.rf σ⟩
    rw [anGe, if_neg cc0]
    simp (disch := omega) only [q_150_0, q_150_1, q_150_4, q_150_7, q_150_8, q_150_11, q_150_14, q_150_17, q_150_18, q_150_19, q_150_20, q_150_21, q_150_24, q_150_27, q_150_30, q_150_33, q_150_34, q_150_35, q_150_36, q_150_37, q_150_40, q_150_41, q_150_44, q_150_45, q_150_46, q_150_47, q_150_50, q_150_52, q_150_55, vinT, iClamp, clr_i, clr_l, clr_r, clr_n, true_and, and_true, or_true, true_or, false_or, or_false, iLe, iLt, iEq, iAdd, iMul, List.cons_append, List.nil_append, List.append_nil, zb0, zb1, if_true, if_false, not_true_eq_false, not_false_eq_true, Bool.false_eq_true, Nat.one_ne_zero, Nat.zero_ne_one, Nat.reduceEqDiff, Nat.reduceAdd, if_pos, if_neg, s_isPaperM, s_isPersonM, s_in0, e0]
/-! how unfair -/
def ufM (G pt : Nat → Nat) (B wh q : Nat) : Nat := ((G q * wh : Nat) - (100 * pt q * B : Nat) : Int).natAbs
theorem ufM_le {G pt : Nat → Nat} {B wh : Nat} (b1 : ∀ q, q < 7 → G q ≤ 10000) (b2 : B ≤ 700) (b3 : wh ≤ 567106596) (b4 : ∀ q, q < 7 → pt q ≤ 567106596) : smF (ufM G pt B wh) 0 7 ≤ 7 * 45368527680000 := smF_le 7 0 (fun q _ hq => by
  have m1 : G q * wh ≤ 10000 * 567106596 := Nat.mul_le_mul (b1 q (by omega)) b3
  have m2 : 100 * pt q * B ≤ 100 * 567106596 * 700 := Nat.mul_le_mul (Nat.mul_le_mul (Nat.le_refl _) (b4 q (by omega))) b2
  unfold ufM
  omega)
theorem l_unfM {X : Nat × (Nat → Int32)} {p r B wh : Nat} {G pt : Nat → Nat} (b1 : ∀ q, q < 7 → G q ≤ 10000) (b2 : B ≤ 700) (b3 : wh ≤ 567106596) (b4 : ∀ q, q < 7 → pt q ≤ 567106596) : ∀ n i s (σ : Mem) (v4 v5 : Value), i + n = 7 → σ.2 127 17 = lN B → σ.2 127 7 = lN wh → (∀ q, q < 7 → σ.2 141 q = lN (G q)) → (∀ q, q < 7 → σ.2 134 q = lN (pt q)) → σ.2 127 18 = lN s → ∃ σ' w4 w5, (∀ Q, Rn X 151 31 [.ref 127, .int (nI p), .int (nI r), .int (nI i), v4, v5] [] σ Q ↔ Rn X 151 96 [.ref 127, .int (nI p), .int (nI r), .int (nI 7), w4, w5] [] σ' Q) ∧ σ'.2 127 18 = lN (s + smF (ufM G pt B wh) i n) ∧ (∀ j, j ≠ 18 → σ'.2 127 j = σ.2 127 j) ∧ Off [127] σ σ' := by
  intro n
  induction n with
  | zero =>
    intro i s σ v4 v5 hi h1 h2 h3 h4 h5
    have e : i = 7 := by omega
    subst e
    refine ⟨σ, v4, v5, fun Q => ?_, h5, fun _ _ => rfl, Off.rf _ _⟩
    rw [q_151_31]
    simp (disch := omega) only [q_151_32, q_151_34, q_151_37, q_151_38, q_151_41, q_151_42, q_151_43, q_151_44, q_151_47, q_151_48, q_151_51, q_151_52, q_151_55, q_151_56, q_151_57, q_151_58, q_151_59, q_151_62, q_151_63, q_151_64, q_151_66, q_151_67, q_151_68, q_151_71, q_151_73, q_151_74, q_151_75, q_151_78, q_151_80, q_151_81, q_151_84, q_151_86, q_151_87, q_151_90, q_151_93, vinT, iClamp, clr_i, clr_l, clr_r, clr_n, true_and, and_true, or_true, true_or, false_or, or_false, iLe, iLt, iEq, iAdd, iMul, List.cons_append, List.nil_append, List.append_nil, zb0, zb1, if_true, if_false, not_true_eq_false, not_false_eq_true, Bool.false_eq_true, Nat.one_ne_zero, Nat.zero_ne_one, Nat.reduceEqDiff, Nat.reduceAdd, if_pos, if_neg]
  | succ n ih =>
    intro i s σ v4 v5 hi h1 h2 h3 h4 h5
    have q3 := b1 i (by omega)
    have q4 := b4 i (by omega)
    have m1 : G i * wh ≤ 10000 * 567106596 := Nat.mul_le_mul q3 b3
    have m2 : 100 * pt i * B ≤ 100 * 567106596 * 700 := Nat.mul_le_mul (Nat.mul_le_mul (Nat.le_refl _) q4) b2
    have e3 := absZ (z := (G i * wh : Nat) - (100 * pt i * B : Nat)) (by omega) (by omega)
    have e4 : ((G i * wh : Nat) - (100 * pt i * B : Nat) : Int).natAbs = ufM G pt B wh i := rfl
    rw [e4] at e3
    have ho : Off [127] σ (sL σ 127 18 (lN (s + ufM G pt B wh i))) := (Off.rf _ σ).sL (by simp) _ _
    obtain ⟨σ', w4, w5, i1, i2, i3, i4⟩ := ih (i + 1) (s + ufM G pt B wh i) (sL σ 127 18 (lN (s + ufM G pt B wh i))) (.long (zL ((G i * wh : Nat) - (100 * pt i * B : Nat)))) .null (by omega) (by rw [sL_off (by omega)]; exact h1) (by rw [sL_off (by omega)]; exact h2) (fun q hq => by rw [sL_off (by omega)]; exact h3 q hq) (fun q hq => by rw [sL_off (by omega)]; exact h4 q hq) (sL_at _ _ _ _)
    refine ⟨σ', w4, w5, fun Q => ?_, by rw [i2, smF, Nat.add_assoc], fun j hj => by rw [i3 j hj, sL_off (by omega)], ho.tr i4⟩
    rw [q_151_31]
    have i1' := i1 Q
    by_cases c : zL ((G i * wh : Nat) - (100 * pt i * B : Nat)) < lN 0
    · rw [if_pos c] at e3
      simp (disch := omega) only [q_151_32, q_151_34, q_151_37, q_151_38, q_151_41, q_151_42, q_151_43, q_151_44, q_151_47, q_151_48, q_151_51, q_151_52, q_151_55, q_151_56, q_151_57, q_151_58, q_151_59, q_151_62, q_151_63, q_151_64, q_151_66, q_151_67, q_151_68, q_151_71, q_151_73, q_151_74, q_151_75, q_151_78, q_151_80, q_151_81, q_151_84, q_151_86, q_151_87, q_151_90, q_151_93, vinT, iClamp, clr_i, clr_l, clr_r, clr_n, true_and, and_true, or_true, true_or, false_or, or_false, iLe, iLt, iEq, iAdd, iMul, List.cons_append, List.nil_append, List.append_nil, zb0, zb1, if_true, if_false, not_true_eq_false, not_false_eq_true, Bool.false_eq_true, Nat.one_ne_zero, Nat.zero_ne_one, Nat.reduceEqDiff, Nat.reduceAdd, if_pos, if_neg, m127, m128k, m128n, m129k, m129n, m130k, m130n, m131k, m131n, m132k, m132n, m133k, m133n, m134k, m134n, m135k, m135n, m136k, m136n, m137k, m137n, m138k, m138n, m139k, m139n, m140k, m140n, m141k, m141n, m142k, m142n, m143k, m143n, m144k, m144n, m145k, m145n, m146k, m146n, h1, h2, h3 i (by omega), h4 i (by omega), h5, lMul, lSubZ, lc_ge, c, e3, lAdd]
      exact i1'
    · rw [if_neg c] at e3
      have e5 : lN s + zL ((G i * wh : Nat) - (100 * pt i * B : Nat)) = lN (s + ufM G pt B wh i) := by rw [e3, lAdd]
      simp (disch := omega) only [q_151_32, q_151_34, q_151_37, q_151_38, q_151_41, q_151_42, q_151_43, q_151_44, q_151_47, q_151_48, q_151_51, q_151_52, q_151_55, q_151_56, q_151_57, q_151_58, q_151_59, q_151_62, q_151_63, q_151_64, q_151_66, q_151_67, q_151_68, q_151_71, q_151_73, q_151_74, q_151_75, q_151_78, q_151_80, q_151_81, q_151_84, q_151_86, q_151_87, q_151_90, q_151_93, vinT, iClamp, clr_i, clr_l, clr_r, clr_n, true_and, and_true, or_true, true_or, false_or, or_false, iLe, iLt, iEq, iAdd, iMul, List.cons_append, List.nil_append, List.append_nil, zb0, zb1, if_true, if_false, not_true_eq_false, not_false_eq_true, Bool.false_eq_true, Nat.one_ne_zero, Nat.zero_ne_one, Nat.reduceEqDiff, Nat.reduceAdd, if_pos, if_neg, m127, m128k, m128n, m129k, m129n, m130k, m130n, m131k, m131n, m132k, m132n, m133k, m133n, m134k, m134n, m135k, m135n, m136k, m136n, m137k, m137n, m138k, m138n, m139k, m139n, m140k, m140n, m141k, m141n, m142k, m142n, m143k, m143n, m144k, m144n, m145k, m145n, m146k, m146n, h1, h2, h3 i (by omega), h4 i (by omega), h5, lMul, lSubZ, lc_ge, c, e5]
      exact i1'
theorem nab_mul (x y z w L B : Nat) (e1 : x * L = z * B) (e2 : y * L = w * B) : ((x : Nat) - (y : Nat) : Int).natAbs * L = ((z : Nat) - (w : Nat) : Int).natAbs * B := by
  have h : (((x : Nat) - (y : Nat) : Int) * (L : Nat)) = (((z : Nat) - (w : Nat) : Int) * (B : Nat)) := by
    rw [Int.sub_mul, Int.sub_mul]
    have a1 : ((x : Nat) : Int) * (L : Nat) = ((z : Nat) : Int) * (B : Nat) := by exact_mod_cast e1
    have a2 : ((y : Nat) : Int) * (L : Nat) = ((w : Nat) : Int) * (B : Nat) := by exact_mod_cast e2
    rw [a1, a2]
  have h2 := congrArg Int.natAbs h
  rw [Int.natAbs_mul, Int.natAbs_mul, Int.natAbs_natCast, Int.natAbs_natCast] at h2
  exact h2
theorem smF_mulR {f g : Nat → Nat} {x y : Nat} : ∀ n i, (∀ j, i ≤ j → j < i + n → f j * x = g j * y) → smF f i n * x = smF g i n * y
  | 0, i, _ => by simp [smF]
  | n + 1, i, h => by
    rw [smF, smF, Nat.add_mul, Nat.add_mul, h i (by omega) (by omega), smF_mulR n (i + 1) (fun j a b => h j (by omega) (by omega))]
abbrev ufD (a : AS) (p r : Nat) : Nat := dvL (cl a p) r * whL (wt a p) (hr a p)
theorem s_unfM {X : Nat × (Nat → Int32)} {σ : Mem} {a : AS} {p r : Nat} {u3 u4 u5 : Value} (ok : AOK a) (h : MI σ a) (hp : p < 8) (hr3 : r < 3) : ∃ σ', Ev X 151 [.ref 127, .int (nI p), .int (nI r), u3, u4, u5] σ [] σ' ∧ σ'.2 127 18 = lN (tI (ufS a p r) (ufD a p r) 1) ∧ σ'.2 127 19 = lN (tI (ufS a p r) (ufD a p r) 0) ∧ Off [127, 134, 141] σ σ' := by
  obtain ⟨o1, o2, o3, o4, o5, o6, o7, o8⟩ := ok.1 p hp
  obtain ⟨σ1, G, B1, i1, i2, i3, ⟨i4, i5⟩, i6, i7⟩ := s_getM (X := X) (u3 := .null) (u4 := .null) ok h hp hr3
  have i1' := fun Q => i1 Q
  have h1 := MI_scr h (i7.mono (by decide))
  obtain ⟨σ2, j1, j2, j3, j4, j5⟩ := s_layM (X := X) (u1 := .null) (u2 := .null) (u3 := .null) (u4 := .null) (u5 := .null) ok h1 hp
  have j1' := fun Q => j1 Q
  have ho2 : Off [127, 134, 141] σ σ2 := (i7.mono (by simp)).tr (j3.mono (by simp))
  have z2 := (pt_le ok hp (show 0 < 7 by omega)).2.1
  have z3 := (pt_le ok hp (show 0 < 7 by omega)).2.2
  have k17 : σ2.2 127 17 = lN B1 := by rw [j4 17 (by omega)]; exact i2
  have k7 : σ2.2 127 7 = lN (whL (wt a p) (hr a p)) := j2.1
  obtain ⟨σ3, w4, w5, l1, l2, l3, l4⟩ := l_unfM (X := X) (p := p) (r := r) (B := B1) (wh := whL (wt a p) (hr a p)) (G := G) (pt := fun q => ptL (wt a p) (hr a p) q 4) (fun q hq => (i6 q hq).1) i5 z2 (fun q hq => (pt_le ok hp hq).1) 7 0 0 (sL (sL σ2 127 18 (lN 0)) 127 19 (lN (B1 * whL (wt a p) (hr a p)))) u4 u5 rfl (by rw [sL_off (by omega), sL_off (by omega)]; exact k17) (by rw [sL_off (by omega), sL_off (by omega)]; exact k7) (fun q hq => by rw [sL_off (by omega), sL_off (by omega), (j3 141 (by simp)).2]; exact i3 q hq) (fun q hq => by rw [sL_off (by omega), sL_off (by omega)]; exact j2.2 q hq) (by rw [sL_off (by omega), sL_at])
  rw [Nat.zero_add] at l2
  have k19 : σ3.2 127 19 = lN (B1 * whL (wt a p) (hr a p)) := by rw [l3 19 (by omega), sL_at]
  obtain ⟨d1, d2⟩ := dvL_le (cl := cl a p) (r := r) o5
  have hV : smF (ufM G (fun q => ptL (wt a p) (hr a p) q 4) B1 (whL (wt a p) (hr a p))) 0 7 * dvL (cl a p) r = ufS a p r * B1 := smF_mulR 7 0 (fun q _ hq => nab_mul _ _ _ _ _ _ (by rw [Nat.mul_right_comm, (i6 q (by omega)).2, Nat.mul_right_comm]) (by rw [Nat.mul_comm 100, Nat.mul_right_comm]))
  have hcr : ∀ u, tI (smF (ufM G (fun q => ptL (wt a p) (hr a p) q 4) B1 (whL (wt a p) (hr a p))) 0 7) (B1 * whL (wt a p) (hr a p)) u = tI (ufS a p r) (ufD a p r) u := fun u => tI_cross (Nat.mul_pos (by omega) z3) (Nat.mul_pos (by omega) z3) (by rw [← Nat.mul_assoc, hV, Nat.mul_assoc])
  have hb : smF (ufM G (fun q => ptL (wt a p) (hr a p) q 4) B1 (whL (wt a p) (hr a p))) 0 7 ≤ 7 * 45368527680000 := ufM_le (fun q hq => (i6 q hq).1) i5 z2 (fun q hq => (pt_le ok hp hq).1)
  have hd : B1 * whL (wt a p) (hr a p) ≤ 700 * 567106596 := Nat.mul_le_mul i5 z2
  have hd0 : 0 < B1 * whL (wt a p) (hr a p) := Nat.mul_pos (by omega) z3
  have t1 := hcr 1
  have t0 := hcr 0
  rw [tI_1] at t1
  rw [tI_0] at t0
  generalize smF (ufM G (fun q => ptL (wt a p) (hr a p) q 4) B1 (whL (wt a p) (hr a p))) 0 7 = V at *
  have hg : 0 < Nat.gcd V (B1 * whL (wt a p) (hr a p)) := Nat.gcd_pos_of_pos_right _ hd0
  have hgl : Nat.gcd V (B1 * whL (wt a p) (hr a p)) ≤ B1 * whL (wt a p) (hr a p) := Nat.gcd_le_right _ hd0
  have hc := fun (Q : List Value → Mem → Prop) (v1 v3 u0 u1 u2 u3 u4 u5 : Value) => s_commonM (X := X) (σ := σ3) (Q := Q) (a := V) (b := B1 * whL (wt a p) (hr a p)) (v1 := v1) (v3 := v3) (u0 := u0) (u1 := u1) (u2 := u2) (u3 := u3) (u4 := u4) (u5 := u5) (by omega) (by omega)
  refine ⟨sL (sL σ3 127 18 (lN (tI (ufS a p r) (ufD a p r) 1))) 127 19 (lN (tI (ufS a p r) (ufD a p r) 0)), fun Q => ?_, by rw [sL_off (by omega), sL_at], by rw [sL_at], (((ho2.sL (by simp) _ _).sL (by simp) _ _).tr (l4.mono (by simp))).sL (by simp) _ _ |>.sL (by simp) _ _⟩
  simp (disch := omega) only [q_151_0, q_151_1, q_151_2, q_151_3, q_151_6, q_151_7, q_151_8, q_151_11, q_151_12, q_151_13, q_151_16, q_151_17, q_151_18, q_151_21, q_151_22, q_151_25, q_151_26, q_151_29, q_151_30, vinT, iClamp, clr_i, clr_l, clr_r, clr_n, true_and, and_true, or_true, true_or, false_or, or_false, iLe, iLt, iEq, iAdd, iMul, List.cons_append, List.nil_append, List.append_nil, zb0, zb1, if_true, if_false, not_true_eq_false, not_false_eq_true, Bool.false_eq_true, Nat.one_ne_zero, Nat.zero_ne_one, Nat.reduceEqDiff, Nat.reduceAdd, if_pos, if_neg, m127, m128k, m128n, m129k, m129n, m130k, m130n, m131k, m131n, m132k, m132n, m133k, m133n, m134k, m134n, m135k, m135n, m136k, m136n, m137k, m137n, m138k, m138n, m139k, m139n, m140k, m140n, m141k, m141n, m142k, m142n, m143k, m143n, m144k, m144n, m145k, m145n, m146k, m146n, i1', j1', sL_off, k17, k7, lMul]
  rw [l1 Q]
  simp (disch := omega) only [q_151_96, q_151_97, q_151_100, q_151_101, q_151_104, q_151_107, vinT, iClamp, clr_i, clr_l, clr_r, clr_n, true_and, and_true, or_true, true_or, false_or, or_false, iLe, iLt, iEq, iAdd, iMul, List.cons_append, List.nil_append, List.append_nil, zb0, zb1, if_true, if_false, not_true_eq_false, not_false_eq_true, Bool.false_eq_true, Nat.one_ne_zero, Nat.zero_ne_one, Nat.reduceEqDiff, Nat.reduceAdd, if_pos, if_neg, m127, m128k, m128n, m129k, m129n, m130k, m130n, m131k, m131n, m132k, m132n, m133k, m133n, m134k, m134n, m135k, m135n, m136k, m136n, m137k, m137n, m138k, m138n, m139k, m139n, m140k, m140n, m141k, m141n, m142k, m142n, m143k, m143n, m144k, m144n, m145k, m145n, m146k, m146n, l2, k19, hc]
  simp (disch := omega) only [q_151_108, q_151_109, q_151_110, q_151_113, q_151_114, q_151_115, q_151_118, q_151_119, q_151_120, q_151_123, q_151_124, q_151_125, q_151_128, vinT, iClamp, clr_i, clr_l, clr_r, clr_n, true_and, and_true, or_true, true_or, false_or, or_false, iLe, iLt, iEq, iAdd, iMul, List.cons_append, List.nil_append, List.append_nil, zb0, zb1, if_true, if_false, not_true_eq_false, not_false_eq_true, Bool.false_eq_true, Nat.one_ne_zero, Nat.zero_ne_one, Nat.reduceEqDiff, Nat.reduceAdd, if_pos, if_neg, m127, m128k, m128n, m129k, m129n, m130k, m130n, m131k, m131n, m132k, m132n, m133k, m133n, m134k, m134n, m135k, m135n, m136k, m136n, m137k, m137n, m138k, m138n, m139k, m139n, m140k, m140n, m141k, m141n, m142k, m142n, m143k, m143n, m144k, m144n, m145k, m145n, m146k, m146n, l2, k19, lNe0, lDiv, t1, t0, sL_off]
theorem m_Uf {X : Nat × (Nat → Int32)} {σ : Mem} {a : AS} {x y : Int32} {u : Nat} (hu : u = 0 ∨ u = 1) (ok : AOK a) (h : MI σ a) : ∃ σ', Ev X 152 [.ref 127, .int x, .int y, .int (nI u)] σ [.long (anUf a x y u)] σ' ∧ MI σ' a ∧ Hi σ σ' := by
  by_cases cc0 : inR x 8
  · have e0 : b2 (inR x 8) = nI 1 := b2_t cc0
    by_cases cc1 : inR y 3
    · have e1 : b2 (inR y 3) = nI 1 := b2_t cc1
      rw [← b2_QR y 2 (by omega)] at e1
      obtain ⟨p, hp, rfl⟩ := inR_of cc0 (by omega)
      obtain ⟨m, hm, rfl⟩ := inR_of cc1 (by omega)
      have ea : anUf a (nI p) (nI m) u = lN (tI (smF (ufF (dvU (cl a p) m) (fun q => ptL (wt a p) (hr a p) q 4) (dvL (cl a p) m) (whL (wt a p) (hr a p))) 0 7) (dvL (cl a p) m * whL (wt a p) (hr a p)) u) := by
        rw [anUf, if_pos cc0, if_pos cc1]
        simp (disch := omega) only [tn_nI]
      rw [ea]
      obtain ⟨m1, m2, m3, m4, m5, m6, m7, m8, m9, m10⟩ := id h
      obtain ⟨σ', i1, i2, i3, i4⟩ := s_unfM (X := X) (u3 := .null) (u4 := .null) (u5 := .null) ok h hp hm
      have i1' := fun Q => i1 Q
      refine ⟨σ', fun Q => ?_, MI_scr h (i4.mono (by decide)), i4.hi (by simp)⟩
      show _ ↔ Q [.long (lN (tI (ufS a p m) (ufD a p m) u))] σ'
      rcases hu with rfl | rfl
      · simp (disch := omega) only [q_152_0, q_152_1, q_152_4, q_152_7, q_152_10, q_152_11, q_152_12, q_152_13, q_152_14, q_152_17, q_152_20, q_152_23, q_152_26, q_152_27, q_152_28, q_152_29, q_152_30, q_152_33, q_152_34, q_152_37, q_152_38, q_152_41, q_152_44, q_152_45, q_152_48, vinT, iClamp, clr_i, clr_l, clr_r, clr_n, true_and, and_true, or_true, true_or, false_or, or_false, iLe, iLt, iEq, iAdd, iMul, List.cons_append, List.nil_append, List.append_nil, zb0, zb1, if_true, if_false, not_true_eq_false, not_false_eq_true, Bool.false_eq_true, Nat.one_ne_zero, Nat.zero_ne_one, Nat.reduceEqDiff, Nat.reduceAdd, if_pos, if_neg, s_isPaperM, s_in0, e0, e1, m127, m128k, m128n, m129k, m129n, m130k, m130n, m131k, m131n, m132k, m132n, m133k, m133n, m134k, m134n, m135k, m135n, m136k, m136n, m137k, m137n, m138k, m138n, m139k, m139n, m140k, m140n, m141k, m141n, m142k, m142n, m143k, m143n, m144k, m144n, m145k, m145n, m146k, m146n, i1', i2, i3]
      · simp (disch := omega) only [q_152_0, q_152_1, q_152_4, q_152_7, q_152_10, q_152_11, q_152_12, q_152_13, q_152_14, q_152_17, q_152_20, q_152_23, q_152_26, q_152_27, q_152_28, q_152_29, q_152_30, q_152_33, q_152_34, q_152_37, q_152_38, q_152_41, q_152_44, q_152_45, q_152_48, vinT, iClamp, clr_i, clr_l, clr_r, clr_n, true_and, and_true, or_true, true_or, false_or, or_false, iLe, iLt, iEq, iAdd, iMul, List.cons_append, List.nil_append, List.append_nil, zb0, zb1, if_true, if_false, not_true_eq_false, not_false_eq_true, Bool.false_eq_true, Nat.one_ne_zero, Nat.zero_ne_one, Nat.reduceEqDiff, Nat.reduceAdd, if_pos, if_neg, s_isPaperM, s_in0, e0, e1, m127, m128k, m128n, m129k, m129n, m130k, m130n, m131k, m131n, m132k, m132n, m133k, m133n, m134k, m134n, m135k, m135n, m136k, m136n, m137k, m137n, m138k, m138n, m139k, m139n, m140k, m140n, m141k, m141n, m142k, m142n, m143k, m143n, m144k, m144n, m145k, m145n, m146k, m146n, i1', i2, i3]
    · have e1 : b2 (inR y 3) = nI 0 := b2_f cc1
      rw [← b2_QR y 2 (by omega)] at e1
      refine ⟨σ, fun Q => ?_, h, Hi.rf σ⟩
      rw [anUf, if_pos cc0, if_neg cc1]
      simp (disch := omega) only [q_152_0, q_152_1, q_152_4, q_152_7, q_152_10, q_152_11, q_152_12, q_152_13, q_152_14, q_152_17, q_152_20, q_152_23, q_152_26, q_152_27, q_152_28, q_152_29, q_152_30, q_152_33, q_152_34, q_152_37, q_152_38, q_152_41, q_152_44, q_152_45, q_152_48, vinT, iClamp, clr_i, clr_l, clr_r, clr_n, true_and, and_true, or_true, true_or, false_or, or_false, iLe, iLt, iEq, iAdd, iMul, List.cons_append, List.nil_append, List.append_nil, zb0, zb1, if_true, if_false, not_true_eq_false, not_false_eq_true, Bool.false_eq_true, Nat.one_ne_zero, Nat.zero_ne_one, Nat.reduceEqDiff, Nat.reduceAdd, if_pos, if_neg, s_isPaperM, s_in0, e0, e1]
  · have e0 : b2 (inR x 8) = nI 0 := b2_f cc0
    refine ⟨σ, fun Q => ?_, h, Hi.rf σ⟩
    rw [anUf, if_neg cc0]
    simp (disch := omega) only [q_152_0, q_152_1, q_152_4, q_152_7, q_152_10, q_152_11, q_152_12, q_152_13, q_152_14, q_152_17, q_152_20, q_152_23, q_152_26, q_152_27, q_152_28, q_152_29, q_152_30, q_152_33, q_152_34, q_152_37, q_152_38, q_152_41, q_152_44, q_152_45, q_152_48, vinT, iClamp, clr_i, clr_l, clr_r, clr_n, true_and, and_true, or_true, true_or, false_or, or_false, iLe, iLt, iEq, iAdd, iMul, List.cons_append, List.nil_append, List.append_nil, zb0, zb1, if_true, if_false, not_true_eq_false, not_false_eq_true, Bool.false_eq_true, Nat.one_ne_zero, Nat.zero_ne_one, Nat.reduceEqDiff, Nat.reduceAdd, if_pos, if_neg, s_isPaperM, s_in0, e0]
