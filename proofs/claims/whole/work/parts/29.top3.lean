/-! ===== the class: setting, the rest ===== -/
def anTk (a : AS) (x t w v : Int32) : Int32 := if inR x 8 then (if inR t 4 then (if w = nI 0 then (if inQ v 9 then nI (wt a (tn x) (tn t)) else -2) else if w = nI 1 then (if inQ v 50 then nI (co a (tn x) (tn t)) else -2) else -2) else -1) else -1
def nxTk (a : AS) (x t w v : Int32) : AS := if inR x 8 ∧ inR t 4 then (if w = nI 0 then (if inQ v 9 then setWt a (tn x) (tn t) (tn v) else a) else if w = nI 1 then (if inQ v 50 then setCo a (tn x) (tn t) (tn v) else a) else a) else a
theorem x_Tk {X : Nat × (Nat → Int32)} {σ : Mem} {a : AS} {x t w v : Int32} {w0 w1 : Value} (h : CI σ a) : ∃ σ', Ev X 45 [.ref 0, .int x, .int t, .int w, .int v, w0, w1] σ [.int (anTk a x t w v)] σ' ∧ CI σ' (nxTk a x t w v) ∧ Lo σ σ' := by
  by_cases k0 : inR x 8
  · have e0 : b2 (inR x 8) = nI 1 := b2_t k0
    by_cases k1 : inR t 4
    · have e1 : b2 (inR t 4) = nI 1 := b2_t k1
      obtain ⟨p, hp, rfl⟩ := inR_of k0 (by omega)
      obtain ⟨s, hs, rfl⟩ := inR_of k1 (by omega)
      have hk := pk_K p hp
      obtain ⟨⟨q1, q2⟩, q3, q4, q5, q6, q7, q8⟩ := h.1 p hp
      obtain ⟨⟨f1, f2, f3, f4, f5, f6⟩, ⟨f7, f8, f9, f10, f11, f13, f14⟩, f12⟩ := F2 hk
      obtain ⟨y1, y2, y3, y4⟩ := id q3
      rw [anTk, if_pos k0, if_pos k1, nxTk, if_pos (show inR (nI p) 8 ∧ inR (nI s) 4 from ⟨k0, k1⟩), tn_nI (by omega), tn_nI (by omega)]
      by_cases k2 : w = nI 0
      · subst k2
        rw [if_pos rfl, if_pos rfl]
        by_cases k3 : inQ v 9
        · have e3 : b2 (inQ v 9) = nI 1 := b2_t k3
          rw [if_pos k3, if_pos k3]
          obtain ⟨r1, hr1, rfl⟩ := inQ_of k3 (by omega)
          rw [tn_nI (by omega)]
          have ho : Off [pk p + 1] σ (sI σ (pk p + 1) s (nI r1)) := (Off.rf _ σ).sI (by simp) _ _
          have ew : wt (setWt a p s r1) p = u1 (wt a p) s r1 := by simp [setWt, wt, u1_at]
          have hW : WH (sI σ (pk p + 1) s (nI r1)) (pk p) (u1 (wt a p) s r1) (hr a p) := by
            refine ⟨fun t ht => ?_, fun t ht i hi => by rw [sI_off (by omega)]; exact y2 t ht i hi, fun t ht => ?_, y4⟩
            · by_cases e : t = s
              · subst e; rw [sI_at, u1_at]
              · rw [sI_off (by omega), u1_ne e]; exact y1 t ht
            · by_cases e : t = s
              · subst e; rw [u1_at]; exact hr1
              · rw [u1_ne e]; exact y3 t ht
          obtain ⟨σ', i1, i2, i3, i4⟩ := s_reckon (X := X) (u1 := .null) (u2 := .null) (u3 := .null) (u4 := .null) hk hW
          have i1' := fun Q => i1 Q
          have ho2 : Off [pk p + 1, pk p, pk p + 11] σ σ' := (ho.mono (by simp)).tr (i4.mono (by simp))
          refine ⟨σ', fun Q => ?_, CI_set h hp (fun b hb => ho2 b (by simp; omega)) ⟨⟨by rw [i3, sI_off (by omega)]; exact q1, q2⟩, ?_, ?_, fun t ht => by rw [(ho2 (pk p + 2) (by simp)).1]; exact q5 t ht, fun p' hp' => by rw [(ho2 (pk p + 8) (by simp)).1]; exact q6 p' hp', RI_off q7 ho2 (by simp) (by simp <;> omega), q8⟩ hsW rfl rfl rfl, ho2.lo (by simp [pk]; omega)⟩
          · simp (disch := omega) only [q_45_0, q_45_1, q_45_4, q_45_7, q_45_8, q_45_11, q_45_14, q_45_15, q_45_16, q_45_17, q_45_20, q_45_21, q_45_22, q_45_25, q_45_27, q_45_28, q_45_30, q_45_31, q_45_34, q_45_36, q_45_39, q_45_41, q_45_44, q_45_47, q_45_49, q_45_50, q_45_51, q_45_54, q_45_55, q_45_58, q_45_59, q_45_60, q_45_63, q_45_66, q_45_67, q_45_70, q_45_71, q_45_72, q_45_75, q_45_77, q_45_79, q_45_80, q_45_81, q_45_83, q_45_85, q_45_86, q_45_88, q_45_89, q_45_90, q_45_93, q_45_94, q_45_95, q_45_98, q_45_100, vinT, iClamp, clr_i, clr_l, clr_r, clr_n, true_and, and_true, or_true, true_or, false_or, or_false, iLe, iLt, iEq, iAdd, iMul, List.cons_append, List.nil_append, List.append_nil, zb0, zb1, if_true, if_false, not_true_eq_false, not_false_eq_true, Bool.false_eq_true, Nat.one_ne_zero, Nat.zero_ne_one, Nat.reduceEqDiff, Nat.reduceAdd, if_pos, if_neg, s_isPaper, s_isTask, s_isWithin, e0, e1, e3, c0, c1k, c1n, rA1, hk, f1, f2, y1 s hs, i1']
          · rw [ew]; exact WH_congr hW (fun b b1 b2 => (i4 b (by simp; omega)).1)
          · rw [ew]; exact i2
        · have e3 : b2 (inQ v 9) = nI 0 := b2_f k3
          rw [if_neg k3, if_neg k3]
          refine ⟨σ, fun Q => ?_, h, Lo.rf σ⟩
          simp (disch := omega) only [q_45_0, q_45_1, q_45_4, q_45_7, q_45_8, q_45_11, q_45_14, q_45_15, q_45_16, q_45_17, q_45_20, q_45_21, q_45_22, q_45_25, q_45_27, q_45_28, q_45_30, q_45_31, q_45_34, q_45_36, q_45_39, q_45_41, q_45_44, q_45_47, q_45_49, q_45_50, q_45_51, q_45_54, q_45_55, q_45_58, q_45_59, q_45_60, q_45_63, q_45_66, q_45_67, q_45_70, q_45_71, q_45_72, q_45_75, q_45_77, q_45_79, q_45_80, q_45_81, q_45_83, q_45_85, q_45_86, q_45_88, q_45_89, q_45_90, q_45_93, q_45_94, q_45_95, q_45_98, q_45_100, vinT, iClamp, clr_i, clr_l, clr_r, clr_n, true_and, and_true, or_true, true_or, false_or, or_false, iLe, iLt, iEq, iAdd, iMul, List.cons_append, List.nil_append, List.append_nil, zb0, zb1, if_true, if_false, not_true_eq_false, not_false_eq_true, Bool.false_eq_true, Nat.one_ne_zero, Nat.zero_ne_one, Nat.reduceEqDiff, Nat.reduceAdd, if_pos, if_neg, s_isPaper, s_isTask, s_isWithin, e0, e1, e3]
      · rw [if_neg k2, if_neg k2]
        by_cases k4 : w = nI 1
        · subst k4
          rw [if_pos rfl, if_pos rfl]
          by_cases k3 : inQ v 50
          · have e3 : b2 (inQ v 50) = nI 1 := b2_t k3
            rw [if_pos k3, if_pos k3]
            obtain ⟨r1, hr1, rfl⟩ := inQ_of k3 (by omega)
            rw [tn_nI (by omega)]
            have ho : Off [pk p + 2] σ (sI σ (pk p + 2) s (nI r1)) := (Off.rf _ σ).sI (by simp) _ _
            have ew : co (setCo a p s r1) p = u1 (co a p) s r1 := by simp [setCo, co, u1_at]
            have hW : WH (sI σ (pk p + 2) s (nI r1)) (pk p) (wt a p) (hr a p) := WH_congr' q3 (fun b b1 => (ho b (by simp; omega)).1)
            obtain ⟨σ', i1, i2, i3, i4⟩ := s_reckon (X := X) (u1 := .null) (u2 := .null) (u3 := .null) (u4 := .null) hk hW
            have i1' := fun Q => i1 Q
            have ho2 : Off [pk p + 2, pk p, pk p + 11] σ σ' := (ho.mono (by simp)).tr (i4.mono (by simp))
            refine ⟨σ', fun Q => ?_, CI_set h hp (fun b hb => ho2 b (by simp; omega)) ⟨⟨by rw [i3, sI_off (by omega)]; exact q1, q2⟩, ?_, ?_, fun t ht => ?_, fun p' hp' => by rw [(ho2 (pk p + 8) (by simp)).1]; exact q6 p' hp', RI_off q7 ho2 (by simp) (by simp <;> omega), q8⟩ hsC rfl rfl rfl, ho2.lo (by simp [pk]; omega)⟩
            · simp (disch := omega) only [q_45_0, q_45_1, q_45_4, q_45_7, q_45_8, q_45_11, q_45_14, q_45_15, q_45_16, q_45_17, q_45_20, q_45_21, q_45_22, q_45_25, q_45_27, q_45_28, q_45_30, q_45_31, q_45_34, q_45_36, q_45_39, q_45_41, q_45_44, q_45_47, q_45_49, q_45_50, q_45_51, q_45_54, q_45_55, q_45_58, q_45_59, q_45_60, q_45_63, q_45_66, q_45_67, q_45_70, q_45_71, q_45_72, q_45_75, q_45_77, q_45_79, q_45_80, q_45_81, q_45_83, q_45_85, q_45_86, q_45_88, q_45_89, q_45_90, q_45_93, q_45_94, q_45_95, q_45_98, q_45_100, vinT, iClamp, clr_i, clr_l, clr_r, clr_n, true_and, and_true, or_true, true_or, false_or, or_false, iLe, iLt, iEq, iAdd, iMul, List.cons_append, List.nil_append, List.append_nil, zb0, zb1, if_true, if_false, not_true_eq_false, not_false_eq_true, Bool.false_eq_true, Nat.one_ne_zero, Nat.zero_ne_one, Nat.reduceEqDiff, Nat.reduceAdd, if_pos, if_neg, s_isPaper, s_isTask, s_isWithin, e0, e1, e3, c0, c1k, c1n, rA1, hk, f3, f4, (q5 s hs).1, i1', k2]
            · exact WH_congr' q3 (fun b b1 => (ho2 b (by simp; omega)).1)
            · exact i2
            · rw [(i4 (pk p + 2) (by simp)).1, ew]
              by_cases e : t = s
              · subst e; rw [sI_at, u1_at]; exact ⟨rfl, hr1⟩
              · rw [sI_off (by omega), u1_ne e]; exact q5 t ht
          · have e3 : b2 (inQ v 50) = nI 0 := b2_f k3
            rw [if_neg k3, if_neg k3]
            refine ⟨σ, fun Q => ?_, h, Lo.rf σ⟩
            simp (disch := omega) only [q_45_0, q_45_1, q_45_4, q_45_7, q_45_8, q_45_11, q_45_14, q_45_15, q_45_16, q_45_17, q_45_20, q_45_21, q_45_22, q_45_25, q_45_27, q_45_28, q_45_30, q_45_31, q_45_34, q_45_36, q_45_39, q_45_41, q_45_44, q_45_47, q_45_49, q_45_50, q_45_51, q_45_54, q_45_55, q_45_58, q_45_59, q_45_60, q_45_63, q_45_66, q_45_67, q_45_70, q_45_71, q_45_72, q_45_75, q_45_77, q_45_79, q_45_80, q_45_81, q_45_83, q_45_85, q_45_86, q_45_88, q_45_89, q_45_90, q_45_93, q_45_94, q_45_95, q_45_98, q_45_100, vinT, iClamp, clr_i, clr_l, clr_r, clr_n, true_and, and_true, or_true, true_or, false_or, or_false, iLe, iLt, iEq, iAdd, iMul, List.cons_append, List.nil_append, List.append_nil, zb0, zb1, if_true, if_false, not_true_eq_false, not_false_eq_true, Bool.false_eq_true, Nat.one_ne_zero, Nat.zero_ne_one, Nat.reduceEqDiff, Nat.reduceAdd, if_pos, if_neg, s_isPaper, s_isTask, s_isWithin, e0, e1, e3, k2]
        · rw [if_neg k4, if_neg k4]
          refine ⟨σ, fun Q => ?_, h, Lo.rf σ⟩
          simp (disch := omega) only [q_45_0, q_45_1, q_45_4, q_45_7, q_45_8, q_45_11, q_45_14, q_45_15, q_45_16, q_45_17, q_45_20, q_45_21, q_45_22, q_45_25, q_45_27, q_45_28, q_45_30, q_45_31, q_45_34, q_45_36, q_45_39, q_45_41, q_45_44, q_45_47, q_45_49, q_45_50, q_45_51, q_45_54, q_45_55, q_45_58, q_45_59, q_45_60, q_45_63, q_45_66, q_45_67, q_45_70, q_45_71, q_45_72, q_45_75, q_45_77, q_45_79, q_45_80, q_45_81, q_45_83, q_45_85, q_45_86, q_45_88, q_45_89, q_45_90, q_45_93, q_45_94, q_45_95, q_45_98, q_45_100, vinT, iClamp, clr_i, clr_l, clr_r, clr_n, true_and, and_true, or_true, true_or, false_or, or_false, iLe, iLt, iEq, iAdd, iMul, List.cons_append, List.nil_append, List.append_nil, zb0, zb1, if_true, if_false, not_true_eq_false, not_false_eq_true, Bool.false_eq_true, Nat.one_ne_zero, Nat.zero_ne_one, Nat.reduceEqDiff, Nat.reduceAdd, if_pos, if_neg, s_isPaper, s_isTask, s_isWithin, e0, e1, k2, k4]
    · have e1 : b2 (inR t 4) = nI 0 := b2_f k1
      rw [anTk, if_pos k0, if_neg k1, nxTk, if_neg (fun q => k1 q.2)]
      refine ⟨σ, fun Q => ?_, h, Lo.rf σ⟩
      simp (disch := omega) only [q_45_0, q_45_1, q_45_4, q_45_7, q_45_8, q_45_11, q_45_14, q_45_15, q_45_16, q_45_17, q_45_20, q_45_21, q_45_22, q_45_25, q_45_27, q_45_28, q_45_30, q_45_31, q_45_34, q_45_36, q_45_39, q_45_41, q_45_44, q_45_47, q_45_49, q_45_50, q_45_51, q_45_54, q_45_55, q_45_58, q_45_59, q_45_60, q_45_63, q_45_66, q_45_67, q_45_70, q_45_71, q_45_72, q_45_75, q_45_77, q_45_79, q_45_80, q_45_81, q_45_83, q_45_85, q_45_86, q_45_88, q_45_89, q_45_90, q_45_93, q_45_94, q_45_95, q_45_98, q_45_100, vinT, iClamp, clr_i, clr_l, clr_r, clr_n, true_and, and_true, or_true, true_or, false_or, or_false, iLe, iLt, iEq, iAdd, iMul, List.cons_append, List.nil_append, List.append_nil, zb0, zb1, if_true, if_false, not_true_eq_false, not_false_eq_true, Bool.false_eq_true, Nat.one_ne_zero, Nat.zero_ne_one, Nat.reduceEqDiff, Nat.reduceAdd, if_pos, if_neg, s_isPaper, s_isTask, e0, e1]
  · have e0 : b2 (inR x 8) = nI 0 := b2_f k0
    rw [anTk, if_neg k0, nxTk, if_neg (fun q => k0 q.1)]
    refine ⟨σ, fun Q => ?_, h, Lo.rf σ⟩
    simp (disch := omega) only [q_45_0, q_45_1, q_45_4, q_45_7, q_45_8, q_45_11, q_45_14, q_45_15, q_45_16, q_45_17, q_45_20, q_45_21, q_45_22, q_45_25, q_45_27, q_45_28, q_45_30, q_45_31, q_45_34, q_45_36, q_45_39, q_45_41, q_45_44, q_45_47, q_45_49, q_45_50, q_45_51, q_45_54, q_45_55, q_45_58, q_45_59, q_45_60, q_45_63, q_45_66, q_45_67, q_45_70, q_45_71, q_45_72, q_45_75, q_45_77, q_45_79, q_45_80, q_45_81, q_45_83, q_45_85, q_45_86, q_45_88, q_45_89, q_45_90, q_45_93, q_45_94, q_45_95, q_45_98, q_45_100, vinT, iClamp, clr_i, clr_l, clr_r, clr_n, true_and, and_true, or_true, true_or, false_or, or_false, iLe, iLt, iEq, iAdd, iMul, List.cons_append, List.nil_append, List.append_nil, zb0, zb1, if_true, if_false, not_true_eq_false, not_false_eq_true, Bool.false_eq_true, Nat.one_ne_zero, Nat.zero_ne_one, Nat.reduceEqDiff, Nat.reduceAdd, if_pos, if_neg, s_isPaper, e0]
def anSw (a : AS) (x i : Int32) : Int32 := if inR x 8 then (if inR i ((ro a (tn x)).length - 1) then nI ((ro a (tn x)).getD (tn i + 1) 0) else -2) else -1
def nxSw (a : AS) (x i : Int32) : AS := if inR x 8 ∧ inR i ((ro a (tn x)).length - 1) then setRo a (tn x) (swp (ro a (tn x)) (tn i)) else a
theorem swp_perm {l : List Nat} {p : Nat} (h : p + 1 < l.length) : (swp l p).Perm l := by
  have h1 : p < l.length := by omega
  have e1 := split_at h1
  have e2 := split_at (l := l.drop (p + 1)) (p := 0) (by simp; omega)
  simp only [List.take_zero, List.nil_append] at e2
  have e3 : l = l.take p ++ l.getD p 0 :: (l.drop (p + 1)).getD 0 0 :: (l.drop (p + 1)).drop 1 := by rw [← e2]; exact e1
  generalize l.take p = A at e3
  generalize hA : A = A' at e3
  have hl : A'.length = p := by
    have := congrArg List.length e3
    subst hA
    simp at this
    omega
  generalize l.getD p 0 = y at e3
  generalize (l.drop (p + 1)).getD 0 0 = z at e3
  generalize (l.drop (p + 1)).drop 1 = B at e3
  rw [e3, ← hl, swp_mid]
  exact List.Perm.append_left _ (List.Perm.swap _ _ _)
theorem x_Sw {X : Nat × (Nat → Int32)} {σ : Mem} {a : AS} {x i : Int32} {w0 : Value} (h : CI σ a) : ∃ σ', Ev X 50 [.ref 0, .int x, .int i, w0] σ [.int (anSw a x i)] σ' ∧ CI σ' (nxSw a x i) ∧ Lo σ σ' := by
  by_cases k0 : inR x 8
  · have e0 : b2 (inR x 8) = nI 1 := b2_t k0
    obtain ⟨p, hp, rfl⟩ := inR_of k0 (by omega)
    have hk := pk_K p hp
    obtain ⟨⟨q1, q2⟩, q3, q4, q5, q6, q7, q8⟩ := h.1 p hp
    obtain ⟨d1, d2, d3, d4⟩ := id q4
    obtain ⟨⟨f1, f2, f3, f4, f5, f6⟩, ⟨f7, f8, f9, f10, f11, f13, f14⟩, f12⟩ := F2 hk
    obtain ⟨r1, r2, r3⟩ := id q7
    rw [anSw, if_pos k0, nxSw, tn_nI (by omega)]
    by_cases k1 : inR i ((ro a p).length - 1)
    · rw [if_pos k1, if_pos ⟨k0, k1⟩]
      obtain ⟨j, hj, rfl⟩ := inR_of k1 (by omega)
      rw [tn_nI (by omega)]
      obtain ⟨σ', i1, i2, i3⟩ := s_change (X := X) (v := .null) (p := j) f9 q7 (by omega)
      have i1' := fun Q => i1 Q
      have hg : (swp (ro a p) j).getD j 0 = (ro a p).getD (j + 1) 0 := by
        rw [swp, List.getD_eq_getElem?_getD, List.getElem?_set_ne (by omega), List.getElem?_set_self (by omega)]
        rfl
      have hlen : (swp (ro a p) j).length = (ro a p).length := by simp [swp]
      have hpa := pA_in (l := swp (ro a p) j) (j := j) (by omega) (by omega)
      rw [hg] at hpa
      have e3 : ro (setRo a p (swp (ro a p) j)) p = swp (ro a p) j := by simp [setRo, ro, u1_at]
      refine ⟨σ', fun Q => ?_, CI_set h hp (fun b hb => i3 b (by simp; omega)) ⟨⟨by rw [(i3 (pk p) (by simp; omega)).1]; exact q1, q2⟩, WH_congr q3 (fun b b1 b2 => (i3 b (by simp; omega)).1), ⟨by rw [(i3 (pk p) (by simp; omega)).1]; exact d1, by rw [(i3 (pk p) (by simp; omega)).1]; exact d2, fun p' hp' => by rw [(i3 (pk p + 11) (by simp)).2]; exact d3 p' hp', by rw [(i3 (pk p) (by simp; omega)).2]; exact d4⟩, fun t ht => by rw [(i3 (pk p + 2) (by simp)).1]; exact q5 t ht, fun p' hp' => by rw [(i3 (pk p + 8) (by simp)).1]; exact q6 p' hp', by rw [e3]; exact i2, by rw [e3]; exact (swp_perm (by omega)).nodup_iff.mpr q8⟩ hsR rfl rfl rfl, i3.lo (by simp [pk]; omega)⟩
      simp (disch := omega) only [q_50_0, q_50_1, q_50_4, q_50_7, q_50_8, q_50_9, q_50_10, q_50_13, q_50_14, q_50_15, q_50_18, q_50_19, q_50_20, q_50_23, q_50_24, q_50_25, q_50_28, q_50_29, q_50_30, q_50_33, q_50_35, q_50_36, q_50_37, q_50_38, q_50_41, q_50_42, q_50_43, q_50_46, vinT, iClamp, clr_i, clr_l, clr_r, clr_n, true_and, and_true, or_true, true_or, false_or, or_false, iLe, iLt, iEq, iAdd, iMul, List.cons_append, List.nil_append, List.append_nil, zb0, zb1, if_true, if_false, not_true_eq_false, not_false_eq_true, Bool.false_eq_true, Nat.one_ne_zero, Nat.zero_ne_one, Nat.reduceEqDiff, Nat.reduceAdd, if_pos, if_neg, s_isPaper, e0, c0, c1k, c1n, rA1, hk, f9, r2, iSub, i1', s_personAt f9 i2, hpa]
    · rw [if_neg k1, if_neg (fun q => k1 q.2)]
      refine ⟨σ, fun Q => ?_, h, Lo.rf σ⟩
      by_cases c : i < nI 0
      · simp (disch := omega) only [q_50_0, q_50_1, q_50_4, q_50_7, q_50_8, q_50_9, q_50_10, q_50_13, q_50_14, q_50_15, q_50_18, q_50_19, q_50_20, q_50_23, q_50_24, q_50_25, q_50_28, q_50_29, q_50_30, q_50_33, q_50_35, q_50_36, q_50_37, q_50_38, q_50_41, q_50_42, q_50_43, q_50_46, vinT, iClamp, clr_i, clr_l, clr_r, clr_n, true_and, and_true, or_true, true_or, false_or, or_false, iLe, iLt, iEq, iAdd, iMul, List.cons_append, List.nil_append, List.append_nil, zb0, zb1, if_true, if_false, not_true_eq_false, not_false_eq_true, Bool.false_eq_true, Nat.one_ne_zero, Nat.zero_ne_one, Nat.reduceEqDiff, Nat.reduceAdd, if_pos, if_neg, s_isPaper, e0, c0, c1k, c1n, rA1, hk, f9, r2, c]
      · have c2 : nI (ro a p).length - nI 1 ≤ i := by
          by_cases z : (ro a p).length = 0
          · rw [z]
            refine Int32.le_trans ?_ (Int32.not_lt.mp c)
            decide
          · rw [iSub (by omega)]
            exact Int32.not_lt.mp (fun q => k1 ⟨Int32.not_lt.mp c, q⟩)
        have c3 : ¬ i < nI (ro a p).length - nI 1 := Int32.not_lt.mpr c2
        simp (disch := omega) only [q_50_0, q_50_1, q_50_4, q_50_7, q_50_8, q_50_9, q_50_10, q_50_13, q_50_14, q_50_15, q_50_18, q_50_19, q_50_20, q_50_23, q_50_24, q_50_25, q_50_28, q_50_29, q_50_30, q_50_33, q_50_35, q_50_36, q_50_37, q_50_38, q_50_41, q_50_42, q_50_43, q_50_46, vinT, iClamp, clr_i, clr_l, clr_r, clr_n, true_and, and_true, or_true, true_or, false_or, or_false, iLe, iLt, iEq, iAdd, iMul, List.cons_append, List.nil_append, List.append_nil, zb0, zb1, if_true, if_false, not_true_eq_false, not_false_eq_true, Bool.false_eq_true, Nat.one_ne_zero, Nat.zero_ne_one, Nat.reduceEqDiff, Nat.reduceAdd, if_pos, if_neg, s_isPaper, e0, c0, c1k, c1n, rA1, hk, f9, r2, c, c2, c3]
  · have e0 : b2 (inR x 8) = nI 0 := b2_f k0
    rw [anSw, if_neg k0, nxSw, if_neg (fun q => k0 q.1)]
    refine ⟨σ, fun Q => ?_, h, Lo.rf σ⟩
    simp (disch := omega) only [q_50_0, q_50_1, q_50_4, q_50_7, q_50_8, q_50_9, q_50_10, q_50_13, q_50_14, q_50_15, q_50_18, q_50_19, q_50_20, q_50_23, q_50_24, q_50_25, q_50_28, q_50_29, q_50_30, q_50_33, q_50_35, q_50_36, q_50_37, q_50_38, q_50_41, q_50_42, q_50_43, q_50_46, vinT, iClamp, clr_i, clr_l, clr_r, clr_n, true_and, and_true, or_true, true_or, false_or, or_false, iLe, iLt, iEq, iAdd, iMul, List.cons_append, List.nil_append, List.append_nil, zb0, zb1, if_true, if_false, not_true_eq_false, not_false_eq_true, Bool.false_eq_true, Nat.one_ne_zero, Nat.zero_ne_one, Nat.reduceEqDiff, Nat.reduceAdd, if_pos, if_neg, s_isPaper, e0]
def anRm (a : AS) (t y : Int32) : Int32 := if inR t 3 then (if y = -9 ∨ inR y 7 then rm a (tn t) else -1) else -2
def nxRm (a : AS) (t y : Int32) : AS := if inR t 3 ∧ (y = -9 ∨ inR y 7) then setRm a (tn t) y else a
theorem x_Rm {X : Nat × (Nat → Int32)} {σ : Mem} {a : AS} {t y : Int32} {w0 : Value} (h : CI σ a) : ∃ σ', Ev X 55 [.ref 0, .int t, .int y, w0] σ [.int (anRm a t y)] σ' ∧ CI σ' (nxRm a t y) ∧ Lo σ σ' := by
  by_cases k0 : inR t 3
  · have e0 : b2 (inR t 3) = nI 1 := b2_t k0
    obtain ⟨s, hs, rfl⟩ := inR_of k0 (by omega)
    rw [anRm, if_pos k0, nxRm, tn_nI (by omega)]
    by_cases k1 : y = -9 ∨ inR y 7
    · rw [if_pos k1, if_pos ⟨k0, k1⟩]
      have ho : Off [2] σ (sI σ 2 s y) := (Off.rf _ σ).sI (by simp) _ _
      obtain ⟨h1, h2, h3⟩ := h
      refine ⟨sI σ 2 s y, fun Q => ?_, ⟨fun p hp => PI_congr (h1 p hp) (fun b b1 b2 => ho b (by simp only [pk] at b1 b2; simp; omega)), fun t ht => ?_, MB_off h3 ho (fun b b1 b2 => by simp; omega)⟩, ho.lo (by simp)⟩
      · by_cases c : y = -9
        · simp (disch := omega) only [q_55_0, q_55_1, q_55_4, q_55_7, q_55_9, q_55_10, q_55_11, q_55_13, q_55_16, q_55_17, q_55_20, q_55_23, q_55_24, q_55_25, q_55_26, q_55_29, q_55_30, q_55_31, q_55_32, q_55_33, q_55_36, q_55_37, q_55_38, q_55_39, q_55_40, vinT, iClamp, clr_i, clr_l, clr_r, clr_n, true_and, and_true, or_true, true_or, false_or, or_false, iLe, iLt, iEq, iAdd, iMul, List.cons_append, List.nil_append, List.append_nil, zb0, zb1, if_true, if_false, not_true_eq_false, not_false_eq_true, Bool.false_eq_true, Nat.one_ne_zero, Nat.zero_ne_one, Nat.reduceEqDiff, Nat.reduceAdd, if_pos, if_neg, s_isTrade, e0, c, c0, c2k, c2n, (h2 s hs).1]
        · have e1 : b2 (inR y 7) = nI 1 := b2_t (k1.resolve_left c)
          simp (disch := omega) only [q_55_0, q_55_1, q_55_4, q_55_7, q_55_9, q_55_10, q_55_11, q_55_13, q_55_16, q_55_17, q_55_20, q_55_23, q_55_24, q_55_25, q_55_26, q_55_29, q_55_30, q_55_31, q_55_32, q_55_33, q_55_36, q_55_37, q_55_38, q_55_39, q_55_40, vinT, iClamp, clr_i, clr_l, clr_r, clr_n, true_and, and_true, or_true, true_or, false_or, or_false, iLe, iLt, iEq, iAdd, iMul, List.cons_append, List.nil_append, List.append_nil, zb0, zb1, if_true, if_false, not_true_eq_false, not_false_eq_true, Bool.false_eq_true, Nat.one_ne_zero, Nat.zero_ne_one, Nat.reduceEqDiff, Nat.reduceAdd, if_pos, if_neg, s_isTrade, s_isPerson, e0, e1, c, c0, c2k, c2n, (h2 s hs).1]
      · by_cases e : t = s
        · subst e
          rw [sI_at]
          have e2 : rm (setRm a t y) t = y := by simp [setRm, rm, u1_at]
          rw [e2]
          refine ⟨rfl, k1.elim Or.inl (fun q => Or.inr ?_)⟩
          obtain ⟨j, hj, e3⟩ := inR_of q (by omega)
          exact ⟨j, hj, e3⟩
        · have e2 : rm (setRm a s y) t = rm a t := by simp [setRm, rm, u1_ne e]
          rw [sI_off (by omega), e2]; exact h2 t ht
    · rw [if_neg k1, if_neg (fun q => k1 q.2)]
      have k2 : ¬ y = -9 := fun q => k1 (Or.inl q)
      have e1 : b2 (inR y 7) = nI 0 := b2_f (fun q => k1 (Or.inr q))
      refine ⟨σ, fun Q => ?_, h, Lo.rf σ⟩
      simp (disch := omega) only [q_55_0, q_55_1, q_55_4, q_55_7, q_55_9, q_55_10, q_55_11, q_55_13, q_55_16, q_55_17, q_55_20, q_55_23, q_55_24, q_55_25, q_55_26, q_55_29, q_55_30, q_55_31, q_55_32, q_55_33, q_55_36, q_55_37, q_55_38, q_55_39, q_55_40, vinT, iClamp, clr_i, clr_l, clr_r, clr_n, true_and, and_true, or_true, true_or, false_or, or_false, iLe, iLt, iEq, iAdd, iMul, List.cons_append, List.nil_append, List.append_nil, zb0, zb1, if_true, if_false, not_true_eq_false, not_false_eq_true, Bool.false_eq_true, Nat.one_ne_zero, Nat.zero_ne_one, Nat.reduceEqDiff, Nat.reduceAdd, if_pos, if_neg, s_isTrade, s_isPerson, e0, e1, k2]
  · have e0 : b2 (inR t 3) = nI 0 := b2_f k0
    rw [anRm, if_neg k0, nxRm, if_neg (fun q => k0 q.1)]
    refine ⟨σ, fun Q => ?_, h, Lo.rf σ⟩
    simp (disch := omega) only [q_55_0, q_55_1, q_55_4, q_55_7, q_55_9, q_55_10, q_55_11, q_55_13, q_55_16, q_55_17, q_55_20, q_55_23, q_55_24, q_55_25, q_55_26, q_55_29, q_55_30, q_55_31, q_55_32, q_55_33, q_55_36, q_55_37, q_55_38, q_55_39, q_55_40, vinT, iClamp, clr_i, clr_l, clr_r, clr_n, true_and, and_true, or_true, true_or, false_or, or_false, iLe, iLt, iEq, iAdd, iMul, List.cons_append, List.nil_append, List.append_nil, zb0, zb1, if_true, if_false, not_true_eq_false, not_false_eq_true, Bool.false_eq_true, Nat.one_ne_zero, Nat.zero_ne_one, Nat.reduceEqDiff, Nat.reduceAdd, if_pos, if_neg, s_isTrade, e0]
def anMi (a : AS) (x y v : Int32) : Int32 := if inR x 7 then (if inR y 7 then (if inQ v 9 then (if x = y then -3 else nI (mi a (tn x) (tn y))) else -2) else -1) else -1
def nxMi (a : AS) (x y v : Int32) : AS := if inR x 7 ∧ inR y 7 ∧ inQ v 9 ∧ ¬ x = y then setMi a (tn x) (tn y) (tn v) else a
theorem x_Mi {X : Nat × (Nat → Int32)} {σ : Mem} {a : AS} {x y v : Int32} {w0 : Value} (h : CI σ a) : ∃ σ', Ev X 75 [.ref 0, .int x, .int y, .int v, w0] σ [.int (anMi a x y v)] σ' ∧ CI σ' (nxMi a x y v) ∧ Lo σ σ' := by
  by_cases k0 : inR x 7
  · have e0 : b2 (inR x 7) = nI 1 := b2_t k0
    by_cases k1 : inR y 7
    · have e1 : b2 (inR y 7) = nI 1 := b2_t k1
      by_cases k2 : inQ v 9
      · have e2 : b2 (inQ v 9) = nI 1 := b2_t k2
        by_cases k3 : x = y
        · rw [anMi, if_pos k0, if_pos k1, if_pos k2, if_pos k3, nxMi, if_neg (fun q => q.2.2.2 k3)]
          refine ⟨σ, fun Q => ?_, h, Lo.rf σ⟩
          subst k3
          simp (disch := omega) only [q_75_0, q_75_1, q_75_4, q_75_7, q_75_8, q_75_11, q_75_14, q_75_15, q_75_16, q_75_17, q_75_19, q_75_22, q_75_25, q_75_27, q_75_28, q_75_29, q_75_30, q_75_33, q_75_35, q_75_36, q_75_37, q_75_40, q_75_43, q_75_44, q_75_45, q_75_46, q_75_47, q_75_49, q_75_50, q_75_53, q_75_56, q_75_57, q_75_58, q_75_59, q_75_60, q_75_61, q_75_63, vinT, iClamp, clr_i, clr_l, clr_r, clr_n, true_and, and_true, or_true, true_or, false_or, or_false, iLe, iLt, iEq, iAdd, iMul, List.cons_append, List.nil_append, List.append_nil, zb0, zb1, if_true, if_false, not_true_eq_false, not_false_eq_true, Bool.false_eq_true, Nat.one_ne_zero, Nat.zero_ne_one, Nat.reduceEqDiff, Nat.reduceAdd, if_pos, if_neg, s_isPerson, s_isWithin, e0, e2]
        · rw [anMi, if_pos k0, if_pos k1, if_pos k2, if_neg k3, nxMi, if_pos ⟨k0, k1, k2, k3⟩]
          obtain ⟨i, hi, rfl⟩ := inR_of k0 (by omega)
          obtain ⟨j, hj, rfl⟩ := inR_of k1 (by omega)
          obtain ⟨r1, hr1, rfl⟩ := inQ_of k2 (by omega)
          simp (disch := omega) only [tn_nI]
          obtain ⟨g1, g2, g3, g4, g5, g6, g7, g8, g9⟩ := Fa3 c14k
          obtain ⟨g10, g11, g12⟩ := g9 i hi
          have ho : Off [14 + 2 + i] σ (sI σ (14 + 2 + i) j (nI r1)) := (Off.rf _ σ).sI (by simp) _ _
          obtain ⟨h1, h2, h3, h4⟩ := h
          have g12' : rA 15 i = 14 + 2 + i := g12
          have g1' : cK 15 = 13 := g1
          have g2' : cN 15 = 7 := g2
          refine ⟨sI σ (14 + 2 + i) j (nI r1), fun Q => ?_, ⟨fun p hp => PI_congr (h1 p hp) (fun b b1 b2 => ho b (by simp only [pk] at b1 b2; simp; omega)), fun t ht => by rw [sI_off (by omega)]; exact h2 t ht, fun x hx y hy => ?_, fun x hx => by rw [sI_off (by omega)]; exact h4 x hx⟩, ho.lo (by simp; omega)⟩
          · simp (disch := omega) only [q_75_0, q_75_1, q_75_4, q_75_7, q_75_8, q_75_11, q_75_14, q_75_15, q_75_16, q_75_17, q_75_19, q_75_22, q_75_25, q_75_27, q_75_28, q_75_29, q_75_30, q_75_33, q_75_35, q_75_36, q_75_37, q_75_40, q_75_43, q_75_44, q_75_45, q_75_46, q_75_47, q_75_49, q_75_50, q_75_53, q_75_56, q_75_57, q_75_58, q_75_59, q_75_60, q_75_61, q_75_63, vinT, iClamp, clr_i, clr_l, clr_r, clr_n, true_and, and_true, or_true, true_or, false_or, or_false, iLe, iLt, iEq, iAdd, iMul, List.cons_append, List.nil_append, List.append_nil, zb0, zb1, if_true, if_false, not_true_eq_false, not_false_eq_true, Bool.false_eq_true, Nat.one_ne_zero, Nat.zero_ne_one, Nat.reduceEqDiff, Nat.reduceAdd, if_pos, if_neg, s_isPerson, s_isWithin, e0, e1, e2, k3, c0, c14k, g1', g2', g12', g10, g11, (h3 i hi j hj).1]
          · by_cases c : x = i
            · subst c
              by_cases c2 : y = j
              · subst c2
                have e3 : mi (setMi a x y r1) x y = r1 := by simp [setMi, mi, u1_at]
                rw [sI_at, e3]; exact ⟨rfl, hr1⟩
              · have e3 : mi (setMi a x j r1) x y = mi a x y := by simp [setMi, mi, u1_at, u1_ne c2]
                rw [sI_off (by omega), e3]; exact h3 x hx y hy
            · have e3 : mi (setMi a i j r1) x y = mi a x y := by simp [setMi, mi, u1_ne c]
              rw [sI_off (by omega), e3]; exact h3 x hx y hy
      · have e2 : b2 (inQ v 9) = nI 0 := b2_f k2
        rw [anMi, if_pos k0, if_pos k1, if_neg k2, nxMi, if_neg (fun q => k2 q.2.2.1)]
        refine ⟨σ, fun Q => ?_, h, Lo.rf σ⟩
        simp (disch := omega) only [q_75_0, q_75_1, q_75_4, q_75_7, q_75_8, q_75_11, q_75_14, q_75_15, q_75_16, q_75_17, q_75_19, q_75_22, q_75_25, q_75_27, q_75_28, q_75_29, q_75_30, q_75_33, q_75_35, q_75_36, q_75_37, q_75_40, q_75_43, q_75_44, q_75_45, q_75_46, q_75_47, q_75_49, q_75_50, q_75_53, q_75_56, q_75_57, q_75_58, q_75_59, q_75_60, q_75_61, q_75_63, vinT, iClamp, clr_i, clr_l, clr_r, clr_n, true_and, and_true, or_true, true_or, false_or, or_false, iLe, iLt, iEq, iAdd, iMul, List.cons_append, List.nil_append, List.append_nil, zb0, zb1, if_true, if_false, not_true_eq_false, not_false_eq_true, Bool.false_eq_true, Nat.one_ne_zero, Nat.zero_ne_one, Nat.reduceEqDiff, Nat.reduceAdd, if_pos, if_neg, s_isPerson, s_isWithin, e0, e1, e2]
    · have e1 : b2 (inR y 7) = nI 0 := b2_f k1
      rw [anMi, if_pos k0, if_neg k1, nxMi, if_neg (fun q => k1 q.2.1)]
      refine ⟨σ, fun Q => ?_, h, Lo.rf σ⟩
      simp (disch := omega) only [q_75_0, q_75_1, q_75_4, q_75_7, q_75_8, q_75_11, q_75_14, q_75_15, q_75_16, q_75_17, q_75_19, q_75_22, q_75_25, q_75_27, q_75_28, q_75_29, q_75_30, q_75_33, q_75_35, q_75_36, q_75_37, q_75_40, q_75_43, q_75_44, q_75_45, q_75_46, q_75_47, q_75_49, q_75_50, q_75_53, q_75_56, q_75_57, q_75_58, q_75_59, q_75_60, q_75_61, q_75_63, vinT, iClamp, clr_i, clr_l, clr_r, clr_n, true_and, and_true, or_true, true_or, false_or, or_false, iLe, iLt, iEq, iAdd, iMul, List.cons_append, List.nil_append, List.append_nil, zb0, zb1, if_true, if_false, not_true_eq_false, not_false_eq_true, Bool.false_eq_true, Nat.one_ne_zero, Nat.zero_ne_one, Nat.reduceEqDiff, Nat.reduceAdd, if_pos, if_neg, s_isPerson, e0, e1]
  · have e0 : b2 (inR x 7) = nI 0 := b2_f k0
    rw [anMi, if_neg k0, nxMi, if_neg (fun q => k0 q.1)]
    refine ⟨σ, fun Q => ?_, h, Lo.rf σ⟩
    simp (disch := omega) only [q_75_0, q_75_1, q_75_4, q_75_7, q_75_8, q_75_11, q_75_14, q_75_15, q_75_16, q_75_17, q_75_19, q_75_22, q_75_25, q_75_27, q_75_28, q_75_29, q_75_30, q_75_33, q_75_35, q_75_36, q_75_37, q_75_40, q_75_43, q_75_44, q_75_45, q_75_46, q_75_47, q_75_49, q_75_50, q_75_53, q_75_56, q_75_57, q_75_58, q_75_59, q_75_60, q_75_61, q_75_63, vinT, iClamp, clr_i, clr_l, clr_r, clr_n, true_and, and_true, or_true, true_or, false_or, or_false, iLe, iLt, iEq, iAdd, iMul, List.cons_append, List.nil_append, List.append_nil, zb0, zb1, if_true, if_false, not_true_eq_false, not_false_eq_true, Bool.false_eq_true, Nat.one_ne_zero, Nat.zero_ne_one, Nat.reduceEqDiff, Nat.reduceAdd, if_pos, if_neg, s_isPerson, e0]
