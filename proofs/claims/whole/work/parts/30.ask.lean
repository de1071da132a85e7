/-! ===== the class: asking ===== -/
def anAt (a : AS) (x i : Int32) : Int32 := if inR x 8 then (pA (ro a (tn x)) i) else -1
theorem x_At {X : Nat × (Nat → Int32)} {σ : Mem} {a : AS} {x i : Int32} (h : CI σ a) : ∃ σ', Ev X 49 [.ref 0, .int x, .int i] σ [.int (anAt a x i)] σ' ∧ CI σ' a ∧ Lo σ σ' := by
  by_cases cc0 : inR x 8
  · have e0 : b2 (inR x 8) = nI 1 := b2_t cc0
    obtain ⟨p, hp, rfl⟩ := inR_of cc0 (by omega)
    have ea : anAt a (nI p) i = pA (ro a p) i := by
      rw [anAt, if_pos cc0]
      simp (disch := omega) only [tn_nI]
    rw [ea]
    have hk := pk_K p hp
    obtain ⟨⟨q1, q2⟩, q3, q4, q5, q6, q7, q8⟩ := h.1 p hp
    obtain ⟨d1, d2, d3, d4⟩ := id q4
    obtain ⟨y1, y2, y3, y4⟩ := id q3
    obtain ⟨⟨f1, f2, f3, f4, f5, f6⟩, ⟨f7, f8, f9, f10, f11, f13, f14⟩, f12⟩ := F2 hk
    refine ⟨σ, fun Q => ?_, h, Lo.rf σ⟩
    simp (disch := omega) only [q_49_0, q_49_1, q_49_4, q_49_7, q_49_8, q_49_9, q_49_10, q_49_13, q_49_14, q_49_15, q_49_18, q_49_19, q_49_22, vinT, iClamp, clr_i, clr_l, clr_r, clr_n, true_and, and_true, or_true, true_or, false_or, or_false, iLe, iLt, iEq, iAdd, iMul, List.cons_append, List.nil_append, List.append_nil, zb0, zb1, if_true, if_false, not_true_eq_false, not_false_eq_true, Bool.false_eq_true, Nat.one_ne_zero, Nat.zero_ne_one, Nat.reduceEqDiff, Nat.reduceAdd, if_pos, if_neg, s_isPaper, e0, c0, c1k, c1n, rA1, hk, f9, s_personAt f9 q7]
  · have e0 : b2 (inR x 8) = nI 0 := b2_f cc0
    refine ⟨σ, fun Q => ?_, h, Lo.rf σ⟩
    rw [anAt, if_neg cc0]
    simp (disch := omega) only [q_49_0, q_49_1, q_49_4, q_49_7, q_49_8, q_49_9, q_49_10, q_49_13, q_49_14, q_49_15, q_49_18, q_49_19, q_49_22, vinT, iClamp, clr_i, clr_l, clr_r, clr_n, true_and, and_true, or_true, true_or, false_or, or_false, iLe, iLt, iEq, iAdd, iMul, List.cons_append, List.nil_append, List.append_nil, zb0, zb1, if_true, if_false, not_true_eq_false, not_false_eq_true, Bool.false_eq_true, Nat.one_ne_zero, Nat.zero_ne_one, Nat.reduceEqDiff, Nat.reduceAdd, if_pos, if_neg, s_isPaper, e0]
def anSh (a : AS) (x q : Int32) (u : Nat) : Int64 := if inR x 8 then (if inR q 7 then (lN (tI (ptL (wt a (tn x)) (hr a (tn x)) (tn q) 4) (whL (wt a (tn x)) (hr a (tn x))) u)) else -1) else -1
theorem x_Sh {X : Nat × (Nat → Int32)} {σ : Mem} {a : AS} {x q : Int32} {u : Nat} (hu : u = 0 ∨ u = 1) (h : CI σ a) : ∃ σ', Ev X 51 [.ref 0, .int x, .int q, .int (nI u)] σ [.long (anSh a x q u)] σ' ∧ CI σ' a ∧ Lo σ σ' := by
  by_cases cc0 : inR x 8
  · have e0 : b2 (inR x 8) = nI 1 := b2_t cc0
    by_cases cc1 : inR q 7
    · have e1 : b2 (inR q 7) = nI 1 := b2_t cc1
      obtain ⟨p, hp, rfl⟩ := inR_of cc0 (by omega)
      obtain ⟨j, hj, rfl⟩ := inR_of cc1 (by omega)
      have ea : anSh a (nI p) (nI j) u = lN (tI (ptL (wt a p) (hr a p) j 4) (whL (wt a p) (hr a p)) u) := by
        rw [anSh, if_pos cc0, if_pos cc1]
        simp (disch := omega) only [tn_nI]
      rw [ea]
      have hk := pk_K p hp
      obtain ⟨⟨q1, q2⟩, q3, q4, q5, q6, q7, q8⟩ := h.1 p hp
      obtain ⟨d1, d2, d3, d4⟩ := id q4
      obtain ⟨y1, y2, y3, y4⟩ := id q3
      obtain ⟨⟨f1, f2, f3, f4, f5, f6⟩, ⟨f7, f8, f9, f10, f11, f13, f14⟩, f12⟩ := F2 hk
      have z1 := whL_pos (w := wt a p) y4
      have z2 := whL_le y3 y4
      have z3 := ptL_wh (w := wt a p) (h := hr a p) hj
      refine ⟨σ, fun Q => ?_, h, Lo.rf σ⟩
      have hls := fun (Q : List Value → Mem → Prop) (v0 v1 w0 w1 w2 w3 : Value) => s_least2 (X := X) (σ := σ) (Q := Q) (a := ptL (wt a p) (hr a p) j 4) (b := whL (wt a p) (hr a p)) (v0 := v0) (v1 := v1) (w0 := w0) (w1 := w1) (w2 := w2) (w3 := w3) (by omega) (by omega) z1 hu
      simp (disch := omega) only [q_51_0, q_51_1, q_51_4, q_51_7, q_51_8, q_51_11, q_51_14, q_51_17, q_51_18, q_51_19, q_51_22, q_51_23, q_51_24, q_51_27, q_51_28, q_51_29, q_51_30, q_51_33, q_51_34, q_51_35, q_51_38, q_51_39, q_51_42, vinT, iClamp, clr_i, clr_l, clr_r, clr_n, true_and, and_true, or_true, true_or, false_or, or_false, iLe, iLt, iEq, iAdd, iMul, List.cons_append, List.nil_append, List.append_nil, zb0, zb1, if_true, if_false, not_true_eq_false, not_false_eq_true, Bool.false_eq_true, Nat.one_ne_zero, Nat.zero_ne_one, Nat.reduceEqDiff, Nat.reduceAdd, if_pos, if_neg, s_isPaper, s_isPerson, e0, e1, c0, c1k, c1n, rA1, hk, f10, f11, d3 j hj, d4, hls]
    · have e1 : b2 (inR q 7) = nI 0 := b2_f cc1
      refine ⟨σ, fun Q => ?_, h, Lo.rf σ⟩
      rw [anSh, if_pos cc0, if_neg cc1]
      simp (disch := omega) only [q_51_0, q_51_1, q_51_4, q_51_7, q_51_8, q_51_11, q_51_14, q_51_17, q_51_18, q_51_19, q_51_22, q_51_23, q_51_24, q_51_27, q_51_28, q_51_29, q_51_30, q_51_33, q_51_34, q_51_35, q_51_38, q_51_39, q_51_42, vinT, iClamp, clr_i, clr_l, clr_r, clr_n, true_and, and_true, or_true, true_or, false_or, or_false, iLe, iLt, iEq, iAdd, iMul, List.cons_append, List.nil_append, List.append_nil, zb0, zb1, if_true, if_false, not_true_eq_false, not_false_eq_true, Bool.false_eq_true, Nat.one_ne_zero, Nat.zero_ne_one, Nat.reduceEqDiff, Nat.reduceAdd, if_pos, if_neg, s_isPaper, s_isPerson, e0, e1]
  · have e0 : b2 (inR x 8) = nI 0 := b2_f cc0
    refine ⟨σ, fun Q => ?_, h, Lo.rf σ⟩
    rw [anSh, if_neg cc0]
    simp (disch := omega) only [q_51_0, q_51_1, q_51_4, q_51_7, q_51_8, q_51_11, q_51_14, q_51_17, q_51_18, q_51_19, q_51_22, q_51_23, q_51_24, q_51_27, q_51_28, q_51_29, q_51_30, q_51_33, q_51_34, q_51_35, q_51_38, q_51_39, q_51_42, vinT, iClamp, clr_i, clr_l, clr_r, clr_n, true_and, and_true, or_true, true_or, false_or, or_false, iLe, iLt, iEq, iAdd, iMul, List.cons_append, List.nil_append, List.append_nil, zb0, zb1, if_true, if_false, not_true_eq_false, not_false_eq_true, Bool.false_eq_true, Nat.one_ne_zero, Nat.zero_ne_one, Nat.reduceEqDiff, Nat.reduceAdd, if_pos, if_neg, s_isPaper, s_isPerson, e0]
def SC5 : List Nat := [6, 7, 8, 9, 10]
theorem s_arranged {X : Nat × (Nat → Int32)} {σ : Mem} {a : AS} {p c : Nat} (h : CI σ a) (hp : p < 8) (hc : c < 4) : ∃ σ', Ev X 60 [.ref 0, .ref (pk p), .int (nI c)] σ [.ref 9] σ' ∧ RI σ' 9 (arrL c (fun q => lN (ptL (wt a p) (hr a p) q 4)) (rm a (tr a p)) (ro a p)) ∧ Off SC5 σ σ' := by
  have hk := pk_K p hp
  obtain ⟨⟨q1, q2⟩, q3, q4, q5, q6, q7, q8⟩ := h.1 p hp
  obtain ⟨d1, d2, d3, d4⟩ := id q4
  obtain ⟨r1, r2⟩ := h.2.1 (tr a p) q2
  obtain ⟨σ', i1, i2, i3⟩ := s_arrange (X := X) (c := c) (N := fun q => lN (ptL (wt a p) (hr a p) q 4)) (y := rm a (tr a p)) c4k hk hc q7 (fun q hq => d3 q hq)
  have i1' := fun Q => i1 Q
  refine ⟨σ', fun Q => ?_, i2, i3⟩
  simp (disch := omega) only [q_60_0, q_60_1, q_60_4, q_60_5, q_60_6, q_60_7, q_60_10, q_60_11, q_60_14, q_60_15, q_60_18, vinT, iClamp, clr_i, clr_l, clr_r, clr_n, true_and, and_true, or_true, true_or, false_or, or_false, iLe, iLt, iEq, iAdd, iMul, List.cons_append, List.nil_append, List.append_nil, zb0, zb1, if_true, if_false, not_true_eq_false, not_false_eq_true, Bool.false_eq_true, Nat.one_ne_zero, Nat.zero_ne_one, Nat.reduceEqDiff, Nat.reduceAdd, if_pos, if_neg, c0, c4k, hk, q1, c2k, c2n, r1, i1']
theorem SC5_scr : ∀ b, b ∈ SC5 → b ∈ SCR := by decide
theorem SC5_lt : ∀ b, b ∈ SC5 → b < 127 := by decide
def anDu (a : AS) (x c i : Int32) : Int32 := if inR x 8 then (if inR c 4 then (pA (arrL (tn c) (fun q => lN (ptL (wt a (tn x)) (hr a (tn x)) q 4)) (rm a (tr a (tn x))) (ro a (tn x))) i) else -2) else -1
theorem x_Du {X : Nat × (Nat → Int32)} {σ : Mem} {a : AS} {x c i : Int32} (h : CI σ a) : ∃ σ', Ev X 56 [.ref 0, .int x, .int c, .int i] σ [.int (anDu a x c i)] σ' ∧ CI σ' a ∧ Lo σ σ' := by
  by_cases cc0 : inR x 8
  · have e0 : b2 (inR x 8) = nI 1 := b2_t cc0
    by_cases cc1 : inR c 4
    · have e1 : b2 (inR c 4) = nI 1 := b2_t cc1
      obtain ⟨p, hp, rfl⟩ := inR_of cc0 (by omega)
      obtain ⟨m, hm, rfl⟩ := inR_of cc1 (by omega)
      have ea : anDu a (nI p) (nI m) i = pA (arrL m (fun q => lN (ptL (wt a p) (hr a p) q 4)) (rm a (tr a p)) (ro a p)) i := by
        rw [anDu, if_pos cc0, if_pos cc1]
        simp (disch := omega) only [tn_nI]
      rw [ea]
      have hk := pk_K p hp
      obtain ⟨⟨q1, q2⟩, q3, q4, q5, q6, q7, q8⟩ := h.1 p hp
      obtain ⟨d1, d2, d3, d4⟩ := id q4
      obtain ⟨y1, y2, y3, y4⟩ := id q3
      obtain ⟨⟨f1, f2, f3, f4, f5, f6⟩, ⟨f7, f8, f9, f10, f11, f13, f14⟩, f12⟩ := F2 hk
      obtain ⟨σ', i1, i2, i3⟩ := s_arranged (X := X) (c := m) h hp hm
      have i1' := fun Q => i1 Q
      refine ⟨σ', fun Q => ?_, CI_scr h (i3.mono SC5_scr), i3.lo SC5_lt⟩
      simp (disch := omega) only [q_56_0, q_56_1, q_56_4, q_56_7, q_56_8, q_56_9, q_56_10, q_56_13, q_56_16, q_56_18, q_56_19, q_56_20, q_56_21, q_56_24, q_56_25, q_56_26, q_56_27, q_56_30, q_56_31, q_56_34, vinT, iClamp, clr_i, clr_l, clr_r, clr_n, true_and, and_true, or_true, true_or, false_or, or_false, iLe, iLt, iEq, iAdd, iMul, List.cons_append, List.nil_append, List.append_nil, zb0, zb1, if_true, if_false, not_true_eq_false, not_false_eq_true, Bool.false_eq_true, Nat.one_ne_zero, Nat.zero_ne_one, Nat.reduceEqDiff, Nat.reduceAdd, if_pos, if_neg, s_isPaper, s_isCustom, e0, e1, c0, c1k, c1n, rA1, hk, i1', c9k, s_personAt c9k i2]
    · have e1 : b2 (inR c 4) = nI 0 := b2_f cc1
      refine ⟨σ, fun Q => ?_, h, Lo.rf σ⟩
      rw [anDu, if_pos cc0, if_neg cc1]
      simp (disch := omega) only [q_56_0, q_56_1, q_56_4, q_56_7, q_56_8, q_56_9, q_56_10, q_56_13, q_56_16, q_56_18, q_56_19, q_56_20, q_56_21, q_56_24, q_56_25, q_56_26, q_56_27, q_56_30, q_56_31, q_56_34, vinT, iClamp, clr_i, clr_l, clr_r, clr_n, true_and, and_true, or_true, true_or, false_or, or_false, iLe, iLt, iEq, iAdd, iMul, List.cons_append, List.nil_append, List.append_nil, zb0, zb1, if_true, if_false, not_true_eq_false, not_false_eq_true, Bool.false_eq_true, Nat.one_ne_zero, Nat.zero_ne_one, Nat.reduceEqDiff, Nat.reduceAdd, if_pos, if_neg, s_isPaper, s_isCustom, e0, e1]
  · have e0 : b2 (inR x 8) = nI 0 := b2_f cc0
    refine ⟨σ, fun Q => ?_, h, Lo.rf σ⟩
    rw [anDu, if_neg cc0]
    simp (disch := omega) only [q_56_0, q_56_1, q_56_4, q_56_7, q_56_8, q_56_9, q_56_10, q_56_13, q_56_16, q_56_18, q_56_19, q_56_20, q_56_21, q_56_24, q_56_25, q_56_26, q_56_27, q_56_30, q_56_31, q_56_34, vinT, iClamp, clr_i, clr_l, clr_r, clr_n, true_and, and_true, or_true, true_or, false_or, or_false, iLe, iLt, iEq, iAdd, iMul, List.cons_append, List.nil_append, List.append_nil, zb0, zb1, if_true, if_false, not_true_eq_false, not_false_eq_true, Bool.false_eq_true, Nat.one_ne_zero, Nat.zero_ne_one, Nat.reduceEqDiff, Nat.reduceAdd, if_pos, if_neg, s_isPaper, s_isCustom, e0]
def anOf (a : AS) (x c : Int32) : Int32 := if inR x 8 then (if inR c 4 then (nI (ivO (fun j => plF (rF (arrL (tn c) (fun q => lN (ptL (wt a (tn x)) (hr a (tn x)) q 4)) (rm a (tr a (tn x))) (ro a (tn x)))) (nI ((ro a (tn x)).getD j 0)) 0 (arrL (tn c) (fun q => lN (ptL (wt a (tn x)) (hr a (tn x)) q 4)) (rm a (tr a (tn x))) (ro a (tn x))).length) (ro a (tn x)).length 0 (ro a (tn x)).length)) else -2) else -1
theorem x_Of {X : Nat × (Nat → Int32)} {σ : Mem} {a : AS} {x c : Int32} (h : CI σ a) : ∃ σ', Ev X 59 [.ref 0, .int x, .int c] σ [.int (anOf a x c)] σ' ∧ CI σ' a ∧ Lo σ σ' := by
  by_cases cc0 : inR x 8
  · have e0 : b2 (inR x 8) = nI 1 := b2_t cc0
    by_cases cc1 : inR c 4
    · have e1 : b2 (inR c 4) = nI 1 := b2_t cc1
      obtain ⟨p, hp, rfl⟩ := inR_of cc0 (by omega)
      obtain ⟨m, hm, rfl⟩ := inR_of cc1 (by omega)
      have ea : anOf a (nI p) (nI m) = nI (ivO (fun j => plF (rF (arrL m (fun q => lN (ptL (wt a p) (hr a p) q 4)) (rm a (tr a p)) (ro a p))) (nI ((ro a p).getD j 0)) 0 (arrL m (fun q => lN (ptL (wt a p) (hr a p) q 4)) (rm a (tr a p)) (ro a p)).length) (ro a p).length 0 (ro a p).length) := by
        rw [anOf, if_pos cc0, if_pos cc1]
        simp (disch := omega) only [tn_nI]
      rw [ea]
      have hk := pk_K p hp
      obtain ⟨⟨q1, q2⟩, q3, q4, q5, q6, q7, q8⟩ := h.1 p hp
      obtain ⟨d1, d2, d3, d4⟩ := id q4
      obtain ⟨y1, y2, y3, y4⟩ := id q3
      obtain ⟨⟨f1, f2, f3, f4, f5, f6⟩, ⟨f7, f8, f9, f10, f11, f13, f14⟩, f12⟩ := F2 hk
      obtain ⟨σ', i1, i2, i3⟩ := s_arranged (X := X) (c := m) h hp hm
      have i1' := fun Q => i1 Q
      have h' := CI_scr h (i3.mono SC5_scr)
      have q7' := (h'.1 p hp).2.2.2.2.2.1
      refine ⟨σ', fun Q => ?_, h', i3.lo SC5_lt⟩
      simp (disch := omega) only [q_59_0, q_59_1, q_59_4, q_59_7, q_59_8, q_59_9, q_59_10, q_59_13, q_59_16, q_59_18, q_59_19, q_59_20, q_59_23, q_59_24, q_59_25, q_59_28, q_59_29, q_59_30, q_59_33, q_59_34, q_59_35, q_59_36, q_59_39, q_59_42, vinT, iClamp, clr_i, clr_l, clr_r, clr_n, true_and, and_true, or_true, true_or, false_or, or_false, iLe, iLt, iEq, iAdd, iMul, List.cons_append, List.nil_append, List.append_nil, zb0, zb1, if_true, if_false, not_true_eq_false, not_false_eq_true, Bool.false_eq_true, Nat.one_ne_zero, Nat.zero_ne_one, Nat.reduceEqDiff, Nat.reduceAdd, if_pos, if_neg, s_isPaper, s_isCustom, e0, e1, c0, c1k, c1n, rA1, hk, f9, i1', c9k, s_pairs f9 c9k q7' i2]
    · have e1 : b2 (inR c 4) = nI 0 := b2_f cc1
      refine ⟨σ, fun Q => ?_, h, Lo.rf σ⟩
      rw [anOf, if_pos cc0, if_neg cc1]
      simp (disch := omega) only [q_59_0, q_59_1, q_59_4, q_59_7, q_59_8, q_59_9, q_59_10, q_59_13, q_59_16, q_59_18, q_59_19, q_59_20, q_59_23, q_59_24, q_59_25, q_59_28, q_59_29, q_59_30, q_59_33, q_59_34, q_59_35, q_59_36, q_59_39, q_59_42, vinT, iClamp, clr_i, clr_l, clr_r, clr_n, true_and, and_true, or_true, true_or, false_or, or_false, iLe, iLt, iEq, iAdd, iMul, List.cons_append, List.nil_append, List.append_nil, zb0, zb1, if_true, if_false, not_true_eq_false, not_false_eq_true, Bool.false_eq_true, Nat.one_ne_zero, Nat.zero_ne_one, Nat.reduceEqDiff, Nat.reduceAdd, if_pos, if_neg, s_isPaper, s_isCustom, e0, e1]
  · have e0 : b2 (inR x 8) = nI 0 := b2_f cc0
    refine ⟨σ, fun Q => ?_, h, Lo.rf σ⟩
    rw [anOf, if_neg cc0]
    simp (disch := omega) only [q_59_0, q_59_1, q_59_4, q_59_7, q_59_8, q_59_9, q_59_10, q_59_13, q_59_16, q_59_18, q_59_19, q_59_20, q_59_23, q_59_24, q_59_25, q_59_28, q_59_29, q_59_30, q_59_33, q_59_34, q_59_35, q_59_36, q_59_39, q_59_42, vinT, iClamp, clr_i, clr_l, clr_r, clr_n, true_and, and_true, or_true, true_or, false_or, or_false, iLe, iLt, iEq, iAdd, iMul, List.cons_append, List.nil_append, List.append_nil, zb0, zb1, if_true, if_false, not_true_eq_false, not_false_eq_true, Bool.false_eq_true, Nat.one_ne_zero, Nat.zero_ne_one, Nat.reduceEqDiff, Nat.reduceAdd, if_pos, if_neg, s_isPaper, s_isCustom, e0]
def uN (w : Nat) : Nat := ([1, 420, 120, 182761425, 1000] : List Nat).getD w 1
theorem uN_v : ∀ w, w < 5 → uV w = lN (uN w) ∧ 0 < uN w ∧ uN w ≤ 182761425 := by decide
theorem puN_le {l : List Nat} {w : Nat → Nat} {h : Nat → Nat → Nat} {way j : Nat} (hw : way < 5) (hl : l.length ≤ 7) (h7 : ∀ i, i < l.length → l.getD i 0 < 7) (hj : j < l.length) (hh : okH h) : puN l w h way j ≤ uN way := by
  have e : way = 0 ∨ way = 1 ∨ way = 2 ∨ way = 3 ∨ way = 4 := by omega
  rcases e with rfl | rfl | rfl | rfl | rfl
  · simp [puN, uN]
  · simp only [puN, uN]
    exact Nat.div_le_self _ _
  · show fsU l.length j ≤ 120
    have := Nat.div_le_self 60 (l.length - 1)
    unfold fsU
    split
    · omega
    · split
      · omega
      · omega
  · simp only [puN, uN]
    show 182761425 * fq j / smF fq 0 l.length ≤ 182761425
    have h3 : fq j ≤ smF fq 0 l.length := smF_part _ 0 j (by omega) (by omega)
    exact Nat.div_le_of_le_mul (by rw [Nat.mul_comm]; exact Nat.mul_le_mul_right _ h3)
  · simp only [puN, uN]
    show ptL w h (l.getD j 0) 4 * 1000 / whL w h ≤ 1000
    have h3 := ptL_wh (w := w) (h := h) (h7 j hj)
    exact Nat.div_le_of_le_mul (Nat.mul_le_mul_right _ h3)
theorem puX_le {l : List Nat} {w : Nat → Nat} {h : Nat → Nat → Nat} {way : Nat} {x : Int32} (hw : way < 5) (hl : l.length ≤ 7) (h7 : ∀ i, i < l.length → l.getD i 0 < 7) (hh : okH h) : puX l w h way x ≤ uN way := by
  unfold puX
  split
  · omega
  · split
    · omega
    · next c1 c2 => exact puN_le hw hl h7 (vin_of c1 c2 (Nat.le_refl _) (by omega)).2 hh
def anWo (a : AS) (x y i : Int32) (u : Nat) : Int64 := if inR x 8 then (if inR y 5 then (lN (tI (puX (ro a (tn x)) (wt a (tn x)) (hr a (tn x)) (tn y) i) (uN (tn y)) u)) else -2) else -1
theorem x_Wo {X : Nat × (Nat → Int32)} {σ : Mem} {a : AS} {x y i : Int32} {u : Nat} (hu : u = 0 ∨ u = 1) (h : CI σ a) : ∃ σ', Ev X 62 [.ref 0, .int x, .int y, .int i, .int (nI u)] σ [.long (anWo a x y i u)] σ' ∧ CI σ' a ∧ Lo σ σ' := by
  by_cases cc0 : inR x 8
  · have e0 : b2 (inR x 8) = nI 1 := b2_t cc0
    by_cases cc1 : inR y 5
    · have e1 : b2 (inR y 5) = nI 1 := b2_t cc1
      obtain ⟨p, hp, rfl⟩ := inR_of cc0 (by omega)
      obtain ⟨m, hm, rfl⟩ := inR_of cc1 (by omega)
      have ea : anWo a (nI p) (nI m) i u = lN (tI (puX (ro a p) (wt a p) (hr a p) m i) (uN m) u) := by
        rw [anWo, if_pos cc0, if_pos cc1]
        simp (disch := omega) only [tn_nI]
      rw [ea]
      have hk := pk_K p hp
      obtain ⟨⟨q1, q2⟩, q3, q4, q5, q6, q7, q8⟩ := h.1 p hp
      obtain ⟨d1, d2, d3, d4⟩ := id q4
      obtain ⟨y1, y2, y3, y4⟩ := id q3
      obtain ⟨⟨f1, f2, f3, f4, f5, f6⟩, ⟨f7, f8, f9, f10, f11, f13, f14⟩, f12⟩ := F2 hk
      obtain ⟨u1, u2, u3⟩ := uN_v m hm
      have z1 := puX_le (w := wt a p) (x := i) hm q7.1 (fun j hj => (q7.2.2 j hj).2) y4
      refine ⟨σ, fun Q => ?_, h, Lo.rf σ⟩
      have hls := fun (Q : List Value → Mem → Prop) (v0 v1 w0 w1 w2 w3 : Value) => s_least2 (X := X) (σ := σ) (Q := Q) (a := puX (ro a p) (wt a p) (hr a p) m i) (b := uN m) (v0 := v0) (v1 := v1) (w0 := w0) (w1 := w1) (w2 := w2) (w3 := w3) (by omega) (by omega) u2 hu
      simp (disch := omega) only [q_62_0, q_62_1, q_62_4, q_62_7, q_62_10, q_62_11, q_62_12, q_62_15, q_62_18, q_62_21, q_62_22, q_62_23, q_62_26, q_62_27, q_62_28, q_62_29, q_62_30, q_62_33, q_62_36, q_62_37, q_62_38, q_62_40, q_62_43, vinT, iClamp, clr_i, clr_l, clr_r, clr_n, true_and, and_true, or_true, true_or, false_or, or_false, iLe, iLt, iEq, iAdd, iMul, List.cons_append, List.nil_append, List.append_nil, zb0, zb1, if_true, if_false, not_true_eq_false, not_false_eq_true, Bool.false_eq_true, Nat.one_ne_zero, Nat.zero_ne_one, Nat.reduceEqDiff, Nat.reduceAdd, if_pos, if_neg, s_isPaper, s_isWay, e0, e1, c0, c1k, c1n, rA1, hk, s_placeUnits hk y3 y4 q4 q7 hm, u1, hls]
    · have e1 : b2 (inR y 5) = nI 0 := b2_f cc1
      refine ⟨σ, fun Q => ?_, h, Lo.rf σ⟩
      rw [anWo, if_pos cc0, if_neg cc1]
      simp (disch := omega) only [q_62_0, q_62_1, q_62_4, q_62_7, q_62_10, q_62_11, q_62_12, q_62_15, q_62_18, q_62_21, q_62_22, q_62_23, q_62_26, q_62_27, q_62_28, q_62_29, q_62_30, q_62_33, q_62_36, q_62_37, q_62_38, q_62_40, q_62_43, vinT, iClamp, clr_i, clr_l, clr_r, clr_n, true_and, and_true, or_true, true_or, false_or, or_false, iLe, iLt, iEq, iAdd, iMul, List.cons_append, List.nil_append, List.append_nil, zb0, zb1, if_true, if_false, not_true_eq_false, not_false_eq_true, Bool.false_eq_true, Nat.one_ne_zero, Nat.zero_ne_one, Nat.reduceEqDiff, Nat.reduceAdd, if_pos, if_neg, s_isPaper, s_isWay, e0, e1]
  · have e0 : b2 (inR x 8) = nI 0 := b2_f cc0
    refine ⟨σ, fun Q => ?_, h, Lo.rf σ⟩
    rw [anWo, if_neg cc0]
    simp (disch := omega) only [q_62_0, q_62_1, q_62_4, q_62_7, q_62_10, q_62_11, q_62_12, q_62_15, q_62_18, q_62_21, q_62_22, q_62_23, q_62_26, q_62_27, q_62_28, q_62_29, q_62_30, q_62_33, q_62_36, q_62_37, q_62_38, q_62_40, q_62_43, vinT, iClamp, clr_i, clr_l, clr_r, clr_n, true_and, and_true, or_true, true_or, false_or, or_false, iLe, iLt, iEq, iAdd, iMul, List.cons_append, List.nil_append, List.append_nil, zb0, zb1, if_true, if_false, not_true_eq_false, not_false_eq_true, Bool.false_eq_true, Nat.one_ne_zero, Nat.zero_ne_one, Nat.reduceEqDiff, Nat.reduceAdd, if_pos, if_neg, s_isPaper, s_isWay, e0]
def anOv (a : AS) (x : Int32) : Int32 := if inR x 8 then (nI (smF (cl a (tn x)) 0 7) - nI 100 + nI 1000) else -1
theorem x_Ov {X : Nat × (Nat → Int32)} {σ : Mem} {a : AS} {x : Int32} (h : CI σ a) : ∃ σ', Ev X 71 [.ref 0, .int x] σ [.int (anOv a x)] σ' ∧ CI σ' a ∧ Lo σ σ' := by
  by_cases cc0 : inR x 8
  · have e0 : b2 (inR x 8) = nI 1 := b2_t cc0
    obtain ⟨p, hp, rfl⟩ := inR_of cc0 (by omega)
    have ea : anOv a (nI p) = nI (smF (cl a p) 0 7) - nI 100 + nI 1000 := by
      rw [anOv, if_pos cc0]
      simp (disch := omega) only [tn_nI]
    rw [ea]
    have hk := pk_K p hp
    obtain ⟨⟨q1, q2⟩, q3, q4, q5, q6, q7, q8⟩ := h.1 p hp
    obtain ⟨d1, d2, d3, d4⟩ := id q4
    obtain ⟨y1, y2, y3, y4⟩ := id q3
    obtain ⟨⟨f1, f2, f3, f4, f5, f6⟩, ⟨f7, f8, f9, f10, f11, f13, f14⟩, f12⟩ := F2 hk
    refine ⟨σ, fun Q => ?_, h, Lo.rf σ⟩
    simp (disch := omega) only [q_71_0, q_71_1, q_71_4, q_71_7, q_71_8, q_71_9, q_71_10, q_71_13, q_71_14, q_71_15, q_71_18, q_71_21, q_71_22, vinT, iClamp, clr_i, clr_l, clr_r, clr_n, true_and, and_true, or_true, true_or, false_or, or_false, iLe, iLt, iEq, iAdd, iMul, List.cons_append, List.nil_append, List.append_nil, zb0, zb1, if_true, if_false, not_true_eq_false, not_false_eq_true, Bool.false_eq_true, Nat.one_ne_zero, Nat.zero_ne_one, Nat.reduceEqDiff, Nat.reduceAdd, if_pos, if_neg, s_isPaper, e0, c0, c1k, c1n, rA1, hk, s_claimed hk (fun q hq => (q6 q hq).1)]
  · have e0 : b2 (inR x 8) = nI 0 := b2_f cc0
    refine ⟨σ, fun Q => ?_, h, Lo.rf σ⟩
    rw [anOv, if_neg cc0]
    simp (disch := omega) only [q_71_0, q_71_1, q_71_4, q_71_7, q_71_8, q_71_9, q_71_10, q_71_13, q_71_14, q_71_15, q_71_18, q_71_21, q_71_22, vinT, iClamp, clr_i, clr_l, clr_r, clr_n, true_and, and_true, or_true, true_or, false_or, or_false, iLe, iLt, iEq, iAdd, iMul, List.cons_append, List.nil_append, List.append_nil, zb0, zb1, if_true, if_false, not_true_eq_false, not_false_eq_true, Bool.false_eq_true, Nat.one_ne_zero, Nat.zero_ne_one, Nat.reduceEqDiff, Nat.reduceAdd, if_pos, if_neg, s_isPaper, e0]
def SCd : List Nat := [11, 12, 13]
theorem SCd_scr : ∀ b, b ∈ SCd → b ∈ SCR := by decide
theorem SCd_lt : ∀ b, b ∈ SCd → b < 127 := by decide
def anGe (a : AS) (x q y : Int32) (u : Nat) : Int64 := if inR x 8 then (if inR q 7 then (if inR y 3 then (lN (tI (dvU (cl a (tn x)) (tn y) (tn q)) (dvL (cl a (tn x)) (tn y)) u)) else -2) else -1) else -1
theorem x_Ge {X : Nat × (Nat → Int32)} {σ : Mem} {a : AS} {x q y : Int32} {u : Nat} (hu : u = 0 ∨ u = 1) (h : CI σ a) : ∃ σ', Ev X 72 [.ref 0, .int x, .int q, .int y, .int (nI u)] σ [.long (anGe a x q y u)] σ' ∧ CI σ' a ∧ Lo σ σ' := by
  by_cases cc0 : inR x 8
  · have e0 : b2 (inR x 8) = nI 1 := b2_t cc0
    by_cases cc1 : inR q 7
    · have e1 : b2 (inR q 7) = nI 1 := b2_t cc1
      by_cases cc2 : inR y 3
      · have e2 : b2 (inR y 3) = nI 1 := b2_t cc2
        obtain ⟨p, hp, rfl⟩ := inR_of cc0 (by omega)
        obtain ⟨j, hj, rfl⟩ := inR_of cc1 (by omega)
        obtain ⟨m, hm, rfl⟩ := inR_of cc2 (by omega)
        have ea : anGe a (nI p) (nI j) (nI m) u = lN (tI (dvU (cl a p) m j) (dvL (cl a p) m) u) := by
          rw [anGe, if_pos cc0, if_pos cc1, if_pos cc2]
          simp (disch := omega) only [tn_nI]
        rw [ea]
        have hk := pk_K p hp
        obtain ⟨⟨q1, q2⟩, q3, q4, q5, q6, q7, q8⟩ := h.1 p hp
        obtain ⟨d1, d2, d3, d4⟩ := id q4
        obtain ⟨y1, y2, y3, y4⟩ := id q3
        obtain ⟨⟨f1, f2, f3, f4, f5, f6⟩, ⟨f7, f8, f9, f10, f11, f13, f14⟩, f12⟩ := F2 hk
        obtain ⟨σ', i1, ⟨i2, i2'⟩, i3⟩ := s_divide (X := X) (σ := σ) (r := m) (v := .null) c11k f7 f8 (by simp only [pk]; omega) hm (fun q hq => (q6 q hq).2) (fun q hq => (q6 q hq).1)
        have i1' := fun Q => i1 Q
        have i3' : Off SCd σ σ' := i3
        obtain ⟨b1, b2⟩ := dvL_le (cl := cl a p) (r := m) (fun q hq => (q6 q hq).2)
        have b3 := dvU_le (cl := cl a p) (r := m) (fun q hq => (q6 q hq).2) hj
        obtain ⟨t1, t2, t3, t4, t5⟩ := Fa1 c11k
        refine ⟨σ', fun Q => ?_, CI_scr h (i3'.mono SCd_scr), i3'.lo SCd_lt⟩
        have hls := fun (Q : List Value → Mem → Prop) (v0 v1 w0 w1 w2 w3 : Value) => s_least2 (X := X) (σ := σ') (Q := Q) (a := dvU (cl a p) m j) (b := dvL (cl a p) m) (v0 := v0) (v1 := v1) (w0 := w0) (w1 := w1) (w2 := w2) (w3 := w3) (by omega) (by omega) (by omega) hu
        have j2 : σ'.1 12 j = nI (dvU (cl a p) m j) := i2' j hj
        have t1' : cK 12 = 10 := t1
        have t2' : cN 12 = 7 := t2
        simp (disch := omega) only [q_72_0, q_72_1, q_72_4, q_72_7, q_72_8, q_72_11, q_72_14, q_72_17, q_72_18, q_72_19, q_72_22, q_72_25, q_72_28, q_72_29, q_72_30, q_72_33, q_72_34, q_72_37, q_72_38, q_72_39, q_72_42, q_72_43, q_72_46, q_72_47, q_72_50, q_72_53, q_72_54, q_72_55, q_72_56, q_72_57, q_72_60, q_72_63, q_72_64, q_72_66, q_72_69, vinT, iClamp, clr_i, clr_l, clr_r, clr_n, true_and, and_true, or_true, true_or, false_or, or_false, iLe, iLt, iEq, iAdd, iMul, List.cons_append, List.nil_append, List.append_nil, zb0, zb1, if_true, if_false, not_true_eq_false, not_false_eq_true, Bool.false_eq_true, Nat.one_ne_zero, Nat.zero_ne_one, Nat.reduceEqDiff, Nat.reduceAdd, if_pos, if_neg, s_isPaper, s_isPerson, s_isRule, e0, e1, e2, c0, c1k, c1n, rA1, hk, i1', c11k, i2, j2, t1', t2', i2L, hls]
      · have e2 : b2 (inR y 3) = nI 0 := b2_f cc2
        refine ⟨σ, fun Q => ?_, h, Lo.rf σ⟩
        rw [anGe, if_pos cc0, if_pos cc1, if_neg cc2]
        simp (disch := omega) only [q_72_0, q_72_1, q_72_4, q_72_7, q_72_8, q_72_11, q_72_14, q_72_17, q_72_18, q_72_19, q_72_22, q_72_25, q_72_28, q_72_29, q_72_30, q_72_33, q_72_34, q_72_37, q_72_38, q_72_39, q_72_42, q_72_43, q_72_46, q_72_47, q_72_50, q_72_53, q_72_54, q_72_55, q_72_56, q_72_57, q_72_60, q_72_63, q_72_64, q_72_66, q_72_69, vinT, iClamp, clr_i, clr_l, clr_r, clr_n, true_and, and_true, or_true, true_or, false_or, or_false, iLe, iLt, iEq, iAdd, iMul, List.cons_append, List.nil_append, List.append_nil, zb0, zb1, if_true, if_false, not_true_eq_false, not_false_eq_true, Bool.false_eq_true, Nat.one_ne_zero, Nat.zero_ne_one, Nat.reduceEqDiff, Nat.reduceAdd, if_pos, if_neg, s_isPaper, s_isPerson, s_isRule, e0, e1, e2]
    · have e1 : b2 (inR q 7) = nI 0 := b2_f cc1
      refine ⟨σ, fun Q => ?_, h, Lo.rf σ⟩
      rw [anGe, if_pos cc0, if_neg cc1]
      simp (disch := omega) only [q_72_0, q_72_1, q_72_4, q_72_7, q_72_8, q_72_11, q_72_14, q_72_17, q_72_18, q_72_19, q_72_22, q_72_25, q_72_28, q_72_29, q_72_30, q_72_33, q_72_34, q_72_37, q_72_38, q_72_39, q_72_42, q_72_43, q_72_46, q_72_47, q_72_50, q_72_53, q_72_54, q_72_55, q_72_56, q_72_57, q_72_60, q_72_63, q_72_64, q_72_66, q_72_69, vinT, iClamp, clr_i, clr_l, clr_r, clr_n, true_and, and_true, or_true, true_or, false_or, or_false, iLe, iLt, iEq, iAdd, iMul, List.cons_append, List.nil_append, List.append_nil, zb0, zb1, if_true, if_false, not_true_eq_false, not_false_eq_true, Bool.false_eq_true, Nat.one_ne_zero, Nat.zero_ne_one, Nat.reduceEqDiff, Nat.reduceAdd, if_pos, if_neg, s_isPaper, s_isPerson, s_isRule, e0, e1]
  · have e0 : b2 (inR x 8) = nI 0 := b2_f cc0
    refine ⟨σ, fun Q => ?_, h, Lo.rf σ⟩
    rw [anGe, if_neg cc0]
    simp (disch := omega) only [q_72_0, q_72_1, q_72_4, q_72_7, q_72_8, q_72_11, q_72_14, q_72_17, q_72_18, q_72_19, q_72_22, q_72_25, q_72_28, q_72_29, q_72_30, q_72_33, q_72_34, q_72_37, q_72_38, q_72_39, q_72_42, q_72_43, q_72_46, q_72_47, q_72_50, q_72_53, q_72_54, q_72_55, q_72_56, q_72_57, q_72_60, q_72_63, q_72_64, q_72_66, q_72_69, vinT, iClamp, clr_i, clr_l, clr_r, clr_n, true_and, and_true, or_true, true_or, false_or, or_false, iLe, iLt, iEq, iAdd, iMul, List.cons_append, List.nil_append, List.append_nil, zb0, zb1, if_true, if_false, not_true_eq_false, not_false_eq_true, Bool.false_eq_true, Nat.one_ne_zero, Nat.zero_ne_one, Nat.reduceEqDiff, Nat.reduceAdd, if_pos, if_neg, s_isPaper, s_isPerson, s_isRule, e0]
theorem uf_le {u pt : Nat → Nat} {lo wh : Nat} (b1 : ∀ p, p < 7 → u p ≤ 10000) (b2 : lo ≤ 700) (b3 : wh ≤ 567106596) (b4 : ∀ p, p < 7 → pt p ≤ 567106596) : smF (ufF u pt lo wh) 0 7 ≤ 7 * 45368527680000 := smF_le 7 0 (fun p _ hp => by
  have m1 : u p * wh ≤ 10000 * 567106596 := Nat.mul_le_mul (b1 p (by omega)) b3
  have m2 : pt p * 100 * lo ≤ 567106596 * 100 * 700 := Nat.mul_le_mul (Nat.mul_le_mul (b4 p (by omega)) (Nat.le_refl _)) b2
  unfold ufF
  omega)
def anUf (a : AS) (x y : Int32) (u : Nat) : Int64 := if inR x 8 then (if inR y 3 then (lN (tI (smF (ufF (dvU (cl a (tn x)) (tn y)) (fun q => ptL (wt a (tn x)) (hr a (tn x)) q 4) (dvL (cl a (tn x)) (tn y)) (whL (wt a (tn x)) (hr a (tn x)))) 0 7) (dvL (cl a (tn x)) (tn y) * whL (wt a (tn x)) (hr a (tn x))) u)) else -2) else -1
theorem x_Uf {X : Nat × (Nat → Int32)} {σ : Mem} {a : AS} {x y : Int32} {u : Nat} {w0 w1 : Value} (hu : u = 0 ∨ u = 1) (h : CI σ a) : ∃ σ', Ev X 73 [.ref 0, .int x, .int y, .int (nI u), w0, w1] σ [.long (anUf a x y u)] σ' ∧ CI σ' a ∧ Lo σ σ' := by
  by_cases cc0 : inR x 8
  · have e0 : b2 (inR x 8) = nI 1 := b2_t cc0
    by_cases cc1 : inR y 3
    · have e1 : b2 (inR y 3) = nI 1 := b2_t cc1
      obtain ⟨p, hp, rfl⟩ := inR_of cc0 (by omega)
      obtain ⟨m, hm, rfl⟩ := inR_of cc1 (by omega)
      have ea : anUf a (nI p) (nI m) u = lN (tI (smF (ufF (dvU (cl a p) m) (fun q => ptL (wt a p) (hr a p) q 4) (dvL (cl a p) m) (whL (wt a p) (hr a p))) 0 7) (dvL (cl a p) m * whL (wt a p) (hr a p)) u) := by
        rw [anUf, if_pos cc0, if_pos cc1]
        simp (disch := omega) only [tn_nI]
      rw [ea]
      have hk := pk_K p hp
      obtain ⟨⟨q1, q2⟩, q3, q4, q5, q6, q7, q8⟩ := h.1 p hp
      obtain ⟨d1, d2, d3, d4⟩ := id q4
      obtain ⟨y1, y2, y3, y4⟩ := id q3
      obtain ⟨⟨f1, f2, f3, f4, f5, f6⟩, ⟨f7, f8, f9, f10, f11, f13, f14⟩, f12⟩ := F2 hk
      obtain ⟨σ', i1, ⟨i2, i2'⟩, i3⟩ := s_divide (X := X) (σ := σ) (r := m) (v := .null) c11k f7 f8 (by simp only [pk]; omega) hm (fun q hq => (q6 q hq).2) (fun q hq => (q6 q hq).1)
      have i1' := fun Q => i1 Q
      have i3' : Off SCd σ σ' := i3
      have h' := CI_scr h (i3'.mono SCd_scr)
      obtain ⟨-, -, ⟨-, -, g3, g4⟩, -⟩ := h'.1 p hp
      obtain ⟨b1, b2⟩ := dvL_le (cl := cl a p) (r := m) (fun q hq => (q6 q hq).2)
      have z1 := whL_pos (w := wt a p) y4
      have z2 := whL_le y3 y4
      have b4 : ∀ q, q < 7 → ptL (wt a p) (hr a p) q 4 ≤ 567106596 := fun q hq => by have := ptL_wh (w := wt a p) (h := hr a p) hq; omega
      have hun := fun (Q : List Value → Mem → Prop) (w1 w2 w3 v1 v2 v3 v4 : Value) => s_unfair (X := X) (σ := σ') (Q := Q) (w1 := w1) (w2 := w2) (w3 := w3) (v1 := v1) (v2 := v2) (v3 := v3) (v4 := v4) (pt := fun q => ptL (wt a p) (hr a p) q 4) c11k hk i2' i2 g4 g3 (fun q hq => dvU_le (fun q hq => (q6 q hq).2) hq) b2 z2 b4
      have z3 := uf_le (u := dvU (cl a p) m) (pt := fun q => ptL (wt a p) (hr a p) q 4) (lo := dvL (cl a p) m) (wh := whL (wt a p) (hr a p)) (fun q hq => dvU_le (fun q hq => (q6 q hq).2) hq) b2 z2 b4
      have z4 : dvL (cl a p) m * whL (wt a p) (hr a p) ≤ 700 * 567106596 := Nat.mul_le_mul b2 z2
      have z5 : 0 < dvL (cl a p) m * whL (wt a p) (hr a p) := Nat.mul_pos (by omega) z1
      refine ⟨σ', fun Q => ?_, h', i3'.lo SCd_lt⟩
      have hls := fun (Q : List Value → Mem → Prop) (v0 v1 w0 w1 w2 w3 : Value) => s_least2 (X := X) (σ := σ') (Q := Q) (a := smF (ufF (dvU (cl a p) m) (fun q => ptL (wt a p) (hr a p) q 4) (dvL (cl a p) m) (whL (wt a p) (hr a p))) 0 7) (b := dvL (cl a p) m * whL (wt a p) (hr a p)) (v0 := v0) (v1 := v1) (w0 := w0) (w1 := w1) (w2 := w2) (w3 := w3) (by omega) (by omega) z5 hu
      simp (disch := omega) only [q_73_0, q_73_1, q_73_4, q_73_7, q_73_10, q_73_11, q_73_12, q_73_15, q_73_18, q_73_21, q_73_22, q_73_23, q_73_26, q_73_27, q_73_30, q_73_31, q_73_32, q_73_35, q_73_36, q_73_39, q_73_40, q_73_43, q_73_44, q_73_47, q_73_48, q_73_49, q_73_52, q_73_54, q_73_56, q_73_57, q_73_60, q_73_63, q_73_64, q_73_65, q_73_68, q_73_69, q_73_70, q_73_73, q_73_74, q_73_75, q_73_78, vinT, iClamp, clr_i, clr_l, clr_r, clr_n, true_and, and_true, or_true, true_or, false_or, or_false, iLe, iLt, iEq, iAdd, iMul, List.cons_append, List.nil_append, List.append_nil, zb0, zb1, if_true, if_false, not_true_eq_false, not_false_eq_true, Bool.false_eq_true, Nat.one_ne_zero, Nat.zero_ne_one, Nat.reduceEqDiff, Nat.reduceAdd, if_pos, if_neg, s_isPaper, s_isRule, e0, e1, c0, c1k, c1n, rA1, hk, i1', c11k, hun, i2, g4, i2L, lMul, hls]
    · have e1 : b2 (inR y 3) = nI 0 := b2_f cc1
      refine ⟨σ, fun Q => ?_, h, Lo.rf σ⟩
      rw [anUf, if_pos cc0, if_neg cc1]
      simp (disch := omega) only [q_73_0, q_73_1, q_73_4, q_73_7, q_73_10, q_73_11, q_73_12, q_73_15, q_73_18, q_73_21, q_73_22, q_73_23, q_73_26, q_73_27, q_73_30, q_73_31, q_73_32, q_73_35, q_73_36, q_73_39, q_73_40, q_73_43, q_73_44, q_73_47, q_73_48, q_73_49, q_73_52, q_73_54, q_73_56, q_73_57, q_73_60, q_73_63, q_73_64, q_73_65, q_73_68, q_73_69, q_73_70, q_73_73, q_73_74, q_73_75, q_73_78, vinT, iClamp, clr_i, clr_l, clr_r, clr_n, true_and, and_true, or_true, true_or, false_or, or_false, iLe, iLt, iEq, iAdd, iMul, List.cons_append, List.nil_append, List.append_nil, zb0, zb1, if_true, if_false, not_true_eq_false, not_false_eq_true, Bool.false_eq_true, Nat.one_ne_zero, Nat.zero_ne_one, Nat.reduceEqDiff, Nat.reduceAdd, if_pos, if_neg, s_isPaper, s_isRule, e0, e1]
  · have e0 : b2 (inR x 8) = nI 0 := b2_f cc0
    refine ⟨σ, fun Q => ?_, h, Lo.rf σ⟩
    rw [anUf, if_neg cc0]
    simp (disch := omega) only [q_73_0, q_73_1, q_73_4, q_73_7, q_73_10, q_73_11, q_73_12, q_73_15, q_73_18, q_73_21, q_73_22, q_73_23, q_73_26, q_73_27, q_73_30, q_73_31, q_73_32, q_73_35, q_73_36, q_73_39, q_73_40, q_73_43, q_73_44, q_73_47, q_73_48, q_73_49, q_73_52, q_73_54, q_73_56, q_73_57, q_73_60, q_73_63, q_73_64, q_73_65, q_73_68, q_73_69, q_73_70, q_73_73, q_73_74, q_73_75, q_73_78, vinT, iClamp, clr_i, clr_l, clr_r, clr_n, true_and, and_true, or_true, true_or, false_or, or_false, iLe, iLt, iEq, iAdd, iMul, List.cons_append, List.nil_append, List.append_nil, zb0, zb1, if_true, if_false, not_true_eq_false, not_false_eq_true, Bool.false_eq_true, Nat.one_ne_zero, Nat.zero_ne_one, Nat.reduceEqDiff, Nat.reduceAdd, if_pos, if_neg, s_isPaper, s_isRule, e0]
def anKe (a : AS) (x y : Int32) : Int32 := if inR x 8 then (if inQ y 100 then (nI (tkD (knW (wt a (tn x)) (hr a (tn x)) (tn y)) (drB (co a (tn x))) 15 15)) else -2) else -1
theorem x_Ke {X : Nat × (Nat → Int32)} {σ : Mem} {a : AS} {x y : Int32} (h : CI σ a) : ∃ σ', Ev X 83 [.ref 0, .int x, .int y] σ [.int (anKe a x y)] σ' ∧ CI σ' a ∧ Lo σ σ' := by
  by_cases cc0 : inR x 8
  · have e0 : b2 (inR x 8) = nI 1 := b2_t cc0
    by_cases cc1 : inQ y 100
    · have e1 : b2 (inQ y 100) = nI 1 := b2_t cc1
      obtain ⟨p, hp, rfl⟩ := inR_of cc0 (by omega)
      obtain ⟨m, hm, rfl⟩ := inQ_of cc1 (by omega)
      have ea : anKe a (nI p) (nI m) = nI (tkD (knW (wt a p) (hr a p) m) (drB (co a p)) 15 15) := by
        rw [anKe, if_pos cc0, if_pos cc1]
        simp (disch := omega) only [tn_nI]
      rw [ea]
      have hk := pk_K p hp
      obtain ⟨⟨q1, q2⟩, q3, q4, q5, q6, q7, q8⟩ := h.1 p hp
      obtain ⟨d1, d2, d3, d4⟩ := id q4
      obtain ⟨y1, y2, y3, y4⟩ := id q3
      obtain ⟨⟨f1, f2, f3, f4, f5, f6⟩, ⟨f7, f8, f9, f10, f11, f13, f14⟩, f12⟩ := F2 hk
      refine ⟨σ, fun Q => ?_, h, Lo.rf σ⟩
      simp (disch := omega) only [q_83_0, q_83_1, q_83_4, q_83_7, q_83_8, q_83_9, q_83_10, q_83_12, q_83_15, q_83_18, q_83_20, q_83_21, q_83_22, q_83_25, q_83_26, q_83_27, q_83_28, q_83_31, vinT, iClamp, clr_i, clr_l, clr_r, clr_n, true_and, and_true, or_true, true_or, false_or, or_false, iLe, iLt, iEq, iAdd, iMul, List.cons_append, List.nil_append, List.append_nil, zb0, zb1, if_true, if_false, not_true_eq_false, not_false_eq_true, Bool.false_eq_true, Nat.one_ne_zero, Nat.zero_ne_one, Nat.reduceEqDiff, Nat.reduceAdd, if_pos, if_neg, s_isPaper, s_isWithin, e0, e1, c0, c1k, c1n, rA1, hk, s_keep hk hm q3 q4 (fun t ht => (q5 t ht).1) (fun t ht => (q5 t ht).2)]
    · have e1 : b2 (inQ y 100) = nI 0 := b2_f cc1
      refine ⟨σ, fun Q => ?_, h, Lo.rf σ⟩
      rw [anKe, if_pos cc0, if_neg cc1]
      simp (disch := omega) only [q_83_0, q_83_1, q_83_4, q_83_7, q_83_8, q_83_9, q_83_10, q_83_12, q_83_15, q_83_18, q_83_20, q_83_21, q_83_22, q_83_25, q_83_26, q_83_27, q_83_28, q_83_31, vinT, iClamp, clr_i, clr_l, clr_r, clr_n, true_and, and_true, or_true, true_or, false_or, or_false, iLe, iLt, iEq, iAdd, iMul, List.cons_append, List.nil_append, List.append_nil, zb0, zb1, if_true, if_false, not_true_eq_false, not_false_eq_true, Bool.false_eq_true, Nat.one_ne_zero, Nat.zero_ne_one, Nat.reduceEqDiff, Nat.reduceAdd, if_pos, if_neg, s_isPaper, s_isWithin, e0, e1]
  · have e0 : b2 (inR x 8) = nI 0 := b2_f cc0
    refine ⟨σ, fun Q => ?_, h, Lo.rf σ⟩
    rw [anKe, if_neg cc0]
    simp (disch := omega) only [q_83_0, q_83_1, q_83_4, q_83_7, q_83_8, q_83_9, q_83_10, q_83_12, q_83_15, q_83_18, q_83_20, q_83_21, q_83_22, q_83_25, q_83_26, q_83_27, q_83_28, q_83_31, vinT, iClamp, clr_i, clr_l, clr_r, clr_n, true_and, and_true, or_true, true_or, false_or, or_false, iLe, iLt, iEq, iAdd, iMul, List.cons_append, List.nil_append, List.append_nil, zb0, zb1, if_true, if_false, not_true_eq_false, not_false_eq_true, Bool.false_eq_true, Nat.one_ne_zero, Nat.zero_ne_one, Nat.reduceEqDiff, Nat.reduceAdd, if_pos, if_neg, s_isPaper, s_isWithin, e0]
def anCo (a : AS) (x y : Int32) : Int32 := if inR x 8 then (if inQ y 100 then (nI (smF (csF (co a (tn x)) (tkD (knW (wt a (tn x)) (hr a (tn x)) (tn y)) (drB (co a (tn x))) 15 15)) 0 4)) else -2) else -1
theorem x_Co {X : Nat × (Nat → Int32)} {σ : Mem} {a : AS} {x y : Int32} (h : CI σ a) : ∃ σ', Ev X 84 [.ref 0, .int x, .int y] σ [.int (anCo a x y)] σ' ∧ CI σ' a ∧ Lo σ σ' := by
  by_cases cc0 : inR x 8
  · have e0 : b2 (inR x 8) = nI 1 := b2_t cc0
    by_cases cc1 : inQ y 100
    · have e1 : b2 (inQ y 100) = nI 1 := b2_t cc1
      obtain ⟨p, hp, rfl⟩ := inR_of cc0 (by omega)
      obtain ⟨m, hm, rfl⟩ := inQ_of cc1 (by omega)
      have ea : anCo a (nI p) (nI m) = nI (smF (csF (co a p) (tkD (knW (wt a p) (hr a p) m) (drB (co a p)) 15 15)) 0 4) := by
        rw [anCo, if_pos cc0, if_pos cc1]
        simp (disch := omega) only [tn_nI]
      rw [ea]
      have hk := pk_K p hp
      obtain ⟨⟨q1, q2⟩, q3, q4, q5, q6, q7, q8⟩ := h.1 p hp
      obtain ⟨d1, d2, d3, d4⟩ := id q4
      obtain ⟨y1, y2, y3, y4⟩ := id q3
      obtain ⟨⟨f1, f2, f3, f4, f5, f6⟩, ⟨f7, f8, f9, f10, f11, f13, f14⟩, f12⟩ := F2 hk
      have z1 := tkD_lt (kn := knW (wt a p) (hr a p) m) (dr := drB (co a p)) 15 15 (by omega) (by omega)
      refine ⟨σ, fun Q => ?_, h, Lo.rf σ⟩
      simp (disch := omega) only [q_84_0, q_84_1, q_84_4, q_84_7, q_84_8, q_84_9, q_84_10, q_84_12, q_84_15, q_84_18, q_84_20, q_84_21, q_84_22, q_84_25, q_84_26, q_84_27, q_84_28, q_84_31, q_84_32, q_84_33, q_84_34, q_84_37, q_84_40, vinT, iClamp, clr_i, clr_l, clr_r, clr_n, true_and, and_true, or_true, true_or, false_or, or_false, iLe, iLt, iEq, iAdd, iMul, List.cons_append, List.nil_append, List.append_nil, zb0, zb1, if_true, if_false, not_true_eq_false, not_false_eq_true, Bool.false_eq_true, Nat.one_ne_zero, Nat.zero_ne_one, Nat.reduceEqDiff, Nat.reduceAdd, if_pos, if_neg, s_isPaper, s_isWithin, e0, e1, c0, c1k, c1n, rA1, hk, s_keep hk hm q3 q4 (fun t ht => (q5 t ht).1) (fun t ht => (q5 t ht).2), s_costOf hk z1 (fun t ht => (q5 t ht).1)]
    · have e1 : b2 (inQ y 100) = nI 0 := b2_f cc1
      refine ⟨σ, fun Q => ?_, h, Lo.rf σ⟩
      rw [anCo, if_pos cc0, if_neg cc1]
      simp (disch := omega) only [q_84_0, q_84_1, q_84_4, q_84_7, q_84_8, q_84_9, q_84_10, q_84_12, q_84_15, q_84_18, q_84_20, q_84_21, q_84_22, q_84_25, q_84_26, q_84_27, q_84_28, q_84_31, q_84_32, q_84_33, q_84_34, q_84_37, q_84_40, vinT, iClamp, clr_i, clr_l, clr_r, clr_n, true_and, and_true, or_true, true_or, false_or, or_false, iLe, iLt, iEq, iAdd, iMul, List.cons_append, List.nil_append, List.append_nil, zb0, zb1, if_true, if_false, not_true_eq_false, not_false_eq_true, Bool.false_eq_true, Nat.one_ne_zero, Nat.zero_ne_one, Nat.reduceEqDiff, Nat.reduceAdd, if_pos, if_neg, s_isPaper, s_isWithin, e0, e1]
  · have e0 : b2 (inR x 8) = nI 0 := b2_f cc0
    refine ⟨σ, fun Q => ?_, h, Lo.rf σ⟩
    rw [anCo, if_neg cc0]
    simp (disch := omega) only [q_84_0, q_84_1, q_84_4, q_84_7, q_84_8, q_84_9, q_84_10, q_84_12, q_84_15, q_84_18, q_84_20, q_84_21, q_84_22, q_84_25, q_84_26, q_84_27, q_84_28, q_84_31, q_84_32, q_84_33, q_84_34, q_84_37, q_84_40, vinT, iClamp, clr_i, clr_l, clr_r, clr_n, true_and, and_true, or_true, true_or, false_or, or_false, iLe, iLt, iEq, iAdd, iMul, List.cons_append, List.nil_append, List.append_nil, zb0, zb1, if_true, if_false, not_true_eq_false, not_false_eq_true, Bool.false_eq_true, Nat.one_ne_zero, Nat.zero_ne_one, Nat.reduceEqDiff, Nat.reduceAdd, if_pos, if_neg, s_isPaper, s_isWithin, e0]
def anQu (a : AS) (x : Int32) (u : Nat) : Int32 := if inR x 8 then (nI (if u = 1 then miF (mi a) (fun j => (ro a (tn x)).getD j 0) 0 (ro a (tn x)).length 0 else ubF (mi a) (be a) (fun j => (ro a (tn x)).getD j 0) 0 (ro a (tn x)).length 0)) else -1
theorem x_Qu {X : Nat × (Nat → Int32)} {σ : Mem} {a : AS} {x : Int32} {u : Nat} {w0 : Value} (hu : u = 0 ∨ u = 1) (h : CI σ a) : ∃ σ', Ev X 77 [.ref 0, .int x, .int (nI u), w0] σ [.int (anQu a x u)] σ' ∧ CI σ' a ∧ Lo σ σ' := by
  by_cases cc0 : inR x 8
  · have e0 : b2 (inR x 8) = nI 1 := b2_t cc0
    obtain ⟨p, hp, rfl⟩ := inR_of cc0 (by omega)
    have ea : anQu a (nI p) u = nI (if u = 1 then miF (mi a) (fun j => (ro a p).getD j 0) 0 (ro a p).length 0 else ubF (mi a) (be a) (fun j => (ro a p).getD j 0) 0 (ro a p).length 0) := by
      rw [anQu, if_pos cc0]
      simp (disch := omega) only [tn_nI]
    rw [ea]
    have hk := pk_K p hp
    obtain ⟨⟨q1, q2⟩, q3, q4, q5, q6, q7, q8⟩ := h.1 p hp
    obtain ⟨d1, d2, d3, d4⟩ := id q4
    obtain ⟨y1, y2, y3, y4⟩ := id q3
    obtain ⟨⟨f1, f2, f3, f4, f5, f6⟩, ⟨f7, f8, f9, f10, f11, f13, f14⟩, f12⟩ := F2 hk
    refine ⟨σ, fun Q => ?_, h, Lo.rf σ⟩
    rcases hu with rfl | rfl
    · simp (disch := omega) only [q_77_0, q_77_1, q_77_4, q_77_7, q_77_8, q_77_9, q_77_10, q_77_13, q_77_14, q_77_15, q_77_18, q_77_19, q_77_20, q_77_23, q_77_24, q_77_27, q_77_28, q_77_31, q_77_34, q_77_35, q_77_38, q_77_39, q_77_42, vinT, iClamp, clr_i, clr_l, clr_r, clr_n, true_and, and_true, or_true, true_or, false_or, or_false, iLe, iLt, iEq, iAdd, iMul, List.cons_append, List.nil_append, List.append_nil, zb0, zb1, if_true, if_false, not_true_eq_false, not_false_eq_true, Bool.false_eq_true, Nat.one_ne_zero, Nat.zero_ne_one, Nat.reduceEqDiff, Nat.reduceAdd, if_pos, if_neg, s_isPaper, e0, c0, c1k, c1n, rA1, hk, f9, c14k, s_unborne c14k f9 h.2.2 q7]
    · simp (disch := omega) only [q_77_0, q_77_1, q_77_4, q_77_7, q_77_8, q_77_9, q_77_10, q_77_13, q_77_14, q_77_15, q_77_18, q_77_19, q_77_20, q_77_23, q_77_24, q_77_27, q_77_28, q_77_31, q_77_34, q_77_35, q_77_38, q_77_39, q_77_42, vinT, iClamp, clr_i, clr_l, clr_r, clr_n, true_and, and_true, or_true, true_or, false_or, or_false, iLe, iLt, iEq, iAdd, iMul, List.cons_append, List.nil_append, List.append_nil, zb0, zb1, if_true, if_false, not_true_eq_false, not_false_eq_true, Bool.false_eq_true, Nat.one_ne_zero, Nat.zero_ne_one, Nat.reduceEqDiff, Nat.reduceAdd, if_pos, if_neg, s_isPaper, e0, c0, c1k, c1n, rA1, hk, f9, c14k, s_mindedIn c14k f9 h.2.2 q7]
  · have e0 : b2 (inR x 8) = nI 0 := b2_f cc0
    refine ⟨σ, fun Q => ?_, h, Lo.rf σ⟩
    rw [anQu, if_neg cc0]
    simp (disch := omega) only [q_77_0, q_77_1, q_77_4, q_77_7, q_77_8, q_77_9, q_77_10, q_77_13, q_77_14, q_77_15, q_77_18, q_77_19, q_77_20, q_77_23, q_77_24, q_77_27, q_77_28, q_77_31, q_77_34, q_77_35, q_77_38, q_77_39, q_77_42, vinT, iClamp, clr_i, clr_l, clr_r, clr_n, true_and, and_true, or_true, true_or, false_or, or_false, iLe, iLt, iEq, iAdd, iMul, List.cons_append, List.nil_append, List.append_nil, zb0, zb1, if_true, if_false, not_true_eq_false, not_false_eq_true, Bool.false_eq_true, Nat.one_ne_zero, Nat.zero_ne_one, Nat.reduceEqDiff, Nat.reduceAdd, if_pos, if_neg, s_isPaper, e0]
def SCq : List Nat := [24, 25, 26]
theorem SCq_scr : ∀ b, b ∈ SCq → b ∈ SCR := by decide
theorem SCq_lt : ∀ b, b ∈ SCq → b < 127 := by decide
def anPe (a : AS) (x : Int32) : Int32 := if inR x 128 then (if op (mi a) (be a) (tn x) 7 0 < 1000 then nI (miF (mi a) (fun j => (luF (mi a) (be a) (tn x) 7 0).getD j 0) 0 (luF (mi a) (be a) (tn x) 7 0).length 0) else -9) else -2
theorem x_Pe {X : Nat × (Nat → Int32)} {σ : Mem} {a : AS} {x : Int32} (h : CI σ a) : ∃ σ', Ev X 78 [.ref 0, .int x] σ [.int (anPe a x)] σ' ∧ CI σ' a ∧ Lo σ σ' := by
  by_cases cc0 : inR x 128
  · have e0 : b2 (inR x 128) = nI 1 := b2_t cc0
    obtain ⟨m, hm, rfl⟩ := inR_of cc0 (by omega)
    have ea : anPe a (nI m) = if op (mi a) (be a) m 7 0 < 1000 then nI (miF (mi a) (fun j => (luF (mi a) (be a) m 7 0).getD j 0) 0 (luF (mi a) (be a) m 7 0).length 0) else -9 := by
      rw [anPe, if_pos cc0]
      simp (disch := omega) only [tn_nI]
    rw [ea]
    obtain ⟨σ', i1, i2, i3⟩ := s_peace (X := X) (v := .null) c14k hm h.2.2
    have i1' := fun Q => i1 Q
    have i3' : Off SCq σ σ' := i3
    have h' := CI_scr h (i3'.mono SCq_scr)
    refine ⟨σ', fun Q => ?_, h', i3'.lo SCq_lt⟩
    by_cases c : op (mi a) (be a) m 7 0 < 1000
    · have r2 : RI σ' 24 _ := i2 c
      rw [if_pos c]
      simp (disch := omega) only [q_78_0, q_78_1, q_78_4, q_78_7, q_78_9, q_78_10, q_78_11, q_78_14, q_78_15, q_78_18, q_78_21, q_78_22, q_78_25, q_78_26, q_78_29, q_78_32, q_78_35, q_78_38, q_78_40, vinT, iClamp, clr_i, clr_l, clr_r, clr_n, true_and, and_true, or_true, true_or, false_or, or_false, iLe, iLt, iEq, iAdd, iMul, List.cons_append, List.nil_append, List.append_nil, zb0, zb1, if_true, if_false, not_true_eq_false, not_false_eq_true, Bool.false_eq_true, Nat.one_ne_zero, Nat.zero_ne_one, Nat.reduceEqDiff, Nat.reduceAdd, if_pos, if_neg, s_isSet, e0, c0, c1k, c1n, rA1, i1', b2_t c, c14k, s_mindedIn c14k c24k h'.2.2 r2]
    · rw [if_neg c]
      simp (disch := omega) only [q_78_0, q_78_1, q_78_4, q_78_7, q_78_9, q_78_10, q_78_11, q_78_14, q_78_15, q_78_18, q_78_21, q_78_22, q_78_25, q_78_26, q_78_29, q_78_32, q_78_35, q_78_38, q_78_40, vinT, iClamp, clr_i, clr_l, clr_r, clr_n, true_and, and_true, or_true, true_or, false_or, or_false, iLe, iLt, iEq, iAdd, iMul, List.cons_append, List.nil_append, List.append_nil, zb0, zb1, if_true, if_false, not_true_eq_false, not_false_eq_true, Bool.false_eq_true, Nat.one_ne_zero, Nat.zero_ne_one, Nat.reduceEqDiff, Nat.reduceAdd, if_pos, if_neg, s_isSet, e0, c0, c1k, c1n, rA1, i1', b2_f c, c14k]
  · have e0 : b2 (inR x 128) = nI 0 := b2_f cc0
    refine ⟨σ, fun Q => ?_, h, Lo.rf σ⟩
    rw [anPe, if_neg cc0]
    simp (disch := omega) only [q_78_0, q_78_1, q_78_4, q_78_7, q_78_9, q_78_10, q_78_11, q_78_14, q_78_15, q_78_18, q_78_21, q_78_22, q_78_25, q_78_26, q_78_29, q_78_32, q_78_35, q_78_38, q_78_40, vinT, iClamp, clr_i, clr_l, clr_r, clr_n, true_and, and_true, or_true, true_or, false_or, or_false, iLe, iLt, iEq, iAdd, iMul, List.cons_append, List.nil_append, List.append_nil, zb0, zb1, if_true, if_false, not_true_eq_false, not_false_eq_true, Bool.false_eq_true, Nat.one_ne_zero, Nat.zero_ne_one, Nat.reduceEqDiff, Nat.reduceAdd, if_pos, if_neg, s_isSet, e0]
def anPa (a : AS) (x i : Int32) : Int32 := if inR x 128 then (if op (mi a) (be a) (tn x) 7 0 < 1000 then pA (luF (mi a) (be a) (tn x) 7 0) i else -9) else -2
theorem x_Pa {X : Nat × (Nat → Int32)} {σ : Mem} {a : AS} {x i : Int32} (h : CI σ a) : ∃ σ', Ev X 79 [.ref 0, .int x, .int i] σ [.int (anPa a x i)] σ' ∧ CI σ' a ∧ Lo σ σ' := by
  by_cases cc0 : inR x 128
  · have e0 : b2 (inR x 128) = nI 1 := b2_t cc0
    obtain ⟨m, hm, rfl⟩ := inR_of cc0 (by omega)
    have ea : anPa a (nI m) i = if op (mi a) (be a) m 7 0 < 1000 then pA (luF (mi a) (be a) m 7 0) i else -9 := by
      rw [anPa, if_pos cc0]
      simp (disch := omega) only [tn_nI]
    rw [ea]
    obtain ⟨σ', i1, i2, i3⟩ := s_peace (X := X) (v := .null) c14k hm h.2.2
    have i1' := fun Q => i1 Q
    have i3' : Off SCq σ σ' := i3
    have h' := CI_scr h (i3'.mono SCq_scr)
    refine ⟨σ', fun Q => ?_, h', i3'.lo SCq_lt⟩
    by_cases c : op (mi a) (be a) m 7 0 < 1000
    · have r2 : RI σ' 24 _ := i2 c
      rw [if_pos c]
      simp (disch := omega) only [q_79_0, q_79_1, q_79_4, q_79_7, q_79_9, q_79_10, q_79_11, q_79_14, q_79_15, q_79_18, q_79_21, q_79_22, q_79_25, q_79_28, q_79_29, q_79_32, q_79_35, q_79_37, vinT, iClamp, clr_i, clr_l, clr_r, clr_n, true_and, and_true, or_true, true_or, false_or, or_false, iLe, iLt, iEq, iAdd, iMul, List.cons_append, List.nil_append, List.append_nil, zb0, zb1, if_true, if_false, not_true_eq_false, not_false_eq_true, Bool.false_eq_true, Nat.one_ne_zero, Nat.zero_ne_one, Nat.reduceEqDiff, Nat.reduceAdd, if_pos, if_neg, s_isSet, e0, c0, c1k, c1n, rA1, i1', b2_t c, c14k, c24k, s_personAt c24k r2]
    · rw [if_neg c]
      simp (disch := omega) only [q_79_0, q_79_1, q_79_4, q_79_7, q_79_9, q_79_10, q_79_11, q_79_14, q_79_15, q_79_18, q_79_21, q_79_22, q_79_25, q_79_28, q_79_29, q_79_32, q_79_35, q_79_37, vinT, iClamp, clr_i, clr_l, clr_r, clr_n, true_and, and_true, or_true, true_or, false_or, or_false, iLe, iLt, iEq, iAdd, iMul, List.cons_append, List.nil_append, List.append_nil, zb0, zb1, if_true, if_false, not_true_eq_false, not_false_eq_true, Bool.false_eq_true, Nat.one_ne_zero, Nat.zero_ne_one, Nat.reduceEqDiff, Nat.reduceAdd, if_pos, if_neg, s_isSet, e0, c0, c1k, c1n, rA1, i1', b2_f c, c14k]
  · have e0 : b2 (inR x 128) = nI 0 := b2_f cc0
    refine ⟨σ, fun Q => ?_, h, Lo.rf σ⟩
    rw [anPa, if_neg cc0]
    simp (disch := omega) only [q_79_0, q_79_1, q_79_4, q_79_7, q_79_9, q_79_10, q_79_11, q_79_14, q_79_15, q_79_18, q_79_21, q_79_22, q_79_25, q_79_28, q_79_29, q_79_32, q_79_35, q_79_37, vinT, iClamp, clr_i, clr_l, clr_r, clr_n, true_and, and_true, or_true, true_or, false_or, or_false, iLe, iLt, iEq, iAdd, iMul, List.cons_append, List.nil_append, List.append_nil, zb0, zb1, if_true, if_false, not_true_eq_false, not_false_eq_true, Bool.false_eq_true, Nat.one_ne_zero, Nat.zero_ne_one, Nat.reduceEqDiff, Nat.reduceAdd, if_pos, if_neg, s_isSet, e0]
