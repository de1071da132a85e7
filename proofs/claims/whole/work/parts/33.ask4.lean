/-! ===== the class: next, count, settle ===== -/
def inS (s n : Nat) : List Nat := (List.range n).filter (fun q => decide (bitN s q))
theorem inS_len (s : Nat) : ∀ n, (inS s n).length ≤ n := fun n => by
  have h := List.length_filter_le (fun q => decide (bitN s q)) (List.range n)
  rw [List.length_range] at h
  exact h
theorem inS_yes {s n : Nat} (h : bitN s n) : inS s (n + 1) = inS s n ++ [n] := by
  simp only [inS]
  rw [List.range_succ, List.filter_append]
  simp
  exact h
theorem inS_no {s n : Nat} (h : ¬ bitN s n) : inS s (n + 1) = inS s n := by
  simp only [inS]
  rw [List.range_succ, List.filter_append]
  simp [h]
theorem inS_mem {s n q : Nat} : q ∈ inS s n ↔ q < n ∧ bitN s q := by
  simp only [inS]
  rw [List.mem_filter, List.mem_range, decide_eq_true_eq]
def owN (a : AS) (t : Int32) (q : Nat) : Int64 := (owS a t q).toInt64
theorem l_next {X : Nat × (Nat → Int32)} {a : AS} {s : Nat} {t y : Int32} (hs : s < 128) : ∀ n i (σ : Mem), CI σ a → i + n = 7 → RI σ 28 (srt (owN a t) (inS s i)) → (∀ q, q ∈ inS s i → σ.2 30 q = owN a t q) → (∀ q, q < 7 → σ.1 3 q = owS a t q) → ∃ σ', (∀ Q, Rn X 82 44 [.ref 0, .int (nI s), .int t, .int y, .int (nI i)] [] σ Q ↔ Q [.int (pA (srt (owN a t) (inS s 7)) y)] σ') ∧ Off SCk σ σ' := by
  intro n
  induction n with
  | zero =>
    intro i σ h hi hR hN hd
    have e : i = 7 := by omega
    subst e
    refine ⟨σ, fun Q => ?_, Off.rf _ _⟩
    rw [q_82_44]
    simp (disch := omega) only [q_82_0, q_82_1, q_82_4, q_82_7, q_82_9, q_82_10, q_82_11, q_82_14, q_82_17, q_82_18, q_82_19, q_82_22, q_82_24, q_82_25, q_82_26, q_82_27, q_82_30, q_82_31, q_82_34, q_82_37, q_82_38, q_82_41, q_82_42, q_82_46, q_82_48, q_82_51, q_82_52, q_82_54, q_82_57, q_82_60, q_82_61, q_82_64, q_82_66, q_82_67, q_82_70, q_82_72, q_82_73, q_82_74, q_82_77, q_82_80, q_82_83, q_82_84, q_82_87, q_82_90, q_82_91, q_82_94, vinT, iClamp, clr_i, clr_l, clr_r, clr_n, true_and, and_true, or_true, true_or, false_or, or_false, iLe, iLt, iEq, iAdd, iMul, List.cons_append, List.nil_append, List.append_nil, zb0, zb1, if_true, if_false, not_true_eq_false, not_false_eq_true, Bool.false_eq_true, Nat.one_ne_zero, Nat.zero_ne_one, Nat.reduceEqDiff, Nat.reduceAdd, if_pos, if_neg, c0, c27k, c28k, s_personAt c28k hR]
  | succ n ih =>
    intro i σ h hi hR hN hd
    have hd9 := hd i (by omega)
    by_cases c : bitN s i
    · have hle := inS_len s i
      obtain ⟨σ1, k1, k2, k3, k4⟩ := s_put (X := X) (x := i) (v := owN a t i) (w := .null) c27k (show i < 7 by omega) hR (by rw [srt_len]; omega)
      have k1' := fun Q => k1 Q
      have k4' : Off SCk σ σ1 := k4
      have hnew : insL (ah (vp_updL (σ.2 (27 + 3)) i (owN a t i)) i) i (srt (owN a t) (inS s i)) = srt (owN a t) (inS s (i + 1)) := by
        rw [inS_yes c, srt_snoc]
        apply insL_congr
        intro z hz
        have hz1 := (srt_perm _ _).mem_iff.mp hz
        have hz' : z < i := (inS_mem.mp hz1).1
        apply ah_congr
        · rw [updL_at]
        · rw [updL_ne (by omega)]
          exact hN z hz1
      rw [hnew] at k2
      obtain ⟨σ', j1, j2⟩ := ih (i + 1) σ1 (CI_scr h (k4'.mono SCk_scr)) (by omega) k2 (fun q hq => by
        have e : σ1.2 30 = vp_updL (σ.2 (27 + 3)) i (owN a t i) := k3
        rw [e]
        by_cases c9 : q = i
        · rw [c9, updL_at]
        · rw [updL_ne c9]
          refine hN q ?_
          rw [inS_yes c] at hq
          simpa [c9] using hq) (fun q hq => by rw [(k4' 3 (by decide)).1]; exact hd q hq)
      refine ⟨σ', fun Q => ?_, k4'.tr j2⟩
      rw [q_82_44]
      have e9 : (owS a t i).toInt64 = owN a t i := rfl
      simp (disch := omega) only [q_82_0, q_82_1, q_82_4, q_82_7, q_82_9, q_82_10, q_82_11, q_82_14, q_82_17, q_82_18, q_82_19, q_82_22, q_82_24, q_82_25, q_82_26, q_82_27, q_82_30, q_82_31, q_82_34, q_82_37, q_82_38, q_82_41, q_82_42, q_82_46, q_82_48, q_82_51, q_82_52, q_82_54, q_82_57, q_82_60, q_82_61, q_82_64, q_82_66, q_82_67, q_82_70, q_82_72, q_82_73, q_82_74, q_82_77, q_82_80, q_82_83, q_82_84, q_82_87, q_82_90, q_82_91, q_82_94, vinT, iClamp, clr_i, clr_l, clr_r, clr_n, true_and, and_true, or_true, true_or, false_or, or_false, iLe, iLt, iEq, iAdd, iMul, List.cons_append, List.nil_append, List.append_nil, zb0, zb1, if_true, if_false, not_true_eq_false, not_false_eq_true, Bool.false_eq_true, Nat.one_ne_zero, Nat.zero_ne_one, Nat.reduceEqDiff, Nat.reduceAdd, if_pos, if_neg, c0, c27k, s_isIn, b2_t c, c3k, c3n, hd9, e9, k1']
      exact j1 Q
    · obtain ⟨σ', j1, j2⟩ := ih (i + 1) σ h (by omega) (by rw [inS_no c]; exact hR) (by rw [inS_no c]; exact hN) hd
      refine ⟨σ', fun Q => ?_, j2⟩
      rw [q_82_44]
      simp (disch := omega) only [q_82_0, q_82_1, q_82_4, q_82_7, q_82_9, q_82_10, q_82_11, q_82_14, q_82_17, q_82_18, q_82_19, q_82_22, q_82_24, q_82_25, q_82_26, q_82_27, q_82_30, q_82_31, q_82_34, q_82_37, q_82_38, q_82_41, q_82_42, q_82_46, q_82_48, q_82_51, q_82_52, q_82_54, q_82_57, q_82_60, q_82_61, q_82_64, q_82_66, q_82_67, q_82_70, q_82_72, q_82_73, q_82_74, q_82_77, q_82_80, q_82_83, q_82_84, q_82_87, q_82_90, q_82_91, q_82_94, vinT, iClamp, clr_i, clr_l, clr_r, clr_n, true_and, and_true, or_true, true_or, false_or, or_false, iLe, iLt, iEq, iAdd, iMul, List.cons_append, List.nil_append, List.append_nil, zb0, zb1, if_true, if_false, not_true_eq_false, not_false_eq_true, Bool.false_eq_true, Nat.one_ne_zero, Nat.zero_ne_one, Nat.reduceEqDiff, Nat.reduceAdd, if_pos, if_neg, s_isIn, b2_f c]
      exact j1 Q
def SCn : List Nat := [3, 6, 7, 8, 9, 10, 28, 29, 30]
theorem SCn_scr : ∀ b, b ∈ SCn → b ∈ SCR := by decide
theorem SCn_lt : ∀ b, b ∈ SCn → b < 127 := by decide
def anNx (a : AS) (x t y : Int32) : Int32 := if inR x 128 then (if t = -1 ∨ inR t 3 then pA (srt (owN a t) (inS (tn x) 7)) y else -2) else -2
theorem x_Nx {X : Nat × (Nat → Int32)} {σ : Mem} {a : AS} {x t y : Int32} {w0 : Value} (h : CI σ a) : ∃ σ', Ev X 82 [.ref 0, .int x, .int t, .int y, w0] σ [.int (anNx a x t y)] σ' ∧ CI σ' a ∧ Lo σ σ' := by
  by_cases k0 : inR x 128
  · have e0 : b2 (inR x 128) = nI 1 := b2_t k0
    rw [anNx, if_pos k0]
    by_cases k1 : t = -1 ∨ inR t 3
    · rw [if_pos k1]
      obtain ⟨s, hs, rfl⟩ := inR_of k0 (by omega)
      rw [tn_nI (by omega)]
      obtain ⟨σ1, i1, i2, i3⟩ := s_up (X := X) (t := t) (v := .null) h
      have i1' := fun Q => i1 Q
      have ho : Off SCn σ (sI σ1 28 1 (nI 0)) := (i3.mono (by decide)).sI (by decide) _ _
      obtain ⟨σ', j1, j2⟩ := l_next (X := X) (a := a) (t := t) (y := y) hs 7 0 (sI σ1 28 1 (nI 0)) (CI_scr h (ho.mono SCn_scr)) rfl (RI_nil (sI_at _ _ _ _)) (fun q hq => by simp [inS] at hq) (fun q hq => by rw [sI_off (by omega)]; exact i2 q hq)
      have ho2 : Off SCn σ σ' := ho.tr (j2.mono (by decide))
      refine ⟨σ', fun Q => ?_, CI_scr h (ho2.mono SCn_scr), ho2.lo SCn_lt⟩
      by_cases c : inR t 3
      · have e1 : b2 (inR t 3) = nI 1 := b2_t c
        simp (disch := omega) only [q_82_0, q_82_1, q_82_4, q_82_7, q_82_9, q_82_10, q_82_11, q_82_14, q_82_17, q_82_18, q_82_19, q_82_22, q_82_24, q_82_25, q_82_26, q_82_27, q_82_30, q_82_31, q_82_34, q_82_37, q_82_38, q_82_41, q_82_42, vinT, iClamp, clr_i, clr_l, clr_r, clr_n, true_and, and_true, or_true, true_or, false_or, or_false, iLe, iLt, iEq, iAdd, iMul, List.cons_append, List.nil_append, List.append_nil, zb0, zb1, if_true, if_false, not_true_eq_false, not_false_eq_true, Bool.false_eq_true, Nat.one_ne_zero, Nat.zero_ne_one, Nat.reduceEqDiff, Nat.reduceAdd, if_pos, if_neg, s_isSet, s_isTrade, e0, e1, c0, c27k, c28k, i1']
        exact j1 Q
      · have e1 : b2 (inR t 3) = nI 0 := b2_f c
        have c2 := k1.resolve_right c
        simp (disch := omega) only [q_82_0, q_82_1, q_82_4, q_82_7, q_82_9, q_82_10, q_82_11, q_82_14, q_82_17, q_82_18, q_82_19, q_82_22, q_82_24, vinT, iClamp, clr_i, clr_l, clr_r, clr_n, true_and, and_true, or_true, true_or, false_or, or_false, iLe, iLt, iEq, iAdd, iMul, List.cons_append, List.nil_append, List.append_nil, zb0, zb1, if_true, if_false, not_true_eq_false, not_false_eq_true, Bool.false_eq_true, Nat.one_ne_zero, Nat.zero_ne_one, Nat.reduceEqDiff, Nat.reduceAdd, if_pos, if_neg, s_isSet, s_isTrade, e0, e1, c2]
        rw [← c2]
        simp (disch := omega) only [q_82_25, q_82_26, q_82_27, q_82_30, q_82_31, q_82_34, q_82_37, q_82_38, q_82_41, q_82_42, vinT, iClamp, clr_i, clr_l, clr_r, clr_n, true_and, and_true, or_true, true_or, false_or, or_false, iLe, iLt, iEq, iAdd, iMul, List.cons_append, List.nil_append, List.append_nil, zb0, zb1, if_true, if_false, not_true_eq_false, not_false_eq_true, Bool.false_eq_true, Nat.one_ne_zero, Nat.zero_ne_one, Nat.reduceEqDiff, Nat.reduceAdd, if_pos, if_neg, c0, c27k, c28k, i1']
        exact j1 Q
    · rw [if_neg k1]
      have e1 : b2 (inR t 3) = nI 0 := b2_f (fun q => k1 (Or.inr q))
      have c2 : ¬ t = -1 := fun q => k1 (Or.inl q)
      refine ⟨σ, fun Q => ?_, h, Lo.rf σ⟩
      simp (disch := omega) only [q_82_0, q_82_1, q_82_4, q_82_7, q_82_9, q_82_10, q_82_11, q_82_14, q_82_17, q_82_18, q_82_19, q_82_22, q_82_24, q_82_25, q_82_26, q_82_27, q_82_30, q_82_31, q_82_34, q_82_37, q_82_38, q_82_41, q_82_42, vinT, iClamp, clr_i, clr_l, clr_r, clr_n, true_and, and_true, or_true, true_or, false_or, or_false, iLe, iLt, iEq, iAdd, iMul, List.cons_append, List.nil_append, List.append_nil, zb0, zb1, if_true, if_false, not_true_eq_false, not_false_eq_true, Bool.false_eq_true, Nat.one_ne_zero, Nat.zero_ne_one, Nat.reduceEqDiff, Nat.reduceAdd, if_pos, if_neg, s_isSet, s_isTrade, e0, e1, c2]
  · have e0 : b2 (inR x 128) = nI 0 := b2_f k0
    rw [anNx, if_neg k0]
    refine ⟨σ, fun Q => ?_, h, Lo.rf σ⟩
    simp (disch := omega) only [q_82_0, q_82_1, q_82_4, q_82_7, q_82_9, q_82_10, q_82_11, q_82_14, q_82_17, q_82_18, q_82_19, q_82_22, q_82_24, q_82_25, q_82_26, q_82_27, q_82_30, q_82_31, q_82_34, q_82_37, q_82_38, q_82_41, q_82_42, vinT, iClamp, clr_i, clr_l, clr_r, clr_n, true_and, and_true, or_true, true_or, false_or, or_false, iLe, iLt, iEq, iAdd, iMul, List.cons_append, List.nil_append, List.append_nil, zb0, zb1, if_true, if_false, not_true_eq_false, not_false_eq_true, Bool.false_eq_true, Nat.one_ne_zero, Nat.zero_ne_one, Nat.reduceEqDiff, Nat.reduceAdd, if_pos, if_neg, s_isSet, e0]
/-! count -/
def ctN (a : AS) (m p : Nat) : Nat := if m = 0 then (if 0 < (ro a p).length then 1 else 0) else if m = 1 then (ro a p).length else if m = 2 then pc4 (dtL (wt a p) (hr a p) 4) else (if 100 < smF (cl a p) 0 7 then 1 else 0)
theorem iSubLe {s : Nat} (h : s < 1073741824) : nI s - nI 100 ≤ nI 0 ↔ s ≤ 100 := by
  rw [Int32.le_iff_toInt_le, pk_sub_toInt h (by omega), nI_toInt (by omega)]
  omega
theorem s_counted {X : Nat × (Nat → Int32)} {σ : Mem} {Q : List Value → Mem → Prop} {a : AS} {m p : Nat} (h : CI σ a) (hm : m ≤ 3) (hp : p < 8) : Rn X 86 0 [.ref (pk p), .int (nI m)] [] σ Q ↔ Q [.int (nI (ctN a m p))] σ := by
  have hk := pk_K p hp
  obtain ⟨⟨q1, q2⟩, q3, q4, q5, q6, q7, q8⟩ := h.1 p hp
  obtain ⟨d1, d2, d3, d4⟩ := id q4
  obtain ⟨⟨f1, f2, f3, f4, f5, f6⟩, ⟨f7, f8, f9, f10, f11, f13, f14⟩, f12⟩ := F2 hk
  have r1 := q7.1
  have r2 := q7.2.1
  have e : m = 0 ∨ m = 1 ∨ m = 2 ∨ m = 3 := by omega
  rcases e with rfl | rfl | rfl | rfl
  · have s1 := fun (Q : List Value → Mem → Prop) (ls st : List Value) => q_86_1 (X := X) (σ := σ) (Q := Q) (x := nI 0) (p := 32) (ls := ls) (st := st) (by decide)
    by_cases c : 0 < (ro a p).length
    · simp (disch := omega) only [q_86_0, q_86_32, q_86_33, q_86_36, q_86_39, q_86_42, q_86_43, q_86_46, q_86_47, q_86_48, q_86_49, q_86_52, q_86_55, q_86_56, q_86_57, q_86_60, q_86_63, q_86_64, q_86_65, q_86_68, q_86_71, q_86_72, q_86_75, q_86_76, q_86_77, q_86_78, vinT, iClamp, clr_i, clr_l, clr_r, clr_n, true_and, and_true, or_true, true_or, false_or, or_false, iLe, iLt, iEq, iAdd, iMul, List.cons_append, List.nil_append, List.append_nil, zb0, zb1, if_true, if_false, not_true_eq_false, not_false_eq_true, Bool.false_eq_true, Nat.one_ne_zero, Nat.zero_ne_one, Nat.reduceEqDiff, Nat.reduceAdd, if_pos, if_neg, hk, f9, s1, r2, ctN]
    · simp (disch := omega) only [q_86_0, q_86_32, q_86_33, q_86_36, q_86_39, q_86_42, q_86_43, q_86_46, q_86_47, q_86_48, q_86_49, q_86_52, q_86_55, q_86_56, q_86_57, q_86_60, q_86_63, q_86_64, q_86_65, q_86_68, q_86_71, q_86_72, q_86_75, q_86_76, q_86_77, q_86_78, vinT, iClamp, clr_i, clr_l, clr_r, clr_n, true_and, and_true, or_true, true_or, false_or, or_false, iLe, iLt, iEq, iAdd, iMul, List.cons_append, List.nil_append, List.append_nil, zb0, zb1, if_true, if_false, not_true_eq_false, not_false_eq_true, Bool.false_eq_true, Nat.one_ne_zero, Nat.zero_ne_one, Nat.reduceEqDiff, Nat.reduceAdd, if_pos, if_neg, hk, f9, s1, r2, ctN]
  · have s1 := fun (Q : List Value → Mem → Prop) (ls st : List Value) => q_86_1 (X := X) (σ := σ) (Q := Q) (x := nI 1) (p := 48) (ls := ls) (st := st) (by decide)
    simp (disch := omega) only [q_86_0, q_86_32, q_86_33, q_86_36, q_86_39, q_86_42, q_86_43, q_86_46, q_86_47, q_86_48, q_86_49, q_86_52, q_86_55, q_86_56, q_86_57, q_86_60, q_86_63, q_86_64, q_86_65, q_86_68, q_86_71, q_86_72, q_86_75, q_86_76, q_86_77, q_86_78, vinT, iClamp, clr_i, clr_l, clr_r, clr_n, true_and, and_true, or_true, true_or, false_or, or_false, iLe, iLt, iEq, iAdd, iMul, List.cons_append, List.nil_append, List.append_nil, zb0, zb1, if_true, if_false, not_true_eq_false, not_false_eq_true, Bool.false_eq_true, Nat.one_ne_zero, Nat.zero_ne_one, Nat.reduceEqDiff, Nat.reduceAdd, if_pos, if_neg, hk, f9, s1, r2, ctN]
  · have s1 := fun (Q : List Value → Mem → Prop) (ls st : List Value) => q_86_1 (X := X) (σ := σ) (Q := Q) (x := nI 2) (p := 56) (ls := ls) (st := st) (by decide)
    have hd := dtL_lt (w := wt a p) (h := hr a p) (n := 4) (by omega)
    simp (disch := omega) only [q_86_0, q_86_32, q_86_33, q_86_36, q_86_39, q_86_42, q_86_43, q_86_46, q_86_47, q_86_48, q_86_49, q_86_52, q_86_55, q_86_56, q_86_57, q_86_60, q_86_63, q_86_64, q_86_65, q_86_68, q_86_71, q_86_72, q_86_75, q_86_76, q_86_77, q_86_78, vinT, iClamp, clr_i, clr_l, clr_r, clr_n, true_and, and_true, or_true, true_or, false_or, or_false, iLe, iLt, iEq, iAdd, iMul, List.cons_append, List.nil_append, List.append_nil, zb0, zb1, if_true, if_false, not_true_eq_false, not_false_eq_true, Bool.false_eq_true, Nat.one_ne_zero, Nat.zero_ne_one, Nat.reduceEqDiff, Nat.reduceAdd, if_pos, if_neg, hk, f9, s1, d1, s_bitCount hd, ctN]
  · have s1 := fun (Q : List Value → Mem → Prop) (ls st : List Value) => q_86_1 (X := X) (σ := σ) (Q := Q) (x := nI 3) (p := 64) (ls := ls) (st := st) (by decide)
    have hsm : smF (cl a p) 0 7 ≤ 7 * 100 := smF_le 7 0 (fun j _ b => (q6 j (by omega)).2)
    by_cases c : 100 < smF (cl a p) 0 7
    · simp (disch := omega) only [q_86_0, q_86_32, q_86_33, q_86_36, q_86_39, q_86_42, q_86_43, q_86_46, q_86_47, q_86_48, q_86_49, q_86_52, q_86_55, q_86_56, q_86_57, q_86_60, q_86_63, q_86_64, q_86_65, q_86_68, q_86_71, q_86_72, q_86_75, q_86_76, q_86_77, q_86_78, vinT, iClamp, clr_i, clr_l, clr_r, clr_n, true_and, and_true, or_true, true_or, false_or, or_false, iLe, iLt, iEq, iAdd, iMul, List.cons_append, List.nil_append, List.append_nil, zb0, zb1, if_true, if_false, not_true_eq_false, not_false_eq_true, Bool.false_eq_true, Nat.one_ne_zero, Nat.zero_ne_one, Nat.reduceEqDiff, Nat.reduceAdd, if_pos, if_neg, hk, s1, s_claimed hk (fun q hq => (q6 q hq).1), iSubLe, ctN]
    · simp (disch := omega) only [q_86_0, q_86_32, q_86_33, q_86_36, q_86_39, q_86_42, q_86_43, q_86_46, q_86_47, q_86_48, q_86_49, q_86_52, q_86_55, q_86_56, q_86_57, q_86_60, q_86_63, q_86_64, q_86_65, q_86_68, q_86_71, q_86_72, q_86_75, q_86_76, q_86_77, q_86_78, vinT, iClamp, clr_i, clr_l, clr_r, clr_n, true_and, and_true, or_true, true_or, false_or, or_false, iLe, iLt, iEq, iAdd, iMul, List.cons_append, List.nil_append, List.append_nil, zb0, zb1, if_true, if_false, not_true_eq_false, not_false_eq_true, Bool.false_eq_true, Nat.one_ne_zero, Nat.zero_ne_one, Nat.reduceEqDiff, Nat.reduceAdd, if_pos, if_neg, hk, s1, s_claimed hk (fun q hq => (q6 q hq).1), iSubLe, ctN]
theorem l_count {X : Nat × (Nat → Int32)} {σ : Mem} {Q : List Value → Mem → Prop} {a : AS} {m : Nat} (h : CI σ a) (hm : m ≤ 3) : ∀ n i s, i + n = 8 → (Rn X 85 15 [.ref 0, .int (nI m), .int (nI s), .int (nI i)] [] σ Q ↔ Q [.int (nI (s + smF (ctN a m) i n))] σ) := by
  intro n
  induction n with
  | zero =>
    intro i s hi
    have e : i = 8 := by omega
    subst e
    rw [q_85_15]
    simp (disch := omega) only [q_85_0, q_85_1, q_85_2, q_85_5, q_85_8, q_85_10, q_85_11, q_85_12, q_85_13, q_85_14, q_85_16, q_85_18, q_85_21, q_85_22, q_85_23, q_85_26, q_85_27, q_85_28, q_85_29, q_85_32, q_85_33, q_85_34, q_85_37, q_85_40, q_85_41, vinT, iClamp, clr_i, clr_l, clr_r, clr_n, true_and, and_true, or_true, true_or, false_or, or_false, iLe, iLt, iEq, iAdd, iMul, List.cons_append, List.nil_append, List.append_nil, zb0, zb1, if_true, if_false, not_true_eq_false, not_false_eq_true, Bool.false_eq_true, Nat.one_ne_zero, Nat.zero_ne_one, Nat.reduceEqDiff, Nat.reduceAdd, if_pos, if_neg, smF, Nat.add_zero]
  | succ n ih =>
    intro i s hi
    rw [q_85_15]
    simp (disch := omega) only [q_85_0, q_85_1, q_85_2, q_85_5, q_85_8, q_85_10, q_85_11, q_85_12, q_85_13, q_85_14, q_85_16, q_85_18, q_85_21, q_85_22, q_85_23, q_85_26, q_85_27, q_85_28, q_85_29, q_85_32, q_85_33, q_85_34, q_85_37, q_85_40, q_85_41, vinT, iClamp, clr_i, clr_l, clr_r, clr_n, true_and, and_true, or_true, true_or, false_or, or_false, iLe, iLt, iEq, iAdd, iMul, List.cons_append, List.nil_append, List.append_nil, zb0, zb1, if_true, if_false, not_true_eq_false, not_false_eq_true, Bool.false_eq_true, Nat.one_ne_zero, Nat.zero_ne_one, Nat.reduceEqDiff, Nat.reduceAdd, if_pos, if_neg, c0, c1k, c1n, rA1, s_counted h hm (show i < 8 by omega)]
    rw [ih (i + 1) _ (by omega), smF, Nat.add_assoc]
def anCt (a : AS) (x : Int32) : Int32 := if inQ x 3 then nI (smF (ctN a (tn x)) 0 8) else -2
theorem x_Ct {X : Nat × (Nat → Int32)} {σ : Mem} {a : AS} {x : Int32} {w0 w1 : Value} (h : CI σ a) : ∃ σ', Ev X 85 [.ref 0, .int x, w0, w1] σ [.int (anCt a x)] σ' ∧ CI σ' a ∧ Lo σ σ' := by
  refine ⟨σ, fun Q => ?_, h, Lo.rf σ⟩
  by_cases k0 : inQ x 3
  · have e0 : b2 (inQ x 3) = nI 1 := b2_t k0
    rw [anCt, if_pos k0]
    obtain ⟨m, hm, rfl⟩ := inQ_of k0 (by omega)
    rw [tn_nI (by omega)]
    simp (disch := omega) only [q_85_0, q_85_1, q_85_2, q_85_5, q_85_8, q_85_10, q_85_11, q_85_12, q_85_13, q_85_14, vinT, iClamp, clr_i, clr_l, clr_r, clr_n, true_and, and_true, or_true, true_or, false_or, or_false, iLe, iLt, iEq, iAdd, iMul, List.cons_append, List.nil_append, List.append_nil, zb0, zb1, if_true, if_false, not_true_eq_false, not_false_eq_true, Bool.false_eq_true, Nat.one_ne_zero, Nat.zero_ne_one, Nat.reduceEqDiff, Nat.reduceAdd, if_pos, if_neg, s_isWithin, e0]
    rw [l_count h hm 8 0 0 rfl, Nat.zero_add]
  · have e0 : b2 (inQ x 3) = nI 0 := b2_f k0
    rw [anCt, if_neg k0]
    simp (disch := omega) only [q_85_0, q_85_1, q_85_2, q_85_5, q_85_8, q_85_10, q_85_11, q_85_12, q_85_13, q_85_14, vinT, iClamp, clr_i, clr_l, clr_r, clr_n, true_and, and_true, or_true, true_or, false_or, or_false, iLe, iLt, iEq, iAdd, iMul, List.cons_append, List.nil_append, List.append_nil, zb0, zb1, if_true, if_false, not_true_eq_false, not_false_eq_true, Bool.false_eq_true, Nat.one_ne_zero, Nat.zero_ne_one, Nat.reduceEqDiff, Nat.reduceAdd, if_pos, if_neg, s_isWithin, e0]
/-! settle -/
theorem mbF_lt {f : Nat → Nat} : ∀ n i a, (∀ j, i ≤ j → j < i + n → f j < 7) → a < 128 → mbF f i n a < 128
  | 0, i, a, _, h => h
  | n + 1, i, a, hf, h => by
    rw [mbF]
    exact mbF_lt n (i + 1) _ (fun j h1 h2 => hf j (by omega) (by omega)) (or_lt a h _ (hf i (by omega) (by omega)))
theorem luF_ok {mi : Nat → Nat → Nat} {be : Nat → Nat} {s : Nat} : ∀ n b, b < 128 → (luF mi be s n b).Nodup ∧ ∀ x, x ∈ luF mi be s n b → ¬ bitN b x ∧ x < 7
  | 0, b, hb => ⟨by simp [luF], fun x hx => by simp [luF] at hx⟩
  | n + 1, b, hb => by
    rw [luF]
    by_cases c1 : b = s
    · rw [if_pos c1]
      exact ⟨List.nodup_nil, fun x hx => by simp at hx⟩
    · rw [if_neg c1]
      cases c2 : foF mi be s b 0 7 with
      | none => exact ⟨List.nodup_nil, fun x hx => by simp at hx⟩
      | some y =>
        obtain ⟨k1, k2, k3, k4⟩ := foF_lt 7 0 y c2
        have hy : y < 7 := by omega
        obtain ⟨h1, h2⟩ := luF_ok (mi := mi) (be := be) (s := s) n (b ||| 2 ^ y) (or_lt b hb y hy)
        refine ⟨List.nodup_cons.mpr ⟨fun q => ?_, h1⟩, fun x hx => ?_⟩
        · exact (h2 y q).1 ((bit_or b hb y hy y hy).mpr (Or.inr rfl))
        · rcases List.mem_cons.mp hx with e | hx
          · rw [e]; exact ⟨k3.2, hy⟩
          · obtain ⟨g1, g2⟩ := h2 x hx
            exact ⟨fun q => g1 ((bit_or b hb y hy x g2).mpr (Or.inl q)), g2⟩
def mkL (l : List Nat) : Nat := mbF (fun j => l.getD j 0) 0 l.length 0
def lu (a : AS) (p : Nat) : List Nat := luF (mi a) (be a) (mkL (ro a p)) 7 0
def anSe (a : AS) (x : Int32) : Int32 := if inR x 8 then (if op (mi a) (be a) (mkL (ro a (tn x))) 7 0 < 1000 then nI (puF (fun j => pA (ro a (tn x)) (nI j)) (fun j => pA (lu a (tn x)) (nI j)) 0 7) else -9) else -1
def nxSe (a : AS) (x : Int32) : AS := if inR x 8 ∧ op (mi a) (be a) (mkL (ro a (tn x))) 7 0 < 1000 then setRo a (tn x) (lu a (tn x)) else a
theorem x_Se {X : Nat × (Nat → Int32)} {σ : Mem} {a : AS} {x : Int32} {w0 w1 : Value} (h : CI σ a) : ∃ σ', Ev X 80 [.ref 0, .int x, w0, w1] σ [.int (anSe a x)] σ' ∧ CI σ' (nxSe a x) ∧ Lo σ σ' := by
  by_cases k0 : inR x 8
  · have e0 : b2 (inR x 8) = nI 1 := b2_t k0
    obtain ⟨p, hp, rfl⟩ := inR_of k0 (by omega)
    have hk := pk_K p hp
    obtain ⟨⟨q1, q2⟩, q3, q4, q5, q6, q7, q8⟩ := h.1 p hp
    obtain ⟨⟨f1, f2, f3, f4, f5, f6⟩, ⟨f7, f8, f9, f10, f11, f13, f14⟩, f12⟩ := F2 hk
    have hs : mkL (ro a p) < 128 := mbF_lt _ 0 0 (fun j _ hj => (q7.2.2 j (by omega)).2) (by omega)
    have hmem := fun (Q : List Value → Mem → Prop) (v w : Value) => s_members (X := X) (σ := σ) (Q := Q) (v := v) (w := w) f9 q7
    have emk : mbF (fun j => (ro a p).getD j 0) 0 (ro a p).length 0 = mkL (ro a p) := rfl
    obtain ⟨σ1, i1, i2, i3⟩ := s_peace (X := X) (v := .null) c14k hs h.2.2
    have i1' := fun Q => i1 Q
    have i3' : Off SCq σ σ1 := i3
    have h' := CI_scr h (i3'.mono SCq_scr)
    rw [anSe, if_pos k0, nxSe, tn_nI (by omega)]
    by_cases c : op (mi a) (be a) (mkL (ro a p)) 7 0 < 1000
    · rw [if_pos c, if_pos ⟨k0, c⟩]
      have r2 : RI σ1 24 (lu a p) := i2 c
      have q7' := (h'.1 p hp).2.2.2.2.2.1
      obtain ⟨σ', j1, j2, j3⟩ := s_copy (X := X) (v := .null) f9 c24k (by simp only [pk]; omega) r2
      have j1' := fun Q => j1 Q
      have hun := fun (Q : List Value → Mem → Prop) (v w : Value) => s_unlike (X := X) (σ := σ1) (Q := Q) (v := v) (w := w) f9 c24k q7' r2
      obtain ⟨⟨p1, p2⟩, p3, ⟨d1, d2, d3, d4⟩, p5, p6, p7, p8⟩ := h'.1 p hp
      have e3 : ro (setRo a p (lu a p)) p = lu a p := by simp [setRo, ro, u1_at]
      refine ⟨σ', fun Q => ?_, CI_set h' hp (fun b hb => j3 b (by simp; omega)) ⟨⟨by rw [(j3 (pk p) (by simp <;> omega)).1]; exact p1, p2⟩, WH_congr p3 (fun b b1 b2 => (j3 b (by simp; omega)).1), ⟨by rw [(j3 (pk p) (by simp <;> omega)).1]; exact d1, by rw [(j3 (pk p) (by simp <;> omega)).1]; exact d2, fun p' hp' => by rw [(j3 (pk p + 11) (by simp)).2]; exact d3 p' hp', by rw [(j3 (pk p) (by simp <;> omega)).2]; exact d4⟩, fun t ht => by rw [(j3 (pk p + 2) (by simp)).1]; exact p5 t ht, fun p' hp' => by rw [(j3 (pk p + 8) (by simp)).1]; exact p6 p' hp', by rw [e3]; exact j2, by rw [e3]; exact (luF_ok 7 0 (by omega)).1⟩ hsR rfl rfl rfl, ?_⟩
      · simp (disch := omega) only [q_80_0, q_80_1, q_80_4, q_80_7, q_80_8, q_80_9, q_80_10, q_80_13, q_80_14, q_80_15, q_80_18, q_80_19, q_80_20, q_80_23, q_80_24, q_80_27, q_80_30, q_80_33, q_80_35, q_80_36, q_80_37, q_80_38, q_80_41, q_80_44, q_80_47, q_80_48, q_80_49, q_80_50, q_80_53, q_80_56, q_80_59, q_80_60, vinT, iClamp, clr_i, clr_l, clr_r, clr_n, true_and, and_true, or_true, true_or, false_or, or_false, iLe, iLt, iEq, iAdd, iMul, List.cons_append, List.nil_append, List.append_nil, zb0, zb1, if_true, if_false, not_true_eq_false, not_false_eq_true, Bool.false_eq_true, Nat.one_ne_zero, Nat.zero_ne_one, Nat.reduceEqDiff, Nat.reduceAdd, if_pos, if_neg, s_isPaper, e0, c0, c1k, c1n, rA1, hk, f9, c14k, hmem, emk, i1', b2_t c, hun, j1']
      · intro b hb
        have g1 := i3'.lo SCq_lt b hb
        have g2 := (j3.lo (by simp [pk]; omega)) b hb
        exact ⟨g2.1.trans g1.1, g2.2.trans g1.2⟩
    · rw [if_neg c, if_neg (fun q => c q.2)]
      refine ⟨σ1, fun Q => ?_, h', i3'.lo SCq_lt⟩
      simp (disch := omega) only [q_80_0, q_80_1, q_80_4, q_80_7, q_80_8, q_80_9, q_80_10, q_80_13, q_80_14, q_80_15, q_80_18, q_80_19, q_80_20, q_80_23, q_80_24, q_80_27, q_80_30, q_80_33, q_80_35, q_80_36, q_80_37, q_80_38, q_80_41, q_80_44, q_80_47, q_80_48, q_80_49, q_80_50, q_80_53, q_80_56, q_80_59, q_80_60, vinT, iClamp, clr_i, clr_l, clr_r, clr_n, true_and, and_true, or_true, true_or, false_or, or_false, iLe, iLt, iEq, iAdd, iMul, List.cons_append, List.nil_append, List.append_nil, zb0, zb1, if_true, if_false, not_true_eq_false, not_false_eq_true, Bool.false_eq_true, Nat.one_ne_zero, Nat.zero_ne_one, Nat.reduceEqDiff, Nat.reduceAdd, if_pos, if_neg, s_isPaper, e0, c0, c1k, c1n, rA1, hk, f9, c14k, hmem, emk, i1', b2_f c]
  · have e0 : b2 (inR x 8) = nI 0 := b2_f k0
    rw [anSe, if_neg k0, nxSe, if_neg (fun q => k0 q.1)]
    refine ⟨σ, fun Q => ?_, h, Lo.rf σ⟩
    simp (disch := omega) only [q_80_0, q_80_1, q_80_4, q_80_7, q_80_8, q_80_9, q_80_10, q_80_13, q_80_14, q_80_15, q_80_18, q_80_19, q_80_20, q_80_23, q_80_24, q_80_27, q_80_30, q_80_33, q_80_35, q_80_36, q_80_37, q_80_38, q_80_41, q_80_44, q_80_47, q_80_48, q_80_49, q_80_50, q_80_53, q_80_56, q_80_59, q_80_60, vinT, iClamp, clr_i, clr_l, clr_r, clr_n, true_and, and_true, or_true, true_or, false_or, or_false, iLe, iLt, iEq, iAdd, iMul, List.cons_append, List.nil_append, List.append_nil, zb0, zb1, if_true, if_false, not_true_eq_false, not_false_eq_true, Bool.false_eq_true, Nat.one_ne_zero, Nat.zero_ne_one, Nat.reduceEqDiff, Nat.reduceAdd, if_pos, if_neg, s_isPaper, e0]
