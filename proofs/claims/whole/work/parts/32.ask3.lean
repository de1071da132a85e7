/-! ===== the class: fairest, owed, next, count, settle ===== -/
def ufS (a : AS) (p r : Nat) : Nat := smF (ufF (dvU (cl a p) r) (fun q => ptL (wt a p) (hr a p) q 4) (dvL (cl a p) r) (whL (wt a p) (hr a p))) 0 7
/-- the best rule so far, its upper and lower -/
def faF (a : AS) (p : Nat) (i : Nat) : Nat → Nat → Nat → Nat → Nat
  | 0, b, _, _ => b
  | n + 1, b, up, lo => if i = 0 ∨ ufS a p i * lo < up * dvL (cl a p) i then faF a p (i + 1) n i (ufS a p i) (dvL (cl a p) i) else faF a p (i + 1) n b up lo
theorem l_fair {X : Nat × (Nat → Int32)} {a : AS} {p : Nat} (hp : p < 8) : ∀ n i b up lo (σ : Mem) (v1 v2 : Value), CI σ a → i + n = 3 → up ≤ 7 * 45368527680000 → lo ≤ 700 → ∃ σ', (∀ Q, Rn X 74 19 [.ref 0, .int (nI p), .int (nI b), .long (lN up), .null, .long (lN lo), .null, .int (nI i), v1, v2] [] σ Q ↔ Q [.int (nI (faF a p i n b up lo))] σ') ∧ Off SCd σ σ' := by
  have hk := pk_K p hp
  obtain ⟨⟨f1, f2, f3, f4, f5, f6⟩, ⟨f7, f8, f9, f10, f11, f13, f14⟩, f12⟩ := F2 hk
  intro n
  induction n with
  | zero =>
    intro i b up lo σ v1 v2 h hi hup hlo
    have e : i = 3 := by omega
    subst e
    refine ⟨σ, fun Q => ?_, Off.rf _ _⟩
    rw [q_74_19]
    simp (disch := omega) only [q_74_0, q_74_1, q_74_4, q_74_7, q_74_8, q_74_9, q_74_10, q_74_11, q_74_12, q_74_13, q_74_14, q_74_16, q_74_17, q_74_21, q_74_22, q_74_25, q_74_26, q_74_29, q_74_30, q_74_33, q_74_34, q_74_35, q_74_38, q_74_40, q_74_43, q_74_44, q_74_47, q_74_48, q_74_51, q_74_52, q_74_53, q_74_56, q_74_58, q_74_60, q_74_63, q_74_65, q_74_67, q_74_68, q_74_69, q_74_70, q_74_73, q_74_76, q_74_77, q_74_78, q_74_79, q_74_82, q_74_84, q_74_85, q_74_87, q_74_88, q_74_89, q_74_92, q_74_95, q_74_96, q_74_98, q_74_101, q_74_104, q_74_105, vinT, iClamp, clr_i, clr_l, clr_r, clr_n, true_and, and_true, or_true, true_or, false_or, or_false, iLe, iLt, iEq, iAdd, iMul, List.cons_append, List.nil_append, List.append_nil, zb0, zb1, if_true, if_false, not_true_eq_false, not_false_eq_true, Bool.false_eq_true, Nat.one_ne_zero, Nat.zero_ne_one, Nat.reduceEqDiff, Nat.reduceAdd, if_pos, if_neg, faF]
  | succ n ih =>
    intro i b up lo σ v1 v2 h hi hup hlo
    obtain ⟨⟨q1, q2⟩, q3, q4, q5, q6, q7, q8⟩ := h.1 p hp
    obtain ⟨y1, y2, y3, y4⟩ := id q3
    obtain ⟨σ1, i1, ⟨i2, i2'⟩, i3⟩ := s_divide (X := X) (σ := σ) (r := i) (v := .null) c11k f7 f8 (by simp only [pk]; omega) (by omega) (fun q hq => (q6 q hq).2) (fun q hq => (q6 q hq).1)
    have i1' := fun Q => i1 Q
    have i3' : Off SCd σ σ1 := i3
    have h' := CI_scr h (i3'.mono SCd_scr)
    obtain ⟨-, -, ⟨-, -, g3, g4⟩, -⟩ := h'.1 p hp
    obtain ⟨b1, b2⟩ := dvL_le (cl := cl a p) (r := i) (fun q hq => (q6 q hq).2)
    have z2 := whL_le y3 y4
    have b4 : ∀ q, q < 7 → ptL (wt a p) (hr a p) q 4 ≤ 567106596 := fun q hq => by have := ptL_wh (w := wt a p) (h := hr a p) hq; omega
    have hun := fun (Q : List Value → Mem → Prop) (w1 w2 w3 v1 v2 v3 v4 : Value) => s_unfair (X := X) (σ := σ1) (Q := Q) (w1 := w1) (w2 := w2) (w3 := w3) (v1 := v1) (v2 := v2) (v3 := v3) (v4 := v4) (pt := fun q => ptL (wt a p) (hr a p) q 4) c11k hk i2' i2 g4 g3 (fun q hq => dvU_le (fun q hq => (q6 q hq).2) hq) b2 z2 b4
    have es : smF (ufF (dvU (cl a p) i) (fun q => ptL (wt a p) (hr a p) q 4) (dvL (cl a p) i) (whL (wt a p) (hr a p))) 0 7 = ufS a p i := rfl
    have z3 : ufS a p i ≤ 7 * 45368527680000 := uf_le (fun q hq => dvU_le (fun q hq => (q6 q hq).2) hq) b2 z2 b4
    have z4 : ufS a p i * lo ≤ 7 * 45368527680000 * 700 := Nat.mul_le_mul z3 hlo
    have z5 : up * dvL (cl a p) i ≤ 7 * 45368527680000 * 700 := Nat.mul_le_mul hup b2
    obtain ⟨σ2, k1, k2⟩ := ih (i + 1) i (ufS a p i) (dvL (cl a p) i) σ1 (.long (lN (ufS a p i))) .null h' (by omega) z3 b2
    obtain ⟨σ3, k3, k4⟩ := ih (i + 1) b up lo σ1 (.long (lN (ufS a p i))) .null h' (by omega) hup hlo
    by_cases c : i = 0 ∨ ufS a p i * lo < up * dvL (cl a p) i
    · refine ⟨σ2, fun Q => ?_, i3'.tr k2⟩
      rw [q_74_19, faF, if_pos c]
      by_cases c2 : i = 0
      · simp (disch := omega) only [q_74_0, q_74_1, q_74_4, q_74_7, q_74_8, q_74_9, q_74_10, q_74_11, q_74_12, q_74_13, q_74_14, q_74_16, q_74_17, q_74_21, q_74_22, q_74_25, q_74_26, q_74_29, q_74_30, q_74_33, q_74_34, q_74_35, q_74_38, q_74_40, q_74_43, q_74_44, q_74_47, q_74_48, q_74_51, q_74_52, q_74_53, q_74_56, q_74_58, q_74_60, q_74_63, q_74_65, q_74_67, q_74_68, q_74_69, q_74_70, q_74_73, q_74_76, q_74_77, q_74_78, q_74_79, q_74_82, q_74_84, q_74_85, q_74_87, q_74_88, q_74_89, q_74_92, q_74_95, q_74_96, q_74_98, q_74_101, q_74_104, q_74_105, vinT, iClamp, clr_i, clr_l, clr_r, clr_n, true_and, and_true, or_true, true_or, false_or, or_false, iLe, iLt, iEq, iAdd, iMul, List.cons_append, List.nil_append, List.append_nil, zb0, zb1, if_true, if_false, not_true_eq_false, not_false_eq_true, Bool.false_eq_true, Nat.one_ne_zero, Nat.zero_ne_one, Nat.reduceEqDiff, Nat.reduceAdd, if_pos, if_neg, c0, c1k, c1n, rA1, hk, i1', c11k, hun, es, i2, i2L]
        exact k1 Q
      · have c3 := c.resolve_left c2
        simp (disch := omega) only [q_74_0, q_74_1, q_74_4, q_74_7, q_74_8, q_74_9, q_74_10, q_74_11, q_74_12, q_74_13, q_74_14, q_74_16, q_74_17, q_74_21, q_74_22, q_74_25, q_74_26, q_74_29, q_74_30, q_74_33, q_74_34, q_74_35, q_74_38, q_74_40, q_74_43, q_74_44, q_74_47, q_74_48, q_74_51, q_74_52, q_74_53, q_74_56, q_74_58, q_74_60, q_74_63, q_74_65, q_74_67, q_74_68, q_74_69, q_74_70, q_74_73, q_74_76, q_74_77, q_74_78, q_74_79, q_74_82, q_74_84, q_74_85, q_74_87, q_74_88, q_74_89, q_74_92, q_74_95, q_74_96, q_74_98, q_74_101, q_74_104, q_74_105, vinT, iClamp, clr_i, clr_l, clr_r, clr_n, true_and, and_true, or_true, true_or, false_or, or_false, iLe, iLt, iEq, iAdd, iMul, List.cons_append, List.nil_append, List.append_nil, zb0, zb1, if_true, if_false, not_true_eq_false, not_false_eq_true, Bool.false_eq_true, Nat.one_ne_zero, Nat.zero_ne_one, Nat.reduceEqDiff, Nat.reduceAdd, if_pos, if_neg, c0, c1k, c1n, rA1, hk, i1', c11k, hun, es, i2, i2L, lMul, lc_ge, lLt]
        exact k1 Q
    · refine ⟨σ3, fun Q => ?_, i3'.tr k4⟩
      rw [q_74_19, faF, if_neg c]
      have c2 : ¬ i = 0 := fun q => c (Or.inl q)
      have c3 : ¬ ufS a p i * lo < up * dvL (cl a p) i := fun q => c (Or.inr q)
      simp (disch := omega) only [q_74_0, q_74_1, q_74_4, q_74_7, q_74_8, q_74_9, q_74_10, q_74_11, q_74_12, q_74_13, q_74_14, q_74_16, q_74_17, q_74_21, q_74_22, q_74_25, q_74_26, q_74_29, q_74_30, q_74_33, q_74_34, q_74_35, q_74_38, q_74_40, q_74_43, q_74_44, q_74_47, q_74_48, q_74_51, q_74_52, q_74_53, q_74_56, q_74_58, q_74_60, q_74_63, q_74_65, q_74_67, q_74_68, q_74_69, q_74_70, q_74_73, q_74_76, q_74_77, q_74_78, q_74_79, q_74_82, q_74_84, q_74_85, q_74_87, q_74_88, q_74_89, q_74_92, q_74_95, q_74_96, q_74_98, q_74_101, q_74_104, q_74_105, vinT, iClamp, clr_i, clr_l, clr_r, clr_n, true_and, and_true, or_true, true_or, false_or, or_false, iLe, iLt, iEq, iAdd, iMul, List.cons_append, List.nil_append, List.append_nil, zb0, zb1, if_true, if_false, not_true_eq_false, not_false_eq_true, Bool.false_eq_true, Nat.one_ne_zero, Nat.zero_ne_one, Nat.reduceEqDiff, Nat.reduceAdd, if_pos, if_neg, c0, c1k, c1n, rA1, hk, i1', c11k, hun, es, i2, i2L, lMul, lc_ge, lLt, c3]
      exact k3 Q
def anFa (a : AS) (x : Int32) : Int32 := if inR x 8 then nI (faF a (tn x) 0 3 0 0 0) else -1
theorem x_Fa {X : Nat × (Nat → Int32)} {σ : Mem} {a : AS} {x : Int32} {w0 w1 w2 w3 w4 w5 w6 w7 : Value} (h : CI σ a) : ∃ σ', Ev X 74 [.ref 0, .int x, w0, w1, w2, w3, w4, w5, w6, w7] σ [.int (anFa a x)] σ' ∧ CI σ' a ∧ Lo σ σ' := by
  by_cases k0 : inR x 8
  · have e0 : b2 (inR x 8) = nI 1 := b2_t k0
    rw [anFa, if_pos k0]
    obtain ⟨p, hp, rfl⟩ := inR_of k0 (by omega)
    rw [tn_nI (by omega)]
    obtain ⟨σ', j1, j2⟩ := l_fair (X := X) hp 3 0 0 0 0 σ w6 w7 h rfl (by omega) (by omega)
    refine ⟨σ', fun Q => ?_, CI_scr h (j2.mono SCd_scr), j2.lo SCd_lt⟩
    simp (disch := omega) only [q_74_0, q_74_1, q_74_4, q_74_7, q_74_8, q_74_9, q_74_10, q_74_11, q_74_12, q_74_13, q_74_14, q_74_16, q_74_17, vinT, iClamp, clr_i, clr_l, clr_r, clr_n, true_and, and_true, or_true, true_or, false_or, or_false, iLe, iLt, iEq, iAdd, iMul, List.cons_append, List.nil_append, List.append_nil, zb0, zb1, if_true, if_false, not_true_eq_false, not_false_eq_true, Bool.false_eq_true, Nat.one_ne_zero, Nat.zero_ne_one, Nat.reduceEqDiff, Nat.reduceAdd, if_pos, if_neg, s_isPaper, e0]
    exact j1 Q
  · have e0 : b2 (inR x 8) = nI 0 := b2_f k0
    rw [anFa, if_neg k0]
    refine ⟨σ, fun Q => ?_, h, Lo.rf σ⟩
    simp (disch := omega) only [q_74_0, q_74_1, q_74_4, q_74_7, q_74_8, q_74_9, q_74_10, q_74_11, q_74_12, q_74_13, q_74_14, q_74_16, q_74_17, vinT, iClamp, clr_i, clr_l, clr_r, clr_n, true_and, and_true, or_true, true_or, false_or, or_false, iLe, iLt, iEq, iAdd, iMul, List.cons_append, List.nil_append, List.append_nil, zb0, zb1, if_true, if_false, not_true_eq_false, not_false_eq_true, Bool.false_eq_true, Nat.one_ne_zero, Nat.zero_ne_one, Nat.reduceEqDiff, Nat.reduceAdd, if_pos, if_neg, s_isPaper, e0]
/-! owed -/
def byS (a : AS) (p : Nat) : List Nat := srt (nmB 0 (fun q => lN (ptL (wt a p) (hr a p) q 4))) (ro a p)
def owD (a : AS) (p q : Nat) : Int32 := plF (rF (ro a p)) (nI q) 0 (ro a p).length - plF (rF (byS a p)) (nI q) 0 (byS a p).length
def inB (a : AS) (p q : Nat) : Prop := ¬ plF (rF (ro a p)) (nI q) 0 (ro a p).length = -9
def SCo : List Nat := [3, 6, 7, 8, 9, 10]
theorem SCo_scr : ∀ b, b ∈ SCo → b ∈ SCR := by decide
theorem SCo_lt : ∀ b, b ∈ SCo → b < 127 := by decide
def dAdd (a : AS) (p q : Nat) (d : Int32) : Int32 := if plF (rF (ro a p)) (nI q) 0 (ro a p).length = -9 then d else d + owD a p q
theorem l_dues {X : Nat × (Nat → Int32)} {a : AS} {p : Nat} (hp : p < 8) : ∀ n i (σ : Mem) (du : Nat → Int32), CI σ a → RI σ 9 (byS a p) → i + n = 7 → (∀ q, q < 7 → σ.1 3 q = du q) → ∃ σ', (∀ Q, Rn X 88 14 [.ref 0, .ref (pk p), .ref 9, .int (nI i)] [] σ Q ↔ Q [] σ') ∧ (∀ q, q < 7 → σ'.1 3 q = if i ≤ q then dAdd a p q (du q) else du q) ∧ Off [3] σ σ' := by
  have hk := pk_K p hp
  obtain ⟨⟨f1, f2, f3, f4, f5, f6⟩, ⟨f7, f8, f9, f10, f11, f13, f14⟩, f12⟩ := F2 hk
  intro n
  induction n with
  | zero =>
    intro i σ du h hR hi hd
    have e : i = 7 := by omega
    subst e
    refine ⟨σ, fun Q => ?_, fun q hq => by rw [if_neg (by omega)]; exact hd q hq, Off.rf _ _⟩
    rw [q_88_14]
    simp (disch := omega) only [q_88_0, q_88_1, q_88_4, q_88_5, q_88_6, q_88_8, q_88_11, q_88_12, q_88_13, q_88_15, q_88_17, q_88_20, q_88_21, q_88_24, q_88_25, q_88_28, q_88_31, q_88_32, q_88_35, q_88_36, q_88_37, q_88_38, q_88_39, q_88_42, q_88_43, q_88_46, q_88_47, q_88_48, q_88_51, q_88_52, q_88_53, q_88_54, q_88_57, q_88_60, vinT, iClamp, clr_i, clr_l, clr_r, clr_n, true_and, and_true, or_true, true_or, false_or, or_false, iLe, iLt, iEq, iAdd, iMul, List.cons_append, List.nil_append, List.append_nil, zb0, zb1, if_true, if_false, not_true_eq_false, not_false_eq_true, Bool.false_eq_true, Nat.one_ne_zero, Nat.zero_ne_one, Nat.reduceEqDiff, Nat.reduceAdd, if_pos, if_neg]
  | succ n ih =>
    intro i σ du h hR hi hd
    have q7 := (h.1 p hp).2.2.2.2.2.1
    by_cases c : plF (rF (ro a p)) (nI i) 0 (ro a p).length = -9
    · obtain ⟨σ', j1, j2, j3⟩ := ih (i + 1) σ du h hR (by omega) hd
      refine ⟨σ', fun Q => ?_, fun q hq => ?_, j3⟩
      · rw [q_88_14]
        have e1 : b2 (¬ plF (rF (ro a p)) (nI i) 0 (ro a p).length = -9) = nI 0 := b2_f (fun q => q c)
        simp (disch := omega) only [q_88_0, q_88_1, q_88_4, q_88_5, q_88_6, q_88_8, q_88_11, q_88_12, q_88_13, q_88_15, q_88_17, q_88_20, q_88_21, q_88_24, q_88_25, q_88_28, q_88_31, q_88_32, q_88_35, q_88_36, q_88_37, q_88_38, q_88_39, q_88_42, q_88_43, q_88_46, q_88_47, q_88_48, q_88_51, q_88_52, q_88_53, q_88_54, q_88_57, q_88_60, vinT, iClamp, clr_i, clr_l, clr_r, clr_n, true_and, and_true, or_true, true_or, false_or, or_false, iLe, iLt, iEq, iAdd, iMul, List.cons_append, List.nil_append, List.append_nil, zb0, zb1, if_true, if_false, not_true_eq_false, not_false_eq_true, Bool.false_eq_true, Nat.one_ne_zero, Nat.zero_ne_one, Nat.reduceEqDiff, Nat.reduceAdd, if_pos, if_neg, hk, f9, s_holds f9 q7, e1]
        exact j1 Q
      · rw [j2 q hq]
        by_cases e : q = i
        · subst e; rw [if_neg (by omega), if_pos (by omega), dAdd, if_pos c]
        · by_cases e2 : i ≤ q
          · rw [if_pos (by omega), if_pos e2]
          · rw [if_neg (by omega), if_neg e2]
    · have ho : Off [3] σ (sI σ 3 i (du i + owD a p i)) := (Off.rf _ σ).sI (by simp) _ _
      have ho' : Off SCR σ (sI σ 3 i (du i + owD a p i)) := ho.mono (by decide)
      obtain ⟨σ', j1, j2, j3⟩ := ih (i + 1) (sI σ 3 i (du i + owD a p i)) (fun q => if q = i then du i + owD a p i else du q) (CI_scr h ho') (RI_off hR ho (by simp) (by simp)) (by omega) (fun q hq => by
        by_cases e : q = i
        · subst e; rw [sI_at, if_pos rfl]
        · rw [sI_off (by omega), if_neg e]; exact hd q hq)
      refine ⟨σ', fun Q => ?_, fun q hq => ?_, ho.tr j3⟩
      · rw [q_88_14]
        have e1 : b2 (¬ plF (rF (ro a p)) (nI i) 0 (ro a p).length = -9) = nI 1 := b2_t c
        have e2 : plF (rF (ro a p)) (nI i) 0 (ro a p).length - plF (rF (byS a p)) (nI i) 0 (byS a p).length = owD a p i := rfl
        simp (disch := omega) only [q_88_0, q_88_1, q_88_4, q_88_5, q_88_6, q_88_8, q_88_11, q_88_12, q_88_13, q_88_15, q_88_17, q_88_20, q_88_21, q_88_24, q_88_25, q_88_28, q_88_31, q_88_32, q_88_35, q_88_36, q_88_37, q_88_38, q_88_39, q_88_42, q_88_43, q_88_46, q_88_47, q_88_48, q_88_51, q_88_52, q_88_53, q_88_54, q_88_57, q_88_60, vinT, iClamp, clr_i, clr_l, clr_r, clr_n, true_and, and_true, or_true, true_or, false_or, or_false, iLe, iLt, iEq, iAdd, iMul, List.cons_append, List.nil_append, List.append_nil, zb0, zb1, if_true, if_false, not_true_eq_false, not_false_eq_true, Bool.false_eq_true, Nat.one_ne_zero, Nat.zero_ne_one, Nat.reduceEqDiff, Nat.reduceAdd, if_pos, if_neg, hk, f9, c0, c3k, c3n, c9k, s_holds f9 q7, e1, s_placeOf f9 q7, s_placeOf c9k hR, hd i (by omega), e2]
        exact j1 Q
      · rw [j2 q hq]
        by_cases e : q = i
        · subst e; rw [if_neg (show ¬ q + 1 ≤ q by omega), if_pos rfl, if_pos (Nat.le_refl q), dAdd, if_neg c]
        · by_cases e2 : i ≤ q
          · rw [if_pos (by omega), if_pos e2, if_neg e]
          · rw [if_neg (by omega), if_neg e2, if_neg e]
theorem s_dues {X : Nat × (Nat → Int32)} {σ : Mem} {a : AS} {p : Nat} {du : Nat → Int32} {v w : Value} (h : CI σ a) (hp : p < 8) (hd : ∀ q, q < 7 → σ.1 3 q = du q) : ∃ σ', Ev X 88 [.ref 0, .ref (pk p), v, w] σ [] σ' ∧ (∀ q, q < 7 → σ'.1 3 q = dAdd a p q (du q)) ∧ Off SCo σ σ' := by
  have hk := pk_K p hp
  obtain ⟨⟨q1, q2⟩, q3, q4, q5, q6, q7, q8⟩ := h.1 p hp
  obtain ⟨σ1, i1, i2, i3⟩ := s_arrange (X := X) (σ := σ) (c := 0) (y := -9) (N := fun q => lN (ptL (wt a p) (hr a p) q 4)) c4k hk (by omega) q7 (fun q hq => q4.2.2.1 q hq)
  have i1' := fun Q => i1 Q
  have i3' : Off SC5 σ σ1 := i3
  have h' := CI_scr h (i3'.mono SC5_scr)
  have i2' : RI σ1 9 (byS a p) := i2
  obtain ⟨σ', j1, j2, j3⟩ := l_dues (X := X) hp 7 0 σ1 du h' i2' rfl (fun q hq => by rw [(i3' 3 (by decide)).1]; exact hd q hq)
  refine ⟨σ', fun Q => ?_, fun q hq => by rw [j2 q hq, if_pos (by omega)], (i3'.mono (by decide)).tr (j3.mono (by decide))⟩
  simp (disch := omega) only [q_88_0, q_88_1, q_88_4, q_88_5, q_88_6, q_88_8, q_88_11, q_88_12, q_88_13, vinT, iClamp, clr_i, clr_l, clr_r, clr_n, true_and, and_true, or_true, true_or, false_or, or_false, iLe, iLt, iEq, iAdd, iMul, List.cons_append, List.nil_append, List.append_nil, zb0, zb1, if_true, if_false, not_true_eq_false, not_false_eq_true, Bool.false_eq_true, Nat.one_ne_zero, Nat.zero_ne_one, Nat.reduceEqDiff, Nat.reduceAdd, if_pos, if_neg, c0, c4k, i1']
  exact j1 Q
/-- what is owed by papers i on, added -/
def owF (a : AS) (t : Int32) (q : Nat) (i : Nat) : Nat → Int32 → Int32
  | 0, d => d
  | n + 1, d => owF a t q (i + 1) n (if t = -1 ∨ nI (tr a i) = t then dAdd a i q d else d)
theorem l_up0 {X : Nat × (Nat → Int32)} {t : Int32} : ∀ n i (σ : Mem), i + n = 7 → ∃ σ', (∀ Q, Rn X 87 2 [.ref 0, .int t, .int (nI i)] [] σ Q ↔ Rn X 87 23 [.ref 0, .int t, .int (nI 0)] [] σ' Q) ∧ (∀ q, i ≤ q → q < 7 → σ'.1 3 q = nI 0) ∧ (∀ q, q < i → σ'.1 3 q = σ.1 3 q) ∧ Off [3] σ σ' := by
  intro n
  induction n with
  | zero =>
    intro i σ hi
    have e : i = 7 := by omega
    subst e
    refine ⟨σ, fun Q => ?_, fun q h1 h2 => absurd h2 (by omega), fun _ _ => rfl, Off.rf _ _⟩
    rw [q_87_2]
    simp (disch := omega) only [q_87_3, q_87_5, q_87_8, q_87_9, q_87_12, q_87_13, q_87_14, q_87_15, q_87_18, q_87_21, q_87_22, vinT, iClamp, clr_i, clr_l, clr_r, clr_n, true_and, and_true, or_true, true_or, false_or, or_false, iLe, iLt, iEq, iAdd, iMul, List.cons_append, List.nil_append, List.append_nil, zb0, zb1, if_true, if_false, not_true_eq_false, not_false_eq_true, Bool.false_eq_true, Nat.one_ne_zero, Nat.zero_ne_one, Nat.reduceEqDiff, Nat.reduceAdd, if_pos, if_neg]
  | succ n ih =>
    intro i σ hi
    obtain ⟨σ', e1, e2, e3, e4⟩ := ih (i + 1) (sI σ 3 i (nI 0)) (by omega)
    refine ⟨σ', fun Q => ?_, fun q h1 h2 => ?_, fun q hq => ?_, ((Off.rf _ σ).sI (by simp) _ _).tr e4⟩
    · rw [q_87_2]
      simp (disch := omega) only [q_87_3, q_87_5, q_87_8, q_87_9, q_87_12, q_87_13, q_87_14, q_87_15, q_87_18, q_87_21, q_87_22, vinT, iClamp, clr_i, clr_l, clr_r, clr_n, true_and, and_true, or_true, true_or, false_or, or_false, iLe, iLt, iEq, iAdd, iMul, List.cons_append, List.nil_append, List.append_nil, zb0, zb1, if_true, if_false, not_true_eq_false, not_false_eq_true, Bool.false_eq_true, Nat.one_ne_zero, Nat.zero_ne_one, Nat.reduceEqDiff, Nat.reduceAdd, if_pos, if_neg, c0, c3k, c3n]
      exact e1 Q
    · by_cases e : q = i
      · subst e; rw [e3 q (by omega), sI_at]
      · exact e2 q (by omega) h2
    · rw [e3 q (by omega), sI_off (by omega)]
theorem l_up {X : Nat × (Nat → Int32)} {a : AS} {t : Int32} : ∀ n i (σ : Mem) (du : Nat → Int32), CI σ a → i + n = 8 → (∀ q, q < 7 → σ.1 3 q = du q) → ∃ σ', (∀ Q, Rn X 87 23 [.ref 0, .int t, .int (nI i)] [] σ Q ↔ Q [] σ') ∧ (∀ q, q < 7 → σ'.1 3 q = owF a t q i n (du q)) ∧ Off SCo σ σ' := by
  intro n
  induction n with
  | zero =>
    intro i σ du h hi hd
    have e : i = 8 := by omega
    subst e
    refine ⟨σ, fun Q => ?_, hd, Off.rf _ _⟩
    rw [q_87_23]
    simp (disch := omega) only [q_87_24, q_87_26, q_87_29, q_87_30, q_87_31, q_87_34, q_87_35, q_87_38, q_87_39, q_87_40, q_87_43, q_87_44, q_87_47, q_87_48, q_87_49, q_87_52, q_87_53, q_87_54, q_87_57, q_87_60, q_87_63, vinT, iClamp, clr_i, clr_l, clr_r, clr_n, true_and, and_true, or_true, true_or, false_or, or_false, iLe, iLt, iEq, iAdd, iMul, List.cons_append, List.nil_append, List.append_nil, zb0, zb1, if_true, if_false, not_true_eq_false, not_false_eq_true, Bool.false_eq_true, Nat.one_ne_zero, Nat.zero_ne_one, Nat.reduceEqDiff, Nat.reduceAdd, if_pos, if_neg]
  | succ n ih =>
    intro i σ du h hi hd
    have hk := pk_K i (by omega)
    obtain ⟨⟨q1, q2⟩, -⟩ := h.1 i (by omega)
    by_cases c : t = -1 ∨ nI (tr a i) = t
    · obtain ⟨σ1, k1, k2, k3⟩ := s_dues (X := X) (v := .null) (w := .null) h (show i < 8 by omega) hd
      have k1' := fun Q => k1 Q
      obtain ⟨σ', j1, j2, j3⟩ := ih (i + 1) σ1 (fun q => dAdd a i q (du q)) (CI_scr h (k3.mono SCo_scr)) (by omega) k2
      refine ⟨σ', fun Q => ?_, fun q hq => by rw [j2 q hq, owF, if_pos c], k3.tr j3⟩
      rw [q_87_23]
      by_cases c2 : t = -1
      · simp (disch := omega) only [q_87_24, q_87_26, q_87_29, q_87_30, q_87_31, q_87_34, q_87_35, q_87_38, q_87_39, q_87_40, q_87_43, q_87_44, q_87_47, q_87_48, q_87_49, q_87_52, q_87_53, q_87_54, q_87_57, q_87_60, q_87_63, vinT, iClamp, clr_i, clr_l, clr_r, clr_n, true_and, and_true, or_true, true_or, false_or, or_false, iLe, iLt, iEq, iAdd, iMul, List.cons_append, List.nil_append, List.append_nil, zb0, zb1, if_true, if_false, not_true_eq_false, not_false_eq_true, Bool.false_eq_true, Nat.one_ne_zero, Nat.zero_ne_one, Nat.reduceEqDiff, Nat.reduceAdd, if_pos, if_neg, c0, c1k, c1n, rA1, hk, c2, k1']
        rw [← c2]
        exact j1 Q
      · have c3 := c.resolve_left c2
        simp (disch := omega) only [q_87_24, q_87_26, q_87_29, q_87_30, q_87_31, q_87_34, q_87_35, q_87_38, q_87_39, q_87_40, q_87_43, q_87_44, q_87_47, q_87_48, q_87_49, q_87_52, q_87_53, q_87_54, q_87_57, q_87_60, q_87_63, vinT, iClamp, clr_i, clr_l, clr_r, clr_n, true_and, and_true, or_true, true_or, false_or, or_false, iLe, iLt, iEq, iAdd, iMul, List.cons_append, List.nil_append, List.append_nil, zb0, zb1, if_true, if_false, not_true_eq_false, not_false_eq_true, Bool.false_eq_true, Nat.one_ne_zero, Nat.zero_ne_one, Nat.reduceEqDiff, Nat.reduceAdd, if_pos, if_neg, c0, c1k, c1n, rA1, hk, q1, c2, c3, k1']
        exact j1 Q
    · obtain ⟨σ', j1, j2, j3⟩ := ih (i + 1) σ du h (by omega) hd
      have c2 : ¬ t = -1 := fun q => c (Or.inl q)
      have c3 : ¬ nI (tr a i) = t := fun q => c (Or.inr q)
      refine ⟨σ', fun Q => ?_, fun q hq => by rw [j2 q hq, owF, if_neg c], j3⟩
      rw [q_87_23]
      simp (disch := omega) only [q_87_24, q_87_26, q_87_29, q_87_30, q_87_31, q_87_34, q_87_35, q_87_38, q_87_39, q_87_40, q_87_43, q_87_44, q_87_47, q_87_48, q_87_49, q_87_52, q_87_53, q_87_54, q_87_57, q_87_60, q_87_63, vinT, iClamp, clr_i, clr_l, clr_r, clr_n, true_and, and_true, or_true, true_or, false_or, or_false, iLe, iLt, iEq, iAdd, iMul, List.cons_append, List.nil_append, List.append_nil, zb0, zb1, if_true, if_false, not_true_eq_false, not_false_eq_true, Bool.false_eq_true, Nat.one_ne_zero, Nat.zero_ne_one, Nat.reduceEqDiff, Nat.reduceAdd, if_pos, if_neg, c0, c1k, c1n, rA1, hk, q1, c2, c3]
      exact j1 Q
def owS (a : AS) (t : Int32) (q : Nat) : Int32 := owF a t q 0 8 (nI 0)
theorem s_up {X : Nat × (Nat → Int32)} {σ : Mem} {a : AS} {t : Int32} {v : Value} (h : CI σ a) : ∃ σ', Ev X 87 [.ref 0, .int t, v] σ [] σ' ∧ (∀ q, q < 7 → σ'.1 3 q = owS a t q) ∧ Off SCo σ σ' := by
  obtain ⟨σ1, e1, e2, e3, e4⟩ := l_up0 (X := X) (t := t) 7 0 σ rfl
  have e4' : Off SCo σ σ1 := e4.mono (by decide)
  obtain ⟨σ', j1, j2, j3⟩ := l_up (X := X) (a := a) (t := t) 8 0 σ1 (fun _ => nI 0) (CI_scr h (e4'.mono SCo_scr)) rfl (fun q hq => e2 q (by omega) hq)
  refine ⟨σ', fun Q => ?_, j2, e4'.tr j3⟩
  simp only [q_87_0, q_87_1, clr_i]
  rw [e1 Q]
  exact j1 Q
def anOw (a : AS) (x t : Int32) : Int32 := if inR x 7 then (if t = -1 ∨ inR t 3 then owS a t (tn x) + nI 1000 else -2) else -1
theorem x_Ow {X : Nat × (Nat → Int32)} {σ : Mem} {a : AS} {x t : Int32} (h : CI σ a) : ∃ σ', Ev X 81 [.ref 0, .int x, .int t] σ [.int (anOw a x t)] σ' ∧ CI σ' a ∧ Lo σ σ' := by
  by_cases k0 : inR x 7
  · have e0 : b2 (inR x 7) = nI 1 := b2_t k0
    rw [anOw, if_pos k0]
    by_cases k1 : t = -1 ∨ inR t 3
    · rw [if_pos k1]
      obtain ⟨q, hq, rfl⟩ := inR_of k0 (by omega)
      rw [tn_nI (by omega)]
      obtain ⟨σ', j1, j2, j3⟩ := s_up (X := X) (t := t) (v := .null) h
      have j1' := fun Q => j1 Q
      refine ⟨σ', fun Q => ?_, CI_scr h (j3.mono SCo_scr), j3.lo SCo_lt⟩
      by_cases c : inR t 3
      · have e1 : b2 (inR t 3) = nI 1 := b2_t c
        simp (disch := omega) only [q_81_0, q_81_1, q_81_4, q_81_7, q_81_8, q_81_9, q_81_10, q_81_13, q_81_16, q_81_17, q_81_18, q_81_21, q_81_23, q_81_24, q_81_25, q_81_26, q_81_29, q_81_30, q_81_33, q_81_34, q_81_35, q_81_38, q_81_39, vinT, iClamp, clr_i, clr_l, clr_r, clr_n, true_and, and_true, or_true, true_or, false_or, or_false, iLe, iLt, iEq, iAdd, iMul, List.cons_append, List.nil_append, List.append_nil, zb0, zb1, if_true, if_false, not_true_eq_false, not_false_eq_true, Bool.false_eq_true, Nat.one_ne_zero, Nat.zero_ne_one, Nat.reduceEqDiff, Nat.reduceAdd, if_pos, if_neg, s_isPerson, s_isTrade, e0, e1, c0, c3k, c3n, j1', j2 q hq]
      · have e1 : b2 (inR t 3) = nI 0 := b2_f c
        have c2 := k1.resolve_right c
        simp (disch := omega) only [q_81_0, q_81_1, q_81_4, q_81_7, q_81_8, q_81_9, q_81_10, q_81_13, q_81_16, q_81_17, q_81_18, q_81_21, q_81_23, q_81_24, q_81_25, q_81_26, q_81_29, q_81_30, q_81_33, q_81_34, q_81_35, q_81_38, q_81_39, vinT, iClamp, clr_i, clr_l, clr_r, clr_n, true_and, and_true, or_true, true_or, false_or, or_false, iLe, iLt, iEq, iAdd, iMul, List.cons_append, List.nil_append, List.append_nil, zb0, zb1, if_true, if_false, not_true_eq_false, not_false_eq_true, Bool.false_eq_true, Nat.one_ne_zero, Nat.zero_ne_one, Nat.reduceEqDiff, Nat.reduceAdd, if_pos, if_neg, s_isPerson, s_isTrade, e0, e1, c2, c0, c3k, c3n]
        rw [← c2]
        simp (disch := omega) only [q_81_0, q_81_1, q_81_4, q_81_7, q_81_8, q_81_9, q_81_10, q_81_13, q_81_16, q_81_17, q_81_18, q_81_21, q_81_23, q_81_24, q_81_25, q_81_26, q_81_29, q_81_30, q_81_33, q_81_34, q_81_35, q_81_38, q_81_39, vinT, iClamp, clr_i, clr_l, clr_r, clr_n, true_and, and_true, or_true, true_or, false_or, or_false, iLe, iLt, iEq, iAdd, iMul, List.cons_append, List.nil_append, List.append_nil, zb0, zb1, if_true, if_false, not_true_eq_false, not_false_eq_true, Bool.false_eq_true, Nat.one_ne_zero, Nat.zero_ne_one, Nat.reduceEqDiff, Nat.reduceAdd, if_pos, if_neg, c0, c3k, c3n, j1', j2 q hq]
    · rw [if_neg k1]
      have e1 : b2 (inR t 3) = nI 0 := b2_f (fun q => k1 (Or.inr q))
      have c2 : ¬ t = -1 := fun q => k1 (Or.inl q)
      refine ⟨σ, fun Q => ?_, h, Lo.rf σ⟩
      simp (disch := omega) only [q_81_0, q_81_1, q_81_4, q_81_7, q_81_8, q_81_9, q_81_10, q_81_13, q_81_16, q_81_17, q_81_18, q_81_21, q_81_23, q_81_24, q_81_25, q_81_26, q_81_29, q_81_30, q_81_33, q_81_34, q_81_35, q_81_38, q_81_39, vinT, iClamp, clr_i, clr_l, clr_r, clr_n, true_and, and_true, or_true, true_or, false_or, or_false, iLe, iLt, iEq, iAdd, iMul, List.cons_append, List.nil_append, List.append_nil, zb0, zb1, if_true, if_false, not_true_eq_false, not_false_eq_true, Bool.false_eq_true, Nat.one_ne_zero, Nat.zero_ne_one, Nat.reduceEqDiff, Nat.reduceAdd, if_pos, if_neg, s_isPerson, s_isTrade, e0, e1, c2]
  · have e0 : b2 (inR x 7) = nI 0 := b2_f k0
    rw [anOw, if_neg k0]
    refine ⟨σ, fun Q => ?_, h, Lo.rf σ⟩
    simp (disch := omega) only [q_81_0, q_81_1, q_81_4, q_81_7, q_81_8, q_81_9, q_81_10, q_81_13, q_81_16, q_81_17, q_81_18, q_81_21, q_81_23, q_81_24, q_81_25, q_81_26, q_81_29, q_81_30, q_81_33, q_81_34, q_81_35, q_81_38, q_81_39, vinT, iClamp, clr_i, clr_l, clr_r, clr_n, true_and, and_true, or_true, true_or, false_or, or_false, iLe, iLt, iEq, iAdd, iMul, List.cons_append, List.nil_append, List.append_nil, zb0, zb1, if_true, if_false, not_true_eq_false, not_false_eq_true, Bool.false_eq_true, Nat.one_ne_zero, Nat.zero_ne_one, Nat.reduceEqDiff, Nat.reduceAdd, if_pos, if_neg, s_isPerson, e0]
