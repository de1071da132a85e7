/-! ===== the reference: due, fits, learn, off ===== -/
def SCe : List Nat := [127, 134, 136, 137]
theorem SCe_scr : ∀ b, b ∈ SCe → b ∈ SCM := by decide
theorem SCe_ge : ∀ b, b ∈ SCe → 127 ≤ b := by decide
theorem nd_of {t : List Nat} (h : ∀ i j, i < t.length → j < t.length → t.getD i 0 = t.getD j 0 → i = j) : t.Nodup := by
  refine List.pairwise_iff_getElem.mpr (fun i j hi hj hij e => ?_)
  rw [← gD_el hi, ← gD_el hj] at e
  have := h i j hi hj e
  omega
theorem spL_nd {s : List Nat} (hd : s.Nodup) : (spL s).Nodup ∧ ∀ x, x ∈ spL s ↔ x ∈ s := by
  have hf : ∀ m, m < s.length → (if 2 * m < s.length then 2 * m else 2 * (s.length - 1 - m) + 1) < s.length := fun m hm => by split <;> omega
  refine ⟨nd_of (fun i j hi hj e => ?_), fun x => ⟨fun hx => ?_, fun hx => ?_⟩⟩
  · rw [spL_len] at hi hj
    rw [spL_at hi, spL_at hj] at e
    have e2 := nd_inj hd _ _ (hf i hi) (hf j hj) e
    split at e2 <;> split at e2 <;> omega
  · obtain ⟨m, hm, e⟩ := mem_gD hx
    rw [spL_len] at hm
    rw [spL_at hm] at e
    rw [← e]
    exact gD_mem (hf m hm)
  · obtain ⟨j, hj, e⟩ := mem_gD hx
    have hm : spP s.length j < s.length := by unfold spP; split <;> omega
    have e2 := spL_at hm
    have e3 : (if 2 * spP s.length j < s.length then 2 * spP s.length j else 2 * (s.length - 1 - spP s.length j) + 1) = j := by
      unfold spP
      by_cases c : j % 2 = 0
      · simp only [if_pos c]
        rw [if_pos (by omega)]; omega
      · simp only [if_neg c]
        rw [if_neg (by omega)]; omega
    rw [e3, e] at e2
    rw [← e2]
    exact gD_mem (by rw [spL_len]; exact hm)
theorem arrP_ok {a : AS} {p c : Nat} (hl : (ro a p).length ≤ 7) (hd : (ro a p).Nodup) : (arrP a p c).length = (ro a p).length ∧ (arrP a p c).Nodup ∧ ∀ x, x ∈ arrP a p c ↔ x ∈ ro a p := by
  show (arrL c (ptN a p) (rm a (tr a p)) (ro a p)).length = _ ∧ (arrL c (ptN a p) (rm a (tr a p)) (ro a p)).Nodup ∧ ∀ x, x ∈ arrL c (ptN a p) (rm a (tr a p)) (ro a p) ↔ x ∈ ro a p
  have h1 := srt_perm (nmB 0 (ptN a p)) (ro a p)
  have h2 := srt_len (nmB 0 (ptN a p)) (ro a p)
  have of_perm : ∀ t : List Nat, t.Perm (ro a p) → t.length = (ro a p).length ∧ t.Nodup ∧ ∀ x, x ∈ t ↔ x ∈ ro a p := fun t ht => ⟨ht.length_eq, ht.nodup_iff.mpr hd, fun x => ht.mem_iff⟩
  unfold arrL
  by_cases c2 : c = 2
  · rw [if_pos c2]
    apply of_perm
    unfold mvL
    rcases plF_spec (rF (srt (nmB 0 (ptN a p)) (ro a p))) (rm a (tr a p)) (srt (nmB 0 (ptN a p)) (ro a p)).length 0 with ⟨d1, d2⟩ | ⟨k, d1, d2, d3, d4, d5⟩
    · rw [if_pos d1]; exact h1
    · rw [d3, if_neg (nI_n9 (by omega)), iClamp (by omega), List.eraseIdx_eq_take_drop_succ]
      refine List.Perm.trans ?_ h1
      have hsp := split_at (l := srt (nmB 0 (ptN a p)) (ro a p)) (p := k) (by omega)
      refine List.Perm.trans ?_ (List.Perm.of_eq hsp.symm)
      rw [List.append_assoc]
      exact List.Perm.append_left _ (List.perm_append_singleton _ _)
  · rw [if_neg c2]
    by_cases c3 : c = 3
    · rw [if_pos c3]
      obtain ⟨g1, g2⟩ := spL_nd (h1.nodup_iff.mpr hd)
      exact ⟨by rw [spL_len]; exact h2, g1, fun x => (g2 x).trans h1.mem_iff⟩
    · rw [if_neg c3]
      exact of_perm _ (srt_perm _ _)
theorem arrP_7 {a : AS} {p c : Nat} (hl : (ro a p).length ≤ 7) (hd : (ro a p).Nodup) (h7 : ∀ j, j < (ro a p).length → (ro a p).getD j 0 < 7) : ∀ j, j < (arrP a p c).length → (arrP a p c).getD j 0 < 7 := fun j hj => row_lt h7 _ (((arrP_ok hl hd).2.2 _).mp (gD_mem hj))
theorem m_Du {X : Nat × (Nat → Int32)} {σ : Mem} {a : AS} {x c i : Int32} (ok : AOK a) (h : MI σ a) : ∃ σ', Ev X 127 [.ref 127, .int x, .int c, .int i] σ [.int (anDu a x c i)] σ' ∧ MI σ' a ∧ Hi σ σ' := by
  by_cases cc0 : inR x 8
  · have e0 : b2 (inR x 8) = nI 1 := b2_t cc0
    by_cases cc1 : inR c 4
    · have e1 : b2 (inR c 4) = nI 1 := b2_t cc1
      rw [← b2_QR c 3 (by omega)] at e1
      obtain ⟨p, hp, rfl⟩ := inR_of cc0 (by omega)
      obtain ⟨m, hm, rfl⟩ := inR_of cc1 (by omega)
      have ea : anDu a (nI p) (nI m) i = pA (arrL m (fun q => lN (ptL (wt a p) (hr a p) q 4)) (rm a (tr a p)) (ro a p)) i := by
        rw [anDu, if_pos cc0, if_pos cc1]
        simp (disch := omega) only [tn_nI]
      rw [ea]
      obtain ⟨m1, m2, m3, m4, m5, m6, m7, m8, m9, m10⟩ := id h
      obtain ⟨o1, o2, o3, o4, o5, o6, o7, o8⟩ := ok.1 p hp
      obtain ⟨σ', i1, i2, i3, i4, i5⟩ := s_dueM (X := X) (u1 := .null) (u2 := .null) (u3 := .null) (u4 := .null) (u5 := .null) (u6 := .null) ok h hp hm
      have i1' := fun Q => i1 Q
      have i3' : Off SCe σ σ' := i3
      have h' := MI_scr h (i3'.mono SCe_scr)
      have m5' := h'.2.2.2.2.1 p hp
      have al : (arrP a p m).length = (ro a p).length := (arrP_ok o6 o8).1
      refine ⟨σ', fun Q => ?_, h', i3'.hi SCe_ge⟩
      show _ ↔ Q [.int (pA (arrP a p m) i)] σ'
      by_cases c : inR i (ro a p).length
      · have ei : b2 (inR i (ro a p).length) = nI 1 := b2_t c
        obtain ⟨j, hj, rfl⟩ := inR_of c (by omega)
        rw [pA_in (by omega) (by omega)]
        simp (disch := omega) only [q_127_0, q_127_1, q_127_4, q_127_7, q_127_8, q_127_9, q_127_10, q_127_11, q_127_12, q_127_15, q_127_18, q_127_21, q_127_23, q_127_24, q_127_25, q_127_26, q_127_27, q_127_30, q_127_31, q_127_32, q_127_33, q_127_34, q_127_37, q_127_38, q_127_39, q_127_40, q_127_41, q_127_42, q_127_45, q_127_48, q_127_49, q_127_52, q_127_53, q_127_54, q_127_57, q_127_59, vinT, iClamp, clr_i, clr_l, clr_r, clr_n, true_and, and_true, or_true, true_or, false_or, or_false, iLe, iLt, iEq, iAdd, iMul, List.cons_append, List.nil_append, List.append_nil, zb0, zb1, if_true, if_false, not_true_eq_false, not_false_eq_true, Bool.false_eq_true, Nat.one_ne_zero, Nat.zero_ne_one, Nat.reduceEqDiff, Nat.reduceAdd, if_pos, if_neg, s_isPaperM, s_in0, e0, e1, m127, m128k, m128n, m129k, m129n, m130k, m130n, m131k, m131n, m132k, m132n, m133k, m133n, m134k, m134n, m135k, m135n, m136k, m136n, m137k, m137n, m138k, m138n, m139k, m139n, m140k, m140n, m141k, m141n, m142k, m142n, m143k, m143n, m144k, m144n, m145k, m145n, m146k, m146n, s_inL, ei, i1', m5', i2 j (by omega)]
      · have ei : b2 (inR i (ro a p).length) = nI 0 := b2_f c
        rw [pA_nin (by rw [al]; exact c)]
        simp (disch := omega) only [q_127_0, q_127_1, q_127_4, q_127_7, q_127_8, q_127_9, q_127_10, q_127_11, q_127_12, q_127_15, q_127_18, q_127_21, q_127_23, q_127_24, q_127_25, q_127_26, q_127_27, q_127_30, q_127_31, q_127_32, q_127_33, q_127_34, q_127_37, q_127_38, q_127_39, q_127_40, q_127_41, q_127_42, q_127_45, q_127_48, q_127_49, q_127_52, q_127_53, q_127_54, q_127_57, q_127_59, vinT, iClamp, clr_i, clr_l, clr_r, clr_n, true_and, and_true, or_true, true_or, false_or, or_false, iLe, iLt, iEq, iAdd, iMul, List.cons_append, List.nil_append, List.append_nil, zb0, zb1, if_true, if_false, not_true_eq_false, not_false_eq_true, Bool.false_eq_true, Nat.one_ne_zero, Nat.zero_ne_one, Nat.reduceEqDiff, Nat.reduceAdd, if_pos, if_neg, s_isPaperM, s_in0, e0, e1, m127, m128k, m128n, m129k, m129n, m130k, m130n, m131k, m131n, m132k, m132n, m133k, m133n, m134k, m134n, m135k, m135n, m136k, m136n, m137k, m137n, m138k, m138n, m139k, m139n, m140k, m140n, m141k, m141n, m142k, m142n, m143k, m143n, m144k, m144n, m145k, m145n, m146k, m146n, s_inL, ei, i1', m5']
    · have e1 : b2 (inR c 4) = nI 0 := b2_f cc1
      rw [← b2_QR c 3 (by omega)] at e1
      refine ⟨σ, fun Q => ?_, h, Hi.rf σ⟩
      rw [anDu, if_pos cc0, if_neg cc1]
      simp (disch := omega) only [q_127_0, q_127_1, q_127_4, q_127_7, q_127_8, q_127_9, q_127_10, q_127_11, q_127_12, q_127_15, q_127_18, q_127_21, q_127_23, q_127_24, q_127_25, q_127_26, q_127_27, q_127_30, q_127_31, q_127_32, q_127_33, q_127_34, q_127_37, q_127_38, q_127_39, q_127_40, q_127_41, q_127_42, q_127_45, q_127_48, q_127_49, q_127_52, q_127_53, q_127_54, q_127_57, q_127_59, vinT, iClamp, clr_i, clr_l, clr_r, clr_n, true_and, and_true, or_true, true_or, false_or, or_false, iLe, iLt, iEq, iAdd, iMul, List.cons_append, List.nil_append, List.append_nil, zb0, zb1, if_true, if_false, not_true_eq_false, not_false_eq_true, Bool.false_eq_true, Nat.one_ne_zero, Nat.zero_ne_one, Nat.reduceEqDiff, Nat.reduceAdd, if_pos, if_neg, s_isPaperM, s_in0, e0, e1]
  · have e0 : b2 (inR x 8) = nI 0 := b2_f cc0
    refine ⟨σ, fun Q => ?_, h, Hi.rf σ⟩
    rw [anDu, if_neg cc0]
    simp (disch := omega) only [q_127_0, q_127_1, q_127_4, q_127_7, q_127_8, q_127_9, q_127_10, q_127_11, q_127_12, q_127_15, q_127_18, q_127_21, q_127_23, q_127_24, q_127_25, q_127_26, q_127_27, q_127_30, q_127_31, q_127_32, q_127_33, q_127_34, q_127_37, q_127_38, q_127_39, q_127_40, q_127_41, q_127_42, q_127_45, q_127_48, q_127_49, q_127_52, q_127_53, q_127_54, q_127_57, q_127_59, vinT, iClamp, clr_i, clr_l, clr_r, clr_n, true_and, and_true, or_true, true_or, false_or, or_false, iLe, iLt, iEq, iAdd, iMul, List.cons_append, List.nil_append, List.append_nil, zb0, zb1, if_true, if_false, not_true_eq_false, not_false_eq_true, Bool.false_eq_true, Nat.one_ne_zero, Nat.zero_ne_one, Nat.reduceEqDiff, Nat.reduceAdd, if_pos, if_neg, s_isPaperM, s_in0, e0]
/-! fits -/
def alF (P : Nat → Bool) (j : Nat) : Nat → Bool → Bool
  | 0, b => b
  | n + 1, b => alF P (j + 1) n (b && P j)
theorem alF_iff (P : Nat → Bool) : ∀ n j b, alF P j n b = true ↔ b = true ∧ ∀ k, j ≤ k → k < j + n → P k = true
  | 0, j, b => by
    simp only [alF]
    exact ⟨fun h => ⟨h, fun k h1 h2 => absurd h2 (by omega)⟩, fun h => h.1⟩
  | n + 1, j, b => by
    rw [alF, alF_iff P n (j + 1), Bool.and_eq_true]
    constructor
    · rintro ⟨⟨h1, h2⟩, h3⟩
      refine ⟨h1, fun k a b => ?_⟩
      by_cases e : k = j
      · rw [e]; exact h2
      · exact h3 k (by omega) (by omega)
    · rintro ⟨h1, h2⟩
      exact ⟨⟨h1, h2 j (by omega) (by omega)⟩, fun k a b => h2 k (by omega) (by omega)⟩
theorem puF_0 {f g : Nat → Int32} : ∀ n i, puF f g i n = 0 ↔ ∀ j, i ≤ j → j < i + n → f j = g j
  | 0, i => ⟨fun _ j h1 h2 => absurd h2 (by omega), fun _ => rfl⟩
  | n + 1, i => by
    rw [puF]
    by_cases c : f i = g i
    · rw [if_pos c, Nat.zero_add, puF_0 n (i + 1)]
      refine ⟨fun h j h1 h2 => ?_, fun h j h1 h2 => h j (by omega) (by omega)⟩
      by_cases e : j = i
      · rw [e]; exact c
      · exact h j (by omega) (by omega)
    · rw [if_neg c]
      exact ⟨fun h => absurd h (by omega), fun h => absurd (h i (by omega) (by omega)) c⟩
def eqB (a : AS) (p c k : Nat) : Bool := decide ((arrP a p c).getD k 0 = (ro a p).getD k 0)
theorem fit_eq {a : AS} {p c : Nat} (ok : AOK a) (hp : p < 8) : alF (eqB a p c) 0 (ro a p).length true = fitB a p c := by
  obtain ⟨o1, o2, o3, o4, o5, o6, o7, o8⟩ := ok.1 p hp
  have al : (arrP a p c).length = (ro a p).length := (arrP_ok o6 o8).1
  have a7 := arrP_7 (c := c) o6 o8 o7
  rw [Bool.eq_iff_iff, alF_iff, fitB, decide_eq_true_eq, puF_0]
  constructor
  · rintro ⟨-, h⟩ j h1 h2
    by_cases c1 : j < (ro a p).length
    · have := h j (by omega) (by omega)
      simp only [eqB, decide_eq_true_eq] at this
      rw [pA_in c1 o6, pA_in (by omega) (by omega), this]
    · rw [pA_out (by omega) (by omega), pA_out (by omega) (by omega)]
  · intro h
    refine ⟨rfl, fun k h1 h2 => ?_⟩
    have c1 : k < (ro a p).length := by omega
    have := h k (by omega) (by omega)
    rw [pA_in c1 o6, pA_in (by omega) (by omega)] at this
    simp only [eqB, decide_eq_true_eq]
    have b1 := o7 k c1
    have b2 := a7 k (by omega)
    exact ((nI_inj7 (by omega) (by omega)).mp this).symm
theorem l_fitI {X : Nat × (Nat → Int32)} {σ : Mem} {Q : List Value → Mem → Prop} {a : AS} {p c s : Nat} (ok : AOK a) (h : MI σ a) (hp : p < 8) (hA : AI σ 137 (arrP a p c)) : ∀ n j (b : Bool), j + n = (ro a p).length → (Rn X 128 21 [.ref 127, .int (nI p), .int (nI s), .int (nI c), .int (b2 (b = true)), .int (nI j)] [] σ Q ↔ Rn X 128 72 [.ref 127, .int (nI p), .int (nI s), .int (nI c), .int (b2 (alF (eqB a p c) j n b = true)), .int (nI (ro a p).length)] [] σ Q) := by
  obtain ⟨m1, m2, m3, m4, m5, m6, m7, m8, m9, m10⟩ := id h
  obtain ⟨o1, o2, o3, o4, o5, o6, o7, o8⟩ := ok.1 p hp
  have al : (arrP a p c).length = (ro a p).length := (arrP_ok o6 o8).1
  have a7 := arrP_7 (c := c) o6 o8 o7
  intro n
  induction n with
  | zero =>
    intro j b hj
    have e : j = (ro a p).length := by omega
    subst e
    rw [q_128_21, alF]
    simp (disch := omega) only [q_128_23, q_128_24, q_128_27, q_128_28, q_128_29, q_128_32, q_128_34, q_128_37, q_128_38, q_128_41, q_128_43, q_128_44, q_128_45, q_128_48, q_128_50, q_128_51, q_128_52, q_128_54, q_128_55, q_128_56, q_128_59, q_128_60, q_128_63, q_128_64, q_128_66, q_128_69, vinT, iClamp, clr_i, clr_l, clr_r, clr_n, true_and, and_true, or_true, true_or, false_or, or_false, iLe, iLt, iEq, iAdd, iMul, List.cons_append, List.nil_append, List.append_nil, zb0, zb1, if_true, if_false, not_true_eq_false, not_false_eq_true, Bool.false_eq_true, Nat.one_ne_zero, Nat.zero_ne_one, Nat.reduceEqDiff, Nat.reduceAdd, if_pos, if_neg, m127, m128k, m128n, m129k, m129n, m130k, m130n, m131k, m131n, m132k, m132n, m133k, m133n, m134k, m134n, m135k, m135n, m136k, m136n, m137k, m137n, m138k, m138n, m139k, m139n, m140k, m140n, m141k, m141n, m142k, m142n, m143k, m143n, m144k, m144n, m145k, m145n, m146k, m146n, m5 p hp]
  | succ n ih =>
    intro j b hj
    rw [q_128_21, alF]
    have q1 := m6 p hp j (by omega)
    have q2 := hA j (by omega)
    have q3 := o7 j (by omega)
    have q4 := a7 j (by omega)
    rw [← ih (j + 1) _ (by omega)]
    cases b with
    | false =>
      have e1 : b2 (false = true) = nI 0 := b2_f (by simp)
      have e2 : b2 ((false && eqB a p c j) = true) = nI 0 := b2_f (by simp)
      rw [e1, e2]
      simp (disch := omega) only [q_128_23, q_128_24, q_128_27, q_128_28, q_128_29, q_128_32, q_128_34, q_128_37, q_128_38, q_128_41, q_128_43, q_128_44, q_128_45, q_128_48, q_128_50, q_128_51, q_128_52, q_128_54, q_128_55, q_128_56, q_128_59, q_128_60, q_128_63, q_128_64, q_128_66, q_128_69, vinT, iClamp, clr_i, clr_l, clr_r, clr_n, true_and, and_true, or_true, true_or, false_or, or_false, iLe, iLt, iEq, iAdd, iMul, List.cons_append, List.nil_append, List.append_nil, zb0, zb1, if_true, if_false, not_true_eq_false, not_false_eq_true, Bool.false_eq_true, Nat.one_ne_zero, Nat.zero_ne_one, Nat.reduceEqDiff, Nat.reduceAdd, if_pos, if_neg, m127, m128k, m128n, m129k, m129n, m130k, m130n, m131k, m131n, m132k, m132n, m133k, m133n, m134k, m134n, m135k, m135n, m136k, m136n, m137k, m137n, m138k, m138n, m139k, m139n, m140k, m140n, m141k, m141n, m142k, m142n, m143k, m143n, m144k, m144n, m145k, m145n, m146k, m146n, m5 p hp]
    | true =>
      have e1 : b2 (true = true) = nI 1 := b2_t rfl
      rw [e1]
      by_cases c1 : (arrP a p c).getD j 0 = (ro a p).getD j 0
      · have e2 : b2 ((true && eqB a p c j) = true) = nI 1 := b2_t (by simp only [eqB, c1, decide_true, Bool.and_self])
        rw [e2]
        simp (disch := omega) only [q_128_23, q_128_24, q_128_27, q_128_28, q_128_29, q_128_32, q_128_34, q_128_37, q_128_38, q_128_41, q_128_43, q_128_44, q_128_45, q_128_48, q_128_50, q_128_51, q_128_52, q_128_54, q_128_55, q_128_56, q_128_59, q_128_60, q_128_63, q_128_64, q_128_66, q_128_69, vinT, iClamp, clr_i, clr_l, clr_r, clr_n, true_and, and_true, or_true, true_or, false_or, or_false, iLe, iLt, iEq, iAdd, iMul, List.cons_append, List.nil_append, List.append_nil, zb0, zb1, if_true, if_false, not_true_eq_false, not_false_eq_true, Bool.false_eq_true, Nat.one_ne_zero, Nat.zero_ne_one, Nat.reduceEqDiff, Nat.reduceAdd, if_pos, if_neg, m127, m128k, m128n, m129k, m129n, m130k, m130n, m131k, m131n, m132k, m132n, m133k, m133n, m134k, m134n, m135k, m135n, m136k, m136n, m137k, m137n, m138k, m138n, m139k, m139n, m140k, m140n, m141k, m141n, m142k, m142n, m143k, m143n, m144k, m144n, m145k, m145n, m146k, m146n, m5 p hp, q1, q2, c1]
      · have e2 : b2 ((true && eqB a p c j) = true) = nI 0 := b2_f (by simp only [eqB, c1, decide_false, Bool.and_false]; simp)
        rw [e2]
        simp (disch := omega) only [q_128_23, q_128_24, q_128_27, q_128_28, q_128_29, q_128_32, q_128_34, q_128_37, q_128_38, q_128_41, q_128_43, q_128_44, q_128_45, q_128_48, q_128_50, q_128_51, q_128_52, q_128_54, q_128_55, q_128_56, q_128_59, q_128_60, q_128_63, q_128_64, q_128_66, q_128_69, vinT, iClamp, clr_i, clr_l, clr_r, clr_n, true_and, and_true, or_true, true_or, false_or, or_false, iLe, iLt, iEq, iAdd, iMul, List.cons_append, List.nil_append, List.append_nil, zb0, zb1, if_true, if_false, not_true_eq_false, not_false_eq_true, Bool.false_eq_true, Nat.one_ne_zero, Nat.zero_ne_one, Nat.reduceEqDiff, Nat.reduceAdd, if_pos, if_neg, m127, m128k, m128n, m129k, m129n, m130k, m130n, m131k, m131n, m132k, m132n, m133k, m133n, m134k, m134n, m135k, m135n, m136k, m136n, m137k, m137n, m138k, m138n, m139k, m139n, m140k, m140n, m141k, m141n, m142k, m142n, m143k, m143n, m144k, m144n, m145k, m145n, m146k, m146n, m5 p hp, q1, q2, c1]
theorem l_fitM {X : Nat × (Nat → Int32)} {a : AS} {p : Nat} (ok : AOK a) (hp : p < 8) : ∀ n i s (σ : Mem) (v4 v5 : Value), MI σ a → i + n = 4 → ∃ σ', (∀ Q, Rn X 128 4 [.ref 127, .int (nI p), .int (nI s), .int (nI i), v4, v5] [] σ Q ↔ Q [.int (nI (ftF (fitB a p) i n s))] σ') ∧ Off SCe σ σ' := by
  obtain ⟨o1, o2, o3, o4, o5, o6, o7, o8⟩ := ok.1 p hp
  intro n
  induction n with
  | zero =>
    intro i s σ v4 v5 h hi
    have e : i = 4 := by omega
    subst e
    refine ⟨σ, fun Q => ?_, Off.rf _ _⟩
    rw [q_128_4]
    simp (disch := omega) only [q_128_5, q_128_6, q_128_9, q_128_10, q_128_11, q_128_12, q_128_15, q_128_16, q_128_18, q_128_19, q_128_93, q_128_94, vinT, iClamp, clr_i, clr_l, clr_r, clr_n, true_and, and_true, or_true, true_or, false_or, or_false, iLe, iLt, iEq, iAdd, iMul, List.cons_append, List.nil_append, List.append_nil, zb0, zb1, if_true, if_false, not_true_eq_false, not_false_eq_true, Bool.false_eq_true, Nat.one_ne_zero, Nat.zero_ne_one, Nat.reduceEqDiff, Nat.reduceAdd, if_pos, if_neg, ftF]
  | succ n ih =>
    intro i s σ v4 v5 h hi
    obtain ⟨σ1, i1, i2, i3, i4, i5⟩ := s_dueM (X := X) (u1 := .null) (u2 := .null) (u3 := .null) (u4 := .null) (u5 := .null) (u6 := .null) ok h hp (show i < 4 by omega)
    have i1' := fun Q => i1 Q
    have i3' : Off SCe σ σ1 := i3
    have h' := MI_scr h (i3'.mono SCe_scr)
    obtain ⟨σ', k1, k2⟩ := ih (i + 1) (if fitB a p i = true then s ||| 2 ^ i else s) σ1 (.int (b2 (fitB a p i = true))) (.int (nI (ro a p).length)) h' (by omega)
    refine ⟨σ', fun Q => ?_, i3'.tr k2⟩
    rw [q_128_4]
    have k1' := k1 Q
    have hI := l_fitI (X := X) (σ := σ1) (Q := Q) (s := s) ok h' hp i2 (ro a p).length 0 true (by omega)
    rw [fit_eq ok hp, b2_t rfl] at hI
    simp (disch := omega) only [q_128_5, q_128_6, q_128_9, q_128_10, q_128_11, q_128_12, q_128_15, q_128_16, q_128_18, q_128_19, vinT, iClamp, clr_i, clr_l, clr_r, clr_n, true_and, and_true, or_true, true_or, false_or, or_false, iLe, iLt, iEq, iAdd, iMul, List.cons_append, List.nil_append, List.append_nil, zb0, zb1, if_true, if_false, not_true_eq_false, not_false_eq_true, Bool.false_eq_true, Nat.one_ne_zero, Nat.zero_ne_one, Nat.reduceEqDiff, Nat.reduceAdd, if_pos, if_neg, m127, m128k, m128n, m129k, m129n, m130k, m130n, m131k, m131n, m132k, m132n, m133k, m133n, m134k, m134n, m135k, m135n, m136k, m136n, m137k, m137n, m138k, m138n, m139k, m139n, m140k, m140n, m141k, m141n, m142k, m142n, m143k, m143n, m144k, m144n, m145k, m145n, m146k, m146n, i1']
    rw [hI, ftF, ← k1']
    by_cases c : fitB a p i = true
    · rw [if_pos c]
      simp (disch := omega) only [q_128_72, q_128_73, q_128_75, q_128_78, q_128_79, q_128_80, q_128_81, q_128_84, q_128_85, q_128_86, q_128_87, q_128_90, vinT, iClamp, clr_i, clr_l, clr_r, clr_n, true_and, and_true, or_true, true_or, false_or, or_false, iLe, iLt, iEq, iAdd, iMul, List.cons_append, List.nil_append, List.append_nil, zb0, zb1, if_true, if_false, not_true_eq_false, not_false_eq_true, Bool.false_eq_true, Nat.one_ne_zero, Nat.zero_ne_one, Nat.reduceEqDiff, Nat.reduceAdd, if_pos, if_neg, b2_t c, one_shl, fa_or]
    · rw [if_neg c]
      simp (disch := omega) only [q_128_72, q_128_73, q_128_75, q_128_78, q_128_79, q_128_80, q_128_81, q_128_84, q_128_85, q_128_86, q_128_87, q_128_90, vinT, iClamp, clr_i, clr_l, clr_r, clr_n, true_and, and_true, or_true, true_or, false_or, or_false, iLe, iLt, iEq, iAdd, iMul, List.cons_append, List.nil_append, List.append_nil, zb0, zb1, if_true, if_false, not_true_eq_false, not_false_eq_true, Bool.false_eq_true, Nat.one_ne_zero, Nat.zero_ne_one, Nat.reduceEqDiff, Nat.reduceAdd, if_pos, if_neg, b2_f c, fa_or, Nat.or_zero]
theorem s_fitM {X : Nat × (Nat → Int32)} {σ : Mem} {a : AS} {p : Nat} {u1 u2 u3 u4 : Value} (ok : AOK a) (h : MI σ a) (hp : p < 8) : ∃ σ', Ev X 128 [.ref 127, .int (nI p), u1, u2, u3, u4] σ [.int (nI (ftF (fitB a p) 0 4 0))] σ' ∧ Off SCe σ σ' := by
  obtain ⟨σ', k1, k2⟩ := l_fitM (X := X) ok hp 4 0 0 σ u3 u4 h rfl
  refine ⟨σ', fun Q => ?_, k2⟩
  simp only [q_128_0, q_128_1, q_128_2, q_128_3, clr_i]
  exact k1 Q
theorem m_Fi {X : Nat × (Nat → Int32)} {σ : Mem} {a : AS} {x : Int32} (ok : AOK a) (h : MI σ a) : ∃ σ', Ev X 129 [.ref 127, .int x] σ [.int (anFi a x)] σ' ∧ MI σ' a ∧ Hi σ σ' := by
  by_cases k0 : inR x 8
  · have e0 : b2 (inR x 8) = nI 1 := b2_t k0
    rw [anFi, if_pos k0]
    obtain ⟨p, hp, rfl⟩ := inR_of k0 (by omega)
    obtain ⟨σ', k1, k2⟩ := s_fitM (X := X) (u1 := .null) (u2 := .null) (u3 := .null) (u4 := .null) ok h hp
    have k1' := fun Q => k1 Q
    refine ⟨σ', fun Q => ?_, MI_scr h (k2.mono SCe_scr), k2.hi SCe_ge⟩
    rw [tn_nI (by omega)]
    simp (disch := omega) only [q_129_0, q_129_1, q_129_4, q_129_7, q_129_8, q_129_9, q_129_12, q_129_15, q_129_16, vinT, iClamp, clr_i, clr_l, clr_r, clr_n, true_and, and_true, or_true, true_or, false_or, or_false, iLe, iLt, iEq, iAdd, iMul, List.cons_append, List.nil_append, List.append_nil, zb0, zb1, if_true, if_false, not_true_eq_false, not_false_eq_true, Bool.false_eq_true, Nat.one_ne_zero, Nat.zero_ne_one, Nat.reduceEqDiff, Nat.reduceAdd, if_pos, if_neg, m127, m128k, m128n, m129k, m129n, m130k, m130n, m131k, m131n, m132k, m132n, m133k, m133n, m134k, m134n, m135k, m135n, m136k, m136n, m137k, m137n, m138k, m138n, m139k, m139n, m140k, m140n, m141k, m141n, m142k, m142n, m143k, m143n, m144k, m144n, m145k, m145n, m146k, m146n, s_isPaperM, e0, k1']
  · have e0 : b2 (inR x 8) = nI 0 := b2_f k0
    rw [anFi, if_neg k0]
    refine ⟨σ, fun Q => ?_, h, Hi.rf σ⟩
    simp (disch := omega) only [q_129_0, q_129_1, q_129_4, q_129_7, q_129_8, q_129_9, q_129_12, q_129_15, q_129_16, vinT, iClamp, clr_i, clr_l, clr_r, clr_n, true_and, and_true, or_true, true_or, false_or, or_false, iLe, iLt, iEq, iAdd, iMul, List.cons_append, List.nil_append, List.append_nil, zb0, zb1, if_true, if_false, not_true_eq_false, not_false_eq_true, Bool.false_eq_true, Nat.one_ne_zero, Nat.zero_ne_one, Nat.reduceEqDiff, Nat.reduceAdd, if_pos, if_neg, s_isPaperM, e0]
theorem l_learnM {X : Nat × (Nat → Int32)} {a : AS} {t : Nat} (ok : AOK a) (ht : t < 3) : ∀ n i s (σ : Mem), s < 16 → MI σ a → i + n = 8 → ∃ σ', (∀ Q, Rn X 130 15 [.ref 127, .int (nI t), .int (nI s), .int (nI i)] [] σ Q ↔ Q [.int (nI (leF a t i n s))] σ') ∧ Off SCe σ σ' := by
  intro n
  induction n with
  | zero =>
    intro i s σ hs h hi
    have e : i = 8 := by omega
    subst e
    refine ⟨σ, fun Q => ?_, Off.rf _ _⟩
    rw [q_130_15]
    simp (disch := omega) only [q_130_0, q_130_1, q_130_4, q_130_7, q_130_9, q_130_10, q_130_12, q_130_13, q_130_14, q_130_16, q_130_18, q_130_21, q_130_22, q_130_23, q_130_26, q_130_27, q_130_28, q_130_29, q_130_32, q_130_33, q_130_34, q_130_37, q_130_40, q_130_42, q_130_43, q_130_44, q_130_47, q_130_50, q_130_51, vinT, iClamp, clr_i, clr_l, clr_r, clr_n, true_and, and_true, or_true, true_or, false_or, or_false, iLe, iLt, iEq, iAdd, iMul, List.cons_append, List.nil_append, List.append_nil, zb0, zb1, if_true, if_false, not_true_eq_false, not_false_eq_true, Bool.false_eq_true, Nat.one_ne_zero, Nat.zero_ne_one, Nat.reduceEqDiff, Nat.reduceAdd, if_pos, if_neg, leF]
  | succ n ih =>
    intro i s σ hs h hi
    have q1 := h.1 i (by omega)
    have q2 := (ok.1 i (by omega)).1
    by_cases c : tr a i = t
    · obtain ⟨σ1, k1, k2⟩ := s_fitM (X := X) (u1 := .null) (u2 := .null) (u3 := .null) (u4 := .null) ok h (show i < 8 by omega)
      have k1' := fun Q => k1 Q
      obtain ⟨σ', j1, j2⟩ := ih (i + 1) (s &&& ftF (fitB a i) 0 4 0) σ1 (Nat.lt_of_le_of_lt Nat.and_le_left hs) (MI_scr h (k2.mono SCe_scr)) (by omega)
      refine ⟨σ', fun Q => ?_, k2.tr j2⟩
      rw [q_130_15]
      simp (disch := omega) only [q_130_0, q_130_1, q_130_4, q_130_7, q_130_9, q_130_10, q_130_12, q_130_13, q_130_14, q_130_16, q_130_18, q_130_21, q_130_22, q_130_23, q_130_26, q_130_27, q_130_28, q_130_29, q_130_32, q_130_33, q_130_34, q_130_37, q_130_40, q_130_42, q_130_43, q_130_44, q_130_47, q_130_50, q_130_51, vinT, iClamp, clr_i, clr_l, clr_r, clr_n, true_and, and_true, or_true, true_or, false_or, or_false, iLe, iLt, iEq, iAdd, iMul, List.cons_append, List.nil_append, List.append_nil, zb0, zb1, if_true, if_false, not_true_eq_false, not_false_eq_true, Bool.false_eq_true, Nat.one_ne_zero, Nat.zero_ne_one, Nat.reduceEqDiff, Nat.reduceAdd, if_pos, if_neg, m127, m128k, m128n, m129k, m129n, m130k, m130n, m131k, m131n, m132k, m132n, m133k, m133n, m134k, m134n, m135k, m135n, m136k, m136n, m137k, m137n, m138k, m138n, m139k, m139n, m140k, m140n, m141k, m141n, m142k, m142n, m143k, m143n, m144k, m144n, m145k, m145n, m146k, m146n, q1, c, k1', fa_and]
      rw [j1 Q, leF, if_pos c]
    · obtain ⟨σ', j1, j2⟩ := ih (i + 1) s σ hs h (by omega)
      refine ⟨σ', fun Q => ?_, j2⟩
      have e15 : s &&& 15 = s := by
        have := Nat.and_two_pow_sub_one_eq_mod s 4
        rw [show (2 : Nat) ^ 4 - 1 = 15 by rfl] at this
        rw [this]; omega
      rw [q_130_15]
      simp (disch := omega) only [q_130_0, q_130_1, q_130_4, q_130_7, q_130_9, q_130_10, q_130_12, q_130_13, q_130_14, q_130_16, q_130_18, q_130_21, q_130_22, q_130_23, q_130_26, q_130_27, q_130_28, q_130_29, q_130_32, q_130_33, q_130_34, q_130_37, q_130_40, q_130_42, q_130_43, q_130_44, q_130_47, q_130_50, q_130_51, vinT, iClamp, clr_i, clr_l, clr_r, clr_n, true_and, and_true, or_true, true_or, false_or, or_false, iLe, iLt, iEq, iAdd, iMul, List.cons_append, List.nil_append, List.append_nil, zb0, zb1, if_true, if_false, not_true_eq_false, not_false_eq_true, Bool.false_eq_true, Nat.one_ne_zero, Nat.zero_ne_one, Nat.reduceEqDiff, Nat.reduceAdd, if_pos, if_neg, m127, m128k, m128n, m129k, m129n, m130k, m130n, m131k, m131n, m132k, m132n, m133k, m133n, m134k, m134n, m135k, m135n, m136k, m136n, m137k, m137n, m138k, m138n, m139k, m139n, m140k, m140n, m141k, m141n, m142k, m142n, m143k, m143n, m144k, m144n, m145k, m145n, m146k, m146n, q1, c, fa_and, e15]
      rw [j1 Q, leF, if_neg c]
theorem m_Le {X : Nat × (Nat → Int32)} {σ : Mem} {a : AS} {x : Int32} {w0 w1 : Value} (ok : AOK a) (h : MI σ a) : ∃ σ', Ev X 130 [.ref 127, .int x, w0, w1] σ [.int (anLe a x)] σ' ∧ MI σ' a ∧ Hi σ σ' := by
  by_cases k0 : inR x 3
  · have e0 : b2 (inR x 3) = nI 1 := b2_t k0
    rw [anLe, if_pos k0]
    obtain ⟨t, ht, rfl⟩ := inR_of k0 (by omega)
    obtain ⟨σ', k1, k2⟩ := l_learnM (X := X) ok ht 8 0 15 σ (by omega) h rfl
    refine ⟨σ', fun Q => ?_, MI_scr h (k2.mono SCe_scr), k2.hi SCe_ge⟩
    rw [tn_nI (by omega)]
    simp (disch := omega) only [q_130_0, q_130_1, q_130_4, q_130_7, q_130_9, q_130_10, q_130_12, q_130_13, q_130_14, vinT, iClamp, clr_i, clr_l, clr_r, clr_n, true_and, and_true, or_true, true_or, false_or, or_false, iLe, iLt, iEq, iAdd, iMul, List.cons_append, List.nil_append, List.append_nil, zb0, zb1, if_true, if_false, not_true_eq_false, not_false_eq_true, Bool.false_eq_true, Nat.one_ne_zero, Nat.zero_ne_one, Nat.reduceEqDiff, Nat.reduceAdd, if_pos, if_neg, s_isTradeM, e0]
    exact k1 Q
  · have e0 : b2 (inR x 3) = nI 0 := b2_f k0
    rw [anLe, if_neg k0]
    refine ⟨σ, fun Q => ?_, h, Hi.rf σ⟩
    simp (disch := omega) only [q_130_0, q_130_1, q_130_4, q_130_7, q_130_9, q_130_10, q_130_12, q_130_13, q_130_14, vinT, iClamp, clr_i, clr_l, clr_r, clr_n, true_and, and_true, or_true, true_or, false_or, or_false, iLe, iLt, iEq, iAdd, iMul, List.cons_append, List.nil_append, List.append_nil, zb0, zb1, if_true, if_false, not_true_eq_false, not_false_eq_true, Bool.false_eq_true, Nat.one_ne_zero, Nat.zero_ne_one, Nat.reduceEqDiff, Nat.reduceAdd, if_pos, if_neg, s_isTradeM, e0]
/-! off -/
abbrev plR (a : AS) (p c j : Nat) : Int32 := plF (rF (ro a p)) (nI ((arrP a p c).getD j 0)) 0 (ro a p).length
theorem l_offI {X : Nat × (Nat → Int32)} {σ : Mem} {Q : List Value → Mem → Prop} {a : AS} {p c i : Nat} (ok : AOK a) (h : MI σ a) (hp : p < 8) (hA : AI σ 137 (arrP a p c)) (hi : i < (ro a p).length) : ∀ n j s (v2 : Value), j + n = (ro a p).length → (Rn X 131 52 [.ref 127, .int (nI p), v2, .int (nI s), .int (nI i), .int (nI j)] [] σ Q ↔ Rn X 131 104 [.ref 127, .int (nI p), if n = 0 then v2 else clr v2, .int (nI (s + ivI (plR a p c) i j n)), .int (nI i), .int (nI (ro a p).length)] [] σ Q) := by
  obtain ⟨m1, m2, m3, m4, m5, m6, m7, m8, m9, m10⟩ := id h
  obtain ⟨o1, o2, o3, o4, o5, o6, o7, o8⟩ := ok.1 p hp
  have al : (arrP a p c).length = (ro a p).length := (arrP_ok o6 o8).1
  have q2 := hA i (by omega)
  have clr2 : ∀ v : Value, clr (clr v) = clr v := fun v => by cases v <;> rfl
  intro n
  induction n with
  | zero =>
    intro j s v2 hj
    have e : j = (ro a p).length := by omega
    subst e
    rw [q_131_52, if_pos rfl]
    simp (disch := omega) only [q_131_54, q_131_55, q_131_58, q_131_59, q_131_60, q_131_63, q_131_64, q_131_65, q_131_66, q_131_67, q_131_70, q_131_72, q_131_73, q_131_76, q_131_77, q_131_78, q_131_79, q_131_82, q_131_84, q_131_85, q_131_88, q_131_91, q_131_92, q_131_95, q_131_96, q_131_97, q_131_98, q_131_101, vinT, iClamp, clr_i, clr_l, clr_r, clr_n, true_and, and_true, or_true, true_or, false_or, or_false, iLe, iLt, iEq, iAdd, iMul, List.cons_append, List.nil_append, List.append_nil, zb0, zb1, if_true, if_false, not_true_eq_false, not_false_eq_true, Bool.false_eq_true, Nat.one_ne_zero, Nat.zero_ne_one, Nat.reduceEqDiff, Nat.reduceAdd, if_pos, if_neg, m127, m128k, m128n, m129k, m129n, m130k, m130n, m131k, m131n, m132k, m132n, m133k, m133n, m134k, m134n, m135k, m135n, m136k, m136n, m137k, m137n, m138k, m138n, m139k, m139n, m140k, m140n, m141k, m141n, m142k, m142n, m143k, m143n, m144k, m144n, m145k, m145n, m146k, m146n, m5 p hp, ivI, Nat.add_zero]
  | succ n ih =>
    intro j s v2 hj
    have q1 := hA j (by omega)
    rw [q_131_52, ivI, if_neg (by omega)]
    have e9 : ∀ k, plF (rF (ro a p)) (nI ((arrP a p c).getD k 0)) 0 (ro a p).length = plR a p c k := fun _ => rfl
    have hv : (if n = 0 then clr v2 else clr (clr v2)) = clr v2 := by rw [clr2]; split <;> rfl
    by_cases c1 : plR a p c i ≤ plR a p c j
    · simp (disch := omega) only [q_131_54, q_131_55, q_131_58, q_131_59, q_131_60, q_131_63, q_131_64, q_131_65, q_131_66, q_131_67, q_131_70, q_131_72, q_131_73, q_131_76, q_131_77, q_131_78, q_131_79, q_131_82, q_131_84, q_131_85, q_131_88, q_131_91, q_131_92, q_131_95, q_131_96, q_131_97, q_131_98, q_131_101, vinT, iClamp, clr_i, clr_l, clr_r, clr_n, true_and, and_true, or_true, true_or, false_or, or_false, iLe, iLt, iEq, iAdd, iMul, List.cons_append, List.nil_append, List.append_nil, zb0, zb1, if_true, if_false, not_true_eq_false, not_false_eq_true, Bool.false_eq_true, Nat.one_ne_zero, Nat.zero_ne_one, Nat.reduceEqDiff, Nat.reduceAdd, if_pos, if_neg, m127, m128k, m128n, m129k, m129n, m130k, m130n, m131k, m131n, m132k, m132n, m133k, m133n, m134k, m134n, m135k, m135n, m136k, m136n, m137k, m137n, m138k, m138n, m139k, m139n, m140k, m140n, m141k, m141n, m142k, m142n, m143k, m143n, m144k, m144n, m145k, m145n, m146k, m146n, m5 p hp, q1, q2, s_placeM h hp o6, e9, c1]
      rw [ih (j + 1) _ _ (by omega), hv]
      simp only [if_pos c1, Nat.zero_add, Nat.add_zero]
    · simp (disch := omega) only [q_131_54, q_131_55, q_131_58, q_131_59, q_131_60, q_131_63, q_131_64, q_131_65, q_131_66, q_131_67, q_131_70, q_131_72, q_131_73, q_131_76, q_131_77, q_131_78, q_131_79, q_131_82, q_131_84, q_131_85, q_131_88, q_131_91, q_131_92, q_131_95, q_131_96, q_131_97, q_131_98, q_131_101, vinT, iClamp, clr_i, clr_l, clr_r, clr_n, true_and, and_true, or_true, true_or, false_or, or_false, iLe, iLt, iEq, iAdd, iMul, List.cons_append, List.nil_append, List.append_nil, zb0, zb1, if_true, if_false, not_true_eq_false, not_false_eq_true, Bool.false_eq_true, Nat.one_ne_zero, Nat.zero_ne_one, Nat.reduceEqDiff, Nat.reduceAdd, if_pos, if_neg, m127, m128k, m128n, m129k, m129n, m130k, m130n, m131k, m131n, m132k, m132n, m133k, m133n, m134k, m134n, m135k, m135n, m136k, m136n, m137k, m137n, m138k, m138n, m139k, m139n, m140k, m140n, m141k, m141n, m142k, m142n, m143k, m143n, m144k, m144n, m145k, m145n, m146k, m146n, m5 p hp, q1, q2, s_placeM h hp o6, e9, c1]
      rw [ih (j + 1) _ _ (by omega), hv]
      simp only [if_neg c1, Nat.add_assoc]
theorem l_offM {X : Nat × (Nat → Int32)} {σ : Mem} {Q : List Value → Mem → Prop} {a : AS} {p c : Nat} (ok : AOK a) (h : MI σ a) (hp : p < 8) (hA : AI σ 137 (arrP a p c)) : ∀ n i s (v2 v5 : Value), i + n = (ro a p).length → (Rn X 131 35 [.ref 127, .int (nI p), v2, .int (nI s), .int (nI i), v5] [] σ Q ↔ Q [.int (nI (s + ivO (plR a p c) (ro a p).length i n))] σ) := by
  obtain ⟨m1, m2, m3, m4, m5, m6, m7, m8, m9, m10⟩ := id h
  obtain ⟨o1, o2, o3, o4, o5, o6, o7, o8⟩ := ok.1 p hp
  intro n
  induction n with
  | zero =>
    intro i s v2 v5 hi
    have e : i = (ro a p).length := by omega
    subst e
    rw [q_131_35]
    simp (disch := omega) only [q_131_37, q_131_38, q_131_41, q_131_42, q_131_43, q_131_46, q_131_48, q_131_49, q_131_50, q_131_104, q_131_107, q_131_110, q_131_111, vinT, iClamp, clr_i, clr_l, clr_r, clr_n, true_and, and_true, or_true, true_or, false_or, or_false, iLe, iLt, iEq, iAdd, iMul, List.cons_append, List.nil_append, List.append_nil, zb0, zb1, if_true, if_false, not_true_eq_false, not_false_eq_true, Bool.false_eq_true, Nat.one_ne_zero, Nat.zero_ne_one, Nat.reduceEqDiff, Nat.reduceAdd, if_pos, if_neg, m127, m128k, m128n, m129k, m129n, m130k, m130n, m131k, m131n, m132k, m132n, m133k, m133n, m134k, m134n, m135k, m135n, m136k, m136n, m137k, m137n, m138k, m138n, m139k, m139n, m140k, m140n, m141k, m141n, m142k, m142n, m143k, m143n, m144k, m144n, m145k, m145n, m146k, m146n, m5 p hp, ivO, Nat.add_zero]
  | succ n ih =>
    intro i s v2 v5 hi
    rw [q_131_35, ivO]
    simp (disch := omega) only [q_131_37, q_131_38, q_131_41, q_131_42, q_131_43, q_131_46, q_131_48, q_131_49, q_131_50, vinT, iClamp, clr_i, clr_l, clr_r, clr_n, true_and, and_true, or_true, true_or, false_or, or_false, iLe, iLt, iEq, iAdd, iMul, List.cons_append, List.nil_append, List.append_nil, zb0, zb1, if_true, if_false, not_true_eq_false, not_false_eq_true, Bool.false_eq_true, Nat.one_ne_zero, Nat.zero_ne_one, Nat.reduceEqDiff, Nat.reduceAdd, if_pos, if_neg, m127, m128k, m128n, m129k, m129n, m130k, m130n, m131k, m131n, m132k, m132n, m133k, m133n, m134k, m134n, m135k, m135n, m136k, m136n, m137k, m137n, m138k, m138n, m139k, m139n, m140k, m140n, m141k, m141n, m142k, m142n, m143k, m143n, m144k, m144n, m145k, m145n, m146k, m146n, m5 p hp]
    rw [l_offI ok h hp hA (by omega) ((ro a p).length - (i + 1)) (i + 1) s _ (by omega)]
    simp (disch := omega) only [q_131_104, q_131_107, vinT, iClamp, clr_i, clr_l, clr_r, clr_n, true_and, and_true, or_true, true_or, false_or, or_false, iLe, iLt, iEq, iAdd, iMul, List.cons_append, List.nil_append, List.append_nil, zb0, zb1, if_true, if_false, not_true_eq_false, not_false_eq_true, Bool.false_eq_true, Nat.one_ne_zero, Nat.zero_ne_one, Nat.reduceEqDiff, Nat.reduceAdd, if_pos, if_neg]
    rw [ih (i + 1) _ _ _ (by omega), Nat.add_assoc]
theorem smF_split (f : Nat → Nat) : ∀ n m i, smF f i (n + m) = smF f i n + smF f (i + n) m
  | 0, m, i => by rw [Nat.zero_add, smF, Nat.zero_add, Nat.add_zero]
  | n + 1, m, i => by
    rw [show n + 1 + m = (n + m) + 1 by omega, smF, smF, smF_split f n m (i + 1), show i + 1 + n = i + (n + 1) by omega]
    omega
theorem smF_swap (F : Nat → Nat → Nat) (m j : Nat) : ∀ n i, smF (fun x => smF (fun y => F x y) j m) i n = smF (fun y => smF (fun x => F x y) i n) j m
  | 0, i => by
    rw [smF]
    have e : smF (fun y => smF (fun x => F x y) i 0) j m = smF (fun _ => 0) j m := rfl
    rw [e, smF_zero]
  | n + 1, i => by
    rw [smF, smF_swap F m j n (i + 1), ← smF_add]
    rfl
theorem ivI_smF (g : Nat → Int32) (i : Nat) : ∀ n j, ivI g i j n = smF (fun j => if g i ≤ g j then 0 else 1) j n
  | 0, j => rfl
  | n + 1, j => by rw [ivI, smF, ivI_smF g i n (j + 1)]
theorem ivO_smF (g : Nat → Int32) (N : Nat) : ∀ n i, i + n ≤ N → ivO g N i n = smF (fun i => smF (fun j => if i < j ∧ ¬ g i ≤ g j then 1 else 0) 0 N) i n
  | 0, i, _ => rfl
  | n + 1, i, h => by
    rw [ivO, smF, ivO_smF g N n (i + 1) (by omega), ivI_smF]
    have e1 : smF (fun j => if i < j ∧ ¬ g i ≤ g j then 1 else 0) 0 N = smF (fun j => if i < j ∧ ¬ g i ≤ g j then 1 else 0) 0 (i + 1) + smF (fun j => if i < j ∧ ¬ g i ≤ g j then 1 else 0) (i + 1) (N - (i + 1)) := by
      have := smF_split (fun j => if i < j ∧ ¬ g i ≤ g j then 1 else 0) (i + 1) (N - (i + 1)) 0
      rw [show i + 1 + (N - (i + 1)) = N by omega, Nat.zero_add] at this
      exact this
    rw [e1, smF_congr (g := fun _ => 0) (i + 1) 0 (fun j a b => if_neg (by omega)), smF_zero, Nat.zero_add]
    congr 1
    refine smF_congr _ _ (fun j a b => ?_)
    by_cases c : g i ≤ g j
    · rw [if_pos c, if_neg (fun q => q.2 c)]
    · rw [if_neg c, if_pos ⟨by omega, c⟩]
/-- pairs that stand the other way about, by two orders of the same people -/
def ivX (l d : List Nat) : Nat := smF (fun x => if x ∈ l then smF (fun y => if y ∈ l then (if plF (rF l) (nI x) 0 l.length < plF (rF l) (nI y) 0 l.length ∧ plF (rF d) (nI y) 0 d.length < plF (rF d) (nI x) 0 d.length then 1 else 0) else 0) 0 7 else 0) 0 7
theorem iv_eq {l d : List Nat} (hl : l.length ≤ 7) (l7 : ∀ j, j < l.length → l.getD j 0 < 7) (ld : l.Nodup) : ivO (fun j => plF (rF d) (nI (l.getD j 0)) 0 d.length) l.length 0 l.length = ivX l d := by
  rw [ivO_smF _ _ _ _ (by omega)]
  have e : ∀ i, i < l.length → smF (fun j => if i < j ∧ ¬ plF (rF d) (nI (l.getD i 0)) 0 d.length ≤ plF (rF d) (nI (l.getD j 0)) 0 d.length then 1 else 0) 0 l.length = smF (fun y => if y ∈ l then (if plF (rF l) (nI (l.getD i 0)) 0 l.length < plF (rF l) (nI y) 0 l.length ∧ plF (rF d) (nI y) 0 d.length < plF (rF d) (nI (l.getD i 0)) 0 d.length then 1 else 0) else 0) 0 7 := fun i hi => by
    rw [← sum_row ld l7 (fun y => if plF (rF l) (nI (l.getD i 0)) 0 l.length < plF (rF l) (nI y) 0 l.length ∧ plF (rF d) (nI y) 0 d.length < plF (rF d) (nI (l.getD i 0)) 0 d.length then 1 else 0)]
    refine smF_congr _ _ (fun j h1 h2 => ?_)
    have hj : j < l.length := by omega
    have c : (i < j ∧ ¬ plF (rF d) (nI (l.getD i 0)) 0 d.length ≤ plF (rF d) (nI (l.getD j 0)) 0 d.length) ↔ (plF (rF l) (nI (l.getD i 0)) 0 l.length < plF (rF l) (nI (l.getD j 0)) 0 l.length ∧ plF (rF d) (nI (l.getD j 0)) 0 d.length < plF (rF d) (nI (l.getD i 0)) 0 d.length) := by
      rw [plF_self ld hl l7 hi, plF_self ld hl l7 hj, iLt (by omega) (by omega), Int32.not_le]
    by_cases q : i < j ∧ ¬ plF (rF d) (nI (l.getD i 0)) 0 d.length ≤ plF (rF d) (nI (l.getD j 0)) 0 d.length
    · rw [if_pos q, if_pos (c.mp q)]
    · rw [if_neg q, if_neg (fun r => q (c.mpr r))]
  rw [smF_congr _ _ (fun i h1 h2 => e i (by omega)), sum_row ld l7 (fun x => smF (fun y => if y ∈ l then (if plF (rF l) (nI x) 0 l.length < plF (rF l) (nI y) 0 l.length ∧ plF (rF d) (nI y) 0 d.length < plF (rF d) (nI x) 0 d.length then 1 else 0) else 0) 0 7)]
  rfl
theorem ivX_swap {l d : List Nat} (hm : ∀ x, x ∈ d ↔ x ∈ l) : ivX l d = ivX d l := by
  have e1 : ∀ u v : List Nat, ivX u v = smF (fun x => smF (fun y => if x ∈ u ∧ y ∈ u ∧ plF (rF u) (nI x) 0 u.length < plF (rF u) (nI y) 0 u.length ∧ plF (rF v) (nI y) 0 v.length < plF (rF v) (nI x) 0 v.length then 1 else 0) 0 7) 0 7 := fun u v => by
    refine smF_congr _ _ (fun x _ _ => ?_)
    by_cases c : x ∈ u
    · simp only [if_pos c]
      refine smF_congr _ _ (fun y _ _ => ?_)
      by_cases c2 : y ∈ u
      · simp only [c, c2, true_and, if_true]
      · rw [if_neg c2, if_neg (fun q => c2 q.2.1)]
    · rw [if_neg c, smF_congr (g := fun _ => 0) 7 0 (fun y _ _ => if_neg (fun q => c q.1)), smF_zero]
  rw [e1, e1, smF_swap]
  refine smF_congr _ _ (fun x _ _ => smF_congr _ _ (fun y _ _ => ?_))
  by_cases c : y ∈ l ∧ x ∈ l ∧ plF (rF l) (nI y) 0 l.length < plF (rF l) (nI x) 0 l.length ∧ plF (rF d) (nI x) 0 d.length < plF (rF d) (nI y) 0 d.length
  · rw [if_pos c, if_pos ⟨(hm x).mpr c.2.1, (hm y).mpr c.1, c.2.2.2, c.2.2.1⟩]
  · rw [if_neg c, if_neg (fun q => c ⟨(hm y).mp q.2.1, (hm x).mp q.1, q.2.2.2, q.2.2.1⟩)]
theorem m_Of {X : Nat × (Nat → Int32)} {σ : Mem} {a : AS} {x c : Int32} {w0 w1 w2 : Value} (ok : AOK a) (h : MI σ a) : ∃ σ', Ev X 131 [.ref 127, .int x, .int c, w0, w1, w2] σ [.int (anOf a x c)] σ' ∧ MI σ' a ∧ Hi σ σ' := by
  by_cases cc0 : inR x 8
  · have e0 : b2 (inR x 8) = nI 1 := b2_t cc0
    by_cases cc1 : inR c 4
    · have e1 : b2 (inR c 4) = nI 1 := b2_t cc1
      rw [← b2_QR c 3 (by omega)] at e1
      obtain ⟨p, hp, rfl⟩ := inR_of cc0 (by omega)
      obtain ⟨m, hm, rfl⟩ := inR_of cc1 (by omega)
      have ea : anOf a (nI p) (nI m) = nI (ivO (fun j => plF (rF (arrL m (fun q => lN (ptL (wt a p) (hr a p) q 4)) (rm a (tr a p)) (ro a p))) (nI ((ro a p).getD j 0)) 0 (arrL m (fun q => lN (ptL (wt a p) (hr a p) q 4)) (rm a (tr a p)) (ro a p)).length) (ro a p).length 0 (ro a p).length) := by
        rw [anOf, if_pos cc0, if_pos cc1]
        simp (disch := omega) only [tn_nI]
      rw [ea]
      obtain ⟨m1, m2, m3, m4, m5, m6, m7, m8, m9, m10⟩ := id h
      obtain ⟨o1, o2, o3, o4, o5, o6, o7, o8⟩ := ok.1 p hp
      obtain ⟨σ', i1, i2, i3, i4, i5⟩ := s_dueM (X := X) (u1 := .null) (u2 := .null) (u3 := .null) (u4 := .null) (u5 := .null) (u6 := .null) ok h hp hm
      have i1' := fun Q => i1 Q
      have i3' : Off SCe σ σ' := i3
      have h' := MI_scr h (i3'.mono SCe_scr)
      obtain ⟨al, ad, am⟩ := arrP_ok (c := m) o6 o8
      have ef : ivO (fun j => plF (rF (arrP a p m)) (nI ((ro a p).getD j 0)) 0 (arrP a p m).length) (ro a p).length 0 (ro a p).length = ivO (plR a p m) (ro a p).length 0 (ro a p).length := by
        rw [iv_eq o6 o7 o8, ivX_swap am, ← iv_eq (by omega) (arrP_7 o6 o8 o7) ad, al]
      refine ⟨σ', fun Q => ?_, h', i3'.hi SCe_ge⟩
      show _ ↔ Q [.int (nI (ivO (fun j => plF (rF (arrP a p m)) (nI ((ro a p).getD j 0)) 0 (arrP a p m).length) (ro a p).length 0 (ro a p).length))] σ'
      rw [ef]
      simp (disch := omega) only [q_131_0, q_131_1, q_131_4, q_131_7, q_131_8, q_131_9, q_131_10, q_131_11, q_131_12, q_131_15, q_131_18, q_131_21, q_131_23, q_131_24, q_131_25, q_131_26, q_131_27, q_131_30, q_131_31, q_131_32, q_131_33, vinT, iClamp, clr_i, clr_l, clr_r, clr_n, true_and, and_true, or_true, true_or, false_or, or_false, iLe, iLt, iEq, iAdd, iMul, List.cons_append, List.nil_append, List.append_nil, zb0, zb1, if_true, if_false, not_true_eq_false, not_false_eq_true, Bool.false_eq_true, Nat.one_ne_zero, Nat.zero_ne_one, Nat.reduceEqDiff, Nat.reduceAdd, if_pos, if_neg, s_isPaperM, s_in0, e0, e1, m127, m128k, m128n, m129k, m129n, m130k, m130n, m131k, m131n, m132k, m132n, m133k, m133n, m134k, m134n, m135k, m135n, m136k, m136n, m137k, m137n, m138k, m138n, m139k, m139n, m140k, m140n, m141k, m141n, m142k, m142n, m143k, m143n, m144k, m144n, m145k, m145n, m146k, m146n, i1']
      rw [l_offM ok h' hp i2 (ro a p).length 0 0 _ _ (by omega), Nat.zero_add]
    · have e1 : b2 (inR c 4) = nI 0 := b2_f cc1
      rw [← b2_QR c 3 (by omega)] at e1
      refine ⟨σ, fun Q => ?_, h, Hi.rf σ⟩
      rw [anOf, if_pos cc0, if_neg cc1]
      simp (disch := omega) only [q_131_0, q_131_1, q_131_4, q_131_7, q_131_8, q_131_9, q_131_10, q_131_11, q_131_12, q_131_15, q_131_18, q_131_21, q_131_23, q_131_24, q_131_25, q_131_26, q_131_27, q_131_30, q_131_31, q_131_32, q_131_33, q_131_37, q_131_38, q_131_41, q_131_42, q_131_43, q_131_46, q_131_48, q_131_49, q_131_50, q_131_54, q_131_55, q_131_58, q_131_59, q_131_60, q_131_63, q_131_64, q_131_65, q_131_66, q_131_67, q_131_70, q_131_72, q_131_73, q_131_76, q_131_77, q_131_78, q_131_79, q_131_82, q_131_84, q_131_85, q_131_88, q_131_91, q_131_92, q_131_95, q_131_96, q_131_97, q_131_98, q_131_101, q_131_104, q_131_107, q_131_110, q_131_111, vinT, iClamp, clr_i, clr_l, clr_r, clr_n, true_and, and_true, or_true, true_or, false_or, or_false, iLe, iLt, iEq, iAdd, iMul, List.cons_append, List.nil_append, List.append_nil, zb0, zb1, if_true, if_false, not_true_eq_false, not_false_eq_true, Bool.false_eq_true, Nat.one_ne_zero, Nat.zero_ne_one, Nat.reduceEqDiff, Nat.reduceAdd, if_pos, if_neg, s_isPaperM, s_in0, e0, e1]
  · have e0 : b2 (inR x 8) = nI 0 := b2_f cc0
    refine ⟨σ, fun Q => ?_, h, Hi.rf σ⟩
    rw [anOf, if_neg cc0]
    simp (disch := omega) only [q_131_0, q_131_1, q_131_4, q_131_7, q_131_8, q_131_9, q_131_10, q_131_11, q_131_12, q_131_15, q_131_18, q_131_21, q_131_23, q_131_24, q_131_25, q_131_26, q_131_27, q_131_30, q_131_31, q_131_32, q_131_33, q_131_37, q_131_38, q_131_41, q_131_42, q_131_43, q_131_46, q_131_48, q_131_49, q_131_50, q_131_54, q_131_55, q_131_58, q_131_59, q_131_60, q_131_63, q_131_64, q_131_65, q_131_66, q_131_67, q_131_70, q_131_72, q_131_73, q_131_76, q_131_77, q_131_78, q_131_79, q_131_82, q_131_84, q_131_85, q_131_88, q_131_91, q_131_92, q_131_95, q_131_96, q_131_97, q_131_98, q_131_101, q_131_104, q_131_107, q_131_110, q_131_111, vinT, iClamp, clr_i, clr_l, clr_r, clr_n, true_and, and_true, or_true, true_or, false_or, or_false, iLe, iLt, iEq, iAdd, iMul, List.cons_append, List.nil_append, List.append_nil, zb0, zb1, if_true, if_false, not_true_eq_false, not_false_eq_true, Bool.false_eq_true, Nat.one_ne_zero, Nat.zero_ne_one, Nat.reduceEqDiff, Nat.reduceAdd, if_pos, if_neg, s_isPaperM, s_in0, e0]
