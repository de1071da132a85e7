/-! ===== the reference: peace, peaceAt, settle ===== -/
def SCp : List Nat := [127, 144, 145]
theorem SCp_scr : ∀ b, b ∈ SCp → b ∈ SCM := by decide
theorem SCp_ge : ∀ b, b ∈ SCp → 127 ≤ b := by decide
theorem s_peaceM {X : Nat × (Nat → Int32)} {σ : Mem} {a : AS} {s : Nat} {u v : Value} (ok : AOK a) (h : MI σ a) (hs : s < 128) : ∃ σ', Ev X 159 [.ref 127, .int (nI s), u, v] σ [] σ' ∧ σ'.1 127 25 = nI (memS s) ∧ (op (mi a) (be a) s 7 0 < 1000 → σ'.1 127 24 = nI (op (mi a) (be a) s 7 0) ∧ AI σ' 145 (luF (mi a) (be a) s 7 0) ∧ (luF (mi a) (be a) s 7 0).length = memS s) ∧ (¬ op (mi a) (be a) s 7 0 < 1000 → σ'.1 127 24 = -9) ∧ Off SCp σ σ' := by
  obtain ⟨σ', i1, i2, i3, i4⟩ := s_layP (X := X) (u := u) (v := v) ok h hs
  rw [dfs_top hs ok.2.2.1] at i3
  refine ⟨σ', i1, i2, fun c => ?_, fun c => ?_, i4⟩
  · rw [if_pos c] at i3
    rcases i3 with ⟨e, -⟩ | ⟨c1, l1, e, e1, e2, e3, -⟩
    · cases e
    · cases e
      exact ⟨e1, e2, e3⟩
  · rw [if_neg c] at i3
    rcases i3 with ⟨-, e⟩ | ⟨c1, l1, e, -⟩
    · exact e
    · cases e
theorem m_Pe {X : Nat × (Nat → Int32)} {σ : Mem} {a : AS} {x : Int32} (ok : AOK a) (h : MI σ a) : ∃ σ', Ev X 161 [.ref 127, .int x] σ [.int (anPe a x)] σ' ∧ MI σ' a ∧ Hi σ σ' := by
  by_cases k0 : inR x 128
  · have e0 : b2 (inR x 128) = nI 1 := b2_t k0
    rw [← b2_QR x 127 (by omega)] at e0
    rw [anPe, if_pos k0]
    obtain ⟨s, hs, rfl⟩ := inR_of k0 (by omega)
    rw [tn_nI (by omega)]
    obtain ⟨σ', i1, i2, i3, i4, i5⟩ := s_peaceM (X := X) (u := .null) (v := .null) ok h hs
    have i1' := fun Q => i1 Q
    refine ⟨σ', fun Q => ?_, MI_scr h (i5.mono SCp_scr), i5.hi SCp_ge⟩
    by_cases c : op (mi a) (be a) s 7 0 < 1000
    · rw [if_pos c, peace_sum hs ok.2.2.1 c]
      simp (disch := omega) only [q_161_0, q_161_1, q_161_2, q_161_3, q_161_6, q_161_9, q_161_12, q_161_14, q_161_15, q_161_16, q_161_17, q_161_20, q_161_21, q_161_24, vinT, iClamp, clr_i, clr_l, clr_r, clr_n, true_and, and_true, or_true, true_or, false_or, or_false, iLe, iLt, iEq, iAdd, iMul, List.cons_append, List.nil_append, List.append_nil, zb0, zb1, if_true, if_false, not_true_eq_false, not_false_eq_true, Bool.false_eq_true, Nat.one_ne_zero, Nat.zero_ne_one, Nat.reduceEqDiff, Nat.reduceAdd, if_pos, if_neg, s_in0, e0, m127, m128k, m128n, m129k, m129n, m130k, m130n, m131k, m131n, m132k, m132n, m133k, m133n, m134k, m134n, m135k, m135n, m136k, m136n, m137k, m137n, m138k, m138n, m139k, m139n, m140k, m140n, m141k, m141n, m142k, m142n, m143k, m143n, m144k, m144n, m145k, m145n, m146k, m146n, i1', (i3 c).1]
    · rw [if_neg c]
      simp (disch := omega) only [q_161_0, q_161_1, q_161_2, q_161_3, q_161_6, q_161_9, q_161_12, q_161_14, q_161_15, q_161_16, q_161_17, q_161_20, q_161_21, q_161_24, vinT, iClamp, clr_i, clr_l, clr_r, clr_n, true_and, and_true, or_true, true_or, false_or, or_false, iLe, iLt, iEq, iAdd, iMul, List.cons_append, List.nil_append, List.append_nil, zb0, zb1, if_true, if_false, not_true_eq_false, not_false_eq_true, Bool.false_eq_true, Nat.one_ne_zero, Nat.zero_ne_one, Nat.reduceEqDiff, Nat.reduceAdd, if_pos, if_neg, s_in0, e0, m127, m128k, m128n, m129k, m129n, m130k, m130n, m131k, m131n, m132k, m132n, m133k, m133n, m134k, m134n, m135k, m135n, m136k, m136n, m137k, m137n, m138k, m138n, m139k, m139n, m140k, m140n, m141k, m141n, m142k, m142n, m143k, m143n, m144k, m144n, m145k, m145n, m146k, m146n, i1', i4 c]
  · have e0 : b2 (inR x 128) = nI 0 := b2_f k0
    rw [← b2_QR x 127 (by omega)] at e0
    rw [anPe, if_neg k0]
    refine ⟨σ, fun Q => ?_, h, Hi.rf σ⟩
    simp (disch := omega) only [q_161_0, q_161_1, q_161_2, q_161_3, q_161_6, q_161_9, q_161_12, q_161_14, q_161_15, q_161_16, q_161_17, q_161_20, q_161_21, q_161_24, vinT, iClamp, clr_i, clr_l, clr_r, clr_n, true_and, and_true, or_true, true_or, false_or, or_false, iLe, iLt, iEq, iAdd, iMul, List.cons_append, List.nil_append, List.append_nil, zb0, zb1, if_true, if_false, not_true_eq_false, not_false_eq_true, Bool.false_eq_true, Nat.one_ne_zero, Nat.zero_ne_one, Nat.reduceEqDiff, Nat.reduceAdd, if_pos, if_neg, s_in0, e0]
theorem m_Pa {X : Nat × (Nat → Int32)} {σ : Mem} {a : AS} {x i : Int32} (ok : AOK a) (h : MI σ a) : ∃ σ', Ev X 162 [.ref 127, .int x, .int i] σ [.int (anPa a x i)] σ' ∧ MI σ' a ∧ Hi σ σ' := by
  by_cases k0 : inR x 128
  · have e0 : b2 (inR x 128) = nI 1 := b2_t k0
    rw [← b2_QR x 127 (by omega)] at e0
    rw [anPa, if_pos k0]
    obtain ⟨s, hs, rfl⟩ := inR_of k0 (by omega)
    rw [tn_nI (by omega)]
    obtain ⟨σ', i1, i2, i3, i4, i5⟩ := s_peaceM (X := X) (u := .null) (v := .null) ok h hs
    have i1' := fun Q => i1 Q
    have hm7 := memS_le s
    refine ⟨σ', fun Q => ?_, MI_scr h (i5.mono SCp_scr), i5.hi SCp_ge⟩
    by_cases c : op (mi a) (be a) s 7 0 < 1000
    · obtain ⟨j1, j2, j3⟩ := i3 c
      have hn9 := nI_n9 (p := op (mi a) (be a) s 7 0) (by omega)
      rw [if_pos c]
      by_cases k1 : inR i (memS s)
      · have e1 : b2 (inR i (memS s)) = nI 1 := b2_t k1
        obtain ⟨j, hj, rfl⟩ := inR_of k1 (by omega)
        rw [pA_in (by omega) (by omega)]
        simp (disch := omega) only [q_162_0, q_162_1, q_162_2, q_162_3, q_162_6, q_162_9, q_162_12, q_162_14, q_162_15, q_162_16, q_162_17, q_162_20, q_162_21, q_162_24, q_162_26, q_162_29, q_162_30, q_162_31, q_162_32, q_162_33, q_162_36, q_162_37, q_162_38, q_162_39, q_162_42, q_162_45, q_162_46, q_162_49, q_162_50, q_162_51, q_162_54, q_162_56, vinT, iClamp, clr_i, clr_l, clr_r, clr_n, true_and, and_true, or_true, true_or, false_or, or_false, iLe, iLt, iEq, iAdd, iMul, List.cons_append, List.nil_append, List.append_nil, zb0, zb1, if_true, if_false, not_true_eq_false, not_false_eq_true, Bool.false_eq_true, Nat.one_ne_zero, Nat.zero_ne_one, Nat.reduceEqDiff, Nat.reduceAdd, if_pos, if_neg, s_in0, e0, m127, m128k, m128n, m129k, m129n, m130k, m130n, m131k, m131n, m132k, m132n, m133k, m133n, m134k, m134n, m135k, m135n, m136k, m136n, m137k, m137n, m138k, m138n, m139k, m139n, m140k, m140n, m141k, m141n, m142k, m142n, m143k, m143n, m144k, m144n, m145k, m145n, m146k, m146n, i1', i2, j1, hn9, s_inL, e1, j2 j (by omega)]
      · have e1 : b2 (inR i (memS s)) = nI 0 := b2_f k1
        rw [pA_nin (by rw [j3]; exact k1)]
        simp (disch := omega) only [q_162_0, q_162_1, q_162_2, q_162_3, q_162_6, q_162_9, q_162_12, q_162_14, q_162_15, q_162_16, q_162_17, q_162_20, q_162_21, q_162_24, q_162_26, q_162_29, q_162_30, q_162_31, q_162_32, q_162_33, q_162_36, q_162_37, q_162_38, q_162_39, q_162_42, q_162_45, q_162_46, q_162_49, q_162_50, q_162_51, q_162_54, q_162_56, vinT, iClamp, clr_i, clr_l, clr_r, clr_n, true_and, and_true, or_true, true_or, false_or, or_false, iLe, iLt, iEq, iAdd, iMul, List.cons_append, List.nil_append, List.append_nil, zb0, zb1, if_true, if_false, not_true_eq_false, not_false_eq_true, Bool.false_eq_true, Nat.one_ne_zero, Nat.zero_ne_one, Nat.reduceEqDiff, Nat.reduceAdd, if_pos, if_neg, s_in0, e0, m127, m128k, m128n, m129k, m129n, m130k, m130n, m131k, m131n, m132k, m132n, m133k, m133n, m134k, m134n, m135k, m135n, m136k, m136n, m137k, m137n, m138k, m138n, m139k, m139n, m140k, m140n, m141k, m141n, m142k, m142n, m143k, m143n, m144k, m144n, m145k, m145n, m146k, m146n, i1', i2, j1, hn9, s_inL, e1]
    · rw [if_neg c]
      simp (disch := omega) only [q_162_0, q_162_1, q_162_2, q_162_3, q_162_6, q_162_9, q_162_12, q_162_14, q_162_15, q_162_16, q_162_17, q_162_20, q_162_21, q_162_24, q_162_26, q_162_29, q_162_30, q_162_31, q_162_32, q_162_33, q_162_36, q_162_37, q_162_38, q_162_39, q_162_42, q_162_45, q_162_46, q_162_49, q_162_50, q_162_51, q_162_54, q_162_56, vinT, iClamp, clr_i, clr_l, clr_r, clr_n, true_and, and_true, or_true, true_or, false_or, or_false, iLe, iLt, iEq, iAdd, iMul, List.cons_append, List.nil_append, List.append_nil, zb0, zb1, if_true, if_false, not_true_eq_false, not_false_eq_true, Bool.false_eq_true, Nat.one_ne_zero, Nat.zero_ne_one, Nat.reduceEqDiff, Nat.reduceAdd, if_pos, if_neg, s_in0, e0, m127, m128k, m128n, m129k, m129n, m130k, m130n, m131k, m131n, m132k, m132n, m133k, m133n, m134k, m134n, m135k, m135n, m136k, m136n, m137k, m137n, m138k, m138n, m139k, m139n, m140k, m140n, m141k, m141n, m142k, m142n, m143k, m143n, m144k, m144n, m145k, m145n, m146k, m146n, i1', i4 c]
  · have e0 : b2 (inR x 128) = nI 0 := b2_f k0
    rw [← b2_QR x 127 (by omega)] at e0
    rw [anPa, if_neg k0]
    refine ⟨σ, fun Q => ?_, h, Hi.rf σ⟩
    simp (disch := omega) only [q_162_0, q_162_1, q_162_2, q_162_3, q_162_6, q_162_9, q_162_12, q_162_14, q_162_15, q_162_16, q_162_17, q_162_20, q_162_21, q_162_24, q_162_26, q_162_29, q_162_30, q_162_31, q_162_32, q_162_33, q_162_36, q_162_37, q_162_38, q_162_39, q_162_42, q_162_45, q_162_46, q_162_49, q_162_50, q_162_51, q_162_54, q_162_56, vinT, iClamp, clr_i, clr_l, clr_r, clr_n, true_and, and_true, or_true, true_or, false_or, or_false, iLe, iLt, iEq, iAdd, iMul, List.cons_append, List.nil_append, List.append_nil, zb0, zb1, if_true, if_false, not_true_eq_false, not_false_eq_true, Bool.false_eq_true, Nat.one_ne_zero, Nat.zero_ne_one, Nat.reduceEqDiff, Nat.reduceAdd, if_pos, if_neg, s_in0, e0]
/-! settle -/
theorem mbF_bit {f : Nat → Nat} {y : Nat} (hy : y < 7) : ∀ n i b, (∀ j, i ≤ j → j < i + n → f j < 7) → b < 128 → (bitN (mbF f i n b) y ↔ bitN b y ∨ ∃ j, i ≤ j ∧ j < i + n ∧ f j = y)
  | 0, i, b, _, _ => by
    rw [mbF]
    exact ⟨fun q => Or.inl q, fun q => q.elim id (fun ⟨j, h1, h2, _⟩ => absurd h2 (by omega))⟩
  | n + 1, i, b, hf, hb => by
    have hi := hf i (by omega) (by omega)
    rw [mbF, mbF_bit hy n (i + 1) (b ||| 2 ^ f i) (fun j h1 h2 => hf j (by omega) (by omega)) (or_lt b hb _ hi), bit_or b hb _ hi y hy]
    constructor
    · rintro ((q | q) | ⟨j, h1, h2, h3⟩)
      · exact Or.inl q
      · exact Or.inr ⟨i, by omega, by omega, q.symm⟩
      · exact Or.inr ⟨j, by omega, by omega, h3⟩
    · rintro (q | ⟨j, h1, h2, h3⟩)
      · exact Or.inl (Or.inl q)
      · by_cases e : j = i
        · subst e; exact Or.inl (Or.inr h3.symm)
        · exact Or.inr ⟨j, by omega, by omega, h3⟩
theorem mkL_bit {l : List Nat} (h7 : ∀ j, j < l.length → l.getD j 0 < 7) {y : Nat} (hy : y < 7) : bitN (mkL l) y ↔ y ∈ l := by
  rw [mkL, mbF_bit hy _ 0 0 (fun j _ hj => h7 j (by omega)) (by omega)]
  constructor
  · rintro (q | ⟨j, h1, h2, h3⟩)
    · exact absurd q (bit_0 y hy)
    · rw [← h3]; exact gD_mem (by omega)
  · intro q
    obtain ⟨j, h1, h2⟩ := mem_gD q
    exact Or.inr ⟨j, by omega, by omega, h2⟩
theorem mkL_mem {l : List Nat} (hd : l.Nodup) (h7 : ∀ j, j < l.length → l.getD j 0 < 7) : memS (mkL l) = l.length := by
  have e : memS (mkL l) = smF (fun q => if q ∈ l then (fun _ => 1) q else 0) 0 7 := smF_congr 7 0 (fun y _ hy => by
    have q := mkL_bit h7 (y := y) (by omega)
    by_cases c : y ∈ l
    · rw [if_pos c]; exact q.mpr c
    · rw [if_neg c]; exact (bit01 _ _).resolve_right (fun z => c (q.mp z)))
  rw [e, ← lsm_mem _ l hd (row_lt h7), lsm_const _ 1 l (fun _ _ => rfl), Nat.mul_one]
theorem puF_congr {f g f' g' : Nat → Int32} : ∀ n i, (∀ j, i ≤ j → j < i + n → f j = f' j ∧ g j = g' j) → puF f g i n = puF f' g' i n
  | 0, i, _ => rfl
  | n + 1, i, h => by
    rw [puF, puF, (h i (by omega) (by omega)).1, (h i (by omega) (by omega)).2, puF_congr n (i + 1) (fun j h1 h2 => h j (by omega) (by omega))]
theorem puF_cut {f g : Nat → Int32} : ∀ n m i, (∀ j, i + n ≤ j → j < i + n + m → f j = g j) → puF f g i (n + m) = puF f g i n
  | 0, m, i, h => by
    rw [Nat.zero_add, puF]
    exact (puF_0 m i).mpr (fun j h1 h2 => h j (by omega) (by omega))
  | n + 1, m, i, h => by
    rw [show n + 1 + m = (n + m) + 1 by omega, puF, puF, puF_cut n m (i + 1) (fun j h1 h2 => h j (by omega) (by omega))]
theorem pu_row {l m : List Nat} (h : l.length = m.length) (hl : l.length ≤ 7) : puF (fun j => pA l (nI j)) (fun j => pA m (nI j)) 0 7 = puF (fun j => nI (l.getD j 0)) (fun j => nI (m.getD j 0)) 0 l.length := by
  have e := puF_cut (f := fun j => pA l (nI j)) (g := fun j => pA m (nI j)) l.length (7 - l.length) 0 (fun j h1 h2 => by
    show pA l (nI j) = pA m (nI j)
    rw [pA_out (by omega) (by omega), pA_out (by omega) (by omega)])
  rw [show l.length + (7 - l.length) = 7 by omega] at e
  rw [e]
  exact puF_congr _ _ (fun j h1 h2 => ⟨pA_in (by omega) hl, pA_in (by omega) (by omega)⟩)
theorem l_se1 {X : Nat × (Nat → Int32)} {σ : Mem} {Q : List Value → Mem → Prop} {a : AS} {p : Nat} {v4 : Value} (ok : AOK a) (h : MI σ a) (hp : p < 8) : ∀ n i b, i + n = (ro a p).length → (Rn X 163 13 [.ref 127, .int (nI p), .int (nI b), .int (nI i), v4] [] σ Q ↔ Rn X 163 45 [.ref 127, .int (nI p), .int (nI (mbF (fun j => (ro a p).getD j 0) i n b)), .int (nI (ro a p).length), v4] [] σ Q) := by
  obtain ⟨m1, m2, m3, m4, m5, m6, m7, m8, m9, m10⟩ := id h
  obtain ⟨o1, o2, o3, o4, o5, o6, o7, o8⟩ := ok.1 p hp
  intro n
  induction n with
  | zero =>
    intro i b hi
    have e : i = (ro a p).length := by omega
    subst e
    rw [q_163_13]
    simp (disch := omega) only [q_163_14, q_163_15, q_163_18, q_163_19, q_163_20, q_163_23, q_163_24, q_163_25, q_163_26, q_163_29, q_163_31, q_163_32, q_163_33, q_163_34, q_163_35, q_163_36, q_163_37, q_163_38, q_163_39, q_163_42, vinT, iClamp, clr_i, clr_l, clr_r, clr_n, true_and, and_true, or_true, true_or, false_or, or_false, iLe, iLt, iEq, iAdd, iMul, List.cons_append, List.nil_append, List.append_nil, zb0, zb1, if_true, if_false, not_true_eq_false, not_false_eq_true, Bool.false_eq_true, Nat.one_ne_zero, Nat.zero_ne_one, Nat.reduceEqDiff, Nat.reduceAdd, if_pos, if_neg, m127, m128k, m128n, m129k, m129n, m130k, m130n, m131k, m131n, m132k, m132n, m133k, m133n, m134k, m134n, m135k, m135n, m136k, m136n, m137k, m137n, m138k, m138n, m139k, m139n, m140k, m140n, m141k, m141n, m142k, m142n, m143k, m143n, m144k, m144n, m145k, m145n, m146k, m146n, m5 p hp, mbF]
  | succ n ih =>
    intro i b hi
    have h9 := o7 i (by omega)
    rw [q_163_13, mbF]
    simp (disch := omega) only [q_163_14, q_163_15, q_163_18, q_163_19, q_163_20, q_163_23, q_163_24, q_163_25, q_163_26, q_163_29, q_163_31, q_163_32, q_163_33, q_163_34, q_163_35, q_163_36, q_163_37, q_163_38, q_163_39, q_163_42, vinT, iClamp, clr_i, clr_l, clr_r, clr_n, true_and, and_true, or_true, true_or, false_or, or_false, iLe, iLt, iEq, iAdd, iMul, List.cons_append, List.nil_append, List.append_nil, zb0, zb1, if_true, if_false, not_true_eq_false, not_false_eq_true, Bool.false_eq_true, Nat.one_ne_zero, Nat.zero_ne_one, Nat.reduceEqDiff, Nat.reduceAdd, if_pos, if_neg, m127, m128k, m128n, m129k, m129n, m130k, m130n, m131k, m131n, m132k, m132n, m133k, m133n, m134k, m134n, m135k, m135n, m136k, m136n, m137k, m137n, m138k, m138n, m139k, m139n, m140k, m140n, m141k, m141n, m142k, m142n, m143k, m143n, m144k, m144n, m145k, m145n, m146k, m146n, m5 p hp, m6 p hp i (by omega), one_shl, fa_or]
    rw [ih (i + 1) _ (by omega)]
theorem l_se2 {X : Nat × (Nat → Int32)} {p m : Nat} {l L : List Nat} {y : Int32} (hp : p < 8) (hm : m ≤ 7) (hL : m = L.length) (hl : m = l.length) (l7 : ∀ j, j < l.length → l.getD j 0 < 7) (L7 : ∀ j, j < L.length → L.getD j 0 < 7) : ∀ n i c (σ : Mem), i + n = m → σ.1 127 25 = nI m → AI σ 145 L → (∀ j, i ≤ j → j < m → σ.1 133 (7 * p + j) = nI (l.getD j 0)) → ∃ σ', (∀ Q, Rn X 163 67 [.ref 127, .int (nI p), .int y, .int (nI c), .int (nI i)] [] σ Q ↔ Q [.int (nI (c + puF (fun j => nI (l.getD j 0)) (fun j => nI (L.getD j 0)) i n))] σ') ∧ (∀ j, i ≤ j → j < m → σ'.1 133 (7 * p + j) = nI (L.getD j 0)) ∧ (∀ k, (k < 7 * p + i ∨ 7 * p + m ≤ k) → σ'.1 133 k = σ.1 133 k) ∧ Off [133] σ σ' := by
  intro n
  induction n with
  | zero =>
    intro i c σ hi hc hA hr
    have e : i = m := by omega
    subst e
    refine ⟨σ, fun Q => ?_, fun j h1 h2 => absurd h2 (by omega), fun _ _ => rfl, Off.rf _ _⟩
    rw [q_163_67]
    simp (disch := omega) only [q_163_69, q_163_70, q_163_73, q_163_76, q_163_77, q_163_78, q_163_81, q_163_83, q_163_84, q_163_85, q_163_87, q_163_88, q_163_89, q_163_90, q_163_93, q_163_95, q_163_96, q_163_99, q_163_100, q_163_103, q_163_104, q_163_105, q_163_106, q_163_107, q_163_110, q_163_112, q_163_113, q_163_114, q_163_116, q_163_117, q_163_118, q_163_121, q_163_123, q_163_124, q_163_125, q_163_128, q_163_131, q_163_132, vinT, iClamp, clr_i, clr_l, clr_r, clr_n, true_and, and_true, or_true, true_or, false_or, or_false, iLe, iLt, iEq, iAdd, iMul, List.cons_append, List.nil_append, List.append_nil, zb0, zb1, if_true, if_false, not_true_eq_false, not_false_eq_true, Bool.false_eq_true, Nat.one_ne_zero, Nat.zero_ne_one, Nat.reduceEqDiff, Nat.reduceAdd, if_pos, if_neg, m127, m128k, m128n, m129k, m129n, m130k, m130n, m131k, m131n, m132k, m132n, m133k, m133n, m134k, m134n, m135k, m135n, m136k, m136n, m137k, m137n, m138k, m138n, m139k, m139n, m140k, m140n, m141k, m141n, m142k, m142n, m143k, m143n, m144k, m144n, m145k, m145n, m146k, m146n, hc, puF, Nat.add_zero]
  | succ n ih =>
    intro i c σ hi hc hA hr
    have g1 := l7 i (by omega)
    have g2 := L7 i (by omega)
    have hof : Off [133] σ (sI σ 133 (7 * p + i) (nI (L.getD i 0))) := (Off.rf _ σ).sI (by simp) _ _
    have e1 := hr i (Nat.le_refl _) (by omega)
    have e2 := hA i (by omega)
    have hcont : ∀ c', ∃ σ', (∀ Q, Rn X 163 67 [.ref 127, .int (nI p), .int y, .int (nI c'), .int (nI (i + 1))] [] (sI σ 133 (7 * p + i) (nI (L.getD i 0))) Q ↔ Q [.int (nI (c' + puF (fun j => nI (l.getD j 0)) (fun j => nI (L.getD j 0)) (i + 1) n))] σ') ∧ (∀ j, i ≤ j → j < m → σ'.1 133 (7 * p + j) = nI (L.getD j 0)) ∧ (∀ k, (k < 7 * p + i ∨ 7 * p + m ≤ k) → σ'.1 133 k = σ.1 133 k) ∧ Off [133] σ σ' := by
      intro c'
      obtain ⟨σ', i1, i2, i3, i4⟩ := ih (i + 1) c' (sI σ 133 (7 * p + i) (nI (L.getD i 0))) (by omega) (by rw [sI_off (by omega)]; exact hc) (fun j hj => by rw [sI_off (by omega)]; exact hA j hj) (fun j h1 h2 => by rw [sI_off (by omega)]; exact hr j (by omega) h2)
      refine ⟨σ', i1, fun j h1 h2 => ?_, fun k hk => ?_, hof.tr i4⟩
      · by_cases e : j = i
        · subst e
          rw [i3 _ (by omega), sI_at]
        · exact i2 j (by omega) h2
      · rw [i3 k (by omega), sI_off (by omega)]
    by_cases cc : l.getD i 0 = L.getD i 0
    · obtain ⟨σ', i1, i2⟩ := hcont c
      refine ⟨σ', fun Q => ?_, i2⟩
      rw [q_163_67, puF, if_pos (show nI (l.getD i 0) = nI (L.getD i 0) by rw [cc])]
      simp (disch := omega) only [q_163_69, q_163_70, q_163_73, q_163_76, q_163_77, q_163_78, q_163_81, q_163_83, q_163_84, q_163_85, q_163_87, q_163_88, q_163_89, q_163_90, q_163_93, q_163_95, q_163_96, q_163_99, q_163_100, q_163_103, q_163_104, q_163_105, q_163_106, q_163_107, q_163_110, q_163_112, q_163_113, q_163_114, q_163_116, q_163_117, q_163_118, q_163_121, q_163_123, q_163_124, q_163_125, q_163_128, q_163_131, q_163_132, vinT, iClamp, clr_i, clr_l, clr_r, clr_n, true_and, and_true, or_true, true_or, false_or, or_false, iLe, iLt, iEq, iAdd, iMul, List.cons_append, List.nil_append, List.append_nil, zb0, zb1, if_true, if_false, not_true_eq_false, not_false_eq_true, Bool.false_eq_true, Nat.one_ne_zero, Nat.zero_ne_one, Nat.reduceEqDiff, Nat.reduceAdd, if_pos, if_neg, m127, m128k, m128n, m129k, m129n, m130k, m130n, m131k, m131n, m132k, m132n, m133k, m133n, m134k, m134n, m135k, m135n, m136k, m136n, m137k, m137n, m138k, m138n, m139k, m139n, m140k, m140n, m141k, m141n, m142k, m142n, m143k, m143n, m144k, m144n, m145k, m145n, m146k, m146n, hc, e1, e2, sI_off]
      rw [Nat.add_zero, Nat.zero_add]
      exact i1 Q
    · obtain ⟨σ', i1, i2⟩ := hcont (c + 1)
      refine ⟨σ', fun Q => ?_, i2⟩
      rw [q_163_67, puF, if_neg (show ¬ nI (l.getD i 0) = nI (L.getD i 0) from fun q => cc ((iEq (by omega) (by omega)).mp q))]
      simp (disch := omega) only [q_163_69, q_163_70, q_163_73, q_163_76, q_163_77, q_163_78, q_163_81, q_163_83, q_163_84, q_163_85, q_163_87, q_163_88, q_163_89, q_163_90, q_163_93, q_163_95, q_163_96, q_163_99, q_163_100, q_163_103, q_163_104, q_163_105, q_163_106, q_163_107, q_163_110, q_163_112, q_163_113, q_163_114, q_163_116, q_163_117, q_163_118, q_163_121, q_163_123, q_163_124, q_163_125, q_163_128, q_163_131, q_163_132, vinT, iClamp, clr_i, clr_l, clr_r, clr_n, true_and, and_true, or_true, true_or, false_or, or_false, iLe, iLt, iEq, iAdd, iMul, List.cons_append, List.nil_append, List.append_nil, zb0, zb1, if_true, if_false, not_true_eq_false, not_false_eq_true, Bool.false_eq_true, Nat.one_ne_zero, Nat.zero_ne_one, Nat.reduceEqDiff, Nat.reduceAdd, if_pos, if_neg, m127, m128k, m128n, m129k, m129n, m130k, m130n, m131k, m131n, m132k, m132n, m133k, m133n, m134k, m134n, m135k, m135n, m136k, m136n, m137k, m137n, m138k, m138n, m139k, m139n, m140k, m140n, m141k, m141n, m142k, m142n, m143k, m143n, m144k, m144n, m145k, m145n, m146k, m146n, hc, e1, e2, sI_off]
      rw [← Nat.add_assoc]
      exact i1 Q
theorem m_Se {X : Nat × (Nat → Int32)} {σ : Mem} {a : AS} {x : Int32} {w2 w3 w4 : Value} (ok : AOK a) (h : MI σ a) : ∃ σ', Ev X 163 [.ref 127, .int x, w2, w3, w4] σ [.int (anSe a x)] σ' ∧ MI σ' (nxSe a x) ∧ Hi σ σ' := by
  by_cases k0 : inR x 8
  · have e0 : b2 (inR x 8) = nI 1 := b2_t k0
    obtain ⟨p, hp, rfl⟩ := inR_of k0 (by omega)
    obtain ⟨o1, o2, o3, o4, o5, o6, o7, o8⟩ := ok.1 p hp
    have hs : mkL (ro a p) < 128 := mbF_lt _ 0 0 (fun j _ hj => o7 j (by omega)) (by omega)
    rw [anSe, if_pos k0, nxSe, tn_nI (by omega)]
    obtain ⟨σ1, i1, i2, i3, i4, i5⟩ := s_peaceM (X := X) (u := .null) (v := .null) ok h hs
    have i1' := fun Q => i1 Q
    have emk : mbF (fun j => (ro a p).getD j 0) 0 (ro a p).length 0 = mkL (ro a p) := rfl
    have h1 : MI σ1 a := MI_scr h (i5.mono SCp_scr)
    have em := mkL_mem o8 o7
    by_cases c : op (mi a) (be a) (mkL (ro a p)) 7 0 < 1000
    · rw [if_pos c, if_pos ⟨k0, c⟩]
      obtain ⟨j1, j2, j3⟩ := i3 c
      have hn9 := nI_n9 (p := op (mi a) (be a) (mkL (ro a p)) 7 0) (by omega)
      obtain ⟨l1, l2⟩ := luF_ok (mi := mi a) (be := be a) (s := mkL (ro a p)) 7 0 (by omega)
      have L7 : ∀ j, j < (lu a p).length → (lu a p).getD j 0 < 7 := fun j hj => (l2 _ (gD_mem hj)).2
      have eL : (lu a p).length = (ro a p).length := by rw [← em]; exact j3
      have hA : AI σ1 145 (lu a p) := j2
      obtain ⟨σ', t1, t2, t3, t4⟩ := l_se2 (X := X) (y := nI (mkL (ro a p))) (l := ro a p) (L := lu a p) (m := (ro a p).length) hp o6 eL.symm rfl o7 L7 (ro a p).length 0 0 σ1 (by omega) (by rw [← em]; exact i2) hA (fun j _ hj => h1.2.2.2.2.2.1 p hp j hj)
      rw [pu_row eL.symm o6]
      refine ⟨σ', fun Q => ?_, ?_, ?_⟩
      · simp (disch := omega) only [q_163_0, q_163_1, q_163_4, q_163_7, q_163_8, q_163_9, q_163_10, q_163_11, q_163_12, vinT, iClamp, clr_i, clr_l, clr_r, clr_n, true_and, and_true, or_true, true_or, false_or, or_false, iLe, iLt, iEq, iAdd, iMul, List.cons_append, List.nil_append, List.append_nil, zb0, zb1, if_true, if_false, not_true_eq_false, not_false_eq_true, Bool.false_eq_true, Nat.one_ne_zero, Nat.zero_ne_one, Nat.reduceEqDiff, Nat.reduceAdd, if_pos, if_neg, s_isPaperM, e0]
        rw [l_se1 ok h hp (ro a p).length 0 0 (by omega), emk]
        simp (disch := omega) only [q_163_45, q_163_46, q_163_47, q_163_50, q_163_51, q_163_54, q_163_56, q_163_59, q_163_61, q_163_62, q_163_63, q_163_64, q_163_65, vinT, iClamp, clr_i, clr_l, clr_r, clr_n, true_and, and_true, or_true, true_or, false_or, or_false, iLe, iLt, iEq, iAdd, iMul, List.cons_append, List.nil_append, List.append_nil, zb0, zb1, if_true, if_false, not_true_eq_false, not_false_eq_true, Bool.false_eq_true, Nat.one_ne_zero, Nat.zero_ne_one, Nat.reduceEqDiff, Nat.reduceAdd, if_pos, if_neg, m127, m128k, m128n, m129k, m129n, m130k, m130n, m131k, m131n, m132k, m132n, m133k, m133n, m134k, m134n, m135k, m135n, m136k, m136n, m137k, m137n, m138k, m138n, m139k, m139n, m140k, m140n, m141k, m141n, m142k, m142n, m143k, m143n, m144k, m144n, m145k, m145n, m146k, m146n, i1', j1, hn9]
        rw [t1 Q, Nat.zero_add]
      · refine MI_ro hp h1 (t4.mono (by simp)) (fun x hx => (ok.1 x hx).2.2.2.2.2.1) (fun x _ => by rw [(t4 132 (by simp)).1]) (fun j hj => t3 j (by omega)) ?_ (fun j hj => t2 j (by omega) (by omega))
        rw [(t4 132 (by simp)).1, eL]
        exact h1.2.2.2.2.1 p hp
      · exact (i5.hi SCp_ge).tr (t4.hi (by simp))
    · rw [if_neg c, if_neg (fun q => c q.2)]
      refine ⟨σ1, fun Q => ?_, h1, i5.hi SCp_ge⟩
      simp (disch := omega) only [q_163_0, q_163_1, q_163_4, q_163_7, q_163_8, q_163_9, q_163_10, q_163_11, q_163_12, vinT, iClamp, clr_i, clr_l, clr_r, clr_n, true_and, and_true, or_true, true_or, false_or, or_false, iLe, iLt, iEq, iAdd, iMul, List.cons_append, List.nil_append, List.append_nil, zb0, zb1, if_true, if_false, not_true_eq_false, not_false_eq_true, Bool.false_eq_true, Nat.one_ne_zero, Nat.zero_ne_one, Nat.reduceEqDiff, Nat.reduceAdd, if_pos, if_neg, s_isPaperM, e0]
      rw [l_se1 ok h hp (ro a p).length 0 0 (by omega), emk]
      simp (disch := omega) only [q_163_45, q_163_46, q_163_47, q_163_50, q_163_51, q_163_54, q_163_56, q_163_59, q_163_61, q_163_62, q_163_63, q_163_64, q_163_65, vinT, iClamp, clr_i, clr_l, clr_r, clr_n, true_and, and_true, or_true, true_or, false_or, or_false, iLe, iLt, iEq, iAdd, iMul, List.cons_append, List.nil_append, List.append_nil, zb0, zb1, if_true, if_false, not_true_eq_false, not_false_eq_true, Bool.false_eq_true, Nat.one_ne_zero, Nat.zero_ne_one, Nat.reduceEqDiff, Nat.reduceAdd, if_pos, if_neg, m127, m128k, m128n, m129k, m129n, m130k, m130n, m131k, m131n, m132k, m132n, m133k, m133n, m134k, m134n, m135k, m135n, m136k, m136n, m137k, m137n, m138k, m138n, m139k, m139n, m140k, m140n, m141k, m141n, m142k, m142n, m143k, m143n, m144k, m144n, m145k, m145n, m146k, m146n, i1', i4 c]
  · have e0 : b2 (inR x 8) = nI 0 := b2_f k0
    rw [anSe, if_neg k0, nxSe, if_neg (fun q => k0 q.1)]
    refine ⟨σ, fun Q => ?_, h, Hi.rf σ⟩
    simp (disch := omega) only [q_163_0, q_163_1, q_163_4, q_163_7, q_163_8, q_163_9, q_163_10, q_163_11, q_163_12, vinT, iClamp, clr_i, clr_l, clr_r, clr_n, true_and, and_true, or_true, true_or, false_or, or_false, iLe, iLt, iEq, iAdd, iMul, List.cons_append, List.nil_append, List.append_nil, zb0, zb1, if_true, if_false, not_true_eq_false, not_false_eq_true, Bool.false_eq_true, Nat.one_ne_zero, Nat.zero_ne_one, Nat.reduceEqDiff, Nat.reduceAdd, if_pos, if_neg, s_isPaperM, e0]
