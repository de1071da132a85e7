/-! ===== the reference: quarrel; an order weighed ===== -/
def wgS (mi : Nat → Nat → Nat) : List Nat → List Nat → Nat
  | _, [] => 0
  | d, x :: r => lsm (mi x) d + wgS mi (d ++ [x]) r
def wgU (mi : Nat → Nat → Nat) (be : Nat → Nat) : List Nat → List Nat → Nat
  | _, [] => 0
  | d, x :: r => (if be x < lsm (mi x) d then 1 else 0) + wgU mi be (d ++ [x]) r
def wgB (mi : Nat → Nat → Nat) (be : Nat → Nat) : List Nat → List Nat → Bool
  | _, [] => true
  | d, x :: r => decide (lsm (mi x) d ≤ be x) && wgB mi be (d ++ [x]) r
theorem lsm_le {f : Nat → Nat} {c : Nat} : ∀ l : List Nat, (∀ x, x ∈ l → f x ≤ c) → lsm f l ≤ l.length * c
  | [], _ => by simp [lsm]
  | x :: r, h => by
    have h1 := lsm_le r (fun y hy => h y (by simp [hy]))
    have h2 := h x (by simp)
    rw [lsm, List.length_cons, Nat.succ_mul]
    omega
theorem lsm_63 {a : AS} (ok : AOK a) {x : Nat} {d : List Nat} (hx : x < 7) (h7 : ∀ y, y ∈ d → y < 7) (hl : d.length ≤ 7) : lsm (mi a x) d ≤ 63 := by
  have := lsm_le (f := mi a x) (c := 9) d (fun y hy => ok.2.2.1 x hx y (h7 y hy))
  omega
theorem mbh_lsm {mi : Nat → Nat → Nat} {x b : Nat} {d : List Nat} (hd : d.Nodup) (h7 : ∀ y, y ∈ d → y < 7) (hb : ∀ y, y < 7 → (bitN b y ↔ y ∈ d)) : mbh mi x b = lsm (mi x) d := by
  rw [lsm_mem _ _ hd h7, mbh]
  refine smF_congr 7 0 (fun y _ hy => ?_)
  rw [mbF1]
  by_cases c : y ∈ d
  · rw [if_pos c, if_pos ((hb y (by omega)).mpr c)]
  · rw [if_neg c, if_neg (fun q => c ((hb y (by omega)).mp q))]
theorem bits_snoc {b x : Nat} {d : List Nat} (hb : b < 128) (hx : x < 7) (h : ∀ y, y < 7 → (bitN b y ↔ y ∈ d)) : ∀ y, y < 7 → (bitN (b ||| 2 ^ x) y ↔ y ∈ d ++ [x]) := fun y hy => by
  rw [bit_or b hb x hx y hy, h y hy, List.mem_append, List.mem_singleton]
theorem mid_at (d : List Nat) (x : Nat) (r : List Nat) : (d ++ x :: r).getD d.length 0 = x := by
  rw [gD_r (Nat.le_refl _), Nat.sub_self]
  rfl
theorem snoc_app (d : List Nat) (x : Nat) (r : List Nat) : (d ++ [x]) ++ r = d ++ x :: r := by simp
theorem snoc_len (d : List Nat) (x : Nat) : (d ++ [x]).length = d.length + 1 := by simp
theorem wgS_miF {mi : Nat → Nat → Nat} : ∀ (r d : List Nat) (b : Nat), (d ++ r).Nodup → (∀ y, y ∈ d ++ r → y < 7) → b < 128 → (∀ y, y < 7 → (bitN b y ↔ y ∈ d)) → miF mi (fun j => (d ++ r).getD j 0) d.length r.length b = wgS mi d r
  | [], d, b, _, _, _, _ => rfl
  | x :: r, d, b, hn, h7, hb, hbt => by
    have hx : x < 7 := h7 x (by simp)
    rw [List.length_cons, miF, wgS, mid_at, mbh_lsm (List.nodup_append.mp hn).1 (fun y hy => h7 y (by simp [hy])) hbt]
    have ih := wgS_miF (mi := mi) r (d ++ [x]) (b ||| 2 ^ x) (by rw [snoc_app]; exact hn) (by rw [snoc_app]; exact h7) (or_lt b hb x hx) (bits_snoc hb hx hbt)
    rw [snoc_app, snoc_len] at ih
    rw [ih]
theorem wgU_ubF {mi : Nat → Nat → Nat} {be : Nat → Nat} : ∀ (r d : List Nat) (b : Nat), (d ++ r).Nodup → (∀ y, y ∈ d ++ r → y < 7) → b < 128 → (∀ y, y < 7 → (bitN b y ↔ y ∈ d)) → ubF mi be (fun j => (d ++ r).getD j 0) d.length r.length b = wgU mi be d r
  | [], d, b, _, _, _, _ => rfl
  | x :: r, d, b, hn, h7, hb, hbt => by
    have hx : x < 7 := h7 x (by simp)
    rw [List.length_cons, ubF, wgU, mid_at, mbh_lsm (List.nodup_append.mp hn).1 (fun y hy => h7 y (by simp [hy])) hbt]
    have ih := wgU_ubF (mi := mi) (be := be) r (d ++ [x]) (b ||| 2 ^ x) (by rw [snoc_app]; exact hn) (by rw [snoc_app]; exact h7) (or_lt b hb x hx) (bits_snoc hb hx hbt)
    rw [snoc_app, snoc_len] at ih
    rw [ih]
theorem bits_nil : ∀ y, y < 7 → (bitN 0 y ↔ y ∈ ([] : List Nat)) := fun y hy => ⟨fun q => absurd q (bit_0 y hy), fun q => by simp at q⟩
theorem l_mindAt {X : Nat × (Nat → Int32)} {σ : Mem} {Q : List Value → Mem → Prop} {a : AS} {x : Nat} {d r : List Nat} (h : MI σ a) (hA : AI σ 144 (d ++ x :: r)) (hx : x < 7) (h7 : ∀ y, y ∈ d → y < 7) (hl : d.length < 7) : ∀ (r' d' : List Nat), d = d' ++ r' → ∀ c, (Rn X 157 4 [.ref 127, .int (nI d.length), .int (nI c), .int (nI d'.length)] [] σ Q ↔ Q [.int (nI (c + lsm (mi a x) r'))] σ) := by
  obtain ⟨m1, m2, m3, m4, m5, m6, m7, m8, m9, m10⟩ := id h
  have e1 : σ.1 144 d.length = nI x := by rw [hA d.length (by simp), mid_at]
  intro r'
  induction r' with
  | nil =>
    intro d' e c
    rw [List.append_nil] at e
    subst e
    rw [q_157_4]
    simp (disch := omega) only [q_157_0, q_157_1, q_157_2, q_157_3, q_157_5, q_157_6, q_157_9, q_157_10, q_157_11, q_157_14, q_157_16, q_157_17, q_157_20, q_157_21, q_157_22, q_157_23, q_157_24, q_157_27, q_157_28, q_157_29, q_157_30, q_157_31, q_157_32, q_157_33, q_157_36, q_157_39, q_157_40, vinT, iClamp, clr_i, clr_l, clr_r, clr_n, true_and, and_true, or_true, true_or, false_or, or_false, iLe, iLt, iEq, iAdd, iMul, List.cons_append, List.nil_append, List.append_nil, zb0, zb1, if_true, if_false, not_true_eq_false, not_false_eq_true, Bool.false_eq_true, Nat.one_ne_zero, Nat.zero_ne_one, Nat.reduceEqDiff, Nat.reduceAdd, if_pos, if_neg, lsm, Nat.add_zero]
  | cons y r' ih =>
    intro d' e c
    have hy : y < 7 := h7 y (by rw [e]; simp)
    have hlt : d'.length < d.length := by rw [e]; simp
    have e2 : σ.1 144 d'.length = nI y := by
      rw [hA d'.length (by simp; omega), e, List.append_assoc, List.cons_append, mid_at]
    have ih' := ih (d' ++ [y]) (by rw [snoc_app]; exact e) (c + mi a x y)
    rw [snoc_len] at ih'
    rw [q_157_4, lsm]
    simp (disch := omega) only [q_157_0, q_157_1, q_157_2, q_157_3, q_157_5, q_157_6, q_157_9, q_157_10, q_157_11, q_157_14, q_157_16, q_157_17, q_157_20, q_157_21, q_157_22, q_157_23, q_157_24, q_157_27, q_157_28, q_157_29, q_157_30, q_157_31, q_157_32, q_157_33, q_157_36, q_157_39, q_157_40, vinT, iClamp, clr_i, clr_l, clr_r, clr_n, true_and, and_true, or_true, true_or, false_or, or_false, iLe, iLt, iEq, iAdd, iMul, List.cons_append, List.nil_append, List.append_nil, zb0, zb1, if_true, if_false, not_true_eq_false, not_false_eq_true, Bool.false_eq_true, Nat.one_ne_zero, Nat.zero_ne_one, Nat.reduceEqDiff, Nat.reduceAdd, if_pos, if_neg, m127, m128k, m128n, m129k, m129n, m130k, m130n, m131k, m131n, m132k, m132n, m133k, m133n, m134k, m134n, m135k, m135n, m136k, m136n, m137k, m137n, m138k, m138n, m139k, m139n, m140k, m140n, m141k, m141n, m142k, m142n, m143k, m143n, m144k, m144n, m145k, m145n, m146k, m146n, e1, e2, m9 x hx y hy]
    rw [ih', Nat.add_assoc]
theorem s_mindAt {X : Nat × (Nat → Int32)} {σ : Mem} {Q : List Value → Mem → Prop} {a : AS} {x : Nat} {d r : List Nat} {u v : Value} (h : MI σ a) (hA : AI σ 144 (d ++ x :: r)) (hx : x < 7) (h7 : ∀ y, y ∈ d → y < 7) (hl : d.length < 7) : Rn X 157 0 [.ref 127, .int (nI d.length), u, v] [] σ Q ↔ Q [.int (nI (lsm (mi a x) d))] σ := by
  have q := l_mindAt (X := X) (Q := Q) h hA hx h7 hl d [] rfl 0
  rw [List.length_nil, Nat.zero_add] at q
  simp only [q_157_0, q_157_1, q_157_2, q_157_3, clr_i, q]
/-! quarrel -/
theorem l_qu1 {X : Nat × (Nat → Int32)} {a : AS} {p u : Nat} {v4 v5 : Value} (ok : AOK a) (hp : p < 8) : ∀ n i (σ : Mem), MI σ a → i + n = (ro a p).length → (∀ j, j < i → σ.1 144 j = nI ((ro a p).getD j 0)) → ∃ σ', (∀ Q, Rn X 158 11 [.ref 127, .int (nI p), .int (nI u), .int (nI i), v4, v5] [] σ Q ↔ Rn X 158 44 [.ref 127, .int (nI p), .int (nI u), .int (nI (ro a p).length), v4, v5] [] σ' Q) ∧ AI σ' 144 (ro a p) ∧ Off [144] σ σ' := by
  obtain ⟨o1, o2, o3, o4, o5, o6, o7, o8⟩ := ok.1 p hp
  intro n
  induction n with
  | zero =>
    intro i σ h hi hA
    obtain ⟨m1, m2, m3, m4, m5, m6, m7, m8, m9, m10⟩ := id h
    have e : i = (ro a p).length := by omega
    subst e
    refine ⟨σ, fun Q => ?_, fun j hj => hA j hj, Off.rf _ _⟩
    rw [q_158_11]
    simp (disch := omega) only [q_158_12, q_158_13, q_158_16, q_158_17, q_158_18, q_158_21, q_158_22, q_158_25, q_158_26, q_158_27, q_158_30, q_158_32, q_158_33, q_158_34, q_158_35, q_158_36, q_158_37, q_158_38, q_158_41, vinT, iClamp, clr_i, clr_l, clr_r, clr_n, true_and, and_true, or_true, true_or, false_or, or_false, iLe, iLt, iEq, iAdd, iMul, List.cons_append, List.nil_append, List.append_nil, zb0, zb1, if_true, if_false, not_true_eq_false, not_false_eq_true, Bool.false_eq_true, Nat.one_ne_zero, Nat.zero_ne_one, Nat.reduceEqDiff, Nat.reduceAdd, if_pos, if_neg, m127, m128k, m128n, m129k, m129n, m130k, m130n, m131k, m131n, m132k, m132n, m133k, m133n, m134k, m134n, m135k, m135n, m136k, m136n, m137k, m137n, m138k, m138n, m139k, m139n, m140k, m140n, m141k, m141n, m142k, m142n, m143k, m143n, m144k, m144n, m145k, m145n, m146k, m146n, m5 p hp]
  | succ n ih =>
    intro i σ h hi hA
    obtain ⟨m1, m2, m3, m4, m5, m6, m7, m8, m9, m10⟩ := id h
    have ho : Off [144] σ (sI σ 144 i (nI ((ro a p).getD i 0))) := (Off.rf _ σ).sI (by simp) _ _
    obtain ⟨σ', k1, k2, k3⟩ := ih (i + 1) (sI σ 144 i (nI ((ro a p).getD i 0))) (MI_scr h (ho.mono (by decide))) (by omega) (fun j hj => by
      by_cases e : j = i
      · subst e; rw [sI_at]
      · rw [sI_off (by omega)]; exact hA j (by omega))
    refine ⟨σ', fun Q => ?_, k2, ho.tr k3⟩
    rw [q_158_11]
    simp (disch := omega) only [q_158_12, q_158_13, q_158_16, q_158_17, q_158_18, q_158_21, q_158_22, q_158_25, q_158_26, q_158_27, q_158_30, q_158_32, q_158_33, q_158_34, q_158_35, q_158_36, q_158_37, q_158_38, q_158_41, vinT, iClamp, clr_i, clr_l, clr_r, clr_n, true_and, and_true, or_true, true_or, false_or, or_false, iLe, iLt, iEq, iAdd, iMul, List.cons_append, List.nil_append, List.append_nil, zb0, zb1, if_true, if_false, not_true_eq_false, not_false_eq_true, Bool.false_eq_true, Nat.one_ne_zero, Nat.zero_ne_one, Nat.reduceEqDiff, Nat.reduceAdd, if_pos, if_neg, m127, m128k, m128n, m129k, m129n, m130k, m130n, m131k, m131n, m132k, m132n, m133k, m133n, m134k, m134n, m135k, m135n, m136k, m136n, m137k, m137n, m138k, m138n, m139k, m139n, m140k, m140n, m141k, m141n, m142k, m142n, m143k, m143n, m144k, m144n, m145k, m145n, m146k, m146n, m5 p hp, m6 p hp i (by omega)]
    exact k1 Q
theorem l_qu2 {X : Nat × (Nat → Int32)} {σ : Mem} {Q : List Value → Mem → Prop} {a : AS} {p u : Nat} (ok : AOK a) (h : MI σ a) (hp : p < 8) (hu : u = 0 ∨ u = 1) (hA : AI σ 144 (ro a p)) : ∀ (r d : List Nat), ro a p = d ++ r → ∀ c (v : Value), (Rn X 158 49 [.ref 127, .int (nI p), .int (nI u), .int (nI c), .int (nI d.length), v] [] σ Q ↔ Q [.int (nI (c + if u = 1 then wgS (mi a) d r else wgU (mi a) (be a) d r))] σ) := by
  obtain ⟨m1, m2, m3, m4, m5, m6, m7, m8, m9, m10⟩ := id h
  obtain ⟨o1, o2, o3, o4, o5, o6, o7, o8⟩ := ok.1 p hp
  intro r
  induction r with
  | nil =>
    intro d e c v
    rw [List.append_nil] at e
    have el : d.length = (ro a p).length := by rw [e]
    rw [q_158_49, el]
    simp (disch := omega) only [q_158_51, q_158_52, q_158_55, q_158_56, q_158_57, q_158_60, q_158_61, q_158_63, q_158_66, q_158_68, q_158_69, q_158_70, q_158_73, q_158_75, q_158_78, q_158_80, q_158_81, q_158_84, q_158_85, q_158_88, q_158_90, q_158_91, q_158_92, q_158_95, q_158_96, q_158_99, q_158_100, q_158_101, q_158_102, q_158_105, q_158_108, q_158_109, vinT, iClamp, clr_i, clr_l, clr_r, clr_n, true_and, and_true, or_true, true_or, false_or, or_false, iLe, iLt, iEq, iAdd, iMul, List.cons_append, List.nil_append, List.append_nil, zb0, zb1, if_true, if_false, not_true_eq_false, not_false_eq_true, Bool.false_eq_true, Nat.one_ne_zero, Nat.zero_ne_one, Nat.reduceEqDiff, Nat.reduceAdd, if_pos, if_neg, m127, m128k, m128n, m129k, m129n, m130k, m130n, m131k, m131n, m132k, m132n, m133k, m133n, m134k, m134n, m135k, m135n, m136k, m136n, m137k, m137n, m138k, m138n, m139k, m139n, m140k, m140n, m141k, m141n, m142k, m142n, m143k, m143n, m144k, m144n, m145k, m145n, m146k, m146n, m5 p hp, wgS, wgU, ite_self, Nat.add_zero]
  | cons x r ih =>
    intro d e c v
    have hmem : ∀ y, y ∈ ro a p → y < 7 := row_lt o7
    have hx : x < 7 := hmem x (by rw [e]; simp)
    have h7 : ∀ y, y ∈ d → y < 7 := fun y hy => hmem y (by rw [e]; simp [hy])
    have hlt : d.length < (ro a p).length := by rw [e]; simp
    have hl : d.length < 7 := by omega
    have e1 : σ.1 144 d.length = nI x := by rw [hA d.length hlt, e, mid_at]
    have hv := lsm_63 ok hx h7 (by omega)
    have hbe := ok.2.2.2 x hx
    have hmd := fun (Q : List Value → Mem → Prop) (u v : Value) => s_mindAt (X := X) (σ := σ) (Q := Q) (u := u) (v := v) h (by rw [← e]; exact hA) hx h7 hl
    rcases hu with rfl | rfl
    · by_cases c1 : be a x < lsm (mi a x) d
      · have ih' := ih (d ++ [x]) (by rw [snoc_app]; exact e) (c + 1) (.int (nI (lsm (mi a x) d)))
        rw [snoc_len] at ih'
        rw [q_158_49]
        simp (disch := omega) only [q_158_51, q_158_52, q_158_55, q_158_56, q_158_57, q_158_60, q_158_61, q_158_63, q_158_66, q_158_68, q_158_69, q_158_70, q_158_73, q_158_75, q_158_78, q_158_80, q_158_81, q_158_84, q_158_85, q_158_88, q_158_90, q_158_91, q_158_92, q_158_95, q_158_96, q_158_99, q_158_100, q_158_101, q_158_102, q_158_105, q_158_108, q_158_109, vinT, iClamp, clr_i, clr_l, clr_r, clr_n, true_and, and_true, or_true, true_or, false_or, or_false, iLe, iLt, iEq, iAdd, iMul, List.cons_append, List.nil_append, List.append_nil, zb0, zb1, if_true, if_false, not_true_eq_false, not_false_eq_true, Bool.false_eq_true, Nat.one_ne_zero, Nat.zero_ne_one, Nat.reduceEqDiff, Nat.reduceAdd, if_pos, if_neg, m127, m128k, m128n, m129k, m129n, m130k, m130n, m131k, m131n, m132k, m132n, m133k, m133n, m134k, m134n, m135k, m135n, m136k, m136n, m137k, m137n, m138k, m138n, m139k, m139n, m140k, m140n, m141k, m141n, m142k, m142n, m143k, m143n, m144k, m144n, m145k, m145n, m146k, m146n, m5 p hp, hmd, e1, m10 x hx]
        rw [ih', if_neg (by omega), wgU, if_pos c1, Nat.add_assoc]
      · have ih' := ih (d ++ [x]) (by rw [snoc_app]; exact e) c (.int (nI (lsm (mi a x) d)))
        rw [snoc_len] at ih'
        rw [q_158_49]
        simp (disch := omega) only [q_158_51, q_158_52, q_158_55, q_158_56, q_158_57, q_158_60, q_158_61, q_158_63, q_158_66, q_158_68, q_158_69, q_158_70, q_158_73, q_158_75, q_158_78, q_158_80, q_158_81, q_158_84, q_158_85, q_158_88, q_158_90, q_158_91, q_158_92, q_158_95, q_158_96, q_158_99, q_158_100, q_158_101, q_158_102, q_158_105, q_158_108, q_158_109, vinT, iClamp, clr_i, clr_l, clr_r, clr_n, true_and, and_true, or_true, true_or, false_or, or_false, iLe, iLt, iEq, iAdd, iMul, List.cons_append, List.nil_append, List.append_nil, zb0, zb1, if_true, if_false, not_true_eq_false, not_false_eq_true, Bool.false_eq_true, Nat.one_ne_zero, Nat.zero_ne_one, Nat.reduceEqDiff, Nat.reduceAdd, if_pos, if_neg, m127, m128k, m128n, m129k, m129n, m130k, m130n, m131k, m131n, m132k, m132n, m133k, m133n, m134k, m134n, m135k, m135n, m136k, m136n, m137k, m137n, m138k, m138n, m139k, m139n, m140k, m140n, m141k, m141n, m142k, m142n, m143k, m143n, m144k, m144n, m145k, m145n, m146k, m146n, m5 p hp, hmd, e1, m10 x hx]
        rw [Nat.add_zero, ih', if_neg (by omega), wgU, if_neg c1, Nat.zero_add]
    · have ih' := ih (d ++ [x]) (by rw [snoc_app]; exact e) (c + lsm (mi a x) d) (.int (nI (lsm (mi a x) d)))
      rw [snoc_len] at ih'
      rw [q_158_49]
      simp (disch := omega) only [q_158_51, q_158_52, q_158_55, q_158_56, q_158_57, q_158_60, q_158_61, q_158_63, q_158_66, q_158_68, q_158_69, q_158_70, q_158_73, q_158_75, q_158_78, q_158_80, q_158_81, q_158_84, q_158_85, q_158_88, q_158_90, q_158_91, q_158_92, q_158_95, q_158_96, q_158_99, q_158_100, q_158_101, q_158_102, q_158_105, q_158_108, q_158_109, vinT, iClamp, clr_i, clr_l, clr_r, clr_n, true_and, and_true, or_true, true_or, false_or, or_false, iLe, iLt, iEq, iAdd, iMul, List.cons_append, List.nil_append, List.append_nil, zb0, zb1, if_true, if_false, not_true_eq_false, not_false_eq_true, Bool.false_eq_true, Nat.one_ne_zero, Nat.zero_ne_one, Nat.reduceEqDiff, Nat.reduceAdd, if_pos, if_neg, m127, m128k, m128n, m129k, m129n, m130k, m130n, m131k, m131n, m132k, m132n, m133k, m133n, m134k, m134n, m135k, m135n, m136k, m136n, m137k, m137n, m138k, m138n, m139k, m139n, m140k, m140n, m141k, m141n, m142k, m142n, m143k, m143n, m144k, m144n, m145k, m145n, m146k, m146n, m5 p hp, hmd, e1]
      rw [ih', if_pos rfl, wgS, Nat.add_assoc]
theorem m_Qu {X : Nat × (Nat → Int32)} {σ : Mem} {a : AS} {x : Int32} {u : Nat} {w3 w4 w5 : Value} (hu : u = 0 ∨ u = 1) (ok : AOK a) (h : MI σ a) : ∃ σ', Ev X 158 [.ref 127, .int x, .int (nI u), w3, w4, w5] σ [.int (anQu a x u)] σ' ∧ MI σ' a ∧ Hi σ σ' := by
  by_cases k0 : inR x 8
  · have e0 : b2 (inR x 8) = nI 1 := b2_t k0
    rw [anQu, if_pos k0]
    obtain ⟨p, hp, rfl⟩ := inR_of k0 (by omega)
    rw [tn_nI (by omega)]
    obtain ⟨o1, o2, o3, o4, o5, o6, o7, o8⟩ := ok.1 p hp
    obtain ⟨σ', j1, j2, j3⟩ := l_qu1 (X := X) (u := u) (v4 := w4) (v5 := w5) ok hp (ro a p).length 0 σ h (by omega) (fun j hj => absurd hj (by omega))
    have h' : MI σ' a := MI_scr h (j3.mono (by decide))
    refine ⟨σ', fun Q => ?_, h', j3.hi (by simp)⟩
    have q2 := l_qu2 (X := X) (Q := Q) ok h' hp hu j2 (ro a p) [] rfl 0 w5
    have z1 := wgS_miF (mi := mi a) (ro a p) [] 0 o8 (row_lt o7) (by omega) bits_nil
    have z2 := wgU_ubF (mi := mi a) (be := be a) (ro a p) [] 0 o8 (row_lt o7) (by omega) bits_nil
    simp only [List.nil_append, List.length_nil] at z1 z2
    rw [List.length_nil, Nat.zero_add, ← z1, ← z2] at q2
    simp (disch := omega) only [q_158_0, q_158_1, q_158_4, q_158_7, q_158_8, q_158_9, q_158_10, vinT, iClamp, clr_i, clr_l, clr_r, clr_n, true_and, and_true, or_true, true_or, false_or, or_false, iLe, iLt, iEq, iAdd, iMul, List.cons_append, List.nil_append, List.append_nil, zb0, zb1, if_true, if_false, not_true_eq_false, not_false_eq_true, Bool.false_eq_true, Nat.one_ne_zero, Nat.zero_ne_one, Nat.reduceEqDiff, Nat.reduceAdd, if_pos, if_neg, s_isPaperM, e0]
    rw [j1 Q]
    simp (disch := omega) only [q_158_44, q_158_45, q_158_46, q_158_47, vinT, iClamp, clr_i, clr_l, clr_r, clr_n, true_and, and_true, or_true, true_or, false_or, or_false, iLe, iLt, iEq, iAdd, iMul, List.cons_append, List.nil_append, List.append_nil, zb0, zb1, if_true, if_false, not_true_eq_false, not_false_eq_true, Bool.false_eq_true, Nat.one_ne_zero, Nat.zero_ne_one, Nat.reduceEqDiff, Nat.reduceAdd, if_pos, if_neg]
    exact q2
  · have e0 : b2 (inR x 8) = nI 0 := b2_f k0
    rw [anQu, if_neg k0]
    refine ⟨σ, fun Q => ?_, h, Hi.rf σ⟩
    simp (disch := omega) only [q_158_0, q_158_1, q_158_4, q_158_7, q_158_8, q_158_9, q_158_10, vinT, iClamp, clr_i, clr_l, clr_r, clr_n, true_and, and_true, or_true, true_or, false_or, or_false, iLe, iLt, iEq, iAdd, iMul, List.cons_append, List.nil_append, List.append_nil, zb0, zb1, if_true, if_false, not_true_eq_false, not_false_eq_true, Bool.false_eq_true, Nat.one_ne_zero, Nat.zero_ne_one, Nat.reduceEqDiff, Nat.reduceAdd, if_pos, if_neg, s_isPaperM, e0]
/-! an order weighed -/
theorem l_wg1 {X : Nat × (Nat → Int32)} {σ : Mem} {a : AS} {l : List Nat} (ok : AOK a) (h : MI σ a) (hm : σ.1 127 25 = nI l.length) (hA : AI σ 144 l) (hl : l.length ≤ 7) (h7 : ∀ y, y ∈ l → y < 7) : ∀ (r d : List Nat), l = d ++ r → ∀ c (B : Bool) (v : Value), ∃ v', ∀ Q, (Rn X 160 6 [.ref 127, .int (nI c), .int (b2 (B = true)), .int (nI d.length), v] [] σ Q ↔ Rn X 160 58 [.ref 127, .int (nI (c + wgS (mi a) d r)), .int (b2 ((B && wgB (mi a) (be a) d r) = true)), .int (nI l.length), v'] [] σ Q) := by
  obtain ⟨m1, m2, m3, m4, m5, m6, m7, m8, m9, m10⟩ := id h
  intro r
  induction r with
  | nil =>
    intro d e c B v
    rw [List.append_nil] at e
    have el : d.length = l.length := by rw [e]
    refine ⟨v, fun Q => ?_⟩
    rw [q_160_6, el, wgB, Bool.and_true]
    simp (disch := omega) only [q_160_7, q_160_8, q_160_11, q_160_14, q_160_15, q_160_16, q_160_19, q_160_21, q_160_22, q_160_24, q_160_25, q_160_26, q_160_27, q_160_30, q_160_32, q_160_33, q_160_36, q_160_37, q_160_40, q_160_41, q_160_42, q_160_43, q_160_46, q_160_47, q_160_50, q_160_51, q_160_52, q_160_55, vinT, iClamp, clr_i, clr_l, clr_r, clr_n, true_and, and_true, or_true, true_or, false_or, or_false, iLe, iLt, iEq, iAdd, iMul, List.cons_append, List.nil_append, List.append_nil, zb0, zb1, if_true, if_false, not_true_eq_false, not_false_eq_true, Bool.false_eq_true, Nat.one_ne_zero, Nat.zero_ne_one, Nat.reduceEqDiff, Nat.reduceAdd, if_pos, if_neg, m127, m128k, m128n, m129k, m129n, m130k, m130n, m131k, m131n, m132k, m132n, m133k, m133n, m134k, m134n, m135k, m135n, m136k, m136n, m137k, m137n, m138k, m138n, m139k, m139n, m140k, m140n, m141k, m141n, m142k, m142n, m143k, m143n, m144k, m144n, m145k, m145n, m146k, m146n, hm, wgS, Nat.add_zero]
  | cons x r ih =>
    intro d e c B v
    have hx : x < 7 := h7 x (by rw [e]; simp)
    have h7d : ∀ y, y ∈ d → y < 7 := fun y hy => h7 y (by rw [e]; simp [hy])
    have hlt : d.length < l.length := by rw [e]; simp
    have hl7 : d.length < 7 := by omega
    have e1 : σ.1 144 d.length = nI x := by rw [hA d.length hlt, e, mid_at]
    have hv := lsm_63 ok hx h7d (by omega)
    have hbe := ok.2.2.2 x hx
    have hmd := fun (Q : List Value → Mem → Prop) (u v : Value) => s_mindAt (X := X) (σ := σ) (Q := Q) (u := u) (v := v) h (by rw [← e]; exact hA) hx h7d hl7
    obtain ⟨v', i1⟩ := ih (d ++ [x]) (by rw [snoc_app]; exact e) (c + lsm (mi a x) d) (B && decide (lsm (mi a x) d ≤ be a x)) (.int (nI (lsm (mi a x) d)))
    refine ⟨v', fun Q => ?_⟩
    rw [snoc_len] at i1
    rw [wgS, wgB, ← Nat.add_assoc, ← Bool.and_assoc, ← i1 Q, q_160_6]
    cases B with
    | false =>
      have e5 : b2 ((false && decide (lsm (mi a x) d ≤ be a x)) = true) = nI 0 := b2_f (by simp)
      have e6 : b2 (false = true) = nI 0 := b2_f (by simp)
      rw [e5, e6]
      simp (disch := omega) only [q_160_7, q_160_8, q_160_11, q_160_14, q_160_15, q_160_16, q_160_19, q_160_21, q_160_22, q_160_24, q_160_25, q_160_26, q_160_27, q_160_30, q_160_32, q_160_33, q_160_36, q_160_37, q_160_40, q_160_41, q_160_42, q_160_43, q_160_46, q_160_47, q_160_50, q_160_51, q_160_52, q_160_55, vinT, iClamp, clr_i, clr_l, clr_r, clr_n, true_and, and_true, or_true, true_or, false_or, or_false, iLe, iLt, iEq, iAdd, iMul, List.cons_append, List.nil_append, List.append_nil, zb0, zb1, if_true, if_false, not_true_eq_false, not_false_eq_true, Bool.false_eq_true, Nat.one_ne_zero, Nat.zero_ne_one, Nat.reduceEqDiff, Nat.reduceAdd, if_pos, if_neg, m127, m128k, m128n, m129k, m129n, m130k, m130n, m131k, m131n, m132k, m132n, m133k, m133n, m134k, m134n, m135k, m135n, m136k, m136n, m137k, m137n, m138k, m138n, m139k, m139n, m140k, m140n, m141k, m141n, m142k, m142n, m143k, m143n, m144k, m144n, m145k, m145n, m146k, m146n, hm, hmd]
    | true =>
      have e6 : b2 (true = true) = nI 1 := b2_t rfl
      rw [e6]
      by_cases c1 : lsm (mi a x) d ≤ be a x
      · have e5 : b2 ((true && decide (lsm (mi a x) d ≤ be a x)) = true) = nI 1 := b2_t (by simpa using c1)
        rw [e5]
        simp (disch := omega) only [q_160_7, q_160_8, q_160_11, q_160_14, q_160_15, q_160_16, q_160_19, q_160_21, q_160_22, q_160_24, q_160_25, q_160_26, q_160_27, q_160_30, q_160_32, q_160_33, q_160_36, q_160_37, q_160_40, q_160_41, q_160_42, q_160_43, q_160_46, q_160_47, q_160_50, q_160_51, q_160_52, q_160_55, vinT, iClamp, clr_i, clr_l, clr_r, clr_n, true_and, and_true, or_true, true_or, false_or, or_false, iLe, iLt, iEq, iAdd, iMul, List.cons_append, List.nil_append, List.append_nil, zb0, zb1, if_true, if_false, not_true_eq_false, not_false_eq_true, Bool.false_eq_true, Nat.one_ne_zero, Nat.zero_ne_one, Nat.reduceEqDiff, Nat.reduceAdd, if_pos, if_neg, m127, m128k, m128n, m129k, m129n, m130k, m130n, m131k, m131n, m132k, m132n, m133k, m133n, m134k, m134n, m135k, m135n, m136k, m136n, m137k, m137n, m138k, m138n, m139k, m139n, m140k, m140n, m141k, m141n, m142k, m142n, m143k, m143n, m144k, m144n, m145k, m145n, m146k, m146n, hm, hmd, e1, m10 x hx]
      · have e5 : b2 ((true && decide (lsm (mi a x) d ≤ be a x)) = true) = nI 0 := b2_f (by simpa using c1)
        rw [e5]
        simp (disch := omega) only [q_160_7, q_160_8, q_160_11, q_160_14, q_160_15, q_160_16, q_160_19, q_160_21, q_160_22, q_160_24, q_160_25, q_160_26, q_160_27, q_160_30, q_160_32, q_160_33, q_160_36, q_160_37, q_160_40, q_160_41, q_160_42, q_160_43, q_160_46, q_160_47, q_160_50, q_160_51, q_160_52, q_160_55, vinT, iClamp, clr_i, clr_l, clr_r, clr_n, true_and, and_true, or_true, true_or, false_or, or_false, iLe, iLt, iEq, iAdd, iMul, List.cons_append, List.nil_append, List.append_nil, zb0, zb1, if_true, if_false, not_true_eq_false, not_false_eq_true, Bool.false_eq_true, Nat.one_ne_zero, Nat.zero_ne_one, Nat.reduceEqDiff, Nat.reduceAdd, if_pos, if_neg, m127, m128k, m128n, m129k, m129n, m130k, m130n, m131k, m131n, m132k, m132n, m133k, m133n, m134k, m134n, m135k, m135n, m136k, m136n, m137k, m137n, m138k, m138n, m139k, m139n, m140k, m140n, m141k, m141n, m142k, m142n, m143k, m143n, m144k, m144n, m145k, m145n, m146k, m146n, hm, hmd, e1, m10 x hx]
theorem l_wg2 {X : Nat × (Nat → Int32)} {n : Nat} {y z : Int32} {v : Value} (hn : n ≤ 7) : ∀ m i (σ : Mem), σ.1 127 25 = nI n → (∀ j, j < n → σ.1 144 j = σ.1 144 j) → i + m = n → ∃ σ', (∀ Q, Rn X 160 86 [.ref 127, .int y, .int z, .int (nI i), v] [] σ Q ↔ Q [] σ') ∧ (∀ j, i ≤ j → j < n → σ'.1 145 j = σ.1 144 j) ∧ (∀ j, j < i → σ'.1 145 j = σ.1 145 j) ∧ Off [145] σ σ' := by
  intro m
  induction m with
  | zero =>
    intro i σ hm _ hi
    have e : i = n := by omega
    subst e
    refine ⟨σ, fun Q => ?_, fun j h1 h2 => absurd h2 (by omega), fun j _ => rfl, Off.rf _ _⟩
    rw [q_160_86]
    simp (disch := omega) only [q_160_87, q_160_88, q_160_91, q_160_94, q_160_95, q_160_98, q_160_99, q_160_100, q_160_103, q_160_104, q_160_105, q_160_106, q_160_109, q_160_112, vinT, iClamp, clr_i, clr_l, clr_r, clr_n, true_and, and_true, or_true, true_or, false_or, or_false, iLe, iLt, iEq, iAdd, iMul, List.cons_append, List.nil_append, List.append_nil, zb0, zb1, if_true, if_false, not_true_eq_false, not_false_eq_true, Bool.false_eq_true, Nat.one_ne_zero, Nat.zero_ne_one, Nat.reduceEqDiff, Nat.reduceAdd, if_pos, if_neg, m127, m128k, m128n, m129k, m129n, m130k, m130n, m131k, m131n, m132k, m132n, m133k, m133n, m134k, m134n, m135k, m135n, m136k, m136n, m137k, m137n, m138k, m138n, m139k, m139n, m140k, m140n, m141k, m141n, m142k, m142n, m143k, m143n, m144k, m144n, m145k, m145n, m146k, m146n, hm]
  | succ m ih =>
    intro i σ hm hz hi
    have ho : Off [145] σ (sI σ 145 i (σ.1 144 i)) := (Off.rf _ σ).sI (by simp) _ _
    obtain ⟨σ', k1, k2, k3, k4⟩ := ih (i + 1) (sI σ 145 i (σ.1 144 i)) (by rw [sI_off (by omega)]; exact hm) (fun _ _ => rfl) (by omega)
    refine ⟨σ', fun Q => ?_, fun j h1 h2 => ?_, fun j hj => ?_, ho.tr k4⟩
    · rw [q_160_86]
      simp (disch := omega) only [q_160_87, q_160_88, q_160_91, q_160_94, q_160_95, q_160_98, q_160_99, q_160_100, q_160_103, q_160_104, q_160_105, q_160_106, q_160_109, q_160_112, vinT, iClamp, clr_i, clr_l, clr_r, clr_n, true_and, and_true, or_true, true_or, false_or, or_false, iLe, iLt, iEq, iAdd, iMul, List.cons_append, List.nil_append, List.append_nil, zb0, zb1, if_true, if_false, not_true_eq_false, not_false_eq_true, Bool.false_eq_true, Nat.one_ne_zero, Nat.zero_ne_one, Nat.reduceEqDiff, Nat.reduceAdd, if_pos, if_neg, m127, m128k, m128n, m129k, m129n, m130k, m130n, m131k, m131n, m132k, m132n, m133k, m133n, m134k, m134n, m135k, m135n, m136k, m136n, m137k, m137n, m138k, m138n, m139k, m139n, m140k, m140n, m141k, m141n, m142k, m142n, m143k, m143n, m144k, m144n, m145k, m145n, m146k, m146n, hm]
      exact k1 Q
    · by_cases e : j = i
      · subst e
        rw [k3 j (by omega), sI_at]
      · rw [k2 j (by omega) h2, sI_off (by omega)]
    · rw [k3 j (by omega), sI_off (by omega)]
abbrev BT : Type := Option (Nat × List Nat)
def lsO (v : Nat) (o : BT) : Bool := o.elim true (fun r => decide (v < r.1))
def wgh (mi : Nat → Nat → Nat) (be : Nat → Nat) (l : List Nat) (o : BT) : BT := if wgB mi be [] l = true ∧ lsO (wgS mi [] l) o = true then some (wgS mi [] l, l) else o
def BO (σ : Mem) (n : Nat) (o : BT) : Prop := (o = none ∧ σ.1 127 24 = -9) ∨ ∃ c l, o = some (c, l) ∧ σ.1 127 24 = nI c ∧ AI σ 145 l ∧ l.length = n ∧ c < 1000
theorem wgS_le {a : AS} (ok : AOK a) : ∀ (r d : List Nat), (∀ y, y ∈ d ++ r → y < 7) → d.length + r.length ≤ 7 → wgS (mi a) d r ≤ r.length * 63
  | [], d, _, _ => by simp [wgS]
  | x :: r, d, h7, hl => by
    have h1 := lsm_63 ok (d := d) (h7 x (by simp)) (fun y hy => h7 y (by simp [hy])) (by omega)
    have h2 := wgS_le ok r (d ++ [x]) (by rw [snoc_app]; exact h7) (by rw [snoc_len]; simp at hl; omega)
    rw [wgS, List.length_cons, Nat.succ_mul]
    omega
theorem s_weigh {X : Nat × (Nat → Int32)} {σ : Mem} {a : AS} {l : List Nat} {o : BT} {u1 u2 u3 u4 : Value} (ok : AOK a) (h : MI σ a) (hm : σ.1 127 25 = nI l.length) (hA : AI σ 144 l) (hl : l.length ≤ 7) (h7 : ∀ y, y ∈ l → y < 7) (hB : BO σ l.length o) : ∃ σ', Ev X 160 [.ref 127, u1, u2, u3, u4] σ [] σ' ∧ BO σ' l.length (wgh (mi a) (be a) l o) ∧ (∀ j, j ≠ 24 → σ'.1 127 j = σ.1 127 j) ∧ Off [127, 145] σ σ' := by
  have hS := wgS_le ok l [] h7 (by simpa using hl)
  have hS2 : l.length * 63 ≤ 7 * 63 := Nat.mul_le_mul_right 63 hl
  obtain ⟨v', i1⟩ := l_wg1 (X := X) ok h hm hA hl h7 l [] rfl 0 true u4
  have e6 : b2 (true = true) = nI 1 := b2_t rfl
  rw [e6, List.length_nil, Nat.zero_add, Bool.true_and] at i1
  have take : lsO (wgS (mi a) [] l) o = true → wgB (mi a) (be a) [] l = true → ∃ σ', (∀ Q, Rn X 160 79 [.ref 127, .int (nI (wgS (mi a) [] l)), .int (nI 1), .int (nI l.length), v'] [] σ Q ↔ Q [] σ') ∧ BO σ' l.length (wgh (mi a) (be a) l o) ∧ (∀ j, j ≠ 24 → σ'.1 127 j = σ.1 127 j) ∧ Off [127, 145] σ σ' := by
    intro t1 t2
    have ho : Off [127] σ (sI σ 127 24 (nI (wgS (mi a) [] l))) := (Off.rf _ σ).sI (by simp) _ _
    obtain ⟨σ', k1, k2, k3, k4⟩ := l_wg2 (X := X) (n := l.length) (y := nI (wgS (mi a) [] l)) (z := nI 1) (v := v') hl l.length 0 (sI σ 127 24 (nI (wgS (mi a) [] l))) (by rw [sI_off (by omega)]; exact hm) (fun _ _ => rfl) (by omega)
    refine ⟨σ', fun Q => ?_, ?_, fun j hj => ?_, (ho.mono (by simp)).tr (k4.mono (by simp))⟩
    · simp (disch := omega) only [q_160_79, q_160_80, q_160_81, q_160_84, q_160_85, vinT, iClamp, clr_i, clr_l, clr_r, clr_n, true_and, and_true, or_true, true_or, false_or, or_false, iLe, iLt, iEq, iAdd, iMul, List.cons_append, List.nil_append, List.append_nil, zb0, zb1, if_true, if_false, not_true_eq_false, not_false_eq_true, Bool.false_eq_true, Nat.one_ne_zero, Nat.zero_ne_one, Nat.reduceEqDiff, Nat.reduceAdd, if_pos, if_neg, m127, m128k, m128n, m129k, m129n, m130k, m130n, m131k, m131n, m132k, m132n, m133k, m133n, m134k, m134n, m135k, m135n, m136k, m136n, m137k, m137n, m138k, m138n, m139k, m139n, m140k, m140n, m141k, m141n, m142k, m142n, m143k, m143n, m144k, m144n, m145k, m145n, m146k, m146n]
      exact k1 Q
    · rw [wgh, if_pos ⟨t2, t1⟩]
      refine Or.inr ⟨_, l, rfl, by rw [(k4 127 (by simp)).1, sI_at], fun j hj => ?_, rfl, by omega⟩
      rw [k2 j (by omega) hj, sI_off (by omega)]
      exact hA j hj
    · rw [(k4 127 (by simp)).1, sI_off (by omega)]
  by_cases c1 : wgB (mi a) (be a) [] l = true
  · have e7 : b2 (wgB (mi a) (be a) [] l = true) = nI 1 := b2_t c1
    rw [e7] at i1
    rcases hB with ⟨rfl, hb⟩ | ⟨c, lb, rfl, hb, hb2, hb3, hb4⟩
    · obtain ⟨σ', k1, k2, k3, k4⟩ := take rfl c1
      refine ⟨σ', fun Q => ?_, k2, k3, k4⟩
      simp (disch := omega) only [q_160_0, q_160_1, q_160_2, q_160_3, q_160_4, q_160_5, vinT, iClamp, clr_i, clr_l, clr_r, clr_n, true_and, and_true, or_true, true_or, false_or, or_false, iLe, iLt, iEq, iAdd, iMul, List.cons_append, List.nil_append, List.append_nil, zb0, zb1, if_true, if_false, not_true_eq_false, not_false_eq_true, Bool.false_eq_true, Nat.one_ne_zero, Nat.zero_ne_one, Nat.reduceEqDiff, Nat.reduceAdd, if_pos, if_neg]
      rw [i1 Q]
      simp (disch := omega) only [q_160_58, q_160_59, q_160_62, q_160_63, q_160_66, q_160_68, q_160_71, q_160_72, q_160_73, q_160_76, vinT, iClamp, clr_i, clr_l, clr_r, clr_n, true_and, and_true, or_true, true_or, false_or, or_false, iLe, iLt, iEq, iAdd, iMul, List.cons_append, List.nil_append, List.append_nil, zb0, zb1, if_true, if_false, not_true_eq_false, not_false_eq_true, Bool.false_eq_true, Nat.one_ne_zero, Nat.zero_ne_one, Nat.reduceEqDiff, Nat.reduceAdd, if_pos, if_neg, m127, m128k, m128n, m129k, m129n, m130k, m130n, m131k, m131n, m132k, m132n, m133k, m133n, m134k, m134n, m135k, m135n, m136k, m136n, m137k, m137n, m138k, m138n, m139k, m139n, m140k, m140n, m141k, m141n, m142k, m142n, m143k, m143n, m144k, m144n, m145k, m145n, m146k, m146n, hb]
      exact k1 Q
    · have hn9 := nI_n9 (p := c) (by omega)
      by_cases c2 : wgS (mi a) [] l < c
      · obtain ⟨σ', k1, k2, k3, k4⟩ := take (by simpa [lsO] using c2) c1
        refine ⟨σ', fun Q => ?_, k2, k3, k4⟩
        simp (disch := omega) only [q_160_0, q_160_1, q_160_2, q_160_3, q_160_4, q_160_5, vinT, iClamp, clr_i, clr_l, clr_r, clr_n, true_and, and_true, or_true, true_or, false_or, or_false, iLe, iLt, iEq, iAdd, iMul, List.cons_append, List.nil_append, List.append_nil, zb0, zb1, if_true, if_false, not_true_eq_false, not_false_eq_true, Bool.false_eq_true, Nat.one_ne_zero, Nat.zero_ne_one, Nat.reduceEqDiff, Nat.reduceAdd, if_pos, if_neg]
        rw [i1 Q]
        simp (disch := omega) only [q_160_58, q_160_59, q_160_62, q_160_63, q_160_66, q_160_68, q_160_71, q_160_72, q_160_73, q_160_76, vinT, iClamp, clr_i, clr_l, clr_r, clr_n, true_and, and_true, or_true, true_or, false_or, or_false, iLe, iLt, iEq, iAdd, iMul, List.cons_append, List.nil_append, List.append_nil, zb0, zb1, if_true, if_false, not_true_eq_false, not_false_eq_true, Bool.false_eq_true, Nat.one_ne_zero, Nat.zero_ne_one, Nat.reduceEqDiff, Nat.reduceAdd, if_pos, if_neg, m127, m128k, m128n, m129k, m129n, m130k, m130n, m131k, m131n, m132k, m132n, m133k, m133n, m134k, m134n, m135k, m135n, m136k, m136n, m137k, m137n, m138k, m138n, m139k, m139n, m140k, m140n, m141k, m141n, m142k, m142n, m143k, m143n, m144k, m144n, m145k, m145n, m146k, m146n, hb, hn9]
        exact k1 Q
      · refine ⟨σ, fun Q => ?_, ?_, fun j _ => rfl, Off.rf _ _⟩
        · simp (disch := omega) only [q_160_0, q_160_1, q_160_2, q_160_3, q_160_4, q_160_5, vinT, iClamp, clr_i, clr_l, clr_r, clr_n, true_and, and_true, or_true, true_or, false_or, or_false, iLe, iLt, iEq, iAdd, iMul, List.cons_append, List.nil_append, List.append_nil, zb0, zb1, if_true, if_false, not_true_eq_false, not_false_eq_true, Bool.false_eq_true, Nat.one_ne_zero, Nat.zero_ne_one, Nat.reduceEqDiff, Nat.reduceAdd, if_pos, if_neg]
          rw [i1 Q]
          simp (disch := omega) only [q_160_58, q_160_59, q_160_62, q_160_63, q_160_66, q_160_68, q_160_71, q_160_72, q_160_73, q_160_76, q_160_112, vinT, iClamp, clr_i, clr_l, clr_r, clr_n, true_and, and_true, or_true, true_or, false_or, or_false, iLe, iLt, iEq, iAdd, iMul, List.cons_append, List.nil_append, List.append_nil, zb0, zb1, if_true, if_false, not_true_eq_false, not_false_eq_true, Bool.false_eq_true, Nat.one_ne_zero, Nat.zero_ne_one, Nat.reduceEqDiff, Nat.reduceAdd, if_pos, if_neg, m127, m128k, m128n, m129k, m129n, m130k, m130n, m131k, m131n, m132k, m132n, m133k, m133n, m134k, m134n, m135k, m135n, m136k, m136n, m137k, m137n, m138k, m138n, m139k, m139n, m140k, m140n, m141k, m141n, m142k, m142n, m143k, m143n, m144k, m144n, m145k, m145n, m146k, m146n, hb, hn9]
        · rw [wgh, if_neg (fun q => c2 (by simpa [lsO] using q.2))]
          exact Or.inr ⟨c, lb, rfl, hb, hb2, hb3, hb4⟩
  · have e7 : b2 (wgB (mi a) (be a) [] l = true) = nI 0 := b2_f c1
    rw [e7] at i1
    refine ⟨σ, fun Q => ?_, ?_, fun j _ => rfl, Off.rf _ _⟩
    · simp (disch := omega) only [q_160_0, q_160_1, q_160_2, q_160_3, q_160_4, q_160_5, vinT, iClamp, clr_i, clr_l, clr_r, clr_n, true_and, and_true, or_true, true_or, false_or, or_false, iLe, iLt, iEq, iAdd, iMul, List.cons_append, List.nil_append, List.append_nil, zb0, zb1, if_true, if_false, not_true_eq_false, not_false_eq_true, Bool.false_eq_true, Nat.one_ne_zero, Nat.zero_ne_one, Nat.reduceEqDiff, Nat.reduceAdd, if_pos, if_neg]
      rw [i1 Q]
      simp (disch := omega) only [q_160_58, q_160_59, q_160_62, q_160_63, q_160_66, q_160_68, q_160_71, q_160_72, q_160_73, q_160_76, q_160_112, vinT, iClamp, clr_i, clr_l, clr_r, clr_n, true_and, and_true, or_true, true_or, false_or, or_false, iLe, iLt, iEq, iAdd, iMul, List.cons_append, List.nil_append, List.append_nil, zb0, zb1, if_true, if_false, not_true_eq_false, not_false_eq_true, Bool.false_eq_true, Nat.one_ne_zero, Nat.zero_ne_one, Nat.reduceEqDiff, Nat.reduceAdd, if_pos, if_neg]
    · rw [wgh, if_neg (fun q => c1 q.1)]
      exact hB
