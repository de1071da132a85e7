/-! ===== Arrangement ===== -/
theorem insA_congr {P P' : Nat → Bool} {x : Nat} : ∀ (A B : List Nat), (∀ y, y ∈ A → P y = P' y) → insA P x A B = insA P' x A B
  | [], B, _ => rfl
  | y :: r, B, h => by
    rw [insA, insA, h y (by simp), insA_congr r (y :: B) (fun z hz => h z (by simp [hz]))]
theorem insL_congr {P P' : Nat → Bool} {x : Nat} {l : List Nat} (h : ∀ y, y ∈ l → P y = P' y) : insL P x l = insL P' x l := insA_congr _ _ (fun y hy => h y (by simpa using hy))
theorem insA_perm (P : Nat → Bool) (x : Nat) : ∀ A B, (insA P x A B).Perm (x :: (A.reverse ++ B))
  | [], B => List.Perm.refl _
  | y :: r, B => by
    rw [insA]
    by_cases c : P y = true
    · rw [if_pos c]
      have h := insA_perm P x r (y :: B)
      simpa using h
    · rw [if_neg c]
      exact List.perm_middle
theorem insL_perm (P : Nat → Bool) (x : Nat) (l : List Nat) : (insL P x l).Perm (x :: l) := by
  have h := insA_perm P x l.reverse []
  simpa [insL] using h
theorem insL_mem {P : Nat → Bool} {x y : Nat} {l : List Nat} : y ∈ insL P x l ↔ y = x ∨ y ∈ l := by
  rw [(insL_perm P x l).mem_iff]
  simp
/-- the order by numbers, one after another put in -/
def srt (num : Nat → Int64) (l : List Nat) : List Nat := l.foldl (fun acc x => insL (ah num x) x acc) []
theorem srt_snoc (num : Nat → Int64) (l : List Nat) (x : Nat) : srt num (l ++ [x]) = insL (ah num x) x (srt num l) := by
  simp [srt]
theorem srt_perm (num : Nat → Int64) (l : List Nat) : (srt num l).Perm l := by
  suffices h : ∀ (r d : List Nat), l = d ++ r → (srt num d).Perm d → (srt num l).Perm l from h l [] rfl (by simp [srt])
  intro r
  induction r with
  | nil => intro d e h; rw [e, List.append_nil]; exact h
  | cons x r ih =>
    intro d e h
    refine ih (d ++ [x]) (by simp [e]) ?_
    rw [srt_snoc]
    exact (insL_perm _ _ _).trans ((List.Perm.cons x h).trans (List.perm_append_singleton x d).symm)
theorem srt_len (num : Nat → Int64) (l : List Nat) : (srt num l).length = l.length := (srt_perm num l).length_eq
theorem kk0 : ∀ k, k < 147 → cK k = 0 → k = 4 := by decide +kernel
theorem F0a {a : Nat} (h : cK a = 0) : a = 4 := kk0 a (cK_lt h (by omega)) h
theorem Fa0 {a : Nat} (h : cK a = 0) : cK (a + 1) = 4 ∧ cK (a + 5) = 5 ∧ cK (a + 1 + 1) = 5 ∧ a = 4 := by
  have e := F0a h
  subst e
  exact ⟨by decide, by decide, by decide, rfl⟩
def nmB (b : Nat) (N : Nat → Int64) (x : Nat) : Int64 := if b = 1 then lN 0 else N x
theorem ah_congr {N N' : Nat → Int64} {x s : Nat} (h1 : N x = N' x) (h2 : N s = N' s) : ah N x s = ah N' x s := by simp [ah, h1, h2]
theorem updL_at (N : Nat → Int64) (x : Nat) (v : Int64) : vp_updL N x v x = v := by simp [vp_updL]
theorem updL_ne {N : Nat → Int64} {x y : Nat} {v : Int64} (h : y ≠ x) : vp_updL N x v y = N y := by simp [vp_updL, h]
theorem l_sort {X : Nat × (Nat → Int32)} {a k b : Nat} {l : List Nat} {N : Nat → Int64} (ha : cK a = 0) (hk : cK k = 2) (hb : b = 0 ∨ b = 1) : ∀ (r d : List Nat) (σ : Mem) (v : Value), l = d ++ r → RI σ (k + 9) l → (∀ p, p < 7 → σ.2 (k + 11) p = N p) → RI σ (a + 1 + 1) (srt (nmB b N) d) → (∀ y, y ∈ d → σ.2 (a + 1 + 3) y = nmB b N y) → ∃ σ', (∀ Q, Rn X 1 13 [.ref a, .ref k, .int (nI b), .int (nI d.length), v] [] σ Q ↔ Q [] σ') ∧ RI σ' (a + 1 + 1) (srt (nmB b N) l) ∧ Off [a + 1 + 1, a + 1 + 2, a + 1 + 3] σ σ' := by
  obtain ⟨g1, g2, g3, g4⟩ := Fa0 ha
  obtain ⟨⟨f1, f2, f3, f4, f5, f6⟩, ⟨f7, f8, f9, f10, f11, f13, f14⟩, f12⟩ := F2 hk
  obtain ⟨f15, f16⟩ := F5 f9
  intro r
  induction r with
  | nil =>
    intro d σ v e h hN hs hn
    rw [List.append_nil] at e
    subst e
    refine ⟨σ, fun Q => ?_, hs, Off.rf _ _⟩
    rw [q_1_13]
    obtain ⟨h1, h2, h3⟩ := h
    simp (disch := omega) only [q_1_0, q_1_1, q_1_4, q_1_7, q_1_8, q_1_11, q_1_12, q_1_14, q_1_15, q_1_18, q_1_21, q_1_24, q_1_25, q_1_28, q_1_31, q_1_32, q_1_33, q_1_35, q_1_36, q_1_39, q_1_41, q_1_42, q_1_45, q_1_46, q_1_49, q_1_50, q_1_53, q_1_55, q_1_56, q_1_59, q_1_62, q_1_65, vinT, iClamp, clr_i, clr_l, clr_r, clr_n, true_and, and_true, or_true, true_or, false_or, or_false, iLe, iLt, iEq, iAdd, iMul, List.cons_append, List.nil_append, List.append_nil, zb0, zb1, if_true, if_false, not_true_eq_false, not_false_eq_true, Bool.false_eq_true, Nat.one_ne_zero, Nat.zero_ne_one, Nat.reduceEqDiff, Nat.reduceAdd, if_pos, if_neg, hk, f9, h2]
  | cons x r ih =>
    intro d σ v e h hN hs hn
    obtain ⟨h1, h2, h3⟩ := id h
    have hd : d.length < l.length := by rw [e]; simp
    have hx : l.getD d.length 0 = x := by rw [e, gD_r (Nat.le_refl _), Nat.sub_self]; rfl
    have hx7 := (h3 d.length hd).2
    rw [hx] at hx7
    have hv := (h3 d.length hd).1
    rw [hx] at hv
    obtain ⟨σ1, e1, e2, e3, e4⟩ := s_put (X := X) (x := x) (v := nmB b N x) (w := .null) g1 hx7 hs (by rw [srt_len]; omega)
    have hnew : insL (ah (vp_updL (σ.2 (a + 1 + 3)) x (nmB b N x)) x) x (srt (nmB b N) d) = srt (nmB b N) (d ++ [x]) := by
      rw [srt_snoc]
      apply insL_congr
      intro y hy
      apply ah_congr
      · rw [updL_at]
      · by_cases c : y = x
        · rw [c, updL_at]
        · rw [updL_ne c, hn y ((srt_perm _ _).mem_iff.mp hy)]
    rw [hnew] at e2
    obtain ⟨σ', i1, i2, i3⟩ := ih (d ++ [x]) σ1 (.int (nI x)) (by simp [e]) (RI_off h e4 (by simp <;> omega) (by simp <;> omega)) (fun p hp => by rw [(e4 (k + 11) (by simp <;> omega)).2]; exact hN p hp) e2 (fun y hy => by
      rw [e3]
      by_cases c : y = x
      · rw [c, updL_at]
      · rw [updL_ne c]
        refine hn y ?_
        simpa [c] using hy)
    refine ⟨σ', fun Q => ?_, i2, e4.tr i3⟩
    rw [q_1_13]
    have e1' := fun Q => e1 Q
    have i1' := i1 Q
    rw [List.length_append, List.length_cons, List.length_nil, Nat.zero_add] at i1'
    rcases hb with rfl | rfl
    · have hN' := hN x hx7
      have e0 : nmB 0 N x = N x := by simp [nmB]
      rw [e0] at e1'
      simp (disch := omega) only [q_1_0, q_1_1, q_1_4, q_1_7, q_1_8, q_1_11, q_1_12, q_1_14, q_1_15, q_1_18, q_1_21, q_1_24, q_1_25, q_1_28, q_1_31, q_1_32, q_1_33, q_1_35, q_1_36, q_1_39, q_1_41, q_1_42, q_1_45, q_1_46, q_1_49, q_1_50, q_1_53, q_1_55, q_1_56, q_1_59, q_1_62, q_1_65, vinT, iClamp, clr_i, clr_l, clr_r, clr_n, true_and, and_true, or_true, true_or, false_or, or_false, iLe, iLt, iEq, iAdd, iMul, List.cons_append, List.nil_append, List.append_nil, zb0, zb1, if_true, if_false, not_true_eq_false, not_false_eq_true, Bool.false_eq_true, Nat.one_ne_zero, Nat.zero_ne_one, Nat.reduceEqDiff, Nat.reduceAdd, if_pos, if_neg, hk, ha, f9, f10, f11, f15, f16, h2, hv, hN', e1', g1]
      exact i1'
    · have e0 : nmB 1 N x = lN 0 := by simp [nmB]
      rw [e0] at e1'
      simp (disch := omega) only [q_1_0, q_1_1, q_1_4, q_1_7, q_1_8, q_1_11, q_1_12, q_1_14, q_1_15, q_1_18, q_1_21, q_1_24, q_1_25, q_1_28, q_1_31, q_1_32, q_1_33, q_1_35, q_1_36, q_1_39, q_1_41, q_1_42, q_1_45, q_1_46, q_1_49, q_1_50, q_1_53, q_1_55, q_1_56, q_1_59, q_1_62, q_1_65, vinT, iClamp, clr_i, clr_l, clr_r, clr_n, true_and, and_true, or_true, true_or, false_or, or_false, iLe, iLt, iEq, iAdd, iMul, List.cons_append, List.nil_append, List.append_nil, zb0, zb1, if_true, if_false, not_true_eq_false, not_false_eq_true, Bool.false_eq_true, Nat.one_ne_zero, Nat.zero_ne_one, Nat.reduceEqDiff, Nat.reduceAdd, if_pos, if_neg, hk, ha, f9, f10, f11, f15, f16, h2, hv, e1', g1]
      exact i1'
theorem RI_nil {σ : Mem} {r : Nat} (h : σ.1 r 1 = nI 0) : RI σ r [] := ⟨by simp, h, fun j hj => absurd hj (by simp)⟩
theorem s_sort {X : Nat × (Nat → Int32)} {σ : Mem} {a k b : Nat} {l : List Nat} {N : Nat → Int64} {v w : Value} (ha : cK a = 0) (hk : cK k = 2) (hb : b = 0 ∨ b = 1) (h : RI σ (k + 9) l) (hN : ∀ p, p < 7 → σ.2 (k + 11) p = N p) : ∃ σ', Ev X 1 [.ref a, .ref k, .int (nI b), v, w] σ [] σ' ∧ RI σ' (a + 1 + 1) (srt (nmB b N) l) ∧ Off [a + 1 + 1, a + 1 + 2, a + 1 + 3] σ σ' := by
  obtain ⟨g1, g2, g3, g4⟩ := Fa0 ha
  obtain ⟨⟨f1, f2, f3, f4, f5, f6⟩, ⟨f7, f8, f9, f10, f11, f13, f14⟩, f12⟩ := F2 hk
  have ho : Off [a + 1 + 1, a + 1 + 2, a + 1 + 3] σ (sI σ (a + 1 + 1) 1 (nI 0)) := (Off.rf _ σ).sI (by simp) _ _
  obtain ⟨σ', i1, i2, i3⟩ := l_sort (X := X) (l := l) (N := N) ha hk hb l [] (sI σ (a + 1 + 1) 1 (nI 0)) w rfl (RI_off h ho (by simp <;> omega) (by simp <;> omega)) (fun p hp => hN p hp) (RI_nil (sI_at _ _ _ _)) (fun y hy => by simp at hy)
  refine ⟨σ', fun Q => ?_, i2, ho.tr i3⟩
  simp (disch := omega) only [q_1_0, q_1_1, q_1_4, q_1_7, q_1_8, q_1_11, q_1_12, vinT, iClamp, clr_i, clr_l, clr_r, clr_n, true_and, and_true, or_true, true_or, false_or, or_false, iLe, iLt, iEq, iAdd, iMul, List.cons_append, List.nil_append, List.append_nil, zb0, zb1, if_true, if_false, not_true_eq_false, not_false_eq_true, Bool.false_eq_true, Nat.one_ne_zero, Nat.zero_ne_one, Nat.reduceEqDiff, Nat.reduceAdd, if_pos, if_neg, ha, g1, g3]
  exact i1 Q
/-- someone is put last -/
def mvL (l : List Nat) (y : Int32) : List Nat := if plF (rF l) y 0 l.length = -9 then l else (l.eraseIdx (plF (rF l) y 0 l.length).toNatClampNeg) ++ [l.getD (plF (rF l) y 0 l.length).toNatClampNeg 0]
theorem plF_spec (f : Nat → Int32) (y : Int32) : ∀ n i, plF f y i n = -9 ∧ (∀ j, i ≤ j → j < i + n → f j ≠ y) ∨ ∃ p, i ≤ p ∧ p < i + n ∧ plF f y i n = nI p ∧ f p = y ∧ ∀ j, i ≤ j → j < p → f j ≠ y
  | 0, i => Or.inl ⟨rfl, fun j h1 h2 => absurd h2 (by omega)⟩
  | n + 1, i => by
    rw [plF]
    by_cases c : f i = y
    · rw [if_pos c]
      exact Or.inr ⟨i, Nat.le_refl _, by omega, rfl, c, fun j h1 h2 => absurd h2 (by omega)⟩
    · rw [if_neg c]
      rcases plF_spec f y n (i + 1) with ⟨h1, h2⟩ | ⟨p, h1, h2, h3, h4, h5⟩
      · refine Or.inl ⟨h1, fun j g1 g2 => ?_⟩
        by_cases e : j = i
        · rw [e]; exact c
        · exact h2 j (by omega) (by omega)
      · refine Or.inr ⟨p, by omega, by omega, h3, h4, fun j g1 g2 => ?_⟩
        by_cases e : j = i
        · rw [e]; exact c
        · exact h5 j (by omega) g2
theorem l_last {X : Nat × (Nat → Int32)} {a x : Nat} {y : Int32} (ha : cK a = 0) : ∀ (B C : List Nat) (σ : Mem) (v : Value), RI σ (a + 5) (C ++ x :: B) → ∃ σ', (∀ Q, Rn X 2 16 [.ref a, .int y, v, .int (nI C.length)] [] σ Q ↔ Q [] σ') ∧ RI σ' (a + 5) (C ++ B ++ [x]) ∧ Off [a + 5 + 1] σ σ' := by
  obtain ⟨g1, g2, g3, g4⟩ := Fa0 ha
  intro B
  induction B with
  | nil =>
    intro C σ v h
    refine ⟨σ, fun Q => ?_, by simpa using h, Off.rf _ _⟩
    rw [q_2_16]
    obtain ⟨h1, h2, h3⟩ := h
    rw [List.length_append, List.length_cons, List.length_nil, Nat.zero_add] at h1 h2
    simp (disch := omega) only [q_2_0, q_2_1, q_2_4, q_2_5, q_2_8, q_2_9, q_2_10, q_2_13, q_2_14, q_2_15, q_2_17, q_2_18, q_2_21, q_2_24, q_2_25, q_2_26, q_2_29, q_2_30, q_2_33, q_2_34, q_2_37, q_2_40, q_2_43, vinT, iClamp, clr_i, clr_l, clr_r, clr_n, true_and, and_true, or_true, true_or, false_or, or_false, iLe, iLt, iEq, iAdd, iMul, List.cons_append, List.nil_append, List.append_nil, zb0, zb1, if_true, if_false, not_true_eq_false, not_false_eq_true, Bool.false_eq_true, Nat.one_ne_zero, Nat.zero_ne_one, Nat.reduceEqDiff, Nat.reduceAdd, if_pos, if_neg, ha, g2, h2, iSub]
  | cons z B ih =>
    intro C σ v h
    obtain ⟨h1, h2, h3⟩ := id h
    obtain ⟨σ1, e1, e2, e3⟩ := s_change (X := X) (v := .null) (p := C.length) g2 h (by simp)
    rw [swp_mid] at e2
    obtain ⟨σ', i1, i2, i3⟩ := ih (C ++ [z]) σ1 (clr v) (by simpa using e2)
    refine ⟨σ', fun Q => ?_, by simpa using i2, e3.tr i3⟩
    rw [q_2_16]
    have e1' := fun Q => e1 Q
    have i1' := i1 Q
    rw [List.length_append, List.length_cons, List.length_nil, Nat.zero_add] at i1'
    rw [List.length_append, List.length_cons, List.length_cons] at h1 h2
    simp (disch := omega) only [q_2_0, q_2_1, q_2_4, q_2_5, q_2_8, q_2_9, q_2_10, q_2_13, q_2_14, q_2_15, q_2_17, q_2_18, q_2_21, q_2_24, q_2_25, q_2_26, q_2_29, q_2_30, q_2_33, q_2_34, q_2_37, q_2_40, q_2_43, vinT, iClamp, clr_i, clr_l, clr_r, clr_n, true_and, and_true, or_true, true_or, false_or, or_false, iLe, iLt, iEq, iAdd, iMul, List.cons_append, List.nil_append, List.append_nil, zb0, zb1, if_true, if_false, not_true_eq_false, not_false_eq_true, Bool.false_eq_true, Nat.one_ne_zero, Nat.zero_ne_one, Nat.reduceEqDiff, Nat.reduceAdd, if_pos, if_neg, ha, g2, h2, iSub, e1']
    exact i1'
theorem split_at {l : List Nat} {p : Nat} (h : p < l.length) : l = l.take p ++ l.getD p 0 :: l.drop (p + 1) := by
  have h1 := List.take_append_drop p l
  have h2 : l.drop p = l.getD p 0 :: l.drop (p + 1) := by
    rw [List.drop_eq_getElem_cons h, List.getD_eq_getElem?_getD, List.getElem?_eq_getElem h]
    rfl
  rw [h2] at h1
  exact h1.symm
theorem s_putLast {X : Nat × (Nat → Int32)} {σ : Mem} {a : Nat} {y : Int32} {l : List Nat} {v w : Value} (ha : cK a = 0) (h : RI σ (a + 5) l) : ∃ σ', Ev X 2 [.ref a, .int y, v, w] σ [] σ' ∧ RI σ' (a + 5) (mvL l y) ∧ Off [a + 5 + 1] σ σ' := by
  obtain ⟨g1, g2, g3, g4⟩ := Fa0 ha
  obtain ⟨h1, h2, h3⟩ := id h
  rcases plF_spec (rF l) y l.length 0 with ⟨c1, c2⟩ | ⟨p, c1, c2, c3, c4, c5⟩
  · refine ⟨σ, fun Q => ?_, by rw [mvL, if_pos c1]; exact h, Off.rf _ _⟩
    have hneg : ¬ nI 0 ≤ (-9 : Int32) := by decide
    simp (disch := omega) only [q_2_0, q_2_1, q_2_4, q_2_5, q_2_8, q_2_9, q_2_10, q_2_13, q_2_14, q_2_15, q_2_17, q_2_18, q_2_21, q_2_24, q_2_25, q_2_26, q_2_29, q_2_30, q_2_33, q_2_34, q_2_37, q_2_40, q_2_43, vinT, iClamp, clr_i, clr_l, clr_r, clr_n, true_and, and_true, or_true, true_or, false_or, or_false, iLe, iLt, iEq, iAdd, iMul, List.cons_append, List.nil_append, List.append_nil, zb0, zb1, if_true, if_false, not_true_eq_false, not_false_eq_true, Bool.false_eq_true, Nat.one_ne_zero, Nat.zero_ne_one, Nat.reduceEqDiff, Nat.reduceAdd, if_pos, if_neg, ha, g2, s_placeOf g2 h, c1, hneg]
  · have hp : p < l.length := by omega
    have hs := split_at hp
    have hl : (l.take p).length = p := by simp <;> omega
    obtain ⟨σ', e1, e2, e3⟩ := l_last (X := X) (y := y) ha (l.drop (p + 1)) (l.take p) σ (.int (nI p)) (by rw [← hs]; exact h)
    rw [hl] at e1
    refine ⟨σ', fun Q => ?_, ?_, e3⟩
    · simp (disch := omega) only [q_2_0, q_2_1, q_2_4, q_2_5, q_2_8, q_2_9, q_2_10, q_2_13, q_2_14, q_2_15, q_2_17, q_2_18, q_2_21, q_2_24, q_2_25, q_2_26, q_2_29, q_2_30, q_2_33, q_2_34, q_2_37, q_2_40, q_2_43, vinT, iClamp, clr_i, clr_l, clr_r, clr_n, true_and, and_true, or_true, true_or, false_or, or_false, iLe, iLt, iEq, iAdd, iMul, List.cons_append, List.nil_append, List.append_nil, zb0, zb1, if_true, if_false, not_true_eq_false, not_false_eq_true, Bool.false_eq_true, Nat.one_ne_zero, Nat.zero_ne_one, Nat.reduceEqDiff, Nat.reduceAdd, if_pos, if_neg, ha, g2, s_placeOf g2 h, c3]
      exact e1 Q
    · have hn9 : ¬ nI p = -9 := by
        intro e
        have : nI 0 ≤ nI p := by rw [iLe (by omega) (by omega)]; omega
        rw [e] at this
        exact absurd this (by decide)
      rw [mvL, c3, if_neg hn9, iClamp (by omega), List.eraseIdx_eq_take_drop_succ]
      exact e2
/-- to the ends by turns -/
def spL (l : List Nat) : List Nat := (List.range l.length).map (fun p => l.getD (if 2 * p < l.length then 2 * p else 2 * (l.length - 1 - p) + 1) 0)
theorem spL_at {l : List Nat} {p : Nat} (h : p < l.length) : (spL l).getD p 0 = l.getD (if 2 * p < l.length then 2 * p else 2 * (l.length - 1 - p) + 1) 0 := by
  rw [spL, List.getD_eq_getElem?_getD, List.getElem?_map, List.getElem?_range h]
  rfl
theorem spL_len (l : List Nat) : (spL l).length = l.length := by simp [spL]
def spP (n i : Nat) : Nat := if i % 2 = 0 then i / 2 else n - 1 - i / 2
theorem iRem2 {i : Nat} (h : i < 2147483648) : nI i - nI i / nI 2 * nI 2 = nI (i % 2) := pk_rem h (by omega) (by omega)
theorem iDiv2 {i : Nat} (h : i < 2147483648) : nI i / nI 2 = nI (i / 2) := pk_div h (by omega) (by omega)
theorem l_spread {X : Nat × (Nat → Int32)} {a : Nat} {l : List Nat} (ha : cK a = 0) : ∀ m i (σ : Mem) (v : Value), i + m = l.length → RI σ (a + 1 + 1) l → ∃ σ', (∀ Q, Rn X 3 13 [.ref a, .int (nI l.length), .int (nI i), v] [] σ Q ↔ Q [] σ') ∧ (∀ j, i ≤ j → j < l.length → σ'.1 (a + 5 + 1) (spP l.length j) = nI (l.getD j 0)) ∧ (∀ j, j < i → σ'.1 (a + 5 + 1) (spP l.length j) = σ.1 (a + 5 + 1) (spP l.length j)) ∧ Off [a + 5 + 1] σ σ' := by
  obtain ⟨g1, g2, g3, g4⟩ := Fa0 ha
  obtain ⟨f1, f2⟩ := F5 g2
  obtain ⟨f3, f4⟩ := F5 g3
  intro m
  induction m with
  | zero =>
    intro i σ v hi h
    obtain ⟨h1, h2, h3⟩ := id h
    refine ⟨σ, fun Q => ?_, fun j a1 a2 => absurd a2 (by omega), fun j _ => rfl, Off.rf _ _⟩
    rw [q_3_13]
    simp (disch := omega) only [q_3_0, q_3_1, q_3_4, q_3_7, q_3_10, q_3_11, q_3_12, q_3_14, q_3_15, q_3_18, q_3_19, q_3_20, q_3_21, q_3_24, q_3_25, q_3_26, q_3_27, q_3_30, q_3_31, q_3_32, q_3_33, q_3_34, q_3_35, q_3_36, q_3_37, q_3_38, q_3_39, q_3_42, q_3_45, q_3_46, q_3_47, q_3_50, q_3_53, q_3_56, q_3_57, q_3_58, q_3_59, q_3_62, q_3_65, vinT, iClamp, clr_i, clr_l, clr_r, clr_n, true_and, and_true, or_true, true_or, false_or, or_false, iLe, iLt, iEq, iAdd, iMul, List.cons_append, List.nil_append, List.append_nil, zb0, zb1, if_true, if_false, not_true_eq_false, not_false_eq_true, Bool.false_eq_true, Nat.one_ne_zero, Nat.zero_ne_one, Nat.reduceEqDiff, Nat.reduceAdd, if_pos, if_neg]
  | succ m ih =>
    intro i σ v hi h
    obtain ⟨h1, h2, h3⟩ := id h
    have hpl : spP l.length i < 7 := by unfold spP; split <;> omega
    have ho : Off [a + 5 + 1] σ (sI σ (a + 5 + 1) (spP l.length i) (nI (l.getD i 0))) := (Off.rf _ σ).sI (by simp) _ _
    obtain ⟨σ', e1, e2, e3, e4⟩ := ih (i + 1) _ (.int (nI (spP l.length i))) (by omega) (RI_off h ho (by simp <;> omega) (by simp <;> omega))
    refine ⟨σ', fun Q => ?_, fun j a1 a2 => ?_, fun j hj => ?_, ho.tr e4⟩
    · rw [q_3_13]
      have hv := (h3 i (by omega)).1
      by_cases c : i % 2 = 0
      · have hsp : spP l.length i = i / 2 := by rw [spP, if_pos c]
        rw [hsp] at e1
        simp (disch := omega) only [q_3_0, q_3_1, q_3_4, q_3_7, q_3_10, q_3_11, q_3_12, q_3_14, q_3_15, q_3_18, q_3_19, q_3_20, q_3_21, q_3_24, q_3_25, q_3_26, q_3_27, q_3_30, q_3_31, q_3_32, q_3_33, q_3_34, q_3_35, q_3_36, q_3_37, q_3_38, q_3_39, q_3_42, q_3_45, q_3_46, q_3_47, q_3_50, q_3_53, q_3_56, q_3_57, q_3_58, q_3_59, q_3_62, q_3_65, vinT, iClamp, clr_i, clr_l, clr_r, clr_n, true_and, and_true, or_true, true_or, false_or, or_false, iLe, iLt, iEq, iAdd, iMul, List.cons_append, List.nil_append, List.append_nil, zb0, zb1, if_true, if_false, not_true_eq_false, not_false_eq_true, Bool.false_eq_true, Nat.one_ne_zero, Nat.zero_ne_one, Nat.reduceEqDiff, Nat.reduceAdd, if_pos, if_neg, ha, g1, g2, g3, f1, f2, f3, f4, hv, iSub, iDiv2, c]
        exact e1 Q
      · have hsp : spP l.length i = l.length - 1 - i / 2 := by rw [spP, if_neg c]
        rw [hsp] at e1
        simp (disch := omega) only [q_3_0, q_3_1, q_3_4, q_3_7, q_3_10, q_3_11, q_3_12, q_3_14, q_3_15, q_3_18, q_3_19, q_3_20, q_3_21, q_3_24, q_3_25, q_3_26, q_3_27, q_3_30, q_3_31, q_3_32, q_3_33, q_3_34, q_3_35, q_3_36, q_3_37, q_3_38, q_3_39, q_3_42, q_3_45, q_3_46, q_3_47, q_3_50, q_3_53, q_3_56, q_3_57, q_3_58, q_3_59, q_3_62, q_3_65, vinT, iClamp, clr_i, clr_l, clr_r, clr_n, true_and, and_true, or_true, true_or, false_or, or_false, iLe, iLt, iEq, iAdd, iMul, List.cons_append, List.nil_append, List.append_nil, zb0, zb1, if_true, if_false, not_true_eq_false, not_false_eq_true, Bool.false_eq_true, Nat.one_ne_zero, Nat.zero_ne_one, Nat.reduceEqDiff, Nat.reduceAdd, if_pos, if_neg, ha, g1, g2, g3, f1, f2, f3, f4, hv, iDiv2, c, iSub]
        exact e1 Q
    · by_cases c : j = i
      · subst c
        rw [e3 j (by omega), sI_at]
      · exact e2 j (by omega) a2
    · rw [e3 j (by omega), sI_off]
      right
      unfold spP
      split <;> split <;> omega
theorem s_spread {X : Nat × (Nat → Int32)} {σ : Mem} {a : Nat} {l m : List Nat} {u v w : Value} (ha : cK a = 0) (h : RI σ (a + 1 + 1) l) (h' : RI σ (a + 5) m) (hm : m.length = l.length) : ∃ σ', Ev X 3 [.ref a, u, v, w] σ [] σ' ∧ RI σ' (a + 5) (spL l) ∧ Off [a + 5 + 1] σ σ' := by
  obtain ⟨g1, g2, g3, g4⟩ := Fa0 ha
  obtain ⟨σ', e1, e2, e3, e4⟩ := l_spread (X := X) (l := l) ha l.length 0 σ w (by omega) h
  obtain ⟨h1, h2, h3⟩ := h
  refine ⟨σ', fun Q => ?_, ⟨by rw [spL_len]; exact h1, ?_, fun j hj => ?_⟩, e4⟩
  · simp (disch := omega) only [q_3_0, q_3_1, q_3_4, q_3_7, q_3_10, q_3_11, q_3_12, vinT, iClamp, clr_i, clr_l, clr_r, clr_n, true_and, and_true, or_true, true_or, false_or, or_false, iLe, iLt, iEq, iAdd, iMul, List.cons_append, List.nil_append, List.append_nil, zb0, zb1, if_true, if_false, not_true_eq_false, not_false_eq_true, Bool.false_eq_true, Nat.one_ne_zero, Nat.zero_ne_one, Nat.reduceEqDiff, Nat.reduceAdd, if_pos, if_neg, ha, g1, g3, h2]
    exact e1 Q
  · rw [(e4 (a + 5) (by simp)).1, h'.2.1, spL_len, hm]
  · rw [spL_len] at hj
    rw [spL_at hj]
    by_cases c : 2 * j < l.length
    · rw [if_pos c]
      have h9 := e2 (2 * j) (by omega) c
      rw [spP, if_pos (by omega), show 2 * j / 2 = j by omega] at h9
      exact ⟨h9, (h3 _ c).2⟩
    · rw [if_neg c]
      have h9 := e2 (2 * (l.length - 1 - j) + 1) (by omega) (by omega)
      rw [spP, if_neg (by omega), show l.length - 1 - (2 * (l.length - 1 - j) + 1) / 2 = j by omega] at h9
      exact ⟨h9, (h3 _ (by omega)).2⟩
/-- a row as a custom has it -/
def arrL (c : Nat) (N : Nat → Int64) (ro : Int32) (l : List Nat) : List Nat := if c = 2 then mvL (srt (nmB 0 N) l) ro else if c = 3 then spL (srt (nmB 0 N) l) else srt (nmB (if c = 1 then 1 else 0) N) l
theorem s_arrange {X : Nat × (Nat → Int32)} {σ : Mem} {a k c : Nat} {l : List Nat} {N : Nat → Int64} {y : Int32} (ha : cK a = 0) (hk : cK k = 2) (hc : c < 4) (h : RI σ (k + 9) l) (hN : ∀ p, p < 7 → σ.2 (k + 11) p = N p) : ∃ σ', Ev X 0 [.ref a, .ref k, .int (nI c), .int y] σ [.ref (a + 5)] σ' ∧ RI σ' (a + 5) (arrL c N y l) ∧ Off [a + 1 + 1, a + 1 + 2, a + 1 + 3, a + 5, a + 5 + 1] σ σ' := by
  obtain ⟨g1, g2, g3, g4⟩ := Fa0 ha
  obtain ⟨σ1, e1, e2, e3⟩ := s_sort (X := X) (v := .null) (w := .null) (b := if c = 1 then 1 else 0) ha hk (by split <;> simp) h hN
  obtain ⟨σ2, i1, i2, i3⟩ := s_copy (X := X) (v := .null) (r := a + 5) (o := a + 1 + 1) g2 g3 (by omega) e2
  have e2' := RI_off e2 i3 (by simp <;> omega) (by simp <;> omega)
  have ho : Off [a + 1 + 1, a + 1 + 2, a + 1 + 3, a + 5, a + 5 + 1] σ σ2 := (e3.mono (by simp <;> omega)).tr (i3.mono (by simp))
  have e1' := fun Q => e1 Q
  have i1' := fun Q => i1 Q
  by_cases c1 : c = 1
  · subst c1
    refine ⟨σ2, fun Q => ?_, i2, ho⟩
    rw [if_pos rfl] at e1'
    simp (disch := omega) only [q_0_0, q_0_1, q_0_2, q_0_3, q_0_4, q_0_7, q_0_8, q_0_11, q_0_12, q_0_15, q_0_16, q_0_19, q_0_20, q_0_23, q_0_26, q_0_29, q_0_30, q_0_31, q_0_34, q_0_35, q_0_36, q_0_39, q_0_40, q_0_41, q_0_44, q_0_45, q_0_48, q_0_49, q_0_52, vinT, iClamp, clr_i, clr_l, clr_r, clr_n, true_and, and_true, or_true, true_or, false_or, or_false, iLe, iLt, iEq, iAdd, iMul, List.cons_append, List.nil_append, List.append_nil, zb0, zb1, if_true, if_false, not_true_eq_false, not_false_eq_true, Bool.false_eq_true, Nat.one_ne_zero, Nat.zero_ne_one, Nat.reduceEqDiff, Nat.reduceAdd, if_pos, if_neg, ha, g1, g2, g3, e1', i1']
  · rw [if_neg c1] at e1' i2 e2'
    by_cases c2 : c = 2
    · subst c2
      obtain ⟨σ3, j1, j2, j3⟩ := s_putLast (X := X) (y := y) (v := .null) (w := .null) ha i2
      have j1' := fun Q => j1 Q
      refine ⟨σ3, fun Q => ?_, j2, ho.tr (j3.mono (by simp))⟩
      simp (disch := omega) only [q_0_0, q_0_1, q_0_2, q_0_3, q_0_4, q_0_7, q_0_8, q_0_11, q_0_12, q_0_15, q_0_16, q_0_19, q_0_20, q_0_23, q_0_26, q_0_29, q_0_30, q_0_31, q_0_34, q_0_35, q_0_36, q_0_39, q_0_40, q_0_41, q_0_44, q_0_45, q_0_48, q_0_49, q_0_52, vinT, iClamp, clr_i, clr_l, clr_r, clr_n, true_and, and_true, or_true, true_or, false_or, or_false, iLe, iLt, iEq, iAdd, iMul, List.cons_append, List.nil_append, List.append_nil, zb0, zb1, if_true, if_false, not_true_eq_false, not_false_eq_true, Bool.false_eq_true, Nat.one_ne_zero, Nat.zero_ne_one, Nat.reduceEqDiff, Nat.reduceAdd, if_pos, if_neg, ha, g1, g2, g3, e1', i1', j1']
    · by_cases c3 : c = 3
      · subst c3
        obtain ⟨σ3, j1, j2, j3⟩ := s_spread (X := X) (u := .null) (v := .null) (w := .null) ha e2' i2 rfl
        have j1' := fun Q => j1 Q
        refine ⟨σ3, fun Q => ?_, j2, ho.tr (j3.mono (by simp))⟩
        simp (disch := omega) only [q_0_0, q_0_1, q_0_2, q_0_3, q_0_4, q_0_7, q_0_8, q_0_11, q_0_12, q_0_15, q_0_16, q_0_19, q_0_20, q_0_23, q_0_26, q_0_29, q_0_30, q_0_31, q_0_34, q_0_35, q_0_36, q_0_39, q_0_40, q_0_41, q_0_44, q_0_45, q_0_48, q_0_49, q_0_52, vinT, iClamp, clr_i, clr_l, clr_r, clr_n, true_and, and_true, or_true, true_or, false_or, or_false, iLe, iLt, iEq, iAdd, iMul, List.cons_append, List.nil_append, List.append_nil, zb0, zb1, if_true, if_false, not_true_eq_false, not_false_eq_true, Bool.false_eq_true, Nat.one_ne_zero, Nat.zero_ne_one, Nat.reduceEqDiff, Nat.reduceAdd, if_pos, if_neg, ha, g1, g2, g3, e1', i1', j1']
      · have c0 : c = 0 := by omega
        subst c0
        refine ⟨σ2, fun Q => ?_, i2, ho⟩
        simp (disch := omega) only [q_0_0, q_0_1, q_0_2, q_0_3, q_0_4, q_0_7, q_0_8, q_0_11, q_0_12, q_0_15, q_0_16, q_0_19, q_0_20, q_0_23, q_0_26, q_0_29, q_0_30, q_0_31, q_0_34, q_0_35, q_0_36, q_0_39, q_0_40, q_0_41, q_0_44, q_0_45, q_0_48, q_0_49, q_0_52, vinT, iClamp, clr_i, clr_l, clr_r, clr_n, true_and, and_true, or_true, true_or, false_or, or_false, iLe, iLt, iEq, iAdd, iMul, List.cons_append, List.nil_append, List.append_nil, zb0, zb1, if_true, if_false, not_true_eq_false, not_false_eq_true, Bool.false_eq_true, Nat.one_ne_zero, Nat.zero_ne_one, Nat.reduceEqDiff, Nat.reduceAdd, if_pos, if_neg, ha, g1, g2, g3, e1', i1']
