/-! ===== the reference: setting ===== -/
theorem MI_tr {σ : Mem} {a : AS} {p v : Nat} (hp : p < 8) (h : MI σ a) : MI (sI σ 128 p (nI v)) (setTr a p v) := by
  obtain ⟨m1, m2, m3, m4, m5, m6, m7, m8, m9, m10⟩ := h
  refine ⟨?_, fun p hp t ht => by rw [sI_off (by omega)]; exact m2 p hp t ht, fun p hp t ht => by rw [sI_off (by omega)]; exact m3 p hp t ht, fun p hp t ht q hq => by rw [sI_off (by omega)]; exact m4 p hp t ht q hq, fun p hp => by rw [sI_off (by omega)]; exact m5 p hp, fun p hp j hj => by rw [sI_off (by omega)]; exact m6 p hp j hj, fun t ht => by rw [sI_off (by omega)]; exact m7 t ht, fun p hp q hq => by rw [sI_off (by omega)]; exact m8 p hp q hq, fun x hx y hy => by rw [sI_off (by omega)]; exact m9 x hx y hy, fun x hx => by rw [sI_off (by omega)]; exact m10 x hx⟩
  intro x hx
  by_cases e : x = p
  · subst e
    have e2 : tr (setTr a x v) x = v := by simp [setTr, tr, u1_at]
    rw [sI_at, e2]
  · have e2 : tr (setTr a p v) x = tr a x := by simp [setTr, tr, u1_ne e]
    rw [sI_off (by omega), e2]; exact m1 x hx
theorem MI_wt {σ : Mem} {a : AS} {p t v : Nat} (hp : p < 8) (ht : t < 4) (h : MI σ a) : MI (sI σ 129 (4 * p + t) (nI v)) (setWt a p t v) := by
  obtain ⟨m1, m2, m3, m4, m5, m6, m7, m8, m9, m10⟩ := h
  refine ⟨fun p hp => by rw [sI_off (by omega)]; exact m1 p hp, ?_, fun p hp t ht => by rw [sI_off (by omega)]; exact m3 p hp t ht, fun p hp t ht q hq => by rw [sI_off (by omega)]; exact m4 p hp t ht q hq, fun p hp => by rw [sI_off (by omega)]; exact m5 p hp, fun p hp j hj => by rw [sI_off (by omega)]; exact m6 p hp j hj, fun t ht => by rw [sI_off (by omega)]; exact m7 t ht, fun p hp q hq => by rw [sI_off (by omega)]; exact m8 p hp q hq, fun x hx y hy => by rw [sI_off (by omega)]; exact m9 x hx y hy, fun x hx => by rw [sI_off (by omega)]; exact m10 x hx⟩
  intro x hx s hs
  by_cases e : x = p
  · subst e
    by_cases e1 : s = t
    · subst e1
      have e2 : wt (setWt a x s v) x s = v := by simp [setWt, wt, u1_at]
      rw [sI_at, e2]
    · have e2 : wt (setWt a x t v) x s = wt a x s := by simp [setWt, wt, u1_at, u1_ne e1]
      rw [sI_off (by omega), e2]; exact m2 x hx s hs
  · have e2 : wt (setWt a p t v) x = wt a x := by simp [setWt, wt, u1_ne e]
    rw [sI_off (by omega), e2]; exact m2 x hx s hs
theorem MI_co {σ : Mem} {a : AS} {p t v : Nat} (hp : p < 8) (ht : t < 4) (h : MI σ a) : MI (sI σ 130 (4 * p + t) (nI v)) (setCo a p t v) := by
  obtain ⟨m1, m2, m3, m4, m5, m6, m7, m8, m9, m10⟩ := h
  refine ⟨fun p hp => by rw [sI_off (by omega)]; exact m1 p hp, fun p hp t ht => by rw [sI_off (by omega)]; exact m2 p hp t ht, ?_, fun p hp t ht q hq => by rw [sI_off (by omega)]; exact m4 p hp t ht q hq, fun p hp => by rw [sI_off (by omega)]; exact m5 p hp, fun p hp j hj => by rw [sI_off (by omega)]; exact m6 p hp j hj, fun t ht => by rw [sI_off (by omega)]; exact m7 t ht, fun p hp q hq => by rw [sI_off (by omega)]; exact m8 p hp q hq, fun x hx y hy => by rw [sI_off (by omega)]; exact m9 x hx y hy, fun x hx => by rw [sI_off (by omega)]; exact m10 x hx⟩
  intro x hx s hs
  by_cases e : x = p
  · subst e
    by_cases e1 : s = t
    · subst e1
      have e2 : co (setCo a x s v) x s = v := by simp [setCo, co, u1_at]
      rw [sI_at, e2]
    · have e2 : co (setCo a x t v) x s = co a x s := by simp [setCo, co, u1_at, u1_ne e1]
      rw [sI_off (by omega), e2]; exact m3 x hx s hs
  · have e2 : co (setCo a p t v) x = co a x := by simp [setCo, co, u1_ne e]
    rw [sI_off (by omega), e2]; exact m3 x hx s hs
theorem MI_hr {σ : Mem} {a : AS} {p t q v : Nat} (hp : p < 8) (ht : t < 4) (hq : q < 7) (h : MI σ a) : MI (sI σ 131 (7 * (4 * p + t) + q) (nI v)) (setHr a p t q v) := by
  obtain ⟨m1, m2, m3, m4, m5, m6, m7, m8, m9, m10⟩ := h
  refine ⟨fun p hp => by rw [sI_off (by omega)]; exact m1 p hp, fun p hp t ht => by rw [sI_off (by omega)]; exact m2 p hp t ht, fun p hp t ht => by rw [sI_off (by omega)]; exact m3 p hp t ht, ?_, fun p hp => by rw [sI_off (by omega)]; exact m5 p hp, fun p hp j hj => by rw [sI_off (by omega)]; exact m6 p hp j hj, fun t ht => by rw [sI_off (by omega)]; exact m7 t ht, fun p hp q hq => by rw [sI_off (by omega)]; exact m8 p hp q hq, fun x hx y hy => by rw [sI_off (by omega)]; exact m9 x hx y hy, fun x hx => by rw [sI_off (by omega)]; exact m10 x hx⟩
  intro x hx s hs y hy
  by_cases e : x = p
  · subst e
    by_cases e1 : s = t
    · subst e1
      by_cases e3 : y = q
      · subst e3
        have e2 : hr (setHr a x s y v) x s y = v := by simp [setHr, hr, u1_at]
        rw [sI_at, e2]
      · have e2 : hr (setHr a x s q v) x s y = hr a x s y := by simp [setHr, hr, u1_at, u1_ne e3]
        rw [sI_off (by omega), e2]; exact m4 x hx s hs y hy
    · have e2 : hr (setHr a x t q v) x s = hr a x s := by simp [setHr, hr, u1_at, u1_ne e1]
      rw [sI_off (by omega), e2]; exact m4 x hx s hs y hy
  · have e2 : hr (setHr a p t q v) x = hr a x := by simp [setHr, hr, u1_ne e]
    rw [sI_off (by omega), e2]; exact m4 x hx s hs y hy
theorem MI_cl {σ : Mem} {a : AS} {p q v : Nat} (hp : p < 8) (hq : q < 7) (h : MI σ a) : MI (sI σ 140 (7 * p + q) (nI v)) (setCl a p q v) := by
  obtain ⟨m1, m2, m3, m4, m5, m6, m7, m8, m9, m10⟩ := h
  refine ⟨fun p hp => by rw [sI_off (by omega)]; exact m1 p hp, fun p hp t ht => by rw [sI_off (by omega)]; exact m2 p hp t ht, fun p hp t ht => by rw [sI_off (by omega)]; exact m3 p hp t ht, fun p hp t ht q hq => by rw [sI_off (by omega)]; exact m4 p hp t ht q hq, fun p hp => by rw [sI_off (by omega)]; exact m5 p hp, fun p hp j hj => by rw [sI_off (by omega)]; exact m6 p hp j hj, fun t ht => by rw [sI_off (by omega)]; exact m7 t ht, ?_, fun x hx y hy => by rw [sI_off (by omega)]; exact m9 x hx y hy, fun x hx => by rw [sI_off (by omega)]; exact m10 x hx⟩
  intro x hx y hy
  by_cases e : x = p
  · subst e
    by_cases e3 : y = q
    · subst e3
      have e2 : cl (setCl a x y v) x y = v := by simp [setCl, cl, u1_at]
      rw [sI_at, e2]
    · have e2 : cl (setCl a x q v) x y = cl a x y := by simp [setCl, cl, u1_at, u1_ne e3]
      rw [sI_off (by omega), e2]; exact m8 x hx y hy
  · have e2 : cl (setCl a p q v) x = cl a x := by simp [setCl, cl, u1_ne e]
    rw [sI_off (by omega), e2]; exact m8 x hx y hy
theorem MI_mi {σ : Mem} {a : AS} {p q v : Nat} (hp : p < 7) (hq : q < 7) (h : MI σ a) : MI (sI σ 142 (7 * p + q) (nI v)) (setMi a p q v) := by
  obtain ⟨m1, m2, m3, m4, m5, m6, m7, m8, m9, m10⟩ := h
  refine ⟨fun p hp => by rw [sI_off (by omega)]; exact m1 p hp, fun p hp t ht => by rw [sI_off (by omega)]; exact m2 p hp t ht, fun p hp t ht => by rw [sI_off (by omega)]; exact m3 p hp t ht, fun p hp t ht q hq => by rw [sI_off (by omega)]; exact m4 p hp t ht q hq, fun p hp => by rw [sI_off (by omega)]; exact m5 p hp, fun p hp j hj => by rw [sI_off (by omega)]; exact m6 p hp j hj, fun t ht => by rw [sI_off (by omega)]; exact m7 t ht, fun p hp q hq => by rw [sI_off (by omega)]; exact m8 p hp q hq, ?_, fun x hx => by rw [sI_off (by omega)]; exact m10 x hx⟩
  intro x hx y hy
  by_cases e : x = p
  · subst e
    by_cases e3 : y = q
    · subst e3
      have e2 : mi (setMi a x y v) x y = v := by simp [setMi, mi, u1_at]
      rw [sI_at, e2]
    · have e2 : mi (setMi a x q v) x y = mi a x y := by simp [setMi, mi, u1_at, u1_ne e3]
      rw [sI_off (by omega), e2]; exact m9 x hx y hy
  · have e2 : mi (setMi a p q v) x = mi a x := by simp [setMi, mi, u1_ne e]
    rw [sI_off (by omega), e2]; exact m9 x hx y hy
theorem MI_be {σ : Mem} {a : AS} {p v : Nat} (hp : p < 7) (h : MI σ a) : MI (sI σ 143 p (nI v)) (setBe a p v) := by
  obtain ⟨m1, m2, m3, m4, m5, m6, m7, m8, m9, m10⟩ := h
  refine ⟨fun p hp => by rw [sI_off (by omega)]; exact m1 p hp, fun p hp t ht => by rw [sI_off (by omega)]; exact m2 p hp t ht, fun p hp t ht => by rw [sI_off (by omega)]; exact m3 p hp t ht, fun p hp t ht q hq => by rw [sI_off (by omega)]; exact m4 p hp t ht q hq, fun p hp => by rw [sI_off (by omega)]; exact m5 p hp, fun p hp j hj => by rw [sI_off (by omega)]; exact m6 p hp j hj, fun t ht => by rw [sI_off (by omega)]; exact m7 t ht, fun p hp q hq => by rw [sI_off (by omega)]; exact m8 p hp q hq, fun x hx y hy => by rw [sI_off (by omega)]; exact m9 x hx y hy, ?_⟩
  intro x hx
  by_cases e : x = p
  · subst e
    have e2 : be (setBe a x v) x = v := by simp [setBe, be, u1_at]
    rw [sI_at, e2]
  · have e2 : be (setBe a p v) x = be a x := by simp [setBe, be, u1_ne e]
    rw [sI_off (by omega), e2]; exact m10 x hx
theorem MI_rm {σ : Mem} {a : AS} {p : Nat} {v : Int32} (hp : p < 3) (h : MI σ a) : MI (sI σ 135 p v) (setRm a p v) := by
  obtain ⟨m1, m2, m3, m4, m5, m6, m7, m8, m9, m10⟩ := h
  refine ⟨fun p hp => by rw [sI_off (by omega)]; exact m1 p hp, fun p hp t ht => by rw [sI_off (by omega)]; exact m2 p hp t ht, fun p hp t ht => by rw [sI_off (by omega)]; exact m3 p hp t ht, fun p hp t ht q hq => by rw [sI_off (by omega)]; exact m4 p hp t ht q hq, fun p hp => by rw [sI_off (by omega)]; exact m5 p hp, fun p hp j hj => by rw [sI_off (by omega)]; exact m6 p hp j hj, ?_, fun p hp q hq => by rw [sI_off (by omega)]; exact m8 p hp q hq, fun x hx y hy => by rw [sI_off (by omega)]; exact m9 x hx y hy, fun x hx => by rw [sI_off (by omega)]; exact m10 x hx⟩
  intro x hx
  by_cases e : x = p
  · subst e
    have e2 : rm (setRm a x v) x = v := by simp [setRm, rm, u1_at]
    rw [sI_at, e2]
  · have e2 : rm (setRm a p v) x = rm a x := by simp [setRm, rm, u1_ne e]
    rw [sI_off (by omega), e2]; exact m7 x hx
theorem MI_ro {σ σ' : Mem} {a : AS} {p : Nat} {l : List Nat} (hp : p < 8) (h : MI σ a) (ho : Off [132, 133] σ σ') (o6 : ∀ x, x < 8 → (ro a x).length ≤ 7) (h1 : ∀ x, x ≠ p → σ'.1 132 x = σ.1 132 x) (h2 : ∀ j, (j < 7 * p ∨ 7 * p + 7 ≤ j) → σ'.1 133 j = σ.1 133 j) (h3 : σ'.1 132 p = nI l.length) (h4 : ∀ j, j < l.length → σ'.1 133 (7 * p + j) = nI (l.getD j 0)) : MI σ' (setRo a p l) := by
  obtain ⟨m1, m2, m3, m4, m5, m6, m7, m8, m9, m10⟩ := h
  refine ⟨?_, ?_, ?_, ?_, ?_, ?_, ?_, ?_, ?_, ?_⟩
  · rw [(ho 128 (by simp)).1]; exact m1
  · rw [(ho 129 (by simp)).1]; exact m2
  · rw [(ho 130 (by simp)).1]; exact m3
  · rw [(ho 131 (by simp)).1]; exact m4
  · intro x hx
    by_cases e : x = p
    · subst e
      have e2 : ro (setRo a x l) x = l := by simp [setRo, ro, u1_at]
      rw [e2]; exact h3
    · have e2 : ro (setRo a p l) x = ro a x := by simp [setRo, ro, u1_ne e]
      rw [e2, h1 x e]; exact m5 x hx
  · intro x hx j hj
    by_cases e : x = p
    · subst e
      have e2 : ro (setRo a x l) x = l := by simp [setRo, ro, u1_at]
      rw [e2] at hj ⊢; exact h4 j hj
    · have e2 : ro (setRo a p l) x = ro a x := by simp [setRo, ro, u1_ne e]
      rw [e2] at hj ⊢
      have := o6 x hx
      rw [h2 _ (by omega)]; exact m6 x hx j hj
  · rw [(ho 135 (by simp)).1]; exact m7
  · rw [(ho 140 (by simp)).1]; exact m8
  · rw [(ho 142 (by simp)).1]; exact m9
  · rw [(ho 143 (by simp)).1]; exact m10
theorem m_Tr {X : Nat × (Nat → Int32)} {σ : Mem} {a : AS} {x v : Int32} {w0 : Value} (ok : AOK a) (h : MI σ a) : ∃ σ', Ev X 108 [.ref 127, .int x, .int v, w0] σ [.int (anTr a x v)] σ' ∧ MI σ' (nxTr a x v) ∧ Hi σ σ' := by
  by_cases cc0 : inR x 8
  · have e0 : b2 (inR x 8) = nI 1 := b2_t cc0
    by_cases cc1 : inR v 3
    · have e1 : b2 (inR v 3) = nI 1 := b2_t cc1
      obtain ⟨p, hp, rfl⟩ := inR_of cc0 (by omega)
      obtain ⟨t, ht, rfl⟩ := inR_of cc1 (by omega)
      have ea : anTr a (nI p) (nI t) = nI (tr a p) := by
        rw [anTr, if_pos cc0, if_pos cc1]
        simp (disch := omega) only [tn_nI]
      have en : nxTr a (nI p) (nI t) = setTr a p t := by
        rw [nxTr, if_pos ⟨cc0, cc1⟩]
        simp (disch := omega) only [tn_nI]
      rw [ea, en]
      obtain ⟨m1, m2, m3, m4, m5, m6, m7, m8, m9, m10⟩ := id h
      refine ⟨sI σ 128 p (nI t), fun Q => ?_, MI_tr hp h, ((Off.rf [128] σ).sI (by simp) _ _).hi (by simp)⟩
      simp (disch := omega) only [q_108_0, q_108_1, q_108_4, q_108_7, q_108_8, q_108_9, q_108_10, q_108_13, q_108_16, q_108_18, q_108_19, q_108_20, q_108_23, q_108_24, q_108_25, q_108_26, q_108_27, q_108_30, q_108_31, q_108_32, q_108_33, q_108_34, vinT, iClamp, clr_i, clr_l, clr_r, clr_n, true_and, and_true, or_true, true_or, false_or, or_false, iLe, iLt, iEq, iAdd, iMul, List.cons_append, List.nil_append, List.append_nil, zb0, zb1, if_true, if_false, not_true_eq_false, not_false_eq_true, Bool.false_eq_true, Nat.one_ne_zero, Nat.zero_ne_one, Nat.reduceEqDiff, Nat.reduceAdd, if_pos, if_neg, s_isPaperM, s_isTradeM, e0, e1, m127, m128k, m128n, m129k, m129n, m130k, m130n, m131k, m131n, m132k, m132n, m133k, m133n, m134k, m134n, m135k, m135n, m136k, m136n, m137k, m137n, m138k, m138n, m139k, m139n, m140k, m140n, m141k, m141n, m142k, m142n, m143k, m143n, m144k, m144n, m145k, m145n, m146k, m146n, m1 p hp]
    · have e1 : b2 (inR v 3) = nI 0 := b2_f cc1
      refine ⟨σ, fun Q => ?_, by rw [nxTr, if_neg (fun q => cc1 q.2)]; exact h, Hi.rf σ⟩
      rw [anTr, if_pos cc0, if_neg cc1]
      simp (disch := omega) only [q_108_0, q_108_1, q_108_4, q_108_7, q_108_8, q_108_9, q_108_10, q_108_13, q_108_16, q_108_18, q_108_19, q_108_20, q_108_23, q_108_24, q_108_25, q_108_26, q_108_27, q_108_30, q_108_31, q_108_32, q_108_33, q_108_34, vinT, iClamp, clr_i, clr_l, clr_r, clr_n, true_and, and_true, or_true, true_or, false_or, or_false, iLe, iLt, iEq, iAdd, iMul, List.cons_append, List.nil_append, List.append_nil, zb0, zb1, if_true, if_false, not_true_eq_false, not_false_eq_true, Bool.false_eq_true, Nat.one_ne_zero, Nat.zero_ne_one, Nat.reduceEqDiff, Nat.reduceAdd, if_pos, if_neg, s_isPaperM, s_isTradeM, e0, e1]
  · have e0 : b2 (inR x 8) = nI 0 := b2_f cc0
    refine ⟨σ, fun Q => ?_, by rw [nxTr, if_neg (fun q => cc0 q.1)]; exact h, Hi.rf σ⟩
    rw [anTr, if_neg cc0]
    simp (disch := omega) only [q_108_0, q_108_1, q_108_4, q_108_7, q_108_8, q_108_9, q_108_10, q_108_13, q_108_16, q_108_18, q_108_19, q_108_20, q_108_23, q_108_24, q_108_25, q_108_26, q_108_27, q_108_30, q_108_31, q_108_32, q_108_33, q_108_34, vinT, iClamp, clr_i, clr_l, clr_r, clr_n, true_and, and_true, or_true, true_or, false_or, or_false, iLe, iLt, iEq, iAdd, iMul, List.cons_append, List.nil_append, List.append_nil, zb0, zb1, if_true, if_false, not_true_eq_false, not_false_eq_true, Bool.false_eq_true, Nat.one_ne_zero, Nat.zero_ne_one, Nat.reduceEqDiff, Nat.reduceAdd, if_pos, if_neg, s_isPaperM, s_isTradeM, e0]
theorem m_Cl {X : Nat × (Nat → Int32)} {σ : Mem} {a : AS} {x q v : Int32} {w0 : Value} (ok : AOK a) (h : MI σ a) : ∃ σ', Ev X 140 [.ref 127, .int x, .int q, .int v, w0] σ [.int (anCl a x q v)] σ' ∧ MI σ' (nxCl a x q v) ∧ Hi σ σ' := by
  by_cases cc0 : inR x 8
  · have e0 : b2 (inR x 8) = nI 1 := b2_t cc0
    by_cases cc1 : inR q 7
    · have e1 : b2 (inR q 7) = nI 1 := b2_t cc1
      by_cases cc2 : inQ v 100
      · have e2 : b2 (inQ v 100) = nI 1 := b2_t cc2
        obtain ⟨p, hp, rfl⟩ := inR_of cc0 (by omega)
        obtain ⟨j, hj, rfl⟩ := inR_of cc1 (by omega)
        obtain ⟨t, ht, rfl⟩ := inQ_of cc2 (by omega)
        have ea : anCl a (nI p) (nI j) (nI t) = nI (cl a p j) := by
          rw [anCl, if_pos cc0, if_pos cc1, if_pos cc2]
          simp (disch := omega) only [tn_nI]
        have en : nxCl a (nI p) (nI j) (nI t) = setCl a p j t := by
          rw [nxCl, if_pos ⟨cc0, cc1, cc2⟩]
          simp (disch := omega) only [tn_nI]
        rw [ea, en]
        obtain ⟨m1, m2, m3, m4, m5, m6, m7, m8, m9, m10⟩ := id h
        refine ⟨sI σ 140 (7 * p + j) (nI t), fun Q => ?_, MI_cl hp hj h, ((Off.rf [140] σ).sI (by simp) _ _).hi (by simp)⟩
        simp (disch := omega) only [q_140_0, q_140_1, q_140_4, q_140_7, q_140_8, q_140_11, q_140_14, q_140_15, q_140_16, q_140_17, q_140_18, q_140_19, q_140_22, q_140_25, q_140_28, q_140_30, q_140_31, q_140_32, q_140_35, q_140_37, q_140_38, q_140_39, q_140_40, q_140_41, q_140_42, q_140_44, q_140_45, q_140_48, q_140_50, q_140_51, q_140_52, q_140_53, q_140_54, q_140_55, q_140_56, q_140_58, vinT, iClamp, clr_i, clr_l, clr_r, clr_n, true_and, and_true, or_true, true_or, false_or, or_false, iLe, iLt, iEq, iAdd, iMul, List.cons_append, List.nil_append, List.append_nil, zb0, zb1, if_true, if_false, not_true_eq_false, not_false_eq_true, Bool.false_eq_true, Nat.one_ne_zero, Nat.zero_ne_one, Nat.reduceEqDiff, Nat.reduceAdd, if_pos, if_neg, s_isPaperM, s_isPersonM, s_in0, e0, e1, e2, m127, m128k, m128n, m129k, m129n, m130k, m130n, m131k, m131n, m132k, m132n, m133k, m133n, m134k, m134n, m135k, m135n, m136k, m136n, m137k, m137n, m138k, m138n, m139k, m139n, m140k, m140n, m141k, m141n, m142k, m142n, m143k, m143n, m144k, m144n, m145k, m145n, m146k, m146n, m8 p hp j hj]
      · have e2 : b2 (inQ v 100) = nI 0 := b2_f cc2
        refine ⟨σ, fun Q => ?_, by rw [nxCl, if_neg (fun q => cc2 q.2.2)]; exact h, Hi.rf σ⟩
        rw [anCl, if_pos cc0, if_pos cc1, if_neg cc2]
        simp (disch := omega) only [q_140_0, q_140_1, q_140_4, q_140_7, q_140_8, q_140_11, q_140_14, q_140_15, q_140_16, q_140_17, q_140_18, q_140_19, q_140_22, q_140_25, q_140_28, q_140_30, q_140_31, q_140_32, q_140_35, q_140_37, q_140_38, q_140_39, q_140_40, q_140_41, q_140_42, q_140_44, q_140_45, q_140_48, q_140_50, q_140_51, q_140_52, q_140_53, q_140_54, q_140_55, q_140_56, q_140_58, vinT, iClamp, clr_i, clr_l, clr_r, clr_n, true_and, and_true, or_true, true_or, false_or, or_false, iLe, iLt, iEq, iAdd, iMul, List.cons_append, List.nil_append, List.append_nil, zb0, zb1, if_true, if_false, not_true_eq_false, not_false_eq_true, Bool.false_eq_true, Nat.one_ne_zero, Nat.zero_ne_one, Nat.reduceEqDiff, Nat.reduceAdd, if_pos, if_neg, s_isPaperM, s_isPersonM, s_in0, e0, e1, e2]
    · have e1 : b2 (inR q 7) = nI 0 := b2_f cc1
      refine ⟨σ, fun Q => ?_, by rw [nxCl, if_neg (fun q => cc1 q.2.1)]; exact h, Hi.rf σ⟩
      rw [anCl, if_pos cc0, if_neg cc1]
      simp (disch := omega) only [q_140_0, q_140_1, q_140_4, q_140_7, q_140_8, q_140_11, q_140_14, q_140_15, q_140_16, q_140_17, q_140_18, q_140_19, q_140_22, q_140_25, q_140_28, q_140_30, q_140_31, q_140_32, q_140_35, q_140_37, q_140_38, q_140_39, q_140_40, q_140_41, q_140_42, q_140_44, q_140_45, q_140_48, q_140_50, q_140_51, q_140_52, q_140_53, q_140_54, q_140_55, q_140_56, q_140_58, vinT, iClamp, clr_i, clr_l, clr_r, clr_n, true_and, and_true, or_true, true_or, false_or, or_false, iLe, iLt, iEq, iAdd, iMul, List.cons_append, List.nil_append, List.append_nil, zb0, zb1, if_true, if_false, not_true_eq_false, not_false_eq_true, Bool.false_eq_true, Nat.one_ne_zero, Nat.zero_ne_one, Nat.reduceEqDiff, Nat.reduceAdd, if_pos, if_neg, s_isPaperM, s_isPersonM, s_in0, e0, e1]
  · have e0 : b2 (inR x 8) = nI 0 := b2_f cc0
    refine ⟨σ, fun Q => ?_, by rw [nxCl, if_neg (fun q => cc0 q.1)]; exact h, Hi.rf σ⟩
    rw [anCl, if_neg cc0]
    simp (disch := omega) only [q_140_0, q_140_1, q_140_4, q_140_7, q_140_8, q_140_11, q_140_14, q_140_15, q_140_16, q_140_17, q_140_18, q_140_19, q_140_22, q_140_25, q_140_28, q_140_30, q_140_31, q_140_32, q_140_35, q_140_37, q_140_38, q_140_39, q_140_40, q_140_41, q_140_42, q_140_44, q_140_45, q_140_48, q_140_50, q_140_51, q_140_52, q_140_53, q_140_54, q_140_55, q_140_56, q_140_58, vinT, iClamp, clr_i, clr_l, clr_r, clr_n, true_and, and_true, or_true, true_or, false_or, or_false, iLe, iLt, iEq, iAdd, iMul, List.cons_append, List.nil_append, List.append_nil, zb0, zb1, if_true, if_false, not_true_eq_false, not_false_eq_true, Bool.false_eq_true, Nat.one_ne_zero, Nat.zero_ne_one, Nat.reduceEqDiff, Nat.reduceAdd, if_pos, if_neg, s_isPaperM, s_isPersonM, s_in0, e0]
theorem m_Hr {X : Nat × (Nat → Int32)} {σ : Mem} {a : AS} {x t q v : Int32} {w0 w1 : Value} (ok : AOK a) (h : MI σ a) : ∃ σ', Ev X 110 [.ref 127, .int x, .int t, .int q, .int v, w0, w1] σ [.int (anHr a x t q v)] σ' ∧ MI σ' (nxHr a x t q v) ∧ Hi σ σ' := by
  by_cases cc0 : inR x 8
  · have e0 : b2 (inR x 8) = nI 1 := b2_t cc0
    by_cases cc1 : inR t 4
    · have e1 : b2 (inR t 4) = nI 1 := b2_t cc1
      by_cases cc2 : inR q 7
      · have e2 : b2 (inR q 7) = nI 1 := b2_t cc2
        by_cases cc3 : inQ v 9
        · have e3 : b2 (inQ v 9) = nI 1 := b2_t cc3
          obtain ⟨p, hp, rfl⟩ := inR_of cc0 (by omega)
          obtain ⟨s, hs, rfl⟩ := inR_of cc1 (by omega)
          obtain ⟨j, hj, rfl⟩ := inR_of cc2 (by omega)
          obtain ⟨r1, hr1, rfl⟩ := inQ_of cc3 (by omega)
          have ea : anHr a (nI p) (nI s) (nI j) (nI r1) = nI (hr a p s j) := by
            rw [anHr, if_pos cc0, if_pos cc1, if_pos cc2, if_pos cc3]
            simp (disch := omega) only [tn_nI]
          have en : nxHr a (nI p) (nI s) (nI j) (nI r1) = setHr a p s j r1 := by
            rw [nxHr, if_pos ⟨cc0, cc1, cc2, cc3⟩]
            simp (disch := omega) only [tn_nI]
          rw [ea, en]
          obtain ⟨m1, m2, m3, m4, m5, m6, m7, m8, m9, m10⟩ := id h
          refine ⟨sI σ 131 (7 * (4 * p + s) + j) (nI r1), fun Q => ?_, MI_hr hp hs hj h, ((Off.rf [131] σ).sI (by simp) _ _).hi (by simp)⟩
          simp (disch := omega) only [q_110_0, q_110_1, q_110_4, q_110_7, q_110_8, q_110_11, q_110_14, q_110_15, q_110_18, q_110_21, q_110_22, q_110_23, q_110_25, q_110_26, q_110_27, q_110_30, q_110_33, q_110_36, q_110_38, q_110_39, q_110_41, q_110_42, q_110_43, q_110_44, q_110_45, q_110_46, q_110_47, q_110_48, q_110_49, q_110_51, q_110_52, q_110_55, q_110_57, q_110_58, q_110_60, q_110_61, q_110_64, q_110_66, q_110_68, q_110_69, q_110_71, vinT, iClamp, clr_i, clr_l, clr_r, clr_n, true_and, and_true, or_true, true_or, false_or, or_false, iLe, iLt, iEq, iAdd, iMul, List.cons_append, List.nil_append, List.append_nil, zb0, zb1, if_true, if_false, not_true_eq_false, not_false_eq_true, Bool.false_eq_true, Nat.one_ne_zero, Nat.zero_ne_one, Nat.reduceEqDiff, Nat.reduceAdd, if_pos, if_neg, s_isPaperM, s_isTaskM, s_isPersonM, s_in0, e0, e1, e2, e3, m127, m128k, m128n, m129k, m129n, m130k, m130n, m131k, m131n, m132k, m132n, m133k, m133n, m134k, m134n, m135k, m135n, m136k, m136n, m137k, m137n, m138k, m138n, m139k, m139n, m140k, m140n, m141k, m141n, m142k, m142n, m143k, m143n, m144k, m144n, m145k, m145n, m146k, m146n, m4 p hp s hs j hj]
        · have e3 : b2 (inQ v 9) = nI 0 := b2_f cc3
          refine ⟨σ, fun Q => ?_, by rw [nxHr, if_neg (fun q => cc3 q.2.2.2)]; exact h, Hi.rf σ⟩
          rw [anHr, if_pos cc0, if_pos cc1, if_pos cc2, if_neg cc3]
          simp (disch := omega) only [q_110_0, q_110_1, q_110_4, q_110_7, q_110_8, q_110_11, q_110_14, q_110_15, q_110_18, q_110_21, q_110_22, q_110_23, q_110_25, q_110_26, q_110_27, q_110_30, q_110_33, q_110_36, q_110_38, q_110_39, q_110_41, q_110_42, q_110_43, q_110_44, q_110_45, q_110_46, q_110_47, q_110_48, q_110_49, q_110_51, q_110_52, q_110_55, q_110_57, q_110_58, q_110_60, q_110_61, q_110_64, q_110_66, q_110_68, q_110_69, q_110_71, vinT, iClamp, clr_i, clr_l, clr_r, clr_n, true_and, and_true, or_true, true_or, false_or, or_false, iLe, iLt, iEq, iAdd, iMul, List.cons_append, List.nil_append, List.append_nil, zb0, zb1, if_true, if_false, not_true_eq_false, not_false_eq_true, Bool.false_eq_true, Nat.one_ne_zero, Nat.zero_ne_one, Nat.reduceEqDiff, Nat.reduceAdd, if_pos, if_neg, s_isPaperM, s_isTaskM, s_isPersonM, s_in0, e0, e1, e2, e3]
      · have e2 : b2 (inR q 7) = nI 0 := b2_f cc2
        refine ⟨σ, fun Q => ?_, by rw [nxHr, if_neg (fun q => cc2 q.2.2.1)]; exact h, Hi.rf σ⟩
        rw [anHr, if_pos cc0, if_pos cc1, if_neg cc2]
        simp (disch := omega) only [q_110_0, q_110_1, q_110_4, q_110_7, q_110_8, q_110_11, q_110_14, q_110_15, q_110_18, q_110_21, q_110_22, q_110_23, q_110_25, q_110_26, q_110_27, q_110_30, q_110_33, q_110_36, q_110_38, q_110_39, q_110_41, q_110_42, q_110_43, q_110_44, q_110_45, q_110_46, q_110_47, q_110_48, q_110_49, q_110_51, q_110_52, q_110_55, q_110_57, q_110_58, q_110_60, q_110_61, q_110_64, q_110_66, q_110_68, q_110_69, q_110_71, vinT, iClamp, clr_i, clr_l, clr_r, clr_n, true_and, and_true, or_true, true_or, false_or, or_false, iLe, iLt, iEq, iAdd, iMul, List.cons_append, List.nil_append, List.append_nil, zb0, zb1, if_true, if_false, not_true_eq_false, not_false_eq_true, Bool.false_eq_true, Nat.one_ne_zero, Nat.zero_ne_one, Nat.reduceEqDiff, Nat.reduceAdd, if_pos, if_neg, s_isPaperM, s_isTaskM, s_isPersonM, s_in0, e0, e1, e2]
    · have e1 : b2 (inR t 4) = nI 0 := b2_f cc1
      refine ⟨σ, fun Q => ?_, by rw [nxHr, if_neg (fun q => cc1 q.2.1)]; exact h, Hi.rf σ⟩
      rw [anHr, if_pos cc0, if_neg cc1]
      simp (disch := omega) only [q_110_0, q_110_1, q_110_4, q_110_7, q_110_8, q_110_11, q_110_14, q_110_15, q_110_18, q_110_21, q_110_22, q_110_23, q_110_25, q_110_26, q_110_27, q_110_30, q_110_33, q_110_36, q_110_38, q_110_39, q_110_41, q_110_42, q_110_43, q_110_44, q_110_45, q_110_46, q_110_47, q_110_48, q_110_49, q_110_51, q_110_52, q_110_55, q_110_57, q_110_58, q_110_60, q_110_61, q_110_64, q_110_66, q_110_68, q_110_69, q_110_71, vinT, iClamp, clr_i, clr_l, clr_r, clr_n, true_and, and_true, or_true, true_or, false_or, or_false, iLe, iLt, iEq, iAdd, iMul, List.cons_append, List.nil_append, List.append_nil, zb0, zb1, if_true, if_false, not_true_eq_false, not_false_eq_true, Bool.false_eq_true, Nat.one_ne_zero, Nat.zero_ne_one, Nat.reduceEqDiff, Nat.reduceAdd, if_pos, if_neg, s_isPaperM, s_isTaskM, s_isPersonM, s_in0, e0, e1]
  · have e0 : b2 (inR x 8) = nI 0 := b2_f cc0
    refine ⟨σ, fun Q => ?_, by rw [nxHr, if_neg (fun q => cc0 q.1)]; exact h, Hi.rf σ⟩
    rw [anHr, if_neg cc0]
    simp (disch := omega) only [q_110_0, q_110_1, q_110_4, q_110_7, q_110_8, q_110_11, q_110_14, q_110_15, q_110_18, q_110_21, q_110_22, q_110_23, q_110_25, q_110_26, q_110_27, q_110_30, q_110_33, q_110_36, q_110_38, q_110_39, q_110_41, q_110_42, q_110_43, q_110_44, q_110_45, q_110_46, q_110_47, q_110_48, q_110_49, q_110_51, q_110_52, q_110_55, q_110_57, q_110_58, q_110_60, q_110_61, q_110_64, q_110_66, q_110_68, q_110_69, q_110_71, vinT, iClamp, clr_i, clr_l, clr_r, clr_n, true_and, and_true, or_true, true_or, false_or, or_false, iLe, iLt, iEq, iAdd, iMul, List.cons_append, List.nil_append, List.append_nil, zb0, zb1, if_true, if_false, not_true_eq_false, not_false_eq_true, Bool.false_eq_true, Nat.one_ne_zero, Nat.zero_ne_one, Nat.reduceEqDiff, Nat.reduceAdd, if_pos, if_neg, s_isPaperM, s_isTaskM, s_isPersonM, s_in0, e0]
theorem m_Be {X : Nat × (Nat → Int32)} {σ : Mem} {a : AS} {x v : Int32} {w0 : Value} (ok : AOK a) (h : MI σ a) : ∃ σ', Ev X 156 [.ref 127, .int x, .int v, w0] σ [.int (anBe a x v)] σ' ∧ MI σ' (nxBe a x v) ∧ Hi σ σ' := by
  by_cases cc0 : inR x 7
  · have e0 : b2 (inR x 7) = nI 1 := b2_t cc0
    by_cases cc1 : inQ v 60
    · have e1 : b2 (inQ v 60) = nI 1 := b2_t cc1
      obtain ⟨j, hj, rfl⟩ := inR_of cc0 (by omega)
      obtain ⟨t, ht, rfl⟩ := inQ_of cc1 (by omega)
      have ea : anBe a (nI j) (nI t) = nI (be a j) := by
        rw [anBe, if_pos cc0, if_pos cc1]
        simp (disch := omega) only [tn_nI]
      have en : nxBe a (nI j) (nI t) = setBe a j t := by
        rw [nxBe, if_pos ⟨cc0, cc1⟩]
        simp (disch := omega) only [tn_nI]
      rw [ea, en]
      obtain ⟨m1, m2, m3, m4, m5, m6, m7, m8, m9, m10⟩ := id h
      refine ⟨sI σ 143 j (nI t), fun Q => ?_, MI_be hj h, ((Off.rf [143] σ).sI (by simp) _ _).hi (by simp)⟩
      simp (disch := omega) only [q_156_0, q_156_1, q_156_4, q_156_7, q_156_8, q_156_9, q_156_10, q_156_11, q_156_12, q_156_15, q_156_18, q_156_21, q_156_23, q_156_24, q_156_25, q_156_28, q_156_29, q_156_30, q_156_31, q_156_32, q_156_35, q_156_36, q_156_37, q_156_38, q_156_39, vinT, iClamp, clr_i, clr_l, clr_r, clr_n, true_and, and_true, or_true, true_or, false_or, or_false, iLe, iLt, iEq, iAdd, iMul, List.cons_append, List.nil_append, List.append_nil, zb0, zb1, if_true, if_false, not_true_eq_false, not_false_eq_true, Bool.false_eq_true, Nat.one_ne_zero, Nat.zero_ne_one, Nat.reduceEqDiff, Nat.reduceAdd, if_pos, if_neg, s_isPersonM, s_in0, e0, e1, m127, m128k, m128n, m129k, m129n, m130k, m130n, m131k, m131n, m132k, m132n, m133k, m133n, m134k, m134n, m135k, m135n, m136k, m136n, m137k, m137n, m138k, m138n, m139k, m139n, m140k, m140n, m141k, m141n, m142k, m142n, m143k, m143n, m144k, m144n, m145k, m145n, m146k, m146n, m10 j hj]
    · have e1 : b2 (inQ v 60) = nI 0 := b2_f cc1
      refine ⟨σ, fun Q => ?_, by rw [nxBe, if_neg (fun q => cc1 q.2)]; exact h, Hi.rf σ⟩
      rw [anBe, if_pos cc0, if_neg cc1]
      simp (disch := omega) only [q_156_0, q_156_1, q_156_4, q_156_7, q_156_8, q_156_9, q_156_10, q_156_11, q_156_12, q_156_15, q_156_18, q_156_21, q_156_23, q_156_24, q_156_25, q_156_28, q_156_29, q_156_30, q_156_31, q_156_32, q_156_35, q_156_36, q_156_37, q_156_38, q_156_39, vinT, iClamp, clr_i, clr_l, clr_r, clr_n, true_and, and_true, or_true, true_or, false_or, or_false, iLe, iLt, iEq, iAdd, iMul, List.cons_append, List.nil_append, List.append_nil, zb0, zb1, if_true, if_false, not_true_eq_false, not_false_eq_true, Bool.false_eq_true, Nat.one_ne_zero, Nat.zero_ne_one, Nat.reduceEqDiff, Nat.reduceAdd, if_pos, if_neg, s_isPersonM, s_in0, e0, e1]
  · have e0 : b2 (inR x 7) = nI 0 := b2_f cc0
    refine ⟨σ, fun Q => ?_, by rw [nxBe, if_neg (fun q => cc0 q.1)]; exact h, Hi.rf σ⟩
    rw [anBe, if_neg cc0]
    simp (disch := omega) only [q_156_0, q_156_1, q_156_4, q_156_7, q_156_8, q_156_9, q_156_10, q_156_11, q_156_12, q_156_15, q_156_18, q_156_21, q_156_23, q_156_24, q_156_25, q_156_28, q_156_29, q_156_30, q_156_31, q_156_32, q_156_35, q_156_36, q_156_37, q_156_38, q_156_39, vinT, iClamp, clr_i, clr_l, clr_r, clr_n, true_and, and_true, or_true, true_or, false_or, or_false, iLe, iLt, iEq, iAdd, iMul, List.cons_append, List.nil_append, List.append_nil, zb0, zb1, if_true, if_false, not_true_eq_false, not_false_eq_true, Bool.false_eq_true, Nat.one_ne_zero, Nat.zero_ne_one, Nat.reduceEqDiff, Nat.reduceAdd, if_pos, if_neg, s_isPersonM, s_in0, e0]
theorem m_Un {X : Nat × (Nat → Int32)} {σ : Mem} {a : AS} {x : Int32} {w0 : Value} (ok : AOK a) (h : MI σ a) : ∃ σ', Ev X 113 [.ref 127, .int x, w0] σ [.int (anUn a x)] σ' ∧ MI σ' (nxUn a x) ∧ Hi σ σ' := by
  by_cases cc0 : inR x 8
  · have e0 : b2 (inR x 8) = nI 1 := b2_t cc0
    obtain ⟨p, hp, rfl⟩ := inR_of cc0 (by omega)
    have ea : anUn a (nI p) = nI (ro a p).length := by
      rw [anUn, if_pos cc0]
      simp (disch := omega) only [tn_nI]
    have en : nxUn a (nI p) = setRo a p [] := by
      rw [nxUn, if_pos cc0]
      simp (disch := omega) only [tn_nI]
    rw [ea, en]
    obtain ⟨m1, m2, m3, m4, m5, m6, m7, m8, m9, m10⟩ := id h
    have ho : Off [132, 133] σ (sI σ 132 p (nI 0)) := (Off.rf _ σ).sI (by simp) _ _
    refine ⟨sI σ 132 p (nI 0), fun Q => ?_, MI_ro hp h ho (fun x hx => (ok.1 x hx).2.2.2.2.2.1) (fun x hx => sI_off (by omega)) (fun j hj => sI_off (by omega)) (sI_at _ _ _ _) (fun j hj => by simp at hj), ho.hi (by simp)⟩
    simp (disch := omega) only [q_113_0, q_113_1, q_113_4, q_113_7, q_113_8, q_113_9, q_113_10, q_113_13, q_113_14, q_113_15, q_113_16, q_113_17, q_113_20, q_113_21, q_113_22, q_113_23, q_113_24, vinT, iClamp, clr_i, clr_l, clr_r, clr_n, true_and, and_true, or_true, true_or, false_or, or_false, iLe, iLt, iEq, iAdd, iMul, List.cons_append, List.nil_append, List.append_nil, zb0, zb1, if_true, if_false, not_true_eq_false, not_false_eq_true, Bool.false_eq_true, Nat.one_ne_zero, Nat.zero_ne_one, Nat.reduceEqDiff, Nat.reduceAdd, if_pos, if_neg, s_isPaperM, e0, m127, m128k, m128n, m129k, m129n, m130k, m130n, m131k, m131n, m132k, m132n, m133k, m133n, m134k, m134n, m135k, m135n, m136k, m136n, m137k, m137n, m138k, m138n, m139k, m139n, m140k, m140n, m141k, m141n, m142k, m142n, m143k, m143n, m144k, m144n, m145k, m145n, m146k, m146n, m5 p hp]
  · have e0 : b2 (inR x 8) = nI 0 := b2_f cc0
    refine ⟨σ, fun Q => ?_, by rw [nxUn, if_neg (fun q => cc0 q)]; exact h, Hi.rf σ⟩
    rw [anUn, if_neg cc0]
    simp (disch := omega) only [q_113_0, q_113_1, q_113_4, q_113_7, q_113_8, q_113_9, q_113_10, q_113_13, q_113_14, q_113_15, q_113_16, q_113_17, q_113_20, q_113_21, q_113_22, q_113_23, q_113_24, vinT, iClamp, clr_i, clr_l, clr_r, clr_n, true_and, and_true, or_true, true_or, false_or, or_false, iLe, iLt, iEq, iAdd, iMul, List.cons_append, List.nil_append, List.append_nil, zb0, zb1, if_true, if_false, not_true_eq_false, not_false_eq_true, Bool.false_eq_true, Nat.one_ne_zero, Nat.zero_ne_one, Nat.reduceEqDiff, Nat.reduceAdd, if_pos, if_neg, s_isPaperM, e0]
theorem m_Nm {X : Nat × (Nat → Int32)} {σ : Mem} {a : AS} {x q : Int32} (ok : AOK a) (h : MI σ a) : ∃ σ', Ev X 112 [.ref 127, .int x, .int q] σ [.int (anNm a x q)] σ' ∧ MI σ' (nxNm a x q) ∧ Hi σ σ' := by
  by_cases cc0 : inR x 8
  · have e0 : b2 (inR x 8) = nI 1 := b2_t cc0
    by_cases cc1 : inR q 7
    · have e1 : b2 (inR q 7) = nI 1 := b2_t cc1
      obtain ⟨p, hp, rfl⟩ := inR_of cc0 (by omega)
      obtain ⟨j, hj, rfl⟩ := inR_of cc1 (by omega)
      have ea : anNm a (nI p) (nI j) = if plF (rF (ro a p)) (nI j) 0 (ro a p).length = -9 then nI ((ro a p).length + 1) else -3 := by
        rw [anNm, if_pos cc0, if_pos cc1]
        simp (disch := omega) only [tn_nI]
      have en : nxNm a (nI p) (nI j) = if plF (rF (ro a p)) (nI j) 0 (ro a p).length = -9 then setRo a p (ro a p ++ [j]) else a := by
        rw [nxNm, if_pos ⟨cc0, cc1⟩]
        simp (disch := omega) only [tn_nI]
      rw [ea, en]
      obtain ⟨m1, m2, m3, m4, m5, m6, m7, m8, m9, m10⟩ := id h
      obtain ⟨o1, o2, o3, o4, o5, o6, o7, o8⟩ := ok.1 p hp
      by_cases c : plF (rF (ro a p)) (nI j) 0 (ro a p).length = -9
      · rw [if_pos c, if_pos c]
        have hnm := plF_none (σ := (fun k j => nI ((ro a p).getD j 0), fun _ _ => 0)) (k := 0) hj (fun i hi => ⟨rfl, o7 i hi⟩) o6 c
        have hl := nodup_lt (σ := (fun k j => nI ((ro a p).getD j 0), fun _ _ => 0)) (k := 0) o8 (fun i hi => ⟨rfl, o7 i hi⟩) hj hnm
        have ho : Off [132, 133] σ (sI (sI σ 133 (7 * p + (ro a p).length) (nI j)) 132 p (nI ((ro a p).length + 1))) := ((Off.rf _ σ).sI (by simp) _ _).sI (by simp) _ _
        refine ⟨sI (sI σ 133 (7 * p + (ro a p).length) (nI j)) 132 p (nI ((ro a p).length + 1)), fun Q => ?_, MI_ro hp h ho (fun x hx => (ok.1 x hx).2.2.2.2.2.1) (fun x hx => by rw [sI_off (by omega), sI_off (by omega)]) (fun i hi => by rw [sI_off (by omega), sI_off (by omega)]) (by rw [sI_at]; simp) (fun i hi => ?_), ho.hi (by simp)⟩
        · simp (disch := omega) only [q_112_0, q_112_1, q_112_4, q_112_7, q_112_8, q_112_11, q_112_14, q_112_15, q_112_16, q_112_17, q_112_18, q_112_19, q_112_22, q_112_24, q_112_27, q_112_29, q_112_30, q_112_31, q_112_34, q_112_36, q_112_37, q_112_38, q_112_39, q_112_42, q_112_43, q_112_44, q_112_45, q_112_46, q_112_47, q_112_48, q_112_51, q_112_52, q_112_53, q_112_54, q_112_55, q_112_56, q_112_57, q_112_58, q_112_61, q_112_62, q_112_63, vinT, iClamp, clr_i, clr_l, clr_r, clr_n, true_and, and_true, or_true, true_or, false_or, or_false, iLe, iLt, iEq, iAdd, iMul, List.cons_append, List.nil_append, List.append_nil, zb0, zb1, if_true, if_false, not_true_eq_false, not_false_eq_true, Bool.false_eq_true, Nat.one_ne_zero, Nat.zero_ne_one, Nat.reduceEqDiff, Nat.reduceAdd, if_pos, if_neg, s_isPaperM, s_isPersonM, e0, e1, m127, m128k, m128n, m129k, m129n, m130k, m130n, m131k, m131n, m132k, m132n, m133k, m133n, m134k, m134n, m135k, m135n, m136k, m136n, m137k, m137n, m138k, m138n, m139k, m139n, m140k, m140n, m141k, m141n, m142k, m142n, m143k, m143n, m144k, m144n, m145k, m145n, m146k, m146n, m5 p hp, s_placeM h hp o6, c, sI_off, sI_at]
        · rw [List.length_append, List.length_cons, List.length_nil, Nat.zero_add] at hi
          by_cases e : i = (ro a p).length
          · rw [e, sI_off (by omega), sI_at, gD_r (Nat.le_refl _), Nat.sub_self]
            rfl
          · rw [sI_off (by omega), sI_off (by omega), gD_l (by omega)]
            exact m6 p hp i (by omega)
      · rw [if_neg c, if_neg c]
        refine ⟨σ, fun Q => ?_, h, Hi.rf σ⟩
        simp (disch := omega) only [q_112_0, q_112_1, q_112_4, q_112_7, q_112_8, q_112_11, q_112_14, q_112_15, q_112_16, q_112_17, q_112_18, q_112_19, q_112_22, q_112_24, q_112_27, q_112_29, q_112_30, q_112_31, q_112_34, q_112_36, q_112_37, q_112_38, q_112_39, q_112_42, q_112_43, q_112_44, q_112_45, q_112_46, q_112_47, q_112_48, q_112_51, q_112_52, q_112_53, q_112_54, q_112_55, q_112_56, q_112_57, q_112_58, q_112_61, q_112_62, q_112_63, vinT, iClamp, clr_i, clr_l, clr_r, clr_n, true_and, and_true, or_true, true_or, false_or, or_false, iLe, iLt, iEq, iAdd, iMul, List.cons_append, List.nil_append, List.append_nil, zb0, zb1, if_true, if_false, not_true_eq_false, not_false_eq_true, Bool.false_eq_true, Nat.one_ne_zero, Nat.zero_ne_one, Nat.reduceEqDiff, Nat.reduceAdd, if_pos, if_neg, s_isPaperM, s_isPersonM, e0, e1, m127, m128k, m128n, m129k, m129n, m130k, m130n, m131k, m131n, m132k, m132n, m133k, m133n, m134k, m134n, m135k, m135n, m136k, m136n, m137k, m137n, m138k, m138n, m139k, m139n, m140k, m140n, m141k, m141n, m142k, m142n, m143k, m143n, m144k, m144n, m145k, m145n, m146k, m146n, s_placeM h hp o6, c]
    · have e1 : b2 (inR q 7) = nI 0 := b2_f cc1
      refine ⟨σ, fun Q => ?_, by rw [nxNm, if_neg (fun q => cc1 q.2)]; exact h, Hi.rf σ⟩
      rw [anNm, if_pos cc0, if_neg cc1]
      simp (disch := omega) only [q_112_0, q_112_1, q_112_4, q_112_7, q_112_8, q_112_11, q_112_14, q_112_15, q_112_16, q_112_17, q_112_18, q_112_19, q_112_22, q_112_24, q_112_27, q_112_29, q_112_30, q_112_31, q_112_34, q_112_36, q_112_37, q_112_38, q_112_39, q_112_42, q_112_43, q_112_44, q_112_45, q_112_46, q_112_47, q_112_48, q_112_51, q_112_52, q_112_53, q_112_54, q_112_55, q_112_56, q_112_57, q_112_58, q_112_61, q_112_62, q_112_63, vinT, iClamp, clr_i, clr_l, clr_r, clr_n, true_and, and_true, or_true, true_or, false_or, or_false, iLe, iLt, iEq, iAdd, iMul, List.cons_append, List.nil_append, List.append_nil, zb0, zb1, if_true, if_false, not_true_eq_false, not_false_eq_true, Bool.false_eq_true, Nat.one_ne_zero, Nat.zero_ne_one, Nat.reduceEqDiff, Nat.reduceAdd, if_pos, if_neg, s_isPaperM, s_isPersonM, e0, e1]
  · have e0 : b2 (inR x 8) = nI 0 := b2_f cc0
    refine ⟨σ, fun Q => ?_, by rw [nxNm, if_neg (fun q => cc0 q.1)]; exact h, Hi.rf σ⟩
    rw [anNm, if_neg cc0]
    simp (disch := omega) only [q_112_0, q_112_1, q_112_4, q_112_7, q_112_8, q_112_11, q_112_14, q_112_15, q_112_16, q_112_17, q_112_18, q_112_19, q_112_22, q_112_24, q_112_27, q_112_29, q_112_30, q_112_31, q_112_34, q_112_36, q_112_37, q_112_38, q_112_39, q_112_42, q_112_43, q_112_44, q_112_45, q_112_46, q_112_47, q_112_48, q_112_51, q_112_52, q_112_53, q_112_54, q_112_55, q_112_56, q_112_57, q_112_58, q_112_61, q_112_62, q_112_63, vinT, iClamp, clr_i, clr_l, clr_r, clr_n, true_and, and_true, or_true, true_or, false_or, or_false, iLe, iLt, iEq, iAdd, iMul, List.cons_append, List.nil_append, List.append_nil, zb0, zb1, if_true, if_false, not_true_eq_false, not_false_eq_true, Bool.false_eq_true, Nat.one_ne_zero, Nat.zero_ne_one, Nat.reduceEqDiff, Nat.reduceAdd, if_pos, if_neg, s_isPaperM, s_isPersonM, e0]
theorem pA_nin {l : List Nat} {x : Int32} (h : ¬ inR x l.length) : pA l x = -9 := by
  unfold pA
  by_cases c1 : x < nI 0
  · rw [if_pos c1]
  · rw [if_neg c1]
    by_cases c2 : nI l.length ≤ x
    · rw [if_pos c2]
    · exact absurd ⟨Int32.not_lt.mp c1, Int32.not_le.mp c2⟩ h
theorem m_At {X : Nat × (Nat → Int32)} {σ : Mem} {a : AS} {x i : Int32} (ok : AOK a) (h : MI σ a) : ∃ σ', Ev X 114 [.ref 127, .int x, .int i] σ [.int (anAt a x i)] σ' ∧ MI σ' a ∧ Hi σ σ' := by
  by_cases cc0 : inR x 8
  · have e0 : b2 (inR x 8) = nI 1 := b2_t cc0
    obtain ⟨p, hp, rfl⟩ := inR_of cc0 (by omega)
    have ea : anAt a (nI p) i = pA (ro a p) i := by
      rw [anAt, if_pos cc0]
      simp (disch := omega) only [tn_nI]
    rw [ea]
    obtain ⟨m1, m2, m3, m4, m5, m6, m7, m8, m9, m10⟩ := id h
    obtain ⟨o1, o2, o3, o4, o5, o6, o7, o8⟩ := ok.1 p hp
    refine ⟨σ, fun Q => ?_, h, Hi.rf σ⟩
    by_cases c : inR i (ro a p).length
    · have e1 : b2 (inR i (ro a p).length) = nI 1 := b2_t c
      obtain ⟨j, hj, rfl⟩ := inR_of c (by omega)
      rw [pA_in hj o6]
      simp (disch := omega) only [q_114_0, q_114_1, q_114_4, q_114_7, q_114_8, q_114_9, q_114_10, q_114_11, q_114_12, q_114_13, q_114_16, q_114_17, q_114_18, q_114_19, q_114_20, q_114_21, q_114_24, q_114_27, q_114_28, q_114_31, q_114_33, q_114_34, q_114_35, q_114_36, q_114_37, q_114_38, q_114_41, q_114_43, vinT, iClamp, clr_i, clr_l, clr_r, clr_n, true_and, and_true, or_true, true_or, false_or, or_false, iLe, iLt, iEq, iAdd, iMul, List.cons_append, List.nil_append, List.append_nil, zb0, zb1, if_true, if_false, not_true_eq_false, not_false_eq_true, Bool.false_eq_true, Nat.one_ne_zero, Nat.zero_ne_one, Nat.reduceEqDiff, Nat.reduceAdd, if_pos, if_neg, s_isPaperM, e0, m127, m128k, m128n, m129k, m129n, m130k, m130n, m131k, m131n, m132k, m132n, m133k, m133n, m134k, m134n, m135k, m135n, m136k, m136n, m137k, m137n, m138k, m138n, m139k, m139n, m140k, m140n, m141k, m141n, m142k, m142n, m143k, m143n, m144k, m144n, m145k, m145n, m146k, m146n, s_inL, e1, m5 p hp, m6 p hp j hj]
    · have e1 : b2 (inR i (ro a p).length) = nI 0 := b2_f c
      rw [pA_nin c]
      simp (disch := omega) only [q_114_0, q_114_1, q_114_4, q_114_7, q_114_8, q_114_9, q_114_10, q_114_11, q_114_12, q_114_13, q_114_16, q_114_17, q_114_18, q_114_19, q_114_20, q_114_21, q_114_24, q_114_27, q_114_28, q_114_31, q_114_33, q_114_34, q_114_35, q_114_36, q_114_37, q_114_38, q_114_41, q_114_43, vinT, iClamp, clr_i, clr_l, clr_r, clr_n, true_and, and_true, or_true, true_or, false_or, or_false, iLe, iLt, iEq, iAdd, iMul, List.cons_append, List.nil_append, List.append_nil, zb0, zb1, if_true, if_false, not_true_eq_false, not_false_eq_true, Bool.false_eq_true, Nat.one_ne_zero, Nat.zero_ne_one, Nat.reduceEqDiff, Nat.reduceAdd, if_pos, if_neg, s_isPaperM, e0, m127, m128k, m128n, m129k, m129n, m130k, m130n, m131k, m131n, m132k, m132n, m133k, m133n, m134k, m134n, m135k, m135n, m136k, m136n, m137k, m137n, m138k, m138n, m139k, m139n, m140k, m140n, m141k, m141n, m142k, m142n, m143k, m143n, m144k, m144n, m145k, m145n, m146k, m146n, s_inL, e1, m5 p hp]
  · have e0 : b2 (inR x 8) = nI 0 := b2_f cc0
    refine ⟨σ, fun Q => ?_, h, Hi.rf σ⟩
    rw [anAt, if_neg cc0]
    simp (disch := omega) only [q_114_0, q_114_1, q_114_4, q_114_7, q_114_8, q_114_9, q_114_10, q_114_11, q_114_12, q_114_13, q_114_16, q_114_17, q_114_18, q_114_19, q_114_20, q_114_21, q_114_24, q_114_27, q_114_28, q_114_31, q_114_33, q_114_34, q_114_35, q_114_36, q_114_37, q_114_38, q_114_41, q_114_43, vinT, iClamp, clr_i, clr_l, clr_r, clr_n, true_and, and_true, or_true, true_or, false_or, or_false, iLe, iLt, iEq, iAdd, iMul, List.cons_append, List.nil_append, List.append_nil, zb0, zb1, if_true, if_false, not_true_eq_false, not_false_eq_true, Bool.false_eq_true, Nat.one_ne_zero, Nat.zero_ne_one, Nat.reduceEqDiff, Nat.reduceAdd, if_pos, if_neg, s_isPaperM, e0]
theorem m_Sw {X : Nat × (Nat → Int32)} {σ : Mem} {a : AS} {x i : Int32} {w0 w1 : Value} (ok : AOK a) (h : MI σ a) : ∃ σ', Ev X 115 [.ref 127, .int x, .int i, w0, w1] σ [.int (anSw a x i)] σ' ∧ MI σ' (nxSw a x i) ∧ Hi σ σ' := by
  by_cases k0 : inR x 8
  · have e0 : b2 (inR x 8) = nI 1 := b2_t k0
    obtain ⟨p, hp, rfl⟩ := inR_of k0 (by omega)
    obtain ⟨m1, m2, m3, m4, m5, m6, m7, m8, m9, m10⟩ := id h
    obtain ⟨o1, o2, o3, o4, o5, o6, o7, o8⟩ := ok.1 p hp
    rw [anSw, if_pos k0, nxSw, tn_nI (by omega)]
    by_cases k1 : inR i ((ro a p).length - 1)
    · have e1 : b2 (inR i ((ro a p).length - 1)) = nI 1 := b2_t k1
      rw [if_pos k1, if_pos ⟨k0, k1⟩]
      obtain ⟨j, hj, rfl⟩ := inR_of k1 (by omega)
      rw [tn_nI (by omega)]
      have ho : Off [132, 133] σ (sI (sI σ 133 (7 * p + j) (nI ((ro a p).getD (j + 1) 0))) 133 (7 * p + j + 1) (nI ((ro a p).getD j 0))) := ((Off.rf _ σ).sI (by simp) _ _).sI (by simp) _ _
      have hlen : (swp (ro a p) j).length = (ro a p).length := by simp [swp]
      have q1 := m6 p hp j (by omega)
      have q2 := m6 p hp (j + 1) (by omega)
      rw [← Nat.add_assoc] at q2
      refine ⟨_, fun Q => ?_, MI_ro hp h ho (fun x hx => (ok.1 x hx).2.2.2.2.2.1) (fun x hx => by rw [sI_off (by omega), sI_off (by omega)]) (fun i hi => by rw [sI_off (by omega), sI_off (by omega)]) (by rw [sI_off (by omega), sI_off (by omega), hlen]; exact m5 p hp) (fun i hi => ?_), ho.hi (by simp)⟩
      · simp (disch := omega) only [q_115_0, q_115_1, q_115_4, q_115_7, q_115_8, q_115_9, q_115_10, q_115_11, q_115_12, q_115_13, q_115_16, q_115_17, q_115_18, q_115_19, q_115_20, q_115_21, q_115_24, q_115_27, q_115_29, q_115_30, q_115_32, q_115_33, q_115_34, q_115_35, q_115_36, q_115_37, q_115_38, q_115_41, q_115_42, q_115_43, q_115_45, q_115_46, q_115_49, q_115_50, q_115_51, q_115_54, q_115_55, q_115_56, q_115_57, q_115_58, q_115_59, q_115_60, q_115_63, q_115_64, q_115_65, q_115_66, q_115_68, q_115_69, q_115_70, q_115_73, q_115_74, q_115_75, vinT, iClamp, clr_i, clr_l, clr_r, clr_n, true_and, and_true, or_true, true_or, false_or, or_false, iLe, iLt, iEq, iAdd, iMul, List.cons_append, List.nil_append, List.append_nil, zb0, zb1, if_true, if_false, not_true_eq_false, not_false_eq_true, Bool.false_eq_true, Nat.one_ne_zero, Nat.zero_ne_one, Nat.reduceEqDiff, Nat.reduceAdd, if_pos, if_neg, m127, m128k, m128n, m129k, m129n, m130k, m130n, m131k, m131n, m132k, m132n, m133k, m133n, m134k, m134n, m135k, m135n, m136k, m136n, m137k, m137n, m138k, m138n, m139k, m139n, m140k, m140n, m141k, m141n, m142k, m142n, m143k, m143n, m144k, m144n, m145k, m145n, m146k, m146n, s_isPaperM, e0, s_inL2, e1, m5 p hp, q1, q2, sI_off, sI_at]
      · rw [hlen] at hi
        have e9 : (swp (ro a p) j).getD i 0 = if i = j + 1 then (ro a p).getD j 0 else if i = j then (ro a p).getD (j + 1) 0 else (ro a p).getD i 0 := by
          rw [swp, List.getD_eq_getElem?_getD]
          by_cases c1 : i = j + 1
          · subst c1
            rw [List.getElem?_set_self (by simpa using hi), if_pos rfl]
            rfl
          · rw [List.getElem?_set_ne (fun q => c1 q.symm), if_neg c1]
            by_cases c2 : i = j
            · subst c2
              rw [List.getElem?_set_self hi, if_pos rfl]
              rfl
            · rw [List.getElem?_set_ne (fun q => c2 q.symm), if_neg c2, List.getD_eq_getElem?_getD]
        rw [e9]
        by_cases c1 : i = j + 1
        · rw [if_pos c1, c1, ← Nat.add_assoc, sI_at]
        · rw [if_neg c1, sI_off (by omega)]
          by_cases c2 : i = j
          · rw [if_pos c2, c2, sI_at]
          · rw [if_neg c2, sI_off (by omega)]
            exact m6 p hp i hi
    · have e1 : b2 (inR i ((ro a p).length - 1)) = nI 0 := b2_f k1
      rw [if_neg k1, if_neg (fun q => k1 q.2)]
      refine ⟨σ, fun Q => ?_, h, Hi.rf σ⟩
      simp (disch := omega) only [q_115_0, q_115_1, q_115_4, q_115_7, q_115_8, q_115_9, q_115_10, q_115_11, q_115_12, q_115_13, q_115_16, q_115_17, q_115_18, q_115_19, q_115_20, q_115_21, q_115_24, q_115_27, q_115_29, q_115_30, q_115_32, q_115_33, q_115_34, q_115_35, q_115_36, q_115_37, q_115_38, q_115_41, q_115_42, q_115_43, q_115_45, q_115_46, q_115_49, q_115_50, q_115_51, q_115_54, q_115_55, q_115_56, q_115_57, q_115_58, q_115_59, q_115_60, q_115_63, q_115_64, q_115_65, q_115_66, q_115_68, q_115_69, q_115_70, q_115_73, q_115_74, q_115_75, vinT, iClamp, clr_i, clr_l, clr_r, clr_n, true_and, and_true, or_true, true_or, false_or, or_false, iLe, iLt, iEq, iAdd, iMul, List.cons_append, List.nil_append, List.append_nil, zb0, zb1, if_true, if_false, not_true_eq_false, not_false_eq_true, Bool.false_eq_true, Nat.one_ne_zero, Nat.zero_ne_one, Nat.reduceEqDiff, Nat.reduceAdd, if_pos, if_neg, m127, m128k, m128n, m129k, m129n, m130k, m130n, m131k, m131n, m132k, m132n, m133k, m133n, m134k, m134n, m135k, m135n, m136k, m136n, m137k, m137n, m138k, m138n, m139k, m139n, m140k, m140n, m141k, m141n, m142k, m142n, m143k, m143n, m144k, m144n, m145k, m145n, m146k, m146n, s_isPaperM, e0, s_inL2, e1, m5 p hp]
  · have e0 : b2 (inR x 8) = nI 0 := b2_f k0
    rw [anSw, if_neg k0, nxSw, if_neg (fun q => k0 q.1)]
    refine ⟨σ, fun Q => ?_, h, Hi.rf σ⟩
    simp (disch := omega) only [q_115_0, q_115_1, q_115_4, q_115_7, q_115_8, q_115_9, q_115_10, q_115_11, q_115_12, q_115_13, q_115_16, q_115_17, q_115_18, q_115_19, q_115_20, q_115_21, q_115_24, q_115_27, q_115_29, q_115_30, q_115_32, q_115_33, q_115_34, q_115_35, q_115_36, q_115_37, q_115_38, q_115_41, q_115_42, q_115_43, q_115_45, q_115_46, q_115_49, q_115_50, q_115_51, q_115_54, q_115_55, q_115_56, q_115_57, q_115_58, q_115_59, q_115_60, q_115_63, q_115_64, q_115_65, q_115_66, q_115_68, q_115_69, q_115_70, q_115_73, q_115_74, q_115_75, vinT, iClamp, clr_i, clr_l, clr_r, clr_n, true_and, and_true, or_true, true_or, false_or, or_false, iLe, iLt, iEq, iAdd, iMul, List.cons_append, List.nil_append, List.append_nil, zb0, zb1, if_true, if_false, not_true_eq_false, not_false_eq_true, Bool.false_eq_true, Nat.one_ne_zero, Nat.zero_ne_one, Nat.reduceEqDiff, Nat.reduceAdd, if_pos, if_neg, s_isPaperM, e0]
theorem m_Rm {X : Nat × (Nat → Int32)} {σ : Mem} {a : AS} {t y : Int32} {w0 : Value} (ok : AOK a) (h : MI σ a) : ∃ σ', Ev X 123 [.ref 127, .int t, .int y, w0] σ [.int (anRm a t y)] σ' ∧ MI σ' (nxRm a t y) ∧ Hi σ σ' := by
  obtain ⟨m1, m2, m3, m4, m5, m6, m7, m8, m9, m10⟩ := id h
  by_cases k0 : inR t 3
  · have e0 : b2 (inR t 3) = nI 1 := b2_t k0
    obtain ⟨s, hs, rfl⟩ := inR_of k0 (by omega)
    rw [anRm, if_pos k0, nxRm, tn_nI (by omega)]
    by_cases k1 : y = -9 ∨ inR y 7
    · rw [if_pos k1, if_pos ⟨k0, k1⟩]
      refine ⟨sI σ 135 s y, fun Q => ?_, MI_rm hs h, ((Off.rf [135] σ).sI (by simp) _ _).hi (by simp)⟩
      by_cases c : y = -9
      · simp (disch := omega) only [q_123_0, q_123_1, q_123_4, q_123_7, q_123_9, q_123_10, q_123_11, q_123_13, q_123_16, q_123_17, q_123_20, q_123_23, q_123_24, q_123_25, q_123_26, q_123_29, q_123_30, q_123_31, q_123_32, q_123_33, q_123_36, q_123_37, q_123_38, q_123_39, q_123_40, vinT, iClamp, clr_i, clr_l, clr_r, clr_n, true_and, and_true, or_true, true_or, false_or, or_false, iLe, iLt, iEq, iAdd, iMul, List.cons_append, List.nil_append, List.append_nil, zb0, zb1, if_true, if_false, not_true_eq_false, not_false_eq_true, Bool.false_eq_true, Nat.one_ne_zero, Nat.zero_ne_one, Nat.reduceEqDiff, Nat.reduceAdd, if_pos, if_neg, m127, m128k, m128n, m129k, m129n, m130k, m130n, m131k, m131n, m132k, m132n, m133k, m133n, m134k, m134n, m135k, m135n, m136k, m136n, m137k, m137n, m138k, m138n, m139k, m139n, m140k, m140n, m141k, m141n, m142k, m142n, m143k, m143n, m144k, m144n, m145k, m145n, m146k, m146n, s_isTradeM, e0, c, m7 s hs]
      · have e1 : b2 (inR y 7) = nI 1 := b2_t (k1.resolve_left c)
        simp (disch := omega) only [q_123_0, q_123_1, q_123_4, q_123_7, q_123_9, q_123_10, q_123_11, q_123_13, q_123_16, q_123_17, q_123_20, q_123_23, q_123_24, q_123_25, q_123_26, q_123_29, q_123_30, q_123_31, q_123_32, q_123_33, q_123_36, q_123_37, q_123_38, q_123_39, q_123_40, vinT, iClamp, clr_i, clr_l, clr_r, clr_n, true_and, and_true, or_true, true_or, false_or, or_false, iLe, iLt, iEq, iAdd, iMul, List.cons_append, List.nil_append, List.append_nil, zb0, zb1, if_true, if_false, not_true_eq_false, not_false_eq_true, Bool.false_eq_true, Nat.one_ne_zero, Nat.zero_ne_one, Nat.reduceEqDiff, Nat.reduceAdd, if_pos, if_neg, m127, m128k, m128n, m129k, m129n, m130k, m130n, m131k, m131n, m132k, m132n, m133k, m133n, m134k, m134n, m135k, m135n, m136k, m136n, m137k, m137n, m138k, m138n, m139k, m139n, m140k, m140n, m141k, m141n, m142k, m142n, m143k, m143n, m144k, m144n, m145k, m145n, m146k, m146n, s_isTradeM, s_isPersonM, e0, e1, c, m7 s hs]
    · rw [if_neg k1, if_neg (fun q => k1 q.2)]
      have k2 : ¬ y = -9 := fun q => k1 (Or.inl q)
      have e1 : b2 (inR y 7) = nI 0 := b2_f (fun q => k1 (Or.inr q))
      refine ⟨σ, fun Q => ?_, h, Hi.rf σ⟩
      simp (disch := omega) only [q_123_0, q_123_1, q_123_4, q_123_7, q_123_9, q_123_10, q_123_11, q_123_13, q_123_16, q_123_17, q_123_20, q_123_23, q_123_24, q_123_25, q_123_26, q_123_29, q_123_30, q_123_31, q_123_32, q_123_33, q_123_36, q_123_37, q_123_38, q_123_39, q_123_40, vinT, iClamp, clr_i, clr_l, clr_r, clr_n, true_and, and_true, or_true, true_or, false_or, or_false, iLe, iLt, iEq, iAdd, iMul, List.cons_append, List.nil_append, List.append_nil, zb0, zb1, if_true, if_false, not_true_eq_false, not_false_eq_true, Bool.false_eq_true, Nat.one_ne_zero, Nat.zero_ne_one, Nat.reduceEqDiff, Nat.reduceAdd, if_pos, if_neg, s_isTradeM, s_isPersonM, e0, e1, k2]
  · have e0 : b2 (inR t 3) = nI 0 := b2_f k0
    rw [anRm, if_neg k0, nxRm, if_neg (fun q => k0 q.1)]
    refine ⟨σ, fun Q => ?_, h, Hi.rf σ⟩
    simp (disch := omega) only [q_123_0, q_123_1, q_123_4, q_123_7, q_123_9, q_123_10, q_123_11, q_123_13, q_123_16, q_123_17, q_123_20, q_123_23, q_123_24, q_123_25, q_123_26, q_123_29, q_123_30, q_123_31, q_123_32, q_123_33, q_123_36, q_123_37, q_123_38, q_123_39, q_123_40, vinT, iClamp, clr_i, clr_l, clr_r, clr_n, true_and, and_true, or_true, true_or, false_or, or_false, iLe, iLt, iEq, iAdd, iMul, List.cons_append, List.nil_append, List.append_nil, zb0, zb1, if_true, if_false, not_true_eq_false, not_false_eq_true, Bool.false_eq_true, Nat.one_ne_zero, Nat.zero_ne_one, Nat.reduceEqDiff, Nat.reduceAdd, if_pos, if_neg, s_isTradeM, e0]
theorem m_Mi {X : Nat × (Nat → Int32)} {σ : Mem} {a : AS} {x y v : Int32} {w0 : Value} (ok : AOK a) (h : MI σ a) : ∃ σ', Ev X 155 [.ref 127, .int x, .int y, .int v, w0] σ [.int (anMi a x y v)] σ' ∧ MI σ' (nxMi a x y v) ∧ Hi σ σ' := by
  obtain ⟨m1, m2, m3, m4, m5, m6, m7, m8, m9, m10⟩ := id h
  by_cases k0 : inR x 7
  · have e0 : b2 (inR x 7) = nI 1 := b2_t k0
    by_cases k1 : inR y 7
    · have e1 : b2 (inR y 7) = nI 1 := b2_t k1
      by_cases k2 : inQ v 9
      · have e2 : b2 (inQ v 9) = nI 1 := b2_t k2
        by_cases k3 : x = y
        · rw [anMi, if_pos k0, if_pos k1, if_pos k2, if_pos k3, nxMi, if_neg (fun q => q.2.2.2 k3)]
          refine ⟨σ, fun Q => ?_, h, Hi.rf σ⟩
          subst k3
          simp (disch := omega) only [q_155_0, q_155_1, q_155_4, q_155_7, q_155_8, q_155_11, q_155_14, q_155_15, q_155_16, q_155_17, q_155_18, q_155_19, q_155_22, q_155_25, q_155_28, q_155_30, q_155_31, q_155_32, q_155_33, q_155_36, q_155_38, q_155_39, q_155_40, q_155_43, q_155_45, q_155_46, q_155_47, q_155_48, q_155_49, q_155_50, q_155_52, q_155_53, q_155_56, q_155_58, q_155_59, q_155_60, q_155_61, q_155_62, q_155_63, q_155_64, q_155_66, vinT, iClamp, clr_i, clr_l, clr_r, clr_n, true_and, and_true, or_true, true_or, false_or, or_false, iLe, iLt, iEq, iAdd, iMul, List.cons_append, List.nil_append, List.append_nil, zb0, zb1, if_true, if_false, not_true_eq_false, not_false_eq_true, Bool.false_eq_true, Nat.one_ne_zero, Nat.zero_ne_one, Nat.reduceEqDiff, Nat.reduceAdd, if_pos, if_neg, s_isPersonM, s_in0, e0, e2]
        · rw [anMi, if_pos k0, if_pos k1, if_pos k2, if_neg k3, nxMi, if_pos ⟨k0, k1, k2, k3⟩]
          obtain ⟨i, hi, rfl⟩ := inR_of k0 (by omega)
          obtain ⟨j, hj, rfl⟩ := inR_of k1 (by omega)
          obtain ⟨r1, hr1, rfl⟩ := inQ_of k2 (by omega)
          simp (disch := omega) only [tn_nI]
          have k4 : ¬ i = j := fun q => k3 (by rw [q])
          refine ⟨sI σ 142 (7 * i + j) (nI r1), fun Q => ?_, MI_mi hi hj h, ((Off.rf [142] σ).sI (by simp) _ _).hi (by simp)⟩
          simp (disch := omega) only [q_155_0, q_155_1, q_155_4, q_155_7, q_155_8, q_155_11, q_155_14, q_155_15, q_155_16, q_155_17, q_155_18, q_155_19, q_155_22, q_155_25, q_155_28, q_155_30, q_155_31, q_155_32, q_155_33, q_155_36, q_155_38, q_155_39, q_155_40, q_155_43, q_155_45, q_155_46, q_155_47, q_155_48, q_155_49, q_155_50, q_155_52, q_155_53, q_155_56, q_155_58, q_155_59, q_155_60, q_155_61, q_155_62, q_155_63, q_155_64, q_155_66, vinT, iClamp, clr_i, clr_l, clr_r, clr_n, true_and, and_true, or_true, true_or, false_or, or_false, iLe, iLt, iEq, iAdd, iMul, List.cons_append, List.nil_append, List.append_nil, zb0, zb1, if_true, if_false, not_true_eq_false, not_false_eq_true, Bool.false_eq_true, Nat.one_ne_zero, Nat.zero_ne_one, Nat.reduceEqDiff, Nat.reduceAdd, if_pos, if_neg, m127, m128k, m128n, m129k, m129n, m130k, m130n, m131k, m131n, m132k, m132n, m133k, m133n, m134k, m134n, m135k, m135n, m136k, m136n, m137k, m137n, m138k, m138n, m139k, m139n, m140k, m140n, m141k, m141n, m142k, m142n, m143k, m143n, m144k, m144n, m145k, m145n, m146k, m146n, s_isPersonM, s_in0, e0, e1, e2, k4, m9 i hi j hj]
      · have e2 : b2 (inQ v 9) = nI 0 := b2_f k2
        rw [anMi, if_pos k0, if_pos k1, if_neg k2, nxMi, if_neg (fun q => k2 q.2.2.1)]
        refine ⟨σ, fun Q => ?_, h, Hi.rf σ⟩
        simp (disch := omega) only [q_155_0, q_155_1, q_155_4, q_155_7, q_155_8, q_155_11, q_155_14, q_155_15, q_155_16, q_155_17, q_155_18, q_155_19, q_155_22, q_155_25, q_155_28, q_155_30, q_155_31, q_155_32, q_155_33, q_155_36, q_155_38, q_155_39, q_155_40, q_155_43, q_155_45, q_155_46, q_155_47, q_155_48, q_155_49, q_155_50, q_155_52, q_155_53, q_155_56, q_155_58, q_155_59, q_155_60, q_155_61, q_155_62, q_155_63, q_155_64, q_155_66, vinT, iClamp, clr_i, clr_l, clr_r, clr_n, true_and, and_true, or_true, true_or, false_or, or_false, iLe, iLt, iEq, iAdd, iMul, List.cons_append, List.nil_append, List.append_nil, zb0, zb1, if_true, if_false, not_true_eq_false, not_false_eq_true, Bool.false_eq_true, Nat.one_ne_zero, Nat.zero_ne_one, Nat.reduceEqDiff, Nat.reduceAdd, if_pos, if_neg, s_isPersonM, s_in0, e0, e1, e2]
    · have e1 : b2 (inR y 7) = nI 0 := b2_f k1
      rw [anMi, if_pos k0, if_neg k1, nxMi, if_neg (fun q => k1 q.2.1)]
      refine ⟨σ, fun Q => ?_, h, Hi.rf σ⟩
      simp (disch := omega) only [q_155_0, q_155_1, q_155_4, q_155_7, q_155_8, q_155_11, q_155_14, q_155_15, q_155_16, q_155_17, q_155_18, q_155_19, q_155_22, q_155_25, q_155_28, q_155_30, q_155_31, q_155_32, q_155_33, q_155_36, q_155_38, q_155_39, q_155_40, q_155_43, q_155_45, q_155_46, q_155_47, q_155_48, q_155_49, q_155_50, q_155_52, q_155_53, q_155_56, q_155_58, q_155_59, q_155_60, q_155_61, q_155_62, q_155_63, q_155_64, q_155_66, vinT, iClamp, clr_i, clr_l, clr_r, clr_n, true_and, and_true, or_true, true_or, false_or, or_false, iLe, iLt, iEq, iAdd, iMul, List.cons_append, List.nil_append, List.append_nil, zb0, zb1, if_true, if_false, not_true_eq_false, not_false_eq_true, Bool.false_eq_true, Nat.one_ne_zero, Nat.zero_ne_one, Nat.reduceEqDiff, Nat.reduceAdd, if_pos, if_neg, s_isPersonM, e0, e1]
  · have e0 : b2 (inR x 7) = nI 0 := b2_f k0
    rw [anMi, if_neg k0, nxMi, if_neg (fun q => k0 q.1)]
    refine ⟨σ, fun Q => ?_, h, Hi.rf σ⟩
    simp (disch := omega) only [q_155_0, q_155_1, q_155_4, q_155_7, q_155_8, q_155_11, q_155_14, q_155_15, q_155_16, q_155_17, q_155_18, q_155_19, q_155_22, q_155_25, q_155_28, q_155_30, q_155_31, q_155_32, q_155_33, q_155_36, q_155_38, q_155_39, q_155_40, q_155_43, q_155_45, q_155_46, q_155_47, q_155_48, q_155_49, q_155_50, q_155_52, q_155_53, q_155_56, q_155_58, q_155_59, q_155_60, q_155_61, q_155_62, q_155_63, q_155_64, q_155_66, vinT, iClamp, clr_i, clr_l, clr_r, clr_n, true_and, and_true, or_true, true_or, false_or, or_false, iLe, iLt, iEq, iAdd, iMul, List.cons_append, List.nil_append, List.append_nil, zb0, zb1, if_true, if_false, not_true_eq_false, not_false_eq_true, Bool.false_eq_true, Nat.one_ne_zero, Nat.zero_ne_one, Nat.reduceEqDiff, Nat.reduceAdd, if_pos, if_neg, s_isPersonM, e0]
theorem sI_same {σ : Mem} {k j : Nat} {v : Int32} (h : σ.1 k j = v) : sI σ k j v = σ := by
  have e : (sI σ k j v).1 = σ.1 := by
    funext a b
    by_cases c : a = k ∧ b = j
    · rw [c.1, c.2, sI_at, h]
    · rw [sI_off (by omega)]
  exact Prod.ext e rfl
theorem m_Tk {X : Nat × (Nat → Int32)} {σ : Mem} {a : AS} {x t w v : Int32} {w0 w1 : Value} (ok : AOK a) (h : MI σ a) : ∃ σ', Ev X 109 [.ref 127, .int x, .int t, .int w, .int v, w0, w1] σ [.int (anTk a x t w v)] σ' ∧ MI σ' (nxTk a x t w v) ∧ Hi σ σ' := by
  obtain ⟨m1, m2, m3, m4, m5, m6, m7, m8, m9, m10⟩ := id h
  by_cases k0 : inR x 8
  · have e0 : b2 (inR x 8) = nI 1 := b2_t k0
    by_cases k1 : inR t 4
    · have e1 : b2 (inR t 4) = nI 1 := b2_t k1
      obtain ⟨p, hp, rfl⟩ := inR_of k0 (by omega)
      obtain ⟨s, hs, rfl⟩ := inR_of k1 (by omega)
      rw [anTk, if_pos k0, if_pos k1, nxTk, if_pos (show inR (nI p) 8 ∧ inR (nI s) 4 from ⟨k0, k1⟩), tn_nI (by omega), tn_nI (by omega)]
      by_cases k2 : w = nI 0
      · subst k2
        rw [if_pos rfl, if_pos rfl]
        by_cases k3 : inQ v 9
        · have e3 : b2 (inQ v 9) = nI 1 := b2_t k3
          rw [if_pos k3, if_pos k3]
          obtain ⟨r1, hr1, rfl⟩ := inQ_of k3 (by omega)
          rw [tn_nI (by omega)]
          have hsame : sI (sI σ 129 (4 * p + s) (nI r1)) 130 (4 * p + s) (nI (co a p s)) = sI σ 129 (4 * p + s) (nI r1) := sI_same (by rw [sI_off (by omega)]; exact m3 p hp s hs)
          refine ⟨sI σ 129 (4 * p + s) (nI r1), fun Q => ?_, MI_wt hp hs h, ((Off.rf [129] σ).sI (by simp) _ _).hi (by simp)⟩
          simp (disch := omega) only [q_109_0, q_109_1, q_109_4, q_109_7, q_109_8, q_109_11, q_109_14, q_109_15, q_109_16, q_109_17, q_109_20, q_109_22, q_109_23, q_109_24, q_109_27, q_109_30, q_109_33, q_109_34, q_109_35, q_109_38, q_109_40, q_109_41, q_109_42, q_109_45, q_109_48, q_109_51, q_109_53, q_109_54, q_109_55, q_109_56, q_109_57, q_109_58, q_109_59, q_109_61, q_109_62, q_109_65, q_109_66, q_109_69, q_109_71, q_109_72, q_109_75, q_109_76, q_109_79, q_109_81, q_109_82, q_109_84, q_109_85, q_109_88, q_109_90, q_109_91, q_109_94, q_109_96, q_109_99, q_109_100, q_109_103, q_109_105, q_109_106, q_109_107, q_109_108, q_109_111, q_109_113, q_109_114, q_109_115, q_109_118, q_109_120, q_109_123, q_109_124, q_109_127, q_109_129, q_109_130, q_109_131, q_109_133, vinT, iClamp, clr_i, clr_l, clr_r, clr_n, true_and, and_true, or_true, true_or, false_or, or_false, iLe, iLt, iEq, iAdd, iMul, List.cons_append, List.nil_append, List.append_nil, zb0, zb1, if_true, if_false, not_true_eq_false, not_false_eq_true, Bool.false_eq_true, Nat.one_ne_zero, Nat.zero_ne_one, Nat.reduceEqDiff, Nat.reduceAdd, if_pos, if_neg, m127, m128k, m128n, m129k, m129n, m130k, m130n, m131k, m131n, m132k, m132n, m133k, m133n, m134k, m134n, m135k, m135n, m136k, m136n, m137k, m137n, m138k, m138n, m139k, m139n, m140k, m140n, m141k, m141n, m142k, m142n, m143k, m143n, m144k, m144n, m145k, m145n, m146k, m146n, s_isPaperM, s_isTaskM, s_in0, e0, e1, e3, m2 p hp s hs, m3 p hp s hs, sI_off, hsame]
        · have e3 : b2 (inQ v 9) = nI 0 := b2_f k3
          rw [if_neg k3, if_neg k3]
          refine ⟨σ, fun Q => ?_, h, Hi.rf σ⟩
          simp (disch := omega) only [q_109_0, q_109_1, q_109_4, q_109_7, q_109_8, q_109_11, q_109_14, q_109_15, q_109_16, q_109_17, q_109_20, q_109_22, q_109_23, q_109_24, q_109_27, q_109_30, q_109_33, q_109_34, q_109_35, q_109_38, q_109_40, q_109_41, q_109_42, q_109_45, q_109_48, q_109_51, q_109_53, q_109_54, q_109_55, q_109_56, q_109_57, q_109_58, q_109_59, q_109_61, q_109_62, q_109_65, q_109_66, q_109_69, q_109_71, q_109_72, q_109_75, q_109_76, q_109_79, q_109_81, q_109_82, q_109_84, q_109_85, q_109_88, q_109_90, q_109_91, q_109_94, q_109_96, q_109_99, q_109_100, q_109_103, q_109_105, q_109_106, q_109_107, q_109_108, q_109_111, q_109_113, q_109_114, q_109_115, q_109_118, q_109_120, q_109_123, q_109_124, q_109_127, q_109_129, q_109_130, q_109_131, q_109_133, vinT, iClamp, clr_i, clr_l, clr_r, clr_n, true_and, and_true, or_true, true_or, false_or, or_false, iLe, iLt, iEq, iAdd, iMul, List.cons_append, List.nil_append, List.append_nil, zb0, zb1, if_true, if_false, not_true_eq_false, not_false_eq_true, Bool.false_eq_true, Nat.one_ne_zero, Nat.zero_ne_one, Nat.reduceEqDiff, Nat.reduceAdd, if_pos, if_neg, s_isPaperM, s_isTaskM, s_in0, e0, e1, e3]
      · rw [if_neg k2, if_neg k2]
        by_cases k4 : w = nI 1
        · subst k4
          rw [if_pos rfl, if_pos rfl]
          by_cases k3 : inQ v 50
          · have e3 : b2 (inQ v 50) = nI 1 := b2_t k3
            rw [if_pos k3, if_pos k3]
            obtain ⟨r1, hr1, rfl⟩ := inQ_of k3 (by omega)
            rw [tn_nI (by omega)]
            have hsame : sI σ 129 (4 * p + s) (nI (wt a p s)) = σ := sI_same (m2 p hp s hs)
            refine ⟨sI σ 130 (4 * p + s) (nI r1), fun Q => ?_, MI_co hp hs h, ((Off.rf [130] σ).sI (by simp) _ _).hi (by simp)⟩
            simp (disch := omega) only [q_109_0, q_109_1, q_109_4, q_109_7, q_109_8, q_109_11, q_109_14, q_109_15, q_109_16, q_109_17, q_109_20, q_109_22, q_109_23, q_109_24, q_109_27, q_109_30, q_109_33, q_109_34, q_109_35, q_109_38, q_109_40, q_109_41, q_109_42, q_109_45, q_109_48, q_109_51, q_109_53, q_109_54, q_109_55, q_109_56, q_109_57, q_109_58, q_109_59, q_109_61, q_109_62, q_109_65, q_109_66, q_109_69, q_109_71, q_109_72, q_109_75, q_109_76, q_109_79, q_109_81, q_109_82, q_109_84, q_109_85, q_109_88, q_109_90, q_109_91, q_109_94, q_109_96, q_109_99, q_109_100, q_109_103, q_109_105, q_109_106, q_109_107, q_109_108, q_109_111, q_109_113, q_109_114, q_109_115, q_109_118, q_109_120, q_109_123, q_109_124, q_109_127, q_109_129, q_109_130, q_109_131, q_109_133, vinT, iClamp, clr_i, clr_l, clr_r, clr_n, true_and, and_true, or_true, true_or, false_or, or_false, iLe, iLt, iEq, iAdd, iMul, List.cons_append, List.nil_append, List.append_nil, zb0, zb1, if_true, if_false, not_true_eq_false, not_false_eq_true, Bool.false_eq_true, Nat.one_ne_zero, Nat.zero_ne_one, Nat.reduceEqDiff, Nat.reduceAdd, if_pos, if_neg, m127, m128k, m128n, m129k, m129n, m130k, m130n, m131k, m131n, m132k, m132n, m133k, m133n, m134k, m134n, m135k, m135n, m136k, m136n, m137k, m137n, m138k, m138n, m139k, m139n, m140k, m140n, m141k, m141n, m142k, m142n, m143k, m143n, m144k, m144n, m145k, m145n, m146k, m146n, s_isPaperM, s_isTaskM, s_in0, e0, e1, e3, m2 p hp s hs, m3 p hp s hs, hsame]
          · have e3 : b2 (inQ v 50) = nI 0 := b2_f k3
            rw [if_neg k3, if_neg k3]
            refine ⟨σ, fun Q => ?_, h, Hi.rf σ⟩
            simp (disch := omega) only [q_109_0, q_109_1, q_109_4, q_109_7, q_109_8, q_109_11, q_109_14, q_109_15, q_109_16, q_109_17, q_109_20, q_109_22, q_109_23, q_109_24, q_109_27, q_109_30, q_109_33, q_109_34, q_109_35, q_109_38, q_109_40, q_109_41, q_109_42, q_109_45, q_109_48, q_109_51, q_109_53, q_109_54, q_109_55, q_109_56, q_109_57, q_109_58, q_109_59, q_109_61, q_109_62, q_109_65, q_109_66, q_109_69, q_109_71, q_109_72, q_109_75, q_109_76, q_109_79, q_109_81, q_109_82, q_109_84, q_109_85, q_109_88, q_109_90, q_109_91, q_109_94, q_109_96, q_109_99, q_109_100, q_109_103, q_109_105, q_109_106, q_109_107, q_109_108, q_109_111, q_109_113, q_109_114, q_109_115, q_109_118, q_109_120, q_109_123, q_109_124, q_109_127, q_109_129, q_109_130, q_109_131, q_109_133, vinT, iClamp, clr_i, clr_l, clr_r, clr_n, true_and, and_true, or_true, true_or, false_or, or_false, iLe, iLt, iEq, iAdd, iMul, List.cons_append, List.nil_append, List.append_nil, zb0, zb1, if_true, if_false, not_true_eq_false, not_false_eq_true, Bool.false_eq_true, Nat.one_ne_zero, Nat.zero_ne_one, Nat.reduceEqDiff, Nat.reduceAdd, if_pos, if_neg, s_isPaperM, s_isTaskM, s_in0, e0, e1, e3]
        · rw [if_neg k4, if_neg k4]
          refine ⟨σ, fun Q => ?_, h, Hi.rf σ⟩
          simp (disch := omega) only [q_109_0, q_109_1, q_109_4, q_109_7, q_109_8, q_109_11, q_109_14, q_109_15, q_109_16, q_109_17, q_109_20, q_109_22, q_109_23, q_109_24, q_109_27, q_109_30, q_109_33, q_109_34, q_109_35, q_109_38, q_109_40, q_109_41, q_109_42, q_109_45, q_109_48, q_109_51, q_109_53, q_109_54, q_109_55, q_109_56, q_109_57, q_109_58, q_109_59, q_109_61, q_109_62, q_109_65, q_109_66, q_109_69, q_109_71, q_109_72, q_109_75, q_109_76, q_109_79, q_109_81, q_109_82, q_109_84, q_109_85, q_109_88, q_109_90, q_109_91, q_109_94, q_109_96, q_109_99, q_109_100, q_109_103, q_109_105, q_109_106, q_109_107, q_109_108, q_109_111, q_109_113, q_109_114, q_109_115, q_109_118, q_109_120, q_109_123, q_109_124, q_109_127, q_109_129, q_109_130, q_109_131, q_109_133, vinT, iClamp, clr_i, clr_l, clr_r, clr_n, true_and, and_true, or_true, true_or, false_or, or_false, iLe, iLt, iEq, iAdd, iMul, List.cons_append, List.nil_append, List.append_nil, zb0, zb1, if_true, if_false, not_true_eq_false, not_false_eq_true, Bool.false_eq_true, Nat.one_ne_zero, Nat.zero_ne_one, Nat.reduceEqDiff, Nat.reduceAdd, if_pos, if_neg, s_isPaperM, s_isTaskM, e0, e1, k2, k4]
    · have e1 : b2 (inR t 4) = nI 0 := b2_f k1
      rw [anTk, if_pos k0, if_neg k1, nxTk, if_neg (fun q => k1 q.2)]
      refine ⟨σ, fun Q => ?_, h, Hi.rf σ⟩
      simp (disch := omega) only [q_109_0, q_109_1, q_109_4, q_109_7, q_109_8, q_109_11, q_109_14, q_109_15, q_109_16, q_109_17, q_109_20, q_109_22, q_109_23, q_109_24, q_109_27, q_109_30, q_109_33, q_109_34, q_109_35, q_109_38, q_109_40, q_109_41, q_109_42, q_109_45, q_109_48, q_109_51, q_109_53, q_109_54, q_109_55, q_109_56, q_109_57, q_109_58, q_109_59, q_109_61, q_109_62, q_109_65, q_109_66, q_109_69, q_109_71, q_109_72, q_109_75, q_109_76, q_109_79, q_109_81, q_109_82, q_109_84, q_109_85, q_109_88, q_109_90, q_109_91, q_109_94, q_109_96, q_109_99, q_109_100, q_109_103, q_109_105, q_109_106, q_109_107, q_109_108, q_109_111, q_109_113, q_109_114, q_109_115, q_109_118, q_109_120, q_109_123, q_109_124, q_109_127, q_109_129, q_109_130, q_109_131, q_109_133, vinT, iClamp, clr_i, clr_l, clr_r, clr_n, true_and, and_true, or_true, true_or, false_or, or_false, iLe, iLt, iEq, iAdd, iMul, List.cons_append, List.nil_append, List.append_nil, zb0, zb1, if_true, if_false, not_true_eq_false, not_false_eq_true, Bool.false_eq_true, Nat.one_ne_zero, Nat.zero_ne_one, Nat.reduceEqDiff, Nat.reduceAdd, if_pos, if_neg, s_isPaperM, s_isTaskM, e0, e1]
  · have e0 : b2 (inR x 8) = nI 0 := b2_f k0
    rw [anTk, if_neg k0, nxTk, if_neg (fun q => k0 q.1)]
    refine ⟨σ, fun Q => ?_, h, Hi.rf σ⟩
    simp (disch := omega) only [q_109_0, q_109_1, q_109_4, q_109_7, q_109_8, q_109_11, q_109_14, q_109_15, q_109_16, q_109_17, q_109_20, q_109_22, q_109_23, q_109_24, q_109_27, q_109_30, q_109_33, q_109_34, q_109_35, q_109_38, q_109_40, q_109_41, q_109_42, q_109_45, q_109_48, q_109_51, q_109_53, q_109_54, q_109_55, q_109_56, q_109_57, q_109_58, q_109_59, q_109_61, q_109_62, q_109_65, q_109_66, q_109_69, q_109_71, q_109_72, q_109_75, q_109_76, q_109_79, q_109_81, q_109_82, q_109_84, q_109_85, q_109_88, q_109_90, q_109_91, q_109_94, q_109_96, q_109_99, q_109_100, q_109_103, q_109_105, q_109_106, q_109_107, q_109_108, q_109_111, q_109_113, q_109_114, q_109_115, q_109_118, q_109_120, q_109_123, q_109_124, q_109_127, q_109_129, q_109_130, q_109_131, q_109_133, vinT, iClamp, clr_i, clr_l, clr_r, clr_n, true_and, and_true, or_true, true_or, false_or, or_false, iLe, iLt, iEq, iAdd, iMul, List.cons_append, List.nil_append, List.append_nil, zb0, zb1, if_true, if_false, not_true_eq_false, not_false_eq_true, Bool.false_eq_true, Nat.one_ne_zero, Nat.zero_ne_one, Nat.reduceEqDiff, Nat.reduceAdd, if_pos, if_neg, s_isPaperM, e0]
