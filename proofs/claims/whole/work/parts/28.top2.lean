/-! ===== the class: setting ===== -/
def u1 {α : Type} (f : Nat → α) (k : Nat) (v : α) : Nat → α := fun x => if x = k then v else f x
theorem u1_at {α : Type} (f : Nat → α) (k : Nat) (v : α) : u1 f k v k = v := if_pos rfl
theorem u1_ne {α : Type} {f : Nat → α} {k x : Nat} {v : α} (h : x ≠ k) : u1 f k v x = f x := if_neg h
def setTr (a : AS) (p v : Nat) : AS := (u1 (tr a) p v, a.2)
def setWt (a : AS) (p t v : Nat) : AS := (a.1, u1 (wt a) p (u1 (wt a p) t v), a.2.2)
def setCo (a : AS) (p t v : Nat) : AS := (a.1, a.2.1, u1 (co a) p (u1 (co a p) t v), a.2.2.2)
def setHr (a : AS) (p t q v : Nat) : AS := (a.1, a.2.1, a.2.2.1, u1 (hr a) p (u1 (hr a p) t (u1 (hr a p t) q v)), a.2.2.2.2)
def setRo (a : AS) (p : Nat) (l : List Nat) : AS := (a.1, a.2.1, a.2.2.1, a.2.2.2.1, u1 (ro a) p l, a.2.2.2.2.2)
def setCl (a : AS) (p q v : Nat) : AS := (a.1, a.2.1, a.2.2.1, a.2.2.2.1, a.2.2.2.2.1, u1 (cl a) p (u1 (cl a p) q v), a.2.2.2.2.2.2)
def setRm (a : AS) (t : Nat) (x : Int32) : AS := (a.1, a.2.1, a.2.2.1, a.2.2.2.1, a.2.2.2.2.1, a.2.2.2.2.2.1, u1 (rm a) t x, a.2.2.2.2.2.2.2)
def setMi (a : AS) (x y v : Nat) : AS := (a.1, a.2.1, a.2.2.1, a.2.2.2.1, a.2.2.2.2.1, a.2.2.2.2.2.1, a.2.2.2.2.2.2.1, u1 (mi a) x (u1 (mi a x) y v), a.2.2.2.2.2.2.2.2)
def setBe (a : AS) (x v : Nat) : AS := (a.1, a.2.1, a.2.2.1, a.2.2.2.1, a.2.2.2.2.1, a.2.2.2.2.2.1, a.2.2.2.2.2.2.1, a.2.2.2.2.2.2.2.1, u1 (be a) x v)
/-- nothing of the model's has changed; nothing of the class's -/
def Lo (σ σ' : Mem) : Prop := ∀ b, 127 ≤ b → σ'.1 b = σ.1 b ∧ σ'.2 b = σ.2 b
def Hi (σ σ' : Mem) : Prop := ∀ b, b < 127 → σ'.1 b = σ.1 b ∧ σ'.2 b = σ.2 b
theorem Off.lo {S : List Nat} {σ σ' : Mem} (h : Off S σ σ') (hs : ∀ b, b ∈ S → b < 127) : Lo σ σ' := fun b hb => h b (fun q => by have := hs b q; omega)
theorem Off.hi {S : List Nat} {σ σ' : Mem} (h : Off S σ σ') (hs : ∀ b, b ∈ S → 127 ≤ b) : Hi σ σ' := fun b hb => h b (fun q => by have := hs b q; omega)
theorem Lo.rf (σ : Mem) : Lo σ σ := fun _ _ => ⟨rfl, rfl⟩
theorem Hi.rf (σ : Mem) : Hi σ σ := fun _ _ => ⟨rfl, rfl⟩
theorem CI_hi {σ σ' : Mem} {a : AS} (h : CI σ a) (ho : Hi σ σ') : CI σ' a := by
  obtain ⟨h1, h2, h3⟩ := h
  refine ⟨fun p hp => PI_congr (h1 p hp) (fun b b1 b2 => ho b (by simp only [pk] at b1 b2; omega)), fun t ht => by rw [(ho 2 (by omega)).1]; exact h2 t ht, ?_⟩
  exact ⟨fun x hx y hy => by rw [(ho (14 + 2 + x) (by omega)).1]; exact h3.1 x hx y hy, fun x hx => by rw [(ho (14 + 9) (by omega)).1]; exact h3.2 x hx⟩
theorem CI_set {σ σ' : Mem} {a a' : AS} {p : Nat} (h : CI σ a) (hp : p < 8) (ho : ∀ b, (b < pk p ∨ pk p + 12 ≤ b) → σ'.1 b = σ.1 b ∧ σ'.2 b = σ.2 b) (hn : PI σ' (pk p) (tr a' p) (wt a' p) (hr a' p) (co a' p) (cl a' p) (ro a' p)) (hs : ∀ x, x ≠ p → tr a' x = tr a x ∧ wt a' x = wt a x ∧ hr a' x = hr a x ∧ co a' x = co a x ∧ cl a' x = cl a x ∧ ro a' x = ro a x) (hrm : rm a' = rm a) (hmi : mi a' = mi a) (hbe : be a' = be a) : CI σ' a' := by
  obtain ⟨h1, h2, h3⟩ := h
  refine ⟨fun x hx => ?_, fun t ht => ?_, ?_⟩
  · by_cases e : x = p
    · rw [e]; exact hn
    · obtain ⟨e1, e2, e3, e4, e5, e6⟩ := hs x e
      rw [e1, e2, e3, e4, e5, e6]
      exact PI_congr (h1 x hx) (fun b b1 b2 => ho b (by simp only [pk] at *; omega))
  · rw [hrm, (ho 2 (by simp only [pk]; omega)).1]; exact h2 t ht
  · rw [hmi, hbe]
    exact ⟨fun x hx y hy => by rw [(ho (14 + 2 + x) (by simp only [pk]; omega)).1]; exact h3.1 x hx y hy, fun x hx => by rw [(ho (14 + 9) (by simp only [pk]; omega)).1]; exact h3.2 x hx⟩
theorem hsT {a : AS} {p v : Nat} : ∀ x, x ≠ p → tr (setTr a p v) x = tr a x ∧ wt (setTr a p v) x = wt a x ∧ hr (setTr a p v) x = hr a x ∧ co (setTr a p v) x = co a x ∧ cl (setTr a p v) x = cl a x ∧ ro (setTr a p v) x = ro a x := fun x h => ⟨u1_ne h, rfl, rfl, rfl, rfl, rfl⟩
theorem hsW {a : AS} {p t v : Nat} : ∀ x, x ≠ p → tr (setWt a p t v) x = tr a x ∧ wt (setWt a p t v) x = wt a x ∧ hr (setWt a p t v) x = hr a x ∧ co (setWt a p t v) x = co a x ∧ cl (setWt a p t v) x = cl a x ∧ ro (setWt a p t v) x = ro a x := fun x h => ⟨rfl, u1_ne h, rfl, rfl, rfl, rfl⟩
theorem hsC {a : AS} {p t v : Nat} : ∀ x, x ≠ p → tr (setCo a p t v) x = tr a x ∧ wt (setCo a p t v) x = wt a x ∧ hr (setCo a p t v) x = hr a x ∧ co (setCo a p t v) x = co a x ∧ cl (setCo a p t v) x = cl a x ∧ ro (setCo a p t v) x = ro a x := fun x h => ⟨rfl, rfl, rfl, u1_ne h, rfl, rfl⟩
theorem hsH {a : AS} {p t q v : Nat} : ∀ x, x ≠ p → tr (setHr a p t q v) x = tr a x ∧ wt (setHr a p t q v) x = wt a x ∧ hr (setHr a p t q v) x = hr a x ∧ co (setHr a p t q v) x = co a x ∧ cl (setHr a p t q v) x = cl a x ∧ ro (setHr a p t q v) x = ro a x := fun x h => ⟨rfl, rfl, u1_ne h, rfl, rfl, rfl⟩
theorem hsR {a : AS} {p : Nat} {l : List Nat} : ∀ x, x ≠ p → tr (setRo a p l) x = tr a x ∧ wt (setRo a p l) x = wt a x ∧ hr (setRo a p l) x = hr a x ∧ co (setRo a p l) x = co a x ∧ cl (setRo a p l) x = cl a x ∧ ro (setRo a p l) x = ro a x := fun x h => ⟨rfl, rfl, rfl, rfl, rfl, u1_ne h⟩
theorem hsL {a : AS} {p q v : Nat} : ∀ x, x ≠ p → tr (setCl a p q v) x = tr a x ∧ wt (setCl a p q v) x = wt a x ∧ hr (setCl a p q v) x = hr a x ∧ co (setCl a p q v) x = co a x ∧ cl (setCl a p q v) x = cl a x ∧ ro (setCl a p q v) x = ro a x := fun x h => ⟨rfl, rfl, rfl, rfl, u1_ne h, rfl⟩
def tn (x : Int32) : Nat := x.toNatClampNeg
theorem tn_nI {j : Nat} (h : j < 2147483648) : tn (nI j) = j := iClamp h
theorem nI_n9 {p : Nat} (h : p < 2147483648) : ¬ nI p = -9 := by
  intro e
  have : nI 0 ≤ nI p := by rw [iLe (by omega) (by omega)]; omega
  rw [e] at this
  exact absurd this (by decide)
theorem gD_el {l : List Nat} {i : Nat} (h : i < l.length) : l.getD i 0 = l[i] := by
  rw [List.getD_eq_getElem?_getD, List.getElem?_eq_getElem h]
  rfl
theorem gD_mem {l : List Nat} {i : Nat} (h : i < l.length) : l.getD i 0 ∈ l := by
  rw [gD_el h]
  exact List.getElem_mem h
theorem mem_gD {l : List Nat} {x : Nat} (h : x ∈ l) : ∃ i, i < l.length ∧ l.getD i 0 = x := by
  obtain ⟨i, hi, e⟩ := List.getElem_of_mem h
  exact ⟨i, hi, by rw [gD_el hi, e]⟩
theorem nd_inj : ∀ {l : List Nat}, l.Nodup → ∀ i j, i < l.length → j < l.length → l.getD i 0 = l.getD j 0 → i = j
  | [], _, i, j, h, _, _ => by simp at h
  | x :: l, hd, i, j, hi, hj, e => by
    obtain ⟨h1, h2⟩ := List.nodup_cons.mp hd
    cases i with
    | zero =>
      cases j with
      | zero => rfl
      | succ j =>
        have e2 : x = l.getD j 0 := e
        exact absurd (e2 ▸ gD_mem (by simpa using hj)) h1
    | succ i =>
      cases j with
      | zero =>
        have e2 : l.getD i 0 = x := e
        exact absurd (e2 ▸ gD_mem (by simpa using hi)) h1
      | succ j =>
        have := nd_inj h2 i j (by simpa using hi) (by simpa using hj) e
        omega
theorem plF_none {σ : Mem} {k : Nat} {l : List Nat} {j : Nat} (hj : j < 7) (h7 : ∀ i, i < l.length → σ.1 k i = nI (l.getD i 0) ∧ l.getD i 0 < 7) (hl : l.length ≤ 7) (c : plF (rF l) (nI j) 0 l.length = -9) : j ∉ l := by
  intro hm
  obtain ⟨i, hi, e⟩ := mem_gD hm
  rcases plF_spec (rF l) (nI j) l.length 0 with ⟨-, c2⟩ | ⟨p, -, c2, c3, -⟩
  · exact c2 i (by omega) (by omega) (by rw [rF, e])
  · rw [c] at c3
    exact nI_n9 (p := p) (by omega) c3.symm
theorem nodup_lt {σ : Mem} {k : Nat} {l : List Nat} {j : Nat} (hd : l.Nodup) (h7 : ∀ i, i < l.length → σ.1 k i = nI (l.getD i 0) ∧ l.getD i 0 < 7) (hj : j < 7) (hn : j ∉ l) : l.length < 7 := by
  have hd2 : (j :: l).Nodup := List.nodup_cons.mpr ⟨hn, hd⟩
  have h := fb_holes 7 (l.length + 1) (fun i => (j :: l).getD i 0) (fun i hi => by
    cases i with
    | zero => exact hj
    | succ i => exact (h7 i (by omega)).2) (fun i m him hm e => by
    have := nd_inj hd2 i m (by simp; omega) (by simp; omega) e
    omega)
  omega
theorem nodup_snoc {l : List Nat} {j : Nat} (hd : l.Nodup) (hn : j ∉ l) : (l ++ [j]).Nodup := by
  rw [List.nodup_append]
  refine ⟨hd, by simp, fun x hx y hy => ?_⟩
  simp at hy
  subst hy
  intro e
  exact hn (e ▸ hx)
theorem WH_congr' {σ σ' : Mem} {k : Nat} {w : Nat → Nat} {h : Nat → Nat → Nat} (hh : WH σ k w h) (e : ∀ a, (a = k + 1 ∨ (k + 4 ≤ a ∧ a < k + 8)) → σ'.1 a = σ.1 a) : WH σ' k w h := by
  obtain ⟨h1, h2, h3, h4⟩ := hh
  exact ⟨fun t ht => by rw [e (k + 1) (Or.inl rfl)]; exact h1 t ht, fun t ht p hp => by rw [e (k + 4 + t) (Or.inr (by omega))]; exact h2 t ht p hp, h3, h4⟩
def anTr (a : AS) (x v : Int32) : Int32 := if inR x 8 then (if inR v 3 then (nI (tr a (tn x))) else -2) else -1
def nxTr (a : AS) (x v : Int32) : AS := if inR x 8 ∧ inR v 3 then setTr a (tn x) (tn v) else a
theorem x_Tr {X : Nat × (Nat → Int32)} {σ : Mem} {a : AS} {x v : Int32} {w0 : Value} (h : CI σ a) : ∃ σ', Ev X 44 [.ref 0, .int x, .int v, w0] σ [.int (anTr a x v)] σ' ∧ CI σ' (nxTr a x v) ∧ Lo σ σ' := by
  by_cases cc0 : inR x 8
  · have e0 : b2 (inR x 8) = nI 1 := b2_t cc0
    by_cases cc1 : inR v 3
    · have e1 : b2 (inR v 3) = nI 1 := b2_t cc1
      obtain ⟨p, hp, rfl⟩ := inR_of cc0 (by omega)
      obtain ⟨t, ht, rfl⟩ := inR_of cc1 (by omega)
      have ea : anTr a (nI p) (nI t) = nI (tr a p) := by
        rw [anTr, if_pos cc0, if_pos cc1]
        simp (disch := omega) only [tn_nI]
      have en : nxTr a (nI p) (nI t) = setTr a p t := by
        rw [nxTr, if_pos ⟨cc0, cc1⟩]
        simp (disch := omega) only [tn_nI]
      rw [ea, en]
      have hk := pk_K p hp
      obtain ⟨⟨q1, q2⟩, q3, q4, q5, q6, q7, q8⟩ := h.1 p hp
      obtain ⟨d1, d2, d3, d4⟩ := id q4
      obtain ⟨⟨f1, f2, f3, f4, f5, f6⟩, ⟨f7, f8, f9, f10, f11, f13, f14⟩, f12⟩ := F2 hk
      have ho : Off [pk p] σ (sI σ (pk p) 0 (nI t)) := (Off.rf _ σ).sI (by simp) _ _
      refine ⟨sI σ (pk p) 0 (nI t), fun Q => ?_, CI_set h hp (fun b hb => ho b (by simp <;> omega)) ⟨⟨by rw [sI_at]; simp [setTr, tr, u1_at], by simpa [setTr, tr, u1_at] using ht⟩, WH_congr q3 (fun b b1 b2 => (ho b (by simp <;> omega)).1), ⟨by rw [sI_off (by omega)]; exact d1, by rw [sI_off (by omega)]; exact d2, d3, d4⟩, fun t ht => by rw [sI_off (by omega)]; exact q5 t ht, fun p hp => by rw [sI_off (by omega)]; exact q6 p hp, RI_off q7 ho (by simp) (by simp <;> omega), q8⟩ hsT rfl rfl rfl, ho.lo (by simp [pk]; omega)⟩
      simp (disch := omega) only [q_44_0, q_44_1, q_44_4, q_44_7, q_44_8, q_44_9, q_44_10, q_44_13, q_44_16, q_44_18, q_44_19, q_44_20, q_44_23, q_44_24, q_44_25, q_44_28, q_44_29, q_44_30, q_44_33, q_44_34, q_44_35, q_44_36, q_44_39, q_44_40, vinT, iClamp, clr_i, clr_l, clr_r, clr_n, true_and, and_true, or_true, true_or, false_or, or_false, iLe, iLt, iEq, iAdd, iMul, List.cons_append, List.nil_append, List.append_nil, zb0, zb1, if_true, if_false, not_true_eq_false, not_false_eq_true, Bool.false_eq_true, Nat.one_ne_zero, Nat.zero_ne_one, Nat.reduceEqDiff, Nat.reduceAdd, if_pos, if_neg, s_isPaper, s_isTrade, e0, e1, c0, c1k, c1n, rA1, hk, q1]
    · have e1 : b2 (inR v 3) = nI 0 := b2_f cc1
      refine ⟨σ, fun Q => ?_, by rw [nxTr, if_neg (fun q => cc1 q.2)]; exact h, Lo.rf σ⟩
      rw [anTr, if_pos cc0, if_neg cc1]
      simp (disch := omega) only [q_44_0, q_44_1, q_44_4, q_44_7, q_44_8, q_44_9, q_44_10, q_44_13, q_44_16, q_44_18, q_44_19, q_44_20, q_44_23, q_44_24, q_44_25, q_44_28, q_44_29, q_44_30, q_44_33, q_44_34, q_44_35, q_44_36, q_44_39, q_44_40, vinT, iClamp, clr_i, clr_l, clr_r, clr_n, true_and, and_true, or_true, true_or, false_or, or_false, iLe, iLt, iEq, iAdd, iMul, List.cons_append, List.nil_append, List.append_nil, zb0, zb1, if_true, if_false, not_true_eq_false, not_false_eq_true, Bool.false_eq_true, Nat.one_ne_zero, Nat.zero_ne_one, Nat.reduceEqDiff, Nat.reduceAdd, if_pos, if_neg, s_isPaper, s_isTrade, e0, e1]
  · have e0 : b2 (inR x 8) = nI 0 := b2_f cc0
    refine ⟨σ, fun Q => ?_, by rw [nxTr, if_neg (fun q => cc0 q.1)]; exact h, Lo.rf σ⟩
    rw [anTr, if_neg cc0]
    simp (disch := omega) only [q_44_0, q_44_1, q_44_4, q_44_7, q_44_8, q_44_9, q_44_10, q_44_13, q_44_16, q_44_18, q_44_19, q_44_20, q_44_23, q_44_24, q_44_25, q_44_28, q_44_29, q_44_30, q_44_33, q_44_34, q_44_35, q_44_36, q_44_39, q_44_40, vinT, iClamp, clr_i, clr_l, clr_r, clr_n, true_and, and_true, or_true, true_or, false_or, or_false, iLe, iLt, iEq, iAdd, iMul, List.cons_append, List.nil_append, List.append_nil, zb0, zb1, if_true, if_false, not_true_eq_false, not_false_eq_true, Bool.false_eq_true, Nat.one_ne_zero, Nat.zero_ne_one, Nat.reduceEqDiff, Nat.reduceAdd, if_pos, if_neg, s_isPaper, s_isTrade, e0]
def anCl (a : AS) (x q v : Int32) : Int32 := if inR x 8 then (if inR q 7 then (if inQ v 100 then (nI (cl a (tn x) (tn q))) else -2) else -1) else -1
def nxCl (a : AS) (x q v : Int32) : AS := if inR x 8 ∧ inR q 7 ∧ inQ v 100 then setCl a (tn x) (tn q) (tn v) else a
theorem x_Cl {X : Nat × (Nat → Int32)} {σ : Mem} {a : AS} {x q v : Int32} {w0 w1 : Value} (h : CI σ a) : ∃ σ', Ev X 70 [.ref 0, .int x, .int q, .int v, w0, w1] σ [.int (anCl a x q v)] σ' ∧ CI σ' (nxCl a x q v) ∧ Lo σ σ' := by
  by_cases cc0 : inR x 8
  · have e0 : b2 (inR x 8) = nI 1 := b2_t cc0
    by_cases cc1 : inR q 7
    · have e1 : b2 (inR q 7) = nI 1 := b2_t cc1
      by_cases cc2 : inQ v 100
      · have e2 : b2 (inQ v 100) = nI 1 := b2_t cc2
        obtain ⟨p, hp, rfl⟩ := inR_of cc0 (by omega)
        obtain ⟨j, hj, rfl⟩ := inR_of cc1 (by omega)
        obtain ⟨t, ht, rfl⟩ := inQ_of cc2 (by omega)
        have ea : anCl a (nI p) (nI j) (nI t) = nI (cl a p j) := by
          rw [anCl, if_pos cc0, if_pos cc1, if_pos cc2]
          simp (disch := omega) only [tn_nI]
        have en : nxCl a (nI p) (nI j) (nI t) = setCl a p j t := by
          rw [nxCl, if_pos ⟨cc0, cc1, cc2⟩]
          simp (disch := omega) only [tn_nI]
        rw [ea, en]
        have hk := pk_K p hp
        obtain ⟨⟨q1, q2⟩, q3, q4, q5, q6, q7, q8⟩ := h.1 p hp
        obtain ⟨d1, d2, d3, d4⟩ := id q4
        obtain ⟨⟨f1, f2, f3, f4, f5, f6⟩, ⟨f7, f8, f9, f10, f11, f13, f14⟩, f12⟩ := F2 hk
        have ho : Off [pk p + 8] σ (sI σ (pk p + 8) j (nI t)) := (Off.rf _ σ).sI (by simp) _ _
        refine ⟨sI σ (pk p + 8) j (nI t), fun Q => ?_, CI_set h hp (fun b hb => ho b (by simp <;> omega)) ⟨⟨by rw [sI_off (by omega)]; exact q1, q2⟩, WH_congr q3 (fun b b1 b2 => (ho b (by simp <;> omega)).1), ⟨by rw [sI_off (by omega)]; exact d1, by rw [sI_off (by omega)]; exact d2, d3, d4⟩, fun t ht => by rw [sI_off (by omega)]; exact q5 t ht, fun i hi => ?_, RI_off q7 ho (by simp) (by simp <;> omega), q8⟩ hsL rfl rfl rfl, ho.lo (by simp [pk]; omega)⟩
        · simp (disch := omega) only [q_70_0, q_70_1, q_70_4, q_70_7, q_70_8, q_70_11, q_70_14, q_70_15, q_70_16, q_70_17, q_70_19, q_70_22, q_70_25, q_70_27, q_70_28, q_70_29, q_70_32, q_70_33, q_70_34, q_70_37, q_70_39, q_70_41, q_70_42, q_70_43, q_70_45, q_70_47, q_70_48, q_70_49, q_70_50, q_70_52, vinT, iClamp, clr_i, clr_l, clr_r, clr_n, true_and, and_true, or_true, true_or, false_or, or_false, iLe, iLt, iEq, iAdd, iMul, List.cons_append, List.nil_append, List.append_nil, zb0, zb1, if_true, if_false, not_true_eq_false, not_false_eq_true, Bool.false_eq_true, Nat.one_ne_zero, Nat.zero_ne_one, Nat.reduceEqDiff, Nat.reduceAdd, if_pos, if_neg, s_isPaper, s_isPerson, s_isWithin, e0, e1, e2, c0, c1k, c1n, rA1, hk, f7, f8, (q6 j hj).1]
        · by_cases e : i = j
          · subst e; rw [sI_at]; simp [setCl, cl, u1_at, ht]
          · rw [sI_off (by omega)]
            have e2 : cl (setCl a p j t) p i = cl a p i := by simp [setCl, cl, u1_at, u1_ne e]
            rw [e2]; exact q6 i hi
      · have e2 : b2 (inQ v 100) = nI 0 := b2_f cc2
        refine ⟨σ, fun Q => ?_, by rw [nxCl, if_neg (fun q => cc2 q.2.2)]; exact h, Lo.rf σ⟩
        rw [anCl, if_pos cc0, if_pos cc1, if_neg cc2]
        simp (disch := omega) only [q_70_0, q_70_1, q_70_4, q_70_7, q_70_8, q_70_11, q_70_14, q_70_15, q_70_16, q_70_17, q_70_19, q_70_22, q_70_25, q_70_27, q_70_28, q_70_29, q_70_32, q_70_33, q_70_34, q_70_37, q_70_39, q_70_41, q_70_42, q_70_43, q_70_45, q_70_47, q_70_48, q_70_49, q_70_50, q_70_52, vinT, iClamp, clr_i, clr_l, clr_r, clr_n, true_and, and_true, or_true, true_or, false_or, or_false, iLe, iLt, iEq, iAdd, iMul, List.cons_append, List.nil_append, List.append_nil, zb0, zb1, if_true, if_false, not_true_eq_false, not_false_eq_true, Bool.false_eq_true, Nat.one_ne_zero, Nat.zero_ne_one, Nat.reduceEqDiff, Nat.reduceAdd, if_pos, if_neg, s_isPaper, s_isPerson, s_isWithin, e0, e1, e2]
    · have e1 : b2 (inR q 7) = nI 0 := b2_f cc1
      refine ⟨σ, fun Q => ?_, by rw [nxCl, if_neg (fun q => cc1 q.2.1)]; exact h, Lo.rf σ⟩
      rw [anCl, if_pos cc0, if_neg cc1]
      simp (disch := omega) only [q_70_0, q_70_1, q_70_4, q_70_7, q_70_8, q_70_11, q_70_14, q_70_15, q_70_16, q_70_17, q_70_19, q_70_22, q_70_25, q_70_27, q_70_28, q_70_29, q_70_32, q_70_33, q_70_34, q_70_37, q_70_39, q_70_41, q_70_42, q_70_43, q_70_45, q_70_47, q_70_48, q_70_49, q_70_50, q_70_52, vinT, iClamp, clr_i, clr_l, clr_r, clr_n, true_and, and_true, or_true, true_or, false_or, or_false, iLe, iLt, iEq, iAdd, iMul, List.cons_append, List.nil_append, List.append_nil, zb0, zb1, if_true, if_false, not_true_eq_false, not_false_eq_true, Bool.false_eq_true, Nat.one_ne_zero, Nat.zero_ne_one, Nat.reduceEqDiff, Nat.reduceAdd, if_pos, if_neg, s_isPaper, s_isPerson, s_isWithin, e0, e1]
  · have e0 : b2 (inR x 8) = nI 0 := b2_f cc0
    refine ⟨σ, fun Q => ?_, by rw [nxCl, if_neg (fun q => cc0 q.1)]; exact h, Lo.rf σ⟩
    rw [anCl, if_neg cc0]
    simp (disch := omega) only [q_70_0, q_70_1, q_70_4, q_70_7, q_70_8, q_70_11, q_70_14, q_70_15, q_70_16, q_70_17, q_70_19, q_70_22, q_70_25, q_70_27, q_70_28, q_70_29, q_70_32, q_70_33, q_70_34, q_70_37, q_70_39, q_70_41, q_70_42, q_70_43, q_70_45, q_70_47, q_70_48, q_70_49, q_70_50, q_70_52, vinT, iClamp, clr_i, clr_l, clr_r, clr_n, true_and, and_true, or_true, true_or, false_or, or_false, iLe, iLt, iEq, iAdd, iMul, List.cons_append, List.nil_append, List.append_nil, zb0, zb1, if_true, if_false, not_true_eq_false, not_false_eq_true, Bool.false_eq_true, Nat.one_ne_zero, Nat.zero_ne_one, Nat.reduceEqDiff, Nat.reduceAdd, if_pos, if_neg, s_isPaper, s_isPerson, s_isWithin, e0]
def anHr (a : AS) (x t q v : Int32) : Int32 := if inR x 8 then (if inR t 4 then (if inR q 7 then (if inQ v 9 then (nI (hr a (tn x) (tn t) (tn q))) else -2) else -1) else -1) else -1
def nxHr (a : AS) (x t q v : Int32) : AS := if inR x 8 ∧ inR t 4 ∧ inR q 7 ∧ inQ v 9 then setHr a (tn x) (tn t) (tn q) (tn v) else a
theorem x_Hr {X : Nat × (Nat → Int32)} {σ : Mem} {a : AS} {x t q v : Int32} {w0 w1 : Value} (h : CI σ a) : ∃ σ', Ev X 46 [.ref 0, .int x, .int t, .int q, .int v, w0, w1] σ [.int (anHr a x t q v)] σ' ∧ CI σ' (nxHr a x t q v) ∧ Lo σ σ' := by
  by_cases cc0 : inR x 8
  · have e0 : b2 (inR x 8) = nI 1 := b2_t cc0
    by_cases cc1 : inR t 4
    · have e1 : b2 (inR t 4) = nI 1 := b2_t cc1
      by_cases cc2 : inR q 7
      · have e2 : b2 (inR q 7) = nI 1 := b2_t cc2
        by_cases cc3 : inQ v 9
        · have e3 : b2 (inQ v 9) = nI 1 := b2_t cc3
          obtain ⟨p, hp, rfl⟩ := inR_of cc0 (by omega)
          obtain ⟨s, hs, rfl⟩ := inR_of cc1 (by omega)
          obtain ⟨j, hj, rfl⟩ := inR_of cc2 (by omega)
          obtain ⟨r1, hr1, rfl⟩ := inQ_of cc3 (by omega)
          have ea : anHr a (nI p) (nI s) (nI j) (nI r1) = nI (hr a p s j) := by
            rw [anHr, if_pos cc0, if_pos cc1, if_pos cc2, if_pos cc3]
            simp (disch := omega) only [tn_nI]
          have en : nxHr a (nI p) (nI s) (nI j) (nI r1) = setHr a p s j r1 := by
            rw [nxHr, if_pos ⟨cc0, cc1, cc2, cc3⟩]
            simp (disch := omega) only [tn_nI]
          rw [ea, en]
          have hk := pk_K p hp
          obtain ⟨⟨q1, q2⟩, q3, q4, q5, q6, q7, q8⟩ := h.1 p hp
          obtain ⟨d1, d2, d3, d4⟩ := id q4
          obtain ⟨⟨f1, f2, f3, f4, f5, f6⟩, ⟨f7, f8, f9, f10, f11, f13, f14⟩, f12⟩ := F2 hk
          obtain ⟨g1, g2, g3⟩ := f12 s hs
          obtain ⟨w1, w2, w3, w4⟩ := id q3
          have ho : Off [pk p + 4 + s] σ (sI σ (pk p + 4 + s) j (nI r1)) := (Off.rf _ σ).sI (by simp) _ _
          have eh : hr (setHr a p s j r1) p = u1 (hr a p) s (u1 (hr a p s) j r1) := by simp [setHr, hr, u1_at]
          have hW : WH (sI σ (pk p + 4 + s) j (nI r1)) (pk p) (wt a p) (u1 (hr a p) s (u1 (hr a p s) j r1)) := by
            refine ⟨fun t ht => by rw [sI_off (by omega)]; exact w1 t ht, fun t ht i hi => ?_, w3, fun t ht i hi => ?_⟩
            · by_cases e : t = s
              · subst e
                rw [u1_at]
                by_cases e2 : i = j
                · subst e2; rw [sI_at, u1_at]
                · rw [sI_off (by omega), u1_ne e2]; exact w2 t ht i hi
              · rw [u1_ne e, sI_off (by omega)]; exact w2 t ht i hi
            · by_cases e : t = s
              · subst e
                rw [u1_at]
                by_cases e2 : i = j
                · subst e2; rw [u1_at]; exact hr1
                · rw [u1_ne e2]; exact w4 t ht i hi
              · rw [u1_ne e]; exact w4 t ht i hi
          obtain ⟨σ', i1, i2, i3, i4⟩ := s_reckon (X := X) (u1 := .null) (u2 := .null) (u3 := .null) (u4 := .null) hk hW
          have i1' := fun Q => i1 Q
          have ho2 : Off [pk p + 4 + s, pk p, pk p + 11] σ σ' := (ho.mono (by simp)).tr (i4.mono (by simp <;> omega))
          refine ⟨σ', fun Q => ?_, CI_set h hp (fun b hb => ho2 b (by simp <;> omega)) ⟨⟨by rw [i3, sI_off (by omega)]; exact q1, q2⟩, ?_, ?_, fun t ht => by rw [(ho2 _ (by simp <;> omega)).1]; exact q5 t ht, fun p hp => by rw [(ho2 _ (by simp <;> omega)).1]; exact q6 p hp, RI_off q7 ho2 (by simp <;> omega) (by simp <;> omega), q8⟩ hsH rfl rfl rfl, ho2.lo (by simp [pk] <;> omega)⟩
          · simp (disch := omega) only [q_46_0, q_46_1, q_46_4, q_46_7, q_46_8, q_46_11, q_46_14, q_46_15, q_46_18, q_46_21, q_46_22, q_46_23, q_46_25, q_46_27, q_46_30, q_46_33, q_46_35, q_46_36, q_46_37, q_46_40, q_46_41, q_46_42, q_46_45, q_46_46, q_46_47, q_46_49, q_46_51, q_46_52, q_46_53, q_46_55, q_46_57, q_46_58, q_46_60, q_46_61, q_46_62, q_46_65, q_46_66, q_46_67, q_46_70, q_46_72, vinT, iClamp, clr_i, clr_l, clr_r, clr_n, true_and, and_true, or_true, true_or, false_or, or_false, iLe, iLt, iEq, iAdd, iMul, List.cons_append, List.nil_append, List.append_nil, zb0, zb1, if_true, if_false, not_true_eq_false, not_false_eq_true, Bool.false_eq_true, Nat.one_ne_zero, Nat.zero_ne_one, Nat.reduceEqDiff, Nat.reduceAdd, if_pos, if_neg, s_isPaper, s_isTask, s_isPerson, s_isWithin, e0, e1, e2, e3, c0, c1k, c1n, rA1, hk, f5, f6, g1, g2, g3, (w2 s hs j hj), i1']
          · rw [eh]; exact WH_congr hW (fun b b1 b2 => (i4 b (by simp <;> omega)).1)
          · rw [eh]; exact i2
        · have e3 : b2 (inQ v 9) = nI 0 := b2_f cc3
          refine ⟨σ, fun Q => ?_, by rw [nxHr, if_neg (fun q => cc3 q.2.2.2)]; exact h, Lo.rf σ⟩
          rw [anHr, if_pos cc0, if_pos cc1, if_pos cc2, if_neg cc3]
          simp (disch := omega) only [q_46_0, q_46_1, q_46_4, q_46_7, q_46_8, q_46_11, q_46_14, q_46_15, q_46_18, q_46_21, q_46_22, q_46_23, q_46_25, q_46_27, q_46_30, q_46_33, q_46_35, q_46_36, q_46_37, q_46_40, q_46_41, q_46_42, q_46_45, q_46_46, q_46_47, q_46_49, q_46_51, q_46_52, q_46_53, q_46_55, q_46_57, q_46_58, q_46_60, q_46_61, q_46_62, q_46_65, q_46_66, q_46_67, q_46_70, q_46_72, vinT, iClamp, clr_i, clr_l, clr_r, clr_n, true_and, and_true, or_true, true_or, false_or, or_false, iLe, iLt, iEq, iAdd, iMul, List.cons_append, List.nil_append, List.append_nil, zb0, zb1, if_true, if_false, not_true_eq_false, not_false_eq_true, Bool.false_eq_true, Nat.one_ne_zero, Nat.zero_ne_one, Nat.reduceEqDiff, Nat.reduceAdd, if_pos, if_neg, s_isPaper, s_isTask, s_isPerson, s_isWithin, e0, e1, e2, e3]
      · have e2 : b2 (inR q 7) = nI 0 := b2_f cc2
        refine ⟨σ, fun Q => ?_, by rw [nxHr, if_neg (fun q => cc2 q.2.2.1)]; exact h, Lo.rf σ⟩
        rw [anHr, if_pos cc0, if_pos cc1, if_neg cc2]
        simp (disch := omega) only [q_46_0, q_46_1, q_46_4, q_46_7, q_46_8, q_46_11, q_46_14, q_46_15, q_46_18, q_46_21, q_46_22, q_46_23, q_46_25, q_46_27, q_46_30, q_46_33, q_46_35, q_46_36, q_46_37, q_46_40, q_46_41, q_46_42, q_46_45, q_46_46, q_46_47, q_46_49, q_46_51, q_46_52, q_46_53, q_46_55, q_46_57, q_46_58, q_46_60, q_46_61, q_46_62, q_46_65, q_46_66, q_46_67, q_46_70, q_46_72, vinT, iClamp, clr_i, clr_l, clr_r, clr_n, true_and, and_true, or_true, true_or, false_or, or_false, iLe, iLt, iEq, iAdd, iMul, List.cons_append, List.nil_append, List.append_nil, zb0, zb1, if_true, if_false, not_true_eq_false, not_false_eq_true, Bool.false_eq_true, Nat.one_ne_zero, Nat.zero_ne_one, Nat.reduceEqDiff, Nat.reduceAdd, if_pos, if_neg, s_isPaper, s_isTask, s_isPerson, s_isWithin, e0, e1, e2]
    · have e1 : b2 (inR t 4) = nI 0 := b2_f cc1
      refine ⟨σ, fun Q => ?_, by rw [nxHr, if_neg (fun q => cc1 q.2.1)]; exact h, Lo.rf σ⟩
      rw [anHr, if_pos cc0, if_neg cc1]
      simp (disch := omega) only [q_46_0, q_46_1, q_46_4, q_46_7, q_46_8, q_46_11, q_46_14, q_46_15, q_46_18, q_46_21, q_46_22, q_46_23, q_46_25, q_46_27, q_46_30, q_46_33, q_46_35, q_46_36, q_46_37, q_46_40, q_46_41, q_46_42, q_46_45, q_46_46, q_46_47, q_46_49, q_46_51, q_46_52, q_46_53, q_46_55, q_46_57, q_46_58, q_46_60, q_46_61, q_46_62, q_46_65, q_46_66, q_46_67, q_46_70, q_46_72, vinT, iClamp, clr_i, clr_l, clr_r, clr_n, true_and, and_true, or_true, true_or, false_or, or_false, iLe, iLt, iEq, iAdd, iMul, List.cons_append, List.nil_append, List.append_nil, zb0, zb1, if_true, if_false, not_true_eq_false, not_false_eq_true, Bool.false_eq_true, Nat.one_ne_zero, Nat.zero_ne_one, Nat.reduceEqDiff, Nat.reduceAdd, if_pos, if_neg, s_isPaper, s_isTask, s_isPerson, s_isWithin, e0, e1]
  · have e0 : b2 (inR x 8) = nI 0 := b2_f cc0
    refine ⟨σ, fun Q => ?_, by rw [nxHr, if_neg (fun q => cc0 q.1)]; exact h, Lo.rf σ⟩
    rw [anHr, if_neg cc0]
    simp (disch := omega) only [q_46_0, q_46_1, q_46_4, q_46_7, q_46_8, q_46_11, q_46_14, q_46_15, q_46_18, q_46_21, q_46_22, q_46_23, q_46_25, q_46_27, q_46_30, q_46_33, q_46_35, q_46_36, q_46_37, q_46_40, q_46_41, q_46_42, q_46_45, q_46_46, q_46_47, q_46_49, q_46_51, q_46_52, q_46_53, q_46_55, q_46_57, q_46_58, q_46_60, q_46_61, q_46_62, q_46_65, q_46_66, q_46_67, q_46_70, q_46_72, vinT, iClamp, clr_i, clr_l, clr_r, clr_n, true_and, and_true, or_true, true_or, false_or, or_false, iLe, iLt, iEq, iAdd, iMul, List.cons_append, List.nil_append, List.append_nil, zb0, zb1, if_true, if_false, not_true_eq_false, not_false_eq_true, Bool.false_eq_true, Nat.one_ne_zero, Nat.zero_ne_one, Nat.reduceEqDiff, Nat.reduceAdd, if_pos, if_neg, s_isPaper, s_isTask, s_isPerson, s_isWithin, e0]
def anNm (a : AS) (x q : Int32) : Int32 := if inR x 8 then (if inR q 7 then (if plF (rF (ro a (tn x))) q 0 (ro a (tn x)).length = -9 then nI ((ro a (tn x)).length + 1) else -3) else -1) else -1
def nxNm (a : AS) (x q : Int32) : AS := if inR x 8 ∧ inR q 7 then if plF (rF (ro a (tn x))) q 0 (ro a (tn x)).length = -9 then setRo a (tn x) (ro a (tn x) ++ [(tn q)]) else a else a
theorem x_Nm {X : Nat × (Nat → Int32)} {σ : Mem} {a : AS} {x q : Int32} {w0 : Value} (h : CI σ a) : ∃ σ', Ev X 47 [.ref 0, .int x, .int q, w0] σ [.int (anNm a x q)] σ' ∧ CI σ' (nxNm a x q) ∧ Lo σ σ' := by
  by_cases cc0 : inR x 8
  · have e0 : b2 (inR x 8) = nI 1 := b2_t cc0
    by_cases cc1 : inR q 7
    · have e1 : b2 (inR q 7) = nI 1 := b2_t cc1
      obtain ⟨p, hp, rfl⟩ := inR_of cc0 (by omega)
      obtain ⟨j, hj, rfl⟩ := inR_of cc1 (by omega)
      have ea : anNm a (nI p) (nI j) = if plF (rF (ro a p)) (nI j) 0 (ro a p).length = -9 then nI ((ro a p).length + 1) else -3 := by
        rw [anNm, if_pos cc0, if_pos cc1]
        simp (disch := omega) only [tn_nI]
      have en : nxNm a (nI p) (nI j) = if plF (rF (ro a p)) (nI j) 0 (ro a p).length = -9 then setRo a p (ro a p ++ [j]) else a := by
        rw [nxNm, if_pos ⟨cc0, cc1⟩]
        simp (disch := omega) only [tn_nI]
      rw [ea, en]
      have hk := pk_K p hp
      obtain ⟨⟨q1, q2⟩, q3, q4, q5, q6, q7, q8⟩ := h.1 p hp
      obtain ⟨d1, d2, d3, d4⟩ := id q4
      obtain ⟨⟨f1, f2, f3, f4, f5, f6⟩, ⟨f7, f8, f9, f10, f11, f13, f14⟩, f12⟩ := F2 hk
      by_cases c : plF (rF (ro a p)) (nI j) 0 (ro a p).length = -9
      · rw [if_pos c, if_pos c]
        have hnm := plF_none hj q7.2.2 q7.1 c
        have hl := nodup_lt q8 q7.2.2 hj hnm
        obtain ⟨σ', i1, i2, i3, i4⟩ := s_append (X := X) f9 q7 hj hl
        have i1' := fun Q => i1 Q
        have e2 : b2 (¬ plF (rF (ro a p)) (nI j) 0 (ro a p).length = -9) = nI 0 := b2_f (fun q => q c)
        refine ⟨σ', fun Q => ?_, CI_set h hp (fun b hb => i3 b (by simp <;> omega)) ⟨⟨by rw [(i3 _ (by simp <;> omega)).1]; exact q1, q2⟩, WH_congr q3 (fun b b1 b2 => (i3 b (by simp <;> omega)).1), ⟨by rw [(i3 _ (by simp <;> omega)).1]; exact d1, by rw [(i3 _ (by simp <;> omega)).1]; exact d2, fun p hp => by rw [(i3 _ (by simp <;> omega)).2]; exact d3 p hp, by rw [(i3 _ (by simp <;> omega)).2]; exact d4⟩, fun t ht => by rw [(i3 _ (by simp <;> omega)).1]; exact q5 t ht, fun p hp => by rw [(i3 _ (by simp <;> omega)).1]; exact q6 p hp, ?_, ?_⟩ hsR rfl rfl rfl, i3.lo (by simp [pk] <;> omega)⟩
        · have e9 := i2.2.1
          rw [List.length_append, List.length_cons, List.length_nil, Nat.zero_add] at e9
          simp (disch := omega) only [q_47_0, q_47_1, q_47_4, q_47_7, q_47_8, q_47_11, q_47_14, q_47_15, q_47_16, q_47_17, q_47_20, q_47_21, q_47_22, q_47_25, q_47_26, q_47_27, q_47_28, q_47_31, q_47_34, q_47_36, q_47_37, q_47_38, q_47_39, q_47_42, q_47_43, q_47_46, vinT, iClamp, clr_i, clr_l, clr_r, clr_n, true_and, and_true, or_true, true_or, false_or, or_false, iLe, iLt, iEq, iAdd, iMul, List.cons_append, List.nil_append, List.append_nil, zb0, zb1, if_true, if_false, not_true_eq_false, not_false_eq_true, Bool.false_eq_true, Nat.one_ne_zero, Nat.zero_ne_one, Nat.reduceEqDiff, Nat.reduceAdd, if_pos, if_neg, s_isPaper, s_isPerson, e0, e1, c0, c1k, c1n, rA1, hk, f9, s_holds f9 q7, e2, i1', e9]
        · have e3 : ro (setRo a p (ro a p ++ [j])) p = ro a p ++ [j] := by simp [setRo, ro, u1_at]
          rw [e3]; exact i2
        · have e3 : ro (setRo a p (ro a p ++ [j])) p = ro a p ++ [j] := by simp [setRo, ro, u1_at]
          rw [e3]
          exact nodup_snoc q8 hnm
      · rw [if_neg c, if_neg c]
        have e2 : b2 (¬ plF (rF (ro a p)) (nI j) 0 (ro a p).length = -9) = nI 1 := b2_t c
        refine ⟨σ, fun Q => ?_, h, Lo.rf σ⟩
        simp (disch := omega) only [q_47_0, q_47_1, q_47_4, q_47_7, q_47_8, q_47_11, q_47_14, q_47_15, q_47_16, q_47_17, q_47_20, q_47_21, q_47_22, q_47_25, q_47_26, q_47_27, q_47_28, q_47_31, q_47_34, q_47_36, q_47_37, q_47_38, q_47_39, q_47_42, q_47_43, q_47_46, vinT, iClamp, clr_i, clr_l, clr_r, clr_n, true_and, and_true, or_true, true_or, false_or, or_false, iLe, iLt, iEq, iAdd, iMul, List.cons_append, List.nil_append, List.append_nil, zb0, zb1, if_true, if_false, not_true_eq_false, not_false_eq_true, Bool.false_eq_true, Nat.one_ne_zero, Nat.zero_ne_one, Nat.reduceEqDiff, Nat.reduceAdd, if_pos, if_neg, s_isPaper, s_isPerson, e0, e1, c0, c1k, c1n, rA1, hk, f9, s_holds f9 q7, e2]
    · have e1 : b2 (inR q 7) = nI 0 := b2_f cc1
      refine ⟨σ, fun Q => ?_, by rw [nxNm, if_neg (fun q => cc1 q.2)]; exact h, Lo.rf σ⟩
      rw [anNm, if_pos cc0, if_neg cc1]
      simp (disch := omega) only [q_47_0, q_47_1, q_47_4, q_47_7, q_47_8, q_47_11, q_47_14, q_47_15, q_47_16, q_47_17, q_47_20, q_47_21, q_47_22, q_47_25, q_47_26, q_47_27, q_47_28, q_47_31, q_47_34, q_47_36, q_47_37, q_47_38, q_47_39, q_47_42, q_47_43, q_47_46, vinT, iClamp, clr_i, clr_l, clr_r, clr_n, true_and, and_true, or_true, true_or, false_or, or_false, iLe, iLt, iEq, iAdd, iMul, List.cons_append, List.nil_append, List.append_nil, zb0, zb1, if_true, if_false, not_true_eq_false, not_false_eq_true, Bool.false_eq_true, Nat.one_ne_zero, Nat.zero_ne_one, Nat.reduceEqDiff, Nat.reduceAdd, if_pos, if_neg, s_isPaper, s_isPerson, e0, e1]
  · have e0 : b2 (inR x 8) = nI 0 := b2_f cc0
    refine ⟨σ, fun Q => ?_, by rw [nxNm, if_neg (fun q => cc0 q.1)]; exact h, Lo.rf σ⟩
    rw [anNm, if_neg cc0]
    simp (disch := omega) only [q_47_0, q_47_1, q_47_4, q_47_7, q_47_8, q_47_11, q_47_14, q_47_15, q_47_16, q_47_17, q_47_20, q_47_21, q_47_22, q_47_25, q_47_26, q_47_27, q_47_28, q_47_31, q_47_34, q_47_36, q_47_37, q_47_38, q_47_39, q_47_42, q_47_43, q_47_46, vinT, iClamp, clr_i, clr_l, clr_r, clr_n, true_and, and_true, or_true, true_or, false_or, or_false, iLe, iLt, iEq, iAdd, iMul, List.cons_append, List.nil_append, List.append_nil, zb0, zb1, if_true, if_false, not_true_eq_false, not_false_eq_true, Bool.false_eq_true, Nat.one_ne_zero, Nat.zero_ne_one, Nat.reduceEqDiff, Nat.reduceAdd, if_pos, if_neg, s_isPaper, s_isPerson, e0]
def anUn (a : AS) (x : Int32) : Int32 := if inR x 8 then (nI (ro a (tn x)).length) else -1
def nxUn (a : AS) (x : Int32) : AS := if inR x 8 then setRo a (tn x) [] else a
theorem x_Un {X : Nat × (Nat → Int32)} {σ : Mem} {a : AS} {x : Int32} {w0 w1 : Value} (h : CI σ a) : ∃ σ', Ev X 48 [.ref 0, .int x, w0, w1] σ [.int (anUn a x)] σ' ∧ CI σ' (nxUn a x) ∧ Lo σ σ' := by
  by_cases cc0 : inR x 8
  · have e0 : b2 (inR x 8) = nI 1 := b2_t cc0
    obtain ⟨p, hp, rfl⟩ := inR_of cc0 (by omega)
    have ea : anUn a (nI p) = nI (ro a p).length := by
      rw [anUn, if_pos cc0]
      simp (disch := omega) only [tn_nI]
    have en : nxUn a (nI p) = setRo a p [] := by
      rw [nxUn, if_pos cc0]
      simp (disch := omega) only [tn_nI]
    rw [ea, en]
    have hk := pk_K p hp
    obtain ⟨⟨q1, q2⟩, q3, q4, q5, q6, q7, q8⟩ := h.1 p hp
    obtain ⟨d1, d2, d3, d4⟩ := id q4
    obtain ⟨⟨f1, f2, f3, f4, f5, f6⟩, ⟨f7, f8, f9, f10, f11, f13, f14⟩, f12⟩ := F2 hk
    have ho : Off [pk p + 9] σ (sI σ (pk p + 9) 1 (nI 0)) := (Off.rf _ σ).sI (by simp) _ _
    refine ⟨sI σ (pk p + 9) 1 (nI 0), fun Q => ?_, CI_set h hp (fun b hb => ho b (by simp <;> omega)) ⟨⟨by rw [sI_off (by omega)]; exact q1, q2⟩, WH_congr q3 (fun b b1 b2 => (ho b (by simp <;> omega)).1), ⟨by rw [sI_off (by omega)]; exact d1, by rw [sI_off (by omega)]; exact d2, d3, d4⟩, fun t ht => by rw [sI_off (by omega)]; exact q5 t ht, fun p hp => by rw [sI_off (by omega)]; exact q6 p hp, ?_, ?_⟩ hsR rfl rfl rfl, ho.lo (by simp [pk] <;> omega)⟩
    · simp (disch := omega) only [q_48_0, q_48_1, q_48_4, q_48_7, q_48_8, q_48_9, q_48_10, q_48_13, q_48_14, q_48_15, q_48_18, q_48_19, q_48_20, q_48_23, q_48_24, q_48_25, q_48_26, q_48_29, q_48_30, vinT, iClamp, clr_i, clr_l, clr_r, clr_n, true_and, and_true, or_true, true_or, false_or, or_false, iLe, iLt, iEq, iAdd, iMul, List.cons_append, List.nil_append, List.append_nil, zb0, zb1, if_true, if_false, not_true_eq_false, not_false_eq_true, Bool.false_eq_true, Nat.one_ne_zero, Nat.zero_ne_one, Nat.reduceEqDiff, Nat.reduceAdd, if_pos, if_neg, s_isPaper, e0, c0, c1k, c1n, rA1, hk, f9, q7.2.1]
    · have e3 : ro (setRo a p []) p = [] := by simp [setRo, ro, u1_at]
      rw [e3]; exact RI_nil (sI_at _ _ _ _)
    · have e3 : ro (setRo a p []) p = [] := by simp [setRo, ro, u1_at]
      rw [e3]; exact List.nodup_nil
  · have e0 : b2 (inR x 8) = nI 0 := b2_f cc0
    refine ⟨σ, fun Q => ?_, by rw [nxUn, if_neg (fun q => cc0 q)]; exact h, Lo.rf σ⟩
    rw [anUn, if_neg cc0]
    simp (disch := omega) only [q_48_0, q_48_1, q_48_4, q_48_7, q_48_8, q_48_9, q_48_10, q_48_13, q_48_14, q_48_15, q_48_18, q_48_19, q_48_20, q_48_23, q_48_24, q_48_25, q_48_26, q_48_29, q_48_30, vinT, iClamp, clr_i, clr_l, clr_r, clr_n, true_and, and_true, or_true, true_or, false_or, or_false, iLe, iLt, iEq, iAdd, iMul, List.cons_append, List.nil_append, List.append_nil, zb0, zb1, if_true, if_false, not_true_eq_false, not_false_eq_true, Bool.false_eq_true, Nat.one_ne_zero, Nat.zero_ne_one, Nat.reduceEqDiff, Nat.reduceAdd, if_pos, if_neg, s_isPaper, e0]
def anBe (a : AS) (x v : Int32) : Int32 := if inR x 7 then (if inQ v 60 then (nI (be a (tn x))) else -2) else -1
def nxBe (a : AS) (x v : Int32) : AS := if inR x 7 ∧ inQ v 60 then setBe a (tn x) (tn v) else a
theorem x_Be {X : Nat × (Nat → Int32)} {σ : Mem} {a : AS} {x v : Int32} {w0 : Value} (h : CI σ a) : ∃ σ', Ev X 76 [.ref 0, .int x, .int v, w0] σ [.int (anBe a x v)] σ' ∧ CI σ' (nxBe a x v) ∧ Lo σ σ' := by
  by_cases cc0 : inR x 7
  · have e0 : b2 (inR x 7) = nI 1 := b2_t cc0
    by_cases cc1 : inQ v 60
    · have e1 : b2 (inQ v 60) = nI 1 := b2_t cc1
      obtain ⟨j, hj, rfl⟩ := inR_of cc0 (by omega)
      obtain ⟨t, ht, rfl⟩ := inQ_of cc1 (by omega)
      have ea : anBe a (nI j) (nI t) = nI (be a j) := by
        rw [anBe, if_pos cc0, if_pos cc1]
        simp (disch := omega) only [tn_nI]
      have en : nxBe a (nI j) (nI t) = setBe a j t := by
        rw [nxBe, if_pos ⟨cc0, cc1⟩]
        simp (disch := omega) only [tn_nI]
      rw [ea, en]
      obtain ⟨g1, g2, g3, g4, g5, g6, g7, g8, g9⟩ := Fa3 c14k
      have ho : Off [23] σ (sI σ 23 j (nI t)) := (Off.rf _ σ).sI (by simp) _ _
      obtain ⟨h1, h2, h3, h4⟩ := h
      refine ⟨sI σ 23 j (nI t), fun Q => ?_, ⟨fun p hp => PI_congr (h1 p hp) (fun b b1 b2 => ho b (by simp only [pk] at b1 b2; simp; omega)), fun t ht => by rw [sI_off (by omega)]; exact h2 t ht, fun x hx y hy => by rw [sI_off (by omega)]; exact h3 x hx y hy, fun x hx => ?_⟩, ho.lo (by simp)⟩
      · simp (disch := omega) only [q_76_0, q_76_1, q_76_4, q_76_7, q_76_8, q_76_9, q_76_10, q_76_12, q_76_15, q_76_18, q_76_20, q_76_21, q_76_22, q_76_25, q_76_28, q_76_29, q_76_30, q_76_31, q_76_32, q_76_35, q_76_38, q_76_39, q_76_40, q_76_41, q_76_42, vinT, iClamp, clr_i, clr_l, clr_r, clr_n, true_and, and_true, or_true, true_or, false_or, or_false, iLe, iLt, iEq, iAdd, iMul, List.cons_append, List.nil_append, List.append_nil, zb0, zb1, if_true, if_false, not_true_eq_false, not_false_eq_true, Bool.false_eq_true, Nat.one_ne_zero, Nat.zero_ne_one, Nat.reduceEqDiff, Nat.reduceAdd, if_pos, if_neg, s_isPerson, s_isWithin, e0, e1, c0, c1k, c1n, rA1, c14k, g3, g4, (h4 j hj).1]
      · by_cases e : x = j
        · subst e; rw [sI_at]; simp [setBe, be, u1_at, ht]
        · have e2 : be (setBe a j t) x = be a x := by simp [setBe, be, u1_ne e]
          rw [sI_off (by omega), e2]; exact h4 x hx
    · have e1 : b2 (inQ v 60) = nI 0 := b2_f cc1
      refine ⟨σ, fun Q => ?_, by rw [nxBe, if_neg (fun q => cc1 q.2)]; exact h, Lo.rf σ⟩
      rw [anBe, if_pos cc0, if_neg cc1]
      simp (disch := omega) only [q_76_0, q_76_1, q_76_4, q_76_7, q_76_8, q_76_9, q_76_10, q_76_12, q_76_15, q_76_18, q_76_20, q_76_21, q_76_22, q_76_25, q_76_28, q_76_29, q_76_30, q_76_31, q_76_32, q_76_35, q_76_38, q_76_39, q_76_40, q_76_41, q_76_42, vinT, iClamp, clr_i, clr_l, clr_r, clr_n, true_and, and_true, or_true, true_or, false_or, or_false, iLe, iLt, iEq, iAdd, iMul, List.cons_append, List.nil_append, List.append_nil, zb0, zb1, if_true, if_false, not_true_eq_false, not_false_eq_true, Bool.false_eq_true, Nat.one_ne_zero, Nat.zero_ne_one, Nat.reduceEqDiff, Nat.reduceAdd, if_pos, if_neg, s_isPerson, s_isWithin, e0, e1]
  · have e0 : b2 (inR x 7) = nI 0 := b2_f cc0
    refine ⟨σ, fun Q => ?_, by rw [nxBe, if_neg (fun q => cc0 q.1)]; exact h, Lo.rf σ⟩
    rw [anBe, if_neg cc0]
    simp (disch := omega) only [q_76_0, q_76_1, q_76_4, q_76_7, q_76_8, q_76_9, q_76_10, q_76_12, q_76_15, q_76_18, q_76_20, q_76_21, q_76_22, q_76_25, q_76_28, q_76_29, q_76_30, q_76_31, q_76_32, q_76_35, q_76_38, q_76_39, q_76_40, q_76_41, q_76_42, vinT, iClamp, clr_i, clr_l, clr_r, clr_n, true_and, and_true, or_true, true_or, false_or, or_false, iLe, iLt, iEq, iAdd, iMul, List.cons_append, List.nil_append, List.append_nil, zb0, zb1, if_true, if_false, not_true_eq_false, not_false_eq_true, Bool.false_eq_true, Nat.one_ne_zero, Nat.zero_ne_one, Nat.reduceEqDiff, Nat.reduceAdd, if_pos, if_neg, s_isPerson, s_isWithin, e0]
