/-! ===== the heap holds the memory ===== -/
theorem lk_mem {α : Type} : ∀ (l : List ((Nat × Nat) × α)) (k : Nat × Nat) (v : α), l.lookup k = some v → (k, v) ∈ l
  | [], k, v, h => by simp [List.lookup] at h
  | (a, b) :: l, k, v, h => by
    rw [List.lookup_cons] at h
    by_cases e : k = a
    · subst e
      simp at h
      subst h
      exact List.mem_cons_self
    · have e2 : (k == a) = false := by simpa using e
      rw [e2] at h
      exact List.mem_cons_of_mem _ (lk_mem l k v h)
def cv (γ : Nat → Nat) (v : Value) : Value := match v with
  | .ref k => .ref (γ k)
  | .retAddr _ => .ref (γ cUN)
  | v => v
theorem cv_cat (γ : Nat → Nat) (v : Value) : (cv γ v).category = v.category := by cases v <;> rfl
def fv (γ : Nat → Nat) (σ : Mem) (ci k j : Nat) : Value := match fC ci j with
  | 0 => .int (σ.1 k j)
  | 1 => .long (σ.2 k j)
  | n + 2 => .ref (γ (k + n))
def cE (γ : Nat → Nat) (cy : Nat → ClassId) (σ : Mem) (k : Nat) : va_E :=
  if cK k = 10 then .inl (cy 0, cN k, .inl (σ.1 k))
  else if cK k = 11 then .inl (cy 1, cN k, .inr (.inl (σ.2 k)))
  else if cK k = 12 then .inl (cy 2, cN k, .inr (.inr (.inr (.inr (fun j => some (γ (rA k j)))))))
  else if cK k = 13 then .inl (cy 3, cN k, .inr (.inr (.inr (.inr (fun j => some (γ (rA k j)))))))
  else .inr (cK k, (List.range (cN k)).map (fv γ σ (cK k) k))
def wl (γ : Nat → Nat) (cy : Nat → ClassId) (σ : Mem) : va_W := (List.range 147).map (fun k => (γ k, cE γ cy σ k))
def tyl (cy : Nat → ClassId) : List (ClassId × FieldType) := [(cy 0, .int), (cy 1, .long), (cy 2, .object "NamesInRow$Paper"), (cy 3, .array .int)]
theorem cK_lt {k c : Nat} (h : cK k = c) (hc : c ≠ 99) : k < 147 := by
  by_cases h1 : k < 147
  · exact h1
  · exfalso
    apply hc
    rw [← h, cK, if_neg (by omega), if_neg (by omega), if_neg h1]
theorem wl_at (γ : Nat → Nat) (cy : Nat → ClassId) (σ : Mem) {k : Nat} (h : k < 147) : (wl γ cy σ)[k]? = some (γ k, cE γ cy σ k) := by
  simp [wl, h]
theorem wl_inv {γ : Nat → Nat} {cy : Nat → ClassId} {σ : Mem} {k : Nat} {q : Nat × va_E} (h : (wl γ cy σ)[k]? = some q) : k < 147 ∧ q = (γ k, cE γ cy σ k) := by
  have hk : k < 147 := by
    by_cases h1 : k < 147
    · exact h1
    · rw [List.getElem?_eq_none (by simp [wl]; omega)] at h
      cases h
  rw [wl_at γ cy σ hk] at h
  exact ⟨hk, (Option.some.inj h).symm⟩
theorem wl_D {γ : Nat → Nat} {cy : Nat → ClassId} {σ σ' : Mem} {A A' : Nat → Prop} (h : va_D A (wl γ cy σ)) (hA : ∀ k, k < 147 → A' (γ k)) : va_D A' (wl γ cy σ') := by
  refine ⟨fun i j p q hi hj e => ?_, fun k q hk => ?_⟩
  · obtain ⟨h1, rfl⟩ := wl_inv hi
    obtain ⟨h2, rfl⟩ := wl_inv hj
    exact h.1 i j _ _ (wl_at γ cy σ h1) (wl_at γ cy σ h2) e
  · obtain ⟨h1, rfl⟩ := wl_inv hk
    exact hA k h1
theorem wl_set {γ : Nat → Nat} {cy : Nat → ClassId} {σ σ' : Mem} {k : Nat} (hk : k < 147) {e : va_E} (he : cE γ cy σ' k = e) (ho : ∀ a, a ≠ k → cE γ cy σ' a = cE γ cy σ a) : (wl γ cy σ).set k (γ k, e) = wl γ cy σ' := by
  apply List.ext_getElem?
  intro i
  by_cases hi : i = k
  · subst hi
    rw [List.getElem?_set_self (by simp [wl]; exact hk), wl_at γ cy σ' hk, he]
  · rw [List.getElem?_set_ne (Ne.symm hi)]
    by_cases h2 : i < 147
    · rw [wl_at γ cy σ h2, wl_at γ cy σ' h2, ho i hi]
    · rw [List.getElem?_eq_none (by simp [wl]; omega), List.getElem?_eq_none (by simp [wl]; omega)]
theorem sI_ne {σ : Mem} {k j a : Nat} {v : Int32} (h : a ≠ k) : (sI σ k j v).1 a = σ.1 a := by
  funext b
  simp [sI, h]
theorem sL_ne {σ : Mem} {k j a : Nat} {v : Int64} (h : a ≠ k) : (sL σ k j v).2 a = σ.2 a := by
  funext b
  simp [sL, h]
theorem cE_congr {γ : Nat → Nat} {cy : Nat → ClassId} {σ σ' : Mem} {a : Nat} (h1 : σ'.1 a = σ.1 a) (h2 : σ'.2 a = σ.2 a) : cE γ cy σ' a = cE γ cy σ a := by
  have h3 : fv γ σ' (cK a) a = fv γ σ (cK a) a := by
    funext j
    simp only [fv, h1, h2]
  simp only [cE, h1, h2, h3]
theorem cE_sI {γ : Nat → Nat} {cy : Nat → ClassId} {σ : Mem} {k j : Nat} {v : Int32} (a : Nat) (h : a ≠ k) : cE γ cy (sI σ k j v) a = cE γ cy σ a := cE_congr (sI_ne h) rfl
theorem cE_sL {γ : Nat → Nat} {cy : Nat → ClassId} {σ : Mem} {k j : Nat} {v : Int64} (a : Nat) (h : a ≠ k) : cE γ cy (sL σ k j v) a = cE γ cy σ a := cE_congr rfl (sL_ne h)
theorem cE_10 {γ : Nat → Nat} {cy : Nat → ClassId} {σ : Mem} {k : Nat} (h : cK k = 10) : cE γ cy σ k = .inl (cy 0, cN k, .inl (σ.1 k)) := by simp [cE, h]
theorem cE_11 {γ : Nat → Nat} {cy : Nat → ClassId} {σ : Mem} {k : Nat} (h : cK k = 11) : cE γ cy σ k = .inl (cy 1, cN k, .inr (.inl (σ.2 k))) := by simp [cE, h]
theorem cE_12 {γ : Nat → Nat} {cy : Nat → ClassId} {σ : Mem} {k : Nat} (h : cK k = 12) : cE γ cy σ k = .inl (cy 2, cN k, .inr (.inr (.inr (.inr (fun j => some (γ (rA k j))))))) := by simp [cE, h]
theorem cE_13 {γ : Nat → Nat} {cy : Nat → ClassId} {σ : Mem} {k : Nat} (h : cK k = 13) : cE γ cy σ k = .inl (cy 3, cN k, .inr (.inr (.inr (.inr (fun j => some (γ (rA k j))))))) := by simp [cE, h]
theorem cE_ob {γ : Nat → Nat} {cy : Nat → ClassId} {σ : Mem} {k ci : Nat} (h : cK k = ci) (hc : ci < 8) : cE γ cy σ k = .inr (ci, (List.range (cN k)).map (fv γ σ ci k)) := by
  subst h
  simp [cE, show ¬ cK k = 10 by omega, show ¬ cK k = 11 by omega, show ¬ cK k = 12 by omega, show ¬ cK k = 13 by omega]
theorem sI_upd {σ : Mem} {k j : Nat} {v : Int32} : (sI σ k j v).1 k = upd (σ.1 k) j v := by
  funext b
  simp [sI, upd]
theorem sL_upd {σ : Mem} {k j : Nat} {v : Int64} : (sL σ k j v).2 k = vp_updL (σ.2 k) j v := by
  funext b
  simp [sL, vp_updL]
theorem map_set {n j : Nat} {f g : Nat → Value} (hj : j < n) (hg : ∀ i, i ≠ j → g i = f i) : ((List.range n).map f).set j (g j) = (List.range n).map g := by
  apply List.ext_getElem?
  intro i
  by_cases hi : i = j
  · subst hi
    rw [List.getElem?_set_self (by simpa using hj)]
    simp [hj]
  · rw [List.getElem?_set_ne (Ne.symm hi)]
    by_cases h2 : i < n
    · simp [h2, hg i hi]
    · rw [List.getElem?_eq_none (by simp; omega), List.getElem?_eq_none (by simp; omega)]
theorem fv_sI {γ : Nat → Nat} {σ : Mem} {ci k j : Nat} {v : Int32} (h : fC ci j = 0) : fv γ (sI σ k j v) ci k j = .int v ∧ ∀ i, i ≠ j → fv γ (sI σ k j v) ci k i = fv γ σ ci k i := by
  constructor
  · simp [fv, h, sI]
  · intro i hi
    simp [fv, sI, hi]
theorem fv_sL {γ : Nat → Nat} {σ : Mem} {ci k j : Nat} {v : Int64} (h : fC ci j = 1) : fv γ (sL σ k j v) ci k j = .long v ∧ ∀ i, i ≠ j → fv γ (sL σ k j v) ci k i = fv γ σ ci k i := by
  constructor
  · simp [fv, h, sL]
  · intro i hi
    simp [fv, sL, hi]
/-! ===== locals ===== -/
def LR (γ : Nat → Nat) (la : Array Slot) (ls : List Value) (nL : Nat) : Prop := ls.length = nL ∧ ∃ lv : List (Nat × Value), lv_has la nL lv ∧ ∀ (i : Nat) (v : Value), ls[i]? = some v → v ≠ .null → (i, cv γ v) ∈ lv
theorem LR_at {γ : Nat → Nat} {la : Array Slot} {ls : List Value} {nL i : Nat} {v : Value} (h : LR γ la ls nL) (hg : g1 ls i = v) (hv : v ≠ .null) : la[i]? = some (.val (cv γ v)) := by
  obtain ⟨-, lv, h1, h2⟩ := h
  have h3 : ls[i]? = some v := by
    unfold g1 at hg
    rw [List.getD_eq_getElem?_getD] at hg
    cases h4 : ls[i]? with
    | none => rw [h4] at hg; exact absurd hg.symm hv
    | some w => rw [h4] at hg; exact congrArg some hg
  exact h1.2.2 _ (h2 i v h3 hv)
theorem g1_some {ls : List Value} {i : Nat} {v : Value} (hg : g1 ls i = v) (hv : v ≠ .null) : ls[i]? = some v := by
  unfold g1 at hg
  rw [List.getD_eq_getElem?_getD] at hg
  cases h4 : ls[i]? with
  | none => rw [h4] at hg; exact absurd hg.symm hv
  | some w => rw [h4] at hg; exact congrArg some hg
theorem put1_len (ls : List Value) (i : Nat) (v : Value) : (put1 ls i v).length = ls.length := by
  cases i <;> simp [put1]
theorem put2_len (ls : List Value) (i : Nat) (v : Value) : (put2 ls i v).length = ls.length := by
  simp [put2, put1_len]
theorem put1_get {ls : List Value} {i : Nat} {v : Value} (hi : i < ls.length) {j : Nat} {w : Value} (h : (put1 ls i v)[j]? = some w) : (j = i ∧ w = v) ∨ (j ≠ i ∧ j + 1 ≠ i ∧ ls[j]? = some w) ∨ (j + 1 = i ∧ ∃ u, ls[j]? = some u ∧ w = clr u) := by
  cases i with
  | zero =>
    by_cases hj : j = 0
    · subst hj
      rw [put1, List.getElem?_set_self hi] at h
      exact Or.inl ⟨rfl, (Option.some.inj h).symm⟩
    · rw [put1, List.getElem?_set_ne (Ne.symm hj)] at h
      exact Or.inr (Or.inl ⟨hj, by omega, h⟩)
  | succ i =>
    by_cases hj : j = i + 1
    · subst hj
      rw [put1, List.getElem?_set_self (by simpa using hi)] at h
      exact Or.inl ⟨rfl, (Option.some.inj h).symm⟩
    · rw [put1, List.getElem?_set_ne (Ne.symm hj)] at h
      by_cases hk : j = i
      · subst hk
        rw [List.getElem?_modify_eq] at h
        cases h5 : ls[j]? with
        | none => rw [h5] at h; cases h
        | some u =>
          rw [h5] at h
          exact Or.inr (Or.inr ⟨rfl, u, rfl, (Option.some.inj h).symm⟩)
      · have hk2 : i ≠ j := Ne.symm hk
        first | rw [List.getElem?_modify_ne _ _ hk2] at h | rw [List.getElem?_modify_ne _ hk2] at h | (rw [List.getElem?_modify, if_neg hk2] at h; simp at h)
        exact Or.inr (Or.inl ⟨hj, by omega, h⟩)
theorem clr_spec {u w : Value} (h : w = clr u) (hw : w ≠ .null) : w = u ∧ u.category ≠ 2 := by
  subst h
  cases u <;> first | exact ⟨rfl, by simp [Value.category]⟩ | exact absurd rfl hw
theorem LR_put1 {γ : Nat → Nat} {la la' : Array Slot} {ls : List Value} {nL i : Nat} {v : Value} {lv : List (Nat × Value)} (hlen : ls.length = nL) (hc : ∀ (i : Nat) (v : Value), ls[i]? = some v → v ≠ .null → (i, cv γ v) ∈ lv) (hi : i < ls.length) (h : lv_has la' nL ((i, cv γ v) :: lv.filter (fun q => !(q.1 == i) && !(q.1 + 1 == i && q.2.category == 2)))) : LR γ la' (put1 ls i v) nL := by
  refine ⟨by rw [put1_len, hlen], _, h, fun j w hj hw => ?_⟩
  rcases put1_get hi hj with ⟨rfl, rfl⟩ | ⟨h1, h2, h3⟩ | ⟨h1, u, h3, h4⟩
  · exact List.mem_cons_self
  · refine List.mem_cons_of_mem _ (List.mem_filter.mpr ⟨hc j w h3 hw, ?_⟩)
    simp [h1, h2]
  · obtain ⟨h5, h6⟩ := clr_spec h4 hw
    subst h5
    refine List.mem_cons_of_mem _ (List.mem_filter.mpr ⟨hc j w h3 hw, ?_⟩)
    rw [← cv_cat γ] at h6
    simp [show j ≠ i by omega, h6]
theorem LR_put2 {γ : Nat → Nat} {la la' : Array Slot} {ls : List Value} {nL i : Nat} {v : Value} {lv : List (Nat × Value)} (hlen : ls.length = nL) (hc : ∀ (i : Nat) (v : Value), ls[i]? = some v → v ≠ .null → (i, cv γ v) ∈ lv) (hi : i + 1 < ls.length) (h : lv_has la' nL ((i, cv γ v) :: lv.filter (fun q => !(q.1 == i) && (!(q.1 == i + 1) && !(q.1 + 1 == i && q.2.category == 2))))) : LR γ la' (put2 ls i v) nL := by
  refine ⟨by rw [put2_len, hlen], _, h, fun j w hj hw => ?_⟩
  have hj2 : j ≠ i + 1 := by
    intro e
    subst e
    rw [put2, List.getElem?_set_self (by rw [put1_len]; exact hi)] at hj
    exact hw (Option.some.inj hj).symm
  rw [put2, List.getElem?_set_ne (Ne.symm hj2)] at hj
  rcases put1_get (by omega) hj with ⟨rfl, rfl⟩ | ⟨h1, h2, h3⟩ | ⟨h1, u, h3, h4⟩
  · exact List.mem_cons_self
  · refine List.mem_cons_of_mem _ (List.mem_filter.mpr ⟨hc j w h3 hw, ?_⟩)
    simp [h1, h2, hj2]
  · obtain ⟨h5, h6⟩ := clr_spec h4 hw
    subst h5
    refine List.mem_cons_of_mem _ (List.mem_filter.mpr ⟨hc j w h3 hw, ?_⟩)
    rw [← cv_cat γ] at h6
    simp [show j ≠ i by omega, hj2, h6]
theorem spr_len (γ : Nat → Nat) : ∀ vs : List Value, (lg_sl (vs.map (cv γ))).length = (spr vs).length
  | [] => rfl
  | v :: vs => by
    have ih := spr_len γ vs
    simp only [lg_sl, spr, List.map_cons, List.flatMap_cons, List.length_append] at ih ⊢
    by_cases h : v.category = 2
    · simp [cv_cat, h, ih]; omega
    · simp [cv_cat, h, ih]; omega
theorem spr_at (γ : Nat → Nat) : ∀ (vs : List Value) (o i : Nat) (v : Value), (spr vs)[i]? = some v → v ≠ .null → (o + i, cv γ v) ∈ lv_args o (vs.map (cv γ))
  | [], o, i, v, h, _ => by simp [spr] at h
  | w :: vs, o, i, v, h, hv => by
    simp only [List.map_cons, lv_args]
    by_cases hc : w.category = 2
    · rw [spr, if_pos hc] at h
      rw [cv_cat, if_pos hc]
      match i, h with
      | 0, h =>
        simp at h
        subst h
        exact List.mem_cons_self
      | 1, h =>
        simp at h
        exact absurd h.symm hv
      | i + 2, h =>
        have h2 : (spr vs)[i]? = some v := by simpa using h
        have := spr_at γ vs (o + 2) i v h2 hv
        rw [show o + 2 + i = o + (i + 2) by omega] at this
        exact List.mem_cons_of_mem _ this
    · rw [spr, if_neg hc] at h
      rw [cv_cat, if_neg hc]
      match i, h with
      | 0, h =>
        simp at h
        subst h
        exact List.mem_cons_self
      | i + 1, h =>
        have h2 : (spr vs)[i]? = some v := by simpa using h
        have := spr_at γ vs (o + 1) i v h2 hv
        rw [show o + 1 + i = o + (i + 1) by omega] at this
        exact List.mem_cons_of_mem _ this
theorem LR_ent (γ : Nat → Nat) (vs : List Value) {n : Nat} (h : (spr vs).length ≤ n) : LR γ ((lg_sl (vs.map (cv γ)) ++ List.replicate (n - (lg_sl (vs.map (cv γ))).length) Slot.unset).toArray) (ent n vs) n := by
  refine ⟨by simp [ent]; omega, _, lv_entry (vs.map (cv γ)) (by rw [spr_len]; exact h), fun i v hi hv => ?_⟩
  have h2 : (spr vs)[i]? = some v := by
    unfold ent at hi
    by_cases hl : i < (spr vs).length
    · rwa [List.getElem?_append_left hl] at hi
    · rw [List.getElem?_append_right (by omega)] at hi
      have := List.mem_of_getElem? hi
      rw [List.mem_replicate] at this
      exact absurd this.2 hv
  have := spr_at γ vs 0 i v h2 hv
  rwa [Nat.zero_add] at this
