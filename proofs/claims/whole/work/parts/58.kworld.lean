/-! ===== the heap while it is made ===== -/
def gI (v : Value) : Int32 := match v with
  | .int x => x
  | _ => 0
def gL (v : Value) : Int64 := match v with
  | .long x => x
  | _ => 0
def gR (γ : Nat → Nat) (v : Value) : Option Nat := match v with
  | .ref x => some (γ x)
  | _ => none
def cEv (γ : Nat → Nat) (cy : Nat → ClassId) (μ : Nat → List Value) (k : Nat) : va_E :=
  if cK k = 10 then .inl (cy 0, cN k, .inl (fun j => gI ((μ k).getD j .null)))
  else if cK k = 11 then .inl (cy 1, cN k, .inr (.inl (fun j => gL ((μ k).getD j .null))))
  else if cK k = 12 then .inl (cy 2, cN k, .inr (.inr (.inr (.inr (fun j => gR γ ((μ k).getD j .null))))))
  else if cK k = 13 then .inl (cy 3, cN k, .inr (.inr (.inr (.inr (fun j => gR γ ((μ k).getD j .null))))))
  else .inr (cK k, (μ k).map (cv γ))
theorem cEv_eq {γ : Nat → Nat} {cy : Nat → ClassId} {μ μ' : Nat → List Value} {k : Nat} (h : μ' k = μ k) : cEv γ cy μ' k = cEv γ cy μ k := by simp only [cEv, h]
theorem cEv_10 {γ : Nat → Nat} {cy : Nat → ClassId} {μ : Nat → List Value} {k : Nat} (h : cK k = 10) : cEv γ cy μ k = .inl (cy 0, cN k, .inl (fun j => gI ((μ k).getD j .null))) := by simp [cEv, h]
theorem cEv_11 {γ : Nat → Nat} {cy : Nat → ClassId} {μ : Nat → List Value} {k : Nat} (h : cK k = 11) : cEv γ cy μ k = .inl (cy 1, cN k, .inr (.inl (fun j => gL ((μ k).getD j .null)))) := by simp [cEv, h]
theorem cEv_12 {γ : Nat → Nat} {cy : Nat → ClassId} {μ : Nat → List Value} {k : Nat} (h : cK k = 12) : cEv γ cy μ k = .inl (cy 2, cN k, .inr (.inr (.inr (.inr (fun j => gR γ ((μ k).getD j .null)))))) := by simp [cEv, h]
theorem cEv_13 {γ : Nat → Nat} {cy : Nat → ClassId} {μ : Nat → List Value} {k : Nat} (h : cK k = 13) : cEv γ cy μ k = .inl (cy 3, cN k, .inr (.inr (.inr (.inr (fun j => gR γ ((μ k).getD j .null)))))) := by simp [cEv, h]
theorem cEv_ob {γ : Nat → Nat} {cy : Nat → ClassId} {μ : Nat → List Value} {k ci : Nat} (h : cK k = ci) (hc : ci < 8) : cEv γ cy μ k = .inr (ci, (μ k).map (cv γ)) := by
  subst h
  simp [cEv, show ¬ cK k = 10 by omega, show ¬ cK k = 11 by omega, show ¬ cK k = 12 by omega, show ¬ cK k = 13 by omega]
theorem mSet_at (μ : Nat → List Value) (k : Nat) (l : List Value) : mSet μ k l k = l := by simp [mSet]
theorem mSet_ne {μ : Nat → List Value} {k a : Nat} {l : List Value} (h : a ≠ k) : mSet μ k l a = μ a := by
  have e : Nat.beq a k = false := by
    cases hb : Nat.beq a k with
    | true => exact absurd (Nat.eq_of_beq_eq_true hb) h
    | false => rfl
  simp [mSet, e]
theorem mMul_at (μ : Nat → List Value) (n N m : Nat) : mMul μ n N m n = (List.range N).map (fun j => Value.ref (n + 1 + j)) := by simp [mMul]
theorem mMul_in {μ : Nat → List Value} {n N m j : Nat} (h : j < N) : mMul μ n N m (n + 1 + j) = List.replicate m (.int 0) := by
  have e : Nat.beq (n + 1 + j) n = false := by
    cases hb : Nat.beq (n + 1 + j) n with
    | true => have := Nat.eq_of_beq_eq_true hb; omega
    | false => rfl
  have e1 : Nat.ble (n + 1) (n + 1 + j) = true := Nat.ble_eq.mpr (by omega)
  have e2 : Nat.ble (n + 1 + j) (n + N) = true := Nat.ble_eq.mpr (by omega)
  simp only [mMul, e, e1, e2, cond_false, cond_true, Bool.and_self]
theorem mMul_old {μ : Nat → List Value} {n N m a : Nat} (h : a < n) : mMul μ n N m a = μ a := by
  have e : Nat.beq a n = false := by
    cases hb : Nat.beq a n with
    | true => have := Nat.eq_of_beq_eq_true hb; omega
    | false => rfl
  have e1 : Nat.ble (n + 1) a = false := by
    cases hb : Nat.ble (n + 1) a with
    | true => have := Nat.ble_eq.mp hb; omega
    | false => rfl
  simp only [mMul, e, e1, cond_false, Bool.false_and]
abbrev HV (D : va_G) (γ : Nat → Nat) (cy : Nat → ClassId) (μ : Mu) (H : Heap) : Prop := ∀ k, k < μ.1 → va_at D vwCl (γ k, cEv γ cy μ.2 k) H
def Wf (μ : Mu) : Prop := μ.1 ≤ 147 ∧ ∀ k, k < μ.1 → (μ.2 k).length = cN k
abbrev Ab (b0 : Nat) : Nat → Prop := fun q => b0 ≤ q
def A2 (cy : Nat → ClassId) (U : State) : Prop := ∃ kA : Class, U.vm.classes[cy 3]? = some kA ∧ kA.kind = .array (cy 0) (.array .int)
theorem A2.moved {cy : Nat → ClassId} {u U : State} (hvm : u.vm.Alike U.vm) (h : A2 cy u) : A2 cy U := by
  obtain ⟨kA, h1, h2⟩ := h
  obtain ⟨k', hk', he⟩ := hvm.2.2 _ _ h1
  exact ⟨k', hk', by rw [he]; exact h2⟩
def SXC (D : va_G) (cy : Nat → ClassId) (U : State) : Prop := (∀ q ∈ nwk, va_Nw (.methodLinkNest q.1 q.2.1 q.2.2 "NamesInRow") U) ∧ va_K D vwCl (tyl cy) U ∧ va_AO "NamesInRow$Paper" U ∧ A2 cy U
def FXC (p : Program) (s : State) (m : MethodId) (args : Array Value) (meth : Method) (c : Code) (R : Room) (D : va_G) (γ : Nat → Nat) (cy : Nat → ClassId) (b0 M : Nat) : Prop :=
  p.tables.exec = Jvm.exec ∧ c.code = kB M ∧ c.maxLocals = kL M ∧ s.vm.findClass (cNm.getD (kC M) "") = some m.cls ∧ (∀ w ∈ gw, w.before args s = true) ∧ SXC D cy s ∧ (∀ k, k < 147 → γ k = b0 + k) ∧ kF M ≤ R.frames ∧ kQ M ≤ R.locals ∧ (M < 8 → meth.name = "<init>") ∧ b0 ≤ s.heap.size
/-- one cell more -/
theorem HV_new {D : va_G} {γ : Nat → Nat} {cy : Nat → ClassId} {μ : Mu} {H H1 : Heap} {b0 : Nat} {l : List Value} (hγ : ∀ k, k < 147 → γ k = b0 + k) (hw : Wf μ) (hP : HV D γ cy μ H) (hz : H.size = b0 + μ.1) (ho : ∀ q, q < H.size → H1[q]? = H[q]?) (hn : va_at D vwCl (γ μ.1, cEv γ cy (mSet μ.2 μ.1 l) μ.1) H1) : HV D γ cy (μ.1 + 1, mSet μ.2 μ.1 l) H1 := by
  intro k hk
  dsimp only at hk
  by_cases e : k = μ.1
  · subst e; exact hn
  · have hk2 : k < μ.1 := by omega
    have hk147 : k < 147 := by have := hw.1; omega
    have h1 := hP k hk2
    rw [← cEv_eq (μ' := mSet μ.2 μ.1 l) (mSet_ne e)] at h1
    exact h1.kept (ho (γ k) (by rw [hγ k hk147]; omega))
theorem Wf_new {μ : Mu} {l : List Value} (hw : Wf μ) (h : μ.1 < 147) (hl : l.length = cN μ.1) : Wf (μ.1 + 1, mSet μ.2 μ.1 l) := by
  refine ⟨h, fun k hk => ?_⟩
  dsimp only at hk ⊢
  by_cases e : k = μ.1
  · subst e; rw [mSet_at]; exact hl
  · rw [mSet_ne e]; exact hw.2 k (by omega)
/-- a cell is written -/
theorem HV_set {D : va_G} {γ : Nat → Nat} {cy : Nat → ClassId} {μ : Mu} {H H1 : Heap} {b0 k : Nat} {l : List Value} (hγ : ∀ k, k < 147 → γ k = b0 + k) (hw : Wf μ) (hP : HV D γ cy μ H) (hk : k < μ.1) (ho : ∀ q, q ≠ γ k → H1[q]? = H[q]?) (hn : va_at D vwCl (γ k, cEv γ cy (mSet μ.2 k l) k) H1) : HV D γ cy (μ.1, mSet μ.2 k l) H1 := by
  intro a ha
  dsimp only at ha
  by_cases e : a = k
  · subst e; exact hn
  · have h147 := hw.1
    have h1 := hP a ha
    rw [← cEv_eq (μ' := mSet μ.2 k l) (mSet_ne e)] at h1
    exact h1.kept (ho (γ a) (by rw [hγ a (by omega), hγ k (by omega)]; omega))
theorem Wf_set {μ : Mu} {k j : Nat} {v : Value} (hw : Wf μ) : Wf (μ.1, mSet μ.2 k ((μ.2 k).set j v)) := by
  refine ⟨hw.1, fun a ha => ?_⟩
  dsimp only at ha ⊢
  by_cases e : a = k
  · subst e; rw [mSet_at, List.length_set]; exact hw.2 a ha
  · rw [mSet_ne e]; exact hw.2 a ha
theorem arrV_cg {c : ClassId} {N : Nat} {f g : Nat → Value} (h : ∀ j, j < N → f j = g j) : arrV c N f = arrV c N g := by
  unfold arrV
  congr 1
  apply Array.ext
  · simp
  · intro i h1 h2
    simp only [Array.getElem_ofFn]
    exact h i (by simpa using h1)
theorem S_grow {b0 : Nat} {H0 H H1 : Heap} {locs locs1 : List Loc} (hS : va_S (Ab b0) H0 H locs) (hb : b0 ≤ H.size) (hz : H.size ≤ H1.size) (ho : ∀ q, q < H.size → H1[q]? = H[q]?) (hl : ∀ x ∈ locs1, x ∈ locs ∨ x.base = H.size) : va_S (Ab b0) H0 H1 locs1 := by
  refine ⟨Nat.le_trans hS.1 hz, fun q h1 h2 => (ho q (Nat.lt_of_lt_of_le h1 hS.1)).trans (hS.2.1 q h1 h2), fun x hx => ?_⟩
  rcases hl x hx with h | h
  · exact hS.2.2 x h
  · show b0 ≤ x.base
    rw [h]; exact hb
section VZ
variable {p : Program} {l : Launch} {e : Env} {R : Room} {s : State} {m : MethodId} {args : Array Value} {below : List Frame} {meth : Method} {c : Code} {H : Heap} {locs : List Loc} {cells slots : Nat} {Q : State → Prop}
variable {cc : ByteArray} {pc : Nat} {ls : Array Slot} {rest : List Value} {D : va_G} {cl : List vw_C} {a : Nat} {tys : List (ClassId × FieldType)}
theorem vz_put (hexec : p.tables.exec = Jvm.exec) (hb : c.code = cc) {own C : String} {T : u_T} {N ci index : Nat} {Ts : List Cond} (hts : ∀ w ∈ Ts, w.before args s = true) (hin : ∀ w ∈ u_ws C T N, w ∈ Ts) (ty0 : Nat → FieldType) (hty : ∀ k, k < N → parseFieldDescriptor (T k).2.2.1 = some (ty0 k)) (hnm : ∀ a, a < N → ∀ b, b < N → a ≠ b → (T a).2.1 ≠ (T b).2.1) (hown : s.vm.findClass own = some m.cls) (hK : va_K D cl tys s) {fs : List Value} (he : va_at D cl (a, .inr (ci, fs)) H) (hc : cl[ci]? = some (C, T, N)) (k : Nat) (hk : k < N) (hlink : (Cond.fieldLink own index (T k).1 (T k).2.1 (T k).2.2.1).before args s = true) (hfin : (T k).2.2.2 = false ∨ ((T k).2.2.2 = true ∧ meth.name = "<init>" ∧ (T k).1 = own)) {v : Value} (hn : narrow (ty0 k) v = v) (hfit : fits (ty0 k) v = true) (hl : k < fs.length)
    (hdg : decode cc pc = .ok (.putfield index, 3)) (kk : ∀ (H1 : Heap) (locs1 : List Loc), va_at D cl (a, .inr (ci, fs.set k v)) H1 → H1.size = H.size → (∀ q, q ≠ a → H1[q]? = H[q]?) → (∀ x ∈ locs1, x ∈ locs ∨ x.base = a) → W p l e R s m args below meth c H1 locs1 cells slots Q (F0 m (pc + 3) ls rest)) : W p l e R s m args below meth c H locs cells slots Q (F0 m pc ls (v :: .ref a :: rest)) := by
  have hap := va_apart (own := own) hts hin ty0 hty hnm hK hc
  obtain ⟨r, h1, cell, q1, q2, q3, q4⟩ := he
  have hr : r = (C, T, N) := Option.some.inj (h1.symm.trans hc)
  subst hr
  obtain ⟨hS, hfc, kC, hkC, hkind⟩ := hK.1 ci _ hc
  obtain ⟨cf, kf, fi, f, hi, hsl⟩ := hS k hk
  have hlay := hts _ (hin _ (u_in_lay hk))
  unfold u_lay at hlay
  have hst := (u_facts hfc hkC (u_lays hts hin hk) hi).1
  have fin : ∀ H' : Heap, H'[a]? = some (cell.setSlot f.slot v) → H'.size = H.size → (∀ q, q ≠ a → H'[q]? = H[q]?) → W p l e R s m args below meth c H' (locs ++ [⟨a, f.slot⟩]) cells slots Q (F0 m (pc + 3) ls rest) := by
    intro H' e1 e2 e3
    rw [hsl] at e1
    refine kk H' _ ⟨_, hc, t_OB.to (V := updV (vp_V fs) k v) ⟨_, e1, q2, q3, t_set q4 hap hk v⟩ (fun j _ => vp_updV_set hl v j)⟩ e2 e3 (fun x hx => ?_)
    rcases List.mem_append.mp hx with h | h
    · exact Or.inl h
    · rw [List.mem_singleton.mp h]; exact Or.inr rfl
  rcases hfin with hfin | ⟨hfin, hin2, hdecl⟩
  · rw [if_neg (by rw [hfin]; decide)] at hlay
    have h6 := u_store hfc hkC hkind hlay hi (hty k hk) hn hfit
    exact W.putK hexec hb (f := f) ⟨hown, hlink, ⟨_, _, _, hi⟩, hst⟩ (by rw [q2]; exact h6) q1 q3 (by rw [hsl]; exact k2_hasslot (q4 k hk)) rfl rfl hdg fin
  · rw [if_pos hfin] at hlay
    have hcf : m.cls = cf := by
      obtain ⟨_, _, c', _, _, _, -, -, hf', -, -, -, hown2, -⟩ := Cond.laysFinal_spec hlay
      have e1 : c' = cf := by have := hi.symm.trans hf'; simp at this; exact this.1.symm
      rw [hdecl] at hown2
      rw [← e1]; exact Option.some.inj (hown.symm.trans hown2)
    have h6 := u_fits hfc hkC hkind (Or.inr hlay) hi (hty k hk) hn hfit
    exact W.putFinK hexec hb hown hlink hi hst hcf hin2 (by rw [q2]; exact h6) q1 q3 (by rw [hsl]; exact k2_hasslot (q4 k hk)) rfl rfl hdg fin
theorem vz_iast (hexec : p.tables.exec = Jvm.exec) (hb : c.code = cc) (hK : va_K D cl tys s) (t0 : Nat) {cA : ClassId} {n : Nat} {f : Nat → Int32} (ha : va_at D cl (a, .inl (cA, n, .inl f)) H) (ht : tys[t0]? = some (cA, .int)) {i : Int32} {x : Int32} (hin : vp_in i n) (hdg : decode cc pc = .ok (.iastore, 1))
    (kk : ∀ (H1 : Heap) (locs1 : List Loc), va_at D cl (a, .inl (cA, n, .inl (upd f i.toNatClampNeg x))) H1 → H1.size = H.size → (∀ q, q ≠ a → H1[q]? = H[q]?) → (∀ x ∈ locs1, x ∈ locs ∨ x.base = a) → W p l e R s m args below meth c H1 locs1 cells slots Q (F0 m (pc + 1) ls rest)) : W p l e R s m args below meth c H locs cells slots Q (F0 m pc ls (.int x :: .int i :: .ref a :: rest)) := by
  refine W.iast hexec hb ha ((hK.2 t0 _ ht).1 n (fun j => .int (f j))) (fun q => by cases q) (by show ¬ (i < 0 ∨ (arrV _ _ _).slots.size ≤ _); rw [arrV_size]; exact hin) rfl rfl hdg fun H1 e z oq => ?_
  refine kk H1 _ ?_ z oq (fun x hx => ?_)
  · show H1[a]? = some (vp_cell _ _)
    rw [e]
    rw [vp_cell_i, vp_cell_i, arrV_store]
    congr 2
    funext q
    by_cases hq : q = i.toNatClampNeg
    · subst hq
      simp [updV, upd]
    · simp [updV, upd, hq]
  · rcases List.mem_append.mp hx with h | h
    · exact Or.inl h
    · rw [List.mem_singleton.mp h]; exact Or.inr rfl
theorem vz_aast (hexec : p.tables.exec = Jvm.exec) (hb : c.code = cc) (hK : va_K D cl tys s) (t0 ci : Nat) {cA : ClassId} {r : vw_C} {n v : Nat} {vs : List Value} {f : Nat → Option Nat} (ha : va_at D cl (a, .inl (cA, n, .inr (.inr (.inr (.inr f))))) H) (ht : tys[t0]? = some (cA, .object r.1)) (hv : va_at D cl (v, .inr (ci, vs)) H) (hc : cl[ci]? = some r) {i : Int32} (hin : vp_in i n) (hdg : decode cc pc = .ok (.aastore, 1))
    (kk : ∀ (H1 : Heap) (locs1 : List Loc), va_at D cl (a, .inl (cA, n, .inr (.inr (.inr (.inr (va_up f i.toNatClampNeg (some v))))))) H1 → H1.size = H.size → (∀ q, q ≠ a → H1[q]? = H[q]?) → (∀ x ∈ locs1, x ∈ locs ∨ x.base = a) → W p l e R s m args below meth c H1 locs1 cells slots Q (F0 m (pc + 1) ls rest)) : W p l e R s m args below meth c H locs cells slots Q (F0 m pc ls (.ref v :: .int i :: .ref a :: rest)) := by
  have hlt : i.toNatClampNeg < n := Nat.not_le.mp fun q => hin (Or.inr q)
  have h0 : ¬ i < 0 := fun q => hin (Or.inl q)
  obtain ⟨r', hr', cellV, g1, g2, g3, -⟩ := hv
  have hcls := (hK.1 ci r hc).2
  obtain ⟨kA, comp, k1, k2, k3, -⟩ := (hK.2 t0 _ ht).2
  have hcomp : comp = D.1 ci := Option.some.inj (k3.symm.trans hcls.1)
  subst hcomp
  obtain ⟨kC, hkC, -⟩ := hcls.2
  refine W.aast hexec hb ha (fun q h => by cases h) (fun h => by cases h) k1 k2 rfl hkC ⟨h0, by show _ < (arrV _ _ _).slots.size; rw [arrV_size]; exact hlt⟩ g1 (fun q h => by rw [g3] at h; cases h) (by rw [g2]; exact hkC) (by rw [g2]; exact va_assign hcls) rfl rfl hdg fun H1 e z oq => ?_
  refine kk H1 _ ?_ z oq (fun x hx => ?_)
  · show H1[a]? = some (vp_cell _ _)
    rw [e]
    rw [vp_cell_q, vp_cell_q, arrV_store]
    congr 2
    funext q
    by_cases hq : q = i.toNatClampNeg
    · subst hq
      simp [updV, va_up, va_rf]
    · simp [updV, va_up, hq]
  · rcases List.mem_append.mp hx with h | h
    · exact Or.inl h
    · rw [List.mem_singleton.mp h]; exact Or.inr rfl
theorem vz_get (hexec : p.tables.exec = Jvm.exec) (hb : c.code = cc) {own C : String} {T : u_T} {N ci index : Nat} {Ts : List Cond} (hts : ∀ w ∈ Ts, w.before args s = true) (hin : ∀ w ∈ u_ws C T N, w ∈ Ts) (hown : s.vm.findClass own = some m.cls) (hK : va_K D cl tys s) {fs : List Value} (he : va_at D cl (a, .inr (ci, fs)) H) (hc : cl[ci]? = some (C, T, N)) (k : Nat) (hk : k < N) (hlink : (Cond.fieldLink own index (T k).1 (T k).2.1 (T k).2.2.1).before args s = true) {v : Value} (hv : fs[k]? = some v) (hdg : decode cc pc = .ok (.getfield index, 3))
    (kk : W p l e R s m args below meth c H locs cells slots Q (F0 m (pc + 3) ls (v :: rest))) : W p l e R s m args below meth c H locs cells slots Q (F0 m pc ls (.ref a :: rest)) :=
  va_get (ws := [(a, .inr (ci, fs))]) hexec hb hts hin hown hK (fun k q hk => by
    have hz : k < 1 := (List.getElem?_eq_some_iff.mp hk).1
    rw [show k = 0 by omega] at hk
    cases hk
    exact he) 0 rfl hc k hk hlink (fun _ h => h) hv hdg kk
end VZ
