/-! ===== calls: a method of the memory machine meets a contract of the machine itself ===== -/
def Ag (γ : Nat → Nat) (q : Nat) : Prop := ∃ k, k < 147 ∧ γ k = q
def SX (D : va_G) (γ : Nat → Nat) (cy : Nat → ClassId) (X : Nat × (Nat → Int32)) (A : Nat → Prop) (U : State) : Prop :=
  (∀ q ∈ nwl, va_Nw (.methodLinkNest q.1 q.2.1 q.2.2 "NamesInRow") U) ∧ va_K D vwCl (tyl cy) U ∧ va_Z "NamesInRow" "UNITS" "[J" (.ref (γ cUN)) A U U.heap ∧ va_T .long (γ cUN) 5 (fun j => .long (uV j)) A U U.heap ∧ va_X (γ cSC) X.1 X.2 U U.heap ∧ γ cSC < U.heap.size ∧ ¬ A (γ cSC)
def cPc (D : va_G) (γ : Nat → Nat) (cy : Nat → ClassId) (X : Nat × (Nat → Int32)) (vs : List Value) (σ : Mem) : Array Value → State → Prop := fun a U =>
  a = (vs.map (cv γ)).toArray ∧ SX D γ cy X (Ag γ) U ∧ va_P D vwCl (wl γ cy σ) U.heap ∧ va_D (Ag γ) (wl γ cy σ)
def cQc (D : va_G) (γ : Nat → Nat) (cy : Nat → ClassId) (rv : List Value) (σ : Mem) : Array Value → State → Outcome → State → Prop := fun _ st o t =>
  (∃ v : Option Value, o = .returned v ∧ v.toList = rv.map (cv γ)) ∧ va_P D vwCl (wl γ cy σ) t.heap ∧ va_F (Ag γ) st t
def rmM (k : Nat) : Room := { frames := mF k, cells := 0, slots := 0, locals := mQ k }
theorem cPc_blind {D : va_G} {γ : Nat → Nat} {cy : Nat → ClassId} {X : Nat × (Nat → Int32)} {vs : List Value} {σ : Mem} : FrameBlind (cPc D γ cy X vs σ) := by
  intro a U g mk h
  obtain ⟨h1, ⟨n1, n2, n3, n4, n5, n6, n7⟩, h3, h4⟩ := h
  exact ⟨h1, ⟨fun q hq => va_Nw.same rfl rfl (n1 q hq), va_K.moved (u := U) (U := U.calling g mk a) (Vm.Alike.refl U.vm) n2, va_Z.moved (u := U) (U := U.calling g mk a) (Vm.Alike.refl U.vm) n3, va_T.moved (u := U) (U := U.calling g mk a) (Vm.Alike.refl U.vm) n4, va_X.moved (u := U) (U := U.calling g mk a) (Vm.Alike.refl U.vm) n5, n6, n7⟩, h3, h4⟩
theorem Met.ofWF {l : Launch} {y : MethodName} {ws ws' : List Cond} {rm : Room} {Pc : Array Value → State → Prop} {Qc : Array Value → State → Outcome → State → Prop} {mc ms : Nat} {free : Addr → Prop} {cc : ByteArray} {maxL : Nat} {ret : Option FieldType}
    (hy : plainFor y = true) (hw : ws = Cond.code y cc maxL ret :: ws')
    (body : ∀ p e s m args below meth c s₁, BodyLoose p l y (headSpec ws rm) cc maxL ret e s m args below meth c s₁ → c.maxLocals = maxL → Pc args s →
      W p l e (headSpec ws rm).room s m args below meth c s.heap [] 0 0 (MQ below Qc args s mc ms free) (entryFrame m args maxL)) : Met l y ws rm Pc Qc mc ms free := by
  refine MetFree.of_bodySF (code := cc) (maxLocals := maxL) (ret := ret) hy ?_ ?_
  · intro args s m h hn
    obtain ⟨meth, c, h1, h2, h3, h4, h5, h6, -, -⟩ := Cond.code_spec hn (atoms_spec (ws := ws) h _ (by rw [hw]; exact List.mem_cons_self))
    exact ⟨meth, c, h1, h2, h3, h4, h5, h6⟩
  · intro p e s m args below meth c s₁ B hml hP _
    have hh0 : s₁.heap = s.heap := by rw [B.state]; rfl
    obtain ⟨t, a1, o, b1, b2, b3⟩ := body p e s m args below meth c s₁ B hml hP s₁ hh0 (Stand.of_body B)
    exact ⟨t, o, a1, b1, b2, ⟨b3.1, b3.2⟩⟩
/-- what a run of n steps says of the machine itself, at any frame -/
def Sim (l : Launch) (D : va_G) (γ : Nat → Nat) (cy : Nat → ClassId) (X : Nat × (Nat → Int32)) (n : Nat) : Prop := ∀ (M pc : Nat) (ls st : List Value) (σ : Mem) (r : Nat × List Value × Mem), ex X n M pc ls st σ = some r →
  ∀ (p : Program) (e : Env) (R : Room) (s : State) (m : MethodId) (args : Array Value) (below : List Frame) (meth : Method) (c : Code) (A : Nat → Prop) (Q : State → Prop) (cells slots : Nat), FX p s m args c R D γ cy X A M → cells ≤ R.cells → slots ≤ R.slots →
  (∀ (H : Heap) (locs : List Loc) (la : Array Slot), va_P D vwCl (wl γ cy r.2.2) H → va_D A (wl γ cy r.2.2) → va_S A s.heap H locs → (∃ ins, decode (mB M) r.1 = .ok (ins, 1) ∧ kd ins = 1 ∧ okR ins (mR M) r.2.1 = true) → W p l e R s m args below meth c H locs cells slots Q (F0 m r.1 la (r.2.1.map (cv γ)))) →
  ∀ (H : Heap) (locs : List Loc) (la : Array Slot), va_P D vwCl (wl γ cy σ) H → va_D A (wl γ cy σ) → va_S A s.heap H locs → LR γ la ls (mL M) → W p l e R s m args below meth c H locs cells slots Q (F0 m pc la (st.map (cv γ)))
theorem okR_inv {ins : Instr} {r : Option FieldType} {st : List Value} (h : okR ins r st = true) : (ins = .ireturn ∧ r = some .boolean ∧ ∃ v, st = [.int v] ∧ (v = 0 ∨ v = 1)) ∨ (ins = .ireturn ∧ r = some .int ∧ ∃ v, st = [.int v]) ∨ (ins = .lreturn ∧ r = some .long ∧ ∃ v, st = [.long v]) ∨ (ins = .areturn ∧ (∃ C, r = some (.object C)) ∧ ∃ a, st = [.ref a]) ∨ (ins = .return_ ∧ r = none ∧ st = []) := by
  unfold okR at h
  split at h
  · simp only [Bool.or_eq_true, beq_iff_eq] at h
    exact Or.inl ⟨rfl, rfl, _, rfl, h⟩
  · exact Or.inr (Or.inl ⟨rfl, rfl, _, rfl⟩)
  · exact Or.inr (Or.inr (Or.inl ⟨rfl, rfl, _, rfl⟩))
  · exact Or.inr (Or.inr (Or.inr (Or.inl ⟨rfl, ⟨_, rfl⟩, _, rfl⟩)))
  · exact Or.inr (Or.inr (Or.inr (Or.inr ⟨rfl, rfl, rfl⟩)))
  · cases h
set_option maxHeartbeats 1000000 in
theorem met_of {l : Launch} {D : va_G} {γ : Nat → Nat} {cy : Nat → ClassId} {X : Nat × (Nat → Int32)} {n k : Nat} {vs : List Value} {σ : Mem} {r : Nat × List Value × Mem} (hS : Sim l D γ cy X n) (hc : cPr k) (hex : ex X n k 0 (ent (mL k) vs) [] σ = some r) (hlen : (spr vs).length ≤ mL k) :
    Met l (mY k) (Cond.code (mY k) (mB k) (mL k) (mR k) :: gw) (rmM k) (cPc D γ cy X vs σ) (cQc D γ cy r.2.1 r.2.2) 0 0 (Ag γ) := by
  obtain ⟨hc1, hc2, hc3, hc4, hc5, hc6, hc7⟩ := hc
  refine Met.ofWF (cc := mB k) (maxL := mL k) (ret := mR k) hc6 rfl ?_
  intro p e s m args below meth c s₁ B hml hv
  obtain ⟨rfl, ⟨n1, n2, n3, n4, n5, n6, n7⟩, hP, hD⟩ := hv
  have hts := atoms_spec (ws := Cond.code (mY k) (mB k) (mL k) (mR k) :: gw) B.pre
  have hown : s.vm.findClass (mY k).cls = some m.cls := findClass_of_methodNamed B.named
  have hlocks := B.notSynchronized
  have hx := B.exec
  have hb := B.bytes
  have hr := B.returns
  have hF : FX p s m (vs.map (cv γ)).toArray c (headSpec (Cond.code (mY k) (mB k) (mL k) (mR k) :: gw) (rmM k)).room D γ cy X (Ag γ) k :=
    ⟨hx, hb, hml, by rw [hc7]; exact hown, fun w hw => hts w (List.mem_cons_of_mem _ hw), n1, n2, n3, n4, n5, n6, n7, fun j hj => ⟨j, hj, rfl⟩, Nat.le_refl _, Nat.le_refl _⟩
  rw [lg_entry_eq]
  refine hS k 0 _ [] σ r hex p e _ s m _ below meth c (Ag γ) _ 0 0 hF (Nat.zero_le _) (Nat.zero_le _) ?_ s.heap [] _ hP hD va_S.rf (LR_ent γ vs hlen)
  intro H locs la hP1 hD1 hS1 hins
  obtain ⟨ins, hd, hk, ho⟩ := hins
  obtain ⟨pr, rv, σ'⟩ := r
  dsimp only at hP1 hD1 hd ho ⊢
  rcases okR_inv ho with ⟨rfl, e1, v, rfl, hv⟩ | ⟨rfl, e1, v, rfl⟩ | ⟨rfl, e1, v, rfl⟩ | ⟨rfl, ⟨C, e1⟩, v, rfl⟩ | ⟨rfl, e1, rfl⟩
  · rw [e1] at hr
    exact W.zret (v := v) hx hb hr (by rcases hv with rfl | rfl <;> decide) (fun t ht hW => ⟨⟨_, rfl, rfl⟩, by rw [ht]; exact hP1, hS1.F ht⟩) hS1.2.2 hd
  · rw [e1] at hr
    exact W.iret (v := v) hx hb hr (fun t ht hW => ⟨⟨_, rfl, rfl⟩, by rw [ht]; exact hP1, hS1.F ht⟩) hS1.2.2 hd
  · rw [e1] at hr
    exact W.lret (v := v) hx hb hr (fun t ht hW => ⟨⟨_, rfl, rfl⟩, by rw [ht]; exact hP1, hS1.F ht⟩) hS1.2.2 hd
  · rw [e1] at hr
    exact W.aret (v := .ref (γ v)) hx hb hr (Or.inl ⟨_, rfl⟩) (Or.inr ⟨_, rfl⟩) (fun t ht hW => ⟨⟨_, rfl, rfl⟩, by rw [ht]; exact hP1, hS1.F ht⟩) hS1.2.2 hd
  · rw [e1] at hr
    exact W.vret hx hb hr (fun t ht hW => ⟨⟨_, rfl, rfl⟩, by rw [ht]; exact hP1, hS1.F ht⟩) hS1.2.2 hd
section CALL
variable {p : Program} {l : Launch} {e : Env} {R : Room} {s : State} {m : MethodId} {args : Array Value} {below : List Frame} {meth : Method} {c : Code} {H : Heap} {locs : List Loc} {cells slots : Nat} {Q : State → Prop}
variable {D : va_G} {γ : Nat → Nat} {cy : Nat → ClassId} {X : Nat × (Nat → Int32)} {A : Nat → Prop} {M pc len : Nat} {ls st : List Value} {σ : Mem} {la : Array Slot}
theorem gcont {st0 rest : List Value} {rv : List Value} {σ' : Mem} {a : Array Value} (hr : va_Run p l e R s m args below meth c H locs cells slots 0 0 (F0 m pc la st0) rest (cQc D γ cy rv σ' a) (Ag γ)) (hS : va_S A s.heap H locs) (hA : ∀ q, Ag γ q → A q)
    (kk : ∀ (H1 : Heap) (locs1 : List Loc), va_P D vwCl (wl γ cy σ') H1 → va_S A s.heap H1 locs1 → W p l e R s m args below meth c H1 locs1 cells slots Q (F0 m (pc + 3) la (rv.map (cv γ) ++ rest))) : W p l e R s m args below meth c H locs cells slots Q (F0 m pc la st0) := by
  intro T hT X
  obtain ⟨v, st₀, t, T', L, h0, X', hL, e1, e2, ⟨⟨v', hv, hv2⟩, hP, hz, hk⟩, st⟩ := hr T hT X
  cases hv
  rw [h0] at hz hk
  obtain ⟨t2, a1, b1⟩ := kk T'.heap (locs ++ L) (by rw [e1]; exact hP)
    ⟨Nat.le_trans hS.1 (by rw [e1]; exact hz), fun q h1 h2 => by rw [e1, hk q (Nat.lt_of_lt_of_le h1 hS.1) (fun z => h2 (hA q z))]; exact hS.2.1 q h1 h2, fun q hq => by
      rcases List.mem_append.mp hq with h | h
      · exact hS.2.2 q h
      · exact hA _ (hL q h)⟩ T' rfl X'
  rw [← hv2] at a1
  exact ⟨t2, st t2 a1, b1⟩
theorem FX_pc {vs : List Value} (hF : FX p s m args c R D γ cy X A M) (hP : va_P D vwCl (wl γ cy σ) H) (hD : va_D A (wl γ cy σ)) (hS : va_S A s.heap H locs) : ∀ U : State, U.heap = H → s.WarmedH U.vm → cPc D γ cy X vs σ (vs.map (cv γ)).toArray U := by
  obtain ⟨hx, hb, hml, hown, hts, hnw, hK, hZ, hT, hX, hXl, hXA, hAg, hrf, hrl⟩ := hF
  intro U hU hW
  have hAA : ∀ q, Ag γ q → A q := by
    rintro q ⟨k, hk, rfl⟩
    exact hAg k hk
  have hkeep : ∀ a : Nat, a < s.heap.size → ¬ A a → U.heap[a]? = s.heap[a]? := fun a h1 h2 => by rw [hU]; exact hS.2.1 a h1 h2
  refine ⟨rfl, ⟨fun q hq => va_Nw.warmM hW (hnw q hq), va_K.moved hW.alike hK, ((hZ.kept hkeep).moved hW.alike).narrow hAA, ((hT.kept hkeep).moved hW.alike).narrow hAA, (hX.kept (hkeep _ hXl hXA)).moved hW.alike, ?_, fun h => hXA (hAA _ h)⟩, by rw [hU]; exact hP, wl_D hD (fun k hk => ⟨k, hk, rfl⟩)⟩
  rw [hU]
  exact Nat.lt_of_lt_of_le hXl hS.1
theorem gw_good : GoodIn gw gw := fun w hw => ⟨hw, good_of_word (List.mem_filter.mp hw).2⟩
theorem gw_g {w : Cond} (h : w ∈ gw) : w ∈ gw ∧ ((w.onTables && w.keeps) = true ∨ ∃ ty, w = .arrayClass ty) := gw_good w h
theorem cv_sum (r : List Value) : ((r.map (cv γ)).map fun v => v.category).sum = dep r := by
  rw [List.map_map, dep]
  congr 1
  apply List.map_congr_left
  intro v _
  exact cv_cat γ v
set_option maxHeartbeats 4000000 in
theorem sim_call {ins : Instr} {k n : Nat} {vs r : List Value} {w : Nat × List Value × Mem} (hSim : Sim l D γ cy X n) (hF : FX p s m args c R D γ cy X A M) (hc0 : cells ≤ R.cells) (hs0 : slots ≤ R.slots) (hd : decode (mB M) pc = .ok (ins, len)) (hl : len = il ins ∨ il ins = 0) (hcal : cal M ins st = some (k, vs, r)) (hex : ex X n k 0 (ent (mL k) vs) [] σ = some w) (hP : va_P D vwCl (wl γ cy σ) H) (hD : va_D A (wl γ cy σ)) (hS : va_S A s.heap H locs) (hR : LR γ la ls (mL M))
    (kk : ∀ (H1 : Heap) (locs1 : List Loc), va_P D vwCl (wl γ cy w.2.2) H1 → va_D A (wl γ cy w.2.2) → va_S A s.heap H1 locs1 → W p l e R s m args below meth c H1 locs1 cells slots Q (F0 m (pc + len) la ((w.2.1 ++ r).map (cv γ)))) :
    W p l e R s m args below meth c H locs cells slots Q (F0 m pc la (st.map (cv γ))) := by
  have hpc := fun vs => FX_pc (vs := vs) hF hP hD hS
  obtain ⟨hx, hb, hml, hown, hts, hnw, hK, hZ, hT, hX, hXl, hXA, hAg, hrf, hrl⟩ := hF
  have hAA : ∀ q, Ag γ q → A q := by
    rintro q ⟨k, hk, rfl⟩
    exact hAg k hk
  have hsize : la.size = mL M := by
    obtain ⟨-, lv, h1, -⟩ := hR
    exact h1.1
  have fix : CallFix p m c (mB M) (mL M) s args gw (cNm.getD (mC M) "") := ⟨hx, hb, hml, hown, hts⟩
  unfold cal at hcal
  split at hcal
  · next idx =>
    have hl : len = 3 := by simpa [il] using hl
    subst hl
    split at hcal
    · next k2 nest hlk =>
      split at hcal
      · next hcond =>
        obtain ⟨q1, q2, q3⟩ := hcond
        cases hcal
        simp only [okC, Bool.and_eq_true, decide_eq_true_eq] at q3
        obtain ⟨⟨⟨o1, o2⟩, o3⟩, o4⟩ := q3
        obtain ⟨hcp, hm1, hm2⟩ := mTb_ok _ (lk_mem _ _ _ hlk)
        dsimp only at hcp hm1 hm2
        have met := met_of (l := l) hSim hcp hex o2
        obtain ⟨hc1, hc2, hc3, hc4, hc5, hc6, hc7⟩ := hcp
        have hst : st.map (cv γ) = (((st.take (mN k)).reverse).map (cv γ)).reverse ++ (st.drop (mN k)).map (cv γ) := by
          rw [← List.map_reverse, List.reverse_reverse, ← List.map_append, List.take_append_drop]
        have hgood : GoodIn gw (Cond.code (mY k) (mB k) (mL k) (mR k) :: gw) := fun w hw => (List.mem_cons.mp hw).elim (fun e => by rw [e]; exact gw_g hc1) (fun h => gw_g h)
        have hlen : (((st.take (mN k)).reverse).map (cv γ)).length = mN k := by simp; omega
        have hroom : (rmM k).frames + 1 ≤ R.frames ∧ 8 + (mL k + 11) + (rmM k).locals ≤ R.locals := ⟨Nat.le_trans o3 hrf, Nat.le_trans o4 hrl⟩
        have hfit : cells + 0 ≤ R.cells ∧ slots + 0 ≤ R.slots := ⟨hc0, hs0⟩
        have pre : PreS s H (cPc D γ cy X (st.take (mN k)).reverse σ) (((st.take (mN k)).reverse).map (cv γ)) := ⟨cPc_blind, hpc _⟩
        have stk : 2 * (F0 m pc la (st.map (cv γ))).monitorRoom + (((st.drop (mN k)).map (cv γ)).map fun v => v.category).sum ≤ 8 := lv_room (by rw [cv_sum]; exact o1)
        have fin : va_Run p l e R s m args below meth c H locs cells slots 0 0 (F0 m pc la (st.map (cv γ))) ((st.drop (mN k)).map (cv γ)) (cQc D γ cy w.2.1 w.2.2 (((st.take (mN k)).reverse).map (cv γ)).toArray) (Ag γ) := by
          cases nest with
          | false =>
            exact va_runS fix met (va_cwS (mN k) hts (fun w hw => (List.mem_append.mp hw).elim (fun h => by
              simp only [List.mem_cons, List.not_mem_nil, or_false] at h
              rcases h with rfl | rfl | rfl
              · exact gw_g (hm1 rfl)
              · exact gw_g (hc3 q1)
              · exact gw_g hc2) (hgood w)) rfl rfl rfl hc5 hroom) pre rfl hlen hsize hst stk hd hfit
          | true =>
            have hn1 : va_Nw (.methodLinkNest (cNm.getD (mC M) "") idx (mY k) "NamesInRow") s := hnw (cNm.getD (mC M) "", idx, mY k) (hm2 rfl)
            have hcn : va_CN R s args (cNm.getD (mC M) "") idx (mY k) "NamesInRow" (mB k) (mL k) (mR k) (Cond.code (mY k) (mB k) (mL k) (mR k) :: gw) (rmM k) 0 0 (mN k) := va_cnB (mN k) hts hgood rfl rfl rfl hn1 (hts _ hc2) hc5 hroom
            have hst1 : (Cond.static (mY k)).before args s = true := hts _ (hc3 q1)
            exact va_runSN fix met ⟨hcn, hst1, trivial⟩ pre rfl hlen hsize hst stk hd hfit
        refine gcont fin hS hAA (fun H1 locs1 h1 h2 => ?_)
        rw [← List.map_append]
        exact kk H1 locs1 h1 (wl_D hD hAg) h2
      · cases hcal
    · cases hcal
  · next idx =>
    have hl : len = 3 := by simpa [il] using hl
    subst hl
    split at hcal
    · next k2 nest hlk =>
      split at hcal
      · next b r2 hdrop =>
        split at hcal
        · next hcond =>
          obtain ⟨q1, q2, q3⟩ := hcond
          cases hcal
          simp only [okC, Bool.and_eq_true, decide_eq_true_eq] at q3
          obtain ⟨⟨⟨o1, o2⟩, o3⟩, o4⟩ := q3
          obtain ⟨hcp, hm1, hm2⟩ := mTb_ok _ (lk_mem _ _ _ hlk)
          dsimp only at hcp hm1 hm2
          have met := met_of (l := l) hSim hcp hex o2
          obtain ⟨hc1, hc2, hc3, hc4, hc5, hc6, hc7⟩ := hcp
          obtain ⟨hi1, hi2, q, hq, hqc⟩ := hc4 q1
          have hn : mN k ≤ st.length := by
            by_cases h : mN k ≤ st.length
            · exact h
            · rw [List.drop_eq_nil_of_le (by omega)] at hdrop
              cases hdrop
          have hst : st.map (cv γ) = (((st.take (mN k)).reverse).map (cv γ)).reverse ++ Value.ref (γ b) :: r.map (cv γ) := by
            rw [← List.map_reverse, List.reverse_reverse]
            have h9 : (Value.ref (γ b) :: r.map (cv γ)) = (st.drop (mN k)).map (cv γ) := by rw [hdrop]; rfl
            rw [h9, ← List.map_append, List.take_append_drop]
          have hgood : GoodIn gw (Cond.code (mY k) (mB k) (mL k) (mR k) :: gw) := fun w hw => (List.mem_cons.mp hw).elim (fun e => by rw [e]; exact gw_g hc1) (fun h => gw_g h)
          have hlen : (((st.take (mN k)).reverse).map (cv γ)).length = mN k := by simp; omega
          have hroom : (rmM k).frames + 1 ≤ R.frames ∧ 8 + (mL k + 11) + (rmM k).locals ≤ R.locals := ⟨Nat.le_trans o3 hrf, Nat.le_trans o4 hrl⟩
          have hfit : cells + 0 ≤ R.cells ∧ slots + 0 ≤ R.slots := ⟨hc0, hs0⟩
          have hc8 : mC k < 8 := by
            have := (List.getElem?_eq_some_iff.mp hq).1
            exact this
          have hblt : b < 147 := cK_lt q2 (by omega)
          have hat := wl_at γ cy σ hblt
          rw [cE_ob q2 hc8] at hat
          have hrecv := va_recv hK hP hq hat
          rw [hqc] at hrecv
          have pre : PreV s H (mY k).cls (γ b) (cPc D γ cy X (.ref b :: (st.take (mN k)).reverse) σ) (((st.take (mN k)).reverse).map (cv γ)) := ⟨cPc_blind, hrecv, fun U h1 h2 => hpc (.ref b :: (st.take (mN k)).reverse) U h1 h2⟩
          have stk : 2 * (F0 m pc la (st.map (cv γ))).monitorRoom + ((r.map (cv γ)).map fun v => v.category).sum ≤ 8 := lv_room (by rw [cv_sum]; exact o1)
          have fin : va_Run p l e R s m args below meth c H locs cells slots 0 0 (F0 m pc la (st.map (cv γ))) (r.map (cv γ)) (cQc D γ cy w.2.1 w.2.2 (Value.ref (γ b) :: ((st.take (mN k)).reverse).map (cv γ)).toArray) (Ag γ) := by
            cases nest with
            | false =>
              exact va_runV fix met (cwV (mN k) hts (fun w hw => (List.mem_append.mp hw).elim (fun h => by
                simp only [List.mem_cons, List.not_mem_nil, or_false] at h
                rcases h with rfl | rfl | rfl | rfl
                · exact gw_g (hm1 rfl)
                · exact gw_g hi1
                · exact gw_g hi2
                · exact gw_g hc2) (hgood w)) rfl rfl rfl ⟨rfl, hc5⟩ hroom) pre rfl hlen hsize hst stk hd hfit
            | true =>
              have hn1 : va_Nw (.methodLinkNest (cNm.getD (mC M) "") idx (mY k) "NamesInRow") s := hnw (cNm.getD (mC M) "", idx, mY k) (hm2 rfl)
              have hcn : va_CN R s args (cNm.getD (mC M) "") idx (mY k) "NamesInRow" (mB k) (mL k) (mR k) (Cond.code (mY k) (mB k) (mL k) (mR k) :: gw) (rmM k) 0 0 (mN k) := va_cnB (mN k) hts hgood rfl rfl rfl hn1 (hts _ hc2) hc5 hroom
              have hst1 : (Cond.instanceMethod (mY k)).before args s = true := hts _ hi1
              have hst2 : (Cond.selects (mY k).cls (mY k) (mY k)).before args s = true := hts _ hi2
              exact va_runVN fix met ⟨hcn, hst1, hst2⟩ pre rfl hlen hsize hst stk hd hfit
          refine gcont fin hS hAA (fun H1 locs1 h1 h2 => ?_)
          rw [← List.map_append]
          exact kk H1 locs1 h1 (wl_D hD hAg) h2
        · cases hcal
      · cases hcal
    · cases hcal
  · cases hcal
end CALL
theorem sim_all (l : Launch) (D : va_G) (γ : Nat → Nat) (cy : Nat → ClassId) (X : Nat × (Nat → Int32)) : ∀ n, Sim l D γ cy X n := by
  intro n
  induction n with
  | zero =>
    intro M pc ls st σ r h
    simp [ex] at h
  | succ n ih =>
    intro M pc ls st σ r h p e R s m args below meth c A Q cells slots hF hc hs kret H locs la hP hD hS hR
    rw [ex] at h
    cases hd : decode (mB M) pc with
    | error e => rw [hd] at h; cases h
    | ok q =>
      obtain ⟨ins, len⟩ := q
      rw [hd] at h
      dsimp only at h
      by_cases h1 : len = il ins ∨ il ins = 0
      · rw [if_pos h1] at h
        by_cases h2 : kd ins = 1
        · rw [if_pos h2] at h
          by_cases h3 : okR ins (mR M) st = true
          · rw [if_pos h3] at h
            cases h
            refine kret H locs la hP hD hS ⟨ins, ?_, h2, h3⟩
            have hlen : len = 1 := by
              cases ins <;> first | (simpa [il] using h1) | (exact absurd h2 (by simp [kd]))
            rw [← hlen]
            exact hd
          · rw [if_neg h3] at h
            cases h
        · rw [if_neg h2] at h
          by_cases h3 : kd ins = 2
          · rw [if_pos h3] at h
            cases hcal : cal M ins st with
            | none => rw [hcal] at h; cases h
            | some w =>
              obtain ⟨k, vs, rr⟩ := w
              rw [hcal] at h
              dsimp only at h
              cases he : ex X n k 0 (ent (mL k) vs) [] σ with
              | none => rw [he] at h; cases h
              | some y =>
                obtain ⟨y1, y2, y3⟩ := y
                rw [he] at h
                exact sim_call ih hF hc hs hd h1 hcal he hP hD hS hR (fun H1 locs1 g1 g2 g3 => ih M (pc + len) ls (y2 ++ rr) y3 r h p e R s m args below meth c A Q cells slots hF hc hs kret H1 locs1 la g1 g2 g3 hR)
          · rw [if_neg h3] at h
            cases hst : stp X (mC M) ins pc (pc + len) ls st σ with
            | none => rw [hst] at h; cases h
            | some w =>
              obtain ⟨w1, w2, w3, w4⟩ := w
              rw [hst] at h
              exact sim_step hF hd h1 hst hP hD hS hR (fun H1 locs1 la1 g1 g2 g3 g4 => ih M w1 w2 w3 w4 r h p e R s m args below meth c A Q cells slots hF hc hs kret H1 locs1 la1 g1 g2 g3 g4)
      · rw [if_neg h1] at h
        cases h
