/-! ===== the constructors' machine is the machine itself ===== -/
theorem lf_le {w : Nx} {μ : Mu} {r : Nat × List Value × List Value × Mu} (h : lf w μ = some r) : μ.1 ≤ r.2.2.2.1 := by
  obtain ⟨x, -, rfl⟩ := lf_inv h
  exact Nat.le_refl _
theorem cNew_le {c i p : Nat} {ls st : List Value} {μ : Mu} {w : Nat × List Value × List Value × Mu} (h : cNew c i p ls st μ = some w) : μ.1 ≤ w.2.2.2.1 := by
  unfold cNew at h
  split at h
  · split at h
    · cases h; exact Nat.le_succ _
    · cases h
  · cases h
theorem cArr_le {t : ArrayType} {p : Nat} {ls st : List Value} {μ : Mu} {w : Nat × List Value × List Value × Mu} (h : cArr t p ls st μ = some w) : μ.1 ≤ w.2.2.2.1 := by
  unfold cArr at h
  split at h
  · split at h
    · split at h
      · cases h; exact Nat.le_succ _
      · split at h
        · cases h; exact Nat.le_succ _
        · cases h
    · cases h
  · cases h
theorem cAnw_le {c i p : Nat} {ls st : List Value} {μ : Mu} {w : Nat × List Value × List Value × Mu} (h : cAnw c i p ls st μ = some w) : μ.1 ≤ w.2.2.2.1 := by
  unfold cAnw at h
  split at h
  · split at h
    · cases h; exact Nat.le_succ _
    · cases h
  · cases h
theorem cMul_le {c i p : Nat} {ls st : List Value} {μ : Mu} {w : Nat × List Value × List Value × Mu} (h : cMul c i p ls st μ = some w) : μ.1 ≤ w.2.2.2.1 := by
  unfold cMul at h
  split at h
  · split at h
    · cases h
      show μ.1 ≤ μ.1 + 1 + cN μ.1
      omega
    · cases h
  · cases h
theorem cPut_le {c i p : Nat} {ls st : List Value} {μ : Mu} {w : Nat × List Value × List Value × Mu} (h : cPut c i p ls st μ = some w) : μ.1 ≤ w.2.2.2.1 := by
  unfold cPut at h
  split at h
  · split at h
    · cases h; exact Nat.le_refl _
    · cases h
  · cases h
theorem cGet_le {c i p : Nat} {ls st : List Value} {μ : Mu} {w : Nat × List Value × List Value × Mu} (h : cGet c i p ls st μ = some w) : μ.1 ≤ w.2.2.2.1 := by
  unfold cGet at h
  split at h
  · split at h
    · split at h
      · cases h; exact Nat.le_refl _
      · cases h
    · cases h
  · cases h
theorem cIas_le {p : Nat} {ls st : List Value} {μ : Mu} {w : Nat × List Value × List Value × Mu} (h : cIas p ls st μ = some w) : μ.1 ≤ w.2.2.2.1 := by
  unfold cIas at h
  split at h
  · split at h
    · cases h; exact Nat.le_refl _
    · cases h
  · cases h
theorem cAas_le {p : Nat} {ls st : List Value} {μ : Mu} {w : Nat × List Value × List Value × Mu} (h : cAas p ls st μ = some w) : μ.1 ≤ w.2.2.2.1 := by
  unfold cAas at h
  split at h
  · split at h
    · cases h; exact Nat.le_refl _
    · cases h
  · cases h
theorem cStp_le {c : Nat} {ins : Instr} {p0 p : Nat} {ls st : List Value} {μ : Mu} {w : Nat × List Value × List Value × Mu} (h : cStp c ins p0 p ls st μ = some w) : μ.1 ≤ w.2.2.2.1 := by
  unfold cStp at h
  split at h <;> first
    | exact lf_le h
    | exact cNew_le h
    | exact cArr_le h
    | exact cAnw_le h
    | exact cPut_le h
    | exact cGet_le h
    | exact cIas_le h
    | exact cAas_le h
    | (split at h
       · exact cMul_le h
       · cases h)
    | (cases h; exact Nat.le_refl _)
    | cases h
theorem exC_le : ∀ (f M pc : Nat) (ls st : List Value) (μ : Mu) (r : Nat × List Value × List Value × Mu), exC f M pc ls st μ = some r → μ.1 ≤ r.2.2.2.1 := by
  intro f
  induction f with
  | zero => intro M pc ls st μ r h; simp [exC] at h
  | succ f ih =>
    intro M pc ls st μ r h
    rw [exC] at h
    split at h
    · cases h; exact Nat.le_refl _
    · split at h
      · cases h
      · split at h
        · split at h
          · split at h
            · cases h; exact Nat.le_refl _
            · cases h
          · split at h
            · split at h
              · cases h
              · split at h
                · exact ih _ _ _ _ _ _ h
                · split at h
                  · cases h
                  · next he => exact Nat.le_trans (ih _ _ _ _ _ _ he) (ih _ _ _ _ _ _ h)
            · split at h
              · cases h
              · next hst => exact Nat.le_trans (cStp_le hst) (ih _ _ _ _ _ _ h)
        · cases h
def cPk (D : va_G) (γ : Nat → Nat) (cy : Nat → ClassId) (b0 b : Nat) (μ : Mu) : Array Value → State → Prop := fun a U =>
  a = ([Value.ref (γ b)] : List Value).toArray ∧ SXC D cy U ∧ Wf μ ∧ HV D γ cy μ U.heap ∧ U.heap.size = b0 + μ.1
def cQk (D : va_G) (γ : Nat → Nat) (cy : Nat → ClassId) (b0 : Nat) (μ : Mu) : Array Value → State → Outcome → State → Prop := fun _ st o t =>
  o = .returned none ∧ Wf μ ∧ HV D γ cy μ t.heap ∧ t.heap.size = b0 + μ.1 ∧ va_F (Ab b0) st t
def rmK (k n m : Nat) : Room := { frames := kF k, cells := m - n, slots := sm cN m - sm cN n, locals := kQ k }
theorem cPk_blind {D : va_G} {γ : Nat → Nat} {cy : Nat → ClassId} {b0 b : Nat} {μ : Mu} : FrameBlind (cPk D γ cy b0 b μ) := by
  intro a U g mk h
  obtain ⟨h1, ⟨n1, n2, n3, n4⟩, h3, h4, h5⟩ := h
  exact ⟨h1, ⟨fun q hq => va_Nw.same rfl rfl (n1 q hq), va_K.moved (u := U) (U := U.calling g mk a) (Vm.Alike.refl U.vm) n2, va_AO.moved (u := U) (U := U.calling g mk a) (Vm.Alike.refl U.vm) n3, A2.moved (u := U) (U := U.calling g mk a) (Vm.Alike.refl U.vm) n4⟩, h3, h4, h5⟩
/-- what a run of n steps of the constructors says of the machine itself -/
def SimC (l : Launch) (D : va_G) (γ : Nat → Nat) (cy : Nat → ClassId) (b0 n : Nat) : Prop := ∀ (M pc : Nat) (ls st : List Value) (μ : Mu) (r : Nat × List Value × List Value × Mu), M < 9 → exC n M pc ls st μ = some r →
  ∀ (p : Program) (e : Env) (R : Room) (s : State) (m : MethodId) (args : Array Value) (below : List Frame) (meth : Method) (c : Code) (Q : State → Prop) (n0 : Nat), FXC p s m args meth c R D γ cy b0 M → n0 ≤ μ.1 → r.2.2.2.1 - n0 ≤ R.cells → sm cN r.2.2.2.1 - sm cN n0 ≤ R.slots →
  (∀ (H : Heap) (locs : List Loc) (la : Array Slot), Wf r.2.2.2 → HV D γ cy r.2.2.2 H → H.size = b0 + r.2.2.2.1 → va_S (Ab b0) s.heap H locs → LR γ la r.2.1 (kL M) → (M < 8 → decode (kB M) r.1 = .ok (.return_, 1) ∧ r.2.2.1 = []) → W p l e R s m args below meth c H locs (r.2.2.2.1 - n0) (sm cN r.2.2.2.1 - sm cN n0) Q (F0 m r.1 la (r.2.2.1.map (cv γ)))) →
  ∀ (H : Heap) (locs : List Loc) (la : Array Slot), Wf μ → HV D γ cy μ H → H.size = b0 + μ.1 → va_S (Ab b0) s.heap H locs → LR γ la ls (kL M) → W p l e R s m args below meth c H locs (μ.1 - n0) (sm cN μ.1 - sm cN n0) Q (F0 m pc la (st.map (cv γ)))
set_option maxHeartbeats 1000000 in
theorem metK_of {l : Launch} {D : va_G} {γ : Nat → Nat} {cy : Nat → ClassId} {b0 n k b : Nat} {μ : Mu} {r : Nat × List Value × List Value × Mu} (hS : SimC l D γ cy b0 n) (hγ : ∀ k, k < 147 → γ k = b0 + k) (hk8 : k < 8) (hini : (kY k).name = "<init>") (hpl : plainFor (kY k) = true) (hnm : cNm.getD (kC k) "" = (kY k).cls) (hl1 : 1 ≤ kL k) (hex : exC n k 0 (ent (kL k) [.ref b]) [] μ = some r) :
    Met l (kY k) (Cond.code (kY k) (kB k) (kL k) none :: gw) (rmK k μ.1 r.2.2.2.1) (cPk D γ cy b0 b μ) (cQk D γ cy b0 r.2.2.2) (r.2.2.2.1 - μ.1) (sm cN r.2.2.2.1 - sm cN μ.1) (Ab b0) := by
  refine Met.ofWF (cc := kB k) (maxL := kL k) (ret := none) hpl rfl ?_
  intro p e s m args below meth c s₁ B hml hv
  obtain ⟨rfl, hsx, hw, hP, hz⟩ := hv
  have hts := atoms_spec (ws := Cond.code (kY k) (kB k) (kL k) none :: gw) B.pre
  have hown : s.vm.findClass (kY k).cls = some m.cls := findClass_of_methodNamed B.named
  have hlocks := B.notSynchronized
  have hx := B.exec
  have hb := B.bytes
  have hr := B.returns
  have hin : meth.name = "<init>" := by rw [(name_of_methodNamed B.named B.method).1]; exact hini
  have hF : FXC p s m ([Value.ref (γ b)] : List Value).toArray meth c (headSpec (Cond.code (kY k) (kB k) (kL k) none :: gw) (rmK k μ.1 r.2.2.2.1)).room D γ cy b0 k :=
    ⟨hx, hb, hml, by rw [hnm]; exact hown, fun w hw => hts w (List.mem_cons_of_mem _ hw), hsx, hγ, Nat.le_refl _, Nat.le_refl _, fun _ => hin, by omega⟩
  have hlen : (spr [Value.ref b]).length ≤ kL k := by
    have e1 : (spr [Value.ref b]).length = 1 := rfl
    omega
  have kret : ∀ (H : Heap) (locs : List Loc) (la : Array Slot), Wf r.2.2.2 → HV D γ cy r.2.2.2 H → H.size = b0 + r.2.2.2.1 → va_S (Ab b0) s.heap H locs → LR γ la r.2.1 (kL k) → (k < 8 → decode (kB k) r.1 = .ok (.return_, 1) ∧ r.2.2.1 = []) → W p l e (headSpec (Cond.code (kY k) (kB k) (kL k) none :: gw) (rmK k μ.1 r.2.2.2.1)).room s m ([Value.ref (γ b)] : List Value).toArray below meth c H locs (r.2.2.2.1 - μ.1) (sm cN r.2.2.2.1 - sm cN μ.1) (MQ below (cQk D γ cy b0 r.2.2.2) ([Value.ref (γ b)] : List Value).toArray s (r.2.2.2.1 - μ.1) (sm cN r.2.2.2.1 - sm cN μ.1) (Ab b0)) (F0 m r.1 la (r.2.2.1.map (cv γ))) := by
    intro H locs la w1 w2 w3 w4 w5 w6
    obtain ⟨d1, d2⟩ := w6 hk8
    rw [d2]
    exact W.vret hx hb hr (fun t ht hW => ⟨rfl, w1, by rw [ht]; exact w2, by rw [ht]; exact w3, w4.F ht⟩) w4.2.2 d1
  rw [lg_entry_eq]
  have key := hS k 0 (ent (kL k) [.ref b]) [] μ r (by omega) hex p e _ s m _ below meth c _ μ.1 hF (Nat.le_refl _) (Nat.le_refl _) (Nat.le_refl _) kret s.heap [] _ hw hP hz va_S.rf (LR_ent γ [.ref b] hlen)
  rw [Nat.sub_self, Nat.sub_self] at key
  exact key
theorem kFQ : ∀ M, M < 8 → 1 ≤ kF M ∧ 12 ≤ kQ M := by decide +kernel
section KCA
variable {p : Program} {l : Launch} {e : Env} {R : Room} {s : State} {m : MethodId} {args : Array Value} {below : List Frame} {meth : Method} {c : Code} {H : Heap} {locs : List Loc} {Q : State → Prop}
variable {D : va_G} {γ : Nat → Nat} {cy : Nat → ClassId} {M pc len b0 n0 : Nat} {ls st : List Value} {μ : Mu} {la : Array Slot}
theorem gcontK {st0 rest : List Value} {μ' : Mu} {a : Array Value} {mc ms cells slots : Nat} (hr : va_Run p l e R s m args below meth c H locs cells slots mc ms (F0 m pc la st0) rest (cQk D γ cy b0 μ' a) (Ab b0)) (hS : va_S (Ab b0) s.heap H locs)
    (kk : ∀ (H1 : Heap) (locs1 : List Loc), Wf μ' → HV D γ cy μ' H1 → H1.size = b0 + μ'.1 → va_S (Ab b0) s.heap H1 locs1 → W p l e R s m args below meth c H1 locs1 (cells + mc) (slots + ms) Q (F0 m (pc + 3) la rest)) : W p l e R s m args below meth c H locs cells slots Q (F0 m pc la st0) := by
  intro T hT X
  obtain ⟨v, st₀, t, T', L, h0, X', hL, e1, e2, ⟨hv, hw, hP, hz9, hz, hk⟩, st⟩ := hr T hT X
  cases hv
  rw [h0] at hz hk
  obtain ⟨t2, a1, b1⟩ := kk T'.heap (locs ++ L) hw (by rw [e1]; exact hP) (by rw [e1]; exact hz9)
    ⟨Nat.le_trans hS.1 (by rw [e1]; exact hz), fun q h1 h2 => by rw [e1, hk q (Nat.lt_of_lt_of_le h1 hS.1) h2]; exact hS.2.1 q h1 h2, fun q hq => by
      rcases List.mem_append.mp hq with h | h
      · exact hS.2.2 q h
      · exact hL q h⟩ T' rfl X'
  exact ⟨t2, st t2 a1, b1⟩
theorem simC_obj {ins : Instr} {b cells slots : Nat} {r : List Value} {n : Nat} (hF : FXC p s m args meth c R D γ cy b0 M) (hd : decode (kB M) pc = .ok (ins, len)) (hl : len = ilC ins) (hcal : cSp M ins st n = some (99, b, r)) (hR : LR γ la ls (kL M))
    (kk : W p l e R s m args below meth c H locs cells slots Q (F0 m (pc + len) la (r.map (cv γ)))) : W p l e R s m args below meth c H locs cells slots Q (F0 m pc la (st.map (cv γ))) := by
  obtain ⟨hx, hb, hml, hown, hts, hsx, hγ, hrf, hrl, hini, hb0⟩ := hF
  have hsize : la.size = kL M := by
    obtain ⟨-, lv, h1, -⟩ := hR
    exact h1.1
  unfold cSp at hcal
  split at hcal
  · next i b' r' =>
    have hl : len = 3 := hl
    subst hl
    split at hcal
    · next z hlk =>
      split at hcal
      · next hcd =>
        obtain ⟨hr0, hM8⟩ := hcd
        cases hcal
        subst hr0
        obtain ⟨f1, f2⟩ := kFQ M hM8
        have hlo : 2 * (F0 m pc la ((Value.ref b :: []).map (cv γ))).monitorRoom + (([] : List Value).map fun v => v.category).sum + 12 ≤ R.locals := by
          show 2 * 0 + 0 + 12 ≤ R.locals
          omega
        exact W.objInit hx hb hown (hts _ (objT_ok _ (lk_mem _ _ _ hlk))) (hts _ ob_inst) (hts _ ob_code) rfl (by rw [hml]; exact hsize) rfl hd (by omega) hlo kk
      · cases hcal
    · split at hcal
      · next k' nest hlk =>
        split at hcal
        · have h8 : k' < 8 := (iniT_ok _ (lk_mem _ _ _ hlk)).1
          cases hcal
          exact absurd h8 (by decide)
        · cases hcal
      · cases hcal
  · cases hcal
set_option maxHeartbeats 4000000 in
theorem simC_call {ins : Instr} {k b n : Nat} {r : List Value} {w : Nat × List Value × List Value × Mu} (hSim : SimC l D γ cy b0 n) (hF : FXC p s m args meth c R D γ cy b0 M) (hd : decode (kB M) pc = .ok (ins, len)) (hl : len = ilC ins) (hcal : cSp M ins st μ.1 = some (k, b, r)) (hk99 : ¬ k = 99) (hex : exC n k 0 (ent (kL k) [.ref b]) [] μ = some w) (hw : Wf μ) (hP : HV D γ cy μ H) (hz : H.size = b0 + μ.1) (hS : va_S (Ab b0) s.heap H locs) (hR : LR γ la ls (kL M)) (h0 : n0 ≤ μ.1) (hrc : w.2.2.2.1 - n0 ≤ R.cells) (hrs : sm cN w.2.2.2.1 - sm cN n0 ≤ R.slots)
    (kk : ∀ (H1 : Heap) (locs1 : List Loc), Wf w.2.2.2 → HV D γ cy w.2.2.2 H1 → H1.size = b0 + w.2.2.2.1 → va_S (Ab b0) s.heap H1 locs1 → W p l e R s m args below meth c H1 locs1 (w.2.2.2.1 - n0) (sm cN w.2.2.2.1 - sm cN n0) Q (F0 m (pc + len) la (r.map (cv γ)))) :
    W p l e R s m args below meth c H locs (μ.1 - n0) (sm cN μ.1 - sm cN n0) Q (F0 m pc la (st.map (cv γ))) := by
  obtain ⟨hx, hb, hml, hown, hts, ⟨hnw, hK, hAO, hA2⟩, hγ, hrf, hrl, hini, hb0⟩ := hF
  have hle := exC_le _ _ _ _ _ _ _ hex
  have hsm1 := sm_mono cN h0
  have hsm2 := sm_mono cN hle
  have hsize : la.size = kL M := by
    obtain ⟨-, lv, h1, -⟩ := hR
    exact h1.1
  have fix : CallFix p m c (kB M) (kL M) s args gw (cNm.getD (kC M) "") := ⟨hx, hb, hml, hown, hts⟩
  unfold cSp at hcal
  split at hcal
  · next i b' r' =>
    have hl : len = 3 := hl
    subst hl
    split at hcal
    · split at hcal
      · cases hcal
        exact absurd rfl hk99
      · cases hcal
    · split at hcal
      · next k' nest hlk =>
        split at hcal
        · next hcd =>
          cases hcal
          obtain ⟨hok, hbk, hbn⟩ := hcd
          simp only [okK, Bool.and_eq_true, decide_eq_true_eq] at hok
          obtain ⟨⟨o1, o3⟩, o4⟩ := hok
          obtain ⟨g1, g2, g3, g4, g5, g6, g7, g8, g9, g10, g11, g12⟩ := iniT_ok _ (lk_mem _ _ _ hlk)
          dsimp only at g1 g2 g3 g4 g5 g6 g7 g8 g9 g10 g11 g12
          have met := metK_of (l := l) hSim hγ g1 g5 g7 g8 g10 hex
          rw [g9] at g2
          have hgood : GoodIn gw (Cond.code (kY k) (kB k) (kL k) none :: gw) := fun w hw => (List.mem_cons.mp hw).elim (fun e => by rw [e]; exact gw_g g2) (fun h => gw_g h)
          have hroom : (rmK k μ.1 w.2.2.2.1).frames + 1 ≤ R.frames ∧ 8 + (kL k + 11) + (rmK k μ.1 w.2.2.2.1).locals ≤ R.locals := ⟨Nat.le_trans o3 hrf, Nat.le_trans o4 hrl⟩
          have ec : μ.1 - n0 + (w.2.2.2.1 - μ.1) = w.2.2.2.1 - n0 := by omega
          have ec2 : sm cN μ.1 - sm cN n0 + (sm cN w.2.2.2.1 - sm cN μ.1) = sm cN w.2.2.2.1 - sm cN n0 := by omega
          have hfit : μ.1 - n0 + (w.2.2.2.1 - μ.1) ≤ R.cells ∧ sm cN μ.1 - sm cN n0 + (sm cN w.2.2.2.1 - sm cN μ.1) ≤ R.slots := ⟨by rw [ec]; exact hrc, by rw [ec2]; exact hrs⟩
          have pre : PreS s H (cPk D γ cy b0 b μ) (Value.ref (γ b) :: []) := ⟨cPk_blind, fun U hU hW => ⟨rfl, ⟨fun q hq => va_Nw.warmM hW (hnw q hq), va_K.moved hW.alike hK, va_AO.moved hW.alike hAO, A2.moved hW.alike hA2⟩, hw, by rw [hU]; exact hP, by rw [hU]; exact hz⟩⟩
          have stk : 2 * (F0 m pc la ((Value.ref b :: r).map (cv γ))).monitorRoom + ((r.map (cv γ)).map fun v => v.category).sum ≤ 8 := lv_room (by rw [cv_sum]; exact o1)
          have fin : va_Run p l e R s m args below meth c H locs (μ.1 - n0) (sm cN μ.1 - sm cN n0) (w.2.2.2.1 - μ.1) (sm cN w.2.2.2.1 - sm cN μ.1) (F0 m pc la ((Value.ref b :: r).map (cv γ))) (r.map (cv γ)) (cQk D γ cy b0 w.2.2.2 (Value.ref (γ b) :: []).toArray) (Ab b0) := by
            cases nest with
            | false =>
              exact va_runI fix met (cwI 0 hts hgood rfl rfl rfl (hts _ g3) (hts _ (g11 rfl)) (hts _ g4) g5 g6 hroom) pre rfl rfl hsize rfl stk hd hfit
            | true =>
              have hn1 : va_Nw (.methodLinkNest (cNm.getD (kC M) "") i (kY k) "NamesInRow") s := hnw (cNm.getD (kC M) "", i, kY k) (g12 rfl)
              have hcn : va_CN R s args (cNm.getD (kC M) "") i (kY k) "NamesInRow" (kB k) (kL k) none (Cond.code (kY k) (kB k) (kL k) none :: gw) (rmK k μ.1 w.2.2.2.1) (w.2.2.2.1 - μ.1) (sm cN w.2.2.2.1 - sm cN μ.1) 0 := va_cnB 0 hts hgood rfl rfl rfl hn1 (hts _ g3) g6 hroom
              exact va_runIN fix met ⟨hcn, g5, hts _ g4⟩ pre rfl rfl hsize rfl stk hd hfit
          refine gcontK fin hS (fun H1 locs1 k1 k2 k3 k4 => ?_)
          rw [ec, ec2]
          exact kk H1 locs1 k1 k2 k3 k4
        · cases hcal
      · cases hcal
  · cases hcal
end KCA
theorem simC_all (l : Launch) (D : va_G) (γ : Nat → Nat) (cy : Nat → ClassId) (b0 : Nat) : ∀ n, SimC l D γ cy b0 n := by
  intro n
  induction n with
  | zero =>
    intro M pc ls st μ r hM h
    simp [exC] at h
  | succ n ih =>
    intro M pc ls st μ r hM h p e R s m args below meth c Q n0 hF h0 hrc hrs kret H locs la hw hP hz hS hR
    rw [exC] at h
    split at h
    · next h8 =>
      cases h
      exact kret H locs la hw hP hz hS hR (fun hlt => absurd h8.1 (by omega))
    · split at h
      · cases h
      · next ins len hlk =>
        have hd := kI_dec hM hlk
        split at h
        · next hl =>
          split at h
          · next h1 =>
            split at h
            · next hst =>
              cases h
              refine kret H locs la hw hP hz hS hR (fun _ => ⟨?_, hst.1⟩)
              cases ins <;> first
                | (exfalso; simp [kdC] at h1; done)
                | (have hl : len = 1 := hl
                   rw [hd, hl])
            · cases h
          · split at h
            · split at h
              · cases h
              · next k b r' hsp =>
                split at h
                · next hk =>
                  subst hk
                  exact simC_obj hF hd hl hsp hR (ih M (pc + len) ls r' μ r hM h p e R s m args below meth c Q n0 hF h0 hrc hrs kret H locs la hw hP hz hS hR)
                · next hk =>
                  split at h
                  · cases h
                  · next x1 x2 x3 μ' he =>
                    have hle1 := exC_le _ _ _ _ _ _ _ he
                    have hle2 := exC_le _ _ _ _ _ _ _ h
                    dsimp only at hle1
                    have hsm := sm_mono cN hle2
                    exact simC_call ih hF hd hl hsp hk he hw hP hz hS hR h0 (show μ'.1 - n0 ≤ R.cells by omega) (show sm cN μ'.1 - sm cN n0 ≤ R.slots by omega) (fun H1 locs1 k1 k2 k3 k4 => ih M (pc + len) ls r' μ' r hM h p e R s m args below meth c Q n0 hF (by omega) hrc hrs kret H1 locs1 la k1 k2 k3 k4 hR)
            · split at h
              · cases h
              · next p' ls' st' μ' hst =>
                have hle1 := cStp_le hst
                have hle2 := exC_le _ _ _ _ _ _ _ h
                dsimp only at hle1
                have hsm := sm_mono cN hle2
                exact simC_step hF hM hd hl hst hw hP hz hS hR h0 (show μ'.1 - n0 ≤ R.cells by omega) (show sm cN μ'.1 - sm cN n0 ≤ R.slots by omega) (fun H1 locs1 la1 k1 k2 k3 k4 k5 => ih M p' ls' st' μ' r hM h p e R s m args below meth c Q n0 hF (by omega) hrc hrs kret H1 locs1 la1 k1 k2 k3 k4 k5)
        · cases h
