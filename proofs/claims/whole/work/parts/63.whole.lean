/-! THE CLAIM OUT OF ONE WALK OF THE LAW'S BODY. Your part is whole_start (and what it stands on); all else here is the same for every law, but numbers. -/
def R_law : String := "NamesInRowLaw"
def lw_P (b : Addr) (xs : List Int32) (args : Array Value) (s : State) : Prop := args = #[.ref b] ∧ s.IntsAt b xs ∧ xs.length ≤ 2560 ∧ (Jvm.Cond.and given_1 narrow_1).before args s = true
def lw_Q (_ : Array Value) (s : State) (o : Outcome) (t : State) : Prop := o = .returned (some (.int 1)) ∧ Framed s o t [] 600000 7302250
def lw_Z (below : List Frame) (a : Array Value) (s : State) : State → Prop := fun t => ∃ o, t.status = .running ∧ Ended t below o ∧ lw_Q a s o t
/-- the law's own end, with 1 on the stack, nothing written that was there before, its room as the claim has it -/
theorem lw_ret {p : Program} {l : Launch} {e : Env} {s : State} {m : MethodId} {below : List Frame} {meth : Method} {c : Code} {b : Nat} (hx : p.tables.exec = Jvm.exec) (hb : c.code = code) (hr : meth.sig.returnType = ret) (hlocks : meth.locks = false) {pc : Nat} {H : Heap} {ls : Array Slot} (hdg : decode code pc = .ok (.ireturn, 1)) : W p l e room_1 s m #[Value.ref b] below meth c H [] 600000 7302250 (lw_Z below #[Value.ref b] s) (F0 m pc ls [.int 1]) := by
  intro T hT X
  obtain ⟨fs, hret, hrun, hended, hW, hframe⟩ := X.leave (v := some (.int 1)) (hlocks := hlocks) (fun h => by rw [hr] at h; cases h)
  have hmeth' : T.vm.method? m = some meth := X.method'
  refine ⟨T.setFrames fs, ?_, .returned (some (.int 1)), hrun, hended, rfl, ⟨_, rfl⟩, hW, hframe⟩
  jvm_step X.here [X.here.top, hx, hb, hdg, hmeth', hr, ret, narrow_b1]
  (try refine ⟨rfl, ?_⟩); (try refine ⟨rfl, ?_⟩)
  first | (intro acts; rw [hret _ acts rfl rfl rfl]) | rw [hret _ _ rfl rfl rfl]
  exact Steps.refl _
/-- what holds at the law's entry: the machine, the code, the tables' words (any of lw_tbl by 'hts w (by decide +kernel)'), the script of L ints xs at the cell b, what the Statement gives of the start (any of its parts by flat_of_before) -/
def lw_At (p : Program) (s : State) (m : MethodId) (meth : Method) (c : Code) (b L : Nat) (xs : Nat → Int32) : Prop :=
  p.tables.exec = Jvm.exec ∧ c.code = code ∧ meth.sig.returnType = ret ∧ c.maxLocals = 4 ∧ s.vm.findClass R_law = some m.cls ∧ (∀ w ∈ lw_tbl, w.before #[Value.ref b] s = true) ∧ va_X b L xs s s.heap ∧ b < s.heap.size ∧ meth.locks = false ∧ (Jvm.Cond.and given_1 narrow_1).before #[Value.ref b] s = true
set_option maxHeartbeats 4000000 in
/-- the law's loop, once all is made -/
theorem law_from {p : Program} {e : Env} {s : State} {m : MethodId} {below : List Frame} {meth : Method} {c : Code} (l : Launch) {b L : Nat} {xs : Nat → Int32} (hL : L ≤ 2560) (hr : meth.sig.returnType = ret) (hlocks : meth.locks = false) {D : va_G} {γ : Nat → Nat} {cy : Nat → ClassId} {H : Heap} {locs : List Loc} {la : Array Slot} (hF : FX p s m #[Value.ref b] c room_1 D γ cy (L, xs) (Ab s.heap.size) 177)
    (hP : va_P D vwCl (wl γ cy σi) H) (hD : va_D (Ab s.heap.size) (wl γ cy σi)) (hS : va_S (Ab s.heap.size) s.heap H locs) (hR : LR γ la [.ref cSC, .ref 0, .ref 127, .int 0] 4) : W p l e room_1 s m #[Value.ref b] below meth c H locs 147 (sm cN 147) (lw_Z below #[Value.ref b] s) (F0 m 18 la []) := by
  have h0 := l_law (X := (L, xs)) hL L 0 σi a0 (by show L ≤ 0 + L; omega) (by omega) CI_0 MI_0
  rw [nI_0] at h0
  obtain ⟨n, r, hex, hq⟩ := h0
  have hq : r.2.1 = [.int (nI 1)] := hq
  have hx := hF.1
  have hb : c.code = code := hF.2.1.trans eB177
  have kret : ∀ (H2 : Heap) (locs2 : List Loc) (la2 : Array Slot), va_P D vwCl (wl γ cy r.2.2) H2 → va_D (Ab s.heap.size) (wl γ cy r.2.2) → va_S (Ab s.heap.size) s.heap H2 locs2 → (∃ ins, decode (mB 177) r.1 = .ok (ins, 1) ∧ kd ins = 1 ∧ okR ins (mR 177) r.2.1 = true) → W p l e room_1 s m #[Value.ref b] below meth c H2 locs2 147 (sm cN 147) (lw_Z below #[Value.ref b] s) (F0 m r.1 la2 (r.2.1.map (cv γ))) := by
    intro H2 locs2 la2 g1 g2 g3 g4
    obtain ⟨ins, d1, d2, d3⟩ := g4
    rw [hq] at d3 ⊢
    have hi : ins = .ireturn := by
      rcases okR_inv d3 with ⟨h, -⟩ | ⟨h, -⟩ | ⟨-, -, v, h⟩ | ⟨-, -, v, h⟩ | ⟨-, -, h⟩
      · exact h
      · exact h
      · cases h
      · cases h
      · cases h
    subst hi
    rw [eB177] at d1
    refine va_forget (fun q hq => g3.2.2 q hq) ?_
    refine W.widen (k := 600000) (n := 7302250) (by decide) sm_147 ?_
    exact lw_ret hx hb hr hlocks d1
  exact sim_all l D γ cy (L, xs) n 177 18 _ [] σi r hex p e room_1 s m #[Value.ref b] below meth c (Ab s.heap.size) _ 147 (sm cN 147) hF (by decide) sm_147 kret H locs la hP hD hS hR
set_option maxHeartbeats 4000000 in
theorem whole_start {p : Program} {e : Env} {s : State} {m : MethodId} {below : List Frame} {meth : Method} {c : Code} (l : Launch) {b L : Nat} {xs : Nat → Int32} (hL : L ≤ 2560) (C0 : lw_At p s m meth c b L xs) : W p l e room_1 s m #[Value.ref b] below meth c s.heap [] 0 0 (lw_Z below #[Value.ref b] s) (entryFrame m ([Value.ref b] : List Value).toArray 4) := by
  obtain ⟨hx, hb, hr, hml, hown, hts, hX, hbl, hlocks, hgv⟩ := C0
  have hgw : ∀ w ∈ gw, w.before #[Value.ref b] s = true := fun w hw => hts w (List.mem_filter.mp hw).1
  have hA : ∀ a : Nat, a < s.heap.size → ¬ Ab s.heap.size a := fun a h q => absurd h (Nat.not_lt.mpr q)
  have hs := flat_of_before _ hgv
  obtain ⟨t, ht, hT⟩ := va_Tof (args := #[Value.ref b]) (s := s) (tm := .static "NamesInRow" "UNITS" "[J") (ty := .long) (N := 5) (f := fun j => .long (uV j)) (A := Ab s.heap.size) (by decide) (hs (.arrayOf (.static "NamesInRow" "UNITS" "[J") .long) (by decide +kernel)) (va_eqt (hs (.eq (.length (.static "NamesInRow" "UNITS" "[J")) (.int 5)) (by decide +kernel))) (fun j hj => by
      rcases (show j = 0 ∨ j = 1 ∨ j = 2 ∨ j = 3 ∨ j = 4 by omega) with rfl | rfl | rfl | rfl | rfl
      · exact va_eqtl (hs (.eq (.elem (.static "NamesInRow" "UNITS" "[J") (.int 0)) (.long 1)) (by decide +kernel))
      · exact va_eqtl (hs (.eq (.elem (.static "NamesInRow" "UNITS" "[J") (.int 1)) (.long 420)) (by decide +kernel))
      · exact va_eqtl (hs (.eq (.elem (.static "NamesInRow" "UNITS" "[J") (.int 2)) (.long 120)) (by decide +kernel))
      · exact va_eqtl (hs (.eq (.elem (.static "NamesInRow" "UNITS" "[J") (.int 3)) (.long 182761425)) (by decide +kernel))
      · exact va_eqtl (hs (.eq (.elem (.static "NamesInRow" "UNITS" "[J") (.int 4)) (.long 1000)) (by decide +kernel))) hA
  have hZ := va_Zref (hts _ us_lay) (hts _ us_ini) ht hA
  obtain ⟨γ, hγ, hγs, hγu⟩ : ∃ γ : Nat → Nat, (∀ k, k < 147 → γ k = s.heap.size + k) ∧ γ cSC = b ∧ γ cUN = t := ⟨fun k => if k < 147 then s.heap.size + k else if k = 147 then b else t, fun k hk => if_pos hk, by simp [cSC], by simp [cUN]⟩
  obtain ⟨dC, dI, hKc⟩ : ∃ (dC : Nat → ClassId) (dI : Nat → Nat → Nat), ∀ (k : Nat) (q : vw_C), vwCl[k]? = some q → u_Kn s q.1 q.2.1 q.2.2 (dC k) (dI k) := by
    have hex : ∀ k : Nat, ∃ (cC : ClassId) (iS : Nat → Nat), ∀ q : vw_C, vwCl[k]? = some q → u_Kn s q.1 q.2.1 q.2.2 cC iS := by
      intro k
      cases hq : vwCl[k]? with
      | none => exact ⟨m.cls, fun _ => 0, fun q h => by cases h⟩
      | some q =>
        obtain ⟨cC, iS, h⟩ := u_known hgw (hinA k q hq) (hgw _ (instA k q hq))
        exact ⟨cC, iS, fun q' h' => by cases h'; exact h⟩
    exact ⟨fun k => Classical.choose (hex k), fun k => Classical.choose (Classical.choose_spec (hex k)), fun k q hq => Classical.choose_spec (Classical.choose_spec (hex k)) q hq⟩
  obtain ⟨cI, xI, oI, i1, i2, i3⟩ := Cond.arrayClass_spec (hgw _ ar_int)
  obtain ⟨cL, xL, oL, l1, l2, l3⟩ := Cond.arrayClass_spec (hgw _ ar_long)
  have hPO := hts _ (List.mem_append_right (k2_sels lw_privs) an_over)
  obtain ⟨oP, cP, xP, p1, p2, p3, p4, p5⟩ := Cond.arrayOver_spec hPO
  obtain ⟨cA, xA, b1, b2, b3⟩ := over_arr (hts _ (List.mem_append_right (k2_sels lw_privs) aa_over)) i1
  obtain ⟨cy, e0, e1, e2, e3⟩ : ∃ cy : Nat → ClassId, cy 0 = cI ∧ cy 1 = cL ∧ cy 2 = cP ∧ cy 3 = cA := ⟨fun i => match i with
    | 0 => cI
    | 1 => cL
    | 2 => cP
    | _ => cA, rfl, rfl, rfl, rfl⟩
  subst e0; subst e1; subst e2; subst e3
  have hK : va_K (dC, dI) vwCl (tyl cy) s := by
    refine ⟨hKc, fun k q hk => ?_⟩
    match k, hk with
    | 0, hk => cases hk; exact ⟨fun n z => ⟨fun k h => (by cases h), xI, i2, oI, i3⟩, i1⟩
    | 1, hk => cases hk; exact ⟨fun n z => ⟨fun k h => (by cases h), xL, l2, oL, l3⟩, l1⟩
    | 2, hk => cases hk; exact ⟨fun n z => ⟨fun k h => (by cases h), xP, p3, oP, p4⟩, xP, oP, p3, p4, p1, p5⟩
    | 3, hk => cases hk; exact ⟨fun n z => ⟨fun k h => (by cases h), xA, b2, cy 0, b3⟩, b1⟩
    | k + 4, hk => simp [tyl] at hk
  have hF8 : FXC p s m #[Value.ref b] meth c room_1 (dC, dI) γ cy s.heap.size 8 := ⟨hx, hb.trans eB8.symm, hml.trans eL8.symm, hown, hgw, ⟨fun q hq => va_Nw.of rfl (hts _ (nwk_in q hq)), hK, va_AO.of hPO, ⟨xA, b2, b3⟩⟩, hγ, by decide +kernel, by decide +kernel, fun h => absurd h (by decide), Nat.le_refl _⟩
  have hF : FX p s m #[Value.ref b] c room_1 (dC, dI) γ cy (L, xs) (Ab s.heap.size) 177 := ⟨hx, hb.trans eB177.symm, hml.trans eL177.symm, hown, hgw, fun q hq => va_Nw.of rfl (hts _ (nwl_in q hq)), hK, by rw [hγu]; exact hZ, by rw [hγu]; exact hT, by rw [hγs]; exact hX, by rw [hγs]; exact hbl, by rw [hγs]; exact hA b hbl, fun k hk => by rw [hγ k hk]; exact Nat.le_add_right _ _, eF177.1, eF177.2⟩
  obtain ⟨μ, hrun, hμ⟩ := chk_run
  have hlr : LR γ ((lg_sl ([.ref b] : List Value) ++ List.replicate (4 - (lg_sl ([.ref b] : List Value)).length) Slot.unset).toArray) (ent 4 [.ref cSC]) 4 := by
    have h := LR_ent γ [.ref cSC] (n := 4) (by decide)
    have e : ([Value.ref cSC].map (cv γ)) = [.ref b] := by
      show [Value.ref (γ cSC)] = _
      rw [hγs]
    rw [e] at h
    exact h
  have es : sm cN 147 - sm cN 0 = sm cN 147 := by
    have z : sm cN 0 = 0 := rfl
    rw [z, Nat.sub_zero]
  have es0 : sm cN 0 - sm cN 0 = 0 := Nat.sub_self _
  have hc1 : (147 : Nat) - 0 ≤ room_1.cells := by decide
  have hc2 : sm cN 147 - sm cN 0 ≤ room_1.slots := by rw [es]; exact sm_147
  have kret : ∀ (H : Heap) (locs : List Loc) (la : Array Slot), Wf (147, μ) → HV (dC, dI) γ cy (147, μ) H → H.size = s.heap.size + 147 → va_S (Ab s.heap.size) s.heap H locs → LR γ la [.ref cSC, .ref 0, .ref 127, .int 0] (kL 8) → (8 < 8 → decode (kB 8) 18 = .ok (.return_, 1) ∧ ([] : List Value) = []) → W p l e room_1 s m #[Value.ref b] below meth c H locs (147 - 0) (sm cN 147 - sm cN 0) (lw_Z below #[Value.ref b] s) (F0 m 18 la (([] : List Value).map (cv γ))) := by
    intro H locs la w1 w2 w3 w4 w5 _
    rw [es, show (147 : Nat) - 0 = 147 from rfl]
    exact law_from l hL hr hlocks hF (fin_P hμ w2) (fin_D hγ) w4 w5
  rw [lg_entry_eq]
  have key : W p l e room_1 s m #[Value.ref b] below meth c s.heap [] (0 - 0) (sm cN 0 - sm cN 0) (lw_Z below #[Value.ref b] s) (F0 m 0 ((lg_sl ([.ref b] : List Value) ++ List.replicate (4 - (lg_sl ([.ref b] : List Value)).length) Slot.unset).toArray) (([] : List Value).map (cv γ))) := simC_all l (dC, dI) γ cy s.heap.size 4000 8 0 (ent 4 [.ref cSC]) [] (0, fun _ => []) (18, [.ref cSC, .ref 0, .ref 127, .int 0], [], (147, μ)) (by decide) hrun p e room_1 s m #[Value.ref b] below meth c (lw_Z below #[Value.ref b] s) 0 hF8 (Nat.le_refl _) hc1 hc2 kret s.heap [] _ ⟨Nat.zero_le _, fun k hk => absurd hk (Nat.not_lt_zero _)⟩ (fun k hk => absurd hk (Nat.not_lt_zero _)) rfl va_S.rf hlr
  rw [es0] at key
  exact key
