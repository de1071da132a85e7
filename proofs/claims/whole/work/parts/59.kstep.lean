/-! ===== one instruction of the constructors' machine ===== -/
theorem lf_inv {w : Nx} {μ : Mu} {r : Nat × List Value × List Value × Mu} (h : lf w μ = some r) : ∃ x, w = some x ∧ r = (x.1, x.2.1, x.2.2.1, μ) := by
  unfold lf at h
  cases w with
  | none => cases h
  | some x => exact ⟨x, rfl, (Option.some.inj h).symm⟩
theorem sm_mono (f : Nat → Nat) {n m : Nat} (h : n ≤ m) : sm f n ≤ sm f m := by
  obtain ⟨d, rfl⟩ := Nat.exists_eq_add_of_le h
  clear h
  induction d with
  | zero => exact Nat.le_refl _
  | succ d ih => exact Nat.le_trans ih (Nat.le_add_right _ _)
theorem sm_run {f : Nat → Nat} {n K : Nat} : ∀ N, (∀ j, j < N → f (n + j) = K) → sm f (n + N) = sm f n + N * K
  | 0, _ => by simp
  | N + 1, h => by
    show sm f (n + N) + f (n + N) = _
    rw [sm_run N (fun j hj => h j (by omega)), h N (by omega), Nat.succ_mul]
    omega
theorem cN_224 : ∀ k, k < 147 → cN k ≤ 224 := by decide +kernel
theorem dfl_at {γ : Nat → Nat} {ci n j : Nat} (h : j < n) : vp_V ((dfl ci n).map (cv γ)) j = dfV ci j := by
  have e : cv γ (dfV ci j) = dfV ci j := by
    unfold dfV
    split <;> rfl
  simp [vp_V, dfl, h, e]
theorem rep_at {v : Value} {n j : Nat} (h : j < n) : (List.replicate n v).getD j .null = v := by
  simp [List.getD_eq_getElem?_getD, h]
theorem nar_ref {ty : FieldType} (h : ty.isReference = true) (a : Nat) : narrow ty (.ref a) = .ref a ∧ fits ty (.ref a) = true := by
  cases ty <;> simp [FieldType.isReference] at h <;> exact ⟨rfl, rfl⟩
theorem set_gD {l : List Value} {i j : Nat} {v : Value} (hi : i < l.length) : (l.set i v).getD j .null = if j = i then v else l.getD j .null := by
  rw [List.getD_eq_getElem?_getD, List.getD_eq_getElem?_getD]
  by_cases e : j = i
  · subst e
    rw [List.getElem?_set_self hi, if_pos rfl]
    rfl
  · rw [List.getElem?_set_ne (Ne.symm e), if_neg e]
theorem okF_0 {ci j : Nat} {v : Value} (h : okF ci j v = true) : (fC ci j = 0 ∧ ∃ x, v = .int x) ∨ (fC ci j = 1 ∧ ∃ x, v = .long x) ∨ (2 ≤ fC ci j ∧ ∃ x, v = .ref x) := by
  unfold okF at h
  split at h
  · next e => exact Or.inl ⟨e, _, rfl⟩
  · next e => exact Or.inr (Or.inl ⟨e, _, rfl⟩)
  · next e => exact Or.inr (Or.inr ⟨by omega, _, rfl⟩)
  · cases h
section KST
variable {p : Program} {l : Launch} {e : Env} {R : Room} {s : State} {m : MethodId} {args : Array Value} {below : List Frame} {meth : Method} {c : Code} {H : Heap} {locs : List Loc} {Q : State → Prop}
variable {D : va_G} {γ : Nat → Nat} {cy : Nat → ClassId} {M pc len b0 n0 : Nat} {ls st : List Value} {μ : Mu} {la : Array Slot}
theorem k_new {i : Nat} {w : Nat × List Value × List Value × Mu} (hF : FXC p s m args meth c R D γ cy b0 M) (hd : decode (kB M) pc = .ok (.new i, 3)) (hs : cNew (kC M) i (pc + 3) ls st μ = some w) (hw : Wf μ) (hP : HV D γ cy μ H) (hz : H.size = b0 + μ.1) (hS : va_S (Ab b0) s.heap H locs) (hR : LR γ la ls (kL M)) (h0 : n0 ≤ μ.1) (hrc : w.2.2.2.1 - n0 ≤ R.cells) (hrs : sm cN w.2.2.2.1 - sm cN n0 ≤ R.slots)
    (kk : ∀ (H1 : Heap) (locs1 : List Loc) (la1 : Array Slot), Wf w.2.2.2 → HV D γ cy w.2.2.2 H1 → H1.size = b0 + w.2.2.2.1 → va_S (Ab b0) s.heap H1 locs1 → LR γ la1 w.2.1 (kL M) → W p l e R s m args below meth c H1 locs1 (w.2.2.2.1 - n0) (sm cN w.2.2.2.1 - sm cN n0) Q (F0 m w.1 la1 (w.2.2.1.map (cv γ)))) :
    W p l e R s m args below meth c H locs (μ.1 - n0) (sm cN μ.1 - sm cN n0) Q (F0 m pc la (st.map (cv γ))) := by
  obtain ⟨hx, hb, hml, hown, hts, ⟨hnw, hK, hAO, hA2⟩, hγ, hrf, hrl, hini, hb0⟩ := hF
  unfold cNew at hs
  split at hs
  · next ci hlk =>
    split at hs
    · next hk =>
      cases hs
      dsimp only at hrc hrs kk
      obtain ⟨q, hq, h8, g1, g2, g3⟩ := newT_ok _ (lk_mem _ _ _ hlk)
      dsimp only at hq h8 g1 g2 g3
      have hn : μ.1 < 147 := cK_lt hk (by omega)
      have hcN := cN_ob hk h8 hq
      obtain ⟨ty0, hty, hnm, hdf, hdc⟩ := tkA ci q hq
      have hKn := hK.1 ci q hq
      have hsm := sm_mono cN h0
      have es : sm cN (μ.1 + 1) = sm cN μ.1 + cN μ.1 := rfl
      have ec : μ.1 - n0 + 1 = μ.1 + 1 - n0 := by omega
      have ec2 : sm cN μ.1 - sm cN n0 + q.2.2 = sm cN (μ.1 + 1) - sm cN n0 := by omega
      refine W.newcK hx hb hown (hts _ g1) (hts _ g2) (hts _ g3) rfl hd (by omega) (by omega) hKn.2.1 hz fun H1 kC hkC e1 z1 o1 => ?_
      rw [ec, ec2]
      have hat : va_at D vwCl (γ μ.1, cEv γ cy (mSet μ.2 μ.1 (dfl ci (cN μ.1))) μ.1) H1 := by
        rw [cEv_ob hk h8, mSet_at, hγ _ hn]
        exact ⟨_, hq, (u_born ty0 hts (hinA ci q hq) hKn hkC e1 hty).to (fun j hj => by rw [dfl_at (by rw [hcN]; exact hj)]; exact (hdf j hj).1)⟩
      have k1 := kk H1 locs la (Wf_new hw hn (by simp [dfl])) (HV_new hγ hw hP hz (fun q hq => o1 q (by rw [← hz]; exact hq)) hat) (by rw [z1]; omega) (S_grow hS (by omega) (by omega) (fun q hq => o1 q (by rw [← hz]; exact hq)) (fun x hx => Or.inl hx)) hR
      rw [List.map_cons] at k1
      have ecv : cv γ (.ref μ.1) = .ref (b0 + μ.1) := by show Value.ref (γ μ.1) = _; rw [hγ _ hn]
      rw [ecv] at k1
      exact k1
    · cases hs
  · cases hs
theorem k_arr {t : ArrayType} {w : Nat × List Value × List Value × Mu} (hF : FXC p s m args meth c R D γ cy b0 M) (hd : decode (kB M) pc = .ok (.newarray t, 2)) (hs : cArr t (pc + 2) ls st μ = some w) (hw : Wf μ) (hP : HV D γ cy μ H) (hz : H.size = b0 + μ.1) (hS : va_S (Ab b0) s.heap H locs) (hR : LR γ la ls (kL M)) (h0 : n0 ≤ μ.1) (hrc : w.2.2.2.1 - n0 ≤ R.cells) (hrs : sm cN w.2.2.2.1 - sm cN n0 ≤ R.slots)
    (kk : ∀ (H1 : Heap) (locs1 : List Loc) (la1 : Array Slot), Wf w.2.2.2 → HV D γ cy w.2.2.2 H1 → H1.size = b0 + w.2.2.2.1 → va_S (Ab b0) s.heap H1 locs1 → LR γ la1 w.2.1 (kL M) → W p l e R s m args below meth c H1 locs1 (w.2.2.2.1 - n0) (sm cN w.2.2.2.1 - sm cN n0) Q (F0 m w.1 la1 (w.2.2.1.map (cv γ)))) :
    W p l e R s m args below meth c H locs (μ.1 - n0) (sm cN μ.1 - sm cN n0) Q (F0 m pc la (st.map (cv γ))) := by
  obtain ⟨hx, hb, hml, hown, hts, ⟨hnw, hK, hAO, hA2⟩, hγ, hrf, hrl, hini, hb0⟩ := hF
  have hsm := sm_mono cN h0
  have es : sm cN (μ.1 + 1) = sm cN μ.1 + cN μ.1 := rfl
  have ec : μ.1 - n0 + 1 = μ.1 + 1 - n0 := by omega
  have ec2 : sm cN μ.1 - sm cN n0 + cN μ.1 = sm cN (μ.1 + 1) - sm cN n0 := by omega
  unfold cArr at hs
  split at hs
  · next x r =>
    split at hs
    · next hxn =>
      subst hxn
      split at hs
      · next ht =>
        obtain ⟨rfl, hk⟩ := ht
        cases hs
        dsimp only at hrc hrs kk
        have hn : μ.1 < 147 := cK_lt hk (by omega)
        have h224 := cN_224 μ.1 hn
        refine va_newaK (atype := .int) hx hb (show (Cond.arrayClass (newarray.typeOf .int)).before args s = true from hts _ ar_int) rfl hd rfl (nI_pos (by omega)) (iClamp (by omega)) (by show cN μ.1 * 4 ≤ _; omega) (by omega) (by omega) hz fun H1 cA e1 z1 o1 hAr hNm => ?_
        have hcA : cA = cy 0 := Option.some.inj (hNm.symm.trans (hK.2 0 _ rfl).2)
        subst hcA
        rw [ec, ec2]
        have hat : va_at D vwCl (γ μ.1, cEv γ cy (mSet μ.2 μ.1 (List.replicate (cN μ.1) (.int 0))) μ.1) H1 := by
          rw [cEv_10 hk, mSet_at, hγ _ hn]
          show H1[b0 + μ.1]? = some (vp_cell _ _)
          rw [e1, vp_cell_i]
          exact congrArg some (arrV_cg (fun j hj => by rw [rep_at hj]; rfl))
        have k1 := kk H1 locs la (Wf_new hw hn (by simp)) (HV_new hγ hw hP hz (fun q hq => o1 q (by rw [← hz]; exact hq)) hat) (by rw [z1]; omega) (S_grow hS (by omega) (by omega) (fun q hq => o1 q (by rw [← hz]; exact hq)) (fun x hx => Or.inl hx)) hR
        rw [List.map_cons] at k1
        have ecv : cv γ (.ref μ.1) = .ref (b0 + μ.1) := by show Value.ref (γ μ.1) = _; rw [hγ _ hn]
        rw [ecv] at k1
        exact k1
      · split at hs
        · next ht =>
          obtain ⟨rfl, hk⟩ := ht
          cases hs
          dsimp only at hrc hrs kk
          have hn : μ.1 < 147 := cK_lt hk (by omega)
          have h224 := cN_224 μ.1 hn
          refine va_newaK (atype := .long) hx hb (show (Cond.arrayClass (newarray.typeOf .long)).before args s = true from hts _ ar_long) rfl hd rfl (nI_pos (by omega)) (iClamp (by omega)) (by show cN μ.1 * 8 ≤ _; omega) (by omega) (by omega) hz fun H1 cA e1 z1 o1 hAr hNm => ?_
          have hcA : cA = cy 1 := Option.some.inj (hNm.symm.trans (hK.2 1 _ rfl).2)
          subst hcA
          rw [ec, ec2]
          have hat : va_at D vwCl (γ μ.1, cEv γ cy (mSet μ.2 μ.1 (List.replicate (cN μ.1) (.long 0))) μ.1) H1 := by
            rw [cEv_11 hk, mSet_at, hγ _ hn]
            show H1[b0 + μ.1]? = some (vp_cell _ _)
            rw [e1, vp_cell_l]
            exact congrArg some (arrV_cg (fun j hj => by rw [rep_at hj]; rfl))
          have k1 := kk H1 locs la (Wf_new hw hn (by simp)) (HV_new hγ hw hP hz (fun q hq => o1 q (by rw [← hz]; exact hq)) hat) (by rw [z1]; omega) (S_grow hS (by omega) (by omega) (fun q hq => o1 q (by rw [← hz]; exact hq)) (fun x hx => Or.inl hx)) hR
          rw [List.map_cons] at k1
          have ecv : cv γ (.ref μ.1) = .ref (b0 + μ.1) := by show Value.ref (γ μ.1) = _; rw [hγ _ hn]
          rw [ecv] at k1
          exact k1
        · cases hs
    · cases hs
  · cases hs
theorem k_anw {i : Nat} {w : Nat × List Value × List Value × Mu} (hF : FXC p s m args meth c R D γ cy b0 M) (hd : decode (kB M) pc = .ok (.anewarray i, 3)) (hs : cAnw (kC M) i (pc + 3) ls st μ = some w) (hw : Wf μ) (hP : HV D γ cy μ H) (hz : H.size = b0 + μ.1) (hS : va_S (Ab b0) s.heap H locs) (hR : LR γ la ls (kL M)) (h0 : n0 ≤ μ.1) (hrc : w.2.2.2.1 - n0 ≤ R.cells) (hrs : sm cN w.2.2.2.1 - sm cN n0 ≤ R.slots)
    (kk : ∀ (H1 : Heap) (locs1 : List Loc) (la1 : Array Slot), Wf w.2.2.2 → HV D γ cy w.2.2.2 H1 → H1.size = b0 + w.2.2.2.1 → va_S (Ab b0) s.heap H1 locs1 → LR γ la1 w.2.1 (kL M) → W p l e R s m args below meth c H1 locs1 (w.2.2.2.1 - n0) (sm cN w.2.2.2.1 - sm cN n0) Q (F0 m w.1 la1 (w.2.2.1.map (cv γ)))) :
    W p l e R s m args below meth c H locs (μ.1 - n0) (sm cN μ.1 - sm cN n0) Q (F0 m pc la (st.map (cv γ))) := by
  obtain ⟨hx, hb, hml, hown, hts, ⟨hnw, hK, hAO, hA2⟩, hγ, hrf, hrl, hini, hb0⟩ := hF
  have hsm := sm_mono cN h0
  have es : sm cN (μ.1 + 1) = sm cN μ.1 + cN μ.1 := rfl
  have ec : μ.1 - n0 + 1 = μ.1 + 1 - n0 := by omega
  have ec2 : sm cN μ.1 - sm cN n0 + cN μ.1 = sm cN (μ.1 + 1) - sm cN n0 := by omega
  unfold cAnw at hs
  split at hs
  · next x r =>
    split at hs
    · next hcd =>
      obtain ⟨rfl, hc6, rfl, hk⟩ := hcd
      cases hs
      dsimp only at hrc hrs kk
      have hn : μ.1 < 147 := cK_lt hk (by omega)
      have h224 := cN_224 μ.1 hn
      have hcl : (nI (cN μ.1)).toNatClampNeg = cN μ.1 := iClamp (by omega)
      have hown2 : s.vm.findClass "NamesInRow" = some m.cls := by rw [hc6] at hown; exact hown
      refine W.anew hx hb hown2 (hts _ an_link) (va_AO.use hAO) rfl hd rfl (nI_pos (by omega)) (by rw [hcl]; omega) (by omega) (by rw [hcl]; omega) fun cA kA comp f1 f2 f3 f4 => ?_
      obtain ⟨-, -, -, -, -, h4⟩ := (hK.2 2 _ rfl).2
      have hcA : cA = cy 2 := Option.some.inj (f1.symm.trans h4)
      subst hcA
      generalize hH1 : H.push ({ cls := cy 2, slots := Array.replicate (nI (cN μ.1)).toNatClampNeg .null, vm := .none } : Cell) = H1
      have z1 : H1.size = H.size + 1 := by rw [← hH1, Array.size_push]
      have e1 : H1[H.size]? = some (arrV (cy 2) (cN μ.1) (fun _ => .null)) := by rw [← hH1, Array.getElem?_push_size, ← arrV_new, hcl]
      have o1 : ∀ q : Nat, q < H.size → H1[q]? = H[q]? := fun q hq => by rw [← hH1, Array.getElem?_push, if_neg (Nat.ne_of_lt hq)]
      rw [hcl, ec, ec2]
      have hat : va_at D vwCl (γ μ.1, cEv γ cy (mSet μ.2 μ.1 (List.replicate (cN μ.1) .null)) μ.1) H1 := by
        rw [cEv_12 hk, mSet_at, hγ _ hn, ← hz]
        show H1[H.size]? = some (vp_cell _ _)
        rw [e1, vp_cell_q]
        exact congrArg some (arrV_cg (fun j hj => by rw [rep_at hj]; rfl))
      have k1 := kk H1 locs la (Wf_new hw hn (by simp)) (HV_new hγ hw hP hz o1 hat) (by rw [z1]; omega) (S_grow hS (by omega) (by omega) o1 (fun x hx => Or.inl hx)) hR
      rw [List.map_cons] at k1
      have ecv : cv γ (.ref μ.1) = .ref H.size := by show Value.ref (γ μ.1) = _; rw [hγ _ hn, hz]
      rw [ecv] at k1
      exact k1
    · cases hs
  · cases hs
theorem k_mul {i : Nat} {w : Nat × List Value × List Value × Mu} (hF : FXC p s m args meth c R D γ cy b0 M) (hd : decode (kB M) pc = .ok (.multianewarray i 2, 4)) (hs : cMul (kC M) i (pc + 4) ls st μ = some w) (hw : Wf μ) (hP : HV D γ cy μ H) (hz : H.size = b0 + μ.1) (hS : va_S (Ab b0) s.heap H locs) (hR : LR γ la ls (kL M)) (h0 : n0 ≤ μ.1) (hrc : w.2.2.2.1 - n0 ≤ R.cells) (hrs : sm cN w.2.2.2.1 - sm cN n0 ≤ R.slots)
    (kk : ∀ (H1 : Heap) (locs1 : List Loc) (la1 : Array Slot), Wf w.2.2.2 → HV D γ cy w.2.2.2 H1 → H1.size = b0 + w.2.2.2.1 → va_S (Ab b0) s.heap H1 locs1 → LR γ la1 w.2.1 (kL M) → W p l e R s m args below meth c H1 locs1 (w.2.2.2.1 - n0) (sm cN w.2.2.2.1 - sm cN n0) Q (F0 m w.1 la1 (w.2.2.1.map (cv γ)))) :
    W p l e R s m args below meth c H locs (μ.1 - n0) (sm cN μ.1 - sm cN n0) Q (F0 m pc la (st.map (cv γ))) := by
  obtain ⟨hx, hb, hml, hown, hts, ⟨hnw, hK, hAO, hA2⟩, hγ, hrf, hrl, hini, hb0⟩ := hF
  have hsm := sm_mono cN h0
  unfold cMul at hs
  split at hs
  · next y x r =>
    split at hs
    · next hcd =>
      obtain ⟨hmt, rfl, rfl, hk, hin⟩ := hcd
      cases hs
      dsimp only at hrc hrs kk
      have hn : μ.1 < 147 := cK_lt hk (by omega)
      have h224 := cN_224 μ.1 hn
      cases hlk : maT.lookup (kC M, i) with
      | none => rw [hlk] at hmt; cases hmt
      | some z =>
        have hlink := maT_ok _ (lk_mem _ _ _ hlk)
        have hin2 : ∀ j, j < cN μ.1 → μ.1 + 1 + j < 147 := fun j hj => cK_lt (hin j hj).1 (by omega)
        have hlast : μ.1 + 1 + cN μ.1 ≤ 147 := by
          by_cases c0 : cN μ.1 = 0
          · omega
          · have := hin2 (cN μ.1 - 1) (by omega); omega
        have es : sm cN (μ.1 + 1 + cN μ.1) = sm cN (μ.1 + 1) + cN μ.1 * 7 := sm_run (cN μ.1) (fun j hj => (hin j hj).2)
        have es1 : sm cN (μ.1 + 1) = sm cN μ.1 + cN μ.1 := rfl
        have ec : μ.1 - n0 + 1 + cN μ.1 = μ.1 + 1 + cN μ.1 - n0 := by omega
        have ec2 : sm cN μ.1 - sm cN n0 + cN μ.1 + cN μ.1 * 7 = sm cN (μ.1 + 1 + cN μ.1) - sm cN n0 := by omega
        obtain ⟨hAr, hnA⟩ := hK.2 3 _ rfl
        obtain ⟨hArI, -⟩ := hK.2 0 _ rfl
        obtain ⟨-, kI, hkI, c2, hkindI⟩ := hArI 0 (fun _ => .int 0)
        refine W_multi (N := cN μ.1) (K := 7) hx hb hown (hts _ hlink) hnA hA2 ⟨kI, c2, hkI, hkindI⟩ hd (nI_pos (by omega)) (nI_pos (by omega)) (iClamp (by omega)) (iClamp (by omega)) (by omega) (by omega) (by omega) (by omega) fun H1 locs1 z1 e1 e2 o1 hl1 => ?_
        rw [ec, ec2]
        have hV : HV D γ cy (μ.1 + 1 + cN μ.1, mMul μ.2 μ.1 (cN μ.1) 7) H1 := by
          intro k hk9
          dsimp only at hk9
          show va_at D vwCl (γ k, cEv γ cy (mMul μ.2 μ.1 (cN μ.1) 7) k) H1
          by_cases c1 : k < μ.1
          · have h1 := hP k c1
            rw [← cEv_eq (μ' := mMul μ.2 μ.1 (cN μ.1) 7) (mMul_old c1)] at h1
            exact h1.kept (o1 (γ k) (by rw [hγ k (by omega)]; omega))
          · by_cases c2 : k = μ.1
            · subst c2
              rw [cEv_13 hk, mMul_at, hγ _ hn, ← hz]
              show H1[H.size]? = some (vp_cell _ _)
              rw [e1, vp_cell_q]
              refine congrArg some (arrV_cg (fun j hj => ?_))
              have e5 : ((List.range (cN μ.1)).map (fun j => Value.ref (μ.1 + 1 + j))).getD j .null = .ref (μ.1 + 1 + j) := by simp [List.getD_eq_getElem?_getD, hj]
              rw [e5]
              show Value.ref (H.size + 1 + j) = Value.ref (γ (μ.1 + 1 + j))
              rw [hγ _ (hin2 j hj), hz, show b0 + μ.1 + 1 + j = b0 + (μ.1 + 1 + j) by omega]
            · obtain ⟨j, hj, rfl⟩ : ∃ j, j < cN μ.1 ∧ k = μ.1 + 1 + j := ⟨k - (μ.1 + 1), by omega, by omega⟩
              rw [cEv_10 (hin j hj).1, mMul_in hj, hγ _ (hin2 j hj), (hin j hj).2]
              show H1[b0 + (μ.1 + 1 + j)]? = some (vp_cell _ _)
              rw [show b0 + (μ.1 + 1 + j) = H.size + 1 + j by omega, e2 j hj, vp_cell_i]
              exact congrArg some (arrV_cg (fun i hi => by rw [rep_at hi]; rfl))
        have hWf : Wf (μ.1 + 1 + cN μ.1, mMul μ.2 μ.1 (cN μ.1) 7) := by
          refine ⟨hlast, fun k hk9 => ?_⟩
          dsimp only at hk9 ⊢
          by_cases c1 : k < μ.1
          · rw [mMul_old c1]; exact hw.2 k c1
          · by_cases c2 : k = μ.1
            · subst c2; rw [mMul_at]; simp
            · obtain ⟨j, hj, rfl⟩ : ∃ j, j < cN μ.1 ∧ k = μ.1 + 1 + j := ⟨k - (μ.1 + 1), by omega, by omega⟩
              rw [mMul_in hj, (hin j hj).2]; simp
        have k1 := kk H1 locs1 la hWf hV (by rw [z1]; omega) (S_grow hS (by omega) (by omega) o1 hl1) hR
        rw [List.map_cons] at k1
        have ecv : cv γ (.ref μ.1) = .ref H.size := by show Value.ref (γ μ.1) = _; rw [hγ _ hn, hz]
        rw [ecv] at k1
        exact k1
    · cases hs
  · cases hs
end KST
