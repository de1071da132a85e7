/-! ===== writing, reading, and what touches no cell ===== -/
section KS2
variable {p : Program} {l : Launch} {e : Env} {R : Room} {s : State} {m : MethodId} {args : Array Value} {below : List Frame} {meth : Method} {c : Code} {H : Heap} {locs : List Loc} {Q : State → Prop}
variable {D : va_G} {γ : Nat → Nat} {cy : Nat → ClassId} {M pc len b0 n0 : Nat} {ls st : List Value} {μ : Mu} {la : Array Slot}
theorem S_put {H0 H1 : Heap} {locs1 : List Loc} {a : Nat} (hS : va_S (Ab b0) H0 H locs) (hb : b0 ≤ a) (hz : H1.size = H.size) (ho : ∀ q, q ≠ a → H1[q]? = H[q]?) (hl : ∀ x ∈ locs1, x ∈ locs ∨ x.base = a) : va_S (Ab b0) H0 H1 locs1 := by
  refine ⟨by rw [hz]; exact hS.1, fun q h1 h2 => (ho q (fun e => h2 (by show b0 ≤ q; omega))).trans (hS.2.1 q h1 h2), fun x hx => ?_⟩
  rcases hl x hx with h | h
  · exact hS.2.2 x h
  · show b0 ≤ x.base
    rw [h]; exact hb
theorem map_set_cv (γ : Nat → Nat) (l : List Value) (j : Nat) (v : Value) : (l.map (cv γ)).set j (cv γ v) = (l.set j v).map (cv γ) := by
  rw [List.map_set]
theorem k_put {i : Nat} {w : Nat × List Value × List Value × Mu} (hF : FXC p s m args meth c R D γ cy b0 M) (hM : M < 9) (hd : decode (kB M) pc = .ok (.putfield i, 3)) (hs : cPut (kC M) i (pc + 3) ls st μ = some w) (hw : Wf μ) (hP : HV D γ cy μ H) (hz : H.size = b0 + μ.1) (hS : va_S (Ab b0) s.heap H locs) (hR : LR γ la ls (kL M))
    (kk : ∀ (H1 : Heap) (locs1 : List Loc) (la1 : Array Slot), Wf w.2.2.2 → HV D γ cy w.2.2.2 H1 → H1.size = b0 + w.2.2.2.1 → va_S (Ab b0) s.heap H1 locs1 → LR γ la1 w.2.1 (kL M) → W p l e R s m args below meth c H1 locs1 (w.2.2.2.1 - n0) (sm cN w.2.2.2.1 - sm cN n0) Q (F0 m w.1 la1 (w.2.2.1.map (cv γ)))) :
    W p l e R s m args below meth c H locs (μ.1 - n0) (sm cN μ.1 - sm cN n0) Q (F0 m pc la (st.map (cv γ))) := by
  obtain ⟨hx, hb, hml, hown, hts, ⟨hnw, hK, hAO, hA2⟩, hγ, hrf, hrl, hini, hb0⟩ := hF
  unfold cPut at hs
  split at hs
  · next ci j v k r hlk =>
    split at hs
    · next hcd =>
      obtain ⟨hcc, hk, hkn, hok⟩ := hcd
      cases hs
      dsimp only at kk
      obtain ⟨q, hq, hj, hc8, hwd⟩ := fTb_ok _ (lk_mem _ _ _ hlk)
      dsimp only at hq hj hc8 hwd
      have h147 := hw.1
      have hcN := cN_ob hk hc8 hq
      obtain ⟨ty0, hty, hnm, hdf, hdc⟩ := tkA ci q hq
      obtain ⟨hI, hJ⟩ := fcA ci q hq j hj
      have hat := hP k hkn
      rw [cEv_ob hk hc8] at hat
      have hM8 : M < 8 := by
        by_cases h8 : M = 8
        · exfalso
          subst h8
          have : kC 8 = 8 := by decide +kernel
          omega
        · omega
      have fin : narrow (ty0 j) (cv γ v) = cv γ v ∧ fits (ty0 j) (cv γ v) = true ∧ ((q.2.1 j).2.2.2 = false ∨ ((q.2.1 j).2.2.2 = true ∧ meth.name = "<init>" ∧ (q.2.1 j).1 = cNm.getD (kC M) "")) := by
        rcases okF_0 hok with ⟨h1, x, rfl⟩ | ⟨h1, x, rfl⟩ | ⟨h1, x, rfl⟩
        · obtain ⟨e1, e2⟩ := hI h1
          have e3 := hty j hj
          rw [e1] at e3
          have e4 : ty0 j = .int := (Option.some.inj (e3.symm.trans (by decide +kernel)))
          rw [e4]
          exact ⟨vp_nar_int x, rfl, Or.inl e2⟩
        · obtain ⟨e1, e2⟩ := hJ h1
          have e3 := hty j hj
          rw [e1] at e3
          have e4 : ty0 j = .long := (Option.some.inj (e3.symm.trans (by decide +kernel)))
          rw [e4]
          exact ⟨rfl, rfl, Or.inl e2⟩
        · obtain ⟨e1, e2⟩ := (hdf j hj).2 h1
          obtain ⟨e3, e4⟩ := nar_ref e1 (γ x)
          exact ⟨e3, e4, Or.inr ⟨e2, hini hM8, by rw [← hcc]; exact hdc j hj⟩⟩
      refine vz_put (C := q.1) (T := q.2.1) (N := q.2.2) hx hb hts (hinA ci q hq) ty0 hty hnm hown hK hat hq j hj (hts _ hwd) fin.2.2 fin.1 fin.2.1 (by rw [List.length_map, hw.2 k hkn, hcN]; exact hj) hd fun H1 locs1 e1 z1 o1 hl1 => ?_
      rw [map_set_cv] at e1
      have hat1 : va_at D vwCl (γ k, cEv γ cy (mSet μ.2 k ((μ.2 k).set j v)) k) H1 := by
        rw [cEv_ob hk hc8, mSet_at]; exact e1
      exact kk H1 locs1 la (Wf_set hw) (HV_set hγ hw hP hkn o1 hat1) (by rw [z1, hz]) (S_put hS (by rw [hγ k (Nat.lt_of_lt_of_le hkn hw.1)]; exact Nat.le_add_right _ _) z1 o1 hl1) hR
    · cases hs
  · cases hs
theorem k_get {i : Nat} {w : Nat × List Value × List Value × Mu} (hF : FXC p s m args meth c R D γ cy b0 M) (hd : decode (kB M) pc = .ok (.getfield i, 3)) (hs : cGet (kC M) i (pc + 3) ls st μ = some w) (hw : Wf μ) (hP : HV D γ cy μ H) (hz : H.size = b0 + μ.1) (hS : va_S (Ab b0) s.heap H locs) (hR : LR γ la ls (kL M))
    (kk : ∀ (H1 : Heap) (locs1 : List Loc) (la1 : Array Slot), Wf w.2.2.2 → HV D γ cy w.2.2.2 H1 → H1.size = b0 + w.2.2.2.1 → va_S (Ab b0) s.heap H1 locs1 → LR γ la1 w.2.1 (kL M) → W p l e R s m args below meth c H1 locs1 (w.2.2.2.1 - n0) (sm cN w.2.2.2.1 - sm cN n0) Q (F0 m w.1 la1 (w.2.2.1.map (cv γ)))) :
    W p l e R s m args below meth c H locs (μ.1 - n0) (sm cN μ.1 - sm cN n0) Q (F0 m pc la (st.map (cv γ))) := by
  obtain ⟨hx, hb, hml, hown, hts, ⟨hnw, hK, hAO, hA2⟩, hγ, hrf, hrl, hini, hb0⟩ := hF
  unfold cGet at hs
  split at hs
  · next ci j k r hlk =>
    split at hs
    · next hcd =>
      obtain ⟨hk, hkn⟩ := hcd
      split at hs
      · next x hv =>
        cases hs
        dsimp only at kk
        obtain ⟨q, hq, hj, hc8, hwd⟩ := fTb_ok _ (lk_mem _ _ _ hlk)
        dsimp only at hq hj hc8 hwd
        have hcN := cN_ob hk hc8 hq
        have hat := hP k hkn
        rw [cEv_ob hk hc8] at hat
        have hlen : j < (μ.2 k).length := by rw [hw.2 k hkn, hcN]; exact hj
        have hv2 : ((μ.2 k).map (cv γ))[j]? = some (.ref (γ x)) := by
          rw [List.getElem?_map]
          rw [List.getD_eq_getElem?_getD, List.getElem?_eq_getElem hlen] at hv
          rw [List.getElem?_eq_getElem hlen]
          have hv3 : (μ.2 k)[j] = .ref x := hv
          rw [hv3]
          rfl
        exact vz_get (C := q.1) (T := q.2.1) (N := q.2.2) hx hb hts (hinA ci q hq) hown hK hat hq j hj (hts _ hwd) hv2 hd (kk H locs la hw hP hz hS hR)
      · cases hs
    · cases hs
  · cases hs
theorem k_ias {w : Nat × List Value × List Value × Mu} (hF : FXC p s m args meth c R D γ cy b0 M) (hd : decode (kB M) pc = .ok (.iastore, 1)) (hs : cIas (pc + 1) ls st μ = some w) (hw : Wf μ) (hP : HV D γ cy μ H) (hz : H.size = b0 + μ.1) (hS : va_S (Ab b0) s.heap H locs) (hR : LR γ la ls (kL M))
    (kk : ∀ (H1 : Heap) (locs1 : List Loc) (la1 : Array Slot), Wf w.2.2.2 → HV D γ cy w.2.2.2 H1 → H1.size = b0 + w.2.2.2.1 → va_S (Ab b0) s.heap H1 locs1 → LR γ la1 w.2.1 (kL M) → W p l e R s m args below meth c H1 locs1 (w.2.2.2.1 - n0) (sm cN w.2.2.2.1 - sm cN n0) Q (F0 m w.1 la1 (w.2.2.1.map (cv γ)))) :
    W p l e R s m args below meth c H locs (μ.1 - n0) (sm cN μ.1 - sm cN n0) Q (F0 m pc la (st.map (cv γ))) := by
  obtain ⟨hx, hb, hml, hown, hts, ⟨hnw, hK, hAO, hA2⟩, hγ, hrf, hrl, hini, hb0⟩ := hF
  unfold cIas at hs
  split at hs
  · next x i k r =>
    split at hs
    · next hcd =>
      obtain ⟨hk, hkn, hin⟩ := hcd
      cases hs
      dsimp only at kk
      have h147 := hw.1
      have hat := hP k hkn
      rw [cEv_10 hk] at hat
      have hlt : i.toNatClampNeg < (μ.2 k).length := by
        rw [hw.2 k hkn]
        exact Nat.not_le.mp fun q => hin (Or.inr q)
      refine vz_iast hx hb hK 0 hat rfl hin hd fun H1 locs1 e1 z1 o1 hl1 => ?_
      have hat1 : va_at D vwCl (γ k, cEv γ cy (mSet μ.2 k ((μ.2 k).set i.toNatClampNeg (.int x))) k) H1 := by
        rw [cEv_10 hk, mSet_at]
        have ef : (fun j => gI (((μ.2 k).set i.toNatClampNeg (.int x)).getD j .null)) = upd (fun j => gI ((μ.2 k).getD j .null)) i.toNatClampNeg x := by
          funext j
          rw [set_gD hlt]
          by_cases ej : j = i.toNatClampNeg
          · simp [upd, ej, gI]
          · simp [upd, ej]
        rw [ef]; exact e1
      exact kk H1 locs1 la (Wf_set hw) (HV_set hγ hw hP hkn o1 hat1) (by rw [z1, hz]) (S_put hS (by rw [hγ k (Nat.lt_of_lt_of_le hkn hw.1)]; exact Nat.le_add_right _ _) z1 o1 hl1) hR
    · cases hs
  · cases hs
theorem k_aas {w : Nat × List Value × List Value × Mu} (hF : FXC p s m args meth c R D γ cy b0 M) (hd : decode (kB M) pc = .ok (.aastore, 1)) (hs : cAas (pc + 1) ls st μ = some w) (hw : Wf μ) (hP : HV D γ cy μ H) (hz : H.size = b0 + μ.1) (hS : va_S (Ab b0) s.heap H locs) (hR : LR γ la ls (kL M))
    (kk : ∀ (H1 : Heap) (locs1 : List Loc) (la1 : Array Slot), Wf w.2.2.2 → HV D γ cy w.2.2.2 H1 → H1.size = b0 + w.2.2.2.1 → va_S (Ab b0) s.heap H1 locs1 → LR γ la1 w.2.1 (kL M) → W p l e R s m args below meth c H1 locs1 (w.2.2.2.1 - n0) (sm cN w.2.2.2.1 - sm cN n0) Q (F0 m w.1 la1 (w.2.2.1.map (cv γ)))) :
    W p l e R s m args below meth c H locs (μ.1 - n0) (sm cN μ.1 - sm cN n0) Q (F0 m pc la (st.map (cv γ))) := by
  obtain ⟨hx, hb, hml, hown, hts, ⟨hnw, hK, hAO, hA2⟩, hγ, hrf, hrl, hini, hb0⟩ := hF
  unfold cAas at hs
  split at hs
  · next v i k r =>
    split at hs
    · next hcd =>
      obtain ⟨hk, hkn, hv2, hvn, hin⟩ := hcd
      cases hs
      dsimp only at kk
      have h147 := hw.1
      have hat := hP k hkn
      rw [cEv_12 hk] at hat
      have hatv := hP v hvn
      rw [cEv_ob hv2 (by omega)] at hatv
      have hlt : i.toNatClampNeg < (μ.2 k).length := by
        rw [hw.2 k hkn]
        exact Nat.not_le.mp fun q => hin (Or.inr q)
      refine vz_aast (r := (RX2, TX2, 10)) hx hb hK 2 2 hat rfl hatv rfl hin hd fun H1 locs1 e1 z1 o1 hl1 => ?_
      have hat1 : va_at D vwCl (γ k, cEv γ cy (mSet μ.2 k ((μ.2 k).set i.toNatClampNeg (.ref v))) k) H1 := by
        rw [cEv_12 hk, mSet_at]
        have ef : (fun j => gR γ (((μ.2 k).set i.toNatClampNeg (.ref v)).getD j .null)) = va_up (fun j => gR γ ((μ.2 k).getD j .null)) i.toNatClampNeg (some (γ v)) := by
          funext j
          rw [set_gD hlt]
          by_cases ej : j = i.toNatClampNeg
          · simp [va_up, ej, gR]
          · simp [va_up, ej]
        rw [ef]; exact e1
      exact kk H1 locs1 la (Wf_set hw) (HV_set hγ hw hP hkn o1 hat1) (by rw [z1, hz]) (S_put hS (by rw [hγ k (Nat.lt_of_lt_of_le hkn hw.1)]; exact Nat.le_add_right _ _) z1 o1 hl1) hR
    · cases hs
  · cases hs
set_option maxHeartbeats 4000000 in
theorem simC_step {ins : Instr} {w : Nat × List Value × List Value × Mu} (hF : FXC p s m args meth c R D γ cy b0 M) (hM : M < 9) (hd : decode (kB M) pc = .ok (ins, len)) (hl : len = ilC ins) (hs : cStp (kC M) ins pc (pc + len) ls st μ = some w) (hw : Wf μ) (hP : HV D γ cy μ H) (hz : H.size = b0 + μ.1) (hS : va_S (Ab b0) s.heap H locs) (hR : LR γ la ls (kL M)) (h0 : n0 ≤ μ.1) (hrc : w.2.2.2.1 - n0 ≤ R.cells) (hrs : sm cN w.2.2.2.1 - sm cN n0 ≤ R.slots)
    (kk : ∀ (H1 : Heap) (locs1 : List Loc) (la1 : Array Slot), Wf w.2.2.2 → HV D γ cy w.2.2.2 H1 → H1.size = b0 + w.2.2.2.1 → va_S (Ab b0) s.heap H1 locs1 → LR γ la1 w.2.1 (kL M) → W p l e R s m args below meth c H1 locs1 (w.2.2.2.1 - n0) (sm cN w.2.2.2.1 - sm cN n0) Q (F0 m w.1 la1 (w.2.2.1.map (cv γ)))) :
    W p l e R s m args below meth c H locs (μ.1 - n0) (sm cN μ.1 - sm cN n0) Q (F0 m pc la (st.map (cv γ))) := by
  have hF' := hF
  obtain ⟨hx, hb, hml, hown, hts, hsx, hγ, hrf, hrl, hini, hb0⟩ := hF
  cases ins with
  | iload_n k =>
    subst hl
    obtain ⟨y, hy, rfl⟩ := lf_inv hs
    obtain ⟨x, h1, rfl⟩ := hLI_inv hy
    exact lv_iload_n hx hb hd rfl (LR_at hR h1 (by simp)) (kk H locs la hw hP hz hS hR)
  | aload_n k =>
    subst hl
    obtain ⟨y, hy, rfl⟩ := lf_inv hs
    obtain ⟨x, h1, rfl⟩ := hLA_inv hy
    exact lv_aload_n hx hb hd rfl (LR_at hR h1 (by simp)) (kk H locs la hw hP hz hS hR)
  | istore_n k =>
    subst hl
    obtain ⟨y, hy, rfl⟩ := lf_inv hs
    obtain ⟨x, r, rfl, h1, rfl⟩ := hSI_inv hy
    obtain ⟨hlen, lv, hlv, hcov⟩ := hR
    exact lv_istore_n hx hb hd rfl hlv (by rw [← hlen]; exact h1) rfl (fun la1 h => kk H locs la1 hw hP hz hS (LR_put1 (v := .int x) (la := la) hlen hcov h1 h))
  | astore_n k =>
    subst hl
    obtain ⟨y, hy, rfl⟩ := lf_inv hs
    obtain ⟨x, r, rfl, h1, rfl⟩ := hSA_inv hy
    obtain ⟨hlen, lv, hlv, hcov⟩ := hR
    exact lv_astore_n hx hb hd rfl hlv (by rw [← hlen]; exact h1) rfl (fun la1 h => kk H locs la1 hw hP hz hS (LR_put1 (v := .ref x) (la := la) hlen hcov h1 h))
  | iinc k n =>
    subst hl
    obtain ⟨y, hy, rfl⟩ := lf_inv hs
    obtain ⟨x, h9, h1, rfl⟩ := hInc_inv hy
    obtain ⟨hlen, lv, hlv, hcov⟩ := hR
    obtain ⟨q, hq⟩ := List.getElem?_of_mem (hcov k (.int x) (g1_some h9 (by simp)) (by simp))
    exact lv_iinc hx hb hd hlv hq rfl (by rw [← hlen]; exact h1) rfl (fun la1 h => kk H locs la1 hw hP hz hS (LR_put1 (v := .int (x + Int32.ofInt n)) (la := la) hlen hcov h1 h))
  | iconst n =>
    subst hl
    cases hs
    exact lv_iconst hx hb hd rfl (kk H locs la hw hP hz hS hR)
  | bipush n =>
    subst hl
    cases hs
    exact lv_bipush hx hb hd rfl (kk H locs la hw hP hz hS hR)
  | sipush n =>
    subst hl
    cases hs
    exact lv_sipush hx hb hd rfl (kk H locs la hw hP hz hS hR)
  | lconst n =>
    subst hl
    cases hs
    exact lv_lconst hx hb hd rfl (kk H locs la hw hP hz hS hR)
  | irem =>
    subst hl
    obtain ⟨z, hy, rfl⟩ := lf_inv hs
    obtain ⟨x, y, r, rfl, hy0, rfl⟩ := dI_inv hy
    exact lv_irem hx hb hd hy0 (kk H locs la hw hP hz hS hR)
  | dup =>
    subst hl
    obtain ⟨y, hy, rfl⟩ := lf_inv hs
    obtain ⟨v, r, rfl, hv, rfl⟩ := hDup_inv hy
    exact lv_dup hx hb hd (by rw [cv_cat]; exact hv) (kk H locs la hw hP hz hS hR)
  | goto off =>
    subst hl
    obtain ⟨y, hy, rfl⟩ := lf_inv hs
    obtain ⟨ht, rfl⟩ := hGo_inv hy
    exact lv_goto hx hb hd ht (kk H locs la hw hP hz hS hR)
  | ifCond cd off =>
    have hl : len = 3 := hl
    subst hl
    obtain ⟨y, hy, rfl⟩ := lf_inv hs
    obtain ⟨x, r, rfl, ht, rfl⟩ := hIf_inv hy
    have k1 := kk H locs la hw hP hz hS hR
    cases cd with
    | eq => exact lv_if_eq hx hb hd ht (fun h => by simpa [cmI, h] using k1) (fun h => by simpa [cmI, h] using k1)
    | ne => exact lv_if_ne hx hb hd ht (fun h => by simpa [cmI, h] using k1) (fun h => by simpa [cmI, h] using k1)
    | lt => exact lv_if_lt hx hb hd ht (fun h => by simpa [cmI, h] using k1) (fun h => by simpa [cmI, h] using k1)
    | ge => exact lv_if_ge hx hb hd ht (fun h => by simpa [cmI, h] using k1) (fun h => by simpa [cmI, h] using k1)
    | gt => exact lv_if_gt hx hb hd ht (fun h => by simpa [cmI, h] using k1) (fun h => by simpa [cmI, h] using k1)
    | le => exact lv_if_le hx hb hd ht (fun h => by simpa [cmI, h] using k1) (fun h => by simpa [cmI, h] using k1)
  | if_icmp cd off =>
    have hl : len = 3 := hl
    subst hl
    obtain ⟨y, hy, rfl⟩ := lf_inv hs
    obtain ⟨x, y, r, rfl, ht, rfl⟩ := hIc_inv hy
    have k1 := kk H locs la hw hP hz hS hR
    cases cd with
    | eq => exact lv_icmp_eq hx hb hd ht (fun h => by simpa [cmI, h] using k1) (fun h => by simpa [cmI, h] using k1)
    | ne => exact lv_icmp_ne hx hb hd ht (fun h => by simpa [cmI, h] using k1) (fun h => by simpa [cmI, h] using k1)
    | lt => exact lv_icmp_lt hx hb hd ht (fun h => by simpa [cmI, h] using k1) (fun h => by simpa [cmI, h] using k1)
    | ge => exact lv_icmp_ge hx hb hd ht (fun h => by simpa [cmI, h] using k1) (fun h => by simpa [cmI, h] using k1)
    | gt => exact lv_icmp_gt hx hb hd ht (fun h => by simpa [cmI, h] using k1) (fun h => by simpa [cmI, h] using k1)
    | le => exact lv_icmp_le hx hb hd ht (fun h => by simpa [cmI, h] using k1) (fun h => by simpa [cmI, h] using k1)
  | new i =>
    subst hl
    exact k_new hF' hd hs hw hP hz hS hR h0 hrc hrs kk
  | newarray t =>
    subst hl
    exact k_arr hF' hd hs hw hP hz hS hR h0 hrc hrs kk
  | anewarray i =>
    subst hl
    exact k_anw hF' hd hs hw hP hz hS hR h0 hrc hrs kk
  | multianewarray i dm =>
    subst hl
    simp only [cStp] at hs
    split at hs
    · next hd2 =>
      subst hd2
      exact k_mul hF' hd hs hw hP hz hS hR h0 hrc hrs kk
    · cases hs
  | putfield i =>
    subst hl
    exact k_put hF' hM hd hs hw hP hz hS hR kk
  | getfield i =>
    subst hl
    exact k_get hF' hd hs hw hP hz hS hR kk
  | iastore =>
    subst hl
    exact k_ias hF' hd hs hw hP hz hS hR kk
  | aastore =>
    subst hl
    exact k_aas hF' hd hs hw hP hz hS hR kk
  | _ => exact absurd hs (by simp [cStp])
end KS2
