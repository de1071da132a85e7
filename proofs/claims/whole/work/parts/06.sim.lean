/-! ===== one instruction of the machine over the memory is one of the machine itself ===== -/
def FX (p : Program) (s : State) (m : MethodId) (args : Array Value) (c : Code) (R : Room) (D : va_G) (γ : Nat → Nat) (cy : Nat → ClassId) (X : Nat × (Nat → Int32)) (A : Nat → Prop) (M : Nat) : Prop :=
  p.tables.exec = Jvm.exec ∧ c.code = mB M ∧ c.maxLocals = mL M ∧ s.vm.findClass (cNm.getD (mC M) "") = some m.cls ∧ (∀ w ∈ gw, w.before args s = true) ∧ (∀ q ∈ nwl, va_Nw (.methodLinkNest q.1 q.2.1 q.2.2 "NamesInRow") s) ∧ va_K D vwCl (tyl cy) s ∧ va_Z "NamesInRow" "UNITS" "[J" (.ref (γ cUN)) A s s.heap ∧ va_T .long (γ cUN) 5 (fun j => .long (uV j)) A s s.heap ∧ va_X (γ cSC) X.1 X.2 s s.heap ∧ γ cSC < s.heap.size ∧ ¬ A (γ cSC) ∧ (∀ k, k < 147 → A (γ k)) ∧ mF M ≤ R.frames ∧ mQ M ≤ R.locals
theorem hLI_inv {i p : Nat} {ls st : List Value} {σ : Mem} {w} (h : hLI i p ls st σ = some w) : ∃ x, g1 ls i = .int x ∧ w = (p, ls, .int x :: st, σ) := by
  unfold hLI at h; split at h
  · next x hx => exact ⟨x, hx, (Option.some.inj h).symm⟩
  · cases h
theorem hLL_inv {i p : Nat} {ls st : List Value} {σ : Mem} {w} (h : hLL i p ls st σ = some w) : ∃ x, g1 ls i = .long x ∧ w = (p, ls, .long x :: st, σ) := by
  unfold hLL at h; split at h
  · next x hx => exact ⟨x, hx, (Option.some.inj h).symm⟩
  · cases h
theorem hLA_inv {i p : Nat} {ls st : List Value} {σ : Mem} {w} (h : hLA i p ls st σ = some w) : ∃ x, g1 ls i = .ref x ∧ w = (p, ls, .ref x :: st, σ) := by
  unfold hLA at h; split at h
  · next x hx => exact ⟨x, hx, (Option.some.inj h).symm⟩
  · cases h
theorem hSI_inv {i p : Nat} {ls st : List Value} {σ : Mem} {w} (h : hSI i p ls st σ = some w) : ∃ x r, st = .int x :: r ∧ i < ls.length ∧ w = (p, put1 ls i (.int x), r, σ) := by
  unfold hSI at h; split at h
  · split at h
    · next hi => exact ⟨_, _, rfl, hi, (Option.some.inj h).symm⟩
    · cases h
  · cases h
theorem hSA_inv {i p : Nat} {ls st : List Value} {σ : Mem} {w} (h : hSA i p ls st σ = some w) : ∃ x r, st = .ref x :: r ∧ i < ls.length ∧ w = (p, put1 ls i (.ref x), r, σ) := by
  unfold hSA at h; split at h
  · split at h
    · next hi => exact ⟨_, _, rfl, hi, (Option.some.inj h).symm⟩
    · cases h
  · cases h
theorem hSL_inv {i p : Nat} {ls st : List Value} {σ : Mem} {w} (h : hSL i p ls st σ = some w) : ∃ x r, st = .long x :: r ∧ i + 1 < ls.length ∧ w = (p, put2 ls i (.long x), r, σ) := by
  unfold hSL at h; split at h
  · split at h
    · next hi => exact ⟨_, _, rfl, hi, (Option.some.inj h).symm⟩
    · cases h
  · cases h
theorem hInc_inv {i p : Nat} {n : Int} {ls st : List Value} {σ : Mem} {w} (h : hInc i n p ls st σ = some w) : ∃ x, g1 ls i = .int x ∧ i < ls.length ∧ w = (p, put1 ls i (.int (x + Int32.ofInt n)), st, σ) := by
  unfold hInc at h; split at h
  · next x hx =>
    split at h
    · next hi => exact ⟨x, hx, hi, (Option.some.inj h).symm⟩
    · cases h
  · cases h
theorem bI_inv {f : Int32 → Int32 → Int32} {p : Nat} {ls st : List Value} {σ : Mem} {w} (h : bI f p ls st σ = some w) : ∃ x y r, st = .int y :: .int x :: r ∧ w = (p, ls, .int (f x y) :: r, σ) := by
  unfold bI at h; split at h
  · exact ⟨_, _, _, rfl, (Option.some.inj h).symm⟩
  · cases h
theorem bL_inv {f : Int64 → Int64 → Int64} {p : Nat} {ls st : List Value} {σ : Mem} {w} (h : bL f p ls st σ = some w) : ∃ x y r, st = .long y :: .long x :: r ∧ w = (p, ls, .long (f x y) :: r, σ) := by
  unfold bL at h; split at h
  · exact ⟨_, _, _, rfl, (Option.some.inj h).symm⟩
  · cases h
theorem dI_inv {f : Int32 → Int32 → Int32} {p : Nat} {ls st : List Value} {σ : Mem} {w} (h : dI f p ls st σ = some w) : ∃ x y r, st = .int y :: .int x :: r ∧ ¬ y = 0 ∧ w = (p, ls, .int (f x y) :: r, σ) := by
  unfold dI at h; split at h
  · split at h
    · cases h
    · next hy => exact ⟨_, _, _, rfl, hy, (Option.some.inj h).symm⟩
  · cases h
theorem dL_inv {f : Int64 → Int64 → Int64} {p : Nat} {ls st : List Value} {σ : Mem} {w} (h : dL f p ls st σ = some w) : ∃ x y r, st = .long y :: .long x :: r ∧ ¬ y = 0 ∧ w = (p, ls, .long (f x y) :: r, σ) := by
  unfold dL at h; split at h
  · split at h
    · cases h
    · next hy => exact ⟨_, _, _, rfl, hy, (Option.some.inj h).symm⟩
  · cases h
theorem hI2L_inv {p : Nat} {ls st : List Value} {σ : Mem} {w} (h : hI2L p ls st σ = some w) : ∃ x r, st = .int x :: r ∧ w = (p, ls, .long x.toInt64 :: r, σ) := by
  unfold hI2L at h; split at h
  · exact ⟨_, _, rfl, (Option.some.inj h).symm⟩
  · cases h
theorem hNeg_inv {p : Nat} {ls st : List Value} {σ : Mem} {w} (h : hNeg p ls st σ = some w) : ∃ x r, st = .long x :: r ∧ w = (p, ls, .long (-x) :: r, σ) := by
  unfold hNeg at h; split at h
  · exact ⟨_, _, rfl, (Option.some.inj h).symm⟩
  · cases h
theorem hCmp_inv {p : Nat} {ls st : List Value} {σ : Mem} {w} (h : hCmp p ls st σ = some w) : ∃ x y r, st = .long y :: .long x :: r ∧ w = (p, ls, .int (lg_cmp x y) :: r, σ) := by
  unfold hCmp at h; split at h
  · exact ⟨_, _, _, rfl, (Option.some.inj h).symm⟩
  · cases h
theorem hDup_inv {p : Nat} {ls st : List Value} {σ : Mem} {w} (h : hDup p ls st σ = some w) : ∃ v r, st = v :: r ∧ v.category = 1 ∧ w = (p, ls, v :: v :: r, σ) := by
  unfold hDup at h; split at h
  · exact ⟨_, _, rfl, rfl, (Option.some.inj h).symm⟩
  · exact ⟨_, _, rfl, rfl, (Option.some.inj h).symm⟩
  · cases h
theorem hDup2_inv {p : Nat} {ls st : List Value} {σ : Mem} {w} (h : hDup2 p ls st σ = some w) : ∃ y x r, st = .int y :: .ref x :: r ∧ w = (p, ls, .int y :: .ref x :: .int y :: .ref x :: r, σ) := by
  unfold hDup2 at h; split at h
  · exact ⟨_, _, _, rfl, (Option.some.inj h).symm⟩
  · cases h
theorem hGo_inv {p0 : Nat} {off : Int} {ls st : List Value} {σ : Mem} {w} (h : hGo p0 off ls st σ = some w) : (p0 : Int) + off = (tg p0 off : Int) ∧ w = (tg p0 off, ls, st, σ) := by
  unfold hGo at h; split at h
  · next hi => exact ⟨(Int.toNat_of_nonneg hi).symm, (Option.some.inj h).symm⟩
  · cases h
theorem hIf_inv {cd : Jvm.ClassFile.Cond} {p0 p : Nat} {off : Int} {ls st : List Value} {σ : Mem} {w} (h : hIf cd p0 off p ls st σ = some w) : ∃ x r, st = .int x :: r ∧ (p0 : Int) + off = (tg p0 off : Int) ∧ w = (if cmI cd x 0 = true then tg p0 off else p, ls, r, σ) := by
  unfold hIf at h; split at h
  · split at h
    · next hi => exact ⟨_, _, rfl, (Int.toNat_of_nonneg hi).symm, (Option.some.inj h).symm⟩
    · cases h
  · cases h
theorem hIc_inv {cd : Jvm.ClassFile.Cond} {p0 p : Nat} {off : Int} {ls st : List Value} {σ : Mem} {w} (h : hIc cd p0 off p ls st σ = some w) : ∃ x y r, st = .int y :: .int x :: r ∧ (p0 : Int) + off = (tg p0 off : Int) ∧ w = (if cmI cd x y = true then tg p0 off else p, ls, r, σ) := by
  unfold hIc at h; split at h
  · split at h
    · next hi => exact ⟨_, _, _, rfl, (Int.toNat_of_nonneg hi).symm, (Option.some.inj h).symm⟩
    · cases h
  · cases h
theorem hSw_inv {d lo hi : Int} {offs : Array Int} {p0 : Nat} {ls st : List Value} {σ : Mem} {w} (h : hSw d lo hi offs p0 ls st σ = some w) : ∃ x r, st = .int x :: r ∧ (p0 : Int) + swO d lo hi offs x = (tg p0 (swO d lo hi offs x) : Int) ∧ (hi - lo).toNat < offs.size ∧ lo ≤ hi ∧ w = (tg p0 (swO d lo hi offs x), ls, r, σ) := by
  unfold hSw at h; split at h
  · split at h
    · next hi => exact ⟨_, _, rfl, (Int.toNat_of_nonneg hi.1).symm, hi.2.1, hi.2.2, (Option.some.inj h).symm⟩
    · cases h
  · cases h
def aV (σ : Mem) (ci k j : Nat) : Value := match fC ci j with
  | 0 => .int (σ.1 k j)
  | 1 => .long (σ.2 k j)
  | n + 2 => .ref (k + n)
theorem aV_cv (γ : Nat → Nat) (σ : Mem) (ci k j : Nat) : cv γ (aV σ ci k j) = fv γ σ ci k j := by
  unfold aV fv
  generalize fC ci j = n
  match n with
  | 0 => rfl
  | 1 => rfl
  | n + 2 => rfl
theorem hGet_inv {c idx p : Nat} {ls st : List Value} {σ : Mem} {w} (h : hGet c idx p ls st σ = some w) : ∃ ci j k r, ((c, idx), ci, j) ∈ fTb ∧ st = .ref k :: r ∧ cK k = ci ∧ w = (p, ls, aV σ ci k j :: r, σ) := by
  unfold hGet at h; split at h
  · next hf =>
    split at h
    · next hk =>
      refine ⟨_, _, _, _, lk_mem _ _ _ hf, rfl, hk, ?_⟩
      unfold aV
      split at h
      · next e => rw [e]; exact (Option.some.inj h).symm
      · next e => rw [e]; exact (Option.some.inj h).symm
      · next e => rw [e]; exact (Option.some.inj h).symm
    · cases h
  · cases h
theorem hPut_inv {c idx p : Nat} {ls st : List Value} {σ : Mem} {w} (h : hPut c idx p ls st σ = some w) : ∃ ci j k r, ((c, idx), ci, j) ∈ fTb ∧ cK k = ci ∧ ((∃ x, st = .int x :: .ref k :: r ∧ fC ci j = 0 ∧ w = (p, ls, r, sI σ k j x)) ∨ (∃ x, st = .long x :: .ref k :: r ∧ fC ci j = 1 ∧ w = (p, ls, r, sL σ k j x))) := by
  unfold hPut at h; split at h
  · next hf =>
    split at h
    · next hk => exact ⟨_, _, _, _, lk_mem _ _ _ hf, hk.1, Or.inl ⟨_, rfl, hk.2, (Option.some.inj h).symm⟩⟩
    · cases h
  · next hf =>
    split at h
    · next hk => exact ⟨_, _, _, _, lk_mem _ _ _ hf, hk.1, Or.inr ⟨_, rfl, hk.2, (Option.some.inj h).symm⟩⟩
    · cases h
  · cases h
theorem hGs_inv {c idx p : Nat} {ls st : List Value} {σ : Mem} {w} (h : hGs c idx p ls st σ = some w) : c = 6 ∧ idx = 163 ∧ w = (p, ls, .retAddr 0 :: st, σ) := by
  unfold hGs at h; split at h
  · next hk => exact ⟨hk.1, hk.2, (Option.some.inj h).symm⟩
  · cases h
theorem hIal_inv {X : Nat × (Nat → Int32)} {c p : Nat} {ls st : List Value} {σ : Mem} {w} (h : hIal X c p ls st σ = some w) : ∃ i k r, st = .int i :: .ref k :: r ∧ ((k = cSC ∧ vp_in i X.1 ∧ w = (p, ls, .int (X.2 i.toNatClampNeg) :: r, σ)) ∨ (cK k = 10 ∧ vp_in i (cN k) ∧ w = (p, ls, .int (σ.1 k i.toNatClampNeg) :: r, σ))) := by
  unfold hIal at h; split at h
  · split at h
    · split at h
      · next hi => exact ⟨_, _, _, rfl, Or.inl ⟨hi.1, hi.2, (Option.some.inj h).symm⟩⟩
      · cases h
    · split at h
      · next hi => exact ⟨_, _, _, rfl, Or.inr ⟨hi.1, hi.2, (Option.some.inj h).symm⟩⟩
      · cases h
  · cases h
theorem hLal_inv {p : Nat} {ls st : List Value} {σ : Mem} {w} (h : hLal p ls st σ = some w) : (∃ i k r, st = .int i :: .retAddr k :: r ∧ vp_in i 5 ∧ w = (p, ls, .long (uV i.toNatClampNeg) :: r, σ)) ∨ (∃ i k r, st = .int i :: .ref k :: r ∧ cK k = 11 ∧ vp_in i (cN k) ∧ w = (p, ls, .long (σ.2 k i.toNatClampNeg) :: r, σ)) := by
  unfold hLal at h; split at h
  · split at h
    · next hi => exact Or.inl ⟨_, _, _, rfl, hi, (Option.some.inj h).symm⟩
    · cases h
  · split at h
    · next hi => exact Or.inr ⟨_, _, _, rfl, hi.1, hi.2, (Option.some.inj h).symm⟩
    · cases h
  · cases h
theorem hAal_inv {p : Nat} {ls st : List Value} {σ : Mem} {w} (h : hAal p ls st σ = some w) : ∃ i k r, st = .int i :: .ref k :: r ∧ (cK k = 12 ∨ cK k = 13) ∧ vp_in i (cN k) ∧ w = (p, ls, .ref (rA k i.toNatClampNeg) :: r, σ) := by
  unfold hAal at h; split at h
  · split at h
    · next hi => exact ⟨_, _, _, rfl, hi.1, hi.2, (Option.some.inj h).symm⟩
    · cases h
  · cases h
theorem hIas_inv {p : Nat} {ls st : List Value} {σ : Mem} {w} (h : hIas p ls st σ = some w) : ∃ x i k r, st = .int x :: .int i :: .ref k :: r ∧ cK k = 10 ∧ vp_in i (cN k) ∧ w = (p, ls, r, sI σ k i.toNatClampNeg x) := by
  unfold hIas at h; split at h
  · split at h
    · next hi => exact ⟨_, _, _, _, rfl, hi.1, hi.2, (Option.some.inj h).symm⟩
    · cases h
  · cases h
theorem hLas_inv {p : Nat} {ls st : List Value} {σ : Mem} {w} (h : hLas p ls st σ = some w) : ∃ x i k r, st = .long x :: .int i :: .ref k :: r ∧ cK k = 11 ∧ vp_in i (cN k) ∧ w = (p, ls, r, sL σ k i.toNatClampNeg x) := by
  unfold hLas at h; split at h
  · split at h
    · next hi => exact ⟨_, _, _, _, rfl, hi.1, hi.2, (Option.some.inj h).symm⟩
    · cases h
  · cases h
theorem hLen_inv {X : Nat × (Nat → Int32)} {p : Nat} {ls st : List Value} {σ : Mem} {w} (h : hLen X p ls st σ = some w) : ∃ r, st = .ref cSC :: r ∧ w = (p, ls, .int (Int32.ofNat X.1) :: r, σ) := by
  unfold hLen at h; split at h
  · split at h
    · next hk => subst hk; exact ⟨_, rfl, (Option.some.inj h).symm⟩
    · cases h
  · cases h
theorem lkI_inv {c i p : Nat} {ls st : List Value} {σ : Mem} {w} (h : (cIb.lookup (c, i)).elim none (fun v => some (p, ls, Value.int v :: st, σ)) = some w) : ∃ v, ((c, i), v) ∈ cIb ∧ w = (p, ls, .int v :: st, σ) := by
  cases e : cIb.lookup (c, i) with
  | none => rw [e] at h; cases h
  | some v => rw [e] at h; exact ⟨v, lk_mem _ _ _ e, (Option.some.inj h).symm⟩
theorem lkL_inv {c i p : Nat} {ls st : List Value} {σ : Mem} {w} (h : (cLb.lookup (c, i)).elim none (fun v => some (p, ls, Value.long v :: st, σ)) = some w) : ∃ v, ((c, i), v) ∈ cLb ∧ w = (p, ls, .long v :: st, σ) := by
  cases e : cLb.lookup (c, i) with
  | none => rw [e] at h; cases h
  | some v => rw [e] at h; exact ⟨v, lk_mem _ _ _ e, (Option.some.inj h).symm⟩
section SIM
variable {p : Program} {l : Launch} {e : Env} {R : Room} {s : State} {m : MethodId} {args : Array Value} {below : List Frame} {meth : Method} {c : Code} {H : Heap} {locs : List Loc} {cells slots : Nat} {Q : State → Prop}
variable {D : va_G} {γ : Nat → Nat} {cy : Nat → ClassId} {X : Nat × (Nat → Int32)} {A : Nat → Prop} {M pc len : Nat} {ls st : List Value} {σ : Mem} {la : Array Slot}
theorem wl_aald {ty : FieldType} {t0 : Nat} {cA : ClassId} {n a : Nat} {f : Nat → Option Nat} {i : Int32} {rest : List Value} (hexec : p.tables.exec = Jvm.exec) (hb : c.code = mB M) (hK : va_K D vwCl (tyl cy) s) (ha : va_at D vwCl (a, .inl (cA, n, .inr (.inr (.inr (.inr f))))) H) (ht : (tyl cy)[t0]? = some (cA, ty)) (hr : ty.isReference = true) (hin : vp_in i n) (hdg : decode (mB M) pc = .ok (.aaload, 1))
    (kk : W p l e R s m args below meth c H locs cells slots Q (F0 m (pc + 1) la (va_rf (f i.toNatClampNeg) :: rest))) : W p l e R s m args below meth c H locs cells slots Q (F0 m pc la (.int i :: .ref a :: rest)) := by
  have hlt : i.toNatClampNeg < n := Nat.not_le.mp fun q => hin (Or.inr q)
  exact W.aald (v := va_rf (f i.toNatClampNeg)) (ty := ty) hexec hb ha ((hK.2 t0 _ ht).1 n (fun j => va_rf (f j))) hr (fun q => by cases q) (by show ¬ (i < 0 ∨ (arrV _ _ _).slots.size ≤ _); rw [arrV_size]; exact hin) (by show (arrV _ _ _).slots[_]? = _; rw [arrV_read _ _ hlt]) rfl rfl hdg kk
set_option maxHeartbeats 4000000 in
theorem sim_step {ins : Instr} {w : Nat × List Value × List Value × Mem} (hF : FX p s m args c R D γ cy X A M) (hd : decode (mB M) pc = .ok (ins, len)) (hl : len = il ins ∨ il ins = 0) (hs : stp X (mC M) ins pc (pc + len) ls st σ = some w) (hP : va_P D vwCl (wl γ cy σ) H) (hD : va_D A (wl γ cy σ)) (hS : va_S A s.heap H locs) (hR : LR γ la ls (mL M))
    (kk : ∀ (H1 : Heap) (locs1 : List Loc) (la1 : Array Slot), va_P D vwCl (wl γ cy w.2.2.2) H1 → va_D A (wl γ cy w.2.2.2) → va_S A s.heap H1 locs1 → LR γ la1 w.2.1 (mL M) → W p l e R s m args below meth c H1 locs1 cells slots Q (F0 m w.1 la1 (w.2.2.1.map (cv γ)))) :
    W p l e R s m args below meth c H locs cells slots Q (F0 m pc la (st.map (cv γ))) := by
  obtain ⟨hx, hb, hml, hown, hts, hnw, hK, hZ, hT, hX, hXl, hXA, hAg, hrf, hrl⟩ := hF
  have k0 := fun (la1 : Array Slot) (h : w.2.2.2 = σ) => kk H locs la1 (by rw [h]; exact hP) (by rw [h]; exact hD) hS
  cases ins with
  | iload_n k =>
    have hl : len = 1 := by simpa [il] using hl
    subst hl
    obtain ⟨x, h1, rfl⟩ := hLI_inv hs
    exact lv_iload_n hx hb hd rfl (LR_at hR h1 (by simp)) (k0 la rfl hR)
  | iload k =>
    have hl : len = 2 := by simpa [il] using hl
    subst hl
    obtain ⟨x, h1, rfl⟩ := hLI_inv hs
    exact lv_iload hx hb hd (LR_at hR h1 (by simp)) (k0 la rfl hR)
  | lload_n k =>
    have hl : len = 1 := by simpa [il] using hl
    subst hl
    obtain ⟨x, h1, rfl⟩ := hLL_inv hs
    exact lv_lload_n hx hb hd rfl (LR_at hR h1 (by simp)) (k0 la rfl hR)
  | lload k =>
    have hl : len = 2 := by simpa [il] using hl
    subst hl
    obtain ⟨x, h1, rfl⟩ := hLL_inv hs
    exact lv_lload hx hb hd (LR_at hR h1 (by simp)) (k0 la rfl hR)
  | aload_n k =>
    have hl : len = 1 := by simpa [il] using hl
    subst hl
    obtain ⟨x, h1, rfl⟩ := hLA_inv hs
    exact lv_aload_n hx hb hd rfl (LR_at hR h1 (by simp)) (k0 la rfl hR)
  | aload k =>
    have hl : len = 2 := by simpa [il] using hl
    subst hl
    obtain ⟨x, h1, rfl⟩ := hLA_inv hs
    exact lv_aload hx hb hd (LR_at hR h1 (by simp)) (k0 la rfl hR)
  | istore_n k =>
    have hl : len = 1 := by simpa [il] using hl
    subst hl
    obtain ⟨x, r, rfl, h1, rfl⟩ := hSI_inv hs
    obtain ⟨hlen, lv, hlv, hcov⟩ := hR
    exact lv_istore_n hx hb hd rfl hlv (by rw [← hlen]; exact h1) rfl (fun la1 h => k0 la1 rfl (LR_put1 (v := .int x) (la := la) hlen hcov h1 h))
  | istore k =>
    have hl : len = 2 := by simpa [il] using hl
    subst hl
    obtain ⟨x, r, rfl, h1, rfl⟩ := hSI_inv hs
    obtain ⟨hlen, lv, hlv, hcov⟩ := hR
    exact lv_istore hx hb hd hlv (by rw [← hlen]; exact h1) rfl (fun la1 h => k0 la1 rfl (LR_put1 (v := .int x) (la := la) hlen hcov h1 h))
  | astore_n k =>
    have hl : len = 1 := by simpa [il] using hl
    subst hl
    obtain ⟨x, r, rfl, h1, rfl⟩ := hSA_inv hs
    obtain ⟨hlen, lv, hlv, hcov⟩ := hR
    exact lv_astore_n hx hb hd rfl hlv (by rw [← hlen]; exact h1) rfl (fun la1 h => k0 la1 rfl (LR_put1 (v := .ref x) (la := la) hlen hcov h1 h))
  | astore k =>
    have hl : len = 2 := by simpa [il] using hl
    subst hl
    obtain ⟨x, r, rfl, h1, rfl⟩ := hSA_inv hs
    obtain ⟨hlen, lv, hlv, hcov⟩ := hR
    exact lv_astore hx hb hd hlv (by rw [← hlen]; exact h1) rfl (fun la1 h => k0 la1 rfl (LR_put1 (v := .ref x) (la := la) hlen hcov h1 h))
  | lstore_n k =>
    have hl : len = 1 := by simpa [il] using hl
    subst hl
    obtain ⟨x, r, rfl, h1, rfl⟩ := hSL_inv hs
    obtain ⟨hlen, lv, hlv, hcov⟩ := hR
    exact lv_lstore_n hx hb hd rfl hlv (by rw [← hlen]; exact h1) rfl (fun la1 h => k0 la1 rfl (LR_put2 (v := .long x) (la := la) hlen hcov h1 h))
  | lstore k =>
    have hl : len = 2 := by simpa [il] using hl
    subst hl
    obtain ⟨x, r, rfl, h1, rfl⟩ := hSL_inv hs
    obtain ⟨hlen, lv, hlv, hcov⟩ := hR
    exact lv_lstore hx hb hd hlv (by rw [← hlen]; exact h1) rfl (fun la1 h => k0 la1 rfl (LR_put2 (v := .long x) (la := la) hlen hcov h1 h))
  | iinc k n =>
    have hl : len = 3 := by simpa [il] using hl
    subst hl
    obtain ⟨x, h0, h1, rfl⟩ := hInc_inv hs
    obtain ⟨hlen, lv, hlv, hcov⟩ := hR
    obtain ⟨q, hq⟩ := List.getElem?_of_mem (hcov k (.int x) (g1_some h0 (by simp)) (by simp))
    exact lv_iinc hx hb hd hlv hq rfl (by rw [← hlen]; exact h1) rfl (fun la1 h => k0 la1 rfl (LR_put1 (v := .int (x + Int32.ofInt n)) (la := la) hlen hcov h1 h))
  | iconst n =>
    have hl : len = 1 := by simpa [il] using hl
    subst hl
    cases hs
    exact lv_iconst hx hb hd rfl (k0 la rfl hR)
  | bipush n =>
    have hl : len = 2 := by simpa [il] using hl
    subst hl
    cases hs
    exact lv_bipush hx hb hd rfl (k0 la rfl hR)
  | sipush n =>
    have hl : len = 3 := by simpa [il] using hl
    subst hl
    cases hs
    exact lv_sipush hx hb hd rfl (k0 la rfl hR)
  | lconst n =>
    have hl : len = 1 := by simpa [il] using hl
    subst hl
    cases hs
    exact lv_lconst hx hb hd rfl (k0 la rfl hR)
  | ldc_w i =>
    have hl : len = 3 := by simpa [il] using hl
    subst hl
    obtain ⟨v, h1, rfl⟩ := lkI_inv hs
    have h2 := cI_ok _ h1
    exact lv_ldcw hx hb hown (hts _ (List.mem_filter.mpr h2)) hd (k0 la rfl hR)
  | ldc2_w i =>
    have hl : len = 3 := by simpa [il] using hl
    subst hl
    obtain ⟨v, h1, rfl⟩ := lkL_inv hs
    have h2 := cL_ok _ h1
    exact lv_ldc2 hx hb hown (hts _ (List.mem_filter.mpr h2)) hd (k0 la rfl hR)
  | iadd =>
    have hl : len = 1 := by simpa [il] using hl
    subst hl
    obtain ⟨x, y, r, rfl, rfl⟩ := bI_inv hs
    exact lv_iadd hx hb hd (k0 la rfl hR)
  | isub =>
    have hl : len = 1 := by simpa [il] using hl
    subst hl
    obtain ⟨x, y, r, rfl, rfl⟩ := bI_inv hs
    exact lv_isub hx hb hd (k0 la rfl hR)
  | imul =>
    have hl : len = 1 := by simpa [il] using hl
    subst hl
    obtain ⟨x, y, r, rfl, rfl⟩ := bI_inv hs
    exact lv_imul hx hb hd (k0 la rfl hR)
  | iand =>
    have hl : len = 1 := by simpa [il] using hl
    subst hl
    obtain ⟨x, y, r, rfl, rfl⟩ := bI_inv hs
    exact lv_iand hx hb hd (k0 la rfl hR)
  | ior =>
    have hl : len = 1 := by simpa [il] using hl
    subst hl
    obtain ⟨x, y, r, rfl, rfl⟩ := bI_inv hs
    exact lv_ior hx hb hd (k0 la rfl hR)
  | ixor =>
    have hl : len = 1 := by simpa [il] using hl
    subst hl
    obtain ⟨x, y, r, rfl, rfl⟩ := bI_inv hs
    exact lv_ixor hx hb hd (k0 la rfl hR)
  | ishl =>
    have hl : len = 1 := by simpa [il] using hl
    subst hl
    obtain ⟨x, y, r, rfl, rfl⟩ := bI_inv hs
    exact lv_ishl hx hb hd (k0 la rfl hR)
  | ishr =>
    have hl : len = 1 := by simpa [il] using hl
    subst hl
    obtain ⟨x, y, r, rfl, rfl⟩ := bI_inv hs
    exact lv_ishr hx hb hd (k0 la rfl hR)
  | iushr =>
    have hl : len = 1 := by simpa [il] using hl
    subst hl
    obtain ⟨x, y, r, rfl, rfl⟩ := bI_inv hs
    exact lv_iushr hx hb hd rfl (k0 la rfl hR)
  | idiv =>
    have hl : len = 1 := by simpa [il] using hl
    subst hl
    obtain ⟨x, y, r, rfl, hy, rfl⟩ := dI_inv hs
    exact lv_idiv hx hb hd hy (k0 la rfl hR)
  | irem =>
    have hl : len = 1 := by simpa [il] using hl
    subst hl
    obtain ⟨x, y, r, rfl, hy, rfl⟩ := dI_inv hs
    exact lv_irem hx hb hd hy (k0 la rfl hR)
  | ladd =>
    have hl : len = 1 := by simpa [il] using hl
    subst hl
    obtain ⟨x, y, r, rfl, rfl⟩ := bL_inv hs
    exact lv_ladd hx hb hd (k0 la rfl hR)
  | lsub =>
    have hl : len = 1 := by simpa [il] using hl
    subst hl
    obtain ⟨x, y, r, rfl, rfl⟩ := bL_inv hs
    exact lv_lsub hx hb hd (k0 la rfl hR)
  | lmul =>
    have hl : len = 1 := by simpa [il] using hl
    subst hl
    obtain ⟨x, y, r, rfl, rfl⟩ := bL_inv hs
    exact lv_lmul hx hb hd (k0 la rfl hR)
  | ldiv =>
    have hl : len = 1 := by simpa [il] using hl
    subst hl
    obtain ⟨x, y, r, rfl, hy, rfl⟩ := dL_inv hs
    exact lv_ldiv hx hb hd hy (k0 la rfl hR)
  | lrem =>
    have hl : len = 1 := by simpa [il] using hl
    subst hl
    obtain ⟨x, y, r, rfl, hy, rfl⟩ := dL_inv hs
    exact lv_lrem hx hb hd hy (k0 la rfl hR)
  | lneg =>
    have hl : len = 1 := by simpa [il] using hl
    subst hl
    obtain ⟨x, r, rfl, rfl⟩ := hNeg_inv hs
    exact lv_lneg hx hb hd (k0 la rfl hR)
  | i2l =>
    have hl : len = 1 := by simpa [il] using hl
    subst hl
    obtain ⟨x, r, rfl, rfl⟩ := hI2L_inv hs
    exact lv_i2l hx hb hd rfl (k0 la rfl hR)
  | lcmp =>
    have hl : len = 1 := by simpa [il] using hl
    subst hl
    obtain ⟨x, y, r, rfl, rfl⟩ := hCmp_inv hs
    exact W.lcmp hx hb hd (k0 la rfl hR)
  | dup =>
    have hl : len = 1 := by simpa [il] using hl
    subst hl
    obtain ⟨v, r, rfl, hv, rfl⟩ := hDup_inv hs
    exact lv_dup hx hb hd (by rw [cv_cat]; exact hv) (k0 la rfl hR)
  | dup2 =>
    have hl : len = 1 := by simpa [il] using hl
    subst hl
    obtain ⟨y, x, r, rfl, rfl⟩ := hDup2_inv hs
    exact lv_dup2_11 hx hb hd rfl rfl (k0 la rfl hR)
  | goto off =>
    have hl : len = 3 := by simpa [il] using hl
    subst hl
    obtain ⟨ht, rfl⟩ := hGo_inv hs
    exact lv_goto hx hb hd ht (k0 la rfl hR)
  | ifCond cd off =>
    have hl : len = 3 := by simpa [il] using hl
    subst hl
    obtain ⟨x, r, rfl, ht, rfl⟩ := hIf_inv hs
    have k1 := k0 la rfl hR
    cases cd with
    | eq => exact lv_if_eq hx hb hd ht (fun h => by simpa [cmI, h] using k1) (fun h => by simpa [cmI, h] using k1)
    | ne => exact lv_if_ne hx hb hd ht (fun h => by simpa [cmI, h] using k1) (fun h => by simpa [cmI, h] using k1)
    | lt => exact lv_if_lt hx hb hd ht (fun h => by simpa [cmI, h] using k1) (fun h => by simpa [cmI, h] using k1)
    | ge => exact lv_if_ge hx hb hd ht (fun h => by simpa [cmI, h] using k1) (fun h => by simpa [cmI, h] using k1)
    | gt => exact lv_if_gt hx hb hd ht (fun h => by simpa [cmI, h] using k1) (fun h => by simpa [cmI, h] using k1)
    | le => exact lv_if_le hx hb hd ht (fun h => by simpa [cmI, h] using k1) (fun h => by simpa [cmI, h] using k1)
  | if_icmp cd off =>
    have hl : len = 3 := by simpa [il] using hl
    subst hl
    obtain ⟨x, y, r, rfl, ht, rfl⟩ := hIc_inv hs
    have k1 := k0 la rfl hR
    cases cd with
    | eq => exact lv_icmp_eq hx hb hd ht (fun h => by simpa [cmI, h] using k1) (fun h => by simpa [cmI, h] using k1)
    | ne => exact lv_icmp_ne hx hb hd ht (fun h => by simpa [cmI, h] using k1) (fun h => by simpa [cmI, h] using k1)
    | lt => exact lv_icmp_lt hx hb hd ht (fun h => by simpa [cmI, h] using k1) (fun h => by simpa [cmI, h] using k1)
    | ge => exact lv_icmp_ge hx hb hd ht (fun h => by simpa [cmI, h] using k1) (fun h => by simpa [cmI, h] using k1)
    | gt => exact lv_icmp_gt hx hb hd ht (fun h => by simpa [cmI, h] using k1) (fun h => by simpa [cmI, h] using k1)
    | le => exact lv_icmp_le hx hb hd ht (fun h => by simpa [cmI, h] using k1) (fun h => by simpa [cmI, h] using k1)
  | tableswitch d lo hi offs =>
    obtain ⟨x, r, rfl, ht, hz, hlh, rfl⟩ := hSw_inv hs
    have k1 := k0 la rfl hR
    by_cases h : x.toInt < lo ∨ hi < x.toInt
    · have e : swO d lo hi offs x = d := by rw [swO, if_pos h]
      rw [e] at ht k1
      exact lv_tableOut hx hb hd h ht k1
    · have h1 : ¬ x.toInt < lo := fun q => h (Or.inl q)
      have h2 : ¬ hi < x.toInt := fun q => h (Or.inr q)
      have hlt : (x.toInt - lo).toNat < offs.size := by omega
      have e : offs[(x.toInt - lo).toNat]? = some (swO d lo hi offs x) := by
        rw [swO, if_neg h, Array.getD_eq_getD_getElem?]
        simp [hlt]
      exact lv_tableIn hx hb hd h1 h2 e ht k1
  | getfield i =>
    have hl : len = 3 := by simpa [il] using hl
    subst hl
    obtain ⟨ci, j, k, r, hf, rfl, hk, rfl⟩ := hGet_inv hs
    obtain ⟨q, hq, hj, hc8, hw⟩ := fTb_ok _ hf
    dsimp only at hq hj hc8 hw
    have hklt : k < 147 := cK_lt hk (by omega)
    have hat := wl_at γ cy σ hklt
    rw [cE_ob hk hc8] at hat
    have hcN := cN_ob hk hc8 hq
    have k1 := k0 la rfl hR
    refine va_get (D := D) (cl := vwCl) (ref := (q.2.1 j).1) (C := q.1) (T := q.2.1) (N := q.2.2) (ci := ci) hx hb hts (hinA ci q hq) hown hK hP k hat hq j hj (hts _ hw) (fun _ h => h) (v := fv γ σ ci k j) ?_ hd ?_
    · rw [hcN]
      simp [hj]
    · rw [← aV_cv γ]
      exact k1
  | putfield i =>
    have hl : len = 3 := by simpa [il] using hl
    subst hl
    obtain ⟨ci, j, k, r, hf, hk, hcase⟩ := hPut_inv hs
    obtain ⟨q, hq, hj, hc8, hw⟩ := fTb_ok _ hf
    dsimp only at hq hj hc8 hw
    have hklt : k < 147 := cK_lt hk (by omega)
    have hat := wl_at γ cy σ hklt
    rw [cE_ob hk hc8] at hat
    have hcN := cN_ob hk hc8 hq
    obtain ⟨ty0, hty, hnm⟩ := ftA ci q hq
    obtain ⟨hI, hJ⟩ := fcA ci q hq j hj
    rcases hcase with ⟨x, rfl, hfc, rfl⟩ | ⟨x, rfl, hfc, rfl⟩
    · obtain ⟨e1, e2⟩ := hI hfc
      have hset : (wl γ cy σ).set k (γ k, .inr (ci, ((List.range (cN k)).map (fv γ σ ci k)).set j (.int x))) = wl γ cy (sI σ k j x) := by
        apply wl_set hklt _ (fun a h => cE_sI a h)
        rw [cE_ob hk hc8, ← (fv_sI (γ := γ) (σ := σ) (k := k) (v := x) hfc).1, map_set (by rw [hcN]; exact hj) (fv_sI hfc).2]
      refine va_put (D := D) (cl := vwCl) (ref := (q.2.1 j).1) (C := q.1) (T := q.2.1) (N := q.2.2) (ci := ci) (ty := .int) hx hb hts (hinA ci q hq) ty0 hty hnm hown hK hP hD hS k hat hq j hj (hts _ hw) (fun _ h => h) e2 (v := .int x) (by rw [e1]; decide +kernel) (vp_nar_int x) rfl (by simp; rw [hcN]; exact hj) hd (fun H1 locs1 h1 h2 h3 => ?_)
      rw [hset] at h1 h2
      exact kk H1 locs1 la h1 h2 h3 hR
    · obtain ⟨e1, e2⟩ := hJ hfc
      have hset : (wl γ cy σ).set k (γ k, .inr (ci, ((List.range (cN k)).map (fv γ σ ci k)).set j (.long x))) = wl γ cy (sL σ k j x) := by
        apply wl_set hklt _ (fun a h => cE_sL a h)
        rw [cE_ob hk hc8, ← (fv_sL (γ := γ) (σ := σ) (k := k) (v := x) hfc).1, map_set (by rw [hcN]; exact hj) (fv_sL hfc).2]
      refine va_put (D := D) (cl := vwCl) (ref := (q.2.1 j).1) (C := q.1) (T := q.2.1) (N := q.2.2) (ci := ci) (ty := .long) hx hb hts (hinA ci q hq) ty0 hty hnm hown hK hP hD hS k hat hq j hj (hts _ hw) (fun _ h => h) e2 (v := .long x) (by rw [e1]; decide +kernel) rfl rfl (by simp; rw [hcN]; exact hj) hd (fun H1 locs1 h1 h2 h3 => ?_)
      rw [hset] at h1 h2
      exact kk H1 locs1 la h1 h2 h3 hR
  | getstatic i =>
    have hl : len = 3 := by simpa [il] using hl
    subst hl
    obtain ⟨h1, h2, rfl⟩ := hGs_inv hs
    subst h2
    have hown2 : s.vm.findClass "NamesInRow" = some m.cls := by rw [h1] at hown; exact hown
    exact va_gets hx hb hZ hS hown2 (hts _ us_ok) (fun _ h => h) hd (k0 la rfl hR)
  | iaload =>
    have hl : len = 1 := by simpa [il] using hl
    subst hl
    obtain ⟨i, k, r, rfl, h⟩ := hIal_inv hs
    rcases h with ⟨rfl, hi, rfl⟩ | ⟨hk, hi, rfl⟩
    · exact va_sld hx hb hX hXl hXA hS hi hd (k0 la rfl hR)
    · have hklt : k < 147 := cK_lt hk (by omega)
      have hat := wl_at γ cy σ hklt
      rw [cE_10 hk] at hat
      exact va_iald hx hb hK hP k 0 hat rfl hi hd (k0 la rfl hR)
  | laload =>
    have hl : len = 1 := by simpa [il] using hl
    subst hl
    rcases hLal_inv hs with ⟨i, k, r, rfl, hi, rfl⟩ | ⟨i, k, r, rfl, hk, hi, rfl⟩
    · exact va_tl hx hb hT hS hi rfl hd (k0 la rfl hR)
    · have hklt : k < 147 := cK_lt hk (by omega)
      have hat := wl_at γ cy σ hklt
      rw [cE_11 hk] at hat
      exact va_lald hx hb hK hP k 1 hat rfl hi hd (k0 la rfl hR)
  | aaload =>
    have hl : len = 1 := by simpa [il] using hl
    subst hl
    obtain ⟨i, k, r, rfl, hk, hi, rfl⟩ := hAal_inv hs
    rcases hk with hk | hk
    · have hklt : k < 147 := cK_lt hk (by omega)
      have hat := hP k _ (wl_at γ cy σ hklt)
      rw [cE_12 hk] at hat
      exact wl_aald (t0 := 2) hx hb hK hat rfl rfl hi hd (k0 la rfl hR)
    · have hklt : k < 147 := cK_lt hk (by omega)
      have hat := hP k _ (wl_at γ cy σ hklt)
      rw [cE_13 hk] at hat
      exact wl_aald (t0 := 3) hx hb hK hat rfl rfl hi hd (k0 la rfl hR)
  | iastore =>
    have hl : len = 1 := by simpa [il] using hl
    subst hl
    obtain ⟨x, i, k, r, rfl, hk, hi, rfl⟩ := hIas_inv hs
    have hklt : k < 147 := cK_lt hk (by omega)
    have hat := wl_at γ cy σ hklt
    rw [cE_10 hk] at hat
    have hset : (wl γ cy σ).set k (γ k, .inl (cy 0, cN k, .inl (upd (σ.1 k) i.toNatClampNeg x))) = wl γ cy (sI σ k i.toNatClampNeg x) := by
      apply wl_set hklt _ (fun a h => cE_sI a h)
      rw [cE_10 hk, sI_upd]
    refine va_iast hx hb hK hP hD hS k 0 hat rfl hi hd (fun H1 locs1 h1 h2 h3 => ?_)
    rw [hset] at h1 h2
    exact kk H1 locs1 la h1 h2 h3 hR
  | lastore =>
    have hl : len = 1 := by simpa [il] using hl
    subst hl
    obtain ⟨x, i, k, r, rfl, hk, hi, rfl⟩ := hLas_inv hs
    have hklt : k < 147 := cK_lt hk (by omega)
    have hat := wl_at γ cy σ hklt
    rw [cE_11 hk] at hat
    have hset : (wl γ cy σ).set k (γ k, .inl (cy 1, cN k, .inr (.inl (vp_updL (σ.2 k) i.toNatClampNeg x)))) = wl γ cy (sL σ k i.toNatClampNeg x) := by
      apply wl_set hklt _ (fun a h => cE_sL a h)
      rw [cE_11 hk, sL_upd]
    refine va_last hx hb hK hP hD hS k 1 hat rfl hi hd (fun H1 locs1 h1 h2 h3 => ?_)
    rw [hset] at h1 h2
    exact kk H1 locs1 la h1 h2 h3 hR
  | arraylength =>
    have hl : len = 1 := by simpa [il] using hl
    subst hl
    obtain ⟨r, rfl, rfl⟩ := hLen_inv hs
    exact va_slen hx hb hX hXl hXA hS hd (k0 la rfl hR)
  | _ => exact absurd hs (by simp [stp])
end SIM
