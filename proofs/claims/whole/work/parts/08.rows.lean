/-! ===== the memory machine's equations, one kind of instruction each ===== -/
def b2 (c : Prop) [Decidable c] : Int32 := if c then nI 1 else nI 0
def zb (v : Int32) : Prop := v = nI 0 ∨ v = nI 1
section ROWS
variable {X : Nat × (Nat → Int32)} {M pc : Nat} {ls st : List Value} {σ : Mem} {Q : List Value → Mem → Prop}
theorem Rn_no {ins : Instr} {len : Nat} (hd : decode (mB M) pc = .ok (ins, len)) (hl : len = il ins ∨ il ins = 0) (hk : kd ins = 0) (hs : stp X (mC M) ins pc (pc + len) ls st σ = none) : ¬ Rn X M pc ls st σ Q := by
  rintro ⟨n, r, h, q⟩
  cases n with
  | zero => simp [ex] at h
  | succ n =>
    rw [ex, hd] at h
    dsimp only at h
    rw [if_pos hl, if_neg (by rw [hk]; decide), if_neg (by rw [hk]; decide), hs] at h
    cases h
theorem Rn_g {g : Prop} [Decidable g] {ins : Instr} {len p' : Nat} {ls' st' : List Value} {σ' : Mem} (hd : decode (mB M) pc = .ok (ins, len)) (hl : len = il ins ∨ il ins = 0) (hk : kd ins = 0) (hs : stp X (mC M) ins pc (pc + len) ls st σ = if g then some (p', ls', st', σ') else none) : Rn X M pc ls st σ Q ↔ g ∧ Rn X M p' ls' st' σ' Q := by
  by_cases h : g
  · rw [if_pos h] at hs
    rw [Rn_step hd hl hk hs]
    simp [h]
  · rw [if_neg h] at hs
    simp [h, Rn_no hd hl hk hs]
theorem Rn_iconst {n : Int} {v : Int32} (hd : decode (mB M) pc = .ok (.iconst n, 1)) (hv : Int32.ofInt n = v) : Rn X M pc ls st σ Q ↔ Rn X M (pc + 1) ls (.int v :: st) σ Q := by
  subst hv
  exact Rn_step hd (Or.inl rfl) rfl rfl
theorem Rn_bipush {n : Int} {v : Int32} (hd : decode (mB M) pc = .ok (.bipush n, 2)) (hv : (Int8.ofInt n).toInt32 = v) : Rn X M pc ls st σ Q ↔ Rn X M (pc + 2) ls (.int v :: st) σ Q := by
  subst hv
  exact Rn_step hd (Or.inl rfl) rfl rfl
theorem Rn_sipush {n : Int} {v : Int32} (hd : decode (mB M) pc = .ok (.sipush n, 3)) (hv : (Int16.ofInt n).toInt32 = v) : Rn X M pc ls st σ Q ↔ Rn X M (pc + 3) ls (.int v :: st) σ Q := by
  subst hv
  exact Rn_step hd (Or.inl rfl) rfl rfl
theorem Rn_lconst {n : Fin 2} {v : Int64} (hd : decode (mB M) pc = .ok (.lconst n, 1)) (hv : Int64.ofNat n = v) : Rn X M pc ls st σ Q ↔ Rn X M (pc + 1) ls (.long v :: st) σ Q := by
  subst hv
  exact Rn_step hd (Or.inl rfl) rfl rfl
theorem Rn_ldcw {i : Nat} {v : Int32} (hd : decode (mB M) pc = .ok (.ldc_w i, 3)) (hv : cIb.lookup (mC M, i) = some v) : Rn X M pc ls st σ Q ↔ Rn X M (pc + 3) ls (.int v :: st) σ Q := by
  refine Rn_step hd (Or.inl rfl) rfl ?_
  simp [stp, hv]
theorem Rn_ldc2 {i : Nat} {v : Int64} (hd : decode (mB M) pc = .ok (.ldc2_w i, 3)) (hv : cLb.lookup (mC M, i) = some v) : Rn X M pc ls st σ Q ↔ Rn X M (pc + 3) ls (.long v :: st) σ Q := by
  refine Rn_step hd (Or.inl rfl) rfl ?_
  simp [stp, hv]
theorem Rn_iinc {i : Nat} {n : Int} {x d : Int32} {ls' : List Value} (hd : decode (mB M) pc = .ok (.iinc i n, 3)) (hg : g1 ls i = .int x) (hi : i < ls.length) (hn : Int32.ofInt n = d) (hp : put1 ls i (.int (x + d)) = ls') : Rn X M pc ls st σ Q ↔ Rn X M (pc + 3) ls' st σ Q := by
  subst hn
  subst hp
  refine Rn_step hd (Or.inl rfl) rfl ?_
  simp [stp, hInc, hg, hi]
theorem Rn_goto {off : Int} {p : Nat} (hd : decode (mB M) pc = .ok (.goto off, 3)) (ht : (pc : Int) + off = (p : Int)) : Rn X M pc ls st σ Q ↔ Rn X M p ls st σ Q := by
  refine Rn_step hd (Or.inl rfl) rfl ?_
  simp [stp, hGo, tg, ht]
theorem Rn_ic {cd : Jvm.ClassFile.Cond} {off : Int} {p : Nat} {x y : Int32} (hd : decode (mB M) pc = .ok (.if_icmp cd off, 3)) (ht : (pc : Int) + off = (p : Int)) : Rn X M pc ls (.int y :: .int x :: st) σ Q ↔ if cmI cd x y = true then Rn X M p ls st σ Q else Rn X M (pc + 3) ls st σ Q := by
  refine Rn_br (c := cmI cd x y = true) hd (Or.inl rfl) rfl ?_
  simp [stp, hIc, tg, ht]
theorem Rn_if {cd : Jvm.ClassFile.Cond} {off : Int} {p : Nat} {x : Int32} (hd : decode (mB M) pc = .ok (.ifCond cd off, 3)) (ht : (pc : Int) + off = (p : Int)) : Rn X M pc ls (.int x :: st) σ Q ↔ if cmI cd x 0 = true then Rn X M p ls st σ Q else Rn X M (pc + 3) ls st σ Q := by
  refine Rn_br (c := cmI cd x 0 = true) hd (Or.inl rfl) rfl ?_
  simp [stp, hIf, tg, ht]
variable {off : Int} {p : Nat} {x y : Int32}
theorem Rn_icEq (hd : decode (mB M) pc = .ok (.if_icmp .eq off, 3)) (ht : (pc : Int) + off = (p : Int)) : Rn X M pc ls (.int y :: .int x :: st) σ Q ↔ if x = y then Rn X M p ls st σ Q else Rn X M (pc + 3) ls st σ Q := by
  rw [Rn_ic hd ht]; simp [cmI]
theorem Rn_icNe (hd : decode (mB M) pc = .ok (.if_icmp .ne off, 3)) (ht : (pc : Int) + off = (p : Int)) : Rn X M pc ls (.int y :: .int x :: st) σ Q ↔ if x = y then Rn X M (pc + 3) ls st σ Q else Rn X M p ls st σ Q := by
  rw [Rn_ic hd ht]
  by_cases h : x = y <;> simp [cmI, h]
theorem Rn_icLt (hd : decode (mB M) pc = .ok (.if_icmp .lt off, 3)) (ht : (pc : Int) + off = (p : Int)) : Rn X M pc ls (.int y :: .int x :: st) σ Q ↔ if x < y then Rn X M p ls st σ Q else Rn X M (pc + 3) ls st σ Q := by
  rw [Rn_ic hd ht]; simp [cmI]
theorem Rn_icGe (hd : decode (mB M) pc = .ok (.if_icmp .ge off, 3)) (ht : (pc : Int) + off = (p : Int)) : Rn X M pc ls (.int y :: .int x :: st) σ Q ↔ if y ≤ x then Rn X M p ls st σ Q else Rn X M (pc + 3) ls st σ Q := by
  rw [Rn_ic hd ht]; simp [cmI]
theorem Rn_icGt (hd : decode (mB M) pc = .ok (.if_icmp .gt off, 3)) (ht : (pc : Int) + off = (p : Int)) : Rn X M pc ls (.int y :: .int x :: st) σ Q ↔ if y < x then Rn X M p ls st σ Q else Rn X M (pc + 3) ls st σ Q := by
  rw [Rn_ic hd ht]; simp [cmI]
theorem Rn_icLe (hd : decode (mB M) pc = .ok (.if_icmp .le off, 3)) (ht : (pc : Int) + off = (p : Int)) : Rn X M pc ls (.int y :: .int x :: st) σ Q ↔ if x ≤ y then Rn X M p ls st σ Q else Rn X M (pc + 3) ls st σ Q := by
  rw [Rn_ic hd ht]; simp [cmI]
theorem Rn_ifEq (hd : decode (mB M) pc = .ok (.ifCond .eq off, 3)) (ht : (pc : Int) + off = (p : Int)) : Rn X M pc ls (.int x :: st) σ Q ↔ if x = nI 0 then Rn X M p ls st σ Q else Rn X M (pc + 3) ls st σ Q := by
  rw [Rn_if hd ht]; simp [cmI, nI_0]
theorem Rn_ifNe (hd : decode (mB M) pc = .ok (.ifCond .ne off, 3)) (ht : (pc : Int) + off = (p : Int)) : Rn X M pc ls (.int x :: st) σ Q ↔ if x = nI 0 then Rn X M (pc + 3) ls st σ Q else Rn X M p ls st σ Q := by
  rw [Rn_if hd ht]
  by_cases h : x = nI 0
  · rw [if_pos h]
    rw [nI_0] at h
    simp [cmI, h]
  · rw [if_neg h]
    rw [nI_0] at h
    simp [cmI, h]
theorem Rn_ifLt (hd : decode (mB M) pc = .ok (.ifCond .lt off, 3)) (ht : (pc : Int) + off = (p : Int)) : Rn X M pc ls (.int x :: st) σ Q ↔ if x < nI 0 then Rn X M p ls st σ Q else Rn X M (pc + 3) ls st σ Q := by
  rw [Rn_if hd ht]; simp [cmI, nI_0]
theorem Rn_ifGe (hd : decode (mB M) pc = .ok (.ifCond .ge off, 3)) (ht : (pc : Int) + off = (p : Int)) : Rn X M pc ls (.int x :: st) σ Q ↔ if nI 0 ≤ x then Rn X M p ls st σ Q else Rn X M (pc + 3) ls st σ Q := by
  rw [Rn_if hd ht]; simp [cmI, nI_0]
theorem Rn_ifGt (hd : decode (mB M) pc = .ok (.ifCond .gt off, 3)) (ht : (pc : Int) + off = (p : Int)) : Rn X M pc ls (.int x :: st) σ Q ↔ if nI 0 < x then Rn X M p ls st σ Q else Rn X M (pc + 3) ls st σ Q := by
  rw [Rn_if hd ht]; simp [cmI, nI_0]
theorem Rn_ifLe (hd : decode (mB M) pc = .ok (.ifCond .le off, 3)) (ht : (pc : Int) + off = (p : Int)) : Rn X M pc ls (.int x :: st) σ Q ↔ if x ≤ nI 0 then Rn X M p ls st σ Q else Rn X M (pc + 3) ls st σ Q := by
  rw [Rn_if hd ht]; simp [cmI, nI_0]
theorem Rn_sw {d lo hi : Int} {offs : Array Int} {len : Nat} (hd : decode (mB M) pc = .ok (.tableswitch d lo hi offs, len)) (h1 : (hi - lo).toNat < offs.size ∧ lo ≤ hi) (ht : (pc : Int) + swO d lo hi offs x = (p : Int)) : Rn X M pc ls (.int x :: st) σ Q ↔ Rn X M p ls st σ Q := by
  refine Rn_step hd (Or.inr rfl) rfl ?_
  simp only [stp, hSw, tg]
  rw [ht, if_pos ⟨Int.natCast_nonneg p, h1⟩]
  rfl
variable {ci j i k : Nat}
theorem Rn_getI (hd : decode (mB M) pc = .ok (.getfield i, 3)) (hf : fTb.lookup (mC M, i) = some (ci, j)) (ht : fC ci j = 0) : Rn X M pc ls (.ref k :: st) σ Q ↔ cK k = ci ∧ Rn X M (pc + 3) ls (.int (σ.1 k j) :: st) σ Q := by
  refine Rn_g hd (Or.inl rfl) rfl ?_
  simp [stp, hGet, hf, ht]
theorem Rn_getL (hd : decode (mB M) pc = .ok (.getfield i, 3)) (hf : fTb.lookup (mC M, i) = some (ci, j)) (ht : fC ci j = 1) : Rn X M pc ls (.ref k :: st) σ Q ↔ cK k = ci ∧ Rn X M (pc + 3) ls (.long (σ.2 k j) :: st) σ Q := by
  refine Rn_g hd (Or.inl rfl) rfl ?_
  simp [stp, hGet, hf, ht]
theorem Rn_getR {n : Nat} (hd : decode (mB M) pc = .ok (.getfield i, 3)) (hf : fTb.lookup (mC M, i) = some (ci, j)) (ht : fC ci j = n + 2) : Rn X M pc ls (.ref k :: st) σ Q ↔ cK k = ci ∧ Rn X M (pc + 3) ls (.ref (k + n) :: st) σ Q := by
  refine Rn_g hd (Or.inl rfl) rfl ?_
  simp [stp, hGet, hf, ht]
theorem Rn_putI {v : Int32} (hd : decode (mB M) pc = .ok (.putfield i, 3)) (hf : fTb.lookup (mC M, i) = some (ci, j)) (ht : fC ci j = 0) : Rn X M pc ls (.int v :: .ref k :: st) σ Q ↔ cK k = ci ∧ Rn X M (pc + 3) ls st (sI σ k j v) Q := by
  refine Rn_g hd (Or.inl rfl) rfl ?_
  simp [stp, hPut, hf, ht]
theorem Rn_putL {v : Int64} (hd : decode (mB M) pc = .ok (.putfield i, 3)) (hf : fTb.lookup (mC M, i) = some (ci, j)) (ht : fC ci j = 1) : Rn X M pc ls (.long v :: .ref k :: st) σ Q ↔ cK k = ci ∧ Rn X M (pc + 3) ls st (sL σ k j v) Q := by
  refine Rn_g hd (Or.inl rfl) rfl ?_
  simp [stp, hPut, hf, ht]
theorem Rn_gs (hd : decode (mB M) pc = .ok (.getstatic 163, 3)) (hc : mC M = 6) : Rn X M pc ls st σ Q ↔ Rn X M (pc + 3) ls (.retAddr 0 :: st) σ Q := by
  refine Rn_step hd (Or.inl rfl) rfl ?_
  simp [stp, hGs, hc]
theorem Rn_iald (hd : decode (mB M) pc = .ok (.iaload, 1)) (hc : mC M ≠ 8) : Rn X M pc ls (.int x :: .ref k :: st) σ Q ↔ (cK k = 10 ∧ vp_in x (cN k)) ∧ Rn X M (pc + 1) ls (.int (σ.1 k x.toNatClampNeg) :: st) σ Q := by
  refine Rn_g (g := cK k = 10 ∧ ¬ (x < 0 ∨ cN k ≤ x.toNatClampNeg)) hd (Or.inl rfl) rfl ?_
  simp only [stp, hIal]
  rw [if_neg hc]
theorem Rn_sld (hd : decode (mB M) pc = .ok (.iaload, 1)) (hc : mC M = 8) : Rn X M pc ls (.int x :: .ref k :: st) σ Q ↔ (k = cSC ∧ vp_in x X.1) ∧ Rn X M (pc + 1) ls (.int (X.2 x.toNatClampNeg) :: st) σ Q := by
  refine Rn_g (g := k = cSC ∧ ¬ (x < 0 ∨ X.1 ≤ x.toNatClampNeg)) hd (Or.inl rfl) rfl ?_
  simp only [stp, hIal]
  rw [if_pos hc]
theorem Rn_uld {u : Nat} (hd : decode (mB M) pc = .ok (.laload, 1)) : Rn X M pc ls (.int x :: .retAddr u :: st) σ Q ↔ vp_in x 5 ∧ Rn X M (pc + 1) ls (.long (uV x.toNatClampNeg) :: st) σ Q := Rn_g (g := ¬ (x < 0 ∨ 5 ≤ x.toNatClampNeg)) hd (Or.inl rfl) rfl rfl
theorem Rn_lald (hd : decode (mB M) pc = .ok (.laload, 1)) : Rn X M pc ls (.int x :: .ref k :: st) σ Q ↔ (cK k = 11 ∧ vp_in x (cN k)) ∧ Rn X M (pc + 1) ls (.long (σ.2 k x.toNatClampNeg) :: st) σ Q := Rn_g (g := cK k = 11 ∧ ¬ (x < 0 ∨ cN k ≤ x.toNatClampNeg)) hd (Or.inl rfl) rfl rfl
theorem Rn_aald (hd : decode (mB M) pc = .ok (.aaload, 1)) : Rn X M pc ls (.int x :: .ref k :: st) σ Q ↔ ((cK k = 12 ∨ cK k = 13) ∧ vp_in x (cN k)) ∧ Rn X M (pc + 1) ls (.ref (rA k x.toNatClampNeg) :: st) σ Q := Rn_g (g := (cK k = 12 ∨ cK k = 13) ∧ ¬ (x < 0 ∨ cN k ≤ x.toNatClampNeg)) hd (Or.inl rfl) rfl rfl
theorem Rn_iast {v : Int32} (hd : decode (mB M) pc = .ok (.iastore, 1)) : Rn X M pc ls (.int v :: .int x :: .ref k :: st) σ Q ↔ (cK k = 10 ∧ vp_in x (cN k)) ∧ Rn X M (pc + 1) ls st (sI σ k x.toNatClampNeg v) Q := Rn_g (g := cK k = 10 ∧ ¬ (x < 0 ∨ cN k ≤ x.toNatClampNeg)) hd (Or.inl rfl) rfl rfl
theorem Rn_last {v : Int64} (hd : decode (mB M) pc = .ok (.lastore, 1)) : Rn X M pc ls (.long v :: .int x :: .ref k :: st) σ Q ↔ (cK k = 11 ∧ vp_in x (cN k)) ∧ Rn X M (pc + 1) ls st (sL σ k x.toNatClampNeg v) Q := Rn_g (g := cK k = 11 ∧ ¬ (x < 0 ∨ cN k ≤ x.toNatClampNeg)) hd (Or.inl rfl) rfl rfl
theorem Rn_len (hd : decode (mB M) pc = .ok (.arraylength, 1)) : Rn X M pc ls (.ref k :: st) σ Q ↔ k = cSC ∧ Rn X M (pc + 1) ls (.int (nI X.1) :: st) σ Q := Rn_g (g := k = cSC) hd (Or.inl rfl) rfl rfl
theorem Rn_idiv (hd : decode (mB M) pc = .ok (.idiv, 1)) : Rn X M pc ls (.int y :: .int x :: st) σ Q ↔ ¬ y = nI 0 ∧ Rn X M (pc + 1) ls (.int (x / y) :: st) σ Q := by
  refine Rn_g hd (Or.inl rfl) rfl ?_
  by_cases h : y = 0
  · simp [stp, dI, h, nI_0]
  · simp [stp, dI, h, nI_0]
theorem Rn_irem (hd : decode (mB M) pc = .ok (.irem, 1)) : Rn X M pc ls (.int y :: .int x :: st) σ Q ↔ ¬ y = nI 0 ∧ Rn X M (pc + 1) ls (.int (x - x / y * y) :: st) σ Q := by
  refine Rn_g hd (Or.inl rfl) rfl ?_
  by_cases h : y = 0
  · simp [stp, dI, h, nI_0]
  · simp [stp, dI, h, nI_0]
theorem Rn_ldiv {x y : Int64} (hd : decode (mB M) pc = .ok (.ldiv, 1)) : Rn X M pc ls (.long y :: .long x :: st) σ Q ↔ ¬ y = 0 ∧ Rn X M (pc + 1) ls (.long (x / y) :: st) σ Q := by
  refine Rn_g hd (Or.inl rfl) rfl ?_
  by_cases h : y = 0
  · simp [stp, dL, h]
  · simp [stp, dL, h]
theorem Rn_lrem {x y : Int64} (hd : decode (mB M) pc = .ok (.lrem, 1)) : Rn X M pc ls (.long y :: .long x :: st) σ Q ↔ ¬ y = 0 ∧ Rn X M (pc + 1) ls (.long (x - x / y * y) :: st) σ Q := by
  refine Rn_g hd (Or.inl rfl) rfl ?_
  by_cases h : y = 0
  · simp [stp, dL, h]
  · simp [stp, dL, h]
theorem Rn_nret {ins : Instr} {len : Nat} (hd : decode (mB M) pc = .ok (ins, len)) (hl : len = il ins ∨ il ins = 0) (hk : kd ins = 1) (hs : okR ins (mR M) st = false) : ¬ Rn X M pc ls st σ Q := by
  rintro ⟨n, r, h, q⟩
  cases n with
  | zero => simp [ex] at h
  | succ n =>
    rw [ex, hd] at h
    dsimp only at h
    rw [if_pos hl, if_pos hk, hs] at h
    cases h
theorem Rn_iret {v : Int32} (hd : decode (mB M) pc = .ok (.ireturn, 1)) (hr : mR M = some .int) : Rn X M pc ls [.int v] σ Q ↔ Q [.int v] σ := Rn_ret hd (Or.inl rfl) rfl (by rw [hr]; rfl)
theorem Rn_zret {v : Int32} (hd : decode (mB M) pc = .ok (.ireturn, 1)) (hr : mR M = some .boolean) : Rn X M pc ls [.int v] σ Q ↔ zb v ∧ Q [.int v] σ := by
  by_cases h : zb v
  · rw [Rn_ret hd (Or.inl rfl) rfl (by
      rw [hr]
      rcases h with h | h <;> subst h <;> decide)]
    simp [h]
  · have h2 : okR .ireturn (mR M) [.int v] = false := by
      rw [hr]
      simp only [okR]
      simp only [zb, not_or] at h
      have h0 : ¬ v = 0 := by rw [← nI_0]; exact h.1
      have h1 : ¬ v = 1 := h.2
      simp [h0, h1]
    simp [h, Rn_nret hd (Or.inl rfl) rfl h2]
theorem Rn_lret {v : Int64} (hd : decode (mB M) pc = .ok (.lreturn, 1)) (hr : mR M = some .long) : Rn X M pc ls [.long v] σ Q ↔ Q [.long v] σ := Rn_ret hd (Or.inl rfl) rfl (by rw [hr]; rfl)
theorem Rn_aret {C : String} (hd : decode (mB M) pc = .ok (.areturn, 1)) (hr : mR M = some (.object C)) : Rn X M pc ls [.ref k] σ Q ↔ Q [.ref k] σ := Rn_ret hd (Or.inl rfl) rfl (by rw [hr]; rfl)
theorem Rn_vret (hd : decode (mB M) pc = .ok (.return_, 1)) (hr : mR M = none) : Rn X M pc ls [] σ Q ↔ Q [] σ := Rn_ret hd (Or.inl rfl) rfl (by rw [hr]; rfl)
/-- what a call site fixes: the callee, its parameters and locals, room -/
def csk (M i k n L : Nat) (sta : Bool) (cn : Nat) : Bool := (match mTb.lookup (mC M, i) with
  | some (k', _) => k' == k
  | none => false) && (mS k == sta) && (mN k == n) && (mL k == L) && (mC k == cn) && decide (mF k + 1 ≤ mF M) && decide (8 + (mL k + 11) + mQ k ≤ mQ M)
theorem Rn_cs {n L cn : Nat} {vs r E : List Value} (hd : decode (mB M) pc = .ok (.invokestatic i, 3)) (hc : csk M i k n L true cn = true) (hn : n ≤ st.length) (hv : (st.take n).reverse = vs) (hr : st.drop n = r) (hdep : dep r ≤ 8) (hs : (spr vs).length ≤ L) (he : ent L vs = E) : Rn X M pc ls st σ Q ↔ Rn X k 0 E [] σ (fun v σ' => Rn X M (pc + 3) ls (v ++ r) σ' Q) := by
  simp only [csk, Bool.and_eq_true, beq_iff_eq, decide_eq_true_eq] at hc
  obtain ⟨⟨⟨⟨⟨⟨h1, h2⟩, h3⟩, h4⟩, h5⟩, h6⟩, h7⟩ := hc
  subst hv; subst hr; subst he; subst h3; subst h4
  refine Rn_call hd (Or.inl rfl) rfl ?_
  simp only [cal]
  split at h1
  · next k2 nb hlk =>
    have e : k2 = k := by simpa using h1
    subst e
    rw [hlk]
    dsimp only
    have hokc : okC M k2 (st.take (mN k2)).reverse (st.drop (mN k2)) = true := by
      simp only [okC, Bool.and_eq_true, decide_eq_true_eq]
      exact ⟨⟨⟨hdep, hs⟩, h6⟩, h7⟩
    rw [if_pos ⟨h2, hn, hokc⟩]
  · cases h1
theorem Rn_cv {n L b cn : Nat} {vs r E : List Value} (hd : decode (mB M) pc = .ok (.invokevirtual i, 3)) (hc : csk M i k n L false cn = true) (hv : (st.take n).reverse = vs) (hr : st.drop n = .ref b :: r) (hdep : dep r ≤ 8) (hs : (spr (.ref b :: vs)).length ≤ L) (he : ent L (.ref b :: vs) = E) : Rn X M pc ls st σ Q ↔ cK b = cn ∧ Rn X k 0 E [] σ (fun v σ' => Rn X M (pc + 3) ls (v ++ r) σ' Q) := by
  simp only [csk, Bool.and_eq_true, beq_iff_eq, decide_eq_true_eq] at hc
  obtain ⟨⟨⟨⟨⟨⟨h1, h2⟩, h3⟩, h4⟩, h5⟩, h6⟩, h7⟩ := hc
  subst hv; subst he; subst h3; subst h4; subst h5
  split at h1
  · next k2 nb hlk =>
    have e : k2 = k := by simpa using h1
    subst e
    have hokc : okC M k2 (.ref b :: (st.take (mN k2)).reverse) r = true := by
      simp only [okC, Bool.and_eq_true, decide_eq_true_eq]
      exact ⟨⟨⟨hdep, hs⟩, h6⟩, h7⟩
    by_cases hb : cK b = mC k2
    · have hcal : cal M (.invokevirtual i) st = some (k2, .ref b :: (st.take (mN k2)).reverse, r) := by
        simp only [cal]
        rw [hlk]
        dsimp only
        rw [hr]
        dsimp only
        rw [if_pos ⟨h2, hb, hokc⟩]
      rw [Rn_call hd (Or.inl rfl) rfl hcal]
      simp [hb]
    · have hcal : cal M (.invokevirtual i) st = none := by
        simp only [cal]
        rw [hlk]
        dsimp only
        rw [hr]
        dsimp only
        rw [if_neg (fun q => hb q.2.1)]
      simp only [hb, false_and, iff_false]
      rintro ⟨n, w, h, q⟩
      cases n with
      | zero => simp [ex] at h
      | succ n =>
        rw [ex, hd] at h
        dsimp only at h
        rw [if_pos (show (3 = il (Instr.invokevirtual i) ∨ il (Instr.invokevirtual i) = 0) from Or.inl rfl), if_neg (show ¬ kd (Instr.invokevirtual i) = 1 by simp [kd]), if_pos (show kd (Instr.invokevirtual i) = 2 from rfl), hcal] at h
        cases h
  · cases h1
end ROWS
