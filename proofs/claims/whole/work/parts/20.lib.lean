/-! ===== numbers ===== -/
theorem iLe {a b : Nat} (ha : a < 2147483648) (hb : b < 2147483648) : nI a ≤ nI b ↔ a ≤ b := nI_leI ha hb
theorem iLt {a b : Nat} (ha : a < 2147483648) (hb : b < 2147483648) : nI a < nI b ↔ a < b := nI_ltI ha hb
theorem iEq {a b : Nat} (ha : a < 2147483648) (hb : b < 2147483648) : nI a = nI b ↔ a = b := nI_eq ha hb
theorem iSub {a b : Nat} (h : b ≤ a) : nI a - nI b = nI (a - b) := pk_sub h
theorem iClamp {a : Nat} (h : a < 2147483648) : (nI a).toNatClampNeg = a := nI_clamp h
theorem vinN {a n : Nat} (h : a < 2147483648) : vp_in (nI a) n ↔ a < n := by
  rw [vp_in, iClamp h]
  have h0 : ¬ nI a < 0 := nI_pos h
  simp [h0]
theorem vinT {a n : Nat} (h : a < n) (hn : n < 2147483648) : vp_in (nI a) n := (vinN (by omega)).mpr h
theorem zb0 : zb (nI 0) := Or.inl rfl
theorem zb1 : zb (nI 1) := Or.inr rfl
theorem zb_b2 (c : Prop) [Decidable c] : zb (b2 c) := by
  unfold b2
  by_cases h : c
  · rw [if_pos h]; exact zb1
  · rw [if_neg h]; exact zb0
theorem b2_0 (c : Prop) [Decidable c] : b2 c = nI 0 ↔ ¬ c := by
  unfold b2
  by_cases h : c
  · simp [h]; decide
  · simp [h]
theorem b2_t {c : Prop} [Decidable c] (h : c) : b2 c = nI 1 := if_pos h
theorem b2_f {c : Prop} [Decidable c] (h : ¬ c) : b2 c = nI 0 := if_neg h
theorem b2_c {c d : Prop} [Decidable c] [Decidable d] (h : c ↔ d) : b2 c = b2 d := by
  unfold b2
  by_cases hc : c
  · rw [if_pos hc, if_pos (h.mp hc)]
  · rw [if_neg hc, if_neg (fun q => hc (h.mpr q))]
theorem clr_i (x : Int32) : clr (.int x) = .int x := rfl
theorem clr_l (x : Int64) : clr (.long x) = .null := rfl
theorem clr_r (x : Nat) : clr (.ref x) = .ref x := rfl
theorem clr_n : clr .null = .null := rfl
theorem iAdd (a b : Nat) : nI a + nI b = nI (a + b) := nI_add a b
theorem iMul (a b : Nat) : nI a * nI b = nI (a * b) := pk_mul a b
/-! ===== which cell is what ===== -/
theorem pk_a : ∀ k, k < 147 → cK k = 2 → (cK (k + 1) = 10 ∧ cN (k + 1) = 4 ∧ cK (k + 2) = 10 ∧ cN (k + 2) = 4 ∧ cK (k + 3) = 13 ∧ cN (k + 3) = 4) := by decide +kernel
theorem pk_b : ∀ k, k < 147 → cK k = 2 → (cK (k + 8) = 10 ∧ cN (k + 8) = 7 ∧ cK (k + 9) = 5 ∧ cK (k + 11) = 11 ∧ cN (k + 11) = 7 ∧ 31 ≤ k ∧ k < 127) := by decide +kernel
theorem pk_c : ∀ k, k < 147 → cK k = 2 → ∀ t, t < 4 → (cK (k + 4 + t) = 10 ∧ cN (k + 4 + t) = 7 ∧ rA (k + 3) t = k + 4 + t) := by decide +kernel
theorem rk_all : ∀ k, k < 147 → cK k = 5 → (cK (k + 1) = 10 ∧ cN (k + 1) = 7) := by decide +kernel
theorem F2 {k : Nat} (h : cK k = 2) : (cK (k + 1) = 10 ∧ cN (k + 1) = 4 ∧ cK (k + 2) = 10 ∧ cN (k + 2) = 4 ∧ cK (k + 3) = 13 ∧ cN (k + 3) = 4) ∧ (cK (k + 8) = 10 ∧ cN (k + 8) = 7 ∧ cK (k + 9) = 5 ∧ cK (k + 11) = 11 ∧ cN (k + 11) = 7 ∧ 31 ≤ k ∧ k < 127) ∧ ∀ t, t < 4 → (cK (k + 4 + t) = 10 ∧ cN (k + 4 + t) = 7 ∧ rA (k + 3) t = k + 4 + t) := ⟨pk_a k (cK_lt h (by omega)) h, pk_b k (cK_lt h (by omega)) h, pk_c k (cK_lt h (by omega)) h⟩
theorem F5 {k : Nat} (h : cK k = 5) : cK (k + 1) = 10 ∧ cN (k + 1) = 7 := rk_all k (cK_lt h (by omega)) h
def sm (f : Nat → Nat) : Nat → Nat
  | 0 => 0
  | n + 1 => sm f n + f n
def smF (f : Nat → Nat) (i : Nat) : Nat → Nat
  | 0 => 0
  | n + 1 => f i + smF f (i + 1) n
theorem sI_at (σ : Mem) (k j : Nat) (v : Int32) : (sI σ k j v).1 k j = v := by simp [sI]
theorem sI_off {σ : Mem} {k j a b : Nat} {v : Int32} (h : a ≠ k ∨ b ≠ j) : (sI σ k j v).1 a b = σ.1 a b := by
  simp only [sI]
  rw [if_neg (by omega)]
theorem sI_snd (σ : Mem) (k j : Nat) (v : Int32) : (sI σ k j v).2 = σ.2 := rfl
theorem sL_at (σ : Mem) (k j : Nat) (v : Int64) : (sL σ k j v).2 k j = v := by simp [sL]
theorem sL_off {σ : Mem} {k j a b : Nat} {v : Int64} (h : a ≠ k ∨ b ≠ j) : (sL σ k j v).2 a b = σ.2 a b := by
  simp only [sL]
  rw [if_neg (by omega)]
theorem sL_fst (σ : Mem) (k j : Nat) (v : Int64) : (sL σ k j v).1 = σ.1 := rfl
/-- outside these cells nothing has changed -/
def Off (S : List Nat) (σ σ' : Mem) : Prop := ∀ a, a ∉ S → σ'.1 a = σ.1 a ∧ σ'.2 a = σ.2 a
theorem Off.rf (S : List Nat) (σ : Mem) : Off S σ σ := fun _ _ => ⟨rfl, rfl⟩
theorem Off.tr {S : List Nat} {σ σ1 σ2 : Mem} (h1 : Off S σ σ1) (h2 : Off S σ1 σ2) : Off S σ σ2 := fun a h => ⟨(h2 a h).1.trans (h1 a h).1, (h2 a h).2.trans (h1 a h).2⟩
theorem Off.mono {S T : List Nat} {σ σ' : Mem} (h : Off S σ σ') (hs : ∀ a, a ∈ S → a ∈ T) : Off T σ σ' := fun a ha => h a (fun q => ha (hs a q))
theorem Off.sI {S : List Nat} {σ σ' : Mem} (h : Off S σ σ') {k : Nat} (hk : k ∈ S) (j : Nat) (v : Int32) : Off S σ (sI σ' k j v) := fun a ha => by
  have e : a ≠ k := fun q => ha (q ▸ hk)
  exact ⟨by rw [sI_ne e]; exact (h a ha).1, (h a ha).2⟩
theorem Off.sL {S : List Nat} {σ σ' : Mem} (h : Off S σ σ') {k : Nat} (hk : k ∈ S) (j : Nat) (v : Int64) : Off S σ (sL σ' k j v) := fun a ha => by
  have e : a ≠ k := fun q => ha (q ▸ hk)
  exact ⟨(h a ha).1, by rw [sL_ne e]; exact (h a ha).2⟩
/-- a method's answer and memory -/
def Ev (X : Nat × (Nat → Int32)) (M : Nat) (ls : List Value) (σ : Mem) (r : List Value) (σ' : Mem) : Prop := ∀ Q : List Value → Mem → Prop, Rn X M 0 ls [] σ Q ↔ Q r σ'
theorem gD_l {l m : List Nat} {j d : Nat} (h : j < l.length) : (l ++ m).getD j d = l.getD j d := by
  rw [List.getD_eq_getElem?_getD, List.getD_eq_getElem?_getD, List.getElem?_append_left h]
theorem gD_r {l m : List Nat} {j d : Nat} (h : l.length ≤ j) : (l ++ m).getD j d = m.getD (j - l.length) d := by
  rw [List.getD_eq_getElem?_getD, List.getD_eq_getElem?_getD, List.getElem?_append_right h]
theorem lc_eq (x y : Int64) : lg_cmp x y = nI 0 ↔ x = y := by
  unfold lg_cmp
  by_cases h1 : y < x
  · have : ¬ x = y := fun e => by subst e; exact absurd h1 (Int64.lt_irrefl)
    simp [h1, this]; decide
  · by_cases h2 : x = y
    · simp [h1, h2]; decide
    · simp [h1, h2]; decide
theorem lc_ge (x y : Int64) : nI 0 ≤ lg_cmp x y ↔ ¬ x < y := by
  unfold lg_cmp
  by_cases h1 : y < x
  · have : ¬ x < y := Int64.not_lt.mpr (Int64.le_of_lt h1)
    simp [h1, this]; decide
  · by_cases h2 : x = y
    · subst h2
      simp [h1]; decide
    · have : x < y := Int64.lt_of_le_of_ne (Int64.not_lt.mp h1) h2
      simp [h1, h2, this]; decide
theorem lc_lt (x y : Int64) : lg_cmp x y < nI 0 ↔ x < y := by
  have h := lc_ge x y
  rw [← Int32.not_lt] at h
  exact ⟨fun a => Decidable.byContradiction fun b => (h.mpr b) a, fun a => Decidable.byContradiction fun b => (h.mp b) a⟩
theorem lc_le (x y : Int64) : lg_cmp x y ≤ nI 0 ↔ ¬ y < x := by
  unfold lg_cmp
  by_cases h1 : y < x
  · simp [h1]; decide
  · by_cases h2 : x = y
    · simp [h1, h2]; decide
    · simp [h1, h2]; decide
theorem lc_gt (x y : Int64) : nI 0 < lg_cmp x y ↔ y < x := by
  have h := lc_le x y
  rw [← Int32.not_lt] at h
  exact ⟨fun a => Decidable.byContradiction fun b => (h.mpr b) a, fun a => Decidable.byContradiction fun b => (h.mp b) a⟩
