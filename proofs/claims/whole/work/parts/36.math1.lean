/-! ===== sums over a row ===== -/
theorem smF_congr {f g : Nat → Nat} : ∀ n i, (∀ j, i ≤ j → j < i + n → f j = g j) → smF f i n = smF g i n
  | 0, i, _ => rfl
  | n + 1, i, h => by
    rw [smF, smF, h i (by omega) (by omega), smF_congr n (i + 1) (fun j a b => h j (by omega) (by omega))]
theorem smF_add (f g : Nat → Nat) : ∀ n i, smF (fun j => f j + g j) i n = smF f i n + smF g i n
  | 0, i => rfl
  | n + 1, i => by
    rw [smF, smF, smF, smF_add f g n (i + 1)]
    omega
theorem smF_zero : ∀ n i, smF (fun _ => 0) i n = 0
  | 0, i => rfl
  | n + 1, i => by rw [smF, smF_zero n (i + 1)]
theorem smF_one {f : Nat → Nat} {x : Nat} : ∀ n i, i ≤ x → x < i + n → smF (fun j => if j = x then f j else 0) i n = f x
  | 0, i, h1, h2 => absurd h2 (by omega)
  | n + 1, i, h1, h2 => by
    rw [smF]
    by_cases e : i = x
    · rw [if_pos e, e, smF_congr (g := fun _ => 0) n (x + 1) (fun j a _ => if_neg (by omega)), smF_zero]
      omega
    · rw [if_neg e, smF_one n (i + 1) (by omega) (by omega)]
      omega
def lsm (f : Nat → Nat) : List Nat → Nat
  | [] => 0
  | x :: l => f x + lsm f l
theorem lsm_smF (f : Nat → Nat) : ∀ (l d : List Nat), smF (fun j => f ((d ++ l).getD j 0)) d.length l.length = lsm f l
  | [], d => rfl
  | x :: l, d => by
    rw [List.length_cons, smF, lsm]
    have h := lsm_smF f l (d ++ [x])
    rw [List.length_append, List.length_cons, List.length_nil, Nat.zero_add, List.append_assoc] at h
    have e : (d ++ x :: l).getD d.length 0 = x := by rw [gD_r (Nat.le_refl _), Nat.sub_self]; rfl
    rw [e, ← h]
    rfl
theorem smF_row (f : Nat → Nat) (l : List Nat) : smF (fun j => f (l.getD j 0)) 0 l.length = lsm f l := lsm_smF f l []
theorem lsm_mem (f : Nat → Nat) : ∀ (l : List Nat), l.Nodup → (∀ x, x ∈ l → x < 7) → lsm f l = smF (fun q => if q ∈ l then f q else 0) 0 7
  | [], _, _ => by
    rw [lsm, smF_congr (g := fun _ => 0) 7 0 (fun j _ _ => if_neg (by simp)), smF_zero]
  | x :: l, hd, h7 => by
    obtain ⟨h1, h2⟩ := List.nodup_cons.mp hd
    rw [lsm, lsm_mem f l h2 (fun y hy => h7 y (by simp [hy]))]
    have e : smF (fun q => if q ∈ x :: l then f q else 0) 0 7 = smF (fun q => (if q = x then f q else 0) + (if q ∈ l then f q else 0)) 0 7 := smF_congr 7 0 (fun j _ _ => by
      by_cases c : j = x
      · subst c
        simp [h1]
      · simp [c])
    rw [e, smF_add, smF_one 7 0 (by omega) (by have := h7 x (by simp); omega)]
theorem row_lt {l : List Nat} (h7 : ∀ j, j < l.length → l.getD j 0 < 7) : ∀ x, x ∈ l → x < 7 := fun x hx => by
  obtain ⟨i, hi, e⟩ := mem_gD hx
  rw [← e]; exact h7 i hi
theorem sum_row {l : List Nat} (hd : l.Nodup) (h7 : ∀ j, j < l.length → l.getD j 0 < 7) (f : Nat → Nat) : smF (fun j => f (l.getD j 0)) 0 l.length = smF (fun q => if q ∈ l then f q else 0) 0 7 := by
  rw [smF_row, lsm_mem f l hd (row_lt h7)]
theorem smF_cut {f : Nat → Nat} : ∀ n m i, (∀ j, i + n ≤ j → j < i + n + m → f j = 0) → smF f i (n + m) = smF f i n
  | 0, m, i, h => by
    rw [Nat.zero_add, smF, smF_congr (g := fun _ => 0) m i (fun j a b => h j (by omega) (by omega)), smF_zero]
  | n + 1, m, i, h => by
    rw [show n + 1 + m = (n + m) + 1 by omega, smF, smF, smF_cut n m (i + 1) (fun j a b => h j (by omega) (by omega))]
theorem smF_cut7 {f : Nat → Nat} {n : Nat} (hn : n ≤ 7) (h : ∀ j, n ≤ j → j < 7 → f j = 0) : smF f 0 7 = smF f 0 n := by
  have e := smF_cut (f := f) n (7 - n) 0 (fun j a b => h j (by omega) (by omega))
  rw [show n + (7 - n) = 7 by omega] at e
  exact e
theorem nI_inj7 {x y : Nat} (hx : x < 100) (hy : y < 100) : nI x = nI y ↔ x = y := iEq (by omega) (by omega)
theorem plF_self {l : List Nat} (hd : l.Nodup) (hl : l.length ≤ 7) (h7 : ∀ j, j < l.length → l.getD j 0 < 7) {k : Nat} (hk : k < l.length) : plF (rF l) (nI (l.getD k 0)) 0 l.length = nI k := by
  rcases plF_spec (rF l) (nI (l.getD k 0)) l.length 0 with ⟨-, c2⟩ | ⟨p, -, c2, c3, c4, -⟩
  · exact absurd rfl (c2 k (by omega) (by omega))
  · have e : l.getD p 0 = l.getD k 0 := (nI_inj7 (by have := h7 p (by omega); omega) (by have := h7 k hk; omega)).mp c4
    rw [c3, nd_inj hd p k (by omega) hk e]
theorem plF_not {l : List Nat} (hl : l.length ≤ 7) (h7 : ∀ j, j < l.length → l.getD j 0 < 7) {x : Nat} (hx : x < 7) : plF (rF l) (nI x) 0 l.length = -9 ↔ x ∉ l := by
  constructor
  · intro c hm
    obtain ⟨i, hi, e⟩ := mem_gD hm
    rcases plF_spec (rF l) (nI x) l.length 0 with ⟨-, c2⟩ | ⟨p, -, c2, c3, -⟩
    · exact c2 i (by omega) (by omega) (by rw [rF, e])
    · rw [c] at c3
      exact nI_n9 (p := p) (by omega) c3.symm
  · intro hn
    rcases plF_spec (rF l) (nI x) l.length 0 with ⟨c1, -⟩ | ⟨p, -, c2, c3, c4, -⟩
    · exact c1
    · have e : l.getD p 0 = x := (nI_inj7 (by have := h7 p (by omega); omega) (by omega)).mp c4
      exact absurd (e ▸ gD_mem (by omega)) hn
/-- where x stands, as a number -/
theorem plF_in {l : List Nat} (hl : l.length ≤ 7) (h7 : ∀ j, j < l.length → l.getD j 0 < 7) {x : Nat} (hx : x < 7) (hm : x ∈ l) : ∃ k, k < l.length ∧ plF (rF l) (nI x) 0 l.length = nI k ∧ l.getD k 0 = x := by
  rcases plF_spec (rF l) (nI x) l.length 0 with ⟨c1, -⟩ | ⟨p, -, c2, c3, c4, -⟩
  · exact absurd hm ((plF_not hl h7 hx).mp c1)
  · exact ⟨p, by omega, c3, (nI_inj7 (by have := h7 p (by omega); omega) (by omega)).mp c4⟩
/-! ===== fractions that are the same ===== -/
theorem tI_cross {a b c d u : Nat} (hb : 0 < b) (hd : 0 < d) (e : a * d = c * b) : tI a b u = tI c d u := by
  have hg : 0 < Nat.gcd a b := Nat.gcd_pos_of_pos_right _ hb
  have hh : 0 < Nat.gcd c d := Nat.gcd_pos_of_pos_right _ hd
  obtain ⟨a1, ea⟩ := Nat.gcd_dvd_left a b
  obtain ⟨b1, eb⟩ := Nat.gcd_dvd_right a b
  obtain ⟨c1, ec⟩ := Nat.gcd_dvd_left c d
  obtain ⟨d1, ed⟩ := Nat.gcd_dvd_right c d
  have k1 : a / Nat.gcd a b = a1 := Nat.div_eq_of_eq_mul_right hg ea
  have k2 : b / Nat.gcd a b = b1 := Nat.div_eq_of_eq_mul_right hg eb
  have k3 : c / Nat.gcd c d = c1 := Nat.div_eq_of_eq_mul_right hh ec
  have k4 : d / Nat.gcd c d = d1 := Nat.div_eq_of_eq_mul_right hh ed
  have co1 : Nat.Coprime a1 b1 := by
    rw [← k1, ← k2]
    exact Nat.coprime_div_gcd_div_gcd hg
  have co2 : Nat.Coprime c1 d1 := by
    rw [← k3, ← k4]
    exact Nat.coprime_div_gcd_div_gcd hh
  have e2 : a1 * d1 = c1 * b1 := by
    have e3 : Nat.gcd a b * Nat.gcd c d * (a1 * d1) = Nat.gcd a b * Nat.gcd c d * (c1 * b1) := by
      have x1 : a * d = Nat.gcd a b * Nat.gcd c d * (a1 * d1) := by
        conv => lhs; rw [ea, ed]
        rw [Nat.mul_mul_mul_comm]
      have x2 : c * b = Nat.gcd a b * Nat.gcd c d * (c1 * b1) := by
        conv => lhs; rw [ec, eb]
        rw [Nat.mul_mul_mul_comm, Nat.mul_comm (Nat.gcd c d)]
      rw [← x1, ← x2, e]
    exact Nat.eq_of_mul_eq_mul_left (Nat.mul_pos hg hh) e3
  have hbd : b1 ∣ d1 := co1.symm.dvd_of_dvd_mul_left ⟨c1, by rw [e2, Nat.mul_comm]⟩
  have hdb : d1 ∣ b1 := co2.symm.dvd_of_dvd_mul_left ⟨a1, by rw [← e2, Nat.mul_comm]⟩
  have eq1 : b1 = d1 := Nat.dvd_antisymm hbd hdb
  have hd1 : 0 < d1 := by
    rcases Nat.eq_zero_or_pos d1 with z | z
    · rw [z, Nat.mul_zero] at ed; omega
    · exact z
  have eq2 : a1 = c1 := by
    rw [eq1] at e2
    exact Nat.eq_of_mul_eq_mul_right hd1 e2
  unfold tI
  by_cases c0 : u = 1
  · rw [if_pos c0, if_pos c0, k1, k3, eq2]
  · rw [if_neg c0, if_neg c0, k2, k4, eq1]
theorem tI_mul {a b : Nat} (hb : 0 < b) : tI a b 1 * b = a * tI a b 0 := by
  have hg : 0 < Nat.gcd a b := Nat.gcd_pos_of_pos_right _ hb
  obtain ⟨a1, ea⟩ := Nat.gcd_dvd_left a b
  obtain ⟨b1, eb⟩ := Nat.gcd_dvd_right a b
  have k1 : tI a b 1 = a1 := by
    rw [tI, if_pos rfl]
    exact Nat.div_eq_of_eq_mul_right hg ea
  have k2 : tI a b 0 = b1 := by
    rw [tI, if_neg (by omega)]
    exact Nat.div_eq_of_eq_mul_right hg eb
  rw [k1, k2]
  conv => lhs; rw [eb]
  conv => rhs; rw [ea]
  rw [← Nat.mul_assoc, Nat.mul_comm a1, Nat.mul_assoc]
theorem tI_pos {a b : Nat} (hb : 0 < b) : 0 < tI a b 0 ∧ tI a b 0 ≤ b ∧ tI a b 1 ≤ a := by
  have hg : 0 < Nat.gcd a b := Nat.gcd_pos_of_pos_right _ hb
  have hl : Nat.gcd a b ≤ b := Nat.gcd_le_right _ hb
  refine ⟨?_, ?_, ?_⟩
  · rw [tI, if_neg (by omega)]
    exact Nat.div_pos hl hg
  · rw [tI, if_neg (by omega)]
    exact Nat.div_le_self _ _
  · rw [tI, if_pos rfl]
    exact Nat.div_le_self _ _
