/-! ===== an order by numbers: how many come ahead ===== -/
theorem ah_iff {N : Nat → Int64} {x s : Nat} : ah N x s = true ↔ N s < N x ∨ (N s = N x ∧ x < s) := by simp [ah]
theorem ah_tot {N : Nat → Int64} {x s : Nat} (h : x ≠ s) (hn : ¬ ah N x s = true) : ah N s x = true := by
  rw [ah_iff] at hn ⊢
  by_cases c1 : N x < N s
  · exact Or.inl c1
  · by_cases c2 : N x = N s
    · right
      refine ⟨c2, ?_⟩
      by_cases c3 : x < s
      · exact absurd (Or.inr ⟨c2.symm, c3⟩) hn
      · omega
    · exact absurd (Or.inl (Int64.lt_of_le_of_ne (Int64.not_lt.mp c1) (fun q => c2 q.symm))) hn
theorem ah_asym {N : Nat → Int64} {x s : Nat} (h : ah N x s = true) : ¬ ah N s x = true := by
  rw [ah_iff] at h ⊢
  rintro (c | ⟨c1, c2⟩)
  · rcases h with h | ⟨h1, h2⟩
    · exact absurd (Int64.lt_trans c h) Int64.lt_irrefl
    · rw [h1] at c; exact absurd c Int64.lt_irrefl
  · rcases h with h | ⟨h1, h2⟩
    · rw [c1] at h; exact absurd h Int64.lt_irrefl
    · omega
theorem ah_trans {N : Nat → Int64} {x y z : Nat} (h1 : ah N x y = true) (h2 : ah N y z = true) : ah N x z = true := by
  rw [ah_iff] at h1 h2 ⊢
  rcases h1 with h1 | ⟨h1, h3⟩
  · rcases h2 with h2 | ⟨h2, h4⟩
    · exact Or.inl (Int64.lt_trans h2 h1)
    · rw [h2]; exact Or.inl h1
  · rcases h2 with h2 | ⟨h2, h4⟩
    · rw [← h1]; exact Or.inl h2
    · exact Or.inr ⟨h2.trans h1, by omega⟩
theorem insA_so {N : Nat → Int64} {x : Nat} : ∀ A B : List Nat, (A.reverse ++ B).Pairwise (fun u v => ah N u v = true) → (∀ z, z ∈ B → ah N x z = true) → (∀ z, z ∈ A → x ≠ z) → (insA (ah N x) x A B).Pairwise (fun u v => ah N u v = true)
  | [], B, h, hB, _ => by
    rw [insA]
    exact List.pairwise_cons.mpr ⟨hB, by simpa using h⟩
  | y :: r, B, h, hB, hA => by
    rw [insA]
    have h' : (r.reverse ++ y :: B).Pairwise (fun u v => ah N u v = true) := by simpa using h
    by_cases c : ah N x y = true
    · rw [if_pos c]
      refine insA_so r (y :: B) h' (fun z hz => ?_) (fun z hz => hA z (by simp [hz]))
      rcases List.mem_cons.mp hz with e | hz
      · rw [e]; exact c
      · exact hB z hz
    · rw [if_neg c]
      have cy := ah_tot (hA y (by simp)) c
      obtain ⟨p1, p2, p3⟩ := List.pairwise_append.mp h'
      obtain ⟨q1, q2⟩ := List.pairwise_cons.mp p2
      refine List.pairwise_append.mpr ⟨?_, List.pairwise_cons.mpr ⟨hB, q2⟩, fun u hu v hv => ?_⟩
      · rw [List.reverse_cons]
        refine List.pairwise_append.mpr ⟨p1, by simp, fun u hu v hv => ?_⟩
        simp at hv
        rw [hv]
        exact p3 u hu y (by simp)
      · have hu' : u = y ∨ u ∈ r := (show u ∈ r ∨ u = y by simpa using hu).symm
        rcases List.mem_cons.mp hv with e | hv
        · rw [e]
          rcases hu' with e2 | hu2
          · rw [e2]; exact cy
          · exact ah_trans (p3 u (by simpa using hu2) y (by simp)) cy
        · rcases hu' with e2 | hu2
          · rw [e2]; exact q1 v hv
          · exact p3 u (by simpa using hu2) v (by simp [hv])
theorem insL_so {N : Nat → Int64} {x : Nat} {l : List Nat} (h : l.Pairwise (fun u v => ah N u v = true)) (hx : x ∉ l) : (insL (ah N x) x l).Pairwise (fun u v => ah N u v = true) :=
  insA_so l.reverse [] (by simpa using h) (fun z hz => by simp at hz) (fun z hz e => hx (by rw [e]; simpa using hz))
theorem srt_so (N : Nat → Int64) : ∀ r d : List Nat, (d ++ r).Nodup → (srt N d).Pairwise (fun u v => ah N u v = true) → (srt N (d ++ r)).Pairwise (fun u v => ah N u v = true)
  | [], d, _, h => by rw [List.append_nil]; exact h
  | x :: r, d, hd, h => by
    have e : d ++ x :: r = (d ++ [x]) ++ r := by simp
    rw [e] at hd ⊢
    refine srt_so N r (d ++ [x]) hd ?_
    rw [srt_snoc]
    refine insL_so h (fun q => ?_)
    have hm := (srt_perm N d).mem_iff.mp q
    have h2 := (List.nodup_append.mp hd).1
    exact (List.nodup_append.mp h2).2.2 x hm x (by simp) rfl
theorem srt_sorted (N : Nat → Int64) {l : List Nat} (h : l.Nodup) : (srt N l).Pairwise (fun u v => ah N u v = true) := srt_so N l [] h (by simp [srt])
theorem lsm_append (f : Nat → Nat) : ∀ A B : List Nat, lsm f (A ++ B) = lsm f A + lsm f B
  | [], B => by rw [List.nil_append, lsm, Nat.zero_add]
  | x :: A, B => by rw [List.cons_append, lsm, lsm, lsm_append f A B, Nat.add_assoc]
theorem lsm_const (f : Nat → Nat) (c : Nat) : ∀ A : List Nat, (∀ x, x ∈ A → f x = c) → lsm f A = A.length * c
  | [], _ => by simp [lsm]
  | x :: A, h => by rw [lsm, h x (by simp), lsm_const f c A (fun y hy => h y (by simp [hy])), List.length_cons, Nat.succ_mul, Nat.add_comm]
theorem lsm_perm (f : Nat → Nat) {A B : List Nat} (h : A.Perm B) : lsm f A = lsm f B := by
  induction h with
  | nil => rfl
  | cons x _ ih => rw [lsm, lsm, ih]
  | swap x y l => simp only [lsm]; omega
  | trans _ _ h1 h2 => exact h1.trans h2
/-- how many of l come ahead of z -/
def cnA (N : Nat → Int64) (l : List Nat) (z : Nat) : Nat := smF (fun q => if q ∈ l then (if ah N q z = true then 1 else 0) else 0) 0 7
theorem cnA_at {N : Nat → Int64} {l : List Nat} (hd : l.Nodup) (h7 : ∀ x, x ∈ l → x < 7) {k : Nat} (hk : k < l.length) : cnA N l ((srt N l).getD k 0) = k := by
  have sl := srt_len N l
  have hs := split_at (l := srt N l) (p := k) (by omega)
  have so := srt_sorted N hd
  rw [cnA, ← lsm_mem (fun q => if ah N q ((srt N l).getD k 0) = true then 1 else 0) l hd h7, ← lsm_perm _ (srt_perm N l)]
  have lT : ((srt N l).take k).length = k := by simp; omega
  generalize (srt N l).getD k 0 = z at hs ⊢
  rw [hs] at so ⊢
  obtain ⟨p1, p2, p3⟩ := List.pairwise_append.mp so
  obtain ⟨q1, q2⟩ := List.pairwise_cons.mp p2
  rw [lsm_append, lsm, lsm_const _ 1 _ (fun x hx => if_pos (p3 x hx z (by simp))), lsm_const _ 0 _ (fun x hx => if_neg (ah_asym (q1 x hx))), lT]
  have : ¬ ah N z z = true := fun q => ah_asym q q
  rw [if_neg this]
  omega
theorem cnA_in {N : Nat → Int64} {l : List Nat} (hd : l.Nodup) (h7 : ∀ x, x ∈ l → x < 7) {z : Nat} (hz : z ∈ l) : cnA N l z < l.length ∧ (srt N l).getD (cnA N l z) 0 = z := by
  obtain ⟨k, hk, e⟩ := mem_gD ((srt_perm N l).mem_iff.mpr hz)
  rw [srt_len] at hk
  have h := cnA_at (N := N) hd h7 hk
  rw [e] at h
  rw [h]
  exact ⟨hk, e⟩
def fsF (P : Nat → Bool) (i : Nat) : Nat → Option Nat
  | 0 => none
  | n + 1 => if P i = true then some i else fsF P (i + 1) n
theorem fsF_spec (P : Nat → Bool) : ∀ n i, (fsF P i n = none ∧ ∀ j, i ≤ j → j < i + n → P j = false) ∨ ∃ z, fsF P i n = some z ∧ i ≤ z ∧ z < i + n ∧ P z = true
  | 0, i => Or.inl ⟨rfl, fun j h1 h2 => absurd h2 (by omega)⟩
  | n + 1, i => by
    rw [fsF]
    by_cases c : P i = true
    · rw [if_pos c]
      exact Or.inr ⟨i, rfl, by omega, by omega, c⟩
    · rw [if_neg c]
      rcases fsF_spec P n (i + 1) with ⟨h1, h2⟩ | ⟨z, h1, h2, h3, h4⟩
      · refine Or.inl ⟨h1, fun j a b => ?_⟩
        by_cases e : j = i
        · rw [e]; simpa using c
        · exact h2 j (by omega) (by omega)
      · exact Or.inr ⟨z, h1, by omega, by omega, h4⟩
/-- who has just y ahead -/
def rkP (N : Nat → Int64) (l : List Nat) (y : Int32) (z : Nat) : Bool := decide (z ∈ l) && decide (nI (cnA N l z) = y)
theorem fs_rank {N : Nat → Int64} {l : List Nat} {y : Int32} (hd : l.Nodup) (h7 : ∀ x, x ∈ l → x < 7) (hl : l.length ≤ 7) : (∃ k, k < l.length ∧ y = nI k ∧ fsF (rkP N l y) 0 7 = some ((srt N l).getD k 0)) ∨ (¬ inR y l.length ∧ fsF (rkP N l y) 0 7 = none) := by
  have sl := srt_len N l
  rcases fsF_spec (rkP N l y) 7 0 with ⟨h1, h2⟩ | ⟨z, h1, h2, h3, h4⟩
  · refine Or.inr ⟨fun q => ?_, h1⟩
    obtain ⟨k, hk, rfl⟩ := inR_of q (by omega)
    have hm : (srt N l).getD k 0 ∈ l := (srt_perm N l).mem_iff.mp (gD_mem (by omega))
    have := h2 _ (by omega) (by have := h7 _ hm; omega)
    rw [rkP, cnA_at hd h7 hk] at this
    rw [List.getD_eq_getElem?_getD] at hm this
    simp [hm] at this
  · rw [rkP, Bool.and_eq_true, decide_eq_true_eq, decide_eq_true_eq] at h4
    obtain ⟨g1, g2⟩ := cnA_in (N := N) hd h7 h4.1
    exact Or.inl ⟨cnA N l z, g1, h4.2.symm, by rw [g2]; exact h1⟩
theorem rank_pA {N : Nat → Int64} {l : List Nat} {y : Int32} (hd : l.Nodup) (h7 : ∀ x, x ∈ l → x < 7) (hl : l.length ≤ 7) : oI (fsF (rkP N l y) 0 7) = pA (srt N l) y := by
  have sl := srt_len N l
  rcases fs_rank (N := N) (y := y) hd h7 hl with ⟨k, h1, rfl, h3⟩ | ⟨h1, h2⟩
  · rw [h3, pA_in (by omega) (by omega), oI]
  · rw [h2, pA_nin (by rw [sl]; exact h1), oI]
theorem fsF_congr {P P' : Nat → Bool} : ∀ n i, (∀ j, i ≤ j → j < i + n → P j = P' j) → fsF P i n = fsF P' i n
  | 0, i, _ => rfl
  | n + 1, i, h => by
    rw [fsF, fsF, h i (by omega) (by omega), fsF_congr n (i + 1) (fun j a b => h j (by omega) (by omega))]
