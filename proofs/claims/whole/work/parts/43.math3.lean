/-! ===== claims: the falling order, caps, losses ===== -/
abbrev clN (c : Nat → Nat) : Nat → Int64 := fun q => lN (c q)
theorem insA_map {c : Nat → Nat} {x : Nat} {N : Nat → Int64} : ∀ A B : List Nat, (∀ y, y ∈ A → ah N x y = ltB (c x) (c y)) → insA (ltB (c x)) (c x) (A.map c) (B.map c) = (insA (ah N x) x A B).map c
  | [], B, _ => rfl
  | y :: r, B, h => by
    rw [List.map_cons, insA, insA, h y (by simp)]
    by_cases q : ltB (c x) (c y) = true
    · rw [if_pos q, if_pos q, ← List.map_cons, insA_map r (y :: B) (fun z hz => h z (by simp [hz]))]
    · rw [if_neg q, if_neg q]
      simp
theorem flL_map {c : Nat → Nat} (hc : ∀ q, q < 7 → c q ≤ 100) : ∀ n, n ≤ 7 → flL c n = (srt (clN c) (List.range n)).map c
  | 0, _ => rfl
  | n + 1, hn => by
    rw [flL, flL_map hc n (by omega), List.range_succ, srt_snoc, insL, insL, ← List.map_reverse]
    refine insA_map (N := clN c) _ [] (fun y hy => ?_)
    have hy' : y < n := List.mem_range.mp ((srt_perm _ _).mem_iff.mp (by simpa using hy))
    have h1 := hc y (by omega)
    have h2 := hc n (by omega)
    rw [Bool.eq_iff_iff, ah_iff, lLt (by omega) (by omega), lEq (by omega) (by omega), ltB, decide_eq_true_eq]
    omega
theorem r7_nd : (List.range 7).Nodup := List.nodup_range
theorem r7_lt : ∀ x, x ∈ List.range 7 → x < 7 := fun x hx => List.mem_range.mp hx
theorem r7_len : (List.range 7).length = 7 := by simp
theorem fF_at {c : Nat → Nat} (hc : ∀ q, q < 7 → c q ≤ 100) {r : Nat} (hr : r < 7) : fF c r = c ((srt (clN c) (List.range 7)).getD r 0) := by
  rw [fF, flL_map hc 7 (Nat.le_refl 7), List.getD_eq_getElem?_getD, List.getElem?_map, List.getD_eq_getElem?_getD, List.getElem?_eq_getElem (by rw [srt_len, r7_len]; exact hr)]
  rfl
theorem fF_out {c : Nat → Nat} : fF c 7 = 0 := by
  rw [fF, List.getD_eq_getElem?_getD, List.getElem?_eq_none (by rw [flL_len]; exact Nat.le_refl 7)]
  rfl
theorem fF_rank {c : Nat → Nat} (hc : ∀ q, q < 7 → c q ≤ 100) {z : Nat} (hz : z < 7) : cnA (clN c) (List.range 7) z < 7 ∧ fF c (cnA (clN c) (List.range 7) z) = c z := by
  obtain ⟨h1, h2⟩ := cnA_in (N := clN c) r7_nd r7_lt (List.mem_range.mpr hz)
  rw [r7_len] at h1
  exact ⟨h1, by rw [fF_at hc h1, h2]⟩
theorem fF_mono {c : Nat → Nat} (hc : ∀ q, q < 7 → c q ≤ 100) : ∀ i, i < 7 → fF c (i + 1) ≤ fF c i := fun i hi => by
  by_cases e : i = 6
  · rw [e, show (6 : Nat) + 1 = 7 by rfl, fF_out]; omega
  · rw [fF_at hc hi, fF_at hc (by omega)]
    have so := srt_sorted (clN c) r7_nd
    have sl : (srt (clN c) (List.range 7)).length = 7 := by rw [srt_len, r7_len]
    have h := List.pairwise_iff_getElem.mp so i (i + 1) (by omega) (by omega) (by omega)
    rw [← gD_el (by omega), ← gD_el (by omega), ah_iff] at h
    have h1 := hc ((srt (clN c) (List.range 7)).getD i 0) (r7_lt _ ((srt_perm _ _).mem_iff.mp (gD_mem (by omega))))
    have h2 := hc ((srt (clN c) (List.range 7)).getD (i + 1) 0) (r7_lt _ ((srt_perm _ _).mem_iff.mp (gD_mem (by omega))))
    generalize (srt (clN c) (List.range 7)).getD i 0 = u at *
    generalize (srt (clN c) (List.range 7)).getD (i + 1) 0 = v at *
    rw [lLt (by omega) (by omega), lEq (by omega) (by omega)] at h
    omega
theorem lsm_map (c : Nat → Nat) : ∀ l : List Nat, lsm (fun x => x) (l.map c) = lsm c l
  | [] => rfl
  | x :: l => by rw [List.map_cons, lsm, lsm, lsm_map c l]
theorem SS_all {c : Nat → Nat} (hc : ∀ q, q < 7 → c q ≤ 100) : SS (fF c) 7 = smF c 0 7 := by
  have e1 : SS (fF c) 7 = lsm (fun x => x) (flL c 7) := by
    rw [← smF_row, flL_len]
    rfl
  rw [e1, flL_map hc 7 (Nat.le_refl 7), lsm_map, lsm_perm _ (srt_perm _ _), lsm_mem c _ r7_nd r7_lt]
  exact smF_congr _ _ (fun j _ h => if_pos (List.mem_range.mpr (by omega)))
/-! caps and losses: all that fulfil the rule are alike -/
def capP (F : Nat → Nat) (m : Nat) : Prop := SS F 7 ≤ 100 + SS F m ∧ 100 + SS F m - SS F 7 ≤ m * F (m - 1) ∧ m * F m ≤ 100 + SS F m - SS F 7
def losP (F : Nat → Nat) (m : Nat) : Prop := 100 ≤ SS F m ∧ SS F m - 100 ≤ m * F (m - 1) ∧ m * F m ≤ SS F m - 100
theorem SS_1 (F : Nat → Nat) : SS F 1 = F 0 := by simp [SS, smF]
theorem SS_2 (F : Nat → Nat) : SS F 2 = F 0 + F 1 := by simp [SS, smF]
theorem SS_3 (F : Nat → Nat) : SS F 3 = F 0 + F 1 + F 2 := by simp [SS, smF]; omega
theorem SS_4 (F : Nat → Nat) : SS F 4 = F 0 + F 1 + F 2 + F 3 := by simp [SS, smF]; omega
theorem SS_5 (F : Nat → Nat) : SS F 5 = F 0 + F 1 + F 2 + F 3 + F 4 := by simp [SS, smF]; omega
theorem SS_6 (F : Nat → Nat) : SS F 6 = F 0 + F 1 + F 2 + F 3 + F 4 + F 5 := by simp [SS, smF]; omega
theorem SS_7 (F : Nat → Nat) : SS F 7 = F 0 + F 1 + F 2 + F 3 + F 4 + F 5 + F 6 := by simp [SS, smF]; omega
theorem cpF_cap {F : Nat → Nat} (h7 : F 7 = 0) (hall : 100 < SS F 7) : capP F (cpF F (SS F 7) 6) := by
  simp only [cpF, capP, SS_1, SS_2, SS_3, SS_4, SS_5, SS_6, SS_7, Nat.reduceAdd] at *
  split
  · split
    · split
      · split
        · split
          · split
            · simp only [SS_1, Nat.reduceSub] at *; omega
            · simp only [SS_2, Nat.reduceSub] at *; omega
          · simp only [SS_3, Nat.reduceSub] at *; omega
        · simp only [SS_4, Nat.reduceSub] at *; omega
      · simp only [SS_5, Nat.reduceSub] at *; omega
    · simp only [SS_6, Nat.reduceSub] at *; omega
  · simp only [SS_7, Nat.reduceSub] at *; omega
theorem loF_los {F : Nat → Nat} (h7 : F 7 = 0) (hall : 100 < SS F 7) : losP F (loF F 6 1) := by
  simp only [loF, losP, SS_1, SS_2, SS_3, SS_4, SS_5, SS_6, SS_7, Nat.reduceAdd] at *
  split
  · split
    · split
      · split
        · split
          · split
            · simp only [SS_7, Nat.reduceSub] at *; omega
            · simp only [SS_6, Nat.reduceSub] at *; omega
          · simp only [SS_5, Nat.reduceSub] at *; omega
        · simp only [SS_4, Nat.reduceSub] at *; omega
      · simp only [SS_3, Nat.reduceSub] at *; omega
    · simp only [SS_2, Nat.reduceSub] at *; omega
  · simp only [SS_1, Nat.reduceSub] at *; omega
theorem smF_mul (f : Nat → Nat) (c : Nat) : ∀ n i, smF (fun j => c * f j) i n = c * smF f i n
  | 0, i => rfl
  | n + 1, i => by rw [smF, smF, smF_mul f c n (i + 1), Nat.mul_add]
theorem smF_ge {f : Nat → Nat} {c : Nat} : ∀ n i, (∀ j, i ≤ j → j < i + n → c ≤ f j) → n * c ≤ smF f i n
  | 0, i, _ => by simp [smF]
  | n + 1, i, h => by
    rw [smF, Nat.succ_mul]
    have h1 := h i (by omega) (by omega)
    have h2 := smF_ge (f := f) n (i + 1) (fun j a b => h j (by omega) (by omega))
    omega
theorem mono_le {F : Nat → Nat} (hm : ∀ i, i < 7 → F (i + 1) ≤ F i) : ∀ d i, i + d ≤ 7 → F (i + d) ≤ F i
  | 0, i, _ => Nat.le_refl _
  | d + 1, i, h => by
    have h1 := hm (i + d) (by omega)
    have h2 := mono_le hm d i (by omega)
    rw [← Nat.add_assoc]
    omega
/-- of two numbers of people that fulfil the rule, the levels are alike -/
theorem lev_le {F L : Nat → Nat} {x y : Nat} (hm : ∀ i, i < 7 → F (i + 1) ≤ F i) (hxy : x ≤ y) (hy : y ≤ 7) (hL : L y = L x + smF F x (y - x)) (h1 : x * F x ≤ L x) (h2 : L y ≤ y * F (y - 1)) : L x * y = L y * x := by
  have a1 : smF (fun j => x * F j) x (y - x) ≤ (y - x) * L x := smF_le _ _ (fun j q1 q2 => by
    have := mono_le hm (j - x) x (by omega)
    rw [show x + (j - x) = j by omega] at this
    have h3 : x * F j ≤ x * F x := Nat.mul_le_mul_left _ this
    omega)
  have a2 : (y - x) * L y ≤ smF (fun j => y * F j) x (y - x) := smF_ge _ _ (fun j q1 q2 => by
    have := mono_le hm (y - 1 - j) j (by omega)
    rw [show j + (y - 1 - j) = y - 1 by omega] at this
    have h3 : y * F (y - 1) ≤ y * F j := Nat.mul_le_mul_left _ this
    omega)
  rw [smF_mul] at a1 a2
  obtain ⟨d, rfl⟩ := Nat.exists_eq_add_of_le hxy
  rw [Nat.add_sub_cancel_left] at a1 a2 hL
  generalize smF F x d = S at *
  rw [hL] at a2 ⊢
  apply Nat.le_antisymm
  · -- y L x ≤ x L y
    have b1 : (x + d) * S = x * S + d * S := Nat.add_mul _ _ _
    have b2 : d * (L x + S) = d * L x + d * S := Nat.mul_add _ _ _
    have b3 : L x * (x + d) = L x * x + L x * d := Nat.mul_add _ _ _
    have b4 : (L x + S) * x = L x * x + S * x := Nat.add_mul _ _ _
    rw [b3, b4]
    rw [b1, b2] at a2
    have b5 : S * x = x * S := Nat.mul_comm _ _
    have b6 : L x * d = d * L x := Nat.mul_comm _ _
    omega
  · have b3 : L x * (x + d) = L x * x + L x * d := Nat.mul_add _ _ _
    have b4 : (L x + S) * x = L x * x + S * x := Nat.add_mul _ _ _
    rw [b3, b4]
    have b5 : S * x = x * S := Nat.mul_comm _ _
    have b6 : L x * d = d * L x := Nat.mul_comm _ _
    omega
theorem SS_diff (F : Nat → Nat) {x y : Nat} (h : x ≤ y) : SS F y = SS F x + smF F x (y - x) := by
  have := smF_split F x (y - x) 0
  rw [show x + (y - x) = y by omega, Nat.zero_add] at this
  exact this
theorem cap_one {F : Nat → Nat} {x y : Nat} (hm : ∀ i, i < 7 → F (i + 1) ≤ F i) (hx : x ≤ 7) (hy : y ≤ 7) (h1 : capP F x) (h2 : capP F y) : (100 + SS F x - SS F 7) * y = (100 + SS F y - SS F 7) * x := by
  obtain ⟨a1, a2, a3⟩ := h1
  obtain ⟨b1, b2, b3⟩ := h2
  by_cases c : x ≤ y
  · exact lev_le (F := F) (L := fun z => 100 + SS F z - SS F 7) hm c hy (by
      have := SS_diff F c
      show 100 + SS F y - SS F 7 = 100 + SS F x - SS F 7 + smF F x (y - x)
      omega) a3 b2
  · exact (lev_le (F := F) (L := fun z => 100 + SS F z - SS F 7) hm (show y ≤ x by omega) hx (by
      have := SS_diff F (show y ≤ x by omega)
      show 100 + SS F x - SS F 7 = 100 + SS F y - SS F 7 + smF F y (x - y)
      omega) b3 a2).symm
theorem los_one {F : Nat → Nat} {x y : Nat} (hm : ∀ i, i < 7 → F (i + 1) ≤ F i) (hx : x ≤ 7) (hy : y ≤ 7) (h1 : losP F x) (h2 : losP F y) : (SS F x - 100) * y = (SS F y - 100) * x := by
  obtain ⟨a1, a2, a3⟩ := h1
  obtain ⟨b1, b2, b3⟩ := h2
  by_cases c : x ≤ y
  · exact lev_le (F := F) (L := fun z => SS F z - 100) hm c hy (by
      have := SS_diff F c
      show SS F y - 100 = SS F x - 100 + smF F x (y - x)
      omega) a3 b2
  · exact (lev_le (F := F) (L := fun z => SS F z - 100) hm (show y ≤ x by omega) hx (by
      have := SS_diff F (show y ≤ x by omega)
      show SS F x - 100 = SS F y - 100 + smF F y (x - y)
      omega) b3 a2).symm
/-- what someone gets, by m people cut and by c people cut -/
theorem cap_get {F : Nat → Nat} {m c k v : Nat} (hm : ∀ i, i < 7 → F (i + 1) ≤ F i) (hm1 : 1 ≤ m) (hm7 : m ≤ 7) (hc1 : 1 ≤ c) (hc7 : c ≤ 7) (h1 : capP F m) (h2 : capP F c) (hk : k < 7) (hv : F k = v) : (if k < m then 100 + SS F m - SS F 7 else m * v) * c = min (v * c) (100 + SS F c - SS F 7) * m := by
  have e := cap_one hm hm7 hc7 h1 h2
  obtain ⟨a1, a2, a3⟩ := h1
  by_cases q : k < m
  · rw [if_pos q]
    have h3 := mono_le hm (m - 1 - k) k (by omega)
    rw [show k + (m - 1 - k) = m - 1 by omega, hv] at h3
    have h4 : m * F (m - 1) ≤ m * v := Nat.mul_le_mul_left _ h3
    have h5 : (100 + SS F c - SS F 7) * m ≤ v * c * m := by
      rw [← e]
      calc (100 + SS F m - SS F 7) * c ≤ (m * v) * c := Nat.mul_le_mul_right _ (by omega)
        _ = v * c * m := by rw [Nat.mul_comm m v, Nat.mul_right_comm]
    have h6 := Nat.le_of_mul_le_mul_right h5 (show 0 < m by omega)
    rw [Nat.min_eq_right h6, e]
  · rw [if_neg q]
    have h3 := mono_le hm (k - m) m (by omega)
    rw [show m + (k - m) = k by omega, hv] at h3
    have h4 : m * v ≤ m * F m := Nat.mul_le_mul_left _ h3
    have h5 : v * c * m ≤ (100 + SS F c - SS F 7) * m := by
      rw [← e]
      calc v * c * m = (m * v) * c := by rw [Nat.mul_comm m v, Nat.mul_right_comm]
        _ ≤ (100 + SS F m - SS F 7) * c := Nat.mul_le_mul_right _ (by omega)
    have h6 := Nat.le_of_mul_le_mul_right h5 (show 0 < m by omega)
    rw [Nat.min_eq_left h6, Nat.mul_comm m v, Nat.mul_right_comm]
theorem los_get {F : Nat → Nat} {m c k v : Nat} (hm : ∀ i, i < 7 → F (i + 1) ≤ F i) (hm1 : 1 ≤ m) (hm7 : m ≤ 7) (hc1 : 1 ≤ c) (hc7 : c ≤ 7) (h1 : losP F m) (h2 : losP F c) (hk : k < 7) (hv : F k = v) : (if k < m then m * v - (SS F m - 100) else 0) * c = (v * c - (SS F c - 100)) * m := by
  have e := los_one hm hm7 hc7 h1 h2
  obtain ⟨a1, a2, a3⟩ := h1
  rw [Nat.sub_mul (v * c), ← e]
  by_cases q : k < m
  · rw [if_pos q, Nat.sub_mul, Nat.mul_comm m v, Nat.mul_right_comm]
  · rw [if_neg q]
    have h3 := mono_le hm (k - m) m (by omega)
    rw [show m + (k - m) = k by omega, hv] at h3
    have h4 : m * v ≤ m * F m := Nat.mul_le_mul_left _ h3
    have h5 : v * c * m ≤ (SS F m - 100) * c := by
      calc v * c * m = (m * v) * c := by rw [Nat.mul_comm m v, Nat.mul_right_comm]
        _ ≤ (SS F m - 100) * c := Nat.mul_le_mul_right _ (by omega)
    omega
theorem los_own {F : Nat → Nat} {m k v : Nat} (hm : ∀ i, i < 7 → F (i + 1) ≤ F i) (hm7 : m ≤ 7) (h1 : losP F m) (hk : k < m) (hv : F k = v) : SS F m - 100 ≤ m * v := by
  obtain ⟨a1, a2, a3⟩ := h1
  have h3 := mono_le hm (m - 1 - k) k (by omega)
  rw [show k + (m - 1 - k) = m - 1 by omega, hv] at h3
  have h4 : m * F (m - 1) ≤ m * v := Nat.mul_le_mul_left _ h3
  omega
