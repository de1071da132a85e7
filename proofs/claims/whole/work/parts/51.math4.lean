/-! ===== the search of all orders finds what the table of sets has ===== -/
theorem lsO_n (v : Nat) : lsO v none = true := rfl
theorem lsO_s (v : Nat) (r : Nat × List Nat) : (lsO v (some r) = true) = (v < r.1) := by simp [lsO]
theorem fold_num {c0 M W : Nat} {T T' : List Nat} {o o1 : BT} (h1 : o1 = if M < 1000 ∧ lsO (c0 + M) o = true then some (c0 + M, T) else o) : (if W < 1000 ∧ lsO (c0 + W) o1 = true then some (c0 + W, T') else o1) = if min M W < 1000 ∧ lsO (c0 + min M W) o = true then some (c0 + min M W, if M ≤ W then T else T') else o := by
  subst h1
  cases o with
  | none =>
    simp only [lsO_n, and_true]
    by_cases a1 : M < 1000
    · rw [if_pos a1]
      simp only [lsO_s]
      by_cases a2 : W < M
      · rw [if_pos ⟨by omega, by omega⟩, Nat.min_eq_right (by omega), if_pos (by omega), if_neg (by omega)]
      · rw [if_neg (fun q => by have := q.2; omega), Nat.min_eq_left (by omega), if_pos (by omega), if_pos (by omega)]
    · rw [if_neg a1]
      simp only [lsO_n, and_true]
      by_cases a2 : W < 1000
      · rw [if_pos a2, Nat.min_eq_right (by omega), if_pos a2, if_neg (by omega)]
      · rw [if_neg a2, if_neg (by omega)]
  | some r =>
    simp only [lsO_s]
    by_cases a1 : M < 1000 ∧ c0 + M < r.1
    · rw [if_pos a1]
      simp only [lsO_s]
      by_cases a2 : W < M
      · rw [if_pos ⟨by omega, by omega⟩, Nat.min_eq_right (by omega), if_pos (by omega), if_neg (by omega)]
      · rw [if_neg (fun q => by have := q.2; omega), Nat.min_eq_left (by omega), if_pos a1, if_pos (by omega)]
    · rw [if_neg a1]
      simp only [lsO_s]
      by_cases a2 : W < 1000 ∧ c0 + W < r.1
      · rw [if_pos a2, Nat.min_eq_right (by omega), if_pos a2, if_neg (by omega)]
      · rw [if_neg a2, if_neg (by omega)]
theorem wgS_sn (mi : Nat → Nat → Nat) (x : Nat) : ∀ (r e : List Nat), wgS mi e (r ++ [x]) = wgS mi e r + lsm (mi x) (e ++ r)
  | [], e => by simp [wgS]
  | y :: r, e => by
    rw [List.cons_append, wgS, wgS_sn mi x r (e ++ [y]), wgS, snoc_app]
    omega
theorem wgB_sn (mi : Nat → Nat → Nat) (be : Nat → Nat) (x : Nat) : ∀ (r e : List Nat), wgB mi be e (r ++ [x]) = (wgB mi be e r && decide (lsm (mi x) (e ++ r) ≤ be x))
  | [], e => by simp [wgB]
  | y :: r, e => by
    rw [List.cons_append, wgB, wgB_sn mi be x r (e ++ [y]), wgB, snoc_app, Bool.and_assoc]
theorem dfL_id {F : List Nat → BT → BT} {s : Nat} {d : List Nat} (h : ∀ x o, F (d ++ [x]) o = o) : ∀ k x o, dfL F s d x k o = o
  | 0, x, o => rfl
  | k + 1, x, o => by
    rw [dfL, h, ite_self, dfL_id h k]
theorem dfs_no {mi : Nat → Nat → Nat} {be : Nat → Nat} {s : Nat} : ∀ n d o, wgB mi be [] d = false → dfs mi be s n d o = o
  | 0, d, o, h => by
    rw [dfs, wgh, if_neg (fun q => by rw [h] at q; cases q.1)]
  | n + 1, d, o, h => by
    rw [dfs]
    exact dfL_id (fun x o => dfs_no n _ o (by rw [wgB_sn, h, Bool.false_and])) 7 0 o
theorem lbF_min {mi : Nat → Nat → Nat} {be : Nat → Nat} {st : Nat → Nat} {s b : Nat} : ∀ n i a, a ≤ 1000 → lbF mi be st s b i n a = min a (lbF mi be st s b i n 1000)
  | 0, i, a, h => by rw [lbF, lbF, Nat.min_eq_left h]
  | n + 1, i, a, h => by
    rw [lbF, lbF]
    by_cases c : lft s b i
    · rw [if_pos c, if_pos c, lbF_min n (i + 1) (min a _) (by omega), lbF_min n (i + 1) (min 1000 _) (by omega)]
      have := lbF_le mi be st s b n (i + 1) 1000
      omega
    · rw [if_neg c, if_neg c, lbF_min n (i + 1) a h]
theorem lbF_st {mi : Nat → Nat → Nat} {be : Nat → Nat} {st : Nat → Nat} {s b n i : Nat} : lbF mi be st s b i (n + 1) 1000 = if lft s b i then min (min 1000 (mFr mi be st b i)) (lbF mi be st s b (i + 1) n 1000) else lbF mi be st s b (i + 1) n 1000 := by
  rw [lbF]
  by_cases c : lft s b i
  · rw [if_pos c, if_pos c, lbF_min n (i + 1) _ (by omega)]
  · rw [if_neg c, if_neg c]
theorem lbF_ex {mi : Nat → Nat → Nat} {be : Nat → Nat} {st : Nat → Nat} {s b : Nat} : ∀ n i, lbF mi be st s b i n 1000 < 1000 → ∃ x, i ≤ x ∧ x < i + n ∧ lft s b x ∧ lbF mi be st s b i n 1000 = mFr mi be st b x
  | 0, i, h => absurd h (by rw [lbF]; omega)
  | n + 1, i, h => by
    rw [lbF_st] at h ⊢
    by_cases c : lft s b i
    · rw [if_pos c] at h ⊢
      by_cases c2 : lbF mi be st s b (i + 1) n 1000 < min 1000 (mFr mi be st b i)
      · obtain ⟨x, h1, h2, h3, h4⟩ := lbF_ex (mi := mi) (be := be) (st := st) (s := s) (b := b) n (i + 1) (by omega)
        exact ⟨x, by omega, by omega, h3, by rw [Nat.min_eq_right (by omega)]; exact h4⟩
      · exact ⟨i, by omega, by omega, c, by omega⟩
    · rw [if_neg c] at h ⊢
      obtain ⟨x, h1, h2, h3, h4⟩ := lbF_ex n (i + 1) h
      exact ⟨x, by omega, by omega, h3, h4⟩
theorem op_441 {mi : Nat → Nat → Nat} {be : Nat → Nat} {s : Nat} (h9 : ∀ x, x < 7 → ∀ y, y < 7 → mi x y ≤ 9) : ∀ n b, op mi be s n b < 1000 → op mi be s n b ≤ n * 63
  | 0, b, _ => by simp [op]
  | n + 1, b, h => by
    rw [op] at h ⊢
    by_cases c : b = s
    · rw [if_pos c]; omega
    · rw [if_neg c] at h ⊢
      obtain ⟨x, h1, h2, h3, h4⟩ := lbF_ex 7 0 h
      rw [h4] at h ⊢
      have hm := mbh_le (mi := mi) (x := x) (s := b) (fun y hy => h9 x (by omega) y hy)
      unfold mFr at h ⊢
      by_cases c2 : be x < mbh mi x b
      · rw [if_pos c2] at h; omega
      · rw [if_neg c2] at h ⊢
        have := op_441 (be := be) (s := s) h9 n (b ||| 2 ^ x) (by omega)
        omega
def fsV (mi : Nat → Nat → Nat) (be : Nat → Nat) (s b v i : Nat) : Nat → Option Nat
  | 0 => none
  | n + 1 => if lft s b i ∧ mFr mi be (op mi be s 7) b i = v then some i else fsV mi be s b v (i + 1) n
theorem fsV_fo {mi : Nat → Nat → Nat} {be : Nat → Nat} {s b : Nat} : ∀ n i, fsV mi be s b (op mi be s 7 b) i n = foF mi be s b i n
  | 0, i => rfl
  | n + 1, i => by rw [fsV, foF, fsV_fo n (i + 1)]
def tlV (mi : Nat → Nat → Nat) (be : Nat → Nat) (s N b v x k : Nat) : List Nat := (fsV mi be s b v x k).elim [] (fun z => z :: luF mi be s N (b ||| 2 ^ z))
theorem rem_ex {s b x : Nat} (hb : b < 128) (hx : x < 7) (h : lft s b x) : rem s b = rem s (b ||| 2 ^ x) + 1 := by
  have e : rem s b = smF (fun j => (if lft s (b ||| 2 ^ x) j then 1 else 0) + (if j = x then 1 else 0)) 0 7 := by
    refine smF_congr 7 0 (fun j _ hj => ?_)
    have q := bit_or b hb x hx j (by omega)
    by_cases c : j = x
    · subst c
      rw [if_pos h, if_pos rfl, if_neg (fun z => z.2 (q.mpr (Or.inr rfl)))]
    · rw [if_neg c, Nat.add_zero]
      by_cases c2 : lft s b j
      · rw [if_pos c2, if_pos ⟨c2.1, fun z => (q.mp z).elim c2.2 c⟩]
      · rw [if_neg c2, if_neg (fun z => c2 ⟨z.1, fun w => z.2 (q.mpr (Or.inl w))⟩)]
  rw [e, smF_add, smF_one (f := fun _ => 1) 7 0 (by omega) (by omega)]
  rfl
theorem rem_0 {s b : Nat} (hs : s < 128) (hb : b < 128) (hsub : Sub b s) (h : rem s b = 0) : b = s := by
  apply bit_ext b hb s hs
  intro x hx
  refine ⟨fun q => hsub x hx q, fun q => ?_⟩
  by_cases c : bitN b x
  · exact c
  · have h1 := smF_part (f := fun x => if lft s b x then 1 else 0) 7 0 x (by omega) (by omega)
    have h2 : (if lft s b x then 1 else 0) = 1 := if_pos ⟨q, c⟩
    rw [h2] at h1
    unfold rem at h
    omega
theorem rem_self (s : Nat) : rem s s = 0 := by
  unfold rem
  rw [smF_congr (g := fun _ => 0) 7 0 (fun j _ _ => if_neg (fun q => q.2 q.1)), smF_zero]
theorem rem_mem (s : Nat) : rem s 0 = memS s := smF_congr 7 0 (fun j _ hj => by
  by_cases c : bitN s j
  · rw [if_pos ⟨c, bit_0 j (by omega)⟩]; exact c.symm
  · rw [if_neg (fun q => c q.1)]; exact ((bit01 s j).resolve_right c).symm)
theorem opS0 (mi : Nat → Nat → Nat) (be : Nat → Nat) (s : Nat) : op mi be s 7 s = 0 := by rw [op, if_pos rfl]
theorem luF_s (mi : Nat → Nat → Nat) (be : Nat → Nat) (s : Nat) : ∀ N, luF mi be s N s = []
  | 0 => rfl
  | N + 1 => by rw [luF, if_pos rfl]
theorem dfs_eq {mi : Nat → Nat → Nat} {be : Nat → Nat} {s : Nat} (hs : s < 128) (h9 : ∀ x, x < 7 → ∀ y, y < 7 → mi x y ≤ 9) : ∀ n N (d : List Nat) (b : Nat) (o : BT), n ≤ N → d.Nodup → (∀ y, y ∈ d → y < 7) → b < 128 → (∀ y, y < 7 → (bitN b y ↔ y ∈ d)) → Sub b s → rem s b = n → wgB mi be [] d = true → dfs mi be s n d o = if op mi be s 7 b < 1000 ∧ lsO (wgS mi [] d + op mi be s 7 b) o = true then some (wgS mi [] d + op mi be s 7 b, d ++ luF mi be s N b) else o := by
  intro n
  induction n with
  | zero =>
    intro N d b o _ hd h7 hb hbt hsub hr hB
    have e := rem_0 hs hb hsub hr
    subst e
    rw [dfs, wgh, opS0, luF_s, List.append_nil, Nat.add_zero]
    by_cases c : lsO (wgS mi [] d) o = true
    · rw [if_pos ⟨hB, c⟩, if_pos ⟨by omega, c⟩]
    · rw [if_neg (fun q => c q.2), if_neg (fun q => c q.2)]
  | succ n IH =>
    intro N d b o hN hd h7 hb hbt hsub hr hB
    obtain ⟨N, rfl⟩ : ∃ M, N = M + 1 := ⟨N - 1, by omega⟩
    have hbs : b ≠ s := fun e => by
      rw [e, rem_self] at hr
      omega
    have hO := op7 (mi := mi) (be := be) hs hb hsub hbs
    have hlf : ∀ x, x < 7 → ((bitN s x ∧ x ∉ d) ↔ lft s b x) := fun x hx => by
      rw [← hbt x hx]
    have fold : ∀ k x o, x + k = 7 → dfL (dfs mi be s n) s d x k o = if lbF mi be (op mi be s 7) s b x k 1000 < 1000 ∧ lsO (wgS mi [] d + lbF mi be (op mi be s 7) s b x k 1000) o = true then some (wgS mi [] d + lbF mi be (op mi be s 7) s b x k 1000, d ++ tlV mi be s N b (lbF mi be (op mi be s 7) s b x k 1000) x k) else o := by
      intro k
      induction k with
      | zero =>
        intro x o _
        rw [dfL, lbF, if_neg (fun q => absurd q.1 (by omega))]
      | succ k ih =>
        intro x o hx
        have hx7 : x < 7 := by omega
        have hle := lbF_le mi be (op mi be s 7) s b k (x + 1) 1000
        rw [dfL, lbF_st]
        by_cases c : lft s b x
        · rw [if_pos ((hlf x hx7).mpr c), if_pos c]
          have hnd : x ∉ d := ((hlf x hx7).mpr c).2
          have hmb : mbh mi x b = lsm (mi x) d := mbh_lsm hd h7 hbt
          have hm63 := mbh_le (mi := mi) (x := x) (s := b) (fun y hy => h9 x hx7 y hy)
          have child : dfs mi be s n (d ++ [x]) o = if min 1000 (mFr mi be (op mi be s 7) b x) < 1000 ∧ lsO (wgS mi [] d + min 1000 (mFr mi be (op mi be s 7) b x)) o = true then some (wgS mi [] d + min 1000 (mFr mi be (op mi be s 7) b x), d ++ x :: luF mi be s N (b ||| 2 ^ x)) else o := by
            have eB : wgB mi be [] (d ++ [x]) = decide (lsm (mi x) d ≤ be x) := by rw [wgB_sn, hB, Bool.true_and, List.nil_append]
            by_cases c2 : be x < mbh mi x b
            · rw [dfs_no n _ o (by rw [eB, ← hmb]; simpa using c2), mFr, if_pos c2, if_neg (fun q => absurd q.1 (by omega))]
            · have eB2 : wgB mi be [] (d ++ [x]) = true := by rw [eB, ← hmb]; simpa using c2
              have ih1 := IH N (d ++ [x]) (b ||| 2 ^ x) o (by omega) (nodup_sn hd hnd) (fun y hy => by
                rcases List.mem_append.mp hy with q | q
                · exact h7 y q
                · rw [List.mem_singleton.mp q]; exact hx7) (or_lt b hb x hx7) (bits_snoc hb hx7 hbt) (fun y hy q => by
                rcases (bit_or b hb x hx7 y hy).mp q with q | q
                · exact hsub y hy q
                · rw [q]; exact c.1) (by have := rem_ex hb hx7 c; omega) eB2
              have hop := op_le mi be s 7 (b ||| 2 ^ x)
              rw [ih1, mFr, if_neg c2, wgS_sn, List.nil_append, ← hmb, snoc_app]
              by_cases c3 : op mi be s 7 (b ||| 2 ^ x) < 1000
              · have := op_441 (mi := mi) (be := be) (s := s) h9 7 _ c3
                rw [Nat.min_eq_right (by omega), Nat.add_assoc]
                by_cases c4 : lsO (wgS mi [] d + (mbh mi x b + op mi be s 7 (b ||| 2 ^ x))) o = true
                · rw [if_pos ⟨c3, c4⟩, if_pos ⟨by omega, c4⟩]
                · rw [if_neg (fun q => c4 q.2), if_neg (fun q => c4 q.2)]
              · rw [if_neg (fun q => c3 q.1), if_neg (fun q => absurd q.1 (by omega))]
          rw [ih (x + 1) _ (by omega), fold_num child]
          by_cases c5 : min (min 1000 (mFr mi be (op mi be s 7) b x)) (lbF mi be (op mi be s 7) s b (x + 1) k 1000) < 1000
          · have et : (if min 1000 (mFr mi be (op mi be s 7) b x) ≤ lbF mi be (op mi be s 7) s b (x + 1) k 1000 then d ++ x :: luF mi be s N (b ||| 2 ^ x) else d ++ tlV mi be s N b (lbF mi be (op mi be s 7) s b (x + 1) k 1000) (x + 1) k) = d ++ tlV mi be s N b (min (min 1000 (mFr mi be (op mi be s 7) b x)) (lbF mi be (op mi be s 7) s b (x + 1) k 1000)) x (k + 1) := by
              by_cases c6 : min 1000 (mFr mi be (op mi be s 7) b x) ≤ lbF mi be (op mi be s 7) s b (x + 1) k 1000
              · rw [if_pos c6, tlV, fsV, if_pos ⟨c, by omega⟩]
                rfl
              · rw [if_neg c6, tlV, tlV, fsV, if_neg (fun q => by have := q.2; omega), Nat.min_eq_right (by omega)]
            rw [et]
          · rw [if_neg (fun q => c5 q.1), if_neg (fun q => c5 q.1)]
        · rw [if_neg (fun q => c ((hlf x hx7).mp q)), if_neg c, ih (x + 1) o (by omega)]
          have et : tlV mi be s N b (lbF mi be (op mi be s 7) s b (x + 1) k 1000) x (k + 1) = tlV mi be s N b (lbF mi be (op mi be s 7) s b (x + 1) k 1000) (x + 1) k := by
            rw [tlV, tlV, fsV, if_neg (fun q => c q.1)]
          rw [et]
    rw [dfs, fold 7 0 o rfl, ← hO]
    have et : tlV mi be s N b (op mi be s 7 b) 0 7 = luF mi be s (N + 1) b := by
      rw [tlV, fsV_fo, luF, if_neg hbs]
      cases foF mi be s b 0 7 with
      | none => rfl
      | some z => rfl
    rw [et]
theorem dfs_top {mi : Nat → Nat → Nat} {be : Nat → Nat} {s : Nat} (hs : s < 128) (h9 : ∀ x, x < 7 → ∀ y, y < 7 → mi x y ≤ 9) : dfs mi be s (memS s) [] none = if op mi be s 7 0 < 1000 then some (op mi be s 7 0, luF mi be s 7 0) else none := by
  rw [dfs_eq hs h9 (memS s) 7 [] 0 none (memS_le s) List.nodup_nil (fun y hy => by simp at hy) (by omega) bits_nil (fun x hx q => absurd q (bit_0 x hx)) (rem_mem s) rfl]
  rw [lsO_n, wgS, Nat.zero_add, List.nil_append]
  simp only [and_true]
/-! its sum is what is minded -/
def gdO (mi : Nat → Nat → Nat) (o : BT) : Prop := ∀ r, o = some r → r.1 = wgS mi [] r.2
theorem wgh_gd {mi : Nat → Nat → Nat} {be : Nat → Nat} {d : List Nat} {o : BT} (h : gdO mi o) : gdO mi (wgh mi be d o) := by
  unfold wgh
  by_cases c : wgB mi be [] d = true ∧ lsO (wgS mi [] d) o = true
  · rw [if_pos c]
    intro r e
    cases e
    rfl
  · rw [if_neg c]; exact h
theorem dfL_gd {mi : Nat → Nat → Nat} {F : List Nat → BT → BT} {s : Nat} {d : List Nat} (hF : ∀ d o, gdO mi o → gdO mi (F d o)) : ∀ k x o, gdO mi o → gdO mi (dfL F s d x k o)
  | 0, x, o, h => h
  | k + 1, x, o, h => by
    rw [dfL]
    apply dfL_gd hF k
    by_cases c : bitN s x ∧ x ∉ d
    · rw [if_pos c]; exact hF _ _ h
    · rw [if_neg c]; exact h
theorem dfs_gd {mi : Nat → Nat → Nat} {be : Nat → Nat} {s : Nat} : ∀ n d o, gdO mi o → gdO mi (dfs mi be s n d o)
  | 0, d, o, h => wgh_gd h
  | n + 1, d, o, h => by
    rw [dfs]
    exact dfL_gd (fun d o h => dfs_gd n d o h) 7 0 o h
theorem peace_sum {mi : Nat → Nat → Nat} {be : Nat → Nat} {s : Nat} (hs : s < 128) (h9 : ∀ x, x < 7 → ∀ y, y < 7 → mi x y ≤ 9) (h : op mi be s 7 0 < 1000) : miF mi (fun j => (luF mi be s 7 0).getD j 0) 0 (luF mi be s 7 0).length 0 = op mi be s 7 0 := by
  have g := dfs_gd (mi := mi) (be := be) (s := s) (memS s) [] none (fun r e => by cases e)
  rw [dfs_top hs h9, if_pos h] at g
  have e := g _ rfl
  obtain ⟨l1, l2⟩ := luF_ok (mi := mi) (be := be) (s := s) 7 0 (by omega)
  have z := wgS_miF (mi := mi) (luF mi be s 7 0) [] 0 l1 (fun y hy => (l2 y hy).2) (by omega) bits_nil
  simp only [List.nil_append, List.length_nil] at z
  rw [z]
  exact e.symm
