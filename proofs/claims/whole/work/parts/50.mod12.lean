/-! ===== the reference: all orders, one after another ===== -/
def dfL (F : List Nat → BT → BT) (s : Nat) (d : List Nat) (x : Nat) : Nat → BT → BT
  | 0, o => o
  | k + 1, o => dfL F s d (x + 1) k (if bitN s x ∧ x ∉ d then F (d ++ [x]) o else o)
def dfs (mi : Nat → Nat → Nat) (be : Nat → Nat) (s : Nat) : Nat → List Nat → BT → BT
  | 0, d, o => wgh mi be d o
  | n + 1, d, o => dfL (dfs mi be s n) s d 0 7 o
def SD (σ : Mem) (a : AS) (m : Nat) (d : List Nat) (o : BT) : Prop := MI σ a ∧ σ.1 127 25 = nI m ∧ AI σ 144 d ∧ BO σ m o
theorem BO_eq {σ σ' : Mem} {n : Nat} {o : BT} (h : BO σ n o) (h1 : σ'.1 127 24 = σ.1 127 24) (h2 : ∀ j, σ'.1 145 j = σ.1 145 j) : BO σ' n o := by
  rcases h with ⟨e, hb⟩ | ⟨c, l, e, hb, hb2, hb3⟩
  · exact Or.inl ⟨e, h1.trans hb⟩
  · exact Or.inr ⟨c, l, e, h1.trans hb, fun j hj => (h2 j).trans (hb2 j hj), hb3⟩
theorem SD_ord {σ : Mem} {a : AS} {m j : Nat} {d : List Nat} {o : BT} {v : Int32} (h : SD σ a m d o) (hj : d.length ≤ j) : SD (sI σ 144 j v) a m d o := by
  obtain ⟨h1, h2, h3, h4⟩ := h
  have ho : Off [144] σ (sI σ 144 j v) := (Off.rf _ σ).sI (by simp) _ _
  exact ⟨MI_scr h1 (ho.mono (by decide)), by rw [sI_off (by omega)]; exact h2, fun i hi => by rw [sI_off (by omega)]; exact h3 i hi, BO_eq h4 (sI_off (by omega)) (fun i => sI_off (by omega))⟩
theorem and_not : ∀ b, b < 128 → ∀ x, x < 7 → ¬ bitN b x → nI (b ||| 2 ^ x) &&& (nI (2 ^ x) ^^^ (-1)) = nI b := by decide +kernel
theorem AI_snoc {σ : Mem} {c x : Nat} {d : List Nat} (h : AI σ c d) (hx : σ.1 c d.length = nI x) : AI σ c (d ++ [x]) := fun j hj => by
  rw [snoc_len] at hj
  by_cases e : j = d.length
  · subst e
    rw [hx, mid_at]
  · rw [h j (by omega), gD_l (by omega)]
theorem AI_init {σ : Mem} {c x : Nat} {d : List Nat} (h : AI σ c (d ++ [x])) : AI σ c d ∧ σ.1 c d.length = nI x := ⟨fun j hj => by
  rw [h j (by rw [snoc_len]; omega), gD_l hj], by rw [h d.length (by rw [snoc_len]; omega), mid_at]⟩
def DfP (X : Nat × (Nat → Int32)) (a : AS) (s m n : Nat) : Prop := ∀ (d : List Nat) (b : Nat) (o : BT) (σ : Mem), d.length + n = m → d.Nodup → (∀ y, y ∈ d → y < 7) → b < 128 → (∀ y, y < 7 → (bitN b y ↔ y ∈ d)) → SD σ a m d o → (0 < n → σ.1 144 d.length = -1) → ∃ σ', (∀ Q, Rn X 159 50 [.ref 127, .int (nI s), .int (nI d.length), .int (nI b)] [] σ Q ↔ Rn X 159 50 [.ref 127, .int (nI s), .int (nI d.length + (-1)), .int (nI b)] [] σ' Q) ∧ SD σ' a m d (dfs (mi a) (be a) s n d o) ∧ Off [127, 144, 145] σ σ'
theorem nodup_sn {d : List Nat} {x : Nat} (hd : d.Nodup) (hx : x ∉ d) : (d ++ [x]).Nodup := nodup_snoc hd hx
theorem l_cand {X : Nat × (Nat → Int32)} {a : AS} {s m n : Nat} (hs : s < 128) (hm : m ≤ 7) (IH : DfP X a s m n) {d : List Nat} {b : Nat} (hl : d.length + (n + 1) = m) (hd : d.Nodup) (h7 : ∀ y, y ∈ d → y < 7) (hb : b < 128) (hbt : ∀ y, y < 7 → (bitN b y ↔ y ∈ d)) : ∀ k x (o : BT) (σ : Mem), x + k = 7 → SD σ a m d o → σ.1 144 d.length = nI x → ∃ σ', (∀ Q, Rn X 159 108 [.ref 127, .int (nI s), .int (nI d.length), .int (nI b)] [] σ Q ↔ Rn X 159 50 [.ref 127, .int (nI s), .int (nI d.length + (-1)), .int (nI b)] [] σ' Q) ∧ SD σ' a m d (dfL (dfs (mi a) (be a) s n) s d x k o) ∧ Off [127, 144, 145] σ σ' := by
  intro k
  induction k with
  | zero =>
    intro x o σ hx hS ho
    have e : x = 7 := by omega
    subst e
    refine ⟨σ, fun Q => ?_, hS, Off.rf _ _⟩
    rw [q_159_108]
    simp (disch := omega) only [q_159_109, q_159_112, q_159_113, q_159_114, q_159_116, q_159_119, q_159_120, q_159_121, q_159_124, q_159_125, q_159_126, q_159_127, q_159_128, q_159_129, q_159_132, q_159_133, q_159_134, q_159_137, q_159_138, q_159_139, q_159_140, q_159_141, q_159_142, q_159_143, q_159_146, q_159_147, q_159_150, q_159_151, q_159_152, q_159_153, q_159_154, q_159_155, q_159_156, q_159_159, q_159_160, q_159_163, q_159_164, q_159_165, q_159_167, q_159_170, q_159_173, vinT, iClamp, clr_i, clr_l, clr_r, clr_n, true_and, and_true, or_true, true_or, false_or, or_false, iLe, iLt, iEq, iAdd, iMul, List.cons_append, List.nil_append, List.append_nil, zb0, zb1, if_true, if_false, not_true_eq_false, not_false_eq_true, Bool.false_eq_true, Nat.one_ne_zero, Nat.zero_ne_one, Nat.reduceEqDiff, Nat.reduceAdd, if_pos, if_neg, m127, m128k, m128n, m129k, m129n, m130k, m130n, m131k, m131n, m132k, m132n, m133k, m133n, m134k, m134n, m135k, m135n, m136k, m136n, m137k, m137n, m138k, m138n, m139k, m139n, m140k, m140n, m141k, m141n, m142k, m142n, m143k, m143n, m144k, m144n, m145k, m145n, m146k, m146n, ho]
  | succ k ih =>
    intro x o σ hx hS ho
    have hx7 : x < 7 := by omega
    by_cases c1 : bitN s x
    · have c1' : s / 2 ^ x % 2 = 1 := c1
      by_cases c2 : x ∈ d
      · have c2' : b / 2 ^ x % 2 = 1 := (hbt x hx7).mpr c2
        have hof : Off [127, 144, 145] σ (sI σ 144 d.length (nI (x + 1))) := (Off.rf _ σ).sI (by simp) _ _
        obtain ⟨σ', i1, i2, i3⟩ := ih (x + 1) o (sI σ 144 d.length (nI (x + 1))) (by omega) (SD_ord hS (Nat.le_refl _)) (sI_at _ _ _ _)
        refine ⟨σ', fun Q => ?_, ?_, hof.tr i3⟩
        · rw [q_159_108]
          simp (disch := omega) only [q_159_109, q_159_112, q_159_113, q_159_114, q_159_116, q_159_119, q_159_120, q_159_121, q_159_124, q_159_125, q_159_126, q_159_127, q_159_128, q_159_129, q_159_132, q_159_133, q_159_134, q_159_137, q_159_138, q_159_139, q_159_140, q_159_141, q_159_142, q_159_143, q_159_146, q_159_147, q_159_150, q_159_151, q_159_152, q_159_153, q_159_154, q_159_155, q_159_156, vinT, iClamp, clr_i, clr_l, clr_r, clr_n, true_and, and_true, or_true, true_or, false_or, or_false, iLe, iLt, iEq, iAdd, iMul, List.cons_append, List.nil_append, List.append_nil, zb0, zb1, if_true, if_false, not_true_eq_false, not_false_eq_true, Bool.false_eq_true, Nat.one_ne_zero, Nat.zero_ne_one, Nat.reduceEqDiff, Nat.reduceAdd, if_pos, if_neg, m127, m128k, m128n, m129k, m129n, m130k, m130n, m131k, m131n, m132k, m132n, m133k, m133n, m134k, m134n, m135k, m135n, m136k, m136n, m137k, m137n, m138k, m138n, m139k, m139n, m140k, m140n, m141k, m141n, m142k, m142n, m143k, m143n, m144k, m144n, m145k, m145n, m146k, m146n, ho, bit_at, c1', c2']
          exact i1 Q
        · rw [dfL, if_neg (fun q => q.2 c2)]
          exact i2
      · have c2n : ¬ bitN b x := fun q => c2 ((hbt x hx7).mp q)
        have c2' : b / 2 ^ x % 2 = 0 := (bit01 b x).resolve_right c2n
        obtain ⟨s1, s2, s3, s4⟩ := id hS
        have key : ∀ σ1 : Mem, SD σ1 a m d o → σ1.1 144 d.length = nI x → (0 < n → σ1.1 144 (d.length + 1) = -1) → ∃ σ', (∀ Q, Rn X 159 50 [.ref 127, .int (nI s), .int (nI (d.length + 1)), .int (nI (b ||| 2 ^ x))] [] σ1 Q ↔ Rn X 159 50 [.ref 127, .int (nI s), .int (nI d.length + (-1)), .int (nI b)] [] σ' Q) ∧ SD σ' a m d (dfL (dfs (mi a) (be a) s n) s d x (k + 1) o) ∧ Off [127, 144, 145] σ1 σ' := by
          intro σ1 g1 g2 g3
          obtain ⟨t1, t2, t3, t4⟩ := id g1
          obtain ⟨σ2, i1, i2, i3⟩ := IH (d ++ [x]) (b ||| 2 ^ x) o σ1 (by rw [snoc_len]; omega) (nodup_sn hd c2) (fun y hy => by
            rcases List.mem_append.mp hy with q | q
            · exact h7 y q
            · rw [List.mem_singleton.mp q]; exact hx7) (or_lt b hb x hx7) (bits_snoc hb hx7 hbt) ⟨t1, t2, AI_snoc t3 g2, t4⟩ (by rw [snoc_len]; exact g3)
          rw [snoc_len] at i1
          obtain ⟨y1, y2, y3, y4⟩ := id i2
          obtain ⟨z1, z2⟩ := AI_init y3
          obtain ⟨σ', j1, j2, j3⟩ := ih (x + 1) (dfs (mi a) (be a) s n (d ++ [x]) o) (sI σ2 144 d.length (nI (x + 1))) (by omega) (SD_ord ⟨y1, y2, z1, y4⟩ (Nat.le_refl _)) (sI_at _ _ _ _)
          have hof : Off [127, 144, 145] σ2 (sI σ2 144 d.length (nI (x + 1))) := (Off.rf _ σ2).sI (by simp) _ _
          refine ⟨σ', fun Q => ?_, ?_, (i3.tr hof).tr j3⟩
          · rw [i1 Q, pk_m1, q_159_50]
            simp (disch := omega) only [q_159_51, q_159_54, q_159_55, q_159_56, q_159_59, q_159_62, q_159_63, q_159_66, q_159_69, q_159_72, q_159_73, q_159_74, q_159_77, q_159_78, q_159_79, q_159_82, q_159_83, q_159_86, q_159_87, q_159_88, q_159_91, q_159_92, q_159_93, q_159_94, q_159_95, q_159_96, q_159_97, q_159_98, q_159_99, q_159_102, q_159_103, q_159_104, q_159_105, q_159_106, q_159_107, vinT, iClamp, clr_i, clr_l, clr_r, clr_n, true_and, and_true, or_true, true_or, false_or, or_false, iLe, iLt, iEq, iAdd, iMul, List.cons_append, List.nil_append, List.append_nil, zb0, zb1, if_true, if_false, not_true_eq_false, not_false_eq_true, Bool.false_eq_true, Nat.one_ne_zero, Nat.zero_ne_one, Nat.reduceEqDiff, Nat.reduceAdd, if_pos, if_neg, m127, m128k, m128n, m129k, m129n, m130k, m130n, m131k, m131n, m132k, m132n, m133k, m133n, m134k, m134n, m135k, m135n, m136k, m136n, m137k, m137n, m138k, m138n, m139k, m139n, m140k, m140n, m141k, m141n, m142k, m142n, m143k, m143n, m144k, m144n, m145k, m145n, m146k, m146n, y2, z2, one_shl, and_not b hb x hx7 c2n]
            exact j1 Q
          · rw [dfL, if_pos ⟨c1, c2⟩]
            exact j2
        by_cases c3 : n = 0
        · obtain ⟨σ', i1, i2, i3⟩ := key σ hS ho (fun q => absurd q (by omega))
          refine ⟨σ', fun Q => ?_, i2, i3⟩
          rw [q_159_108]
          simp (disch := omega) only [q_159_109, q_159_112, q_159_113, q_159_114, q_159_116, q_159_119, q_159_120, q_159_121, q_159_124, q_159_125, q_159_126, q_159_127, q_159_128, q_159_129, q_159_132, q_159_133, q_159_134, q_159_137, q_159_138, q_159_139, q_159_140, q_159_141, q_159_142, q_159_143, q_159_146, q_159_147, q_159_150, q_159_151, q_159_152, q_159_153, q_159_154, q_159_155, q_159_156, q_159_159, q_159_160, q_159_163, q_159_164, q_159_165, q_159_167, q_159_170, q_159_173, q_159_176, q_159_177, q_159_178, q_159_179, q_159_182, q_159_183, q_159_184, q_159_185, q_159_186, q_159_187, q_159_190, q_159_191, q_159_192, q_159_195, q_159_198, q_159_199, q_159_202, q_159_203, q_159_204, q_159_205, vinT, iClamp, clr_i, clr_l, clr_r, clr_n, true_and, and_true, or_true, true_or, false_or, or_false, iLe, iLt, iEq, iAdd, iMul, List.cons_append, List.nil_append, List.append_nil, zb0, zb1, if_true, if_false, not_true_eq_false, not_false_eq_true, Bool.false_eq_true, Nat.one_ne_zero, Nat.zero_ne_one, Nat.reduceEqDiff, Nat.reduceAdd, if_pos, if_neg, m127, m128k, m128n, m129k, m129n, m130k, m130n, m131k, m131n, m132k, m132n, m133k, m133n, m134k, m134n, m135k, m135n, m136k, m136n, m137k, m137n, m138k, m138n, m139k, m139n, m140k, m140n, m141k, m141n, m142k, m142n, m143k, m143n, m144k, m144n, m145k, m145n, m146k, m146n, ho, bit_at, c1', c2', one_shl, fa_or, s2]
          exact i1 Q
        · have hof : Off [127, 144, 145] σ (sI σ 144 (d.length + 1) (-1)) := (Off.rf _ σ).sI (by simp) _ _
          obtain ⟨σ', i1, i2, i3⟩ := key (sI σ 144 (d.length + 1) (-1)) (SD_ord hS (by omega)) (by rw [sI_off (by omega)]; exact ho) (fun _ => sI_at _ _ _ _)
          refine ⟨σ', fun Q => ?_, i2, hof.tr i3⟩
          rw [q_159_108]
          simp (disch := omega) only [q_159_109, q_159_112, q_159_113, q_159_114, q_159_116, q_159_119, q_159_120, q_159_121, q_159_124, q_159_125, q_159_126, q_159_127, q_159_128, q_159_129, q_159_132, q_159_133, q_159_134, q_159_137, q_159_138, q_159_139, q_159_140, q_159_141, q_159_142, q_159_143, q_159_146, q_159_147, q_159_150, q_159_151, q_159_152, q_159_153, q_159_154, q_159_155, q_159_156, q_159_159, q_159_160, q_159_163, q_159_164, q_159_165, q_159_167, q_159_170, q_159_173, q_159_176, q_159_177, q_159_178, q_159_179, q_159_182, q_159_183, q_159_184, q_159_185, q_159_186, q_159_187, q_159_190, q_159_191, q_159_192, q_159_195, q_159_198, q_159_199, q_159_202, q_159_203, q_159_204, q_159_205, vinT, iClamp, clr_i, clr_l, clr_r, clr_n, true_and, and_true, or_true, true_or, false_or, or_false, iLe, iLt, iEq, iAdd, iMul, List.cons_append, List.nil_append, List.append_nil, zb0, zb1, if_true, if_false, not_true_eq_false, not_false_eq_true, Bool.false_eq_true, Nat.one_ne_zero, Nat.zero_ne_one, Nat.reduceEqDiff, Nat.reduceAdd, if_pos, if_neg, m127, m128k, m128n, m129k, m129n, m130k, m130n, m131k, m131n, m132k, m132n, m133k, m133n, m134k, m134n, m135k, m135n, m136k, m136n, m137k, m137n, m138k, m138n, m139k, m139n, m140k, m140n, m141k, m141n, m142k, m142n, m143k, m143n, m144k, m144n, m145k, m145n, m146k, m146n, ho, bit_at, c1', c2', one_shl, fa_or, s2]
          exact i1 Q
    · have c1' : s / 2 ^ x % 2 = 0 := (bit01 s x).resolve_right c1
      have hof : Off [127, 144, 145] σ (sI σ 144 d.length (nI (x + 1))) := (Off.rf _ σ).sI (by simp) _ _
      obtain ⟨σ', i1, i2, i3⟩ := ih (x + 1) o (sI σ 144 d.length (nI (x + 1))) (by omega) (SD_ord hS (Nat.le_refl _)) (sI_at _ _ _ _)
      refine ⟨σ', fun Q => ?_, ?_, hof.tr i3⟩
      · rw [q_159_108]
        simp (disch := omega) only [q_159_109, q_159_112, q_159_113, q_159_114, q_159_116, q_159_119, q_159_120, q_159_121, q_159_124, q_159_125, q_159_126, q_159_127, q_159_128, q_159_129, q_159_132, q_159_133, q_159_134, q_159_137, q_159_138, q_159_139, q_159_140, q_159_141, q_159_142, q_159_143, q_159_146, q_159_147, q_159_150, q_159_151, q_159_152, q_159_153, q_159_154, q_159_155, q_159_156, vinT, iClamp, clr_i, clr_l, clr_r, clr_n, true_and, and_true, or_true, true_or, false_or, or_false, iLe, iLt, iEq, iAdd, iMul, List.cons_append, List.nil_append, List.append_nil, zb0, zb1, if_true, if_false, not_true_eq_false, not_false_eq_true, Bool.false_eq_true, Nat.one_ne_zero, Nat.zero_ne_one, Nat.reduceEqDiff, Nat.reduceAdd, if_pos, if_neg, m127, m128k, m128n, m129k, m129n, m130k, m130n, m131k, m131n, m132k, m132n, m133k, m133n, m134k, m134n, m135k, m135n, m136k, m136n, m137k, m137n, m138k, m138n, m139k, m139n, m140k, m140n, m141k, m141n, m142k, m142n, m143k, m143n, m144k, m144n, m145k, m145n, m146k, m146n, ho, bit_at, c1']
        exact i1 Q
      · rw [dfL, if_neg (fun q => c1 q.1)]
        exact i2
theorem l_dfs {X : Nat × (Nat → Int32)} {a : AS} {s m : Nat} (ok : AOK a) (hs : s < 128) (hm : m ≤ 7) : ∀ n, DfP X a s m n := by
  intro n
  induction n with
  | zero =>
    intro d b o σ hl hd h7 hb hbt hS _
    obtain ⟨s1, s2, s3, s4⟩ := hS
    have e : d.length = m := by omega
    subst e
    obtain ⟨σ', i1, i2, i3, i4⟩ := s_weigh (X := X) (u1 := .null) (u2 := .null) (u3 := .null) (u4 := .null) ok s1 s2 s3 hm h7 s4
    have i1' := fun Q => i1 Q
    refine ⟨σ', fun Q => ?_, ⟨MI_scr s1 (i4.mono (by decide)), by rw [i3 25 (by omega)]; exact s2, AI_off s3 i4 (by simp), i2⟩, i4.mono (by simp)⟩
    rw [q_159_50]
    simp (disch := omega) only [q_159_51, q_159_54, q_159_55, q_159_56, q_159_59, q_159_62, q_159_63, q_159_66, q_159_69, vinT, iClamp, clr_i, clr_l, clr_r, clr_n, true_and, and_true, or_true, true_or, false_or, or_false, iLe, iLt, iEq, iAdd, iMul, List.cons_append, List.nil_append, List.append_nil, zb0, zb1, if_true, if_false, not_true_eq_false, not_false_eq_true, Bool.false_eq_true, Nat.one_ne_zero, Nat.zero_ne_one, Nat.reduceEqDiff, Nat.reduceAdd, if_pos, if_neg, m127, m128k, m128n, m129k, m129n, m130k, m130n, m131k, m131n, m132k, m132n, m133k, m133n, m134k, m134n, m135k, m135n, m136k, m136n, m137k, m137n, m138k, m138n, m139k, m139n, m140k, m140n, m141k, m141n, m142k, m142n, m143k, m143n, m144k, m144n, m145k, m145n, m146k, m146n, s2, i1']
  | succ n IH =>
    intro d b o σ hl hd h7 hb hbt hS hn
    obtain ⟨s1, s2, s3, s4⟩ := id hS
    have hm1 := hn (by omega)
    have n1 : ¬ nI 0 ≤ (-1 : Int32) := by decide
    have n2 : (-1 : Int32) + nI 1 = nI 0 := by decide
    have hof : Off [127, 144, 145] σ (sI σ 144 d.length (nI 0)) := (Off.rf _ σ).sI (by simp) _ _
    obtain ⟨σ', i1, i2, i3⟩ := l_cand (X := X) hs hm IH hl hd h7 hb hbt 7 0 o (sI σ 144 d.length (nI 0)) rfl (SD_ord hS (Nat.le_refl _)) (sI_at _ _ _ _)
    refine ⟨σ', fun Q => ?_, i2, hof.tr i3⟩
    rw [q_159_50]
    simp (disch := omega) only [q_159_51, q_159_54, q_159_55, q_159_56, q_159_59, q_159_62, q_159_63, q_159_66, q_159_69, q_159_72, q_159_73, q_159_74, q_159_77, q_159_78, q_159_79, q_159_82, q_159_83, q_159_86, q_159_87, q_159_88, q_159_91, q_159_92, q_159_93, q_159_94, q_159_95, q_159_96, q_159_97, q_159_98, q_159_99, q_159_102, q_159_103, q_159_104, q_159_105, q_159_106, q_159_107, vinT, iClamp, clr_i, clr_l, clr_r, clr_n, true_and, and_true, or_true, true_or, false_or, or_false, iLe, iLt, iEq, iAdd, iMul, List.cons_append, List.nil_append, List.append_nil, zb0, zb1, if_true, if_false, not_true_eq_false, not_false_eq_true, Bool.false_eq_true, Nat.one_ne_zero, Nat.zero_ne_one, Nat.reduceEqDiff, Nat.reduceAdd, if_pos, if_neg, m127, m128k, m128n, m129k, m129n, m130k, m130n, m131k, m131n, m132k, m132n, m133k, m133n, m134k, m134n, m135k, m135n, m136k, m136n, m137k, m137n, m138k, m138n, m139k, m139n, m140k, m140n, m141k, m141n, m142k, m142n, m143k, m143n, m144k, m144n, m145k, m145n, m146k, m146n, s2, hm1, n1, n2, fa_and, Nat.and_self]
    exact i1 Q
def memS (s : Nat) : Nat := smF (fun x => s / 2 ^ x % 2) 0 7
theorem memS_le (s : Nat) : memS s ≤ 7 := smF_le (f := fun x => s / 2 ^ x % 2) (c := 1) 7 0 (fun j _ _ => by
  have := bit01 s j
  omega)
theorem l_mem {X : Nat × (Nat → Int32)} {s : Nat} {v3 : Value} (hs : s < 128) : ∀ n i c (σ : Mem), i + n = 7 → σ.1 127 25 = nI c → ∃ σ', (∀ Q, Rn X 159 7 [.ref 127, .int (nI s), .int (nI i), v3] [] σ Q ↔ Rn X 159 33 [.ref 127, .int (nI s), .int (nI 7), v3] [] σ' Q) ∧ σ'.1 127 25 = nI (c + smF (fun x => s / 2 ^ x % 2) i n) ∧ Off [127] σ σ' := by
  intro n
  induction n with
  | zero =>
    intro i c σ hi hc
    have e : i = 7 := by omega
    subst e
    refine ⟨σ, fun Q => ?_, by rw [smF, Nat.add_zero]; exact hc, Off.rf _ _⟩
    rw [q_159_7]
    simp (disch := omega) only [q_159_8, q_159_10, q_159_13, q_159_14, q_159_15, q_159_18, q_159_19, q_159_20, q_159_21, q_159_22, q_159_23, q_159_24, q_159_27, q_159_30, vinT, iClamp, clr_i, clr_l, clr_r, clr_n, true_and, and_true, or_true, true_or, false_or, or_false, iLe, iLt, iEq, iAdd, iMul, List.cons_append, List.nil_append, List.append_nil, zb0, zb1, if_true, if_false, not_true_eq_false, not_false_eq_true, Bool.false_eq_true, Nat.one_ne_zero, Nat.zero_ne_one, Nat.reduceEqDiff, Nat.reduceAdd, if_pos, if_neg]
  | succ n ih =>
    intro i c σ hi hc
    have hof : Off [127] σ (sI σ 127 25 (nI (c + s / 2 ^ i % 2))) := (Off.rf _ σ).sI (by simp) _ _
    obtain ⟨σ', i1, i2, i3⟩ := ih (i + 1) (c + s / 2 ^ i % 2) (sI σ 127 25 (nI (c + s / 2 ^ i % 2))) (by omega) (sI_at _ _ _ _)
    refine ⟨σ', fun Q => ?_, by rw [smF, ← Nat.add_assoc]; exact i2, hof.tr i3⟩
    rw [q_159_7]
    simp (disch := omega) only [q_159_8, q_159_10, q_159_13, q_159_14, q_159_15, q_159_18, q_159_19, q_159_20, q_159_21, q_159_22, q_159_23, q_159_24, q_159_27, q_159_30, vinT, iClamp, clr_i, clr_l, clr_r, clr_n, true_and, and_true, or_true, true_or, false_or, or_false, iLe, iLt, iEq, iAdd, iMul, List.cons_append, List.nil_append, List.append_nil, zb0, zb1, if_true, if_false, not_true_eq_false, not_false_eq_true, Bool.false_eq_true, Nat.one_ne_zero, Nat.zero_ne_one, Nat.reduceEqDiff, Nat.reduceAdd, if_pos, if_neg, m127, m128k, m128n, m129k, m129n, m130k, m130n, m131k, m131n, m132k, m132n, m133k, m133n, m134k, m134n, m135k, m135n, m136k, m136n, m137k, m137n, m138k, m138n, m139k, m139n, m140k, m140n, m141k, m141n, m142k, m142n, m143k, m143n, m144k, m144n, m145k, m145n, m146k, m146n, hc, bit_at]
    exact i1 Q
theorem s_layP {X : Nat × (Nat → Int32)} {σ : Mem} {a : AS} {s : Nat} {u v : Value} (ok : AOK a) (h : MI σ a) (hs : s < 128) : ∃ σ', Ev X 159 [.ref 127, .int (nI s), u, v] σ [] σ' ∧ σ'.1 127 25 = nI (memS s) ∧ BO σ' (memS s) (dfs (mi a) (be a) s (memS s) [] none) ∧ Off [127, 144, 145] σ σ' := by
  have h0 : Off [127] σ (sI σ 127 25 (nI 0)) := (Off.rf _ σ).sI (by simp) _ _
  obtain ⟨σ1, i1, i2, i3⟩ := l_mem (X := X) (v3 := v) hs 7 0 0 (sI σ 127 25 (nI 0)) rfl (sI_at _ _ _ _)
  rw [Nat.zero_add] at i2
  have i2' : σ1.1 127 25 = nI (memS s) := i2
  have h1 : Off [127, 144, 145] σ1 (sI (sI σ1 127 24 (-9)) 144 0 (-1)) := ((Off.rf _ σ1).sI (by simp) _ _).sI (by simp) _ _
  have h2 : Off [127, 144, 145] σ (sI (sI σ1 127 24 (-9)) 144 0 (-1)) := ((h0.mono (by simp)).tr (i3.mono (by simp))).tr h1
  obtain ⟨σ', j1, j2, j3⟩ := l_dfs (X := X) ok hs (memS_le s) (memS s) [] 0 none (sI (sI σ1 127 24 (-9)) 144 0 (-1)) (by simp) List.nodup_nil (fun y hy => by simp at hy) (by omega) bits_nil ⟨MI_scr h (h2.mono (by decide)), by rw [sI_off (by omega), sI_off (by omega)]; exact i2', fun j hj => by simp at hj, Or.inl ⟨rfl, by rw [sI_off (by omega), sI_at]⟩⟩ (fun _ => by rw [List.length_nil, sI_at])
  refine ⟨σ', fun Q => ?_, j2.2.1, j2.2.2.2, h2.tr j3⟩
  rw [List.length_nil] at j1
  simp (disch := omega) only [q_159_0, q_159_1, q_159_2, q_159_5, q_159_6, vinT, iClamp, clr_i, clr_l, clr_r, clr_n, true_and, and_true, or_true, true_or, false_or, or_false, iLe, iLt, iEq, iAdd, iMul, List.cons_append, List.nil_append, List.append_nil, zb0, zb1, if_true, if_false, not_true_eq_false, not_false_eq_true, Bool.false_eq_true, Nat.one_ne_zero, Nat.zero_ne_one, Nat.reduceEqDiff, Nat.reduceAdd, if_pos, if_neg, m127, m128k, m128n, m129k, m129n, m130k, m130n, m131k, m131n, m132k, m132n, m133k, m133n, m134k, m134n, m135k, m135n, m136k, m136n, m137k, m137n, m138k, m138n, m139k, m139n, m140k, m140n, m141k, m141n, m142k, m142n, m143k, m143n, m144k, m144n, m145k, m145n, m146k, m146n]
  rw [i1 Q]
  simp (disch := omega) only [q_159_33, q_159_34, q_159_36, q_159_39, q_159_40, q_159_41, q_159_42, q_159_43, q_159_44, q_159_47, q_159_48, q_159_49, vinT, iClamp, clr_i, clr_l, clr_r, clr_n, true_and, and_true, or_true, true_or, false_or, or_false, iLe, iLt, iEq, iAdd, iMul, List.cons_append, List.nil_append, List.append_nil, zb0, zb1, if_true, if_false, not_true_eq_false, not_false_eq_true, Bool.false_eq_true, Nat.one_ne_zero, Nat.zero_ne_one, Nat.reduceEqDiff, Nat.reduceAdd, if_pos, if_neg, m127, m128k, m128n, m129k, m129n, m130k, m130n, m131k, m131n, m132k, m132n, m133k, m133n, m134k, m134n, m135k, m135n, m136k, m136n, m137k, m137n, m138k, m138n, m139k, m139n, m140k, m140n, m141k, m141n, m142k, m142n, m143k, m143n, m144k, m144n, m145k, m145n, m146k, m146n]
  rw [j1 Q, q_159_50]
  simp (disch := omega) only [q_159_51, q_159_208, vinT, iClamp, clr_i, clr_l, clr_r, clr_n, true_and, and_true, or_true, true_or, false_or, or_false, iLe, iLt, iEq, iAdd, iMul, List.cons_append, List.nil_append, List.append_nil, zb0, zb1, if_true, if_false, not_true_eq_false, not_false_eq_true, Bool.false_eq_true, Nat.one_ne_zero, Nat.zero_ne_one, Nat.reduceEqDiff, Nat.reduceAdd, if_pos, if_neg, neg1_lt]
