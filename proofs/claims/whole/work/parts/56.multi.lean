/-! ===== an array of int arrays is made: the outer one first, then each inner one ===== -/
def gIn (cI : ClassId) (K : Nat) : Cell := { cls := cI, slots := Array.replicate K (.int 0), vm := .none }
def gOu (cA : ClassId) (N h : Nat) : Nat → Cell
  | 0 => { cls := cA, slots := Array.replicate N .null, vm := .none }
  | i + 1 => (gOu cA N h i).setSlot i (.ref (h + 1 + i))
def gSt (T : State) (cA cI : ClassId) (N K : Nat) : Nat → State
  | 0 => T.pushCell (gOu cA N T.heap.size 0)
  | i + 1 => ((gSt T cA cI N K i).pushCell (gIn cI K)).setCell T.heap.size (gOu cA N T.heap.size (i + 1))
theorem gOu_f (cA : ClassId) (N h : Nat) : ∀ i, (gOu cA N h i).cls = cA ∧ (gOu cA N h i).vm = .none ∧ (gOu cA N h i).slots.size = N ∧ (gOu cA N h i).monitor = {} ∧ (gOu cA N h i).hash = none
  | 0 => ⟨rfl, rfl, by simp [gOu], rfl, rfl⟩
  | i + 1 => by
    obtain ⟨a, b, d, u, v⟩ := gOu_f cA N h i
    exact ⟨by simp [gOu, Cell.setSlot, a], by simp [gOu, Cell.setSlot, b], by simp [gOu, Cell.setSlot, d], by simp [gOu, Cell.setSlot, u], by simp [gOu, Cell.setSlot, v]⟩
theorem gSt_f (T : State) (cA cI : ClassId) (N K : Nat) : ∀ i, (gSt T cA cI N K i).heap.size = T.heap.size + 1 + i ∧ (gSt T cA cI N K i).heap[T.heap.size]? = some (gOu cA N T.heap.size i) ∧ (gSt T cA cI N K i).vm = T.vm ∧ (gSt T cA cI N K i).slotsUsed = T.slotsUsed + N + i * K
  | 0 => ⟨by simp [gSt], by simp [gSt], rfl, by simp [gSt, gOu]⟩
  | i + 1 => by
    obtain ⟨a, b, d, u⟩ := gSt_f T cA cI N K i
    have hlt : T.heap.size < (gSt T cA cI N K i).heap.size := by omega
    have hb' : ((gSt T cA cI N K i).pushCell (gIn cI K)).heap[T.heap.size]? = some (gOu cA N T.heap.size i) := by rw [State.heap_pushCell_of_lt (h := hlt)]; exact b
    refine ⟨?_, State.heap_setCell_self hb', by simp [gSt, d], ?_⟩
    · simp [gSt, State.setCell, a]; omega
    · simp [gSt, u, gIn, Nat.succ_mul]; omega
theorem gSt_top (T : State) (f : JFrame) (cA cI : ClassId) (N K : Nat) : ∀ i, gSt (T.setTop f) cA cI N K i = (gSt T cA cI N K i).setTop f
  | 0 => rfl
  | i + 1 => by simp only [gSt, gSt_top T f cA cI N K i, State.heap_setTop, State.pushCell_setTop, State.setCell_setTop]
theorem gSt_old (T : State) (cA cI : ClassId) (N K : Nat) {q : Nat} (hq : q < T.heap.size) : ∀ i, (gSt T cA cI N K i).heap[q]? = T.heap[q]?
  | 0 => State.heap_pushCell_of_lt _ _ hq
  | i + 1 => by
    have f1 := (gSt_f T cA cI N K i).1
    have hlt : q < (gSt T cA cI N K i).heap.size := Nat.lt_of_lt_of_le hq (by rw [f1]; omega)
    show (((gSt T cA cI N K i).pushCell (gIn cI K)).setCell T.heap.size _).heap[q]? = _
    rw [State.heap_setCell_other (Nat.ne_of_gt hq), State.heap_pushCell_of_lt (h := hlt)]
    exact gSt_old T cA cI N K hq i
theorem gSt_in (T : State) (cA cI : ClassId) (N K : Nat) : ∀ i j, j < i → (gSt T cA cI N K i).heap[T.heap.size + 1 + j]? = some (gIn cI K)
  | 0, _, h => absurd h (Nat.not_lt_zero _)
  | i + 1, j, h => by
    have f1 := (gSt_f T cA cI N K i).1
    show (((gSt T cA cI N K i).pushCell (gIn cI K)).setCell T.heap.size _).heap[T.heap.size + 1 + j]? = _
    rw [State.heap_setCell_other (show T.heap.size ≠ T.heap.size + 1 + j by omega)]
    by_cases hj : j < i
    · have hlt : T.heap.size + 1 + j < (gSt T cA cI N K i).heap.size := by rw [f1]; omega
      rw [State.heap_pushCell_of_lt (h := hlt)]
      exact gSt_in T cA cI N K i j hj
    · have e : j = i := by omega
      subst e
      rw [← f1]
      exact State.heap_pushCell_size _ _
theorem gOu_at (cA : ClassId) (N h : Nat) : ∀ i j, j < N → (gOu cA N h i).slots[j]? = some (if j < i then .ref (h + 1 + j) else .null)
  | 0, j, hj => by simp [gOu, hj]
  | i + 1, j, hj => by
    have ih := gOu_at cA N h i j hj
    have hs := (gOu_f cA N h i).2.2.1
    show ((gOu cA N h i).setSlot i (.ref (h + 1 + i))).slots[j]? = _
    simp only [Cell.setSlot, Array.getElem?_setIfInBounds]
    by_cases e : i = j
    · subst e; simp [hs, hj]
    · rw [if_neg e, ih]
      by_cases h2 : j < i
      · rw [if_pos h2, if_pos (by omega)]
      · rw [if_neg h2, if_neg (by omega)]
section MUL1
variable {E : CtlPost} {e : Env} {d : Bool} {acts : List Action} {s : State}
theorem wp_mk {c comp : ClassId} {k : Class} {type : FieldType} {len : Nat} {init : Value} (hk : s.vm.classes[c]? = some k) (hkind : k.kind = .array comp type)
    (hlimit : ¬ len > e.platform.arrayLengthLimit) (hheap : ¬ len * componentBytes type > e.platform.maxHeapBytes) (hfit : fits type init = true) (hdef : init.isDefault = true) {Q : Addr → Pre}
    (h1 : s.heap.size < e.platform.maxCells) (h2 : s.slotsUsed + len ≤ e.platform.maxSlots)
    (hq : Q s.heap.size d acts (s.pushCell { cls := c, slots := Array.replicate len init, vm := .none })) : wp (Jvm.newArray c len init) Q E e d acts s := by
  have hfits : ∀ i v, (Array.replicate len init)[i]? = some v → s.fitsSlot c .none i v = true := by
    intro i v hv
    simp only [Array.getElem?_replicate] at hv
    split at hv
    · cases hv; simp [State.fitsSlot, State.slotType?, hk, hkind, hfit]
    · cases hv
  have hda : allocActs (Array.replicate len init) s.heap.size acts = acts := by
    have hall : ((Array.replicate len init).all (·.isDefault)) = true := by
      rw [Array.all_replicate]; split <;> simp [hdef]
    unfold allocActs; rw [if_pos hall]
  simp only [Jvm.newArray, Jvm.arrayFits, wp_bind', W.ask, W.ite, hlimit, if_false, wp_pure', W.theClass, hk, hkind, hheap, W.alloc, W.stop, Option.some.injEq, exists_eq_left', Array.size_replicate, hda]
  rw [if_neg (by omega)]
  exact ⟨h1, h2, hfits, hq⟩
theorem wp_in {cI cc : ClassId} {kc : Class} {m : Int32} (hkc : s.vm.classes[cI]? = some kc) (hkindc : kc.kind = .array cc .int) (hm : ¬ m < 0)
    (hl2 : ¬ m.toNatClampNeg > e.platform.arrayLengthLimit) (hh2 : ¬ m.toNatClampNeg * componentBytes .int > e.platform.maxHeapBytes)
    (h1 : s.heap.size < e.platform.maxCells) (h2 : s.slotsUsed + m.toNatClampNeg ≤ e.platform.maxSlots)
    {Q : Addr → Pre} (hq : Q s.heap.size d acts (s.pushCell (gIn cI m.toNatClampNeg))) : wp (multianewarray.make cI [m]) Q E e d acts s := by
  rw [multianewarray.make]
  simp only [wp_bind', W.ite, hm, if_false, wp_pure', W.theClass, hkc, hkindc, Option.some.injEq, exists_eq_left']
  exact wp_mk hkc hkindc hl2 hh2 rfl rfl h1 h2 hq
theorem wp_ou {cA cI cc : ClassId} {k kc : Class} {n m : Int32} (hk : s.vm.classes[cA]? = some k) (hkind : k.kind = .array cI (.array .int))
    (hkc : s.vm.classes[cI]? = some kc) (hkindc : kc.kind = .array cc .int) (hn : ¬ n < 0) (hm : ¬ m < 0)
    (hl1 : ¬ n.toNatClampNeg > e.platform.arrayLengthLimit) (hh1 : ¬ n.toNatClampNeg * componentBytes (.array .int) > e.platform.maxHeapBytes)
    (hl2 : ¬ m.toNatClampNeg > e.platform.arrayLengthLimit) (hh2 : ¬ m.toNatClampNeg * componentBytes .int > e.platform.maxHeapBytes)
    (hc : s.heap.size + 1 + n.toNatClampNeg ≤ e.platform.maxCells) (hs : s.slotsUsed + n.toNatClampNeg + n.toNatClampNeg * m.toNatClampNeg ≤ e.platform.maxSlots)
    {Q : Addr → Pre} (hq : ∀ d' acts', Q s.heap.size d' acts' (gSt s cA cI n.toNatClampNeg m.toNatClampNeg n.toNatClampNeg)) : wp (multianewarray.make cA [n, m]) Q E e d acts s := by
  have hfind : ([m].find? (· < 0)) = none := by simp [hm]
  rw [multianewarray.make]
  simp only [wp_bind', W.ite, hn, if_false, wp_pure', W.theClass, hk, hkind, Option.some.injEq, exists_eq_left']
  refine wp_mk hk hkind hl1 hh1 rfl rfl (by omega) (by have := Nat.zero_le (n.toNatClampNeg * m.toNatClampNeg); omega) ?_
  simp only [hfind]
  rw [ite_self, wp_bind', Std.Legacy.Range.forIn_eq_forIn_range']
  have hsz : ([:n.toNatClampNeg] : Std.Legacy.Range).size = n.toNatClampNeg := by simp [Std.Legacy.Range.size]
  rw [hsz]
  show wp (forIn (List.range' 0 n.toNatClampNeg 1) PUnit.unit _) _ E e d acts _
  refine wp_forIn_inv (fun rest s' => ∃ i, i ≤ n.toNatClampNeg ∧ rest = List.range' i (n.toNatClampNeg - i) ∧ s' = gSt s cA cI n.toNatClampNeg m.toNatClampNeg i) _ _ ⟨0, Nat.zero_le _, rfl, rfl⟩ ?_ ?_
  · rintro x rest s' d' acts' Q' ⟨i, hi, hl, rfl⟩ hnext
    have hlt : i < n.toNatClampNeg := by
      by_cases h : i < n.toNatClampNeg
      · exact h
      · rw [show n.toNatClampNeg - i = 0 from by omega] at hl; simp at hl
    obtain ⟨rfl, hrest⟩ : x = i ∧ rest = List.range' (i + 1) (n.toNatClampNeg - (i + 1)) := by
      rw [show n.toNatClampNeg - i = (n.toNatClampNeg - (i + 1)) + 1 from by omega, List.range'_succ] at hl
      exact ⟨(List.cons.inj hl).1, (List.cons.inj hl).2⟩
    obtain ⟨f1, f2, f3, f4⟩ := gSt_f s cA cI n.toNatClampNeg m.toNatClampNeg x
    obtain ⟨o1, o2, o3, -, -⟩ := gOu_f cA n.toNatClampNeg s.heap.size x
    have hmul : x * m.toNatClampNeg + m.toNatClampNeg ≤ n.toNatClampNeg * m.toNatClampNeg := by
      have := Nat.mul_le_mul_right m.toNatClampNeg (show x + 1 ≤ n.toNatClampNeg from hlt)
      rw [Nat.succ_mul] at this; exact this
    simp only [wp_bind']
    refine wp_in (by rw [f3]; exact hkc) hkindc hm hl2 hh2 (by rw [f1]; omega) (by rw [f4]; omega) ?_
    have hlt0 : s.heap.size < (gSt s cA cI n.toNatClampNeg m.toNatClampNeg x).heap.size := by rw [f1]; omega
    simp only [wp_bind', W.writeLoc, wp_pure']
    refine ⟨gOu cA n.toNatClampNeg s.heap.size x, by rw [State.heap_pushCell_of_lt (h := hlt0)]; exact f2, by rw [o2]; simp, by rw [o3]; exact hlt, ?_, hnext _ _ _ ⟨x + 1, hlt, hrest, ?_⟩⟩
    · rw [o1, o2]
      simp [State.fitsSlot, State.slotType?, f3, hk, hkind, fits]
    · rw [f1]; rfl
  · rintro s' d' acts' ⟨i, hi, hl, rfl⟩
    have hiN : i = n.toNatClampNeg := by
      by_cases h : i < n.toNatClampNeg
      · rw [show n.toNatClampNeg - i = (n.toNatClampNeg - (i + 1)) + 1 from by omega, List.range'_succ] at hl; cases hl
      · omega
    subst hiN
    simp only [wp_pure']
    exact hq d' acts'
end MUL1
section MUL2
variable {p : Program} {l : Launch} {e : Env} {R : Room} {s : State} {m : MethodId} {args : Array Value} {below : List Frame} {meth : Method} {c : Code} {H : Heap} {locs : List Loc} {cells slots : Nat} {Q : State → Prop}
theorem gSt_std {T : State} (X : Stand p l e R s m args below meth c T locs cells slots) (cA cI : ClassId) (N K : Nat) : ∀ i, Stand p l e R s m args below meth c (gSt T cA cI N K i) (locs ++ (List.range i).map fun j => ⟨T.heap.size, j⟩) (cells + 1 + i) (slots + N + i * K)
  | 0 => by
    have h := X.pushed (gOu cA N T.heap.size 0)
    rw [(gOu_f cA N T.heap.size 0).2.2.1] at h
    simpa [gSt] using h
  | i + 1 => by
    have Xi := gSt_std X cA cI N K i
    obtain ⟨f1, f2, f3, f4⟩ := gSt_f T cA cI N K i
    have hlt0 : T.heap.size < (gSt T cA cI N K i).heap.size := by rw [f1]; omega
    have hcell : ((gSt T cA cI N K i).pushCell (gIn cI K)).heap[T.heap.size]? = some (gOu cA N T.heap.size i) := by rw [State.heap_pushCell_of_lt (h := hlt0)]; exact f2
    have h := (Xi.pushed (gIn cI K)).stored hcell i (.ref (T.heap.size + 1 + i))
    have e1 : (gIn cI K).slots.size = K := by simp [gIn]
    rw [e1] at h
    have e2 : (locs ++ (List.range (i + 1)).map fun j => (⟨T.heap.size, j⟩ : Loc)) = (locs ++ (List.range i).map fun j => (⟨T.heap.size, j⟩ : Loc)) ++ [⟨T.heap.size, i⟩] := by simp [List.range_succ, List.append_assoc]
    have e3 : slots + N + (i + 1) * K = slots + N + i * K + K := by rw [Nat.succ_mul]; omega
    rw [e2, e3]
    exact h
theorem gOu_arr (cA : ClassId) (N h : Nat) : gOu cA N h N = arrV cA N (fun j => .ref (h + 1 + j)) := by
  obtain ⟨a1, a2, a3, a4, a5⟩ := gOu_f cA N h N
  have e : (gOu cA N h N).slots = (arrV cA N (fun j => .ref (h + 1 + j))).slots := by
    apply Array.ext
    · rw [a3, arrV_size]
    · intro i h1 h2
      rw [a3] at h1
      have q1 := gOu_at cA N h N i h1
      rw [if_pos h1] at q1
      have q2 : (arrV cA N (fun j => Value.ref (h + 1 + j))).slots[i]? = some (.ref (h + 1 + i)) := by rw [arrV_read _ _ h1]
      rw [← q2] at q1
      rw [Array.getElem?_eq_getElem (by rw [a3]; exact h1), Array.getElem?_eq_getElem h2] at q1
      exact Option.some.inj q1
  cases hg : gOu cA N h N with
  | mk c1 c2 c3 c4 c5 =>
    rw [hg] at a1 a2 a4 a5 e
    dsimp only at a1 a2 a4 a5 e
    simp only [arrV] at e ⊢
    first | (subst a1; subst a2; subst a4; subst a5; subst e; rfl) | simp_all
theorem W_multi {cc : ByteArray} (hexec : p.tables.exec = Jvm.exec) (hb : c.code = cc) {own : String} {index : Nat} (hown : s.vm.findClass own = some m.cls) (hclink : (Cond.classLink own index "[[I").before args s = true) {cA cI : ClassId} (hnA : s.vm.findClass "[[I" = some cA) (hA : ∃ kA : Class, s.vm.classes[cA]? = some kA ∧ kA.kind = .array cI (.array .int)) (hI : ∃ (kI : Class) (c2 : ClassId), s.vm.classes[cI]? = some kI ∧ kI.kind = .array c2 .int)
    {pc : Nat} {ls : Array Slot} {rest : List Value} {n k : Int32} {N K : Nat} (hdg : decode cc pc = .ok (.multianewarray index 2, 4)) (hn : ¬ n < 0) (hk : ¬ k < 0) (hN : n.toNatClampNeg = N) (hK : k.toNatClampNeg = K) (hb1 : N ≤ 1000) (hb2 : K ≤ 1000) (hcells : cells + (1 + N) ≤ R.cells) (hslots : slots + (N + N * K) ≤ R.slots)
    (kk : ∀ (H1 : Heap) (locs1 : List Loc), H1.size = H.size + 1 + N → H1[H.size]? = some (arrV cA N (fun j => .ref (H.size + 1 + j))) → (∀ j, j < N → H1[H.size + 1 + j]? = some (arrV cI K (fun _ => .int 0))) → (∀ q, q < H.size → H1[q]? = H[q]?) → (∀ x ∈ locs1, x ∈ locs ∨ x.base = H.size) → W p l e R s m args below meth c H1 locs1 (cells + 1 + N) (slots + N + N * K) Q (F0 m (pc + 4) ls (.ref H.size :: rest))) : W p l e R s m args below meth c H locs cells slots Q (F0 m pc ls (.int k :: .int n :: rest)) := by
  intro T hT X
  subst hT; subst hb; subst hN; subst hK
  have hpl : e.platform.magicAccessors = ({} : Platform).magicAccessors := by rw [X.admits.platform]
  obtain ⟨kA, hkA, hkindA⟩ := hA
  obtain ⟨kC, c2, hkC, hkindC⟩ := hI
  obtain ⟨c0, hfc0, hcl⟩ := Cond.classLink_spec hown hclink e.platform hpl
  cases hnA.symm.trans hfc0
  obtain ⟨hg₁, hwarm₁, hready₁⟩ := State.classEntry (e := e) X.warmed hcl
  generalize T.vm.noted m.cls index (.cls cA) = vm₁ at hg₁ hwarm₁ hready₁
  have hal : s.vm.Alike vm₁ := hwarm₁.alike
  obtain ⟨kA₁, hkA₁, heA⟩ := hal.2.2 _ _ hkA
  obtain ⟨kC₁, hkC₁, heC⟩ := hal.2.2 _ _ hkC
  have hkindA₁ : kA₁.kind = .array cI (.array .int) := by rw [heA]; exact hkindA
  have hkindC₁ : kC₁.kind = .array c2 .int := by rw [heC]; exact hkindC
  have X₁ := X.noted hwarm₁
  obtain ⟨hr1, hr2⟩ := X.roomAbove hcells hslots
  have XF := gSt_std X₁ cA cI n.toNatClampNeg k.toNatClampNeg n.toNatClampNeg
  obtain ⟨f1, f2, f3, f4⟩ := gSt_f (T.setVm vm₁) cA cI n.toNatClampNeg k.toNatClampNeg n.toNatClampNeg
  have hh0 : (T.setVm vm₁).heap = T.heap := rfl
  rw [hh0] at f1 f2 XF
  obtain ⟨t', a1, b1⟩ := kk (gSt (T.setVm vm₁) cA cI n.toNatClampNeg k.toNatClampNeg n.toNatClampNeg).heap _ f1 (by rw [f2, gOu_arr]) (fun j hj => by
      have q := gSt_in (T.setVm vm₁) cA cI n.toNatClampNeg k.toNatClampNeg n.toNatClampNeg j hj
      rw [hh0] at q
      rw [q, ← arrV_new]
      rfl) (fun q hq => gSt_old (T.setVm vm₁) cA cI n.toNatClampNeg k.toNatClampNeg hq _) (fun x hx => by
      rcases List.mem_append.mp hx with h | h
      · exact Or.inl h
      · obtain ⟨j, -, rfl⟩ := List.mem_map.mp h
        exact Or.inr rfl) _ rfl XF
  refine ⟨t', ?_, b1⟩
  have hl1 : ¬ n.toNatClampNeg > e.platform.arrayLengthLimit := by rw [Launch.admits_arrayLengthLimit X.admits]; omega
  have hh1 : ¬ n.toNatClampNeg * componentBytes (.array .int) > e.platform.maxHeapBytes := by
    rw [Launch.admits_maxHeapBytes X.admits]; show ¬ n.toNatClampNeg * 4 > 536870912; omega
  have hl2 : ¬ k.toNatClampNeg > e.platform.arrayLengthLimit := by rw [Launch.admits_arrayLengthLimit X.admits]; omega
  have hh2 : ¬ k.toNatClampNeg * componentBytes .int > e.platform.maxHeapBytes := by
    rw [Launch.admits_maxHeapBytes X.admits]; show ¬ k.toNatClampNeg * 4 > 536870912; omega
  jvm_step X.here [hexec, hdg]
  simp only [multianewarray.sem, wp_bind', W.resolveClassAt_links (State.method?_setTop (F0 m pc ls (.int k :: .int n :: rest)) X.here.top) hg₁]
  rw [W.popN, if_neg (by decide)]
  refine ⟨F0 m pc ls (.int k :: .int n :: rest), State.topJava?_setTop' (s := T.setVm vm₁) _ X.here.top, [.int n, .int k], rest, rfl, rfl, ?_⟩
  simp only [List.mapM_cons, List.mapM_nil, wp_bind', wp_pure']
  refine wp_ou (k := kA₁) (kc := kC₁) (cI := cI) (cc := c2) hkA₁ hkindA₁ hkC₁ hkindC₁ hn hk hl1 hh1 hl2 hh2 (by show T.heap.size + 1 + _ ≤ _; omega) (by show T.slotsUsed + _ + _ ≤ _; omega) (fun d' acts' => ?_)
  have eS : ((T.setTop (F0 m pc ls (.int k :: .int n :: rest))).setVm vm₁).setTop { F0 m pc ls (.int k :: .int n :: rest) with stack := rest } = (T.setVm vm₁).setTop { F0 m pc ls (.int k :: .int n :: rest) with stack := rest } := by
    show ((T.setVm vm₁).setTop _).setTop _ = _
    rw [State.setTop_setTop]
  rw [eS, gSt_top]
  simp only [wp_bind', W.mark, W.pushRef, State.topJava?_setTop' _ XF.here.top, Option.some.injEq, exists_eq_left', State.setTop_setTop, State.heap_setTop]
  intro acts
  simp [jvm, XF.here.top]
  exact a1
end MUL2
