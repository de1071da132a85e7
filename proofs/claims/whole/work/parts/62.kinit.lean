/-! ===== what the constructors leave is a state of the memory machine ===== -/
def a0 : AS := (fun _ => 0, fun _ t => if t = 0 then 1 else 0, fun _ _ => 1, fun _ _ _ => 0, fun _ => [], fun _ _ => 0, fun _ => -9, fun _ _ => 0, fun _ => 60)
theorem i_tr : ∀ p, p < 8 → (σi.1 (pk p) 0 = nI (tr a0 p) ∧ tr a0 p < 3) := by decide +kernel
theorem i_wt : ∀ p, p < 8 → ∀ t, t < 4 → σi.1 (pk p + 1) t = nI (wt a0 p t) := by decide +kernel
theorem i_hr : ∀ p, p < 8 → ∀ t, t < 4 → ∀ q, q < 7 → σi.1 (pk p + 4 + t) q = nI (hr a0 p t q) := by decide +kernel
theorem i_w9 : ∀ p, p < 8 → ∀ t, t < 4 → wt a0 p t ≤ 9 := by decide +kernel
theorem i_d6 : ∀ p, p < 8 → σi.1 (pk p) 6 = nI (dtL (wt a0 p) (hr a0 p) 4) := by decide +kernel
theorem i_d7 : ∀ p, p < 8 → σi.1 (pk p) 7 = nI (wsL (wt a0 p) (hr a0 p) 4) := by decide +kernel
theorem i_pt : ∀ p, p < 8 → ∀ q, q < 7 → σi.2 (pk p + 11) q = lN (ptL (wt a0 p) (hr a0 p) q 4) := by decide +kernel
theorem i_wh : ∀ p, p < 8 → σi.2 (pk p) 9 = lN (whL (wt a0 p) (hr a0 p)) := by decide +kernel
theorem i_co : ∀ p, p < 8 → ∀ t, t < 4 → (σi.1 (pk p + 2) t = nI (co a0 p t) ∧ co a0 p t ≤ 50) := by decide +kernel
theorem i_cl : ∀ p, p < 8 → ∀ q, q < 7 → (σi.1 (pk p + 8) q = nI (cl a0 p q) ∧ cl a0 p q ≤ 100) := by decide +kernel
theorem i_ro : ∀ p, p < 8 → σi.1 (pk p + 9) 1 = nI 0 := by decide +kernel
theorem i_rm : ∀ t, t < 3 → σi.1 2 t = rm a0 t := by decide +kernel
theorem i_mi : ∀ x, x < 7 → ∀ y, y < 7 → (σi.1 (14 + 2 + x) y = nI (mi a0 x y) ∧ mi a0 x y ≤ 9) := by decide +kernel
theorem i_be : ∀ x, x < 7 → (σi.1 (14 + 9) x = nI (be a0 x) ∧ be a0 x ≤ 60) := by decide +kernel
theorem CI_0 : CI σi a0 := by
  refine ⟨fun p hp => ⟨i_tr p hp, ⟨i_wt p hp, i_hr p hp, i_w9 p hp, fun t _ q _ => Nat.zero_le _⟩, ⟨i_d6 p hp, i_d7 p hp, i_pt p hp, i_wh p hp⟩, i_co p hp, i_cl p hp, ⟨Nat.zero_le _, i_ro p hp, fun j hj => absurd hj (Nat.not_lt_zero _)⟩, List.nodup_nil⟩, fun t ht => ⟨i_rm t ht, Or.inl rfl⟩, ⟨i_mi, i_be⟩⟩
theorem MI_0 : MI σi a0 := by
  refine ⟨?_, ?_, ?_, ?_, ?_, ?_, ?_, ?_, ?_, ?_⟩
  · decide +kernel
  · decide +kernel
  · decide +kernel
  · decide +kernel
  · decide +kernel
  · exact fun p _ j hj => absurd hj (Nat.not_lt_zero _)
  · decide +kernel
  · decide +kernel
  · decide +kernel
  · decide +kernel
theorem cK_all : ∀ k, k < 147 → (cK k < 8 ∨ cK k = 10 ∨ cK k = 11 ∨ cK k = 12 ∨ cK k = 13) := by decide +kernel
theorem fin_at {D : va_G} {γ : Nat → Nat} {cy : Nat → ClassId} {μ : Nat → List Value} {H : Heap} {k : Nat} (hk : k < 147) (he : μ k = i0 k) (h : va_at D vwCl (γ k, cEv γ cy μ k) H) : va_at D vwCl (γ k, cE γ cy σi k) H := by
  rcases cK_all k hk with c | c | c | c | c
  · rw [cEv_ob rfl c] at h
    rw [cE_ob rfl c]
    have e : (μ k).map (cv γ) = (List.range (cN k)).map (fv γ σi (cK k) k) := by
      rw [he, i0, if_neg (by omega), if_neg (by omega), if_neg (by omega), List.map_map]
      exact congrArg (fun f => List.map f (List.range (cN k))) (funext (fun j => aV_cv γ σi (cK k) k j))
    rw [e] at h
    exact h
  · rw [cEv_10 c] at h
    rw [cE_10 c]
    have h' : H[γ k]? = some (vp_cell (cy 0) (cN k, .inl (fun j => gI ((μ k).getD j .null)))) := h
    show H[γ k]? = some (vp_cell (cy 0) (cN k, .inl (σi.1 k)))
    rw [h', vp_cell_i, vp_cell_i]
    refine congrArg some (arrV_cg (fun j hj => ?_))
    rw [he, i0, if_pos c]
    simp [List.getD_eq_getElem?_getD, hj, gI]
  · rw [cEv_11 c] at h
    rw [cE_11 c]
    have h' : H[γ k]? = some (vp_cell (cy 1) (cN k, .inr (.inl (fun j => gL ((μ k).getD j .null))))) := h
    show H[γ k]? = some (vp_cell (cy 1) (cN k, .inr (.inl (σi.2 k))))
    rw [h', vp_cell_l, vp_cell_l]
    refine congrArg some (arrV_cg (fun j hj => ?_))
    rw [he, i0, if_neg (by omega), if_pos c]
    simp [List.getD_eq_getElem?_getD, hj, gL]
  · rw [cEv_12 c] at h
    rw [cE_12 c]
    have h' : H[γ k]? = some (vp_cell (cy 2) (cN k, .inr (.inr (.inr (.inr (fun j => gR γ ((μ k).getD j .null))))))) := h
    show H[γ k]? = some (vp_cell (cy 2) (cN k, .inr (.inr (.inr (.inr (fun j => some (γ (rA k j))))))))
    rw [h', vp_cell_q, vp_cell_q]
    refine congrArg some (arrV_cg (fun j hj => ?_))
    rw [he, i0, if_neg (by omega), if_neg (by omega), if_pos (by omega)]
    simp [List.getD_eq_getElem?_getD, hj, gR]
  · rw [cEv_13 c] at h
    rw [cE_13 c]
    have h' : H[γ k]? = some (vp_cell (cy 3) (cN k, .inr (.inr (.inr (.inr (fun j => gR γ ((μ k).getD j .null))))))) := h
    show H[γ k]? = some (vp_cell (cy 3) (cN k, .inr (.inr (.inr (.inr (fun j => some (γ (rA k j))))))))
    rw [h', vp_cell_q, vp_cell_q]
    refine congrArg some (arrV_cg (fun j hj => ?_))
    rw [he, i0, if_neg (by omega), if_neg (by omega), if_pos (by omega)]
    simp [List.getD_eq_getElem?_getD, hj, gR]
theorem fin_P {D : va_G} {γ : Nat → Nat} {cy : Nat → ClassId} {μ : Nat → List Value} {H : Heap} (he : ∀ k, k < 147 → μ k = i0 k) (h : HV D γ cy (147, μ) H) : va_P D vwCl (wl γ cy σi) H := by
  intro k q hq
  obtain ⟨hk, rfl⟩ := wl_inv hq
  exact fin_at hk (he k hk) (h k hk)
theorem fin_D {γ : Nat → Nat} {cy : Nat → ClassId} {σ : Mem} {b0 : Nat} (hγ : ∀ k, k < 147 → γ k = b0 + k) : va_D (Ab b0) (wl γ cy σ) := by
  refine ⟨fun i j p q hi hj e => ?_, fun k q hk => ?_⟩
  · obtain ⟨h1, rfl⟩ := wl_inv hi
    obtain ⟨h2, rfl⟩ := wl_inv hj
    have e : γ i = γ j := e
    rw [hγ i h1, hγ j h2] at e
    omega
  · obtain ⟨h1, rfl⟩ := wl_inv hk
    show b0 ≤ γ k
    rw [hγ k h1]
    omega
theorem chk_run : ∃ μ : Nat → List Value, exC 4000 8 0 (ent 4 [.ref cSC]) [] (0, fun _ => []) = some (18, [.ref cSC, .ref 0, .ref 127, .int 0], [], (147, μ)) ∧ ∀ k, k < 147 → μ k = i0 k := by
  have h := chk_ok
  unfold chk at h
  split at h
  · next pc ls st n μ he =>
    simp only [Bool.and_eq_true, decide_eq_true_eq, List.all_eq_true, List.mem_range] at h
    obtain ⟨⟨⟨⟨h1, h2⟩, h3⟩, h4⟩, h5⟩ := h
    subst h1; subst h2; subst h3; subst h4
    exact ⟨μ, he, h5⟩
  · cases h
theorem nwPr_inst {e : (Nat × Nat) × Nat} {q : vw_C} (h : nwPr e) (hq : vwCl[e.2]? = some q) : Cond.instantiable q.1 q.2.2 ∈ gw := by
  obtain ⟨q', h1, -, -, h4, -⟩ := h
  have e1 : q' = q := Option.some.inj (h1.symm.trans hq)
  subst e1
  exact h4
theorem instA : ∀ (ci : Nat) (q : vw_C), vwCl[ci]? = some q → Cond.instantiable q.1 q.2.2 ∈ gw := vw_all (P := fun _ q => Cond.instantiable q.1 q.2.2 ∈ gw) (nwPr_inst nw_6_22 rfl) (nwPr_inst nw_6_29 rfl) (nwPr_inst nw_6_9 rfl) (nwPr_inst nw_6_36 rfl) (nwPr_inst nw_6_43 rfl) (nwPr_inst nw_0_18 rfl) (nwPr_inst nw_8_7 rfl) (nwPr_inst nw_8_10 rfl)
theorem over_arr {args : Array Value} {s : State} {cI : ClassId} (h : (Cond.arrayOver (.array .int)).before args s = true) (hI : s.vm.findClass "[I" = some cI) : ∃ (c : ClassId) (k : Class), s.vm.findClass ("[" ++ (FieldType.array .int).toString) = some c ∧ s.vm.classes[c]? = some k ∧ k.kind = .array cI (.array .int) := by
  have e1 : (FieldType.array .int).toString = "[I" := by decide +kernel
  simp only [Cond.before, Cond.holds, Cond.value, beq_iff_eq] at h
  rw [e1] at h ⊢
  rw [hI] at h
  simp only [Option.bind_some, Option.bind_eq_some_iff, Option.map_eq_some_iff] at h
  obtain ⟨c, hi, k, hk, hb⟩ := h
  obtain ⟨hlt, hp, -⟩ := Array.findIdx?_eq_some_iff_getElem.mp hi
  have hkk : s.vm.classes[c] = k := (Array.getElem?_eq_some_iff.mp hk).2
  rw [hkk] at hp
  cases hkind : k.kind with
  | array component ty =>
    rw [hkind] at hb hp
    simp only [Bool.and_eq_true, decide_eq_true_eq, beq_iff_eq] at hb hp
    exact ⟨c, k, hb.2, hk, by rw [hkind, hp, hb.1]⟩
  | _ => rw [hkind] at hb; simp at hb
theorem nwl_in : ∀ q ∈ nwl, Cond.methodLinkNest q.1 q.2.1 q.2.2 "NamesInRow" ∈ lw_tbl := by decide +kernel
theorem nwk_in : ∀ q ∈ nwk, Cond.methodLinkNest q.1 q.2.1 q.2.2 "NamesInRow" ∈ lw_tbl := by decide +kernel
theorem us_lay : Cond.laysStatic "NamesInRow" "UNITS" "[J" ∈ lw_tbl := by decide +kernel
theorem us_ini : Cond.initialized "NamesInRow" ∈ lw_tbl := by decide +kernel
theorem sm_147 : sm cN 147 ≤ 7302250 := by decide +kernel
theorem eB8 : kB 8 = code := rfl
theorem eL8 : kL 8 = 4 := rfl
theorem eB177 : mB 177 = code := rfl
theorem eL177 : mL 177 = 4 := rfl
theorem eF177 : mF 177 ≤ 9 ∧ mQ 177 ≤ 356 := by decide +kernel
