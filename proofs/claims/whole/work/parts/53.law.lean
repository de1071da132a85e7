/-! ===== the law: each call, then the loop ===== -/
theorem k_Tr {X : Nat × (Nat → Int32)} {σ : Mem} {Q : List Value → Mem → Prop} {a : AS} {i : Nat} (h5 : i + 5 ≤ X.1) (hL : X.1 ≤ 2560) (hC : CI σ a) (hM : MI σ a) (ih : ∀ (σ' : Mem) (a' : AS), CI σ' a' → MI σ' a' → Rn X 177 18 [.ref cSC, .ref 0, .ref 127, .int (nI (i + 5))] [] σ' Q) : Rn X 177 188 [.ref cSC, .ref 0, .ref 127, .int (nI i)] [] σ Q := by
  obtain ⟨σ1, e1, d1, l1⟩ := x_Tr (X := X) (x := X.2 (i + 1)) (v := X.2 (i + 2)) (w0 := .null) hC
  obtain ⟨σ2, e2, d2, l2⟩ := m_Tr (X := X) (x := X.2 (i + 1)) (v := X.2 (i + 2)) (w0 := .null) (CI_ok hC) (MI_lo hM l1)
  have e1' := fun Q => e1 Q
  have e2' := fun Q => e2 Q
  simp (disch := omega) only [q_177_188, q_177_189, q_177_190, q_177_191, q_177_192, q_177_193, q_177_194, q_177_195, q_177_196, q_177_197, q_177_198, q_177_199, q_177_202, q_177_203, q_177_204, q_177_205, q_177_206, q_177_207, q_177_208, q_177_209, q_177_210, q_177_211, q_177_212, q_177_213, q_177_216, q_177_219, q_177_220, q_177_1556, q_177_1559, vinT, iClamp, clr_i, clr_l, clr_r, clr_n, true_and, and_true, or_true, true_or, false_or, or_false, iLe, iLt, iEq, iAdd, iMul, List.cons_append, List.nil_append, List.append_nil, zb0, zb1, if_true, if_false, not_true_eq_false, not_false_eq_true, Bool.false_eq_true, Nat.one_ne_zero, Nat.zero_ne_one, Nat.reduceEqDiff, Nat.reduceAdd, if_pos, if_neg, c0, m127, eq_self, e1', e2', lc_eq]
  exact ih σ2 _ (CI_hi d1 l2) d2
theorem k_Tk {X : Nat × (Nat → Int32)} {σ : Mem} {Q : List Value → Mem → Prop} {a : AS} {i : Nat} (h5 : i + 5 ≤ X.1) (hL : X.1 ≤ 2560) (hC : CI σ a) (hM : MI σ a) (ih : ∀ (σ' : Mem) (a' : AS), CI σ' a' → MI σ' a' → Rn X 177 18 [.ref cSC, .ref 0, .ref 127, .int (nI (i + 5))] [] σ' Q) : Rn X 177 221 [.ref cSC, .ref 0, .ref 127, .int (nI i)] [] σ Q := by
  obtain ⟨σ1, e1, d1, l1⟩ := x_Tk (X := X) (x := X.2 (i + 1)) (t := X.2 (i + 2)) (w := X.2 (i + 3)) (v := X.2 (i + 4)) (w0 := .null) (w1 := .null) hC
  obtain ⟨σ2, e2, d2, l2⟩ := m_Tk (X := X) (x := X.2 (i + 1)) (t := X.2 (i + 2)) (w := X.2 (i + 3)) (v := X.2 (i + 4)) (w0 := .null) (w1 := .null) (CI_ok hC) (MI_lo hM l1)
  have e1' := fun Q => e1 Q
  have e2' := fun Q => e2 Q
  simp (disch := omega) only [q_177_221, q_177_222, q_177_223, q_177_224, q_177_225, q_177_226, q_177_227, q_177_228, q_177_229, q_177_230, q_177_231, q_177_232, q_177_233, q_177_234, q_177_235, q_177_236, q_177_237, q_177_238, q_177_239, q_177_240, q_177_241, q_177_242, q_177_245, q_177_246, q_177_247, q_177_248, q_177_249, q_177_250, q_177_251, q_177_252, q_177_253, q_177_254, q_177_255, q_177_256, q_177_257, q_177_258, q_177_259, q_177_260, q_177_261, q_177_262, q_177_263, q_177_264, q_177_265, q_177_266, q_177_269, q_177_272, q_177_273, q_177_1556, q_177_1559, vinT, iClamp, clr_i, clr_l, clr_r, clr_n, true_and, and_true, or_true, true_or, false_or, or_false, iLe, iLt, iEq, iAdd, iMul, List.cons_append, List.nil_append, List.append_nil, zb0, zb1, if_true, if_false, not_true_eq_false, not_false_eq_true, Bool.false_eq_true, Nat.one_ne_zero, Nat.zero_ne_one, Nat.reduceEqDiff, Nat.reduceAdd, if_pos, if_neg, c0, m127, eq_self, e1', e2', lc_eq]
  exact ih σ2 _ (CI_hi d1 l2) d2
theorem k_Hr {X : Nat × (Nat → Int32)} {σ : Mem} {Q : List Value → Mem → Prop} {a : AS} {i : Nat} (h5 : i + 5 ≤ X.1) (hL : X.1 ≤ 2560) (hC : CI σ a) (hM : MI σ a) (ih : ∀ (σ' : Mem) (a' : AS), CI σ' a' → MI σ' a' → Rn X 177 18 [.ref cSC, .ref 0, .ref 127, .int (nI (i + 5))] [] σ' Q) : Rn X 177 274 [.ref cSC, .ref 0, .ref 127, .int (nI i)] [] σ Q := by
  obtain ⟨σ1, e1, d1, l1⟩ := x_Hr (X := X) (x := X.2 (i + 1)) (t := X.2 (i + 2)) (q := X.2 (i + 3)) (v := X.2 (i + 4)) (w0 := .null) (w1 := .null) hC
  obtain ⟨σ2, e2, d2, l2⟩ := m_Hr (X := X) (x := X.2 (i + 1)) (t := X.2 (i + 2)) (q := X.2 (i + 3)) (v := X.2 (i + 4)) (w0 := .null) (w1 := .null) (CI_ok hC) (MI_lo hM l1)
  have e1' := fun Q => e1 Q
  have e2' := fun Q => e2 Q
  simp (disch := omega) only [q_177_274, q_177_275, q_177_276, q_177_277, q_177_278, q_177_279, q_177_280, q_177_281, q_177_282, q_177_283, q_177_284, q_177_285, q_177_286, q_177_287, q_177_288, q_177_289, q_177_290, q_177_291, q_177_292, q_177_293, q_177_294, q_177_295, q_177_298, q_177_299, q_177_300, q_177_301, q_177_302, q_177_303, q_177_304, q_177_305, q_177_306, q_177_307, q_177_308, q_177_309, q_177_310, q_177_311, q_177_312, q_177_313, q_177_314, q_177_315, q_177_316, q_177_317, q_177_318, q_177_319, q_177_322, q_177_325, q_177_326, q_177_1556, q_177_1559, vinT, iClamp, clr_i, clr_l, clr_r, clr_n, true_and, and_true, or_true, true_or, false_or, or_false, iLe, iLt, iEq, iAdd, iMul, List.cons_append, List.nil_append, List.append_nil, zb0, zb1, if_true, if_false, not_true_eq_false, not_false_eq_true, Bool.false_eq_true, Nat.one_ne_zero, Nat.zero_ne_one, Nat.reduceEqDiff, Nat.reduceAdd, if_pos, if_neg, c0, m127, eq_self, e1', e2', lc_eq]
  exact ih σ2 _ (CI_hi d1 l2) d2
theorem k_Nm {X : Nat × (Nat → Int32)} {σ : Mem} {Q : List Value → Mem → Prop} {a : AS} {i : Nat} (h5 : i + 5 ≤ X.1) (hL : X.1 ≤ 2560) (hC : CI σ a) (hM : MI σ a) (ih : ∀ (σ' : Mem) (a' : AS), CI σ' a' → MI σ' a' → Rn X 177 18 [.ref cSC, .ref 0, .ref 127, .int (nI (i + 5))] [] σ' Q) : Rn X 177 327 [.ref cSC, .ref 0, .ref 127, .int (nI i)] [] σ Q := by
  obtain ⟨σ1, e1, d1, l1⟩ := x_Nm (X := X) (x := X.2 (i + 1)) (q := X.2 (i + 2)) (w0 := .null) hC
  obtain ⟨σ2, e2, d2, l2⟩ := m_Nm (X := X) (x := X.2 (i + 1)) (q := X.2 (i + 2)) (CI_ok hC) (MI_lo hM l1)
  have e1' := fun Q => e1 Q
  have e2' := fun Q => e2 Q
  simp (disch := omega) only [q_177_327, q_177_328, q_177_329, q_177_330, q_177_331, q_177_332, q_177_333, q_177_334, q_177_335, q_177_336, q_177_337, q_177_338, q_177_341, q_177_342, q_177_343, q_177_344, q_177_345, q_177_346, q_177_347, q_177_348, q_177_349, q_177_350, q_177_351, q_177_352, q_177_355, q_177_358, q_177_359, q_177_1556, q_177_1559, vinT, iClamp, clr_i, clr_l, clr_r, clr_n, true_and, and_true, or_true, true_or, false_or, or_false, iLe, iLt, iEq, iAdd, iMul, List.cons_append, List.nil_append, List.append_nil, zb0, zb1, if_true, if_false, not_true_eq_false, not_false_eq_true, Bool.false_eq_true, Nat.one_ne_zero, Nat.zero_ne_one, Nat.reduceEqDiff, Nat.reduceAdd, if_pos, if_neg, c0, m127, eq_self, e1', e2', lc_eq]
  exact ih σ2 _ (CI_hi d1 l2) d2
theorem k_Un {X : Nat × (Nat → Int32)} {σ : Mem} {Q : List Value → Mem → Prop} {a : AS} {i : Nat} (h5 : i + 5 ≤ X.1) (hL : X.1 ≤ 2560) (hC : CI σ a) (hM : MI σ a) (ih : ∀ (σ' : Mem) (a' : AS), CI σ' a' → MI σ' a' → Rn X 177 18 [.ref cSC, .ref 0, .ref 127, .int (nI (i + 5))] [] σ' Q) : Rn X 177 360 [.ref cSC, .ref 0, .ref 127, .int (nI i)] [] σ Q := by
  obtain ⟨σ1, e1, d1, l1⟩ := x_Un (X := X) (x := X.2 (i + 1)) (w0 := .null) (w1 := .null) hC
  obtain ⟨σ2, e2, d2, l2⟩ := m_Un (X := X) (x := X.2 (i + 1)) (w0 := .null) (CI_ok hC) (MI_lo hM l1)
  have e1' := fun Q => e1 Q
  have e2' := fun Q => e2 Q
  simp (disch := omega) only [q_177_360, q_177_361, q_177_362, q_177_363, q_177_364, q_177_365, q_177_366, q_177_369, q_177_370, q_177_371, q_177_372, q_177_373, q_177_374, q_177_375, q_177_378, q_177_381, q_177_382, q_177_1556, q_177_1559, vinT, iClamp, clr_i, clr_l, clr_r, clr_n, true_and, and_true, or_true, true_or, false_or, or_false, iLe, iLt, iEq, iAdd, iMul, List.cons_append, List.nil_append, List.append_nil, zb0, zb1, if_true, if_false, not_true_eq_false, not_false_eq_true, Bool.false_eq_true, Nat.one_ne_zero, Nat.zero_ne_one, Nat.reduceEqDiff, Nat.reduceAdd, if_pos, if_neg, c0, m127, eq_self, e1', e2', lc_eq]
  exact ih σ2 _ (CI_hi d1 l2) d2
theorem k_At {X : Nat × (Nat → Int32)} {σ : Mem} {Q : List Value → Mem → Prop} {a : AS} {i : Nat} (h5 : i + 5 ≤ X.1) (hL : X.1 ≤ 2560) (hC : CI σ a) (hM : MI σ a) (ih : ∀ (σ' : Mem) (a' : AS), CI σ' a' → MI σ' a' → Rn X 177 18 [.ref cSC, .ref 0, .ref 127, .int (nI (i + 5))] [] σ' Q) : Rn X 177 383 [.ref cSC, .ref 0, .ref 127, .int (nI i)] [] σ Q := by
  obtain ⟨σ1, e1, d1, l1⟩ := x_At (X := X) (x := X.2 (i + 1)) (i := X.2 (i + 2)) hC
  obtain ⟨σ2, e2, d2, l2⟩ := m_At (X := X) (x := X.2 (i + 1)) (i := X.2 (i + 2)) (CI_ok hC) (MI_lo hM l1)
  have e1' := fun Q => e1 Q
  have e2' := fun Q => e2 Q
  simp (disch := omega) only [q_177_383, q_177_384, q_177_385, q_177_386, q_177_387, q_177_388, q_177_389, q_177_390, q_177_391, q_177_392, q_177_393, q_177_394, q_177_397, q_177_398, q_177_399, q_177_400, q_177_401, q_177_402, q_177_403, q_177_404, q_177_405, q_177_406, q_177_407, q_177_408, q_177_411, q_177_414, q_177_415, q_177_1556, q_177_1559, vinT, iClamp, clr_i, clr_l, clr_r, clr_n, true_and, and_true, or_true, true_or, false_or, or_false, iLe, iLt, iEq, iAdd, iMul, List.cons_append, List.nil_append, List.append_nil, zb0, zb1, if_true, if_false, not_true_eq_false, not_false_eq_true, Bool.false_eq_true, Nat.one_ne_zero, Nat.zero_ne_one, Nat.reduceEqDiff, Nat.reduceAdd, if_pos, if_neg, c0, m127, eq_self, e1', e2', lc_eq]
  exact ih σ2 _ (CI_hi d1 l2) d2
theorem k_Sw {X : Nat × (Nat → Int32)} {σ : Mem} {Q : List Value → Mem → Prop} {a : AS} {i : Nat} (h5 : i + 5 ≤ X.1) (hL : X.1 ≤ 2560) (hC : CI σ a) (hM : MI σ a) (ih : ∀ (σ' : Mem) (a' : AS), CI σ' a' → MI σ' a' → Rn X 177 18 [.ref cSC, .ref 0, .ref 127, .int (nI (i + 5))] [] σ' Q) : Rn X 177 416 [.ref cSC, .ref 0, .ref 127, .int (nI i)] [] σ Q := by
  obtain ⟨σ1, e1, d1, l1⟩ := x_Sw (X := X) (x := X.2 (i + 1)) (i := X.2 (i + 2)) (w0 := .null) hC
  obtain ⟨σ2, e2, d2, l2⟩ := m_Sw (X := X) (x := X.2 (i + 1)) (i := X.2 (i + 2)) (w0 := .null) (w1 := .null) (CI_ok hC) (MI_lo hM l1)
  have e1' := fun Q => e1 Q
  have e2' := fun Q => e2 Q
  simp (disch := omega) only [q_177_416, q_177_417, q_177_418, q_177_419, q_177_420, q_177_421, q_177_422, q_177_423, q_177_424, q_177_425, q_177_426, q_177_427, q_177_430, q_177_431, q_177_432, q_177_433, q_177_434, q_177_435, q_177_436, q_177_437, q_177_438, q_177_439, q_177_440, q_177_441, q_177_444, q_177_447, q_177_448, q_177_1556, q_177_1559, vinT, iClamp, clr_i, clr_l, clr_r, clr_n, true_and, and_true, or_true, true_or, false_or, or_false, iLe, iLt, iEq, iAdd, iMul, List.cons_append, List.nil_append, List.append_nil, zb0, zb1, if_true, if_false, not_true_eq_false, not_false_eq_true, Bool.false_eq_true, Nat.one_ne_zero, Nat.zero_ne_one, Nat.reduceEqDiff, Nat.reduceAdd, if_pos, if_neg, c0, m127, eq_self, e1', e2', lc_eq]
  exact ih σ2 _ (CI_hi d1 l2) d2
theorem k_Sh {X : Nat × (Nat → Int32)} {σ : Mem} {Q : List Value → Mem → Prop} {a : AS} {i : Nat} (h5 : i + 5 ≤ X.1) (hL : X.1 ≤ 2560) (hC : CI σ a) (hM : MI σ a) (ih : ∀ (σ' : Mem) (a' : AS), CI σ' a' → MI σ' a' → Rn X 177 18 [.ref cSC, .ref 0, .ref 127, .int (nI (i + 5))] [] σ' Q) : Rn X 177 449 [.ref cSC, .ref 0, .ref 127, .int (nI i)] [] σ Q := by
  by_cases hb : X.2 (i + 3) = nI 0
  · obtain ⟨σ1, e1, d1, l1⟩ := x_Sh (X := X) (x := X.2 (i + 1)) (q := X.2 (i + 2)) (u := 0) (Or.inl rfl) hC
    obtain ⟨σ2, e2, d2, l2⟩ := m_Sh (X := X) (x := X.2 (i + 1)) (q := X.2 (i + 2)) (u := 0) (Or.inl rfl) (CI_ok hC) (MI_lo hM l1)
    have e1' := fun Q => e1 Q
    have e2' := fun Q => e2 Q
    simp (disch := omega) only [q_177_449, q_177_450, q_177_451, q_177_452, q_177_453, q_177_454, q_177_455, q_177_456, q_177_457, q_177_458, q_177_459, q_177_460, q_177_461, q_177_462, q_177_463, q_177_464, q_177_465, q_177_468, q_177_469, q_177_472, q_177_473, q_177_476, q_177_477, q_177_478, q_177_479, q_177_480, q_177_481, q_177_482, q_177_483, q_177_484, q_177_485, q_177_486, q_177_487, q_177_488, q_177_489, q_177_490, q_177_491, q_177_492, q_177_495, q_177_496, q_177_499, q_177_500, q_177_503, q_177_504, q_177_507, q_177_508, q_177_1556, q_177_1559, vinT, iClamp, clr_i, clr_l, clr_r, clr_n, true_and, and_true, or_true, true_or, false_or, or_false, iLe, iLt, iEq, iAdd, iMul, List.cons_append, List.nil_append, List.append_nil, zb0, zb1, if_true, if_false, not_true_eq_false, not_false_eq_true, Bool.false_eq_true, Nat.one_ne_zero, Nat.zero_ne_one, Nat.reduceEqDiff, Nat.reduceAdd, if_pos, if_neg, c0, m127, eq_self, e1', e2', lc_eq, hb]
    exact ih σ2 _ (CI_hi d1 l2) d2
  · obtain ⟨σ1, e1, d1, l1⟩ := x_Sh (X := X) (x := X.2 (i + 1)) (q := X.2 (i + 2)) (u := 1) (Or.inr rfl) hC
    obtain ⟨σ2, e2, d2, l2⟩ := m_Sh (X := X) (x := X.2 (i + 1)) (q := X.2 (i + 2)) (u := 1) (Or.inr rfl) (CI_ok hC) (MI_lo hM l1)
    have e1' := fun Q => e1 Q
    have e2' := fun Q => e2 Q
    simp (disch := omega) only [q_177_449, q_177_450, q_177_451, q_177_452, q_177_453, q_177_454, q_177_455, q_177_456, q_177_457, q_177_458, q_177_459, q_177_460, q_177_461, q_177_462, q_177_463, q_177_464, q_177_465, q_177_468, q_177_469, q_177_472, q_177_473, q_177_476, q_177_477, q_177_478, q_177_479, q_177_480, q_177_481, q_177_482, q_177_483, q_177_484, q_177_485, q_177_486, q_177_487, q_177_488, q_177_489, q_177_490, q_177_491, q_177_492, q_177_495, q_177_496, q_177_499, q_177_500, q_177_503, q_177_504, q_177_507, q_177_508, q_177_1556, q_177_1559, vinT, iClamp, clr_i, clr_l, clr_r, clr_n, true_and, and_true, or_true, true_or, false_or, or_false, iLe, iLt, iEq, iAdd, iMul, List.cons_append, List.nil_append, List.append_nil, zb0, zb1, if_true, if_false, not_true_eq_false, not_false_eq_true, Bool.false_eq_true, Nat.one_ne_zero, Nat.zero_ne_one, Nat.reduceEqDiff, Nat.reduceAdd, if_pos, if_neg, c0, m127, eq_self, e1', e2', lc_eq, hb]
    exact ih σ2 _ (CI_hi d1 l2) d2
theorem k_Gs {X : Nat × (Nat → Int32)} {σ : Mem} {Q : List Value → Mem → Prop} {a : AS} {i : Nat} (h5 : i + 5 ≤ X.1) (hL : X.1 ≤ 2560) (hC : CI σ a) (hM : MI σ a) (ih : ∀ (σ' : Mem) (a' : AS), CI σ' a' → MI σ' a' → Rn X 177 18 [.ref cSC, .ref 0, .ref 127, .int (nI (i + 5))] [] σ' Q) : Rn X 177 509 [.ref cSC, .ref 0, .ref 127, .int (nI i)] [] σ Q := by
  by_cases hb : X.2 (i + 2) = nI 0
  · obtain ⟨σ1, e1, d1, l1⟩ := x_Gs (X := X) (x := X.2 (i + 1)) (g := 0) (w0 := .null) (w1 := .null) (Or.inl rfl) hC
    obtain ⟨σ2, e2, d2, l2⟩ := m_Gs (X := X) (x := X.2 (i + 1)) (g := 0) (w0 := .null) (w1 := .null) (Or.inl rfl) (CI_ok hC) (MI_lo hM l1)
    have e1' := fun Q => e1 Q
    have e2' := fun Q => e2 Q
    simp (disch := omega) only [q_177_509, q_177_510, q_177_511, q_177_512, q_177_513, q_177_514, q_177_515, q_177_516, q_177_517, q_177_518, q_177_519, q_177_520, q_177_523, q_177_524, q_177_527, q_177_528, q_177_531, q_177_532, q_177_533, q_177_534, q_177_535, q_177_536, q_177_537, q_177_538, q_177_539, q_177_540, q_177_541, q_177_542, q_177_545, q_177_546, q_177_549, q_177_550, q_177_553, q_177_556, q_177_557, q_177_1556, q_177_1559, vinT, iClamp, clr_i, clr_l, clr_r, clr_n, true_and, and_true, or_true, true_or, false_or, or_false, iLe, iLt, iEq, iAdd, iMul, List.cons_append, List.nil_append, List.append_nil, zb0, zb1, if_true, if_false, not_true_eq_false, not_false_eq_true, Bool.false_eq_true, Nat.one_ne_zero, Nat.zero_ne_one, Nat.reduceEqDiff, Nat.reduceAdd, if_pos, if_neg, c0, m127, eq_self, e1', e2', lc_eq, hb]
    exact ih σ2 _ (CI_hi d1 l2) d2
  · obtain ⟨σ1, e1, d1, l1⟩ := x_Gs (X := X) (x := X.2 (i + 1)) (g := 1) (w0 := .null) (w1 := .null) (Or.inr rfl) hC
    obtain ⟨σ2, e2, d2, l2⟩ := m_Gs (X := X) (x := X.2 (i + 1)) (g := 1) (w0 := .null) (w1 := .null) (Or.inr rfl) (CI_ok hC) (MI_lo hM l1)
    have e1' := fun Q => e1 Q
    have e2' := fun Q => e2 Q
    simp (disch := omega) only [q_177_509, q_177_510, q_177_511, q_177_512, q_177_513, q_177_514, q_177_515, q_177_516, q_177_517, q_177_518, q_177_519, q_177_520, q_177_523, q_177_524, q_177_527, q_177_528, q_177_531, q_177_532, q_177_533, q_177_534, q_177_535, q_177_536, q_177_537, q_177_538, q_177_539, q_177_540, q_177_541, q_177_542, q_177_545, q_177_546, q_177_549, q_177_550, q_177_553, q_177_556, q_177_557, q_177_1556, q_177_1559, vinT, iClamp, clr_i, clr_l, clr_r, clr_n, true_and, and_true, or_true, true_or, false_or, or_false, iLe, iLt, iEq, iAdd, iMul, List.cons_append, List.nil_append, List.append_nil, zb0, zb1, if_true, if_false, not_true_eq_false, not_false_eq_true, Bool.false_eq_true, Nat.one_ne_zero, Nat.zero_ne_one, Nat.reduceEqDiff, Nat.reduceAdd, if_pos, if_neg, c0, m127, eq_self, e1', e2', lc_eq, hb]
    exact ih σ2 _ (CI_hi d1 l2) d2
theorem k_Gi {X : Nat × (Nat → Int32)} {σ : Mem} {Q : List Value → Mem → Prop} {a : AS} {i : Nat} (h5 : i + 5 ≤ X.1) (hL : X.1 ≤ 2560) (hC : CI σ a) (hM : MI σ a) (ih : ∀ (σ' : Mem) (a' : AS), CI σ' a' → MI σ' a' → Rn X 177 18 [.ref cSC, .ref 0, .ref 127, .int (nI (i + 5))] [] σ' Q) : Rn X 177 558 [.ref cSC, .ref 0, .ref 127, .int (nI i)] [] σ Q := by
  by_cases hb : X.2 (i + 2) = nI 0
  · obtain ⟨σ1, e1, d1, l1⟩ := x_Gi (X := X) (x := X.2 (i + 1)) (g := 0) (i := X.2 (i + 3)) (w0 := .null) (w1 := .null) (Or.inl rfl) hC
    obtain ⟨σ2, e2, d2, l2⟩ := m_Gi (X := X) (x := X.2 (i + 1)) (g := 0) (i := X.2 (i + 3)) (w0 := .null) (w1 := .null) (w2 := .null) (Or.inl rfl) (CI_ok hC) (MI_lo hM l1)
    have e1' := fun Q => e1 Q
    have e2' := fun Q => e2 Q
    simp (disch := omega) only [q_177_558, q_177_559, q_177_560, q_177_561, q_177_562, q_177_563, q_177_564, q_177_565, q_177_566, q_177_567, q_177_568, q_177_569, q_177_572, q_177_573, q_177_576, q_177_577, q_177_578, q_177_579, q_177_580, q_177_581, q_177_582, q_177_585, q_177_586, q_177_587, q_177_588, q_177_589, q_177_590, q_177_591, q_177_592, q_177_593, q_177_594, q_177_595, q_177_596, q_177_599, q_177_600, q_177_603, q_177_604, q_177_605, q_177_606, q_177_607, q_177_608, q_177_609, q_177_612, q_177_615, q_177_616, q_177_1556, q_177_1559, vinT, iClamp, clr_i, clr_l, clr_r, clr_n, true_and, and_true, or_true, true_or, false_or, or_false, iLe, iLt, iEq, iAdd, iMul, List.cons_append, List.nil_append, List.append_nil, zb0, zb1, if_true, if_false, not_true_eq_false, not_false_eq_true, Bool.false_eq_true, Nat.one_ne_zero, Nat.zero_ne_one, Nat.reduceEqDiff, Nat.reduceAdd, if_pos, if_neg, c0, m127, eq_self, e1', e2', lc_eq, hb]
    exact ih σ2 _ (CI_hi d1 l2) d2
  · obtain ⟨σ1, e1, d1, l1⟩ := x_Gi (X := X) (x := X.2 (i + 1)) (g := 1) (i := X.2 (i + 3)) (w0 := .null) (w1 := .null) (Or.inr rfl) hC
    obtain ⟨σ2, e2, d2, l2⟩ := m_Gi (X := X) (x := X.2 (i + 1)) (g := 1) (i := X.2 (i + 3)) (w0 := .null) (w1 := .null) (w2 := .null) (Or.inr rfl) (CI_ok hC) (MI_lo hM l1)
    have e1' := fun Q => e1 Q
    have e2' := fun Q => e2 Q
    simp (disch := omega) only [q_177_558, q_177_559, q_177_560, q_177_561, q_177_562, q_177_563, q_177_564, q_177_565, q_177_566, q_177_567, q_177_568, q_177_569, q_177_572, q_177_573, q_177_576, q_177_577, q_177_578, q_177_579, q_177_580, q_177_581, q_177_582, q_177_585, q_177_586, q_177_587, q_177_588, q_177_589, q_177_590, q_177_591, q_177_592, q_177_593, q_177_594, q_177_595, q_177_596, q_177_599, q_177_600, q_177_603, q_177_604, q_177_605, q_177_606, q_177_607, q_177_608, q_177_609, q_177_612, q_177_615, q_177_616, q_177_1556, q_177_1559, vinT, iClamp, clr_i, clr_l, clr_r, clr_n, true_and, and_true, or_true, true_or, false_or, or_false, iLe, iLt, iEq, iAdd, iMul, List.cons_append, List.nil_append, List.append_nil, zb0, zb1, if_true, if_false, not_true_eq_false, not_false_eq_true, Bool.false_eq_true, Nat.one_ne_zero, Nat.zero_ne_one, Nat.reduceEqDiff, Nat.reduceAdd, if_pos, if_neg, c0, m127, eq_self, e1', e2', lc_eq, hb]
    exact ih σ2 _ (CI_hi d1 l2) d2
theorem k_Rm {X : Nat × (Nat → Int32)} {σ : Mem} {Q : List Value → Mem → Prop} {a : AS} {i : Nat} (h5 : i + 5 ≤ X.1) (hL : X.1 ≤ 2560) (hC : CI σ a) (hM : MI σ a) (ih : ∀ (σ' : Mem) (a' : AS), CI σ' a' → MI σ' a' → Rn X 177 18 [.ref cSC, .ref 0, .ref 127, .int (nI (i + 5))] [] σ' Q) : Rn X 177 617 [.ref cSC, .ref 0, .ref 127, .int (nI i)] [] σ Q := by
  obtain ⟨σ1, e1, d1, l1⟩ := x_Rm (X := X) (t := X.2 (i + 1)) (y := X.2 (i + 2)) (w0 := .null) hC
  obtain ⟨σ2, e2, d2, l2⟩ := m_Rm (X := X) (t := X.2 (i + 1)) (y := X.2 (i + 2)) (w0 := .null) (CI_ok hC) (MI_lo hM l1)
  have e1' := fun Q => e1 Q
  have e2' := fun Q => e2 Q
  simp (disch := omega) only [q_177_617, q_177_618, q_177_619, q_177_620, q_177_621, q_177_622, q_177_623, q_177_624, q_177_625, q_177_626, q_177_627, q_177_628, q_177_631, q_177_632, q_177_633, q_177_634, q_177_635, q_177_636, q_177_637, q_177_638, q_177_639, q_177_640, q_177_641, q_177_642, q_177_645, q_177_648, q_177_649, q_177_1556, q_177_1559, vinT, iClamp, clr_i, clr_l, clr_r, clr_n, true_and, and_true, or_true, true_or, false_or, or_false, iLe, iLt, iEq, iAdd, iMul, List.cons_append, List.nil_append, List.append_nil, zb0, zb1, if_true, if_false, not_true_eq_false, not_false_eq_true, Bool.false_eq_true, Nat.one_ne_zero, Nat.zero_ne_one, Nat.reduceEqDiff, Nat.reduceAdd, if_pos, if_neg, c0, m127, eq_self, e1', e2', lc_eq]
  exact ih σ2 _ (CI_hi d1 l2) d2
theorem k_Du {X : Nat × (Nat → Int32)} {σ : Mem} {Q : List Value → Mem → Prop} {a : AS} {i : Nat} (h5 : i + 5 ≤ X.1) (hL : X.1 ≤ 2560) (hC : CI σ a) (hM : MI σ a) (ih : ∀ (σ' : Mem) (a' : AS), CI σ' a' → MI σ' a' → Rn X 177 18 [.ref cSC, .ref 0, .ref 127, .int (nI (i + 5))] [] σ' Q) : Rn X 177 650 [.ref cSC, .ref 0, .ref 127, .int (nI i)] [] σ Q := by
  obtain ⟨σ1, e1, d1, l1⟩ := x_Du (X := X) (x := X.2 (i + 1)) (c := X.2 (i + 2)) (i := X.2 (i + 3)) hC
  obtain ⟨σ2, e2, d2, l2⟩ := m_Du (X := X) (x := X.2 (i + 1)) (c := X.2 (i + 2)) (i := X.2 (i + 3)) (CI_ok hC) (MI_lo hM l1)
  have e1' := fun Q => e1 Q
  have e2' := fun Q => e2 Q
  simp (disch := omega) only [q_177_650, q_177_651, q_177_652, q_177_653, q_177_654, q_177_655, q_177_656, q_177_657, q_177_658, q_177_659, q_177_660, q_177_661, q_177_662, q_177_663, q_177_664, q_177_665, q_177_666, q_177_669, q_177_670, q_177_671, q_177_672, q_177_673, q_177_674, q_177_675, q_177_676, q_177_677, q_177_678, q_177_679, q_177_680, q_177_681, q_177_682, q_177_683, q_177_684, q_177_685, q_177_688, q_177_691, q_177_692, q_177_1556, q_177_1559, vinT, iClamp, clr_i, clr_l, clr_r, clr_n, true_and, and_true, or_true, true_or, false_or, or_false, iLe, iLt, iEq, iAdd, iMul, List.cons_append, List.nil_append, List.append_nil, zb0, zb1, if_true, if_false, not_true_eq_false, not_false_eq_true, Bool.false_eq_true, Nat.one_ne_zero, Nat.zero_ne_one, Nat.reduceEqDiff, Nat.reduceAdd, if_pos, if_neg, c0, m127, eq_self, e1', e2', lc_eq]
  exact ih σ2 _ (CI_hi d1 l2) d2
theorem k_Fi {X : Nat × (Nat → Int32)} {σ : Mem} {Q : List Value → Mem → Prop} {a : AS} {i : Nat} (h5 : i + 5 ≤ X.1) (hL : X.1 ≤ 2560) (hC : CI σ a) (hM : MI σ a) (ih : ∀ (σ' : Mem) (a' : AS), CI σ' a' → MI σ' a' → Rn X 177 18 [.ref cSC, .ref 0, .ref 127, .int (nI (i + 5))] [] σ' Q) : Rn X 177 693 [.ref cSC, .ref 0, .ref 127, .int (nI i)] [] σ Q := by
  obtain ⟨σ1, e1, d1, l1⟩ := x_Fi (X := X) (x := X.2 (i + 1)) hC
  obtain ⟨σ2, e2, d2, l2⟩ := m_Fi (X := X) (x := X.2 (i + 1)) (CI_ok hC) (MI_lo hM l1)
  have e1' := fun Q => e1 Q
  have e2' := fun Q => e2 Q
  simp (disch := omega) only [q_177_693, q_177_694, q_177_695, q_177_696, q_177_697, q_177_698, q_177_699, q_177_702, q_177_703, q_177_704, q_177_705, q_177_706, q_177_707, q_177_708, q_177_711, q_177_714, q_177_715, q_177_1556, q_177_1559, vinT, iClamp, clr_i, clr_l, clr_r, clr_n, true_and, and_true, or_true, true_or, false_or, or_false, iLe, iLt, iEq, iAdd, iMul, List.cons_append, List.nil_append, List.append_nil, zb0, zb1, if_true, if_false, not_true_eq_false, not_false_eq_true, Bool.false_eq_true, Nat.one_ne_zero, Nat.zero_ne_one, Nat.reduceEqDiff, Nat.reduceAdd, if_pos, if_neg, c0, m127, eq_self, e1', e2', lc_eq]
  exact ih σ2 _ (CI_hi d1 l2) d2
theorem k_Le {X : Nat × (Nat → Int32)} {σ : Mem} {Q : List Value → Mem → Prop} {a : AS} {i : Nat} (h5 : i + 5 ≤ X.1) (hL : X.1 ≤ 2560) (hC : CI σ a) (hM : MI σ a) (ih : ∀ (σ' : Mem) (a' : AS), CI σ' a' → MI σ' a' → Rn X 177 18 [.ref cSC, .ref 0, .ref 127, .int (nI (i + 5))] [] σ' Q) : Rn X 177 716 [.ref cSC, .ref 0, .ref 127, .int (nI i)] [] σ Q := by
  obtain ⟨σ1, e1, d1, l1⟩ := x_Le (X := X) (x := X.2 (i + 1)) (w0 := .null) (w1 := .null) hC
  obtain ⟨σ2, e2, d2, l2⟩ := m_Le (X := X) (x := X.2 (i + 1)) (w0 := .null) (w1 := .null) (CI_ok hC) (MI_lo hM l1)
  have e1' := fun Q => e1 Q
  have e2' := fun Q => e2 Q
  simp (disch := omega) only [q_177_716, q_177_717, q_177_718, q_177_719, q_177_720, q_177_721, q_177_722, q_177_725, q_177_726, q_177_727, q_177_728, q_177_729, q_177_730, q_177_731, q_177_734, q_177_737, q_177_738, q_177_1556, q_177_1559, vinT, iClamp, clr_i, clr_l, clr_r, clr_n, true_and, and_true, or_true, true_or, false_or, or_false, iLe, iLt, iEq, iAdd, iMul, List.cons_append, List.nil_append, List.append_nil, zb0, zb1, if_true, if_false, not_true_eq_false, not_false_eq_true, Bool.false_eq_true, Nat.one_ne_zero, Nat.zero_ne_one, Nat.reduceEqDiff, Nat.reduceAdd, if_pos, if_neg, c0, m127, eq_self, e1', e2', lc_eq]
  exact ih σ2 _ (CI_hi d1 l2) d2
theorem k_Of {X : Nat × (Nat → Int32)} {σ : Mem} {Q : List Value → Mem → Prop} {a : AS} {i : Nat} (h5 : i + 5 ≤ X.1) (hL : X.1 ≤ 2560) (hC : CI σ a) (hM : MI σ a) (ih : ∀ (σ' : Mem) (a' : AS), CI σ' a' → MI σ' a' → Rn X 177 18 [.ref cSC, .ref 0, .ref 127, .int (nI (i + 5))] [] σ' Q) : Rn X 177 739 [.ref cSC, .ref 0, .ref 127, .int (nI i)] [] σ Q := by
  obtain ⟨σ1, e1, d1, l1⟩ := x_Of (X := X) (x := X.2 (i + 1)) (c := X.2 (i + 2)) hC
  obtain ⟨σ2, e2, d2, l2⟩ := m_Of (X := X) (x := X.2 (i + 1)) (c := X.2 (i + 2)) (w0 := .null) (w1 := .null) (w2 := .null) (CI_ok hC) (MI_lo hM l1)
  have e1' := fun Q => e1 Q
  have e2' := fun Q => e2 Q
  simp (disch := omega) only [q_177_739, q_177_740, q_177_741, q_177_742, q_177_743, q_177_744, q_177_745, q_177_746, q_177_747, q_177_748, q_177_749, q_177_750, q_177_753, q_177_754, q_177_755, q_177_756, q_177_757, q_177_758, q_177_759, q_177_760, q_177_761, q_177_762, q_177_763, q_177_764, q_177_767, q_177_770, q_177_771, q_177_1556, q_177_1559, vinT, iClamp, clr_i, clr_l, clr_r, clr_n, true_and, and_true, or_true, true_or, false_or, or_false, iLe, iLt, iEq, iAdd, iMul, List.cons_append, List.nil_append, List.append_nil, zb0, zb1, if_true, if_false, not_true_eq_false, not_false_eq_true, Bool.false_eq_true, Nat.one_ne_zero, Nat.zero_ne_one, Nat.reduceEqDiff, Nat.reduceAdd, if_pos, if_neg, c0, m127, eq_self, e1', e2', lc_eq]
  exact ih σ2 _ (CI_hi d1 l2) d2
theorem k_Wo {X : Nat × (Nat → Int32)} {σ : Mem} {Q : List Value → Mem → Prop} {a : AS} {i : Nat} (h5 : i + 5 ≤ X.1) (hL : X.1 ≤ 2560) (hC : CI σ a) (hM : MI σ a) (ih : ∀ (σ' : Mem) (a' : AS), CI σ' a' → MI σ' a' → Rn X 177 18 [.ref cSC, .ref 0, .ref 127, .int (nI (i + 5))] [] σ' Q) : Rn X 177 772 [.ref cSC, .ref 0, .ref 127, .int (nI i)] [] σ Q := by
  by_cases hb : X.2 (i + 4) = nI 0
  · obtain ⟨σ1, e1, d1, l1⟩ := x_Wo (X := X) (x := X.2 (i + 1)) (y := X.2 (i + 2)) (i := X.2 (i + 3)) (u := 0) (Or.inl rfl) hC
    obtain ⟨σ2, e2, d2, l2⟩ := m_Wo (X := X) (x := X.2 (i + 1)) (y := X.2 (i + 2)) (i := X.2 (i + 3)) (u := 0) (Or.inl rfl) (CI_ok hC) (MI_lo hM l1)
    have e1' := fun Q => e1 Q
    have e2' := fun Q => e2 Q
    simp (disch := omega) only [q_177_772, q_177_773, q_177_774, q_177_775, q_177_776, q_177_777, q_177_778, q_177_779, q_177_780, q_177_781, q_177_782, q_177_783, q_177_784, q_177_785, q_177_786, q_177_787, q_177_788, q_177_789, q_177_790, q_177_791, q_177_792, q_177_793, q_177_796, q_177_797, q_177_800, q_177_801, q_177_804, q_177_805, q_177_806, q_177_807, q_177_808, q_177_809, q_177_810, q_177_811, q_177_812, q_177_813, q_177_814, q_177_815, q_177_816, q_177_817, q_177_818, q_177_819, q_177_820, q_177_821, q_177_822, q_177_823, q_177_824, q_177_825, q_177_828, q_177_829, q_177_832, q_177_833, q_177_836, q_177_837, q_177_840, q_177_841, q_177_1556, q_177_1559, vinT, iClamp, clr_i, clr_l, clr_r, clr_n, true_and, and_true, or_true, true_or, false_or, or_false, iLe, iLt, iEq, iAdd, iMul, List.cons_append, List.nil_append, List.append_nil, zb0, zb1, if_true, if_false, not_true_eq_false, not_false_eq_true, Bool.false_eq_true, Nat.one_ne_zero, Nat.zero_ne_one, Nat.reduceEqDiff, Nat.reduceAdd, if_pos, if_neg, c0, m127, eq_self, e1', e2', lc_eq, hb]
    exact ih σ2 _ (CI_hi d1 l2) d2
  · obtain ⟨σ1, e1, d1, l1⟩ := x_Wo (X := X) (x := X.2 (i + 1)) (y := X.2 (i + 2)) (i := X.2 (i + 3)) (u := 1) (Or.inr rfl) hC
    obtain ⟨σ2, e2, d2, l2⟩ := m_Wo (X := X) (x := X.2 (i + 1)) (y := X.2 (i + 2)) (i := X.2 (i + 3)) (u := 1) (Or.inr rfl) (CI_ok hC) (MI_lo hM l1)
    have e1' := fun Q => e1 Q
    have e2' := fun Q => e2 Q
    simp (disch := omega) only [q_177_772, q_177_773, q_177_774, q_177_775, q_177_776, q_177_777, q_177_778, q_177_779, q_177_780, q_177_781, q_177_782, q_177_783, q_177_784, q_177_785, q_177_786, q_177_787, q_177_788, q_177_789, q_177_790, q_177_791, q_177_792, q_177_793, q_177_796, q_177_797, q_177_800, q_177_801, q_177_804, q_177_805, q_177_806, q_177_807, q_177_808, q_177_809, q_177_810, q_177_811, q_177_812, q_177_813, q_177_814, q_177_815, q_177_816, q_177_817, q_177_818, q_177_819, q_177_820, q_177_821, q_177_822, q_177_823, q_177_824, q_177_825, q_177_828, q_177_829, q_177_832, q_177_833, q_177_836, q_177_837, q_177_840, q_177_841, q_177_1556, q_177_1559, vinT, iClamp, clr_i, clr_l, clr_r, clr_n, true_and, and_true, or_true, true_or, false_or, or_false, iLe, iLt, iEq, iAdd, iMul, List.cons_append, List.nil_append, List.append_nil, zb0, zb1, if_true, if_false, not_true_eq_false, not_false_eq_true, Bool.false_eq_true, Nat.one_ne_zero, Nat.zero_ne_one, Nat.reduceEqDiff, Nat.reduceAdd, if_pos, if_neg, c0, m127, eq_self, e1', e2', lc_eq, hb]
    exact ih σ2 _ (CI_hi d1 l2) d2
theorem k_Sc {X : Nat × (Nat → Int32)} {σ : Mem} {Q : List Value → Mem → Prop} {a : AS} {i : Nat} (h5 : i + 5 ≤ X.1) (hL : X.1 ≤ 2560) (hC : CI σ a) (hM : MI σ a) (ih : ∀ (σ' : Mem) (a' : AS), CI σ' a' → MI σ' a' → Rn X 177 18 [.ref cSC, .ref 0, .ref 127, .int (nI (i + 5))] [] σ' Q) : Rn X 177 842 [.ref cSC, .ref 0, .ref 127, .int (nI i)] [] σ Q := by
  by_cases hb : X.2 (i + 3) = nI 0
  · obtain ⟨σ1, e1, d1, l1⟩ := x_Sc (X := X) (x := X.2 (i + 1)) (y := X.2 (i + 2)) (u := 0) (Or.inl rfl) hC
    obtain ⟨σ2, e2, d2, l2⟩ := m_Sc (X := X) (x := X.2 (i + 1)) (y := X.2 (i + 2)) (u := 0) (Or.inl rfl) (CI_ok hC) (MI_lo hM l1)
    have e1' := fun Q => e1 Q
    have e2' := fun Q => e2 Q
    simp (disch := omega) only [q_177_842, q_177_843, q_177_844, q_177_845, q_177_846, q_177_847, q_177_848, q_177_849, q_177_850, q_177_851, q_177_852, q_177_853, q_177_854, q_177_855, q_177_856, q_177_857, q_177_858, q_177_861, q_177_862, q_177_865, q_177_866, q_177_869, q_177_870, q_177_871, q_177_872, q_177_873, q_177_874, q_177_875, q_177_876, q_177_877, q_177_878, q_177_879, q_177_880, q_177_881, q_177_882, q_177_883, q_177_884, q_177_885, q_177_888, q_177_889, q_177_892, q_177_893, q_177_896, q_177_897, q_177_900, q_177_901, q_177_1556, q_177_1559, vinT, iClamp, clr_i, clr_l, clr_r, clr_n, true_and, and_true, or_true, true_or, false_or, or_false, iLe, iLt, iEq, iAdd, iMul, List.cons_append, List.nil_append, List.append_nil, zb0, zb1, if_true, if_false, not_true_eq_false, not_false_eq_true, Bool.false_eq_true, Nat.one_ne_zero, Nat.zero_ne_one, Nat.reduceEqDiff, Nat.reduceAdd, if_pos, if_neg, c0, m127, eq_self, e1', e2', lc_eq, hb]
    exact ih σ2 _ (CI_hi d1 l2) d2
  · obtain ⟨σ1, e1, d1, l1⟩ := x_Sc (X := X) (x := X.2 (i + 1)) (y := X.2 (i + 2)) (u := 1) (Or.inr rfl) hC
    obtain ⟨σ2, e2, d2, l2⟩ := m_Sc (X := X) (x := X.2 (i + 1)) (y := X.2 (i + 2)) (u := 1) (Or.inr rfl) (CI_ok hC) (MI_lo hM l1)
    have e1' := fun Q => e1 Q
    have e2' := fun Q => e2 Q
    simp (disch := omega) only [q_177_842, q_177_843, q_177_844, q_177_845, q_177_846, q_177_847, q_177_848, q_177_849, q_177_850, q_177_851, q_177_852, q_177_853, q_177_854, q_177_855, q_177_856, q_177_857, q_177_858, q_177_861, q_177_862, q_177_865, q_177_866, q_177_869, q_177_870, q_177_871, q_177_872, q_177_873, q_177_874, q_177_875, q_177_876, q_177_877, q_177_878, q_177_879, q_177_880, q_177_881, q_177_882, q_177_883, q_177_884, q_177_885, q_177_888, q_177_889, q_177_892, q_177_893, q_177_896, q_177_897, q_177_900, q_177_901, q_177_1556, q_177_1559, vinT, iClamp, clr_i, clr_l, clr_r, clr_n, true_and, and_true, or_true, true_or, false_or, or_false, iLe, iLt, iEq, iAdd, iMul, List.cons_append, List.nil_append, List.append_nil, zb0, zb1, if_true, if_false, not_true_eq_false, not_false_eq_true, Bool.false_eq_true, Nat.one_ne_zero, Nat.zero_ne_one, Nat.reduceEqDiff, Nat.reduceAdd, if_pos, if_neg, c0, m127, eq_self, e1', e2', lc_eq, hb]
    exact ih σ2 _ (CI_hi d1 l2) d2
theorem k_Ah {X : Nat × (Nat → Int32)} {σ : Mem} {Q : List Value → Mem → Prop} {a : AS} {i : Nat} (h5 : i + 5 ≤ X.1) (hL : X.1 ≤ 2560) (hC : CI σ a) (hM : MI σ a) (ih : ∀ (σ' : Mem) (a' : AS), CI σ' a' → MI σ' a' → Rn X 177 18 [.ref cSC, .ref 0, .ref 127, .int (nI (i + 5))] [] σ' Q) : Rn X 177 902 [.ref cSC, .ref 0, .ref 127, .int (nI i)] [] σ Q := by
  obtain ⟨σ1, e1, d1, l1⟩ := x_Ah (X := X) (x := X.2 (i + 1)) (y := X.2 (i + 2)) (w0 := .null) (w1 := .null) hC
  obtain ⟨σ2, e2, d2, l2⟩ := m_Ah (X := X) (x := X.2 (i + 1)) (y := X.2 (i + 2)) (w0 := .null) (w1 := .null) (CI_ok hC) (MI_lo hM l1)
  have e1' := fun Q => e1 Q
  have e2' := fun Q => e2 Q
  simp (disch := omega) only [q_177_902, q_177_903, q_177_904, q_177_905, q_177_906, q_177_907, q_177_908, q_177_909, q_177_910, q_177_911, q_177_912, q_177_913, q_177_916, q_177_917, q_177_918, q_177_919, q_177_920, q_177_921, q_177_922, q_177_923, q_177_924, q_177_925, q_177_926, q_177_927, q_177_930, q_177_933, q_177_934, q_177_1556, q_177_1559, vinT, iClamp, clr_i, clr_l, clr_r, clr_n, true_and, and_true, or_true, true_or, false_or, or_false, iLe, iLt, iEq, iAdd, iMul, List.cons_append, List.nil_append, List.append_nil, zb0, zb1, if_true, if_false, not_true_eq_false, not_false_eq_true, Bool.false_eq_true, Nat.one_ne_zero, Nat.zero_ne_one, Nat.reduceEqDiff, Nat.reduceAdd, if_pos, if_neg, c0, m127, eq_self, e1', e2', lc_eq]
  exact ih σ2 _ (CI_hi d1 l2) d2
theorem k_Rk {X : Nat × (Nat → Int32)} {σ : Mem} {Q : List Value → Mem → Prop} {a : AS} {i : Nat} (h5 : i + 5 ≤ X.1) (hL : X.1 ≤ 2560) (hC : CI σ a) (hM : MI σ a) (ih : ∀ (σ' : Mem) (a' : AS), CI σ' a' → MI σ' a' → Rn X 177 18 [.ref cSC, .ref 0, .ref 127, .int (nI (i + 5))] [] σ' Q) : Rn X 177 935 [.ref cSC, .ref 0, .ref 127, .int (nI i)] [] σ Q := by
  obtain ⟨σ1, e1, d1, l1⟩ := x_Rk (X := X) (x := X.2 (i + 1)) (i := X.2 (i + 2)) (w0 := .null) hC
  obtain ⟨σ2, e2, d2, l2⟩ := m_Rk (X := X) (x := X.2 (i + 1)) (i := X.2 (i + 2)) (w0 := .null) (w1 := .null) (w2 := .null) (CI_ok hC) (MI_lo hM l1)
  have e1' := fun Q => e1 Q
  have e2' := fun Q => e2 Q
  simp (disch := omega) only [q_177_935, q_177_936, q_177_937, q_177_938, q_177_939, q_177_940, q_177_941, q_177_942, q_177_943, q_177_944, q_177_945, q_177_946, q_177_949, q_177_950, q_177_951, q_177_952, q_177_953, q_177_954, q_177_955, q_177_956, q_177_957, q_177_958, q_177_959, q_177_960, q_177_963, q_177_966, q_177_967, q_177_1556, q_177_1559, vinT, iClamp, clr_i, clr_l, clr_r, clr_n, true_and, and_true, or_true, true_or, false_or, or_false, iLe, iLt, iEq, iAdd, iMul, List.cons_append, List.nil_append, List.append_nil, zb0, zb1, if_true, if_false, not_true_eq_false, not_false_eq_true, Bool.false_eq_true, Nat.one_ne_zero, Nat.zero_ne_one, Nat.reduceEqDiff, Nat.reduceAdd, if_pos, if_neg, c0, m127, eq_self, e1', e2', lc_eq]
  exact ih σ2 _ (CI_hi d1 l2) d2
theorem k_Cl {X : Nat × (Nat → Int32)} {σ : Mem} {Q : List Value → Mem → Prop} {a : AS} {i : Nat} (h5 : i + 5 ≤ X.1) (hL : X.1 ≤ 2560) (hC : CI σ a) (hM : MI σ a) (ih : ∀ (σ' : Mem) (a' : AS), CI σ' a' → MI σ' a' → Rn X 177 18 [.ref cSC, .ref 0, .ref 127, .int (nI (i + 5))] [] σ' Q) : Rn X 177 968 [.ref cSC, .ref 0, .ref 127, .int (nI i)] [] σ Q := by
  obtain ⟨σ1, e1, d1, l1⟩ := x_Cl (X := X) (x := X.2 (i + 1)) (q := X.2 (i + 2)) (v := X.2 (i + 3)) (w0 := .null) (w1 := .null) hC
  obtain ⟨σ2, e2, d2, l2⟩ := m_Cl (X := X) (x := X.2 (i + 1)) (q := X.2 (i + 2)) (v := X.2 (i + 3)) (w0 := .null) (CI_ok hC) (MI_lo hM l1)
  have e1' := fun Q => e1 Q
  have e2' := fun Q => e2 Q
  simp (disch := omega) only [q_177_968, q_177_969, q_177_970, q_177_971, q_177_972, q_177_973, q_177_974, q_177_975, q_177_976, q_177_977, q_177_978, q_177_979, q_177_980, q_177_981, q_177_982, q_177_983, q_177_984, q_177_987, q_177_988, q_177_989, q_177_990, q_177_991, q_177_992, q_177_993, q_177_994, q_177_995, q_177_996, q_177_997, q_177_998, q_177_999, q_177_1000, q_177_1001, q_177_1002, q_177_1003, q_177_1006, q_177_1009, q_177_1010, q_177_1556, q_177_1559, vinT, iClamp, clr_i, clr_l, clr_r, clr_n, true_and, and_true, or_true, true_or, false_or, or_false, iLe, iLt, iEq, iAdd, iMul, List.cons_append, List.nil_append, List.append_nil, zb0, zb1, if_true, if_false, not_true_eq_false, not_false_eq_true, Bool.false_eq_true, Nat.one_ne_zero, Nat.zero_ne_one, Nat.reduceEqDiff, Nat.reduceAdd, if_pos, if_neg, c0, m127, eq_self, e1', e2', lc_eq]
  exact ih σ2 _ (CI_hi d1 l2) d2
theorem k_Ov {X : Nat × (Nat → Int32)} {σ : Mem} {Q : List Value → Mem → Prop} {a : AS} {i : Nat} (h5 : i + 5 ≤ X.1) (hL : X.1 ≤ 2560) (hC : CI σ a) (hM : MI σ a) (ih : ∀ (σ' : Mem) (a' : AS), CI σ' a' → MI σ' a' → Rn X 177 18 [.ref cSC, .ref 0, .ref 127, .int (nI (i + 5))] [] σ' Q) : Rn X 177 1011 [.ref cSC, .ref 0, .ref 127, .int (nI i)] [] σ Q := by
  obtain ⟨σ1, e1, d1, l1⟩ := x_Ov (X := X) (x := X.2 (i + 1)) hC
  obtain ⟨σ2, e2, d2, l2⟩ := m_Ov (X := X) (x := X.2 (i + 1)) (CI_ok hC) (MI_lo hM l1)
  have e1' := fun Q => e1 Q
  have e2' := fun Q => e2 Q
  simp (disch := omega) only [q_177_1011, q_177_1012, q_177_1013, q_177_1014, q_177_1015, q_177_1016, q_177_1017, q_177_1020, q_177_1021, q_177_1022, q_177_1023, q_177_1024, q_177_1025, q_177_1026, q_177_1029, q_177_1032, q_177_1033, q_177_1556, q_177_1559, vinT, iClamp, clr_i, clr_l, clr_r, clr_n, true_and, and_true, or_true, true_or, false_or, or_false, iLe, iLt, iEq, iAdd, iMul, List.cons_append, List.nil_append, List.append_nil, zb0, zb1, if_true, if_false, not_true_eq_false, not_false_eq_true, Bool.false_eq_true, Nat.one_ne_zero, Nat.zero_ne_one, Nat.reduceEqDiff, Nat.reduceAdd, if_pos, if_neg, c0, m127, eq_self, e1', e2', lc_eq]
  exact ih σ2 _ (CI_hi d1 l2) d2
theorem k_Ge {X : Nat × (Nat → Int32)} {σ : Mem} {Q : List Value → Mem → Prop} {a : AS} {i : Nat} (h5 : i + 5 ≤ X.1) (hL : X.1 ≤ 2560) (hC : CI σ a) (hM : MI σ a) (ih : ∀ (σ' : Mem) (a' : AS), CI σ' a' → MI σ' a' → Rn X 177 18 [.ref cSC, .ref 0, .ref 127, .int (nI (i + 5))] [] σ' Q) : Rn X 177 1034 [.ref cSC, .ref 0, .ref 127, .int (nI i)] [] σ Q := by
  by_cases hb : X.2 (i + 4) = nI 0
  · obtain ⟨σ1, e1, d1, l1⟩ := x_Ge (X := X) (x := X.2 (i + 1)) (q := X.2 (i + 2)) (y := X.2 (i + 3)) (u := 0) (Or.inl rfl) hC
    obtain ⟨σ2, e2, d2, l2⟩ := m_Ge (X := X) (x := X.2 (i + 1)) (q := X.2 (i + 2)) (y := X.2 (i + 3)) (u := 0) (Or.inl rfl) (CI_ok hC) (MI_lo hM l1)
    have e1' := fun Q => e1 Q
    have e2' := fun Q => e2 Q
    simp (disch := omega) only [q_177_1034, q_177_1035, q_177_1036, q_177_1037, q_177_1038, q_177_1039, q_177_1040, q_177_1041, q_177_1042, q_177_1043, q_177_1044, q_177_1045, q_177_1046, q_177_1047, q_177_1048, q_177_1049, q_177_1050, q_177_1051, q_177_1052, q_177_1053, q_177_1054, q_177_1055, q_177_1058, q_177_1059, q_177_1062, q_177_1063, q_177_1066, q_177_1067, q_177_1068, q_177_1069, q_177_1070, q_177_1071, q_177_1072, q_177_1073, q_177_1074, q_177_1075, q_177_1076, q_177_1077, q_177_1078, q_177_1079, q_177_1080, q_177_1081, q_177_1082, q_177_1083, q_177_1084, q_177_1085, q_177_1086, q_177_1087, q_177_1090, q_177_1091, q_177_1094, q_177_1095, q_177_1098, q_177_1099, q_177_1102, q_177_1103, q_177_1556, q_177_1559, vinT, iClamp, clr_i, clr_l, clr_r, clr_n, true_and, and_true, or_true, true_or, false_or, or_false, iLe, iLt, iEq, iAdd, iMul, List.cons_append, List.nil_append, List.append_nil, zb0, zb1, if_true, if_false, not_true_eq_false, not_false_eq_true, Bool.false_eq_true, Nat.one_ne_zero, Nat.zero_ne_one, Nat.reduceEqDiff, Nat.reduceAdd, if_pos, if_neg, c0, m127, eq_self, e1', e2', lc_eq, hb]
    exact ih σ2 _ (CI_hi d1 l2) d2
  · obtain ⟨σ1, e1, d1, l1⟩ := x_Ge (X := X) (x := X.2 (i + 1)) (q := X.2 (i + 2)) (y := X.2 (i + 3)) (u := 1) (Or.inr rfl) hC
    obtain ⟨σ2, e2, d2, l2⟩ := m_Ge (X := X) (x := X.2 (i + 1)) (q := X.2 (i + 2)) (y := X.2 (i + 3)) (u := 1) (Or.inr rfl) (CI_ok hC) (MI_lo hM l1)
    have e1' := fun Q => e1 Q
    have e2' := fun Q => e2 Q
    simp (disch := omega) only [q_177_1034, q_177_1035, q_177_1036, q_177_1037, q_177_1038, q_177_1039, q_177_1040, q_177_1041, q_177_1042, q_177_1043, q_177_1044, q_177_1045, q_177_1046, q_177_1047, q_177_1048, q_177_1049, q_177_1050, q_177_1051, q_177_1052, q_177_1053, q_177_1054, q_177_1055, q_177_1058, q_177_1059, q_177_1062, q_177_1063, q_177_1066, q_177_1067, q_177_1068, q_177_1069, q_177_1070, q_177_1071, q_177_1072, q_177_1073, q_177_1074, q_177_1075, q_177_1076, q_177_1077, q_177_1078, q_177_1079, q_177_1080, q_177_1081, q_177_1082, q_177_1083, q_177_1084, q_177_1085, q_177_1086, q_177_1087, q_177_1090, q_177_1091, q_177_1094, q_177_1095, q_177_1098, q_177_1099, q_177_1102, q_177_1103, q_177_1556, q_177_1559, vinT, iClamp, clr_i, clr_l, clr_r, clr_n, true_and, and_true, or_true, true_or, false_or, or_false, iLe, iLt, iEq, iAdd, iMul, List.cons_append, List.nil_append, List.append_nil, zb0, zb1, if_true, if_false, not_true_eq_false, not_false_eq_true, Bool.false_eq_true, Nat.one_ne_zero, Nat.zero_ne_one, Nat.reduceEqDiff, Nat.reduceAdd, if_pos, if_neg, c0, m127, eq_self, e1', e2', lc_eq, hb]
    exact ih σ2 _ (CI_hi d1 l2) d2
theorem k_Uf {X : Nat × (Nat → Int32)} {σ : Mem} {Q : List Value → Mem → Prop} {a : AS} {i : Nat} (h5 : i + 5 ≤ X.1) (hL : X.1 ≤ 2560) (hC : CI σ a) (hM : MI σ a) (ih : ∀ (σ' : Mem) (a' : AS), CI σ' a' → MI σ' a' → Rn X 177 18 [.ref cSC, .ref 0, .ref 127, .int (nI (i + 5))] [] σ' Q) : Rn X 177 1104 [.ref cSC, .ref 0, .ref 127, .int (nI i)] [] σ Q := by
  by_cases hb : X.2 (i + 3) = nI 0
  · obtain ⟨σ1, e1, d1, l1⟩ := x_Uf (X := X) (x := X.2 (i + 1)) (y := X.2 (i + 2)) (u := 0) (w0 := .null) (w1 := .null) (Or.inl rfl) hC
    obtain ⟨σ2, e2, d2, l2⟩ := m_Uf (X := X) (x := X.2 (i + 1)) (y := X.2 (i + 2)) (u := 0) (Or.inl rfl) (CI_ok hC) (MI_lo hM l1)
    have e1' := fun Q => e1 Q
    have e2' := fun Q => e2 Q
    simp (disch := omega) only [q_177_1104, q_177_1105, q_177_1106, q_177_1107, q_177_1108, q_177_1109, q_177_1110, q_177_1111, q_177_1112, q_177_1113, q_177_1114, q_177_1115, q_177_1116, q_177_1117, q_177_1118, q_177_1119, q_177_1120, q_177_1123, q_177_1124, q_177_1127, q_177_1128, q_177_1131, q_177_1132, q_177_1133, q_177_1134, q_177_1135, q_177_1136, q_177_1137, q_177_1138, q_177_1139, q_177_1140, q_177_1141, q_177_1142, q_177_1143, q_177_1144, q_177_1145, q_177_1146, q_177_1147, q_177_1150, q_177_1151, q_177_1154, q_177_1155, q_177_1158, q_177_1159, q_177_1162, q_177_1163, q_177_1556, q_177_1559, vinT, iClamp, clr_i, clr_l, clr_r, clr_n, true_and, and_true, or_true, true_or, false_or, or_false, iLe, iLt, iEq, iAdd, iMul, List.cons_append, List.nil_append, List.append_nil, zb0, zb1, if_true, if_false, not_true_eq_false, not_false_eq_true, Bool.false_eq_true, Nat.one_ne_zero, Nat.zero_ne_one, Nat.reduceEqDiff, Nat.reduceAdd, if_pos, if_neg, c0, m127, eq_self, e1', e2', lc_eq, hb]
    exact ih σ2 _ (CI_hi d1 l2) d2
  · obtain ⟨σ1, e1, d1, l1⟩ := x_Uf (X := X) (x := X.2 (i + 1)) (y := X.2 (i + 2)) (u := 1) (w0 := .null) (w1 := .null) (Or.inr rfl) hC
    obtain ⟨σ2, e2, d2, l2⟩ := m_Uf (X := X) (x := X.2 (i + 1)) (y := X.2 (i + 2)) (u := 1) (Or.inr rfl) (CI_ok hC) (MI_lo hM l1)
    have e1' := fun Q => e1 Q
    have e2' := fun Q => e2 Q
    simp (disch := omega) only [q_177_1104, q_177_1105, q_177_1106, q_177_1107, q_177_1108, q_177_1109, q_177_1110, q_177_1111, q_177_1112, q_177_1113, q_177_1114, q_177_1115, q_177_1116, q_177_1117, q_177_1118, q_177_1119, q_177_1120, q_177_1123, q_177_1124, q_177_1127, q_177_1128, q_177_1131, q_177_1132, q_177_1133, q_177_1134, q_177_1135, q_177_1136, q_177_1137, q_177_1138, q_177_1139, q_177_1140, q_177_1141, q_177_1142, q_177_1143, q_177_1144, q_177_1145, q_177_1146, q_177_1147, q_177_1150, q_177_1151, q_177_1154, q_177_1155, q_177_1158, q_177_1159, q_177_1162, q_177_1163, q_177_1556, q_177_1559, vinT, iClamp, clr_i, clr_l, clr_r, clr_n, true_and, and_true, or_true, true_or, false_or, or_false, iLe, iLt, iEq, iAdd, iMul, List.cons_append, List.nil_append, List.append_nil, zb0, zb1, if_true, if_false, not_true_eq_false, not_false_eq_true, Bool.false_eq_true, Nat.one_ne_zero, Nat.zero_ne_one, Nat.reduceEqDiff, Nat.reduceAdd, if_pos, if_neg, c0, m127, eq_self, e1', e2', lc_eq, hb]
    exact ih σ2 _ (CI_hi d1 l2) d2
theorem k_Fa {X : Nat × (Nat → Int32)} {σ : Mem} {Q : List Value → Mem → Prop} {a : AS} {i : Nat} (h5 : i + 5 ≤ X.1) (hL : X.1 ≤ 2560) (hC : CI σ a) (hM : MI σ a) (ih : ∀ (σ' : Mem) (a' : AS), CI σ' a' → MI σ' a' → Rn X 177 18 [.ref cSC, .ref 0, .ref 127, .int (nI (i + 5))] [] σ' Q) : Rn X 177 1164 [.ref cSC, .ref 0, .ref 127, .int (nI i)] [] σ Q := by
  obtain ⟨σ1, e1, d1, l1⟩ := x_Fa (X := X) (x := X.2 (i + 1)) (w0 := .null) (w1 := .null) (w2 := .null) (w3 := .null) (w4 := .null) (w5 := .null) (w6 := .null) (w7 := .null) hC
  obtain ⟨σ2, e2, d2, l2⟩ := m_Fa (X := X) (x := X.2 (i + 1)) (w0 := .null) (w1 := .null) (w2 := .null) (w3 := .null) (w4 := .null) (w5 := .null) (CI_ok hC) (MI_lo hM l1)
  have e1' := fun Q => e1 Q
  have e2' := fun Q => e2 Q
  simp (disch := omega) only [q_177_1164, q_177_1165, q_177_1166, q_177_1167, q_177_1168, q_177_1169, q_177_1170, q_177_1173, q_177_1174, q_177_1175, q_177_1176, q_177_1177, q_177_1178, q_177_1179, q_177_1182, q_177_1185, q_177_1186, q_177_1556, q_177_1559, vinT, iClamp, clr_i, clr_l, clr_r, clr_n, true_and, and_true, or_true, true_or, false_or, or_false, iLe, iLt, iEq, iAdd, iMul, List.cons_append, List.nil_append, List.append_nil, zb0, zb1, if_true, if_false, not_true_eq_false, not_false_eq_true, Bool.false_eq_true, Nat.one_ne_zero, Nat.zero_ne_one, Nat.reduceEqDiff, Nat.reduceAdd, if_pos, if_neg, c0, m127, eq_self, e1', e2', lc_eq]
  exact ih σ2 _ (CI_hi d1 l2) d2
theorem k_Mi {X : Nat × (Nat → Int32)} {σ : Mem} {Q : List Value → Mem → Prop} {a : AS} {i : Nat} (h5 : i + 5 ≤ X.1) (hL : X.1 ≤ 2560) (hC : CI σ a) (hM : MI σ a) (ih : ∀ (σ' : Mem) (a' : AS), CI σ' a' → MI σ' a' → Rn X 177 18 [.ref cSC, .ref 0, .ref 127, .int (nI (i + 5))] [] σ' Q) : Rn X 177 1187 [.ref cSC, .ref 0, .ref 127, .int (nI i)] [] σ Q := by
  obtain ⟨σ1, e1, d1, l1⟩ := x_Mi (X := X) (x := X.2 (i + 1)) (y := X.2 (i + 2)) (v := X.2 (i + 3)) (w0 := .null) hC
  obtain ⟨σ2, e2, d2, l2⟩ := m_Mi (X := X) (x := X.2 (i + 1)) (y := X.2 (i + 2)) (v := X.2 (i + 3)) (w0 := .null) (CI_ok hC) (MI_lo hM l1)
  have e1' := fun Q => e1 Q
  have e2' := fun Q => e2 Q
  simp (disch := omega) only [q_177_1187, q_177_1188, q_177_1189, q_177_1190, q_177_1191, q_177_1192, q_177_1193, q_177_1194, q_177_1195, q_177_1196, q_177_1197, q_177_1198, q_177_1199, q_177_1200, q_177_1201, q_177_1202, q_177_1203, q_177_1206, q_177_1207, q_177_1208, q_177_1209, q_177_1210, q_177_1211, q_177_1212, q_177_1213, q_177_1214, q_177_1215, q_177_1216, q_177_1217, q_177_1218, q_177_1219, q_177_1220, q_177_1221, q_177_1222, q_177_1225, q_177_1228, q_177_1229, q_177_1556, q_177_1559, vinT, iClamp, clr_i, clr_l, clr_r, clr_n, true_and, and_true, or_true, true_or, false_or, or_false, iLe, iLt, iEq, iAdd, iMul, List.cons_append, List.nil_append, List.append_nil, zb0, zb1, if_true, if_false, not_true_eq_false, not_false_eq_true, Bool.false_eq_true, Nat.one_ne_zero, Nat.zero_ne_one, Nat.reduceEqDiff, Nat.reduceAdd, if_pos, if_neg, c0, m127, eq_self, e1', e2', lc_eq]
  exact ih σ2 _ (CI_hi d1 l2) d2
theorem k_Be {X : Nat × (Nat → Int32)} {σ : Mem} {Q : List Value → Mem → Prop} {a : AS} {i : Nat} (h5 : i + 5 ≤ X.1) (hL : X.1 ≤ 2560) (hC : CI σ a) (hM : MI σ a) (ih : ∀ (σ' : Mem) (a' : AS), CI σ' a' → MI σ' a' → Rn X 177 18 [.ref cSC, .ref 0, .ref 127, .int (nI (i + 5))] [] σ' Q) : Rn X 177 1230 [.ref cSC, .ref 0, .ref 127, .int (nI i)] [] σ Q := by
  obtain ⟨σ1, e1, d1, l1⟩ := x_Be (X := X) (x := X.2 (i + 1)) (v := X.2 (i + 2)) (w0 := .null) hC
  obtain ⟨σ2, e2, d2, l2⟩ := m_Be (X := X) (x := X.2 (i + 1)) (v := X.2 (i + 2)) (w0 := .null) (CI_ok hC) (MI_lo hM l1)
  have e1' := fun Q => e1 Q
  have e2' := fun Q => e2 Q
  simp (disch := omega) only [q_177_1230, q_177_1231, q_177_1232, q_177_1233, q_177_1234, q_177_1235, q_177_1236, q_177_1237, q_177_1238, q_177_1239, q_177_1240, q_177_1241, q_177_1244, q_177_1245, q_177_1246, q_177_1247, q_177_1248, q_177_1249, q_177_1250, q_177_1251, q_177_1252, q_177_1253, q_177_1254, q_177_1255, q_177_1258, q_177_1261, q_177_1262, q_177_1556, q_177_1559, vinT, iClamp, clr_i, clr_l, clr_r, clr_n, true_and, and_true, or_true, true_or, false_or, or_false, iLe, iLt, iEq, iAdd, iMul, List.cons_append, List.nil_append, List.append_nil, zb0, zb1, if_true, if_false, not_true_eq_false, not_false_eq_true, Bool.false_eq_true, Nat.one_ne_zero, Nat.zero_ne_one, Nat.reduceEqDiff, Nat.reduceAdd, if_pos, if_neg, c0, m127, eq_self, e1', e2', lc_eq]
  exact ih σ2 _ (CI_hi d1 l2) d2
theorem k_Qu {X : Nat × (Nat → Int32)} {σ : Mem} {Q : List Value → Mem → Prop} {a : AS} {i : Nat} (h5 : i + 5 ≤ X.1) (hL : X.1 ≤ 2560) (hC : CI σ a) (hM : MI σ a) (ih : ∀ (σ' : Mem) (a' : AS), CI σ' a' → MI σ' a' → Rn X 177 18 [.ref cSC, .ref 0, .ref 127, .int (nI (i + 5))] [] σ' Q) : Rn X 177 1263 [.ref cSC, .ref 0, .ref 127, .int (nI i)] [] σ Q := by
  by_cases hb : X.2 (i + 2) = nI 0
  · obtain ⟨σ1, e1, d1, l1⟩ := x_Qu (X := X) (x := X.2 (i + 1)) (u := 0) (w0 := .null) (Or.inl rfl) hC
    obtain ⟨σ2, e2, d2, l2⟩ := m_Qu (X := X) (x := X.2 (i + 1)) (u := 0) (w3 := .null) (w4 := .null) (w5 := .null) (Or.inl rfl) (CI_ok hC) (MI_lo hM l1)
    have e1' := fun Q => e1 Q
    have e2' := fun Q => e2 Q
    simp (disch := omega) only [q_177_1263, q_177_1264, q_177_1265, q_177_1266, q_177_1267, q_177_1268, q_177_1269, q_177_1270, q_177_1271, q_177_1272, q_177_1273, q_177_1274, q_177_1277, q_177_1278, q_177_1281, q_177_1282, q_177_1285, q_177_1286, q_177_1287, q_177_1288, q_177_1289, q_177_1290, q_177_1291, q_177_1292, q_177_1293, q_177_1294, q_177_1295, q_177_1296, q_177_1299, q_177_1300, q_177_1303, q_177_1304, q_177_1307, q_177_1310, q_177_1311, q_177_1556, q_177_1559, vinT, iClamp, clr_i, clr_l, clr_r, clr_n, true_and, and_true, or_true, true_or, false_or, or_false, iLe, iLt, iEq, iAdd, iMul, List.cons_append, List.nil_append, List.append_nil, zb0, zb1, if_true, if_false, not_true_eq_false, not_false_eq_true, Bool.false_eq_true, Nat.one_ne_zero, Nat.zero_ne_one, Nat.reduceEqDiff, Nat.reduceAdd, if_pos, if_neg, c0, m127, eq_self, e1', e2', lc_eq, hb]
    exact ih σ2 _ (CI_hi d1 l2) d2
  · obtain ⟨σ1, e1, d1, l1⟩ := x_Qu (X := X) (x := X.2 (i + 1)) (u := 1) (w0 := .null) (Or.inr rfl) hC
    obtain ⟨σ2, e2, d2, l2⟩ := m_Qu (X := X) (x := X.2 (i + 1)) (u := 1) (w3 := .null) (w4 := .null) (w5 := .null) (Or.inr rfl) (CI_ok hC) (MI_lo hM l1)
    have e1' := fun Q => e1 Q
    have e2' := fun Q => e2 Q
    simp (disch := omega) only [q_177_1263, q_177_1264, q_177_1265, q_177_1266, q_177_1267, q_177_1268, q_177_1269, q_177_1270, q_177_1271, q_177_1272, q_177_1273, q_177_1274, q_177_1277, q_177_1278, q_177_1281, q_177_1282, q_177_1285, q_177_1286, q_177_1287, q_177_1288, q_177_1289, q_177_1290, q_177_1291, q_177_1292, q_177_1293, q_177_1294, q_177_1295, q_177_1296, q_177_1299, q_177_1300, q_177_1303, q_177_1304, q_177_1307, q_177_1310, q_177_1311, q_177_1556, q_177_1559, vinT, iClamp, clr_i, clr_l, clr_r, clr_n, true_and, and_true, or_true, true_or, false_or, or_false, iLe, iLt, iEq, iAdd, iMul, List.cons_append, List.nil_append, List.append_nil, zb0, zb1, if_true, if_false, not_true_eq_false, not_false_eq_true, Bool.false_eq_true, Nat.one_ne_zero, Nat.zero_ne_one, Nat.reduceEqDiff, Nat.reduceAdd, if_pos, if_neg, c0, m127, eq_self, e1', e2', lc_eq, hb]
    exact ih σ2 _ (CI_hi d1 l2) d2
theorem k_Pe {X : Nat × (Nat → Int32)} {σ : Mem} {Q : List Value → Mem → Prop} {a : AS} {i : Nat} (h5 : i + 5 ≤ X.1) (hL : X.1 ≤ 2560) (hC : CI σ a) (hM : MI σ a) (ih : ∀ (σ' : Mem) (a' : AS), CI σ' a' → MI σ' a' → Rn X 177 18 [.ref cSC, .ref 0, .ref 127, .int (nI (i + 5))] [] σ' Q) : Rn X 177 1312 [.ref cSC, .ref 0, .ref 127, .int (nI i)] [] σ Q := by
  obtain ⟨σ1, e1, d1, l1⟩ := x_Pe (X := X) (x := X.2 (i + 1)) hC
  obtain ⟨σ2, e2, d2, l2⟩ := m_Pe (X := X) (x := X.2 (i + 1)) (CI_ok hC) (MI_lo hM l1)
  have e1' := fun Q => e1 Q
  have e2' := fun Q => e2 Q
  simp (disch := omega) only [q_177_1312, q_177_1313, q_177_1314, q_177_1315, q_177_1316, q_177_1317, q_177_1318, q_177_1321, q_177_1322, q_177_1323, q_177_1324, q_177_1325, q_177_1326, q_177_1327, q_177_1330, q_177_1333, q_177_1334, q_177_1556, q_177_1559, vinT, iClamp, clr_i, clr_l, clr_r, clr_n, true_and, and_true, or_true, true_or, false_or, or_false, iLe, iLt, iEq, iAdd, iMul, List.cons_append, List.nil_append, List.append_nil, zb0, zb1, if_true, if_false, not_true_eq_false, not_false_eq_true, Bool.false_eq_true, Nat.one_ne_zero, Nat.zero_ne_one, Nat.reduceEqDiff, Nat.reduceAdd, if_pos, if_neg, c0, m127, eq_self, e1', e2', lc_eq]
  exact ih σ2 _ (CI_hi d1 l2) d2
theorem k_Pa {X : Nat × (Nat → Int32)} {σ : Mem} {Q : List Value → Mem → Prop} {a : AS} {i : Nat} (h5 : i + 5 ≤ X.1) (hL : X.1 ≤ 2560) (hC : CI σ a) (hM : MI σ a) (ih : ∀ (σ' : Mem) (a' : AS), CI σ' a' → MI σ' a' → Rn X 177 18 [.ref cSC, .ref 0, .ref 127, .int (nI (i + 5))] [] σ' Q) : Rn X 177 1335 [.ref cSC, .ref 0, .ref 127, .int (nI i)] [] σ Q := by
  obtain ⟨σ1, e1, d1, l1⟩ := x_Pa (X := X) (x := X.2 (i + 1)) (i := X.2 (i + 2)) hC
  obtain ⟨σ2, e2, d2, l2⟩ := m_Pa (X := X) (x := X.2 (i + 1)) (i := X.2 (i + 2)) (CI_ok hC) (MI_lo hM l1)
  have e1' := fun Q => e1 Q
  have e2' := fun Q => e2 Q
  simp (disch := omega) only [q_177_1335, q_177_1336, q_177_1337, q_177_1338, q_177_1339, q_177_1340, q_177_1341, q_177_1342, q_177_1343, q_177_1344, q_177_1345, q_177_1346, q_177_1349, q_177_1350, q_177_1351, q_177_1352, q_177_1353, q_177_1354, q_177_1355, q_177_1356, q_177_1357, q_177_1358, q_177_1359, q_177_1360, q_177_1363, q_177_1366, q_177_1367, q_177_1556, q_177_1559, vinT, iClamp, clr_i, clr_l, clr_r, clr_n, true_and, and_true, or_true, true_or, false_or, or_false, iLe, iLt, iEq, iAdd, iMul, List.cons_append, List.nil_append, List.append_nil, zb0, zb1, if_true, if_false, not_true_eq_false, not_false_eq_true, Bool.false_eq_true, Nat.one_ne_zero, Nat.zero_ne_one, Nat.reduceEqDiff, Nat.reduceAdd, if_pos, if_neg, c0, m127, eq_self, e1', e2', lc_eq]
  exact ih σ2 _ (CI_hi d1 l2) d2
theorem k_Se {X : Nat × (Nat → Int32)} {σ : Mem} {Q : List Value → Mem → Prop} {a : AS} {i : Nat} (h5 : i + 5 ≤ X.1) (hL : X.1 ≤ 2560) (hC : CI σ a) (hM : MI σ a) (ih : ∀ (σ' : Mem) (a' : AS), CI σ' a' → MI σ' a' → Rn X 177 18 [.ref cSC, .ref 0, .ref 127, .int (nI (i + 5))] [] σ' Q) : Rn X 177 1368 [.ref cSC, .ref 0, .ref 127, .int (nI i)] [] σ Q := by
  obtain ⟨σ1, e1, d1, l1⟩ := x_Se (X := X) (x := X.2 (i + 1)) (w0 := .null) (w1 := .null) hC
  obtain ⟨σ2, e2, d2, l2⟩ := m_Se (X := X) (x := X.2 (i + 1)) (w2 := .null) (w3 := .null) (w4 := .null) (CI_ok hC) (MI_lo hM l1)
  have e1' := fun Q => e1 Q
  have e2' := fun Q => e2 Q
  simp (disch := omega) only [q_177_1368, q_177_1369, q_177_1370, q_177_1371, q_177_1372, q_177_1373, q_177_1374, q_177_1377, q_177_1378, q_177_1379, q_177_1380, q_177_1381, q_177_1382, q_177_1383, q_177_1386, q_177_1389, q_177_1390, q_177_1556, q_177_1559, vinT, iClamp, clr_i, clr_l, clr_r, clr_n, true_and, and_true, or_true, true_or, false_or, or_false, iLe, iLt, iEq, iAdd, iMul, List.cons_append, List.nil_append, List.append_nil, zb0, zb1, if_true, if_false, not_true_eq_false, not_false_eq_true, Bool.false_eq_true, Nat.one_ne_zero, Nat.zero_ne_one, Nat.reduceEqDiff, Nat.reduceAdd, if_pos, if_neg, c0, m127, eq_self, e1', e2', lc_eq]
  exact ih σ2 _ (CI_hi d1 l2) d2
theorem k_Ow {X : Nat × (Nat → Int32)} {σ : Mem} {Q : List Value → Mem → Prop} {a : AS} {i : Nat} (h5 : i + 5 ≤ X.1) (hL : X.1 ≤ 2560) (hC : CI σ a) (hM : MI σ a) (ih : ∀ (σ' : Mem) (a' : AS), CI σ' a' → MI σ' a' → Rn X 177 18 [.ref cSC, .ref 0, .ref 127, .int (nI (i + 5))] [] σ' Q) : Rn X 177 1391 [.ref cSC, .ref 0, .ref 127, .int (nI i)] [] σ Q := by
  obtain ⟨σ1, e1, d1, l1⟩ := x_Ow (X := X) (x := X.2 (i + 1)) (t := X.2 (i + 2)) hC
  obtain ⟨σ2, e2, d2, l2⟩ := m_Ow (X := X) (x := X.2 (i + 1)) (t := X.2 (i + 2)) (CI_ok hC) (MI_lo hM l1)
  have e1' := fun Q => e1 Q
  have e2' := fun Q => e2 Q
  simp (disch := omega) only [q_177_1391, q_177_1392, q_177_1393, q_177_1394, q_177_1395, q_177_1396, q_177_1397, q_177_1398, q_177_1399, q_177_1400, q_177_1401, q_177_1402, q_177_1405, q_177_1406, q_177_1407, q_177_1408, q_177_1409, q_177_1410, q_177_1411, q_177_1412, q_177_1413, q_177_1414, q_177_1415, q_177_1416, q_177_1419, q_177_1422, q_177_1423, q_177_1556, q_177_1559, vinT, iClamp, clr_i, clr_l, clr_r, clr_n, true_and, and_true, or_true, true_or, false_or, or_false, iLe, iLt, iEq, iAdd, iMul, List.cons_append, List.nil_append, List.append_nil, zb0, zb1, if_true, if_false, not_true_eq_false, not_false_eq_true, Bool.false_eq_true, Nat.one_ne_zero, Nat.zero_ne_one, Nat.reduceEqDiff, Nat.reduceAdd, if_pos, if_neg, c0, m127, eq_self, e1', e2', lc_eq]
  exact ih σ2 _ (CI_hi d1 l2) d2
theorem k_Nx {X : Nat × (Nat → Int32)} {σ : Mem} {Q : List Value → Mem → Prop} {a : AS} {i : Nat} (h5 : i + 5 ≤ X.1) (hL : X.1 ≤ 2560) (hC : CI σ a) (hM : MI σ a) (ih : ∀ (σ' : Mem) (a' : AS), CI σ' a' → MI σ' a' → Rn X 177 18 [.ref cSC, .ref 0, .ref 127, .int (nI (i + 5))] [] σ' Q) : Rn X 177 1424 [.ref cSC, .ref 0, .ref 127, .int (nI i)] [] σ Q := by
  obtain ⟨σ1, e1, d1, l1⟩ := x_Nx (X := X) (x := X.2 (i + 1)) (t := X.2 (i + 2)) (y := X.2 (i + 3)) (w0 := .null) hC
  obtain ⟨σ2, e2, d2, l2⟩ := m_Nx (X := X) (x := X.2 (i + 1)) (t := X.2 (i + 2)) (y := X.2 (i + 3)) (w4 := .null) (w5 := .null) (w6 := .null) (w7 := .null) (CI_ok hC) (MI_lo hM l1)
  have e1' := fun Q => e1 Q
  have e2' := fun Q => e2 Q
  simp (disch := omega) only [q_177_1424, q_177_1425, q_177_1426, q_177_1427, q_177_1428, q_177_1429, q_177_1430, q_177_1431, q_177_1432, q_177_1433, q_177_1434, q_177_1435, q_177_1436, q_177_1437, q_177_1438, q_177_1439, q_177_1440, q_177_1443, q_177_1444, q_177_1445, q_177_1446, q_177_1447, q_177_1448, q_177_1449, q_177_1450, q_177_1451, q_177_1452, q_177_1453, q_177_1454, q_177_1455, q_177_1456, q_177_1457, q_177_1458, q_177_1459, q_177_1462, q_177_1465, q_177_1466, q_177_1556, q_177_1559, vinT, iClamp, clr_i, clr_l, clr_r, clr_n, true_and, and_true, or_true, true_or, false_or, or_false, iLe, iLt, iEq, iAdd, iMul, List.cons_append, List.nil_append, List.append_nil, zb0, zb1, if_true, if_false, not_true_eq_false, not_false_eq_true, Bool.false_eq_true, Nat.one_ne_zero, Nat.zero_ne_one, Nat.reduceEqDiff, Nat.reduceAdd, if_pos, if_neg, c0, m127, eq_self, e1', e2', lc_eq]
  exact ih σ2 _ (CI_hi d1 l2) d2
theorem k_Ke {X : Nat × (Nat → Int32)} {σ : Mem} {Q : List Value → Mem → Prop} {a : AS} {i : Nat} (h5 : i + 5 ≤ X.1) (hL : X.1 ≤ 2560) (hC : CI σ a) (hM : MI σ a) (ih : ∀ (σ' : Mem) (a' : AS), CI σ' a' → MI σ' a' → Rn X 177 18 [.ref cSC, .ref 0, .ref 127, .int (nI (i + 5))] [] σ' Q) : Rn X 177 1467 [.ref cSC, .ref 0, .ref 127, .int (nI i)] [] σ Q := by
  obtain ⟨σ1, e1, d1, l1⟩ := x_Ke (X := X) (x := X.2 (i + 1)) (y := X.2 (i + 2)) hC
  obtain ⟨σ2, e2, d2, l2⟩ := m_Ke (X := X) (x := X.2 (i + 1)) (y := X.2 (i + 2)) (CI_ok hC) (MI_lo hM l1)
  have e1' := fun Q => e1 Q
  have e2' := fun Q => e2 Q
  simp (disch := omega) only [q_177_1467, q_177_1468, q_177_1469, q_177_1470, q_177_1471, q_177_1472, q_177_1473, q_177_1474, q_177_1475, q_177_1476, q_177_1477, q_177_1478, q_177_1481, q_177_1482, q_177_1483, q_177_1484, q_177_1485, q_177_1486, q_177_1487, q_177_1488, q_177_1489, q_177_1490, q_177_1491, q_177_1492, q_177_1495, q_177_1498, q_177_1499, q_177_1556, q_177_1559, vinT, iClamp, clr_i, clr_l, clr_r, clr_n, true_and, and_true, or_true, true_or, false_or, or_false, iLe, iLt, iEq, iAdd, iMul, List.cons_append, List.nil_append, List.append_nil, zb0, zb1, if_true, if_false, not_true_eq_false, not_false_eq_true, Bool.false_eq_true, Nat.one_ne_zero, Nat.zero_ne_one, Nat.reduceEqDiff, Nat.reduceAdd, if_pos, if_neg, c0, m127, eq_self, e1', e2', lc_eq]
  exact ih σ2 _ (CI_hi d1 l2) d2
theorem k_Co {X : Nat × (Nat → Int32)} {σ : Mem} {Q : List Value → Mem → Prop} {a : AS} {i : Nat} (h5 : i + 5 ≤ X.1) (hL : X.1 ≤ 2560) (hC : CI σ a) (hM : MI σ a) (ih : ∀ (σ' : Mem) (a' : AS), CI σ' a' → MI σ' a' → Rn X 177 18 [.ref cSC, .ref 0, .ref 127, .int (nI (i + 5))] [] σ' Q) : Rn X 177 1500 [.ref cSC, .ref 0, .ref 127, .int (nI i)] [] σ Q := by
  obtain ⟨σ1, e1, d1, l1⟩ := x_Co (X := X) (x := X.2 (i + 1)) (y := X.2 (i + 2)) hC
  obtain ⟨σ2, e2, d2, l2⟩ := m_Co (X := X) (x := X.2 (i + 1)) (y := X.2 (i + 2)) (CI_ok hC) (MI_lo hM l1)
  have e1' := fun Q => e1 Q
  have e2' := fun Q => e2 Q
  simp (disch := omega) only [q_177_1500, q_177_1501, q_177_1502, q_177_1503, q_177_1504, q_177_1505, q_177_1506, q_177_1507, q_177_1508, q_177_1509, q_177_1510, q_177_1511, q_177_1514, q_177_1515, q_177_1516, q_177_1517, q_177_1518, q_177_1519, q_177_1520, q_177_1521, q_177_1522, q_177_1523, q_177_1524, q_177_1525, q_177_1528, q_177_1531, q_177_1532, q_177_1556, q_177_1559, vinT, iClamp, clr_i, clr_l, clr_r, clr_n, true_and, and_true, or_true, true_or, false_or, or_false, iLe, iLt, iEq, iAdd, iMul, List.cons_append, List.nil_append, List.append_nil, zb0, zb1, if_true, if_false, not_true_eq_false, not_false_eq_true, Bool.false_eq_true, Nat.one_ne_zero, Nat.zero_ne_one, Nat.reduceEqDiff, Nat.reduceAdd, if_pos, if_neg, c0, m127, eq_self, e1', e2', lc_eq]
  exact ih σ2 _ (CI_hi d1 l2) d2
theorem k_Ct {X : Nat × (Nat → Int32)} {σ : Mem} {Q : List Value → Mem → Prop} {a : AS} {i : Nat} (h5 : i + 5 ≤ X.1) (hL : X.1 ≤ 2560) (hC : CI σ a) (hM : MI σ a) (ih : ∀ (σ' : Mem) (a' : AS), CI σ' a' → MI σ' a' → Rn X 177 18 [.ref cSC, .ref 0, .ref 127, .int (nI (i + 5))] [] σ' Q) : Rn X 177 1533 [.ref cSC, .ref 0, .ref 127, .int (nI i)] [] σ Q := by
  obtain ⟨σ1, e1, d1, l1⟩ := x_Ct (X := X) (x := X.2 (i + 1)) (w0 := .null) (w1 := .null) hC
  obtain ⟨σ2, e2, d2, l2⟩ := m_Ct (X := X) (x := X.2 (i + 1)) (w2 := .null) (w3 := .null) (w4 := .null) (w5 := .null) (w6 := .null) (CI_ok hC) (MI_lo hM l1)
  have e1' := fun Q => e1 Q
  have e2' := fun Q => e2 Q
  simp (disch := omega) only [q_177_1533, q_177_1534, q_177_1535, q_177_1536, q_177_1537, q_177_1538, q_177_1539, q_177_1542, q_177_1543, q_177_1544, q_177_1545, q_177_1546, q_177_1547, q_177_1548, q_177_1551, q_177_1554, q_177_1555, q_177_1556, q_177_1559, vinT, iClamp, clr_i, clr_l, clr_r, clr_n, true_and, and_true, or_true, true_or, false_or, or_false, iLe, iLt, iEq, iAdd, iMul, List.cons_append, List.nil_append, List.append_nil, zb0, zb1, if_true, if_false, not_true_eq_false, not_false_eq_true, Bool.false_eq_true, Nat.one_ne_zero, Nat.zero_ne_one, Nat.reduceEqDiff, Nat.reduceAdd, if_pos, if_neg, c0, m127, eq_self, e1', e2', lc_eq]
  exact ih σ2 _ (CI_hi d1 l2) d2
theorem k_none {X : Nat × (Nat → Int32)} {σ : Mem} {Q : List Value → Mem → Prop} {a : AS} {i : Nat} (h5 : i + 5 ≤ X.1) (hL : X.1 ≤ 2560) (hC : CI σ a) (hM : MI σ a) (ih : ∀ (σ' : Mem) (a' : AS), CI σ' a' → MI σ' a' → Rn X 177 18 [.ref cSC, .ref 0, .ref 127, .int (nI (i + 5))] [] σ' Q) : Rn X 177 1556 [.ref cSC, .ref 0, .ref 127, .int (nI i)] [] σ Q := by
  simp (disch := omega) only [q_177_1556, q_177_1559, vinT, iClamp, clr_i, clr_l, clr_r, clr_n, true_and, and_true, or_true, true_or, false_or, or_false, iLe, iLt, iEq, iAdd, iMul, List.cons_append, List.nil_append, List.append_nil, zb0, zb1, if_true, if_false, not_true_eq_false, not_false_eq_true, Bool.false_eq_true, Nat.one_ne_zero, Nat.zero_ne_one, Nat.reduceEqDiff, Nat.reduceAdd, if_pos, if_neg]
  exact ih σ a hC hM
theorem and63 (x : Int32) : ∃ c, c < 64 ∧ x &&& nI 63 = nI c := by
  refine ⟨(x &&& nI 63).toBitVec.toNat, ?_, ?_⟩
  · show (x.toBitVec &&& (nI 63).toBitVec).toNat < 64
    rw [BitVec.toNat_and]
    exact Nat.lt_of_le_of_lt Nat.and_le_right (by decide)
  · apply Int32.toBitVec_inj.1
    show _ = BitVec.ofNat 32 _
    simp
theorem sw_dflt : ∀ c, c < 64 → 35 ≤ c → ((32 : Nat) : Int) + swO 1524 0 34 #[156, 189, 242, 295, 328, 351, 384, 417, 477, 526, 585, 618, 661, 684, 707, 740, 810, 870, 903, 936, 979, 1002, 1072, 1132, 1155, 1198, 1231, 1280, 1303, 1336, 1359, 1392, 1435, 1468, 1501] (nI c) = ((1556 : Nat) : Int) := by decide
theorem l_law {X : Nat × (Nat → Int32)} (hL : X.1 ≤ 2560) : ∀ n i (σ : Mem) (a : AS), X.1 ≤ i + n → i ≤ 2560 + 5 → CI σ a → MI σ a → Rn X 177 18 [.ref cSC, .ref 0, .ref 127, .int (nI i)] [] σ (fun v _ => v = [.int (nI 1)]) := by
  intro n
  induction n with
  | zero =>
    intro i σ a hi hi2 hC hM
    rw [q_177_18]
    simp (disch := omega) only [q_177_19, q_177_20, q_177_21, q_177_22, q_177_23, q_177_1562, q_177_1563, vinT, iClamp, clr_i, clr_l, clr_r, clr_n, true_and, and_true, or_true, true_or, false_or, or_false, iLe, iLt, iEq, iAdd, iMul, List.cons_append, List.nil_append, List.append_nil, zb0, zb1, if_true, if_false, not_true_eq_false, not_false_eq_true, Bool.false_eq_true, Nat.one_ne_zero, Nat.zero_ne_one, Nat.reduceEqDiff, Nat.reduceAdd, if_pos, if_neg, eq_self, dLt]
  | succ n IH =>
    intro i σ a hi hi2 hC hM
    rw [q_177_18]
    by_cases c0' : X.1 < i + 5
    · simp (disch := omega) only [q_177_19, q_177_20, q_177_21, q_177_22, q_177_23, q_177_1562, q_177_1563, vinT, iClamp, clr_i, clr_l, clr_r, clr_n, true_and, and_true, or_true, true_or, false_or, or_false, iLe, iLt, iEq, iAdd, iMul, List.cons_append, List.nil_append, List.append_nil, zb0, zb1, if_true, if_false, not_true_eq_false, not_false_eq_true, Bool.false_eq_true, Nat.one_ne_zero, Nat.zero_ne_one, Nat.reduceEqDiff, Nat.reduceAdd, if_pos, if_neg, eq_self, dLt]
    · have h5 : i + 5 ≤ X.1 := by omega
      have ih : ∀ (σ' : Mem) (a' : AS), CI σ' a' → MI σ' a' → Rn X 177 18 [.ref cSC, .ref 0, .ref 127, .int (nI (i + 5))] [] σ' (fun v _ => v = [.int (nI 1)]) := fun σ' a' g1 g2 => IH (i + 5) σ' a' (by omega) (by omega) g1 g2
      obtain ⟨c, hc, ec⟩ := and63 (X.2 i)
      simp (disch := omega) only [q_177_19, q_177_20, q_177_21, q_177_22, q_177_23, q_177_26, q_177_27, q_177_28, q_177_29, q_177_31, vinT, iClamp, clr_i, clr_l, clr_r, clr_n, true_and, and_true, or_true, true_or, false_or, or_false, iLe, iLt, iEq, iAdd, iMul, List.cons_append, List.nil_append, List.append_nil, zb0, zb1, if_true, if_false, not_true_eq_false, not_false_eq_true, Bool.false_eq_true, Nat.one_ne_zero, Nat.zero_ne_one, Nat.reduceEqDiff, Nat.reduceAdd, if_pos, if_neg, eq_self, dLt, ec]
      by_cases hc2 : 35 ≤ c
      · rw [q_177_32 (p := 1556) (sw_dflt c hc hc2)]
        exact k_none h5 hL hC hM ih
      · have e : c = 0 ∨ c = 1 ∨ c = 2 ∨ c = 3 ∨ c = 4 ∨ c = 5 ∨ c = 6 ∨ c = 7 ∨ c = 8 ∨ c = 9 ∨ c = 10 ∨ c = 11 ∨ c = 12 ∨ c = 13 ∨ c = 14 ∨ c = 15 ∨ c = 16 ∨ c = 17 ∨ c = 18 ∨ c = 19 ∨ c = 20 ∨ c = 21 ∨ c = 22 ∨ c = 23 ∨ c = 24 ∨ c = 25 ∨ c = 26 ∨ c = 27 ∨ c = 28 ∨ c = 29 ∨ c = 30 ∨ c = 31 ∨ c = 32 ∨ c = 33 ∨ c = 34 := by omega
        rcases e with rfl | rfl | rfl | rfl | rfl | rfl | rfl | rfl | rfl | rfl | rfl | rfl | rfl | rfl | rfl | rfl | rfl | rfl | rfl | rfl | rfl | rfl | rfl | rfl | rfl | rfl | rfl | rfl | rfl | rfl | rfl | rfl | rfl | rfl | rfl
        · rw [q_177_32 (p := 188) (by decide)]
          exact k_Tr h5 hL hC hM ih
        · rw [q_177_32 (p := 221) (by decide)]
          exact k_Tk h5 hL hC hM ih
        · rw [q_177_32 (p := 274) (by decide)]
          exact k_Hr h5 hL hC hM ih
        · rw [q_177_32 (p := 327) (by decide)]
          exact k_Nm h5 hL hC hM ih
        · rw [q_177_32 (p := 360) (by decide)]
          exact k_Un h5 hL hC hM ih
        · rw [q_177_32 (p := 383) (by decide)]
          exact k_At h5 hL hC hM ih
        · rw [q_177_32 (p := 416) (by decide)]
          exact k_Sw h5 hL hC hM ih
        · rw [q_177_32 (p := 449) (by decide)]
          exact k_Sh h5 hL hC hM ih
        · rw [q_177_32 (p := 509) (by decide)]
          exact k_Gs h5 hL hC hM ih
        · rw [q_177_32 (p := 558) (by decide)]
          exact k_Gi h5 hL hC hM ih
        · rw [q_177_32 (p := 617) (by decide)]
          exact k_Rm h5 hL hC hM ih
        · rw [q_177_32 (p := 650) (by decide)]
          exact k_Du h5 hL hC hM ih
        · rw [q_177_32 (p := 693) (by decide)]
          exact k_Fi h5 hL hC hM ih
        · rw [q_177_32 (p := 716) (by decide)]
          exact k_Le h5 hL hC hM ih
        · rw [q_177_32 (p := 739) (by decide)]
          exact k_Of h5 hL hC hM ih
        · rw [q_177_32 (p := 772) (by decide)]
          exact k_Wo h5 hL hC hM ih
        · rw [q_177_32 (p := 842) (by decide)]
          exact k_Sc h5 hL hC hM ih
        · rw [q_177_32 (p := 902) (by decide)]
          exact k_Ah h5 hL hC hM ih
        · rw [q_177_32 (p := 935) (by decide)]
          exact k_Rk h5 hL hC hM ih
        · rw [q_177_32 (p := 968) (by decide)]
          exact k_Cl h5 hL hC hM ih
        · rw [q_177_32 (p := 1011) (by decide)]
          exact k_Ov h5 hL hC hM ih
        · rw [q_177_32 (p := 1034) (by decide)]
          exact k_Ge h5 hL hC hM ih
        · rw [q_177_32 (p := 1104) (by decide)]
          exact k_Uf h5 hL hC hM ih
        · rw [q_177_32 (p := 1164) (by decide)]
          exact k_Fa h5 hL hC hM ih
        · rw [q_177_32 (p := 1187) (by decide)]
          exact k_Mi h5 hL hC hM ih
        · rw [q_177_32 (p := 1230) (by decide)]
          exact k_Be h5 hL hC hM ih
        · rw [q_177_32 (p := 1263) (by decide)]
          exact k_Qu h5 hL hC hM ih
        · rw [q_177_32 (p := 1312) (by decide)]
          exact k_Pe h5 hL hC hM ih
        · rw [q_177_32 (p := 1335) (by decide)]
          exact k_Pa h5 hL hC hM ih
        · rw [q_177_32 (p := 1368) (by decide)]
          exact k_Se h5 hL hC hM ih
        · rw [q_177_32 (p := 1391) (by decide)]
          exact k_Ow h5 hL hC hM ih
        · rw [q_177_32 (p := 1424) (by decide)]
          exact k_Nx h5 hL hC hM ih
        · rw [q_177_32 (p := 1467) (by decide)]
          exact k_Ke h5 hL hC hM ih
        · rw [q_177_32 (p := 1500) (by decide)]
          exact k_Co h5 hL hC hM ih
        · rw [q_177_32 (p := 1533) (by decide)]
          exact k_Ct h5 hL hC hM ih
