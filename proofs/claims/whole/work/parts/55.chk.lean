/-! ===== the constructors run, and leave what they leave ===== -/
def chk : Bool := match exC 4000 8 0 (ent 4 [.ref cSC]) [] (0, fun _ => []) with
  | some (pc, ls, st, n, μ) => decide (pc = 18) && decide (ls = [.ref cSC, .ref 0, .ref 127, .int 0]) && decide (st = []) && decide (n = 147) && (List.range 147).all (fun k => decide (μ k = i0 k))
  | none => false
set_option maxRecDepth 100000 in
theorem chk_ok : chk = true := by decide +kernel
