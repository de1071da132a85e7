def chk : Bool := match exC 4000 8 0 (ent 4 [.ref cSC]) [] (0, fun _ => []) with
  | some (pc, ls, st, n, μ) => decide (pc = 18) && decide (ls = [.ref cSC, .ref 0, .ref 127, .int 0]) && decide (st = []) && decide (n = 147)
  | none => false
def chk1 : Bool := match exC 100 0 0 [.ref 6] [] (7, fun _ => [.null, .int 0]) with
  | some (pc, ls, st, n, μ) => decide (pc = 12) && decide (st = []) && decide (n = 8)
  | none => false
theorem chk1_ok : chk1 = true := by decide +kernel
def chk2 : Bool := match exC 100 5 0 [.ref 31, .null] [] (32, fun _ => dfl 2 10) with
  | some (pc, ls, st, n, μ) => decide (pc = 88) && decide (st = []) && decide (n = 43)
  | none => false
theorem chk2_ok : chk2 = true := by decide +kernel
set_option maxRecDepth 100000 in
theorem chk_ok : chk = true := by decide +kernel
