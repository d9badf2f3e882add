/-- the world behind both constructors -/
def lwW : List rC := [
  .inr (7, [.inl (.ref 1), .inl (.ref 2), .inl (.ref 3), .inl (.ref 4), .inl (.ref 11), .inl (.ref 18), .inl (.int 0), .inl (.int 1), .inl (.int 0), .inl .null]),
  .inr (1, [.inl (.int 0), .inl (.ref 1000), .inl (.int 0)]),
  .inr (1, [.inl (.int 0), .inl (.ref 1000), .inl (.int 0)]),
  .inr (1, [.inl (.int 0), .inl (.ref 1000), .inl (.int 0)]),
  .inr (2, [.inl (.ref 5), .inl (.ref 6), .inl (.ref 7), .inl (.ref 8), .inl (.ref 9), .inl (.ref 10)]),
  .inr (1, [.inl (.int 0), .inl (.ref 1000), .inl (.int 0)]),
  .inr (1, [.inl (.int 0), .inl (.ref 1000), .inl (.int 0)]),
  .inl (0, [.inl (.int 0), .inl (.int 0), .inl (.int 0), .inl (.int 0), .inl (.int 0), .inl (.int 0), .inl (.int 0), .inl (.int 0), .inl (.int 0), .inl (.int 0), .inl (.int 0), .inl (.int 0), .inl (.int 0), .inl (.int 0), .inl (.int 0), .inl (.int 0), .inl (.int 0), .inl (.int 0), .inl (.int 0), .inl (.int 0), .inl (.int 0), .inl (.int 0), .inl (.int 0), .inl (.int 0)]),
  .inl (0, [.inl (.int 0), .inl (.int 0), .inl (.int 0), .inl (.int 0), .inl (.int 0), .inl (.int 0), .inl (.int 0), .inl (.int 0), .inl (.int 0), .inl (.int 0), .inl (.int 0), .inl (.int 0), .inl (.int 0), .inl (.int 0), .inl (.int 0), .inl (.int 0), .inl (.int 0), .inl (.int 0), .inl (.int 0), .inl (.int 0), .inl (.int 0), .inl (.int 0), .inl (.int 0), .inl (.int 0)]),
  .inl (0, [.inl (.int 0), .inl (.int 0), .inl (.int 0), .inl (.int 0), .inl (.int 0), .inl (.int 0), .inl (.int 0), .inl (.int 0), .inl (.int 0), .inl (.int 0), .inl (.int 0), .inl (.int 0), .inl (.int 0), .inl (.int 0), .inl (.int 0), .inl (.int 0), .inl (.int 0), .inl (.int 0), .inl (.int 0), .inl (.int 0), .inl (.int 0), .inl (.int 0), .inl (.int 0), .inl (.int 0)]),
  .inl (0, [.inl (.int 0), .inl (.int 0), .inl (.int 0), .inl (.int 0), .inl (.int 0), .inl (.int 0), .inl (.int 0), .inl (.int 0), .inl (.int 0), .inl (.int 0), .inl (.int 0), .inl (.int 0), .inl (.int 0), .inl (.int 0), .inl (.int 0), .inl (.int 0), .inl (.int 0), .inl (.int 0), .inl (.int 0), .inl (.int 0), .inl (.int 0), .inl (.int 0), .inl (.int 0), .inl (.int 0)]),
  .inr (5, [.inl (.ref 12), .inl (.ref 13), .inl (.ref 14), .inl (.ref 15), .inl (.ref 16), .inl (.ref 17), .inl (.int 0)]),
  .inr (1, [.inl (.int 0), .inl (.ref 1000), .inl (.int 0)]),
  .inr (1, [.inl (.int 0), .inl (.ref 1000), .inl (.int 0)]),
  .inl (0, [.inl (.int 0), .inl (.int 0), .inl (.int 0), .inl (.int 0), .inl (.int 0), .inl (.int 0), .inl (.int 0), .inl (.int 0), .inl (.int 0), .inl (.int 0), .inl (.int 0), .inl (.int 0)]),
  .inl (0, [.inl (.int 0), .inl (.int 0), .inl (.int 0), .inl (.int 0), .inl (.int 0), .inl (.int 0)]),
  .inl (0, [.inl (.int 0), .inl (.int 0), .inl (.int 0), .inl (.int 0), .inl (.int 0), .inl (.int 0)]),
  .inl (1, [.inl (.int 0), .inl (.int 0), .inl (.int 0), .inl (.int 0), .inl (.int 0), .inl (.int 0)]),
  .inr (6, [.inl (.ref 19)]),
  .inr (1, [.inl (.int 0), .inl (.ref 1000), .inl (.int 0)]),
  .inr (10, [.inl (.ref 21), .inl (.ref 22), .inl (.ref 23), .inl (.ref 24), .inl (.ref 25), .inl (.ref 26), .inl (.ref 27), .inl (.ref 28), .inl (.int 0), .inl (.int 0), .inl (.int 1), .inl (.int 0), .inl .null]),
  .inr (1, [.inl (.int 0), .inl (.ref 1000), .inl (.int 0)]),
  .inr (1, [.inl (.int 0), .inl (.ref 1000), .inl (.int 0)]),
  .inr (1, [.inl (.int 0), .inl (.ref 1000), .inl (.int 0)]),
  .inr (1, [.inl (.int 0), .inl (.ref 1000), .inl (.int 0)]),
  .inr (1, [.inl (.int 0), .inl (.ref 1000), .inl (.int 0)]),
  .inl (1, [.inl (.int 0), .inl (.int 0), .inl (.int 0), .inl (.int 0), .inl (.int 0), .inl (.int 0), .inl (.int 0), .inl (.int 0), .inl (.int 0), .inl (.int 0), .inl (.int 0), .inl (.int 0), .inl (.int 0), .inl (.int 0), .inl (.int 0), .inl (.int 0), .inl (.int 0), .inl (.int 0), .inl (.int 0), .inl (.int 0), .inl (.int 0), .inl (.int 0), .inl (.int 0), .inl (.int 0), .inl (.int 0), .inl (.int 0), .inl (.int 0), .inl (.int 0), .inl (.int 0), .inl (.int 0), .inl (.int 0), .inl (.int 0), .inl (.int 0), .inl (.int 0), .inl (.int 0), .inl (.int 0), .inl (.int 0), .inl (.int 0), .inl (.int 0), .inl (.int 0), .inl (.int 0), .inl (.int 0), .inl (.int 0), .inl (.int 0), .inl (.int 0), .inl (.int 0), .inl (.int 0), .inl (.int 0), .inl (.int 0), .inl (.int 0), .inl (.int 0), .inl (.int 0), .inl (.int 0), .inl (.int 0), .inl (.int 0), .inl (.int 0), .inl (.int 0), .inl (.int 0), .inl (.int 0), .inl (.int 0), .inl (.int 0), .inl (.int 0), .inl (.int 0), .inl (.int 0)]),
  .inl (0, [.inl (.int 0), .inl (.int 0), .inl (.int 0), .inl (.int 0), .inl (.int 0), .inl (.int 0), .inl (.int 0), .inl (.int 0), .inl (.int 0), .inl (.int 0), .inl (.int 0), .inl (.int 0), .inl (.int 0), .inl (.int 0), .inl (.int 0), .inl (.int 0), .inl (.int 0), .inl (.int 0), .inl (.int 0), .inl (.int 0), .inl (.int 0), .inl (.int 0), .inl (.int 0), .inl (.int 0)]),
  .inl (0, [.inl (.int 0), .inl (.int 0), .inl (.int 0), .inl (.int 0), .inl (.int 0), .inl (.int 0), .inl (.int 0), .inl (.int 0), .inl (.int 0), .inl (.int 0), .inl (.int 0), .inl (.int 0), .inl (.int 0), .inl (.int 0), .inl (.int 0), .inl (.int 0), .inl (.int 0), .inl (.int 0), .inl (.int 0), .inl (.int 0), .inl (.int 0), .inl (.int 0), .inl (.int 0), .inl (.int 0)]),
  .inl (2, [.inl (.long 0)]),
  .inl (3, [.inl (.double 0)])]
def lwL : rL := [(5, .inl (.int 0)), (4, .inl (.ref 30)), (3, .inl (.ref 29)), (2, .inl (.ref 20)), (1, .inl (.ref 0)), (0, .inl (.ref 1001))]
def lwS : rF := (lwL, [], 28, lwW, 31, 316)
def lwF : rF := ([(0, .inl (.ref 1001))], [], 0, [], 0, 0)
def isOne (r : Option (rR × List rC × Nat × Nat)) : Bool := match r with
  | some (.inl (some (.inl (.int x))), _, kc, ks) => decide (x = 1) && (Nat.ble kc 624780 && Nat.ble ks 7227733)
  | _ => false
theorem seg1 : ex ([], 64) 4 1400 true 28 0 lwF = some (.inr (.inr (lwL, [])), lwW, 31, 316) := by decide +kernel
theorem segL0 : isOne (ex ([], 64) 0 1400 true 100000 0 lwF) = true := by decide +kernel
theorem segL1 : isOne (ex ([], 64) 1 1400 true 100000 0 lwF) = true := by decide +kernel
theorem segL2 : isOne (ex ([], 64) 2 1400 true 100000 0 lwF) = true := by decide +kernel
theorem segL3 : isOne (ex ([], 64) 3 1400 true 100000 0 lwF) = true := by decide +kernel
