def lwF : rF := ([(0, .inl (.ref 1001))], [], 0, [], 0, 0)
def isOne (r : Option (rR × List rC × Nat × Nat)) : Bool := match r with
  | some (.inl (some (.inl (.int x))), _, kc, ks) => decide (x = 1) && (Nat.ble kc 624780 && Nat.ble ks 7227733)
  | _ => false
theorem segL0 : isOne (ex ([], 64) 0 1400 true 100000 0 lwF) = true := by decide +kernel
theorem segL1 : isOne (ex ([], 64) 1 1400 true 100000 0 lwF) = true := by decide +kernel
theorem segL2 : isOne (ex ([], 64) 2 1400 true 100000 0 lwF) = true := by decide +kernel
theorem segL3 : isOne (ex ([], 64) 3 1400 true 100000 0 lwF) = true := by decide +kernel
