/-- the world behind both constructors -/
def lwW : List rC := [
  .inr (7, [.inl (.ref 1), .inl (.ref 2), .inl (.ref 3), .inl (.ref 4), .inl (.ref 11), .inl (.ref 18), .inl (.int 0), .inl (.int 1), .inl (.int 0), .inl .null]),
  .inr (1, [.inl (.int 0), .inl (.ref 1000), .inl (.int 0)]),
  .inr (1, [.inl (.int 0), .inl (.ref 1000), .inl (.int 0)]),
  .inr (1, [.inl (.int 0), .inl (.ref 1000), .inl (.int 0)]),
  .inr (2, [.inl (.ref 5), .inl (.ref 6), .inl (.ref 7), .inl (.ref 8), .inl (.ref 9), .inl (.ref 10)]),
  .inr (1, [.inl (.int 0), .inl (.ref 1000), .inl (.int 0)]),
  .inr (1, [.inl (.int 0), .inl (.ref 1000), .inl (.int 0)]),
  .inl (0, [.inl (.int 0), .inl (.int 0), .inl (.int 0), .inl (.int 0), .inl (.int 0), .inl (.int 0), .inl (.int 0), .inl (.int 0), .inl (.int 0), .inl (.int 0), .inl (.int 0), .inl (.int 0), .inl (.int 0), .inl (.int 0), .inl (.int 0), .inl (.int 0), .inl (.int 0), .inl (.int 0), .inl (.int 0), .inl (.int 0), .inl (.int 0), .inl (.int 0), .inl (.int 0), .inl (.int 0)]),
  .inl (0, [.inl (.int 0), .inl (.int 0), .inl (.int 0), .inl (.int 0), .inl (.int 0), .inl (.int 0), .inl (.int 0), .inl (.int 0), .inl (.int 0), .inl (.int 0), .inl (.int 0), .inl (.int 0), .inl (.int 0), .inl (.int 0), .inl (.int 0), .inl (.int 0), .inl (.int 0), .inl (.int 0), .inl (.int 0), .inl (.int 0), .inl (.int 0), .inl (.int 0), .inl (.int 0), .inl (.int 0)]),
  .inl (0, [.inl (.int 0), .inl (.int 0), .inl (.int 0), .inl (.int 0), .inl (.int 0), .inl (.int 0), .inl (.int 0), .inl (.int 0), .inl (.int 0), .inl (.int 0), .inl (.int 0), .inl (.int 0), .inl (.int 0), .inl (.int 0), .inl (.int 0), .inl (.int 0), .inl (.int 0), .inl (.int 0), .inl (.int 0), .inl (.int 0), .inl (.int 0), .inl (.int 0), .inl (.int 0), .inl (.int 0)]),
  .inl (0, [.inl (.int 0), .inl (.int 0), .inl (.int 0), .inl (.int 0), .inl (.int 0), .inl (.int 0), .inl (.int 0), .inl (.int 0), .inl (.int 0), .inl (.int 0), .inl (.int 0), .inl (.int 0), .inl (.int 0), .inl (.int 0), .inl (.int 0), .inl (.int 0), .inl (.int 0), .inl (.int 0), .inl (.int 0), .inl (.int 0), .inl (.int 0), .inl (.int 0), .inl (.int 0), .inl (.int 0)]),
  .inr (5, [.inl (.ref 12), .inl (.ref 13), .inl (.ref 14), .inl (.ref 15), .inl (.ref 16), .inl (.ref 17), .inl (.int 0)]),
  .inr (1, [.inl (.int 0), .inl (.ref 1000), .inl (.int 0)]),
  .inr (1, [.inl (.int 0), .inl (.ref 1000), .inl (.int 0)]),
  .inl (0, [.inl (.int 0), .inl (.int 0), .inl (.int 0), .inl (.int 0), .inl (.int 0), .inl (.int 0), .inl (.int 0), .inl (.int 0), .inl (.int 0), .inl (.int 0), .inl (.int 0), .inl (.int 0)]),
  .inl (0, [.inl (.int 0), .inl (.int 0), .inl (.int 0), .inl (.int 0), .inl (.int 0), .inl (.int 0)]),
  .inl (0, [.inl (.int 0), .inl (.int 0), .inl (.int 0), .inl (.int 0), .inl (.int 0), .inl (.int 0)]),
  .inl (1, [.inl (.int 0), .inl (.int 0), .inl (.int 0), .inl (.int 0), .inl (.int 0), .inl (.int 0)]),
  .inr (6, [.inl (.ref 19)]),
  .inr (1, [.inl (.int 0), .inl (.ref 1000), .inl (.int 0)]),
  .inr (10, [.inl (.ref 21), .inl (.ref 22), .inl (.ref 23), .inl (.ref 24), .inl (.ref 25), .inl (.ref 26), .inl (.ref 27), .inl (.ref 28), .inl (.int 0), .inl (.int 0), .inl (.int 1), .inl (.int 0), .inl .null]),
  .inr (1, [.inl (.int 0), .inl (.ref 1000), .inl (.int 0)]),
  .inr (1, [.inl (.int 0), .inl (.ref 1000), .inl (.int 0)]),
  .inr (1, [.inl (.int 0), .inl (.ref 1000), .inl (.int 0)]),
  .inr (1, [.inl (.int 0), .inl (.ref 1000), .inl (.int 0)]),
  .inr (1, [.inl (.int 0), .inl (.ref 1000), .inl (.int 0)]),
  .inl (1, [.inl (.int 0), .inl (.int 0), .inl (.int 0), .inl (.int 0), .inl (.int 0), .inl (.int 0), .inl (.int 0), .inl (.int 0), .inl (.int 0), .inl (.int 0), .inl (.int 0), .inl (.int 0), .inl (.int 0), .inl (.int 0), .inl (.int 0), .inl (.int 0), .inl (.int 0), .inl (.int 0), .inl (.int 0), .inl (.int 0), .inl (.int 0), .inl (.int 0), .inl (.int 0), .inl (.int 0), .inl (.int 0), .inl (.int 0), .inl (.int 0), .inl (.int 0), .inl (.int 0), .inl (.int 0), .inl (.int 0), .inl (.int 0), .inl (.int 0), .inl (.int 0), .inl (.int 0), .inl (.int 0), .inl (.int 0), .inl (.int 0), .inl (.int 0), .inl (.int 0), .inl (.int 0), .inl (.int 0), .inl (.int 0), .inl (.int 0), .inl (.int 0), .inl (.int 0), .inl (.int 0), .inl (.int 0), .inl (.int 0), .inl (.int 0), .inl (.int 0), .inl (.int 0), .inl (.int 0), .inl (.int 0), .inl (.int 0), .inl (.int 0), .inl (.int 0), .inl (.int 0), .inl (.int 0), .inl (.int 0), .inl (.int 0), .inl (.int 0), .inl (.int 0), .inl (.int 0)]),
  .inl (0, [.inl (.int 0), .inl (.int 0), .inl (.int 0), .inl (.int 0), .inl (.int 0), .inl (.int 0), .inl (.int 0), .inl (.int 0), .inl (.int 0), .inl (.int 0), .inl (.int 0), .inl (.int 0), .inl (.int 0), .inl (.int 0), .inl (.int 0), .inl (.int 0), .inl (.int 0), .inl (.int 0), .inl (.int 0), .inl (.int 0), .inl (.int 0), .inl (.int 0), .inl (.int 0), .inl (.int 0)]),
  .inl (0, [.inl (.int 0), .inl (.int 0), .inl (.int 0), .inl (.int 0), .inl (.int 0), .inl (.int 0), .inl (.int 0), .inl (.int 0), .inl (.int 0), .inl (.int 0), .inl (.int 0), .inl (.int 0), .inl (.int 0), .inl (.int 0), .inl (.int 0), .inl (.int 0), .inl (.int 0), .inl (.int 0), .inl (.int 0), .inl (.int 0), .inl (.int 0), .inl (.int 0), .inl (.int 0), .inl (.int 0)]),
  .inl (2, [.inl (.long 0)]),
  .inl (3, [.inl (.double 0)])]
def lwL : rL := [(5, .inl (.int 0)), (4, .inl (.ref 30)), (3, .inl (.ref 29)), (2, .inl (.ref 20)), (1, .inl (.ref 0)), (0, .inl (.ref 1001))]
def lwS : rF := (lwL, [], 28, lwW, 31, 316)
def lwF : rF := ([(0, .inl (.ref 1001))], [], 0, [], 0, 0)
def isOne (r : Option (rR × List rC × Nat × Nat)) : Bool := match r with
  | some (.inl (some (.inl (.int x))), _, kc, ks) => decide (x = 1) && (Nat.ble kc 624780 && Nat.ble ks 7227733)
  | _ => false
theorem seg1 : ex ([], 64) 4 1400 true 28 0 lwF = some (.inr (.inr (lwL, [])), lwW, 31, 316) := by decide +kernel
theorem segL0 : isOne (ex ([], 64) 0 1400 true 100000 0 lwF) = true := by decide +kernel
theorem segL1 : isOne (ex ([], 64) 1 1400 true 100000 0 lwF) = true := by decide +kernel
theorem segL2 : isOne (ex ([], 64) 2 1400 true 100000 0 lwF) = true := by decide +kernel
theorem segL3 : isOne (ex ([], 64) 3 1400 true 100000 0 lwF) = true := by decide +kernel
def lf_O0 : rO := ([((false, .inr (false, 1), .inl (.int 0)), true)], 0)
theorem lf_c0 : isOne (ex lf_O0 4 1400 true 100000 0 lwS) = true := by decide +kernel
theorem lf_o0 {σ : Nat → Int32} (hc : ((σ 2).toUInt32 % 65536).toInt32 = σ 4) (h : σ 0 &&& 63 = 0) (h0 : σ 1 < 0) : rOr lf_O0 σ := ⟨List.forall_mem_cons.mpr ⟨iff_of_true h0 rfl, fun _ h => absurd h List.not_mem_nil⟩, Or.inr h, hc⟩
def lf_O1 : rO := ([((false, .inr (false, 1), .inl (.int 0)), false), ((false, .inl (.int 1), .inr (false, 1)), true)], 0)
theorem lf_c1 : isOne (ex lf_O1 4 1400 true 100000 0 lwS) = true := by decide +kernel
theorem lf_o1 {σ : Nat → Int32} (hc : ((σ 2).toUInt32 % 65536).toInt32 = σ 4) (h : σ 0 &&& 63 = 0) (h0 : ¬ σ 1 < 0) (h1 : 1 < σ 1) : rOr lf_O1 σ := ⟨List.forall_mem_cons.mpr ⟨iff_of_false h0 (by decide), List.forall_mem_cons.mpr ⟨iff_of_true h1 rfl, fun _ h => absurd h List.not_mem_nil⟩⟩, Or.inr h, hc⟩
def lf_O2 : rO := ([((false, .inr (false, 1), .inl (.int 0)), false), ((false, .inl (.int 1), .inr (false, 1)), false), ((false, .inr (false, 2), .inl (.int 0)), true)], 0)
theorem lf_c2 : isOne (ex lf_O2 4 1400 true 100000 0 lwS) = true := by decide +kernel
theorem lf_o2 {σ : Nat → Int32} (hc : ((σ 2).toUInt32 % 65536).toInt32 = σ 4) (h : σ 0 &&& 63 = 0) (h0 : ¬ σ 1 < 0) (h1 : ¬ 1 < σ 1) (h2 : σ 2 < 0) : rOr lf_O2 σ := ⟨List.forall_mem_cons.mpr ⟨iff_of_false h0 (by decide), List.forall_mem_cons.mpr ⟨iff_of_false h1 (by decide), List.forall_mem_cons.mpr ⟨iff_of_true h2 rfl, fun _ h => absurd h List.not_mem_nil⟩⟩⟩, Or.inr h, hc⟩
def lf_O3 : rO := ([((false, .inr (false, 1), .inl (.int 0)), false), ((false, .inl (.int 1), .inr (false, 1)), false), ((false, .inr (false, 2), .inl (.int 0)), false), ((false, .inl (.int 7), .inr (false, 2)), true)], 0)
theorem lf_c3 : isOne (ex lf_O3 4 1400 true 100000 0 lwS) = true := by decide +kernel
theorem lf_o3 {σ : Nat → Int32} (hc : ((σ 2).toUInt32 % 65536).toInt32 = σ 4) (h : σ 0 &&& 63 = 0) (h0 : ¬ σ 1 < 0) (h1 : ¬ 1 < σ 1) (h2 : ¬ σ 2 < 0) (h3 : 7 < σ 2) : rOr lf_O3 σ := ⟨List.forall_mem_cons.mpr ⟨iff_of_false h0 (by decide), List.forall_mem_cons.mpr ⟨iff_of_false h1 (by decide), List.forall_mem_cons.mpr ⟨iff_of_false h2 (by decide), List.forall_mem_cons.mpr ⟨iff_of_true h3 rfl, fun _ h => absurd h List.not_mem_nil⟩⟩⟩⟩, Or.inr h, hc⟩
def lf_O4 : rO := ([((false, .inr (false, 1), .inl (.int 0)), false), ((false, .inl (.int 1), .inr (false, 1)), false), ((false, .inr (false, 2), .inl (.int 0)), false), ((false, .inl (.int 7), .inr (false, 2)), false), ((false, .inr (false, 3), .inl (.int 0)), true)], 0)
theorem lf_c4 : isOne (ex lf_O4 4 1400 true 100000 0 lwS) = true := by decide +kernel
theorem lf_o4 {σ : Nat → Int32} (hc : ((σ 2).toUInt32 % 65536).toInt32 = σ 4) (h : σ 0 &&& 63 = 0) (h0 : ¬ σ 1 < 0) (h1 : ¬ 1 < σ 1) (h2 : ¬ σ 2 < 0) (h3 : ¬ 7 < σ 2) (h4 : σ 3 < 0) : rOr lf_O4 σ := ⟨List.forall_mem_cons.mpr ⟨iff_of_false h0 (by decide), List.forall_mem_cons.mpr ⟨iff_of_false h1 (by decide), List.forall_mem_cons.mpr ⟨iff_of_false h2 (by decide), List.forall_mem_cons.mpr ⟨iff_of_false h3 (by decide), List.forall_mem_cons.mpr ⟨iff_of_true h4 rfl, fun _ h => absurd h List.not_mem_nil⟩⟩⟩⟩⟩, Or.inr h, hc⟩
def lf_O5 : rO := ([((false, .inr (false, 1), .inl (.int 0)), false), ((false, .inl (.int 1), .inr (false, 1)), false), ((false, .inr (false, 2), .inl (.int 0)), false), ((false, .inl (.int 7), .inr (false, 2)), false), ((false, .inr (false, 3), .inl (.int 0)), false), ((false, .inl (.int 3), .inr (false, 3)), true)], 0)
theorem lf_c5 : isOne (ex lf_O5 4 1400 true 100000 0 lwS) = true := by decide +kernel
theorem lf_o5 {σ : Nat → Int32} (hc : ((σ 2).toUInt32 % 65536).toInt32 = σ 4) (h : σ 0 &&& 63 = 0) (h0 : ¬ σ 1 < 0) (h1 : ¬ 1 < σ 1) (h2 : ¬ σ 2 < 0) (h3 : ¬ 7 < σ 2) (h4 : ¬ σ 3 < 0) (h5 : 3 < σ 3) : rOr lf_O5 σ := ⟨List.forall_mem_cons.mpr ⟨iff_of_false h0 (by decide), List.forall_mem_cons.mpr ⟨iff_of_false h1 (by decide), List.forall_mem_cons.mpr ⟨iff_of_false h2 (by decide), List.forall_mem_cons.mpr ⟨iff_of_false h3 (by decide), List.forall_mem_cons.mpr ⟨iff_of_false h4 (by decide), List.forall_mem_cons.mpr ⟨iff_of_true h5 rfl, fun _ h => absurd h List.not_mem_nil⟩⟩⟩⟩⟩⟩, Or.inr h, hc⟩
def lf_O6 : rO := ([((false, .inr (false, 1), .inl (.int 0)), false), ((false, .inl (.int 1), .inr (false, 1)), false), ((false, .inr (false, 2), .inl (.int 0)), false), ((false, .inl (.int 7), .inr (false, 2)), false), ((false, .inr (false, 3), .inl (.int 0)), false), ((false, .inl (.int 3), .inr (false, 3)), false)], 0)
theorem lf_c6 : isOne (ex lf_O6 4 1400 true 100000 0 lwS) = true := by decide +kernel
theorem lf_o6 {σ : Nat → Int32} (hc : ((σ 2).toUInt32 % 65536).toInt32 = σ 4) (h : σ 0 &&& 63 = 0) (h0 : ¬ σ 1 < 0) (h1 : ¬ 1 < σ 1) (h2 : ¬ σ 2 < 0) (h3 : ¬ 7 < σ 2) (h4 : ¬ σ 3 < 0) (h5 : ¬ 3 < σ 3) : rOr lf_O6 σ := ⟨List.forall_mem_cons.mpr ⟨iff_of_false h0 (by decide), List.forall_mem_cons.mpr ⟨iff_of_false h1 (by decide), List.forall_mem_cons.mpr ⟨iff_of_false h2 (by decide), List.forall_mem_cons.mpr ⟨iff_of_false h3 (by decide), List.forall_mem_cons.mpr ⟨iff_of_false h4 (by decide), List.forall_mem_cons.mpr ⟨iff_of_false h5 (by decide), fun _ h => absurd h List.not_mem_nil⟩⟩⟩⟩⟩⟩, Or.inr h, hc⟩
def lf_O7 : rO := ([((false, .inr (false, 1), .inl (.int 0)), true)], 1)
theorem lf_c7 : isOne (ex lf_O7 4 1400 true 100000 0 lwS) = true := by decide +kernel
theorem lf_o7 {σ : Nat → Int32} (hc : ((σ 2).toUInt32 % 65536).toInt32 = σ 4) (h : σ 0 &&& 63 = 1) (h0 : σ 1 < 0) : rOr lf_O7 σ := ⟨List.forall_mem_cons.mpr ⟨iff_of_true h0 rfl, fun _ h => absurd h List.not_mem_nil⟩, Or.inr h, hc⟩
def lf_O8 : rO := ([((false, .inr (false, 1), .inl (.int 0)), false), ((false, .inl (.int (-1)), .inr (false, 1)), true)], 1)
theorem lf_c8 : isOne (ex lf_O8 4 1400 true 100000 0 lwS) = true := by decide +kernel
theorem lf_o8 {σ : Nat → Int32} (hc : ((σ 2).toUInt32 % 65536).toInt32 = σ 4) (h : σ 0 &&& 63 = 1) (h0 : ¬ σ 1 < 0) : rOr lf_O8 σ := ⟨List.forall_mem_cons.mpr ⟨iff_of_false h0 (by decide), List.forall_mem_cons.mpr ⟨iff_of_true (show (-1) < σ 1 by
    simp only [Int32.lt_iff_toInt_lt, ← Int32.toInt_inj] at *
    have e0 : ((-1) : Int32).toInt = -1 := rfl
    have e1 : (0 : Int32).toInt = 0 := rfl
    omega) rfl, fun _ h => absurd h List.not_mem_nil⟩⟩, Or.inr h, hc⟩
def lf_O9 : rO := ([((false, .inr (false, 1), .inl (.int 0)), true)], 2)
theorem lf_c9 : isOne (ex lf_O9 4 1400 true 100000 0 lwS) = true := by decide +kernel
theorem lf_o9 {σ : Nat → Int32} (hc : ((σ 2).toUInt32 % 65536).toInt32 = σ 4) (h : σ 0 &&& 63 = 2) (h0 : σ 1 < 0) : rOr lf_O9 σ := ⟨List.forall_mem_cons.mpr ⟨iff_of_true h0 rfl, fun _ h => absurd h List.not_mem_nil⟩, Or.inr h, hc⟩
def lf_O10 : rO := ([((false, .inr (false, 1), .inl (.int 0)), false), ((false, .inl (.int 9999), .inr (false, 1)), true)], 2)
theorem lf_c10 : isOne (ex lf_O10 4 1400 true 100000 0 lwS) = true := by decide +kernel
theorem lf_o10 {σ : Nat → Int32} (hc : ((σ 2).toUInt32 % 65536).toInt32 = σ 4) (h : σ 0 &&& 63 = 2) (h0 : ¬ σ 1 < 0) (h1 : 9999 < σ 1) : rOr lf_O10 σ := ⟨List.forall_mem_cons.mpr ⟨iff_of_false h0 (by decide), List.forall_mem_cons.mpr ⟨iff_of_true h1 rfl, fun _ h => absurd h List.not_mem_nil⟩⟩, Or.inr h, hc⟩
def lf_O11 : rO := ([((false, .inr (false, 1), .inl (.int 0)), false), ((false, .inl (.int 9999), .inr (false, 1)), false), ((false, .inr (false, 2), .inl (.int 0)), true)], 2)
theorem lf_c11 : isOne (ex lf_O11 4 1400 true 100000 0 lwS) = true := by decide +kernel
theorem lf_o11 {σ : Nat → Int32} (hc : ((σ 2).toUInt32 % 65536).toInt32 = σ 4) (h : σ 0 &&& 63 = 2) (h0 : ¬ σ 1 < 0) (h1 : ¬ 9999 < σ 1) (h2 : σ 2 < 0) : rOr lf_O11 σ := ⟨List.forall_mem_cons.mpr ⟨iff_of_false h0 (by decide), List.forall_mem_cons.mpr ⟨iff_of_false h1 (by decide), List.forall_mem_cons.mpr ⟨iff_of_true h2 rfl, fun _ h => absurd h List.not_mem_nil⟩⟩⟩, Or.inr h, hc⟩
def lf_O12 : rO := ([((false, .inr (false, 1), .inl (.int 0)), false), ((false, .inl (.int 9999), .inr (false, 1)), false), ((false, .inr (false, 2), .inl (.int 0)), false), ((false, .inl (.int 9999), .inr (false, 2)), true)], 2)
theorem lf_c12 : isOne (ex lf_O12 4 1400 true 100000 0 lwS) = true := by decide +kernel
theorem lf_o12 {σ : Nat → Int32} (hc : ((σ 2).toUInt32 % 65536).toInt32 = σ 4) (h : σ 0 &&& 63 = 2) (h0 : ¬ σ 1 < 0) (h1 : ¬ 9999 < σ 1) (h2 : ¬ σ 2 < 0) (h3 : 9999 < σ 2) : rOr lf_O12 σ := ⟨List.forall_mem_cons.mpr ⟨iff_of_false h0 (by decide), List.forall_mem_cons.mpr ⟨iff_of_false h1 (by decide), List.forall_mem_cons.mpr ⟨iff_of_false h2 (by decide), List.forall_mem_cons.mpr ⟨iff_of_true h3 rfl, fun _ h => absurd h List.not_mem_nil⟩⟩⟩⟩, Or.inr h, hc⟩
def lf_O13 : rO := ([((false, .inr (false, 1), .inl (.int 0)), false), ((false, .inl (.int 9999), .inr (false, 1)), false), ((false, .inr (false, 2), .inl (.int 0)), false), ((false, .inl (.int 9999), .inr (false, 2)), false), ((false, .inl (.int 0), .inr (false, 1)), true)], 2)
theorem lf_c13 : isOne (ex lf_O13 4 1400 true 100000 0 lwS) = true := by decide +kernel
theorem lf_o13 {σ : Nat → Int32} (hc : ((σ 2).toUInt32 % 65536).toInt32 = σ 4) (h : σ 0 &&& 63 = 2) (h0 : ¬ σ 1 < 0) (h1 : ¬ 9999 < σ 1) (h2 : ¬ σ 2 < 0) (h3 : ¬ 9999 < σ 2) (h4 : 0 < σ 1) : rOr lf_O13 σ := ⟨List.forall_mem_cons.mpr ⟨iff_of_false h0 (by decide), List.forall_mem_cons.mpr ⟨iff_of_false h1 (by decide), List.forall_mem_cons.mpr ⟨iff_of_false h2 (by decide), List.forall_mem_cons.mpr ⟨iff_of_false h3 (by decide), List.forall_mem_cons.mpr ⟨iff_of_true h4 rfl, fun _ h => absurd h List.not_mem_nil⟩⟩⟩⟩⟩, Or.inr h, hc⟩
def lf_O14 : rO := ([((false, .inr (false, 1), .inl (.int 0)), false), ((false, .inl (.int 9999), .inr (false, 1)), false), ((false, .inr (false, 2), .inl (.int 0)), false), ((false, .inl (.int 9999), .inr (false, 2)), false), ((false, .inl (.int 0), .inr (false, 1)), false)], 2)
theorem lf_c14 : isOne (ex lf_O14 4 1400 true 100000 0 lwS) = true := by decide +kernel
theorem lf_o14 {σ : Nat → Int32} (hc : ((σ 2).toUInt32 % 65536).toInt32 = σ 4) (h : σ 0 &&& 63 = 2) (h0 : ¬ σ 1 < 0) (h1 : ¬ 9999 < σ 1) (h2 : ¬ σ 2 < 0) (h3 : ¬ 9999 < σ 2) (h4 : ¬ 0 < σ 1) : rOr lf_O14 σ := ⟨List.forall_mem_cons.mpr ⟨iff_of_false h0 (by decide), List.forall_mem_cons.mpr ⟨iff_of_false h1 (by decide), List.forall_mem_cons.mpr ⟨iff_of_false h2 (by decide), List.forall_mem_cons.mpr ⟨iff_of_false h3 (by decide), List.forall_mem_cons.mpr ⟨iff_of_false h4 (by decide), fun _ h => absurd h List.not_mem_nil⟩⟩⟩⟩⟩, Or.inr h, hc⟩
def lf_O15 : rO := ([((false, .inr (false, 1), .inl (.int 1)), true)], 3)
theorem lf_c15 : isOne (ex lf_O15 4 1400 true 100000 0 lwS) = true := by decide +kernel
theorem lf_o15 {σ : Nat → Int32} (hc : ((σ 2).toUInt32 % 65536).toInt32 = σ 4) (h : σ 0 &&& 63 = 3) (h0 : σ 1 < 1) : rOr lf_O15 σ := ⟨List.forall_mem_cons.mpr ⟨iff_of_true h0 rfl, fun _ h => absurd h List.not_mem_nil⟩, Or.inr h, hc⟩
def lf_O16 : rO := ([((false, .inr (false, 1), .inl (.int 1)), false), ((false, .inl (.int 99), .inr (false, 1)), true)], 3)
theorem lf_c16 : isOne (ex lf_O16 4 1400 true 100000 0 lwS) = true := by decide +kernel
theorem lf_o16 {σ : Nat → Int32} (hc : ((σ 2).toUInt32 % 65536).toInt32 = σ 4) (h : σ 0 &&& 63 = 3) (h0 : ¬ σ 1 < 1) (h1 : 99 < σ 1) : rOr lf_O16 σ := ⟨List.forall_mem_cons.mpr ⟨iff_of_false h0 (by decide), List.forall_mem_cons.mpr ⟨iff_of_true h1 rfl, fun _ h => absurd h List.not_mem_nil⟩⟩, Or.inr h, hc⟩
def lf_O17 : rO := ([((false, .inr (false, 1), .inl (.int 1)), false), ((false, .inl (.int 99), .inr (false, 1)), false)], 3)
theorem lf_c17 : isOne (ex lf_O17 4 1400 true 100000 0 lwS) = true := by decide +kernel
theorem lf_o17 {σ : Nat → Int32} (hc : ((σ 2).toUInt32 % 65536).toInt32 = σ 4) (h : σ 0 &&& 63 = 3) (h0 : ¬ σ 1 < 1) (h1 : ¬ 99 < σ 1) : rOr lf_O17 σ := ⟨List.forall_mem_cons.mpr ⟨iff_of_false h0 (by decide), List.forall_mem_cons.mpr ⟨iff_of_false h1 (by decide), fun _ h => absurd h List.not_mem_nil⟩⟩, Or.inr h, hc⟩
def lf_O18 : rO := ([((false, .inr (false, 1), .inl (.int 0)), true)], 4)
theorem lf_c18 : isOne (ex lf_O18 4 1400 true 100000 0 lwS) = true := by decide +kernel
theorem lf_o18 {σ : Nat → Int32} (hc : ((σ 2).toUInt32 % 65536).toInt32 = σ 4) (h : σ 0 &&& 63 = 4) (h0 : σ 1 < 0) : rOr lf_O18 σ := ⟨List.forall_mem_cons.mpr ⟨iff_of_true h0 rfl, fun _ h => absurd h List.not_mem_nil⟩, Or.inr h, hc⟩
def lf_O19 : rO := ([((false, .inr (false, 1), .inl (.int 0)), false), ((false, .inl (.int (-1)), .inr (false, 1)), true)], 4)
theorem lf_c19 : isOne (ex lf_O19 4 1400 true 100000 0 lwS) = true := by decide +kernel
theorem lf_o19 {σ : Nat → Int32} (hc : ((σ 2).toUInt32 % 65536).toInt32 = σ 4) (h : σ 0 &&& 63 = 4) (h0 : ¬ σ 1 < 0) : rOr lf_O19 σ := ⟨List.forall_mem_cons.mpr ⟨iff_of_false h0 (by decide), List.forall_mem_cons.mpr ⟨iff_of_true (show (-1) < σ 1 by
    simp only [Int32.lt_iff_toInt_lt, ← Int32.toInt_inj] at *
    have e0 : ((-1) : Int32).toInt = -1 := rfl
    have e1 : (0 : Int32).toInt = 0 := rfl
    omega) rfl, fun _ h => absurd h List.not_mem_nil⟩⟩, Or.inr h, hc⟩
def lf_O20 : rO := ([((false, .inr (false, 1), .inl (.int 0)), true)], 5)
theorem lf_c20 : isOne (ex lf_O20 4 1400 true 100000 0 lwS) = true := by decide +kernel
theorem lf_o20 {σ : Nat → Int32} (hc : ((σ 2).toUInt32 % 65536).toInt32 = σ 4) (h : σ 0 &&& 63 = 5) (h0 : σ 1 < 0) : rOr lf_O20 σ := ⟨List.forall_mem_cons.mpr ⟨iff_of_true h0 rfl, fun _ h => absurd h List.not_mem_nil⟩, Or.inr h, hc⟩
def lf_O21 : rO := ([((false, .inr (false, 1), .inl (.int 0)), false), ((false, .inl (.int (-1)), .inr (false, 1)), true)], 5)
theorem lf_c21 : isOne (ex lf_O21 4 1400 true 100000 0 lwS) = true := by decide +kernel
theorem lf_o21 {σ : Nat → Int32} (hc : ((σ 2).toUInt32 % 65536).toInt32 = σ 4) (h : σ 0 &&& 63 = 5) (h0 : ¬ σ 1 < 0) : rOr lf_O21 σ := ⟨List.forall_mem_cons.mpr ⟨iff_of_false h0 (by decide), List.forall_mem_cons.mpr ⟨iff_of_true (show (-1) < σ 1 by
    simp only [Int32.lt_iff_toInt_lt, ← Int32.toInt_inj] at *
    have e0 : ((-1) : Int32).toInt = -1 := rfl
    have e1 : (0 : Int32).toInt = 0 := rfl
    omega) rfl, fun _ h => absurd h List.not_mem_nil⟩⟩, Or.inr h, hc⟩
def lf_O22 : rO := ([((false, .inr (false, 1), .inl (.int 0)), true)], 6)
theorem lf_c22 : isOne (ex lf_O22 4 1400 true 100000 0 lwS) = true := by decide +kernel
theorem lf_o22 {σ : Nat → Int32} (hc : ((σ 2).toUInt32 % 65536).toInt32 = σ 4) (h : σ 0 &&& 63 = 6) (h0 : σ 1 < 0) : rOr lf_O22 σ := ⟨List.forall_mem_cons.mpr ⟨iff_of_true h0 rfl, fun _ h => absurd h List.not_mem_nil⟩, Or.inr h, hc⟩
def lf_O23 : rO := ([((false, .inr (false, 1), .inl (.int 0)), false), ((false, .inl (.int (-1)), .inr (false, 1)), true)], 6)
theorem lf_c23 : isOne (ex lf_O23 4 1400 true 100000 0 lwS) = true := by decide +kernel
theorem lf_o23 {σ : Nat → Int32} (hc : ((σ 2).toUInt32 % 65536).toInt32 = σ 4) (h : σ 0 &&& 63 = 6) (h0 : ¬ σ 1 < 0) : rOr lf_O23 σ := ⟨List.forall_mem_cons.mpr ⟨iff_of_false h0 (by decide), List.forall_mem_cons.mpr ⟨iff_of_true (show (-1) < σ 1 by
    simp only [Int32.lt_iff_toInt_lt, ← Int32.toInt_inj] at *
    have e0 : ((-1) : Int32).toInt = -1 := rfl
    have e1 : (0 : Int32).toInt = 0 := rfl
    omega) rfl, fun _ h => absurd h List.not_mem_nil⟩⟩, Or.inr h, hc⟩
def lf_O24 : rO := ([((true, .inr (false, 3), .inl (.int 0)), true), ((false, .inr (false, 1), .inl (.int 0)), true)], 7)
theorem lf_c24 : isOne (ex lf_O24 4 1400 true 100000 0 lwS) = true := by decide +kernel
theorem lf_o24 {σ : Nat → Int32} (hc : ((σ 2).toUInt32 % 65536).toInt32 = σ 4) (h : σ 0 &&& 63 = 7) (h0 : σ 3 = 0) (h1 : σ 1 < 0) : rOr lf_O24 σ := ⟨List.forall_mem_cons.mpr ⟨iff_of_true h0 rfl, List.forall_mem_cons.mpr ⟨iff_of_true h1 rfl, fun _ h => absurd h List.not_mem_nil⟩⟩, Or.inr h, hc⟩
def lf_O25 : rO := ([((true, .inr (false, 3), .inl (.int 0)), true), ((false, .inr (false, 1), .inl (.int 0)), false), ((false, .inl (.int (-1)), .inr (false, 1)), true)], 7)
theorem lf_c25 : isOne (ex lf_O25 4 1400 true 100000 0 lwS) = true := by decide +kernel
theorem lf_o25 {σ : Nat → Int32} (hc : ((σ 2).toUInt32 % 65536).toInt32 = σ 4) (h : σ 0 &&& 63 = 7) (h0 : σ 3 = 0) (h1 : ¬ σ 1 < 0) : rOr lf_O25 σ := ⟨List.forall_mem_cons.mpr ⟨iff_of_true h0 rfl, List.forall_mem_cons.mpr ⟨iff_of_false h1 (by decide), List.forall_mem_cons.mpr ⟨iff_of_true (show (-1) < σ 1 by
    simp only [Int32.lt_iff_toInt_lt, ← Int32.toInt_inj] at *
    have e0 : ((-1) : Int32).toInt = -1 := rfl
    have e1 : (0 : Int32).toInt = 0 := rfl
    omega) rfl, fun _ h => absurd h List.not_mem_nil⟩⟩⟩, Or.inr h, hc⟩
def lf_O26 : rO := ([((true, .inr (false, 3), .inl (.int 0)), false), ((false, .inr (false, 1), .inl (.int 0)), true)], 7)
theorem lf_c26 : isOne (ex lf_O26 4 1400 true 100000 0 lwS) = true := by decide +kernel
theorem lf_o26 {σ : Nat → Int32} (hc : ((σ 2).toUInt32 % 65536).toInt32 = σ 4) (h : σ 0 &&& 63 = 7) (h0 : ¬ σ 3 = 0) (h1 : σ 1 < 0) : rOr lf_O26 σ := ⟨List.forall_mem_cons.mpr ⟨iff_of_false h0 (by decide), List.forall_mem_cons.mpr ⟨iff_of_true h1 rfl, fun _ h => absurd h List.not_mem_nil⟩⟩, Or.inr h, hc⟩
def lf_O27 : rO := ([((true, .inr (false, 3), .inl (.int 0)), false), ((false, .inr (false, 1), .inl (.int 0)), false), ((false, .inl (.int (-1)), .inr (false, 1)), true)], 7)
theorem lf_c27 : isOne (ex lf_O27 4 1400 true 100000 0 lwS) = true := by decide +kernel
theorem lf_o27 {σ : Nat → Int32} (hc : ((σ 2).toUInt32 % 65536).toInt32 = σ 4) (h : σ 0 &&& 63 = 7) (h0 : ¬ σ 3 = 0) (h1 : ¬ σ 1 < 0) : rOr lf_O27 σ := ⟨List.forall_mem_cons.mpr ⟨iff_of_false h0 (by decide), List.forall_mem_cons.mpr ⟨iff_of_false h1 (by decide), List.forall_mem_cons.mpr ⟨iff_of_true (show (-1) < σ 1 by
    simp only [Int32.lt_iff_toInt_lt, ← Int32.toInt_inj] at *
    have e0 : ((-1) : Int32).toInt = -1 := rfl
    have e1 : (0 : Int32).toInt = 0 := rfl
    omega) rfl, fun _ h => absurd h List.not_mem_nil⟩⟩⟩, Or.inr h, hc⟩
def lf_O28 : rO := ([((false, .inr (false, 1), .inl (.int 0)), true)], 8)
theorem lf_c28 : isOne (ex lf_O28 4 1400 true 100000 0 lwS) = true := by decide +kernel
theorem lf_o28 {σ : Nat → Int32} (hc : ((σ 2).toUInt32 % 65536).toInt32 = σ 4) (h : σ 0 &&& 63 = 8) (h0 : σ 1 < 0) : rOr lf_O28 σ := ⟨List.forall_mem_cons.mpr ⟨iff_of_true h0 rfl, fun _ h => absurd h List.not_mem_nil⟩, Or.inr h, hc⟩
def lf_O29 : rO := ([((false, .inr (false, 1), .inl (.int 0)), false), ((false, .inl (.int 1), .inr (false, 1)), true)], 8)
theorem lf_c29 : isOne (ex lf_O29 4 1400 true 100000 0 lwS) = true := by decide +kernel
theorem lf_o29 {σ : Nat → Int32} (hc : ((σ 2).toUInt32 % 65536).toInt32 = σ 4) (h : σ 0 &&& 63 = 8) (h0 : ¬ σ 1 < 0) (h1 : 1 < σ 1) : rOr lf_O29 σ := ⟨List.forall_mem_cons.mpr ⟨iff_of_false h0 (by decide), List.forall_mem_cons.mpr ⟨iff_of_true h1 rfl, fun _ h => absurd h List.not_mem_nil⟩⟩, Or.inr h, hc⟩
def lf_O30 : rO := ([((false, .inr (false, 1), .inl (.int 0)), false), ((false, .inl (.int 1), .inr (false, 1)), false)], 8)
theorem lf_c30 : isOne (ex lf_O30 4 1400 true 100000 0 lwS) = true := by decide +kernel
theorem lf_o30 {σ : Nat → Int32} (hc : ((σ 2).toUInt32 % 65536).toInt32 = σ 4) (h : σ 0 &&& 63 = 8) (h0 : ¬ σ 1 < 0) (h1 : ¬ 1 < σ 1) : rOr lf_O30 σ := ⟨List.forall_mem_cons.mpr ⟨iff_of_false h0 (by decide), List.forall_mem_cons.mpr ⟨iff_of_false h1 (by decide), fun _ h => absurd h List.not_mem_nil⟩⟩, Or.inr h, hc⟩
def lf_O31 : rO := ([((false, .inr (false, 1), .inl (.int 0)), true)], 9)
theorem lf_c31 : isOne (ex lf_O31 4 1400 true 100000 0 lwS) = true := by decide +kernel
theorem lf_o31 {σ : Nat → Int32} (hc : ((σ 2).toUInt32 % 65536).toInt32 = σ 4) (h : σ 0 &&& 63 = 9) (h0 : σ 1 < 0) : rOr lf_O31 σ := ⟨List.forall_mem_cons.mpr ⟨iff_of_true h0 rfl, fun _ h => absurd h List.not_mem_nil⟩, Or.inr h, hc⟩
def lf_O32 : rO := ([((false, .inr (false, 1), .inl (.int 0)), false), ((false, .inl (.int (-1)), .inr (false, 1)), true)], 9)
theorem lf_c32 : isOne (ex lf_O32 4 1400 true 100000 0 lwS) = true := by decide +kernel
theorem lf_o32 {σ : Nat → Int32} (hc : ((σ 2).toUInt32 % 65536).toInt32 = σ 4) (h : σ 0 &&& 63 = 9) (h0 : ¬ σ 1 < 0) : rOr lf_O32 σ := ⟨List.forall_mem_cons.mpr ⟨iff_of_false h0 (by decide), List.forall_mem_cons.mpr ⟨iff_of_true (show (-1) < σ 1 by
    simp only [Int32.lt_iff_toInt_lt, ← Int32.toInt_inj] at *
    have e0 : ((-1) : Int32).toInt = -1 := rfl
    have e1 : (0 : Int32).toInt = 0 := rfl
    omega) rfl, fun _ h => absurd h List.not_mem_nil⟩⟩, Or.inr h, hc⟩
def lf_O33 : rO := ([((false, .inr (false, 1), .inl (.int 0)), true)], 10)
theorem lf_c33 : isOne (ex lf_O33 4 1400 true 100000 0 lwS) = true := by decide +kernel
theorem lf_o33 {σ : Nat → Int32} (hc : ((σ 2).toUInt32 % 65536).toInt32 = σ 4) (h : σ 0 &&& 63 = 10) (h0 : σ 1 < 0) : rOr lf_O33 σ := ⟨List.forall_mem_cons.mpr ⟨iff_of_true h0 rfl, fun _ h => absurd h List.not_mem_nil⟩, Or.inr h, hc⟩
def lf_O34 : rO := ([((false, .inr (false, 1), .inl (.int 0)), false), ((false, .inl (.int (-1)), .inr (false, 1)), true)], 10)
theorem lf_c34 : isOne (ex lf_O34 4 1400 true 100000 0 lwS) = true := by decide +kernel
theorem lf_o34 {σ : Nat → Int32} (hc : ((σ 2).toUInt32 % 65536).toInt32 = σ 4) (h : σ 0 &&& 63 = 10) (h0 : ¬ σ 1 < 0) : rOr lf_O34 σ := ⟨List.forall_mem_cons.mpr ⟨iff_of_false h0 (by decide), List.forall_mem_cons.mpr ⟨iff_of_true (show (-1) < σ 1 by
    simp only [Int32.lt_iff_toInt_lt, ← Int32.toInt_inj] at *
    have e0 : ((-1) : Int32).toInt = -1 := rfl
    have e1 : (0 : Int32).toInt = 0 := rfl
    omega) rfl, fun _ h => absurd h List.not_mem_nil⟩⟩, Or.inr h, hc⟩
def lf_O35 : rO := ([((false, .inr (false, 1), .inl (.int 0)), true)], 11)
theorem lf_c35 : isOne (ex lf_O35 4 1400 true 100000 0 lwS) = true := by decide +kernel
theorem lf_o35 {σ : Nat → Int32} (hc : ((σ 2).toUInt32 % 65536).toInt32 = σ 4) (h : σ 0 &&& 63 = 11) (h0 : σ 1 < 0) : rOr lf_O35 σ := ⟨List.forall_mem_cons.mpr ⟨iff_of_true h0 rfl, fun _ h => absurd h List.not_mem_nil⟩, Or.inr h, hc⟩
def lf_O36 : rO := ([((false, .inr (false, 1), .inl (.int 0)), false), ((false, .inl (.int (-1)), .inr (false, 1)), true)], 11)
theorem lf_c36 : isOne (ex lf_O36 4 1400 true 100000 0 lwS) = true := by decide +kernel
theorem lf_o36 {σ : Nat → Int32} (hc : ((σ 2).toUInt32 % 65536).toInt32 = σ 4) (h : σ 0 &&& 63 = 11) (h0 : ¬ σ 1 < 0) : rOr lf_O36 σ := ⟨List.forall_mem_cons.mpr ⟨iff_of_false h0 (by decide), List.forall_mem_cons.mpr ⟨iff_of_true (show (-1) < σ 1 by
    simp only [Int32.lt_iff_toInt_lt, ← Int32.toInt_inj] at *
    have e0 : ((-1) : Int32).toInt = -1 := rfl
    have e1 : (0 : Int32).toInt = 0 := rfl
    omega) rfl, fun _ h => absurd h List.not_mem_nil⟩⟩, Or.inr h, hc⟩
def lf_O37 : rO := ([((true, .inr (false, 2), .inl (.int 0)), true), ((false, .inr (false, 1), .inl (.int 0)), true)], 12)
theorem lf_c37 : isOne (ex lf_O37 4 1400 true 100000 0 lwS) = true := by decide +kernel
theorem lf_o37 {σ : Nat → Int32} (hc : ((σ 2).toUInt32 % 65536).toInt32 = σ 4) (h : σ 0 &&& 63 = 12) (h0 : σ 2 = 0) (h1 : σ 1 < 0) : rOr lf_O37 σ := ⟨List.forall_mem_cons.mpr ⟨iff_of_true h0 rfl, List.forall_mem_cons.mpr ⟨iff_of_true h1 rfl, fun _ h => absurd h List.not_mem_nil⟩⟩, Or.inr h, hc⟩
def lf_O38 : rO := ([((true, .inr (false, 2), .inl (.int 0)), true), ((false, .inr (false, 1), .inl (.int 0)), false), ((false, .inl (.int (-1)), .inr (false, 1)), true)], 12)
theorem lf_c38 : isOne (ex lf_O38 4 1400 true 100000 0 lwS) = true := by decide +kernel
theorem lf_o38 {σ : Nat → Int32} (hc : ((σ 2).toUInt32 % 65536).toInt32 = σ 4) (h : σ 0 &&& 63 = 12) (h0 : σ 2 = 0) (h1 : ¬ σ 1 < 0) : rOr lf_O38 σ := ⟨List.forall_mem_cons.mpr ⟨iff_of_true h0 rfl, List.forall_mem_cons.mpr ⟨iff_of_false h1 (by decide), List.forall_mem_cons.mpr ⟨iff_of_true (show (-1) < σ 1 by
    simp only [Int32.lt_iff_toInt_lt, ← Int32.toInt_inj] at *
    have e0 : ((-1) : Int32).toInt = -1 := rfl
    have e1 : (0 : Int32).toInt = 0 := rfl
    omega) rfl, fun _ h => absurd h List.not_mem_nil⟩⟩⟩, Or.inr h, hc⟩
def lf_O39 : rO := ([((true, .inr (false, 2), .inl (.int 0)), false), ((false, .inr (false, 1), .inl (.int 0)), true)], 12)
theorem lf_c39 : isOne (ex lf_O39 4 1400 true 100000 0 lwS) = true := by decide +kernel
theorem lf_o39 {σ : Nat → Int32} (hc : ((σ 2).toUInt32 % 65536).toInt32 = σ 4) (h : σ 0 &&& 63 = 12) (h0 : ¬ σ 2 = 0) (h1 : σ 1 < 0) : rOr lf_O39 σ := ⟨List.forall_mem_cons.mpr ⟨iff_of_false h0 (by decide), List.forall_mem_cons.mpr ⟨iff_of_true h1 rfl, fun _ h => absurd h List.not_mem_nil⟩⟩, Or.inr h, hc⟩
def lf_O40 : rO := ([((true, .inr (false, 2), .inl (.int 0)), false), ((false, .inr (false, 1), .inl (.int 0)), false), ((false, .inl (.int (-1)), .inr (false, 1)), true)], 12)
theorem lf_c40 : isOne (ex lf_O40 4 1400 true 100000 0 lwS) = true := by decide +kernel
theorem lf_o40 {σ : Nat → Int32} (hc : ((σ 2).toUInt32 % 65536).toInt32 = σ 4) (h : σ 0 &&& 63 = 12) (h0 : ¬ σ 2 = 0) (h1 : ¬ σ 1 < 0) : rOr lf_O40 σ := ⟨List.forall_mem_cons.mpr ⟨iff_of_false h0 (by decide), List.forall_mem_cons.mpr ⟨iff_of_false h1 (by decide), List.forall_mem_cons.mpr ⟨iff_of_true (show (-1) < σ 1 by
    simp only [Int32.lt_iff_toInt_lt, ← Int32.toInt_inj] at *
    have e0 : ((-1) : Int32).toInt = -1 := rfl
    have e1 : (0 : Int32).toInt = 0 := rfl
    omega) rfl, fun _ h => absurd h List.not_mem_nil⟩⟩⟩, Or.inr h, hc⟩
def lf_O41 : rO := ([((false, .inr (false, 1), .inl (.int 0)), true)], 13)
theorem lf_c41 : isOne (ex lf_O41 4 1400 true 100000 0 lwS) = true := by decide +kernel
theorem lf_o41 {σ : Nat → Int32} (hc : ((σ 2).toUInt32 % 65536).toInt32 = σ 4) (h : σ 0 &&& 63 = 13) (h0 : σ 1 < 0) : rOr lf_O41 σ := ⟨List.forall_mem_cons.mpr ⟨iff_of_true h0 rfl, fun _ h => absurd h List.not_mem_nil⟩, Or.inr h, hc⟩
def lf_O42 : rO := ([((false, .inr (false, 1), .inl (.int 0)), false), ((false, .inl (.int (-1)), .inr (false, 1)), true)], 13)
theorem lf_c42 : isOne (ex lf_O42 4 1400 true 100000 0 lwS) = true := by decide +kernel
theorem lf_o42 {σ : Nat → Int32} (hc : ((σ 2).toUInt32 % 65536).toInt32 = σ 4) (h : σ 0 &&& 63 = 13) (h0 : ¬ σ 1 < 0) : rOr lf_O42 σ := ⟨List.forall_mem_cons.mpr ⟨iff_of_false h0 (by decide), List.forall_mem_cons.mpr ⟨iff_of_true (show (-1) < σ 1 by
    simp only [Int32.lt_iff_toInt_lt, ← Int32.toInt_inj] at *
    have e0 : ((-1) : Int32).toInt = -1 := rfl
    have e1 : (0 : Int32).toInt = 0 := rfl
    omega) rfl, fun _ h => absurd h List.not_mem_nil⟩⟩, Or.inr h, hc⟩
def lf_O43 : rO := ([((false, .inr (false, 1), .inl (.int 0)), true)], 14)
theorem lf_c43 : isOne (ex lf_O43 4 1400 true 100000 0 lwS) = true := by decide +kernel
theorem lf_o43 {σ : Nat → Int32} (hc : ((σ 2).toUInt32 % 65536).toInt32 = σ 4) (h : σ 0 &&& 63 = 14) (h0 : σ 1 < 0) : rOr lf_O43 σ := ⟨List.forall_mem_cons.mpr ⟨iff_of_true h0 rfl, fun _ h => absurd h List.not_mem_nil⟩, Or.inr h, hc⟩
def lf_O44 : rO := ([((false, .inr (false, 1), .inl (.int 0)), false), ((false, .inl (.int (-1)), .inr (false, 1)), true)], 14)
theorem lf_c44 : isOne (ex lf_O44 4 1400 true 100000 0 lwS) = true := by decide +kernel
theorem lf_o44 {σ : Nat → Int32} (hc : ((σ 2).toUInt32 % 65536).toInt32 = σ 4) (h : σ 0 &&& 63 = 14) (h0 : ¬ σ 1 < 0) : rOr lf_O44 σ := ⟨List.forall_mem_cons.mpr ⟨iff_of_false h0 (by decide), List.forall_mem_cons.mpr ⟨iff_of_true (show (-1) < σ 1 by
    simp only [Int32.lt_iff_toInt_lt, ← Int32.toInt_inj] at *
    have e0 : ((-1) : Int32).toInt = -1 := rfl
    have e1 : (0 : Int32).toInt = 0 := rfl
    omega) rfl, fun _ h => absurd h List.not_mem_nil⟩⟩, Or.inr h, hc⟩
def lf_O45 : rO := ([((true, .inr (false, 2), .inl (.int 0)), true), ((false, .inr (false, 1), .inl (.int 0)), true)], 15)
theorem lf_c45 : isOne (ex lf_O45 4 1400 true 100000 0 lwS) = true := by decide +kernel
theorem lf_o45 {σ : Nat → Int32} (hc : ((σ 2).toUInt32 % 65536).toInt32 = σ 4) (h : σ 0 &&& 63 = 15) (h0 : σ 2 = 0) (h1 : σ 1 < 0) : rOr lf_O45 σ := ⟨List.forall_mem_cons.mpr ⟨iff_of_true h0 rfl, List.forall_mem_cons.mpr ⟨iff_of_true h1 rfl, fun _ h => absurd h List.not_mem_nil⟩⟩, Or.inr h, hc⟩
def lf_O46 : rO := ([((true, .inr (false, 2), .inl (.int 0)), true), ((false, .inr (false, 1), .inl (.int 0)), false), ((false, .inl (.int (-1)), .inr (false, 1)), true)], 15)
theorem lf_c46 : isOne (ex lf_O46 4 1400 true 100000 0 lwS) = true := by decide +kernel
theorem lf_o46 {σ : Nat → Int32} (hc : ((σ 2).toUInt32 % 65536).toInt32 = σ 4) (h : σ 0 &&& 63 = 15) (h0 : σ 2 = 0) (h1 : ¬ σ 1 < 0) : rOr lf_O46 σ := ⟨List.forall_mem_cons.mpr ⟨iff_of_true h0 rfl, List.forall_mem_cons.mpr ⟨iff_of_false h1 (by decide), List.forall_mem_cons.mpr ⟨iff_of_true (show (-1) < σ 1 by
    simp only [Int32.lt_iff_toInt_lt, ← Int32.toInt_inj] at *
    have e0 : ((-1) : Int32).toInt = -1 := rfl
    have e1 : (0 : Int32).toInt = 0 := rfl
    omega) rfl, fun _ h => absurd h List.not_mem_nil⟩⟩⟩, Or.inr h, hc⟩
def lf_O47 : rO := ([((true, .inr (false, 2), .inl (.int 0)), false), ((false, .inr (false, 1), .inl (.int 0)), true)], 15)
theorem lf_c47 : isOne (ex lf_O47 4 1400 true 100000 0 lwS) = true := by decide +kernel
theorem lf_o47 {σ : Nat → Int32} (hc : ((σ 2).toUInt32 % 65536).toInt32 = σ 4) (h : σ 0 &&& 63 = 15) (h0 : ¬ σ 2 = 0) (h1 : σ 1 < 0) : rOr lf_O47 σ := ⟨List.forall_mem_cons.mpr ⟨iff_of_false h0 (by decide), List.forall_mem_cons.mpr ⟨iff_of_true h1 rfl, fun _ h => absurd h List.not_mem_nil⟩⟩, Or.inr h, hc⟩
def lf_O48 : rO := ([((true, .inr (false, 2), .inl (.int 0)), false), ((false, .inr (false, 1), .inl (.int 0)), false), ((false, .inl (.int (-1)), .inr (false, 1)), true)], 15)
theorem lf_c48 : isOne (ex lf_O48 4 1400 true 100000 0 lwS) = true := by decide +kernel
theorem lf_o48 {σ : Nat → Int32} (hc : ((σ 2).toUInt32 % 65536).toInt32 = σ 4) (h : σ 0 &&& 63 = 15) (h0 : ¬ σ 2 = 0) (h1 : ¬ σ 1 < 0) : rOr lf_O48 σ := ⟨List.forall_mem_cons.mpr ⟨iff_of_false h0 (by decide), List.forall_mem_cons.mpr ⟨iff_of_false h1 (by decide), List.forall_mem_cons.mpr ⟨iff_of_true (show (-1) < σ 1 by
    simp only [Int32.lt_iff_toInt_lt, ← Int32.toInt_inj] at *
    have e0 : ((-1) : Int32).toInt = -1 := rfl
    have e1 : (0 : Int32).toInt = 0 := rfl
    omega) rfl, fun _ h => absurd h List.not_mem_nil⟩⟩⟩, Or.inr h, hc⟩
def lf_O49 : rO := ([((false, .inr (false, 1), .inl (.int 0)), true)], 16)
theorem lf_c49 : isOne (ex lf_O49 4 1400 true 100000 0 lwS) = true := by decide +kernel
theorem lf_o49 {σ : Nat → Int32} (hc : ((σ 2).toUInt32 % 65536).toInt32 = σ 4) (h : σ 0 &&& 63 = 16) (h0 : σ 1 < 0) : rOr lf_O49 σ := ⟨List.forall_mem_cons.mpr ⟨iff_of_true h0 rfl, fun _ h => absurd h List.not_mem_nil⟩, Or.inr h, hc⟩
def lf_O50 : rO := ([((false, .inr (false, 1), .inl (.int 0)), false), ((false, .inl (.int (-1)), .inr (false, 1)), true)], 16)
theorem lf_c50 : isOne (ex lf_O50 4 1400 true 100000 0 lwS) = true := by decide +kernel
theorem lf_o50 {σ : Nat → Int32} (hc : ((σ 2).toUInt32 % 65536).toInt32 = σ 4) (h : σ 0 &&& 63 = 16) (h0 : ¬ σ 1 < 0) : rOr lf_O50 σ := ⟨List.forall_mem_cons.mpr ⟨iff_of_false h0 (by decide), List.forall_mem_cons.mpr ⟨iff_of_true (show (-1) < σ 1 by
    simp only [Int32.lt_iff_toInt_lt, ← Int32.toInt_inj] at *
    have e0 : ((-1) : Int32).toInt = -1 := rfl
    have e1 : (0 : Int32).toInt = 0 := rfl
    omega) rfl, fun _ h => absurd h List.not_mem_nil⟩⟩, Or.inr h, hc⟩
def lf_O51 : rO := ([], 17)
theorem lf_c51 : isOne (ex lf_O51 4 1400 true 100000 0 lwS) = true := by decide +kernel
theorem lf_o51 {σ : Nat → Int32} (hc : ((σ 2).toUInt32 % 65536).toInt32 = σ 4) (h : σ 0 &&& 63 = 17)  : rOr lf_O51 σ := ⟨fun _ h => absurd h List.not_mem_nil, Or.inr h, hc⟩
def lf_O52 : rO := ([((true, .inr (false, 1), .inl (.int 0)), true)], 18)
theorem lf_c52 : isOne (ex lf_O52 4 1400 true 100000 0 lwS) = true := by decide +kernel
theorem lf_o52 {σ : Nat → Int32} (hc : ((σ 2).toUInt32 % 65536).toInt32 = σ 4) (h : σ 0 &&& 63 = 18) (h0 : σ 1 = 0) : rOr lf_O52 σ := ⟨List.forall_mem_cons.mpr ⟨iff_of_true h0 rfl, fun _ h => absurd h List.not_mem_nil⟩, Or.inr h, hc⟩
def lf_O53 : rO := ([((true, .inr (false, 1), .inl (.int 0)), false)], 18)
theorem lf_c53 : isOne (ex lf_O53 4 1400 true 100000 0 lwS) = true := by decide +kernel
theorem lf_o53 {σ : Nat → Int32} (hc : ((σ 2).toUInt32 % 65536).toInt32 = σ 4) (h : σ 0 &&& 63 = 18) (h0 : ¬ σ 1 = 0) : rOr lf_O53 σ := ⟨List.forall_mem_cons.mpr ⟨iff_of_false h0 (by decide), fun _ h => absurd h List.not_mem_nil⟩, Or.inr h, hc⟩
def lf_O54 : rO := ([((true, .inr (false, 2), .inl (.int 0)), true), ((false, .inr (false, 1), .inl (.int 0)), true)], 19)
theorem lf_c54 : isOne (ex lf_O54 4 1400 true 100000 0 lwS) = true := by decide +kernel
theorem lf_o54 {σ : Nat → Int32} (hc : ((σ 2).toUInt32 % 65536).toInt32 = σ 4) (h : σ 0 &&& 63 = 19) (h0 : σ 2 = 0) (h1 : σ 1 < 0) : rOr lf_O54 σ := ⟨List.forall_mem_cons.mpr ⟨iff_of_true h0 rfl, List.forall_mem_cons.mpr ⟨iff_of_true h1 rfl, fun _ h => absurd h List.not_mem_nil⟩⟩, Or.inr h, hc⟩
def lf_O55 : rO := ([((true, .inr (false, 2), .inl (.int 0)), true), ((false, .inr (false, 1), .inl (.int 0)), false), ((false, .inl (.int (-1)), .inr (false, 1)), true)], 19)
theorem lf_c55 : isOne (ex lf_O55 4 1400 true 100000 0 lwS) = true := by decide +kernel
theorem lf_o55 {σ : Nat → Int32} (hc : ((σ 2).toUInt32 % 65536).toInt32 = σ 4) (h : σ 0 &&& 63 = 19) (h0 : σ 2 = 0) (h1 : ¬ σ 1 < 0) : rOr lf_O55 σ := ⟨List.forall_mem_cons.mpr ⟨iff_of_true h0 rfl, List.forall_mem_cons.mpr ⟨iff_of_false h1 (by decide), List.forall_mem_cons.mpr ⟨iff_of_true (show (-1) < σ 1 by
    simp only [Int32.lt_iff_toInt_lt, ← Int32.toInt_inj] at *
    have e0 : ((-1) : Int32).toInt = -1 := rfl
    have e1 : (0 : Int32).toInt = 0 := rfl
    omega) rfl, fun _ h => absurd h List.not_mem_nil⟩⟩⟩, Or.inr h, hc⟩
def lf_O56 : rO := ([((true, .inr (false, 2), .inl (.int 0)), false), ((false, .inr (false, 1), .inl (.int 0)), true)], 19)
theorem lf_c56 : isOne (ex lf_O56 4 1400 true 100000 0 lwS) = true := by decide +kernel
theorem lf_o56 {σ : Nat → Int32} (hc : ((σ 2).toUInt32 % 65536).toInt32 = σ 4) (h : σ 0 &&& 63 = 19) (h0 : ¬ σ 2 = 0) (h1 : σ 1 < 0) : rOr lf_O56 σ := ⟨List.forall_mem_cons.mpr ⟨iff_of_false h0 (by decide), List.forall_mem_cons.mpr ⟨iff_of_true h1 rfl, fun _ h => absurd h List.not_mem_nil⟩⟩, Or.inr h, hc⟩
def lf_O57 : rO := ([((true, .inr (false, 2), .inl (.int 0)), false), ((false, .inr (false, 1), .inl (.int 0)), false), ((false, .inl (.int (-1)), .inr (false, 1)), true)], 19)
theorem lf_c57 : isOne (ex lf_O57 4 1400 true 100000 0 lwS) = true := by decide +kernel
theorem lf_o57 {σ : Nat → Int32} (hc : ((σ 2).toUInt32 % 65536).toInt32 = σ 4) (h : σ 0 &&& 63 = 19) (h0 : ¬ σ 2 = 0) (h1 : ¬ σ 1 < 0) : rOr lf_O57 σ := ⟨List.forall_mem_cons.mpr ⟨iff_of_false h0 (by decide), List.forall_mem_cons.mpr ⟨iff_of_false h1 (by decide), List.forall_mem_cons.mpr ⟨iff_of_true (show (-1) < σ 1 by
    simp only [Int32.lt_iff_toInt_lt, ← Int32.toInt_inj] at *
    have e0 : ((-1) : Int32).toInt = -1 := rfl
    have e1 : (0 : Int32).toInt = 0 := rfl
    omega) rfl, fun _ h => absurd h List.not_mem_nil⟩⟩⟩, Or.inr h, hc⟩
def lf_O58 : rO := ([], 20)
theorem lf_c58 : isOne (ex lf_O58 4 1400 true 100000 0 lwS) = true := by decide +kernel
theorem lf_o58 {σ : Nat → Int32} (hc : ((σ 2).toUInt32 % 65536).toInt32 = σ 4) (h : σ 0 &&& 63 = 20)  : rOr lf_O58 σ := ⟨fun _ h => absurd h List.not_mem_nil, Or.inr h, hc⟩
def lf_O59 : rO := ([((false, .inr (false, 1), .inl (.int 0)), true)], 21)
theorem lf_c59 : isOne (ex lf_O59 4 1400 true 100000 0 lwS) = true := by decide +kernel
theorem lf_o59 {σ : Nat → Int32} (hc : ((σ 2).toUInt32 % 65536).toInt32 = σ 4) (h : σ 0 &&& 63 = 21) (h0 : σ 1 < 0) : rOr lf_O59 σ := ⟨List.forall_mem_cons.mpr ⟨iff_of_true h0 rfl, fun _ h => absurd h List.not_mem_nil⟩, Or.inr h, hc⟩
def lf_O60 : rO := ([((false, .inr (false, 1), .inl (.int 0)), false), ((false, .inl (.int (-1)), .inr (false, 1)), true)], 21)
theorem lf_c60 : isOne (ex lf_O60 4 1400 true 100000 0 lwS) = true := by decide +kernel
theorem lf_o60 {σ : Nat → Int32} (hc : ((σ 2).toUInt32 % 65536).toInt32 = σ 4) (h : σ 0 &&& 63 = 21) (h0 : ¬ σ 1 < 0) : rOr lf_O60 σ := ⟨List.forall_mem_cons.mpr ⟨iff_of_false h0 (by decide), List.forall_mem_cons.mpr ⟨iff_of_true (show (-1) < σ 1 by
    simp only [Int32.lt_iff_toInt_lt, ← Int32.toInt_inj] at *
    have e0 : ((-1) : Int32).toInt = -1 := rfl
    have e1 : (0 : Int32).toInt = 0 := rfl
    omega) rfl, fun _ h => absurd h List.not_mem_nil⟩⟩, Or.inr h, hc⟩
def lf_O61 : rO := ([((false, .inr (false, 1), .inl (.int 0)), true)], 22)
theorem lf_c61 : isOne (ex lf_O61 4 1400 true 100000 0 lwS) = true := by decide +kernel
theorem lf_o61 {σ : Nat → Int32} (hc : ((σ 2).toUInt32 % 65536).toInt32 = σ 4) (h : σ 0 &&& 63 = 22) (h0 : σ 1 < 0) : rOr lf_O61 σ := ⟨List.forall_mem_cons.mpr ⟨iff_of_true h0 rfl, fun _ h => absurd h List.not_mem_nil⟩, Or.inr h, hc⟩
def lf_O62 : rO := ([((false, .inr (false, 1), .inl (.int 0)), false), ((false, .inl (.int (-1)), .inr (false, 1)), true)], 22)
theorem lf_c62 : isOne (ex lf_O62 4 1400 true 100000 0 lwS) = true := by decide +kernel
theorem lf_o62 {σ : Nat → Int32} (hc : ((σ 2).toUInt32 % 65536).toInt32 = σ 4) (h : σ 0 &&& 63 = 22) (h0 : ¬ σ 1 < 0) : rOr lf_O62 σ := ⟨List.forall_mem_cons.mpr ⟨iff_of_false h0 (by decide), List.forall_mem_cons.mpr ⟨iff_of_true (show (-1) < σ 1 by
    simp only [Int32.lt_iff_toInt_lt, ← Int32.toInt_inj] at *
    have e0 : ((-1) : Int32).toInt = -1 := rfl
    have e1 : (0 : Int32).toInt = 0 := rfl
    omega) rfl, fun _ h => absurd h List.not_mem_nil⟩⟩, Or.inr h, hc⟩
def lf_O63 : rO := ([((true, .inr (false, 2), .inl (.int 0)), true), ((false, .inr (false, 1), .inl (.int 0)), true)], 23)
theorem lf_c63 : isOne (ex lf_O63 4 1400 true 100000 0 lwS) = true := by decide +kernel
theorem lf_o63 {σ : Nat → Int32} (hc : ((σ 2).toUInt32 % 65536).toInt32 = σ 4) (h : σ 0 &&& 63 = 23) (h0 : σ 2 = 0) (h1 : σ 1 < 0) : rOr lf_O63 σ := ⟨List.forall_mem_cons.mpr ⟨iff_of_true h0 rfl, List.forall_mem_cons.mpr ⟨iff_of_true h1 rfl, fun _ h => absurd h List.not_mem_nil⟩⟩, Or.inr h, hc⟩
def lf_O64 : rO := ([((true, .inr (false, 2), .inl (.int 0)), true), ((false, .inr (false, 1), .inl (.int 0)), false), ((false, .inl (.int (-1)), .inr (false, 1)), true)], 23)
theorem lf_c64 : isOne (ex lf_O64 4 1400 true 100000 0 lwS) = true := by decide +kernel
theorem lf_o64 {σ : Nat → Int32} (hc : ((σ 2).toUInt32 % 65536).toInt32 = σ 4) (h : σ 0 &&& 63 = 23) (h0 : σ 2 = 0) (h1 : ¬ σ 1 < 0) : rOr lf_O64 σ := ⟨List.forall_mem_cons.mpr ⟨iff_of_true h0 rfl, List.forall_mem_cons.mpr ⟨iff_of_false h1 (by decide), List.forall_mem_cons.mpr ⟨iff_of_true (show (-1) < σ 1 by
    simp only [Int32.lt_iff_toInt_lt, ← Int32.toInt_inj] at *
    have e0 : ((-1) : Int32).toInt = -1 := rfl
    have e1 : (0 : Int32).toInt = 0 := rfl
    omega) rfl, fun _ h => absurd h List.not_mem_nil⟩⟩⟩, Or.inr h, hc⟩
def lf_O65 : rO := ([((true, .inr (false, 2), .inl (.int 0)), false), ((false, .inr (false, 1), .inl (.int 0)), true)], 23)
theorem lf_c65 : isOne (ex lf_O65 4 1400 true 100000 0 lwS) = true := by decide +kernel
theorem lf_o65 {σ : Nat → Int32} (hc : ((σ 2).toUInt32 % 65536).toInt32 = σ 4) (h : σ 0 &&& 63 = 23) (h0 : ¬ σ 2 = 0) (h1 : σ 1 < 0) : rOr lf_O65 σ := ⟨List.forall_mem_cons.mpr ⟨iff_of_false h0 (by decide), List.forall_mem_cons.mpr ⟨iff_of_true h1 rfl, fun _ h => absurd h List.not_mem_nil⟩⟩, Or.inr h, hc⟩
def lf_O66 : rO := ([((true, .inr (false, 2), .inl (.int 0)), false), ((false, .inr (false, 1), .inl (.int 0)), false), ((false, .inl (.int (-1)), .inr (false, 1)), true)], 23)
theorem lf_c66 : isOne (ex lf_O66 4 1400 true 100000 0 lwS) = true := by decide +kernel
theorem lf_o66 {σ : Nat → Int32} (hc : ((σ 2).toUInt32 % 65536).toInt32 = σ 4) (h : σ 0 &&& 63 = 23) (h0 : ¬ σ 2 = 0) (h1 : ¬ σ 1 < 0) : rOr lf_O66 σ := ⟨List.forall_mem_cons.mpr ⟨iff_of_false h0 (by decide), List.forall_mem_cons.mpr ⟨iff_of_false h1 (by decide), List.forall_mem_cons.mpr ⟨iff_of_true (show (-1) < σ 1 by
    simp only [Int32.lt_iff_toInt_lt, ← Int32.toInt_inj] at *
    have e0 : ((-1) : Int32).toInt = -1 := rfl
    have e1 : (0 : Int32).toInt = 0 := rfl
    omega) rfl, fun _ h => absurd h List.not_mem_nil⟩⟩⟩, Or.inr h, hc⟩
def lf_O67 : rO := ([((false, .inr (false, 1), .inl (.int 0)), true)], 24)
theorem lf_c67 : isOne (ex lf_O67 4 1400 true 100000 0 lwS) = true := by decide +kernel
theorem lf_o67 {σ : Nat → Int32} (hc : ((σ 2).toUInt32 % 65536).toInt32 = σ 4) (h : σ 0 &&& 63 = 24) (h0 : σ 1 < 0) : rOr lf_O67 σ := ⟨List.forall_mem_cons.mpr ⟨iff_of_true h0 rfl, fun _ h => absurd h List.not_mem_nil⟩, Or.inr h, hc⟩
def lf_O68 : rO := ([((false, .inr (false, 1), .inl (.int 0)), false), ((false, .inl (.int (-1)), .inr (false, 1)), true)], 24)
theorem lf_c68 : isOne (ex lf_O68 4 1400 true 100000 0 lwS) = true := by decide +kernel
theorem lf_o68 {σ : Nat → Int32} (hc : ((σ 2).toUInt32 % 65536).toInt32 = σ 4) (h : σ 0 &&& 63 = 24) (h0 : ¬ σ 1 < 0) : rOr lf_O68 σ := ⟨List.forall_mem_cons.mpr ⟨iff_of_false h0 (by decide), List.forall_mem_cons.mpr ⟨iff_of_true (show (-1) < σ 1 by
    simp only [Int32.lt_iff_toInt_lt, ← Int32.toInt_inj] at *
    have e0 : ((-1) : Int32).toInt = -1 := rfl
    have e1 : (0 : Int32).toInt = 0 := rfl
    omega) rfl, fun _ h => absurd h List.not_mem_nil⟩⟩, Or.inr h, hc⟩
def lf_O69 : rO := ([((false, .inr (false, 1), .inl (.int 0)), true)], 25)
theorem lf_c69 : isOne (ex lf_O69 4 1400 true 100000 0 lwS) = true := by decide +kernel
theorem lf_o69 {σ : Nat → Int32} (hc : ((σ 2).toUInt32 % 65536).toInt32 = σ 4) (h : σ 0 &&& 63 = 25) (h0 : σ 1 < 0) : rOr lf_O69 σ := ⟨List.forall_mem_cons.mpr ⟨iff_of_true h0 rfl, fun _ h => absurd h List.not_mem_nil⟩, Or.inr h, hc⟩
def lf_O70 : rO := ([((false, .inr (false, 1), .inl (.int 0)), false), ((false, .inl (.int (-1)), .inr (false, 1)), true)], 25)
theorem lf_c70 : isOne (ex lf_O70 4 1400 true 100000 0 lwS) = true := by decide +kernel
theorem lf_o70 {σ : Nat → Int32} (hc : ((σ 2).toUInt32 % 65536).toInt32 = σ 4) (h : σ 0 &&& 63 = 25) (h0 : ¬ σ 1 < 0) : rOr lf_O70 σ := ⟨List.forall_mem_cons.mpr ⟨iff_of_false h0 (by decide), List.forall_mem_cons.mpr ⟨iff_of_true (show (-1) < σ 1 by
    simp only [Int32.lt_iff_toInt_lt, ← Int32.toInt_inj] at *
    have e0 : ((-1) : Int32).toInt = -1 := rfl
    have e1 : (0 : Int32).toInt = 0 := rfl
    omega) rfl, fun _ h => absurd h List.not_mem_nil⟩⟩, Or.inr h, hc⟩
def lf_O71 : rO := ([((true, .inr (false, 2), .inl (.int 0)), true), ((false, .inr (false, 1), .inl (.int 0)), true)], 26)
theorem lf_c71 : isOne (ex lf_O71 4 1400 true 100000 0 lwS) = true := by decide +kernel
theorem lf_o71 {σ : Nat → Int32} (hc : ((σ 2).toUInt32 % 65536).toInt32 = σ 4) (h : σ 0 &&& 63 = 26) (h0 : σ 2 = 0) (h1 : σ 1 < 0) : rOr lf_O71 σ := ⟨List.forall_mem_cons.mpr ⟨iff_of_true h0 rfl, List.forall_mem_cons.mpr ⟨iff_of_true h1 rfl, fun _ h => absurd h List.not_mem_nil⟩⟩, Or.inr h, hc⟩
def lf_O72 : rO := ([((true, .inr (false, 2), .inl (.int 0)), true), ((false, .inr (false, 1), .inl (.int 0)), false), ((false, .inl (.int (-1)), .inr (false, 1)), true)], 26)
theorem lf_c72 : isOne (ex lf_O72 4 1400 true 100000 0 lwS) = true := by decide +kernel
theorem lf_o72 {σ : Nat → Int32} (hc : ((σ 2).toUInt32 % 65536).toInt32 = σ 4) (h : σ 0 &&& 63 = 26) (h0 : σ 2 = 0) (h1 : ¬ σ 1 < 0) : rOr lf_O72 σ := ⟨List.forall_mem_cons.mpr ⟨iff_of_true h0 rfl, List.forall_mem_cons.mpr ⟨iff_of_false h1 (by decide), List.forall_mem_cons.mpr ⟨iff_of_true (show (-1) < σ 1 by
    simp only [Int32.lt_iff_toInt_lt, ← Int32.toInt_inj] at *
    have e0 : ((-1) : Int32).toInt = -1 := rfl
    have e1 : (0 : Int32).toInt = 0 := rfl
    omega) rfl, fun _ h => absurd h List.not_mem_nil⟩⟩⟩, Or.inr h, hc⟩
def lf_O73 : rO := ([((true, .inr (false, 2), .inl (.int 0)), false), ((false, .inr (false, 1), .inl (.int 0)), true)], 26)
theorem lf_c73 : isOne (ex lf_O73 4 1400 true 100000 0 lwS) = true := by decide +kernel
theorem lf_o73 {σ : Nat → Int32} (hc : ((σ 2).toUInt32 % 65536).toInt32 = σ 4) (h : σ 0 &&& 63 = 26) (h0 : ¬ σ 2 = 0) (h1 : σ 1 < 0) : rOr lf_O73 σ := ⟨List.forall_mem_cons.mpr ⟨iff_of_false h0 (by decide), List.forall_mem_cons.mpr ⟨iff_of_true h1 rfl, fun _ h => absurd h List.not_mem_nil⟩⟩, Or.inr h, hc⟩
def lf_O74 : rO := ([((true, .inr (false, 2), .inl (.int 0)), false), ((false, .inr (false, 1), .inl (.int 0)), false), ((false, .inl (.int (-1)), .inr (false, 1)), true)], 26)
theorem lf_c74 : isOne (ex lf_O74 4 1400 true 100000 0 lwS) = true := by decide +kernel
theorem lf_o74 {σ : Nat → Int32} (hc : ((σ 2).toUInt32 % 65536).toInt32 = σ 4) (h : σ 0 &&& 63 = 26) (h0 : ¬ σ 2 = 0) (h1 : ¬ σ 1 < 0) : rOr lf_O74 σ := ⟨List.forall_mem_cons.mpr ⟨iff_of_false h0 (by decide), List.forall_mem_cons.mpr ⟨iff_of_false h1 (by decide), List.forall_mem_cons.mpr ⟨iff_of_true (show (-1) < σ 1 by
    simp only [Int32.lt_iff_toInt_lt, ← Int32.toInt_inj] at *
    have e0 : ((-1) : Int32).toInt = -1 := rfl
    have e1 : (0 : Int32).toInt = 0 := rfl
    omega) rfl, fun _ h => absurd h List.not_mem_nil⟩⟩⟩, Or.inr h, hc⟩
def lf_O75 : rO := ([((false, .inr (false, 1), .inl (.int 0)), true)], 27)
theorem lf_c75 : isOne (ex lf_O75 4 1400 true 100000 0 lwS) = true := by decide +kernel
theorem lf_o75 {σ : Nat → Int32} (hc : ((σ 2).toUInt32 % 65536).toInt32 = σ 4) (h : σ 0 &&& 63 = 27) (h0 : σ 1 < 0) : rOr lf_O75 σ := ⟨List.forall_mem_cons.mpr ⟨iff_of_true h0 rfl, fun _ h => absurd h List.not_mem_nil⟩, Or.inr h, hc⟩
def lf_O76 : rO := ([((false, .inr (false, 1), .inl (.int 0)), false), ((false, .inl (.int 1), .inr (false, 1)), true)], 27)
theorem lf_c76 : isOne (ex lf_O76 4 1400 true 100000 0 lwS) = true := by decide +kernel
theorem lf_o76 {σ : Nat → Int32} (hc : ((σ 2).toUInt32 % 65536).toInt32 = σ 4) (h : σ 0 &&& 63 = 27) (h0 : ¬ σ 1 < 0) (h1 : 1 < σ 1) : rOr lf_O76 σ := ⟨List.forall_mem_cons.mpr ⟨iff_of_false h0 (by decide), List.forall_mem_cons.mpr ⟨iff_of_true h1 rfl, fun _ h => absurd h List.not_mem_nil⟩⟩, Or.inr h, hc⟩
def lf_O77 : rO := ([((false, .inr (false, 1), .inl (.int 0)), false), ((false, .inl (.int 1), .inr (false, 1)), false), ((false, .inr (false, 2), .inl (.int 0)), true)], 27)
theorem lf_c77 : isOne (ex lf_O77 4 1400 true 100000 0 lwS) = true := by decide +kernel
theorem lf_o77 {σ : Nat → Int32} (hc : ((σ 2).toUInt32 % 65536).toInt32 = σ 4) (h : σ 0 &&& 63 = 27) (h0 : ¬ σ 1 < 0) (h1 : ¬ 1 < σ 1) (h2 : σ 2 < 0) : rOr lf_O77 σ := ⟨List.forall_mem_cons.mpr ⟨iff_of_false h0 (by decide), List.forall_mem_cons.mpr ⟨iff_of_false h1 (by decide), List.forall_mem_cons.mpr ⟨iff_of_true h2 rfl, fun _ h => absurd h List.not_mem_nil⟩⟩⟩, Or.inr h, hc⟩
def lf_O78 : rO := ([((false, .inr (false, 1), .inl (.int 0)), false), ((false, .inl (.int 1), .inr (false, 1)), false), ((false, .inr (false, 2), .inl (.int 0)), false), ((false, .inl (.int (-1)), .inr (false, 2)), true)], 27)
theorem lf_c78 : isOne (ex lf_O78 4 1400 true 100000 0 lwS) = true := by decide +kernel
theorem lf_o78 {σ : Nat → Int32} (hc : ((σ 2).toUInt32 % 65536).toInt32 = σ 4) (h : σ 0 &&& 63 = 27) (h0 : ¬ σ 1 < 0) (h1 : ¬ 1 < σ 1) (h2 : ¬ σ 2 < 0) : rOr lf_O78 σ := ⟨List.forall_mem_cons.mpr ⟨iff_of_false h0 (by decide), List.forall_mem_cons.mpr ⟨iff_of_false h1 (by decide), List.forall_mem_cons.mpr ⟨iff_of_false h2 (by decide), List.forall_mem_cons.mpr ⟨iff_of_true (show (-1) < σ 2 by
    simp only [Int32.lt_iff_toInt_lt, ← Int32.toInt_inj] at *
    have e0 : ((-1) : Int32).toInt = -1 := rfl
    have e1 : (0 : Int32).toInt = 0 := rfl
    have e2 : (1 : Int32).toInt = 1 := rfl
    omega) rfl, fun _ h => absurd h List.not_mem_nil⟩⟩⟩⟩, Or.inr h, hc⟩
def lf_O79 : rO := ([((false, .inr (false, 1), .inl (.int 0)), true)], 28)
theorem lf_c79 : isOne (ex lf_O79 4 1400 true 100000 0 lwS) = true := by decide +kernel
theorem lf_o79 {σ : Nat → Int32} (hc : ((σ 2).toUInt32 % 65536).toInt32 = σ 4) (h : σ 0 &&& 63 = 28) (h0 : σ 1 < 0) : rOr lf_O79 σ := ⟨List.forall_mem_cons.mpr ⟨iff_of_true h0 rfl, fun _ h => absurd h List.not_mem_nil⟩, Or.inr h, hc⟩
def lf_O80 : rO := ([((false, .inr (false, 1), .inl (.int 0)), false), ((false, .inl (.int (-1)), .inr (false, 1)), true)], 28)
theorem lf_c80 : isOne (ex lf_O80 4 1400 true 100000 0 lwS) = true := by decide +kernel
theorem lf_o80 {σ : Nat → Int32} (hc : ((σ 2).toUInt32 % 65536).toInt32 = σ 4) (h : σ 0 &&& 63 = 28) (h0 : ¬ σ 1 < 0) : rOr lf_O80 σ := ⟨List.forall_mem_cons.mpr ⟨iff_of_false h0 (by decide), List.forall_mem_cons.mpr ⟨iff_of_true (show (-1) < σ 1 by
    simp only [Int32.lt_iff_toInt_lt, ← Int32.toInt_inj] at *
    have e0 : ((-1) : Int32).toInt = -1 := rfl
    have e1 : (0 : Int32).toInt = 0 := rfl
    omega) rfl, fun _ h => absurd h List.not_mem_nil⟩⟩, Or.inr h, hc⟩
def lf_O81 : rO := ([((false, .inr (false, 1), .inl (.int 0)), true)], 29)
theorem lf_c81 : isOne (ex lf_O81 4 1400 true 100000 0 lwS) = true := by decide +kernel
theorem lf_o81 {σ : Nat → Int32} (hc : ((σ 2).toUInt32 % 65536).toInt32 = σ 4) (h : σ 0 &&& 63 = 29) (h0 : σ 1 < 0) : rOr lf_O81 σ := ⟨List.forall_mem_cons.mpr ⟨iff_of_true h0 rfl, fun _ h => absurd h List.not_mem_nil⟩, Or.inr h, hc⟩
def lf_O82 : rO := ([((false, .inr (false, 1), .inl (.int 0)), false), ((false, .inl (.int (-1)), .inr (false, 1)), true)], 29)
theorem lf_c82 : isOne (ex lf_O82 4 1400 true 100000 0 lwS) = true := by decide +kernel
theorem lf_o82 {σ : Nat → Int32} (hc : ((σ 2).toUInt32 % 65536).toInt32 = σ 4) (h : σ 0 &&& 63 = 29) (h0 : ¬ σ 1 < 0) : rOr lf_O82 σ := ⟨List.forall_mem_cons.mpr ⟨iff_of_false h0 (by decide), List.forall_mem_cons.mpr ⟨iff_of_true (show (-1) < σ 1 by
    simp only [Int32.lt_iff_toInt_lt, ← Int32.toInt_inj] at *
    have e0 : ((-1) : Int32).toInt = -1 := rfl
    have e1 : (0 : Int32).toInt = 0 := rfl
    omega) rfl, fun _ h => absurd h List.not_mem_nil⟩⟩, Or.inr h, hc⟩
def lf_O83 : rO := ([((false, .inr (false, 1), .inl (.int 0)), true)], 30)
theorem lf_c83 : isOne (ex lf_O83 4 1400 true 100000 0 lwS) = true := by decide +kernel
theorem lf_o83 {σ : Nat → Int32} (hc : ((σ 2).toUInt32 % 65536).toInt32 = σ 4) (h : σ 0 &&& 63 = 30) (h0 : σ 1 < 0) : rOr lf_O83 σ := ⟨List.forall_mem_cons.mpr ⟨iff_of_true h0 rfl, fun _ h => absurd h List.not_mem_nil⟩, Or.inr h, hc⟩
def lf_O84 : rO := ([((false, .inr (false, 1), .inl (.int 0)), false), ((false, .inl (.int (-1)), .inr (false, 1)), true)], 30)
theorem lf_c84 : isOne (ex lf_O84 4 1400 true 100000 0 lwS) = true := by decide +kernel
theorem lf_o84 {σ : Nat → Int32} (hc : ((σ 2).toUInt32 % 65536).toInt32 = σ 4) (h : σ 0 &&& 63 = 30) (h0 : ¬ σ 1 < 0) : rOr lf_O84 σ := ⟨List.forall_mem_cons.mpr ⟨iff_of_false h0 (by decide), List.forall_mem_cons.mpr ⟨iff_of_true (show (-1) < σ 1 by
    simp only [Int32.lt_iff_toInt_lt, ← Int32.toInt_inj] at *
    have e0 : ((-1) : Int32).toInt = -1 := rfl
    have e1 : (0 : Int32).toInt = 0 := rfl
    omega) rfl, fun _ h => absurd h List.not_mem_nil⟩⟩, Or.inr h, hc⟩
def lf_O85 : rO := ([], 31)
theorem lf_c85 : isOne (ex lf_O85 4 1400 true 100000 0 lwS) = true := by decide +kernel
theorem lf_o85 {σ : Nat → Int32} (hc : ((σ 2).toUInt32 % 65536).toInt32 = σ 4) (h : σ 0 &&& 63 = 31)  : rOr lf_O85 σ := ⟨fun _ h => absurd h List.not_mem_nil, Or.inr h, hc⟩
def lf_O86 : rO := ([], 32)
theorem lf_c86 : isOne (ex lf_O86 4 1400 true 100000 0 lwS) = true := by decide +kernel
theorem lf_o86 {σ : Nat → Int32} (hc : ((σ 2).toUInt32 % 65536).toInt32 = σ 4) (h : σ 0 &&& 63 = 32)  : rOr lf_O86 σ := ⟨fun _ h => absurd h List.not_mem_nil, Or.inr h, hc⟩
def lf_O87 : rO := ([], 33)
theorem lf_c87 : isOne (ex lf_O87 4 1400 true 100000 0 lwS) = true := by decide +kernel
theorem lf_o87 {σ : Nat → Int32} (hc : ((σ 2).toUInt32 % 65536).toInt32 = σ 4) (h : σ 0 &&& 63 = 33)  : rOr lf_O87 σ := ⟨fun _ h => absurd h List.not_mem_nil, Or.inr h, hc⟩
def lf_O88 : rO := ([], 34)
theorem lf_c88 : isOne (ex lf_O88 4 1400 true 100000 0 lwS) = true := by decide +kernel
theorem lf_o88 {σ : Nat → Int32} (hc : ((σ 2).toUInt32 % 65536).toInt32 = σ 4) (h : σ 0 &&& 63 = 34)  : rOr lf_O88 σ := ⟨fun _ h => absurd h List.not_mem_nil, Or.inr h, hc⟩
def lf_O89 : rO := ([], 35)
theorem lf_c89 : isOne (ex lf_O89 4 1400 true 100000 0 lwS) = true := by decide +kernel
theorem lf_o89 {σ : Nat → Int32} (hc : ((σ 2).toUInt32 % 65536).toInt32 = σ 4) (h : σ 0 &&& 63 = 35)  : rOr lf_O89 σ := ⟨fun _ h => absurd h List.not_mem_nil, Or.inr h, hc⟩
def lf_O90 : rO := ([], 36)
theorem lf_c90 : isOne (ex lf_O90 4 1400 true 100000 0 lwS) = true := by decide +kernel
theorem lf_o90 {σ : Nat → Int32} (hc : ((σ 2).toUInt32 % 65536).toInt32 = σ 4) (h : σ 0 &&& 63 = 36)  : rOr lf_O90 σ := ⟨fun _ h => absurd h List.not_mem_nil, Or.inr h, hc⟩
def lf_O91 : rO := ([], 37)
theorem lf_c91 : isOne (ex lf_O91 4 1400 true 100000 0 lwS) = true := by decide +kernel
theorem lf_o91 {σ : Nat → Int32} (hc : ((σ 2).toUInt32 % 65536).toInt32 = σ 4) (h : σ 0 &&& 63 = 37)  : rOr lf_O91 σ := ⟨fun _ h => absurd h List.not_mem_nil, Or.inr h, hc⟩
def lf_O92 : rO := ([], 38)
theorem lf_c92 : isOne (ex lf_O92 4 1400 true 100000 0 lwS) = true := by decide +kernel
theorem lf_o92 {σ : Nat → Int32} (hc : ((σ 2).toUInt32 % 65536).toInt32 = σ 4) (h : σ 0 &&& 63 = 38)  : rOr lf_O92 σ := ⟨fun _ h => absurd h List.not_mem_nil, Or.inr h, hc⟩
def lf_O93 : rO := ([], 39)
theorem lf_c93 : isOne (ex lf_O93 4 1400 true 100000 0 lwS) = true := by decide +kernel
theorem lf_o93 {σ : Nat → Int32} (hc : ((σ 2).toUInt32 % 65536).toInt32 = σ 4) (h : σ 0 &&& 63 = 39)  : rOr lf_O93 σ := ⟨fun _ h => absurd h List.not_mem_nil, Or.inr h, hc⟩
def lf_O94 : rO := ([], 40)
theorem lf_c94 : isOne (ex lf_O94 4 1400 true 100000 0 lwS) = true := by decide +kernel
theorem lf_o94 {σ : Nat → Int32} (hc : ((σ 2).toUInt32 % 65536).toInt32 = σ 4) (h : σ 0 &&& 63 = 40)  : rOr lf_O94 σ := ⟨fun _ h => absurd h List.not_mem_nil, Or.inr h, hc⟩
def lf_O95 : rO := ([], 41)
theorem lf_c95 : isOne (ex lf_O95 4 1400 true 100000 0 lwS) = true := by decide +kernel
theorem lf_o95 {σ : Nat → Int32} (hc : ((σ 2).toUInt32 % 65536).toInt32 = σ 4) (h : σ 0 &&& 63 = 41)  : rOr lf_O95 σ := ⟨fun _ h => absurd h List.not_mem_nil, Or.inr h, hc⟩
def lf_O96 : rO := ([], 42)
theorem lf_c96 : isOne (ex lf_O96 4 1400 true 100000 0 lwS) = true := by decide +kernel
theorem lf_o96 {σ : Nat → Int32} (hc : ((σ 2).toUInt32 % 65536).toInt32 = σ 4) (h : σ 0 &&& 63 = 42)  : rOr lf_O96 σ := ⟨fun _ h => absurd h List.not_mem_nil, Or.inr h, hc⟩
def lf_O97 : rO := ([], 43)
theorem lf_c97 : isOne (ex lf_O97 4 1400 true 100000 0 lwS) = true := by decide +kernel
theorem lf_o97 {σ : Nat → Int32} (hc : ((σ 2).toUInt32 % 65536).toInt32 = σ 4) (h : σ 0 &&& 63 = 43)  : rOr lf_O97 σ := ⟨fun _ h => absurd h List.not_mem_nil, Or.inr h, hc⟩
def lf_O98 : rO := ([], 44)
theorem lf_c98 : isOne (ex lf_O98 4 1400 true 100000 0 lwS) = true := by decide +kernel
theorem lf_o98 {σ : Nat → Int32} (hc : ((σ 2).toUInt32 % 65536).toInt32 = σ 4) (h : σ 0 &&& 63 = 44)  : rOr lf_O98 σ := ⟨fun _ h => absurd h List.not_mem_nil, Or.inr h, hc⟩
def lf_O99 : rO := ([], 45)
theorem lf_c99 : isOne (ex lf_O99 4 1400 true 100000 0 lwS) = true := by decide +kernel
theorem lf_o99 {σ : Nat → Int32} (hc : ((σ 2).toUInt32 % 65536).toInt32 = σ 4) (h : σ 0 &&& 63 = 45)  : rOr lf_O99 σ := ⟨fun _ h => absurd h List.not_mem_nil, Or.inr h, hc⟩
def lf_O100 : rO := ([], 46)
theorem lf_c100 : isOne (ex lf_O100 4 1400 true 100000 0 lwS) = true := by decide +kernel
theorem lf_o100 {σ : Nat → Int32} (hc : ((σ 2).toUInt32 % 65536).toInt32 = σ 4) (h : σ 0 &&& 63 = 46)  : rOr lf_O100 σ := ⟨fun _ h => absurd h List.not_mem_nil, Or.inr h, hc⟩
def lf_O101 : rO := ([], 47)
theorem lf_c101 : isOne (ex lf_O101 4 1400 true 100000 0 lwS) = true := by decide +kernel
theorem lf_o101 {σ : Nat → Int32} (hc : ((σ 2).toUInt32 % 65536).toInt32 = σ 4) (h : σ 0 &&& 63 = 47)  : rOr lf_O101 σ := ⟨fun _ h => absurd h List.not_mem_nil, Or.inr h, hc⟩
def lf_O102 : rO := ([], 48)
theorem lf_c102 : isOne (ex lf_O102 4 1400 true 100000 0 lwS) = true := by decide +kernel
theorem lf_o102 {σ : Nat → Int32} (hc : ((σ 2).toUInt32 % 65536).toInt32 = σ 4) (h : σ 0 &&& 63 = 48)  : rOr lf_O102 σ := ⟨fun _ h => absurd h List.not_mem_nil, Or.inr h, hc⟩
def lf_O103 : rO := ([], 49)
theorem lf_c103 : isOne (ex lf_O103 4 1400 true 100000 0 lwS) = true := by decide +kernel
theorem lf_o103 {σ : Nat → Int32} (hc : ((σ 2).toUInt32 % 65536).toInt32 = σ 4) (h : σ 0 &&& 63 = 49)  : rOr lf_O103 σ := ⟨fun _ h => absurd h List.not_mem_nil, Or.inr h, hc⟩
def lf_O104 : rO := ([], 50)
theorem lf_c104 : isOne (ex lf_O104 4 1400 true 100000 0 lwS) = true := by decide +kernel
theorem lf_o104 {σ : Nat → Int32} (hc : ((σ 2).toUInt32 % 65536).toInt32 = σ 4) (h : σ 0 &&& 63 = 50)  : rOr lf_O104 σ := ⟨fun _ h => absurd h List.not_mem_nil, Or.inr h, hc⟩
def lf_O105 : rO := ([], 51)
theorem lf_c105 : isOne (ex lf_O105 4 1400 true 100000 0 lwS) = true := by decide +kernel
theorem lf_o105 {σ : Nat → Int32} (hc : ((σ 2).toUInt32 % 65536).toInt32 = σ 4) (h : σ 0 &&& 63 = 51)  : rOr lf_O105 σ := ⟨fun _ h => absurd h List.not_mem_nil, Or.inr h, hc⟩
def lf_O106 : rO := ([], 52)
theorem lf_c106 : isOne (ex lf_O106 4 1400 true 100000 0 lwS) = true := by decide +kernel
theorem lf_o106 {σ : Nat → Int32} (hc : ((σ 2).toUInt32 % 65536).toInt32 = σ 4) (h : σ 0 &&& 63 = 52)  : rOr lf_O106 σ := ⟨fun _ h => absurd h List.not_mem_nil, Or.inr h, hc⟩
def lf_O107 : rO := ([], 53)
theorem lf_c107 : isOne (ex lf_O107 4 1400 true 100000 0 lwS) = true := by decide +kernel
theorem lf_o107 {σ : Nat → Int32} (hc : ((σ 2).toUInt32 % 65536).toInt32 = σ 4) (h : σ 0 &&& 63 = 53)  : rOr lf_O107 σ := ⟨fun _ h => absurd h List.not_mem_nil, Or.inr h, hc⟩
def lf_O108 : rO := ([], 54)
theorem lf_c108 : isOne (ex lf_O108 4 1400 true 100000 0 lwS) = true := by decide +kernel
theorem lf_o108 {σ : Nat → Int32} (hc : ((σ 2).toUInt32 % 65536).toInt32 = σ 4) (h : σ 0 &&& 63 = 54)  : rOr lf_O108 σ := ⟨fun _ h => absurd h List.not_mem_nil, Or.inr h, hc⟩
def lf_O109 : rO := ([], 55)
theorem lf_c109 : isOne (ex lf_O109 4 1400 true 100000 0 lwS) = true := by decide +kernel
theorem lf_o109 {σ : Nat → Int32} (hc : ((σ 2).toUInt32 % 65536).toInt32 = σ 4) (h : σ 0 &&& 63 = 55)  : rOr lf_O109 σ := ⟨fun _ h => absurd h List.not_mem_nil, Or.inr h, hc⟩
def lf_O110 : rO := ([], 56)
theorem lf_c110 : isOne (ex lf_O110 4 1400 true 100000 0 lwS) = true := by decide +kernel
theorem lf_o110 {σ : Nat → Int32} (hc : ((σ 2).toUInt32 % 65536).toInt32 = σ 4) (h : σ 0 &&& 63 = 56)  : rOr lf_O110 σ := ⟨fun _ h => absurd h List.not_mem_nil, Or.inr h, hc⟩
def lf_O111 : rO := ([], 57)
theorem lf_c111 : isOne (ex lf_O111 4 1400 true 100000 0 lwS) = true := by decide +kernel
theorem lf_o111 {σ : Nat → Int32} (hc : ((σ 2).toUInt32 % 65536).toInt32 = σ 4) (h : σ 0 &&& 63 = 57)  : rOr lf_O111 σ := ⟨fun _ h => absurd h List.not_mem_nil, Or.inr h, hc⟩
def lf_O112 : rO := ([], 58)
theorem lf_c112 : isOne (ex lf_O112 4 1400 true 100000 0 lwS) = true := by decide +kernel
theorem lf_o112 {σ : Nat → Int32} (hc : ((σ 2).toUInt32 % 65536).toInt32 = σ 4) (h : σ 0 &&& 63 = 58)  : rOr lf_O112 σ := ⟨fun _ h => absurd h List.not_mem_nil, Or.inr h, hc⟩
def lf_O113 : rO := ([], 59)
theorem lf_c113 : isOne (ex lf_O113 4 1400 true 100000 0 lwS) = true := by decide +kernel
theorem lf_o113 {σ : Nat → Int32} (hc : ((σ 2).toUInt32 % 65536).toInt32 = σ 4) (h : σ 0 &&& 63 = 59)  : rOr lf_O113 σ := ⟨fun _ h => absurd h List.not_mem_nil, Or.inr h, hc⟩
def lf_O114 : rO := ([], 60)
theorem lf_c114 : isOne (ex lf_O114 4 1400 true 100000 0 lwS) = true := by decide +kernel
theorem lf_o114 {σ : Nat → Int32} (hc : ((σ 2).toUInt32 % 65536).toInt32 = σ 4) (h : σ 0 &&& 63 = 60)  : rOr lf_O114 σ := ⟨fun _ h => absurd h List.not_mem_nil, Or.inr h, hc⟩
def lf_O115 : rO := ([], 61)
theorem lf_c115 : isOne (ex lf_O115 4 1400 true 100000 0 lwS) = true := by decide +kernel
theorem lf_o115 {σ : Nat → Int32} (hc : ((σ 2).toUInt32 % 65536).toInt32 = σ 4) (h : σ 0 &&& 63 = 61)  : rOr lf_O115 σ := ⟨fun _ h => absurd h List.not_mem_nil, Or.inr h, hc⟩
def lf_O116 : rO := ([], 62)
theorem lf_c116 : isOne (ex lf_O116 4 1400 true 100000 0 lwS) = true := by decide +kernel
theorem lf_o116 {σ : Nat → Int32} (hc : ((σ 2).toUInt32 % 65536).toInt32 = σ 4) (h : σ 0 &&& 63 = 62)  : rOr lf_O116 σ := ⟨fun _ h => absurd h List.not_mem_nil, Or.inr h, hc⟩
def lf_O117 : rO := ([], 63)
theorem lf_c117 : isOne (ex lf_O117 4 1400 true 100000 0 lwS) = true := by decide +kernel
theorem lf_o117 {σ : Nat → Int32} (hc : ((σ 2).toUInt32 % 65536).toInt32 = σ 4) (h : σ 0 &&& 63 = 63)  : rOr lf_O117 σ := ⟨fun _ h => absurd h List.not_mem_nil, Or.inr h, hc⟩
theorem sw_0 {G : Prop} {σ : Nat → Int32} (K : ∀ O : rO, rOr O σ → isOne (ex O 4 1400 true 100000 0 lwS) = true → G) (hc : ((σ 2).toUInt32 % 65536).toInt32 = σ 4) (h : σ 0 &&& 63 = 0) : G := by
  by_cases h0 : σ 1 < 0
  · exact K lf_O0 (lf_o0 hc h h0) lf_c0
  · by_cases h1 : 1 < σ 1
    · exact K lf_O1 (lf_o1 hc h h0 h1) lf_c1
    · by_cases h2 : σ 2 < 0
      · exact K lf_O2 (lf_o2 hc h h0 h1 h2) lf_c2
      · by_cases h3 : 7 < σ 2
        · exact K lf_O3 (lf_o3 hc h h0 h1 h2 h3) lf_c3
        · by_cases h4 : σ 3 < 0
          · exact K lf_O4 (lf_o4 hc h h0 h1 h2 h3 h4) lf_c4
          · by_cases h5 : 3 < σ 3
            · exact K lf_O5 (lf_o5 hc h h0 h1 h2 h3 h4 h5) lf_c5
            · exact K lf_O6 (lf_o6 hc h h0 h1 h2 h3 h4 h5) lf_c6
theorem sw_1 {G : Prop} {σ : Nat → Int32} (K : ∀ O : rO, rOr O σ → isOne (ex O 4 1400 true 100000 0 lwS) = true → G) (hc : ((σ 2).toUInt32 % 65536).toInt32 = σ 4) (h : σ 0 &&& 63 = 1) : G := by
  by_cases h0 : σ 1 < 0
  · exact K lf_O7 (lf_o7 hc h h0) lf_c7
  · exact K lf_O8 (lf_o8 hc h h0) lf_c8
theorem sw_2 {G : Prop} {σ : Nat → Int32} (K : ∀ O : rO, rOr O σ → isOne (ex O 4 1400 true 100000 0 lwS) = true → G) (hc : ((σ 2).toUInt32 % 65536).toInt32 = σ 4) (h : σ 0 &&& 63 = 2) : G := by
  by_cases h0 : σ 1 < 0
  · exact K lf_O9 (lf_o9 hc h h0) lf_c9
  · by_cases h1 : 9999 < σ 1
    · exact K lf_O10 (lf_o10 hc h h0 h1) lf_c10
    · by_cases h2 : σ 2 < 0
      · exact K lf_O11 (lf_o11 hc h h0 h1 h2) lf_c11
      · by_cases h3 : 9999 < σ 2
        · exact K lf_O12 (lf_o12 hc h h0 h1 h2 h3) lf_c12
        · by_cases h4 : 0 < σ 1
          · exact K lf_O13 (lf_o13 hc h h0 h1 h2 h3 h4) lf_c13
          · exact K lf_O14 (lf_o14 hc h h0 h1 h2 h3 h4) lf_c14
theorem sw_3 {G : Prop} {σ : Nat → Int32} (K : ∀ O : rO, rOr O σ → isOne (ex O 4 1400 true 100000 0 lwS) = true → G) (hc : ((σ 2).toUInt32 % 65536).toInt32 = σ 4) (h : σ 0 &&& 63 = 3) : G := by
  by_cases h0 : σ 1 < 1
  · exact K lf_O15 (lf_o15 hc h h0) lf_c15
  · by_cases h1 : 99 < σ 1
    · exact K lf_O16 (lf_o16 hc h h0 h1) lf_c16
    · exact K lf_O17 (lf_o17 hc h h0 h1) lf_c17
theorem sw_4 {G : Prop} {σ : Nat → Int32} (K : ∀ O : rO, rOr O σ → isOne (ex O 4 1400 true 100000 0 lwS) = true → G) (hc : ((σ 2).toUInt32 % 65536).toInt32 = σ 4) (h : σ 0 &&& 63 = 4) : G := by
  by_cases h0 : σ 1 < 0
  · exact K lf_O18 (lf_o18 hc h h0) lf_c18
  · exact K lf_O19 (lf_o19 hc h h0) lf_c19
theorem sw_5 {G : Prop} {σ : Nat → Int32} (K : ∀ O : rO, rOr O σ → isOne (ex O 4 1400 true 100000 0 lwS) = true → G) (hc : ((σ 2).toUInt32 % 65536).toInt32 = σ 4) (h : σ 0 &&& 63 = 5) : G := by
  by_cases h0 : σ 1 < 0
  · exact K lf_O20 (lf_o20 hc h h0) lf_c20
  · exact K lf_O21 (lf_o21 hc h h0) lf_c21
theorem sw_6 {G : Prop} {σ : Nat → Int32} (K : ∀ O : rO, rOr O σ → isOne (ex O 4 1400 true 100000 0 lwS) = true → G) (hc : ((σ 2).toUInt32 % 65536).toInt32 = σ 4) (h : σ 0 &&& 63 = 6) : G := by
  by_cases h0 : σ 1 < 0
  · exact K lf_O22 (lf_o22 hc h h0) lf_c22
  · exact K lf_O23 (lf_o23 hc h h0) lf_c23
theorem sw_7 {G : Prop} {σ : Nat → Int32} (K : ∀ O : rO, rOr O σ → isOne (ex O 4 1400 true 100000 0 lwS) = true → G) (hc : ((σ 2).toUInt32 % 65536).toInt32 = σ 4) (h : σ 0 &&& 63 = 7) : G := by
  by_cases h0 : σ 3 = 0
  · by_cases h1 : σ 1 < 0
    · exact K lf_O24 (lf_o24 hc h h0 h1) lf_c24
    · exact K lf_O25 (lf_o25 hc h h0 h1) lf_c25
  · by_cases h1 : σ 1 < 0
    · exact K lf_O26 (lf_o26 hc h h0 h1) lf_c26
    · exact K lf_O27 (lf_o27 hc h h0 h1) lf_c27
theorem sw_8 {G : Prop} {σ : Nat → Int32} (K : ∀ O : rO, rOr O σ → isOne (ex O 4 1400 true 100000 0 lwS) = true → G) (hc : ((σ 2).toUInt32 % 65536).toInt32 = σ 4) (h : σ 0 &&& 63 = 8) : G := by
  by_cases h0 : σ 1 < 0
  · exact K lf_O28 (lf_o28 hc h h0) lf_c28
  · by_cases h1 : 1 < σ 1
    · exact K lf_O29 (lf_o29 hc h h0 h1) lf_c29
    · exact K lf_O30 (lf_o30 hc h h0 h1) lf_c30
theorem sw_9 {G : Prop} {σ : Nat → Int32} (K : ∀ O : rO, rOr O σ → isOne (ex O 4 1400 true 100000 0 lwS) = true → G) (hc : ((σ 2).toUInt32 % 65536).toInt32 = σ 4) (h : σ 0 &&& 63 = 9) : G := by
  by_cases h0 : σ 1 < 0
  · exact K lf_O31 (lf_o31 hc h h0) lf_c31
  · exact K lf_O32 (lf_o32 hc h h0) lf_c32
theorem sw_10 {G : Prop} {σ : Nat → Int32} (K : ∀ O : rO, rOr O σ → isOne (ex O 4 1400 true 100000 0 lwS) = true → G) (hc : ((σ 2).toUInt32 % 65536).toInt32 = σ 4) (h : σ 0 &&& 63 = 10) : G := by
  by_cases h0 : σ 1 < 0
  · exact K lf_O33 (lf_o33 hc h h0) lf_c33
  · exact K lf_O34 (lf_o34 hc h h0) lf_c34
theorem sw_11 {G : Prop} {σ : Nat → Int32} (K : ∀ O : rO, rOr O σ → isOne (ex O 4 1400 true 100000 0 lwS) = true → G) (hc : ((σ 2).toUInt32 % 65536).toInt32 = σ 4) (h : σ 0 &&& 63 = 11) : G := by
  by_cases h0 : σ 1 < 0
  · exact K lf_O35 (lf_o35 hc h h0) lf_c35
  · exact K lf_O36 (lf_o36 hc h h0) lf_c36
theorem sw_12 {G : Prop} {σ : Nat → Int32} (K : ∀ O : rO, rOr O σ → isOne (ex O 4 1400 true 100000 0 lwS) = true → G) (hc : ((σ 2).toUInt32 % 65536).toInt32 = σ 4) (h : σ 0 &&& 63 = 12) : G := by
  by_cases h0 : σ 2 = 0
  · by_cases h1 : σ 1 < 0
    · exact K lf_O37 (lf_o37 hc h h0 h1) lf_c37
    · exact K lf_O38 (lf_o38 hc h h0 h1) lf_c38
  · by_cases h1 : σ 1 < 0
    · exact K lf_O39 (lf_o39 hc h h0 h1) lf_c39
    · exact K lf_O40 (lf_o40 hc h h0 h1) lf_c40
theorem sw_13 {G : Prop} {σ : Nat → Int32} (K : ∀ O : rO, rOr O σ → isOne (ex O 4 1400 true 100000 0 lwS) = true → G) (hc : ((σ 2).toUInt32 % 65536).toInt32 = σ 4) (h : σ 0 &&& 63 = 13) : G := by
  by_cases h0 : σ 1 < 0
  · exact K lf_O41 (lf_o41 hc h h0) lf_c41
  · exact K lf_O42 (lf_o42 hc h h0) lf_c42
theorem sw_14 {G : Prop} {σ : Nat → Int32} (K : ∀ O : rO, rOr O σ → isOne (ex O 4 1400 true 100000 0 lwS) = true → G) (hc : ((σ 2).toUInt32 % 65536).toInt32 = σ 4) (h : σ 0 &&& 63 = 14) : G := by
  by_cases h0 : σ 1 < 0
  · exact K lf_O43 (lf_o43 hc h h0) lf_c43
  · exact K lf_O44 (lf_o44 hc h h0) lf_c44
theorem sw_15 {G : Prop} {σ : Nat → Int32} (K : ∀ O : rO, rOr O σ → isOne (ex O 4 1400 true 100000 0 lwS) = true → G) (hc : ((σ 2).toUInt32 % 65536).toInt32 = σ 4) (h : σ 0 &&& 63 = 15) : G := by
  by_cases h0 : σ 2 = 0
  · by_cases h1 : σ 1 < 0
    · exact K lf_O45 (lf_o45 hc h h0 h1) lf_c45
    · exact K lf_O46 (lf_o46 hc h h0 h1) lf_c46
  · by_cases h1 : σ 1 < 0
    · exact K lf_O47 (lf_o47 hc h h0 h1) lf_c47
    · exact K lf_O48 (lf_o48 hc h h0 h1) lf_c48
theorem sw_16 {G : Prop} {σ : Nat → Int32} (K : ∀ O : rO, rOr O σ → isOne (ex O 4 1400 true 100000 0 lwS) = true → G) (hc : ((σ 2).toUInt32 % 65536).toInt32 = σ 4) (h : σ 0 &&& 63 = 16) : G := by
  by_cases h0 : σ 1 < 0
  · exact K lf_O49 (lf_o49 hc h h0) lf_c49
  · exact K lf_O50 (lf_o50 hc h h0) lf_c50
theorem sw_17 {G : Prop} {σ : Nat → Int32} (K : ∀ O : rO, rOr O σ → isOne (ex O 4 1400 true 100000 0 lwS) = true → G) (hc : ((σ 2).toUInt32 % 65536).toInt32 = σ 4) (h : σ 0 &&& 63 = 17) : G := by
  exact K lf_O51 (lf_o51 hc h ) lf_c51
theorem sw_18 {G : Prop} {σ : Nat → Int32} (K : ∀ O : rO, rOr O σ → isOne (ex O 4 1400 true 100000 0 lwS) = true → G) (hc : ((σ 2).toUInt32 % 65536).toInt32 = σ 4) (h : σ 0 &&& 63 = 18) : G := by
  by_cases h0 : σ 1 = 0
  · exact K lf_O52 (lf_o52 hc h h0) lf_c52
  · exact K lf_O53 (lf_o53 hc h h0) lf_c53
theorem sw_19 {G : Prop} {σ : Nat → Int32} (K : ∀ O : rO, rOr O σ → isOne (ex O 4 1400 true 100000 0 lwS) = true → G) (hc : ((σ 2).toUInt32 % 65536).toInt32 = σ 4) (h : σ 0 &&& 63 = 19) : G := by
  by_cases h0 : σ 2 = 0
  · by_cases h1 : σ 1 < 0
    · exact K lf_O54 (lf_o54 hc h h0 h1) lf_c54
    · exact K lf_O55 (lf_o55 hc h h0 h1) lf_c55
  · by_cases h1 : σ 1 < 0
    · exact K lf_O56 (lf_o56 hc h h0 h1) lf_c56
    · exact K lf_O57 (lf_o57 hc h h0 h1) lf_c57
theorem sw_20 {G : Prop} {σ : Nat → Int32} (K : ∀ O : rO, rOr O σ → isOne (ex O 4 1400 true 100000 0 lwS) = true → G) (hc : ((σ 2).toUInt32 % 65536).toInt32 = σ 4) (h : σ 0 &&& 63 = 20) : G := by
  exact K lf_O58 (lf_o58 hc h ) lf_c58
theorem sw_21 {G : Prop} {σ : Nat → Int32} (K : ∀ O : rO, rOr O σ → isOne (ex O 4 1400 true 100000 0 lwS) = true → G) (hc : ((σ 2).toUInt32 % 65536).toInt32 = σ 4) (h : σ 0 &&& 63 = 21) : G := by
  by_cases h0 : σ 1 < 0
  · exact K lf_O59 (lf_o59 hc h h0) lf_c59
  · exact K lf_O60 (lf_o60 hc h h0) lf_c60
theorem sw_22 {G : Prop} {σ : Nat → Int32} (K : ∀ O : rO, rOr O σ → isOne (ex O 4 1400 true 100000 0 lwS) = true → G) (hc : ((σ 2).toUInt32 % 65536).toInt32 = σ 4) (h : σ 0 &&& 63 = 22) : G := by
  by_cases h0 : σ 1 < 0
  · exact K lf_O61 (lf_o61 hc h h0) lf_c61
  · exact K lf_O62 (lf_o62 hc h h0) lf_c62
theorem sw_23 {G : Prop} {σ : Nat → Int32} (K : ∀ O : rO, rOr O σ → isOne (ex O 4 1400 true 100000 0 lwS) = true → G) (hc : ((σ 2).toUInt32 % 65536).toInt32 = σ 4) (h : σ 0 &&& 63 = 23) : G := by
  by_cases h0 : σ 2 = 0
  · by_cases h1 : σ 1 < 0
    · exact K lf_O63 (lf_o63 hc h h0 h1) lf_c63
    · exact K lf_O64 (lf_o64 hc h h0 h1) lf_c64
  · by_cases h1 : σ 1 < 0
    · exact K lf_O65 (lf_o65 hc h h0 h1) lf_c65
    · exact K lf_O66 (lf_o66 hc h h0 h1) lf_c66
theorem sw_24 {G : Prop} {σ : Nat → Int32} (K : ∀ O : rO, rOr O σ → isOne (ex O 4 1400 true 100000 0 lwS) = true → G) (hc : ((σ 2).toUInt32 % 65536).toInt32 = σ 4) (h : σ 0 &&& 63 = 24) : G := by
  by_cases h0 : σ 1 < 0
  · exact K lf_O67 (lf_o67 hc h h0) lf_c67
  · exact K lf_O68 (lf_o68 hc h h0) lf_c68
theorem sw_25 {G : Prop} {σ : Nat → Int32} (K : ∀ O : rO, rOr O σ → isOne (ex O 4 1400 true 100000 0 lwS) = true → G) (hc : ((σ 2).toUInt32 % 65536).toInt32 = σ 4) (h : σ 0 &&& 63 = 25) : G := by
  by_cases h0 : σ 1 < 0
  · exact K lf_O69 (lf_o69 hc h h0) lf_c69
  · exact K lf_O70 (lf_o70 hc h h0) lf_c70
theorem sw_26 {G : Prop} {σ : Nat → Int32} (K : ∀ O : rO, rOr O σ → isOne (ex O 4 1400 true 100000 0 lwS) = true → G) (hc : ((σ 2).toUInt32 % 65536).toInt32 = σ 4) (h : σ 0 &&& 63 = 26) : G := by
  by_cases h0 : σ 2 = 0
  · by_cases h1 : σ 1 < 0
    · exact K lf_O71 (lf_o71 hc h h0 h1) lf_c71
    · exact K lf_O72 (lf_o72 hc h h0 h1) lf_c72
  · by_cases h1 : σ 1 < 0
    · exact K lf_O73 (lf_o73 hc h h0 h1) lf_c73
    · exact K lf_O74 (lf_o74 hc h h0 h1) lf_c74
theorem sw_27 {G : Prop} {σ : Nat → Int32} (K : ∀ O : rO, rOr O σ → isOne (ex O 4 1400 true 100000 0 lwS) = true → G) (hc : ((σ 2).toUInt32 % 65536).toInt32 = σ 4) (h : σ 0 &&& 63 = 27) : G := by
  by_cases h0 : σ 1 < 0
  · exact K lf_O75 (lf_o75 hc h h0) lf_c75
  · by_cases h1 : 1 < σ 1
    · exact K lf_O76 (lf_o76 hc h h0 h1) lf_c76
    · by_cases h2 : σ 2 < 0
      · exact K lf_O77 (lf_o77 hc h h0 h1 h2) lf_c77
      · exact K lf_O78 (lf_o78 hc h h0 h1 h2) lf_c78
theorem sw_28 {G : Prop} {σ : Nat → Int32} (K : ∀ O : rO, rOr O σ → isOne (ex O 4 1400 true 100000 0 lwS) = true → G) (hc : ((σ 2).toUInt32 % 65536).toInt32 = σ 4) (h : σ 0 &&& 63 = 28) : G := by
  by_cases h0 : σ 1 < 0
  · exact K lf_O79 (lf_o79 hc h h0) lf_c79
  · exact K lf_O80 (lf_o80 hc h h0) lf_c80
theorem sw_29 {G : Prop} {σ : Nat → Int32} (K : ∀ O : rO, rOr O σ → isOne (ex O 4 1400 true 100000 0 lwS) = true → G) (hc : ((σ 2).toUInt32 % 65536).toInt32 = σ 4) (h : σ 0 &&& 63 = 29) : G := by
  by_cases h0 : σ 1 < 0
  · exact K lf_O81 (lf_o81 hc h h0) lf_c81
  · exact K lf_O82 (lf_o82 hc h h0) lf_c82
theorem sw_30 {G : Prop} {σ : Nat → Int32} (K : ∀ O : rO, rOr O σ → isOne (ex O 4 1400 true 100000 0 lwS) = true → G) (hc : ((σ 2).toUInt32 % 65536).toInt32 = σ 4) (h : σ 0 &&& 63 = 30) : G := by
  by_cases h0 : σ 1 < 0
  · exact K lf_O83 (lf_o83 hc h h0) lf_c83
  · exact K lf_O84 (lf_o84 hc h h0) lf_c84
theorem sw_31 {G : Prop} {σ : Nat → Int32} (K : ∀ O : rO, rOr O σ → isOne (ex O 4 1400 true 100000 0 lwS) = true → G) (hc : ((σ 2).toUInt32 % 65536).toInt32 = σ 4) (h : σ 0 &&& 63 = 31) : G := by
  exact K lf_O85 (lf_o85 hc h ) lf_c85
theorem sw_32 {G : Prop} {σ : Nat → Int32} (K : ∀ O : rO, rOr O σ → isOne (ex O 4 1400 true 100000 0 lwS) = true → G) (hc : ((σ 2).toUInt32 % 65536).toInt32 = σ 4) (h : σ 0 &&& 63 = 32) : G := by
  exact K lf_O86 (lf_o86 hc h ) lf_c86
theorem sw_33 {G : Prop} {σ : Nat → Int32} (K : ∀ O : rO, rOr O σ → isOne (ex O 4 1400 true 100000 0 lwS) = true → G) (hc : ((σ 2).toUInt32 % 65536).toInt32 = σ 4) (h : σ 0 &&& 63 = 33) : G := by
  exact K lf_O87 (lf_o87 hc h ) lf_c87
theorem sw_34 {G : Prop} {σ : Nat → Int32} (K : ∀ O : rO, rOr O σ → isOne (ex O 4 1400 true 100000 0 lwS) = true → G) (hc : ((σ 2).toUInt32 % 65536).toInt32 = σ 4) (h : σ 0 &&& 63 = 34) : G := by
  exact K lf_O88 (lf_o88 hc h ) lf_c88
theorem sw_35 {G : Prop} {σ : Nat → Int32} (K : ∀ O : rO, rOr O σ → isOne (ex O 4 1400 true 100000 0 lwS) = true → G) (hc : ((σ 2).toUInt32 % 65536).toInt32 = σ 4) (h : σ 0 &&& 63 = 35) : G := by
  exact K lf_O89 (lf_o89 hc h ) lf_c89
theorem sw_36 {G : Prop} {σ : Nat → Int32} (K : ∀ O : rO, rOr O σ → isOne (ex O 4 1400 true 100000 0 lwS) = true → G) (hc : ((σ 2).toUInt32 % 65536).toInt32 = σ 4) (h : σ 0 &&& 63 = 36) : G := by
  exact K lf_O90 (lf_o90 hc h ) lf_c90
theorem sw_37 {G : Prop} {σ : Nat → Int32} (K : ∀ O : rO, rOr O σ → isOne (ex O 4 1400 true 100000 0 lwS) = true → G) (hc : ((σ 2).toUInt32 % 65536).toInt32 = σ 4) (h : σ 0 &&& 63 = 37) : G := by
  exact K lf_O91 (lf_o91 hc h ) lf_c91
theorem sw_38 {G : Prop} {σ : Nat → Int32} (K : ∀ O : rO, rOr O σ → isOne (ex O 4 1400 true 100000 0 lwS) = true → G) (hc : ((σ 2).toUInt32 % 65536).toInt32 = σ 4) (h : σ 0 &&& 63 = 38) : G := by
  exact K lf_O92 (lf_o92 hc h ) lf_c92
theorem sw_39 {G : Prop} {σ : Nat → Int32} (K : ∀ O : rO, rOr O σ → isOne (ex O 4 1400 true 100000 0 lwS) = true → G) (hc : ((σ 2).toUInt32 % 65536).toInt32 = σ 4) (h : σ 0 &&& 63 = 39) : G := by
  exact K lf_O93 (lf_o93 hc h ) lf_c93
theorem sw_40 {G : Prop} {σ : Nat → Int32} (K : ∀ O : rO, rOr O σ → isOne (ex O 4 1400 true 100000 0 lwS) = true → G) (hc : ((σ 2).toUInt32 % 65536).toInt32 = σ 4) (h : σ 0 &&& 63 = 40) : G := by
  exact K lf_O94 (lf_o94 hc h ) lf_c94
theorem sw_41 {G : Prop} {σ : Nat → Int32} (K : ∀ O : rO, rOr O σ → isOne (ex O 4 1400 true 100000 0 lwS) = true → G) (hc : ((σ 2).toUInt32 % 65536).toInt32 = σ 4) (h : σ 0 &&& 63 = 41) : G := by
  exact K lf_O95 (lf_o95 hc h ) lf_c95
theorem sw_42 {G : Prop} {σ : Nat → Int32} (K : ∀ O : rO, rOr O σ → isOne (ex O 4 1400 true 100000 0 lwS) = true → G) (hc : ((σ 2).toUInt32 % 65536).toInt32 = σ 4) (h : σ 0 &&& 63 = 42) : G := by
  exact K lf_O96 (lf_o96 hc h ) lf_c96
theorem sw_43 {G : Prop} {σ : Nat → Int32} (K : ∀ O : rO, rOr O σ → isOne (ex O 4 1400 true 100000 0 lwS) = true → G) (hc : ((σ 2).toUInt32 % 65536).toInt32 = σ 4) (h : σ 0 &&& 63 = 43) : G := by
  exact K lf_O97 (lf_o97 hc h ) lf_c97
theorem sw_44 {G : Prop} {σ : Nat → Int32} (K : ∀ O : rO, rOr O σ → isOne (ex O 4 1400 true 100000 0 lwS) = true → G) (hc : ((σ 2).toUInt32 % 65536).toInt32 = σ 4) (h : σ 0 &&& 63 = 44) : G := by
  exact K lf_O98 (lf_o98 hc h ) lf_c98
theorem sw_45 {G : Prop} {σ : Nat → Int32} (K : ∀ O : rO, rOr O σ → isOne (ex O 4 1400 true 100000 0 lwS) = true → G) (hc : ((σ 2).toUInt32 % 65536).toInt32 = σ 4) (h : σ 0 &&& 63 = 45) : G := by
  exact K lf_O99 (lf_o99 hc h ) lf_c99
theorem sw_46 {G : Prop} {σ : Nat → Int32} (K : ∀ O : rO, rOr O σ → isOne (ex O 4 1400 true 100000 0 lwS) = true → G) (hc : ((σ 2).toUInt32 % 65536).toInt32 = σ 4) (h : σ 0 &&& 63 = 46) : G := by
  exact K lf_O100 (lf_o100 hc h ) lf_c100
theorem sw_47 {G : Prop} {σ : Nat → Int32} (K : ∀ O : rO, rOr O σ → isOne (ex O 4 1400 true 100000 0 lwS) = true → G) (hc : ((σ 2).toUInt32 % 65536).toInt32 = σ 4) (h : σ 0 &&& 63 = 47) : G := by
  exact K lf_O101 (lf_o101 hc h ) lf_c101
theorem sw_48 {G : Prop} {σ : Nat → Int32} (K : ∀ O : rO, rOr O σ → isOne (ex O 4 1400 true 100000 0 lwS) = true → G) (hc : ((σ 2).toUInt32 % 65536).toInt32 = σ 4) (h : σ 0 &&& 63 = 48) : G := by
  exact K lf_O102 (lf_o102 hc h ) lf_c102
theorem sw_49 {G : Prop} {σ : Nat → Int32} (K : ∀ O : rO, rOr O σ → isOne (ex O 4 1400 true 100000 0 lwS) = true → G) (hc : ((σ 2).toUInt32 % 65536).toInt32 = σ 4) (h : σ 0 &&& 63 = 49) : G := by
  exact K lf_O103 (lf_o103 hc h ) lf_c103
theorem sw_50 {G : Prop} {σ : Nat → Int32} (K : ∀ O : rO, rOr O σ → isOne (ex O 4 1400 true 100000 0 lwS) = true → G) (hc : ((σ 2).toUInt32 % 65536).toInt32 = σ 4) (h : σ 0 &&& 63 = 50) : G := by
  exact K lf_O104 (lf_o104 hc h ) lf_c104
theorem sw_51 {G : Prop} {σ : Nat → Int32} (K : ∀ O : rO, rOr O σ → isOne (ex O 4 1400 true 100000 0 lwS) = true → G) (hc : ((σ 2).toUInt32 % 65536).toInt32 = σ 4) (h : σ 0 &&& 63 = 51) : G := by
  exact K lf_O105 (lf_o105 hc h ) lf_c105
theorem sw_52 {G : Prop} {σ : Nat → Int32} (K : ∀ O : rO, rOr O σ → isOne (ex O 4 1400 true 100000 0 lwS) = true → G) (hc : ((σ 2).toUInt32 % 65536).toInt32 = σ 4) (h : σ 0 &&& 63 = 52) : G := by
  exact K lf_O106 (lf_o106 hc h ) lf_c106
theorem sw_53 {G : Prop} {σ : Nat → Int32} (K : ∀ O : rO, rOr O σ → isOne (ex O 4 1400 true 100000 0 lwS) = true → G) (hc : ((σ 2).toUInt32 % 65536).toInt32 = σ 4) (h : σ 0 &&& 63 = 53) : G := by
  exact K lf_O107 (lf_o107 hc h ) lf_c107
theorem sw_54 {G : Prop} {σ : Nat → Int32} (K : ∀ O : rO, rOr O σ → isOne (ex O 4 1400 true 100000 0 lwS) = true → G) (hc : ((σ 2).toUInt32 % 65536).toInt32 = σ 4) (h : σ 0 &&& 63 = 54) : G := by
  exact K lf_O108 (lf_o108 hc h ) lf_c108
theorem sw_55 {G : Prop} {σ : Nat → Int32} (K : ∀ O : rO, rOr O σ → isOne (ex O 4 1400 true 100000 0 lwS) = true → G) (hc : ((σ 2).toUInt32 % 65536).toInt32 = σ 4) (h : σ 0 &&& 63 = 55) : G := by
  exact K lf_O109 (lf_o109 hc h ) lf_c109
theorem sw_56 {G : Prop} {σ : Nat → Int32} (K : ∀ O : rO, rOr O σ → isOne (ex O 4 1400 true 100000 0 lwS) = true → G) (hc : ((σ 2).toUInt32 % 65536).toInt32 = σ 4) (h : σ 0 &&& 63 = 56) : G := by
  exact K lf_O110 (lf_o110 hc h ) lf_c110
theorem sw_57 {G : Prop} {σ : Nat → Int32} (K : ∀ O : rO, rOr O σ → isOne (ex O 4 1400 true 100000 0 lwS) = true → G) (hc : ((σ 2).toUInt32 % 65536).toInt32 = σ 4) (h : σ 0 &&& 63 = 57) : G := by
  exact K lf_O111 (lf_o111 hc h ) lf_c111
theorem sw_58 {G : Prop} {σ : Nat → Int32} (K : ∀ O : rO, rOr O σ → isOne (ex O 4 1400 true 100000 0 lwS) = true → G) (hc : ((σ 2).toUInt32 % 65536).toInt32 = σ 4) (h : σ 0 &&& 63 = 58) : G := by
  exact K lf_O112 (lf_o112 hc h ) lf_c112
theorem sw_59 {G : Prop} {σ : Nat → Int32} (K : ∀ O : rO, rOr O σ → isOne (ex O 4 1400 true 100000 0 lwS) = true → G) (hc : ((σ 2).toUInt32 % 65536).toInt32 = σ 4) (h : σ 0 &&& 63 = 59) : G := by
  exact K lf_O113 (lf_o113 hc h ) lf_c113
theorem sw_60 {G : Prop} {σ : Nat → Int32} (K : ∀ O : rO, rOr O σ → isOne (ex O 4 1400 true 100000 0 lwS) = true → G) (hc : ((σ 2).toUInt32 % 65536).toInt32 = σ 4) (h : σ 0 &&& 63 = 60) : G := by
  exact K lf_O114 (lf_o114 hc h ) lf_c114
theorem sw_61 {G : Prop} {σ : Nat → Int32} (K : ∀ O : rO, rOr O σ → isOne (ex O 4 1400 true 100000 0 lwS) = true → G) (hc : ((σ 2).toUInt32 % 65536).toInt32 = σ 4) (h : σ 0 &&& 63 = 61) : G := by
  exact K lf_O115 (lf_o115 hc h ) lf_c115
theorem sw_62 {G : Prop} {σ : Nat → Int32} (K : ∀ O : rO, rOr O σ → isOne (ex O 4 1400 true 100000 0 lwS) = true → G) (hc : ((σ 2).toUInt32 % 65536).toInt32 = σ 4) (h : σ 0 &&& 63 = 62) : G := by
  exact K lf_O116 (lf_o116 hc h ) lf_c116
theorem sw_63 {G : Prop} {σ : Nat → Int32} (K : ∀ O : rO, rOr O σ → isOne (ex O 4 1400 true 100000 0 lwS) = true → G) (hc : ((σ 2).toUInt32 % 65536).toInt32 = σ 4) (h : σ 0 &&& 63 = 63) : G := by
  exact K lf_O117 (lf_o117 hc h ) lf_c117
theorem sw_all {G : Prop} {σ : Nat → Int32} (K : ∀ O : rO, rOr O σ → isOne (ex O 4 1400 true 100000 0 lwS) = true → G) (hc : ((σ 2).toUInt32 % 65536).toInt32 = σ 4) : G := by
  obtain ⟨j, hj, h⟩ := pk_andE (σ 0) (m := 63) 6 rfl
  match j, hj, h with
  | 0, _, h => exact sw_0 K hc h
  | 1, _, h => exact sw_1 K hc h
  | 2, _, h => exact sw_2 K hc h
  | 3, _, h => exact sw_3 K hc h
  | 4, _, h => exact sw_4 K hc h
  | 5, _, h => exact sw_5 K hc h
  | 6, _, h => exact sw_6 K hc h
  | 7, _, h => exact sw_7 K hc h
  | 8, _, h => exact sw_8 K hc h
  | 9, _, h => exact sw_9 K hc h
  | 10, _, h => exact sw_10 K hc h
  | 11, _, h => exact sw_11 K hc h
  | 12, _, h => exact sw_12 K hc h
  | 13, _, h => exact sw_13 K hc h
  | 14, _, h => exact sw_14 K hc h
  | 15, _, h => exact sw_15 K hc h
  | 16, _, h => exact sw_16 K hc h
  | 17, _, h => exact sw_17 K hc h
  | 18, _, h => exact sw_18 K hc h
  | 19, _, h => exact sw_19 K hc h
  | 20, _, h => exact sw_20 K hc h
  | 21, _, h => exact sw_21 K hc h
  | 22, _, h => exact sw_22 K hc h
  | 23, _, h => exact sw_23 K hc h
  | 24, _, h => exact sw_24 K hc h
  | 25, _, h => exact sw_25 K hc h
  | 26, _, h => exact sw_26 K hc h
  | 27, _, h => exact sw_27 K hc h
  | 28, _, h => exact sw_28 K hc h
  | 29, _, h => exact sw_29 K hc h
  | 30, _, h => exact sw_30 K hc h
  | 31, _, h => exact sw_31 K hc h
  | 32, _, h => exact sw_32 K hc h
  | 33, _, h => exact sw_33 K hc h
  | 34, _, h => exact sw_34 K hc h
  | 35, _, h => exact sw_35 K hc h
  | 36, _, h => exact sw_36 K hc h
  | 37, _, h => exact sw_37 K hc h
  | 38, _, h => exact sw_38 K hc h
  | 39, _, h => exact sw_39 K hc h
  | 40, _, h => exact sw_40 K hc h
  | 41, _, h => exact sw_41 K hc h
  | 42, _, h => exact sw_42 K hc h
  | 43, _, h => exact sw_43 K hc h
  | 44, _, h => exact sw_44 K hc h
  | 45, _, h => exact sw_45 K hc h
  | 46, _, h => exact sw_46 K hc h
  | 47, _, h => exact sw_47 K hc h
  | 48, _, h => exact sw_48 K hc h
  | 49, _, h => exact sw_49 K hc h
  | 50, _, h => exact sw_50 K hc h
  | 51, _, h => exact sw_51 K hc h
  | 52, _, h => exact sw_52 K hc h
  | 53, _, h => exact sw_53 K hc h
  | 54, _, h => exact sw_54 K hc h
  | 55, _, h => exact sw_55 K hc h
  | 56, _, h => exact sw_56 K hc h
  | 57, _, h => exact sw_57 K hc h
  | 58, _, h => exact sw_58 K hc h
  | 59, _, h => exact sw_59 K hc h
  | 60, _, h => exact sw_60 K hc h
  | 61, _, h => exact sw_61 K hc h
  | 62, _, h => exact sw_62 K hc h
  | 63, _, h => exact sw_63 K hc h
  | j + 64, hj, _ => exact absurd hj (by omega)
