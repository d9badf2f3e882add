def lf_O0 : rO := ([((false, .inr (false, 1), .inl (.int 0)), true)], 0)
theorem lf_c0 : isOne (ex lf_O0 4 1400 true 100000 0 lwF) = true := by decide +kernel
theorem lf_o0 {σ : Nat → Int32} (hc : ((σ 2).toUInt32 % 65536).toInt32 = σ 4) (h : σ 0 &&& 63 = 0) (h0 : σ 1 < 0) : rOr lf_O0 σ := ⟨List.forall_mem_cons.mpr ⟨iff_of_true h0 rfl, fun _ h => absurd h List.not_mem_nil⟩, Or.inr h, hc⟩
def lf_O1 : rO := ([((false, .inr (false, 1), .inl (.int 0)), false), ((false, .inl (.int 1), .inr (false, 1)), true)], 0)
theorem lf_c1 : isOne (ex lf_O1 4 1400 true 100000 0 lwF) = true := by decide +kernel
theorem lf_o1 {σ : Nat → Int32} (hc : ((σ 2).toUInt32 % 65536).toInt32 = σ 4) (h : σ 0 &&& 63 = 0) (h0 : ¬ σ 1 < 0) (h1 : 1 < σ 1) : rOr lf_O1 σ := ⟨List.forall_mem_cons.mpr ⟨iff_of_false h0 (by decide), List.forall_mem_cons.mpr ⟨iff_of_true h1 rfl, fun _ h => absurd h List.not_mem_nil⟩⟩, Or.inr h, hc⟩
def lf_O2 : rO := ([((false, .inr (false, 1), .inl (.int 0)), false), ((false, .inl (.int 1), .inr (false, 1)), false), ((false, .inr (false, 2), .inl (.int 0)), true)], 0)
theorem lf_c2 : isOne (ex lf_O2 4 1400 true 100000 0 lwF) = true := by decide +kernel
theorem lf_o2 {σ : Nat → Int32} (hc : ((σ 2).toUInt32 % 65536).toInt32 = σ 4) (h : σ 0 &&& 63 = 0) (h0 : ¬ σ 1 < 0) (h1 : ¬ 1 < σ 1) (h2 : σ 2 < 0) : rOr lf_O2 σ := ⟨List.forall_mem_cons.mpr ⟨iff_of_false h0 (by decide), List.forall_mem_cons.mpr ⟨iff_of_false h1 (by decide), List.forall_mem_cons.mpr ⟨iff_of_true h2 rfl, fun _ h => absurd h List.not_mem_nil⟩⟩⟩, Or.inr h, hc⟩
def lf_O3 : rO := ([((false, .inr (false, 1), .inl (.int 0)), false), ((false, .inl (.int 1), .inr (false, 1)), false), ((false, .inr (false, 2), .inl (.int 0)), false), ((false, .inl (.int 7), .inr (false, 2)), true)], 0)
theorem lf_c3 : isOne (ex lf_O3 4 1400 true 100000 0 lwF) = true := by decide +kernel
theorem lf_o3 {σ : Nat → Int32} (hc : ((σ 2).toUInt32 % 65536).toInt32 = σ 4) (h : σ 0 &&& 63 = 0) (h0 : ¬ σ 1 < 0) (h1 : ¬ 1 < σ 1) (h2 : ¬ σ 2 < 0) (h3 : 7 < σ 2) : rOr lf_O3 σ := ⟨List.forall_mem_cons.mpr ⟨iff_of_false h0 (by decide), List.forall_mem_cons.mpr ⟨iff_of_false h1 (by decide), List.forall_mem_cons.mpr ⟨iff_of_false h2 (by decide), List.forall_mem_cons.mpr ⟨iff_of_true h3 rfl, fun _ h => absurd h List.not_mem_nil⟩⟩⟩⟩, Or.inr h, hc⟩
def lf_O4 : rO := ([((false, .inr (false, 1), .inl (.int 0)), false), ((false, .inl (.int 1), .inr (false, 1)), false), ((false, .inr (false, 2), .inl (.int 0)), false), ((false, .inl (.int 7), .inr (false, 2)), false), ((false, .inr (false, 3), .inl (.int 0)), true)], 0)
theorem lf_c4 : isOne (ex lf_O4 4 1400 true 100000 0 lwF) = true := by decide +kernel
theorem lf_o4 {σ : Nat → Int32} (hc : ((σ 2).toUInt32 % 65536).toInt32 = σ 4) (h : σ 0 &&& 63 = 0) (h0 : ¬ σ 1 < 0) (h1 : ¬ 1 < σ 1) (h2 : ¬ σ 2 < 0) (h3 : ¬ 7 < σ 2) (h4 : σ 3 < 0) : rOr lf_O4 σ := ⟨List.forall_mem_cons.mpr ⟨iff_of_false h0 (by decide), List.forall_mem_cons.mpr ⟨iff_of_false h1 (by decide), List.forall_mem_cons.mpr ⟨iff_of_false h2 (by decide), List.forall_mem_cons.mpr ⟨iff_of_false h3 (by decide), List.forall_mem_cons.mpr ⟨iff_of_true h4 rfl, fun _ h => absurd h List.not_mem_nil⟩⟩⟩⟩⟩, Or.inr h, hc⟩
def lf_O5 : rO := ([((false, .inr (false, 1), .inl (.int 0)), false), ((false, .inl (.int 1), .inr (false, 1)), false), ((false, .inr (false, 2), .inl (.int 0)), false), ((false, .inl (.int 7), .inr (false, 2)), false), ((false, .inr (false, 3), .inl (.int 0)), false), ((false, .inl (.int 3), .inr (false, 3)), true)], 0)
theorem lf_c5 : isOne (ex lf_O5 4 1400 true 100000 0 lwF) = true := by decide +kernel
theorem lf_o5 {σ : Nat → Int32} (hc : ((σ 2).toUInt32 % 65536).toInt32 = σ 4) (h : σ 0 &&& 63 = 0) (h0 : ¬ σ 1 < 0) (h1 : ¬ 1 < σ 1) (h2 : ¬ σ 2 < 0) (h3 : ¬ 7 < σ 2) (h4 : ¬ σ 3 < 0) (h5 : 3 < σ 3) : rOr lf_O5 σ := ⟨List.forall_mem_cons.mpr ⟨iff_of_false h0 (by decide), List.forall_mem_cons.mpr ⟨iff_of_false h1 (by decide), List.forall_mem_cons.mpr ⟨iff_of_false h2 (by decide), List.forall_mem_cons.mpr ⟨iff_of_false h3 (by decide), List.forall_mem_cons.mpr ⟨iff_of_false h4 (by decide), List.forall_mem_cons.mpr ⟨iff_of_true h5 rfl, fun _ h => absurd h List.not_mem_nil⟩⟩⟩⟩⟩⟩, Or.inr h, hc⟩
def lf_O6 : rO := ([((false, .inr (false, 1), .inl (.int 0)), false), ((false, .inl (.int 1), .inr (false, 1)), false), ((false, .inr (false, 2), .inl (.int 0)), false), ((false, .inl (.int 7), .inr (false, 2)), false), ((false, .inr (false, 3), .inl (.int 0)), false), ((false, .inl (.int 3), .inr (false, 3)), false)], 0)
theorem lf_c6 : isOne (ex lf_O6 4 1400 true 100000 0 lwF) = true := by decide +kernel
theorem lf_o6 {σ : Nat → Int32} (hc : ((σ 2).toUInt32 % 65536).toInt32 = σ 4) (h : σ 0 &&& 63 = 0) (h0 : ¬ σ 1 < 0) (h1 : ¬ 1 < σ 1) (h2 : ¬ σ 2 < 0) (h3 : ¬ 7 < σ 2) (h4 : ¬ σ 3 < 0) (h5 : ¬ 3 < σ 3) : rOr lf_O6 σ := ⟨List.forall_mem_cons.mpr ⟨iff_of_false h0 (by decide), List.forall_mem_cons.mpr ⟨iff_of_false h1 (by decide), List.forall_mem_cons.mpr ⟨iff_of_false h2 (by decide), List.forall_mem_cons.mpr ⟨iff_of_false h3 (by decide), List.forall_mem_cons.mpr ⟨iff_of_false h4 (by decide), List.forall_mem_cons.mpr ⟨iff_of_false h5 (by decide), fun _ h => absurd h List.not_mem_nil⟩⟩⟩⟩⟩⟩, Or.inr h, hc⟩
def lf_O7 : rO := ([((false, .inr (false, 1), .inl (.int 0)), true)], 1)
theorem lf_c7 : isOne (ex lf_O7 4 1400 true 100000 0 lwF) = true := by decide +kernel
theorem lf_o7 {σ : Nat → Int32} (hc : ((σ 2).toUInt32 % 65536).toInt32 = σ 4) (h : σ 0 &&& 63 = 1) (h0 : σ 1 < 0) : rOr lf_O7 σ := ⟨List.forall_mem_cons.mpr ⟨iff_of_true h0 rfl, fun _ h => absurd h List.not_mem_nil⟩, Or.inr h, hc⟩
def lf_O8 : rO := ([((false, .inr (false, 1), .inl (.int 0)), false), ((false, .inl (.int (-1)), .inr (false, 1)), true)], 1)
theorem lf_c8 : isOne (ex lf_O8 4 1400 true 100000 0 lwF) = true := by decide +kernel
theorem lf_o8 {σ : Nat → Int32} (hc : ((σ 2).toUInt32 % 65536).toInt32 = σ 4) (h : σ 0 &&& 63 = 1) (h0 : ¬ σ 1 < 0) : rOr lf_O8 σ := ⟨List.forall_mem_cons.mpr ⟨iff_of_false h0 (by decide), List.forall_mem_cons.mpr ⟨iff_of_true (show (-1) < σ 1 by
    simp only [Int32.lt_iff_toInt_lt, ← Int32.toInt_inj] at *
    have e0 : ((-1) : Int32).toInt = -1 := rfl
    have e1 : (0 : Int32).toInt = 0 := rfl
    omega) rfl, fun _ h => absurd h List.not_mem_nil⟩⟩, Or.inr h, hc⟩
def lf_O9 : rO := ([((false, .inr (false, 1), .inl (.int 0)), true)], 2)
theorem lf_c9 : isOne (ex lf_O9 4 1400 true 100000 0 lwF) = true := by decide +kernel
theorem lf_o9 {σ : Nat → Int32} (hc : ((σ 2).toUInt32 % 65536).toInt32 = σ 4) (h : σ 0 &&& 63 = 2) (h0 : σ 1 < 0) : rOr lf_O9 σ := ⟨List.forall_mem_cons.mpr ⟨iff_of_true h0 rfl, fun _ h => absurd h List.not_mem_nil⟩, Or.inr h, hc⟩
def lf_O10 : rO := ([((false, .inr (false, 1), .inl (.int 0)), false), ((false, .inl (.int 9999), .inr (false, 1)), true)], 2)
theorem lf_c10 : isOne (ex lf_O10 4 1400 true 100000 0 lwF) = true := by decide +kernel
theorem lf_o10 {σ : Nat → Int32} (hc : ((σ 2).toUInt32 % 65536).toInt32 = σ 4) (h : σ 0 &&& 63 = 2) (h0 : ¬ σ 1 < 0) (h1 : 9999 < σ 1) : rOr lf_O10 σ := ⟨List.forall_mem_cons.mpr ⟨iff_of_false h0 (by decide), List.forall_mem_cons.mpr ⟨iff_of_true h1 rfl, fun _ h => absurd h List.not_mem_nil⟩⟩, Or.inr h, hc⟩
def lf_O11 : rO := ([((false, .inr (false, 1), .inl (.int 0)), false), ((false, .inl (.int 9999), .inr (false, 1)), false), ((false, .inr (false, 2), .inl (.int 0)), true)], 2)
theorem lf_c11 : isOne (ex lf_O11 4 1400 true 100000 0 lwF) = true := by decide +kernel
theorem lf_o11 {σ : Nat → Int32} (hc : ((σ 2).toUInt32 % 65536).toInt32 = σ 4) (h : σ 0 &&& 63 = 2) (h0 : ¬ σ 1 < 0) (h1 : ¬ 9999 < σ 1) (h2 : σ 2 < 0) : rOr lf_O11 σ := ⟨List.forall_mem_cons.mpr ⟨iff_of_false h0 (by decide), List.forall_mem_cons.mpr ⟨iff_of_false h1 (by decide), List.forall_mem_cons.mpr ⟨iff_of_true h2 rfl, fun _ h => absurd h List.not_mem_nil⟩⟩⟩, Or.inr h, hc⟩
def lf_O12 : rO := ([((false, .inr (false, 1), .inl (.int 0)), false), ((false, .inl (.int 9999), .inr (false, 1)), false), ((false, .inr (false, 2), .inl (.int 0)), false), ((false, .inl (.int 9999), .inr (false, 2)), true)], 2)
theorem lf_c12 : isOne (ex lf_O12 4 1400 true 100000 0 lwF) = true := by decide +kernel
theorem lf_o12 {σ : Nat → Int32} (hc : ((σ 2).toUInt32 % 65536).toInt32 = σ 4) (h : σ 0 &&& 63 = 2) (h0 : ¬ σ 1 < 0) (h1 : ¬ 9999 < σ 1) (h2 : ¬ σ 2 < 0) (h3 : 9999 < σ 2) : rOr lf_O12 σ := ⟨List.forall_mem_cons.mpr ⟨iff_of_false h0 (by decide), List.forall_mem_cons.mpr ⟨iff_of_false h1 (by decide), List.forall_mem_cons.mpr ⟨iff_of_false h2 (by decide), List.forall_mem_cons.mpr ⟨iff_of_true h3 rfl, fun _ h => absurd h List.not_mem_nil⟩⟩⟩⟩, Or.inr h, hc⟩
def lf_O13 : rO := ([((false, .inr (false, 1), .inl (.int 0)), false), ((false, .inl (.int 9999), .inr (false, 1)), false), ((false, .inr (false, 2), .inl (.int 0)), false), ((false, .inl (.int 9999), .inr (false, 2)), false), ((false, .inl (.int 0), .inr (false, 1)), true)], 2)
theorem lf_c13 : isOne (ex lf_O13 4 1400 true 100000 0 lwF) = true := by decide +kernel
theorem lf_o13 {σ : Nat → Int32} (hc : ((σ 2).toUInt32 % 65536).toInt32 = σ 4) (h : σ 0 &&& 63 = 2) (h0 : ¬ σ 1 < 0) (h1 : ¬ 9999 < σ 1) (h2 : ¬ σ 2 < 0) (h3 : ¬ 9999 < σ 2) (h4 : 0 < σ 1) : rOr lf_O13 σ := ⟨List.forall_mem_cons.mpr ⟨iff_of_false h0 (by decide), List.forall_mem_cons.mpr ⟨iff_of_false h1 (by decide), List.forall_mem_cons.mpr ⟨iff_of_false h2 (by decide), List.forall_mem_cons.mpr ⟨iff_of_false h3 (by decide), List.forall_mem_cons.mpr ⟨iff_of_true h4 rfl, fun _ h => absurd h List.not_mem_nil⟩⟩⟩⟩⟩, Or.inr h, hc⟩
def lf_O14 : rO := ([((false, .inr (false, 1), .inl (.int 0)), false), ((false, .inl (.int 9999), .inr (false, 1)), false), ((false, .inr (false, 2), .inl (.int 0)), false), ((false, .inl (.int 9999), .inr (false, 2)), false), ((false, .inl (.int 0), .inr (false, 1)), false)], 2)
theorem lf_c14 : isOne (ex lf_O14 4 1400 true 100000 0 lwF) = true := by decide +kernel
theorem lf_o14 {σ : Nat → Int32} (hc : ((σ 2).toUInt32 % 65536).toInt32 = σ 4) (h : σ 0 &&& 63 = 2) (h0 : ¬ σ 1 < 0) (h1 : ¬ 9999 < σ 1) (h2 : ¬ σ 2 < 0) (h3 : ¬ 9999 < σ 2) (h4 : ¬ 0 < σ 1) : rOr lf_O14 σ := ⟨List.forall_mem_cons.mpr ⟨iff_of_false h0 (by decide), List.forall_mem_cons.mpr ⟨iff_of_false h1 (by decide), List.forall_mem_cons.mpr ⟨iff_of_false h2 (by decide), List.forall_mem_cons.mpr ⟨iff_of_false h3 (by decide), List.forall_mem_cons.mpr ⟨iff_of_false h4 (by decide), fun _ h => absurd h List.not_mem_nil⟩⟩⟩⟩⟩, Or.inr h, hc⟩
def lf_O15 : rO := ([((false, .inr (false, 1), .inl (.int 1)), true)], 3)
theorem lf_c15 : isOne (ex lf_O15 4 1400 true 100000 0 lwF) = true := by decide +kernel
theorem lf_o15 {σ : Nat → Int32} (hc : ((σ 2).toUInt32 % 65536).toInt32 = σ 4) (h : σ 0 &&& 63 = 3) (h0 : σ 1 < 1) : rOr lf_O15 σ := ⟨List.forall_mem_cons.mpr ⟨iff_of_true h0 rfl, fun _ h => absurd h List.not_mem_nil⟩, Or.inr h, hc⟩
def lf_O16 : rO := ([((false, .inr (false, 1), .inl (.int 1)), false), ((false, .inl (.int 99), .inr (false, 1)), true)], 3)
theorem lf_c16 : isOne (ex lf_O16 4 1400 true 100000 0 lwF) = true := by decide +kernel
theorem lf_o16 {σ : Nat → Int32} (hc : ((σ 2).toUInt32 % 65536).toInt32 = σ 4) (h : σ 0 &&& 63 = 3) (h0 : ¬ σ 1 < 1) (h1 : 99 < σ 1) : rOr lf_O16 σ := ⟨List.forall_mem_cons.mpr ⟨iff_of_false h0 (by decide), List.forall_mem_cons.mpr ⟨iff_of_true h1 rfl, fun _ h => absurd h List.not_mem_nil⟩⟩, Or.inr h, hc⟩
def lf_O17 : rO := ([((false, .inr (false, 1), .inl (.int 1)), false), ((false, .inl (.int 99), .inr (false, 1)), false)], 3)
theorem lf_c17 : isOne (ex lf_O17 4 1400 true 100000 0 lwF) = true := by decide +kernel
theorem lf_o17 {σ : Nat → Int32} (hc : ((σ 2).toUInt32 % 65536).toInt32 = σ 4) (h : σ 0 &&& 63 = 3) (h0 : ¬ σ 1 < 1) (h1 : ¬ 99 < σ 1) : rOr lf_O17 σ := ⟨List.forall_mem_cons.mpr ⟨iff_of_false h0 (by decide), List.forall_mem_cons.mpr ⟨iff_of_false h1 (by decide), fun _ h => absurd h List.not_mem_nil⟩⟩, Or.inr h, hc⟩
def lf_O18 : rO := ([((false, .inr (false, 1), .inl (.int 0)), true)], 4)
theorem lf_c18 : isOne (ex lf_O18 4 1400 true 100000 0 lwF) = true := by decide +kernel
theorem lf_o18 {σ : Nat → Int32} (hc : ((σ 2).toUInt32 % 65536).toInt32 = σ 4) (h : σ 0 &&& 63 = 4) (h0 : σ 1 < 0) : rOr lf_O18 σ := ⟨List.forall_mem_cons.mpr ⟨iff_of_true h0 rfl, fun _ h => absurd h List.not_mem_nil⟩, Or.inr h, hc⟩
def lf_O19 : rO := ([((false, .inr (false, 1), .inl (.int 0)), false), ((false, .inl (.int (-1)), .inr (false, 1)), true)], 4)
theorem lf_c19 : isOne (ex lf_O19 4 1400 true 100000 0 lwF) = true := by decide +kernel
theorem lf_o19 {σ : Nat → Int32} (hc : ((σ 2).toUInt32 % 65536).toInt32 = σ 4) (h : σ 0 &&& 63 = 4) (h0 : ¬ σ 1 < 0) : rOr lf_O19 σ := ⟨List.forall_mem_cons.mpr ⟨iff_of_false h0 (by decide), List.forall_mem_cons.mpr ⟨iff_of_true (show (-1) < σ 1 by
    simp only [Int32.lt_iff_toInt_lt, ← Int32.toInt_inj] at *
    have e0 : ((-1) : Int32).toInt = -1 := rfl
    have e1 : (0 : Int32).toInt = 0 := rfl
    omega) rfl, fun _ h => absurd h List.not_mem_nil⟩⟩, Or.inr h, hc⟩
def lf_O20 : rO := ([((false, .inr (false, 1), .inl (.int 0)), true)], 5)
theorem lf_c20 : isOne (ex lf_O20 4 1400 true 100000 0 lwF) = true := by decide +kernel
theorem lf_o20 {σ : Nat → Int32} (hc : ((σ 2).toUInt32 % 65536).toInt32 = σ 4) (h : σ 0 &&& 63 = 5) (h0 : σ 1 < 0) : rOr lf_O20 σ := ⟨List.forall_mem_cons.mpr ⟨iff_of_true h0 rfl, fun _ h => absurd h List.not_mem_nil⟩, Or.inr h, hc⟩
def lf_O21 : rO := ([((false, .inr (false, 1), .inl (.int 0)), false), ((false, .inl (.int (-1)), .inr (false, 1)), true)], 5)
theorem lf_c21 : isOne (ex lf_O21 4 1400 true 100000 0 lwF) = true := by decide +kernel
theorem lf_o21 {σ : Nat → Int32} (hc : ((σ 2).toUInt32 % 65536).toInt32 = σ 4) (h : σ 0 &&& 63 = 5) (h0 : ¬ σ 1 < 0) : rOr lf_O21 σ := ⟨List.forall_mem_cons.mpr ⟨iff_of_false h0 (by decide), List.forall_mem_cons.mpr ⟨iff_of_true (show (-1) < σ 1 by
    simp only [Int32.lt_iff_toInt_lt, ← Int32.toInt_inj] at *
    have e0 : ((-1) : Int32).toInt = -1 := rfl
    have e1 : (0 : Int32).toInt = 0 := rfl
    omega) rfl, fun _ h => absurd h List.not_mem_nil⟩⟩, Or.inr h, hc⟩
def lf_O22 : rO := ([((false, .inr (false, 1), .inl (.int 0)), true)], 6)
theorem lf_c22 : isOne (ex lf_O22 4 1400 true 100000 0 lwF) = true := by decide +kernel
theorem lf_o22 {σ : Nat → Int32} (hc : ((σ 2).toUInt32 % 65536).toInt32 = σ 4) (h : σ 0 &&& 63 = 6) (h0 : σ 1 < 0) : rOr lf_O22 σ := ⟨List.forall_mem_cons.mpr ⟨iff_of_true h0 rfl, fun _ h => absurd h List.not_mem_nil⟩, Or.inr h, hc⟩
def lf_O23 : rO := ([((false, .inr (false, 1), .inl (.int 0)), false), ((false, .inl (.int (-1)), .inr (false, 1)), true)], 6)
theorem lf_c23 : isOne (ex lf_O23 4 1400 true 100000 0 lwF) = true := by decide +kernel
theorem lf_o23 {σ : Nat → Int32} (hc : ((σ 2).toUInt32 % 65536).toInt32 = σ 4) (h : σ 0 &&& 63 = 6) (h0 : ¬ σ 1 < 0) : rOr lf_O23 σ := ⟨List.forall_mem_cons.mpr ⟨iff_of_false h0 (by decide), List.forall_mem_cons.mpr ⟨iff_of_true (show (-1) < σ 1 by
    simp only [Int32.lt_iff_toInt_lt, ← Int32.toInt_inj] at *
    have e0 : ((-1) : Int32).toInt = -1 := rfl
    have e1 : (0 : Int32).toInt = 0 := rfl
    omega) rfl, fun _ h => absurd h List.not_mem_nil⟩⟩, Or.inr h, hc⟩
def lf_O24 : rO := ([((true, .inr (false, 3), .inl (.int 0)), true), ((false, .inr (false, 1), .inl (.int 0)), true)], 7)
theorem lf_c24 : isOne (ex lf_O24 4 1400 true 100000 0 lwF) = true := by decide +kernel
theorem lf_o24 {σ : Nat → Int32} (hc : ((σ 2).toUInt32 % 65536).toInt32 = σ 4) (h : σ 0 &&& 63 = 7) (h0 : σ 3 = 0) (h1 : σ 1 < 0) : rOr lf_O24 σ := ⟨List.forall_mem_cons.mpr ⟨iff_of_true h0 rfl, List.forall_mem_cons.mpr ⟨iff_of_true h1 rfl, fun _ h => absurd h List.not_mem_nil⟩⟩, Or.inr h, hc⟩
def lf_O25 : rO := ([((true, .inr (false, 3), .inl (.int 0)), true), ((false, .inr (false, 1), .inl (.int 0)), false), ((false, .inl (.int (-1)), .inr (false, 1)), true)], 7)
theorem lf_c25 : isOne (ex lf_O25 4 1400 true 100000 0 lwF) = true := by decide +kernel
theorem lf_o25 {σ : Nat → Int32} (hc : ((σ 2).toUInt32 % 65536).toInt32 = σ 4) (h : σ 0 &&& 63 = 7) (h0 : σ 3 = 0) (h1 : ¬ σ 1 < 0) : rOr lf_O25 σ := ⟨List.forall_mem_cons.mpr ⟨iff_of_true h0 rfl, List.forall_mem_cons.mpr ⟨iff_of_false h1 (by decide), List.forall_mem_cons.mpr ⟨iff_of_true (show (-1) < σ 1 by
    simp only [Int32.lt_iff_toInt_lt, ← Int32.toInt_inj] at *
    have e0 : ((-1) : Int32).toInt = -1 := rfl
    have e1 : (0 : Int32).toInt = 0 := rfl
    omega) rfl, fun _ h => absurd h List.not_mem_nil⟩⟩⟩, Or.inr h, hc⟩
def lf_O26 : rO := ([((true, .inr (false, 3), .inl (.int 0)), false), ((false, .inr (false, 1), .inl (.int 0)), true)], 7)
theorem lf_c26 : isOne (ex lf_O26 4 1400 true 100000 0 lwF) = true := by decide +kernel
theorem lf_o26 {σ : Nat → Int32} (hc : ((σ 2).toUInt32 % 65536).toInt32 = σ 4) (h : σ 0 &&& 63 = 7) (h0 : ¬ σ 3 = 0) (h1 : σ 1 < 0) : rOr lf_O26 σ := ⟨List.forall_mem_cons.mpr ⟨iff_of_false h0 (by decide), List.forall_mem_cons.mpr ⟨iff_of_true h1 rfl, fun _ h => absurd h List.not_mem_nil⟩⟩, Or.inr h, hc⟩
def lf_O27 : rO := ([((true, .inr (false, 3), .inl (.int 0)), false), ((false, .inr (false, 1), .inl (.int 0)), false), ((false, .inl (.int (-1)), .inr (false, 1)), true)], 7)
theorem lf_c27 : isOne (ex lf_O27 4 1400 true 100000 0 lwF) = true := by decide +kernel
theorem lf_o27 {σ : Nat → Int32} (hc : ((σ 2).toUInt32 % 65536).toInt32 = σ 4) (h : σ 0 &&& 63 = 7) (h0 : ¬ σ 3 = 0) (h1 : ¬ σ 1 < 0) : rOr lf_O27 σ := ⟨List.forall_mem_cons.mpr ⟨iff_of_false h0 (by decide), List.forall_mem_cons.mpr ⟨iff_of_false h1 (by decide), List.forall_mem_cons.mpr ⟨iff_of_true (show (-1) < σ 1 by
    simp only [Int32.lt_iff_toInt_lt, ← Int32.toInt_inj] at *
    have e0 : ((-1) : Int32).toInt = -1 := rfl
    have e1 : (0 : Int32).toInt = 0 := rfl
    omega) rfl, fun _ h => absurd h List.not_mem_nil⟩⟩⟩, Or.inr h, hc⟩
def lf_O28 : rO := ([((false, .inr (false, 1), .inl (.int 0)), true)], 8)
theorem lf_c28 : isOne (ex lf_O28 4 1400 true 100000 0 lwF) = true := by decide +kernel
theorem lf_o28 {σ : Nat → Int32} (hc : ((σ 2).toUInt32 % 65536).toInt32 = σ 4) (h : σ 0 &&& 63 = 8) (h0 : σ 1 < 0) : rOr lf_O28 σ := ⟨List.forall_mem_cons.mpr ⟨iff_of_true h0 rfl, fun _ h => absurd h List.not_mem_nil⟩, Or.inr h, hc⟩
def lf_O29 : rO := ([((false, .inr (false, 1), .inl (.int 0)), false), ((false, .inl (.int 1), .inr (false, 1)), true)], 8)
theorem lf_c29 : isOne (ex lf_O29 4 1400 true 100000 0 lwF) = true := by decide +kernel
theorem lf_o29 {σ : Nat → Int32} (hc : ((σ 2).toUInt32 % 65536).toInt32 = σ 4) (h : σ 0 &&& 63 = 8) (h0 : ¬ σ 1 < 0) (h1 : 1 < σ 1) : rOr lf_O29 σ := ⟨List.forall_mem_cons.mpr ⟨iff_of_false h0 (by decide), List.forall_mem_cons.mpr ⟨iff_of_true h1 rfl, fun _ h => absurd h List.not_mem_nil⟩⟩, Or.inr h, hc⟩
