def lf_O60 : rO := ([((false, .inr (false, 1), .inl (.int 0)), false), ((false, .inl (.int (-1)), .inr (false, 1)), true)], 21)
theorem lf_c60 : isOne (ex lf_O60 4 1400 true 100000 0 lwF) = true := by decide +kernel
theorem lf_o60 {σ : Nat → Int32} (hc : ((σ 2).toUInt32 % 65536).toInt32 = σ 4) (h : σ 0 &&& 63 = 21) (h0 : ¬ σ 1 < 0) : rOr lf_O60 σ := ⟨List.forall_mem_cons.mpr ⟨iff_of_false h0 (by decide), List.forall_mem_cons.mpr ⟨iff_of_true (show (-1) < σ 1 by
    simp only [Int32.lt_iff_toInt_lt, ← Int32.toInt_inj] at *
    have e0 : ((-1) : Int32).toInt = -1 := rfl
    have e1 : (0 : Int32).toInt = 0 := rfl
    omega) rfl, fun _ h => absurd h List.not_mem_nil⟩⟩, Or.inr h, hc⟩
def lf_O61 : rO := ([((false, .inr (false, 1), .inl (.int 0)), true)], 22)
theorem lf_c61 : isOne (ex lf_O61 4 1400 true 100000 0 lwF) = true := by decide +kernel
theorem lf_o61 {σ : Nat → Int32} (hc : ((σ 2).toUInt32 % 65536).toInt32 = σ 4) (h : σ 0 &&& 63 = 22) (h0 : σ 1 < 0) : rOr lf_O61 σ := ⟨List.forall_mem_cons.mpr ⟨iff_of_true h0 rfl, fun _ h => absurd h List.not_mem_nil⟩, Or.inr h, hc⟩
def lf_O62 : rO := ([((false, .inr (false, 1), .inl (.int 0)), false), ((false, .inl (.int (-1)), .inr (false, 1)), true)], 22)
theorem lf_c62 : isOne (ex lf_O62 4 1400 true 100000 0 lwF) = true := by decide +kernel
theorem lf_o62 {σ : Nat → Int32} (hc : ((σ 2).toUInt32 % 65536).toInt32 = σ 4) (h : σ 0 &&& 63 = 22) (h0 : ¬ σ 1 < 0) : rOr lf_O62 σ := ⟨List.forall_mem_cons.mpr ⟨iff_of_false h0 (by decide), List.forall_mem_cons.mpr ⟨iff_of_true (show (-1) < σ 1 by
    simp only [Int32.lt_iff_toInt_lt, ← Int32.toInt_inj] at *
    have e0 : ((-1) : Int32).toInt = -1 := rfl
    have e1 : (0 : Int32).toInt = 0 := rfl
    omega) rfl, fun _ h => absurd h List.not_mem_nil⟩⟩, Or.inr h, hc⟩
def lf_O63 : rO := ([((true, .inr (false, 2), .inl (.int 0)), true), ((false, .inr (false, 1), .inl (.int 0)), true)], 23)
theorem lf_c63 : isOne (ex lf_O63 4 1400 true 100000 0 lwF) = true := by decide +kernel
theorem lf_o63 {σ : Nat → Int32} (hc : ((σ 2).toUInt32 % 65536).toInt32 = σ 4) (h : σ 0 &&& 63 = 23) (h0 : σ 2 = 0) (h1 : σ 1 < 0) : rOr lf_O63 σ := ⟨List.forall_mem_cons.mpr ⟨iff_of_true h0 rfl, List.forall_mem_cons.mpr ⟨iff_of_true h1 rfl, fun _ h => absurd h List.not_mem_nil⟩⟩, Or.inr h, hc⟩
def lf_O64 : rO := ([((true, .inr (false, 2), .inl (.int 0)), true), ((false, .inr (false, 1), .inl (.int 0)), false), ((false, .inl (.int (-1)), .inr (false, 1)), true)], 23)
theorem lf_c64 : isOne (ex lf_O64 4 1400 true 100000 0 lwF) = true := by decide +kernel
theorem lf_o64 {σ : Nat → Int32} (hc : ((σ 2).toUInt32 % 65536).toInt32 = σ 4) (h : σ 0 &&& 63 = 23) (h0 : σ 2 = 0) (h1 : ¬ σ 1 < 0) : rOr lf_O64 σ := ⟨List.forall_mem_cons.mpr ⟨iff_of_true h0 rfl, List.forall_mem_cons.mpr ⟨iff_of_false h1 (by decide), List.forall_mem_cons.mpr ⟨iff_of_true (show (-1) < σ 1 by
    simp only [Int32.lt_iff_toInt_lt, ← Int32.toInt_inj] at *
    have e0 : ((-1) : Int32).toInt = -1 := rfl
    have e1 : (0 : Int32).toInt = 0 := rfl
    omega) rfl, fun _ h => absurd h List.not_mem_nil⟩⟩⟩, Or.inr h, hc⟩
def lf_O65 : rO := ([((true, .inr (false, 2), .inl (.int 0)), false), ((false, .inr (false, 1), .inl (.int 0)), true)], 23)
theorem lf_c65 : isOne (ex lf_O65 4 1400 true 100000 0 lwF) = true := by decide +kernel
theorem lf_o65 {σ : Nat → Int32} (hc : ((σ 2).toUInt32 % 65536).toInt32 = σ 4) (h : σ 0 &&& 63 = 23) (h0 : ¬ σ 2 = 0) (h1 : σ 1 < 0) : rOr lf_O65 σ := ⟨List.forall_mem_cons.mpr ⟨iff_of_false h0 (by decide), List.forall_mem_cons.mpr ⟨iff_of_true h1 rfl, fun _ h => absurd h List.not_mem_nil⟩⟩, Or.inr h, hc⟩
def lf_O66 : rO := ([((true, .inr (false, 2), .inl (.int 0)), false), ((false, .inr (false, 1), .inl (.int 0)), false), ((false, .inl (.int (-1)), .inr (false, 1)), true)], 23)
theorem lf_c66 : isOne (ex lf_O66 4 1400 true 100000 0 lwF) = true := by decide +kernel
theorem lf_o66 {σ : Nat → Int32} (hc : ((σ 2).toUInt32 % 65536).toInt32 = σ 4) (h : σ 0 &&& 63 = 23) (h0 : ¬ σ 2 = 0) (h1 : ¬ σ 1 < 0) : rOr lf_O66 σ := ⟨List.forall_mem_cons.mpr ⟨iff_of_false h0 (by decide), List.forall_mem_cons.mpr ⟨iff_of_false h1 (by decide), List.forall_mem_cons.mpr ⟨iff_of_true (show (-1) < σ 1 by
    simp only [Int32.lt_iff_toInt_lt, ← Int32.toInt_inj] at *
    have e0 : ((-1) : Int32).toInt = -1 := rfl
    have e1 : (0 : Int32).toInt = 0 := rfl
    omega) rfl, fun _ h => absurd h List.not_mem_nil⟩⟩⟩, Or.inr h, hc⟩
def lf_O67 : rO := ([((false, .inr (false, 1), .inl (.int 0)), true)], 24)
theorem lf_c67 : isOne (ex lf_O67 4 1400 true 100000 0 lwF) = true := by decide +kernel
theorem lf_o67 {σ : Nat → Int32} (hc : ((σ 2).toUInt32 % 65536).toInt32 = σ 4) (h : σ 0 &&& 63 = 24) (h0 : σ 1 < 0) : rOr lf_O67 σ := ⟨List.forall_mem_cons.mpr ⟨iff_of_true h0 rfl, fun _ h => absurd h List.not_mem_nil⟩, Or.inr h, hc⟩
def lf_O68 : rO := ([((false, .inr (false, 1), .inl (.int 0)), false), ((false, .inl (.int (-1)), .inr (false, 1)), true)], 24)
theorem lf_c68 : isOne (ex lf_O68 4 1400 true 100000 0 lwF) = true := by decide +kernel
theorem lf_o68 {σ : Nat → Int32} (hc : ((σ 2).toUInt32 % 65536).toInt32 = σ 4) (h : σ 0 &&& 63 = 24) (h0 : ¬ σ 1 < 0) : rOr lf_O68 σ := ⟨List.forall_mem_cons.mpr ⟨iff_of_false h0 (by decide), List.forall_mem_cons.mpr ⟨iff_of_true (show (-1) < σ 1 by
    simp only [Int32.lt_iff_toInt_lt, ← Int32.toInt_inj] at *
    have e0 : ((-1) : Int32).toInt = -1 := rfl
    have e1 : (0 : Int32).toInt = 0 := rfl
    omega) rfl, fun _ h => absurd h List.not_mem_nil⟩⟩, Or.inr h, hc⟩
def lf_O69 : rO := ([((false, .inr (false, 1), .inl (.int 0)), true)], 25)
theorem lf_c69 : isOne (ex lf_O69 4 1400 true 100000 0 lwF) = true := by decide +kernel
theorem lf_o69 {σ : Nat → Int32} (hc : ((σ 2).toUInt32 % 65536).toInt32 = σ 4) (h : σ 0 &&& 63 = 25) (h0 : σ 1 < 0) : rOr lf_O69 σ := ⟨List.forall_mem_cons.mpr ⟨iff_of_true h0 rfl, fun _ h => absurd h List.not_mem_nil⟩, Or.inr h, hc⟩
def lf_O70 : rO := ([((false, .inr (false, 1), .inl (.int 0)), false), ((false, .inl (.int (-1)), .inr (false, 1)), true)], 25)
theorem lf_c70 : isOne (ex lf_O70 4 1400 true 100000 0 lwF) = true := by decide +kernel
theorem lf_o70 {σ : Nat → Int32} (hc : ((σ 2).toUInt32 % 65536).toInt32 = σ 4) (h : σ 0 &&& 63 = 25) (h0 : ¬ σ 1 < 0) : rOr lf_O70 σ := ⟨List.forall_mem_cons.mpr ⟨iff_of_false h0 (by decide), List.forall_mem_cons.mpr ⟨iff_of_true (show (-1) < σ 1 by
    simp only [Int32.lt_iff_toInt_lt, ← Int32.toInt_inj] at *
    have e0 : ((-1) : Int32).toInt = -1 := rfl
    have e1 : (0 : Int32).toInt = 0 := rfl
    omega) rfl, fun _ h => absurd h List.not_mem_nil⟩⟩, Or.inr h, hc⟩
def lf_O71 : rO := ([((true, .inr (false, 2), .inl (.int 0)), true), ((false, .inr (false, 1), .inl (.int 0)), true)], 26)
theorem lf_c71 : isOne (ex lf_O71 4 1400 true 100000 0 lwF) = true := by decide +kernel
theorem lf_o71 {σ : Nat → Int32} (hc : ((σ 2).toUInt32 % 65536).toInt32 = σ 4) (h : σ 0 &&& 63 = 26) (h0 : σ 2 = 0) (h1 : σ 1 < 0) : rOr lf_O71 σ := ⟨List.forall_mem_cons.mpr ⟨iff_of_true h0 rfl, List.forall_mem_cons.mpr ⟨iff_of_true h1 rfl, fun _ h => absurd h List.not_mem_nil⟩⟩, Or.inr h, hc⟩
def lf_O72 : rO := ([((true, .inr (false, 2), .inl (.int 0)), true), ((false, .inr (false, 1), .inl (.int 0)), false), ((false, .inl (.int (-1)), .inr (false, 1)), true)], 26)
theorem lf_c72 : isOne (ex lf_O72 4 1400 true 100000 0 lwF) = true := by decide +kernel
theorem lf_o72 {σ : Nat → Int32} (hc : ((σ 2).toUInt32 % 65536).toInt32 = σ 4) (h : σ 0 &&& 63 = 26) (h0 : σ 2 = 0) (h1 : ¬ σ 1 < 0) : rOr lf_O72 σ := ⟨List.forall_mem_cons.mpr ⟨iff_of_true h0 rfl, List.forall_mem_cons.mpr ⟨iff_of_false h1 (by decide), List.forall_mem_cons.mpr ⟨iff_of_true (show (-1) < σ 1 by
    simp only [Int32.lt_iff_toInt_lt, ← Int32.toInt_inj] at *
    have e0 : ((-1) : Int32).toInt = -1 := rfl
    have e1 : (0 : Int32).toInt = 0 := rfl
    omega) rfl, fun _ h => absurd h List.not_mem_nil⟩⟩⟩, Or.inr h, hc⟩
def lf_O73 : rO := ([((true, .inr (false, 2), .inl (.int 0)), false), ((false, .inr (false, 1), .inl (.int 0)), true)], 26)
theorem lf_c73 : isOne (ex lf_O73 4 1400 true 100000 0 lwF) = true := by decide +kernel
theorem lf_o73 {σ : Nat → Int32} (hc : ((σ 2).toUInt32 % 65536).toInt32 = σ 4) (h : σ 0 &&& 63 = 26) (h0 : ¬ σ 2 = 0) (h1 : σ 1 < 0) : rOr lf_O73 σ := ⟨List.forall_mem_cons.mpr ⟨iff_of_false h0 (by decide), List.forall_mem_cons.mpr ⟨iff_of_true h1 rfl, fun _ h => absurd h List.not_mem_nil⟩⟩, Or.inr h, hc⟩
def lf_O74 : rO := ([((true, .inr (false, 2), .inl (.int 0)), false), ((false, .inr (false, 1), .inl (.int 0)), false), ((false, .inl (.int (-1)), .inr (false, 1)), true)], 26)
theorem lf_c74 : isOne (ex lf_O74 4 1400 true 100000 0 lwF) = true := by decide +kernel
theorem lf_o74 {σ : Nat → Int32} (hc : ((σ 2).toUInt32 % 65536).toInt32 = σ 4) (h : σ 0 &&& 63 = 26) (h0 : ¬ σ 2 = 0) (h1 : ¬ σ 1 < 0) : rOr lf_O74 σ := ⟨List.forall_mem_cons.mpr ⟨iff_of_false h0 (by decide), List.forall_mem_cons.mpr ⟨iff_of_false h1 (by decide), List.forall_mem_cons.mpr ⟨iff_of_true (show (-1) < σ 1 by
    simp only [Int32.lt_iff_toInt_lt, ← Int32.toInt_inj] at *
    have e0 : ((-1) : Int32).toInt = -1 := rfl
    have e1 : (0 : Int32).toInt = 0 := rfl
    omega) rfl, fun _ h => absurd h List.not_mem_nil⟩⟩⟩, Or.inr h, hc⟩
def lf_O75 : rO := ([((false, .inr (false, 1), .inl (.int 0)), true)], 27)
theorem lf_c75 : isOne (ex lf_O75 4 1400 true 100000 0 lwF) = true := by decide +kernel
theorem lf_o75 {σ : Nat → Int32} (hc : ((σ 2).toUInt32 % 65536).toInt32 = σ 4) (h : σ 0 &&& 63 = 27) (h0 : σ 1 < 0) : rOr lf_O75 σ := ⟨List.forall_mem_cons.mpr ⟨iff_of_true h0 rfl, fun _ h => absurd h List.not_mem_nil⟩, Or.inr h, hc⟩
def lf_O76 : rO := ([((false, .inr (false, 1), .inl (.int 0)), false), ((false, .inl (.int 1), .inr (false, 1)), true)], 27)
theorem lf_c76 : isOne (ex lf_O76 4 1400 true 100000 0 lwF) = true := by decide +kernel
theorem lf_o76 {σ : Nat → Int32} (hc : ((σ 2).toUInt32 % 65536).toInt32 = σ 4) (h : σ 0 &&& 63 = 27) (h0 : ¬ σ 1 < 0) (h1 : 1 < σ 1) : rOr lf_O76 σ := ⟨List.forall_mem_cons.mpr ⟨iff_of_false h0 (by decide), List.forall_mem_cons.mpr ⟨iff_of_true h1 rfl, fun _ h => absurd h List.not_mem_nil⟩⟩, Or.inr h, hc⟩
def lf_O77 : rO := ([((false, .inr (false, 1), .inl (.int 0)), false), ((false, .inl (.int 1), .inr (false, 1)), false), ((false, .inr (false, 2), .inl (.int 0)), true)], 27)
theorem lf_c77 : isOne (ex lf_O77 4 1400 true 100000 0 lwF) = true := by decide +kernel
theorem lf_o77 {σ : Nat → Int32} (hc : ((σ 2).toUInt32 % 65536).toInt32 = σ 4) (h : σ 0 &&& 63 = 27) (h0 : ¬ σ 1 < 0) (h1 : ¬ 1 < σ 1) (h2 : σ 2 < 0) : rOr lf_O77 σ := ⟨List.forall_mem_cons.mpr ⟨iff_of_false h0 (by decide), List.forall_mem_cons.mpr ⟨iff_of_false h1 (by decide), List.forall_mem_cons.mpr ⟨iff_of_true h2 rfl, fun _ h => absurd h List.not_mem_nil⟩⟩⟩, Or.inr h, hc⟩
def lf_O78 : rO := ([((false, .inr (false, 1), .inl (.int 0)), false), ((false, .inl (.int 1), .inr (false, 1)), false), ((false, .inr (false, 2), .inl (.int 0)), false), ((false, .inl (.int (-1)), .inr (false, 2)), true)], 27)
theorem lf_c78 : isOne (ex lf_O78 4 1400 true 100000 0 lwF) = true := by decide +kernel
theorem lf_o78 {σ : Nat → Int32} (hc : ((σ 2).toUInt32 % 65536).toInt32 = σ 4) (h : σ 0 &&& 63 = 27) (h0 : ¬ σ 1 < 0) (h1 : ¬ 1 < σ 1) (h2 : ¬ σ 2 < 0) : rOr lf_O78 σ := ⟨List.forall_mem_cons.mpr ⟨iff_of_false h0 (by decide), List.forall_mem_cons.mpr ⟨iff_of_false h1 (by decide), List.forall_mem_cons.mpr ⟨iff_of_false h2 (by decide), List.forall_mem_cons.mpr ⟨iff_of_true (show (-1) < σ 2 by
    simp only [Int32.lt_iff_toInt_lt, ← Int32.toInt_inj] at *
    have e0 : ((-1) : Int32).toInt = -1 := rfl
    have e1 : (0 : Int32).toInt = 0 := rfl
    have e2 : (1 : Int32).toInt = 1 := rfl
    omega) rfl, fun _ h => absurd h List.not_mem_nil⟩⟩⟩⟩, Or.inr h, hc⟩
def lf_O79 : rO := ([((false, .inr (false, 1), .inl (.int 0)), true)], 28)
theorem lf_c79 : isOne (ex lf_O79 4 1400 true 100000 0 lwF) = true := by decide +kernel
theorem lf_o79 {σ : Nat → Int32} (hc : ((σ 2).toUInt32 % 65536).toInt32 = σ 4) (h : σ 0 &&& 63 = 28) (h0 : σ 1 < 0) : rOr lf_O79 σ := ⟨List.forall_mem_cons.mpr ⟨iff_of_true h0 rfl, fun _ h => absurd h List.not_mem_nil⟩, Or.inr h, hc⟩
def lf_O80 : rO := ([((false, .inr (false, 1), .inl (.int 0)), false), ((false, .inl (.int (-1)), .inr (false, 1)), true)], 28)
theorem lf_c80 : isOne (ex lf_O80 4 1400 true 100000 0 lwF) = true := by decide +kernel
theorem lf_o80 {σ : Nat → Int32} (hc : ((σ 2).toUInt32 % 65536).toInt32 = σ 4) (h : σ 0 &&& 63 = 28) (h0 : ¬ σ 1 < 0) : rOr lf_O80 σ := ⟨List.forall_mem_cons.mpr ⟨iff_of_false h0 (by decide), List.forall_mem_cons.mpr ⟨iff_of_true (show (-1) < σ 1 by
    simp only [Int32.lt_iff_toInt_lt, ← Int32.toInt_inj] at *
    have e0 : ((-1) : Int32).toInt = -1 := rfl
    have e1 : (0 : Int32).toInt = 0 := rfl
    omega) rfl, fun _ h => absurd h List.not_mem_nil⟩⟩, Or.inr h, hc⟩
def lf_O81 : rO := ([((false, .inr (false, 1), .inl (.int 0)), true)], 29)
theorem lf_c81 : isOne (ex lf_O81 4 1400 true 100000 0 lwF) = true := by decide +kernel
theorem lf_o81 {σ : Nat → Int32} (hc : ((σ 2).toUInt32 % 65536).toInt32 = σ 4) (h : σ 0 &&& 63 = 29) (h0 : σ 1 < 0) : rOr lf_O81 σ := ⟨List.forall_mem_cons.mpr ⟨iff_of_true h0 rfl, fun _ h => absurd h List.not_mem_nil⟩, Or.inr h, hc⟩
def lf_O82 : rO := ([((false, .inr (false, 1), .inl (.int 0)), false), ((false, .inl (.int (-1)), .inr (false, 1)), true)], 29)
theorem lf_c82 : isOne (ex lf_O82 4 1400 true 100000 0 lwF) = true := by decide +kernel
theorem lf_o82 {σ : Nat → Int32} (hc : ((σ 2).toUInt32 % 65536).toInt32 = σ 4) (h : σ 0 &&& 63 = 29) (h0 : ¬ σ 1 < 0) : rOr lf_O82 σ := ⟨List.forall_mem_cons.mpr ⟨iff_of_false h0 (by decide), List.forall_mem_cons.mpr ⟨iff_of_true (show (-1) < σ 1 by
    simp only [Int32.lt_iff_toInt_lt, ← Int32.toInt_inj] at *
    have e0 : ((-1) : Int32).toInt = -1 := rfl
    have e1 : (0 : Int32).toInt = 0 := rfl
    omega) rfl, fun _ h => absurd h List.not_mem_nil⟩⟩, Or.inr h, hc⟩
def lf_O83 : rO := ([((false, .inr (false, 1), .inl (.int 0)), true)], 30)
theorem lf_c83 : isOne (ex lf_O83 4 1400 true 100000 0 lwF) = true := by decide +kernel
theorem lf_o83 {σ : Nat → Int32} (hc : ((σ 2).toUInt32 % 65536).toInt32 = σ 4) (h : σ 0 &&& 63 = 30) (h0 : σ 1 < 0) : rOr lf_O83 σ := ⟨List.forall_mem_cons.mpr ⟨iff_of_true h0 rfl, fun _ h => absurd h List.not_mem_nil⟩, Or.inr h, hc⟩
def lf_O84 : rO := ([((false, .inr (false, 1), .inl (.int 0)), false), ((false, .inl (.int (-1)), .inr (false, 1)), true)], 30)
theorem lf_c84 : isOne (ex lf_O84 4 1400 true 100000 0 lwF) = true := by decide +kernel
theorem lf_o84 {σ : Nat → Int32} (hc : ((σ 2).toUInt32 % 65536).toInt32 = σ 4) (h : σ 0 &&& 63 = 30) (h0 : ¬ σ 1 < 0) : rOr lf_O84 σ := ⟨List.forall_mem_cons.mpr ⟨iff_of_false h0 (by decide), List.forall_mem_cons.mpr ⟨iff_of_true (show (-1) < σ 1 by
    simp only [Int32.lt_iff_toInt_lt, ← Int32.toInt_inj] at *
    have e0 : ((-1) : Int32).toInt = -1 := rfl
    have e1 : (0 : Int32).toInt = 0 := rfl
    omega) rfl, fun _ h => absurd h List.not_mem_nil⟩⟩, Or.inr h, hc⟩
def lf_O85 : rO := ([], 31)
theorem lf_c85 : isOne (ex lf_O85 4 1400 true 100000 0 lwF) = true := by decide +kernel
theorem lf_o85 {σ : Nat → Int32} (hc : ((σ 2).toUInt32 % 65536).toInt32 = σ 4) (h : σ 0 &&& 63 = 31)  : rOr lf_O85 σ := ⟨fun _ h => absurd h List.not_mem_nil, Or.inr h, hc⟩
def lf_O86 : rO := ([], 32)
theorem lf_c86 : isOne (ex lf_O86 4 1400 true 100000 0 lwF) = true := by decide +kernel
theorem lf_o86 {σ : Nat → Int32} (hc : ((σ 2).toUInt32 % 65536).toInt32 = σ 4) (h : σ 0 &&& 63 = 32)  : rOr lf_O86 σ := ⟨fun _ h => absurd h List.not_mem_nil, Or.inr h, hc⟩
def lf_O87 : rO := ([], 33)
theorem lf_c87 : isOne (ex lf_O87 4 1400 true 100000 0 lwF) = true := by decide +kernel
theorem lf_o87 {σ : Nat → Int32} (hc : ((σ 2).toUInt32 % 65536).toInt32 = σ 4) (h : σ 0 &&& 63 = 33)  : rOr lf_O87 σ := ⟨fun _ h => absurd h List.not_mem_nil, Or.inr h, hc⟩
def lf_O88 : rO := ([], 34)
theorem lf_c88 : isOne (ex lf_O88 4 1400 true 100000 0 lwF) = true := by decide +kernel
theorem lf_o88 {σ : Nat → Int32} (hc : ((σ 2).toUInt32 % 65536).toInt32 = σ 4) (h : σ 0 &&& 63 = 34)  : rOr lf_O88 σ := ⟨fun _ h => absurd h List.not_mem_nil, Or.inr h, hc⟩
def lf_O89 : rO := ([], 35)
theorem lf_c89 : isOne (ex lf_O89 4 1400 true 100000 0 lwF) = true := by decide +kernel
theorem lf_o89 {σ : Nat → Int32} (hc : ((σ 2).toUInt32 % 65536).toInt32 = σ 4) (h : σ 0 &&& 63 = 35)  : rOr lf_O89 σ := ⟨fun _ h => absurd h List.not_mem_nil, Or.inr h, hc⟩
