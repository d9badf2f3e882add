def lf_O30 : rO := ([((false, .inr (false, 1), .inl (.int 0)), false), ((false, .inl (.int 1), .inr (false, 1)), false)], 8)
theorem lf_c30 : isOne (ex lf_O30 4 1400 true 100000 0 lwF) = true := by decide +kernel
theorem lf_o30 {σ : Nat → Int32} (hc : ((σ 2).toUInt32 % 65536).toInt32 = σ 4) (h : σ 0 &&& 63 = 8) (h0 : ¬ σ 1 < 0) (h1 : ¬ 1 < σ 1) : rOr lf_O30 σ := ⟨List.forall_mem_cons.mpr ⟨iff_of_false h0 (by decide), List.forall_mem_cons.mpr ⟨iff_of_false h1 (by decide), fun _ h => absurd h List.not_mem_nil⟩⟩, Or.inr h, hc⟩
def lf_O31 : rO := ([((false, .inr (false, 1), .inl (.int 0)), true)], 9)
theorem lf_c31 : isOne (ex lf_O31 4 1400 true 100000 0 lwF) = true := by decide +kernel
theorem lf_o31 {σ : Nat → Int32} (hc : ((σ 2).toUInt32 % 65536).toInt32 = σ 4) (h : σ 0 &&& 63 = 9) (h0 : σ 1 < 0) : rOr lf_O31 σ := ⟨List.forall_mem_cons.mpr ⟨iff_of_true h0 rfl, fun _ h => absurd h List.not_mem_nil⟩, Or.inr h, hc⟩
def lf_O32 : rO := ([((false, .inr (false, 1), .inl (.int 0)), false), ((false, .inl (.int (-1)), .inr (false, 1)), true)], 9)
theorem lf_c32 : isOne (ex lf_O32 4 1400 true 100000 0 lwF) = true := by decide +kernel
theorem lf_o32 {σ : Nat → Int32} (hc : ((σ 2).toUInt32 % 65536).toInt32 = σ 4) (h : σ 0 &&& 63 = 9) (h0 : ¬ σ 1 < 0) : rOr lf_O32 σ := ⟨List.forall_mem_cons.mpr ⟨iff_of_false h0 (by decide), List.forall_mem_cons.mpr ⟨iff_of_true (show (-1) < σ 1 by
    simp only [Int32.lt_iff_toInt_lt, ← Int32.toInt_inj] at *
    have e0 : ((-1) : Int32).toInt = -1 := rfl
    have e1 : (0 : Int32).toInt = 0 := rfl
    omega) rfl, fun _ h => absurd h List.not_mem_nil⟩⟩, Or.inr h, hc⟩
def lf_O33 : rO := ([((false, .inr (false, 1), .inl (.int 0)), true)], 10)
theorem lf_c33 : isOne (ex lf_O33 4 1400 true 100000 0 lwF) = true := by decide +kernel
theorem lf_o33 {σ : Nat → Int32} (hc : ((σ 2).toUInt32 % 65536).toInt32 = σ 4) (h : σ 0 &&& 63 = 10) (h0 : σ 1 < 0) : rOr lf_O33 σ := ⟨List.forall_mem_cons.mpr ⟨iff_of_true h0 rfl, fun _ h => absurd h List.not_mem_nil⟩, Or.inr h, hc⟩
def lf_O34 : rO := ([((false, .inr (false, 1), .inl (.int 0)), false), ((false, .inl (.int (-1)), .inr (false, 1)), true)], 10)
theorem lf_c34 : isOne (ex lf_O34 4 1400 true 100000 0 lwF) = true := by decide +kernel
theorem lf_o34 {σ : Nat → Int32} (hc : ((σ 2).toUInt32 % 65536).toInt32 = σ 4) (h : σ 0 &&& 63 = 10) (h0 : ¬ σ 1 < 0) : rOr lf_O34 σ := ⟨List.forall_mem_cons.mpr ⟨iff_of_false h0 (by decide), List.forall_mem_cons.mpr ⟨iff_of_true (show (-1) < σ 1 by
    simp only [Int32.lt_iff_toInt_lt, ← Int32.toInt_inj] at *
    have e0 : ((-1) : Int32).toInt = -1 := rfl
    have e1 : (0 : Int32).toInt = 0 := rfl
    omega) rfl, fun _ h => absurd h List.not_mem_nil⟩⟩, Or.inr h, hc⟩
def lf_O35 : rO := ([((false, .inr (false, 1), .inl (.int 0)), true)], 11)
theorem lf_c35 : isOne (ex lf_O35 4 1400 true 100000 0 lwF) = true := by decide +kernel
theorem lf_o35 {σ : Nat → Int32} (hc : ((σ 2).toUInt32 % 65536).toInt32 = σ 4) (h : σ 0 &&& 63 = 11) (h0 : σ 1 < 0) : rOr lf_O35 σ := ⟨List.forall_mem_cons.mpr ⟨iff_of_true h0 rfl, fun _ h => absurd h List.not_mem_nil⟩, Or.inr h, hc⟩
def lf_O36 : rO := ([((false, .inr (false, 1), .inl (.int 0)), false), ((false, .inl (.int (-1)), .inr (false, 1)), true)], 11)
theorem lf_c36 : isOne (ex lf_O36 4 1400 true 100000 0 lwF) = true := by decide +kernel
theorem lf_o36 {σ : Nat → Int32} (hc : ((σ 2).toUInt32 % 65536).toInt32 = σ 4) (h : σ 0 &&& 63 = 11) (h0 : ¬ σ 1 < 0) : rOr lf_O36 σ := ⟨List.forall_mem_cons.mpr ⟨iff_of_false h0 (by decide), List.forall_mem_cons.mpr ⟨iff_of_true (show (-1) < σ 1 by
    simp only [Int32.lt_iff_toInt_lt, ← Int32.toInt_inj] at *
    have e0 : ((-1) : Int32).toInt = -1 := rfl
    have e1 : (0 : Int32).toInt = 0 := rfl
    omega) rfl, fun _ h => absurd h List.not_mem_nil⟩⟩, Or.inr h, hc⟩
def lf_O37 : rO := ([((true, .inr (false, 2), .inl (.int 0)), true), ((false, .inr (false, 1), .inl (.int 0)), true)], 12)
theorem lf_c37 : isOne (ex lf_O37 4 1400 true 100000 0 lwF) = true := by decide +kernel
theorem lf_o37 {σ : Nat → Int32} (hc : ((σ 2).toUInt32 % 65536).toInt32 = σ 4) (h : σ 0 &&& 63 = 12) (h0 : σ 2 = 0) (h1 : σ 1 < 0) : rOr lf_O37 σ := ⟨List.forall_mem_cons.mpr ⟨iff_of_true h0 rfl, List.forall_mem_cons.mpr ⟨iff_of_true h1 rfl, fun _ h => absurd h List.not_mem_nil⟩⟩, Or.inr h, hc⟩
def lf_O38 : rO := ([((true, .inr (false, 2), .inl (.int 0)), true), ((false, .inr (false, 1), .inl (.int 0)), false), ((false, .inl (.int (-1)), .inr (false, 1)), true)], 12)
theorem lf_c38 : isOne (ex lf_O38 4 1400 true 100000 0 lwF) = true := by decide +kernel
theorem lf_o38 {σ : Nat → Int32} (hc : ((σ 2).toUInt32 % 65536).toInt32 = σ 4) (h : σ 0 &&& 63 = 12) (h0 : σ 2 = 0) (h1 : ¬ σ 1 < 0) : rOr lf_O38 σ := ⟨List.forall_mem_cons.mpr ⟨iff_of_true h0 rfl, List.forall_mem_cons.mpr ⟨iff_of_false h1 (by decide), List.forall_mem_cons.mpr ⟨iff_of_true (show (-1) < σ 1 by
    simp only [Int32.lt_iff_toInt_lt, ← Int32.toInt_inj] at *
    have e0 : ((-1) : Int32).toInt = -1 := rfl
    have e1 : (0 : Int32).toInt = 0 := rfl
    omega) rfl, fun _ h => absurd h List.not_mem_nil⟩⟩⟩, Or.inr h, hc⟩
def lf_O39 : rO := ([((true, .inr (false, 2), .inl (.int 0)), false), ((false, .inr (false, 1), .inl (.int 0)), true)], 12)
theorem lf_c39 : isOne (ex lf_O39 4 1400 true 100000 0 lwF) = true := by decide +kernel
theorem lf_o39 {σ : Nat → Int32} (hc : ((σ 2).toUInt32 % 65536).toInt32 = σ 4) (h : σ 0 &&& 63 = 12) (h0 : ¬ σ 2 = 0) (h1 : σ 1 < 0) : rOr lf_O39 σ := ⟨List.forall_mem_cons.mpr ⟨iff_of_false h0 (by decide), List.forall_mem_cons.mpr ⟨iff_of_true h1 rfl, fun _ h => absurd h List.not_mem_nil⟩⟩, Or.inr h, hc⟩
def lf_O40 : rO := ([((true, .inr (false, 2), .inl (.int 0)), false), ((false, .inr (false, 1), .inl (.int 0)), false), ((false, .inl (.int (-1)), .inr (false, 1)), true)], 12)
theorem lf_c40 : isOne (ex lf_O40 4 1400 true 100000 0 lwF) = true := by decide +kernel
theorem lf_o40 {σ : Nat → Int32} (hc : ((σ 2).toUInt32 % 65536).toInt32 = σ 4) (h : σ 0 &&& 63 = 12) (h0 : ¬ σ 2 = 0) (h1 : ¬ σ 1 < 0) : rOr lf_O40 σ := ⟨List.forall_mem_cons.mpr ⟨iff_of_false h0 (by decide), List.forall_mem_cons.mpr ⟨iff_of_false h1 (by decide), List.forall_mem_cons.mpr ⟨iff_of_true (show (-1) < σ 1 by
    simp only [Int32.lt_iff_toInt_lt, ← Int32.toInt_inj] at *
    have e0 : ((-1) : Int32).toInt = -1 := rfl
    have e1 : (0 : Int32).toInt = 0 := rfl
    omega) rfl, fun _ h => absurd h List.not_mem_nil⟩⟩⟩, Or.inr h, hc⟩
def lf_O41 : rO := ([((false, .inr (false, 1), .inl (.int 0)), true)], 13)
theorem lf_c41 : isOne (ex lf_O41 4 1400 true 100000 0 lwF) = true := by decide +kernel
theorem lf_o41 {σ : Nat → Int32} (hc : ((σ 2).toUInt32 % 65536).toInt32 = σ 4) (h : σ 0 &&& 63 = 13) (h0 : σ 1 < 0) : rOr lf_O41 σ := ⟨List.forall_mem_cons.mpr ⟨iff_of_true h0 rfl, fun _ h => absurd h List.not_mem_nil⟩, Or.inr h, hc⟩
def lf_O42 : rO := ([((false, .inr (false, 1), .inl (.int 0)), false), ((false, .inl (.int (-1)), .inr (false, 1)), true)], 13)
theorem lf_c42 : isOne (ex lf_O42 4 1400 true 100000 0 lwF) = true := by decide +kernel
theorem lf_o42 {σ : Nat → Int32} (hc : ((σ 2).toUInt32 % 65536).toInt32 = σ 4) (h : σ 0 &&& 63 = 13) (h0 : ¬ σ 1 < 0) : rOr lf_O42 σ := ⟨List.forall_mem_cons.mpr ⟨iff_of_false h0 (by decide), List.forall_mem_cons.mpr ⟨iff_of_true (show (-1) < σ 1 by
    simp only [Int32.lt_iff_toInt_lt, ← Int32.toInt_inj] at *
    have e0 : ((-1) : Int32).toInt = -1 := rfl
    have e1 : (0 : Int32).toInt = 0 := rfl
    omega) rfl, fun _ h => absurd h List.not_mem_nil⟩⟩, Or.inr h, hc⟩
def lf_O43 : rO := ([((false, .inr (false, 1), .inl (.int 0)), true)], 14)
theorem lf_c43 : isOne (ex lf_O43 4 1400 true 100000 0 lwF) = true := by decide +kernel
theorem lf_o43 {σ : Nat → Int32} (hc : ((σ 2).toUInt32 % 65536).toInt32 = σ 4) (h : σ 0 &&& 63 = 14) (h0 : σ 1 < 0) : rOr lf_O43 σ := ⟨List.forall_mem_cons.mpr ⟨iff_of_true h0 rfl, fun _ h => absurd h List.not_mem_nil⟩, Or.inr h, hc⟩
def lf_O44 : rO := ([((false, .inr (false, 1), .inl (.int 0)), false), ((false, .inl (.int (-1)), .inr (false, 1)), true)], 14)
theorem lf_c44 : isOne (ex lf_O44 4 1400 true 100000 0 lwF) = true := by decide +kernel
theorem lf_o44 {σ : Nat → Int32} (hc : ((σ 2).toUInt32 % 65536).toInt32 = σ 4) (h : σ 0 &&& 63 = 14) (h0 : ¬ σ 1 < 0) : rOr lf_O44 σ := ⟨List.forall_mem_cons.mpr ⟨iff_of_false h0 (by decide), List.forall_mem_cons.mpr ⟨iff_of_true (show (-1) < σ 1 by
    simp only [Int32.lt_iff_toInt_lt, ← Int32.toInt_inj] at *
    have e0 : ((-1) : Int32).toInt = -1 := rfl
    have e1 : (0 : Int32).toInt = 0 := rfl
    omega) rfl, fun _ h => absurd h List.not_mem_nil⟩⟩, Or.inr h, hc⟩
def lf_O45 : rO := ([((true, .inr (false, 2), .inl (.int 0)), true), ((false, .inr (false, 1), .inl (.int 0)), true)], 15)
theorem lf_c45 : isOne (ex lf_O45 4 1400 true 100000 0 lwF) = true := by decide +kernel
theorem lf_o45 {σ : Nat → Int32} (hc : ((σ 2).toUInt32 % 65536).toInt32 = σ 4) (h : σ 0 &&& 63 = 15) (h0 : σ 2 = 0) (h1 : σ 1 < 0) : rOr lf_O45 σ := ⟨List.forall_mem_cons.mpr ⟨iff_of_true h0 rfl, List.forall_mem_cons.mpr ⟨iff_of_true h1 rfl, fun _ h => absurd h List.not_mem_nil⟩⟩, Or.inr h, hc⟩
def lf_O46 : rO := ([((true, .inr (false, 2), .inl (.int 0)), true), ((false, .inr (false, 1), .inl (.int 0)), false), ((false, .inl (.int (-1)), .inr (false, 1)), true)], 15)
theorem lf_c46 : isOne (ex lf_O46 4 1400 true 100000 0 lwF) = true := by decide +kernel
theorem lf_o46 {σ : Nat → Int32} (hc : ((σ 2).toUInt32 % 65536).toInt32 = σ 4) (h : σ 0 &&& 63 = 15) (h0 : σ 2 = 0) (h1 : ¬ σ 1 < 0) : rOr lf_O46 σ := ⟨List.forall_mem_cons.mpr ⟨iff_of_true h0 rfl, List.forall_mem_cons.mpr ⟨iff_of_false h1 (by decide), List.forall_mem_cons.mpr ⟨iff_of_true (show (-1) < σ 1 by
    simp only [Int32.lt_iff_toInt_lt, ← Int32.toInt_inj] at *
    have e0 : ((-1) : Int32).toInt = -1 := rfl
    have e1 : (0 : Int32).toInt = 0 := rfl
    omega) rfl, fun _ h => absurd h List.not_mem_nil⟩⟩⟩, Or.inr h, hc⟩
def lf_O47 : rO := ([((true, .inr (false, 2), .inl (.int 0)), false), ((false, .inr (false, 1), .inl (.int 0)), true)], 15)
theorem lf_c47 : isOne (ex lf_O47 4 1400 true 100000 0 lwF) = true := by decide +kernel
theorem lf_o47 {σ : Nat → Int32} (hc : ((σ 2).toUInt32 % 65536).toInt32 = σ 4) (h : σ 0 &&& 63 = 15) (h0 : ¬ σ 2 = 0) (h1 : σ 1 < 0) : rOr lf_O47 σ := ⟨List.forall_mem_cons.mpr ⟨iff_of_false h0 (by decide), List.forall_mem_cons.mpr ⟨iff_of_true h1 rfl, fun _ h => absurd h List.not_mem_nil⟩⟩, Or.inr h, hc⟩
def lf_O48 : rO := ([((true, .inr (false, 2), .inl (.int 0)), false), ((false, .inr (false, 1), .inl (.int 0)), false), ((false, .inl (.int (-1)), .inr (false, 1)), true)], 15)
theorem lf_c48 : isOne (ex lf_O48 4 1400 true 100000 0 lwF) = true := by decide +kernel
theorem lf_o48 {σ : Nat → Int32} (hc : ((σ 2).toUInt32 % 65536).toInt32 = σ 4) (h : σ 0 &&& 63 = 15) (h0 : ¬ σ 2 = 0) (h1 : ¬ σ 1 < 0) : rOr lf_O48 σ := ⟨List.forall_mem_cons.mpr ⟨iff_of_false h0 (by decide), List.forall_mem_cons.mpr ⟨iff_of_false h1 (by decide), List.forall_mem_cons.mpr ⟨iff_of_true (show (-1) < σ 1 by
    simp only [Int32.lt_iff_toInt_lt, ← Int32.toInt_inj] at *
    have e0 : ((-1) : Int32).toInt = -1 := rfl
    have e1 : (0 : Int32).toInt = 0 := rfl
    omega) rfl, fun _ h => absurd h List.not_mem_nil⟩⟩⟩, Or.inr h, hc⟩
def lf_O49 : rO := ([((false, .inr (false, 1), .inl (.int 0)), true)], 16)
theorem lf_c49 : isOne (ex lf_O49 4 1400 true 100000 0 lwF) = true := by decide +kernel
theorem lf_o49 {σ : Nat → Int32} (hc : ((σ 2).toUInt32 % 65536).toInt32 = σ 4) (h : σ 0 &&& 63 = 16) (h0 : σ 1 < 0) : rOr lf_O49 σ := ⟨List.forall_mem_cons.mpr ⟨iff_of_true h0 rfl, fun _ h => absurd h List.not_mem_nil⟩, Or.inr h, hc⟩
def lf_O50 : rO := ([((false, .inr (false, 1), .inl (.int 0)), false), ((false, .inl (.int (-1)), .inr (false, 1)), true)], 16)
theorem lf_c50 : isOne (ex lf_O50 4 1400 true 100000 0 lwF) = true := by decide +kernel
theorem lf_o50 {σ : Nat → Int32} (hc : ((σ 2).toUInt32 % 65536).toInt32 = σ 4) (h : σ 0 &&& 63 = 16) (h0 : ¬ σ 1 < 0) : rOr lf_O50 σ := ⟨List.forall_mem_cons.mpr ⟨iff_of_false h0 (by decide), List.forall_mem_cons.mpr ⟨iff_of_true (show (-1) < σ 1 by
    simp only [Int32.lt_iff_toInt_lt, ← Int32.toInt_inj] at *
    have e0 : ((-1) : Int32).toInt = -1 := rfl
    have e1 : (0 : Int32).toInt = 0 := rfl
    omega) rfl, fun _ h => absurd h List.not_mem_nil⟩⟩, Or.inr h, hc⟩
def lf_O51 : rO := ([], 17)
theorem lf_c51 : isOne (ex lf_O51 4 1400 true 100000 0 lwF) = true := by decide +kernel
theorem lf_o51 {σ : Nat → Int32} (hc : ((σ 2).toUInt32 % 65536).toInt32 = σ 4) (h : σ 0 &&& 63 = 17)  : rOr lf_O51 σ := ⟨fun _ h => absurd h List.not_mem_nil, Or.inr h, hc⟩
def lf_O52 : rO := ([((true, .inr (false, 1), .inl (.int 0)), true)], 18)
theorem lf_c52 : isOne (ex lf_O52 4 1400 true 100000 0 lwF) = true := by decide +kernel
theorem lf_o52 {σ : Nat → Int32} (hc : ((σ 2).toUInt32 % 65536).toInt32 = σ 4) (h : σ 0 &&& 63 = 18) (h0 : σ 1 = 0) : rOr lf_O52 σ := ⟨List.forall_mem_cons.mpr ⟨iff_of_true h0 rfl, fun _ h => absurd h List.not_mem_nil⟩, Or.inr h, hc⟩
def lf_O53 : rO := ([((true, .inr (false, 1), .inl (.int 0)), false)], 18)
theorem lf_c53 : isOne (ex lf_O53 4 1400 true 100000 0 lwF) = true := by decide +kernel
theorem lf_o53 {σ : Nat → Int32} (hc : ((σ 2).toUInt32 % 65536).toInt32 = σ 4) (h : σ 0 &&& 63 = 18) (h0 : ¬ σ 1 = 0) : rOr lf_O53 σ := ⟨List.forall_mem_cons.mpr ⟨iff_of_false h0 (by decide), fun _ h => absurd h List.not_mem_nil⟩, Or.inr h, hc⟩
def lf_O54 : rO := ([((true, .inr (false, 2), .inl (.int 0)), true), ((false, .inr (false, 1), .inl (.int 0)), true)], 19)
theorem lf_c54 : isOne (ex lf_O54 4 1400 true 100000 0 lwF) = true := by decide +kernel
theorem lf_o54 {σ : Nat → Int32} (hc : ((σ 2).toUInt32 % 65536).toInt32 = σ 4) (h : σ 0 &&& 63 = 19) (h0 : σ 2 = 0) (h1 : σ 1 < 0) : rOr lf_O54 σ := ⟨List.forall_mem_cons.mpr ⟨iff_of_true h0 rfl, List.forall_mem_cons.mpr ⟨iff_of_true h1 rfl, fun _ h => absurd h List.not_mem_nil⟩⟩, Or.inr h, hc⟩
def lf_O55 : rO := ([((true, .inr (false, 2), .inl (.int 0)), true), ((false, .inr (false, 1), .inl (.int 0)), false), ((false, .inl (.int (-1)), .inr (false, 1)), true)], 19)
theorem lf_c55 : isOne (ex lf_O55 4 1400 true 100000 0 lwF) = true := by decide +kernel
theorem lf_o55 {σ : Nat → Int32} (hc : ((σ 2).toUInt32 % 65536).toInt32 = σ 4) (h : σ 0 &&& 63 = 19) (h0 : σ 2 = 0) (h1 : ¬ σ 1 < 0) : rOr lf_O55 σ := ⟨List.forall_mem_cons.mpr ⟨iff_of_true h0 rfl, List.forall_mem_cons.mpr ⟨iff_of_false h1 (by decide), List.forall_mem_cons.mpr ⟨iff_of_true (show (-1) < σ 1 by
    simp only [Int32.lt_iff_toInt_lt, ← Int32.toInt_inj] at *
    have e0 : ((-1) : Int32).toInt = -1 := rfl
    have e1 : (0 : Int32).toInt = 0 := rfl
    omega) rfl, fun _ h => absurd h List.not_mem_nil⟩⟩⟩, Or.inr h, hc⟩
def lf_O56 : rO := ([((true, .inr (false, 2), .inl (.int 0)), false), ((false, .inr (false, 1), .inl (.int 0)), true)], 19)
theorem lf_c56 : isOne (ex lf_O56 4 1400 true 100000 0 lwF) = true := by decide +kernel
theorem lf_o56 {σ : Nat → Int32} (hc : ((σ 2).toUInt32 % 65536).toInt32 = σ 4) (h : σ 0 &&& 63 = 19) (h0 : ¬ σ 2 = 0) (h1 : σ 1 < 0) : rOr lf_O56 σ := ⟨List.forall_mem_cons.mpr ⟨iff_of_false h0 (by decide), List.forall_mem_cons.mpr ⟨iff_of_true h1 rfl, fun _ h => absurd h List.not_mem_nil⟩⟩, Or.inr h, hc⟩
def lf_O57 : rO := ([((true, .inr (false, 2), .inl (.int 0)), false), ((false, .inr (false, 1), .inl (.int 0)), false), ((false, .inl (.int (-1)), .inr (false, 1)), true)], 19)
theorem lf_c57 : isOne (ex lf_O57 4 1400 true 100000 0 lwF) = true := by decide +kernel
theorem lf_o57 {σ : Nat → Int32} (hc : ((σ 2).toUInt32 % 65536).toInt32 = σ 4) (h : σ 0 &&& 63 = 19) (h0 : ¬ σ 2 = 0) (h1 : ¬ σ 1 < 0) : rOr lf_O57 σ := ⟨List.forall_mem_cons.mpr ⟨iff_of_false h0 (by decide), List.forall_mem_cons.mpr ⟨iff_of_false h1 (by decide), List.forall_mem_cons.mpr ⟨iff_of_true (show (-1) < σ 1 by
    simp only [Int32.lt_iff_toInt_lt, ← Int32.toInt_inj] at *
    have e0 : ((-1) : Int32).toInt = -1 := rfl
    have e1 : (0 : Int32).toInt = 0 := rfl
    omega) rfl, fun _ h => absurd h List.not_mem_nil⟩⟩⟩, Or.inr h, hc⟩
def lf_O58 : rO := ([], 20)
theorem lf_c58 : isOne (ex lf_O58 4 1400 true 100000 0 lwF) = true := by decide +kernel
theorem lf_o58 {σ : Nat → Int32} (hc : ((σ 2).toUInt32 % 65536).toInt32 = σ 4) (h : σ 0 &&& 63 = 20)  : rOr lf_O58 σ := ⟨fun _ h => absurd h List.not_mem_nil, Or.inr h, hc⟩
def lf_O59 : rO := ([((false, .inr (false, 1), .inl (.int 0)), true)], 21)
theorem lf_c59 : isOne (ex lf_O59 4 1400 true 100000 0 lwF) = true := by decide +kernel
theorem lf_o59 {σ : Nat → Int32} (hc : ((σ 2).toUInt32 % 65536).toInt32 = σ 4) (h : σ 0 &&& 63 = 21) (h0 : σ 1 < 0) : rOr lf_O59 σ := ⟨List.forall_mem_cons.mpr ⟨iff_of_true h0 rfl, fun _ h => absurd h List.not_mem_nil⟩, Or.inr h, hc⟩
