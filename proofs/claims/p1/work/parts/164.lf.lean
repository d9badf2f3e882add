def lf_O90 : rO := ([], 36)
theorem lf_c90 : isOne (ex lf_O90 4 1400 true 100000 0 lwF) = true := by decide +kernel
theorem lf_o90 {σ : Nat → Int32} (hc : ((σ 2).toUInt32 % 65536).toInt32 = σ 4) (h : σ 0 &&& 63 = 36)  : rOr lf_O90 σ := ⟨fun _ h => absurd h List.not_mem_nil, Or.inr h, hc⟩
def lf_O91 : rO := ([], 37)
theorem lf_c91 : isOne (ex lf_O91 4 1400 true 100000 0 lwF) = true := by decide +kernel
theorem lf_o91 {σ : Nat → Int32} (hc : ((σ 2).toUInt32 % 65536).toInt32 = σ 4) (h : σ 0 &&& 63 = 37)  : rOr lf_O91 σ := ⟨fun _ h => absurd h List.not_mem_nil, Or.inr h, hc⟩
def lf_O92 : rO := ([], 38)
theorem lf_c92 : isOne (ex lf_O92 4 1400 true 100000 0 lwF) = true := by decide +kernel
theorem lf_o92 {σ : Nat → Int32} (hc : ((σ 2).toUInt32 % 65536).toInt32 = σ 4) (h : σ 0 &&& 63 = 38)  : rOr lf_O92 σ := ⟨fun _ h => absurd h List.not_mem_nil, Or.inr h, hc⟩
def lf_O93 : rO := ([], 39)
theorem lf_c93 : isOne (ex lf_O93 4 1400 true 100000 0 lwF) = true := by decide +kernel
theorem lf_o93 {σ : Nat → Int32} (hc : ((σ 2).toUInt32 % 65536).toInt32 = σ 4) (h : σ 0 &&& 63 = 39)  : rOr lf_O93 σ := ⟨fun _ h => absurd h List.not_mem_nil, Or.inr h, hc⟩
def lf_O94 : rO := ([], 40)
theorem lf_c94 : isOne (ex lf_O94 4 1400 true 100000 0 lwF) = true := by decide +kernel
theorem lf_o94 {σ : Nat → Int32} (hc : ((σ 2).toUInt32 % 65536).toInt32 = σ 4) (h : σ 0 &&& 63 = 40)  : rOr lf_O94 σ := ⟨fun _ h => absurd h List.not_mem_nil, Or.inr h, hc⟩
def lf_O95 : rO := ([], 41)
theorem lf_c95 : isOne (ex lf_O95 4 1400 true 100000 0 lwF) = true := by decide +kernel
theorem lf_o95 {σ : Nat → Int32} (hc : ((σ 2).toUInt32 % 65536).toInt32 = σ 4) (h : σ 0 &&& 63 = 41)  : rOr lf_O95 σ := ⟨fun _ h => absurd h List.not_mem_nil, Or.inr h, hc⟩
def lf_O96 : rO := ([], 42)
theorem lf_c96 : isOne (ex lf_O96 4 1400 true 100000 0 lwF) = true := by decide +kernel
theorem lf_o96 {σ : Nat → Int32} (hc : ((σ 2).toUInt32 % 65536).toInt32 = σ 4) (h : σ 0 &&& 63 = 42)  : rOr lf_O96 σ := ⟨fun _ h => absurd h List.not_mem_nil, Or.inr h, hc⟩
def lf_O97 : rO := ([], 43)
theorem lf_c97 : isOne (ex lf_O97 4 1400 true 100000 0 lwF) = true := by decide +kernel
theorem lf_o97 {σ : Nat → Int32} (hc : ((σ 2).toUInt32 % 65536).toInt32 = σ 4) (h : σ 0 &&& 63 = 43)  : rOr lf_O97 σ := ⟨fun _ h => absurd h List.not_mem_nil, Or.inr h, hc⟩
def lf_O98 : rO := ([], 44)
theorem lf_c98 : isOne (ex lf_O98 4 1400 true 100000 0 lwF) = true := by decide +kernel
theorem lf_o98 {σ : Nat → Int32} (hc : ((σ 2).toUInt32 % 65536).toInt32 = σ 4) (h : σ 0 &&& 63 = 44)  : rOr lf_O98 σ := ⟨fun _ h => absurd h List.not_mem_nil, Or.inr h, hc⟩
def lf_O99 : rO := ([], 45)
theorem lf_c99 : isOne (ex lf_O99 4 1400 true 100000 0 lwF) = true := by decide +kernel
theorem lf_o99 {σ : Nat → Int32} (hc : ((σ 2).toUInt32 % 65536).toInt32 = σ 4) (h : σ 0 &&& 63 = 45)  : rOr lf_O99 σ := ⟨fun _ h => absurd h List.not_mem_nil, Or.inr h, hc⟩
def lf_O100 : rO := ([], 46)
theorem lf_c100 : isOne (ex lf_O100 4 1400 true 100000 0 lwF) = true := by decide +kernel
theorem lf_o100 {σ : Nat → Int32} (hc : ((σ 2).toUInt32 % 65536).toInt32 = σ 4) (h : σ 0 &&& 63 = 46)  : rOr lf_O100 σ := ⟨fun _ h => absurd h List.not_mem_nil, Or.inr h, hc⟩
def lf_O101 : rO := ([], 47)
theorem lf_c101 : isOne (ex lf_O101 4 1400 true 100000 0 lwF) = true := by decide +kernel
theorem lf_o101 {σ : Nat → Int32} (hc : ((σ 2).toUInt32 % 65536).toInt32 = σ 4) (h : σ 0 &&& 63 = 47)  : rOr lf_O101 σ := ⟨fun _ h => absurd h List.not_mem_nil, Or.inr h, hc⟩
def lf_O102 : rO := ([], 48)
theorem lf_c102 : isOne (ex lf_O102 4 1400 true 100000 0 lwF) = true := by decide +kernel
theorem lf_o102 {σ : Nat → Int32} (hc : ((σ 2).toUInt32 % 65536).toInt32 = σ 4) (h : σ 0 &&& 63 = 48)  : rOr lf_O102 σ := ⟨fun _ h => absurd h List.not_mem_nil, Or.inr h, hc⟩
def lf_O103 : rO := ([], 49)
theorem lf_c103 : isOne (ex lf_O103 4 1400 true 100000 0 lwF) = true := by decide +kernel
theorem lf_o103 {σ : Nat → Int32} (hc : ((σ 2).toUInt32 % 65536).toInt32 = σ 4) (h : σ 0 &&& 63 = 49)  : rOr lf_O103 σ := ⟨fun _ h => absurd h List.not_mem_nil, Or.inr h, hc⟩
def lf_O104 : rO := ([], 50)
theorem lf_c104 : isOne (ex lf_O104 4 1400 true 100000 0 lwF) = true := by decide +kernel
theorem lf_o104 {σ : Nat → Int32} (hc : ((σ 2).toUInt32 % 65536).toInt32 = σ 4) (h : σ 0 &&& 63 = 50)  : rOr lf_O104 σ := ⟨fun _ h => absurd h List.not_mem_nil, Or.inr h, hc⟩
def lf_O105 : rO := ([], 51)
theorem lf_c105 : isOne (ex lf_O105 4 1400 true 100000 0 lwF) = true := by decide +kernel
theorem lf_o105 {σ : Nat → Int32} (hc : ((σ 2).toUInt32 % 65536).toInt32 = σ 4) (h : σ 0 &&& 63 = 51)  : rOr lf_O105 σ := ⟨fun _ h => absurd h List.not_mem_nil, Or.inr h, hc⟩
def lf_O106 : rO := ([], 52)
theorem lf_c106 : isOne (ex lf_O106 4 1400 true 100000 0 lwF) = true := by decide +kernel
theorem lf_o106 {σ : Nat → Int32} (hc : ((σ 2).toUInt32 % 65536).toInt32 = σ 4) (h : σ 0 &&& 63 = 52)  : rOr lf_O106 σ := ⟨fun _ h => absurd h List.not_mem_nil, Or.inr h, hc⟩
def lf_O107 : rO := ([], 53)
theorem lf_c107 : isOne (ex lf_O107 4 1400 true 100000 0 lwF) = true := by decide +kernel
theorem lf_o107 {σ : Nat → Int32} (hc : ((σ 2).toUInt32 % 65536).toInt32 = σ 4) (h : σ 0 &&& 63 = 53)  : rOr lf_O107 σ := ⟨fun _ h => absurd h List.not_mem_nil, Or.inr h, hc⟩
def lf_O108 : rO := ([], 54)
theorem lf_c108 : isOne (ex lf_O108 4 1400 true 100000 0 lwF) = true := by decide +kernel
theorem lf_o108 {σ : Nat → Int32} (hc : ((σ 2).toUInt32 % 65536).toInt32 = σ 4) (h : σ 0 &&& 63 = 54)  : rOr lf_O108 σ := ⟨fun _ h => absurd h List.not_mem_nil, Or.inr h, hc⟩
def lf_O109 : rO := ([], 55)
theorem lf_c109 : isOne (ex lf_O109 4 1400 true 100000 0 lwF) = true := by decide +kernel
theorem lf_o109 {σ : Nat → Int32} (hc : ((σ 2).toUInt32 % 65536).toInt32 = σ 4) (h : σ 0 &&& 63 = 55)  : rOr lf_O109 σ := ⟨fun _ h => absurd h List.not_mem_nil, Or.inr h, hc⟩
def lf_O110 : rO := ([], 56)
theorem lf_c110 : isOne (ex lf_O110 4 1400 true 100000 0 lwF) = true := by decide +kernel
theorem lf_o110 {σ : Nat → Int32} (hc : ((σ 2).toUInt32 % 65536).toInt32 = σ 4) (h : σ 0 &&& 63 = 56)  : rOr lf_O110 σ := ⟨fun _ h => absurd h List.not_mem_nil, Or.inr h, hc⟩
def lf_O111 : rO := ([], 57)
theorem lf_c111 : isOne (ex lf_O111 4 1400 true 100000 0 lwF) = true := by decide +kernel
theorem lf_o111 {σ : Nat → Int32} (hc : ((σ 2).toUInt32 % 65536).toInt32 = σ 4) (h : σ 0 &&& 63 = 57)  : rOr lf_O111 σ := ⟨fun _ h => absurd h List.not_mem_nil, Or.inr h, hc⟩
def lf_O112 : rO := ([], 58)
theorem lf_c112 : isOne (ex lf_O112 4 1400 true 100000 0 lwF) = true := by decide +kernel
theorem lf_o112 {σ : Nat → Int32} (hc : ((σ 2).toUInt32 % 65536).toInt32 = σ 4) (h : σ 0 &&& 63 = 58)  : rOr lf_O112 σ := ⟨fun _ h => absurd h List.not_mem_nil, Or.inr h, hc⟩
def lf_O113 : rO := ([], 59)
theorem lf_c113 : isOne (ex lf_O113 4 1400 true 100000 0 lwF) = true := by decide +kernel
theorem lf_o113 {σ : Nat → Int32} (hc : ((σ 2).toUInt32 % 65536).toInt32 = σ 4) (h : σ 0 &&& 63 = 59)  : rOr lf_O113 σ := ⟨fun _ h => absurd h List.not_mem_nil, Or.inr h, hc⟩
def lf_O114 : rO := ([], 60)
theorem lf_c114 : isOne (ex lf_O114 4 1400 true 100000 0 lwF) = true := by decide +kernel
theorem lf_o114 {σ : Nat → Int32} (hc : ((σ 2).toUInt32 % 65536).toInt32 = σ 4) (h : σ 0 &&& 63 = 60)  : rOr lf_O114 σ := ⟨fun _ h => absurd h List.not_mem_nil, Or.inr h, hc⟩
def lf_O115 : rO := ([], 61)
theorem lf_c115 : isOne (ex lf_O115 4 1400 true 100000 0 lwF) = true := by decide +kernel
theorem lf_o115 {σ : Nat → Int32} (hc : ((σ 2).toUInt32 % 65536).toInt32 = σ 4) (h : σ 0 &&& 63 = 61)  : rOr lf_O115 σ := ⟨fun _ h => absurd h List.not_mem_nil, Or.inr h, hc⟩
def lf_O116 : rO := ([], 62)
theorem lf_c116 : isOne (ex lf_O116 4 1400 true 100000 0 lwF) = true := by decide +kernel
theorem lf_o116 {σ : Nat → Int32} (hc : ((σ 2).toUInt32 % 65536).toInt32 = σ 4) (h : σ 0 &&& 63 = 62)  : rOr lf_O116 σ := ⟨fun _ h => absurd h List.not_mem_nil, Or.inr h, hc⟩
def lf_O117 : rO := ([], 63)
theorem lf_c117 : isOne (ex lf_O117 4 1400 true 100000 0 lwF) = true := by decide +kernel
theorem lf_o117 {σ : Nat → Int32} (hc : ((σ 2).toUInt32 % 65536).toInt32 = σ 4) (h : σ 0 &&& 63 = 63)  : rOr lf_O117 σ := ⟨fun _ h => absurd h List.not_mem_nil, Or.inr h, hc⟩
