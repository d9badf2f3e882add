theorem sw_0 {G : Prop} {σ : Nat → Int32} (K : ∀ O : rO, rOr O σ → isOne (ex O 4 1400 true 100000 0 lwF) = true → G) (hc : ((σ 2).toUInt32 % 65536).toInt32 = σ 4) (h : σ 0 &&& 63 = 0) : G := by
  by_cases h0 : σ 1 < 0
  · exact K lf_O0 (lf_o0 hc h h0) lf_c0
  · by_cases h1 : 1 < σ 1
    · exact K lf_O1 (lf_o1 hc h h0 h1) lf_c1
    · by_cases h2 : σ 2 < 0
      · exact K lf_O2 (lf_o2 hc h h0 h1 h2) lf_c2
      · by_cases h3 : 7 < σ 2
        · exact K lf_O3 (lf_o3 hc h h0 h1 h2 h3) lf_c3
        · by_cases h4 : σ 3 < 0
          · exact K lf_O4 (lf_o4 hc h h0 h1 h2 h3 h4) lf_c4
          · by_cases h5 : 3 < σ 3
            · exact K lf_O5 (lf_o5 hc h h0 h1 h2 h3 h4 h5) lf_c5
            · exact K lf_O6 (lf_o6 hc h h0 h1 h2 h3 h4 h5) lf_c6
theorem sw_1 {G : Prop} {σ : Nat → Int32} (K : ∀ O : rO, rOr O σ → isOne (ex O 4 1400 true 100000 0 lwF) = true → G) (hc : ((σ 2).toUInt32 % 65536).toInt32 = σ 4) (h : σ 0 &&& 63 = 1) : G := by
  by_cases h0 : σ 1 < 0
  · exact K lf_O7 (lf_o7 hc h h0) lf_c7
  · exact K lf_O8 (lf_o8 hc h h0) lf_c8
theorem sw_2 {G : Prop} {σ : Nat → Int32} (K : ∀ O : rO, rOr O σ → isOne (ex O 4 1400 true 100000 0 lwF) = true → G) (hc : ((σ 2).toUInt32 % 65536).toInt32 = σ 4) (h : σ 0 &&& 63 = 2) : G := by
  by_cases h0 : σ 1 < 0
  · exact K lf_O9 (lf_o9 hc h h0) lf_c9
  · by_cases h1 : 9999 < σ 1
    · exact K lf_O10 (lf_o10 hc h h0 h1) lf_c10
    · by_cases h2 : σ 2 < 0
      · exact K lf_O11 (lf_o11 hc h h0 h1 h2) lf_c11
      · by_cases h3 : 9999 < σ 2
        · exact K lf_O12 (lf_o12 hc h h0 h1 h2 h3) lf_c12
        · by_cases h4 : 0 < σ 1
          · exact K lf_O13 (lf_o13 hc h h0 h1 h2 h3 h4) lf_c13
          · exact K lf_O14 (lf_o14 hc h h0 h1 h2 h3 h4) lf_c14
theorem sw_3 {G : Prop} {σ : Nat → Int32} (K : ∀ O : rO, rOr O σ → isOne (ex O 4 1400 true 100000 0 lwF) = true → G) (hc : ((σ 2).toUInt32 % 65536).toInt32 = σ 4) (h : σ 0 &&& 63 = 3) : G := by
  by_cases h0 : σ 1 < 1
  · exact K lf_O15 (lf_o15 hc h h0) lf_c15
  · by_cases h1 : 99 < σ 1
    · exact K lf_O16 (lf_o16 hc h h0 h1) lf_c16
    · exact K lf_O17 (lf_o17 hc h h0 h1) lf_c17
theorem sw_4 {G : Prop} {σ : Nat → Int32} (K : ∀ O : rO, rOr O σ → isOne (ex O 4 1400 true 100000 0 lwF) = true → G) (hc : ((σ 2).toUInt32 % 65536).toInt32 = σ 4) (h : σ 0 &&& 63 = 4) : G := by
  by_cases h0 : σ 1 < 0
  · exact K lf_O18 (lf_o18 hc h h0) lf_c18
  · exact K lf_O19 (lf_o19 hc h h0) lf_c19
theorem sw_5 {G : Prop} {σ : Nat → Int32} (K : ∀ O : rO, rOr O σ → isOne (ex O 4 1400 true 100000 0 lwF) = true → G) (hc : ((σ 2).toUInt32 % 65536).toInt32 = σ 4) (h : σ 0 &&& 63 = 5) : G := by
  by_cases h0 : σ 1 < 0
  · exact K lf_O20 (lf_o20 hc h h0) lf_c20
  · exact K lf_O21 (lf_o21 hc h h0) lf_c21
theorem sw_6 {G : Prop} {σ : Nat → Int32} (K : ∀ O : rO, rOr O σ → isOne (ex O 4 1400 true 100000 0 lwF) = true → G) (hc : ((σ 2).toUInt32 % 65536).toInt32 = σ 4) (h : σ 0 &&& 63 = 6) : G := by
  by_cases h0 : σ 1 < 0
  · exact K lf_O22 (lf_o22 hc h h0) lf_c22
  · exact K lf_O23 (lf_o23 hc h h0) lf_c23
theorem sw_7 {G : Prop} {σ : Nat → Int32} (K : ∀ O : rO, rOr O σ → isOne (ex O 4 1400 true 100000 0 lwF) = true → G) (hc : ((σ 2).toUInt32 % 65536).toInt32 = σ 4) (h : σ 0 &&& 63 = 7) : G := by
  by_cases h0 : σ 3 = 0
  · by_cases h1 : σ 1 < 0
    · exact K lf_O24 (lf_o24 hc h h0 h1) lf_c24
    · exact K lf_O25 (lf_o25 hc h h0 h1) lf_c25
  · by_cases h1 : σ 1 < 0
    · exact K lf_O26 (lf_o26 hc h h0 h1) lf_c26
    · exact K lf_O27 (lf_o27 hc h h0 h1) lf_c27
theorem sw_8 {G : Prop} {σ : Nat → Int32} (K : ∀ O : rO, rOr O σ → isOne (ex O 4 1400 true 100000 0 lwF) = true → G) (hc : ((σ 2).toUInt32 % 65536).toInt32 = σ 4) (h : σ 0 &&& 63 = 8) : G := by
  by_cases h0 : σ 1 < 0
  · exact K lf_O28 (lf_o28 hc h h0) lf_c28
  · by_cases h1 : 1 < σ 1
    · exact K lf_O29 (lf_o29 hc h h0 h1) lf_c29
    · exact K lf_O30 (lf_o30 hc h h0 h1) lf_c30
theorem sw_9 {G : Prop} {σ : Nat → Int32} (K : ∀ O : rO, rOr O σ → isOne (ex O 4 1400 true 100000 0 lwF) = true → G) (hc : ((σ 2).toUInt32 % 65536).toInt32 = σ 4) (h : σ 0 &&& 63 = 9) : G := by
  by_cases h0 : σ 1 < 0
  · exact K lf_O31 (lf_o31 hc h h0) lf_c31
  · exact K lf_O32 (lf_o32 hc h h0) lf_c32
theorem sw_10 {G : Prop} {σ : Nat → Int32} (K : ∀ O : rO, rOr O σ → isOne (ex O 4 1400 true 100000 0 lwF) = true → G) (hc : ((σ 2).toUInt32 % 65536).toInt32 = σ 4) (h : σ 0 &&& 63 = 10) : G := by
  by_cases h0 : σ 1 < 0
  · exact K lf_O33 (lf_o33 hc h h0) lf_c33
  · exact K lf_O34 (lf_o34 hc h h0) lf_c34
theorem sw_11 {G : Prop} {σ : Nat → Int32} (K : ∀ O : rO, rOr O σ → isOne (ex O 4 1400 true 100000 0 lwF) = true → G) (hc : ((σ 2).toUInt32 % 65536).toInt32 = σ 4) (h : σ 0 &&& 63 = 11) : G := by
  by_cases h0 : σ 1 < 0
  · exact K lf_O35 (lf_o35 hc h h0) lf_c35
  · exact K lf_O36 (lf_o36 hc h h0) lf_c36
theorem sw_12 {G : Prop} {σ : Nat → Int32} (K : ∀ O : rO, rOr O σ → isOne (ex O 4 1400 true 100000 0 lwF) = true → G) (hc : ((σ 2).toUInt32 % 65536).toInt32 = σ 4) (h : σ 0 &&& 63 = 12) : G := by
  by_cases h0 : σ 2 = 0
  · by_cases h1 : σ 1 < 0
    · exact K lf_O37 (lf_o37 hc h h0 h1) lf_c37
    · exact K lf_O38 (lf_o38 hc h h0 h1) lf_c38
  · by_cases h1 : σ 1 < 0
    · exact K lf_O39 (lf_o39 hc h h0 h1) lf_c39
    · exact K lf_O40 (lf_o40 hc h h0 h1) lf_c40
theorem sw_13 {G : Prop} {σ : Nat → Int32} (K : ∀ O : rO, rOr O σ → isOne (ex O 4 1400 true 100000 0 lwF) = true → G) (hc : ((σ 2).toUInt32 % 65536).toInt32 = σ 4) (h : σ 0 &&& 63 = 13) : G := by
  by_cases h0 : σ 1 < 0
  · exact K lf_O41 (lf_o41 hc h h0) lf_c41
  · exact K lf_O42 (lf_o42 hc h h0) lf_c42
theorem sw_14 {G : Prop} {σ : Nat → Int32} (K : ∀ O : rO, rOr O σ → isOne (ex O 4 1400 true 100000 0 lwF) = true → G) (hc : ((σ 2).toUInt32 % 65536).toInt32 = σ 4) (h : σ 0 &&& 63 = 14) : G := by
  by_cases h0 : σ 1 < 0
  · exact K lf_O43 (lf_o43 hc h h0) lf_c43
  · exact K lf_O44 (lf_o44 hc h h0) lf_c44
theorem sw_15 {G : Prop} {σ : Nat → Int32} (K : ∀ O : rO, rOr O σ → isOne (ex O 4 1400 true 100000 0 lwF) = true → G) (hc : ((σ 2).toUInt32 % 65536).toInt32 = σ 4) (h : σ 0 &&& 63 = 15) : G := by
  by_cases h0 : σ 2 = 0
  · by_cases h1 : σ 1 < 0
    · exact K lf_O45 (lf_o45 hc h h0 h1) lf_c45
    · exact K lf_O46 (lf_o46 hc h h0 h1) lf_c46
  · by_cases h1 : σ 1 < 0
    · exact K lf_O47 (lf_o47 hc h h0 h1) lf_c47
    · exact K lf_O48 (lf_o48 hc h h0 h1) lf_c48
theorem sw_16 {G : Prop} {σ : Nat → Int32} (K : ∀ O : rO, rOr O σ → isOne (ex O 4 1400 true 100000 0 lwF) = true → G) (hc : ((σ 2).toUInt32 % 65536).toInt32 = σ 4) (h : σ 0 &&& 63 = 16) : G := by
  by_cases h0 : σ 1 < 0
  · exact K lf_O49 (lf_o49 hc h h0) lf_c49
  · exact K lf_O50 (lf_o50 hc h h0) lf_c50
theorem sw_17 {G : Prop} {σ : Nat → Int32} (K : ∀ O : rO, rOr O σ → isOne (ex O 4 1400 true 100000 0 lwF) = true → G) (hc : ((σ 2).toUInt32 % 65536).toInt32 = σ 4) (h : σ 0 &&& 63 = 17) : G := by
  exact K lf_O51 (lf_o51 hc h ) lf_c51
theorem sw_18 {G : Prop} {σ : Nat → Int32} (K : ∀ O : rO, rOr O σ → isOne (ex O 4 1400 true 100000 0 lwF) = true → G) (hc : ((σ 2).toUInt32 % 65536).toInt32 = σ 4) (h : σ 0 &&& 63 = 18) : G := by
  by_cases h0 : σ 1 = 0
  · exact K lf_O52 (lf_o52 hc h h0) lf_c52
  · exact K lf_O53 (lf_o53 hc h h0) lf_c53
theorem sw_19 {G : Prop} {σ : Nat → Int32} (K : ∀ O : rO, rOr O σ → isOne (ex O 4 1400 true 100000 0 lwF) = true → G) (hc : ((σ 2).toUInt32 % 65536).toInt32 = σ 4) (h : σ 0 &&& 63 = 19) : G := by
  by_cases h0 : σ 2 = 0
  · by_cases h1 : σ 1 < 0
    · exact K lf_O54 (lf_o54 hc h h0 h1) lf_c54
    · exact K lf_O55 (lf_o55 hc h h0 h1) lf_c55
  · by_cases h1 : σ 1 < 0
    · exact K lf_O56 (lf_o56 hc h h0 h1) lf_c56
    · exact K lf_O57 (lf_o57 hc h h0 h1) lf_c57
theorem sw_20 {G : Prop} {σ : Nat → Int32} (K : ∀ O : rO, rOr O σ → isOne (ex O 4 1400 true 100000 0 lwF) = true → G) (hc : ((σ 2).toUInt32 % 65536).toInt32 = σ 4) (h : σ 0 &&& 63 = 20) : G := by
  exact K lf_O58 (lf_o58 hc h ) lf_c58
theorem sw_21 {G : Prop} {σ : Nat → Int32} (K : ∀ O : rO, rOr O σ → isOne (ex O 4 1400 true 100000 0 lwF) = true → G) (hc : ((σ 2).toUInt32 % 65536).toInt32 = σ 4) (h : σ 0 &&& 63 = 21) : G := by
  by_cases h0 : σ 1 < 0
  · exact K lf_O59 (lf_o59 hc h h0) lf_c59
  · exact K lf_O60 (lf_o60 hc h h0) lf_c60
theorem sw_22 {G : Prop} {σ : Nat → Int32} (K : ∀ O : rO, rOr O σ → isOne (ex O 4 1400 true 100000 0 lwF) = true → G) (hc : ((σ 2).toUInt32 % 65536).toInt32 = σ 4) (h : σ 0 &&& 63 = 22) : G := by
  by_cases h0 : σ 1 < 0
  · exact K lf_O61 (lf_o61 hc h h0) lf_c61
  · exact K lf_O62 (lf_o62 hc h h0) lf_c62
theorem sw_23 {G : Prop} {σ : Nat → Int32} (K : ∀ O : rO, rOr O σ → isOne (ex O 4 1400 true 100000 0 lwF) = true → G) (hc : ((σ 2).toUInt32 % 65536).toInt32 = σ 4) (h : σ 0 &&& 63 = 23) : G := by
  by_cases h0 : σ 2 = 0
  · by_cases h1 : σ 1 < 0
    · exact K lf_O63 (lf_o63 hc h h0 h1) lf_c63
    · exact K lf_O64 (lf_o64 hc h h0 h1) lf_c64
  · by_cases h1 : σ 1 < 0
    · exact K lf_O65 (lf_o65 hc h h0 h1) lf_c65
    · exact K lf_O66 (lf_o66 hc h h0 h1) lf_c66
theorem sw_24 {G : Prop} {σ : Nat → Int32} (K : ∀ O : rO, rOr O σ → isOne (ex O 4 1400 true 100000 0 lwF) = true → G) (hc : ((σ 2).toUInt32 % 65536).toInt32 = σ 4) (h : σ 0 &&& 63 = 24) : G := by
  by_cases h0 : σ 1 < 0
  · exact K lf_O67 (lf_o67 hc h h0) lf_c67
  · exact K lf_O68 (lf_o68 hc h h0) lf_c68
theorem sw_25 {G : Prop} {σ : Nat → Int32} (K : ∀ O : rO, rOr O σ → isOne (ex O 4 1400 true 100000 0 lwF) = true → G) (hc : ((σ 2).toUInt32 % 65536).toInt32 = σ 4) (h : σ 0 &&& 63 = 25) : G := by
  by_cases h0 : σ 1 < 0
  · exact K lf_O69 (lf_o69 hc h h0) lf_c69
  · exact K lf_O70 (lf_o70 hc h h0) lf_c70
theorem sw_26 {G : Prop} {σ : Nat → Int32} (K : ∀ O : rO, rOr O σ → isOne (ex O 4 1400 true 100000 0 lwF) = true → G) (hc : ((σ 2).toUInt32 % 65536).toInt32 = σ 4) (h : σ 0 &&& 63 = 26) : G := by
  by_cases h0 : σ 2 = 0
  · by_cases h1 : σ 1 < 0
    · exact K lf_O71 (lf_o71 hc h h0 h1) lf_c71
    · exact K lf_O72 (lf_o72 hc h h0 h1) lf_c72
  · by_cases h1 : σ 1 < 0
    · exact K lf_O73 (lf_o73 hc h h0 h1) lf_c73
    · exact K lf_O74 (lf_o74 hc h h0 h1) lf_c74
theorem sw_27 {G : Prop} {σ : Nat → Int32} (K : ∀ O : rO, rOr O σ → isOne (ex O 4 1400 true 100000 0 lwF) = true → G) (hc : ((σ 2).toUInt32 % 65536).toInt32 = σ 4) (h : σ 0 &&& 63 = 27) : G := by
  by_cases h0 : σ 1 < 0
  · exact K lf_O75 (lf_o75 hc h h0) lf_c75
  · by_cases h1 : 1 < σ 1
    · exact K lf_O76 (lf_o76 hc h h0 h1) lf_c76
    · by_cases h2 : σ 2 < 0
      · exact K lf_O77 (lf_o77 hc h h0 h1 h2) lf_c77
      · exact K lf_O78 (lf_o78 hc h h0 h1 h2) lf_c78
theorem sw_28 {G : Prop} {σ : Nat → Int32} (K : ∀ O : rO, rOr O σ → isOne (ex O 4 1400 true 100000 0 lwF) = true → G) (hc : ((σ 2).toUInt32 % 65536).toInt32 = σ 4) (h : σ 0 &&& 63 = 28) : G := by
  by_cases h0 : σ 1 < 0
  · exact K lf_O79 (lf_o79 hc h h0) lf_c79
  · exact K lf_O80 (lf_o80 hc h h0) lf_c80
theorem sw_29 {G : Prop} {σ : Nat → Int32} (K : ∀ O : rO, rOr O σ → isOne (ex O 4 1400 true 100000 0 lwF) = true → G) (hc : ((σ 2).toUInt32 % 65536).toInt32 = σ 4) (h : σ 0 &&& 63 = 29) : G := by
  by_cases h0 : σ 1 < 0
  · exact K lf_O81 (lf_o81 hc h h0) lf_c81
  · exact K lf_O82 (lf_o82 hc h h0) lf_c82
theorem sw_30 {G : Prop} {σ : Nat → Int32} (K : ∀ O : rO, rOr O σ → isOne (ex O 4 1400 true 100000 0 lwF) = true → G) (hc : ((σ 2).toUInt32 % 65536).toInt32 = σ 4) (h : σ 0 &&& 63 = 30) : G := by
  by_cases h0 : σ 1 < 0
  · exact K lf_O83 (lf_o83 hc h h0) lf_c83
  · exact K lf_O84 (lf_o84 hc h h0) lf_c84
theorem sw_31 {G : Prop} {σ : Nat → Int32} (K : ∀ O : rO, rOr O σ → isOne (ex O 4 1400 true 100000 0 lwF) = true → G) (hc : ((σ 2).toUInt32 % 65536).toInt32 = σ 4) (h : σ 0 &&& 63 = 31) : G := by
  exact K lf_O85 (lf_o85 hc h ) lf_c85
theorem sw_32 {G : Prop} {σ : Nat → Int32} (K : ∀ O : rO, rOr O σ → isOne (ex O 4 1400 true 100000 0 lwF) = true → G) (hc : ((σ 2).toUInt32 % 65536).toInt32 = σ 4) (h : σ 0 &&& 63 = 32) : G := by
  exact K lf_O86 (lf_o86 hc h ) lf_c86
theorem sw_33 {G : Prop} {σ : Nat → Int32} (K : ∀ O : rO, rOr O σ → isOne (ex O 4 1400 true 100000 0 lwF) = true → G) (hc : ((σ 2).toUInt32 % 65536).toInt32 = σ 4) (h : σ 0 &&& 63 = 33) : G := by
  exact K lf_O87 (lf_o87 hc h ) lf_c87
theorem sw_34 {G : Prop} {σ : Nat → Int32} (K : ∀ O : rO, rOr O σ → isOne (ex O 4 1400 true 100000 0 lwF) = true → G) (hc : ((σ 2).toUInt32 % 65536).toInt32 = σ 4) (h : σ 0 &&& 63 = 34) : G := by
  exact K lf_O88 (lf_o88 hc h ) lf_c88
theorem sw_35 {G : Prop} {σ : Nat → Int32} (K : ∀ O : rO, rOr O σ → isOne (ex O 4 1400 true 100000 0 lwF) = true → G) (hc : ((σ 2).toUInt32 % 65536).toInt32 = σ 4) (h : σ 0 &&& 63 = 35) : G := by
  exact K lf_O89 (lf_o89 hc h ) lf_c89
theorem sw_36 {G : Prop} {σ : Nat → Int32} (K : ∀ O : rO, rOr O σ → isOne (ex O 4 1400 true 100000 0 lwF) = true → G) (hc : ((σ 2).toUInt32 % 65536).toInt32 = σ 4) (h : σ 0 &&& 63 = 36) : G := by
  exact K lf_O90 (lf_o90 hc h ) lf_c90
theorem sw_37 {G : Prop} {σ : Nat → Int32} (K : ∀ O : rO, rOr O σ → isOne (ex O 4 1400 true 100000 0 lwF) = true → G) (hc : ((σ 2).toUInt32 % 65536).toInt32 = σ 4) (h : σ 0 &&& 63 = 37) : G := by
  exact K lf_O91 (lf_o91 hc h ) lf_c91
theorem sw_38 {G : Prop} {σ : Nat → Int32} (K : ∀ O : rO, rOr O σ → isOne (ex O 4 1400 true 100000 0 lwF) = true → G) (hc : ((σ 2).toUInt32 % 65536).toInt32 = σ 4) (h : σ 0 &&& 63 = 38) : G := by
  exact K lf_O92 (lf_o92 hc h ) lf_c92
theorem sw_39 {G : Prop} {σ : Nat → Int32} (K : ∀ O : rO, rOr O σ → isOne (ex O 4 1400 true 100000 0 lwF) = true → G) (hc : ((σ 2).toUInt32 % 65536).toInt32 = σ 4) (h : σ 0 &&& 63 = 39) : G := by
  exact K lf_O93 (lf_o93 hc h ) lf_c93
theorem sw_40 {G : Prop} {σ : Nat → Int32} (K : ∀ O : rO, rOr O σ → isOne (ex O 4 1400 true 100000 0 lwF) = true → G) (hc : ((σ 2).toUInt32 % 65536).toInt32 = σ 4) (h : σ 0 &&& 63 = 40) : G := by
  exact K lf_O94 (lf_o94 hc h ) lf_c94
theorem sw_41 {G : Prop} {σ : Nat → Int32} (K : ∀ O : rO, rOr O σ → isOne (ex O 4 1400 true 100000 0 lwF) = true → G) (hc : ((σ 2).toUInt32 % 65536).toInt32 = σ 4) (h : σ 0 &&& 63 = 41) : G := by
  exact K lf_O95 (lf_o95 hc h ) lf_c95
theorem sw_42 {G : Prop} {σ : Nat → Int32} (K : ∀ O : rO, rOr O σ → isOne (ex O 4 1400 true 100000 0 lwF) = true → G) (hc : ((σ 2).toUInt32 % 65536).toInt32 = σ 4) (h : σ 0 &&& 63 = 42) : G := by
  exact K lf_O96 (lf_o96 hc h ) lf_c96
theorem sw_43 {G : Prop} {σ : Nat → Int32} (K : ∀ O : rO, rOr O σ → isOne (ex O 4 1400 true 100000 0 lwF) = true → G) (hc : ((σ 2).toUInt32 % 65536).toInt32 = σ 4) (h : σ 0 &&& 63 = 43) : G := by
  exact K lf_O97 (lf_o97 hc h ) lf_c97
theorem sw_44 {G : Prop} {σ : Nat → Int32} (K : ∀ O : rO, rOr O σ → isOne (ex O 4 1400 true 100000 0 lwF) = true → G) (hc : ((σ 2).toUInt32 % 65536).toInt32 = σ 4) (h : σ 0 &&& 63 = 44) : G := by
  exact K lf_O98 (lf_o98 hc h ) lf_c98
theorem sw_45 {G : Prop} {σ : Nat → Int32} (K : ∀ O : rO, rOr O σ → isOne (ex O 4 1400 true 100000 0 lwF) = true → G) (hc : ((σ 2).toUInt32 % 65536).toInt32 = σ 4) (h : σ 0 &&& 63 = 45) : G := by
  exact K lf_O99 (lf_o99 hc h ) lf_c99
theorem sw_46 {G : Prop} {σ : Nat → Int32} (K : ∀ O : rO, rOr O σ → isOne (ex O 4 1400 true 100000 0 lwF) = true → G) (hc : ((σ 2).toUInt32 % 65536).toInt32 = σ 4) (h : σ 0 &&& 63 = 46) : G := by
  exact K lf_O100 (lf_o100 hc h ) lf_c100
theorem sw_47 {G : Prop} {σ : Nat → Int32} (K : ∀ O : rO, rOr O σ → isOne (ex O 4 1400 true 100000 0 lwF) = true → G) (hc : ((σ 2).toUInt32 % 65536).toInt32 = σ 4) (h : σ 0 &&& 63 = 47) : G := by
  exact K lf_O101 (lf_o101 hc h ) lf_c101
theorem sw_48 {G : Prop} {σ : Nat → Int32} (K : ∀ O : rO, rOr O σ → isOne (ex O 4 1400 true 100000 0 lwF) = true → G) (hc : ((σ 2).toUInt32 % 65536).toInt32 = σ 4) (h : σ 0 &&& 63 = 48) : G := by
  exact K lf_O102 (lf_o102 hc h ) lf_c102
theorem sw_49 {G : Prop} {σ : Nat → Int32} (K : ∀ O : rO, rOr O σ → isOne (ex O 4 1400 true 100000 0 lwF) = true → G) (hc : ((σ 2).toUInt32 % 65536).toInt32 = σ 4) (h : σ 0 &&& 63 = 49) : G := by
  exact K lf_O103 (lf_o103 hc h ) lf_c103
theorem sw_50 {G : Prop} {σ : Nat → Int32} (K : ∀ O : rO, rOr O σ → isOne (ex O 4 1400 true 100000 0 lwF) = true → G) (hc : ((σ 2).toUInt32 % 65536).toInt32 = σ 4) (h : σ 0 &&& 63 = 50) : G := by
  exact K lf_O104 (lf_o104 hc h ) lf_c104
theorem sw_51 {G : Prop} {σ : Nat → Int32} (K : ∀ O : rO, rOr O σ → isOne (ex O 4 1400 true 100000 0 lwF) = true → G) (hc : ((σ 2).toUInt32 % 65536).toInt32 = σ 4) (h : σ 0 &&& 63 = 51) : G := by
  exact K lf_O105 (lf_o105 hc h ) lf_c105
theorem sw_52 {G : Prop} {σ : Nat → Int32} (K : ∀ O : rO, rOr O σ → isOne (ex O 4 1400 true 100000 0 lwF) = true → G) (hc : ((σ 2).toUInt32 % 65536).toInt32 = σ 4) (h : σ 0 &&& 63 = 52) : G := by
  exact K lf_O106 (lf_o106 hc h ) lf_c106
theorem sw_53 {G : Prop} {σ : Nat → Int32} (K : ∀ O : rO, rOr O σ → isOne (ex O 4 1400 true 100000 0 lwF) = true → G) (hc : ((σ 2).toUInt32 % 65536).toInt32 = σ 4) (h : σ 0 &&& 63 = 53) : G := by
  exact K lf_O107 (lf_o107 hc h ) lf_c107
theorem sw_54 {G : Prop} {σ : Nat → Int32} (K : ∀ O : rO, rOr O σ → isOne (ex O 4 1400 true 100000 0 lwF) = true → G) (hc : ((σ 2).toUInt32 % 65536).toInt32 = σ 4) (h : σ 0 &&& 63 = 54) : G := by
  exact K lf_O108 (lf_o108 hc h ) lf_c108
theorem sw_55 {G : Prop} {σ : Nat → Int32} (K : ∀ O : rO, rOr O σ → isOne (ex O 4 1400 true 100000 0 lwF) = true → G) (hc : ((σ 2).toUInt32 % 65536).toInt32 = σ 4) (h : σ 0 &&& 63 = 55) : G := by
  exact K lf_O109 (lf_o109 hc h ) lf_c109
theorem sw_56 {G : Prop} {σ : Nat → Int32} (K : ∀ O : rO, rOr O σ → isOne (ex O 4 1400 true 100000 0 lwF) = true → G) (hc : ((σ 2).toUInt32 % 65536).toInt32 = σ 4) (h : σ 0 &&& 63 = 56) : G := by
  exact K lf_O110 (lf_o110 hc h ) lf_c110
theorem sw_57 {G : Prop} {σ : Nat → Int32} (K : ∀ O : rO, rOr O σ → isOne (ex O 4 1400 true 100000 0 lwF) = true → G) (hc : ((σ 2).toUInt32 % 65536).toInt32 = σ 4) (h : σ 0 &&& 63 = 57) : G := by
  exact K lf_O111 (lf_o111 hc h ) lf_c111
theorem sw_58 {G : Prop} {σ : Nat → Int32} (K : ∀ O : rO, rOr O σ → isOne (ex O 4 1400 true 100000 0 lwF) = true → G) (hc : ((σ 2).toUInt32 % 65536).toInt32 = σ 4) (h : σ 0 &&& 63 = 58) : G := by
  exact K lf_O112 (lf_o112 hc h ) lf_c112
theorem sw_59 {G : Prop} {σ : Nat → Int32} (K : ∀ O : rO, rOr O σ → isOne (ex O 4 1400 true 100000 0 lwF) = true → G) (hc : ((σ 2).toUInt32 % 65536).toInt32 = σ 4) (h : σ 0 &&& 63 = 59) : G := by
  exact K lf_O113 (lf_o113 hc h ) lf_c113
theorem sw_60 {G : Prop} {σ : Nat → Int32} (K : ∀ O : rO, rOr O σ → isOne (ex O 4 1400 true 100000 0 lwF) = true → G) (hc : ((σ 2).toUInt32 % 65536).toInt32 = σ 4) (h : σ 0 &&& 63 = 60) : G := by
  exact K lf_O114 (lf_o114 hc h ) lf_c114
theorem sw_61 {G : Prop} {σ : Nat → Int32} (K : ∀ O : rO, rOr O σ → isOne (ex O 4 1400 true 100000 0 lwF) = true → G) (hc : ((σ 2).toUInt32 % 65536).toInt32 = σ 4) (h : σ 0 &&& 63 = 61) : G := by
  exact K lf_O115 (lf_o115 hc h ) lf_c115
theorem sw_62 {G : Prop} {σ : Nat → Int32} (K : ∀ O : rO, rOr O σ → isOne (ex O 4 1400 true 100000 0 lwF) = true → G) (hc : ((σ 2).toUInt32 % 65536).toInt32 = σ 4) (h : σ 0 &&& 63 = 62) : G := by
  exact K lf_O116 (lf_o116 hc h ) lf_c116
theorem sw_63 {G : Prop} {σ : Nat → Int32} (K : ∀ O : rO, rOr O σ → isOne (ex O 4 1400 true 100000 0 lwF) = true → G) (hc : ((σ 2).toUInt32 % 65536).toInt32 = σ 4) (h : σ 0 &&& 63 = 63) : G := by
  exact K lf_O117 (lf_o117 hc h ) lf_c117
theorem sw_all {G : Prop} {σ : Nat → Int32} (K : ∀ O : rO, rOr O σ → isOne (ex O 4 1400 true 100000 0 lwF) = true → G) (hc : ((σ 2).toUInt32 % 65536).toInt32 = σ 4) : G := by
  obtain ⟨j, hj, h⟩ := pk_andE (σ 0) (m := 63) 6 rfl
  match j, hj, h with
  | 0, _, h => exact sw_0 K hc h
  | 1, _, h => exact sw_1 K hc h
  | 2, _, h => exact sw_2 K hc h
  | 3, _, h => exact sw_3 K hc h
  | 4, _, h => exact sw_4 K hc h
  | 5, _, h => exact sw_5 K hc h
  | 6, _, h => exact sw_6 K hc h
  | 7, _, h => exact sw_7 K hc h
  | 8, _, h => exact sw_8 K hc h
  | 9, _, h => exact sw_9 K hc h
  | 10, _, h => exact sw_10 K hc h
  | 11, _, h => exact sw_11 K hc h
  | 12, _, h => exact sw_12 K hc h
  | 13, _, h => exact sw_13 K hc h
  | 14, _, h => exact sw_14 K hc h
  | 15, _, h => exact sw_15 K hc h
  | 16, _, h => exact sw_16 K hc h
  | 17, _, h => exact sw_17 K hc h
  | 18, _, h => exact sw_18 K hc h
  | 19, _, h => exact sw_19 K hc h
  | 20, _, h => exact sw_20 K hc h
  | 21, _, h => exact sw_21 K hc h
  | 22, _, h => exact sw_22 K hc h
  | 23, _, h => exact sw_23 K hc h
  | 24, _, h => exact sw_24 K hc h
  | 25, _, h => exact sw_25 K hc h
  | 26, _, h => exact sw_26 K hc h
  | 27, _, h => exact sw_27 K hc h
  | 28, _, h => exact sw_28 K hc h
  | 29, _, h => exact sw_29 K hc h
  | 30, _, h => exact sw_30 K hc h
  | 31, _, h => exact sw_31 K hc h
  | 32, _, h => exact sw_32 K hc h
  | 33, _, h => exact sw_33 K hc h
  | 34, _, h => exact sw_34 K hc h
  | 35, _, h => exact sw_35 K hc h
  | 36, _, h => exact sw_36 K hc h
  | 37, _, h => exact sw_37 K hc h
  | 38, _, h => exact sw_38 K hc h
  | 39, _, h => exact sw_39 K hc h
  | 40, _, h => exact sw_40 K hc h
  | 41, _, h => exact sw_41 K hc h
  | 42, _, h => exact sw_42 K hc h
  | 43, _, h => exact sw_43 K hc h
  | 44, _, h => exact sw_44 K hc h
  | 45, _, h => exact sw_45 K hc h
  | 46, _, h => exact sw_46 K hc h
  | 47, _, h => exact sw_47 K hc h
  | 48, _, h => exact sw_48 K hc h
  | 49, _, h => exact sw_49 K hc h
  | 50, _, h => exact sw_50 K hc h
  | 51, _, h => exact sw_51 K hc h
  | 52, _, h => exact sw_52 K hc h
  | 53, _, h => exact sw_53 K hc h
  | 54, _, h => exact sw_54 K hc h
  | 55, _, h => exact sw_55 K hc h
  | 56, _, h => exact sw_56 K hc h
  | 57, _, h => exact sw_57 K hc h
  | 58, _, h => exact sw_58 K hc h
  | 59, _, h => exact sw_59 K hc h
  | 60, _, h => exact sw_60 K hc h
  | 61, _, h => exact sw_61 K hc h
  | 62, _, h => exact sw_62 K hc h
  | 63, _, h => exact sw_63 K hc h
  | j + 64, hj, _ => exact absurd hj (by omega)
