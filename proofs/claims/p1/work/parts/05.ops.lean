/-! single steps: what each does to the picture, and that the machine does it -/
/-- the constants that the rows rest on, at a method's start s: the shared empty array at E, the machinery of throwing -/
def rSt (A : Nat → Prop) (s : State) (E : Nat) : Prop :=
  va_Z "java/util/ArrayList" "DEFAULTCAPACITY_EMPTY_ELEMENTDATA" "[Ljava/lang/Object;" (.ref E) A s s.heap ∧ va_T (.object "java/lang/Object") E 0 (fun _ => .null) A s s.heap ∧ vx_Zq Bundle.tN "UNASSIGNED_STACK" Bundle.steD A s s.heap ∧ vx_Zq Bundle.tN "SUPPRESSED_SENTINEL" Bundle.listD A s s.heap
/-- the script, where the frame is the law's -/
def rSc (fl : Bool) (A : Nat → Prop) (s : State) (b L : Nat) (xs σ : Nat → Int32) : Prop :=
  fl = true → va_X b L xs s s.heap ∧ b < s.heap.size ∧ ¬ A b ∧ ∀ j, j < L → xs j = σ j
/-- what a frame knows besides its oracle: L (the script's length), whether it is the law's, its locals, its owner's number, whether it is a constructor's -/
abbrev rG : Type := rO × Nat × Bool × Nat × Nat × Bool
def rX (p : Program) (R : Room) (s : State) (m : MethodId) (args : Array Value) (meth : Method) (c : Code) (D : va_G) (A : Nat → Prop) (σ : Nat → Int32) (g : rG) (cc : ByteArray) (own : String) (E b : Nat) (xs : Nat → Int32) : Prop :=
  p.tables.exec = Jvm.exec ∧ c.code = cc ∧ c.maxLocals = g.2.2.2.1 ∧ s.vm.findClass own = some m.cls ∧ meth.locks = false ∧ va_K D vwC9 [] s ∧ (∀ q, s.heap.size ≤ q → A q) ∧ (∀ w ∈ lwA, w.before args s = true) ∧ (8 ≤ R.frames ∧ 200 ≤ R.locals) ∧ rSt A s E ∧ rSc g.2.2.1 A s b g.2.1 xs σ ∧ rOr g.1 σ ∧ clsN[g.2.2.2.2.1]? = some own ∧ (g.2.2.2.2.2 = true → meth.name = "<init>")
def rIv (D : va_G) (A : Nat → Prop) (σ : Nat → Int32) (s : State) (ρ : Nat → Nat) (κ : Nat → ClassId) (aw : List rC) (H : Heap) (locs : List Loc) : Prop :=
  (∀ i t es, aw[i]? = some (.inl (t, es)) → va_K D vwC9 [(κ i, rTy t)] s) ∧ va_P D vwC9 (cW ρ κ σ 0 aw) H ∧ va_D A (cW ρ κ σ 0 aw) ∧ va_S A s.heap H locs
/-- from this frame on the machine comes to Q -/
def rGo (p : Program) (l : Launch) (e : Env) (R : Room) (s : State) (m : MethodId) (args : Array Value) (below : List Frame) (meth : Method) (c : Code) (D : va_G) (A : Nat → Prop) (σ : Nat → Int32) (nL : Nat) (Q : State → Prop) (ρ : Nat → Nat) (κ : Nat → ClassId) (fr : rF) : Prop :=
  ∀ (H : Heap) (locs : List Loc) (ls : Array Slot), rIv D A σ s ρ κ fr.2.2.2.1 H locs → lv_has ls nL (cL ρ σ fr.1) → W p l e R s m args below meth c H locs fr.2.2.2.2.1 fr.2.2.2.2.2 Q (F0 m fr.2.2.1 ls (fr.2.1.map (cV ρ σ)))
/-- a kind of step: the instructions that stand there (where, what, how long), and what it does; and that this is so -/
def rOk (dk : Int → List (Nat × Instr × Nat)) (sem : rG → Int → rF → Option rF) : Prop :=
  ∀ (p : Program) (l : Launch) (e : Env) (R : Room) (s : State) (m : MethodId) (args : Array Value) (below : List Frame) (meth : Method) (c : Code) (D : va_G) (A : Nat → Prop) (σ : Nat → Int32) (Q : State → Prop) (g : rG) (cc : ByteArray) (own : String) (E b : Nat) (xs : Nat → Int32) (a : Int) (fr fr' : rF),
    rX p R s m args meth c D A σ g cc own E b xs → (∀ x ∈ dk a, decode cc (fr.2.2.1 + x.1) = .ok (x.2.1, x.2.2)) → sem g a fr = some fr' → fr'.2.2.2.2.1 ≤ R.cells → fr'.2.2.2.2.2 ≤ R.slots → ∀ (ρ : Nat → Nat) (κ : Nat → ClassId), ρ 1000 = E → ρ 1001 = b →
    (∀ ρ' κ', rExt fr.2.2.2.1.length ρ κ ρ' κ' → rGo p l e R s m args below meth c D A σ g.2.2.2.1 Q ρ' κ' fr') → rGo p l e R s m args below meth c D A σ g.2.2.2.1 Q ρ κ fr
def tgN (pc : Nat) (a : Int) : Option Nat := if 0 ≤ (pc : Int) + a then some ((pc : Int) + a).toNat else none
theorem tgN_ok {pc z : Nat} {a : Int} (h : tgN pc a = some z) : (pc : Int) + a = (z : Int) := by
  unfold tgN at h
  split at h
  · cases h
    omega
  · cases h
/-! loads -/
def sLd (ck : rV → Bool) (w : Nat) (g : rG) (a : Int) : rF → Option rF := fun ⟨lv, st, pc, aw, kc, ks⟩ =>
  match getL lv a.toNat with
  | some v => if ck v && (Nat.beq w 2 || Nat.blt a.toNat 4) then some (lv, v :: st, pc + w, aw, kc, ks) else none
  | none => none
theorem sLd_ok {ck : rV → Bool} {w : Nat} {g : rG} {a : Int} {lv : rL} {st : List rV} {pc : Nat} {aw : List rC} {kc ks : Nat} {fr' : rF} (h : sLd ck w g a (lv, st, pc, aw, kc, ks) = some fr') : ∃ v, getL lv a.toNat = some v ∧ ck v = true ∧ (w = 2 ∨ a.toNat < 4) ∧ fr' = (lv, v :: st, pc + w, aw, kc, ks) := by
  simp only [sLd] at h
  split at h
  · rename_i v hv
    split at h
    · rename_i hc
      cases h
      simp only [Bool.and_eq_true, Bool.or_eq_true] at hc
      exact ⟨v, hv, hc.1, hc.2.imp (fun z => Nat.eq_of_beq_eq_true z) (fun z => by simpa using z), rfl⟩
    · cases h
  · cases h
theorem fin4 {a : Nat} (h : a < 4) : ((Fin.ofNat 4 a : Fin 4) : Nat) = a := Nat.mod_eq_of_lt h
theorem ok_iload_n : rOk (fun a => [(0, .iload_n (Fin.ofNat 4 a.toNat), 1)]) (sLd isI 1) := by
  intro p l e R s m args below meth c D A σ Q g cc own E b xs a fr fr' X hd h hc hs ρ κ hE hb k H locs ls hI hl
  obtain ⟨lv, st, pc, aw, kc, ks⟩ := fr
  obtain ⟨v, hv, hi, hw, rfl⟩ := sLd_ok h
  have d := hd _ List.mem_cons_self
  have kk := k ρ κ rExt.rf H locs ls hI hl
  have ha := getL_at hl hv
  simp only [List.map_cons] at kk
  rw [cV_int hi] at ha kk
  exact lv_iload_n X.1 X.2.1 d (fin4 (hw.resolve_left (by decide))) ha kk
theorem ok_iload : rOk (fun a => [(0, .iload a.toNat, 2)]) (sLd isI 2) := by
  intro p l e R s m args below meth c D A σ Q g cc own E b xs a fr fr' X hd h hc hs ρ κ hE hb k H locs ls hI hl
  obtain ⟨lv, st, pc, aw, kc, ks⟩ := fr
  obtain ⟨v, hv, hi, hw, rfl⟩ := sLd_ok h
  have d := hd _ List.mem_cons_self
  have kk := k ρ κ rExt.rf H locs ls hI hl
  have ha := getL_at hl hv
  simp only [List.map_cons] at kk
  rw [cV_int hi] at ha kk
  exact lv_iload X.1 X.2.1 d ha kk
theorem ok_lload_n : rOk (fun a => [(0, .lload_n (Fin.ofNat 4 a.toNat), 1)]) (sLd isL 1) := by
  intro p l e R s m args below meth c D A σ Q g cc own E b xs a fr fr' X hd h hc hs ρ κ hE hb k H locs ls hI hl
  obtain ⟨lv, st, pc, aw, kc, ks⟩ := fr
  obtain ⟨v, hv, hi, hw, rfl⟩ := sLd_ok h
  have d := hd _ List.mem_cons_self
  have kk := k ρ κ rExt.rf H locs ls hI hl
  have ha := getL_at hl hv
  simp only [List.map_cons] at kk
  rw [cV_long hi] at ha kk
  exact lv_lload_n X.1 X.2.1 d (fin4 (hw.resolve_left (by decide))) ha kk
theorem ok_lload : rOk (fun a => [(0, .lload a.toNat, 2)]) (sLd isL 2) := by
  intro p l e R s m args below meth c D A σ Q g cc own E b xs a fr fr' X hd h hc hs ρ κ hE hb k H locs ls hI hl
  obtain ⟨lv, st, pc, aw, kc, ks⟩ := fr
  obtain ⟨v, hv, hi, hw, rfl⟩ := sLd_ok h
  have d := hd _ List.mem_cons_self
  have kk := k ρ κ rExt.rf H locs ls hI hl
  have ha := getL_at hl hv
  simp only [List.map_cons] at kk
  rw [cV_long hi] at ha kk
  exact lv_lload X.1 X.2.1 d ha kk
def isA (v : rV) : Bool := match v with
  | .inl (.ref _) => true
  | _ => false
theorem isA_ok {v : rV} (h : isA v = true) : ∃ i, v = .inl (.ref i) := by
  unfold isA at h
  split at h
  · exact ⟨_, rfl⟩
  · cases h
theorem ok_aload_n : rOk (fun a => [(0, .aload_n (Fin.ofNat 4 a.toNat), 1)]) (sLd isA 1) := by
  intro p l e R s m args below meth c D A σ Q g cc own E b xs a fr fr' X hd h hc hs ρ κ hE hb k H locs ls hI hl
  obtain ⟨lv, st, pc, aw, kc, ks⟩ := fr
  obtain ⟨v, hv, hi, hw, rfl⟩ := sLd_ok h
  obtain ⟨i, rfl⟩ := isA_ok hi
  have d := hd _ List.mem_cons_self
  exact lv_aload_n X.1 X.2.1 d (fin4 (hw.resolve_left (by decide))) (getL_at hl hv) (k ρ κ rExt.rf H locs ls hI hl)
theorem ok_aload : rOk (fun a => [(0, .aload a.toNat, 2)]) (sLd isA 2) := by
  intro p l e R s m args below meth c D A σ Q g cc own E b xs a fr fr' X hd h hc hs ρ κ hE hb k H locs ls hI hl
  obtain ⟨lv, st, pc, aw, kc, ks⟩ := fr
  obtain ⟨v, hv, hi, hw, rfl⟩ := sLd_ok h
  obtain ⟨i, rfl⟩ := isA_ok hi
  have d := hd _ List.mem_cons_self
  exact lv_aload X.1 X.2.1 d (getL_at hl hv) (k ρ κ rExt.rf H locs ls hI hl)
def isNl (v : rV) : Bool := match v with
  | .inl .null => true
  | _ => false
theorem isNl_ok {v : rV} (h : isNl v = true) : v = .inl .null := by
  unfold isNl at h
  split at h
  · rfl
  · cases h
theorem ok_aload_nN : rOk (fun a => [(0, .aload_n (Fin.ofNat 4 a.toNat), 1)]) (sLd isNl 1) := by
  intro p l e R s m args below meth c D A σ Q g cc own E b xs a fr fr' X hd h hc hs ρ κ hE hb k H locs ls hI hl
  obtain ⟨lv, st, pc, aw, kc, ks⟩ := fr
  obtain ⟨v, hv, hi, hw, rfl⟩ := sLd_ok h
  obtain rfl := isNl_ok hi
  have d := hd _ List.mem_cons_self
  exact lv_aload_nN X.1 X.2.1 d (fin4 (hw.resolve_left (by decide))) (getL_at hl hv) (k ρ κ rExt.rf H locs ls hI hl)
/-! stores -/
def sSt (ck : rV → Bool) (w : Nat) (g : rG) (a : Int) : rF → Option rF := fun ⟨lv, st, pc, aw, kc, ks⟩ =>
  match st with
  | v :: st => if ck v && ((Nat.beq w 2 || Nat.blt a.toNat 4) && Nat.blt a.toNat g.2.2.2.1) then some (setL lv a.toNat v, st, pc + w, aw, kc, ks) else none
  | [] => none
theorem sSt_ok {ck : rV → Bool} {w : Nat} {g : rG} {a : Int} {lv : rL} {st : List rV} {pc : Nat} {aw : List rC} {kc ks : Nat} {fr' : rF} (h : sSt ck w g a (lv, st, pc, aw, kc, ks) = some fr') : ∃ v st', st = v :: st' ∧ ck v = true ∧ (w = 2 ∨ a.toNat < 4) ∧ a.toNat < g.2.2.2.1 ∧ fr' = (setL lv a.toNat v, st', pc + w, aw, kc, ks) := by
  simp only [sSt] at h
  split at h
  · rename_i v st'
    split at h
    · rename_i hc
      cases h
      simp only [Bool.and_eq_true, Bool.or_eq_true] at hc
      exact ⟨v, st', rfl, hc.1, hc.2.1.imp (fun z => Nat.eq_of_beq_eq_true z) (fun z => by simpa using z), by simpa using hc.2.2, rfl⟩
    · cases h
  · cases h
theorem ok_istore_n : rOk (fun a => [(0, .istore_n (Fin.ofNat 4 a.toNat), 1)]) (sSt isI 1) := by
  intro p l e R s m args below meth c D A σ Q g cc own E b xs a fr fr' X hd h hc hs ρ κ hE hb k H locs ls hI hl
  obtain ⟨lv, st, pc, aw, kc, ks⟩ := fr
  obtain ⟨v, st', rfl, hi, hw, hn, rfl⟩ := sSt_ok h
  have d := hd _ List.mem_cons_self
  have e := setL_eq (ρ := ρ) (σ := σ) lv a.toNat v
  simp only [rGo, List.map_cons] at k ⊢
  rw [cV_int hi] at e ⊢
  exact lv_istore_n X.1 X.2.1 d (fin4 (hw.resolve_left (by decide))) hl hn e (fun ls' hl' => k ρ κ rExt.rf H locs ls' hI hl')
theorem ok_istore : rOk (fun a => [(0, .istore a.toNat, 2)]) (sSt isI 2) := by
  intro p l e R s m args below meth c D A σ Q g cc own E b xs a fr fr' X hd h hc hs ρ κ hE hb k H locs ls hI hl
  obtain ⟨lv, st, pc, aw, kc, ks⟩ := fr
  obtain ⟨v, st', rfl, hi, hw, hn, rfl⟩ := sSt_ok h
  have d := hd _ List.mem_cons_self
  have e := setL_eq (ρ := ρ) (σ := σ) lv a.toNat v
  simp only [rGo, List.map_cons] at k ⊢
  rw [cV_int hi] at e ⊢
  exact lv_istore X.1 X.2.1 d hl hn e (fun ls' hl' => k ρ κ rExt.rf H locs ls' hI hl')
theorem ok_astore_n : rOk (fun a => [(0, .astore_n (Fin.ofNat 4 a.toNat), 1)]) (sSt isA 1) := by
  intro p l e R s m args below meth c D A σ Q g cc own E b xs a fr fr' X hd h hc hs ρ κ hE hb k H locs ls hI hl
  obtain ⟨lv, st, pc, aw, kc, ks⟩ := fr
  obtain ⟨v, st', rfl, hi, hw, hn, rfl⟩ := sSt_ok h
  obtain ⟨i, rfl⟩ := isA_ok hi
  have d := hd _ List.mem_cons_self
  exact lv_astore_n X.1 X.2.1 d (fin4 (hw.resolve_left (by decide))) hl hn (setL_eq (ρ := ρ) (σ := σ) lv a.toNat (.inl (.ref i))) (fun ls' hl' => k ρ κ rExt.rf H locs ls' hI hl')
theorem ok_astore : rOk (fun a => [(0, .astore a.toNat, 2)]) (sSt isA 2) := by
  intro p l e R s m args below meth c D A σ Q g cc own E b xs a fr fr' X hd h hc hs ρ κ hE hb k H locs ls hI hl
  obtain ⟨lv, st, pc, aw, kc, ks⟩ := fr
  obtain ⟨v, st', rfl, hi, hw, hn, rfl⟩ := sSt_ok h
  obtain ⟨i, rfl⟩ := isA_ok hi
  have d := hd _ List.mem_cons_self
  exact lv_astore X.1 X.2.1 d hl hn (setL_eq (ρ := ρ) (σ := σ) lv a.toNat (.inl (.ref i))) (fun ls' hl' => k ρ κ rExt.rf H locs ls' hI hl')
theorem ok_astore_nN : rOk (fun a => [(0, .astore_n (Fin.ofNat 4 a.toNat), 1)]) (sSt isNl 1) := by
  intro p l e R s m args below meth c D A σ Q g cc own E b xs a fr fr' X hd h hc hs ρ κ hE hb k H locs ls hI hl
  obtain ⟨lv, st, pc, aw, kc, ks⟩ := fr
  obtain ⟨v, st', rfl, hi, hw, hn, rfl⟩ := sSt_ok h
  obtain rfl := isNl_ok hi
  have d := hd _ List.mem_cons_self
  exact lv_astore_nN X.1 X.2.1 d (fin4 (hw.resolve_left (by decide))) hl hn (setL_eq (ρ := ρ) (σ := σ) lv a.toNat (.inl .null)) (fun ls' hl' => k ρ κ rExt.rf H locs ls' hI hl')
def sSt2 (g : rG) (a : Int) : rF → Option rF := fun ⟨lv, st, pc, aw, kc, ks⟩ =>
  match st with
  | v :: st => if isL v && (Nat.blt a.toNat 4 && Nat.blt (a.toNat + 1) g.2.2.2.1) then some (setL2 lv a.toNat v, st, pc + 1, aw, kc, ks) else none
  | [] => none
theorem ok_lstore_n : rOk (fun a => [(0, .lstore_n (Fin.ofNat 4 a.toNat), 1)]) sSt2 := by
  intro p l e R s m args below meth c D A σ Q g cc own E b xs a fr fr' X hd h hc hs ρ κ hE hb k H locs ls hI hl
  obtain ⟨lv, st, pc, aw, kc, ks⟩ := fr
  simp only [sSt2] at h
  split at h
  · rename_i v st'
    split at h
    · rename_i hc2
      cases h
      simp only [Bool.and_eq_true] at hc2
      obtain ⟨hi, hw, hn⟩ := hc2
      have d := hd _ List.mem_cons_self
      have e := setL2_eq (ρ := ρ) (σ := σ) lv a.toNat v
      simp only [rGo, List.map_cons] at k ⊢
      rw [cV_long hi] at e ⊢
      exact lv_lstore_n X.1 X.2.1 d (fin4 (by simpa using hw)) hl (by simpa using hn) e (fun ls' hl' => k ρ κ rExt.rf H locs ls' hI hl')
    · cases h
  · cases h
def sFst (g : rG) (a : Int) : rF → Option rF := fun ⟨lv, st, pc, aw, kc, ks⟩ =>
  match st with
  | .inl (.float x) :: st => if Nat.blt a.toNat g.2.2.2.1 then some (setL lv a.toNat (.inl (.float x)), st, pc + 2, aw, kc, ks) else none
  | _ => none
theorem ok_fstore : rOk (fun a => [(0, .fstore a.toNat, 2)]) sFst := by
  intro p l e R s m args below meth c D A σ Q g cc own E b xs a fr fr' X hd h hc hs ρ κ hE hb k H locs ls hI hl
  obtain ⟨lv, st, pc, aw, kc, ks⟩ := fr
  simp only [sFst] at h
  split at h
  · rename_i x st'
    split at h
    · rename_i hn
      cases h
      have d := hd _ List.mem_cons_self
      exact lv_fstore X.1 X.2.1 d hl (by simpa using hn) (setL_eq (ρ := ρ) (σ := σ) lv a.toNat (.inl (.float x))) (fun ls' hl' => k ρ κ rExt.rf H locs ls' hI hl')
    · cases h
  · cases h
def sDst (g : rG) (a : Int) : rF → Option rF := fun ⟨lv, st, pc, aw, kc, ks⟩ =>
  match st with
  | .inl (.double x) :: st => if Nat.blt (a.toNat + 1) g.2.2.2.1 then some (setL2 lv a.toNat (.inl (.double x)), st, pc + 2, aw, kc, ks) else none
  | _ => none
theorem ok_dstore : rOk (fun a => [(0, .dstore a.toNat, 2)]) sDst := by
  intro p l e R s m args below meth c D A σ Q g cc own E b xs a fr fr' X hd h hc hs ρ κ hE hb k H locs ls hI hl
  obtain ⟨lv, st, pc, aw, kc, ks⟩ := fr
  simp only [sDst] at h
  split at h
  · rename_i x st'
    split at h
    · rename_i hn
      cases h
      have d := hd _ List.mem_cons_self
      exact lv_dstore X.1 X.2.1 d hl (by simpa using hn) (setL2_eq (ρ := ρ) (σ := σ) lv a.toNat (.inl (.double x))) (fun ls' hl' => k ρ κ rExt.rf H locs ls' hI hl')
    · cases h
  · cases h
/-! constants, and the stack's own steps -/
def sPush (w : Nat) (f : Int → Value) (g : rG) (a : Int) : rF → Option rF := fun ⟨lv, st, pc, aw, kc, ks⟩ => some (lv, .inl (f a) :: st, pc + w, aw, kc, ks)
theorem ok_iconst : rOk (fun a => [(0, .iconst a, 1)]) (sPush 1 (fun a => .int (Int32.ofInt a))) := by
  intro p l e R s m args below meth c D A σ Q g cc own E b xs a fr fr' X hd h hc hs ρ κ hE hb k H locs ls hI hl
  obtain ⟨lv, st, pc, aw, kc, ks⟩ := fr
  cases h
  have d := hd _ List.mem_cons_self
  exact lv_iconst X.1 X.2.1 d rfl (k ρ κ rExt.rf H locs ls hI hl)
theorem ok_bipush : rOk (fun a => [(0, .bipush a, 2)]) (sPush 2 (fun a => .int (Int8.ofInt a).toInt32)) := by
  intro p l e R s m args below meth c D A σ Q g cc own E b xs a fr fr' X hd h hc hs ρ κ hE hb k H locs ls hI hl
  obtain ⟨lv, st, pc, aw, kc, ks⟩ := fr
  cases h
  have d := hd _ List.mem_cons_self
  exact lv_bipush X.1 X.2.1 d rfl (k ρ κ rExt.rf H locs ls hI hl)
theorem ok_sipush : rOk (fun a => [(0, .sipush a, 3)]) (sPush 3 (fun a => .int (Int16.ofInt a).toInt32)) := by
  intro p l e R s m args below meth c D A σ Q g cc own E b xs a fr fr' X hd h hc hs ρ κ hE hb k H locs ls hI hl
  obtain ⟨lv, st, pc, aw, kc, ks⟩ := fr
  cases h
  have d := hd _ List.mem_cons_self
  exact lv_sipush X.1 X.2.1 d rfl (k ρ κ rExt.rf H locs ls hI hl)
theorem ok_lconst : rOk (fun a => [(0, .lconst (Fin.ofNat 2 a.toNat), 1)]) (sPush 1 (fun a => .long (Int64.ofNat (Fin.ofNat 2 a.toNat : Fin 2)))) := by
  intro p l e R s m args below meth c D A σ Q g cc own E b xs a fr fr' X hd h hc hs ρ κ hE hb k H locs ls hI hl
  obtain ⟨lv, st, pc, aw, kc, ks⟩ := fr
  cases h
  have d := hd _ List.mem_cons_self
  exact lv_lconst X.1 X.2.1 d rfl (k ρ κ rExt.rf H locs ls hI hl)
theorem ok_fconst : rOk (fun _ => [(0, .fconst 0, 1)]) (sPush 1 (fun _ => .float FP.fconst0)) := by
  intro p l e R s m args below meth c D A σ Q g cc own E b xs a fr fr' X hd h hc hs ρ κ hE hb k H locs ls hI hl
  obtain ⟨lv, st, pc, aw, kc, ks⟩ := fr
  cases h
  have d := hd _ List.mem_cons_self
  exact lv_fconst0 X.1 X.2.1 d (k ρ κ rExt.rf H locs ls hI hl)
theorem ok_dconst : rOk (fun _ => [(0, .dconst 0, 1)]) (sPush 1 (fun _ => .double FP.dconst0)) := by
  intro p l e R s m args below meth c D A σ Q g cc own E b xs a fr fr' X hd h hc hs ρ κ hE hb k H locs ls hI hl
  obtain ⟨lv, st, pc, aw, kc, ks⟩ := fr
  cases h
  have d := hd _ List.mem_cons_self
  exact lv_dconst0 X.1 X.2.1 d (k ρ κ rExt.rf H locs ls hI hl)
theorem ok_null : rOk (fun _ => [(0, .aconst_null, 1)]) (sPush 1 (fun _ => .null)) := by
  intro p l e R s m args below meth c D A σ Q g cc own E b xs a fr fr' X hd h hc hs ρ κ hE hb k H locs ls hI hl
  obtain ⟨lv, st, pc, aw, kc, ks⟩ := fr
  cases h
  have d := hd _ List.mem_cons_self
  exact lv_null X.1 X.2.1 d (k ρ κ rExt.rf H locs ls hI hl)
def sDup (g : rG) (a : Int) : rF → Option rF := fun ⟨lv, st, pc, aw, kc, ks⟩ =>
  match st with
  | v :: st => if Nat.beq (catR v) 1 then some (lv, v :: v :: st, pc + 1, aw, kc, ks) else none
  | [] => none
theorem ok_dup : rOk (fun _ => [(0, .dup, 1)]) sDup := by
  intro p l e R s m args below meth c D A σ Q g cc own E b xs a fr fr' X hd h hc hs ρ κ hE hb k H locs ls hI hl
  obtain ⟨lv, st, pc, aw, kc, ks⟩ := fr
  simp only [sDup] at h
  split at h
  · rename_i v st'
    split at h
    · rename_i hv
      cases h
      have d := hd _ List.mem_cons_self
      exact lv_dup X.1 X.2.1 d ((cV_cat ρ σ v).trans (Nat.eq_of_beq_eq_true hv)) (k ρ κ rExt.rf H locs ls hI hl)
    · cases h
  · cases h
def sDupX (g : rG) (a : Int) : rF → Option rF := fun ⟨lv, st, pc, aw, kc, ks⟩ =>
  match st with
  | v :: w :: st => if Nat.beq (catR v) 1 && Nat.beq (catR w) 1 then some (lv, v :: w :: v :: st, pc + 1, aw, kc, ks) else none
  | _ => none
theorem ok_dup_x1 : rOk (fun _ => [(0, .dup_x1, 1)]) sDupX := by
  intro p l e R s m args below meth c D A σ Q g cc own E b xs a fr fr' X hd h hc hs ρ κ hE hb k H locs ls hI hl
  obtain ⟨lv, st, pc, aw, kc, ks⟩ := fr
  simp only [sDupX] at h
  split at h
  · rename_i v w st'
    split at h
    · rename_i hv
      cases h
      simp only [Bool.and_eq_true] at hv
      have d := hd _ List.mem_cons_self
      exact lv_dup_x1 X.1 X.2.1 d ((cV_cat ρ σ v).trans (Nat.eq_of_beq_eq_true hv.1)) ((cV_cat ρ σ w).trans (Nat.eq_of_beq_eq_true hv.2)) (k ρ κ rExt.rf H locs ls hI hl)
    · cases h
  · cases h
def sPop (g : rG) (a : Int) : rF → Option rF := fun ⟨lv, st, pc, aw, kc, ks⟩ =>
  match st with
  | v :: st => if Nat.beq (catR v) 1 then some (lv, st, pc + 1, aw, kc, ks) else none
  | [] => none
theorem ok_pop : rOk (fun _ => [(0, .pop, 1)]) sPop := by
  intro p l e R s m args below meth c D A σ Q g cc own E b xs a fr fr' X hd h hc hs ρ κ hE hb k H locs ls hI hl
  obtain ⟨lv, st, pc, aw, kc, ks⟩ := fr
  simp only [sPop] at h
  split at h
  · rename_i v st'
    split at h
    · rename_i hv
      cases h
      have d := hd _ List.mem_cons_self
      exact lv_pop X.1 X.2.1 d ((cV_cat ρ σ v).trans (Nat.eq_of_beq_eq_true hv)) (k ρ κ rExt.rf H locs ls hI hl)
    · cases h
  · cases h
/-! numbers -/
def sAdd (g : rG) (a : Int) : rF → Option rF := fun ⟨lv, st, pc, aw, kc, ks⟩ =>
  match st with
  | .inl (.int y) :: .inl (.int x) :: st => some (lv, .inl (.int (x + y)) :: st, pc + 1, aw, kc, ks)
  | .inr (false, j) :: .inl (.int x) :: st => if x = 0 then some (lv, .inr (false, j) :: st, pc + 1, aw, kc, ks) else none
  | _ => none
theorem ok_iadd : rOk (fun _ => [(0, .iadd, 1)]) sAdd := by
  intro p l e R s m args below meth c D A σ Q g cc own E b xs a fr fr' X hd h hc hs ρ κ hE hb k H locs ls hI hl
  obtain ⟨lv, st, pc, aw, kc, ks⟩ := fr
  simp only [sAdd] at h
  split at h
  · cases h
    have d := hd _ List.mem_cons_self
    exact lv_iadd X.1 X.2.1 d (k ρ κ rExt.rf H locs ls hI hl)
  · split at h
    · rename_i j x st' hx
      cases h
      subst hx
      have d := hd _ List.mem_cons_self
      refine lv_iadd X.1 X.2.1 d ?_
      rw [Int32.zero_add]
      exact k ρ κ rExt.rf H locs ls hI hl
    · cases h
  · cases h
def sSub (g : rG) (a : Int) : rF → Option rF := fun ⟨lv, st, pc, aw, kc, ks⟩ =>
  match st with
  | .inl (.int y) :: .inl (.int x) :: st => some (lv, .inl (.int (x - y)) :: st, pc + 1, aw, kc, ks)
  | _ => none
theorem ok_isub : rOk (fun _ => [(0, .isub, 1)]) sSub := by
  intro p l e R s m args below meth c D A σ Q g cc own E b xs a fr fr' X hd h hc hs ρ κ hE hb k H locs ls hI hl
  obtain ⟨lv, st, pc, aw, kc, ks⟩ := fr
  simp only [sSub] at h
  split at h
  · cases h
    have d := hd _ List.mem_cons_self
    exact lv_isub X.1 X.2.1 d (k ρ κ rExt.rf H locs ls hI hl)
  · cases h
def sAnd (g : rG) (a : Int) : rF → Option rF := fun ⟨lv, st, pc, aw, kc, ks⟩ =>
  match st with
  | .inl (.int y) :: .inr (false, 0) :: st => if y = 63 ∧ g.1.2 ≠ 64 then some (lv, .inl (.int g.1.2) :: st, pc + 1, aw, kc, ks) else none
  | _ => none
theorem ok_iand : rOk (fun _ => [(0, .iand, 1)]) sAnd := by
  intro p l e R s m args below meth c D A σ Q g cc own E b xs a fr fr' X hd h hc hs ρ κ hE hb k H locs ls hI hl
  obtain ⟨lv, st, pc, aw, kc, ks⟩ := fr
  have hO : rOr g.1 σ := X.2.2.2.2.2.2.2.2.2.2.2.1
  simp only [sAnd] at h
  split at h
  · split at h
    · rename_i y st' hy
      cases h
      obtain ⟨rfl, hy⟩ := hy
      have d := hd _ List.mem_cons_self
      refine lv_iand X.1 X.2.1 d ?_
      rw [hO.2.1.resolve_left hy]
      exact k ρ κ rExt.rf H locs ls hI hl
    · cases h
  · cases h
def sLmul (g : rG) (a : Int) : rF → Option rF := fun ⟨lv, st, pc, aw, kc, ks⟩ =>
  match st with
  | .inl (.long y) :: .inl (.long x) :: st => some (lv, .inl (.long (x * y)) :: st, pc + 1, aw, kc, ks)
  | _ => none
theorem ok_lmul : rOk (fun _ => [(0, .lmul, 1)]) sLmul := by
  intro p l e R s m args below meth c D A σ Q g cc own E b xs a fr fr' X hd h hc hs ρ κ hE hb k H locs ls hI hl
  obtain ⟨lv, st, pc, aw, kc, ks⟩ := fr
  simp only [sLmul] at h
  split at h
  · cases h
    have d := hd _ List.mem_cons_self
    exact lv_lmul X.1 X.2.1 d (k ρ κ rExt.rf H locs ls hI hl)
  · cases h
/-- 1000 times the variable's number, 500 more, and the step -/
def sInc (g : rG) (a : Int) : rF → Option rF := fun ⟨lv, st, pc, aw, kc, ks⟩ =>
  match getL lv (a / 1000).toNat with
  | some (.inl (.int x)) => if Nat.blt (a / 1000).toNat g.2.2.2.1 then some (setL lv (a / 1000).toNat (.inl (.int (x + Int32.ofInt (a % 1000 - 500)))), st, pc + 3, aw, kc, ks) else none
  | _ => none
theorem ok_iinc : rOk (fun a => [(0, .iinc (a / 1000).toNat (a % 1000 - 500), 3)]) sInc := by
  intro p l e R s m args below meth c D A σ Q g cc own E b xs a fr fr' X hd h hc hs ρ κ hE hb k H locs ls hI hl
  obtain ⟨lv, st, pc, aw, kc, ks⟩ := fr
  simp only [sInc] at h
  split at h
  · rename_i x hv
    split at h
    · rename_i hn
      cases h
      obtain ⟨j, hj⟩ := List.mem_iff_getElem?.mp (List.mem_map.mpr ⟨_, getL_mem hv, rfl⟩ : ((a / 1000).toNat, cV ρ σ (.inl (.int x))) ∈ cL ρ σ lv)
      have d := hd _ List.mem_cons_self
      exact lv_iinc (k := j) X.1 X.2.1 d hl hj rfl (by simpa using hn) (setL_eq (ρ := ρ) (σ := σ) lv (a / 1000).toNat (.inl (.int (x + Int32.ofInt (a % 1000 - 500))))) (fun ls' hl' => k ρ κ rExt.rf H locs ls' hI hl')
    · cases h
  · cases h
def sI2l (g : rG) (a : Int) : rF → Option rF := fun ⟨lv, st, pc, aw, kc, ks⟩ =>
  match st with
  | .inl (.int x) :: st => some (lv, .inl (.long x.toInt64) :: st, pc + 1, aw, kc, ks)
  | .inr (false, j) :: st => some (lv, .inr (true, j) :: st, pc + 1, aw, kc, ks)
  | _ => none
theorem ok_i2l : rOk (fun _ => [(0, .i2l, 1)]) sI2l := by
  intro p l e R s m args below meth c D A σ Q g cc own E b xs a fr fr' X hd h hc hs ρ κ hE hb k H locs ls hI hl
  obtain ⟨lv, st, pc, aw, kc, ks⟩ := fr
  simp only [sI2l] at h
  split at h
  · cases h
    have d := hd _ List.mem_cons_self
    exact lv_i2l X.1 X.2.1 d rfl (k ρ κ rExt.rf H locs ls hI hl)
  · cases h
    have d := hd _ List.mem_cons_self
    exact lv_i2l X.1 X.2.1 d rfl (k ρ κ rExt.rf H locs ls hI hl)
  · cases h
def sI2c (g : rG) (a : Int) : rF → Option rF := fun ⟨lv, st, pc, aw, kc, ks⟩ =>
  match st with
  | .inr (false, 2) :: st => some (lv, .inr (false, 4) :: st, pc + 1, aw, kc, ks)
  | _ => none
theorem ok_i2c : rOk (fun _ => [(0, .i2c, 1)]) sI2c := by
  intro p l e R s m args below meth c D A σ Q g cc own E b xs a fr fr' X hd h hc hs ρ κ hE hb k H locs ls hI hl
  obtain ⟨lv, st, pc, aw, kc, ks⟩ := fr
  have hO : rOr g.1 σ := X.2.2.2.2.2.2.2.2.2.2.2.1
  simp only [sI2c] at h
  split at h
  · cases h
    have d := hd _ List.mem_cons_self
    exact lv_i2c X.1 X.2.1 d hO.2.2 (k ρ κ rExt.rf H locs ls hI hl)
  · cases h
