/-! the machine follows the run -/
def rWd (s : State) : Prop := ∀ w ∈ lwA, w.before #[] s = true
def okw (w : Cond) : Bool := match w with
  | .arrayClass _ => true
  | .arrayOver ty => (match ty with | .object _ => true | _ => false)
  | .fieldLinkNest .. => true
  | .methodLinkNest .. => true
  | w => w.keepsFace && w.onTables
theorem okw_move {w : Cond} {args a' : Array Value} {s U : State} (hk : okw w = true) (hW : s.WarmedH U.vm) (h : w.before args s = true) : w.before a' U = true := by
  have key : w.keepsFace = true → w.onTables = true → w.before a' U = true := fun h1 h2 => va_tabs (u := s.setVm U.vm) h2 rfl (Cond.before_shiftedFace (State.Shifted.of_warmed hW) _ h1 h)
  cases w with
  | arrayClass ty =>
    have h1 : (Cond.arrayClass ty).before args (s.setVm U.vm) = true := Cond.before_shiftedFace (State.Shifted.of_warmed hW) _ rfl h
    exact h1
  | arrayOver ty =>
    cases ty with
    | object n => exact va_AO.use (va_AO.moved hW.alike (va_AO.of h))
    | _ => exact (Bool.false_ne_true hk).elim
  | fieldLinkNest a i b n d h9 => exact va_Nw.use rfl (va_Nw.warmF hW (va_Nw.of rfl h))
  | methodLinkNest a i x h9 => exact va_Nw.use rfl (va_Nw.warmM hW (va_Nw.of rfl h))
  | _ =>
    simp only [okw, Bool.and_eq_true] at hk
    exact key hk.1 hk.2
def rThr (s : State) : Prop := ∀ q ∈ tT, ∃ (o text : String) (sa : Nat), clsN[q.1]? = some o ∧ vk_R o q.2.2.1 text sa s
def rNcs (s : State) : Prop := va_Nc "java/lang/IllegalStateException" "java/lang/IllegalArgumentException" s ∧ va_Nc "java/lang/IndexOutOfBoundsException" "java/lang/IllegalArgumentException" s
def retI (rk : Nat) : Instr := match rk with
  | 0 => .return_
  | 2 => .lreturn
  | 3 => .areturn
  | 4 => .freturn
  | 5 => .dreturn
  | _ => .ireturn
def retOk (rk : Nat) (ret : Option FieldType) : Prop := match rk with
  | 0 => ret = none
  | 1 => ret = some .int
  | 2 => ret = some .long
  | 3 => ∃ ty, ret = some ty ∧ ((∃ n, ty = .object n) ∨ ∃ t, ty = .array t)
  | 4 => ret = some .float
  | 5 => ret = some .double
  | 6 => ret = some .boolean
  | 7 => ret = some .char
  | _ => False
def callR (q : Nat × Nat × Nat × Nat × Nat × Nat × Nat) : Instr := match q.1 with
  | 0 => .invokevirtual q.2.2.1
  | 1 => .invokespecial q.2.2.1
  | 3 => .invokespecial q.2.2.1
  | 4 => .invokeinterface q.2.2.1 q.2.2.2.2.2.2
  | _ => .invokestatic q.2.2.1
def dkT (q : Nat × Nat × Nat × Nat × Nat × Bool) : List (Nat × Instr × Nat) := match q.2.2.2.2.2 with
  | true => [(0, .new q.2.1, 3), (3, .dup, 1), (4, .ldc_w q.2.2.1, 3), (7, .invokespecial q.2.2.2.1, 3), (10, .athrow, 1)]
  | false => [(0, .new q.2.1, 3), (3, .dup, 1), (4, .ldc q.2.2.1, 2), (6, .invokespecial q.2.2.2.1, 3), (9, .athrow, 1)]
def dkAll (rk op : Nat) (a : Int) : List (Nat × Instr × Nat) :=
  if Nat.blt op 200 then (match opT[op]? with
    | some t => t.1 a
    | none => [])
  else if Nat.beq op 200 then [(0, retI rk, 1)]
  else if Nat.beq op 201 then (match cT[a.toNat]? with
    | some q => [(0, callR q, if Nat.beq q.1 4 then 5 else 3)]
    | none => [])
  else (match tT[a.toNat]? with
    | some q => dkT q
    | none => [])
/-- the code of a method, as the run has it, is the machine's -/
def rDec (id rk : Nat) (cc : ByteArray) : Prop := ∀ bs, codeT[id]? = some bs → ∀ bl ∈ bs, ∀ z ∈ bl, ∀ x ∈ dkAll rk z.2.1 z.2.2, decode cc (z.1 + x.1) = .ok (x.2.1, x.2.2)
theorem lookB_mem {pc op : Nat} {a : Int} : ∀ {bl : List (Nat × Nat × Int)}, lookB pc bl = some (op, a) → (pc, op, a) ∈ bl
  | [], h => by cases h
  | (j, o, b) :: t, h => by
    simp only [lookB] at h
    by_cases hj : Nat.beq j pc = true
    · rw [if_pos hj] at h
      cases h
      cases Nat.eq_of_beq_eq_true hj
      exact List.mem_cons_self
    · rw [if_neg hj] at h
      exact List.mem_cons_of_mem _ (lookB_mem h)
theorem look_dec {id rk pc op : Nat} {a : Int} {cc : ByteArray} (hd : rDec id rk cc) (h : lookC id pc = some (op, a)) : ∀ x ∈ dkAll rk op a, decode cc (pc + x.1) = .ok (x.2.1, x.2.2) := by
  simp only [lookC] at h
  split at h
  · rename_i bs hbs
    split at h
    · rename_i bl hbl
      exact hd bs hbs bl (List.mem_of_getElem? hbl) _ (lookB_mem h)
    · cases h
  · cases h
/-- tables of handlers agree -/
def hRel (own : String) : List (Nat × Nat × Nat × Nat) → List (Nat × Nat × Nat × Nat) → Prop
  | [], [] => True
  | (x, y, t, z) :: r, (x2, y2, t2, ct) :: r2 => (x = x2 ∧ y = y2 ∧ t = t2 ∧ ct ≠ 0 ∧ ∃ nm : String, exN[z]? = some nm ∧ Cond.classLink own ct nm ∈ lwA ∧ Cond.castable nm nm ∈ lwA) ∧ hRel own r r2
  | _, _ => False
def hPass (own nm : String) (args : Array Value) (s : State) (pc : Nat) (z : ExceptionTableEntry) : Prop := covers z pc = false ∨ (z.catchType ≠ 0 ∧ ∃ nm2 : String, (Cond.classLink own z.catchType nm2).before args s = true ∧ va_Nc nm nm2 s)
theorem hnd_none {own nm : String} {args : Array Value} {s : State} {pc E : Nat} (hnm : exN[E]? = some nm) (hW : ∀ w ∈ lwA, w.before args s = true) (hN : rNcs s) : ∀ {hh hr : List (Nat × Nat × Nat × Nat)}, hRel own hh hr → hnd pc E hh = some none → ∀ z ∈ tableOf hr, hPass own nm args s pc z
  | [], [], _, _ => fun z hz => by cases hz
  | [], _ :: _, h, _ => h.elim
  | _ :: _, [], h, _ => h.elim
  | (x, y, t, z9) :: r, (x2, y2, t2, ct) :: r2, h, h2 => by
    obtain ⟨⟨rfl, rfl, rfl, hct, nm2, e1, e2, e3⟩, hr⟩ := h
    simp only [hnd] at h2
    intro z hz
    simp only [tableOf, List.map_cons, List.mem_cons] at hz
    split at h2
    · split at h2
      · cases h2
      · split at h2
        · rename_i hp
          simp only [Bool.and_eq_true, Bool.or_eq_true] at hp
          obtain ⟨hz0, hE⟩ := hp
          cases Nat.eq_of_beq_eq_true hz0
          cases e1
          rcases hz with rfl | hz
          · refine Or.inr ⟨hct, _, hW _ e2, ?_⟩
            rcases hE with hE | hE
            · cases Nat.eq_of_beq_eq_true hE
              cases hnm
              exact hN.1
            · cases Nat.eq_of_beq_eq_true hE
              cases hnm
              exact hN.2
          · exact hnd_none hnm hW hN hr h2 z hz
        · cases h2
    · rename_i hc
      rcases hz with rfl | hz
      · refine Or.inl ?_
        simp only [covers]
        by_cases h1 : x ≤ pc
        · have : ¬ pc < y := fun z => hc (by rw [Nat.ble_eq_true_of_le h1, Bool.true_and]; simpa using z)
          simp [this]
        · simp [h1]
      · exact hnd_none hnm hW hN hr h2 z hz
theorem hnd_some {own nm : String} {args : Array Value} {s : State} {pc E t : Nat} (hnm : exN[E]? = some nm) (hW : ∀ w ∈ lwA, w.before args s = true) (hN : rNcs s) : ∀ {hh hr : List (Nat × Nat × Nat × Nat)}, hRel own hh hr → hnd pc E hh = some (some t) → ∃ pre x suf, tableOf hr = pre ++ x :: suf ∧ (∀ z ∈ pre, hPass own nm args s pc z) ∧ covers x pc = true ∧ x.catchType ≠ 0 ∧ (Cond.classLink own x.catchType nm).before args s = true ∧ (Cond.castable nm nm).before args s = true ∧ x.handlerPc = t
  | [], _, _, h2 => by cases h2
  | _ :: _, [], h, _ => h.elim
  | (x, y, t1, z9) :: r, (x2, y2, t2, ct) :: r2, h, h2 => by
    obtain ⟨⟨rfl, rfl, rfl, hct, nm2, e1, e2, e3⟩, hr⟩ := h
    simp only [hnd] at h2
    split at h2
    · rename_i hc
      simp only [Bool.and_eq_true] at hc
      split at h2
      · rename_i hz
        cases h2
        cases Nat.eq_of_beq_eq_true hz
        cases hnm.symm.trans e1
        refine ⟨[], ⟨x, y, t, ct⟩, tableOf r2, rfl, fun z hz => (by cases hz), ?_, hct, hW _ e2, hW _ e3, rfl⟩
        simp only [covers]
        have h1 : x ≤ pc := Nat.le_of_ble_eq_true hc.1
        have h3 : pc < y := by simpa using hc.2
        simp [h1, h3]
      · split at h2
        · rename_i hp
          simp only [Bool.and_eq_true, Bool.or_eq_true] at hp
          obtain ⟨hz0, hE⟩ := hp
          cases Nat.eq_of_beq_eq_true hz0
          cases e1
          obtain ⟨pre, x9, suf, f1, f2, f3⟩ := hnd_some hnm hW hN hr h2
          refine ⟨⟨x, y, t1, ct⟩ :: pre, x9, suf, by simp only [tableOf, List.map_cons, List.cons_append] at f1 ⊢; rw [f1], fun z hz => ?_, f3⟩
          rcases List.mem_cons.mp hz with rfl | hz
          · refine Or.inr ⟨hct, _, hW _ e2, ?_⟩
            rcases hE with hE | hE
            · cases Nat.eq_of_beq_eq_true hE
              cases hnm
              exact hN.1
            · cases Nat.eq_of_beq_eq_true hE
              cases hnm
              exact hN.2
          · exact f2 z hz
        · cases h2
    · rename_i hc
      obtain ⟨pre, x9, suf, f1, f2, f3⟩ := hnd_some hnm hW hN hr h2
      refine ⟨⟨x, y, t1, ct⟩ :: pre, x9, suf, by simp only [tableOf, List.map_cons, List.cons_append] at f1 ⊢; rw [f1], fun z hz => ?_, f3⟩
      rcases List.mem_cons.mp hz with rfl | hz
      · refine Or.inl ?_
        simp only [covers]
        by_cases h1 : x ≤ pc
        · have : ¬ pc < y := fun z => hc (by rw [Nat.ble_eq_true_of_le h1, Bool.true_and]; simpa using z)
          simp [this]
        · simp [h1]
      · exact f2 z hz
/-! a method's contract, out of its run -/
def rPc (D : va_G) (σ : Nat → Int32) (ρ : Nat → Nat) (κ : Nat → ClassId) (sz E : Nat) (aw : List rC) (as : List rV) : Array Value → State → Prop := va_Pc (as.map (cV ρ σ)) (fun U => U.heap.size = sz ∧ va_K D vwC9 [] U ∧ (∀ i t es, aw[i]? = some (.inl (t, es)) → va_K D vwC9 [(κ i, rTy t)] U) ∧ va_P D vwC9 (cW ρ κ σ 0 aw) U.heap ∧ va_D (fun _ => True) (cW ρ κ σ 0 aw) ∧ rSt (va_A (cW ρ κ σ 0 aw) sz) U E ∧ rThr U ∧ rNcs U ∧ rWd U)
def rAft (D : va_G) (σ : Nat → Int32) (ρ : Nat → Nat) (κ : Nat → ClassId) (A : Nat → Prop) (n : Nat) (aw1 : List rC) (t : State) (ρ' : Nat → Nat) (κ' : Nat → ClassId) : Prop :=
  rExt n ρ κ ρ' κ' ∧ (∀ i ty es, aw1[i]? = some (.inl (ty, es)) → va_K D vwC9 [(κ' i, rTy ty)] t) ∧ va_P D vwC9 (cW ρ' κ' σ 0 aw1) t.heap ∧ va_D A (cW ρ' κ' σ 0 aw1)
def rQc (D : va_G) (σ : Nat → Int32) (ρ : Nat → Nat) (κ : Nat → ClassId) (A : Nat → Prop) (n : Nat) (out : rR) (aw1 : List rC) : Array Value → State → Outcome → State → Prop := fun _ st o t =>
  (∃ (v : Option rV) (ρ' : Nat → Nat) (κ' : Nat → ClassId), out = .inl v ∧ o = .returned (v.map (cV ρ' σ)) ∧ rAft D σ ρ κ A n aw1 t ρ' κ') ∧ va_F A st t
def rXc (D : va_G) (σ : Nat → Int32) (ρ : Nat → Nat) (κ : Nat → ClassId) (A : Nat → Prop) (n : Nat) (out : rR) (aw1 : List rC) : String → State → State → Prop := fun nm st t =>
  (∃ (E : Nat) (ρ' : Nat → Nat) (κ' : Nat → ClassId), out = .inr (.inl E) ∧ exN[E]? = some nm ∧ rAft D σ ρ κ A n aw1 t ρ' κ') ∧ va_F A st t
theorem rSt_move {A A' : Nat → Prop} {s U : State} {E : Nat} {H : Heap} {locs : List Loc} (h : rSt A s E) (hS : va_S A s.heap H locs) (hU : U.heap = H) (hW : s.vm.Alike U.vm) (hA : ∀ q, A' q → A q) : rSt A' U E := by
  obtain ⟨h1, h2, h3, h4⟩ := h
  subst hU
  exact ⟨va_Z.narrow (va_Z.moved hW (va_Z.kept h1 hS.2.1)) hA, va_T.narrow (va_T.moved hW (va_T.kept h2 hS.2.1)) hA, vx_Zq.narrow (vx_Zq.moved hW (vx_Zq.kept h3 hS.2.1)) hA, vx_Zq.narrow (vx_Zq.moved hW (vx_Zq.kept h4 hS.2.1)) hA⟩
theorem rThr_move {s U : State} (h : rThr s) (hW : s.WarmedH U.vm) : rThr U := fun q hq => by
  obtain ⟨o, text, sa, h1, h2⟩ := h q hq
  exact ⟨o, text, sa, h1, vk_R.warm hW h2⟩
theorem rNcs_move {s U : State} (h : rNcs s) (hW : s.vm.Alike U.vm) : rNcs U := ⟨va_Nc.moved hW h.1, va_Nc.moved hW h.2⟩
theorem rPc_blind (hokw : ∀ w ∈ lwA, okw w = true) {D : va_G} {σ : Nat → Int32} {ρ : Nat → Nat} {κ : Nat → ClassId} {sz E : Nat} {aw : List rC} {as : List rV} : FrameBlind (rPc D σ ρ κ sz E aw as) := by
  intro a U g mk ⟨h0, h1, h2, h3, h4, h5, h6, h7, h8, h9⟩
  have hal : U.vm.Alike (U.calling g mk a).vm := Vm.Alike.refl U.vm
  have hwm : U.WarmedH (U.calling g mk a).vm := State.WarmedH.refl U
  have hvw : ∀ w ∈ lwA, w.before #[] U = true → w.before #[] (U.calling g mk a) = true := fun w hw h => okw_move (hokw w hw) hwm h
  refine ⟨h0, h1, va_K.moved hal h2, fun i t es hi => va_K.moved hal (h3 i t es hi), h4, h5, ?_, rThr_move h7 hwm, rNcs_move h8 hal, fun w hw => hvw w hw (h9 w hw)⟩
  exact rSt_move (H := U.heap) (locs := []) h6 va_S.rf rfl hal (fun _ z => z)
/-- what a run comes to, in a frame -/
def rEnd (p : Program) (l : Launch) (e : Env) (R : Room) (s : State) (m : MethodId) (args : Array Value) (below : List Frame) (meth : Method) (c : Code) (D : va_G) (A : Nat → Prop) (σ : Nat → Int32) (Q : State → Prop) (g : rG) (cc : ByteArray) (own : String) (rk stop : Nat) (ρ : Nat → Nat) (κ : Nat → ClassId) (n : Nat) (out : rR) (aw' : List rC) (kc' ks' : Nat) : Prop :=
  ∀ (ρ' : Nat → Nat) (κ' : Nat → ClassId) (H' : Heap) (locs' : List Loc), rExt n ρ κ ρ' κ' → rIv D A σ s ρ' κ' aw' H' locs' → (match out with
    | .inl v => ∀ (pc : Nat) (ls : Array Slot), decode cc pc = .ok (retI rk, 1) → okR rk v = true → W p l e R s m args below meth c H' locs' kc' ks' Q (F0 m pc ls (v.map (cV ρ' σ)).toList)
    | .inr (.inl E9) => (∀ (pc : Nat) (ls : Array Slot) (rest : List Value) (q : Addr) (ce : Cell) (nm : String), exN[E9]? = some nm → H'[q]? = some ce → ce.vm = .none → s.vm.findClass nm = some ce.cls → (∀ z ∈ c.exceptionTable.toList, hPass own nm args s pc z) → vx_W p l e R s m args below meth c H' locs' kc' ks' Q (F0 m pc ls rest) q) ∧
        (∀ (q : Nat × Nat × Nat × Nat × Nat × Bool) (pc : Nat) (ls : Array Slot) (st : List rV) (kc0 ks0 : Nat), q ∈ tT → q.2.2.2.2.1 = E9 → kc0 + 1 = kc' → ks0 + 6 = ks' → sumR st ≤ 8 → ls.size = c.maxLocals → clsN[q.1]? = some own → c.exceptionTable.toList = [] → (∀ x ∈ dkT q, decode cc (pc + x.1) = .ok (x.2.1, x.2.2)) → W p l e R s m args below meth c H' locs' kc0 ks0 Q (F0 m pc ls (st.map (cV ρ' σ))))
    | .inr (.inr (lv, st)) => ∀ (ls : Array Slot), lv_has ls g.2.2.2.1 (cL ρ' σ lv) → W p l e R s m args below meth c H' locs' kc' ks' Q (F0 m stop ls (st.map (cV ρ' σ))))
theorem rEnd.step (p : Program) (l : Launch) (e : Env) (R : Room) (s : State) (m : MethodId) (args : Array Value) (below : List Frame) (meth : Method) (c : Code) {D : va_G} {A : Nat → Prop} {σ : Nat → Int32} {Q : State → Prop} {g : rG} {cc : ByteArray} {own : String} {rk stop : Nat} {ρ ρ1 : Nat → Nat} {κ κ1 : Nat → ClassId} {n k : Nat} {out : rR} {aw' : List rC} {kc' ks' : Nat} (h : rEnd p l e R s m args below meth c D A σ Q g cc own rk stop ρ κ n out aw' kc' ks') (hx : rExt n ρ κ ρ1 κ1) (hk : n ≤ k) : rEnd p l e R s m args below meth c D A σ Q g cc own rk stop ρ1 κ1 k out aw' kc' ks' :=
  fun ρ' κ' H' locs' hx2 hI => h ρ' κ' H' locs' (hx.trans hx2 hk) hI
theorem lv_args_eq {ρ : Nat → Nat} {σ : Nat → Int32} : ∀ (as : List rV) (i : Nat), lv_args i (as.map (cV ρ σ)) = cL ρ σ (argR i as)
  | [], _ => rfl
  | v :: t, i => by
    have ih := fun j => lv_args_eq (ρ := ρ) (σ := σ) t j
    simp only [List.map_cons, lv_args, argR, cL, cV_cat] at ih ⊢
    rw [ih]
theorem lg_len {ρ : Nat → Nat} {σ : Nat → Int32} : ∀ (as : List rV), (lg_sl (as.map (cV ρ σ))).length = sumR as
  | [] => rfl
  | v :: t => by
    have ih := lg_len (ρ := ρ) (σ := σ) t
    simp only [lg_sl, List.map_cons, List.flatMap_cons, List.length_append, sumR, cV_cat] at ih ⊢
    rw [ih]
    rcases v with v | ⟨b, j⟩
    · cases v <;> simp [catR]
    · cases b <;> simp [catR]
theorem sumR_rev : ∀ (as : List rV), sumR as.reverse = sumR as := by
  have happ : ∀ a b : List rV, sumR (a ++ b) = sumR a + sumR b := by
    intro a b
    induction a with
    | nil => simp [sumR]
    | cons v t ih => simp only [List.cons_append, sumR, ih]; omega
  intro as
  induction as with
  | nil => rfl
  | cons v t ih => rw [List.reverse_cons, happ, ih]; simp only [sumR]; omega
theorem ex_mono (O : rO) (L : Nat) : ∀ (n : Nat) (fl : Bool) (stop id : Nat) (fr : rF) (out : rR) (aw' : List rC) (kc' ks' : Nat), ex O L n fl stop id fr = some (out, aw', kc', ks') → fr.2.2.2.2.1 ≤ kc' ∧ fr.2.2.2.2.2 ≤ ks' ∧ fr.2.2.2.1.length ≤ aw'.length := by
  intro n
  induction n with
  | zero => intro fl stop id fr out aw' kc' ks' h; simp only [ex] at h; cases h
  | succ n ih =>
    intro fl stop id fr out aw' kc' ks' h
    obtain ⟨lv, st, pc, aw, kc, ks⟩ := fr
    simp only [ex] at h
    split at h
    · cases h
      exact ⟨Nat.le_refl _, Nat.le_refl _, Nat.le_refl _⟩
    · split at h
      · rename_i op a o rk hh nL ini hlk hmi
        split at h
        · split at h
          · split at h
            · split at h
              · rename_i t ht fr' hs hm
                simp only [Bool.and_eq_true] at hm
                obtain ⟨i1, i2, i3⟩ := ih _ _ _ _ _ _ _ _ h
                exact ⟨Nat.le_trans (Nat.le_of_ble_eq_true hm.1.1) i1, Nat.le_trans (Nat.le_of_ble_eq_true hm.1.2) i2, Nat.le_trans (Nat.le_of_ble_eq_true hm.2) i3⟩
              · cases h
            · cases h
          · cases h
        · split at h
          · split at h
            · split at h
              · cases h
                exact ⟨Nat.le_refl _, Nat.le_refl _, Nat.le_refl _⟩
              · cases h
            · split at h
              · cases h
                exact ⟨Nat.le_refl _, Nat.le_refl _, Nat.le_refl _⟩
              · cases h
            · cases h
          · split at h
            · split at h
              · split at h
                · split at h
                  · split at h
                    · rename_i hl
                      obtain ⟨i1, i2, i3⟩ := ih _ _ _ _ _ _ _ _ h
                      exact ⟨Nat.le_trans (Nat.le_add_right _ _) i1, Nat.le_trans (Nat.le_add_right _ _) i2, Nat.le_trans (Nat.le_of_ble_eq_true hl) i3⟩
                    · cases h
                  · split at h
                    · rename_i hl
                      simp only [Bool.and_eq_true] at hl
                      have hl1 := Nat.le_of_ble_eq_true hl.1.1
                      split at h
                      · cases h
                        exact ⟨Nat.le_add_right _ _, Nat.le_add_right _ _, hl1⟩
                      · split at h
                        · split at h
                          · obtain ⟨i1, i2, i3⟩ := ih _ _ _ _ _ _ _ _ h
                            exact ⟨Nat.le_trans (Nat.le_add_right _ _) i1, Nat.le_trans (Nat.le_add_right _ _) i2, Nat.le_trans hl1 i3⟩
                          · split at h
                            · obtain ⟨i1, i2, i3⟩ := ih _ _ _ _ _ _ _ _ h
                              exact ⟨Nat.le_trans (Nat.le_add_right _ _) i1, Nat.le_trans (Nat.le_add_right _ _) i2, Nat.le_trans hl1 i3⟩
                            · cases h
                        · cases h
                      · cases h
                    · cases h
                  · cases h
                · cases h
              · cases h
            · split at h
              · split at h
                · split at h
                  · cases h
                    exact ⟨Nat.le_add_right _ _, Nat.le_add_right _ _, Nat.le_refl _⟩
                  · cases h
                · cases h
              · cases h
      · cases h
