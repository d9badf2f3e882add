def mW (y : MethodName) (cc : ByteArray) (nL : Nat) (ret : Option FieldType) (hr : List (Nat × Nat × Nat × Nat)) : Cond := match hr with
  | [] => .code y cc nL ret
  | _ :: _ => .codeWith y cc nL ret hr
/-- what is known of the method i -/
def rMeth (i : Nat) : Prop := ∀ (o rk : Nat) (hh : List (Nat × Nat × Nat × Nat)) (nL : Nat) (ini : Bool), mI[i]? = some (o, rk, hh, nL, ini) → ∃ (y : MethodName) (cc : ByteArray) (ret : Option FieldType) (hr : List (Nat × Nat × Nat × Nat)), mS[i]? = some (y, cc, ret, hr) ∧ clsN[o]? = some y.cls ∧ plainName y.cls = true ∧ (y.cls ≠ "java/lang/invoke/MethodHandle" ∧ y.cls ≠ "java/lang/invoke/VarHandle") ∧ mW y cc nL ret hr ∈ lwA ∧ Cond.initialized y.cls ∈ lwA ∧ retOk rk ret ∧ (ini = true → y.name = "<init>") ∧ hRel y.cls hh hr ∧ rDec i rk cc ∧ nL ≤ 40
/-- what is known of a throw -/
def rThF (q : Nat × Nat × Nat × Nat × Nat × Bool) : Prop := ∃ (o nm : String) (names : List String), clsN[q.1]? = some o ∧ exN[q.2.2.2.2.1]? = some nm ∧ names.length = 2 ∧ Bundle.fit nm = true ∧ (∀ n ∈ names, Bundle.fit n = true) ∧ Cond.classLink o q.2.1 nm ∈ lwA ∧ Cond.initialized nm ∈ lwA ∧ (∀ w ∈ vx_atS o q.2.2.2.1 nm names, w ∈ lwA) ∧ ∀ w ∈ Cond.classLink o q.2.1 nm :: Cond.initialized nm :: vx_atS o q.2.2.2.1 nm names, vx_ot w = true
def exOk (O : rO) (L n : Nat) : Prop := ∀ (fl : Bool) (stop id : Nat) (fr : rF) (out : rR) (aw' : List rC) (kc' ks' : Nat), ex O L n fl stop id fr = some (out, aw', kc', ks') →
  ∀ (p : Program) (l : Launch) (e : Env) (R : Room) (s : State) (m : MethodId) (args : Array Value) (below : List Frame) (meth : Method) (c : Code) (D : va_G) (A : Nat → Prop) (σ : Nat → Int32) (Q : State → Prop) (o rk : Nat) (hh : List (Nat × Nat × Nat × Nat)) (nL : Nat) (ini : Bool) (cc : ByteArray) (own : String) (E b : Nat) (xs : Nat → Int32) (hr : List (Nat × Nat × Nat × Nat)),
    mI[id]? = some (o, rk, hh, nL, ini) → rX p R s m args meth c D A σ (O, L, fl, nL, o, ini) cc own E b xs → rDec id rk cc → hRel own hh hr → (fl = true ∨ c.exceptionTable.toList = tableOf hr) → l.stackTraces = false → rThr s → rNcs s → rWd s → n + 8 ≤ R.frames → 64 * n + 200 ≤ R.locals → kc' ≤ R.cells → ks' ≤ R.slots →
    ∀ (ρ : Nat → Nat) (κ : Nat → ClassId), ρ 1000 = E → ρ 1001 = b → rEnd p l e R s m args below meth c D A σ Q (O, L, fl, nL, o, ini) cc own rk stop ρ κ fr.2.2.2.1.length out aw' kc' ks' → rGo p l e R s m args below meth c D A σ nL Q ρ κ fr
theorem lt_of_P {D : va_G} {cl : List vw_C} {ws : va_W} {H1 : Heap} (h : va_P D cl ws H1) : ∀ (k : Nat) (q : Nat × va_E), ws[k]? = some q → q.1 < H1.size := fun _ _ hk => vx_lt h hk
theorem keep_P {D : va_G} {cl : List vw_C} {ws : va_W} {H1 H2 : Heap} (h : va_P D cl ws H1) (h2 : ∀ q : Nat, q < H1.size → H2[q]? = H1[q]?) : va_P D cl ws H2 := va_P.kept h (fun k q hk => h2 _ (lt_of_P h k q hk))
theorem met_of {O : rO} {L n : Nat} (hih : exOk O L n) (hM : ∀ i, i ≠ 0 → rMeth i) (hTT : ∀ q ∈ tT, rThF q) (hokw : ∀ w ∈ lwA, okw w = true) {l : Launch} (hl : l.stackTraces = false) {id o rk : Nat} (hid : id ≠ 0) {hh : List (Nat × Nat × Nat × Nat)} {nL : Nat} {ini : Bool} (hmi : mI[id]? = some (o, rk, hh, nL, ini)) {y : MethodName} {cc : ByteArray} {ret : Option FieldType} {hr : List (Nat × Nat × Nat × Nat)} (hms : mS[id]? = some (y, cc, ret, hr)) {aw : List rC} {as : List rV} {out : rR} {aw1 : List rC} {mc ms : Nat}
    (hex : ex O L n false 100000 id (argR 0 as, [], 0, aw, 0, 0) = some (out, aw1, mc, ms)) (hns : ∀ z, out ≠ .inr (.inr z)) (hnl : sumR as ≤ nL) (D : va_G) (σ : Nat → Int32) (ρ : Nat → Nat) (κ : Nat → ClassId) (sz : Nat) (hO : rOr O σ) :
    vx_Met l y [mW y cc nL ret hr] { frames := n + 8, cells := mc, slots := ms, locals := 64 * n + 200 } (rPc D σ ρ κ sz (ρ 1000) aw as) (rQc D σ ρ κ (va_A (cW ρ κ σ 0 aw) sz) aw.length out aw1) (rXc D σ ρ κ (va_A (cW ρ κ σ 0 aw) sz) aw.length out aw1) mc ms (va_A (cW ρ κ σ 0 aw) sz) := by
  obtain ⟨y9, cc9, ret9, hr9, e9, f1, f2, f3, f4, f5, f6, f7, f8, f9, f10⟩ := hM id hid o rk hh nL ini hmi
  cases hms.symm.trans e9
  have key : ∀ (p : Program) (e : Env) (s : State) (m : MethodId) (args : Array Value) (below : List Frame) (meth : Method) (c : Code) (s₁ : State), BodyLoose p l y (headSpec [mW y cc nL ret hr] { frames := n + 8, cells := mc, slots := ms, locals := 64 * n + 200 }) cc nL ret e s m args below meth c s₁ → c.maxLocals = nL → c.exceptionTable.toList = tableOf hr → rPc D σ ρ κ sz (ρ 1000) aw as args s →
      W p l e (headSpec [mW y cc nL ret hr] { frames := n + 8, cells := mc, slots := ms, locals := 64 * n + 200 }).room s m args below meth c s.heap [] 0 0 (vx_MQ below (rQc D σ ρ κ (va_A (cW ρ κ σ 0 aw) sz) aw.length out aw1) (rXc D σ ρ κ (va_A (cW ρ κ σ 0 aw) sz) aw.length out aw1) args s mc ms (va_A (cW ρ κ σ 0 aw) sz)) (entryFrame m args nL) := by
    intro p e s m args below meth c s₁ B hml htab hv
    obtain ⟨rfl, hsz, hK, hKa, hP, hD0, hSt, hTh, hNc, hW⟩ := hv
    subst hsz
    have hown : s.vm.findClass y.cls = some m.cls := findClass_of_methodNamed B.named
    have hname : meth.name = y.name := (name_of_methodNamed B.named B.method).1
    have hlk : meth.locks = false := B.notSynchronized
    have hrt : meth.sig.returnType = ret := B.returns
    have hWa : ∀ w ∈ lwA, w.before (as.map (cV ρ σ)).toArray s = true := fun w hw => okw_move (hokw w hw) (State.WarmedH.refl s) (hW w hw)
    have hl0 := lv_entry (as.map (cV ρ σ)) (n := nL) (by rw [lg_len]; exact hnl)
    rw [lg_entry_eq]
    rw [lv_args_eq] at hl0
    have X : rX p (headSpec [mW y cc nL ret hr] { frames := n + 8, cells := mc, slots := ms, locals := 64 * n + 200 }).room s m (as.map (cV ρ σ)).toArray meth c D (va_A (cW ρ κ σ 0 aw) s.heap.size) σ (O, L, false, nL, o, ini) cc y.cls (ρ 1000) (ρ 1001) σ :=
      ⟨B.exec, B.bytes, hml, hown, hlk, hK, fun q h => Or.inr h, hWa, ⟨Nat.le_add_left 8 n, Nat.le_add_left 200 (64 * n)⟩, hSt, fun h => (by cases h), hO, f1, fun h => hname.trans (f7 h)⟩
    refine hih _ _ _ _ _ _ _ _ hex p l e _ s m _ below meth c D _ σ _ o rk hh nL ini cc y.cls (ρ 1000) (ρ 1001) σ hr hmi X f9 f8 (Or.inr htab) hl hTh hNc hW (Nat.le_refl _) (Nat.le_refl _) (Nat.le_refl _) (Nat.le_refl _) ρ κ rfl rfl ?_ s.heap [] _ ⟨hKa, hP, hD0.self, va_S.rf⟩ hl0
    intro ρ' κ' H' locs' hx hI
    have hQ : ∀ v, out = .inl v → ∀ t : State, t.heap = H' → s.WarmedH t.vm → rQc D σ ρ κ (va_A (cW ρ κ σ 0 aw) s.heap.size) aw.length out aw1 (as.map (cV ρ σ)).toArray s (.returned (v.map (cV ρ' σ))) t := fun v hv t ht hW2 =>
      ⟨⟨v, ρ', κ', hv, rfl, hx, fun i ty es hi => va_K.moved hW2.alike (hI.1 i ty es hi), by rw [ht]; exact hI.2.1, hI.2.2.1⟩, hI.2.2.2.F ht⟩
    have hf : ∀ q ∈ locs', va_A (cW ρ κ σ 0 aw) s.heap.size q.base := hI.2.2.2.2.2
    rcases out with v | E | z
    · intro pc ls hd hok
      have hQv := hQ v rfl
      refine vx_ret ?_
      match rk, v, hok, hd, f6 with
      | 0, none, _, hd, f6 => exact W.vret B.exec B.bytes (hrt.trans f6) hQv hf hd hlk
      | 1, some u, hok, hd, f6 =>
        have hi : isI u = true := hok
        simp only [Option.map_some, Option.toList_some] at hQv ⊢
        rw [cV_int hi] at hQv ⊢
        exact W.iret B.exec B.bytes (hrt.trans f6) hQv hf hd hlk
      | 2, some u, hok, hd, f6 =>
        have hi : isL u = true := hok
        simp only [Option.map_some, Option.toList_some] at hQv ⊢
        rw [cV_long hi] at hQv ⊢
        exact W.lret B.exec B.bytes (hrt.trans f6) hQv hf hd hlk
      | 3, some u, hok, hd, f6 =>
        have hi : isR u = true := hok
        obtain ⟨ty, h1, h2⟩ := f6
        refine W.aret B.exec B.bytes (hrt.trans h1) h2 ?_ hQv hf hd hlk
        unfold isR at hi
        split at hi
        · exact Or.inr ⟨_, rfl⟩
        · exact Or.inl rfl
        · cases hi
      | 4, some (.inl (.float z)), hok, hd, f6 => exact W.fret B.exec B.bytes (hrt.trans f6) hQv hf hd hlk
      | 5, some (.inl (.double z)), hok, hd, f6 => exact W.dret B.exec B.bytes (hrt.trans f6) hQv hf hd hlk
      | 6, some (.inl (.int z)), hok, hd, f6 =>
        have hz : z = 0 ∨ z = 1 := by simpa [okR] using hok
        refine W.zret B.exec B.bytes (hrt.trans f6) ?_ hQv hf hd hlk
        rcases hz with rfl | rfl <;> rfl
      | 7, some (.inl (.int z)), hok, hd, f6 =>
        have hz : z = 112 := by simpa [okR] using hok
        refine W.zret B.exec B.bytes (hrt.trans f6) ?_ hQv hf hd hlk
        rw [hz]
        rfl
    · refine ⟨fun pc ls rest q ce nm hnm hq hv hcl hpass => ?_, fun q pc ls st kc0 ks0 hq he hk1 hk2 hsum hls hclq htab0 hdk => ?_⟩
      · exact vx_outP hown hlk hpass hq hv hcl (fun t ht hal => ⟨⟨E, ρ', κ', rfl, hnm, hx, fun i ty es hi => va_K.moved hal (hI.1 i ty es hi), by rw [ht]; exact hI.2.1, hI.2.2.1⟩, hI.2.2.2.F ht⟩) hf (Nat.le_refl _) (Nat.le_refl _)
      · obtain ⟨o2, nm, names, g1, g2, g3, g4, g5, g6, g7, g8, g9⟩ := hTT q hq
        cases hclq.symm.trans g1
        obtain ⟨o3, text, sa, k1, k2⟩ := hTh q hq
        cases hclq.symm.trans k1
        have hXC : ∀ t : State, s.vm.Alike t.vm → H'.size ≤ t.heap.size → (∀ q : Nat, q < H'.size → t.heap[q]? = H'[q]?) → rXc D σ ρ κ (va_A (cW ρ κ σ 0 aw) s.heap.size) aw.length (.inr (.inl E)) aw1 nm s t := fun t hal h1 h2 =>
          ⟨⟨E, ρ', κ', rfl, by rw [← he]; exact g2, hx, fun i ty es hi => va_K.moved hal (hI.1 i ty es hi), keep_P hI.2.1 h2, hI.2.2.1⟩, ⟨Nat.le_trans hI.2.2.2.1 h1, fun q h3 h4 => (h2 q (Nat.lt_of_lt_of_le h3 hI.2.2.2.1)).trans (hI.2.2.2.2.1 q h3 h4)⟩⟩
        have hout : ∀ z9 : Nat, ∀ x ∈ c.exceptionTable.toList, covers x z9 = false := fun z9 x hx9 => by rw [htab0] at hx9; cases hx9
        obtain ⟨q1, q2, q3, q4, q5, q6⟩ := q
        cases q6 with
        | false =>
          have d0 := hdk (0, .new q2, 3) List.mem_cons_self
          have d3 := hdk (3, .dup, 1) (List.mem_cons_of_mem _ List.mem_cons_self)
          have d4 := hdk (4, .ldc q3, 2) (List.mem_cons_of_mem _ (List.mem_cons_of_mem _ List.mem_cons_self))
          have d6 := hdk (6, .invokespecial q4, 3) (List.mem_cons_of_mem _ (List.mem_cons_of_mem _ (List.mem_cons_of_mem _ List.mem_cons_self)))
          have d9 := hdk (9, .athrow, 1) (List.mem_cons_of_mem _ (List.mem_cons_of_mem _ (List.mem_cons_of_mem _ (List.mem_cons_of_mem _ List.mem_cons_self))))
          exact vx_throwS (names := names) B.exec B.bytes hl hown g4 g5 (hWa _ g6) (hWa _ g7) k2 (fun w hw => hWa _ (g8 w hw)) g9 hSt.2.2.1 hSt.2.2.2 hI.2.2.2 hls d0 d3 d4 d6 d9 (hout _) (by rw [g3]; show 2 + 3 < n + 8; omega) (by rw [sumR_eq, g3]; show _ ≤ 64 * n + 200; omega) (by show kc0 + 1 ≤ mc; omega) (by show ks0 + 6 ≤ ms; omega) hlk hXC hf (Nat.le_of_eq hk1) (Nat.le_of_eq hk2)
        | true =>
          have d0 := hdk (0, .new q2, 3) List.mem_cons_self
          have d3 := hdk (3, .dup, 1) (List.mem_cons_of_mem _ List.mem_cons_self)
          have d4 := hdk (4, .ldc_w q3, 3) (List.mem_cons_of_mem _ (List.mem_cons_of_mem _ List.mem_cons_self))
          have d7 := hdk (7, .invokespecial q4, 3) (List.mem_cons_of_mem _ (List.mem_cons_of_mem _ (List.mem_cons_of_mem _ List.mem_cons_self)))
          have d10 := hdk (10, .athrow, 1) (List.mem_cons_of_mem _ (List.mem_cons_of_mem _ (List.mem_cons_of_mem _ (List.mem_cons_of_mem _ List.mem_cons_self))))
          exact vx_throwSW (names := names) B.exec B.bytes hl hown g4 g5 (hWa _ g6) (hWa _ g7) k2 (fun w hw => hWa _ (g8 w hw)) g9 hSt.2.2.1 hSt.2.2.2 hI.2.2.2 hls d0 d3 d4 d7 d10 (hout _) (by rw [g3]; show 2 + 3 < n + 8; omega) (by rw [sumR_eq, g3]; show _ ≤ 64 * n + 200; omega) (by show kc0 + 1 ≤ mc; omega) (by show ks0 + 6 ≤ ms; omega) hlk hXC hf (Nat.le_of_eq hk1) (Nat.le_of_eq hk2)
    · exact absurd rfl (hns z)
  cases hr with
  | nil =>
    exact vx_ofW f2 rfl (fun p e s m args below meth c s₁ B hml ht hv => key p e s m args below meth c s₁ B hml (List.eq_nil_iff_forall_not_mem.mpr (fun x hx => ht x hx)) hv)
  | cons z0 zr =>
    exact vx_ofWH f2 rfl (fun p e s m args below meth c s₁ B hml hv => key p e s m args below meth c s₁ B hml (vx_table (x := y) B (atoms_spec (ws := [mW y cc nL ret (z0 :: zr)]) B.pre _ List.mem_cons_self)) hv)
