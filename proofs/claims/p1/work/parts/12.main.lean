/-- what is known of a call -/
def arOk (d : String) (k : Nat) : Prop := (parseMethodDescriptor d).map (fun d => d.parameters.length) = some k
def rCall (q : Nat × Nat × Nat × Nat × Nat × Nat × Nat) : Prop := ∃ (o : String) (y : MethodName) (cc : ByteArray) (ret : Option FieldType) (hr : List (Nat × Nat × Nat × Nat)), clsN[q.2.1]? = some o ∧ mS[q.2.2.2.1]? = some (y, cc, ret, hr) ∧ q.2.2.2.1 ≠ 0 ∧ (match q.1 with
  | 0 => hr = [] ∧ (∃ (T : u_T) (N : Nat), vwC9[q.2.2.2.2.2.1]? = some (y.cls, T, N)) ∧ Cond.methodLink o q.2.2.1 y ∈ lwA ∧ Cond.instanceMethod y ∈ lwA ∧ Cond.selects y.cls y y ∈ lwA ∧ 1 ≤ q.2.2.2.2.1 ∧ arOk y.desc (q.2.2.2.2.1 - 1)
  | 1 => hr = [] ∧ ret = none ∧ y.name = "<init>" ∧ Cond.methodLink o q.2.2.1 y ∈ lwA ∧ Cond.instanceMethod y ∈ lwA ∧ 1 ≤ q.2.2.2.2.1 ∧ arOk y.desc (q.2.2.2.2.1 - 1)
  | 2 => hr = [] ∧ Cond.methodLink o q.2.2.1 y ∈ lwA ∧ Cond.static y ∈ lwA ∧ arOk y.desc q.2.2.2.2.1
  | 3 => hr = [] ∧ ret = none ∧ y.name = "<init>" ∧ (∃ host : String, Cond.methodLinkNest o q.2.2.1 y host ∈ lwA) ∧ Cond.instanceMethod y ∈ lwA ∧ 1 ≤ q.2.2.2.2.1 ∧ arOk y.desc (q.2.2.2.2.1 - 1)
  | 4 => hr = [] ∧ (∃ (x : MethodName) (C : String) (T : u_T) (N : Nat), vwC9[q.2.2.2.2.2.1]? = some (C, T, N) ∧ Cond.methodLink o q.2.2.1 x ∈ lwA ∧ Cond.declares x ∈ lwA ∧ Cond.interfaceMethod x.cls x.cls x.name x.desc ∈ lwA ∧ Cond.selects C x y ∈ lwA ∧ Cond.instanceMethod y ∈ lwA ∧ Cond.publicMethod y ∈ lwA ∧ Cond.unhidden C x.name x.desc ∈ lwA ∧ Cond.castable C x.cls ∈ lwA ∧ arOk x.desc (q.2.2.2.2.1 - 1) ∧ (x.cls ≠ "java/lang/invoke/MethodHandle" ∧ x.cls ≠ "java/lang/invoke/VarHandle")) ∧ 1 ≤ q.2.2.2.2.1
  | 5 => hr ≠ [] ∧ Cond.methodLink o q.2.2.1 y ∈ lwA ∧ Cond.static y ∈ lwA ∧ arOk y.desc q.2.2.2.2.1
  | _ => False)
def rRun (p : Program) (l : Launch) (e : Env) (R : Room) (s : State) (m : MethodId) (args : Array Value) (below : List Frame) (meth : Method) (c : Code) (H : Heap) (locs : List Loc) (cells slots mc ms : Nat) (g : JFrame) (rest : List Value) (len : Nat) (Qa : State → Outcome → State → Prop) (XC : String → State → State → Prop) (free : Addr → Prop) : Prop :=
  ∀ T : State, T.heap = H → Stand p l e R s m args below meth c T locs cells slots →
    (∃ (v : Option Value) (st₀ t T' : State) (L : List Loc), st₀.heap = H ∧ Stand p l e R s m args below meth c T' (locs ++ L) (cells + mc) (slots + ms) ∧ (∀ q ∈ L, free q.base) ∧ T'.heap = t.heap ∧ T'.vm = t.vm ∧ Qa st₀ (.returned v) t ∧
      Goes p e below T g T' { g with pc := g.pc + len, stack := v.toList ++ rest }) ∨
    (∃ (q : Addr) (st₀ t T' : State) (L : List Loc) (E : String) (ce : Cell), st₀.heap = H ∧ Stand p l e R s m args below meth c T' (locs ++ L) (cells + mc) (slots + ms) ∧ (∀ z ∈ L, free z.base) ∧ T'.heap = t.heap ∧ T'.vm = t.vm ∧ XC E st₀ t ∧ t.heap[q]? = some ce ∧ ce.vm = .none ∧ s.vm.findClass E = some ce.cls ∧
      Steps p.tables e below (T.setTop g) ((T'.setTop { g with stack := rest }).pushFrame (.throwing q)))
theorem call_W (p : Program) (l : Launch) (e : Env) (R : Room) (s : State) (m : MethodId) (args : Array Value) (below : List Frame) (meth : Method) (c : Code) {D : va_G} {A A1 : Nat → Prop} {σ : Nat → Int32} {Q : State → Prop} {ρ : Nat → Nat} {κ : Nat → ClassId} {H : Heap} {locs : List Loc} {kc ks mc ms pc : Nat} {ls : Array Slot} {st0 rest : List Value} {len n : Nat} {out : rR} {aw1 : List rC} {av : Array Value}
    (hr : rRun p l e R s m args below meth c H locs kc ks mc ms (F0 m pc ls st0) rest len (rQc D σ ρ κ A1 n out aw1 av) (rXc D σ ρ κ A1 n out aw1) A1) (hS : va_S A s.heap H locs) (hA1 : ∀ q, A1 q → A q)
    (kk : ∀ (v : Option rV) (ρ' : Nat → Nat) (κ' : Nat → ClassId) (H1 : Heap) (locs1 : List Loc), out = .inl v → rExt n ρ κ ρ' κ' → rIv D A σ s ρ' κ' aw1 H1 locs1 → W p l e R s m args below meth c H1 locs1 (kc + mc) (ks + ms) Q (F0 m (pc + len) ls ((v.map (cV ρ' σ)).toList ++ rest)))
    (kx : ∀ (E : Nat) (nm : String) (ρ' : Nat → Nat) (κ' : Nat → ClassId) (H1 : Heap) (locs1 : List Loc) (q : Addr) (ce : Cell), out = .inr (.inl E) → exN[E]? = some nm → rExt n ρ κ ρ' κ' → rIv D A σ s ρ' κ' aw1 H1 locs1 → H1[q]? = some ce → ce.vm = .none → s.vm.findClass nm = some ce.cls → vx_W p l e R s m args below meth c H1 locs1 (kc + mc) (ks + ms) Q (F0 m pc ls rest) q) :
    W p l e R s m args below meth c H locs kc ks Q (F0 m pc ls st0) := by
  intro T hT X
  rcases hr T hT X with ⟨v, st₀, t, T', L, h0, X', hL, e1, e2, ⟨⟨v9, ρ', κ', ho, hv, hAft⟩, hF⟩, st⟩ | ⟨q, st₀, t, T', L, E, ce, h0, X', hL, e1, e2, ⟨⟨E9, ρ', κ', ho, hnm, hAft⟩, hF⟩, hce, hcv, hcl, st⟩
  · cases hv
    obtain ⟨k1, k2, k3⟩ := vx_keep h0 e1 hS (fun q _ z => hA1 q z) (fun q z => hA1 q z) hL hF
    obtain ⟨x1, x2, x3, x4⟩ := hAft
    have hal : s.vm.Alike t.vm := by rw [← e2]; exact X'.warmed.alike
    obtain ⟨t2, a1, b1⟩ := kk v9 ρ' κ' T'.heap (locs ++ L) ho x1 ⟨fun i ty es hi => va_K.moved hal.symm (x2 i ty es hi), by rw [e1]; exact x3, va_D.weaken x4 (fun _ _ _ z => hA1 _ z), k3⟩ T' rfl X'
    exact ⟨t2, st t2 a1, b1⟩
  · obtain ⟨k1, k2, k3⟩ := vx_keep h0 e1 hS (fun q _ z => hA1 q z) (fun q z => hA1 q z) hL hF
    obtain ⟨x1, x2, x3, x4⟩ := hAft
    have hal : s.vm.Alike t.vm := by rw [← e2]; exact X'.warmed.alike
    obtain ⟨t2, a1, b1⟩ := kx E9 E ρ' κ' T'.heap (locs ++ L) q ce ho hnm x1 ⟨fun i ty es hi => va_K.moved hal.symm (x2 i ty es hi), by rw [e1]; exact x3, va_D.weaken x4 (fun _ _ _ z => hA1 _ z), k3⟩ (by rw [e1]; exact hce) hcv hcl T' rfl X'
    exact ⟨t2, st.trans a1, b1⟩
theorem lv_tail {ls : Array Slot} {nL : Nat} {x : Nat × Value} {l : List (Nat × Value)} (h : lv_has ls nL (x :: l)) : lv_has ls nL l := ⟨h.1, h.2.1, fun q hq => h.2.2 q (List.mem_cons_of_mem _ hq)⟩
theorem dropL_eq {ρ : Nat → Nat} {σ : Nat → Int32} (lv : rL) (i : Nat) : (cL ρ σ lv).filter (fun q => !(q.1 == i) && !(q.1 + 1 == i && q.2.category == 2)) = cL ρ σ (dropL lv i) := by
  rw [cL_filter (f := fun q => !(q.1 == i) && !(q.1 + 1 == i && catR q.2 == 2)) (fun q => by simp only [cV_cat])]
  rfl
theorem wfL_drop {n : Nat} {lv : rL} {i : Nat} (h : wfL n lv = true) : wfL n (dropL lv i) = true := by
  unfold wfL dropL at *
  rw [List.all_eq_true] at h ⊢
  intro x hx
  exact h x (List.mem_filter.mp hx).1
theorem ex_ok (O : rO) (L : Nat) (hM : ∀ i, i ≠ 0 → rMeth i) (hTT : ∀ q ∈ tT, rThF q) (hCT : ∀ q ∈ cT, rCall q) (hokw : ∀ w ∈ lwA, okw w = true) (hop : ∀ t ∈ opT, rOk t.1 t.2) (h9 : opT[9]? = some ((fun a => [(0, .astore_n (Fin.ofNat 4 a.toNat), 1)]), sSt isA 1)) (h10 : opT[10]? = some ((fun a => [(0, .astore a.toNat, 2)]), sSt isA 2)) : ∀ n, exOk O L n := by
  intro n
  induction n with
  | zero =>
    intro fl stop id fr out aw' kc' ks' h
    simp only [ex] at h
    cases h
  | succ n ih =>
    intro fl stop id fr out aw' kc' ks' h p l e R s m args below meth c D A σ Q o rk hh nL ini cc own E b xs hr hmi X hdec hrel htab hl hTh hNc hWd hfr hlo hkc hks ρ κ hE hb hEnd
    obtain ⟨lv, st, pc, aw, kc, ks⟩ := fr
    simp only [ex] at h
    split at h
    · rename_i hst
      cases h
      cases Nat.eq_of_beq_eq_true hst
      exact fun H locs ls hI hlv => hEnd ρ κ H locs rExt.rf hI ls hlv
    · split at h
      · rename_i op a o1 rk1 hh1 nL1 ini1 hlk hmi1
        cases hmi.symm.trans hmi1
        have hdk := look_dec hdec hlk
        split at h
        · rename_i hop1
          have hdk0 : dkAll rk op a = (match opT[op]? with | some t => t.1 a | none => []) := by simp only [dkAll, hop1, if_true]; rfl
          split at h
          · rename_i t ht
            rw [hdk0, ht] at hdk
            split at h
            · rename_i fr' hs
              split at h
              · rename_i hm
                simp only [Bool.and_eq_true] at hm
                have hmono := ex_mono O L _ _ _ _ _ _ _ _ _ h
                have hlen : aw.length ≤ fr'.2.2.2.1.length := Nat.le_of_ble_eq_true hm.2
                refine hop t (List.mem_of_getElem? ht) p l e R s m args below meth c D A σ Q (O, L, fl, nL, o, ini) cc own E b xs a (lv, st, pc, aw, kc, ks) fr' X hdk hs (Nat.le_trans hmono.1 hkc) (Nat.le_trans hmono.2.1 hks) ρ κ hE hb (fun ρ1 κ1 hx1 => ?_)
                exact ih fl stop id fr' out aw' kc' ks' h p l e R s m args below meth c D A σ Q o rk hh nL ini cc own E b xs hr hmi X hdec hrel htab hl hTh hNc hWd (by omega) (by omega) hkc hks ρ1 κ1 ((hx1.1 1000 (Or.inr (by decide))).trans hE) ((hx1.1 1001 (Or.inr (by decide))).trans hb) (rEnd.step p l e R s m args below meth c hEnd hx1 hlen)
              · cases h
            · cases h
          · cases h
        · rename_i hop1
          split at h
          · rename_i hop2
            have hdk0 : dkAll rk op a = [(0, retI rk, 1)] := by simp only [dkAll, hop1, hop2, if_true]; rfl
            rw [hdk0] at hdk
            have d := hdk _ List.mem_cons_self
            split at h
            · split at h
              · rename_i hok
                cases h
                exact fun H locs ls hI hlv => hEnd ρ κ H locs rExt.rf hI pc ls d hok
              · cases h
            · split at h
              · rename_i hok
                cases h
                exact fun H locs ls hI hlv => hEnd ρ κ H locs rExt.rf hI pc ls d hok
              · cases h
            · cases h
          · rename_i hop2
            split at h
            · rename_i hop3
              split at h
              · rename_i kind oc ix tgt na ci cnt hq
                have hdk0 : dkAll rk op a = [(0, callR (kind, oc, ix, tgt, na, ci, cnt), if Nat.beq kind 4 then 5 else 3)] := by simp only [dkAll, hop1, hop2, hop3, hq, if_true]; rfl
                rw [hdk0] at hdk
                have dq := hdk _ List.mem_cons_self
                have d : decode cc pc = .ok (callR (kind, oc, ix, tgt, na, ci, cnt), if Nat.beq kind 4 then 5 else 3) := dq
                split at h
                · rename_i hcnd
                  simp only [Bool.and_eq_true, Bool.or_eq_true] at hcnd
                  obtain ⟨⟨hoc, hna⟩, ⟨hsum, hwl⟩, ⟨hwr, hn9⟩, hrc, hnl⟩ := hcnd
                  have hna : na ≤ st.length := Nat.le_of_ble_eq_true hna
                  have hsum : sumR (st.drop na) ≤ 8 := Nat.le_of_ble_eq_true hsum
                  obtain ⟨ow, y, cc2, ret2, hr2, g1, g2, gne, g3⟩ := hCT _ (List.mem_of_getElem? hq)
                  cases own_eq X.2.2.2.2.2.2.2.2.2.2.2.2.1 g1 hoc
                  -- the callee
                  have hcal : ∃ o2 rk2 hh2 nL2 ini2, mI[tgt]? = some (o2, rk2, hh2, nL2, ini2) ∧ sumR (st.take na) ≤ nL2 := by
                    unfold nLok at hnl
                    split at hnl
                    · rename_i o2 rk2 hh2 nL2 ini2 hm2
                      exact ⟨o2, rk2, hh2, nL2, ini2, hm2, Nat.le_of_ble_eq_true hnl⟩
                    · cases hnl
                  obtain ⟨o2, rk2, hh2, nL2, ini2, hm2, hnl2⟩ := hcal
                  obtain ⟨y9, cc9, ret9, hr9, e9, f1, f2, f3, f4, f5, f6, f7, f8, f9, f10⟩ := hM tgt gne o2 rk2 hh2 nL2 ini2 hm2
                  cases g2.symm.trans e9
                  have hstk : st.map (cV ρ σ) = (((st.take na).reverse).map (cV ρ σ)).reverse ++ (st.drop na).map (cV ρ σ) := by
                    rw [← List.map_reverse, List.reverse_reverse, ← List.map_append, List.take_append_drop]
                  have hrest : 2 * (F0 m pc #[] ((st.drop na).map (cV ρ σ))).monitorRoom + (((st.drop na).map (cV ρ σ)).map fun v => v.category).sum ≤ 8 := by
                    rw [sumR_eq]
                    show 2 * 0 + sumR (st.drop na) ≤ 8
                    omega
                  have hR1 : n + 8 + 1 ≤ R.frames := by omega
                  have hR2 : 8 + (nL2 + 11) + (64 * n + 200) ≤ R.locals := by omega
                  obtain ⟨hx, hbc, hml, hown, hlk2, hK, hA, hW, ⟨hX1, hX2⟩, hSt, hSc, hO, hcl, hin⟩ := X
                  have hCF : CallFix p m c cc nL s args lwA own := ⟨hx, hbc, hml, hown, hW⟩
                  -- any call gives this
                  have hrun : ∀ (out1 : rR) (aw1 : List rC) (mc ms : Nat), ex O L n false 100000 tgt (argR 0 (st.take na).reverse, [], 0, aw, 0, 0) = some (out1, aw1, mc, ms) → (∀ z, out1 ≠ .inr (.inr z)) → kc + mc ≤ R.cells → ks + ms ≤ R.slots → ∀ (H : Heap) (locs : List Loc) (ls : Array Slot), rIv D A σ s ρ κ aw H locs → lv_has ls nL (cL ρ σ lv) →
                      rRun p l e R s m args below meth c H locs kc ks mc ms (F0 m pc ls (st.map (cV ρ σ))) ((st.drop na).map (cV ρ σ)) (if Nat.beq kind 4 then 5 else 3) (rQc D σ ρ κ (va_A (cW ρ κ σ 0 aw) H.size) aw.length out1 aw1 (((st.take na).reverse).map (cV ρ σ)).toArray) (rXc D σ ρ κ (va_A (cW ρ κ σ 0 aw) H.size) aw.length out1 aw1) (va_A (cW ρ κ σ 0 aw) H.size) := by
                    intro out1 aw1 mc ms hex hns hcc hss H locs ls hI hlv
                    have hMet := met_of ih hM hTT hokw hl gne hm2 g2 hex hns (by rw [sumR_rev]; exact hnl2) D σ ρ κ H.size hO
                    have hFA : ∀ q, va_A (cW ρ κ σ 0 aw) H.size q → A q := fun q hq => by
                      rcases hq with ⟨k9, e9, hk9⟩ | hq
                      · exact hI.2.2.1.2 k9 _ hk9
                      · exact hA q (Nat.le_trans hI.2.2.2.1 hq)
                    have hPre : ∀ U : State, U.heap = H → s.WarmedH U.vm → rPc D σ ρ κ H.size (ρ 1000) aw (st.take na).reverse (((st.take na).reverse).map (cV ρ σ)).toArray U := fun U hU hWU =>
                      ⟨rfl, by rw [hU], va_K.moved hWU.alike hK, fun i t es hi => va_K.moved hWU.alike (hI.1 i t es hi), by rw [hU]; exact hI.2.1, va_D.weaken hI.2.2.1 (fun _ _ _ _ => trivial), rSt_move (by rw [hE]; exact hSt) hI.2.2.2 hU hWU.alike hFA, rThr_move hTh hWU, rNcs_move hNc hWU.alike, fun w hw => okw_move (hokw w hw) hWU (hWd w hw)⟩
                    have hws : ∀ w ∈ [mW y cc2 nL2 ret2 hr2], ∀ (a' : Array Value) (U : State), s.WarmedH U.vm → w.before a' U = true := fun w hw a' U hWU => by
                      rw [List.mem_singleton] at hw
                      subst hw
                      exact okw_move (hokw _ f4) hWU (hW _ f4)
                    have hls : ls.size = nL := hlv.1
                    have harN : ∀ {dd : String} {k9 : Nat}, arOk dd k9 → ∀ sig, parseMethodDescriptor dd = some sig → k9 = sig.parameters.length := fun har sig hsig => by
                      unfold arOk at har
                      rw [hsig] at har
                      exact (Option.some.inj har).symm
                    have hlenA : ((st.take na).reverse).length = na := by rw [List.length_reverse, List.length_take]; omega
                    match kind, d, g3, hrc with
                    | 0, d, g3, hrc =>
                      obtain ⟨rfl, ⟨T9, N9, hv9⟩, w1, w2, w3, hn1, har⟩ := g3
                      obtain ⟨r9, as9, has⟩ : ∃ r9 as9, (st.take na).reverse = .inl (.ref r9) :: as9 ∧ rcv 0 ci aw (.inl (.ref r9) :: as9) = true := by
                        rcases hrc with hrc | hrc | hrc
                        · cases hrc
                        · cases hrc
                        · unfold rcv at hrc
                          split at hrc
                          · rename_i r9 as9 he
                            exact ⟨r9, as9, he, hrc⟩
                          · cases hrc
                      obtain ⟨has, hrv⟩ := has
                      obtain ⟨fs9, hr9⟩ : ∃ fs9, aw[r9]? = some (.inr (ci, fs9)) := by
                        simp only [rcv] at hrv
                        split at hrv
                        · rename_i hh9
                          cases hh9
                        · split at hrv
                          · rename_i cj fs9 h9
                            cases Nat.eq_of_beq_eq_true hrv
                            exact ⟨fs9, h9⟩
                          · cases hrv
                      rw [has] at hMet hPre hstk hlenA
                      rw [has]
                      refine vx_runV (As := as9.map (cV ρ σ)) (b := ρ r9) (n := na - 1) hCF hMet ⟨⟨rfl, rfl, hR1, hR2, hws, List.mem_singleton.mpr rfl, hW _ f4, hW _ f5, f3, harN har, hW _ w1⟩, hW _ w2, hW _ w3⟩ ⟨rPc_blind hokw, va_recv hK hI.2.1 (q := (y.cls, T9, N9)) hv9 (cW_at hr9), hPre⟩ rfl (by rw [List.length_map]; simp only [List.length_cons] at hlenA; omega) hls (hstk.trans (by simp only [List.map_cons, List.reverse_cons, List.append_assoc]; rfl)) hrest d ⟨hcc, hss⟩
                    | 1, d, g3, hrc =>
                      obtain ⟨rfl, rfl, hnm1, w1, w2, hn1, har⟩ := g3
                      obtain ⟨r9, as9, has⟩ : ∃ r9 as9, (st.take na).reverse = .inl (.ref r9) :: as9 := by
                        rcases hrc with hrc | hrc | hrc
                        · cases hrc
                        · cases hrc
                        · unfold rcv at hrc
                          split at hrc
                          · rename_i r9 as9 he
                            exact ⟨r9, as9, he⟩
                          · cases hrc
                      rw [has] at hMet hPre hstk hlenA
                      rw [has]
                      refine vx_runI (As := as9.map (cV ρ σ)) (b := ρ r9) (n := na - 1) hCF hMet ⟨⟨rfl, rfl, hR1, hR2, hws, List.mem_singleton.mpr rfl, hW _ f4, hW _ f5, f3, harN har, hW _ w1⟩, hnm1, hW _ w2⟩ ⟨rPc_blind hokw, hPre⟩ rfl (by rw [List.length_map]; simp only [List.length_cons] at hlenA; omega) hls (hstk.trans (by simp only [List.map_cons, List.reverse_cons, List.append_assoc]; rfl)) hrest d ⟨hcc, hss⟩
                    | 2, d, g3, hrc =>
                      obtain ⟨rfl, w1, w2, har⟩ := g3
                      refine vx_runS (As := ((st.take na).reverse).map (cV ρ σ)) (n := na) hCF hMet ⟨⟨rfl, rfl, hR1, hR2, hws, List.mem_singleton.mpr rfl, hW _ f4, hW _ f5, f3, harN har, hW _ w1⟩, hW _ w2⟩ ⟨rPc_blind hokw, hPre⟩ rfl (by rw [List.length_map]; exact hlenA) hls hstk hrest d ⟨hcc, hss⟩
                    | 3, d, g3, hrc =>
                      obtain ⟨rfl, rfl, hnm1, ⟨host, w1⟩, w2, hn1, har⟩ := g3
                      obtain ⟨r9, as9, has⟩ : ∃ r9 as9, (st.take na).reverse = .inl (.ref r9) :: as9 := by
                        rcases hrc with hrc | hrc | hrc
                        · cases hrc
                        · cases hrc
                        · unfold rcv at hrc
                          split at hrc
                          · rename_i r9 as9 he
                            exact ⟨r9, as9, he⟩
                          · cases hrc
                      rw [has] at hMet hPre hstk hlenA
                      rw [has]
                      refine vx_runIN (As := as9.map (cV ρ σ)) (b := ρ r9) (n := na - 1) hCF hMet ⟨⟨⟨rfl, rfl, hR1, hR2, hws, List.mem_singleton.mpr rfl⟩, hW _ f4, hW _ f5, f3, harN har, hW _ w1⟩, hnm1, hW _ w2⟩ ⟨rPc_blind hokw, hPre⟩ rfl (by rw [List.length_map]; simp only [List.length_cons] at hlenA; omega) hls (hstk.trans (by simp only [List.map_cons, List.reverse_cons, List.append_assoc]; rfl)) hrest d ⟨hcc, hss⟩
                    | 4, d, g3, hrc =>
                      obtain ⟨rfl, ⟨x9, C9, T9, N9, hv9, w1, w2, w3, w4, w5, w6, w7, w8, har, hx9⟩, hn1⟩ := g3
                      obtain ⟨r9, as9, has⟩ : ∃ r9 as9, (st.take na).reverse = .inl (.ref r9) :: as9 ∧ rcv 4 ci aw (.inl (.ref r9) :: as9) = true := by
                        rcases hrc with hrc | hrc | hrc
                        · cases hrc
                        · cases hrc
                        · unfold rcv at hrc
                          split at hrc
                          · rename_i r9 as9 he
                            exact ⟨r9, as9, he, hrc⟩
                          · cases hrc
                      obtain ⟨has, hrv⟩ := has
                      obtain ⟨fs9, hr9⟩ : ∃ fs9, aw[r9]? = some (.inr (ci, fs9)) := by
                        simp only [rcv] at hrv
                        split at hrv
                        · rename_i hh9
                          cases hh9
                        · split at hrv
                          · rename_i cj fs9 h9
                            cases Nat.eq_of_beq_eq_true hrv
                            exact ⟨fs9, h9⟩
                          · cases hrv
                      rw [has] at hMet hPre hstk hlenA
                      rw [has]
                      refine vx_runF (As := as9.map (cV ρ σ)) (b := ρ r9) (n := na - 1) (hK.1 ci _ hv9).2 hCF hMet ⟨⟨rfl, rfl, hR1, hR2, hws, List.mem_singleton.mpr rfl⟩, hW _ w1, hW _ w2, hW _ w3, hW _ w4, hW _ w5, hW _ w6, hW _ w7, hW _ w8, hW _ f5, hW _ f4, hx9, harN har⟩ ⟨rPc_blind hokw, va_recv hK hI.2.1 (q := (C9, T9, N9)) hv9 (cW_at hr9), hPre⟩ rfl (by rw [List.length_map]; simp only [List.length_cons] at hlenA; omega) hls (hstk.trans (by simp only [List.map_cons, List.reverse_cons, List.append_assoc]; rfl)) hrest d ⟨hcc, hss⟩
                    | 5, d, g3, hrc =>
                      obtain ⟨hr5, w1, w2, har⟩ := g3
                      cases hr2 with
                      | nil => exact absurd rfl hr5
                      | cons z5 r5 =>
                        refine vx_runSX (As := ((st.take na).reverse).map (cV ρ σ)) (n := na) hCF hMet ⟨⟨rfl, rfl, hR1, hR2, hws, List.mem_singleton.mpr rfl⟩, hW _ f4, hW _ f5, f3, harN har, hW _ w1, hW _ w2⟩ ⟨rPc_blind hokw, hPre⟩ rfl (by rw [List.length_map]; exact hlenA) hls hstk hrest d ⟨hcc, hss⟩
                  have X2 : rX p R s m args meth c D A σ (O, L, fl, nL, o, ini) cc own E b xs := ⟨hx, hbc, hml, hown, hlk2, hK, hA, hW, ⟨hX1, hX2⟩, hSt, hSc, hO, hcl, hin⟩
                  split at h
                  · rename_i v aw1 mc ms hex
                    split at h
                    · rename_i hle
                      have hle : aw.length ≤ aw1.length := Nat.le_of_ble_eq_true hle
                      have hmono := ex_mono O L _ _ _ _ _ _ _ _ _ h
                      intro H locs ls hI hlv
                      have hFA : ∀ q, va_A (cW ρ κ σ 0 aw) H.size q → A q := fun q hq => by
                        rcases hq with ⟨k9, e9, hk9⟩ | hq
                        · exact hI.2.2.1.2 k9 _ hk9
                        · exact hA q (Nat.le_trans hI.2.2.2.1 hq)
                      refine call_W p l e R s m args below meth c (hrun _ aw1 mc ms hex (fun z hz => by cases hz) (Nat.le_trans hmono.1 hkc) (Nat.le_trans hmono.2.1 hks) H locs ls hI hlv) hI.2.2.2 hFA (fun v9 ρ1 κ1 H1 locs1 ho hx1 hI1 => ?_) (fun E9 nm ρ1 κ1 H1 locs1 q ce ho => by cases ho)
                      cases ho
                      have kk := ih fl stop id _ out aw' kc' ks' h p l e R s m args below meth c D A σ Q o rk hh nL ini cc own E b xs hr hmi X2 hdec hrel htab hl hTh hNc hWd (by omega) (by omega) hkc hks ρ1 κ1 ((hx1.1 1000 (Or.inr (by decide))).trans hE) ((hx1.1 1001 (Or.inr (by decide))).trans hb) (rEnd.step p l e R s m args below meth c hEnd hx1 hle) H1 locs1 ls hI1 (by rw [cL_ext hx1 hwl]; exact hlv)
                      have e1 : (v.toList ++ st.drop na).map (cV ρ1 σ) = (v.map (cV ρ1 σ)).toList ++ (st.drop na).map (cV ρ σ) := by
                        rw [List.map_append, cVs_ext hx1 hwr]
                        cases v <;> rfl
                      rw [← e1]
                      exact kk
                    · cases h
                  · rename_i E9 aw1 mc ms hex
                    split at h
                    · rename_i hle
                      simp only [Bool.and_eq_true, Bool.not_eq_true'] at hle
                      obtain ⟨⟨hle, hk4⟩, hflf⟩ := hle
                      have htab1 : c.exceptionTable.toList = tableOf hr := htab.resolve_left (by rw [hflf]; decide)
                      have hle : aw.length ≤ aw1.length := Nat.le_of_ble_eq_true hle
                      split at h
                      · rename_i hnd0
                        cases h
                        intro H locs ls hI hlv
                        have hFA : ∀ q, va_A (cW ρ κ σ 0 aw) H.size q → A q := fun q hq => by
                          rcases hq with ⟨k9, e9, hk9⟩ | hq
                          · exact hI.2.2.1.2 k9 _ hk9
                          · exact hA q (Nat.le_trans hI.2.2.2.1 hq)
                        refine call_W p l e R s m args below meth c (hrun _ _ mc ms hex (fun z hz => by cases hz) hkc hks H locs ls hI hlv) hI.2.2.2 hFA (fun v9 ρ1 κ1 H1 locs1 ho => by cases ho) (fun E8 nm ρ1 κ1 H1 locs1 q ce ho hnm hx1 hI1 hq9 hv9 hcl9 => ?_)
                        cases ho
                        exact (hEnd ρ1 κ1 H1 locs1 hx1 hI1).1 pc ls _ q ce nm hnm hq9 hv9 hcl9 (by rw [htab1]; exact hnd_none hnm hW hNc hrel hnd0)
                      · rename_i t0 hnd0
                        split at h
                        · rename_i op2 b2 hlk9
                          have hdk2 := look_dec hdec hlk9
                          split at h
                          · rename_i hc2
                            simp only [Bool.and_eq_true] at hc2
                            obtain ⟨⟨hop9, hb4⟩, hbn⟩ := hc2
                            cases Nat.eq_of_beq_eq_true hop9
                            have d2 : decode cc t0 = .ok (.astore_n (Fin.ofNat 4 b2.toNat), 1) := hdk2 (0, .astore_n (Fin.ofNat 4 b2.toNat), 1) (by simp only [dkAll, h9]; exact List.mem_cons_self)
                            have hmono := ex_mono O L _ _ _ _ _ _ _ _ _ h
                            intro H locs ls hI hlv
                            have hFA : ∀ q, va_A (cW ρ κ σ 0 aw) H.size q → A q := fun q hq => by
                              rcases hq with ⟨k9, e9, hk9⟩ | hq
                              · exact hI.2.2.1.2 k9 _ hk9
                              · exact hA q (Nat.le_trans hI.2.2.2.1 hq)
                            refine call_W p l e R s m args below meth c (hrun _ _ mc ms hex (fun z hz => by cases hz) (Nat.le_trans hmono.1 hkc) (Nat.le_trans hmono.2.1 hks) H locs ls hI hlv) hI.2.2.2 hFA (fun v9 ρ1 κ1 H1 locs1 ho => by cases ho) (fun E8 nm ρ1 κ1 H1 locs1 q ce ho hnm hx1 hI1 hq9 hv9 hcl9 => ?_)
                            cases ho
                            obtain ⟨pre, x9, suf, k1, k2, k3, k4, k5, k6, k7⟩ := hnd_some hnm hW hNc hrel hnd0
                            refine vx_catch hown pre x9 suf (htab1.trans k1) k2 k3 k4 k5 k6 hq9 hv9 hcl9 ?_
                            rw [k7]
                            refine lv_astore_n (lv' := (b2.toNat, .ref q) :: cL ρ σ (dropL lv b2.toNat)) hx hbc d2 (fin4 (by simpa using hb4)) hlv (by simpa using hbn) (by rw [← dropL_eq]) (fun ls' hls' => ?_)
                            exact ih fl stop id _ out aw' kc' ks' h p l e R s m args below meth c D A σ Q o rk hh nL ini cc own E b xs hr hmi X2 hdec hrel htab hl hTh hNc hWd (by omega) (by omega) hkc hks ρ1 κ1 ((hx1.1 1000 (Or.inr (by decide))).trans hE) ((hx1.1 1001 (Or.inr (by decide))).trans hb) (rEnd.step p l e R s m args below meth c hEnd hx1 hle) H1 locs1 ls' hI1 (by rw [cL_ext hx1 (wfL_drop hwl)]; exact lv_tail hls')
                          · split at h
                            · rename_i hc2
                              simp only [Bool.and_eq_true] at hc2
                              obtain ⟨hop9, hbn⟩ := hc2
                              cases Nat.eq_of_beq_eq_true hop9
                              have d2 : decode cc t0 = .ok (.astore b2.toNat, 2) := hdk2 (0, .astore b2.toNat, 2) (by simp only [dkAll, h10]; exact List.mem_cons_self)
                              have hmono := ex_mono O L _ _ _ _ _ _ _ _ _ h
                              intro H locs ls hI hlv
                              have hFA : ∀ q, va_A (cW ρ κ σ 0 aw) H.size q → A q := fun q hq => by
                                rcases hq with ⟨k9, e9, hk9⟩ | hq
                                · exact hI.2.2.1.2 k9 _ hk9
                                · exact hA q (Nat.le_trans hI.2.2.2.1 hq)
                              refine call_W p l e R s m args below meth c (hrun _ _ mc ms hex (fun z hz => by cases hz) (Nat.le_trans hmono.1 hkc) (Nat.le_trans hmono.2.1 hks) H locs ls hI hlv) hI.2.2.2 hFA (fun v9 ρ1 κ1 H1 locs1 ho => by cases ho) (fun E8 nm ρ1 κ1 H1 locs1 q ce ho hnm hx1 hI1 hq9 hv9 hcl9 => ?_)
                              cases ho
                              obtain ⟨pre, x9, suf, k1, k2, k3, k4, k5, k6, k7⟩ := hnd_some hnm hW hNc hrel hnd0
                              refine vx_catch hown pre x9 suf (htab1.trans k1) k2 k3 k4 k5 k6 hq9 hv9 hcl9 ?_
                              rw [k7]
                              refine lv_astore (lv' := (b2.toNat, .ref q) :: cL ρ σ (dropL lv b2.toNat)) hx hbc d2 hlv (by simpa using hbn) (by rw [← dropL_eq]) (fun ls' hls' => ?_)
                              exact ih fl stop id _ out aw' kc' ks' h p l e R s m args below meth c D A σ Q o rk hh nL ini cc own E b xs hr hmi X2 hdec hrel htab hl hTh hNc hWd (by omega) (by omega) hkc hks ρ1 κ1 ((hx1.1 1000 (Or.inr (by decide))).trans hE) ((hx1.1 1001 (Or.inr (by decide))).trans hb) (rEnd.step p l e R s m args below meth c hEnd hx1 hle) H1 locs1 ls' hI1 (by rw [cL_ext hx1 (wfL_drop hwl)]; exact lv_tail hls')
                            · cases h
                        · cases h
                      · cases h
                    · cases h
                  · cases h
                · cases h
              · cases h
            · rename_i hop3
              split at h
              · rename_i hop4
                split at h
                · rename_i ot i1 i2 i3 E9 wd hq
                  have hdk0 : dkAll rk op a = dkT (ot, i1, i2, i3, E9, wd) := by simp only [dkAll, hop1, hop2, hop3, hq]; rfl
                  rw [hdk0] at hdk
                  split at h
                  · rename_i hc2
                    cases h
                    simp only [Bool.and_eq_true, Bool.not_eq_true'] at hc2
                    obtain ⟨⟨⟨hot, hsum⟩, hhe⟩, hflf⟩ := hc2
                    have htab1 : c.exceptionTable.toList = tableOf hr := htab.resolve_left (by rw [hflf]; decide)
                    have hsum : sumR st ≤ 8 := Nat.le_of_ble_eq_true hsum
                    obtain ⟨o2, nm2, names2, g1, -⟩ := hTT _ (List.mem_of_getElem? hq)
                    cases own_eq X.2.2.2.2.2.2.2.2.2.2.2.2.1 g1 hot
                    have hh0 : hh = [] := List.isEmpty_iff.mp hhe
                    subst hh0
                    have hr0 : hr = [] := by
                      cases hr with
                      | nil => rfl
                      | cons z zr => exact hrel.elim
                    subst hr0
                    exact fun H locs ls hI hlv => (hEnd ρ κ H locs rExt.rf hI).2 (ot, i1, i2, i3, E9, wd) pc ls st kc ks (List.mem_of_getElem? hq) rfl rfl rfl hsum (hlv.1.trans X.2.2.1.symm) g1 htab1 hdk
                  · cases h
                · cases h
              · cases h
      · cases h
