/-! the law, from its entry -/
theorem st_true {l : Launch} (h : l.flags = flags0) : l.stackTraces = false := by
  unfold Launch.stackTraces
  rw [h]
  decide +kernel
theorem pick_D {s : State} {cl : List vw_C} (h : ∀ q ∈ cl, ∃ (cc : ClassId) (ii : Nat → Nat), u_Kn s q.1 q.2.1 q.2.2 cc ii) : ∃ D : va_G, va_K D cl [] s := by
  have h1 : ∀ k : Nat, ∃ z : ClassId × (Nat → Nat), ∀ q, cl[k]? = some q → u_Kn s q.1 q.2.1 q.2.2 z.1 z.2 := by
    intro k
    cases hk : cl[k]? with
    | none => exact ⟨((0 : Nat), fun _ => 0), fun q hq => by cases hq⟩
    | some q =>
      obtain ⟨cc, ii, hc⟩ := h q (List.mem_of_getElem? hk)
      exact ⟨(cc, ii), fun q2 hq => by cases hq; exact hc⟩
  exact ⟨(fun k => (Classical.choose (h1 k)).1, fun k => (Classical.choose (h1 k)).2), fun k q hq => Classical.choose_spec (h1 k) q hq, fun k q hk => by simp at hk⟩
theorem len_eq {args : Array Value} {s : State} {t : Term} {z : Int32} (h : (Cond.eq (.length t) (.int z)).before args s = true) : (Term.length t).eval args s none [] s = some (.int z) := by
  cases hv : (Term.length t).eval args s none [] s with
  | none => simp [Cond.before, Cond.holds, Cond.value, hv] at h
  | some w =>
    have hz : (Term.int z).eval args s none [] s = some (.int z) := rfl
    simp only [Cond.before, Cond.holds, Cond.value, hv, hz] at h
    cases w <;> simp_all
theorem thr_of {args : Array Value} {s : State} {own tx : String} {k : Nat} (h1 : (Cond.stringRef own k tx).before args s = true) (h2 : (Cond.exactly (.string own k) "java/lang/String").before args s = true) : ∃ sa, vk_R own k tx sa s := by
  obtain ⟨a, c, cell, k9, h, -⟩ := Cond.exactly_spec h2
  exact ⟨a, vk_R.of h1 h⟩
theorem kn_Jx35411 {args : Array Value} {s : State} (hts : ∀ w ∈ lw_tbl, w.before args s = true) : ∃ (cc : ClassId) (ii : Nat → Nat), u_Kn s RJx35411 TJx35411 4 cc ii := u_known hts (fun w h => lwA_in w (inl_Jx35411 w h)) (n := 4) (hts _ (List.mem_of_getElem? (i := 1399) (by decide +kernel)))
theorem kn_Jx4a65c {args : Array Value} {s : State} (hts : ∀ w ∈ lw_tbl, w.before args s = true) : ∃ (cc : ClassId) (ii : Nat → Nat), u_Kn s RJx4a65c TJx4a65c 3 cc ii := u_known hts (fun w h => lwA_in w (inl_Jx4a65c w h)) (n := 3) (hts _ (List.mem_of_getElem? (i := 112) (by decide +kernel)))
theorem kn_X0 {args : Array Value} {s : State} (hts : ∀ w ∈ lw_tbl, w.before args s = true) : ∃ (cc : ClassId) (ii : Nat → Nat), u_Kn s RX0 TX0 6 cc ii := u_known hts (fun w h => lwA_in w (inl_X0 w h)) (n := 6) (hts _ (List.mem_of_getElem? (i := 141) (by decide +kernel)))
theorem kn_X2 {args : Array Value} {s : State} (hts : ∀ w ∈ lw_tbl, w.before args s = true) : ∃ (cc : ClassId) (ii : Nat → Nat), u_Kn s RX2 TX2 15 cc ii := u_known hts (fun w h => lwA_in w (inl_X2 w h)) (n := 15) (hts _ (List.mem_of_getElem? (i := 461) (by decide +kernel)))
theorem kn_X3 {args : Array Value} {s : State} (hts : ∀ w ∈ lw_tbl, w.before args s = true) : ∃ (cc : ClassId) (ii : Nat → Nat), u_Kn s RX3 TX3 6 cc ii := u_known hts (fun w h => lwA_in w (inl_X3 w h)) (n := 6) (hts _ (List.mem_of_getElem? (i := 990) (by decide +kernel)))
theorem kn_X5 {args : Array Value} {s : State} (hts : ∀ w ∈ lw_tbl, w.before args s = true) : ∃ (cc : ClassId) (ii : Nat → Nat), u_Kn s RX5 TX5 7 cc ii := u_known hts (fun w h => lwA_in w (inl_X5 w h)) (n := 7) (hts _ (List.mem_of_getElem? (i := 172) (by decide +kernel)))
theorem kn_X8 {args : Array Value} {s : State} (hts : ∀ w ∈ lw_tbl, w.before args s = true) : ∃ (cc : ClassId) (ii : Nat → Nat), u_Kn s RX8 TX8 1 cc ii := u_known hts (fun w h => lwA_in w (inl_X8 w h)) (n := 1) (hts _ (List.mem_of_getElem? (i := 203) (by decide +kernel)))
theorem kn_X9 {args : Array Value} {s : State} (hts : ∀ w ∈ lw_tbl, w.before args s = true) : ∃ (cc : ClassId) (ii : Nat → Nat), u_Kn s RX9 TX9 10 cc ii := u_known hts (fun w h => lwA_in w (inl_X9 w h)) (n := 10) (hts _ (List.mem_of_getElem? (i := 104) (by decide +kernel)))
theorem kn_X11 {args : Array Value} {s : State} (hts : ∀ w ∈ lw_tbl, w.before args s = true) : ∃ (cc : ClassId) (ii : Nat → Nat), u_Kn s RX11 TX11 6 cc ii := u_known hts (fun w h => lwA_in w (inl_X11 w h)) (n := 6) (hts _ (List.mem_of_getElem? (i := 1459) (by decide +kernel)))
theorem kn_X12 {args : Array Value} {s : State} (hts : ∀ w ∈ lw_tbl, w.before args s = true) : ∃ (cc : ClassId) (ii : Nat → Nat), u_Kn s RX12 TX12 5 cc ii := u_known hts (fun w h => lwA_in w (inl_X12 w h)) (n := 5) (hts _ (List.mem_of_getElem? (i := 1811) (by decide +kernel)))
theorem kn_X15 {args : Array Value} {s : State} (hts : ∀ w ∈ lw_tbl, w.before args s = true) : ∃ (cc : ClassId) (ii : Nat → Nat), u_Kn s RX15 TX15 13 cc ii := u_known hts (fun w h => lwA_in w (inl_X15 w h)) (n := 13) (hts _ (List.mem_of_getElem? (i := 1320) (by decide +kernel)))
theorem law_D {args : Array Value} {s : State} (hts : ∀ w ∈ lw_tbl, w.before args s = true) : ∃ D : va_G, va_K D vwC9 [] s := pick_D (show ∀ q ∈ vwC9, ∃ (cc : ClassId) (ii : Nat → Nat), u_Kn s q.1 q.2.1 q.2.2 cc ii from List.forall_mem_cons.mpr ⟨kn_Jx35411 hts, List.forall_mem_cons.mpr ⟨kn_Jx4a65c hts, List.forall_mem_cons.mpr ⟨kn_X0 hts, List.forall_mem_cons.mpr ⟨kn_X2 hts, List.forall_mem_cons.mpr ⟨kn_X3 hts, List.forall_mem_cons.mpr ⟨kn_X5 hts, List.forall_mem_cons.mpr ⟨kn_X8 hts, List.forall_mem_cons.mpr ⟨kn_X9 hts, List.forall_mem_cons.mpr ⟨kn_X11 hts, List.forall_mem_cons.mpr ⟨kn_X12 hts, List.forall_mem_cons.mpr ⟨kn_X15 hts, fun _ h => absurd h List.not_mem_nil⟩⟩⟩⟩⟩⟩⟩⟩⟩⟩⟩)
theorem law_thr {args : Array Value} {s : State} (hts : ∀ w ∈ lw_tbl, w.before args s = true) (hs : ∀ w ∈ flatC (Jvm.Cond.and given_1 narrow_1), w.before args s = true) : rThr s := (List.forall_mem_cons.mpr ⟨(by
    obtain ⟨sa, hsa⟩ := thr_of (own := RX9) (k := 67) (tx := "a number is out of range") (hts _ (List.mem_of_getElem? (i := 414) (by decide +kernel))) (hs _ (by decide +kernel))
    exact ⟨RX9, "a number is out of range", sa, rfl, hsa⟩), List.forall_mem_cons.mpr ⟨(by
    obtain ⟨sa, hsa⟩ := thr_of (own := RX9) (k := 358) (tx := "no such card") (hts _ (List.mem_of_getElem? (i := 1116) (by decide +kernel))) (hs _ (by decide +kernel))
    exact ⟨RX9, "no such card", sa, rfl, hsa⟩), List.forall_mem_cons.mpr ⟨(by
    obtain ⟨sa, hsa⟩ := thr_of (own := RX9) (k := 165) (tx := "no such division") (hts _ (List.mem_of_getElem? (i := 766) (by decide +kernel))) (hs _ (by decide +kernel))
    exact ⟨RX9, "no such division", sa, rfl, hsa⟩), List.forall_mem_cons.mpr ⟨(by
    obtain ⟨sa, hsa⟩ := thr_of (own := RX9) (k := 395) (tx := "no such place") (hts _ (List.mem_of_getElem? (i := 1182) (by decide +kernel))) (hs _ (by decide +kernel))
    exact ⟨RX9, "no such place", sa, rfl, hsa⟩), List.forall_mem_cons.mpr ⟨(by
    obtain ⟨sa, hsa⟩ := thr_of (own := RX9) (k := 114) (tx := "the days are out of range") (hts _ (List.mem_of_getElem? (i := 686) (by decide +kernel))) (hs _ (by decide +kernel))
    exact ⟨RX9, "the days are out of range", sa, rfl, hsa⟩), List.forall_mem_cons.mpr ⟨(by
    obtain ⟨sa, hsa⟩ := thr_of (own := RX9) (k := 459) (tx := "no such club") (hts _ (List.mem_of_getElem? (i := 643) (by decide +kernel))) (hs _ (by decide +kernel))
    exact ⟨RX9, "no such club", sa, rfl, hsa⟩), List.forall_mem_cons.mpr ⟨(by
    obtain ⟨sa, hsa⟩ := thr_of (own := RX9) (k := 463) (tx := "no such fixture") (hts _ (List.mem_of_getElem? (i := 912) (by decide +kernel))) (hs _ (by decide +kernel))
    exact ⟨RX9, "no such fixture", sa, rfl, hsa⟩), List.forall_mem_cons.mpr ⟨(by
    obtain ⟨sa, hsa⟩ := thr_of (own := RX9) (k := 465) (tx := "no match is on") (hts _ (List.mem_of_getElem? (i := 1036) (by decide +kernel))) (hs _ (by decide +kernel))
    exact ⟨RX9, "no match is on", sa, rfl, hsa⟩), List.forall_mem_cons.mpr ⟨(by
    obtain ⟨sa, hsa⟩ := thr_of (own := RX9) (k := 461) (tx := "no such player") (hts _ (List.mem_of_getElem? (i := 700) (by decide +kernel))) (hs _ (by decide +kernel))
    exact ⟨RX9, "no such player", sa, rfl, hsa⟩), List.forall_mem_cons.mpr ⟨(by
    obtain ⟨sa, hsa⟩ := thr_of (own := RX9) (k := 439) (tx := "no match is over") (hts _ (List.mem_of_getElem? (i := 1317) (by decide +kernel))) (hs _ (by decide +kernel))
    exact ⟨RX9, "no match is over", sa, rfl, hsa⟩), List.forall_mem_cons.mpr ⟨(by
    obtain ⟨sa, hsa⟩ := thr_of (own := RX9) (k := 433) (tx := "there are no fixtures") (hts _ (List.mem_of_getElem? (i := 1304) (by decide +kernel))) (hs _ (by decide +kernel))
    exact ⟨RX9, "there are no fixtures", sa, rfl, hsa⟩), List.forall_mem_cons.mpr ⟨(by
    obtain ⟨sa, hsa⟩ := thr_of (own := RX9) (k := 170) (tx := "the division cannot be planned now") (hts _ (List.mem_of_getElem? (i := 771) (by decide +kernel))) (hs _ (by decide +kernel))
    exact ⟨RX9, "the division cannot be planned now", sa, rfl, hsa⟩), List.forall_mem_cons.mpr ⟨(by
    obtain ⟨sa, hsa⟩ := thr_of (own := RX9) (k := 108) (tx := "a day is out of range") (hts _ (List.mem_of_getElem? (i := 674) (by decide +kernel))) (hs _ (by decide +kernel))
    exact ⟨RX9, "a day is out of range", sa, rfl, hsa⟩), fun _ h => absurd h List.not_mem_nil⟩⟩⟩⟩⟩⟩⟩⟩⟩⟩⟩⟩⟩ : ∀ q ∈ tT, ∃ (o text : String) (sa : Nat), clsN[q.1]? = some o ∧ vk_R o q.2.2.1 text sa s)
theorem law_st {args : Array Value} {s : State} {A : Nat → Prop} (hts : ∀ w ∈ lw_tbl, w.before args s = true) (hs : ∀ w ∈ flatC (Jvm.Cond.and given_1 narrow_1), w.before args s = true) (hA : ∀ a : Nat, a < s.heap.size → ¬ A a) : ∃ E, rSt A s E := by
  have h1 : (Cond.arrayOf (.static "java/util/ArrayList" "DEFAULTCAPACITY_EMPTY_ELEMENTDATA" "[Ljava/lang/Object;") (.object "java/lang/Object")).before args s = true := hs _ (by decide +kernel)
  have h2 : (Cond.eq (.length (.static "java/util/ArrayList" "DEFAULTCAPACITY_EMPTY_ELEMENTDATA" "[Ljava/lang/Object;")) (.int 0)).before args s = true := hs _ (by decide +kernel)
  obtain ⟨t, ht, hT⟩ := va_Tof (N := 0) (f := fun _ => .null) (A := A) (by decide) h1 (len_eq h2) (fun j hj => absurd hj (Nat.not_lt_zero j)) hA
  refine ⟨t, va_Zref (hts (.laysStatic "java/util/ArrayList" "DEFAULTCAPACITY_EMPTY_ELEMENTDATA" "[Ljava/lang/Object;") (List.mem_of_getElem? (i := 124) (by decide +kernel))) (hts (.initialized "java/util/ArrayList") (List.mem_of_getElem? (i := 62) (by decide +kernel))) ht hA, hT, ?_, ?_⟩
  · exact vx_Zqof (hts (.laysStatic Bundle.tN "UNASSIGNED_STACK" Bundle.steD) (List.mem_of_getElem? (i := 396) (by decide +kernel))) (hts (.initialized Bundle.tN) (List.mem_of_getElem? (i := 67) (by decide +kernel))) (hs (.isRef (.static Bundle.tN "UNASSIGNED_STACK" Bundle.steD)) (by decide +kernel)) hA
  · exact vx_Zqof (hts (.laysStatic Bundle.tN "SUPPRESSED_SENTINEL" Bundle.listD) (List.mem_of_getElem? (i := 398) (by decide +kernel))) (hts (.initialized Bundle.tN) (List.mem_of_getElem? (i := 67) (by decide +kernel))) (hs (.isRef (.static Bundle.tN "SUPPRESSED_SENTINEL" Bundle.listD)) (by decide +kernel)) hA
theorem law_nc {args : Array Value} {s : State} (hs : ∀ w ∈ flatC (Jvm.Cond.and given_1 narrow_1), w.before args s = true) : rNcs s := ⟨va_Nc.of (hs (.not (.castable "java/lang/IllegalStateException" "java/lang/IllegalArgumentException")) (by decide +kernel)), va_Nc.of (hs (.not (.castable "java/lang/IndexOutOfBoundsException" "java/lang/IllegalArgumentException")) (by decide +kernel))⟩
theorem exA (O : rO) (L : Nat) : ∀ n, exOk O L n := ex_ok O L meth_ok tT_ok cT_ok lwA_okw opT_ok rfl rfl
theorem isOne_ok {r : Option (rR × List rC × Nat × Nat)} (h : isOne r = true) : ∃ aw kc ks, r = some (.inl (some (.inl (.int 1))), aw, kc, ks) ∧ kc ≤ 624780 ∧ ks ≤ 7227733 := by
  unfold isOne at h
  split at h
  · rename_i x aw kc ks
    simp only [Bool.and_eq_true, decide_eq_true_eq] at h
    obtain ⟨rfl, h1, h2⟩ := h
    exact ⟨aw, kc, ks, rfl, Nat.le_of_ble_eq_true h1, Nat.le_of_ble_eq_true h2⟩
  · cases h
/-! THE CLAIM OUT OF ONE WALK OF THE LAW'S BODY. Your part is whole_start (and what it stands on); all else here is the same for every law, but numbers. -/
def R_law : String := "GoalmouthLaw"
def lw_P (b : Addr) (xs : List Int32) (args : Array Value) (s : State) : Prop := args = #[.ref b] ∧ s.IntsAt b xs ∧ xs.length ≤ 4 ∧ (Jvm.Cond.and given_1 narrow_1).before args s = true
/-- what a walk over the start with the record d0 says of its end, said of the start itself -/
theorem lw_closed {s t : State} {o : Outcome} {d0 : Drawn} {L : List Loc} {k n : Nat} (hd0 : s.drawn.sameBut d0 lw_cs) (hv : ∃ v, o = .returned v) (hW : (s.setDrawn d0).WarmedH t.vm) (hs : (s.setDrawn d0).sameButNew ({ t with vm := s.vm } : State) L k n) : State.butDraws s t lw_cs (fun t1 => Framed s o t1 L k n) := by
  have h2 : t.drawn = d0 := congrArg State.drawn hs.1
  refine ⟨⟨hv, hW, State.sameButNew.setDrawn hs s.drawn⟩, ?_, by decide⟩
  rw [h2]
  exact hd0
def lw_Q (_ : Array Value) (s : State) (o : Outcome) (t : State) : Prop := o = .returned (some (.int 1)) ∧ State.butDraws s t lw_cs (fun t1 => Framed s o t1 [] 624780 7227733)
def lw_Z (below : List Frame) (a : Array Value) (s : State) : State → Prop := fun t => ∃ o, t.status = .running ∧ Ended t below o ∧ lw_Q a s o t
/-- the law's own end, with 1 on the stack, nothing written that was there before, its room as the claim has it; d0: the record of draws at this point (at the entry s.drawn: begin with 'refine W.base ?_' and 'have hd0 := Drawn.sameBut.refl s.drawn lw_cs') -/
theorem lw_ret {p : Program} {l : Launch} {e : Env} {s : State} {m : MethodId} {below : List Frame} {meth : Method} {c : Code} {b : Nat} {d0 : Drawn} (hd0 : s.drawn.sameBut d0 lw_cs) (hx : p.tables.exec = Jvm.exec) (hb : c.code = code) (hr : meth.sig.returnType = ret) (hlocks : meth.locks = false) {pc : Nat} {H : Heap} {ls : Array Slot} (hdg : decode code pc = .ok (.ireturn, 1)) : W p l e room_1 (s.setDrawn d0) m #[Value.ref b] below meth c H [] 624780 7227733 (lw_Z below #[Value.ref b] s) (F0 m pc ls [.int 1]) := by
  intro T hT X
  obtain ⟨fs, hret, hrun, hended, hW, hframe⟩ := X.leave (v := some (.int 1)) (hlocks := hlocks) (fun h => by rw [hr] at h; cases h)
  have hmeth' : T.vm.method? m = some meth := X.method'
  refine ⟨T.setFrames fs, ?_, .returned (some (.int 1)), hrun, hended, rfl, lw_closed hd0 ⟨_, rfl⟩ hW hframe⟩
  jvm_step X.here [X.here.top, hx, hb, hdg, hmeth', hr, ret, narrow_b1]
  (try refine ⟨rfl, ?_⟩); (try refine ⟨rfl, ?_⟩)
  first | (intro acts; rw [hret _ acts rfl rfl rfl]) | rw [hret _ _ rfl rfl rfl]
  exact Steps.refl _
/-- what holds at the law's entry: the machine, the code, the tables' words (any of lw_tbl by 'hts w (by decide +kernel)'), the script of L ints xs at the cell b, what the Statement gives of the start (any of its parts by flat_of_before) -/
def lw_At (p : Program) (s : State) (m : MethodId) (meth : Method) (c : Code) (b L : Nat) (xs : Nat → Int32) : Prop :=
  p.tables.exec = Jvm.exec ∧ c.code = code ∧ meth.sig.returnType = ret ∧ c.maxLocals = 9 ∧ s.vm.findClass R_law = some m.cls ∧ (∀ w ∈ lw_tbl, w.before #[Value.ref b] s = true) ∧ va_X b L xs s s.heap ∧ b < s.heap.size ∧ meth.locks = false ∧ (Jvm.Cond.and given_1 narrow_1).before #[Value.ref b] s = true
set_option maxHeartbeats 4000000 in
theorem whole_start {p : Program} {e : Env} {s : State} {m : MethodId} {below : List Frame} {meth : Method} {c : Code} (l : Launch) (hflags : l.flags = flags0) {b L : Nat} {xs : Nat → Int32} (hL : L ≤ 4) (C0 : lw_At p s m meth c b L xs) : W p l e room_1 s m #[Value.ref b] below meth c s.heap [] 0 0 (lw_Z below #[Value.ref b] s) (entryFrame m ([Value.ref b] : List Value).toArray 9) := by
  obtain ⟨hx, hb, hr, hml, hown, hts, hX, hbl, hlocks, hgv⟩ := id C0
  have hl := st_true hflags
  have hs := flat_of_before _ hgv
  have hA0 : ∀ a : Nat, a < s.heap.size → ¬ (fun q : Nat => s.heap.size ≤ q) a := fun a h => Nat.not_le.mpr h
  obtain ⟨D, hK⟩ := law_D hts
  obtain ⟨E, hSt⟩ := law_st hts hs hA0
  have hTh := law_thr hts hs
  have hNc := law_nc hs
  have hWd : rWd s := fun w hw => okw_move (lwA_okw w hw) (State.WarmedH.refl s) (hts w (lwA_in w hw))
  obtain ⟨σ, hσ⟩ : ∃ σ : Nat → Int32, σ = fun j => if j = 4 then ((xs 2).toUInt32 % 65536).toInt32 else xs j := ⟨_, rfl⟩
  have hσx : ∀ j, j < L → xs j = σ j := fun j hj => by rw [hσ]; exact (if_neg (by omega)).symm
  have hσc : ((σ 2).toUInt32 % 65536).toInt32 = σ 4 := by rw [hσ]; rfl
  obtain ⟨ρ, hρ⟩ : ∃ ρ : Nat → Nat, ρ = fun i => if i = 1000 then E else b := ⟨_, rfl⟩
  have hρE : ρ 1000 = E := by rw [hρ]; rfl
  have hρb : ρ 1001 = b := by rw [hρ]; rfl
  have hXO : ∀ O : rO, rOr O σ → rX p room_1 s m #[Value.ref b] meth c D (fun q : Nat => s.heap.size ≤ q) σ (O, L, true, 9, 5, false) code RL E b xs := fun O hO =>
    ⟨hx, hb, hml, hown, hlocks, hK, fun _ h => h, fun w hw => hts w (lwA_in w hw), ⟨by decide, by decide⟩, hSt, fun _ => ⟨hX, hbl, Nat.not_le.mpr hbl, hσx⟩, hO, rfl, fun h => by cases h⟩
  -- a run that ends with 1
  have fin : ∀ (O : rO) (fr : rF), rOr O σ → isOne (ex O L 1400 true 100000 0 fr) = true → ∀ (ρ1 : Nat → Nat) (κ1 : Nat → ClassId), ρ1 1000 = E → ρ1 1001 = b → rGo p l e room_1 s m #[Value.ref b] below meth c D (fun q : Nat => s.heap.size ≤ q) σ 9 (lw_Z below #[Value.ref b] s) ρ1 κ1 fr := by
    intro O fr hO h1 ρ1 κ1 q1 q2
    obtain ⟨aw, kc, ks, hex, hkc, hks⟩ := isOne_ok h1
    refine exA O L 1400 true 100000 0 fr _ aw kc ks hex p l e room_1 s m _ below meth c D _ σ _ 5 6 [] 9 false code RL E b xs [] rfl (hXO O hO) kd_L_law trivial (Or.inl rfl) hl hTh hNc hWd (by decide) (by decide) hkc hks ρ1 κ1 q1 q2 ?_
    intro ρ' κ' H' locs' hx2 hI pc ls hd hok
    refine va_forget (fun q hq => hI.2.2.2.2.2 q hq) ?_
    refine W.widen hkc hks ?_
    exact W.base (lw_ret (Drawn.sameBut.refl s.drawn lw_cs) hx hb hr hlocks hd)
  have hO0 : rOr ([], 64) σ := ⟨(fun q hq => by cases hq), Or.inl rfl, hσc⟩
  have hl0 := lv_entry ([.ref b]) (n := 9) (Nat.le_of_ble_eq_true rfl)
  rw [lg_entry_eq]
  have hl1 : lv_has ((lg_sl ([.ref b]) ++ List.replicate (9 - (lg_sl ([.ref b])).length) Slot.unset).toArray) 9 (cL ρ σ [(0, .inl (.ref 1001))]) := by
    have e1 : cL ρ σ [(0, .inl (.ref 1001))] = [(0, .ref b)] := by simp only [cL, List.map_cons, List.map_nil]; rw [show cV ρ σ (.inl (.ref 1001)) = .ref b from congrArg Value.ref hρb]
    rw [e1]
    exact hl0
  have hI0 : rIv D (fun q : Nat => s.heap.size ≤ q) σ s ρ (fun _ => (0 : Nat)) [] s.heap [] := ⟨fun i t es h => by simp at h, fun k q h => by simp [cW] at h, ⟨fun i j p q h => by simp [cW] at h, fun k q h => by simp [cW] at h⟩, va_S.rf⟩
  have start : rGo p l e room_1 s m #[Value.ref b] below meth c D (fun q : Nat => s.heap.size ≤ q) σ 9 (lw_Z below #[Value.ref b] s) ρ (fun _ => (0 : Nat)) lwF := by
    rcases (show L = 0 ∨ L = 1 ∨ L = 2 ∨ L = 3 ∨ L = 4 by omega) with h | h | h | h | h
    · exact fin _ lwF hO0 (by rw [h]; exact segL0) ρ _ hρE hρb
    · exact fin _ lwF hO0 (by rw [h]; exact segL1) ρ _ hρE hρb
    · exact fin _ lwF hO0 (by rw [h]; exact segL2) ρ _ hρE hρb
    · exact fin _ lwF hO0 (by rw [h]; exact segL3) ρ _ hρE hρb
    · exact sw_all (fun O hO h9 => fin O lwF hO (by rw [h]; exact h9) ρ _ hρE hρb) hσc
  exact start s.heap [] _ hI0 hl1
set_option maxHeartbeats 4000000 in
theorem lw_walk (l : Launch) (hflags : l.flags = flags0) (b : Addr) (xs : List Int32) : MetFree l x (headSpec (Jvm.Cond.code x code maxLocals ret :: tables_1) room_1) (lw_P b xs) (fun _ _ _ _ _ => True) lw_Q := by
  refine MetFree.of_bodyS (code := code) (maxLocals := maxLocals) (ret := ret) (by decide) ?_ ?_
  · intro args s m h hn
    obtain ⟨meth, c, h1, h2, h3, h4, h5, h6, -, -⟩ := Cond.code_spec hn (atoms_spec (ws := Jvm.Cond.code x code maxLocals ret :: tables_1) h _ List.mem_cons_self)
    exact ⟨meth, c, h1, h2, h3, h4, h5, h6⟩
  · intro p e s m args below meth c s₁ B hml0 hP _
    obtain ⟨rfl, hx, hbd, hgv⟩ := hP
    obtain ⟨scr, harrAt, hlist, hof, hsmall⟩ := hx
    obtain ⟨hcb, hkn, -, -⟩ := State.arrayAt?_spec harrAt
    have hown : s.vm.findClass R_law = some m.cls := findClass_of_methodNamed B.named
    have hts0 : ∀ c ∈ (Jvm.Cond.code x code maxLocals ret :: tables_1), c.before #[Value.ref b] s = true := atoms_spec (ws := Jvm.Cond.code x code maxLocals ret :: tables_1) B.pre
    have hts : ∀ w ∈ lw_tbl, w.before #[Value.ref b] s = true := k2_hts_sels lw_privs (fun w hw => hts0 w (List.mem_cons_of_mem _ hw)) lw_privs_ok
    have hml : c.maxLocals = 9 := B.maxLocals_eq (hts0 _ List.mem_cons_self)
    have X₀ : Stand p l e room_1 s m #[Value.ref b] below meth c s₁ [] 0 0 := Stand.of_body B
    have hh0 : s₁.heap = s.heap := by rw [B.state]; rfl
    have hsz : scr.slots.size = xs.length := by rw [← Array.length_toList, hlist, List.length_map]
    have hval : ∀ j : Nat, j < xs.length → scr.slots[j]? = some (.int (xs.getD j 0)) := fun j hj => by
      rw [← Array.getElem?_toList, hlist]
      simp [hj]
    have hbl : b < s.heap.size := (Array.getElem?_eq_some_iff.mp hcb).1
    have hX : va_X b xs.length (fun j => xs.getD j 0) s s.heap := ⟨scr, hcb, hof, hkn, hsz, hval⟩
    have K : W p l e room_1 s m #[Value.ref b] below meth c s₁.heap [] 0 0 (lw_Z below #[Value.ref b] s) (entryFrame m ([Value.ref b] : List Value).toArray 9) := by
      rw [hh0]
      exact whole_start l hflags hbd ⟨B.exec, B.bytes, B.returns, hml, hown, hts, hX, hbl, B.notSynchronized, hgv⟩
    obtain ⟨t, a1, o, b1, b2, b3⟩ := K s₁ rfl X₀
    exact ⟨t, o, a1, b1, b2, b3⟩
theorem lw_pre_spec {args : Array Value} {s : State} (h : (Jvm.Cond.and given_1 narrow_1).before args s = true) (hr : rest_1_c.before args s = true) : ∃ (b : Addr) (xs : List Int32), lw_P b xs args s := by
  have hs := flat_of_before _ h
  have hq := flat_of_before _ hr
  have hc : (Cond.count 1).before args s = true := hs _ (by decide +kernel)
  have harr : (Cond.arrayOf (.arg 0) .int).before args s = true := hs _ (by decide +kernel)
  have hle : (Cond.le (.length (.arg 0)) (.int 4)).before args s = true := hs _ (by decide +kernel)
  have hlen : (Cond.isInt (.length (.arg 0))).before args s = true := hq _ (by decide +kernel)
  have hall : (Cond.all (.arg 0) (.isInt (.elem (.arg 0) (.index 0)))).before args s = true := hq _ (by decide +kernel)
  obtain ⟨b, xs, hb, hx⟩ := State.ints_of_pre rfl harr hlen hall
  have hsm : xs.length < 2 ^ 31 := hx.choose_spec.2.2.2
  have hev : (Term.length (.arg 0)).eval args s none [] s = some (.int xs.length.toInt32) := hx.length_eval hb
  have hv := Cond.le_ints hev (show (Term.int 4).eval args s none [] s = some (.int 4) from rfl)
  have hd : xs.length.toInt32 ≤ 4 := by
    simpa [Cond.before, Cond.holds, hv] using hle
  have hN : xs.length ≤ 4 := (Int32.ofNat_le_ofNat hsm (by decide)).mp (show Int32.ofNat xs.length ≤ Int32.ofNat 4 from hd)
  exact ⟨b, xs, Cond.one_arg hc (show args[0]? = some (.ref b) from hb), hx, hN, h⟩
theorem lw_comes (l : Launch) (hflags : l.flags = flags0) : Comes l x (Jvm.Cond.code x code maxLocals ret :: tables_1) room_1 (fun tb e args s => Calls_1 tb e args s ∧ rest_1 tb e args s ∧ Pre_1 tb e args s)
    (fun _ _ args s o t => lw_Q args s o t) := by
  intro p e ha hc hk s m args below hf hfit hheap happ hpre
  obtain ⟨b, xs, hP⟩ := lw_pre_spec hpre.2.2 hpre.2.1
  obtain ⟨k, o, h1, h2, h3, hQ⟩ := lw_walk l hflags b xs p e ha hc hk s m args below hf ((Spec.applies_iff_loose hf).mp happ).1 hP trivial
  exact ⟨k, o, h1, h2, h3, hQ⟩
theorem lw_frame {s t : State} {o : Outcome} {args : Array Value} (h : State.butDraws s t lw_cs (fun t1 => Framed s o t1 [] 624780 7227733)) :
    State.butDraws s t [Jvm.Choice.named "NaN.bits"] (fun t1 => Framed s o t1 (fieldLocs frame_1_writes args s ++ arrayLocs frame_1_arrays args s ++ staticLocs frame_1_statics s) 624780 7227733) := h
theorem lw_limb (L : Cond) (hL : ∀ (args : Array Value) (s t : State), L.after args s (.returned (some (.int 1))) t = true) :
    ArmFor flags0 classFile x code maxLocals ret World_1 tables_1 room_1 Calls_1 rest_1 Pre_1
      (fun tb e a s o t => postC L tb e a s o t ∧ State.butDraws s t [Jvm.Choice.named "NaN.bits"] (fun t1 => Framed s o t1 (fieldLocs frame_1_writes a s ++ arrayLocs frame_1_arrays a s ++ staticLocs frame_1_statics s) 624780 7227733)) := by
  intro l hflags _ _ p e ha hc hk s m args below hf hfit hheap happ hpre
  obtain ⟨k, o, h1, h2, h3, rfl, hF⟩ := lw_comes l hflags p e ha hc hk s m args below hf hfit hheap happ hpre
  exact ⟨k, _, h1, h2, h3, hL args s _, lw_frame hF⟩
theorem i_vc : Claimed_1_1 ∧ Claimed_1_2 := ⟨lw_limb limb_1_1 (fun args s t => by simp [limb_1_1, Cond.after, Cond.holds, Cond.value]), lw_limb limb_1_2 (fun args s t => Cond.after_iff.mpr (by
  first | (rw [show limb_1_2 = Cond.eq .result (.int 1) from rfl, Cond.eq_ints (x := 1) (y := 1) rfl rfl]; simp; done) | (simp [limb_1_2, Cond.value, Term.eval]; done)))⟩
