/-! steps that rest on tables of their own: fields, new cells, constants, natives -/
theorem any_ok {w : Cond} (hw : w.onTables = true) {args : Array Value} {s : State} (h : ∀ w ∈ lwA, w.before args s = true) (hm : w ∈ lwA) : va_Nw w s := va_Nw.of hw (h w hm)
theorem own_eq {g : rG} {o : Nat} {own own2 : String} (h : clsN[g.2.2.2.2.1]? = some own) (h2 : clsN[o]? = some own2) (e : Nat.beq o g.2.2.2.2.1 = true) : own2 = own := by
  cases Nat.eq_of_beq_eq_true e
  exact Option.some.inj (h2.symm.trans h)
def tcOk (tc : Nat) (ty : FieldType) : Prop := match tc with
  | 0 => ty = .int
  | 1 => ty = .boolean
  | 2 => ty = .char
  | 3 => True
  | _ => (∃ n, ty = .object n) ∨ ∃ t, ty = .array t
def okF (tc : Nat) (v : rV) : Bool := match tc with
  | 0 => isI v
  | 1 => (match v with | .inl (.int x) => decide (x = 0) || decide (x = 1) | _ => false)
  | 2 => (match v with | .inl (.int x) => decide (x = 119) | _ => false)
  | 3 => false
  | _ => isR v
theorem okF_ok {tc : Nat} {ty : FieldType} {v : rV} {ρ : Nat → Nat} {σ : Nat → Int32} (h1 : tcOk tc ty) (h2 : okF tc v = true) : narrow ty (cV ρ σ v) = cV ρ σ v ∧ fits ty (cV ρ σ v) = true := by
  match tc, h1, h2 with
  | 0, h1, h2 =>
    cases h1
    rw [cV_int h2]
    exact ⟨rfl, rfl⟩
  | 1, h1, h2 =>
    cases h1
    simp only [okF] at h2
    split at h2
    · rename_i x
      simp only [Bool.or_eq_true, decide_eq_true_eq] at h2
      rcases h2 with rfl | rfl
      · exact ⟨rfl, rfl⟩
      · exact ⟨rfl, rfl⟩
    · cases h2
  | 2, h1, h2 =>
    cases h1
    simp only [okF] at h2
    split at h2
    · rename_i x
      simp only [decide_eq_true_eq] at h2
      subst h2
      exact ⟨rfl, rfl⟩
    · cases h2
  | 3, _, h2 => cases (show false = true from h2)
  | tc + 4, h1, h2 =>
    have h2 : isR v = true := h2
    unfold isR at h2
    split at h2
    · rcases h1 with ⟨n, rfl⟩ | ⟨t, rfl⟩
      · exact ⟨rfl, rfl⟩
      · exact ⟨rfl, rfl⟩
    · rcases h1 with ⟨n, rfl⟩ | ⟨t, rfl⟩
      · exact ⟨rfl, rfl⟩
      · exact ⟨rfl, rfl⟩
    · cases h2
/-- a field: whose code names it, by which entry, in objects of which kind, at which place, of which sort, whether it is final -/
def rFld (q : Nat × Nat × Nat × Nat × Nat × Bool) : Prop := ∃ (o ref C : String) (T : u_T) (N : Nat) (ty0 : Nat → FieldType), clsN[q.1]? = some o ∧ vwC9[q.2.2.1]? = some (C, T, N) ∧ (∀ w ∈ u_ws C T N, w ∈ lwA) ∧ q.2.2.2.1 < N ∧ Cond.fieldLink o q.2.1 ref (T q.2.2.2.1).2.1 (T q.2.2.2.1).2.2.1 ∈ lwA ∧ (ref = (T q.2.2.2.1).1 ∨ Cond.sameField ref (T q.2.2.2.1).1 (T q.2.2.2.1).2.1 (T q.2.2.2.1).2.2.1 ∈ lwA) ∧ (∀ k, k < N → parseFieldDescriptor (T k).2.2.1 = some (ty0 k)) ∧ (∀ a, a < N → ∀ b, b < N → a ≠ b → (T a).2.1 ≠ (T b).2.1) ∧ tcOk q.2.2.2.2.1 (ty0 q.2.2.2.1) ∧ (T q.2.2.2.1).2.2.2 = q.2.2.2.2.2 ∧ (q.2.2.2.2.2 = true → q.2.2.2.2.1 = 3 ∨ (T q.2.2.2.1).1 = o)
theorem hsameF {args : Array Value} {s : State} {T : u_T} {k : Nat} {ref : String} (hW : ∀ w ∈ lwA, w.before args s = true) (h : ref = (T k).1 ∨ Cond.sameField ref (T k).1 (T k).2.1 (T k).2.2.1 ∈ lwA) : ∀ x, s.fieldFound? (T k).1 (T k).2.1 (T k).2.2.1 = some x → s.fieldFound? ref (T k).2.1 (T k).2.2.1 = some x := by
  rcases h with rfl | h
  · exact fun _ z => z
  · exact fun x z => u_same (hW _ h) x z
def sGf (g : rG) (a : Int) : rF → Option rF := fun ⟨lv, st, pc, aw, kc, ks⟩ =>
  match fT[a.toNat]?, st with
  | some (o, _, ci, k, _, _), .inl (.ref r) :: st => (match aw[r]? with
    | some (.inr (cj, fs)) => if Nat.beq o g.2.2.2.2.1 && Nat.beq cj ci then (match fs[k]? with
      | some v => some (lv, v :: st, pc + 3, aw, kc, ks)
      | none => none) else none
    | _ => none)
  | _, _ => none
def dkF (f : Nat → Instr) (a : Int) : List (Nat × Instr × Nat) := match fT[a.toNat]? with
  | some q => [(0, f q.2.1, 3)]
  | none => []
theorem ok_getf (hT : ∀ q ∈ fT, rFld q) : rOk (dkF .getfield) sGf := by
  intro p l e R s m args below meth c D A σ Q g cc own E b xs a fr fr' X hd h hc hs ρ κ hE hb k H locs ls hI hl
  obtain ⟨lv, st, pc, aw, kc, ks⟩ := fr
  obtain ⟨hx, hbc, hml, hown, hlk, hK, hA, hW, ⟨hR1, hR2⟩, hSt, hSc, hO, hcl, hin⟩ := X
  simp only [sGf] at h
  split at h
  · rename_i o i ci kk tc fi r st' hq
    split at h
    · rename_i cj fs hr
      split at h
      · rename_i ho
        simp only [Bool.and_eq_true] at ho
        split at h
        · rename_i v hv
          cases h
          cases Nat.eq_of_beq_eq_true ho.2
          obtain ⟨o2, ref, C, T, N, ty0, f1, f2, f3, f4, f5, f6, f7, f8, f9, f10, f11⟩ := hT _ (List.mem_of_getElem? hq)
          cases own_eq hcl f1 ho.1
          have d : decode cc pc = .ok (.getfield i, 3) := hd (0, .getfield i, 3) (by simp only [dkF, hq]; exact List.mem_cons_self)
          exact va_get (D := D) hx hbc hW f3 hown hK hI.2.1 r (cW_at hr) f2 kk f4 (hW _ f5) (hsameF hW f6) (by rw [List.getElem?_map, hv]; rfl) d (k ρ κ rExt.rf H locs ls hI hl)
        · cases h
      · cases h
    · cases h
  · cases h
def rFldN (q : Nat × Nat × Nat × Nat) : Prop := ∃ (o ref C host : String) (T : u_T) (N : Nat), clsN[q.1]? = some o ∧ vwC9[q.2.2.1]? = some (C, T, N) ∧ (∀ w ∈ u_ws C T N, w ∈ lwA) ∧ q.2.2.2 < N ∧ Cond.fieldLinkNest o q.2.1 ref (T q.2.2.2).2.1 (T q.2.2.2).2.2.1 host ∈ lwA ∧ ref = (T q.2.2.2).1
def sGn (g : rG) (a : Int) : rF → Option rF := fun ⟨lv, st, pc, aw, kc, ks⟩ =>
  match fnT[a.toNat]?, st with
  | some (o, _, ci, k), .inl (.ref r) :: st => (match aw[r]? with
    | some (.inr (cj, fs)) => if Nat.beq o g.2.2.2.2.1 && Nat.beq cj ci then (match fs[k]? with
      | some v => some (lv, v :: st, pc + 3, aw, kc, ks)
      | none => none) else none
    | _ => none)
  | _, _ => none
def dkN (a : Int) : List (Nat × Instr × Nat) := match fnT[a.toNat]? with
  | some q => [(0, .getfield q.2.1, 3)]
  | none => []
theorem ok_getN (hT : ∀ q ∈ fnT, rFldN q) : rOk dkN sGn := by
  intro p l e R s m args below meth c D A σ Q g cc own E b xs a fr fr' X hd h hc hs ρ κ hE hb k H locs ls hI hl
  obtain ⟨lv, st, pc, aw, kc, ks⟩ := fr
  obtain ⟨hx, hbc, hml, hown, hlk, hK, hA, hW, ⟨hR1, hR2⟩, hSt, hSc, hO, hcl, hin⟩ := X
  simp only [sGn] at h
  split at h
  · rename_i o i ci kk r st' hq
    split at h
    · rename_i cj fs hr
      split at h
      · rename_i ho
        simp only [Bool.and_eq_true] at ho
        split at h
        · rename_i v hv
          cases h
          cases Nat.eq_of_beq_eq_true ho.2
          obtain ⟨o2, ref, C, host, T, N, f1, f2, f3, f4, f5, f6⟩ := hT _ (List.mem_of_getElem? hq)
          cases own_eq hcl f1 ho.1
          have d : decode cc pc = .ok (.getfield i, 3) := hd (0, .getfield i, 3) (by simp only [dkN, hq]; exact List.mem_cons_self)
          exact va_getN (D := D) hx hbc hW f3 hown hK hI.2.1 r (cW_at hr) f2 kk f4 (hW _ f5) (by rw [f6]; exact fun _ z => z) (by rw [List.getElem?_map, hv]; rfl) d (k ρ κ rExt.rf H locs ls hI hl)
        · cases h
      · cases h
    · cases h
  · cases h
def sPf (fin : Bool) (g : rG) (a : Int) : rF → Option rF := fun ⟨lv, st, pc, aw, kc, ks⟩ =>
  match fT[a.toNat]?, st with
  | some (o, _, ci, k, tc, fi), v :: .inl (.ref r) :: st => (match aw[r]? with
    | some (.inr (cj, fs)) => if (Nat.beq o g.2.2.2.2.1 && Nat.beq cj ci) && ((okF tc v && Nat.blt k fs.length) && (decide (fi = fin) && (!fin || g.2.2.2.2.2))) then some (lv, st, pc + 3, aw.set r (.inr (ci, fs.set k v)), kc, ks) else none
    | _ => none)
  | _, _ => none
theorem setP {ρ : Nat → Nat} {κ : Nat → ClassId} {σ : Nat → Int32} {aw : List rC} {r ci k : Nat} {fs : List rV} {v : rV} : (cW ρ κ σ 0 aw).set r (ρ r, .inr (ci, (fs.map (cV ρ σ)).set k (cV ρ σ v))) = cW ρ κ σ 0 (aw.set r (.inr (ci, fs.set k v))) := by
  rw [← cW_put]
  simp only [cC, List.map_set]
theorem ok_putf (hT : ∀ q ∈ fT, rFld q) : rOk (dkF .putfield) (sPf false) := by
  intro p l e R s m args below meth c D A σ Q g cc own E b xs a fr fr' X hd h hc hs ρ κ hE hb k H locs ls hI hl
  obtain ⟨lv, st, pc, aw, kc, ks⟩ := fr
  obtain ⟨hx, hbc, hml, hown, hlk, hK, hA, hW, ⟨hR1, hR2⟩, hSt, hSc, hO, hcl, hin⟩ := X
  simp only [sPf] at h
  split at h
  · rename_i o i ci kk tc fi v r st' hq
    split at h
    · rename_i cj fs hr
      split at h
      · rename_i ho
        cases h
        simp only [Bool.and_eq_true, decide_eq_true_eq] at ho
        obtain ⟨⟨ho, hci⟩, ⟨hv, hk⟩, rfl, -⟩ := ho
        cases Nat.eq_of_beq_eq_true hci
        obtain ⟨o2, ref, C, T, N, ty0, f1, f2, f3, f4, f5, f6, f7, f8, f9, f10, f11⟩ := hT _ (List.mem_of_getElem? hq)
        cases own_eq hcl f1 ho
        have d : decode cc pc = .ok (.putfield i, 3) := hd (0, .putfield i, 3) (by simp only [dkF, hq]; exact List.mem_cons_self)
        obtain ⟨hn, hf⟩ := okF_ok (ρ := ρ) (σ := σ) f9 hv
        refine va_put (D := D) hx hbc hW f3 ty0 f7 f8 hown hK hI.2.1 hI.2.2.1 hI.2.2.2 r (cW_at hr) f2 kk f4 (hW _ f5) (hsameF hW f6) f10 (f7 _ f4) hn hf (by rw [List.length_map]; simpa using hk) d (fun H1 locs1 hP hD hS => ?_)
        rw [setP] at hP hD
        exact k ρ κ rExt.rf H1 locs1 ls ⟨hKsetO hI.1, hP, hD, hS⟩ hl
      · cases h
    · cases h
  · cases h
theorem ok_putF (hT : ∀ q ∈ fT, rFld q) : rOk (dkF .putfield) (sPf true) := by
  intro p l e R s m args below meth c D A σ Q g cc own E b xs a fr fr' X hd h hc hs ρ κ hE hb k H locs ls hI hl
  obtain ⟨lv, st, pc, aw, kc, ks⟩ := fr
  obtain ⟨hx, hbc, hml, hown, hlk, hK, hA, hW, ⟨hR1, hR2⟩, hSt, hSc, hO, hcl, hin⟩ := X
  simp only [sPf] at h
  split at h
  · rename_i o i ci kk tc fi v r st' hq
    split at h
    · rename_i cj fs hr
      split at h
      · rename_i ho
        cases h
        simp only [Bool.and_eq_true, decide_eq_true_eq, Bool.not_true, Bool.false_or] at ho
        obtain ⟨⟨ho, hci⟩, ⟨hv, hk⟩, rfl, hi2⟩ := ho
        cases Nat.eq_of_beq_eq_true hci
        obtain ⟨o2, ref, C, T, N, ty0, f1, f2, f3, f4, f5, f6, f7, f8, f9, f10, f11⟩ := hT _ (List.mem_of_getElem? hq)
        cases own_eq hcl f1 ho
        have d : decode cc pc = .ok (.putfield i, 3) := hd (0, .putfield i, 3) (by simp only [dkF, hq]; exact List.mem_cons_self)
        obtain ⟨hn, hf⟩ := okF_ok (ρ := ρ) (σ := σ) f9 hv
        refine va_putF (D := D) hx hbc hW f3 ty0 f7 f8 hown hK hI.2.1 hI.2.2.1 hI.2.2.2 r (cW_at hr) f2 kk f4 (hW _ f5) (hsameF hW f6) f10 (hin hi2) ((f11 rfl).resolve_left (fun z => by cases z; cases hv)) (f7 _ f4) hn hf (by rw [List.length_map]; simpa using hk) d (fun H1 locs1 hP hD hS => ?_)
        rw [setP] at hP hD
        exact k ρ κ rExt.rf H1 locs1 ls ⟨hKsetO hI.1, hP, hD, hS⟩ hl
      · cases h
    · cases h
  · cases h
/-! new cells -/
def wfF (lv : rL) (st : List rV) (aw : List rC) : Bool := wfL aw.length lv && (st.all (wfV aw.length) && (aw.all (wfC aw.length) && Nat.blt aw.length 900))
def upA {α : Type} (f : Nat → α) (k : Nat) (v : α) : Nat → α := fun j => if j = k then v else f j
theorem upA_eq {α : Type} {f : Nat → α} {k : Nat} {v : α} : upA f k v k = v := if_pos rfl
theorem ext_up {n : Nat} {ρ : Nat → Nat} {κ : Nat → ClassId} {q : Nat} {z : ClassId} (hn : n < 900) : rExt n ρ κ (upA ρ n q) (upA κ n z) :=
  ⟨fun i hi => if_neg (by omega), fun i hi => if_neg (by omega)⟩
theorem hKpushA {D : va_G} {s : State} {κ : Nat → ClassId} {aw : List rC} {t : Nat} {es0 : List rV} {z : ClassId} (h : ∀ i t es, aw[i]? = some (.inl (t, es)) → va_K D vwC9 [(κ i, rTy t)] s) (hz : va_K D vwC9 [(z, rTy t)] s) : ∀ i t1 es, (aw ++ [.inl (t, es0)])[i]? = some (.inl (t1, es)) → va_K D vwC9 [(upA κ aw.length z i, rTy t1)] s := by
  intro i t1 es hi
  rw [List.getElem?_append] at hi
  split at hi
  · rename_i hlt
    rw [show upA κ aw.length z i = κ i from if_neg (by omega)]
    exact h _ _ _ hi
  · rename_i hge
    by_cases e : i - aw.length = 0
    · rw [e] at hi
      cases hi
      rw [show upA κ aw.length z i = z from if_pos (by omega)]
      exact hz
    · rw [List.getElem?_eq_none (by simp; omega)] at hi
      cases hi
theorem hKpushO {D : va_G} {s : State} {κ : Nat → ClassId} {aw : List rC} {y : Nat × List rV} {z : ClassId} (h : ∀ i t es, aw[i]? = some (.inl (t, es)) → va_K D vwC9 [(κ i, rTy t)] s) : ∀ i t1 es, (aw ++ [.inr y])[i]? = some (.inl (t1, es)) → va_K D vwC9 [(upA κ aw.length z i, rTy t1)] s := by
  intro i t1 es hi
  rw [List.getElem?_append] at hi
  split at hi
  · rename_i hlt
    rw [show upA κ aw.length z i = κ i from if_neg (by omega)]
    exact h _ _ _ hi
  · by_cases e : i - aw.length = 0
    · rw [e] at hi
      cases hi
    · rw [List.getElem?_eq_none (by simp; omega)] at hi
      cases hi
/-- a new cell comes to the picture -/
theorem new_in {D : va_G} {A : Nat → Prop} {σ : Nat → Int32} {s : State} {ρ : Nat → Nat} {κ : Nat → ClassId} {lv : rL} {st : List rV} {aw : List rC} {H1 : Heap} {locs : List Loc} {q : Nat} {z : ClassId} {y : rC} {v : va_E} (hw : wfF lv st aw = true) (hv : v = cC (upA ρ aw.length q) (upA κ aw.length z) σ aw.length y)
    (hP : va_P D vwC9 (cW ρ κ σ 0 aw ++ [(q, v)]) H1) (hD : va_D A (cW ρ κ σ 0 aw ++ [(q, v)])) (hS : va_S A s.heap H1 locs) (hKy : ∀ i t1 es, (aw ++ [y])[i]? = some (.inl (t1, es)) → va_K D vwC9 [(upA κ aw.length z i, rTy t1)] s) :
    rExt aw.length ρ κ (upA ρ aw.length q) (upA κ aw.length z) ∧ rIv D A σ s (upA ρ aw.length q) (upA κ aw.length z) (aw ++ [y]) H1 locs ∧ cL (upA ρ aw.length q) σ lv = cL ρ σ lv ∧ st.map (cV (upA ρ aw.length q) σ) = st.map (cV ρ σ) ∧ upA ρ aw.length q aw.length = q := by
  simp only [wfF, Bool.and_eq_true] at hw
  obtain ⟨w1, w2, w3, w4⟩ := hw
  have hx : rExt aw.length ρ κ (upA ρ aw.length q) (upA κ aw.length z) := ext_up (by simpa using w4)
  have e : cW ρ κ σ 0 aw ++ [(q, v)] = cW (upA ρ aw.length q) (upA κ aw.length z) σ 0 (aw ++ [y]) := by
    rw [← cW_push, cW_ext hx aw 0 (by omega) w3, hv, upA_eq]
  rw [e] at hP hD
  exact ⟨hx, ⟨hKy, hP, hD, hS⟩, cL_ext hx w1, cVs_ext hx w2, upA_eq⟩
def rNew (q : Nat × Nat × Nat × Nat × List rV) : Prop := ∃ (o C : String) (T : u_T) (ty : Nat → FieldType), clsN[q.1]? = some o ∧ vwC9[q.2.2.1]? = some (C, T, q.2.2.2.1) ∧ (∀ w ∈ u_ws C T q.2.2.2.1, w ∈ lwA) ∧ (∀ k, k < q.2.2.2.1 → parseFieldDescriptor (T k).2.2.1 = some (ty k)) ∧ Cond.classLink o q.2.1 C ∈ lwA ∧ Cond.instantiable C q.2.2.2.1 ∈ lwA ∧ Cond.initialized C ∈ lwA ∧ ∀ (ρ : Nat → Nat) (σ : Nat → Int32) (j : Nat), j < q.2.2.2.1 → defaultValue (ty j) = vp_V (q.2.2.2.2.map (cV ρ σ)) j
def sNew (g : rG) (a : Int) : rF → Option rF := fun ⟨lv, st, pc, aw, kc, ks⟩ =>
  match newT[a.toNat]? with
  | some (o, _, ci, N, fs) => if Nat.beq o g.2.2.2.2.1 && wfF lv st aw then some (lv, .inl (.ref aw.length) :: st, pc + 3, aw ++ [.inr (ci, fs)], kc + 1, ks + N) else none
  | none => none
def dkNew (a : Int) : List (Nat × Instr × Nat) := match newT[a.toNat]? with
  | some q => [(0, .new q.2.1, 3)]
  | none => []
theorem ok_new (hT : ∀ q ∈ newT, rNew q) (hfs : ∀ q ∈ newT, q.2.2.2.2.all (fun v => decide (v = .inl .null) || decide (v = .inl (.int 0))) = true) : rOk dkNew sNew := by
  intro p l e R s m args below meth c D A σ Q g cc own E b xs a fr fr' X hd h hc hs ρ κ hE hb k H locs ls hI hl
  obtain ⟨lv, st, pc, aw, kc, ks⟩ := fr
  obtain ⟨hx, hbc, hml, hown, hlk, hK, hA, hW, ⟨hR1, hR2⟩, hSt, hSc, hO, hcl, hin⟩ := X
  simp only [sNew] at h
  split at h
  · rename_i o i ci N fs hq
    split at h
    · rename_i ho
      cases h
      simp only [Bool.and_eq_true] at ho
      obtain ⟨o2, C, T, ty, f1, f2, f3, f4, f5, f6, f7, f8⟩ := hT _ (List.mem_of_getElem? hq)
      have hfs1 := hfs _ (List.mem_of_getElem? hq)
      cases own_eq hcl f1 ho.1
      have d : decode cc pc = .ok (.new i, 3) := hd (0, .new i, 3) (by simp only [dkNew, hq]; exact List.mem_cons_self)
      refine va_new (D := D) (fs := fs.map (cV ρ σ)) hx hbc hW f3 ty f4 hown (hW _ f5) (hW _ f6) (hW _ f7) hK hI.2.1 hI.2.2.1 hI.2.2.2 hA f2 (f8 ρ σ) hc hs d (fun q H1 hP hD hS => ?_)
      have e : fs.map (cV ρ σ) = fs.map (cV (upA ρ aw.length q) σ) := by
        apply List.map_congr_left
        intro v hv
        have := List.all_eq_true.mp hfs1 v hv
        simp only [Bool.or_eq_true, decide_eq_true_eq] at this
        rcases this with rfl | rfl <;> rfl
      obtain ⟨x1, x2, x3, x4, x5⟩ := new_in (z := κ 0) (y := .inr (ci, fs)) (v := .inr (ci, fs.map (cV ρ σ))) ho.2 (by simp only [cC]; rw [e]) hP hD hS (hKpushO hI.1)
      have kk := k _ _ x1 H1 locs ls x2 (by simp only [x3]; exact hl)
      simp only [List.map_cons] at kk
      rw [x4] at kk
      rw [show cV (upA ρ aw.length q) σ (.inl (.ref aw.length)) = .ref q from congrArg Value.ref x5] at kk
      exact kk
    · cases h
  · cases h
theorem repD {n j : Nat} {z : rV} : (List.replicate n z).getD j z = z := by
  rw [List.getD_eq_getElem?_getD, List.getElem?_replicate]
  split <;> rfl
theorem repD1 {n j : Nat} : (List.replicate n (rZ 1)).getD j (rZ 0) = rZ 0 := repD
def sNa (t : Nat) (g : rG) (a : Int) : rF → Option rF := fun ⟨lv, st, pc, aw, kc, ks⟩ =>
  match st with
  | .inl (.int n) :: st => if (!decide (n < 0) && Nat.ble n.toNatClampNeg 1000) && wfF lv st aw then some (lv, .inl (.ref aw.length) :: st, pc + 2, aw ++ [.inl (t, List.replicate n.toNatClampNeg (rZ t))], kc + 1, ks + n.toNatClampNeg) else none
  | _ => none
theorem ok_newI (hT : Cond.arrayClass .int ∈ lwA) : rOk (fun _ => [(0, .newarray .int, 2)]) (sNa 0) := by
  intro p l e R s m args below meth c D A σ Q g cc own E b xs a fr fr' X hd h hc hs ρ κ hE hb k H locs ls hI hl
  obtain ⟨lv, st, pc, aw, kc, ks⟩ := fr
  obtain ⟨hx, hbc, hml, hown, hlk, hK, hA, hW, ⟨hR1, hR2⟩, hSt, hSc, hO, hcl, hin⟩ := X
  simp only [sNa] at h
  split at h
  · rename_i n st'
    split at h
    · rename_i hn
      cases h
      simp only [Bool.and_eq_true, Bool.not_eq_true', decide_eq_false_iff_not] at hn
      obtain ⟨⟨h0, h1⟩, hw⟩ := hn
      have h1 : n.toNatClampNeg ≤ 1000 := Nat.le_of_ble_eq_true h1
      have d := hd _ List.mem_cons_self
      refine va_newa (D := D) (tys := []) (atype := .int) (ty := .int) (N' := n.toNatClampNeg) (a0 := cA ρ σ 0 (List.replicate n.toNatClampNeg (rZ 0))) hx hbc (hW _ hT) rfl hK hI.2.1 hI.2.2.1 hI.2.2.2 hA (fun cA9 => ?_) h0 rfl (Nat.le_trans (Nat.mul_le_mul_right _ h1) (Nat.le_of_ble_eq_true rfl)) hc hs d (fun q z H1 hK1 hP hD hS => ?_)
      · simp only [cA, repD, List.length_replicate]
        rfl
      · have e : ∀ ρ1 : Nat → Nat, cA ρ1 σ 0 (List.replicate n.toNatClampNeg (rZ 0)) = cA ρ σ 0 (List.replicate n.toNatClampNeg (rZ 0)) := fun ρ1 => by simp only [cA, repD]; rfl
        obtain ⟨x1, x2, x3, x4, x5⟩ := new_in (z := z) (y := .inl (0, List.replicate n.toNatClampNeg (rZ 0))) hw (by simp only [cC]; rw [upA_eq, e (upA ρ aw.length q)]) hP hD hS (hKpushA hI.1 hK1)
        have kk := k _ _ x1 H1 locs ls x2 (by simp only [x3]; exact hl)
        simp only [List.map_cons] at kk
        rw [x4] at kk
        rw [show cV (upA ρ aw.length q) σ (.inl (.ref aw.length)) = .ref q from congrArg Value.ref x5] at kk
        exact kk
    · cases h
  · cases h
theorem ok_newZ (hT : Cond.arrayClass .boolean ∈ lwA) : rOk (fun _ => [(0, .newarray .boolean, 2)]) (sNa 1) := by
  intro p l e R s m args below meth c D A σ Q g cc own E b xs a fr fr' X hd h hc hs ρ κ hE hb k H locs ls hI hl
  obtain ⟨lv, st, pc, aw, kc, ks⟩ := fr
  obtain ⟨hx, hbc, hml, hown, hlk, hK, hA, hW, ⟨hR1, hR2⟩, hSt, hSc, hO, hcl, hin⟩ := X
  simp only [sNa] at h
  split at h
  · rename_i n st'
    split at h
    · rename_i hn
      cases h
      simp only [Bool.and_eq_true, Bool.not_eq_true', decide_eq_false_iff_not] at hn
      obtain ⟨⟨h0, h1⟩, hw⟩ := hn
      have h1 : n.toNatClampNeg ≤ 1000 := Nat.le_of_ble_eq_true h1
      have d := hd _ List.mem_cons_self
      refine va_newa (D := D) (tys := []) (atype := .boolean) (ty := .boolean) (N' := n.toNatClampNeg) (a0 := cA ρ σ 1 (List.replicate n.toNatClampNeg (rZ 1))) hx hbc (hW _ hT) rfl hK hI.2.1 hI.2.2.1 hI.2.2.2 hA (fun cA9 => ?_) h0 rfl (Nat.le_trans (Nat.mul_le_mul_right _ h1) (Nat.le_of_ble_eq_true rfl)) hc hs d (fun q z H1 hK1 hP hD hS => ?_)
      · simp only [cA, repD1, List.length_replicate]
        rfl
      · have e : ∀ ρ1 : Nat → Nat, cA ρ1 σ 1 (List.replicate n.toNatClampNeg (rZ 1)) = cA ρ σ 1 (List.replicate n.toNatClampNeg (rZ 1)) := fun ρ1 => by simp only [cA, repD1]; rfl
        obtain ⟨x1, x2, x3, x4, x5⟩ := new_in (z := z) (y := .inl (1, List.replicate n.toNatClampNeg (rZ 1))) hw (by simp only [cC]; rw [upA_eq, e (upA ρ aw.length q)]) hP hD hS (hKpushA hI.1 hK1)
        have kk := k _ _ x1 H1 locs ls x2 (by simp only [x3]; exact hl)
        simp only [List.map_cons] at kk
        rw [x4] at kk
        rw [show cV (upA ρ aw.length q) σ (.inl (.ref aw.length)) = .ref q from congrArg Value.ref x5] at kk
        exact kk
    · cases h
  · cases h
theorem ok_newJ (hT : Cond.arrayClass .long ∈ lwA) : rOk (fun _ => [(0, .newarray .long, 2)]) (sNa 2) := by
  intro p l e R s m args below meth c D A σ Q g cc own E b xs a fr fr' X hd h hc hs ρ κ hE hb k H locs ls hI hl
  obtain ⟨lv, st, pc, aw, kc, ks⟩ := fr
  obtain ⟨hx, hbc, hml, hown, hlk, hK, hA, hW, ⟨hR1, hR2⟩, hSt, hSc, hO, hcl, hin⟩ := X
  simp only [sNa] at h
  split at h
  · rename_i n st'
    split at h
    · rename_i hn
      cases h
      simp only [Bool.and_eq_true, Bool.not_eq_true', decide_eq_false_iff_not] at hn
      obtain ⟨⟨h0, h1⟩, hw⟩ := hn
      have h1 : n.toNatClampNeg ≤ 1000 := Nat.le_of_ble_eq_true h1
      have d := hd _ List.mem_cons_self
      refine va_newa (D := D) (tys := []) (atype := .long) (ty := .long) (N' := n.toNatClampNeg) (a0 := cA ρ σ 2 (List.replicate n.toNatClampNeg (rZ 2))) hx hbc (hW _ hT) rfl hK hI.2.1 hI.2.2.1 hI.2.2.2 hA (fun cA9 => ?_) h0 rfl (Nat.le_trans (Nat.mul_le_mul_right _ h1) (Nat.le_of_ble_eq_true rfl)) hc hs d (fun q z H1 hK1 hP hD hS => ?_)
      · simp only [cA, repD, List.length_replicate]
        rfl
      · have e : ∀ ρ1 : Nat → Nat, cA ρ1 σ 2 (List.replicate n.toNatClampNeg (rZ 2)) = cA ρ σ 2 (List.replicate n.toNatClampNeg (rZ 2)) := fun ρ1 => by simp only [cA, repD]; rfl
        obtain ⟨x1, x2, x3, x4, x5⟩ := new_in (z := z) (y := .inl (2, List.replicate n.toNatClampNeg (rZ 2))) hw (by simp only [cC]; rw [upA_eq, e (upA ρ aw.length q)]) hP hD hS (hKpushA hI.1 hK1)
        have kk := k _ _ x1 H1 locs ls x2 (by simp only [x3]; exact hl)
        simp only [List.map_cons] at kk
        rw [x4] at kk
        rw [show cV (upA ρ aw.length q) σ (.inl (.ref aw.length)) = .ref q from congrArg Value.ref x5] at kk
        exact kk
    · cases h
  · cases h
theorem ok_newD (hT : Cond.arrayClass .double ∈ lwA) : rOk (fun _ => [(0, .newarray .double, 2)]) (sNa 3) := by
  intro p l e R s m args below meth c D A σ Q g cc own E b xs a fr fr' X hd h hc hs ρ κ hE hb k H locs ls hI hl
  obtain ⟨lv, st, pc, aw, kc, ks⟩ := fr
  obtain ⟨hx, hbc, hml, hown, hlk, hK, hA, hW, ⟨hR1, hR2⟩, hSt, hSc, hO, hcl, hin⟩ := X
  simp only [sNa] at h
  split at h
  · rename_i n st'
    split at h
    · rename_i hn
      cases h
      simp only [Bool.and_eq_true, Bool.not_eq_true', decide_eq_false_iff_not] at hn
      obtain ⟨⟨h0, h1⟩, hw⟩ := hn
      have h1 : n.toNatClampNeg ≤ 1000 := Nat.le_of_ble_eq_true h1
      have d := hd _ List.mem_cons_self
      refine va_newa (D := D) (tys := []) (atype := .double) (ty := .double) (N' := n.toNatClampNeg) (a0 := cA ρ σ 3 (List.replicate n.toNatClampNeg (rZ 3))) hx hbc (hW _ hT) rfl hK hI.2.1 hI.2.2.1 hI.2.2.2 hA (fun cA9 => ?_) h0 rfl (Nat.le_trans (Nat.mul_le_mul_right _ h1) (Nat.le_of_ble_eq_true rfl)) hc hs d (fun q z H1 hK1 hP hD hS => ?_)
      · simp only [cA, repD, List.length_replicate]
        rfl
      · have e : ∀ ρ1 : Nat → Nat, cA ρ1 σ 3 (List.replicate n.toNatClampNeg (rZ 3)) = cA ρ σ 3 (List.replicate n.toNatClampNeg (rZ 3)) := fun ρ1 => by simp only [cA, repD]; rfl
        obtain ⟨x1, x2, x3, x4, x5⟩ := new_in (z := z) (y := .inl (3, List.replicate n.toNatClampNeg (rZ 3))) hw (by simp only [cC]; rw [upA_eq, e (upA ρ aw.length q)]) hP hD hS (hKpushA hI.1 hK1)
        have kk := k _ _ x1 H1 locs ls x2 (by simp only [x3]; exact hl)
        simp only [List.map_cons] at kk
        rw [x4] at kk
        rw [show cV (upA ρ aw.length q) σ (.inl (.ref aw.length)) = .ref q from congrArg Value.ref x5] at kk
        exact kk
    · cases h
  · cases h
def rAn (q : Nat × Nat) : Prop := ∃ o : String, clsN[q.1]? = some o ∧ Cond.classLink o q.2 "java/lang/Object" ∈ lwA ∧ Cond.arrayOver (.object "java/lang/Object") ∈ lwA
def sAn (g : rG) (a : Int) : rF → Option rF := fun ⟨lv, st, pc, aw, kc, ks⟩ =>
  match anT[a.toNat]?, st with
  | some (o, _), .inl (.int n) :: st => if Nat.beq o g.2.2.2.2.1 && ((!decide (n < 0) && Nat.ble n.toNatClampNeg 1000) && wfF lv st aw) then some (lv, .inl (.ref aw.length) :: st, pc + 3, aw ++ [.inl (4, List.replicate n.toNatClampNeg (rZ 4))], kc + 1, ks + n.toNatClampNeg) else none
  | _, _ => none
def dkAn (a : Int) : List (Nat × Instr × Nat) := match anT[a.toNat]? with
  | some q => [(0, .anewarray q.2, 3)]
  | none => []
theorem ok_anew (hT : ∀ q ∈ anT, rAn q) : rOk dkAn sAn := by
  intro p l e R s m args below meth c D A σ Q g cc own E b xs a fr fr' X hd h hc hs ρ κ hE hb k H locs ls hI hl
  obtain ⟨lv, st, pc, aw, kc, ks⟩ := fr
  obtain ⟨hx, hbc, hml, hown, hlk, hK, hA, hW, ⟨hR1, hR2⟩, hSt, hSc, hO, hcl, hin⟩ := X
  simp only [sAn] at h
  split at h
  · rename_i o i n st' hq
    split at h
    · rename_i hn
      cases h
      simp only [Bool.and_eq_true, Bool.not_eq_true', decide_eq_false_iff_not] at hn
      obtain ⟨ho, ⟨h0, h1⟩, hw⟩ := hn
      have h1 : n.toNatClampNeg ≤ 1000 := Nat.le_of_ble_eq_true h1
      obtain ⟨o2, f1, f2, f3⟩ := hT _ (List.mem_of_getElem? hq)
      cases own_eq hcl f1 ho
      have d : decode cc pc = .ok (.anewarray i, 3) := hd (0, .anewarray i, 3) (by simp only [dkAn, hq]; exact List.mem_cons_self)
      refine va_newq (D := D) (tys := []) (N' := n.toNatClampNeg) hx hbc hown (hW _ f2) (hW _ f3) hK hI.2.1 hI.2.2.1 hI.2.2.2 hA h0 rfl (Nat.le_trans (Nat.mul_le_mul_right _ h1) (Nat.le_of_ble_eq_true rfl)) hc hs d (fun q z H1 hK1 hP hD hS => ?_)
      have e : ∀ ρ1 : Nat → Nat, ((n.toNatClampNeg, .inr (.inr (.inr (.inr (fun _ => none))))) : vp_A) = cA ρ1 σ 4 (List.replicate n.toNatClampNeg (rZ 4)) := fun ρ1 => by simp only [cA, repD, List.length_replicate]; rfl
      obtain ⟨x1, x2, x3, x4, x5⟩ := new_in (z := z) (y := .inl (4, List.replicate n.toNatClampNeg (rZ 4))) hw (by simp only [cC]; rw [upA_eq, ← e (upA ρ aw.length q)]) hP hD hS (hKpushA hI.1 hK1)
      have kk := k _ _ x1 H1 locs ls x2 (by simp only [x3]; exact hl)
      simp only [List.map_cons] at kk
      rw [x4] at kk
      rw [show cV (upA ρ aw.length q) σ (.inl (.ref aw.length)) = .ref q from congrArg Value.ref x5] at kk
      exact kk
    · cases h
  · cases h
/-! arrays of refs, lengths -/
def sAas (g : rG) (a : Int) : rF → Option rF := fun ⟨lv, st, pc, aw, kc, ks⟩ =>
  match st with
  | .inl (.ref v) :: .inl (.int i) :: .inl (.ref r) :: st => (match aw[r]?, aw[v]? with
    | some (.inl (4, es)), some (.inr (ci, _)) => if (!decide (i < 0) && Nat.blt i.toNatClampNeg es.length) && caT.contains ci then some (lv, st, pc + 1, aw.set r (.inl (4, es.set i.toNatClampNeg (.inl (.ref v)))), kc, ks) else none
    | _, _ => none)
  | _ => none
def rCa (ci : Nat) : Prop := ∃ q : vw_C, vwC9[ci]? = some q ∧ Cond.castable q.1 "java/lang/Object" ∈ lwA
theorem ok_aastore (hT : ∀ ci ∈ caT, rCa ci) : rOk (fun _ => [(0, .aastore, 1)]) sAas := by
  intro p l e R s m args below meth c D A σ Q g cc own E b xs a fr fr' X hd h hc hs ρ κ hE hb k H locs ls hI hl
  obtain ⟨lv, st, pc, aw, kc, ks⟩ := fr
  obtain ⟨hx, hbc, hml, hown, hlk, hK, hA, hW, ⟨hR1, hR2⟩, hSt, hSc, hO, hcl, hin⟩ := X
  simp only [sAas] at h
  split at h
  · rename_i v i r st'
    split at h
    · rename_i es ci fs hr hv
      split at h
      · rename_i hi
        cases h
        simp only [Bool.and_eq_true, Bool.not_eq_true', decide_eq_false_iff_not] at hi
        obtain ⟨⟨h0, hn⟩, hca⟩ := hi
        have hn : i.toNatClampNeg < es.length := by simpa using hn
        obtain ⟨q9, f1, f2⟩ := hT ci (by simpa using hca)
        have d := hd _ List.mem_cons_self
        refine va_astqO (D := D) hx hbc (hI.1 r 4 es hr) hI.2.1 hI.2.2.1 hI.2.2.2 r 0 v ci (cW_at hr) rfl (va_Nw.of rfl (hW _ f2)) (cW_at hv) f1 (fun z => z.elim h0 (fun z => absurd hn (Nat.not_lt.mpr z))) d (fun H1 locs1 hP hD hS => ?_)
        have e : ((ρ r, .inl (κ r, es.length, .inr (.inr (.inr (.inr (va_up (fun j => uR (cV ρ σ (es.getD j (rZ 4)))) i.toNatClampNeg (some (ρ v)))))))) : Nat × va_E) = (ρ r, cC ρ κ σ r (.inl (4, es.set i.toNatClampNeg (.inl (.ref v))))) := by
          have e2 : va_up (fun j => uR (cV ρ σ (es.getD j (rZ 4)))) i.toNatClampNeg (some (ρ v)) = fun j => uR (cV ρ σ ((es.set i.toNatClampNeg (.inl (.ref v))).getD j (rZ 4))) := by
            funext j
            rw [setD hn]
            unfold va_up
            by_cases hj : j = i.toNatClampNeg
            · rw [if_pos hj, if_pos hj]
              rfl
            · rw [if_neg hj, if_neg hj]
          rw [e2]
          simp only [cC, cA, List.length_set]
        rw [e, cW_put] at hP hD
        exact k ρ κ rExt.rf H1 locs1 ls ⟨hKset hr hI.1, hP, hD, hS⟩ hl
      · cases h
    · cases h
  · cases h
def sLen (g : rG) (a : Int) : rF → Option rF := fun ⟨lv, st, pc, aw, kc, ks⟩ =>
  match st with
  | .inl (.ref r) :: st => (match aw[r]? with
    | some (.inl (_, es)) => some (lv, .inl (.int (Int32.ofNat es.length)) :: st, pc + 1, aw, kc, ks)
    | _ => none)
  | _ => none
theorem ok_alen : rOk (fun _ => [(0, .arraylength, 1)]) sLen := by
  intro p l e R s m args below meth c D A σ Q g cc own E b xs a fr fr' X hd h hc hs ρ κ hE hb k H locs ls hI hl
  obtain ⟨lv, st, pc, aw, kc, ks⟩ := fr
  obtain ⟨hx, hbc, hml, hown, hlk, hK, hA, hW, ⟨hR1, hR2⟩, hSt, hSc, hO, hcl, hin⟩ := X
  simp only [sLen] at h
  split at h
  · rename_i r st'
    split at h
    · rename_i t es hr
      cases h
      have d := hd _ List.mem_cons_self
      exact va_alen (D := D) hx hbc (hI.1 r t es hr) hI.2.1 r 0 (cW_at hr) rfl rfl d (k ρ κ rExt.rf H locs ls hI hl)
    · cases h
  · cases h
def sLenS (g : rG) (a : Int) : rF → Option rF := fun ⟨lv, st, pc, aw, kc, ks⟩ =>
  match st with
  | .inl (.ref 1000) :: st => some (lv, .inl (.int 0) :: st, pc + 1, aw, kc, ks)
  | _ => none
theorem ok_alenS : rOk (fun _ => [(0, .arraylength, 1)]) sLenS := by
  intro p l e R s m args below meth c D A σ Q g cc own E b xs a fr fr' X hd h hc hs ρ κ hE hb k H locs ls hI hl
  obtain ⟨lv, st, pc, aw, kc, ks⟩ := fr
  obtain ⟨hx, hbc, hml, hown, hlk, hK, hA, hW, ⟨hR1, hR2⟩, hSt, hSc, hO, hcl, hin⟩ := X
  simp only [sLenS] at h
  split at h
  · rename_i st'
    cases h
    simp only [List.map_cons]
    rw [show cV ρ σ (.inl (.ref 1000)) = .ref E from congrArg Value.ref hE]
    have d := hd _ List.mem_cons_self
    exact va_tlen hx hbc hSt.2.1 hI.2.2.2 (v := 0) rfl d (k ρ κ rExt.rf H locs ls hI hl)
  · cases h
def sLenX (g : rG) (a : Int) : rF → Option rF := fun ⟨lv, st, pc, aw, kc, ks⟩ =>
  match st with
  | .inl (.ref 1001) :: st => if g.2.2.1 then some (lv, .inl (.int (Int32.ofNat g.2.1)) :: st, pc + 1, aw, kc, ks) else none
  | _ => none
theorem ok_alenX : rOk (fun _ => [(0, .arraylength, 1)]) sLenX := by
  intro p l e R s m args below meth c D A σ Q g cc own E b xs a fr fr' X hd h hc hs ρ κ hE hb k H locs ls hI hl
  obtain ⟨lv, st, pc, aw, kc, ks⟩ := fr
  obtain ⟨hx, hbc, hml, hown, hlk, hK, hA, hW, ⟨hR1, hR2⟩, hSt, hSc, hO, hcl, hin⟩ := X
  simp only [sLenX] at h
  split at h
  · rename_i st'
    split at h
    · rename_i hf
      cases h
      obtain ⟨hX, hbl, hbA, hxs⟩ := hSc hf
      simp only [List.map_cons]
      rw [show cV ρ σ (.inl (.ref 1001)) = .ref b from congrArg Value.ref hb]
      have d := hd _ List.mem_cons_self
      exact va_slen hx hbc hX hbl hbA hI.2.2.2 d (k ρ κ rExt.rf H locs ls hI hl)
    · cases h
  · cases h
/-! the rest: the shared empty array, Object's constructor, Math.max, arraycopy, long constants -/
def rGs (q : Nat × Nat) : Prop := ∃ o : String, clsN[q.1]? = some o ∧ Cond.fieldLink o q.2 "java/util/ArrayList" "DEFAULTCAPACITY_EMPTY_ELEMENTDATA" "[Ljava/lang/Object;" ∈ lwA
def sGs (g : rG) (a : Int) : rF → Option rF := fun ⟨lv, st, pc, aw, kc, ks⟩ =>
  match gsT[a.toNat]? with
  | some (o, _) => if Nat.beq o g.2.2.2.2.1 then some (lv, .inl (.ref 1000) :: st, pc + 3, aw, kc, ks) else none
  | none => none
def dkGs (a : Int) : List (Nat × Instr × Nat) := match gsT[a.toNat]? with
  | some q => [(0, .getstatic q.2, 3)]
  | none => []
theorem ok_gets (hT : ∀ q ∈ gsT, rGs q) : rOk dkGs sGs := by
  intro p l e R s m args below meth c D A σ Q g cc own E b xs a fr fr' X hd h hc hs ρ κ hE hb k H locs ls hI hl
  obtain ⟨lv, st, pc, aw, kc, ks⟩ := fr
  obtain ⟨hx, hbc, hml, hown, hlk, hK, hA, hW, ⟨hR1, hR2⟩, hSt, hSc, hO, hcl, hin⟩ := X
  simp only [sGs] at h
  split at h
  · rename_i o i hq
    split at h
    · rename_i ho
      cases h
      obtain ⟨o2, f1, f2⟩ := hT _ (List.mem_of_getElem? hq)
      cases own_eq hcl f1 ho
      have d : decode cc pc = .ok (.getstatic i, 3) := hd (0, .getstatic i, 3) (by simp only [dkGs, hq]; exact List.mem_cons_self)
      have kk := k ρ κ rExt.rf H locs ls hI hl
      simp only [List.map_cons] at kk
      rw [show cV ρ σ (.inl (.ref 1000)) = .ref E from congrArg Value.ref hE] at kk
      exact va_gets hx hbc hSt.1 hI.2.2.2 hown (hW _ f2) (fun _ z => z) d kk
    · cases h
  · cases h
def sumR (st : List rV) : Nat := match st with
  | [] => 0
  | v :: t => catR v + sumR t
theorem sumR_eq {ρ : Nat → Nat} {σ : Nat → Int32} : ∀ st : List rV, ((st.map (cV ρ σ)).map fun v => v.category).sum = sumR st
  | [] => rfl
  | v :: t => by
    have ih := sumR_eq (ρ := ρ) (σ := σ) t
    simp only [List.map_cons, List.sum_cons, sumR] at ih ⊢
    rw [ih, cV_cat]
def rOi (q : Nat × Nat) : Prop := ∃ o : String, clsN[q.1]? = some o ∧ Cond.methodLink o q.2 objectInit ∈ lwA ∧ Cond.instanceMethod objectInit ∈ lwA ∧ Cond.code objectInit ⟨#[0xb1]⟩ 1 none ∈ lwA
def sOi (g : rG) (a : Int) : rF → Option rF := fun ⟨lv, st, pc, aw, kc, ks⟩ =>
  match oiT[a.toNat]?, st with
  | some (o, _), .inl (.ref _) :: st => if Nat.beq o g.2.2.2.2.1 && Nat.ble (sumR st) 8 then some (lv, st, pc + 3, aw, kc, ks) else none
  | _, _ => none
def dkOi (a : Int) : List (Nat × Instr × Nat) := match oiT[a.toNat]? with
  | some q => [(0, .invokespecial q.2, 3)]
  | none => []
theorem ok_oinit (hT : ∀ q ∈ oiT, rOi q) : rOk dkOi sOi := by
  intro p l e R s m args below meth c D A σ Q g cc own E b xs a fr fr' X hd h hc hs ρ κ hE hb k H locs ls hI hl
  obtain ⟨lv, st, pc, aw, kc, ks⟩ := fr
  obtain ⟨hx, hbc, hml, hown, hlk, hK, hA, hW, ⟨hR1, hR2⟩, hSt, hSc, hO, hcl, hin⟩ := X
  simp only [sOi] at h
  split at h
  · rename_i o i r st' hq
    split at h
    · rename_i ho
      cases h
      simp only [Bool.and_eq_true] at ho
      have hsum : sumR st' ≤ 8 := Nat.le_of_ble_eq_true ho.2
      obtain ⟨o2, f1, f2, f3, f4⟩ := hT _ (List.mem_of_getElem? hq)
      cases own_eq hcl f1 ho.1
      have d : decode cc pc = .ok (.invokespecial i, 3) := hd (0, .invokespecial i, 3) (by simp only [dkOi, hq]; exact List.mem_cons_self)
      exact W.objInit hx hbc hown (hW _ f2) (hW _ f3) (hW _ f4) (g := F0 m pc ls (.ref (ρ r) :: st'.map (cV ρ σ))) rfl (hl.1.trans hml.symm) rfl d (by omega) (by
        rw [sumR_eq]
        show 2 * 0 + sumR st' + 12 ≤ R.locals
        omega) (k ρ κ rExt.rf H locs ls hI hl)
    · cases h
  · cases h
def rMx (q : Nat × Nat) : Prop := ∃ o : String, clsN[q.1]? = some o ∧ Cond.methodLink o q.2 Lib.Math.max.name ∈ lwA ∧ Cond.static Lib.Math.max.name ∈ lwA ∧ Cond.initialized "java/lang/Math" ∈ lwA ∧ Cond.code Lib.Math.max.name Lib.Math.max.code 2 (some .int) ∈ lwA
def sMx (g : rG) (a : Int) : rF → Option rF := fun ⟨lv, st, pc, aw, kc, ks⟩ =>
  match mxT[a.toNat]?, st with
  | some (o, _), .inl (.int y) :: .inl (.int x) :: st => if Nat.beq o g.2.2.2.2.1 && Nat.ble (sumR st) 8 then some (lv, .inl (.int (if x < y then y else x)) :: st, pc + 3, aw, kc, ks) else none
  | _, _ => none
def dkMx (a : Int) : List (Nat × Instr × Nat) := match mxT[a.toNat]? with
  | some q => [(0, .invokestatic q.2, 3)]
  | none => []
theorem ok_max (hT : ∀ q ∈ mxT, rMx q) : rOk dkMx sMx := by
  intro p l e R s m args below meth c D A σ Q g cc own E b xs a fr fr' X hd h hc hs ρ κ hE hb k H locs ls hI hl
  obtain ⟨lv, st, pc, aw, kc, ks⟩ := fr
  obtain ⟨hx, hbc, hml, hown, hlk, hK, hA, hW, ⟨hR1, hR2⟩, hSt, hSc, hO, hcl, hin⟩ := X
  simp only [sMx] at h
  split at h
  · rename_i o i y x st' hq
    split at h
    · rename_i ho
      cases h
      simp only [Bool.and_eq_true] at ho
      have hsum : sumR st' ≤ 8 := Nat.le_of_ble_eq_true ho.2
      obtain ⟨o2, f1, f2, f3, f4, f5⟩ := hT _ (List.mem_of_getElem? hq)
      cases own_eq hcl f1 ho.1
      have d : decode cc pc = .ok (.invokestatic i, 3) := hd (0, .invokestatic i, 3) (by simp only [dkMx, hq]; exact List.mem_cons_self)
      exact va_mmax hx hbc (hml.trans hl.1.symm) hown (hW _ f2) (hW _ f3) (hW _ f4) (hW _ f5) (by omega) (by rw [sumR_eq]; omega) hc hs d (k ρ κ rExt.rf H locs ls hI hl)
    · cases h
  · cases h
def rAc (q : Nat × Nat) : Prop := ∃ o : String, clsN[q.1]? = some o ∧ Cond.methodLink o q.2 arraycopyName ∈ lwA ∧ Cond.native arraycopyName ∈ lwA ∧ Cond.static arraycopyName ∈ lwA ∧ Cond.initialized "java/lang/System" ∈ lwA
def sAcp (g : rG) (a : Int) : rF → Option rF := fun ⟨lv, st, pc, aw, kc, ks⟩ =>
  match acT[a.toNat]?, st with
  | some (o, _), .inl (.int n) :: .inl (.int d) :: .inl (.ref r1) :: .inl (.int f) :: .inl (.ref r0) :: st => (match aw[r0]?, aw[r1]? with
    | some (.inl (0, es0)), some (.inl (0, es1)) => if (Nat.beq o g.2.2.2.2.1 && Nat.ble (sumR st) 8) && ((decide (f = 0) && decide (d = 0)) && ((!decide (n < 0) && Nat.beq n.toNatClampNeg es0.length) && (Nat.beq es1.length es0.length && es0.all isI))) then some (lv, st, pc + 3, aw.set r1 (.inl (0, es0)), kc, ks) else none
    | _, _ => none)
  | _, _ => none
def dkAc (a : Int) : List (Nat × Instr × Nat) := match acT[a.toNat]? with
  | some q => [(0, .invokestatic q.2, 3)]
  | none => []
theorem ok_acopy (hT : ∀ q ∈ acT, rAc q) : rOk dkAc sAcp := by
  intro p l e R s m args below meth c D A σ Q g cc own E b xs a fr fr' X hd h hc hs ρ κ hE hb k H locs ls hI hl
  obtain ⟨lv, st, pc, aw, kc, ks⟩ := fr
  obtain ⟨hx, hbc, hml, hown, hlk, hK, hA, hW, ⟨hR1, hR2⟩, hSt, hSc, hO, hcl, hin⟩ := X
  simp only [sAcp] at h
  split at h
  · rename_i o i n d0 r1 f0 r0 st' hq
    split at h
    · rename_i es0 es1 hr0 hr1
      split at h
      · rename_i ho
        cases h
        simp only [Bool.and_eq_true, Bool.not_eq_true', decide_eq_false_iff_not, decide_eq_true_eq] at ho
        obtain ⟨⟨ho, hsum⟩, ⟨rfl, rfl⟩, ⟨h0, hn⟩, hle, hall⟩ := ho
        have hsum : sumR st' ≤ 8 := Nat.le_of_ble_eq_true hsum
        have hn : n.toNatClampNeg = es0.length := Nat.eq_of_beq_eq_true hn
        have hle : es1.length = es0.length := Nat.eq_of_beq_eq_true hle
        obtain ⟨o2, f1, f2, f3, f4, f5⟩ := hT _ (List.mem_of_getElem? hq)
        cases own_eq hcl f1 ho
        have d : decode cc pc = .ok (.invokestatic i, 3) := hd (0, .invokestatic i, 3) (by simp only [dkAc, hq]; exact List.mem_cons_self)
        have hK2 : va_K D vwC9 ([(κ r0, .int)] ++ [(κ r1, .int)]) s := (hI.1 r0 0 es0 hr0).app (hI.1 r1 0 es1 hr1)
        refine va_copyi (D := D) hx hbc (hml.trans hl.1.symm) hown (hW _ f2) (hW _ f3) (hW _ f4) (hW _ f5) hK2 hI.2.1 hI.2.2.1 hI.2.2.2 r0 r1 0 1 (cW_at hr0) (cW_at hr1) rfl rfl rfl (by decide) (by decide) h0 (by
          rw [hn]
          exact Nat.le_of_eq (Nat.zero_add _)) (by
          rw [hn, hle]
          exact Nat.le_of_eq (Nat.zero_add _)) (fun j hj => rfl) (by omega) (by
          rw [sumR_eq]
          have : nativeFrameWords "java/lang/System" "arraycopy" 5 ≤ 100 := by decide
          omega) d (fun H1 locs1 hP hD hS => ?_)
        have e : ((ρ r1, .inl (κ r1, es1.length, .inl (va_cpy (fun j => uI (cV ρ σ (es0.getD j (rZ 0)))) (fun j => uI (cV ρ σ (es1.getD j (rZ 0)))) (0 : Int32).toNatClampNeg (0 : Int32).toNatClampNeg n.toNatClampNeg))) : Nat × va_E) = (ρ r1, cC ρ κ σ r1 (.inl (0, es0))) := by
          have e2 : va_cpy (fun j => uI (cV ρ σ (es0.getD j (rZ 0)))) (fun j => uI (cV ρ σ (es1.getD j (rZ 0)))) (0 : Int32).toNatClampNeg (0 : Int32).toNatClampNeg n.toNatClampNeg = fun j => uI (cV ρ σ (es0.getD j (rZ 0))) := by
            funext j
            rw [show (0 : Int32).toNatClampNeg = 0 from rfl, hn]
            by_cases hj : j < es0.length
            · rw [pk_cpy_in (Nat.zero_le j) (by omega)]
              simp
            · rw [pk_cpy_out (Or.inr (by omega))]
              rw [List.getD_eq_getElem?_getD, List.getD_eq_getElem?_getD, List.getElem?_eq_none (by omega), List.getElem?_eq_none (by omega)]
          rw [e2, hle]
          rfl
        rw [e, cW_put] at hP hD
        exact k ρ κ rExt.rf H1 locs1 ls ⟨hKset hr1 hI.1, hP, hD, hS⟩ hl
      · cases h
    · cases h
  · cases h
def rLd (q : Nat × Nat × Int64) : Prop := ∃ o : String, clsN[q.1]? = some o ∧ Cond.constantLong o q.2.1 q.2.2 ∈ lwA
def sLdc (g : rG) (a : Int) : rF → Option rF := fun ⟨lv, st, pc, aw, kc, ks⟩ =>
  match ldT[a.toNat]? with
  | some (o, _, x) => if Nat.beq o g.2.2.2.2.1 then some (lv, .inl (.long x) :: st, pc + 3, aw, kc, ks) else none
  | none => none
def dkLd (a : Int) : List (Nat × Instr × Nat) := match ldT[a.toNat]? with
  | some q => [(0, .ldc2_w q.2.1, 3)]
  | none => []
theorem ok_ldc2 (hT : ∀ q ∈ ldT, rLd q) : rOk dkLd sLdc := by
  intro p l e R s m args below meth c D A σ Q g cc own E b xs a fr fr' X hd h hc hs ρ κ hE hb k H locs ls hI hl
  obtain ⟨lv, st, pc, aw, kc, ks⟩ := fr
  obtain ⟨hx, hbc, hml, hown, hlk, hK, hA, hW, ⟨hR1, hR2⟩, hSt, hSc, hO, hcl, hin⟩ := X
  simp only [sLdc] at h
  split at h
  · rename_i o i x hq
    split at h
    · rename_i ho
      cases h
      obtain ⟨o2, f1, f2⟩ := hT _ (List.mem_of_getElem? hq)
      cases own_eq hcl f1 ho
      have d : decode cc pc = .ok (.ldc2_w i, 3) := hd (0, .ldc2_w i, 3) (by simp only [dkLd, hq]; exact List.mem_cons_self)
      exact lv_ldc2 hx hbc hown (hW _ f2) d (k ρ κ rExt.rf H locs ls hI hl)
    · cases h
  · cases h
