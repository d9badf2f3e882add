/-! branches -/
def ngD (o : Option Bool) : Option Bool := match o with | some t => some (!t) | none => none
theorem ngD_ok {o : Option Bool} {t : Bool} (h : ngD o = some t) : o = some (!t) := by
  unfold ngD at h
  split at h
  · rename_i u
    cases h
    rw [Bool.not_not]
  · cases h
theorem nlt_ge {x y : Int32} : ¬ x < y ↔ y ≤ x := by rw [Int32.lt_iff_toInt_lt, Int32.le_iff_toInt_le]; omega
theorem bt_of {P : Prop} {t : Bool} (h : P ↔ t = true) (q : ¬ P) : t = false := by
  cases t
  · rfl
  · exact absurd (h.mpr rfl) q
def z0 : rV := .inl (.int 0)
def sIf (dec : rO → rV → Option Bool) (g : rG) (a : Int) : rF → Option rF := fun ⟨lv, st, pc, aw, kc, ks⟩ =>
  match st with
  | v :: st => (match dec g.1 v, tgN pc a with
    | some t, some z => some (lv, st, cond t z (pc + 3), aw, kc, ks)
    | _, _ => none)
  | [] => none
theorem sIf_ok {dec : rO → rV → Option Bool} {g : rG} {a : Int} {lv : rL} {st : List rV} {pc : Nat} {aw : List rC} {kc ks : Nat} {fr' : rF} (h : sIf dec g a (lv, st, pc, aw, kc, ks) = some fr') : ∃ v st' t z, st = v :: st' ∧ dec g.1 v = some t ∧ tgN pc a = some z ∧ fr' = (lv, st', cond t z (pc + 3), aw, kc, ks) := by
  simp only [sIf] at h
  split at h
  · rename_i v st'
    split at h
    · rename_i t z ht hz
      cases h
      exact ⟨v, st', t, z, rfl, ht, hz, rfl⟩
    · cases h
  · cases h
def sIc (dec : rO → rV → rV → Option Bool) (g : rG) (a : Int) : rF → Option rF := fun ⟨lv, st, pc, aw, kc, ks⟩ =>
  match st with
  | w :: v :: st => (match dec g.1 v w, tgN pc a with
    | some t, some z => some (lv, st, cond t z (pc + 3), aw, kc, ks)
    | _, _ => none)
  | _ => none
theorem sIc_ok {dec : rO → rV → rV → Option Bool} {g : rG} {a : Int} {lv : rL} {st : List rV} {pc : Nat} {aw : List rC} {kc ks : Nat} {fr' : rF} (h : sIc dec g a (lv, st, pc, aw, kc, ks) = some fr') : ∃ v w st' t z, st = w :: v :: st' ∧ dec g.1 v w = some t ∧ tgN pc a = some z ∧ fr' = (lv, st', cond t z (pc + 3), aw, kc, ks) := by
  simp only [sIc] at h
  split at h
  · rename_i w v st'
    split at h
    · rename_i t z ht hz
      cases h
      exact ⟨v, w, st', t, z, rfl, ht, hz, rfl⟩
    · cases h
  · cases h
theorem ok_if_eq : rOk (fun a => [(0, .ifCond .eq a, 3)]) (sIf (fun O v => eqD O v z0)) := by
  intro p l e R s m args below meth c D A σ Q g cc own E b xs a fr fr' X hd h hc hs ρ κ hE hb k H locs ls hI hl
  obtain ⟨lv, st, pc, aw, kc, ks⟩ := fr
  obtain ⟨hx, hbc, hml, hown, hlk, hK, hA, hW, ⟨hR1, hR2⟩, hSt, hSc, hO, hcl, hin⟩ := X
  obtain ⟨v, st', t, z, rfl, ht, hz, rfl⟩ := sIf_ok h
  have d := hd _ List.mem_cons_self
  obtain ⟨q1, q2, hiff⟩ := eqD_ok hO ht
  have hv : isI v = true := q1
  simp only [List.map_cons]
  rw [cV_int hv]
  refine lv_if_eq (tgt := z) hx hbc d (tgN_ok hz) (fun q => ?_) (fun q => ?_)
  · obtain rfl : t = true := hiff.mp q
    exact k ρ κ rExt.rf H locs ls hI hl
  · obtain rfl : t = false := bt_of hiff q
    exact k ρ κ rExt.rf H locs ls hI hl
theorem ok_icmp_eq : rOk (fun a => [(0, .if_icmp .eq a, 3)]) (sIc (fun O v w => eqD O v w)) := by
  intro p l e R s m args below meth c D A σ Q g cc own E b xs a fr fr' X hd h hc hs ρ κ hE hb k H locs ls hI hl
  obtain ⟨lv, st, pc, aw, kc, ks⟩ := fr
  obtain ⟨hx, hbc, hml, hown, hlk, hK, hA, hW, ⟨hR1, hR2⟩, hSt, hSc, hO, hcl, hin⟩ := X
  obtain ⟨v, w, st', t, z, rfl, ht, hz, rfl⟩ := sIc_ok h
  have d := hd _ List.mem_cons_self
  obtain ⟨q1, q2, hiff⟩ := eqD_ok hO ht
  simp only [List.map_cons]
  rw [cV_int q1, cV_int q2]
  refine lv_icmp_eq (tgt := z) hx hbc d (tgN_ok hz) (fun q => ?_) (fun q => ?_)
  · obtain rfl : t = true := hiff.mp q
    exact k ρ κ rExt.rf H locs ls hI hl
  · obtain rfl : t = false := bt_of hiff q
    exact k ρ κ rExt.rf H locs ls hI hl
theorem ok_if_ne : rOk (fun a => [(0, .ifCond .ne a, 3)]) (sIf (fun O v => ngD (eqD O v z0))) := by
  intro p l e R s m args below meth c D A σ Q g cc own E b xs a fr fr' X hd h hc hs ρ κ hE hb k H locs ls hI hl
  obtain ⟨lv, st, pc, aw, kc, ks⟩ := fr
  obtain ⟨hx, hbc, hml, hown, hlk, hK, hA, hW, ⟨hR1, hR2⟩, hSt, hSc, hO, hcl, hin⟩ := X
  obtain ⟨v, st', t, z, rfl, ht, hz, rfl⟩ := sIf_ok h
  have d := hd _ List.mem_cons_self
  have ht := ngD_ok ht
  obtain ⟨q1, q2, hiff⟩ := eqD_ok hO ht
  have hv : isI v = true := q1
  simp only [List.map_cons]
  rw [cV_int hv]
  refine lv_if_ne (tgt := z) hx hbc d (tgN_ok hz) (fun q => ?_) (fun q => ?_)
  · obtain rfl : t = true := by simpa using bt_of hiff q
    exact k ρ κ rExt.rf H locs ls hI hl
  · obtain rfl : t = false := by simpa using hiff.mp q
    exact k ρ κ rExt.rf H locs ls hI hl
theorem ok_icmp_ne : rOk (fun a => [(0, .if_icmp .ne a, 3)]) (sIc (fun O v w => ngD (eqD O v w))) := by
  intro p l e R s m args below meth c D A σ Q g cc own E b xs a fr fr' X hd h hc hs ρ κ hE hb k H locs ls hI hl
  obtain ⟨lv, st, pc, aw, kc, ks⟩ := fr
  obtain ⟨hx, hbc, hml, hown, hlk, hK, hA, hW, ⟨hR1, hR2⟩, hSt, hSc, hO, hcl, hin⟩ := X
  obtain ⟨v, w, st', t, z, rfl, ht, hz, rfl⟩ := sIc_ok h
  have d := hd _ List.mem_cons_self
  have ht := ngD_ok ht
  obtain ⟨q1, q2, hiff⟩ := eqD_ok hO ht
  simp only [List.map_cons]
  rw [cV_int q1, cV_int q2]
  refine lv_icmp_ne (tgt := z) hx hbc d (tgN_ok hz) (fun q => ?_) (fun q => ?_)
  · obtain rfl : t = true := by simpa using bt_of hiff q
    exact k ρ κ rExt.rf H locs ls hI hl
  · obtain rfl : t = false := by simpa using hiff.mp q
    exact k ρ κ rExt.rf H locs ls hI hl
theorem ok_if_lt : rOk (fun a => [(0, .ifCond .lt a, 3)]) (sIf (fun O v => ltD O v z0)) := by
  intro p l e R s m args below meth c D A σ Q g cc own E b xs a fr fr' X hd h hc hs ρ κ hE hb k H locs ls hI hl
  obtain ⟨lv, st, pc, aw, kc, ks⟩ := fr
  obtain ⟨hx, hbc, hml, hown, hlk, hK, hA, hW, ⟨hR1, hR2⟩, hSt, hSc, hO, hcl, hin⟩ := X
  obtain ⟨v, st', t, z, rfl, ht, hz, rfl⟩ := sIf_ok h
  have d := hd _ List.mem_cons_self
  obtain ⟨q1, q2, hiff⟩ := ltD_ok hO ht
  have hv : isI v = true := q1
  simp only [List.map_cons]
  rw [cV_int hv]
  refine lv_if_lt (tgt := z) hx hbc d (tgN_ok hz) (fun q => ?_) (fun q => ?_)
  · obtain rfl : t = true := hiff.mp q
    exact k ρ κ rExt.rf H locs ls hI hl
  · obtain rfl : t = false := bt_of hiff q
    exact k ρ κ rExt.rf H locs ls hI hl
theorem ok_icmp_lt : rOk (fun a => [(0, .if_icmp .lt a, 3)]) (sIc (fun O v w => ltD O v w)) := by
  intro p l e R s m args below meth c D A σ Q g cc own E b xs a fr fr' X hd h hc hs ρ κ hE hb k H locs ls hI hl
  obtain ⟨lv, st, pc, aw, kc, ks⟩ := fr
  obtain ⟨hx, hbc, hml, hown, hlk, hK, hA, hW, ⟨hR1, hR2⟩, hSt, hSc, hO, hcl, hin⟩ := X
  obtain ⟨v, w, st', t, z, rfl, ht, hz, rfl⟩ := sIc_ok h
  have d := hd _ List.mem_cons_self
  obtain ⟨q1, q2, hiff⟩ := ltD_ok hO ht
  simp only [List.map_cons]
  rw [cV_int q1, cV_int q2]
  refine lv_icmp_lt (tgt := z) hx hbc d (tgN_ok hz) (fun q => ?_) (fun q => ?_)
  · obtain rfl : t = true := hiff.mp q
    exact k ρ κ rExt.rf H locs ls hI hl
  · obtain rfl : t = false := bt_of hiff q
    exact k ρ κ rExt.rf H locs ls hI hl
theorem ok_if_ge : rOk (fun a => [(0, .ifCond .ge a, 3)]) (sIf (fun O v => ngD (ltD O v z0))) := by
  intro p l e R s m args below meth c D A σ Q g cc own E b xs a fr fr' X hd h hc hs ρ κ hE hb k H locs ls hI hl
  obtain ⟨lv, st, pc, aw, kc, ks⟩ := fr
  obtain ⟨hx, hbc, hml, hown, hlk, hK, hA, hW, ⟨hR1, hR2⟩, hSt, hSc, hO, hcl, hin⟩ := X
  obtain ⟨v, st', t, z, rfl, ht, hz, rfl⟩ := sIf_ok h
  have d := hd _ List.mem_cons_self
  have ht := ngD_ok ht
  obtain ⟨q1, q2, hiff⟩ := ltD_ok hO ht
  have hv : isI v = true := q1
  simp only [List.map_cons]
  rw [cV_int hv]
  refine lv_if_ge (tgt := z) hx hbc d (tgN_ok hz) (fun q => ?_) (fun q => ?_)
  · obtain rfl : t = true := by simpa using bt_of hiff (nlt_ge.mpr q)
    exact k ρ κ rExt.rf H locs ls hI hl
  · obtain rfl : t = false := by simpa using hiff.mp (Classical.byContradiction fun z9 => q (nlt_ge.mp z9))
    exact k ρ κ rExt.rf H locs ls hI hl
theorem ok_icmp_ge : rOk (fun a => [(0, .if_icmp .ge a, 3)]) (sIc (fun O v w => ngD (ltD O v w))) := by
  intro p l e R s m args below meth c D A σ Q g cc own E b xs a fr fr' X hd h hc hs ρ κ hE hb k H locs ls hI hl
  obtain ⟨lv, st, pc, aw, kc, ks⟩ := fr
  obtain ⟨hx, hbc, hml, hown, hlk, hK, hA, hW, ⟨hR1, hR2⟩, hSt, hSc, hO, hcl, hin⟩ := X
  obtain ⟨v, w, st', t, z, rfl, ht, hz, rfl⟩ := sIc_ok h
  have d := hd _ List.mem_cons_self
  have ht := ngD_ok ht
  obtain ⟨q1, q2, hiff⟩ := ltD_ok hO ht
  simp only [List.map_cons]
  rw [cV_int q1, cV_int q2]
  refine lv_icmp_ge (tgt := z) hx hbc d (tgN_ok hz) (fun q => ?_) (fun q => ?_)
  · obtain rfl : t = true := by simpa using bt_of hiff (nlt_ge.mpr q)
    exact k ρ κ rExt.rf H locs ls hI hl
  · obtain rfl : t = false := by simpa using hiff.mp (Classical.byContradiction fun z9 => q (nlt_ge.mp z9))
    exact k ρ κ rExt.rf H locs ls hI hl
theorem ok_if_gt : rOk (fun a => [(0, .ifCond .gt a, 3)]) (sIf (fun O v => ltD O z0 v)) := by
  intro p l e R s m args below meth c D A σ Q g cc own E b xs a fr fr' X hd h hc hs ρ κ hE hb k H locs ls hI hl
  obtain ⟨lv, st, pc, aw, kc, ks⟩ := fr
  obtain ⟨hx, hbc, hml, hown, hlk, hK, hA, hW, ⟨hR1, hR2⟩, hSt, hSc, hO, hcl, hin⟩ := X
  obtain ⟨v, st', t, z, rfl, ht, hz, rfl⟩ := sIf_ok h
  have d := hd _ List.mem_cons_self
  obtain ⟨q1, q2, hiff⟩ := ltD_ok hO ht
  have hv : isI v = true := q2
  simp only [List.map_cons]
  rw [cV_int hv]
  refine lv_if_gt (tgt := z) hx hbc d (tgN_ok hz) (fun q => ?_) (fun q => ?_)
  · obtain rfl : t = true := hiff.mp q
    exact k ρ κ rExt.rf H locs ls hI hl
  · obtain rfl : t = false := bt_of hiff q
    exact k ρ κ rExt.rf H locs ls hI hl
theorem ok_icmp_gt : rOk (fun a => [(0, .if_icmp .gt a, 3)]) (sIc (fun O v w => ltD O w v)) := by
  intro p l e R s m args below meth c D A σ Q g cc own E b xs a fr fr' X hd h hc hs ρ κ hE hb k H locs ls hI hl
  obtain ⟨lv, st, pc, aw, kc, ks⟩ := fr
  obtain ⟨hx, hbc, hml, hown, hlk, hK, hA, hW, ⟨hR1, hR2⟩, hSt, hSc, hO, hcl, hin⟩ := X
  obtain ⟨v, w, st', t, z, rfl, ht, hz, rfl⟩ := sIc_ok h
  have d := hd _ List.mem_cons_self
  obtain ⟨q1, q2, hiff⟩ := ltD_ok hO ht
  simp only [List.map_cons]
  rw [cV_int q1, cV_int q2]
  refine lv_icmp_gt (tgt := z) hx hbc d (tgN_ok hz) (fun q => ?_) (fun q => ?_)
  · obtain rfl : t = true := hiff.mp q
    exact k ρ κ rExt.rf H locs ls hI hl
  · obtain rfl : t = false := bt_of hiff q
    exact k ρ κ rExt.rf H locs ls hI hl
theorem ok_if_le : rOk (fun a => [(0, .ifCond .le a, 3)]) (sIf (fun O v => ngD (ltD O z0 v))) := by
  intro p l e R s m args below meth c D A σ Q g cc own E b xs a fr fr' X hd h hc hs ρ κ hE hb k H locs ls hI hl
  obtain ⟨lv, st, pc, aw, kc, ks⟩ := fr
  obtain ⟨hx, hbc, hml, hown, hlk, hK, hA, hW, ⟨hR1, hR2⟩, hSt, hSc, hO, hcl, hin⟩ := X
  obtain ⟨v, st', t, z, rfl, ht, hz, rfl⟩ := sIf_ok h
  have d := hd _ List.mem_cons_self
  have ht := ngD_ok ht
  obtain ⟨q1, q2, hiff⟩ := ltD_ok hO ht
  have hv : isI v = true := q2
  simp only [List.map_cons]
  rw [cV_int hv]
  refine lv_if_le (tgt := z) hx hbc d (tgN_ok hz) (fun q => ?_) (fun q => ?_)
  · obtain rfl : t = true := by simpa using bt_of hiff (nlt_ge.mpr q)
    exact k ρ κ rExt.rf H locs ls hI hl
  · obtain rfl : t = false := by simpa using hiff.mp (Classical.byContradiction fun z9 => q (nlt_ge.mp z9))
    exact k ρ κ rExt.rf H locs ls hI hl
theorem ok_icmp_le : rOk (fun a => [(0, .if_icmp .le a, 3)]) (sIc (fun O v w => ngD (ltD O w v))) := by
  intro p l e R s m args below meth c D A σ Q g cc own E b xs a fr fr' X hd h hc hs ρ κ hE hb k H locs ls hI hl
  obtain ⟨lv, st, pc, aw, kc, ks⟩ := fr
  obtain ⟨hx, hbc, hml, hown, hlk, hK, hA, hW, ⟨hR1, hR2⟩, hSt, hSc, hO, hcl, hin⟩ := X
  obtain ⟨v, w, st', t, z, rfl, ht, hz, rfl⟩ := sIc_ok h
  have d := hd _ List.mem_cons_self
  have ht := ngD_ok ht
  obtain ⟨q1, q2, hiff⟩ := ltD_ok hO ht
  simp only [List.map_cons]
  rw [cV_int q1, cV_int q2]
  refine lv_icmp_le (tgt := z) hx hbc d (tgN_ok hz) (fun q => ?_) (fun q => ?_)
  · obtain rfl : t = true := by simpa using bt_of hiff (nlt_ge.mpr q)
    exact k ρ κ rExt.rf H locs ls hI hl
  · obtain rfl : t = false := by simpa using hiff.mp (Classical.byContradiction fun z9 => q (nlt_ge.mp z9))
    exact k ρ κ rExt.rf H locs ls hI hl
/-! longs compared, and the branch behind -/
theorem fq_wide_lt (a b : Int32) : a.toInt64 < b.toInt64 ↔ a < b := by rw [Int64.lt_iff_toInt_lt, Int32.lt_iff_toInt_lt, Int32.toInt_toInt64, Int32.toInt_toInt64]
theorem fq_wide_eq (a b : Int32) : a.toInt64 = b.toInt64 ↔ a = b := by rw [← Int64.toInt_inj, ← Int32.toInt_inj, Int32.toInt_toInt64, Int32.toInt_toInt64]
theorem lgc_lt (x y : Int64) : lg_cmp x y < 0 ↔ x < y := by
  unfold lg_cmp
  split
  · rename_i h
    exact ⟨fun z => absurd z (by decide), fun z => absurd h (by rw [gt_iff_lt, Int64.lt_iff_toInt_lt] at *; omega)⟩
  · rename_i h
    split
    · rename_i h2
      subst h2
      exact ⟨fun z => absurd z (by decide), fun z => absurd z (by rw [Int64.lt_iff_toInt_lt]; omega)⟩
    · rename_i h2
      refine ⟨fun _ => ?_, fun _ => by decide⟩
      rw [gt_iff_lt, Int64.lt_iff_toInt_lt] at h
      rw [← Int64.toInt_inj] at h2
      rw [Int64.lt_iff_toInt_lt]
      omega
theorem lgc_gt (x y : Int64) : 0 < lg_cmp x y ↔ y < x := by
  unfold lg_cmp
  split
  · rename_i h
    exact ⟨fun _ => h, fun _ => by decide⟩
  · rename_i h
    refine ⟨fun z => ?_, fun z => absurd z h⟩
    split at z
    · exact absurd z (by decide)
    · exact absurd z (by decide)
theorem lgc_eq (x y : Int64) : lg_cmp x y = 0 ↔ x = y := by
  unfold lg_cmp
  split
  · rename_i h
    refine ⟨fun z => absurd z (by decide), fun z => absurd h ?_⟩
    subst z
    rw [gt_iff_lt, Int64.lt_iff_toInt_lt]
    omega
  · split
    · rename_i h2
      exact ⟨fun _ => h2, fun _ => rfl⟩
    · rename_i h2
      exact ⟨fun z => absurd z (by decide), fun z => absurd z h2⟩
def dnL (v : rV) : Option rV := match v with
  | .inl (.long z) => if z.toInt32.toInt64 = z then some (.inl (.int z.toInt32)) else none
  | .inr (true, j) => some (.inr (false, j))
  | _ => none
theorem dnL_ok {ρ : Nat → Nat} {σ : Nat → Int32} {v w : rV} (h : dnL v = some w) : cV ρ σ v = .long (cI σ w).toInt64 := by
  unfold dnL at h
  split at h
  · rename_i z
    split at h
    · rename_i hz
      cases h
      exact congrArg Value.long hz.symm
    · cases h
  · cases h
    rfl
  · cases h
def sLc (dec : rO → rV → rV → Option Bool) (g : rG) (a : Int) : rF → Option rF := fun ⟨lv, st, pc, aw, kc, ks⟩ =>
  match st with
  | w :: v :: st => (match dnL v, dnL w with
    | some v, some w => (match dec g.1 v w, tgN (pc + 1) a with
      | some t, some z => some (lv, st, cond t z (pc + 4), aw, kc, ks)
      | _, _ => none)
    | _, _ => none)
  | _ => none
theorem sLc_ok {dec : rO → rV → rV → Option Bool} {g : rG} {a : Int} {lv : rL} {st : List rV} {pc : Nat} {aw : List rC} {kc ks : Nat} {fr' : rF} (h : sLc dec g a (lv, st, pc, aw, kc, ks) = some fr') : ∃ v w v1 w1 st' t z, st = w :: v :: st' ∧ dnL v = some v1 ∧ dnL w = some w1 ∧ dec g.1 v1 w1 = some t ∧ tgN (pc + 1) a = some z ∧ fr' = (lv, st', cond t z (pc + 4), aw, kc, ks) := by
  simp only [sLc] at h
  split at h
  · rename_i w v st'
    split at h
    · rename_i v1 w1 hv hw
      split at h
      · rename_i t z ht hz
        cases h
        exact ⟨v, w, v1, w1, st', t, z, rfl, hv, hw, ht, hz, rfl⟩
      · cases h
    · cases h
  · cases h
theorem ok_lc_eq : rOk (fun a => [(0, .lcmp, 1), (1, .ifCond .eq a, 3)]) (sLc (fun O v w => eqD O v w)) := by
  intro p l e R s m args below meth c D A σ Q g cc own E b xs a fr fr' X hd h hc hs ρ κ hE hb k H locs ls hI hl
  obtain ⟨lv, st, pc, aw, kc, ks⟩ := fr
  obtain ⟨hx, hbc, hml, hown, hlk, hK, hA, hW, ⟨hR1, hR2⟩, hSt, hSc, hO, hcl, hin⟩ := X
  obtain ⟨v, w, v1, w1, st', t, z, rfl, hv, hw, ht, hz, rfl⟩ := sLc_ok h
  have d0 := hd _ List.mem_cons_self
  have d1 := hd _ (List.mem_cons_of_mem _ List.mem_cons_self)
  obtain ⟨q1, q2, hiff⟩ := eqD_ok hO ht
  have hiff := ((lgc_eq _ _).trans (fq_wide_eq _ _) : _).trans hiff
  simp only [List.map_cons]
  rw [dnL_ok hv, dnL_ok hw]
  refine W.lcmp hx hbc d0 ?_
  refine lv_if_eq (tgt := z) hx hbc d1 (tgN_ok hz) (fun q => ?_) (fun q => ?_)
  · obtain rfl : t = true := hiff.mp q
    exact k ρ κ rExt.rf H locs ls hI hl
  · obtain rfl : t = false := bt_of hiff q
    exact k ρ κ rExt.rf H locs ls hI hl
theorem ok_lc_ne : rOk (fun a => [(0, .lcmp, 1), (1, .ifCond .ne a, 3)]) (sLc (fun O v w => ngD (eqD O v w))) := by
  intro p l e R s m args below meth c D A σ Q g cc own E b xs a fr fr' X hd h hc hs ρ κ hE hb k H locs ls hI hl
  obtain ⟨lv, st, pc, aw, kc, ks⟩ := fr
  obtain ⟨hx, hbc, hml, hown, hlk, hK, hA, hW, ⟨hR1, hR2⟩, hSt, hSc, hO, hcl, hin⟩ := X
  obtain ⟨v, w, v1, w1, st', t, z, rfl, hv, hw, ht, hz, rfl⟩ := sLc_ok h
  have d0 := hd _ List.mem_cons_self
  have d1 := hd _ (List.mem_cons_of_mem _ List.mem_cons_self)
  have ht := ngD_ok ht
  obtain ⟨q1, q2, hiff⟩ := eqD_ok hO ht
  have hiff := ((lgc_eq _ _).trans (fq_wide_eq _ _) : _).trans hiff
  simp only [List.map_cons]
  rw [dnL_ok hv, dnL_ok hw]
  refine W.lcmp hx hbc d0 ?_
  refine lv_if_ne (tgt := z) hx hbc d1 (tgN_ok hz) (fun q => ?_) (fun q => ?_)
  · obtain rfl : t = true := by simpa using bt_of hiff q
    exact k ρ κ rExt.rf H locs ls hI hl
  · obtain rfl : t = false := by simpa using hiff.mp q
    exact k ρ κ rExt.rf H locs ls hI hl
theorem ok_lc_lt : rOk (fun a => [(0, .lcmp, 1), (1, .ifCond .lt a, 3)]) (sLc (fun O v w => ltD O v w)) := by
  intro p l e R s m args below meth c D A σ Q g cc own E b xs a fr fr' X hd h hc hs ρ κ hE hb k H locs ls hI hl
  obtain ⟨lv, st, pc, aw, kc, ks⟩ := fr
  obtain ⟨hx, hbc, hml, hown, hlk, hK, hA, hW, ⟨hR1, hR2⟩, hSt, hSc, hO, hcl, hin⟩ := X
  obtain ⟨v, w, v1, w1, st', t, z, rfl, hv, hw, ht, hz, rfl⟩ := sLc_ok h
  have d0 := hd _ List.mem_cons_self
  have d1 := hd _ (List.mem_cons_of_mem _ List.mem_cons_self)
  obtain ⟨q1, q2, hiff⟩ := ltD_ok hO ht
  have hiff := ((lgc_lt _ _).trans (fq_wide_lt _ _) : _).trans hiff
  simp only [List.map_cons]
  rw [dnL_ok hv, dnL_ok hw]
  refine W.lcmp hx hbc d0 ?_
  refine lv_if_lt (tgt := z) hx hbc d1 (tgN_ok hz) (fun q => ?_) (fun q => ?_)
  · obtain rfl : t = true := hiff.mp q
    exact k ρ κ rExt.rf H locs ls hI hl
  · obtain rfl : t = false := bt_of hiff q
    exact k ρ κ rExt.rf H locs ls hI hl
theorem ok_lc_ge : rOk (fun a => [(0, .lcmp, 1), (1, .ifCond .ge a, 3)]) (sLc (fun O v w => ngD (ltD O v w))) := by
  intro p l e R s m args below meth c D A σ Q g cc own E b xs a fr fr' X hd h hc hs ρ κ hE hb k H locs ls hI hl
  obtain ⟨lv, st, pc, aw, kc, ks⟩ := fr
  obtain ⟨hx, hbc, hml, hown, hlk, hK, hA, hW, ⟨hR1, hR2⟩, hSt, hSc, hO, hcl, hin⟩ := X
  obtain ⟨v, w, v1, w1, st', t, z, rfl, hv, hw, ht, hz, rfl⟩ := sLc_ok h
  have d0 := hd _ List.mem_cons_self
  have d1 := hd _ (List.mem_cons_of_mem _ List.mem_cons_self)
  have ht := ngD_ok ht
  obtain ⟨q1, q2, hiff⟩ := ltD_ok hO ht
  have hiff := ((lgc_lt _ _).trans (fq_wide_lt _ _) : _).trans hiff
  simp only [List.map_cons]
  rw [dnL_ok hv, dnL_ok hw]
  refine W.lcmp hx hbc d0 ?_
  refine lv_if_ge (tgt := z) hx hbc d1 (tgN_ok hz) (fun q => ?_) (fun q => ?_)
  · obtain rfl : t = true := by simpa using bt_of hiff (nlt_ge.mpr q)
    exact k ρ κ rExt.rf H locs ls hI hl
  · obtain rfl : t = false := by simpa using hiff.mp (Classical.byContradiction fun z9 => q (nlt_ge.mp z9))
    exact k ρ κ rExt.rf H locs ls hI hl
theorem ok_lc_gt : rOk (fun a => [(0, .lcmp, 1), (1, .ifCond .gt a, 3)]) (sLc (fun O v w => ltD O w v)) := by
  intro p l e R s m args below meth c D A σ Q g cc own E b xs a fr fr' X hd h hc hs ρ κ hE hb k H locs ls hI hl
  obtain ⟨lv, st, pc, aw, kc, ks⟩ := fr
  obtain ⟨hx, hbc, hml, hown, hlk, hK, hA, hW, ⟨hR1, hR2⟩, hSt, hSc, hO, hcl, hin⟩ := X
  obtain ⟨v, w, v1, w1, st', t, z, rfl, hv, hw, ht, hz, rfl⟩ := sLc_ok h
  have d0 := hd _ List.mem_cons_self
  have d1 := hd _ (List.mem_cons_of_mem _ List.mem_cons_self)
  obtain ⟨q1, q2, hiff⟩ := ltD_ok hO ht
  have hiff := ((lgc_gt _ _).trans (fq_wide_lt _ _) : _).trans hiff
  simp only [List.map_cons]
  rw [dnL_ok hv, dnL_ok hw]
  refine W.lcmp hx hbc d0 ?_
  refine lv_if_gt (tgt := z) hx hbc d1 (tgN_ok hz) (fun q => ?_) (fun q => ?_)
  · obtain rfl : t = true := hiff.mp q
    exact k ρ κ rExt.rf H locs ls hI hl
  · obtain rfl : t = false := bt_of hiff q
    exact k ρ κ rExt.rf H locs ls hI hl
theorem ok_lc_le : rOk (fun a => [(0, .lcmp, 1), (1, .ifCond .le a, 3)]) (sLc (fun O v w => ngD (ltD O w v))) := by
  intro p l e R s m args below meth c D A σ Q g cc own E b xs a fr fr' X hd h hc hs ρ κ hE hb k H locs ls hI hl
  obtain ⟨lv, st, pc, aw, kc, ks⟩ := fr
  obtain ⟨hx, hbc, hml, hown, hlk, hK, hA, hW, ⟨hR1, hR2⟩, hSt, hSc, hO, hcl, hin⟩ := X
  obtain ⟨v, w, v1, w1, st', t, z, rfl, hv, hw, ht, hz, rfl⟩ := sLc_ok h
  have d0 := hd _ List.mem_cons_self
  have d1 := hd _ (List.mem_cons_of_mem _ List.mem_cons_self)
  have ht := ngD_ok ht
  obtain ⟨q1, q2, hiff⟩ := ltD_ok hO ht
  have hiff := ((lgc_gt _ _).trans (fq_wide_lt _ _) : _).trans hiff
  simp only [List.map_cons]
  rw [dnL_ok hv, dnL_ok hw]
  refine W.lcmp hx hbc d0 ?_
  refine lv_if_le (tgt := z) hx hbc d1 (tgN_ok hz) (fun q => ?_) (fun q => ?_)
  · obtain rfl : t = true := by simpa using bt_of hiff (nlt_ge.mpr q)
    exact k ρ κ rExt.rf H locs ls hI hl
  · obtain rfl : t = false := by simpa using hiff.mp (Classical.byContradiction fun z9 => q (nlt_ge.mp z9))
    exact k ρ κ rExt.rf H locs ls hI hl
/-! refs compared, jumps, the law's switch -/
def sAc (g : rG) (a : Int) : rF → Option rF := fun ⟨lv, st, pc, aw, kc, ks⟩ =>
  match st with
  | w :: v :: st => (match tgN pc a with
    | some z => if isR v && decide (v = w) then some (lv, st, z, aw, kc, ks) else none
    | none => none)
  | _ => none
theorem ok_acmp_eq : rOk (fun a => [(0, .if_acmp .eq a, 3)]) sAc := by
  intro p l e R s m args below meth c D A σ Q g cc own E b xs a fr fr' X hd h hc hs ρ κ hE hb k H locs ls hI hl
  obtain ⟨lv, st, pc, aw, kc, ks⟩ := fr
  obtain ⟨hx, hbc, hml, hown, hlk, hK, hA, hW, ⟨hR1, hR2⟩, hSt, hSc, hO, hcl, hin⟩ := X
  simp only [sAc] at h
  split at h
  · rename_i w v st'
    split at h
    · rename_i z hz
      split at h
      · rename_i hv
        cases h
        simp only [Bool.and_eq_true, decide_eq_true_eq] at hv
        obtain ⟨hv, rfl⟩ := hv
        simp only [List.map_cons]
        rw [cV_ref hv]
        have d := hd _ List.mem_cons_self
        exact lv_acmp_eq (tgt := z) hx hbc d (tgN_ok hz) (fun _ => k ρ κ rExt.rf H locs ls hI hl) (fun q => absurd rfl q)
      · cases h
    · cases h
  · cases h
def sNu (t : Bool) (g : rG) (a : Int) : rF → Option rF := fun ⟨lv, st, pc, aw, kc, ks⟩ =>
  match st with
  | .inl .null :: st => (match tgN pc a with
    | some z => some (lv, st, cond t z (pc + 3), aw, kc, ks)
    | none => none)
  | _ => none
theorem ok_ifnull : rOk (fun a => [(0, .ifnull a, 3)]) (sNu true) := by
  intro p l e R s m args below meth c D A σ Q g cc own E b xs a fr fr' X hd h hc hs ρ κ hE hb k H locs ls hI hl
  obtain ⟨lv, st, pc, aw, kc, ks⟩ := fr
  obtain ⟨hx, hbc, hml, hown, hlk, hK, hA, hW, ⟨hR1, hR2⟩, hSt, hSc, hO, hcl, hin⟩ := X
  simp only [sNu] at h
  split at h
  · split at h
    · rename_i z hz
      cases h
      have d := hd _ List.mem_cons_self
      exact lv_ifnullN (tgt := z) hx hbc d (tgN_ok hz) (k ρ κ rExt.rf H locs ls hI hl)
    · cases h
  · cases h
theorem ok_ifnonnull : rOk (fun a => [(0, .ifnonnull a, 3)]) (sNu false) := by
  intro p l e R s m args below meth c D A σ Q g cc own E b xs a fr fr' X hd h hc hs ρ κ hE hb k H locs ls hI hl
  obtain ⟨lv, st, pc, aw, kc, ks⟩ := fr
  obtain ⟨hx, hbc, hml, hown, hlk, hK, hA, hW, ⟨hR1, hR2⟩, hSt, hSc, hO, hcl, hin⟩ := X
  simp only [sNu] at h
  split at h
  · split at h
    · rename_i z hz
      cases h
      have d := hd _ List.mem_cons_self
      exact lv_ifnonnullN hx hbc d (k ρ κ rExt.rf H locs ls hI hl)
    · cases h
  · cases h
def sGt (g : rG) (a : Int) : rF → Option rF := fun ⟨lv, st, pc, aw, kc, ks⟩ =>
  match tgN pc a with
  | some z => some (lv, st, z, aw, kc, ks)
  | none => none
theorem ok_goto : rOk (fun a => [(0, .goto a, 3)]) sGt := by
  intro p l e R s m args below meth c D A σ Q g cc own E b xs a fr fr' X hd h hc hs ρ κ hE hb k H locs ls hI hl
  obtain ⟨lv, st, pc, aw, kc, ks⟩ := fr
  obtain ⟨hx, hbc, hml, hown, hlk, hK, hA, hW, ⟨hR1, hR2⟩, hSt, hSc, hO, hcl, hin⟩ := X
  simp only [sGt] at h
  split at h
  · rename_i z hz
    cases h
    have d := hd _ List.mem_cons_self
    exact lv_goto (tgt := z) hx hbc d (tgN_ok hz) (k ρ κ rExt.rf H locs ls hI hl)
  · cases h
def sSw (g : rG) (a : Int) : rF → Option rF := fun ⟨lv, st, pc, aw, kc, ks⟩ =>
  match st with
  | .inl (.int x) :: st => if x.toInt < 0 ∨ 35 < x.toInt then (match tgN pc 2451 with
      | some z => some (lv, st, z, aw, kc, ks)
      | none => none) else (match rSw[(x.toInt - 0).toNat]? with
      | some off => (match tgN pc off with
        | some z => some (lv, st, z, aw, kc, ks)
        | none => none)
      | none => none)
  | _ => none
theorem ok_switch : rOk (fun _ => [(0, .tableswitch 2451 0 35 rSw, 160)]) sSw := by
  intro p l e R s m args below meth c D A σ Q g cc own E b xs a fr fr' X hd h hc hs ρ κ hE hb k H locs ls hI hl
  obtain ⟨lv, st, pc, aw, kc, ks⟩ := fr
  obtain ⟨hx, hbc, hml, hown, hlk, hK, hA, hW, ⟨hR1, hR2⟩, hSt, hSc, hO, hcl, hin⟩ := X
  simp only [sSw] at h
  split at h
  · rename_i x st'
    split at h
    · rename_i hx2
      split at h
      · rename_i z hz
        cases h
        have d := hd _ List.mem_cons_self
        exact lv_tableOut (tgt := z) hx hbc d hx2 (tgN_ok hz) (k ρ κ rExt.rf H locs ls hI hl)
      · cases h
    · rename_i hx2
      split at h
      · rename_i off ho
        split at h
        · rename_i z hz
          cases h
          have d := hd _ List.mem_cons_self
          exact lv_tableIn (tgt := z) hx hbc d (fun q => hx2 (Or.inl q)) (fun q => hx2 (Or.inr q)) ho (tgN_ok hz) (k ρ κ rExt.rf H locs ls hI hl)
        · cases h
      · cases h
  · cases h
/-! arrays -/
theorem vp_inG {i : Int32} {es : List rV} {v : rV} (h0 : ¬ i < 0) (h : es[i.toNatClampNeg]? = some v) : vp_in i es.length := by
  intro hh
  rcases hh with hh | hh
  · exact h0 hh
  · rw [List.getElem?_eq_none hh] at h
    cases h
theorem gD {es : List rV} {j : Nat} {v d : rV} (h : es[j]? = some v) : es.getD j d = v := by
  rw [List.getD_eq_getElem?_getD, h]
  rfl
def sIal (g : rG) (a : Int) : rF → Option rF := fun ⟨lv, st, pc, aw, kc, ks⟩ =>
  match st with
  | .inl (.int i) :: .inl (.ref r) :: st => (match aw[r]? with
    | some (.inl (0, es)) => (match es[i.toNatClampNeg]? with
      | some v => if isI v && !decide (i < 0) then some (lv, v :: st, pc + 1, aw, kc, ks) else none
      | none => none)
    | _ => none)
  | _ => none
theorem ok_iaload : rOk (fun _ => [(0, .iaload, 1)]) sIal := by
  intro p l e R s m args below meth c D A σ Q g cc own E b xs a fr fr' X hd h hc hs ρ κ hE hb k H locs ls hI hl
  obtain ⟨lv, st, pc, aw, kc, ks⟩ := fr
  obtain ⟨hx, hbc, hml, hown, hlk, hK, hA, hW, ⟨hR1, hR2⟩, hSt, hSc, hO, hcl, hin⟩ := X
  simp only [sIal] at h
  split at h
  · rename_i i r st'
    split at h
    · rename_i es hr
      split at h
      · rename_i v hv
        split at h
        · rename_i hi
          cases h
          simp only [Bool.and_eq_true, Bool.not_eq_true', decide_eq_false_iff_not] at hi
          obtain ⟨hi, h0⟩ := hi
          have kk := k ρ κ rExt.rf H locs ls hI hl
          simp only [List.map_cons] at kk ⊢
          rw [cV_int hi] at kk
          have d := hd _ List.mem_cons_self
          refine va_iald hx hbc (hI.1 r 0 es hr) hI.2.1 r 0 (cW_at hr) rfl (vp_inG h0 hv) d ?_
          rw [show uI (cV ρ σ (es.getD i.toNatClampNeg (rZ 0))) = cI σ v by rw [gD hv, cV_int hi]; rfl]
          exact kk
        · cases h
      · cases h
    · cases h
  · cases h
def sXal (g : rG) (a : Int) : rF → Option rF := fun ⟨lv, st, pc, aw, kc, ks⟩ =>
  match st with
  | .inl (.int i) :: .inl (.ref 1001) :: st => if g.2.2.1 && (!decide (i < 0) && Nat.blt i.toNatClampNeg g.2.1) then some (lv, .inr (false, i.toNatClampNeg) :: st, pc + 1, aw, kc, ks) else none
  | _ => none
theorem ok_xaload : rOk (fun _ => [(0, .iaload, 1)]) sXal := by
  intro p l e R s m args below meth c D A σ Q g cc own E b xs a fr fr' X hd h hc hs ρ κ hE hb k H locs ls hI hl
  obtain ⟨lv, st, pc, aw, kc, ks⟩ := fr
  obtain ⟨hx, hbc, hml, hown, hlk, hK, hA, hW, ⟨hR1, hR2⟩, hSt, hSc, hO, hcl, hin⟩ := X
  simp only [sXal] at h
  split at h
  · rename_i i st'
    split at h
    · rename_i hi
      cases h
      simp only [Bool.and_eq_true, Bool.not_eq_true', decide_eq_false_iff_not] at hi
      obtain ⟨hf, h0, hn⟩ := hi
      have hn : i.toNatClampNeg < g.2.1 := by simpa using hn
      obtain ⟨hX, hbl, hbA, hxs⟩ := hSc hf
      have kk := k ρ κ rExt.rf H locs ls hI hl
      have e1 : cV ρ σ (.inl (.ref 1001)) = .ref b := congrArg Value.ref hb
      have e2 : cV ρ σ (.inr (false, i.toNatClampNeg)) = .int (xs i.toNatClampNeg) := congrArg Value.int (hxs _ hn).symm
      simp only [List.map_cons] at kk ⊢
      rw [e2] at kk
      rw [e1]
      have d := hd _ List.mem_cons_self
      exact va_sld hx hbc hX hbl hbA hI.2.2.2 (fun z => z.elim h0 (fun z => absurd hn (Nat.not_lt.mpr z))) d kk
    · cases h
  · cases h
def sLal (g : rG) (a : Int) : rF → Option rF := fun ⟨lv, st, pc, aw, kc, ks⟩ =>
  match st with
  | .inl (.int i) :: .inl (.ref r) :: st => (match aw[r]? with
    | some (.inl (2, es)) => (match es[i.toNatClampNeg]? with
      | some v => if isL v && !decide (i < 0) then some (lv, v :: st, pc + 1, aw, kc, ks) else none
      | none => none)
    | _ => none)
  | _ => none
theorem ok_laload : rOk (fun _ => [(0, .laload, 1)]) sLal := by
  intro p l e R s m args below meth c D A σ Q g cc own E b xs a fr fr' X hd h hc hs ρ κ hE hb k H locs ls hI hl
  obtain ⟨lv, st, pc, aw, kc, ks⟩ := fr
  obtain ⟨hx, hbc, hml, hown, hlk, hK, hA, hW, ⟨hR1, hR2⟩, hSt, hSc, hO, hcl, hin⟩ := X
  simp only [sLal] at h
  split at h
  · rename_i i r st'
    split at h
    · rename_i es hr
      split at h
      · rename_i v hv
        split at h
        · rename_i hi
          cases h
          simp only [Bool.and_eq_true, Bool.not_eq_true', decide_eq_false_iff_not] at hi
          obtain ⟨hi, h0⟩ := hi
          have kk := k ρ κ rExt.rf H locs ls hI hl
          simp only [List.map_cons] at kk ⊢
          rw [cV_long hi] at kk
          have d := hd _ List.mem_cons_self
          refine va_lald hx hbc (hI.1 r 2 es hr) hI.2.1 r 0 (cW_at hr) rfl (vp_inG h0 hv) d ?_
          rw [show uL (cV ρ σ (es.getD i.toNatClampNeg (rZ 2))) = uL (cV ρ σ v) by rw [gD hv]]
          exact kk
        · cases h
      · cases h
    · cases h
  · cases h
theorem setD {es : List rV} {i : Nat} {v d : rV} (hi : i < es.length) (j : Nat) : (es.set i v).getD j d = if j = i then v else es.getD j d := by
  rw [List.getD_eq_getElem?_getD, List.getD_eq_getElem?_getD, List.getElem?_set]
  by_cases hj : j = i
  · subst hj
    simp [hi]
  · rw [if_neg (fun z => hj z.symm), if_neg hj]
theorem hKset {D : va_G} {s : State} {κ : Nat → ClassId} {aw : List rC} {r t : Nat} {es es' : List rV} (hr : aw[r]? = some (.inl (t, es))) (h : ∀ i t es, aw[i]? = some (.inl (t, es)) → va_K D vwC9 [(κ i, rTy t)] s) : ∀ i t1 es1, (aw.set r (.inl (t, es')))[i]? = some (.inl (t1, es1)) → va_K D vwC9 [(κ i, rTy t1)] s := by
  intro i t1 es1 hi
  rw [List.getElem?_set] at hi
  split at hi
  · rename_i e
    subst e
    split at hi
    · cases hi
      exact h _ _ _ hr
    · cases hi
  · exact h _ _ _ hi
theorem hKsetO {D : va_G} {s : State} {κ : Nat → ClassId} {aw : List rC} {r : Nat} {z : Nat × List rV} (h : ∀ i t es, aw[i]? = some (.inl (t, es)) → va_K D vwC9 [(κ i, rTy t)] s) : ∀ i t es, (aw.set r (.inr z))[i]? = some (.inl (t, es)) → va_K D vwC9 [(κ i, rTy t)] s := by
  intro i t1 es1 hi
  rw [List.getElem?_set] at hi
  split at hi
  · split at hi
    · cases hi
    · cases hi
  · exact h _ _ _ hi
def sIas (g : rG) (a : Int) : rF → Option rF := fun ⟨lv, st, pc, aw, kc, ks⟩ =>
  match st with
  | v :: .inl (.int i) :: .inl (.ref r) :: st => (match aw[r]? with
    | some (.inl (0, es)) => if isI v && (!decide (i < 0) && Nat.blt i.toNatClampNeg es.length) then some (lv, st, pc + 1, aw.set r (.inl (0, es.set i.toNatClampNeg v)), kc, ks) else none
    | _ => none)
  | _ => none
theorem ok_iastore : rOk (fun _ => [(0, .iastore, 1)]) sIas := by
  intro p l e R s m args below meth c D A σ Q g cc own E b xs a fr fr' X hd h hc hs ρ κ hE hb k H locs ls hI hl
  obtain ⟨lv, st, pc, aw, kc, ks⟩ := fr
  obtain ⟨hx, hbc, hml, hown, hlk, hK, hA, hW, ⟨hR1, hR2⟩, hSt, hSc, hO, hcl, hin⟩ := X
  simp only [sIas] at h
  split at h
  · rename_i v i r st'
    split at h
    · rename_i es hr
      split at h
      · rename_i hi
        cases h
        simp only [Bool.and_eq_true, Bool.not_eq_true', decide_eq_false_iff_not] at hi
        obtain ⟨hi, h0, hn⟩ := hi
        have hn : i.toNatClampNeg < es.length := by simpa using hn
        simp only [List.map_cons]
        rw [cV_int hi]
        have d := hd _ List.mem_cons_self
        refine va_iast hx hbc (hI.1 r 0 es hr) hI.2.1 hI.2.2.1 hI.2.2.2 r 0 (cW_at hr) rfl (fun z => z.elim h0 (fun z => absurd hn (Nat.not_lt.mpr z))) d (fun H1 locs1 hP hD hS => ?_)
        have e : ((ρ r, .inl (κ r, es.length, .inl (upd (fun j => uI (cV ρ σ (es.getD j (rZ 0)))) i.toNatClampNeg (cI σ v)))) : Nat × va_E) = (ρ r, cC ρ κ σ r (.inl (0, es.set i.toNatClampNeg v))) := by
          have e2 : upd (fun j => uI (cV ρ σ (es.getD j (rZ 0)))) i.toNatClampNeg (cI σ v) = fun j => uI (cV ρ σ ((es.set i.toNatClampNeg v).getD j (rZ 0))) := by
            funext j
            rw [setD hn]
            unfold upd
            by_cases hj : j = i.toNatClampNeg
            · rw [if_pos hj, if_pos hj, cV_int hi]
              rfl
            · rw [if_neg hj, if_neg hj]
          rw [e2]
          simp only [cC, cA, List.length_set]
        rw [e, cW_put] at hP hD
        exact k ρ κ rExt.rf H1 locs1 ls ⟨hKset hr hI.1, hP, hD, hS⟩ hl
      · cases h
    · cases h
  · cases h
def sLas (g : rG) (a : Int) : rF → Option rF := fun ⟨lv, st, pc, aw, kc, ks⟩ =>
  match st with
  | v :: .inl (.int i) :: .inl (.ref r) :: st => (match aw[r]? with
    | some (.inl (2, es)) => if isL v && (!decide (i < 0) && Nat.blt i.toNatClampNeg es.length) then some (lv, st, pc + 1, aw.set r (.inl (2, es.set i.toNatClampNeg v)), kc, ks) else none
    | _ => none)
  | _ => none
theorem ok_lastore : rOk (fun _ => [(0, .lastore, 1)]) sLas := by
  intro p l e R s m args below meth c D A σ Q g cc own E b xs a fr fr' X hd h hc hs ρ κ hE hb k H locs ls hI hl
  obtain ⟨lv, st, pc, aw, kc, ks⟩ := fr
  obtain ⟨hx, hbc, hml, hown, hlk, hK, hA, hW, ⟨hR1, hR2⟩, hSt, hSc, hO, hcl, hin⟩ := X
  simp only [sLas] at h
  split at h
  · rename_i v i r st'
    split at h
    · rename_i es hr
      split at h
      · rename_i hi
        cases h
        simp only [Bool.and_eq_true, Bool.not_eq_true', decide_eq_false_iff_not] at hi
        obtain ⟨hi, h0, hn⟩ := hi
        have hn : i.toNatClampNeg < es.length := by simpa using hn
        simp only [List.map_cons]
        rw [cV_long hi]
        have d := hd _ List.mem_cons_self
        refine va_last hx hbc (hI.1 r 2 es hr) hI.2.1 hI.2.2.1 hI.2.2.2 r 0 (cW_at hr) rfl (fun z => z.elim h0 (fun z => absurd hn (Nat.not_lt.mpr z))) d (fun H1 locs1 hP hD hS => ?_)
        have e : ((ρ r, .inl (κ r, es.length, .inr (.inl (vp_updL (fun j => uL (cV ρ σ (es.getD j (rZ 2)))) i.toNatClampNeg (uL (cV ρ σ v)))))) : Nat × va_E) = (ρ r, cC ρ κ σ r (.inl (2, es.set i.toNatClampNeg v))) := by
          have e2 : vp_updL (fun j => uL (cV ρ σ (es.getD j (rZ 2)))) i.toNatClampNeg (uL (cV ρ σ v)) = fun j => uL (cV ρ σ ((es.set i.toNatClampNeg v).getD j (rZ 2))) := by
            funext j
            rw [setD hn]
            unfold vp_updL
            by_cases hj : j = i.toNatClampNeg
            · rw [if_pos hj, if_pos hj]
            · rw [if_neg hj, if_neg hj]
          rw [e2]
          simp only [cC, cA, List.length_set]
        rw [e, cW_put] at hP hD
        exact k ρ κ rExt.rf H1 locs1 ls ⟨hKset hr hI.1, hP, hD, hS⟩ hl
      · cases h
    · cases h
  · cases h
