/-! A run of the law on a fresh object, followed by program: values, cells and frames as plain data; what they stand for (cV, cC, cW); a table of single steps with a row of the kit behind each; the run of a method as a function of fuel. -/
/-- a value: as it is (a ref is a place in the world, or 1000: the shared empty array, 1001: the script), an int symbol, or the long of one -/
abbrev rV : Type := Value ⊕ (Bool × Nat)
/-- a cell: an array of a type's tag and its values, or an object of a kind and its fields -/
abbrev rC : Type := (Nat × List rV) ⊕ (Nat × List rV)
abbrev rL : Type := List (Nat × rV)
/-- locals, stack, place, world, cells made, slots made -/
abbrev rF : Type := rL × List rV × Nat × List rC × Nat × Nat
/-- what is known: comparisons (true: equal, false: less), and the first number under the mask -/
abbrev rO : Type := List ((Bool × rV × rV) × Bool) × Int32
def cV (ρ : Nat → Nat) (σ : Nat → Int32) (v : rV) : Value := match v with
  | .inl (.ref i) => .ref (ρ i)
  | .inl (.int x) => .int x
  | .inl (.long x) => .long x
  | .inl (.float x) => .float x
  | .inl (.double x) => .double x
  | .inl .null => .null
  | .inl (.retAddr x) => .retAddr x
  | .inr (false, k) => .int (σ k)
  | .inr (true, k) => .long (σ k).toInt64
def catR (v : rV) : Nat := match v with
  | .inl (.long _) => 2
  | .inl (.double _) => 2
  | .inr (true, _) => 2
  | _ => 1
theorem cV_cat (ρ : Nat → Nat) (σ : Nat → Int32) (v : rV) : (cV ρ σ v).category = catR v := by
  rcases v with v | ⟨b, k⟩
  · cases v <;> rfl
  · cases b <;> rfl
def isI (v : rV) : Bool := match v with
  | .inl (.int _) => true
  | .inr (false, _) => true
  | _ => false
def isL (v : rV) : Bool := match v with
  | .inl (.long _) => true
  | .inr (true, _) => true
  | _ => false
def isR (v : rV) : Bool := match v with
  | .inl (.ref _) => true
  | .inl .null => true
  | _ => false
def uI (v : Value) : Int32 := match v with | .int x => x | _ => 0
def uL (v : Value) : Int64 := match v with | .long x => x | _ => 0
def uD (v : Value) : UInt64 := match v with | .double x => x | _ => 0
def uR (v : Value) : Option Nat := match v with | .ref a => some a | _ => none
/-- the number of an int -/
def cI (σ : Nat → Int32) (v : rV) : Int32 := match v with
  | .inl (.int x) => x
  | .inr (false, k) => σ k
  | _ => 0
theorem cV_int {ρ : Nat → Nat} {σ : Nat → Int32} {v : rV} (h : isI v = true) : cV ρ σ v = .int (cI σ v) := by
  rcases v with v | ⟨b, k⟩
  · cases v <;> first | rfl | cases h
  · cases b <;> first | rfl | cases h
theorem cV_long {ρ : Nat → Nat} {σ : Nat → Int32} {v : rV} (h : isL v = true) : cV ρ σ v = .long (uL (cV ρ σ v)) := by
  rcases v with v | ⟨b, k⟩
  · cases v <;> first | rfl | cases h
  · cases b <;> first | rfl | cases h
theorem cV_ref {ρ : Nat → Nat} {σ : Nat → Int32} {v : rV} (h : isR v = true) : cV ρ σ v = va_rf (uR (cV ρ σ v)) := by
  rcases v with v | ⟨b, k⟩
  · cases v <;> first | rfl | cases h
  · cases b <;> cases h
/-- the tags of arrays -/
def rTy (t : Nat) : FieldType := match t with
  | 0 => .int
  | 1 => .boolean
  | 2 => .long
  | 3 => .double
  | _ => .object "java/lang/Object"
def rZ (t : Nat) : rV := match t with
  | 0 => .inl (.int 0)
  | 1 => .inl (.int 0)
  | 2 => .inl (.long 0)
  | 3 => .inl (.double 0)
  | _ => .inl .null
def cA (ρ : Nat → Nat) (σ : Nat → Int32) (t : Nat) (es : List rV) : vp_A := (es.length, match t with
  | 0 => .inl (fun j => uI (cV ρ σ (es.getD j (rZ 0))))
  | 1 => .inl (fun j => uI (cV ρ σ (es.getD j (rZ 0))))
  | 2 => .inr (.inl (fun j => uL (cV ρ σ (es.getD j (rZ 2)))))
  | 3 => .inr (.inr (.inr (.inl (fun j => uD (cV ρ σ (es.getD j (rZ 3)))))))
  | _ => .inr (.inr (.inr (.inr (fun j => uR (cV ρ σ (es.getD j (rZ 4))))))))
def cC (ρ : Nat → Nat) (κ : Nat → ClassId) (σ : Nat → Int32) (i : Nat) (q : rC) : va_E := match q with
  | .inl (t, es) => .inl (κ i, cA ρ σ t es)
  | .inr (ci, fs) => .inr (ci, fs.map (cV ρ σ))
def cW (ρ : Nat → Nat) (κ : Nat → ClassId) (σ : Nat → Int32) : Nat → List rC → va_W
  | _, [] => []
  | i, q :: t => (ρ i, cC ρ κ σ i q) :: cW ρ κ σ (i + 1) t
def cL (ρ : Nat → Nat) (σ : Nat → Int32) (lv : rL) : List (Nat × Value) := lv.map (fun q => (q.1, cV ρ σ q.2))
theorem cW_get {ρ : Nat → Nat} {κ : Nat → ClassId} {σ : Nat → Int32} : ∀ (aw : List rC) (i0 i : Nat), (cW ρ κ σ i0 aw)[i]? = aw[i]?.map (fun q => (ρ (i0 + i), cC ρ κ σ (i0 + i) q))
  | [], i0, i => by simp [cW]
  | q :: t, i0, 0 => by simp [cW]
  | q :: t, i0, i + 1 => by
    simp only [cW, List.getElem?_cons_succ]
    rw [cW_get t (i0 + 1) i, show i0 + 1 + i = i0 + (i + 1) by omega]
theorem cW_at {ρ : Nat → Nat} {κ : Nat → ClassId} {σ : Nat → Int32} {aw : List rC} {i : Nat} {q : rC} (h : aw[i]? = some q) : (cW ρ κ σ 0 aw)[i]? = some (ρ i, cC ρ κ σ i q) := by
  rw [cW_get, h, Option.map_some, Nat.zero_add]
theorem cW_set {ρ : Nat → Nat} {κ : Nat → ClassId} {σ : Nat → Int32} : ∀ (aw : List rC) (i0 i : Nat) (q : rC), (cW ρ κ σ i0 aw).set i (ρ (i0 + i), cC ρ κ σ (i0 + i) q) = cW ρ κ σ i0 (aw.set i q)
  | [], i0, i, q => by simp [cW]
  | z :: t, i0, 0, q => by simp [cW]
  | z :: t, i0, i + 1, q => by
    simp only [cW, List.set_cons_succ]
    rw [show i0 + (i + 1) = i0 + 1 + i by omega, cW_set t (i0 + 1) i q]
theorem cW_put {ρ : Nat → Nat} {κ : Nat → ClassId} {σ : Nat → Int32} {aw : List rC} {i : Nat} {q : rC} : (cW ρ κ σ 0 aw).set i (ρ i, cC ρ κ σ i q) = cW ρ κ σ 0 (aw.set i q) := by
  have h := cW_set (ρ := ρ) (κ := κ) (σ := σ) aw 0 i q
  rwa [Nat.zero_add] at h
theorem cW_app {ρ : Nat → Nat} {κ : Nat → ClassId} {σ : Nat → Int32} : ∀ (aw : List rC) (i0 : Nat) (q : rC), cW ρ κ σ i0 aw ++ [(ρ (i0 + aw.length), cC ρ κ σ (i0 + aw.length) q)] = cW ρ κ σ i0 (aw ++ [q])
  | [], i0, q => by simp [cW]
  | z :: t, i0, q => by
    simp only [cW, List.cons_append, List.length_cons]
    rw [← cW_app t (i0 + 1) q, show i0 + (t.length + 1) = i0 + 1 + t.length by omega]
theorem cW_push {ρ : Nat → Nat} {κ : Nat → ClassId} {σ : Nat → Int32} {aw : List rC} {q : rC} : cW ρ κ σ 0 aw ++ [(ρ aw.length, cC ρ κ σ aw.length q)] = cW ρ κ σ 0 (aw ++ [q]) := by
  have h := cW_app (ρ := ρ) (κ := κ) (σ := σ) aw 0 q
  rwa [Nat.zero_add] at h
/-- every ref lies below n, or is one of the fixed ones -/
def wfV (n : Nat) (v : rV) : Bool := match v with
  | .inl (.ref i) => Nat.blt i n || Nat.ble 900 i
  | _ => true
def wfC (n : Nat) (q : rC) : Bool := match q with
  | .inl (_, es) => es.all (wfV n)
  | .inr (_, fs) => fs.all (wfV n)
def wfL (n : Nat) (lv : rL) : Bool := lv.all (fun q => wfV n q.2)
/-- later addresses agree with the earlier ones at places below n, and at the fixed ones -/
def rExt (n : Nat) (ρ : Nat → Nat) (κ : Nat → ClassId) (ρ' : Nat → Nat) (κ' : Nat → ClassId) : Prop := (∀ i, i < n ∨ 900 ≤ i → ρ' i = ρ i) ∧ ∀ i, i < n → κ' i = κ i
theorem rExt.rf {n : Nat} {ρ : Nat → Nat} {κ : Nat → ClassId} : rExt n ρ κ ρ κ := ⟨fun _ _ => rfl, fun _ _ => rfl⟩
theorem rExt.trans {n k : Nat} {ρ ρ1 ρ2 : Nat → Nat} {κ κ1 κ2 : Nat → ClassId} (h1 : rExt n ρ κ ρ1 κ1) (h2 : rExt k ρ1 κ1 ρ2 κ2) (hk : n ≤ k) : rExt n ρ κ ρ2 κ2 :=
  ⟨fun i hi => (h2.1 i (hi.imp (fun z => Nat.lt_of_lt_of_le z hk) id)).trans (h1.1 i hi), fun i hi => (h2.2 i (Nat.lt_of_lt_of_le hi hk)).trans (h1.2 i hi)⟩
theorem wfV_spec {n i : Nat} (h : wfV n (.inl (.ref i)) = true) : i < n ∨ 900 ≤ i := by
  simp only [wfV, Bool.or_eq_true] at h
  exact h.imp (fun z => by simpa using z) (fun z => Nat.le_of_ble_eq_true z)
theorem cV_ext {n : Nat} {ρ ρ' : Nat → Nat} {κ κ' : Nat → ClassId} {σ : Nat → Int32} {v : rV} (hw : wfV n v = true) (h : rExt n ρ κ ρ' κ') : cV ρ' σ v = cV ρ σ v := by
  rcases v with v | ⟨b, k⟩
  · cases v with
    | ref i => exact congrArg Value.ref (h.1 i (wfV_spec hw))
    | _ => rfl
  · cases b <;> rfl
theorem cVs_ext {n : Nat} {ρ ρ' : Nat → Nat} {κ κ' : Nat → ClassId} {σ : Nat → Int32} (h : rExt n ρ κ ρ' κ') : ∀ {vs : List rV}, vs.all (wfV n) = true → vs.map (cV ρ' σ) = vs.map (cV ρ σ)
  | [], _ => rfl
  | v :: t, hw => by
    simp only [List.all_cons, Bool.and_eq_true] at hw
    simp only [List.map_cons]
    rw [cV_ext hw.1 h, cVs_ext h hw.2]
theorem cL_ext {n : Nat} {ρ ρ' : Nat → Nat} {κ κ' : Nat → ClassId} {σ : Nat → Int32} (h : rExt n ρ κ ρ' κ') : ∀ {lv : rL}, wfL n lv = true → cL ρ' σ lv = cL ρ σ lv
  | [], _ => rfl
  | q :: t, hw => by
    simp only [wfL, List.all_cons, Bool.and_eq_true] at hw
    have ih := cL_ext (σ := σ) h (lv := t) hw.2
    simp only [cL, List.map_cons] at ih ⊢
    rw [cV_ext hw.1 h, ih]
theorem cD_ext {n : Nat} {ρ ρ' : Nat → Nat} {κ κ' : Nat → ClassId} {σ : Nat → Int32} (h : rExt n ρ κ ρ' κ') {es : List rV} (hw : es.all (wfV n) = true) {d : rV} (hd : wfV n d = true) (j : Nat) : cV ρ' σ (es.getD j d) = cV ρ σ (es.getD j d) := by
  have hv : wfV n (es.getD j d) = true := by
    rw [List.getD_eq_getElem?_getD]
    cases hj : es[j]? with
    | none => exact hd
    | some v => exact List.all_eq_true.mp hw v (List.mem_of_getElem? hj)
  exact cV_ext hv h
theorem cA_ext {n : Nat} {ρ ρ' : Nat → Nat} {κ κ' : Nat → ClassId} {σ : Nat → Int32} (h : rExt n ρ κ ρ' κ') {t : Nat} {es : List rV} (hw : es.all (wfV n) = true) : cA ρ' σ t es = cA ρ σ t es := by
  match t with
  | 0 => simp only [cA, cD_ext (σ := σ) h hw (show wfV n (rZ 0) = true from rfl)]
  | 1 => simp only [cA, cD_ext (σ := σ) h hw (show wfV n (rZ 0) = true from rfl)]
  | 2 => simp only [cA, cD_ext (σ := σ) h hw (show wfV n (rZ 2) = true from rfl)]
  | 3 => simp only [cA, cD_ext (σ := σ) h hw (show wfV n (rZ 3) = true from rfl)]
  | t + 4 => simp only [cA, cD_ext (σ := σ) h hw (show wfV n (rZ 4) = true from rfl)]
theorem cW_ext {n : Nat} {ρ ρ' : Nat → Nat} {κ κ' : Nat → ClassId} {σ : Nat → Int32} (h : rExt n ρ κ ρ' κ') : ∀ (aw : List rC) (i0 : Nat), i0 + aw.length ≤ n → aw.all (wfC n) = true → cW ρ' κ' σ i0 aw = cW ρ κ σ i0 aw
  | [], _, _, _ => rfl
  | q :: t, i0, hn, hw => by
    simp only [List.all_cons, Bool.and_eq_true] at hw
    simp only [List.length_cons] at hn
    have ih := cW_ext (σ := σ) h t (i0 + 1) (by omega) hw.2
    have e1 : ρ' i0 = ρ i0 := h.1 i0 (Or.inl (by omega))
    have e2 : κ' i0 = κ i0 := h.2 i0 (by omega)
    have e3 : cC ρ' κ' σ i0 q = cC ρ κ σ i0 q := by
      rcases q with ⟨t, es⟩ | ⟨ci, fs⟩
      · simp only [cC]
        rw [cA_ext h hw.1, e2]
      · simp only [cC]
        rw [cVs_ext h hw.1]
    simp only [cW]
    rw [e1, e3, ih]
/-! locals -/
def getL : rL → Nat → Option rV
  | [], _ => none
  | (j, v) :: t, i => if Nat.beq j i then some v else getL t i
def setL (lv : rL) (i : Nat) (v : rV) : rL := (i, v) :: lv.filter (fun q => !(q.1 == i) && !(q.1 + 1 == i && catR q.2 == 2))
def setL2 (lv : rL) (i : Nat) (v : rV) : rL := (i, v) :: lv.filter (fun q => !(q.1 == i) && (!(q.1 == i + 1) && !(q.1 + 1 == i && catR q.2 == 2)))
theorem getL_mem {lv : rL} {i : Nat} {v : rV} (h : getL lv i = some v) : (i, v) ∈ lv := by
  induction lv with
  | nil => cases h
  | cons q t ih =>
    obtain ⟨j, w⟩ := q
    simp only [getL] at h
    by_cases hj : Nat.beq j i = true
    · rw [if_pos hj] at h
      cases h
      cases Nat.eq_of_beq_eq_true hj
      exact List.mem_cons_self
    · rw [if_neg hj] at h
      exact List.mem_cons_of_mem _ (ih h)
theorem getL_at {ρ : Nat → Nat} {σ : Nat → Int32} {ls : Array Slot} {nL : Nat} {lv : rL} {i : Nat} {v : rV} (hl : lv_has ls nL (cL ρ σ lv)) (h : getL lv i = some v) : ls[i]? = some (.val (cV ρ σ v)) :=
  hl.2.2 (i, cV ρ σ v) (List.mem_map.mpr ⟨(i, v), getL_mem h, rfl⟩)
theorem cL_filter {ρ : Nat → Nat} {σ : Nat → Int32} {f : Nat × rV → Bool} {g : Nat × Value → Bool} (hfg : ∀ q : Nat × rV, g (q.1, cV ρ σ q.2) = f q) : ∀ lv : rL, (cL ρ σ lv).filter g = cL ρ σ (lv.filter f)
  | [] => rfl
  | q :: t => by
    have ih := cL_filter hfg t
    simp only [cL, List.map_cons, List.filter_cons, hfg] at ih ⊢
    cases f q
    · simpa using ih
    · simpa using ih
theorem setL_eq {ρ : Nat → Nat} {σ : Nat → Int32} (lv : rL) (i : Nat) (v : rV) : (i, cV ρ σ v) :: (cL ρ σ lv).filter (fun q => !(q.1 == i) && !(q.1 + 1 == i && q.2.category == 2)) = cL ρ σ (setL lv i v) := by
  rw [cL_filter (f := fun q => !(q.1 == i) && !(q.1 + 1 == i && catR q.2 == 2)) (fun q => by simp only [cV_cat])]
  rfl
theorem setL2_eq {ρ : Nat → Nat} {σ : Nat → Int32} (lv : rL) (i : Nat) (v : rV) : (i, cV ρ σ v) :: (cL ρ σ lv).filter (fun q => !(q.1 == i) && (!(q.1 == i + 1) && !(q.1 + 1 == i && q.2.category == 2))) = cL ρ σ (setL2 lv i v) := by
  rw [cL_filter (f := fun q => !(q.1 == i) && (!(q.1 == i + 1) && !(q.1 + 1 == i && catR q.2 == 2))) (fun q => by simp only [cV_cat])]
  rfl
/-! what the oracle knows -/
def lkO : List ((Bool × rV × rV) × Bool) → Bool × rV × rV → Option Bool
  | [], _ => none
  | (k, t) :: r, q => if k = q then some t else lkO r q
theorem lkO_mem {r : List ((Bool × rV × rV) × Bool)} {q : Bool × rV × rV} {t : Bool} (h : lkO r q = some t) : (q, t) ∈ r := by
  induction r with
  | nil => cases h
  | cons z r ih =>
    obtain ⟨k, b⟩ := z
    simp only [lkO] at h
    by_cases hk : k = q
    · rw [if_pos hk] at h
      cases h
      cases hk
      exact List.mem_cons_self
    · rw [if_neg hk] at h
      exact List.mem_cons_of_mem _ (ih h)
def eqD (O : rO) (x y : rV) : Option Bool := match x, y with
  | .inl (.int a), .inl (.int b) => some (decide (a = b))
  | .inr (false, a), .inr (false, b) => if Nat.beq a b then some true else none
  | x, y => if isI x && isI y then lkO O.1 (true, x, y) else none
def ltD (O : rO) (x y : rV) : Option Bool := match x, y with
  | .inl (.int a), .inl (.int b) => some (decide (a < b))
  | x, y => if isI x && isI y then lkO O.1 (false, x, y) else none
/-- the oracle is right for the numbers σ -/
def rOr (O : rO) (σ : Nat → Int32) : Prop := (∀ q ∈ O.1, (match q.1.1 with | true => (cI σ q.1.2.1 = cI σ q.1.2.2 ↔ q.2 = true) | false => (cI σ q.1.2.1 < cI σ q.1.2.2 ↔ q.2 = true))) ∧ (O.2 = 64 ∨ σ 0 &&& 63 = O.2) ∧ ((σ 2).toUInt32 % 65536).toInt32 = σ 4
theorem eqD_ok {O : rO} {σ : Nat → Int32} (hO : rOr O σ) {x y : rV} {t : Bool} (h : eqD O x y = some t) : isI x = true ∧ isI y = true ∧ (cI σ x = cI σ y ↔ t = true) := by
  have key : ∀ {x y : rV}, (if isI x && isI y then lkO O.1 (true, x, y) else none) = some t → isI x = true ∧ isI y = true ∧ (cI σ x = cI σ y ↔ t = true) := by
    intro x y h
    by_cases hi : (isI x && isI y) = true
    · rw [if_pos hi] at h
      simp only [Bool.and_eq_true] at hi
      exact ⟨hi.1, hi.2, hO.1 _ (lkO_mem h)⟩
    · rw [if_neg hi] at h
      cases h
  unfold eqD at h
  split at h
  · cases h
    exact ⟨rfl, rfl, by simp [cI]⟩
  · rename_i a b
    by_cases hab : Nat.beq a b = true
    · rw [if_pos hab] at h
      cases h
      cases Nat.eq_of_beq_eq_true hab
      exact ⟨rfl, rfl, by simp⟩
    · rw [if_neg hab] at h
      cases h
  · exact key h
theorem ltD_ok {O : rO} {σ : Nat → Int32} (hO : rOr O σ) {x y : rV} {t : Bool} (h : ltD O x y = some t) : isI x = true ∧ isI y = true ∧ (cI σ x < cI σ y ↔ t = true) := by
  unfold ltD at h
  split at h
  · cases h
    exact ⟨rfl, rfl, by simp [cI]⟩
  · by_cases hi : (isI x && isI y) = true
    · rw [if_pos hi] at h
      simp only [Bool.and_eq_true] at hi
      exact ⟨hi.1, hi.2, hO.1 _ (lkO_mem h)⟩
    · rw [if_neg hi] at h
      cases h
