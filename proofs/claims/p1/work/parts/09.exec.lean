/-! the run of a method: fuel, and what it comes to -/
/-- an answer, an exception's number, or a stop at the place asked for -/
abbrev rR : Type := Option rV ⊕ (Nat ⊕ (rL × List rV))
def lookB (pc : Nat) : List (Nat × Nat × Int) → Option (Nat × Int)
  | [] => none
  | (j, o, a) :: t => if Nat.beq j pc then some (o, a) else lookB pc t
def lookC (id pc : Nat) : Option (Nat × Int) := match codeT[id]? with
  | some bs => (match bs[pc / 64]? with
    | some bl => lookB pc bl
    | none => none)
  | none => none
/-- does a value fit the sort of answer -/
def okR (rk : Nat) (v : Option rV) : Bool := match rk, v with
  | 0, none => true
  | 1, some v => isI v
  | 2, some v => isL v
  | 3, some v => isR v
  | 4, some (.inl (.float _)) => true
  | 5, some (.inl (.double _)) => true
  | 6, some (.inl (.int x)) => decide (x = 0) || decide (x = 1)
  | 7, some (.inl (.int x)) => decide (x = 112)
  | _, _ => false
/-- the handler that takes the exception E at pc: none where that isn't known, some none where it goes on to the caller -/
def hnd (pc E : Nat) : List (Nat × Nat × Nat × Nat) → Option (Option Nat)
  | [] => some none
  | (x, y, t, z) :: r => if Nat.ble x pc && Nat.blt pc y then (if Nat.beq z E then some (some t) else if (Nat.beq z 0 && (Nat.beq E 1 || Nat.beq E 2)) then hnd pc E r else none) else hnd pc E r
def argR : Nat → List rV → rL
  | _, [] => []
  | i, v :: t => (i, v) :: argR (if catR v = 2 then i + 2 else i + 1) t
def dropL (lv : rL) (i : Nat) : rL := lv.filter (fun q => !(q.1 == i) && !(q.1 + 1 == i && catR q.2 == 2))
/-- the receiver, where the call has one -/
def rcv (kind ci : Nat) (aw : List rC) (as : List rV) : Bool := match as with
  | .inl (.ref r) :: _ => if Nat.beq kind 1 || Nat.beq kind 3 then true else (match aw[r]? with
    | some (.inr (cj, _)) => Nat.beq cj ci
    | _ => false)
  | _ => false
/-- the callee's locals hold what it takes -/
def nLok (tgt : Nat) (as : List rV) : Bool := match mI[tgt]? with
  | some (_, _, _, nL, _) => Nat.ble (sumR as) nL
  | none => false
def gOf (O : rO) (L : Nat) (fl : Bool) (id : Nat) : Option rG := match mI[id]? with
  | some (o, _, _, nL, ini) => some (O, L, fl, nL, o, ini)
  | none => none
def ex (O : rO) (L : Nat) : Nat → Bool → Nat → Nat → rF → Option (rR × List rC × Nat × Nat)
  | 0, _, _, _, _ => none
  | n + 1, fl, stop, id, (lv, st, pc, aw, kc, ks) =>
    if Nat.beq pc stop then some (.inr (.inr (lv, st)), aw, kc, ks) else
    match lookC id pc, mI[id]? with
    | some (op, a), some (o, rk, hh, nL, ini) =>
      if Nat.blt op 200 then (match opT[op]? with
        | some t => (match t.2 (O, L, fl, nL, o, ini) a (lv, st, pc, aw, kc, ks) with
          | some fr' => if (Nat.ble kc fr'.2.2.2.2.1 && Nat.ble ks fr'.2.2.2.2.2) && Nat.ble aw.length fr'.2.2.2.1.length then ex O L n fl stop id fr' else none
          | none => none)
        | none => none)
      else if Nat.beq op 200 then (match st with
        | [] => if okR rk none then some (.inl none, aw, kc, ks) else none
        | [v] => if okR rk (some v) then some (.inl (some v), aw, kc, ks) else none
        | _ => none)
      else if Nat.beq op 201 then (match cT[a.toNat]? with
        | some (kind, oc, _, tgt, na, ci, _) =>
          if (Nat.beq oc o && Nat.ble na st.length) && ((Nat.ble (sumR (st.drop na)) 8 && wfL aw.length lv) && (((st.drop na).all (wfV aw.length) && Nat.blt aw.length 900) && ((Nat.beq kind 2 || (Nat.beq kind 5 || rcv kind ci aw (st.take na).reverse)) && nLok tgt (st.take na)))) then (match ex O L n false 100000 tgt (argR 0 (st.take na).reverse, [], 0, aw, 0, 0) with
            | some (.inl v, aw1, mc, ms) => if Nat.ble aw.length aw1.length then ex O L n fl stop id (lv, v.toList ++ st.drop na, pc + (if Nat.beq kind 4 then 5 else 3), aw1, kc + mc, ks + ms) else none
            | some (.inr (.inl E), aw1, mc, ms) => if (Nat.ble aw.length aw1.length && !Nat.beq kind 4) && !fl then (match hnd pc E hh with
              | some none => some (.inr (.inl E), aw1, kc + mc, ks + ms)
              | some (some t) => (match lookC id t with
                | some (op2, b) => if (Nat.beq op2 9 && Nat.blt b.toNat 4) && Nat.blt b.toNat nL then ex O L n fl stop id (dropL lv b.toNat, [], t + 1, aw1, kc + mc, ks + ms) else if Nat.beq op2 10 && Nat.blt b.toNat nL then ex O L n fl stop id (dropL lv b.toNat, [], t + 2, aw1, kc + mc, ks + ms) else none
                | none => none)
              | none => none) else none
            | _ => none) else none
        | none => none)
      else if Nat.beq op 202 then (match tT[a.toNat]? with
        | some (ot, _, _, _, E, _) => if ((Nat.beq ot o && Nat.ble (sumR st) 8) && hh.isEmpty) && !fl then some (.inr (.inl E), aw, kc + 1, ks + 6) else none
        | none => none)
      else none
    | _, _ => none
