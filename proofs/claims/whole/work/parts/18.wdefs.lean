def nK : Cond → Bool
  | .fieldLinkNest .. => true
  | .methodLinkNest .. => true
  | .castable .. => true
  | .declares .. => true
  | _ => false
def nW : List Cond := lw_tbl.filter nK
def fOkG (own : String) (idx : Nat) (ref : String) (cs : List Nat) (k : Nat) : Bool := cs.all fun ci => match vwCl[ci]? with
  | some q => decide (k < q.2.2) && gW.contains (.fieldLink own idx ref (q.2.1 k).2.1 (q.2.1 k).2.2.1) && (decide ((q.2.1 k).1 = ref) || gW.contains (.sameField ref (q.2.1 k).1 (q.2.1 k).2.1 (q.2.1 k).2.2.1))
  | none => false
def fOkP (own : String) (cs : List Nat) (k : Nat) (ty : FieldType) (fin : Bool) : Bool := cs.all fun ci => match vwCl[ci]? with
  | some q => decide (parseFieldDescriptor (q.2.1 k).2.2.1 = some ty) && ((q.2.1 k).2.2.2 == fin) && (!fin || decide ((q.2.1 k).1 = own))
  | none => false
def castOk (own : String) (idx : Nat) (nm : String) (cs : List Nat) : Bool := gW.contains (.classLink own idx nm) && cs.all fun ci => match vwCl[ci]? with
  | some q => decide (q.1 = nm) || nW.contains (.castable q.1 nm)
  | none => false
def newOk (own : String) (idx : Nat) (ci : Nat) (fs : List Value) : Bool := match vwCl[ci]? with
  | some q => gW.contains (.classLink own idx q.1) && gW.contains (.instantiable q.1 q.2.2) && gW.contains (.initialized q.1) && decide (fs.length = q.2.2) && (List.range q.2.2).all fun j => match parseFieldDescriptor (q.2.1 j).2.2.1 with
    | some ty => decide (defaultValue ty = vp_V fs j)
    | none => false
  | none => false
theorem gW_U {own C owner : String} {idx : Nat} {x y : MethodName} {cw : Cond} (h : ∀ w ∈ ([.methodLink own idx x, .sameMethod x.cls owner x.name x.desc, .selects C x y, .instanceMethod y, .initialized y.cls, cw] : List Cond), w ∈ gW) : GoodIn gW (va_wsU own idx C owner x y (cw :: gW)) := by
  intro w hw
  have h2 : w ∈ ([.methodLink own idx x, .sameMethod x.cls owner x.name x.desc, .selects C x y, .instanceMethod y, .initialized y.cls, cw] : List Cond) ++ gW := by
    simpa [va_wsU] using hw
  exact gW_app h w h2
