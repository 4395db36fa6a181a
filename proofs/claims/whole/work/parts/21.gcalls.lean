def gLe (u v : gN) : Prop := u.2.1 ≤ v.2.1 ∧ u.2.2 ≤ v.2.2
theorem gLe.rf (u : gN) : gLe u u := ⟨Nat.le_refl _, Nat.le_refl _⟩
theorem gLe.tr {u v w : gN} (h : gLe u v) (h2 : gLe v w) : gLe u w := ⟨Nat.le_trans h.1 h2.1, Nat.le_trans h.2 h2.2⟩
def gAn (Γ : gEnv) (s0 : Nat) (u : gN) (H : Heap) : Prop := gAg Γ u.1 u.2.1 H ∧ s0 ≤ u.2.2
def wN (x : Option gM) (u : gN) : Option gN := x.map fun G => (G, u.2)
theorem wN_inv {x : Option gM} {u v : gN} (h : wN x u = some v) : ∃ G, x = some G ∧ v = (G, u.2) := by
  cases x with
  | none => cases h
  | some G => exact ⟨G, rfl, (Option.some.inj h).symm⟩
theorem wN_le {x : Option gM} {u v : gN} (h : wN x u = some v) : gLe u v := by
  obtain ⟨G, -, rfl⟩ := wN_inv h
  exact gLe.rf u
def cN {α : Type} (x : Option (α × gM)) (u : gN) : Option (α × gN) := x.map fun q => (q.1, (q.2, u.2))
theorem cN_inv {α : Type} {x : Option (α × gM)} {u v : gN} {r : α} (h : cN x u = some (r, v)) : ∃ G, x = some (r, G) ∧ v = (G, u.2) := by
  cases x with
  | none => cases h
  | some q =>
    have h2 := Option.some.inj h
    cases h2
    exact ⟨q.2, rfl, rfl⟩
theorem cN_le {α : Type} {x : Option (α × gM)} {u v : gN} {r : α} (h : cN x u = some (r, v)) : gLe u v := by
  obtain ⟨G, -, rfl⟩ := cN_inv h
  exact gLe.rf u
def nwI (n : Int32) (u : gN) : Option (Nat × gN) := if ¬ n < 0 ∧ n.toNatClampNeg ≤ 100000 then some (u.2.1, (va_up u.1 u.2.1 (some (.inl (0, n.toNatClampNeg, .inl fun _ => 0))), u.2.1 + 1, u.2.2 + n.toNatClampNeg)) else none
def nwJ (n : Int32) (u : gN) : Option (Nat × gN) := if ¬ n < 0 ∧ n.toNatClampNeg ≤ 100000 then some (u.2.1, (va_up u.1 u.2.1 (some (.inl (1, n.toNatClampNeg, .inr (.inl fun _ => 0)))), u.2.1 + 1, u.2.2 + n.toNatClampNeg)) else none
def nwZ (n : Int32) (u : gN) : Option (Nat × gN) := if ¬ n < 0 ∧ n.toNatClampNeg ≤ 100000 then some (u.2.1, (va_up u.1 u.2.1 (some (.inl (3, n.toNatClampNeg, .inl fun _ => 0))), u.2.1 + 1, u.2.2 + n.toNatClampNeg)) else none
def nwQ (n : Int32) (u : gN) : Option (Nat × gN) := if ¬ n < 0 ∧ n.toNatClampNeg ≤ 100000 then some (u.2.1, (va_up u.1 u.2.1 (some (.inl (2, n.toNatClampNeg, .inr (.inr (.inr (.inr fun _ => none)))))), u.2.1 + 1, u.2.2 + n.toNatClampNeg)) else none
def nwO (ci : Nat) (fs : List Value) (u : gN) : Option (Nat × gN) := some (u.2.1, (va_up u.1 u.2.1 (some (.inr (ci, fs))), u.2.1 + 1, u.2.2 + fs.length))
theorem nw_le {u v : gN} {e : gE} {q k : Nat} {c : Prop} [Decidable c] (h : (if c then some (u.2.1, ((va_up u.1 u.2.1 (some e), u.2.1 + 1, u.2.2 + k) : gN)) else none) = some (q, v)) : gLe u v := by
  obtain ⟨-, h⟩ := if_so h
  cases h
  exact ⟨Nat.le_succ _, Nat.le_add_right _ _⟩
theorem nwI_le {n : Int32} {u v : gN} {q : Nat} (h : nwI n u = some (q, v)) : gLe u v := nw_le h
theorem nwJ_le {n : Int32} {u v : gN} {q : Nat} (h : nwJ n u = some (q, v)) : gLe u v := nw_le h
theorem nwZ_le {n : Int32} {u v : gN} {q : Nat} (h : nwZ n u = some (q, v)) : gLe u v := nw_le h
theorem nwQ_le {n : Int32} {u v : gN} {q : Nat} (h : nwQ n u = some (q, v)) : gLe u v := nw_le h
theorem nwO_le {ci : Nat} {fs : List Value} {u v : gN} {q : Nat} (h : nwO ci fs u = some (q, v)) : gLe u v := by
  cases h
  exact ⟨Nat.le_succ _, Nat.le_add_right _ _⟩
def tE (i : Int32) : Option Int32 := if ixb i 9 = true then some (tenA i.toNatClampNeg) else none
def plE (i : Int32) : Option Int64 := if ixb i 8 = true then some (plA i.toNatClampNeg) else none
def kC (cs : List Nat) (G : gM) (r : Option Nat) : Option Unit := match r with
  | none => some ()
  | some a => (gO cs G a).map fun _ => ()
def iS (G : gM) (r : Option Nat) : Option Int32 := match r with
  | none => some 0
  | some a => (gO [6, 9] G a).map fun q => if q.1 = 6 then 1 else 0
section GY
variable {p : Program} {l : Launch} {e : Env} {R : Room} {s : State} {m : MethodId} {args : Array Value} {below : List Frame} {meth : Method} {c : Code} {H : Heap} {locs : List Loc} {cells slots : Nat} {Q : State → Prop}
variable {cc : ByteArray} {nL pc : Nat} {ret : Option FieldType} {own nm : String} {Γ : gEnv} {G : gM} {N : Nat} {ls : Array Slot} {rest st : List Value}
theorem gx_recv (C : gC p s m args meth c cc nL ret own nm Γ) (hG : gAg Γ G N H) {a ci : Nat} {fs : List Value} {q : vw_C} (ha : G a = some (.inr (ci, fs))) (hq : vwCl[ci]? = some q) : ∃ cell : Cell, H[a]? = some cell ∧ cell.vm.isStatics = false ∧ s.vm.findClass q.1 = some cell.cls :=
  va_recv C.2.2.2.2.2.1 (hG.P1 ha) (ci := ci) (q0 := 0) hq rfl
theorem gx_gets (C : gC p s m args meth c cc nL ret own nm Γ) (hS : va_S Γ.2.2.1 s.heap H locs) {Cn n d : String} {t idx : Nat} (hZ : va_Z Cn n d (.ref t) Γ.2.2.1 s s.heap) (hl : gW.contains (.fieldLink own idx Cn n d) = true) (hdg : decode cc pc = .ok (.getstatic idx, 3)) (kk : W p l e R s m args below meth c H locs cells slots Q (F0 m (pc + 3) ls (va_rf (some t) :: rest))) : W p l e R s m args below meth c H locs cells slots Q (F0 m pc ls rest) := by
  obtain ⟨hx, hb, hml, hown, hts, -⟩ := C
  exact va_gets hx hb hZ hS hown (hts _ (gW_mem hl)) (fun _ h => h) hdg kk
theorem gx_getsN (C : gC p s m args meth c cc nL ret own nm Γ) (hS : va_S Γ.2.2.1 s.heap H locs) {Cn n d host : String} {t idx : Nat} (hZ : va_Z Cn n d (.ref t) Γ.2.2.1 s s.heap) (hl : nW.contains (.fieldLinkNest own idx Cn n d host) = true) (hdg : decode cc pc = .ok (.getstatic idx, 3)) (kk : W p l e R s m args below meth c H locs cells slots Q (F0 m (pc + 3) ls (va_rf (some t) :: rest))) : W p l e R s m args below meth c H locs cells slots Q (F0 m pc ls rest) := by
  obtain ⟨hx, hb, hml, hown, hts, hK, hZZ, -⟩ := C
  exact va_getsN hx hb hZ hS hown (va_Nw.use rfl (nWc hZZ hl)) (fun _ h => h) hdg kk
theorem gx_ten (C : gC p s m args meth c cc nL ret own nm Γ) (hS : va_S Γ.2.2.1 s.heap H locs) {i x : Int32} (hv : tE i = some x) (hdg : decode cc pc = .ok (.iaload, 1)) (kk : W p l e R s m args below meth c H locs cells slots Q (F0 m (pc + 1) ls (.int x :: rest))) : W p l e R s m args below meth c H locs cells slots Q (F0 m pc ls (.int i :: va_rf (some (Γ.2.2.2 1)) :: rest)) := by
  obtain ⟨hx, hb, hml, hown, hts, hK, hZ, -⟩ := C
  obtain ⟨hj, rfl⟩ := if_so hv
  exact va_ti hx hb hZ.2.1.2 hS (ixb_in hj) rfl hdg kk
theorem gx_tlen (C : gC p s m args meth c cc nL ret own nm Γ) (hS : va_S Γ.2.2.1 s.heap H locs) (hdg : decode cc pc = .ok (.arraylength, 1)) (kk : W p l e R s m args below meth c H locs cells slots Q (F0 m (pc + 1) ls (.int 9 :: rest))) : W p l e R s m args below meth c H locs cells slots Q (F0 m pc ls (va_rf (some (Γ.2.2.2 1)) :: rest)) := by
  obtain ⟨hx, hb, hml, hown, hts, hK, hZ, -⟩ := C
  exact va_tlen hx hb hZ.2.1.2 hS rfl hdg kk
theorem gx_pla (C : gC p s m args meth c cc nL ret own nm Γ) (hS : va_S Γ.2.2.1 s.heap H locs) {i : Int32} {x : Int64} (hv : plE i = some x) (hdg : decode cc pc = .ok (.laload, 1)) (kk : W p l e R s m args below meth c H locs cells slots Q (F0 m (pc + 1) ls (.long x :: rest))) : W p l e R s m args below meth c H locs cells slots Q (F0 m pc ls (.int i :: va_rf (some (Γ.2.2.2 2)) :: rest)) := by
  obtain ⟨hx, hb, hml, hown, hts, hK, hZ, -⟩ := C
  obtain ⟨hj, rfl⟩ := if_so hv
  exact va_tl hx hb hZ.2.2.1.2 hS (ixb_in hj) rfl hdg kk
theorem gx_cast (C : gC p s m args meth c cc nL ret own nm Γ) (hG : gAg Γ G N H) {r : Option Nat} {idx : Nat} {tn : String} {cs : List Nat} {z : Unit} (hv : kC cs G r = some z) (hok : castOk own idx tn cs = true) (hdg : decode cc pc = .ok (.checkcast idx, 3)) (kk : W p l e R s m args below meth c H locs cells slots Q (F0 m (pc + 3) ls (va_rf r :: rest))) : W p l e R s m args below meth c H locs cells slots Q (F0 m pc ls (va_rf r :: rest)) := by
  have CC := C
  obtain ⟨hx, hb, hml, hown, hts, hK, hZ, -⟩ := C
  cases r with
  | none => exact lv_castN hx hb hdg kk
  | some a =>
    simp only [kC] at hv
    cases ho : gO cs G a with
    | none => rw [ho] at hv; cases hv
    | some q0 =>
      obtain ⟨ci, fs⟩ := q0
      obtain ⟨h1, h2⟩ := gO_inv ho
      unfold castOk at hok
      rw [Bool.and_eq_true] at hok
      have h3 := List.all_eq_true.mp hok.2 ci h2
      cases hq : vwCl[ci]? with
      | none => rw [hq] at h3; cases h3
      | some q =>
        rw [hq] at h3
        simp only [Bool.or_eq_true, decide_eq_true_eq] at h3
        rcases h3 with h3 | h3
        · have hr := gx_recv CC hG h1 hq
          rw [h3] at hr
          exact va_castS hx hb hown (hts _ (gW_mem hok.1)) (h3 ▸ (hK.1 ci q hq).2) hr hdg kk
        · exact va_castY hx hb hown (hts _ (gW_mem hok.1)) (nWc hZ h3) (gx_recv CC hG h1 hq) hdg kk
theorem gx_inst (C : gC p s m args meth c cc nL ret own nm Γ) (hG : gAg Γ G N H) {r : Option Nat} {idx : Nat} {x : Int32} (hv : iS G r = some x) (hok : gW.contains (.classLink own idx "LostParcels$Purse") = true) (hdg : decode cc pc = .ok (.instanceof idx, 3)) (kk : W p l e R s m args below meth c H locs cells slots Q (F0 m (pc + 3) ls (.int x :: rest))) : W p l e R s m args below meth c H locs cells slots Q (F0 m pc ls (va_rf r :: rest)) := by
  have CC := C
  obtain ⟨hx, hb, hml, hown, hts, hK, hZ, -⟩ := C
  cases r with
  | none =>
    have e : (0 : Int32) = x := Option.some.inj hv
    subst e
    exact lv_instN hx hb hdg kk
  | some a =>
    simp only [iS] at hv
    cases ho : gO [6, 9] G a with
    | none => rw [ho] at hv; cases hv
    | some q0 =>
      obtain ⟨ci, fs⟩ := q0
      obtain ⟨h1, h2⟩ := gO_inv ho
      rw [ho] at hv
      have e := Option.some.inj hv
      simp only [List.mem_cons, List.not_mem_nil, or_false] at h2
      rcases h2 with rfl | rfl
      · have e1 : (1 : Int32) = x := e
        subst e1
        exact va_instS hx hb hown (hts _ (gW_mem hok)) (hK.1 6 _ rfl).2 (gx_recv CC hG h1 (q := (RX5, TX5, 13)) rfl) hdg kk
      · have e1 : (0 : Int32) = x := e
        subst e1
        exact va_instNo hx hb hown (hts _ (gW_mem hok)) hZ.2.2.2.2.2.2 (gx_recv CC hG h1 (q := (RX8, TX8, 12)) rfl) hdg kk
/-- ends -/
theorem gx_reti (C : gC p s m args meth c cc nL (some .int) own nm Γ) {v : Int32} (hG : gAg Γ G N H) (hS : va_S Γ.2.2.1 s.heap H locs) (hdg : decode cc pc = .ok (.ireturn, 1)) : W p l e R s m args below meth c H locs cells slots (MQ below (gQ Γ (some (.int v)) G N) args s cells slots Γ.2.2.1) (F0 m pc ls [.int v]) := by
  obtain ⟨hx, hb, hml, hown, hts, hK, hZ, hA, hr, hlocks, -⟩ := C
  exact W.iret (v := v) hx hb hr (fun t ht hW => ⟨rfl, by rw [ht]; exact hG, hS.F ht⟩) hS.2.2 hdg
theorem gx_retz (C : gC p s m args meth c cc nL (some .boolean) own nm Γ) {v : Int32} (hn : v = 0 ∨ v = 1) (hG : gAg Γ G N H) (hS : va_S Γ.2.2.1 s.heap H locs) (hdg : decode cc pc = .ok (.ireturn, 1)) : W p l e R s m args below meth c H locs cells slots (MQ below (gQ Γ (some (.int v)) G N) args s cells slots Γ.2.2.1) (F0 m pc ls [.int v]) := by
  obtain ⟨hx, hb, hml, hown, hts, hK, hZ, hA, hr, hlocks, -⟩ := C
  exact W.zret (v := v) hx hb hr (by rcases hn with rfl | rfl <;> rfl) (fun t ht hW => ⟨rfl, by rw [ht]; exact hG, hS.F ht⟩) hS.2.2 hdg
theorem gx_retl (C : gC p s m args meth c cc nL (some .long) own nm Γ) {v : Int64} (hG : gAg Γ G N H) (hS : va_S Γ.2.2.1 s.heap H locs) (hdg : decode cc pc = .ok (.lreturn, 1)) : W p l e R s m args below meth c H locs cells slots (MQ below (gQ Γ (some (.long v)) G N) args s cells slots Γ.2.2.1) (F0 m pc ls [.long v]) := by
  obtain ⟨hx, hb, hml, hown, hts, hK, hZ, hA, hr, hlocks, -⟩ := C
  exact W.lret (v := v) hx hb hr (fun t ht hW => ⟨rfl, by rw [ht]; exact hG, hS.F ht⟩) hS.2.2 hdg
theorem gx_retv (C : gC p s m args meth c cc nL none own nm Γ) (hG : gAg Γ G N H) (hS : va_S Γ.2.2.1 s.heap H locs) (hdg : decode cc pc = .ok (.return_, 1)) : W p l e R s m args below meth c H locs cells slots (MQ below (gQ Γ none G N) args s cells slots Γ.2.2.1) (F0 m pc ls []) := by
  obtain ⟨hx, hb, hml, hown, hts, hK, hZ, hA, hr, hlocks, -⟩ := C
  exact W.vret hx hb hr (fun t ht hW => ⟨rfl, by rw [ht]; exact hG, hS.F ht⟩) hS.2.2 hdg
theorem gx_reta {rt : FieldType} (C : gC p s m args meth c cc nL (some rt) own nm Γ) (hrt : (∃ n, rt = .object n) ∨ ∃ t, rt = .array t) {v : Option Nat} (hG : gAg Γ G N H) (hS : va_S Γ.2.2.1 s.heap H locs) (hdg : decode cc pc = .ok (.areturn, 1)) : W p l e R s m args below meth c H locs cells slots (MQ below (gQ Γ (some (va_rf v)) G N) args s cells slots Γ.2.2.1) (F0 m pc ls [va_rf v]) := by
  obtain ⟨hx, hb, hml, hown, hts, hK, hZ, hA, hr, hlocks, -⟩ := C
  exact W.aret hx hb hr hrt (by cases v with
    | none => exact Or.inl rfl
    | some a => exact Or.inr ⟨a, rfl⟩) (fun t ht hW => ⟨rfl, by rw [ht]; exact hG, hS.F ht⟩) hS.2.2 hdg
theorem gx_met {y : MethodName} {rm : Room} {vs : List Value} {Qc : Array Value → State → Outcome → State → Prop} {mc ms : Nat} (hy : plainFor y = true ∧ y.cls = own ∧ y.name = nm) (hlen : (lg_sl vs).length ≤ nL)
    (body : ∀ p e s m below meth c ls, gC p s m vs.toArray meth c cc nL ret own nm Γ → gAg Γ G N s.heap → lv_has ls nL (lv_args 0 vs) → W p l e rm s m vs.toArray below meth c s.heap [] 0 0 (MQ below Qc vs.toArray s mc ms Γ.2.2.1) (F0 m 0 ls [])) :
    Met l y (Cond.code y cc nL ret :: gW) rm (va_Pc vs (gPre Γ G N)) Qc mc ms Γ.2.2.1 := by
  refine va_MetF (cc := cc) (maxL := nL) (ret := ret) hy.1 rfl ?_
  intro p e s m args below meth c s₁ B hml hv
  obtain ⟨rfl, hG, hK, hZ, hA⟩ := hv
  have hts := atoms_spec (ws := Cond.code y cc nL ret :: gW) B.pre
  have hown : s.vm.findClass own = some m.cls := hy.2.1 ▸ findClass_of_methodNamed B.named
  have hl := lv_entry vs (n := nL) hlen
  rw [lg_entry_eq]
  exact body p e s m below meth c _ ⟨B.exec, B.bytes, hml, hown, fun w hw => hts w (List.mem_cons_of_mem _ hw), hK, hZ, hA, B.returns, B.notSynchronized, (name_of_methodNamed B.named B.method).1.trans hy.2.2⟩ hG hl
/-- calls -/
theorem gx_run {mc ms N' : Nat} {o : Option Value} {G' : gM} {a : Array Value} {st0 st1 : List Value} (hr : va_Run p l e R s m args below meth c H locs cells slots mc ms (F0 m pc ls st0) rest (gQ Γ o G' N' a) Γ.2.2.1) (hS : va_S Γ.2.2.1 s.heap H locs) (h1 : o.toList ++ rest = st1)
    (kk : ∀ H1 locs1, gAg Γ G' N' H1 → va_S Γ.2.2.1 s.heap H1 locs1 → W p l e R s m args below meth c H1 locs1 (cells + mc) (slots + ms) Q (F0 m (pc + 3) ls st1)) : W p l e R s m args below meth c H locs cells slots Q (F0 m pc ls st0) := by
  subst h1
  intro T hT X
  obtain ⟨v, st₀, t, T', L, h0, X', hL, e1, e2, ⟨hv, hg, hz, hk⟩, st⟩ := hr T hT X
  cases hv
  rw [h0] at hz hk
  obtain ⟨t2, a1, b1⟩ := kk T'.heap (locs ++ L) (by rw [e1]; exact hg)
    ⟨Nat.le_trans hS.1 (by rw [e1]; exact hz), fun q h1 h2 => by rw [e1, hk q (Nat.lt_of_lt_of_le h1 hS.1) h2]; exact hS.2.1 q h1 h2, fun q hq => by
      rcases List.mem_append.mp hq with h | h
      · exact hS.2.2 q h
      · exact hL q h⟩ T' rfl X'
  exact ⟨t2, st t2 a1, b1⟩
theorem gx_cV (C : gC p s m args meth c cc nL ret own nm Γ) (hG : gAg Γ G N H) (hS : va_S Γ.2.2.1 s.heap H locs) {y : MethodName} {bytes : ByteArray} {maxL idx n ci b mc ms N' : Nat} {rety : Option FieldType} {rm : Room} {r : Option Nat} {q : vw_C} {of : Nat × List Value} {o : Option Value} {G' : gM} (As : List Value) (hr : r = some b) (hO : gO [ci] G b = some of)
    (hM : Met l y (Cond.code y bytes maxL rety :: gW) rm (va_Pc (va_rf (some b) :: As) (gPre Γ G N)) (gQ Γ o G' N') mc ms Γ.2.2.1)
    (hw : vwCl[ci]? = some q ∧ GoodIn gW (wsV own idx q.1 y (Cond.code y bytes maxL rety :: gW)) ∧ y.cls = q.1 ∧ y.cls ≠ "java/lang/invoke/MethodHandle" ∧ y.cls ≠ "java/lang/invoke/VarHandle" ∧ (parseMethodDescriptor y.desc).map (fun d => d.parameters.length) = some n)
    (hR : rm.cells = mc ∧ rm.slots = ms ∧ rm.frames + 1 ≤ R.frames ∧ 8 + (maxL + 11) + rm.locals ≤ R.locals) (hf : cells + mc ≤ R.cells ∧ slots + ms ≤ R.slots) (hn : As.length = n) (hl : ls.size = nL) (hst : st = As.reverse ++ va_rf r :: rest) (hrm : (rest.map fun v => v.category).sum ≤ 8) {st1 : List Value} (h1 : o.toList ++ rest = st1) (hdg : decode cc pc = .ok (.invokevirtual idx, 3))
    (kk : ∀ H1 locs1, gAg Γ G' N' H1 → va_S Γ.2.2.1 s.heap H1 locs1 → W p l e R s m args below meth c H1 locs1 (cells + mc) (slots + ms) Q (F0 m (pc + 3) ls st1)) : W p l e R s m args below meth c H locs cells slots Q (F0 m pc ls st) := by
  have CC := C
  obtain ⟨hx, hb, hml, hown, hts, hK, -⟩ := C
  subst hst
  subst hr
  obtain ⟨cj, fs⟩ := of
  obtain ⟨ha, hcj⟩ := gO_inv hO
  cases List.mem_singleton.mp hcj
  exact gx_run (va_runV (As := As) (rest := rest) ⟨hx, hb, hml, hown, hts⟩ hM (cwV n hts hw.2.1 rfl hR.1 hR.2.1 hw.2.2 ⟨hR.2.2.1, hR.2.2.2⟩) ⟨gPre_blind, gx_recv CC hG ha hw.1, fun U hU hW => ⟨rfl, gx_pre CC hG hS hU hW⟩⟩ rfl hn hl rfl (lv_room hrm) hdg hf) hS h1 kk
theorem gx_cU (C : gC p s m args meth c cc nL ret own nm Γ) (hG : gAg Γ G N H) (hS : va_S Γ.2.2.1 s.heap H locs) {y : MethodName} {bytes : ByteArray} {maxL idx n b mc ms N' : Nat} {rety : Option FieldType} {rm : Room} {r : Option Nat} {of : Nat × List Value} {o : Option Value} {G' : gM} (As : List Value) (hr : r = some b) (hO : gO [6, 9] G b = some of)
    (hM : Met l y (Cond.code y bytes maxL rety :: gW) rm (va_Pc (va_rf (some b) :: As) (gPre Γ G N)) (gQ Γ o G' N') mc ms Γ.2.2.1)
    (hw : GoodIn gW (va_wsU own idx RX5 RX8 y y (Cond.code y bytes maxL rety :: gW)) ∧ GoodIn gW (va_wsU own idx RX8 RX8 y y (Cond.code y bytes maxL rety :: gW)) ∧ y = ⟨RX8, y.name, y.desc⟩ ∧ RX8 ≠ "java/lang/invoke/MethodHandle" ∧ RX8 ≠ "java/lang/invoke/VarHandle" ∧ (parseMethodDescriptor y.desc).map (fun d => d.parameters.length) = some n)
    (hR : rm.cells = mc ∧ rm.slots = ms ∧ rm.frames + 1 ≤ R.frames ∧ 8 + (maxL + 11) + rm.locals ≤ R.locals) (hf : cells + mc ≤ R.cells ∧ slots + ms ≤ R.slots) (hn : As.length = n) (hl : ls.size = nL) (hst : st = As.reverse ++ va_rf r :: rest) (hrm : (rest.map fun v => v.category).sum ≤ 8) {st1 : List Value} (h1 : o.toList ++ rest = st1) (hdg : decode cc pc = .ok (.invokevirtual idx, 3))
    (kk : ∀ H1 locs1, gAg Γ G' N' H1 → va_S Γ.2.2.1 s.heap H1 locs1 → W p l e R s m args below meth c H1 locs1 (cells + mc) (slots + ms) Q (F0 m (pc + 3) ls st1)) : W p l e R s m args below meth c H locs cells slots Q (F0 m pc ls st) := by
  have CC := C
  obtain ⟨hx, hb, hml, hown, hts, hK, -⟩ := C
  subst hst
  subst hr
  obtain ⟨cj, fs⟩ := of
  obtain ⟨ha, hcj⟩ := gO_inv hO
  simp only [List.mem_cons, List.not_mem_nil, or_false] at hcj
  rcases hcj with rfl | rfl
  · exact gx_run (va_runU (As := As) (rest := rest) ⟨hx, hb, hml, hown, hts⟩ hM (va_cwU n hts hw.1 rfl hR.1 hR.2.1 hw.2.2.1 hw.2.2.2 ⟨hR.2.2.1, hR.2.2.2⟩) ⟨gPre_blind, gx_recv CC hG ha (q := (RX5, TX5, 13)) rfl, fun U hU hW => ⟨rfl, gx_pre CC hG hS hU hW⟩⟩ rfl hn hl rfl (lv_room hrm) hdg hf) hS h1 kk
  · exact gx_run (va_runU (As := As) (rest := rest) ⟨hx, hb, hml, hown, hts⟩ hM (va_cwU n hts hw.2.1 rfl hR.1 hR.2.1 hw.2.2.1 hw.2.2.2 ⟨hR.2.2.1, hR.2.2.2⟩) ⟨gPre_blind, gx_recv CC hG ha (q := (RX8, TX8, 12)) rfl, fun U hU hW => ⟨rfl, gx_pre CC hG hS hU hW⟩⟩ rfl hn hl rfl (lv_room hrm) hdg hf) hS h1 kk
theorem gx_cS (C : gC p s m args meth c cc nL ret own nm Γ) (hG : gAg Γ G N H) (hS : va_S Γ.2.2.1 s.heap H locs) {y : MethodName} {bytes : ByteArray} {maxL idx n mc ms N' : Nat} {rety : Option FieldType} {rm : Room} {o : Option Value} {G' : gM} (As : List Value)
    (hM : Met l y (Cond.code y bytes maxL rety :: gW) rm (va_Pc As (gPre Γ G N)) (gQ Γ o G' N') mc ms Γ.2.2.1)
    (hw : GoodIn gW (va_wsS own idx y (Cond.code y bytes maxL rety :: gW)) ∧ y.cls ≠ "java/lang/invoke/MethodHandle" ∧ y.cls ≠ "java/lang/invoke/VarHandle" ∧ (parseMethodDescriptor y.desc).map (fun d => d.parameters.length) = some n)
    (hR : rm.cells = mc ∧ rm.slots = ms ∧ rm.frames + 1 ≤ R.frames ∧ 8 + (maxL + 11) + rm.locals ≤ R.locals) (hf : cells + mc ≤ R.cells ∧ slots + ms ≤ R.slots) (hn : As.length = n) (hl : ls.size = nL) (hst : st = As.reverse ++ rest) (hrm : (rest.map fun v => v.category).sum ≤ 8) {st1 : List Value} (h1 : o.toList ++ rest = st1) (hdg : decode cc pc = .ok (.invokestatic idx, 3))
    (kk : ∀ H1 locs1, gAg Γ G' N' H1 → va_S Γ.2.2.1 s.heap H1 locs1 → W p l e R s m args below meth c H1 locs1 (cells + mc) (slots + ms) Q (F0 m (pc + 3) ls st1)) : W p l e R s m args below meth c H locs cells slots Q (F0 m pc ls st) := by
  have CC := C
  obtain ⟨hx, hb, hml, hown, hts, hK, -⟩ := C
  subst hst
  exact gx_run (va_runS (As := As) (rest := rest) ⟨hx, hb, hml, hown, hts⟩ hM (va_cwS n hts hw.1 rfl hR.1 hR.2.1 hw.2 ⟨hR.2.2.1, hR.2.2.2⟩) ⟨gPre_blind, fun U hU hW => ⟨rfl, gx_pre CC hG hS hU hW⟩⟩ rfl hn hl rfl (lv_room hrm) hdg hf) hS h1 kk
theorem gx_cSN (C : gC p s m args meth c cc nL ret own nm Γ) (hG : gAg Γ G N H) (hS : va_S Γ.2.2.1 s.heap H locs) {y : MethodName} {bytes : ByteArray} {maxL idx n mc ms N' : Nat} {rety : Option FieldType} {rm : Room} {o : Option Value} {G' : gM} {host : String} (As : List Value)
    (hM : Met l y (Cond.code y bytes maxL rety :: gW) rm (va_Pc As (gPre Γ G N)) (gQ Γ o G' N') mc ms Γ.2.2.1)
    (hw : nW.contains (.methodLinkNest own idx y host) = true ∧ gW.contains (.static y) = true ∧ gW.contains (.initialized y.cls) = true ∧ gW.contains (Cond.code y bytes maxL rety) = true ∧ y.cls ≠ "java/lang/invoke/MethodHandle" ∧ y.cls ≠ "java/lang/invoke/VarHandle" ∧ (parseMethodDescriptor y.desc).map (fun d => d.parameters.length) = some n)
    (hR : rm.cells = mc ∧ rm.slots = ms ∧ rm.frames + 1 ≤ R.frames ∧ 8 + (maxL + 11) + rm.locals ≤ R.locals) (hf : cells + mc ≤ R.cells ∧ slots + ms ≤ R.slots) (hn : As.length = n) (hl : ls.size = nL) (hst : st = As.reverse ++ rest) (hrm : (rest.map fun v => v.category).sum ≤ 8) {st1 : List Value} (h1 : o.toList ++ rest = st1) (hdg : decode cc pc = .ok (.invokestatic idx, 3))
    (kk : ∀ H1 locs1, gAg Γ G' N' H1 → va_S Γ.2.2.1 s.heap H1 locs1 → W p l e R s m args below meth c H1 locs1 (cells + mc) (slots + ms) Q (F0 m (pc + 3) ls st1)) : W p l e R s m args below meth c H locs cells slots Q (F0 m pc ls st) := by
  have CC := C
  obtain ⟨hx, hb, hml, hown, hts, hK, hZ, -⟩ := C
  subst hst
  have hcw : GoodIn gW (Cond.code y bytes maxL rety :: gW) := fun w h => (List.mem_cons.mp h).elim (fun e => gW_good w (e ▸ gW_mem hw.2.2.2.1)) (fun h => gW_good w h)
  exact gx_run (va_runSN (As := As) (rest := rest) ⟨hx, hb, hml, hown, hts⟩ hM ⟨va_cnB (host := host) n hts hcw rfl hR.1 hR.2.1 (nWc hZ hw.1) (hts _ (gW_mem hw.2.2.1)) hw.2.2.2.2 ⟨hR.2.2.1, hR.2.2.2⟩, hts _ (gW_mem hw.2.1), trivial⟩ ⟨gPre_blind, fun U hU hW => ⟨rfl, gx_pre CC hG hS hU hW⟩⟩ rfl hn hl rfl (lv_room hrm) hdg hf) hS h1 kk
theorem gx_cI (C : gC p s m args meth c cc nL ret own nm Γ) (hG : gAg Γ G N H) (hS : va_S Γ.2.2.1 s.heap H locs) {y : MethodName} {bytes : ByteArray} {maxL idx n b mc ms N' : Nat} {rm : Room} {r : Option Nat} {G' : gM} (As : List Value) (hr : r = some b)
    (hM : Met l y (Cond.code y bytes maxL none :: gW) rm (va_Pc (va_rf (some b) :: As) (gPre Γ G N)) (gQ Γ none G' N') mc ms Γ.2.2.1)
    (hw : gW.contains (.methodLink own idx y) = true ∧ gW.contains (.instanceMethod y) = true ∧ gW.contains (.initialized y.cls) = true ∧ gW.contains (Cond.code y bytes maxL none) = true ∧ y.name = "<init>" ∧ y.cls ≠ "java/lang/invoke/MethodHandle" ∧ y.cls ≠ "java/lang/invoke/VarHandle" ∧ (parseMethodDescriptor y.desc).map (fun d => d.parameters.length) = some n)
    (hR : rm.cells = mc ∧ rm.slots = ms ∧ rm.frames + 1 ≤ R.frames ∧ 8 + (maxL + 11) + rm.locals ≤ R.locals) (hf : cells + mc ≤ R.cells ∧ slots + ms ≤ R.slots) (hn : As.length = n) (hl : ls.size = nL) (hst : st = As.reverse ++ va_rf r :: rest) (hrm : (rest.map fun v => v.category).sum ≤ 8) (hdg : decode cc pc = .ok (.invokespecial idx, 3))
    (kk : ∀ H1 locs1, gAg Γ G' N' H1 → va_S Γ.2.2.1 s.heap H1 locs1 → W p l e R s m args below meth c H1 locs1 (cells + mc) (slots + ms) Q (F0 m (pc + 3) ls rest)) : W p l e R s m args below meth c H locs cells slots Q (F0 m pc ls st) := by
  have CC := C
  obtain ⟨hx, hb, hml, hown, hts, hK, hZ, -⟩ := C
  subst hst
  subst hr
  have hcw : GoodIn gW (Cond.code y bytes maxL none :: gW) := fun w h => (List.mem_cons.mp h).elim (fun e => gW_good w (e ▸ gW_mem hw.2.2.2.1)) (fun h => gW_good w h)
  exact gx_run (va_runI (As := As) (rest := rest) ⟨hx, hb, hml, hown, hts⟩ hM (cwI n hts hcw rfl hR.1 hR.2.1 (hts _ (gW_mem hw.2.2.1)) (hts _ (gW_mem hw.1)) (hts _ (gW_mem hw.2.1)) hw.2.2.2.2.1 hw.2.2.2.2.2 ⟨hR.2.2.1, hR.2.2.2⟩) ⟨gPre_blind, fun U hU hW => ⟨rfl, gx_pre CC hG hS hU hW⟩⟩ rfl hn hl rfl (lv_room hrm) hdg hf) hS rfl kk
theorem gx_cIN (C : gC p s m args meth c cc nL ret own nm Γ) (hG : gAg Γ G N H) (hS : va_S Γ.2.2.1 s.heap H locs) {y : MethodName} {bytes : ByteArray} {maxL idx n b mc ms N' : Nat} {rm : Room} {r : Option Nat} {G' : gM} {host : String} (As : List Value) (hr : r = some b)
    (hM : Met l y (Cond.code y bytes maxL none :: gW) rm (va_Pc (va_rf (some b) :: As) (gPre Γ G N)) (gQ Γ none G' N') mc ms Γ.2.2.1)
    (hw : nW.contains (.methodLinkNest own idx y host) = true ∧ gW.contains (.instanceMethod y) = true ∧ gW.contains (.initialized y.cls) = true ∧ gW.contains (Cond.code y bytes maxL none) = true ∧ y.name = "<init>" ∧ y.cls ≠ "java/lang/invoke/MethodHandle" ∧ y.cls ≠ "java/lang/invoke/VarHandle" ∧ (parseMethodDescriptor y.desc).map (fun d => d.parameters.length) = some n)
    (hR : rm.cells = mc ∧ rm.slots = ms ∧ rm.frames + 1 ≤ R.frames ∧ 8 + (maxL + 11) + rm.locals ≤ R.locals) (hf : cells + mc ≤ R.cells ∧ slots + ms ≤ R.slots) (hn : As.length = n) (hl : ls.size = nL) (hst : st = As.reverse ++ va_rf r :: rest) (hrm : (rest.map fun v => v.category).sum ≤ 8) (hdg : decode cc pc = .ok (.invokespecial idx, 3))
    (kk : ∀ H1 locs1, gAg Γ G' N' H1 → va_S Γ.2.2.1 s.heap H1 locs1 → W p l e R s m args below meth c H1 locs1 (cells + mc) (slots + ms) Q (F0 m (pc + 3) ls rest)) : W p l e R s m args below meth c H locs cells slots Q (F0 m pc ls st) := by
  have CC := C
  obtain ⟨hx, hb, hml, hown, hts, hK, hZ, -⟩ := C
  subst hst
  subst hr
  have hcw : GoodIn gW (Cond.code y bytes maxL none :: gW) := fun w h => (List.mem_cons.mp h).elim (fun e => gW_good w (e ▸ gW_mem hw.2.2.2.1)) (fun h => gW_good w h)
  exact gx_run (va_runIN (As := As) (rest := rest) ⟨hx, hb, hml, hown, hts⟩ hM ⟨va_cnB (host := host) n hts hcw rfl hR.1 hR.2.1 (nWc hZ hw.1) (hts _ (gW_mem hw.2.2.1)) hw.2.2.2.2.2 ⟨hR.2.2.1, hR.2.2.2⟩, hw.2.2.2.2.1, hts _ (gW_mem hw.2.1)⟩ ⟨gPre_blind, fun U hU hW => ⟨rfl, gx_pre CC hG hS hU hW⟩⟩ rfl hn hl rfl (lv_room hrm) hdg hf) hS rfl kk
theorem gx_obj (C : gC p s m args meth c cc nL ret own nm Γ) {r : Option Nat} {b idx : Nat} (hr : r = some b) (hw : gW.contains (.methodLink own idx objectInit) = true ∧ gW.contains (.instanceMethod objectInit) = true ∧ gW.contains (.code objectInit ⟨#[0xb1]⟩ 1 none) = true) (hl : ls.size = nL) (hR : 1 ≤ R.frames ∧ (rest.map fun v => v.category).sum + 12 ≤ R.locals) (hdg : decode cc pc = .ok (.invokespecial idx, 3)) (kk : W p l e R s m args below meth c H locs cells slots Q (F0 m (pc + 3) ls rest)) : W p l e R s m args below meth c H locs cells slots Q (F0 m pc ls (va_rf r :: rest)) := by
  obtain ⟨hx, hb, hml, hown, hts, -⟩ := C
  subst hr
  refine W.objInit hx hb hown (hts _ (gW_mem hw.1)) (hts _ (gW_mem hw.2.1)) (hts _ (gW_mem hw.2.2)) rfl (by rw [hml]; exact hl) rfl hdg hR.1 (by show 2 * 0 + _ + 12 ≤ _; have := hR.2; omega) ?_
  exact kk
theorem gx_mmin (C : gC p s m args meth c cc nL ret own nm Γ) {idx : Nat} {x y : Int32} (hw : gW.contains (.methodLink own idx Lib.Math.min.name) = true ∧ gW.contains (.static Lib.Math.min.name) = true ∧ gW.contains (.initialized "java/lang/Math") = true ∧ gW.contains (.code Lib.Math.min.name Lib.Math.min.code 2 (some .int)) = true) (hl : ls.size = nL) (hR : 1 ≤ R.frames ∧ (rest.map fun v => v.category).sum + 13 ≤ R.locals) (hf : cells ≤ R.cells ∧ slots ≤ R.slots) (hdg : decode cc pc = .ok (.invokestatic idx, 3)) (kk : W p l e R s m args below meth c H locs cells slots Q (F0 m (pc + 3) ls (.int (if y < x then y else x) :: rest))) : W p l e R s m args below meth c H locs cells slots Q (F0 m pc ls (.int y :: .int x :: rest)) := by
  obtain ⟨hx, hb, hml, hown, hts, -⟩ := C
  exact va_mmin hx hb (hml.trans hl.symm) hown (hts _ (gW_mem hw.1)) (hts _ (gW_mem hw.2.1)) (hts _ (gW_mem hw.2.2.1)) (hts _ (gW_mem hw.2.2.2)) hR.1 hR.2 hf.1 hf.2 hdg kk
theorem gx_mmax (C : gC p s m args meth c cc nL ret own nm Γ) {idx : Nat} {x y : Int32} (hw : gW.contains (.methodLink own idx Lib.Math.max.name) = true ∧ gW.contains (.static Lib.Math.max.name) = true ∧ gW.contains (.initialized "java/lang/Math") = true ∧ gW.contains (.code Lib.Math.max.name Lib.Math.max.code 2 (some .int)) = true) (hl : ls.size = nL) (hR : 1 ≤ R.frames ∧ (rest.map fun v => v.category).sum + 13 ≤ R.locals) (hf : cells ≤ R.cells ∧ slots ≤ R.slots) (hdg : decode cc pc = .ok (.invokestatic idx, 3)) (kk : W p l e R s m args below meth c H locs cells slots Q (F0 m (pc + 3) ls (.int (if x < y then y else x) :: rest))) : W p l e R s m args below meth c H locs cells slots Q (F0 m pc ls (.int y :: .int x :: rest)) := by
  obtain ⟨hx, hb, hml, hown, hts, -⟩ := C
  exact va_mmax hx hb (hml.trans hl.symm) hown (hts _ (gW_mem hw.1)) (hts _ (gW_mem hw.2.1)) (hts _ (gW_mem hw.2.2.1)) (hts _ (gW_mem hw.2.2.2)) hR.1 hR.2 hf.1 hf.2 hdg kk
theorem gx_mabs (C : gC p s m args meth c cc nL ret own nm Γ) {idx : Nat} {x : Int32} (hw : gW.contains (.methodLink own idx Lib.Math.abs.name) = true ∧ gW.contains (.static Lib.Math.abs.name) = true ∧ gW.contains (.initialized "java/lang/Math") = true ∧ gW.contains (.code Lib.Math.abs.name Lib.Math.abs.code 1 (some .int)) = true) (hl : ls.size = nL) (hR : 1 ≤ R.frames ∧ (rest.map fun v => v.category).sum + 13 ≤ R.locals) (hf : cells ≤ R.cells ∧ slots ≤ R.slots) (hdg : decode cc pc = .ok (.invokestatic idx, 3)) (kk : W p l e R s m args below meth c H locs cells slots Q (F0 m (pc + 3) ls (.int (if 0 ≤ x then x else 0 - x) :: rest))) : W p l e R s m args below meth c H locs cells slots Q (F0 m pc ls (.int x :: rest)) := by
  obtain ⟨hx, hb, hml, hown, hts, -⟩ := C
  exact va_mabs hx hb (hml.trans hl.symm) hown (hts _ (gW_mem hw.1)) (hts _ (gW_mem hw.2.1)) (hts _ (gW_mem hw.2.2.1)) (hts _ (gW_mem hw.2.2.2)) hR.1 hR.2 hf.1 hf.2 hdg kk
theorem gx_mmaxl (C : gC p s m args meth c cc nL ret own nm Γ) {idx : Nat} {x y : Int64} (hw : gW.contains (.methodLink own idx Lib.MathLoose.max_long.x) = true ∧ gW.contains (.static Lib.MathLoose.max_long.x) = true ∧ gW.contains (.initialized "java/lang/Math") = true ∧ gW.contains (.code Lib.MathLoose.max_long.x Lib.MathLoose.max_long.code 4 (some .long)) = true) (hl : ls.size = nL) (hR : 1 ≤ R.frames ∧ (rest.map fun v => v.category).sum + 15 ≤ R.locals) (hf : cells ≤ R.cells ∧ slots ≤ R.slots) (hdg : decode cc pc = .ok (.invokestatic idx, 3)) (kk : W p l e R s m args below meth c H locs cells slots Q (F0 m (pc + 3) ls (.long (if y < x then x else y) :: rest))) : W p l e R s m args below meth c H locs cells slots Q (F0 m pc ls (.long y :: .long x :: rest)) := by
  obtain ⟨hx, hb, hml, hown, hts, -⟩ := C
  exact va_mmax_long hx hb (hml.trans hl.symm) hown (hts _ (gW_mem hw.1)) (hts _ (gW_mem hw.2.1)) (hts _ (gW_mem hw.2.2.1)) (hts _ (gW_mem hw.2.2.2)) hR.1 hR.2 hf.1 hf.2 hdg kk
end GY
