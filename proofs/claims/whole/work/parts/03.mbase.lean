def gW : List Cond := lw_tbl.filter goodWord
theorem gW_good : GoodIn gW gW := fun w h => ⟨h, good_of_word (List.mem_filter.mp h).2⟩
theorem gW_of {args : Array Value} {s : State} (h : ∀ w ∈ lw_tbl, w.before args s = true) : ∀ w ∈ gW, w.before args s = true := fun w hw => h w (List.mem_filter.mp hw).1
theorem gW_mem {w : Cond} (h : gW.contains w = true) : w ∈ gW := List.contains_iff_mem.mp h
theorem gW_app {ws : List Cond} (h : ∀ w ∈ ws, w ∈ gW) : GoodIn gW (ws ++ gW) := fun w hw => (List.mem_append.mp hw).elim (fun q => gW_good w (h w q)) (fun q => gW_good w q)
theorem gW_V {own C : String} {idx : Nat} {y : MethodName} {cw : Cond} (h : ∀ w ∈ ([.methodLink own idx y, .instanceMethod y, .selects C y y, .initialized C, cw] : List Cond), w ∈ gW) : GoodIn gW (wsV own idx C y (cw :: gW)) := by
  intro w hw
  have h2 : w ∈ ([.methodLink own idx y, .instanceMethod y, .selects C y y, .initialized C, cw] : List Cond) ++ gW := by
    simpa [wsV] using hw
  exact gW_app h w h2
theorem gW_S {own : String} {idx : Nat} {y : MethodName} {cw : Cond} (h : ∀ w ∈ ([.methodLink own idx y, .static y, .initialized y.cls, cw] : List Cond), w ∈ gW) : GoodIn gW (va_wsS own idx y (cw :: gW)) := by
  intro w hw
  have h2 : w ∈ ([.methodLink own idx y, .static y, .initialized y.cls, cw] : List Cond) ++ gW := by
    simpa [va_wsS] using hw
  exact gW_app h w h2
theorem ob {α β : Type} {x : Option α} {k : α → Option β} {b : β} (h : x.bind k = some b) : ∃ a, x = some a ∧ k a = some b := by
  cases x with
  | none => cases h
  | some a => exact ⟨a, rfl, h⟩
def pU {α β : Type} (x : α) (k : α → Option β) : Option β := k x
theorem op {α β : Type} {x : α} {k : α → Option β} {b : β} (h : pU x k = some b) : ∃ a, a = x ∧ k a = some b := ⟨x, rfl, h⟩
def bI {α σ β : Type} (x : Option (α × σ)) (k : α → σ → Option β) : Option β := x.bind fun q => k q.1 q.2
theorem obI {α σ β : Type} {x : Option (α × σ)} {k : α → σ → Option β} {b : β} (h : bI x k = some b) : ∃ r u, x = some (r, u) ∧ k r u = some b := by
  obtain ⟨⟨r, u⟩, e, h⟩ := ob h
  exact ⟨r, u, e, h⟩
theorem it_pos {α : Type} {c : Prop} [Decidable c] {a b r : α} (hc : c) (h : (if c then a else b) = r) : a = r := by rw [if_pos hc] at h; exact h
theorem it_neg {α : Type} {c : Prop} [Decidable c] {a b r : α} (hc : ¬ c) (h : (if c then a else b) = r) : b = r := by rw [if_neg hc] at h; exact h
abbrev FU : Nat := 1000000
def ixb (i : Int32) (n : Nat) : Bool := !(decide (i < 0) || decide (n ≤ i.toNatClampNeg))
theorem ixb_in {i : Int32} {n : Nat} (h : ixb i n = true) : vp_in i n := by
  intro q
  simp only [ixb, Bool.not_eq_true', Bool.or_eq_false_iff, decide_eq_false_iff_not] at h
  exact q.elim h.1 h.2
theorem ixb_nI {j n : Nat} (h : j < n) (hn : n < 2 ^ 31) : ixb (nI j) n = true := by
  have h1 : ¬ nI j < 0 := nI_pos (by omega)
  have h2 : (nI j).toNatClampNeg = j := nI_clamp (by omega)
  simp only [ixb, h2, Bool.not_eq_true', Bool.or_eq_false_iff, decide_eq_false_iff_not]
  exact ⟨h1, by omega⟩
/-- the reference's state: its int fields, its int rows, its row of longs, by the fields' places -/
abbrev mS : Type := (Nat → Int32) × (Nat → Nat → Int32) × (Nat → Int64)
def mF (u : mS) (k : Nat) (v : Int32) : mS := (fun j => if j = k then v else u.1 j, u.2)
def mA (u : mS) (k i : Nat) (v : Int32) : mS := (u.1, (fun j => if j = k then upd (u.2.1 j) i v else u.2.1 j), u.2.2)
def mL (u : mS) (i : Nat) (v : Int64) : mS := (u.1, u.2.1, vp_updL u.2.2 i v)
def mR (u : mS) (k n : Nat) (i : Int32) : Option Int32 := if ixb i n = true then some (u.2.1 k i.toNatClampNeg) else none
def mRL (u : mS) (n : Nat) (i : Int32) : Option Int64 := if ixb i n = true then some (u.2.2 i.toNatClampNeg) else none
def mU (u : mS) (k n : Nat) (i v : Int32) : Option mS := if ixb i n = true then some (mA u k i.toNatClampNeg v) else none
def mUL (u : mS) (n : Nat) (i : Int32) (v : Int64) : Option mS := if ixb i n = true then some (mL u i.toNatClampNeg v) else none
theorem if_so {α : Type} {c : Prop} [Decidable c] {a b : α} (h : (if c then some a else none) = some b) : c ∧ a = b := by
  by_cases hc : c
  · rw [if_pos hc] at h; exact ⟨hc, Option.some.inj h⟩
  · rw [if_neg hc] at h; cases h
def mV (ad : Nat → Nat) (u : mS) : List Value := [.int (u.1 0), .int (u.1 1), .int (u.1 2), .ref (ad 3), .ref (ad 4), .ref (ad 5), .ref (ad 6), .ref (ad 7), .ref (ad 8), .ref (ad 9), .ref (ad 10), .ref (ad 11), .ref (ad 12), .ref (ad 13), .ref (ad 14), .ref (ad 15), .int (u.1 16), .int (u.1 17), .ref (ad 18), .ref (ad 19), .ref (ad 20), .ref (ad 21), .ref (ad 22), .ref (ad 23), .ref (ad 24), .int (u.1 25), .ref (ad 26), .ref (ad 27), .ref (ad 28), .int (u.1 29), .ref (ad 30), .ref (ad 31), .int (u.1 32), .ref (ad 33), .int (u.1 34), .ref (ad 35), .ref (ad 36), .ref (ad 37), .ref (ad 38), .ref (ad 39), .ref (ad 40), .int (u.1 41), .ref (ad 42), .ref (ad 43), .ref (ad 44)]
def mW (cI cZ cJ : ClassId) (o : Nat) (ad : Nat → Nat) (u : mS) : va_W := [(o, .inr (11, mV ad u)), (ad 3, .inl (cI, 20, .inl (u.2.1 3))), (ad 4, .inl (cI, 20, .inl (u.2.1 4))), (ad 5, .inl (cI, 100, .inl (u.2.1 5))), (ad 6, .inl (cI, 20, .inl (u.2.1 6))), (ad 7, .inl (cI, 20, .inl (u.2.1 7))), (ad 8, .inl (cI, 20, .inl (u.2.1 8))), (ad 9, .inl (cI, 20, .inl (u.2.1 9))), (ad 10, .inl (cI, 20, .inl (u.2.1 10))), (ad 11, .inl (cI, 20, .inl (u.2.1 11))), (ad 12, .inl (cI, 20, .inl (u.2.1 12))), (ad 13, .inl (cZ, 20, .inl (u.2.1 13))), (ad 14, .inl (cI, 80, .inl (u.2.1 14))), (ad 15, .inl (cI, 9000, .inl (u.2.1 15))), (ad 18, .inl (cI, 8, .inl (u.2.1 18))), (ad 19, .inl (cI, 40, .inl (u.2.1 19))), (ad 20, .inl (cI, 8, .inl (u.2.1 20))), (ad 21, .inl (cI, 8, .inl (u.2.1 21))), (ad 22, .inl (cI, 8, .inl (u.2.1 22))), (ad 23, .inl (cZ, 8, .inl (u.2.1 23))), (ad 24, .inl (cI, 5, .inl (u.2.1 24))), (ad 26, .inl (cI, 16, .inl (u.2.1 26))), (ad 27, .inl (cI, 16, .inl (u.2.1 27))), (ad 28, .inl (cI, 4, .inl (u.2.1 28))), (ad 30, .inl (cI, 60, .inl (u.2.1 30))), (ad 31, .inl (cI, 60, .inl (u.2.1 31))), (ad 33, .inl (cI, 20, .inl (u.2.1 33))), (ad 35, .inl (cI, 6, .inl (u.2.1 35))), (ad 36, .inl (cI, 8, .inl (u.2.1 36))), (ad 37, .inl (cI, 256, .inl (u.2.1 37))), (ad 38, .inl (cI, 256, .inl (u.2.1 38))), (ad 39, .inl (cI, 160, .inl (u.2.1 39))), (ad 40, .inl (cI, 10, .inl (u.2.1 40))), (ad 42, .inl (cI, 1024, .inl (u.2.1 42))), (ad 43, .inl (cZ, 1024, .inl (u.2.1 43))), (ad 44, .inl (cJ, 3721, .inr (.inl u.2.2)))]
abbrev mT (cI cZ cJ : ClassId) : List (ClassId × FieldType) := [(cI, .int), (cZ, .boolean), (cJ, .long)]
def mPre (D : va_G) (cI cZ cJ : ClassId) (o : Nat) (ad : Nat → Nat) (A : Nat → Prop) (u : mS) (U : State) : Prop := va_P D vwCl (mW cI cZ cJ o ad u) U.heap ∧ va_K D vwCl (mT cI cZ cJ) U ∧ ∀ v, va_D A (mW cI cZ cJ o ad v)
def mB (D : va_G) (cI cZ cJ : ClassId) (o : Nat) (ad : Nat → Nat) (v : mS) (t : State) : Prop := va_P D vwCl (mW cI cZ cJ o ad v) t.heap
abbrev mQi (D : va_G) (cI cZ cJ : ClassId) (o : Nat) (ad : Nat → Nat) (A : Nat → Prop) (res : Int32 × mS) : Array Value → State → Outcome → State → Prop := va_Qi (fun r v => (r, v) = res) (mB D cI cZ cJ o ad) A
abbrev mQl (D : va_G) (cI cZ cJ : ClassId) (o : Nat) (ad : Nat → Nat) (A : Nat → Prop) (res : Int64 × mS) : Array Value → State → Outcome → State → Prop := va_Ql (fun r v => (r, v) = res) (mB D cI cZ cJ o ad) A
abbrev mQv (D : va_G) (cI cZ cJ : ClassId) (o : Nat) (ad : Nat → Nat) (A : Nat → Prop) (res : mS) : Array Value → State → Outcome → State → Prop := va_Qv (fun v => v = res) (mB D cI cZ cJ o ad) A
/-- what holds inside a method of the reference -/
def mC (p : Program) (s : State) (m : MethodId) (args : Array Value) (meth : Method) (c : Code) (cc : ByteArray) (nL : Nat) (ret : Option FieldType) (D : va_G) (cI cZ cJ : ClassId) (o : Nat) (ad : Nat → Nat) (A : Nat → Prop) : Prop :=
  p.tables.exec = Jvm.exec ∧ c.code = cc ∧ c.maxLocals = nL ∧ s.vm.findClass RX10 = some m.cls ∧ (∀ w ∈ gW, w.before args s = true) ∧ va_K D vwCl (mT cI cZ cJ) s ∧ (∀ v, va_D A (mW cI cZ cJ o ad v)) ∧ meth.sig.returnType = ret ∧ meth.locks = false
theorem inX10g : ∀ w ∈ wsX100, w ∈ gW := by decide +kernel
theorem mPre_blind {D : va_G} {cI cZ cJ : ClassId} {o : Nat} {ad : Nat → Nat} {A : Nat → Prop} {u : mS} {vs : List Value} : FrameBlind (va_Pc vs (mPre D cI cZ cJ o ad A u)) :=
  fun a U g mk q => ⟨q.1, q.2.1, va_K.moved (u := U) (U := U.calling g mk a) (Vm.Alike.refl U.vm) q.2.2.1, q.2.2.2⟩
section MX
variable {p : Program} {l : Launch} {e : Env} {R : Room} {s : State} {m : MethodId} {args : Array Value} {below : List Frame} {meth : Method} {c : Code} {H : Heap} {locs : List Loc} {Q : State → Prop}
variable {cc : ByteArray} {nL pc : Nat} {ret : Option FieldType} {D : va_G} {cI cZ cJ : ClassId} {o : Nat} {ad : Nat → Nat} {A : Nat → Prop} {u : mS} {ls : Array Slot} {rest st : List Value}
theorem mx_topI {x y : Int32} (h : y = x) (k : W p l e R s m args below meth c H locs 0 0 Q (F0 m pc ls (.int y :: rest))) : W p l e R s m args below meth c H locs 0 0 Q (F0 m pc ls (.int x :: rest)) := h ▸ k
theorem mx_topJ {x y : Int64} (h : y = x) (k : W p l e R s m args below meth c H locs 0 0 Q (F0 m pc ls (.long y :: rest))) : W p l e R s m args below meth c H locs 0 0 Q (F0 m pc ls (.long x :: rest)) := h ▸ k
theorem mx_reti (C : mC p s m args meth c cc nL (some .int) D cI cZ cJ o ad A) {v : Int32} {res : Int32 × mS} (h : some (v, u) = some res) (hP : va_P D vwCl (mW cI cZ cJ o ad u) H) (hS : va_S A s.heap H locs) (hdg : decode cc pc = .ok (.ireturn, 1)) :
    W p l e R s m args below meth c H locs 0 0 (MQ below (mQi D cI cZ cJ o ad A res) args s 0 0 A) (F0 m pc ls [.int v]) := by
  obtain ⟨hx, hb, hml, hown, hts, hK, hD, hr, hlocks⟩ := C
  exact W.iret (v := v) hx hb hr (fun t ht hW => ⟨⟨v, u, rfl, Option.some.inj h, by unfold mB; rw [ht]; exact hP⟩, hS.F ht⟩) hS.2.2 hdg
theorem mx_retz (C : mC p s m args meth c cc nL (some .boolean) D cI cZ cJ o ad A) {v : Int32} (hn : v = 0 ∨ v = 1) {res : Int32 × mS} (h : some (v, u) = some res) (hP : va_P D vwCl (mW cI cZ cJ o ad u) H) (hS : va_S A s.heap H locs) (hdg : decode cc pc = .ok (.ireturn, 1)) :
    W p l e R s m args below meth c H locs 0 0 (MQ below (mQi D cI cZ cJ o ad A res) args s 0 0 A) (F0 m pc ls [.int v]) := by
  obtain ⟨hx, hb, hml, hown, hts, hK, hD, hr, hlocks⟩ := C
  exact W.zret (v := v) hx hb hr (by rcases hn with rfl | rfl <;> rfl) (fun t ht hW => ⟨⟨v, u, rfl, Option.some.inj h, by unfold mB; rw [ht]; exact hP⟩, hS.F ht⟩) hS.2.2 hdg
theorem mx_retl (C : mC p s m args meth c cc nL (some .long) D cI cZ cJ o ad A) {v : Int64} {res : Int64 × mS} (h : some (v, u) = some res) (hP : va_P D vwCl (mW cI cZ cJ o ad u) H) (hS : va_S A s.heap H locs) (hdg : decode cc pc = .ok (.lreturn, 1)) :
    W p l e R s m args below meth c H locs 0 0 (MQ below (mQl D cI cZ cJ o ad A res) args s 0 0 A) (F0 m pc ls [.long v]) := by
  obtain ⟨hx, hb, hml, hown, hts, hK, hD, hr, hlocks⟩ := C
  exact W.lret (v := v) hx hb hr (fun t ht hW => ⟨⟨v, u, rfl, Option.some.inj h, by unfold mB; rw [ht]; exact hP⟩, hS.F ht⟩) hS.2.2 hdg
theorem mx_retv (C : mC p s m args meth c cc nL none D cI cZ cJ o ad A) {res : mS} (h : some u = some res) (hP : va_P D vwCl (mW cI cZ cJ o ad u) H) (hS : va_S A s.heap H locs) (hdg : decode cc pc = .ok (.return_, 1)) :
    W p l e R s m args below meth c H locs 0 0 (MQ below (mQv D cI cZ cJ o ad A res) args s 0 0 A) (F0 m pc ls []) := by
  obtain ⟨hx, hb, hml, hown, hts, hK, hD, hr, hlocks⟩ := C
  exact W.vret hx hb hr (fun t ht hW => ⟨⟨u, rfl, Option.some.inj h, by unfold mB; rw [ht]; exact hP⟩, hS.F ht⟩) hS.2.2 hdg
theorem mx_met {y : MethodName} {rm : Room} {vs : List Value} {Qc : Array Value → State → Outcome → State → Prop} (hy : plainName y.cls = true ∧ y.cls = RX10) (hlen : (lg_sl vs).length ≤ nL)
    (body : ∀ p e s m below meth c ls, mC p s m vs.toArray meth c cc nL ret D cI cZ cJ o ad A → va_P D vwCl (mW cI cZ cJ o ad u) s.heap → lv_has ls nL (lv_args 0 vs) → W p l e rm s m vs.toArray below meth c s.heap [] 0 0 (MQ below Qc vs.toArray s 0 0 A) (F0 m 0 ls [])) :
    Met l y (Cond.code y cc nL ret :: gW) rm (va_Pc vs (mPre D cI cZ cJ o ad A u)) Qc 0 0 A := by
  refine Met.ofW (cc := cc) (maxL := nL) (ret := ret) hy.1 rfl ?_
  intro p e s m args below meth c s₁ B hml hv
  obtain ⟨rfl, hP, hK, hD⟩ := hv
  have hts := atoms_spec (ws := Cond.code y cc nL ret :: gW) B.pre
  have hown : s.vm.findClass RX10 = some m.cls := hy.2 ▸ findClass_of_methodNamed B.named
  have hl := lv_entry vs (n := nL) hlen
  rw [lg_entry_eq]
  exact body p e s m below meth c _ ⟨B.exec, B.bytes, hml, hown, fun w hw => hts w (List.mem_cons_of_mem _ hw), hK, hD, B.returns, B.notSynchronized⟩ hP hl
/-- calls of the reference's own methods -/
theorem mx_cVi (C : mC p s m args meth c cc nL ret D cI cZ cJ o ad A) (hP : va_P D vwCl (mW cI cZ cJ o ad u) H) (hS : va_S A s.heap H locs) {y : MethodName} {bytes : ByteArray} {maxL idx n : Nat} {rety : Option FieldType} {rm : Room} (As : List Value) {r : Int32} {v : mS}
    (hM : Met l y (Cond.code y bytes maxL rety :: gW) rm (va_Pc (.ref o :: As) (mPre D cI cZ cJ o ad A u)) (mQi D cI cZ cJ o ad A (r, v)) 0 0 A)
    (hw : GoodIn gW (wsV RX10 idx RX10 y (Cond.code y bytes maxL rety :: gW)) ∧ y.cls = RX10 ∧ y.cls ≠ "java/lang/invoke/MethodHandle" ∧ y.cls ≠ "java/lang/invoke/VarHandle" ∧ (parseMethodDescriptor y.desc).map (fun d => d.parameters.length) = some n)
    (hR : rm.cells = 0 ∧ rm.slots = 0 ∧ rm.frames + 1 ≤ R.frames ∧ 8 + (maxL + 11) + rm.locals ≤ R.locals) (hn : As.length = n) (hl : ls.size = nL) (hst : st = As.reverse ++ .ref o :: rest) (hrm : (rest.map fun v => v.category).sum ≤ 8) (hdg : decode cc pc = .ok (.invokevirtual idx, 3))
    (kk : ∀ H1 locs1, va_P D vwCl (mW cI cZ cJ o ad v) H1 → va_S A s.heap H1 locs1 → W p l e R s m args below meth c H1 locs1 0 0 Q (F0 m (pc + 3) ls (.int r :: rest))) : W p l e R s m args below meth c H locs 0 0 Q (F0 m pc ls st) := by
  obtain ⟨hx, hb, hml, hown, hts, hK, hD, hr, hlocks⟩ := C
  subst hst
  refine va_calli (va_runV (As := As) (rest := rest) ⟨hx, hb, hml, hown, hts⟩ hM (cwV n hts hw.1 rfl hR.1 hR.2.1 hw.2 ⟨hR.2.2.1, hR.2.2.2⟩) ⟨mPre_blind, va_recv hK hP (ci := 11) (q0 := 0) rfl rfl, fun U hU hW => ⟨rfl, by rw [hU]; exact hP, va_K.moved hW.alike hK, hD⟩⟩ rfl hn hl rfl (lv_room hrm) hdg ⟨Nat.zero_le _, Nat.zero_le _⟩) hS (fun q _ h => h) (fun q h => h) (fun r' u' t H1 locs1 ht hvm hp hB hz hk hS1 => ?_)
  obtain ⟨rfl, rfl⟩ := Prod.mk.inj hp
  exact kk H1 locs1 (by rw [← ht]; exact hB) hS1
theorem mx_cVl (C : mC p s m args meth c cc nL ret D cI cZ cJ o ad A) (hP : va_P D vwCl (mW cI cZ cJ o ad u) H) (hS : va_S A s.heap H locs) {y : MethodName} {bytes : ByteArray} {maxL idx n : Nat} {rety : Option FieldType} {rm : Room} (As : List Value) {r : Int64} {v : mS}
    (hM : Met l y (Cond.code y bytes maxL rety :: gW) rm (va_Pc (.ref o :: As) (mPre D cI cZ cJ o ad A u)) (mQl D cI cZ cJ o ad A (r, v)) 0 0 A)
    (hw : GoodIn gW (wsV RX10 idx RX10 y (Cond.code y bytes maxL rety :: gW)) ∧ y.cls = RX10 ∧ y.cls ≠ "java/lang/invoke/MethodHandle" ∧ y.cls ≠ "java/lang/invoke/VarHandle" ∧ (parseMethodDescriptor y.desc).map (fun d => d.parameters.length) = some n)
    (hR : rm.cells = 0 ∧ rm.slots = 0 ∧ rm.frames + 1 ≤ R.frames ∧ 8 + (maxL + 11) + rm.locals ≤ R.locals) (hn : As.length = n) (hl : ls.size = nL) (hst : st = As.reverse ++ .ref o :: rest) (hrm : (rest.map fun v => v.category).sum ≤ 8) (hdg : decode cc pc = .ok (.invokevirtual idx, 3))
    (kk : ∀ H1 locs1, va_P D vwCl (mW cI cZ cJ o ad v) H1 → va_S A s.heap H1 locs1 → W p l e R s m args below meth c H1 locs1 0 0 Q (F0 m (pc + 3) ls (.long r :: rest))) : W p l e R s m args below meth c H locs 0 0 Q (F0 m pc ls st) := by
  obtain ⟨hx, hb, hml, hown, hts, hK, hD, hr, hlocks⟩ := C
  subst hst
  refine va_calll (va_runV (As := As) (rest := rest) ⟨hx, hb, hml, hown, hts⟩ hM (cwV n hts hw.1 rfl hR.1 hR.2.1 hw.2 ⟨hR.2.2.1, hR.2.2.2⟩) ⟨mPre_blind, va_recv hK hP (ci := 11) (q0 := 0) rfl rfl, fun U hU hW => ⟨rfl, by rw [hU]; exact hP, va_K.moved hW.alike hK, hD⟩⟩ rfl hn hl rfl (lv_room hrm) hdg ⟨Nat.zero_le _, Nat.zero_le _⟩) hS (fun q _ h => h) (fun q h => h) (fun r' u' t H1 locs1 ht hvm hp hB hz hk hS1 => ?_)
  obtain ⟨rfl, rfl⟩ := Prod.mk.inj hp
  exact kk H1 locs1 (by rw [← ht]; exact hB) hS1
theorem mx_cVv (C : mC p s m args meth c cc nL ret D cI cZ cJ o ad A) (hP : va_P D vwCl (mW cI cZ cJ o ad u) H) (hS : va_S A s.heap H locs) {y : MethodName} {bytes : ByteArray} {maxL idx n : Nat} {rety : Option FieldType} {rm : Room} (As : List Value) {v : mS}
    (hM : Met l y (Cond.code y bytes maxL rety :: gW) rm (va_Pc (.ref o :: As) (mPre D cI cZ cJ o ad A u)) (mQv D cI cZ cJ o ad A v) 0 0 A)
    (hw : GoodIn gW (wsV RX10 idx RX10 y (Cond.code y bytes maxL rety :: gW)) ∧ y.cls = RX10 ∧ y.cls ≠ "java/lang/invoke/MethodHandle" ∧ y.cls ≠ "java/lang/invoke/VarHandle" ∧ (parseMethodDescriptor y.desc).map (fun d => d.parameters.length) = some n)
    (hR : rm.cells = 0 ∧ rm.slots = 0 ∧ rm.frames + 1 ≤ R.frames ∧ 8 + (maxL + 11) + rm.locals ≤ R.locals) (hn : As.length = n) (hl : ls.size = nL) (hst : st = As.reverse ++ .ref o :: rest) (hrm : (rest.map fun v => v.category).sum ≤ 8) (hdg : decode cc pc = .ok (.invokevirtual idx, 3))
    (kk : ∀ H1 locs1, va_P D vwCl (mW cI cZ cJ o ad v) H1 → va_S A s.heap H1 locs1 → W p l e R s m args below meth c H1 locs1 0 0 Q (F0 m (pc + 3) ls rest)) : W p l e R s m args below meth c H locs 0 0 Q (F0 m pc ls st) := by
  obtain ⟨hx, hb, hml, hown, hts, hK, hD, hr, hlocks⟩ := C
  subst hst
  refine va_callv (va_runV (As := As) (rest := rest) ⟨hx, hb, hml, hown, hts⟩ hM (cwV n hts hw.1 rfl hR.1 hR.2.1 hw.2 ⟨hR.2.2.1, hR.2.2.2⟩) ⟨mPre_blind, va_recv hK hP (ci := 11) (q0 := 0) rfl rfl, fun U hU hW => ⟨rfl, by rw [hU]; exact hP, va_K.moved hW.alike hK, hD⟩⟩ rfl hn hl rfl (lv_room hrm) hdg ⟨Nat.zero_le _, Nat.zero_le _⟩) hS (fun q _ h => h) (fun q h => h) (fun u' t H1 locs1 ht hvm hp hB hz hk hS1 => ?_)
  subst hp
  exact kk H1 locs1 (by rw [← ht]; exact hB) hS1
theorem mx_cSi (C : mC p s m args meth c cc nL ret D cI cZ cJ o ad A) (hP : va_P D vwCl (mW cI cZ cJ o ad u) H) (hS : va_S A s.heap H locs) {y : MethodName} {bytes : ByteArray} {maxL idx n : Nat} {rety : Option FieldType} {rm : Room} (As : List Value) {r : Int32} {v : mS}
    (hM : Met l y (Cond.code y bytes maxL rety :: gW) rm (va_Pc As (mPre D cI cZ cJ o ad A u)) (mQi D cI cZ cJ o ad A (r, v)) 0 0 A)
    (hw : GoodIn gW (va_wsS RX10 idx y (Cond.code y bytes maxL rety :: gW)) ∧ y.cls ≠ "java/lang/invoke/MethodHandle" ∧ y.cls ≠ "java/lang/invoke/VarHandle" ∧ (parseMethodDescriptor y.desc).map (fun d => d.parameters.length) = some n)
    (hR : rm.cells = 0 ∧ rm.slots = 0 ∧ rm.frames + 1 ≤ R.frames ∧ 8 + (maxL + 11) + rm.locals ≤ R.locals) (hn : As.length = n) (hl : ls.size = nL) (hst : st = As.reverse ++ rest) (hrm : (rest.map fun v => v.category).sum ≤ 8) (hdg : decode cc pc = .ok (.invokestatic idx, 3))
    (kk : ∀ H1 locs1, va_P D vwCl (mW cI cZ cJ o ad v) H1 → va_S A s.heap H1 locs1 → W p l e R s m args below meth c H1 locs1 0 0 Q (F0 m (pc + 3) ls (.int r :: rest))) : W p l e R s m args below meth c H locs 0 0 Q (F0 m pc ls st) := by
  obtain ⟨hx, hb, hml, hown, hts, hK, hD, hr, hlocks⟩ := C
  subst hst
  refine va_calli (va_runS (As := As) (rest := rest) ⟨hx, hb, hml, hown, hts⟩ hM (va_cwS n hts hw.1 rfl hR.1 hR.2.1 hw.2 ⟨hR.2.2.1, hR.2.2.2⟩) ⟨mPre_blind, fun U hU hW => ⟨rfl, by rw [hU]; exact hP, va_K.moved hW.alike hK, hD⟩⟩ rfl hn hl rfl (lv_room hrm) hdg ⟨Nat.zero_le _, Nat.zero_le _⟩) hS (fun q _ h => h) (fun q h => h) (fun r' u' t H1 locs1 ht hvm hp hB hz hk hS1 => ?_)
  obtain ⟨rfl, rfl⟩ := Prod.mk.inj hp
  exact kk H1 locs1 (by rw [← ht]; exact hB) hS1
theorem mg_today (C : mC p s m args meth c cc nL ret D cI cZ cJ o ad A) (hP : va_P D vwCl (mW cI cZ cJ o ad u) H) (hdg : decode cc pc = .ok (.getfield 121, 3)) (kk : W p l e R s m args below meth c H locs 0 0 Q (F0 m (pc + 3) ls (.int (u.1 0) :: rest))) : W p l e R s m args below meth c H locs 0 0 Q (F0 m pc ls (.ref o :: rest)) := by
  obtain ⟨hx, hb, hml, hown, hts, hK, hD, hr, hlocks⟩ := C
  exact va_get (D := D) (ci := 11) (C := RX10) (T := TX10) (N := 45) hx hb hts inX10g hown hK hP 0 rfl rfl 0 (by decide) (hts (.fieldLink RX10 121 "LostParcelsModel" "today" "I") (gW_mem (by decide +kernel))) (fun _ h9 => h9) rfl hdg kk
set_option maxRecDepth 20000 in
theorem mp_today (C : mC p s m args meth c cc nL ret D cI cZ cJ o ad A) (hP : va_P D vwCl (mW cI cZ cJ o ad u) H) (hS : va_S A s.heap H locs) {v : Int32} {w : mS} (hu : w = mF u 0 v) (hdg : decode cc pc = .ok (.putfield 121, 3)) (kk : ∀ H1 locs1, va_P D vwCl (mW cI cZ cJ o ad w) H1 → va_S A s.heap H1 locs1 → W p l e R s m args below meth c H1 locs1 0 0 Q (F0 m (pc + 3) ls rest)) : W p l e R s m args below meth c H locs 0 0 Q (F0 m pc ls (.int v :: .ref o :: rest)) := by
  obtain ⟨hx, hb, hml, hown, hts, hK, hD, hr, hlocks⟩ := C
  subst hu
  exact va_put (D := D) (ci := 11) (v := .int v) (ty := .int) (C := RX10) (T := TX10) (N := 45) hx hb hts inX10g tyX10 tyX10_ok nmX10 hown hK hP (hD u) hS 0 rfl rfl 0 (by decide) (hts (.fieldLink RX10 121 "LostParcelsModel" "today" "I") (gW_mem (by decide +kernel))) (fun _ h9 => h9) rfl (by decide +kernel) rfl rfl (Nat.le_of_ble_eq_true rfl) hdg (fun H1 locs1 hP1 _ hS1 => kk H1 locs1 hP1 hS1)
theorem mg_spoil (C : mC p s m args meth c cc nL ret D cI cZ cJ o ad A) (hP : va_P D vwCl (mW cI cZ cJ o ad u) H) (hdg : decode cc pc = .ok (.getfield 7, 3)) (kk : W p l e R s m args below meth c H locs 0 0 Q (F0 m (pc + 3) ls (.int (u.1 1) :: rest))) : W p l e R s m args below meth c H locs 0 0 Q (F0 m pc ls (.ref o :: rest)) := by
  obtain ⟨hx, hb, hml, hown, hts, hK, hD, hr, hlocks⟩ := C
  exact va_get (D := D) (ci := 11) (C := RX10) (T := TX10) (N := 45) hx hb hts inX10g hown hK hP 0 rfl rfl 1 (by decide) (hts (.fieldLink RX10 7 "LostParcelsModel" "spoil" "I") (gW_mem (by decide +kernel))) (fun _ h9 => h9) rfl hdg kk
set_option maxRecDepth 20000 in
theorem mp_spoil (C : mC p s m args meth c cc nL ret D cI cZ cJ o ad A) (hP : va_P D vwCl (mW cI cZ cJ o ad u) H) (hS : va_S A s.heap H locs) {v : Int32} {w : mS} (hu : w = mF u 1 v) (hdg : decode cc pc = .ok (.putfield 7, 3)) (kk : ∀ H1 locs1, va_P D vwCl (mW cI cZ cJ o ad w) H1 → va_S A s.heap H1 locs1 → W p l e R s m args below meth c H1 locs1 0 0 Q (F0 m (pc + 3) ls rest)) : W p l e R s m args below meth c H locs 0 0 Q (F0 m pc ls (.int v :: .ref o :: rest)) := by
  obtain ⟨hx, hb, hml, hown, hts, hK, hD, hr, hlocks⟩ := C
  subst hu
  exact va_put (D := D) (ci := 11) (v := .int v) (ty := .int) (C := RX10) (T := TX10) (N := 45) hx hb hts inX10g tyX10 tyX10_ok nmX10 hown hK hP (hD u) hS 0 rfl rfl 1 (by decide) (hts (.fieldLink RX10 7 "LostParcelsModel" "spoil" "I") (gW_mem (by decide +kernel))) (fun _ h9 => h9) rfl (by decide +kernel) rfl rfl (Nat.le_of_ble_eq_true rfl) hdg (fun H1 locs1 hP1 _ hS1 => kk H1 locs1 hP1 hS1)
theorem mg_things (C : mC p s m args meth c cc nL ret D cI cZ cJ o ad A) (hP : va_P D vwCl (mW cI cZ cJ o ad u) H) (hdg : decode cc pc = .ok (.getfield 125, 3)) (kk : W p l e R s m args below meth c H locs 0 0 Q (F0 m (pc + 3) ls (.int (u.1 2) :: rest))) : W p l e R s m args below meth c H locs 0 0 Q (F0 m pc ls (.ref o :: rest)) := by
  obtain ⟨hx, hb, hml, hown, hts, hK, hD, hr, hlocks⟩ := C
  exact va_get (D := D) (ci := 11) (C := RX10) (T := TX10) (N := 45) hx hb hts inX10g hown hK hP 0 rfl rfl 2 (by decide) (hts (.fieldLink RX10 125 "LostParcelsModel" "things" "I") (gW_mem (by decide +kernel))) (fun _ h9 => h9) rfl hdg kk
set_option maxRecDepth 20000 in
theorem mp_things (C : mC p s m args meth c cc nL ret D cI cZ cJ o ad A) (hP : va_P D vwCl (mW cI cZ cJ o ad u) H) (hS : va_S A s.heap H locs) {v : Int32} {w : mS} (hu : w = mF u 2 v) (hdg : decode cc pc = .ok (.putfield 125, 3)) (kk : ∀ H1 locs1, va_P D vwCl (mW cI cZ cJ o ad w) H1 → va_S A s.heap H1 locs1 → W p l e R s m args below meth c H1 locs1 0 0 Q (F0 m (pc + 3) ls rest)) : W p l e R s m args below meth c H locs 0 0 Q (F0 m pc ls (.int v :: .ref o :: rest)) := by
  obtain ⟨hx, hb, hml, hown, hts, hK, hD, hr, hlocks⟩ := C
  subst hu
  exact va_put (D := D) (ci := 11) (v := .int v) (ty := .int) (C := RX10) (T := TX10) (N := 45) hx hb hts inX10g tyX10 tyX10_ok nmX10 hown hK hP (hD u) hS 0 rfl rfl 2 (by decide) (hts (.fieldLink RX10 125 "LostParcelsModel" "things" "I") (gW_mem (by decide +kernel))) (fun _ h9 => h9) rfl (by decide +kernel) rfl rfl (Nat.le_of_ble_eq_true rfl) hdg (fun H1 locs1 hP1 _ hS1 => kk H1 locs1 hP1 hS1)
theorem mg_kind (C : mC p s m args meth c cc nL ret D cI cZ cJ o ad A) (hP : va_P D vwCl (mW cI cZ cJ o ad u) H) (hdg : decode cc pc = .ok (.getfield 13, 3)) (kk : W p l e R s m args below meth c H locs 0 0 Q (F0 m (pc + 3) ls (.ref (ad 3) :: rest))) : W p l e R s m args below meth c H locs 0 0 Q (F0 m pc ls (.ref o :: rest)) := by
  obtain ⟨hx, hb, hml, hown, hts, hK, hD, hr, hlocks⟩ := C
  exact va_get (D := D) (ci := 11) (C := RX10) (T := TX10) (N := 45) hx hb hts inX10g hown hK hP 0 rfl rfl 3 (by decide) (hts (.fieldLink RX10 13 "LostParcelsModel" "kind" "[I") (gW_mem (by decide +kernel))) (fun _ h9 => h9) rfl hdg kk
theorem mg_foundOn (C : mC p s m args meth c cc nL ret D cI cZ cJ o ad A) (hP : va_P D vwCl (mW cI cZ cJ o ad u) H) (hdg : decode cc pc = .ok (.getfield 17, 3)) (kk : W p l e R s m args below meth c H locs 0 0 Q (F0 m (pc + 3) ls (.ref (ad 4) :: rest))) : W p l e R s m args below meth c H locs 0 0 Q (F0 m pc ls (.ref o :: rest)) := by
  obtain ⟨hx, hb, hml, hown, hts, hK, hD, hr, hlocks⟩ := C
  exact va_get (D := D) (ci := 11) (C := RX10) (T := TX10) (N := 45) hx hb hts inX10g hown hK hP 0 rfl rfl 4 (by decide) (hts (.fieldLink RX10 17 "LostParcelsModel" "foundOn" "[I") (gW_mem (by decide +kernel))) (fun _ h9 => h9) rfl hdg kk
theorem mg_trait (C : mC p s m args meth c cc nL ret D cI cZ cJ o ad A) (hP : va_P D vwCl (mW cI cZ cJ o ad u) H) (hdg : decode cc pc = .ok (.getfield 20, 3)) (kk : W p l e R s m args below meth c H locs 0 0 Q (F0 m (pc + 3) ls (.ref (ad 5) :: rest))) : W p l e R s m args below meth c H locs 0 0 Q (F0 m pc ls (.ref o :: rest)) := by
  obtain ⟨hx, hb, hml, hown, hts, hK, hD, hr, hlocks⟩ := C
  exact va_get (D := D) (ci := 11) (C := RX10) (T := TX10) (N := 45) hx hb hts inX10g hown hK hP 0 rfl rfl 5 (by decide) (hts (.fieldLink RX10 20 "LostParcelsModel" "trait" "[I") (gW_mem (by decide +kernel))) (fun _ h9 => h9) rfl hdg kk
theorem mg_weight (C : mC p s m args meth c cc nL ret D cI cZ cJ o ad A) (hP : va_P D vwCl (mW cI cZ cJ o ad u) H) (hdg : decode cc pc = .ok (.getfield 23, 3)) (kk : W p l e R s m args below meth c H locs 0 0 Q (F0 m (pc + 3) ls (.ref (ad 6) :: rest))) : W p l e R s m args below meth c H locs 0 0 Q (F0 m pc ls (.ref o :: rest)) := by
  obtain ⟨hx, hb, hml, hown, hts, hK, hD, hr, hlocks⟩ := C
  exact va_get (D := D) (ci := 11) (C := RX10) (T := TX10) (N := 45) hx hb hts inX10g hown hK hP 0 rfl rfl 6 (by decide) (hts (.fieldLink RX10 23 "LostParcelsModel" "weight" "[I") (gW_mem (by decide +kernel))) (fun _ h9 => h9) rfl hdg kk
theorem mg_worth (C : mC p s m args meth c cc nL ret D cI cZ cJ o ad A) (hP : va_P D vwCl (mW cI cZ cJ o ad u) H) (hdg : decode cc pc = .ok (.getfield 26, 3)) (kk : W p l e R s m args below meth c H locs 0 0 Q (F0 m (pc + 3) ls (.ref (ad 7) :: rest))) : W p l e R s m args below meth c H locs 0 0 Q (F0 m pc ls (.ref o :: rest)) := by
  obtain ⟨hx, hb, hml, hown, hts, hK, hD, hr, hlocks⟩ := C
  exact va_get (D := D) (ci := 11) (C := RX10) (T := TX10) (N := 45) hx hb hts inX10g hown hK hP 0 rfl rfl 7 (by decide) (hts (.fieldLink RX10 26 "LostParcelsModel" "worth" "[I") (gW_mem (by decide +kernel))) (fun _ h9 => h9) rfl hdg kk
theorem mg_secret (C : mC p s m args meth c cc nL ret D cI cZ cJ o ad A) (hP : va_P D vwCl (mW cI cZ cJ o ad u) H) (hdg : decode cc pc = .ok (.getfield 29, 3)) (kk : W p l e R s m args below meth c H locs 0 0 Q (F0 m (pc + 3) ls (.ref (ad 8) :: rest))) : W p l e R s m args below meth c H locs 0 0 Q (F0 m pc ls (.ref o :: rest)) := by
  obtain ⟨hx, hb, hml, hown, hts, hK, hD, hr, hlocks⟩ := C
  exact va_get (D := D) (ci := 11) (C := RX10) (T := TX10) (N := 45) hx hb hts inX10g hown hK hP 0 rfl rfl 8 (by decide) (hts (.fieldLink RX10 29 "LostParcelsModel" "secret" "[I") (gW_mem (by decide +kernel))) (fun _ h9 => h9) rfl hdg kk
theorem mg_is (C : mC p s m args meth c cc nL ret D cI cZ cJ o ad A) (hP : va_P D vwCl (mW cI cZ cJ o ad u) H) (hdg : decode cc pc = .ok (.getfield 32, 3)) (kk : W p l e R s m args below meth c H locs 0 0 Q (F0 m (pc + 3) ls (.ref (ad 9) :: rest))) : W p l e R s m args below meth c H locs 0 0 Q (F0 m pc ls (.ref o :: rest)) := by
  obtain ⟨hx, hb, hml, hown, hts, hK, hD, hr, hlocks⟩ := C
  exact va_get (D := D) (ci := 11) (C := RX10) (T := TX10) (N := 45) hx hb hts inX10g hown hK hP 0 rfl rfl 9 (by decide) (hts (.fieldLink RX10 32 "LostParcelsModel" "is" "[I") (gW_mem (by decide +kernel))) (fun _ h9 => h9) rfl hdg kk
theorem mg_hasIt (C : mC p s m args meth c cc nL ret D cI cZ cJ o ad A) (hP : va_P D vwCl (mW cI cZ cJ o ad u) H) (hdg : decode cc pc = .ok (.getfield 35, 3)) (kk : W p l e R s m args below meth c H locs 0 0 Q (F0 m (pc + 3) ls (.ref (ad 10) :: rest))) : W p l e R s m args below meth c H locs 0 0 Q (F0 m pc ls (.ref o :: rest)) := by
  obtain ⟨hx, hb, hml, hown, hts, hK, hD, hr, hlocks⟩ := C
  exact va_get (D := D) (ci := 11) (C := RX10) (T := TX10) (N := 45) hx hb hts inX10g hown hK hP 0 rfl rfl 10 (by decide) (hts (.fieldLink RX10 35 "LostParcelsModel" "hasIt" "[I") (gW_mem (by decide +kernel))) (fun _ h9 => h9) rfl hdg kk
theorem mg_since (C : mC p s m args meth c cc nL ret D cI cZ cJ o ad A) (hP : va_P D vwCl (mW cI cZ cJ o ad u) H) (hdg : decode cc pc = .ok (.getfield 38, 3)) (kk : W p l e R s m args below meth c H locs 0 0 Q (F0 m (pc + 3) ls (.ref (ad 11) :: rest))) : W p l e R s m args below meth c H locs 0 0 Q (F0 m pc ls (.ref o :: rest)) := by
  obtain ⟨hx, hb, hml, hown, hts, hK, hD, hr, hlocks⟩ := C
  exact va_get (D := D) (ci := 11) (C := RX10) (T := TX10) (N := 45) hx hb hts inX10g hown hK hP 0 rfl rfl 11 (by decide) (hts (.fieldLink RX10 38 "LostParcelsModel" "since" "[I") (gW_mem (by decide +kernel))) (fun _ h9 => h9) rfl hdg kk
theorem mg_shareOf (C : mC p s m args meth c cc nL ret D cI cZ cJ o ad A) (hP : va_P D vwCl (mW cI cZ cJ o ad u) H) (hdg : decode cc pc = .ok (.getfield 41, 3)) (kk : W p l e R s m args below meth c H locs 0 0 Q (F0 m (pc + 3) ls (.ref (ad 12) :: rest))) : W p l e R s m args below meth c H locs 0 0 Q (F0 m pc ls (.ref o :: rest)) := by
  obtain ⟨hx, hb, hml, hown, hts, hK, hD, hr, hlocks⟩ := C
  exact va_get (D := D) (ci := 11) (C := RX10) (T := TX10) (N := 45) hx hb hts inX10g hown hK hP 0 rfl rfl 12 (by decide) (hts (.fieldLink RX10 41 "LostParcelsModel" "shareOf" "[I") (gW_mem (by decide +kernel))) (fun _ h9 => h9) rfl hdg kk
theorem mg_isPaid (C : mC p s m args meth c cc nL ret D cI cZ cJ o ad A) (hP : va_P D vwCl (mW cI cZ cJ o ad u) H) (hdg : decode cc pc = .ok (.getfield 44, 3)) (kk : W p l e R s m args below meth c H locs 0 0 Q (F0 m (pc + 3) ls (.ref (ad 13) :: rest))) : W p l e R s m args below meth c H locs 0 0 Q (F0 m pc ls (.ref o :: rest)) := by
  obtain ⟨hx, hb, hml, hown, hts, hK, hD, hr, hlocks⟩ := C
  exact va_get (D := D) (ci := 11) (C := RX10) (T := TX10) (N := 45) hx hb hts inX10g hown hK hP 0 rfl rfl 13 (by decide) (hts (.fieldLink RX10 44 "LostParcelsModel" "isPaid" "[Z") (gW_mem (by decide +kernel))) (fun _ h9 => h9) rfl hdg kk
theorem mg_counts (C : mC p s m args meth c cc nL ret D cI cZ cJ o ad A) (hP : va_P D vwCl (mW cI cZ cJ o ad u) H) (hdg : decode cc pc = .ok (.getfield 48, 3)) (kk : W p l e R s m args below meth c H locs 0 0 Q (F0 m (pc + 3) ls (.ref (ad 14) :: rest))) : W p l e R s m args below meth c H locs 0 0 Q (F0 m pc ls (.ref o :: rest)) := by
  obtain ⟨hx, hb, hml, hown, hts, hK, hD, hr, hlocks⟩ := C
  exact va_get (D := D) (ci := 11) (C := RX10) (T := TX10) (N := 45) hx hb hts inX10g hown hK hP 0 rfl rfl 14 (by decide) (hts (.fieldLink RX10 48 "LostParcelsModel" "counts" "[I") (gW_mem (by decide +kernel))) (fun _ h9 => h9) rfl hdg kk
theorem mg_events (C : mC p s m args meth c cc nL ret D cI cZ cJ o ad A) (hP : va_P D vwCl (mW cI cZ cJ o ad u) H) (hdg : decode cc pc = .ok (.getfield 51, 3)) (kk : W p l e R s m args below meth c H locs 0 0 Q (F0 m (pc + 3) ls (.ref (ad 15) :: rest))) : W p l e R s m args below meth c H locs 0 0 Q (F0 m pc ls (.ref o :: rest)) := by
  obtain ⟨hx, hb, hml, hown, hts, hK, hD, hr, hlocks⟩ := C
  exact va_get (D := D) (ci := 11) (C := RX10) (T := TX10) (N := 45) hx hb hts inX10g hown hK hP 0 rfl rfl 15 (by decide) (hts (.fieldLink RX10 51 "LostParcelsModel" "events" "[I") (gW_mem (by decide +kernel))) (fun _ h9 => h9) rfl hdg kk
theorem mg_eventMany (C : mC p s m args meth c cc nL ret D cI cZ cJ o ad A) (hP : va_P D vwCl (mW cI cZ cJ o ad u) H) (hdg : decode cc pc = .ok (.getfield 135, 3)) (kk : W p l e R s m args below meth c H locs 0 0 Q (F0 m (pc + 3) ls (.int (u.1 16) :: rest))) : W p l e R s m args below meth c H locs 0 0 Q (F0 m pc ls (.ref o :: rest)) := by
  obtain ⟨hx, hb, hml, hown, hts, hK, hD, hr, hlocks⟩ := C
  exact va_get (D := D) (ci := 11) (C := RX10) (T := TX10) (N := 45) hx hb hts inX10g hown hK hP 0 rfl rfl 16 (by decide) (hts (.fieldLink RX10 135 "LostParcelsModel" "eventMany" "I") (gW_mem (by decide +kernel))) (fun _ h9 => h9) rfl hdg kk
set_option maxRecDepth 20000 in
theorem mp_eventMany (C : mC p s m args meth c cc nL ret D cI cZ cJ o ad A) (hP : va_P D vwCl (mW cI cZ cJ o ad u) H) (hS : va_S A s.heap H locs) {v : Int32} {w : mS} (hu : w = mF u 16 v) (hdg : decode cc pc = .ok (.putfield 135, 3)) (kk : ∀ H1 locs1, va_P D vwCl (mW cI cZ cJ o ad w) H1 → va_S A s.heap H1 locs1 → W p l e R s m args below meth c H1 locs1 0 0 Q (F0 m (pc + 3) ls rest)) : W p l e R s m args below meth c H locs 0 0 Q (F0 m pc ls (.int v :: .ref o :: rest)) := by
  obtain ⟨hx, hb, hml, hown, hts, hK, hD, hr, hlocks⟩ := C
  subst hu
  exact va_put (D := D) (ci := 11) (v := .int v) (ty := .int) (C := RX10) (T := TX10) (N := 45) hx hb hts inX10g tyX10 tyX10_ok nmX10 hown hK hP (hD u) hS 0 rfl rfl 16 (by decide) (hts (.fieldLink RX10 135 "LostParcelsModel" "eventMany" "I") (gW_mem (by decide +kernel))) (fun _ h9 => h9) rfl (by decide +kernel) rfl rfl (Nat.le_of_ble_eq_true rfl) hdg (fun H1 locs1 hP1 _ hS1 => kk H1 locs1 hP1 hS1)
theorem mg_seekers (C : mC p s m args meth c cc nL ret D cI cZ cJ o ad A) (hP : va_P D vwCl (mW cI cZ cJ o ad u) H) (hdg : decode cc pc = .ok (.getfield 128, 3)) (kk : W p l e R s m args below meth c H locs 0 0 Q (F0 m (pc + 3) ls (.int (u.1 17) :: rest))) : W p l e R s m args below meth c H locs 0 0 Q (F0 m pc ls (.ref o :: rest)) := by
  obtain ⟨hx, hb, hml, hown, hts, hK, hD, hr, hlocks⟩ := C
  exact va_get (D := D) (ci := 11) (C := RX10) (T := TX10) (N := 45) hx hb hts inX10g hown hK hP 0 rfl rfl 17 (by decide) (hts (.fieldLink RX10 128 "LostParcelsModel" "seekers" "I") (gW_mem (by decide +kernel))) (fun _ h9 => h9) rfl hdg kk
set_option maxRecDepth 20000 in
theorem mp_seekers (C : mC p s m args meth c cc nL ret D cI cZ cJ o ad A) (hP : va_P D vwCl (mW cI cZ cJ o ad u) H) (hS : va_S A s.heap H locs) {v : Int32} {w : mS} (hu : w = mF u 17 v) (hdg : decode cc pc = .ok (.putfield 128, 3)) (kk : ∀ H1 locs1, va_P D vwCl (mW cI cZ cJ o ad w) H1 → va_S A s.heap H1 locs1 → W p l e R s m args below meth c H1 locs1 0 0 Q (F0 m (pc + 3) ls rest)) : W p l e R s m args below meth c H locs 0 0 Q (F0 m pc ls (.int v :: .ref o :: rest)) := by
  obtain ⟨hx, hb, hml, hown, hts, hK, hD, hr, hlocks⟩ := C
  subst hu
  exact va_put (D := D) (ci := 11) (v := .int v) (ty := .int) (C := RX10) (T := TX10) (N := 45) hx hb hts inX10g tyX10 tyX10_ok nmX10 hown hK hP (hD u) hS 0 rfl rfl 17 (by decide) (hts (.fieldLink RX10 128 "LostParcelsModel" "seekers" "I") (gW_mem (by decide +kernel))) (fun _ h9 => h9) rfl (by decide +kernel) rfl rfl (Nat.le_of_ble_eq_true rfl) hdg (fun H1 locs1 hP1 _ hS1 => kk H1 locs1 hP1 hS1)
theorem mg_lostOn (C : mC p s m args meth c cc nL ret D cI cZ cJ o ad A) (hP : va_P D vwCl (mW cI cZ cJ o ad u) H) (hdg : decode cc pc = .ok (.getfield 54, 3)) (kk : W p l e R s m args below meth c H locs 0 0 Q (F0 m (pc + 3) ls (.ref (ad 18) :: rest))) : W p l e R s m args below meth c H locs 0 0 Q (F0 m pc ls (.ref o :: rest)) := by
  obtain ⟨hx, hb, hml, hown, hts, hK, hD, hr, hlocks⟩ := C
  exact va_get (D := D) (ci := 11) (C := RX10) (T := TX10) (N := 45) hx hb hts inX10g hown hK hP 0 rfl rfl 18 (by decide) (hts (.fieldLink RX10 54 "LostParcelsModel" "lostOn" "[I") (gW_mem (by decide +kernel))) (fun _ h9 => h9) rfl hdg kk
theorem mg_word (C : mC p s m args meth c cc nL ret D cI cZ cJ o ad A) (hP : va_P D vwCl (mW cI cZ cJ o ad u) H) (hdg : decode cc pc = .ok (.getfield 57, 3)) (kk : W p l e R s m args below meth c H locs 0 0 Q (F0 m (pc + 3) ls (.ref (ad 19) :: rest))) : W p l e R s m args below meth c H locs 0 0 Q (F0 m pc ls (.ref o :: rest)) := by
  obtain ⟨hx, hb, hml, hown, hts, hK, hD, hr, hlocks⟩ := C
  exact va_get (D := D) (ci := 11) (C := RX10) (T := TX10) (N := 45) hx hb hts inX10g hown hK hP 0 rfl rfl 19 (by decide) (hts (.fieldLink RX10 57 "LostParcelsModel" "word" "[I") (gW_mem (by decide +kernel))) (fun _ h9 => h9) rfl hdg kk
theorem mg_spanLow (C : mC p s m args meth c cc nL ret D cI cZ cJ o ad A) (hP : va_P D vwCl (mW cI cZ cJ o ad u) H) (hdg : decode cc pc = .ok (.getfield 60, 3)) (kk : W p l e R s m args below meth c H locs 0 0 Q (F0 m (pc + 3) ls (.ref (ad 20) :: rest))) : W p l e R s m args below meth c H locs 0 0 Q (F0 m pc ls (.ref o :: rest)) := by
  obtain ⟨hx, hb, hml, hown, hts, hK, hD, hr, hlocks⟩ := C
  exact va_get (D := D) (ci := 11) (C := RX10) (T := TX10) (N := 45) hx hb hts inX10g hown hK hP 0 rfl rfl 20 (by decide) (hts (.fieldLink RX10 60 "LostParcelsModel" "spanLow" "[I") (gW_mem (by decide +kernel))) (fun _ h9 => h9) rfl hdg kk
theorem mg_spanHigh (C : mC p s m args meth c cc nL ret D cI cZ cJ o ad A) (hP : va_P D vwCl (mW cI cZ cJ o ad u) H) (hdg : decode cc pc = .ok (.getfield 63, 3)) (kk : W p l e R s m args below meth c H locs 0 0 Q (F0 m (pc + 3) ls (.ref (ad 21) :: rest))) : W p l e R s m args below meth c H locs 0 0 Q (F0 m pc ls (.ref o :: rest)) := by
  obtain ⟨hx, hb, hml, hown, hts, hK, hD, hr, hlocks⟩ := C
  exact va_get (D := D) (ci := 11) (C := RX10) (T := TX10) (N := 45) hx hb hts inX10g hown hK hP 0 rfl rfl 21 (by decide) (hts (.fieldLink RX10 63 "LostParcelsModel" "spanHigh" "[I") (gW_mem (by decide +kernel))) (fun _ h9 => h9) rfl hdg kk
theorem mg_falseMany (C : mC p s m args meth c cc nL ret D cI cZ cJ o ad A) (hP : va_P D vwCl (mW cI cZ cJ o ad u) H) (hdg : decode cc pc = .ok (.getfield 66, 3)) (kk : W p l e R s m args below meth c H locs 0 0 Q (F0 m (pc + 3) ls (.ref (ad 22) :: rest))) : W p l e R s m args below meth c H locs 0 0 Q (F0 m pc ls (.ref o :: rest)) := by
  obtain ⟨hx, hb, hml, hown, hts, hK, hD, hr, hlocks⟩ := C
  exact va_get (D := D) (ci := 11) (C := RX10) (T := TX10) (N := 45) hx hb hts inX10g hown hK hP 0 rfl rfl 22 (by decide) (hts (.fieldLink RX10 66 "LostParcelsModel" "falseMany" "[I") (gW_mem (by decide +kernel))) (fun _ h9 => h9) rfl hdg kk
theorem mg_isBarred (C : mC p s m args meth c cc nL ret D cI cZ cJ o ad A) (hP : va_P D vwCl (mW cI cZ cJ o ad u) H) (hdg : decode cc pc = .ok (.getfield 69, 3)) (kk : W p l e R s m args below meth c H locs 0 0 Q (F0 m (pc + 3) ls (.ref (ad 23) :: rest))) : W p l e R s m args below meth c H locs 0 0 Q (F0 m pc ls (.ref o :: rest)) := by
  obtain ⟨hx, hb, hml, hown, hts, hK, hD, hr, hlocks⟩ := C
  exact va_get (D := D) (ci := 11) (C := RX10) (T := TX10) (N := 45) hx hb hts inX10g hown hK hP 0 rfl rfl 23 (by decide) (hts (.fieldLink RX10 69 "LostParcelsModel" "isBarred" "[Z") (gW_mem (by decide +kernel))) (fun _ h9 => h9) rfl hdg kk
theorem mg_points (C : mC p s m args meth c cc nL ret D cI cZ cJ o ad A) (hP : va_P D vwCl (mW cI cZ cJ o ad u) H) (hdg : decode cc pc = .ok (.getfield 72, 3)) (kk : W p l e R s m args below meth c H locs 0 0 Q (F0 m (pc + 3) ls (.ref (ad 24) :: rest))) : W p l e R s m args below meth c H locs 0 0 Q (F0 m pc ls (.ref o :: rest)) := by
  obtain ⟨hx, hb, hml, hown, hts, hK, hD, hr, hlocks⟩ := C
  exact va_get (D := D) (ci := 11) (C := RX10) (T := TX10) (N := 45) hx hb hts inX10g hown hK hP 0 rfl rfl 24 (by decide) (hts (.fieldLink RX10 72 "LostParcelsModel" "points" "[I") (gW_mem (by decide +kernel))) (fun _ h9 => h9) rfl hdg kk
theorem mg_addresses (C : mC p s m args meth c cc nL ret D cI cZ cJ o ad A) (hP : va_P D vwCl (mW cI cZ cJ o ad u) H) (hdg : decode cc pc = .ok (.getfield 181, 3)) (kk : W p l e R s m args below meth c H locs 0 0 Q (F0 m (pc + 3) ls (.int (u.1 25) :: rest))) : W p l e R s m args below meth c H locs 0 0 Q (F0 m pc ls (.ref o :: rest)) := by
  obtain ⟨hx, hb, hml, hown, hts, hK, hD, hr, hlocks⟩ := C
  exact va_get (D := D) (ci := 11) (C := RX10) (T := TX10) (N := 45) hx hb hts inX10g hown hK hP 0 rfl rfl 25 (by decide) (hts (.fieldLink RX10 181 "LostParcelsModel" "addresses" "I") (gW_mem (by decide +kernel))) (fun _ h9 => h9) rfl hdg kk
set_option maxRecDepth 20000 in
theorem mp_addresses (C : mC p s m args meth c cc nL ret D cI cZ cJ o ad A) (hP : va_P D vwCl (mW cI cZ cJ o ad u) H) (hS : va_S A s.heap H locs) {v : Int32} {w : mS} (hu : w = mF u 25 v) (hdg : decode cc pc = .ok (.putfield 181, 3)) (kk : ∀ H1 locs1, va_P D vwCl (mW cI cZ cJ o ad w) H1 → va_S A s.heap H1 locs1 → W p l e R s m args below meth c H1 locs1 0 0 Q (F0 m (pc + 3) ls rest)) : W p l e R s m args below meth c H locs 0 0 Q (F0 m pc ls (.int v :: .ref o :: rest)) := by
  obtain ⟨hx, hb, hml, hown, hts, hK, hD, hr, hlocks⟩ := C
  subst hu
  exact va_put (D := D) (ci := 11) (v := .int v) (ty := .int) (C := RX10) (T := TX10) (N := 45) hx hb hts inX10g tyX10 tyX10_ok nmX10 hown hK hP (hD u) hS 0 rfl rfl 25 (by decide) (hts (.fieldLink RX10 181 "LostParcelsModel" "addresses" "I") (gW_mem (by decide +kernel))) (fun _ h9 => h9) rfl (by decide +kernel) rfl rfl (Nat.le_of_ble_eq_true rfl) hdg (fun H1 locs1 hP1 _ hS1 => kk H1 locs1 hP1 hS1)
theorem mg_letters (C : mC p s m args meth c cc nL ret D cI cZ cJ o ad A) (hP : va_P D vwCl (mW cI cZ cJ o ad u) H) (hdg : decode cc pc = .ok (.getfield 75, 3)) (kk : W p l e R s m args below meth c H locs 0 0 Q (F0 m (pc + 3) ls (.ref (ad 26) :: rest))) : W p l e R s m args below meth c H locs 0 0 Q (F0 m pc ls (.ref o :: rest)) := by
  obtain ⟨hx, hb, hml, hown, hts, hK, hD, hr, hlocks⟩ := C
  exact va_get (D := D) (ci := 11) (C := RX10) (T := TX10) (N := 45) hx hb hts inX10g hown hK hP 0 rfl rfl 26 (by decide) (hts (.fieldLink RX10 75 "LostParcelsModel" "letters" "[I") (gW_mem (by decide +kernel))) (fun _ h9 => h9) rfl hdg kk
theorem mg_post (C : mC p s m args meth c cc nL ret D cI cZ cJ o ad A) (hP : va_P D vwCl (mW cI cZ cJ o ad u) H) (hdg : decode cc pc = .ok (.getfield 78, 3)) (kk : W p l e R s m args below meth c H locs 0 0 Q (F0 m (pc + 3) ls (.ref (ad 27) :: rest))) : W p l e R s m args below meth c H locs 0 0 Q (F0 m pc ls (.ref o :: rest)) := by
  obtain ⟨hx, hb, hml, hown, hts, hK, hD, hr, hlocks⟩ := C
  exact va_get (D := D) (ci := 11) (C := RX10) (T := TX10) (N := 45) hx hb hts inX10g hown hK hP 0 rfl rfl 27 (by decide) (hts (.fieldLink RX10 78 "LostParcelsModel" "post" "[I") (gW_mem (by decide +kernel))) (fun _ h9 => h9) rfl hdg kk
theorem mg_months (C : mC p s m args meth c cc nL ret D cI cZ cJ o ad A) (hP : va_P D vwCl (mW cI cZ cJ o ad u) H) (hdg : decode cc pc = .ok (.getfield 81, 3)) (kk : W p l e R s m args below meth c H locs 0 0 Q (F0 m (pc + 3) ls (.ref (ad 28) :: rest))) : W p l e R s m args below meth c H locs 0 0 Q (F0 m pc ls (.ref o :: rest)) := by
  obtain ⟨hx, hb, hml, hown, hts, hK, hD, hr, hlocks⟩ := C
  exact va_get (D := D) (ci := 11) (C := RX10) (T := TX10) (N := 45) hx hb hts inX10g hown hK hP 0 rfl rfl 28 (by decide) (hts (.fieldLink RX10 81 "LostParcelsModel" "months" "[I") (gW_mem (by decide +kernel))) (fun _ h9 => h9) rfl hdg kk
theorem mg_records (C : mC p s m args meth c cc nL ret D cI cZ cJ o ad A) (hP : va_P D vwCl (mW cI cZ cJ o ad u) H) (hdg : decode cc pc = .ok (.getfield 227, 3)) (kk : W p l e R s m args below meth c H locs 0 0 Q (F0 m (pc + 3) ls (.int (u.1 29) :: rest))) : W p l e R s m args below meth c H locs 0 0 Q (F0 m pc ls (.ref o :: rest)) := by
  obtain ⟨hx, hb, hml, hown, hts, hK, hD, hr, hlocks⟩ := C
  exact va_get (D := D) (ci := 11) (C := RX10) (T := TX10) (N := 45) hx hb hts inX10g hown hK hP 0 rfl rfl 29 (by decide) (hts (.fieldLink RX10 227 "LostParcelsModel" "records" "I") (gW_mem (by decide +kernel))) (fun _ h9 => h9) rfl hdg kk
set_option maxRecDepth 20000 in
theorem mp_records (C : mC p s m args meth c cc nL ret D cI cZ cJ o ad A) (hP : va_P D vwCl (mW cI cZ cJ o ad u) H) (hS : va_S A s.heap H locs) {v : Int32} {w : mS} (hu : w = mF u 29 v) (hdg : decode cc pc = .ok (.putfield 227, 3)) (kk : ∀ H1 locs1, va_P D vwCl (mW cI cZ cJ o ad w) H1 → va_S A s.heap H1 locs1 → W p l e R s m args below meth c H1 locs1 0 0 Q (F0 m (pc + 3) ls rest)) : W p l e R s m args below meth c H locs 0 0 Q (F0 m pc ls (.int v :: .ref o :: rest)) := by
  obtain ⟨hx, hb, hml, hown, hts, hK, hD, hr, hlocks⟩ := C
  subst hu
  exact va_put (D := D) (ci := 11) (v := .int v) (ty := .int) (C := RX10) (T := TX10) (N := 45) hx hb hts inX10g tyX10 tyX10_ok nmX10 hown hK hP (hD u) hS 0 rfl rfl 29 (by decide) (hts (.fieldLink RX10 227 "LostParcelsModel" "records" "I") (gW_mem (by decide +kernel))) (fun _ h9 => h9) rfl (by decide +kernel) rfl rfl (Nat.le_of_ble_eq_true rfl) hdg (fun H1 locs1 hP1 _ hS1 => kk H1 locs1 hP1 hS1)
theorem mg_machine (C : mC p s m args meth c cc nL ret D cI cZ cJ o ad A) (hP : va_P D vwCl (mW cI cZ cJ o ad u) H) (hdg : decode cc pc = .ok (.getfield 84, 3)) (kk : W p l e R s m args below meth c H locs 0 0 Q (F0 m (pc + 3) ls (.ref (ad 30) :: rest))) : W p l e R s m args below meth c H locs 0 0 Q (F0 m pc ls (.ref o :: rest)) := by
  obtain ⟨hx, hb, hml, hown, hts, hK, hD, hr, hlocks⟩ := C
  exact va_get (D := D) (ci := 11) (C := RX10) (T := TX10) (N := 45) hx hb hts inX10g hown hK hP 0 rfl rfl 30 (by decide) (hts (.fieldLink RX10 84 "LostParcelsModel" "machine" "[I") (gW_mem (by decide +kernel))) (fun _ h9 => h9) rfl hdg kk
theorem mg_torn (C : mC p s m args meth c cc nL ret D cI cZ cJ o ad A) (hP : va_P D vwCl (mW cI cZ cJ o ad u) H) (hdg : decode cc pc = .ok (.getfield 87, 3)) (kk : W p l e R s m args below meth c H locs 0 0 Q (F0 m (pc + 3) ls (.ref (ad 31) :: rest))) : W p l e R s m args below meth c H locs 0 0 Q (F0 m pc ls (.ref o :: rest)) := by
  obtain ⟨hx, hb, hml, hown, hts, hK, hD, hr, hlocks⟩ := C
  exact va_get (D := D) (ci := 11) (C := RX10) (T := TX10) (N := 45) hx hb hts inX10g hown hK hP 0 rfl rfl 31 (by decide) (hts (.fieldLink RX10 87 "LostParcelsModel" "torn" "[I") (gW_mem (by decide +kernel))) (fun _ h9 => h9) rfl hdg kk
theorem mg_waits (C : mC p s m args meth c cc nL ret D cI cZ cJ o ad A) (hP : va_P D vwCl (mW cI cZ cJ o ad u) H) (hdg : decode cc pc = .ok (.getfield 238, 3)) (kk : W p l e R s m args below meth c H locs 0 0 Q (F0 m (pc + 3) ls (.int (u.1 32) :: rest))) : W p l e R s m args below meth c H locs 0 0 Q (F0 m pc ls (.ref o :: rest)) := by
  obtain ⟨hx, hb, hml, hown, hts, hK, hD, hr, hlocks⟩ := C
  exact va_get (D := D) (ci := 11) (C := RX10) (T := TX10) (N := 45) hx hb hts inX10g hown hK hP 0 rfl rfl 32 (by decide) (hts (.fieldLink RX10 238 "LostParcelsModel" "waits" "I") (gW_mem (by decide +kernel))) (fun _ h9 => h9) rfl hdg kk
set_option maxRecDepth 20000 in
theorem mp_waits (C : mC p s m args meth c cc nL ret D cI cZ cJ o ad A) (hP : va_P D vwCl (mW cI cZ cJ o ad u) H) (hS : va_S A s.heap H locs) {v : Int32} {w : mS} (hu : w = mF u 32 v) (hdg : decode cc pc = .ok (.putfield 238, 3)) (kk : ∀ H1 locs1, va_P D vwCl (mW cI cZ cJ o ad w) H1 → va_S A s.heap H1 locs1 → W p l e R s m args below meth c H1 locs1 0 0 Q (F0 m (pc + 3) ls rest)) : W p l e R s m args below meth c H locs 0 0 Q (F0 m pc ls (.int v :: .ref o :: rest)) := by
  obtain ⟨hx, hb, hml, hown, hts, hK, hD, hr, hlocks⟩ := C
  subst hu
  exact va_put (D := D) (ci := 11) (v := .int v) (ty := .int) (C := RX10) (T := TX10) (N := 45) hx hb hts inX10g tyX10 tyX10_ok nmX10 hown hK hP (hD u) hS 0 rfl rfl 32 (by decide) (hts (.fieldLink RX10 238 "LostParcelsModel" "waits" "I") (gW_mem (by decide +kernel))) (fun _ h9 => h9) rfl (by decide +kernel) rfl rfl (Nat.le_of_ble_eq_true rfl) hdg (fun H1 locs1 hP1 _ hS1 => kk H1 locs1 hP1 hS1)
theorem mg_waiting (C : mC p s m args meth c cc nL ret D cI cZ cJ o ad A) (hP : va_P D vwCl (mW cI cZ cJ o ad u) H) (hdg : decode cc pc = .ok (.getfield 90, 3)) (kk : W p l e R s m args below meth c H locs 0 0 Q (F0 m (pc + 3) ls (.ref (ad 33) :: rest))) : W p l e R s m args below meth c H locs 0 0 Q (F0 m pc ls (.ref o :: rest)) := by
  obtain ⟨hx, hb, hml, hown, hts, hK, hD, hr, hlocks⟩ := C
  exact va_get (D := D) (ci := 11) (C := RX10) (T := TX10) (N := 45) hx hb hts inX10g hown hK hP 0 rfl rfl 33 (by decide) (hts (.fieldLink RX10 90 "LostParcelsModel" "waiting" "[I") (gW_mem (by decide +kernel))) (fun _ h9 => h9) rfl hdg kk
theorem mg_paid (C : mC p s m args meth c cc nL ret D cI cZ cJ o ad A) (hP : va_P D vwCl (mW cI cZ cJ o ad u) H) (hdg : decode cc pc = .ok (.getfield 211, 3)) (kk : W p l e R s m args below meth c H locs 0 0 Q (F0 m (pc + 3) ls (.int (u.1 34) :: rest))) : W p l e R s m args below meth c H locs 0 0 Q (F0 m pc ls (.ref o :: rest)) := by
  obtain ⟨hx, hb, hml, hown, hts, hK, hD, hr, hlocks⟩ := C
  exact va_get (D := D) (ci := 11) (C := RX10) (T := TX10) (N := 45) hx hb hts inX10g hown hK hP 0 rfl rfl 34 (by decide) (hts (.fieldLink RX10 211 "LostParcelsModel" "paid" "I") (gW_mem (by decide +kernel))) (fun _ h9 => h9) rfl hdg kk
set_option maxRecDepth 20000 in
theorem mp_paid (C : mC p s m args meth c cc nL ret D cI cZ cJ o ad A) (hP : va_P D vwCl (mW cI cZ cJ o ad u) H) (hS : va_S A s.heap H locs) {v : Int32} {w : mS} (hu : w = mF u 34 v) (hdg : decode cc pc = .ok (.putfield 211, 3)) (kk : ∀ H1 locs1, va_P D vwCl (mW cI cZ cJ o ad w) H1 → va_S A s.heap H1 locs1 → W p l e R s m args below meth c H1 locs1 0 0 Q (F0 m (pc + 3) ls rest)) : W p l e R s m args below meth c H locs 0 0 Q (F0 m pc ls (.int v :: .ref o :: rest)) := by
  obtain ⟨hx, hb, hml, hown, hts, hK, hD, hr, hlocks⟩ := C
  subst hu
  exact va_put (D := D) (ci := 11) (v := .int v) (ty := .int) (C := RX10) (T := TX10) (N := 45) hx hb hts inX10g tyX10 tyX10_ok nmX10 hown hK hP (hD u) hS 0 rfl rfl 34 (by decide) (hts (.fieldLink RX10 211 "LostParcelsModel" "paid" "I") (gW_mem (by decide +kernel))) (fun _ h9 => h9) rfl (by decide +kernel) rfl rfl (Nat.le_of_ble_eq_true rfl) hdg (fun H1 locs1 hP1 _ hS1 => kk H1 locs1 hP1 hS1)
theorem mg_found (C : mC p s m args meth c cc nL ret D cI cZ cJ o ad A) (hP : va_P D vwCl (mW cI cZ cJ o ad u) H) (hdg : decode cc pc = .ok (.getfield 93, 3)) (kk : W p l e R s m args below meth c H locs 0 0 Q (F0 m (pc + 3) ls (.ref (ad 35) :: rest))) : W p l e R s m args below meth c H locs 0 0 Q (F0 m pc ls (.ref o :: rest)) := by
  obtain ⟨hx, hb, hml, hown, hts, hK, hD, hr, hlocks⟩ := C
  exact va_get (D := D) (ci := 11) (C := RX10) (T := TX10) (N := 45) hx hb hts inX10g hown hK hP 0 rfl rfl 35 (by decide) (hts (.fieldLink RX10 93 "LostParcelsModel" "found" "[I") (gW_mem (by decide +kernel))) (fun _ h9 => h9) rfl hdg kk
theorem mg_match (C : mC p s m args meth c cc nL ret D cI cZ cJ o ad A) (hP : va_P D vwCl (mW cI cZ cJ o ad u) H) (hdg : decode cc pc = .ok (.getfield 96, 3)) (kk : W p l e R s m args below meth c H locs 0 0 Q (F0 m (pc + 3) ls (.ref (ad 36) :: rest))) : W p l e R s m args below meth c H locs 0 0 Q (F0 m pc ls (.ref o :: rest)) := by
  obtain ⟨hx, hb, hml, hown, hts, hK, hD, hr, hlocks⟩ := C
  exact va_get (D := D) (ci := 11) (C := RX10) (T := TX10) (N := 45) hx hb hts inX10g hown hK hP 0 rfl rfl 36 (by decide) (hts (.fieldLink RX10 96 "LostParcelsModel" "match" "[I") (gW_mem (by decide +kernel))) (fun _ h9 => h9) rfl hdg kk
theorem mg_most (C : mC p s m args meth c cc nL ret D cI cZ cJ o ad A) (hP : va_P D vwCl (mW cI cZ cJ o ad u) H) (hdg : decode cc pc = .ok (.getfield 99, 3)) (kk : W p l e R s m args below meth c H locs 0 0 Q (F0 m (pc + 3) ls (.ref (ad 37) :: rest))) : W p l e R s m args below meth c H locs 0 0 Q (F0 m pc ls (.ref o :: rest)) := by
  obtain ⟨hx, hb, hml, hown, hts, hK, hD, hr, hlocks⟩ := C
  exact va_get (D := D) (ci := 11) (C := RX10) (T := TX10) (N := 45) hx hb hts inX10g hown hK hP 0 rfl rfl 37 (by decide) (hts (.fieldLink RX10 99 "LostParcelsModel" "most" "[I") (gW_mem (by decide +kernel))) (fun _ h9 => h9) rfl hdg kk
theorem mg_next (C : mC p s m args meth c cc nL ret D cI cZ cJ o ad A) (hP : va_P D vwCl (mW cI cZ cJ o ad u) H) (hdg : decode cc pc = .ok (.getfield 102, 3)) (kk : W p l e R s m args below meth c H locs 0 0 Q (F0 m (pc + 3) ls (.ref (ad 38) :: rest))) : W p l e R s m args below meth c H locs 0 0 Q (F0 m pc ls (.ref o :: rest)) := by
  obtain ⟨hx, hb, hml, hown, hts, hK, hD, hr, hlocks⟩ := C
  exact va_get (D := D) (ci := 11) (C := RX10) (T := TX10) (N := 45) hx hb hts inX10g hown hK hP 0 rfl rfl 38 (by decide) (hts (.fieldLink RX10 102 "LostParcelsModel" "next" "[I") (gW_mem (by decide +kernel))) (fun _ h9 => h9) rfl hdg kk
theorem mg_likes (C : mC p s m args meth c cc nL ret D cI cZ cJ o ad A) (hP : va_P D vwCl (mW cI cZ cJ o ad u) H) (hdg : decode cc pc = .ok (.getfield 105, 3)) (kk : W p l e R s m args below meth c H locs 0 0 Q (F0 m (pc + 3) ls (.ref (ad 39) :: rest))) : W p l e R s m args below meth c H locs 0 0 Q (F0 m pc ls (.ref o :: rest)) := by
  obtain ⟨hx, hb, hml, hown, hts, hK, hD, hr, hlocks⟩ := C
  exact va_get (D := D) (ci := 11) (C := RX10) (T := TX10) (N := 45) hx hb hts inX10g hown hK hP 0 rfl rfl 39 (by decide) (hts (.fieldLink RX10 105 "LostParcelsModel" "likes" "[I") (gW_mem (by decide +kernel))) (fun _ h9 => h9) rfl hdg kk
theorem mg_member (C : mC p s m args meth c cc nL ret D cI cZ cJ o ad A) (hP : va_P D vwCl (mW cI cZ cJ o ad u) H) (hdg : decode cc pc = .ok (.getfield 108, 3)) (kk : W p l e R s m args below meth c H locs 0 0 Q (F0 m (pc + 3) ls (.ref (ad 40) :: rest))) : W p l e R s m args below meth c H locs 0 0 Q (F0 m pc ls (.ref o :: rest)) := by
  obtain ⟨hx, hb, hml, hown, hts, hK, hD, hr, hlocks⟩ := C
  exact va_get (D := D) (ci := 11) (C := RX10) (T := TX10) (N := 45) hx hb hts inX10g hown hK hP 0 rfl rfl 40 (by decide) (hts (.fieldLink RX10 108 "LostParcelsModel" "member" "[I") (gW_mem (by decide +kernel))) (fun _ h9 => h9) rfl hdg kk
theorem mg_members (C : mC p s m args meth c cc nL ret D cI cZ cJ o ad A) (hP : va_P D vwCl (mW cI cZ cJ o ad u) H) (hdg : decode cc pc = .ok (.getfield 214, 3)) (kk : W p l e R s m args below meth c H locs 0 0 Q (F0 m (pc + 3) ls (.int (u.1 41) :: rest))) : W p l e R s m args below meth c H locs 0 0 Q (F0 m pc ls (.ref o :: rest)) := by
  obtain ⟨hx, hb, hml, hown, hts, hK, hD, hr, hlocks⟩ := C
  exact va_get (D := D) (ci := 11) (C := RX10) (T := TX10) (N := 45) hx hb hts inX10g hown hK hP 0 rfl rfl 41 (by decide) (hts (.fieldLink RX10 214 "LostParcelsModel" "members" "I") (gW_mem (by decide +kernel))) (fun _ h9 => h9) rfl hdg kk
set_option maxRecDepth 20000 in
theorem mp_members (C : mC p s m args meth c cc nL ret D cI cZ cJ o ad A) (hP : va_P D vwCl (mW cI cZ cJ o ad u) H) (hS : va_S A s.heap H locs) {v : Int32} {w : mS} (hu : w = mF u 41 v) (hdg : decode cc pc = .ok (.putfield 214, 3)) (kk : ∀ H1 locs1, va_P D vwCl (mW cI cZ cJ o ad w) H1 → va_S A s.heap H1 locs1 → W p l e R s m args below meth c H1 locs1 0 0 Q (F0 m (pc + 3) ls rest)) : W p l e R s m args below meth c H locs 0 0 Q (F0 m pc ls (.int v :: .ref o :: rest)) := by
  obtain ⟨hx, hb, hml, hown, hts, hK, hD, hr, hlocks⟩ := C
  subst hu
  exact va_put (D := D) (ci := 11) (v := .int v) (ty := .int) (C := RX10) (T := TX10) (N := 45) hx hb hts inX10g tyX10 tyX10_ok nmX10 hown hK hP (hD u) hS 0 rfl rfl 41 (by decide) (hts (.fieldLink RX10 214 "LostParcelsModel" "members" "I") (gW_mem (by decide +kernel))) (fun _ h9 => h9) rfl (by decide +kernel) rfl rfl (Nat.le_of_ble_eq_true rfl) hdg (fun H1 locs1 hP1 _ hS1 => kk H1 locs1 hP1 hS1)
theorem mg_fewest (C : mC p s m args meth c cc nL ret D cI cZ cJ o ad A) (hP : va_P D vwCl (mW cI cZ cJ o ad u) H) (hdg : decode cc pc = .ok (.getfield 111, 3)) (kk : W p l e R s m args below meth c H locs 0 0 Q (F0 m (pc + 3) ls (.ref (ad 42) :: rest))) : W p l e R s m args below meth c H locs 0 0 Q (F0 m pc ls (.ref o :: rest)) := by
  obtain ⟨hx, hb, hml, hown, hts, hK, hD, hr, hlocks⟩ := C
  exact va_get (D := D) (ci := 11) (C := RX10) (T := TX10) (N := 45) hx hb hts inX10g hown hK hP 0 rfl rfl 42 (by decide) (hts (.fieldLink RX10 111 "LostParcelsModel" "fewest" "[I") (gW_mem (by decide +kernel))) (fun _ h9 => h9) rfl hdg kk
theorem mg_isLot (C : mC p s m args meth c cc nL ret D cI cZ cJ o ad A) (hP : va_P D vwCl (mW cI cZ cJ o ad u) H) (hdg : decode cc pc = .ok (.getfield 114, 3)) (kk : W p l e R s m args below meth c H locs 0 0 Q (F0 m (pc + 3) ls (.ref (ad 43) :: rest))) : W p l e R s m args below meth c H locs 0 0 Q (F0 m pc ls (.ref o :: rest)) := by
  obtain ⟨hx, hb, hml, hown, hts, hK, hD, hr, hlocks⟩ := C
  exact va_get (D := D) (ci := 11) (C := RX10) (T := TX10) (N := 45) hx hb hts inX10g hown hK hP 0 rfl rfl 43 (by decide) (hts (.fieldLink RX10 114 "LostParcelsModel" "isLot" "[Z") (gW_mem (by decide +kernel))) (fun _ h9 => h9) rfl hdg kk
theorem mg_ways (C : mC p s m args meth c cc nL ret D cI cZ cJ o ad A) (hP : va_P D vwCl (mW cI cZ cJ o ad u) H) (hdg : decode cc pc = .ok (.getfield 117, 3)) (kk : W p l e R s m args below meth c H locs 0 0 Q (F0 m (pc + 3) ls (.ref (ad 44) :: rest))) : W p l e R s m args below meth c H locs 0 0 Q (F0 m pc ls (.ref o :: rest)) := by
  obtain ⟨hx, hb, hml, hown, hts, hK, hD, hr, hlocks⟩ := C
  exact va_get (D := D) (ci := 11) (C := RX10) (T := TX10) (N := 45) hx hb hts inX10g hown hK hP 0 rfl rfl 44 (by decide) (hts (.fieldLink RX10 117 "LostParcelsModel" "ways" "[J") (gW_mem (by decide +kernel))) (fun _ h9 => h9) rfl hdg kk
theorem ml_kind (C : mC p s m args meth c cc nL ret D cI cZ cJ o ad A) (hP : va_P D vwCl (mW cI cZ cJ o ad u) H) {i x : Int32} (hi : mR u 3 20 i = some x) (hdg : decode cc pc = .ok (.iaload, 1)) (kk : W p l e R s m args below meth c H locs 0 0 Q (F0 m (pc + 1) ls (.int x :: rest))) : W p l e R s m args below meth c H locs 0 0 Q (F0 m pc ls (.int i :: .ref (ad 3) :: rest)) := by
  obtain ⟨hx, hb, hml, hown, hts, hK, hD, hr, hlocks⟩ := C
  obtain ⟨hj, rfl⟩ := if_so hi
  exact va_iald hx hb hK hP 1 0 (n := 20) (f := u.2.1 3) rfl rfl (ixb_in hj) hdg kk
set_option maxRecDepth 20000 in
theorem ms_kind (C : mC p s m args meth c cc nL ret D cI cZ cJ o ad A) (hP : va_P D vwCl (mW cI cZ cJ o ad u) H) (hS : va_S A s.heap H locs) {i v : Int32} {w : mS} (hi : mU u 3 20 i v = some w) (hdg : decode cc pc = .ok (.iastore, 1)) (kk : ∀ H1 locs1, va_P D vwCl (mW cI cZ cJ o ad w) H1 → va_S A s.heap H1 locs1 → W p l e R s m args below meth c H1 locs1 0 0 Q (F0 m (pc + 1) ls rest)) : W p l e R s m args below meth c H locs 0 0 Q (F0 m pc ls (.int v :: .int i :: .ref (ad 3) :: rest)) := by
  obtain ⟨hx, hb, hml, hown, hts, hK, hD, hr, hlocks⟩ := C
  obtain ⟨hj, rfl⟩ := if_so hi
  exact va_iast hx hb hK hP (hD u) hS 1 0 (n := 20) (f := u.2.1 3) rfl rfl (ixb_in hj) hdg (fun H1 locs1 hP1 _ hS1 => kk H1 locs1 hP1 hS1)
theorem ml_foundOn (C : mC p s m args meth c cc nL ret D cI cZ cJ o ad A) (hP : va_P D vwCl (mW cI cZ cJ o ad u) H) {i x : Int32} (hi : mR u 4 20 i = some x) (hdg : decode cc pc = .ok (.iaload, 1)) (kk : W p l e R s m args below meth c H locs 0 0 Q (F0 m (pc + 1) ls (.int x :: rest))) : W p l e R s m args below meth c H locs 0 0 Q (F0 m pc ls (.int i :: .ref (ad 4) :: rest)) := by
  obtain ⟨hx, hb, hml, hown, hts, hK, hD, hr, hlocks⟩ := C
  obtain ⟨hj, rfl⟩ := if_so hi
  exact va_iald hx hb hK hP 2 0 (n := 20) (f := u.2.1 4) rfl rfl (ixb_in hj) hdg kk
set_option maxRecDepth 20000 in
theorem ms_foundOn (C : mC p s m args meth c cc nL ret D cI cZ cJ o ad A) (hP : va_P D vwCl (mW cI cZ cJ o ad u) H) (hS : va_S A s.heap H locs) {i v : Int32} {w : mS} (hi : mU u 4 20 i v = some w) (hdg : decode cc pc = .ok (.iastore, 1)) (kk : ∀ H1 locs1, va_P D vwCl (mW cI cZ cJ o ad w) H1 → va_S A s.heap H1 locs1 → W p l e R s m args below meth c H1 locs1 0 0 Q (F0 m (pc + 1) ls rest)) : W p l e R s m args below meth c H locs 0 0 Q (F0 m pc ls (.int v :: .int i :: .ref (ad 4) :: rest)) := by
  obtain ⟨hx, hb, hml, hown, hts, hK, hD, hr, hlocks⟩ := C
  obtain ⟨hj, rfl⟩ := if_so hi
  exact va_iast hx hb hK hP (hD u) hS 2 0 (n := 20) (f := u.2.1 4) rfl rfl (ixb_in hj) hdg (fun H1 locs1 hP1 _ hS1 => kk H1 locs1 hP1 hS1)
theorem ml_trait (C : mC p s m args meth c cc nL ret D cI cZ cJ o ad A) (hP : va_P D vwCl (mW cI cZ cJ o ad u) H) {i x : Int32} (hi : mR u 5 100 i = some x) (hdg : decode cc pc = .ok (.iaload, 1)) (kk : W p l e R s m args below meth c H locs 0 0 Q (F0 m (pc + 1) ls (.int x :: rest))) : W p l e R s m args below meth c H locs 0 0 Q (F0 m pc ls (.int i :: .ref (ad 5) :: rest)) := by
  obtain ⟨hx, hb, hml, hown, hts, hK, hD, hr, hlocks⟩ := C
  obtain ⟨hj, rfl⟩ := if_so hi
  exact va_iald hx hb hK hP 3 0 (n := 100) (f := u.2.1 5) rfl rfl (ixb_in hj) hdg kk
set_option maxRecDepth 20000 in
theorem ms_trait (C : mC p s m args meth c cc nL ret D cI cZ cJ o ad A) (hP : va_P D vwCl (mW cI cZ cJ o ad u) H) (hS : va_S A s.heap H locs) {i v : Int32} {w : mS} (hi : mU u 5 100 i v = some w) (hdg : decode cc pc = .ok (.iastore, 1)) (kk : ∀ H1 locs1, va_P D vwCl (mW cI cZ cJ o ad w) H1 → va_S A s.heap H1 locs1 → W p l e R s m args below meth c H1 locs1 0 0 Q (F0 m (pc + 1) ls rest)) : W p l e R s m args below meth c H locs 0 0 Q (F0 m pc ls (.int v :: .int i :: .ref (ad 5) :: rest)) := by
  obtain ⟨hx, hb, hml, hown, hts, hK, hD, hr, hlocks⟩ := C
  obtain ⟨hj, rfl⟩ := if_so hi
  exact va_iast hx hb hK hP (hD u) hS 3 0 (n := 100) (f := u.2.1 5) rfl rfl (ixb_in hj) hdg (fun H1 locs1 hP1 _ hS1 => kk H1 locs1 hP1 hS1)
theorem ml_weight (C : mC p s m args meth c cc nL ret D cI cZ cJ o ad A) (hP : va_P D vwCl (mW cI cZ cJ o ad u) H) {i x : Int32} (hi : mR u 6 20 i = some x) (hdg : decode cc pc = .ok (.iaload, 1)) (kk : W p l e R s m args below meth c H locs 0 0 Q (F0 m (pc + 1) ls (.int x :: rest))) : W p l e R s m args below meth c H locs 0 0 Q (F0 m pc ls (.int i :: .ref (ad 6) :: rest)) := by
  obtain ⟨hx, hb, hml, hown, hts, hK, hD, hr, hlocks⟩ := C
  obtain ⟨hj, rfl⟩ := if_so hi
  exact va_iald hx hb hK hP 4 0 (n := 20) (f := u.2.1 6) rfl rfl (ixb_in hj) hdg kk
set_option maxRecDepth 20000 in
theorem ms_weight (C : mC p s m args meth c cc nL ret D cI cZ cJ o ad A) (hP : va_P D vwCl (mW cI cZ cJ o ad u) H) (hS : va_S A s.heap H locs) {i v : Int32} {w : mS} (hi : mU u 6 20 i v = some w) (hdg : decode cc pc = .ok (.iastore, 1)) (kk : ∀ H1 locs1, va_P D vwCl (mW cI cZ cJ o ad w) H1 → va_S A s.heap H1 locs1 → W p l e R s m args below meth c H1 locs1 0 0 Q (F0 m (pc + 1) ls rest)) : W p l e R s m args below meth c H locs 0 0 Q (F0 m pc ls (.int v :: .int i :: .ref (ad 6) :: rest)) := by
  obtain ⟨hx, hb, hml, hown, hts, hK, hD, hr, hlocks⟩ := C
  obtain ⟨hj, rfl⟩ := if_so hi
  exact va_iast hx hb hK hP (hD u) hS 4 0 (n := 20) (f := u.2.1 6) rfl rfl (ixb_in hj) hdg (fun H1 locs1 hP1 _ hS1 => kk H1 locs1 hP1 hS1)
theorem ml_worth (C : mC p s m args meth c cc nL ret D cI cZ cJ o ad A) (hP : va_P D vwCl (mW cI cZ cJ o ad u) H) {i x : Int32} (hi : mR u 7 20 i = some x) (hdg : decode cc pc = .ok (.iaload, 1)) (kk : W p l e R s m args below meth c H locs 0 0 Q (F0 m (pc + 1) ls (.int x :: rest))) : W p l e R s m args below meth c H locs 0 0 Q (F0 m pc ls (.int i :: .ref (ad 7) :: rest)) := by
  obtain ⟨hx, hb, hml, hown, hts, hK, hD, hr, hlocks⟩ := C
  obtain ⟨hj, rfl⟩ := if_so hi
  exact va_iald hx hb hK hP 5 0 (n := 20) (f := u.2.1 7) rfl rfl (ixb_in hj) hdg kk
set_option maxRecDepth 20000 in
theorem ms_worth (C : mC p s m args meth c cc nL ret D cI cZ cJ o ad A) (hP : va_P D vwCl (mW cI cZ cJ o ad u) H) (hS : va_S A s.heap H locs) {i v : Int32} {w : mS} (hi : mU u 7 20 i v = some w) (hdg : decode cc pc = .ok (.iastore, 1)) (kk : ∀ H1 locs1, va_P D vwCl (mW cI cZ cJ o ad w) H1 → va_S A s.heap H1 locs1 → W p l e R s m args below meth c H1 locs1 0 0 Q (F0 m (pc + 1) ls rest)) : W p l e R s m args below meth c H locs 0 0 Q (F0 m pc ls (.int v :: .int i :: .ref (ad 7) :: rest)) := by
  obtain ⟨hx, hb, hml, hown, hts, hK, hD, hr, hlocks⟩ := C
  obtain ⟨hj, rfl⟩ := if_so hi
  exact va_iast hx hb hK hP (hD u) hS 5 0 (n := 20) (f := u.2.1 7) rfl rfl (ixb_in hj) hdg (fun H1 locs1 hP1 _ hS1 => kk H1 locs1 hP1 hS1)
theorem ml_secret (C : mC p s m args meth c cc nL ret D cI cZ cJ o ad A) (hP : va_P D vwCl (mW cI cZ cJ o ad u) H) {i x : Int32} (hi : mR u 8 20 i = some x) (hdg : decode cc pc = .ok (.iaload, 1)) (kk : W p l e R s m args below meth c H locs 0 0 Q (F0 m (pc + 1) ls (.int x :: rest))) : W p l e R s m args below meth c H locs 0 0 Q (F0 m pc ls (.int i :: .ref (ad 8) :: rest)) := by
  obtain ⟨hx, hb, hml, hown, hts, hK, hD, hr, hlocks⟩ := C
  obtain ⟨hj, rfl⟩ := if_so hi
  exact va_iald hx hb hK hP 6 0 (n := 20) (f := u.2.1 8) rfl rfl (ixb_in hj) hdg kk
set_option maxRecDepth 20000 in
theorem ms_secret (C : mC p s m args meth c cc nL ret D cI cZ cJ o ad A) (hP : va_P D vwCl (mW cI cZ cJ o ad u) H) (hS : va_S A s.heap H locs) {i v : Int32} {w : mS} (hi : mU u 8 20 i v = some w) (hdg : decode cc pc = .ok (.iastore, 1)) (kk : ∀ H1 locs1, va_P D vwCl (mW cI cZ cJ o ad w) H1 → va_S A s.heap H1 locs1 → W p l e R s m args below meth c H1 locs1 0 0 Q (F0 m (pc + 1) ls rest)) : W p l e R s m args below meth c H locs 0 0 Q (F0 m pc ls (.int v :: .int i :: .ref (ad 8) :: rest)) := by
  obtain ⟨hx, hb, hml, hown, hts, hK, hD, hr, hlocks⟩ := C
  obtain ⟨hj, rfl⟩ := if_so hi
  exact va_iast hx hb hK hP (hD u) hS 6 0 (n := 20) (f := u.2.1 8) rfl rfl (ixb_in hj) hdg (fun H1 locs1 hP1 _ hS1 => kk H1 locs1 hP1 hS1)
theorem ml_is (C : mC p s m args meth c cc nL ret D cI cZ cJ o ad A) (hP : va_P D vwCl (mW cI cZ cJ o ad u) H) {i x : Int32} (hi : mR u 9 20 i = some x) (hdg : decode cc pc = .ok (.iaload, 1)) (kk : W p l e R s m args below meth c H locs 0 0 Q (F0 m (pc + 1) ls (.int x :: rest))) : W p l e R s m args below meth c H locs 0 0 Q (F0 m pc ls (.int i :: .ref (ad 9) :: rest)) := by
  obtain ⟨hx, hb, hml, hown, hts, hK, hD, hr, hlocks⟩ := C
  obtain ⟨hj, rfl⟩ := if_so hi
  exact va_iald hx hb hK hP 7 0 (n := 20) (f := u.2.1 9) rfl rfl (ixb_in hj) hdg kk
set_option maxRecDepth 20000 in
theorem ms_is (C : mC p s m args meth c cc nL ret D cI cZ cJ o ad A) (hP : va_P D vwCl (mW cI cZ cJ o ad u) H) (hS : va_S A s.heap H locs) {i v : Int32} {w : mS} (hi : mU u 9 20 i v = some w) (hdg : decode cc pc = .ok (.iastore, 1)) (kk : ∀ H1 locs1, va_P D vwCl (mW cI cZ cJ o ad w) H1 → va_S A s.heap H1 locs1 → W p l e R s m args below meth c H1 locs1 0 0 Q (F0 m (pc + 1) ls rest)) : W p l e R s m args below meth c H locs 0 0 Q (F0 m pc ls (.int v :: .int i :: .ref (ad 9) :: rest)) := by
  obtain ⟨hx, hb, hml, hown, hts, hK, hD, hr, hlocks⟩ := C
  obtain ⟨hj, rfl⟩ := if_so hi
  exact va_iast hx hb hK hP (hD u) hS 7 0 (n := 20) (f := u.2.1 9) rfl rfl (ixb_in hj) hdg (fun H1 locs1 hP1 _ hS1 => kk H1 locs1 hP1 hS1)
theorem ml_hasIt (C : mC p s m args meth c cc nL ret D cI cZ cJ o ad A) (hP : va_P D vwCl (mW cI cZ cJ o ad u) H) {i x : Int32} (hi : mR u 10 20 i = some x) (hdg : decode cc pc = .ok (.iaload, 1)) (kk : W p l e R s m args below meth c H locs 0 0 Q (F0 m (pc + 1) ls (.int x :: rest))) : W p l e R s m args below meth c H locs 0 0 Q (F0 m pc ls (.int i :: .ref (ad 10) :: rest)) := by
  obtain ⟨hx, hb, hml, hown, hts, hK, hD, hr, hlocks⟩ := C
  obtain ⟨hj, rfl⟩ := if_so hi
  exact va_iald hx hb hK hP 8 0 (n := 20) (f := u.2.1 10) rfl rfl (ixb_in hj) hdg kk
set_option maxRecDepth 20000 in
theorem ms_hasIt (C : mC p s m args meth c cc nL ret D cI cZ cJ o ad A) (hP : va_P D vwCl (mW cI cZ cJ o ad u) H) (hS : va_S A s.heap H locs) {i v : Int32} {w : mS} (hi : mU u 10 20 i v = some w) (hdg : decode cc pc = .ok (.iastore, 1)) (kk : ∀ H1 locs1, va_P D vwCl (mW cI cZ cJ o ad w) H1 → va_S A s.heap H1 locs1 → W p l e R s m args below meth c H1 locs1 0 0 Q (F0 m (pc + 1) ls rest)) : W p l e R s m args below meth c H locs 0 0 Q (F0 m pc ls (.int v :: .int i :: .ref (ad 10) :: rest)) := by
  obtain ⟨hx, hb, hml, hown, hts, hK, hD, hr, hlocks⟩ := C
  obtain ⟨hj, rfl⟩ := if_so hi
  exact va_iast hx hb hK hP (hD u) hS 8 0 (n := 20) (f := u.2.1 10) rfl rfl (ixb_in hj) hdg (fun H1 locs1 hP1 _ hS1 => kk H1 locs1 hP1 hS1)
theorem ml_since (C : mC p s m args meth c cc nL ret D cI cZ cJ o ad A) (hP : va_P D vwCl (mW cI cZ cJ o ad u) H) {i x : Int32} (hi : mR u 11 20 i = some x) (hdg : decode cc pc = .ok (.iaload, 1)) (kk : W p l e R s m args below meth c H locs 0 0 Q (F0 m (pc + 1) ls (.int x :: rest))) : W p l e R s m args below meth c H locs 0 0 Q (F0 m pc ls (.int i :: .ref (ad 11) :: rest)) := by
  obtain ⟨hx, hb, hml, hown, hts, hK, hD, hr, hlocks⟩ := C
  obtain ⟨hj, rfl⟩ := if_so hi
  exact va_iald hx hb hK hP 9 0 (n := 20) (f := u.2.1 11) rfl rfl (ixb_in hj) hdg kk
set_option maxRecDepth 20000 in
theorem ms_since (C : mC p s m args meth c cc nL ret D cI cZ cJ o ad A) (hP : va_P D vwCl (mW cI cZ cJ o ad u) H) (hS : va_S A s.heap H locs) {i v : Int32} {w : mS} (hi : mU u 11 20 i v = some w) (hdg : decode cc pc = .ok (.iastore, 1)) (kk : ∀ H1 locs1, va_P D vwCl (mW cI cZ cJ o ad w) H1 → va_S A s.heap H1 locs1 → W p l e R s m args below meth c H1 locs1 0 0 Q (F0 m (pc + 1) ls rest)) : W p l e R s m args below meth c H locs 0 0 Q (F0 m pc ls (.int v :: .int i :: .ref (ad 11) :: rest)) := by
  obtain ⟨hx, hb, hml, hown, hts, hK, hD, hr, hlocks⟩ := C
  obtain ⟨hj, rfl⟩ := if_so hi
  exact va_iast hx hb hK hP (hD u) hS 9 0 (n := 20) (f := u.2.1 11) rfl rfl (ixb_in hj) hdg (fun H1 locs1 hP1 _ hS1 => kk H1 locs1 hP1 hS1)
theorem ml_shareOf (C : mC p s m args meth c cc nL ret D cI cZ cJ o ad A) (hP : va_P D vwCl (mW cI cZ cJ o ad u) H) {i x : Int32} (hi : mR u 12 20 i = some x) (hdg : decode cc pc = .ok (.iaload, 1)) (kk : W p l e R s m args below meth c H locs 0 0 Q (F0 m (pc + 1) ls (.int x :: rest))) : W p l e R s m args below meth c H locs 0 0 Q (F0 m pc ls (.int i :: .ref (ad 12) :: rest)) := by
  obtain ⟨hx, hb, hml, hown, hts, hK, hD, hr, hlocks⟩ := C
  obtain ⟨hj, rfl⟩ := if_so hi
  exact va_iald hx hb hK hP 10 0 (n := 20) (f := u.2.1 12) rfl rfl (ixb_in hj) hdg kk
set_option maxRecDepth 20000 in
theorem ms_shareOf (C : mC p s m args meth c cc nL ret D cI cZ cJ o ad A) (hP : va_P D vwCl (mW cI cZ cJ o ad u) H) (hS : va_S A s.heap H locs) {i v : Int32} {w : mS} (hi : mU u 12 20 i v = some w) (hdg : decode cc pc = .ok (.iastore, 1)) (kk : ∀ H1 locs1, va_P D vwCl (mW cI cZ cJ o ad w) H1 → va_S A s.heap H1 locs1 → W p l e R s m args below meth c H1 locs1 0 0 Q (F0 m (pc + 1) ls rest)) : W p l e R s m args below meth c H locs 0 0 Q (F0 m pc ls (.int v :: .int i :: .ref (ad 12) :: rest)) := by
  obtain ⟨hx, hb, hml, hown, hts, hK, hD, hr, hlocks⟩ := C
  obtain ⟨hj, rfl⟩ := if_so hi
  exact va_iast hx hb hK hP (hD u) hS 10 0 (n := 20) (f := u.2.1 12) rfl rfl (ixb_in hj) hdg (fun H1 locs1 hP1 _ hS1 => kk H1 locs1 hP1 hS1)
theorem ml_isPaid (C : mC p s m args meth c cc nL ret D cI cZ cJ o ad A) (hP : va_P D vwCl (mW cI cZ cJ o ad u) H) {i x : Int32} (hi : mR u 13 20 i = some x) (hdg : decode cc pc = .ok (.baload, 1)) (kk : W p l e R s m args below meth c H locs 0 0 Q (F0 m (pc + 1) ls (.int x :: rest))) : W p l e R s m args below meth c H locs 0 0 Q (F0 m pc ls (.int i :: .ref (ad 13) :: rest)) := by
  obtain ⟨hx, hb, hml, hown, hts, hK, hD, hr, hlocks⟩ := C
  obtain ⟨hj, rfl⟩ := if_so hi
  exact va_zald hx hb hK hP 11 1 (n := 20) (f := u.2.1 13) rfl rfl (ixb_in hj) hdg kk
set_option maxRecDepth 20000 in
theorem ms_isPaid (C : mC p s m args meth c cc nL ret D cI cZ cJ o ad A) (hP : va_P D vwCl (mW cI cZ cJ o ad u) H) (hS : va_S A s.heap H locs) {i v : Int32} {w : mS} (hi : mU u 13 20 i (vp_nar .boolean v) = some w) (hdg : decode cc pc = .ok (.bastore, 1)) (kk : ∀ H1 locs1, va_P D vwCl (mW cI cZ cJ o ad w) H1 → va_S A s.heap H1 locs1 → W p l e R s m args below meth c H1 locs1 0 0 Q (F0 m (pc + 1) ls rest)) : W p l e R s m args below meth c H locs 0 0 Q (F0 m pc ls (.int v :: .int i :: .ref (ad 13) :: rest)) := by
  obtain ⟨hx, hb, hml, hown, hts, hK, hD, hr, hlocks⟩ := C
  obtain ⟨hj, rfl⟩ := if_so hi
  exact va_zast hx hb hK hP (hD u) hS 11 1 (n := 20) (f := u.2.1 13) rfl rfl (ixb_in hj) hdg (fun H1 locs1 hP1 _ hS1 => kk H1 locs1 hP1 hS1)
theorem ml_counts (C : mC p s m args meth c cc nL ret D cI cZ cJ o ad A) (hP : va_P D vwCl (mW cI cZ cJ o ad u) H) {i x : Int32} (hi : mR u 14 80 i = some x) (hdg : decode cc pc = .ok (.iaload, 1)) (kk : W p l e R s m args below meth c H locs 0 0 Q (F0 m (pc + 1) ls (.int x :: rest))) : W p l e R s m args below meth c H locs 0 0 Q (F0 m pc ls (.int i :: .ref (ad 14) :: rest)) := by
  obtain ⟨hx, hb, hml, hown, hts, hK, hD, hr, hlocks⟩ := C
  obtain ⟨hj, rfl⟩ := if_so hi
  exact va_iald hx hb hK hP 12 0 (n := 80) (f := u.2.1 14) rfl rfl (ixb_in hj) hdg kk
set_option maxRecDepth 20000 in
theorem ms_counts (C : mC p s m args meth c cc nL ret D cI cZ cJ o ad A) (hP : va_P D vwCl (mW cI cZ cJ o ad u) H) (hS : va_S A s.heap H locs) {i v : Int32} {w : mS} (hi : mU u 14 80 i v = some w) (hdg : decode cc pc = .ok (.iastore, 1)) (kk : ∀ H1 locs1, va_P D vwCl (mW cI cZ cJ o ad w) H1 → va_S A s.heap H1 locs1 → W p l e R s m args below meth c H1 locs1 0 0 Q (F0 m (pc + 1) ls rest)) : W p l e R s m args below meth c H locs 0 0 Q (F0 m pc ls (.int v :: .int i :: .ref (ad 14) :: rest)) := by
  obtain ⟨hx, hb, hml, hown, hts, hK, hD, hr, hlocks⟩ := C
  obtain ⟨hj, rfl⟩ := if_so hi
  exact va_iast hx hb hK hP (hD u) hS 12 0 (n := 80) (f := u.2.1 14) rfl rfl (ixb_in hj) hdg (fun H1 locs1 hP1 _ hS1 => kk H1 locs1 hP1 hS1)
theorem ml_events (C : mC p s m args meth c cc nL ret D cI cZ cJ o ad A) (hP : va_P D vwCl (mW cI cZ cJ o ad u) H) {i x : Int32} (hi : mR u 15 9000 i = some x) (hdg : decode cc pc = .ok (.iaload, 1)) (kk : W p l e R s m args below meth c H locs 0 0 Q (F0 m (pc + 1) ls (.int x :: rest))) : W p l e R s m args below meth c H locs 0 0 Q (F0 m pc ls (.int i :: .ref (ad 15) :: rest)) := by
  obtain ⟨hx, hb, hml, hown, hts, hK, hD, hr, hlocks⟩ := C
  obtain ⟨hj, rfl⟩ := if_so hi
  exact va_iald hx hb hK hP 13 0 (n := 9000) (f := u.2.1 15) rfl rfl (ixb_in hj) hdg kk
set_option maxRecDepth 20000 in
theorem ms_events (C : mC p s m args meth c cc nL ret D cI cZ cJ o ad A) (hP : va_P D vwCl (mW cI cZ cJ o ad u) H) (hS : va_S A s.heap H locs) {i v : Int32} {w : mS} (hi : mU u 15 9000 i v = some w) (hdg : decode cc pc = .ok (.iastore, 1)) (kk : ∀ H1 locs1, va_P D vwCl (mW cI cZ cJ o ad w) H1 → va_S A s.heap H1 locs1 → W p l e R s m args below meth c H1 locs1 0 0 Q (F0 m (pc + 1) ls rest)) : W p l e R s m args below meth c H locs 0 0 Q (F0 m pc ls (.int v :: .int i :: .ref (ad 15) :: rest)) := by
  obtain ⟨hx, hb, hml, hown, hts, hK, hD, hr, hlocks⟩ := C
  obtain ⟨hj, rfl⟩ := if_so hi
  exact va_iast hx hb hK hP (hD u) hS 13 0 (n := 9000) (f := u.2.1 15) rfl rfl (ixb_in hj) hdg (fun H1 locs1 hP1 _ hS1 => kk H1 locs1 hP1 hS1)
theorem ml_lostOn (C : mC p s m args meth c cc nL ret D cI cZ cJ o ad A) (hP : va_P D vwCl (mW cI cZ cJ o ad u) H) {i x : Int32} (hi : mR u 18 8 i = some x) (hdg : decode cc pc = .ok (.iaload, 1)) (kk : W p l e R s m args below meth c H locs 0 0 Q (F0 m (pc + 1) ls (.int x :: rest))) : W p l e R s m args below meth c H locs 0 0 Q (F0 m pc ls (.int i :: .ref (ad 18) :: rest)) := by
  obtain ⟨hx, hb, hml, hown, hts, hK, hD, hr, hlocks⟩ := C
  obtain ⟨hj, rfl⟩ := if_so hi
  exact va_iald hx hb hK hP 14 0 (n := 8) (f := u.2.1 18) rfl rfl (ixb_in hj) hdg kk
set_option maxRecDepth 20000 in
theorem ms_lostOn (C : mC p s m args meth c cc nL ret D cI cZ cJ o ad A) (hP : va_P D vwCl (mW cI cZ cJ o ad u) H) (hS : va_S A s.heap H locs) {i v : Int32} {w : mS} (hi : mU u 18 8 i v = some w) (hdg : decode cc pc = .ok (.iastore, 1)) (kk : ∀ H1 locs1, va_P D vwCl (mW cI cZ cJ o ad w) H1 → va_S A s.heap H1 locs1 → W p l e R s m args below meth c H1 locs1 0 0 Q (F0 m (pc + 1) ls rest)) : W p l e R s m args below meth c H locs 0 0 Q (F0 m pc ls (.int v :: .int i :: .ref (ad 18) :: rest)) := by
  obtain ⟨hx, hb, hml, hown, hts, hK, hD, hr, hlocks⟩ := C
  obtain ⟨hj, rfl⟩ := if_so hi
  exact va_iast hx hb hK hP (hD u) hS 14 0 (n := 8) (f := u.2.1 18) rfl rfl (ixb_in hj) hdg (fun H1 locs1 hP1 _ hS1 => kk H1 locs1 hP1 hS1)
theorem ml_word (C : mC p s m args meth c cc nL ret D cI cZ cJ o ad A) (hP : va_P D vwCl (mW cI cZ cJ o ad u) H) {i x : Int32} (hi : mR u 19 40 i = some x) (hdg : decode cc pc = .ok (.iaload, 1)) (kk : W p l e R s m args below meth c H locs 0 0 Q (F0 m (pc + 1) ls (.int x :: rest))) : W p l e R s m args below meth c H locs 0 0 Q (F0 m pc ls (.int i :: .ref (ad 19) :: rest)) := by
  obtain ⟨hx, hb, hml, hown, hts, hK, hD, hr, hlocks⟩ := C
  obtain ⟨hj, rfl⟩ := if_so hi
  exact va_iald hx hb hK hP 15 0 (n := 40) (f := u.2.1 19) rfl rfl (ixb_in hj) hdg kk
set_option maxRecDepth 20000 in
theorem ms_word (C : mC p s m args meth c cc nL ret D cI cZ cJ o ad A) (hP : va_P D vwCl (mW cI cZ cJ o ad u) H) (hS : va_S A s.heap H locs) {i v : Int32} {w : mS} (hi : mU u 19 40 i v = some w) (hdg : decode cc pc = .ok (.iastore, 1)) (kk : ∀ H1 locs1, va_P D vwCl (mW cI cZ cJ o ad w) H1 → va_S A s.heap H1 locs1 → W p l e R s m args below meth c H1 locs1 0 0 Q (F0 m (pc + 1) ls rest)) : W p l e R s m args below meth c H locs 0 0 Q (F0 m pc ls (.int v :: .int i :: .ref (ad 19) :: rest)) := by
  obtain ⟨hx, hb, hml, hown, hts, hK, hD, hr, hlocks⟩ := C
  obtain ⟨hj, rfl⟩ := if_so hi
  exact va_iast hx hb hK hP (hD u) hS 15 0 (n := 40) (f := u.2.1 19) rfl rfl (ixb_in hj) hdg (fun H1 locs1 hP1 _ hS1 => kk H1 locs1 hP1 hS1)
theorem ml_spanLow (C : mC p s m args meth c cc nL ret D cI cZ cJ o ad A) (hP : va_P D vwCl (mW cI cZ cJ o ad u) H) {i x : Int32} (hi : mR u 20 8 i = some x) (hdg : decode cc pc = .ok (.iaload, 1)) (kk : W p l e R s m args below meth c H locs 0 0 Q (F0 m (pc + 1) ls (.int x :: rest))) : W p l e R s m args below meth c H locs 0 0 Q (F0 m pc ls (.int i :: .ref (ad 20) :: rest)) := by
  obtain ⟨hx, hb, hml, hown, hts, hK, hD, hr, hlocks⟩ := C
  obtain ⟨hj, rfl⟩ := if_so hi
  exact va_iald hx hb hK hP 16 0 (n := 8) (f := u.2.1 20) rfl rfl (ixb_in hj) hdg kk
set_option maxRecDepth 20000 in
theorem ms_spanLow (C : mC p s m args meth c cc nL ret D cI cZ cJ o ad A) (hP : va_P D vwCl (mW cI cZ cJ o ad u) H) (hS : va_S A s.heap H locs) {i v : Int32} {w : mS} (hi : mU u 20 8 i v = some w) (hdg : decode cc pc = .ok (.iastore, 1)) (kk : ∀ H1 locs1, va_P D vwCl (mW cI cZ cJ o ad w) H1 → va_S A s.heap H1 locs1 → W p l e R s m args below meth c H1 locs1 0 0 Q (F0 m (pc + 1) ls rest)) : W p l e R s m args below meth c H locs 0 0 Q (F0 m pc ls (.int v :: .int i :: .ref (ad 20) :: rest)) := by
  obtain ⟨hx, hb, hml, hown, hts, hK, hD, hr, hlocks⟩ := C
  obtain ⟨hj, rfl⟩ := if_so hi
  exact va_iast hx hb hK hP (hD u) hS 16 0 (n := 8) (f := u.2.1 20) rfl rfl (ixb_in hj) hdg (fun H1 locs1 hP1 _ hS1 => kk H1 locs1 hP1 hS1)
theorem ml_spanHigh (C : mC p s m args meth c cc nL ret D cI cZ cJ o ad A) (hP : va_P D vwCl (mW cI cZ cJ o ad u) H) {i x : Int32} (hi : mR u 21 8 i = some x) (hdg : decode cc pc = .ok (.iaload, 1)) (kk : W p l e R s m args below meth c H locs 0 0 Q (F0 m (pc + 1) ls (.int x :: rest))) : W p l e R s m args below meth c H locs 0 0 Q (F0 m pc ls (.int i :: .ref (ad 21) :: rest)) := by
  obtain ⟨hx, hb, hml, hown, hts, hK, hD, hr, hlocks⟩ := C
  obtain ⟨hj, rfl⟩ := if_so hi
  exact va_iald hx hb hK hP 17 0 (n := 8) (f := u.2.1 21) rfl rfl (ixb_in hj) hdg kk
set_option maxRecDepth 20000 in
theorem ms_spanHigh (C : mC p s m args meth c cc nL ret D cI cZ cJ o ad A) (hP : va_P D vwCl (mW cI cZ cJ o ad u) H) (hS : va_S A s.heap H locs) {i v : Int32} {w : mS} (hi : mU u 21 8 i v = some w) (hdg : decode cc pc = .ok (.iastore, 1)) (kk : ∀ H1 locs1, va_P D vwCl (mW cI cZ cJ o ad w) H1 → va_S A s.heap H1 locs1 → W p l e R s m args below meth c H1 locs1 0 0 Q (F0 m (pc + 1) ls rest)) : W p l e R s m args below meth c H locs 0 0 Q (F0 m pc ls (.int v :: .int i :: .ref (ad 21) :: rest)) := by
  obtain ⟨hx, hb, hml, hown, hts, hK, hD, hr, hlocks⟩ := C
  obtain ⟨hj, rfl⟩ := if_so hi
  exact va_iast hx hb hK hP (hD u) hS 17 0 (n := 8) (f := u.2.1 21) rfl rfl (ixb_in hj) hdg (fun H1 locs1 hP1 _ hS1 => kk H1 locs1 hP1 hS1)
theorem ml_falseMany (C : mC p s m args meth c cc nL ret D cI cZ cJ o ad A) (hP : va_P D vwCl (mW cI cZ cJ o ad u) H) {i x : Int32} (hi : mR u 22 8 i = some x) (hdg : decode cc pc = .ok (.iaload, 1)) (kk : W p l e R s m args below meth c H locs 0 0 Q (F0 m (pc + 1) ls (.int x :: rest))) : W p l e R s m args below meth c H locs 0 0 Q (F0 m pc ls (.int i :: .ref (ad 22) :: rest)) := by
  obtain ⟨hx, hb, hml, hown, hts, hK, hD, hr, hlocks⟩ := C
  obtain ⟨hj, rfl⟩ := if_so hi
  exact va_iald hx hb hK hP 18 0 (n := 8) (f := u.2.1 22) rfl rfl (ixb_in hj) hdg kk
set_option maxRecDepth 20000 in
theorem ms_falseMany (C : mC p s m args meth c cc nL ret D cI cZ cJ o ad A) (hP : va_P D vwCl (mW cI cZ cJ o ad u) H) (hS : va_S A s.heap H locs) {i v : Int32} {w : mS} (hi : mU u 22 8 i v = some w) (hdg : decode cc pc = .ok (.iastore, 1)) (kk : ∀ H1 locs1, va_P D vwCl (mW cI cZ cJ o ad w) H1 → va_S A s.heap H1 locs1 → W p l e R s m args below meth c H1 locs1 0 0 Q (F0 m (pc + 1) ls rest)) : W p l e R s m args below meth c H locs 0 0 Q (F0 m pc ls (.int v :: .int i :: .ref (ad 22) :: rest)) := by
  obtain ⟨hx, hb, hml, hown, hts, hK, hD, hr, hlocks⟩ := C
  obtain ⟨hj, rfl⟩ := if_so hi
  exact va_iast hx hb hK hP (hD u) hS 18 0 (n := 8) (f := u.2.1 22) rfl rfl (ixb_in hj) hdg (fun H1 locs1 hP1 _ hS1 => kk H1 locs1 hP1 hS1)
theorem ml_isBarred (C : mC p s m args meth c cc nL ret D cI cZ cJ o ad A) (hP : va_P D vwCl (mW cI cZ cJ o ad u) H) {i x : Int32} (hi : mR u 23 8 i = some x) (hdg : decode cc pc = .ok (.baload, 1)) (kk : W p l e R s m args below meth c H locs 0 0 Q (F0 m (pc + 1) ls (.int x :: rest))) : W p l e R s m args below meth c H locs 0 0 Q (F0 m pc ls (.int i :: .ref (ad 23) :: rest)) := by
  obtain ⟨hx, hb, hml, hown, hts, hK, hD, hr, hlocks⟩ := C
  obtain ⟨hj, rfl⟩ := if_so hi
  exact va_zald hx hb hK hP 19 1 (n := 8) (f := u.2.1 23) rfl rfl (ixb_in hj) hdg kk
set_option maxRecDepth 20000 in
theorem ms_isBarred (C : mC p s m args meth c cc nL ret D cI cZ cJ o ad A) (hP : va_P D vwCl (mW cI cZ cJ o ad u) H) (hS : va_S A s.heap H locs) {i v : Int32} {w : mS} (hi : mU u 23 8 i (vp_nar .boolean v) = some w) (hdg : decode cc pc = .ok (.bastore, 1)) (kk : ∀ H1 locs1, va_P D vwCl (mW cI cZ cJ o ad w) H1 → va_S A s.heap H1 locs1 → W p l e R s m args below meth c H1 locs1 0 0 Q (F0 m (pc + 1) ls rest)) : W p l e R s m args below meth c H locs 0 0 Q (F0 m pc ls (.int v :: .int i :: .ref (ad 23) :: rest)) := by
  obtain ⟨hx, hb, hml, hown, hts, hK, hD, hr, hlocks⟩ := C
  obtain ⟨hj, rfl⟩ := if_so hi
  exact va_zast hx hb hK hP (hD u) hS 19 1 (n := 8) (f := u.2.1 23) rfl rfl (ixb_in hj) hdg (fun H1 locs1 hP1 _ hS1 => kk H1 locs1 hP1 hS1)
theorem ml_points (C : mC p s m args meth c cc nL ret D cI cZ cJ o ad A) (hP : va_P D vwCl (mW cI cZ cJ o ad u) H) {i x : Int32} (hi : mR u 24 5 i = some x) (hdg : decode cc pc = .ok (.iaload, 1)) (kk : W p l e R s m args below meth c H locs 0 0 Q (F0 m (pc + 1) ls (.int x :: rest))) : W p l e R s m args below meth c H locs 0 0 Q (F0 m pc ls (.int i :: .ref (ad 24) :: rest)) := by
  obtain ⟨hx, hb, hml, hown, hts, hK, hD, hr, hlocks⟩ := C
  obtain ⟨hj, rfl⟩ := if_so hi
  exact va_iald hx hb hK hP 20 0 (n := 5) (f := u.2.1 24) rfl rfl (ixb_in hj) hdg kk
set_option maxRecDepth 20000 in
theorem ms_points (C : mC p s m args meth c cc nL ret D cI cZ cJ o ad A) (hP : va_P D vwCl (mW cI cZ cJ o ad u) H) (hS : va_S A s.heap H locs) {i v : Int32} {w : mS} (hi : mU u 24 5 i v = some w) (hdg : decode cc pc = .ok (.iastore, 1)) (kk : ∀ H1 locs1, va_P D vwCl (mW cI cZ cJ o ad w) H1 → va_S A s.heap H1 locs1 → W p l e R s m args below meth c H1 locs1 0 0 Q (F0 m (pc + 1) ls rest)) : W p l e R s m args below meth c H locs 0 0 Q (F0 m pc ls (.int v :: .int i :: .ref (ad 24) :: rest)) := by
  obtain ⟨hx, hb, hml, hown, hts, hK, hD, hr, hlocks⟩ := C
  obtain ⟨hj, rfl⟩ := if_so hi
  exact va_iast hx hb hK hP (hD u) hS 20 0 (n := 5) (f := u.2.1 24) rfl rfl (ixb_in hj) hdg (fun H1 locs1 hP1 _ hS1 => kk H1 locs1 hP1 hS1)
theorem ml_letters (C : mC p s m args meth c cc nL ret D cI cZ cJ o ad A) (hP : va_P D vwCl (mW cI cZ cJ o ad u) H) {i x : Int32} (hi : mR u 26 16 i = some x) (hdg : decode cc pc = .ok (.iaload, 1)) (kk : W p l e R s m args below meth c H locs 0 0 Q (F0 m (pc + 1) ls (.int x :: rest))) : W p l e R s m args below meth c H locs 0 0 Q (F0 m pc ls (.int i :: .ref (ad 26) :: rest)) := by
  obtain ⟨hx, hb, hml, hown, hts, hK, hD, hr, hlocks⟩ := C
  obtain ⟨hj, rfl⟩ := if_so hi
  exact va_iald hx hb hK hP 21 0 (n := 16) (f := u.2.1 26) rfl rfl (ixb_in hj) hdg kk
set_option maxRecDepth 20000 in
theorem ms_letters (C : mC p s m args meth c cc nL ret D cI cZ cJ o ad A) (hP : va_P D vwCl (mW cI cZ cJ o ad u) H) (hS : va_S A s.heap H locs) {i v : Int32} {w : mS} (hi : mU u 26 16 i v = some w) (hdg : decode cc pc = .ok (.iastore, 1)) (kk : ∀ H1 locs1, va_P D vwCl (mW cI cZ cJ o ad w) H1 → va_S A s.heap H1 locs1 → W p l e R s m args below meth c H1 locs1 0 0 Q (F0 m (pc + 1) ls rest)) : W p l e R s m args below meth c H locs 0 0 Q (F0 m pc ls (.int v :: .int i :: .ref (ad 26) :: rest)) := by
  obtain ⟨hx, hb, hml, hown, hts, hK, hD, hr, hlocks⟩ := C
  obtain ⟨hj, rfl⟩ := if_so hi
  exact va_iast hx hb hK hP (hD u) hS 21 0 (n := 16) (f := u.2.1 26) rfl rfl (ixb_in hj) hdg (fun H1 locs1 hP1 _ hS1 => kk H1 locs1 hP1 hS1)
theorem ml_post (C : mC p s m args meth c cc nL ret D cI cZ cJ o ad A) (hP : va_P D vwCl (mW cI cZ cJ o ad u) H) {i x : Int32} (hi : mR u 27 16 i = some x) (hdg : decode cc pc = .ok (.iaload, 1)) (kk : W p l e R s m args below meth c H locs 0 0 Q (F0 m (pc + 1) ls (.int x :: rest))) : W p l e R s m args below meth c H locs 0 0 Q (F0 m pc ls (.int i :: .ref (ad 27) :: rest)) := by
  obtain ⟨hx, hb, hml, hown, hts, hK, hD, hr, hlocks⟩ := C
  obtain ⟨hj, rfl⟩ := if_so hi
  exact va_iald hx hb hK hP 22 0 (n := 16) (f := u.2.1 27) rfl rfl (ixb_in hj) hdg kk
set_option maxRecDepth 20000 in
theorem ms_post (C : mC p s m args meth c cc nL ret D cI cZ cJ o ad A) (hP : va_P D vwCl (mW cI cZ cJ o ad u) H) (hS : va_S A s.heap H locs) {i v : Int32} {w : mS} (hi : mU u 27 16 i v = some w) (hdg : decode cc pc = .ok (.iastore, 1)) (kk : ∀ H1 locs1, va_P D vwCl (mW cI cZ cJ o ad w) H1 → va_S A s.heap H1 locs1 → W p l e R s m args below meth c H1 locs1 0 0 Q (F0 m (pc + 1) ls rest)) : W p l e R s m args below meth c H locs 0 0 Q (F0 m pc ls (.int v :: .int i :: .ref (ad 27) :: rest)) := by
  obtain ⟨hx, hb, hml, hown, hts, hK, hD, hr, hlocks⟩ := C
  obtain ⟨hj, rfl⟩ := if_so hi
  exact va_iast hx hb hK hP (hD u) hS 22 0 (n := 16) (f := u.2.1 27) rfl rfl (ixb_in hj) hdg (fun H1 locs1 hP1 _ hS1 => kk H1 locs1 hP1 hS1)
theorem ml_months (C : mC p s m args meth c cc nL ret D cI cZ cJ o ad A) (hP : va_P D vwCl (mW cI cZ cJ o ad u) H) {i x : Int32} (hi : mR u 28 4 i = some x) (hdg : decode cc pc = .ok (.iaload, 1)) (kk : W p l e R s m args below meth c H locs 0 0 Q (F0 m (pc + 1) ls (.int x :: rest))) : W p l e R s m args below meth c H locs 0 0 Q (F0 m pc ls (.int i :: .ref (ad 28) :: rest)) := by
  obtain ⟨hx, hb, hml, hown, hts, hK, hD, hr, hlocks⟩ := C
  obtain ⟨hj, rfl⟩ := if_so hi
  exact va_iald hx hb hK hP 23 0 (n := 4) (f := u.2.1 28) rfl rfl (ixb_in hj) hdg kk
set_option maxRecDepth 20000 in
theorem ms_months (C : mC p s m args meth c cc nL ret D cI cZ cJ o ad A) (hP : va_P D vwCl (mW cI cZ cJ o ad u) H) (hS : va_S A s.heap H locs) {i v : Int32} {w : mS} (hi : mU u 28 4 i v = some w) (hdg : decode cc pc = .ok (.iastore, 1)) (kk : ∀ H1 locs1, va_P D vwCl (mW cI cZ cJ o ad w) H1 → va_S A s.heap H1 locs1 → W p l e R s m args below meth c H1 locs1 0 0 Q (F0 m (pc + 1) ls rest)) : W p l e R s m args below meth c H locs 0 0 Q (F0 m pc ls (.int v :: .int i :: .ref (ad 28) :: rest)) := by
  obtain ⟨hx, hb, hml, hown, hts, hK, hD, hr, hlocks⟩ := C
  obtain ⟨hj, rfl⟩ := if_so hi
  exact va_iast hx hb hK hP (hD u) hS 23 0 (n := 4) (f := u.2.1 28) rfl rfl (ixb_in hj) hdg (fun H1 locs1 hP1 _ hS1 => kk H1 locs1 hP1 hS1)
theorem ml_machine (C : mC p s m args meth c cc nL ret D cI cZ cJ o ad A) (hP : va_P D vwCl (mW cI cZ cJ o ad u) H) {i x : Int32} (hi : mR u 30 60 i = some x) (hdg : decode cc pc = .ok (.iaload, 1)) (kk : W p l e R s m args below meth c H locs 0 0 Q (F0 m (pc + 1) ls (.int x :: rest))) : W p l e R s m args below meth c H locs 0 0 Q (F0 m pc ls (.int i :: .ref (ad 30) :: rest)) := by
  obtain ⟨hx, hb, hml, hown, hts, hK, hD, hr, hlocks⟩ := C
  obtain ⟨hj, rfl⟩ := if_so hi
  exact va_iald hx hb hK hP 24 0 (n := 60) (f := u.2.1 30) rfl rfl (ixb_in hj) hdg kk
set_option maxRecDepth 20000 in
theorem ms_machine (C : mC p s m args meth c cc nL ret D cI cZ cJ o ad A) (hP : va_P D vwCl (mW cI cZ cJ o ad u) H) (hS : va_S A s.heap H locs) {i v : Int32} {w : mS} (hi : mU u 30 60 i v = some w) (hdg : decode cc pc = .ok (.iastore, 1)) (kk : ∀ H1 locs1, va_P D vwCl (mW cI cZ cJ o ad w) H1 → va_S A s.heap H1 locs1 → W p l e R s m args below meth c H1 locs1 0 0 Q (F0 m (pc + 1) ls rest)) : W p l e R s m args below meth c H locs 0 0 Q (F0 m pc ls (.int v :: .int i :: .ref (ad 30) :: rest)) := by
  obtain ⟨hx, hb, hml, hown, hts, hK, hD, hr, hlocks⟩ := C
  obtain ⟨hj, rfl⟩ := if_so hi
  exact va_iast hx hb hK hP (hD u) hS 24 0 (n := 60) (f := u.2.1 30) rfl rfl (ixb_in hj) hdg (fun H1 locs1 hP1 _ hS1 => kk H1 locs1 hP1 hS1)
theorem ml_torn (C : mC p s m args meth c cc nL ret D cI cZ cJ o ad A) (hP : va_P D vwCl (mW cI cZ cJ o ad u) H) {i x : Int32} (hi : mR u 31 60 i = some x) (hdg : decode cc pc = .ok (.iaload, 1)) (kk : W p l e R s m args below meth c H locs 0 0 Q (F0 m (pc + 1) ls (.int x :: rest))) : W p l e R s m args below meth c H locs 0 0 Q (F0 m pc ls (.int i :: .ref (ad 31) :: rest)) := by
  obtain ⟨hx, hb, hml, hown, hts, hK, hD, hr, hlocks⟩ := C
  obtain ⟨hj, rfl⟩ := if_so hi
  exact va_iald hx hb hK hP 25 0 (n := 60) (f := u.2.1 31) rfl rfl (ixb_in hj) hdg kk
set_option maxRecDepth 20000 in
theorem ms_torn (C : mC p s m args meth c cc nL ret D cI cZ cJ o ad A) (hP : va_P D vwCl (mW cI cZ cJ o ad u) H) (hS : va_S A s.heap H locs) {i v : Int32} {w : mS} (hi : mU u 31 60 i v = some w) (hdg : decode cc pc = .ok (.iastore, 1)) (kk : ∀ H1 locs1, va_P D vwCl (mW cI cZ cJ o ad w) H1 → va_S A s.heap H1 locs1 → W p l e R s m args below meth c H1 locs1 0 0 Q (F0 m (pc + 1) ls rest)) : W p l e R s m args below meth c H locs 0 0 Q (F0 m pc ls (.int v :: .int i :: .ref (ad 31) :: rest)) := by
  obtain ⟨hx, hb, hml, hown, hts, hK, hD, hr, hlocks⟩ := C
  obtain ⟨hj, rfl⟩ := if_so hi
  exact va_iast hx hb hK hP (hD u) hS 25 0 (n := 60) (f := u.2.1 31) rfl rfl (ixb_in hj) hdg (fun H1 locs1 hP1 _ hS1 => kk H1 locs1 hP1 hS1)
theorem ml_waiting (C : mC p s m args meth c cc nL ret D cI cZ cJ o ad A) (hP : va_P D vwCl (mW cI cZ cJ o ad u) H) {i x : Int32} (hi : mR u 33 20 i = some x) (hdg : decode cc pc = .ok (.iaload, 1)) (kk : W p l e R s m args below meth c H locs 0 0 Q (F0 m (pc + 1) ls (.int x :: rest))) : W p l e R s m args below meth c H locs 0 0 Q (F0 m pc ls (.int i :: .ref (ad 33) :: rest)) := by
  obtain ⟨hx, hb, hml, hown, hts, hK, hD, hr, hlocks⟩ := C
  obtain ⟨hj, rfl⟩ := if_so hi
  exact va_iald hx hb hK hP 26 0 (n := 20) (f := u.2.1 33) rfl rfl (ixb_in hj) hdg kk
set_option maxRecDepth 20000 in
theorem ms_waiting (C : mC p s m args meth c cc nL ret D cI cZ cJ o ad A) (hP : va_P D vwCl (mW cI cZ cJ o ad u) H) (hS : va_S A s.heap H locs) {i v : Int32} {w : mS} (hi : mU u 33 20 i v = some w) (hdg : decode cc pc = .ok (.iastore, 1)) (kk : ∀ H1 locs1, va_P D vwCl (mW cI cZ cJ o ad w) H1 → va_S A s.heap H1 locs1 → W p l e R s m args below meth c H1 locs1 0 0 Q (F0 m (pc + 1) ls rest)) : W p l e R s m args below meth c H locs 0 0 Q (F0 m pc ls (.int v :: .int i :: .ref (ad 33) :: rest)) := by
  obtain ⟨hx, hb, hml, hown, hts, hK, hD, hr, hlocks⟩ := C
  obtain ⟨hj, rfl⟩ := if_so hi
  exact va_iast hx hb hK hP (hD u) hS 26 0 (n := 20) (f := u.2.1 33) rfl rfl (ixb_in hj) hdg (fun H1 locs1 hP1 _ hS1 => kk H1 locs1 hP1 hS1)
theorem ml_found (C : mC p s m args meth c cc nL ret D cI cZ cJ o ad A) (hP : va_P D vwCl (mW cI cZ cJ o ad u) H) {i x : Int32} (hi : mR u 35 6 i = some x) (hdg : decode cc pc = .ok (.iaload, 1)) (kk : W p l e R s m args below meth c H locs 0 0 Q (F0 m (pc + 1) ls (.int x :: rest))) : W p l e R s m args below meth c H locs 0 0 Q (F0 m pc ls (.int i :: .ref (ad 35) :: rest)) := by
  obtain ⟨hx, hb, hml, hown, hts, hK, hD, hr, hlocks⟩ := C
  obtain ⟨hj, rfl⟩ := if_so hi
  exact va_iald hx hb hK hP 27 0 (n := 6) (f := u.2.1 35) rfl rfl (ixb_in hj) hdg kk
set_option maxRecDepth 20000 in
theorem ms_found (C : mC p s m args meth c cc nL ret D cI cZ cJ o ad A) (hP : va_P D vwCl (mW cI cZ cJ o ad u) H) (hS : va_S A s.heap H locs) {i v : Int32} {w : mS} (hi : mU u 35 6 i v = some w) (hdg : decode cc pc = .ok (.iastore, 1)) (kk : ∀ H1 locs1, va_P D vwCl (mW cI cZ cJ o ad w) H1 → va_S A s.heap H1 locs1 → W p l e R s m args below meth c H1 locs1 0 0 Q (F0 m (pc + 1) ls rest)) : W p l e R s m args below meth c H locs 0 0 Q (F0 m pc ls (.int v :: .int i :: .ref (ad 35) :: rest)) := by
  obtain ⟨hx, hb, hml, hown, hts, hK, hD, hr, hlocks⟩ := C
  obtain ⟨hj, rfl⟩ := if_so hi
  exact va_iast hx hb hK hP (hD u) hS 27 0 (n := 6) (f := u.2.1 35) rfl rfl (ixb_in hj) hdg (fun H1 locs1 hP1 _ hS1 => kk H1 locs1 hP1 hS1)
theorem ml_match (C : mC p s m args meth c cc nL ret D cI cZ cJ o ad A) (hP : va_P D vwCl (mW cI cZ cJ o ad u) H) {i x : Int32} (hi : mR u 36 8 i = some x) (hdg : decode cc pc = .ok (.iaload, 1)) (kk : W p l e R s m args below meth c H locs 0 0 Q (F0 m (pc + 1) ls (.int x :: rest))) : W p l e R s m args below meth c H locs 0 0 Q (F0 m pc ls (.int i :: .ref (ad 36) :: rest)) := by
  obtain ⟨hx, hb, hml, hown, hts, hK, hD, hr, hlocks⟩ := C
  obtain ⟨hj, rfl⟩ := if_so hi
  exact va_iald hx hb hK hP 28 0 (n := 8) (f := u.2.1 36) rfl rfl (ixb_in hj) hdg kk
set_option maxRecDepth 20000 in
theorem ms_match (C : mC p s m args meth c cc nL ret D cI cZ cJ o ad A) (hP : va_P D vwCl (mW cI cZ cJ o ad u) H) (hS : va_S A s.heap H locs) {i v : Int32} {w : mS} (hi : mU u 36 8 i v = some w) (hdg : decode cc pc = .ok (.iastore, 1)) (kk : ∀ H1 locs1, va_P D vwCl (mW cI cZ cJ o ad w) H1 → va_S A s.heap H1 locs1 → W p l e R s m args below meth c H1 locs1 0 0 Q (F0 m (pc + 1) ls rest)) : W p l e R s m args below meth c H locs 0 0 Q (F0 m pc ls (.int v :: .int i :: .ref (ad 36) :: rest)) := by
  obtain ⟨hx, hb, hml, hown, hts, hK, hD, hr, hlocks⟩ := C
  obtain ⟨hj, rfl⟩ := if_so hi
  exact va_iast hx hb hK hP (hD u) hS 28 0 (n := 8) (f := u.2.1 36) rfl rfl (ixb_in hj) hdg (fun H1 locs1 hP1 _ hS1 => kk H1 locs1 hP1 hS1)
theorem ml_most (C : mC p s m args meth c cc nL ret D cI cZ cJ o ad A) (hP : va_P D vwCl (mW cI cZ cJ o ad u) H) {i x : Int32} (hi : mR u 37 256 i = some x) (hdg : decode cc pc = .ok (.iaload, 1)) (kk : W p l e R s m args below meth c H locs 0 0 Q (F0 m (pc + 1) ls (.int x :: rest))) : W p l e R s m args below meth c H locs 0 0 Q (F0 m pc ls (.int i :: .ref (ad 37) :: rest)) := by
  obtain ⟨hx, hb, hml, hown, hts, hK, hD, hr, hlocks⟩ := C
  obtain ⟨hj, rfl⟩ := if_so hi
  exact va_iald hx hb hK hP 29 0 (n := 256) (f := u.2.1 37) rfl rfl (ixb_in hj) hdg kk
set_option maxRecDepth 20000 in
theorem ms_most (C : mC p s m args meth c cc nL ret D cI cZ cJ o ad A) (hP : va_P D vwCl (mW cI cZ cJ o ad u) H) (hS : va_S A s.heap H locs) {i v : Int32} {w : mS} (hi : mU u 37 256 i v = some w) (hdg : decode cc pc = .ok (.iastore, 1)) (kk : ∀ H1 locs1, va_P D vwCl (mW cI cZ cJ o ad w) H1 → va_S A s.heap H1 locs1 → W p l e R s m args below meth c H1 locs1 0 0 Q (F0 m (pc + 1) ls rest)) : W p l e R s m args below meth c H locs 0 0 Q (F0 m pc ls (.int v :: .int i :: .ref (ad 37) :: rest)) := by
  obtain ⟨hx, hb, hml, hown, hts, hK, hD, hr, hlocks⟩ := C
  obtain ⟨hj, rfl⟩ := if_so hi
  exact va_iast hx hb hK hP (hD u) hS 29 0 (n := 256) (f := u.2.1 37) rfl rfl (ixb_in hj) hdg (fun H1 locs1 hP1 _ hS1 => kk H1 locs1 hP1 hS1)
theorem ml_next (C : mC p s m args meth c cc nL ret D cI cZ cJ o ad A) (hP : va_P D vwCl (mW cI cZ cJ o ad u) H) {i x : Int32} (hi : mR u 38 256 i = some x) (hdg : decode cc pc = .ok (.iaload, 1)) (kk : W p l e R s m args below meth c H locs 0 0 Q (F0 m (pc + 1) ls (.int x :: rest))) : W p l e R s m args below meth c H locs 0 0 Q (F0 m pc ls (.int i :: .ref (ad 38) :: rest)) := by
  obtain ⟨hx, hb, hml, hown, hts, hK, hD, hr, hlocks⟩ := C
  obtain ⟨hj, rfl⟩ := if_so hi
  exact va_iald hx hb hK hP 30 0 (n := 256) (f := u.2.1 38) rfl rfl (ixb_in hj) hdg kk
set_option maxRecDepth 20000 in
theorem ms_next (C : mC p s m args meth c cc nL ret D cI cZ cJ o ad A) (hP : va_P D vwCl (mW cI cZ cJ o ad u) H) (hS : va_S A s.heap H locs) {i v : Int32} {w : mS} (hi : mU u 38 256 i v = some w) (hdg : decode cc pc = .ok (.iastore, 1)) (kk : ∀ H1 locs1, va_P D vwCl (mW cI cZ cJ o ad w) H1 → va_S A s.heap H1 locs1 → W p l e R s m args below meth c H1 locs1 0 0 Q (F0 m (pc + 1) ls rest)) : W p l e R s m args below meth c H locs 0 0 Q (F0 m pc ls (.int v :: .int i :: .ref (ad 38) :: rest)) := by
  obtain ⟨hx, hb, hml, hown, hts, hK, hD, hr, hlocks⟩ := C
  obtain ⟨hj, rfl⟩ := if_so hi
  exact va_iast hx hb hK hP (hD u) hS 30 0 (n := 256) (f := u.2.1 38) rfl rfl (ixb_in hj) hdg (fun H1 locs1 hP1 _ hS1 => kk H1 locs1 hP1 hS1)
theorem ml_likes (C : mC p s m args meth c cc nL ret D cI cZ cJ o ad A) (hP : va_P D vwCl (mW cI cZ cJ o ad u) H) {i x : Int32} (hi : mR u 39 160 i = some x) (hdg : decode cc pc = .ok (.iaload, 1)) (kk : W p l e R s m args below meth c H locs 0 0 Q (F0 m (pc + 1) ls (.int x :: rest))) : W p l e R s m args below meth c H locs 0 0 Q (F0 m pc ls (.int i :: .ref (ad 39) :: rest)) := by
  obtain ⟨hx, hb, hml, hown, hts, hK, hD, hr, hlocks⟩ := C
  obtain ⟨hj, rfl⟩ := if_so hi
  exact va_iald hx hb hK hP 31 0 (n := 160) (f := u.2.1 39) rfl rfl (ixb_in hj) hdg kk
set_option maxRecDepth 20000 in
theorem ms_likes (C : mC p s m args meth c cc nL ret D cI cZ cJ o ad A) (hP : va_P D vwCl (mW cI cZ cJ o ad u) H) (hS : va_S A s.heap H locs) {i v : Int32} {w : mS} (hi : mU u 39 160 i v = some w) (hdg : decode cc pc = .ok (.iastore, 1)) (kk : ∀ H1 locs1, va_P D vwCl (mW cI cZ cJ o ad w) H1 → va_S A s.heap H1 locs1 → W p l e R s m args below meth c H1 locs1 0 0 Q (F0 m (pc + 1) ls rest)) : W p l e R s m args below meth c H locs 0 0 Q (F0 m pc ls (.int v :: .int i :: .ref (ad 39) :: rest)) := by
  obtain ⟨hx, hb, hml, hown, hts, hK, hD, hr, hlocks⟩ := C
  obtain ⟨hj, rfl⟩ := if_so hi
  exact va_iast hx hb hK hP (hD u) hS 31 0 (n := 160) (f := u.2.1 39) rfl rfl (ixb_in hj) hdg (fun H1 locs1 hP1 _ hS1 => kk H1 locs1 hP1 hS1)
theorem ml_member (C : mC p s m args meth c cc nL ret D cI cZ cJ o ad A) (hP : va_P D vwCl (mW cI cZ cJ o ad u) H) {i x : Int32} (hi : mR u 40 10 i = some x) (hdg : decode cc pc = .ok (.iaload, 1)) (kk : W p l e R s m args below meth c H locs 0 0 Q (F0 m (pc + 1) ls (.int x :: rest))) : W p l e R s m args below meth c H locs 0 0 Q (F0 m pc ls (.int i :: .ref (ad 40) :: rest)) := by
  obtain ⟨hx, hb, hml, hown, hts, hK, hD, hr, hlocks⟩ := C
  obtain ⟨hj, rfl⟩ := if_so hi
  exact va_iald hx hb hK hP 32 0 (n := 10) (f := u.2.1 40) rfl rfl (ixb_in hj) hdg kk
set_option maxRecDepth 20000 in
theorem ms_member (C : mC p s m args meth c cc nL ret D cI cZ cJ o ad A) (hP : va_P D vwCl (mW cI cZ cJ o ad u) H) (hS : va_S A s.heap H locs) {i v : Int32} {w : mS} (hi : mU u 40 10 i v = some w) (hdg : decode cc pc = .ok (.iastore, 1)) (kk : ∀ H1 locs1, va_P D vwCl (mW cI cZ cJ o ad w) H1 → va_S A s.heap H1 locs1 → W p l e R s m args below meth c H1 locs1 0 0 Q (F0 m (pc + 1) ls rest)) : W p l e R s m args below meth c H locs 0 0 Q (F0 m pc ls (.int v :: .int i :: .ref (ad 40) :: rest)) := by
  obtain ⟨hx, hb, hml, hown, hts, hK, hD, hr, hlocks⟩ := C
  obtain ⟨hj, rfl⟩ := if_so hi
  exact va_iast hx hb hK hP (hD u) hS 32 0 (n := 10) (f := u.2.1 40) rfl rfl (ixb_in hj) hdg (fun H1 locs1 hP1 _ hS1 => kk H1 locs1 hP1 hS1)
theorem ml_fewest (C : mC p s m args meth c cc nL ret D cI cZ cJ o ad A) (hP : va_P D vwCl (mW cI cZ cJ o ad u) H) {i x : Int32} (hi : mR u 42 1024 i = some x) (hdg : decode cc pc = .ok (.iaload, 1)) (kk : W p l e R s m args below meth c H locs 0 0 Q (F0 m (pc + 1) ls (.int x :: rest))) : W p l e R s m args below meth c H locs 0 0 Q (F0 m pc ls (.int i :: .ref (ad 42) :: rest)) := by
  obtain ⟨hx, hb, hml, hown, hts, hK, hD, hr, hlocks⟩ := C
  obtain ⟨hj, rfl⟩ := if_so hi
  exact va_iald hx hb hK hP 33 0 (n := 1024) (f := u.2.1 42) rfl rfl (ixb_in hj) hdg kk
set_option maxRecDepth 20000 in
theorem ms_fewest (C : mC p s m args meth c cc nL ret D cI cZ cJ o ad A) (hP : va_P D vwCl (mW cI cZ cJ o ad u) H) (hS : va_S A s.heap H locs) {i v : Int32} {w : mS} (hi : mU u 42 1024 i v = some w) (hdg : decode cc pc = .ok (.iastore, 1)) (kk : ∀ H1 locs1, va_P D vwCl (mW cI cZ cJ o ad w) H1 → va_S A s.heap H1 locs1 → W p l e R s m args below meth c H1 locs1 0 0 Q (F0 m (pc + 1) ls rest)) : W p l e R s m args below meth c H locs 0 0 Q (F0 m pc ls (.int v :: .int i :: .ref (ad 42) :: rest)) := by
  obtain ⟨hx, hb, hml, hown, hts, hK, hD, hr, hlocks⟩ := C
  obtain ⟨hj, rfl⟩ := if_so hi
  exact va_iast hx hb hK hP (hD u) hS 33 0 (n := 1024) (f := u.2.1 42) rfl rfl (ixb_in hj) hdg (fun H1 locs1 hP1 _ hS1 => kk H1 locs1 hP1 hS1)
theorem ml_isLot (C : mC p s m args meth c cc nL ret D cI cZ cJ o ad A) (hP : va_P D vwCl (mW cI cZ cJ o ad u) H) {i x : Int32} (hi : mR u 43 1024 i = some x) (hdg : decode cc pc = .ok (.baload, 1)) (kk : W p l e R s m args below meth c H locs 0 0 Q (F0 m (pc + 1) ls (.int x :: rest))) : W p l e R s m args below meth c H locs 0 0 Q (F0 m pc ls (.int i :: .ref (ad 43) :: rest)) := by
  obtain ⟨hx, hb, hml, hown, hts, hK, hD, hr, hlocks⟩ := C
  obtain ⟨hj, rfl⟩ := if_so hi
  exact va_zald hx hb hK hP 34 1 (n := 1024) (f := u.2.1 43) rfl rfl (ixb_in hj) hdg kk
set_option maxRecDepth 20000 in
theorem ms_isLot (C : mC p s m args meth c cc nL ret D cI cZ cJ o ad A) (hP : va_P D vwCl (mW cI cZ cJ o ad u) H) (hS : va_S A s.heap H locs) {i v : Int32} {w : mS} (hi : mU u 43 1024 i (vp_nar .boolean v) = some w) (hdg : decode cc pc = .ok (.bastore, 1)) (kk : ∀ H1 locs1, va_P D vwCl (mW cI cZ cJ o ad w) H1 → va_S A s.heap H1 locs1 → W p l e R s m args below meth c H1 locs1 0 0 Q (F0 m (pc + 1) ls rest)) : W p l e R s m args below meth c H locs 0 0 Q (F0 m pc ls (.int v :: .int i :: .ref (ad 43) :: rest)) := by
  obtain ⟨hx, hb, hml, hown, hts, hK, hD, hr, hlocks⟩ := C
  obtain ⟨hj, rfl⟩ := if_so hi
  exact va_zast hx hb hK hP (hD u) hS 34 1 (n := 1024) (f := u.2.1 43) rfl rfl (ixb_in hj) hdg (fun H1 locs1 hP1 _ hS1 => kk H1 locs1 hP1 hS1)
theorem ml_ways (C : mC p s m args meth c cc nL ret D cI cZ cJ o ad A) (hP : va_P D vwCl (mW cI cZ cJ o ad u) H) {i : Int32} {x : Int64} (hi : mRL u 3721 i = some x) (hdg : decode cc pc = .ok (.laload, 1)) (kk : W p l e R s m args below meth c H locs 0 0 Q (F0 m (pc + 1) ls (.long x :: rest))) : W p l e R s m args below meth c H locs 0 0 Q (F0 m pc ls (.int i :: .ref (ad 44) :: rest)) := by
  obtain ⟨hx, hb, hml, hown, hts, hK, hD, hr, hlocks⟩ := C
  obtain ⟨hj, rfl⟩ := if_so hi
  exact va_lald hx hb hK hP 35 2 (n := 3721) (f := u.2.2) rfl rfl (ixb_in hj) hdg kk
set_option maxRecDepth 20000 in
theorem ms_ways (C : mC p s m args meth c cc nL ret D cI cZ cJ o ad A) (hP : va_P D vwCl (mW cI cZ cJ o ad u) H) (hS : va_S A s.heap H locs) {i : Int32} {v : Int64} {w : mS} (hi : mUL u 3721 i v = some w) (hdg : decode cc pc = .ok (.lastore, 1)) (kk : ∀ H1 locs1, va_P D vwCl (mW cI cZ cJ o ad w) H1 → va_S A s.heap H1 locs1 → W p l e R s m args below meth c H1 locs1 0 0 Q (F0 m (pc + 1) ls rest)) : W p l e R s m args below meth c H locs 0 0 Q (F0 m pc ls (.long v :: .int i :: .ref (ad 44) :: rest)) := by
  obtain ⟨hx, hb, hml, hown, hts, hK, hD, hr, hlocks⟩ := C
  obtain ⟨hj, rfl⟩ := if_so hi
  exact va_last hx hb hK hP (hD u) hS 35 2 (n := 3721) (f := u.2.2) rfl rfl (ixb_in hj) hdg (fun H1 locs1 hP1 _ hS1 => kk H1 locs1 hP1 hS1)
end MX
