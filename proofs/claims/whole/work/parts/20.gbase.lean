/-! the class' memory: an address map -/
abbrev gE : Type := (Nat × vp_A) ⊕ (Nat × List Value)
abbrev gM : Type := Nat → Option gE
abbrev gN : Type := gM × Nat × Nat
abbrev gEnv : Type := va_G × (Nat → ClassId) × (Nat → Prop) × (Nat → Nat)
def gx (ac : Nat → ClassId) (e : gE) : va_E := match e with
  | .inl a => .inl (ac a.1, a.2)
  | .inr o => .inr o
abbrev gT (ac : Nat → ClassId) : List (ClassId × FieldType) := [(ac 0, .int), (ac 1, .long), (ac 2, .object "java/lang/Object"), (ac 3, .boolean)]
def gAg (Γ : gEnv) (G : gM) (N : Nat) (H : Heap) : Prop := H.size = N ∧ ∀ (a : Nat) (e : gE), G a = some e → va_at Γ.1 vwCl (a, gx Γ.2.1 e) H ∧ Γ.2.2.1 a
theorem gAg.lt {Γ : gEnv} {G : gM} {N : Nat} {H : Heap} (h : gAg Γ G N H) {a : Nat} {e : gE} (ha : G a = some e) : a < N := by
  rw [← h.1]
  exact (h.2 a e ha).1.lt
theorem gAg.P1 {Γ : gEnv} {G : gM} {N : Nat} {H : Heap} (h : gAg Γ G N H) {a : Nat} {e : gE} (ha : G a = some e) : va_P Γ.1 vwCl [(a, gx Γ.2.1 e)] H := by
  intro k q hk
  match k, hk with
  | 0, hk => cases hk; exact (h.2 a e ha).1
  | k + 1, hk => simp at hk
theorem gAg.set {Γ : gEnv} {G : gM} {N : Nat} {H H1 : Heap} (h : gAg Γ G N H) {a : Nat} {e0 e : gE} (ha : G a = some e0) (hA : Γ.2.2.1 a) (he : va_at Γ.1 vwCl (a, gx Γ.2.1 e) H1) (z : H1.size = H.size) (oq : ∀ q : Nat, q ≠ a → H1[q]? = H[q]?) : gAg Γ (va_up G a (some e)) N H1 := by
  refine ⟨z.trans h.1, fun b x hb => ?_⟩
  by_cases hq : b = a
  · subst hq
    simp [va_up] at hb
    subst hb
    exact ⟨he, hA⟩
  · simp [va_up, hq] at hb
    exact ⟨(h.2 b x hb).1.kept (oq b hq), (h.2 b x hb).2⟩
theorem gAg.push {Γ : gEnv} {G : gM} {N : Nat} {H H1 : Heap} (h : gAg Γ G N H) {e : gE} (hA : Γ.2.2.1 N) (he : va_at Γ.1 vwCl (N, gx Γ.2.1 e) H1) (z : H1.size = N + 1) (oq : ∀ q : Nat, q < N → H1[q]? = H[q]?) : gAg Γ (va_up G N (some e)) (N + 1) H1 := by
  refine ⟨z, fun b x hb => ?_⟩
  by_cases hq : b = N
  · subst hq
    simp [va_up] at hb
    subst hb
    exact ⟨he, hA⟩
  · simp [va_up, hq] at hb
    exact ⟨(h.2 b x hb).1.kept (oq b (h.lt hb)), (h.2 b x hb).2⟩
def tenA (j : Nat) : Int32 := ([1, 10, 100, 1000, 10000, 100000, 1000000, 10000000, 100000000] : List Int32).getD j 0
def plA (j : Nat) : Int64 := ([1801088541, 85766121, 4084101, 194481, 9261, 441, 21, 1] : List Int64).getD j 0
theorem nW_warm {w : Cond} {s U : State} (h : nK w = true) (hW : s.WarmedH U.vm) (hZ : va_Nw w s) : va_Nw w U := by
  cases w with
  | fieldLinkNest a i b n d h => exact va_Nw.warmF hW hZ
  | methodLinkNest a i x h => exact va_Nw.warmM hW hZ
  | castable a b => exact va_Nw.warmC hW hZ
  | declares x => exact va_Nw.warmD hW hZ
  | _ => cases h
def gZ (Γ : gEnv) (U : State) : Prop :=
  (va_Z "java/util/ArrayList" "DEFAULTCAPACITY_EMPTY_ELEMENTDATA" "[Ljava/lang/Object;" (.ref (Γ.2.2.2 0)) Γ.2.2.1 U U.heap ∧ va_T (.object "java/lang/Object") (Γ.2.2.2 0) 0 (fun _ => .null) Γ.2.2.1 U U.heap) ∧
  (va_Z "LostParcels" "TENS" "[I" (.ref (Γ.2.2.2 1)) Γ.2.2.1 U U.heap ∧ va_T .int (Γ.2.2.2 1) 9 (fun j => .int (tenA j)) Γ.2.2.1 U U.heap) ∧
  (va_Z "LostParcels$Matching" "PLACES" "[J" (.ref (Γ.2.2.2 2)) Γ.2.2.1 U U.heap ∧ va_T .long (Γ.2.2.2 2) 8 (fun j => .long (plA j)) Γ.2.2.1 U U.heap) ∧
  (∀ w ∈ nW, va_Nw w U) ∧ va_AO "java/lang/Object" U ∧ va_Mi "[Ljava/lang/Object;" (Γ.2.2.2 3) U ∧ va_Nc "LostParcels$Thing" "LostParcels$Purse" U
theorem gZ.at {Γ : gEnv} {s U : State} {H : Heap} (h : gZ Γ s) (hU : U.heap = H) (hk : ∀ a : Nat, a < s.heap.size → ¬ Γ.2.2.1 a → H[a]? = s.heap[a]?) (hW : s.WarmedH U.vm) : gZ Γ U := by
  subst hU
  have hal := hW.alike
  obtain ⟨⟨h1, h0⟩, ⟨h2, h3⟩, ⟨h4, h5⟩, h6, h7, h8, h9⟩ := h
  exact ⟨⟨(h1.kept hk).moved hal, (h0.kept hk).moved hal⟩, ⟨(h2.kept hk).moved hal, (h3.kept hk).moved hal⟩, ⟨(h4.kept hk).moved hal, (h5.kept hk).moved hal⟩, fun w hw => nW_warm (List.mem_filter.mp hw).2 hW (h6 w hw), h7.moved hal, h8.moved hal, h9.moved hal⟩
theorem vwOk (ci : Nat) (q : vw_C) (h : vwCl[ci]? = some q) : (∀ w ∈ u_ws q.1 q.2.1 q.2.2, w ∈ gW) ∧ (∃ ty0 : Nat → FieldType, ∀ k, k < q.2.2 → parseFieldDescriptor (q.2.1 k).2.2.1 = some (ty0 k)) ∧ ∀ a, a < q.2.2 → ∀ b, b < q.2.2 → a ≠ b → (q.2.1 a).2.1 ≠ (q.2.1 b).2.1 := by
  match ci, h with
  | 0, h => cases h; exact ⟨by decide +kernel, ⟨tyJx4a65c, tyJx4a65c_ok⟩, nmJx4a65c⟩
  | 1, h => cases h; exact ⟨by decide +kernel, ⟨tyX0, tyX0_ok⟩, nmX0⟩
  | 2, h => cases h; exact ⟨by decide +kernel, ⟨tyX1, tyX1_ok⟩, nmX1⟩
  | 3, h => cases h; exact ⟨by decide +kernel, ⟨tyX2, tyX2_ok⟩, nmX2⟩
  | 4, h => cases h; exact ⟨by decide +kernel, ⟨tyX3, tyX3_ok⟩, nmX3⟩
  | 5, h => cases h; exact ⟨by decide +kernel, ⟨tyX4, tyX4_ok⟩, nmX4⟩
  | 6, h => cases h; exact ⟨by decide +kernel, ⟨tyX5, tyX5_ok⟩, nmX5⟩
  | 7, h => cases h; exact ⟨by decide +kernel, ⟨tyX6, tyX6_ok⟩, nmX6⟩
  | 8, h => cases h; exact ⟨by decide +kernel, ⟨tyX7, tyX7_ok⟩, nmX7⟩
  | 9, h => cases h; exact ⟨by decide +kernel, ⟨tyX8, tyX8_ok⟩, nmX8⟩
  | 10, h => cases h; exact ⟨by decide +kernel, ⟨tyX9, tyX9_ok⟩, nmX9⟩
  | 11, h => cases h; exact ⟨inX10g, ⟨tyX10, tyX10_ok⟩, nmX10⟩
  | ci + 12, h => simp at h
def gO (cs : List Nat) (G : gM) (a : Nat) : Option (Nat × List Value) := match G a with
  | some (.inr (ci, fs)) => if cs.contains ci = true then some (ci, fs) else none
  | _ => none
theorem gO_inv {cs : List Nat} {G : gM} {a ci : Nat} {fs : List Value} (h : gO cs G a = some (ci, fs)) : G a = some (.inr (ci, fs)) ∧ ci ∈ cs := by
  unfold gO at h
  split at h
  · next ci' fs' hG =>
    obtain ⟨h1, h2⟩ := if_so h
    cases h2
    exact ⟨hG, List.contains_iff_mem.mp h1⟩
  · cases h
def vI : Value → Option Int32
  | .int x => some x
  | _ => none
def vR : Value → Option (Option Nat)
  | .ref b => some (some b)
  | .null => some none
  | _ => none
theorem vI_inv {v : Value} {x : Int32} (h : vI v = some x) : v = .int x := by
  cases v <;> simp [vI] at h
  rw [h]
theorem vR_inv {v : Value} {x : Option Nat} (h : vR v = some x) : v = va_rf x := by
  cases v <;> simp [vR] at h <;> subst h <;> rfl
def gI (cs : List Nat) (k : Nat) (G : gM) (a : Nat) : Option Int32 := (gO cs G a).bind fun q => (q.2[k]?).bind vI
def gR (cs : List Nat) (k : Nat) (G : gM) (a : Nat) : Option (Option Nat) := (gO cs G a).bind fun q => (q.2[k]?).bind vR
theorem gI_inv {cs : List Nat} {k : Nat} {G : gM} {a : Nat} {x : Int32} (h : gI cs k G a = some x) : ∃ ci fs, G a = some (.inr (ci, fs)) ∧ ci ∈ cs ∧ fs[k]? = some (.int x) := by
  obtain ⟨⟨ci, fs⟩, h1, h⟩ := ob h
  obtain ⟨v, h2, h⟩ := ob h
  exact ⟨ci, fs, (gO_inv h1).1, (gO_inv h1).2, by rw [← vI_inv h]; exact h2⟩
theorem gR_inv {cs : List Nat} {k : Nat} {G : gM} {a : Nat} {x : Option Nat} (h : gR cs k G a = some x) : ∃ ci fs, G a = some (.inr (ci, fs)) ∧ ci ∈ cs ∧ fs[k]? = some (va_rf x) := by
  obtain ⟨⟨ci, fs⟩, h1, h⟩ := ob h
  obtain ⟨v, h2, h⟩ := ob h
  exact ⟨ci, fs, (gO_inv h1).1, (gO_inv h1).2, by rw [← vR_inv h]; exact h2⟩
def pV (cs : List Nat) (k : Nat) (v : Value) (G : gM) (a : Nat) : Option gM := (gO cs G a).bind fun q => if k < q.2.length then some (va_up G a (some (.inr (q.1, q.2.set k v)))) else none
theorem pV_inv {cs : List Nat} {k : Nat} {v : Value} {G G' : gM} {a : Nat} (h : pV cs k v G a = some G') : ∃ ci fs, G a = some (.inr (ci, fs)) ∧ ci ∈ cs ∧ k < fs.length ∧ G' = va_up G a (some (.inr (ci, fs.set k v))) := by
  obtain ⟨⟨ci, fs⟩, h1, h⟩ := ob h
  obtain ⟨h2, h3⟩ := if_so h
  exact ⟨ci, fs, (gO_inv h1).1, (gO_inv h1).2, h2, h3.symm⟩
def aI (G : gM) (a : Nat) (i : Int32) : Option Int32 := match G a with
  | some (.inl (0, n, .inl f)) => if ixb i n = true then some (f i.toNatClampNeg) else none
  | _ => none
def aJ (G : gM) (a : Nat) (i : Int32) : Option Int64 := match G a with
  | some (.inl (1, n, .inr (.inl f))) => if ixb i n = true then some (f i.toNatClampNeg) else none
  | _ => none
def aQ (G : gM) (a : Nat) (i : Int32) : Option (Option Nat) := match G a with
  | some (.inl (2, n, .inr (.inr (.inr (.inr f))))) => if ixb i n = true then some (f i.toNatClampNeg) else none
  | _ => none
def uI (G : gM) (a : Nat) (i v : Int32) : Option gM := match G a with
  | some (.inl (0, n, .inl f)) => if ixb i n = true then some (va_up G a (some (.inl (0, n, .inl (upd f i.toNatClampNeg v))))) else none
  | _ => none
def uJ (G : gM) (a : Nat) (i : Int32) (v : Int64) : Option gM := match G a with
  | some (.inl (1, n, .inr (.inl f))) => if ixb i n = true then some (va_up G a (some (.inl (1, n, .inr (.inl (vp_updL f i.toNatClampNeg v)))))) else none
  | _ => none
def oL : List Nat := [1, 6, 8, 9]
def okQ (G : gM) (v : Option Nat) : Bool := match v with
  | none => true
  | some b => (gO oL G b).isSome
def uQ (G : gM) (a : Nat) (i : Int32) (v : Option Nat) : Option gM := match G a with
  | some (.inl (2, n, .inr (.inr (.inr (.inr f))))) => if (ixb i n && okQ G v) = true then some (va_up G a (some (.inl (2, n, .inr (.inr (.inr (.inr (va_up f i.toNatClampNeg v)))))))) else none
  | _ => none
def aN (G : gM) (a : Nat) : Option Int32 := match G a with
  | some (.inl (t, n, _)) => if t < 3 then some (Int32.ofNat n) else none
  | _ => none
theorem aI_inv {G : gM} {a : Nat} {i x : Int32} (h : aI G a i = some x) : ∃ n f, G a = some (.inl (0, n, .inl f)) ∧ ixb i n = true ∧ f i.toNatClampNeg = x := by
  unfold aI at h
  split at h
  · next n f hG => obtain ⟨h1, h2⟩ := if_so h; exact ⟨n, f, hG, h1, h2⟩
  · cases h
theorem aJ_inv {G : gM} {a : Nat} {i : Int32} {x : Int64} (h : aJ G a i = some x) : ∃ n f, G a = some (.inl (1, n, .inr (.inl f))) ∧ ixb i n = true ∧ f i.toNatClampNeg = x := by
  unfold aJ at h
  split at h
  · next n f hG => obtain ⟨h1, h2⟩ := if_so h; exact ⟨n, f, hG, h1, h2⟩
  · cases h
theorem aQ_inv {G : gM} {a : Nat} {i : Int32} {x : Option Nat} (h : aQ G a i = some x) : ∃ n f, G a = some (.inl (2, n, .inr (.inr (.inr (.inr f))))) ∧ ixb i n = true ∧ f i.toNatClampNeg = x := by
  unfold aQ at h
  split at h
  · next n f hG => obtain ⟨h1, h2⟩ := if_so h; exact ⟨n, f, hG, h1, h2⟩
  · cases h
theorem uI_inv {G G' : gM} {a : Nat} {i v : Int32} (h : uI G a i v = some G') : ∃ n f, G a = some (.inl (0, n, .inl f)) ∧ ixb i n = true ∧ G' = va_up G a (some (.inl (0, n, .inl (upd f i.toNatClampNeg v)))) := by
  unfold uI at h
  split at h
  · next n f hG => obtain ⟨h1, h2⟩ := if_so h; exact ⟨n, f, hG, h1, h2.symm⟩
  · cases h
theorem uJ_inv {G G' : gM} {a : Nat} {i : Int32} {v : Int64} (h : uJ G a i v = some G') : ∃ n f, G a = some (.inl (1, n, .inr (.inl f))) ∧ ixb i n = true ∧ G' = va_up G a (some (.inl (1, n, .inr (.inl (vp_updL f i.toNatClampNeg v))))) := by
  unfold uJ at h
  split at h
  · next n f hG => obtain ⟨h1, h2⟩ := if_so h; exact ⟨n, f, hG, h1, h2.symm⟩
  · cases h
theorem uQ_inv {G G' : gM} {a : Nat} {i : Int32} {v : Option Nat} (h : uQ G a i v = some G') : ∃ n f, G a = some (.inl (2, n, .inr (.inr (.inr (.inr f))))) ∧ ixb i n = true ∧ okQ G v = true ∧ G' = va_up G a (some (.inl (2, n, .inr (.inr (.inr (.inr (va_up f i.toNatClampNeg v))))))) := by
  unfold uQ at h
  split at h
  · next n f hG =>
    obtain ⟨h1, h2⟩ := if_so h
    rw [Bool.and_eq_true] at h1
    exact ⟨n, f, hG, h1.1, h1.2, h2.symm⟩
  · cases h
theorem aN_inv {G : gM} {a : Nat} {x : Int32} (h : aN G a = some x) : ∃ t n f, G a = some (.inl (t, n, f)) ∧ t < 3 ∧ Int32.ofNat n = x := by
  unfold aN at h
  split at h
  · next t n f hG => obtain ⟨h1, h2⟩ := if_so h; exact ⟨t, n, f, hG, h1, h2⟩
  · cases h
theorem gw_pos {Γ : gEnv} {G : gM} {N : Nat} {H : Heap} (h : gAg Γ G N H) {a : Nat} {t n : Nat} {f : (Nat → Int32) ⊕ (Nat → Int64) ⊕ (Nat → UInt32) ⊕ (Nat → UInt64) ⊕ (Nat → Option Nat)} (ha : G a = some (.inl (t, n, f))) {i : Int32} (_ : ixb i n = true) : Γ.2.2.1 a := by
  exact (h.2 a _ ha).2
theorem gw_obj {Γ : gEnv} {G : gM} {N : Nat} {H : Heap} (h : gAg Γ G N H) {a ci : Nat} {fs : List Value} (ha : G a = some (.inr (ci, fs))) : Γ.2.2.1 a := by
  exact (h.2 a _ ha).2
/-- what holds inside a method of the class, or of a list -/
def gC (p : Program) (s : State) (m : MethodId) (args : Array Value) (meth : Method) (c : Code) (cc : ByteArray) (nL : Nat) (ret : Option FieldType) (own nm : String) (Γ : gEnv) : Prop :=
  p.tables.exec = Jvm.exec ∧ c.code = cc ∧ c.maxLocals = nL ∧ s.vm.findClass own = some m.cls ∧ (∀ w ∈ gW, w.before args s = true) ∧ va_K Γ.1 vwCl (gT Γ.2.1) s ∧ gZ Γ s ∧ (∀ q : Nat, s.heap.size ≤ q → Γ.2.2.1 q) ∧ meth.sig.returnType = ret ∧ meth.locks = false ∧ meth.name = nm
def gPre (Γ : gEnv) (G : gM) (N : Nat) (U : State) : Prop := gAg Γ G N U.heap ∧ va_K Γ.1 vwCl (gT Γ.2.1) U ∧ gZ Γ U ∧ ∀ q : Nat, U.heap.size ≤ q → Γ.2.2.1 q
def gQ (Γ : gEnv) (o : Option Value) (G : gM) (N : Nat) : Array Value → State → Outcome → State → Prop := fun _ st oc t => oc = .returned o ∧ gAg Γ G N t.heap ∧ va_F Γ.2.2.1 st t
theorem gPre_blind {Γ : gEnv} {G : gM} {N : Nat} {vs : List Value} : FrameBlind (va_Pc vs (gPre Γ G N)) :=
  fun a U g mk q => ⟨q.1, q.2.1, va_K.moved (u := U) (U := U.calling g mk a) (Vm.Alike.refl U.vm) q.2.2.1, by
    obtain ⟨⟨h1, h0⟩, ⟨h2, h3⟩, ⟨h4, h5⟩, h6, h7, h8, h9⟩ := q.2.2.2.1
    have hal : U.vm.Alike (U.calling g mk a).vm := Vm.Alike.refl U.vm
    exact ⟨⟨h1.moved hal, h0.moved hal⟩, ⟨h2.moved hal, h3.moved hal⟩, ⟨h4.moved hal, h5.moved hal⟩, fun w hw => va_Nw.same (u := U) (U := U.calling g mk a) (by
      have hk := (List.mem_filter.mp hw).2
      cases w <;> first | rfl | cases hk) rfl (h6 w hw), h7.moved hal, h8.moved hal, h9.moved hal⟩, q.2.2.2.2⟩
section GX
variable {p : Program} {l : Launch} {e : Env} {R : Room} {s : State} {m : MethodId} {args : Array Value} {below : List Frame} {meth : Method} {c : Code} {H : Heap} {locs : List Loc} {cells slots : Nat} {Q : State → Prop}
variable {cc : ByteArray} {nL pc : Nat} {ret : Option FieldType} {own nm : String} {Γ : gEnv} {G : gM} {N : Nat} {ls : Array Slot} {rest st : List Value}
theorem gx_pre (C : gC p s m args meth c cc nL ret own nm Γ) (hG : gAg Γ G N H) (hS : va_S Γ.2.2.1 s.heap H locs) {U : State} (hU : U.heap = H) (hW : s.WarmedH U.vm) : gPre Γ G N U := by
  obtain ⟨hx, hb, hml, hown, hts, hK, hZ, hA, -⟩ := C
  exact ⟨by rw [hU]; exact hG, va_K.moved hW.alike hK, hZ.at hU hS.2.1 hW, fun q h => hA q (Nat.le_trans hS.1 (by rw [← hU]; exact h))⟩
theorem gx_topI {x y : Int32} (h : y = x) (k : W p l e R s m args below meth c H locs cells slots Q (F0 m pc ls (.int y :: rest))) : W p l e R s m args below meth c H locs cells slots Q (F0 m pc ls (.int x :: rest)) := h ▸ k
theorem gx_topJ {x y : Int64} (h : y = x) (k : W p l e R s m args below meth c H locs cells slots Q (F0 m pc ls (.long y :: rest))) : W p l e R s m args below meth c H locs cells slots Q (F0 m pc ls (.long x :: rest)) := h ▸ k
theorem gx_aload_n (hx : p.tables.exec = Jvm.exec) (hb : c.code = cc) {k : Fin 4} {i : Nat} {r : Option Nat} (hdg : decode cc pc = .ok (.aload_n k, 1)) (hi : (k : Nat) = i) (hl : ls[i]? = some (.val (va_rf r))) (kk : W p l e R s m args below meth c H locs cells slots Q (F0 m (pc + 1) ls (va_rf r :: rest))) : W p l e R s m args below meth c H locs cells slots Q (F0 m pc ls rest) := by
  cases r with
  | none => exact lv_aload_nN hx hb hdg hi hl kk
  | some a => exact lv_aload_n hx hb hdg hi hl kk
theorem gx_aload (hx : p.tables.exec = Jvm.exec) (hb : c.code = cc) {i : Nat} {r : Option Nat} (hdg : decode cc pc = .ok (.aload i, 2)) (hl : ls[i]? = some (.val (va_rf r))) (kk : W p l e R s m args below meth c H locs cells slots Q (F0 m (pc + 1 + 1) ls (va_rf r :: rest))) : W p l e R s m args below meth c H locs cells slots Q (F0 m pc ls rest) := by
  cases r with
  | none => exact lv_aloadN hx hb hdg hl kk
  | some a => exact lv_aload hx hb hdg hl kk
theorem gx_astore_n (hx : p.tables.exec = Jvm.exec) (hb : c.code = cc) {k : Fin 4} {i nL : Nat} {r : Option Nat} {lv lv' : List (Nat × Value)} (hdg : decode cc pc = .ok (.astore_n k, 1)) (hi : (k : Nat) = i) (h : lv_has ls nL lv) (hn : i < nL) (hl : (i, va_rf r) :: lv.filter (fun q => !(q.1 == i) && !(q.1 + 1 == i && q.2.category == 2)) = lv') (kk : ∀ ls', lv_has ls' nL lv' → W p l e R s m args below meth c H locs cells slots Q (F0 m (pc + 1) ls' rest)) : W p l e R s m args below meth c H locs cells slots Q (F0 m pc ls (va_rf r :: rest)) := by
  cases r with
  | none => exact lv_astore_nN hx hb hdg hi h hn hl kk
  | some a => exact lv_astore_n hx hb hdg hi h hn hl kk
theorem gx_astore (hx : p.tables.exec = Jvm.exec) (hb : c.code = cc) {i nL : Nat} {r : Option Nat} {lv lv' : List (Nat × Value)} (hdg : decode cc pc = .ok (.astore i, 2)) (h : lv_has ls nL lv) (hn : i < nL) (hl : (i, va_rf r) :: lv.filter (fun q => !(q.1 == i) && !(q.1 + 1 == i && q.2.category == 2)) = lv') (kk : ∀ ls', lv_has ls' nL lv' → W p l e R s m args below meth c H locs cells slots Q (F0 m (pc + 2) ls' rest)) : W p l e R s m args below meth c H locs cells slots Q (F0 m pc ls (va_rf r :: rest)) := by
  cases r with
  | none => exact lv_astoreN hx hb hdg h hn hl kk
  | some a => exact lv_astore hx hb hdg h hn hl kk
theorem gx_null (hx : p.tables.exec = Jvm.exec) (hb : c.code = cc) (hdg : decode cc pc = .ok (.aconst_null, 1)) (k : W p l e R s m args below meth c H locs cells slots Q (F0 m (pc + 1) ls (va_rf none :: rest))) : W p l e R s m args below meth c H locs cells slots Q (F0 m pc ls rest) := lv_null hx hb hdg k
theorem gx_cat (r : Option Nat) : (va_rf r).category = 1 := by cases r <;> rfl
theorem gx_ifnull (hx : p.tables.exec = Jvm.exec) (hb : c.code = cc) {r : Option Nat} {off : Int} {tgt : Nat} (hdg : decode cc pc = .ok (.ifnull off, 3)) (ht : (pc : Int) + off = (tgt : Int)) (kt : r = none → W p l e R s m args below meth c H locs cells slots Q (F0 m tgt ls rest)) (kf : ¬ r = none → W p l e R s m args below meth c H locs cells slots Q (F0 m (pc + 3) ls rest)) : W p l e R s m args below meth c H locs cells slots Q (F0 m pc ls (va_rf r :: rest)) := by
  cases r with
  | none => exact lv_ifnullN hx hb hdg ht (kt rfl)
  | some a => exact lv_ifnull hx hb hdg (kf (by simp))
theorem gx_ifnonnull (hx : p.tables.exec = Jvm.exec) (hb : c.code = cc) {r : Option Nat} {off : Int} {tgt : Nat} (hdg : decode cc pc = .ok (.ifnonnull off, 3)) (ht : (pc : Int) + off = (tgt : Int)) (kt : ¬ r = none → W p l e R s m args below meth c H locs cells slots Q (F0 m tgt ls rest)) (kf : r = none → W p l e R s m args below meth c H locs cells slots Q (F0 m (pc + 3) ls rest)) : W p l e R s m args below meth c H locs cells slots Q (F0 m pc ls (va_rf r :: rest)) := by
  cases r with
  | none => exact lv_ifnonnullN hx hb hdg (kf rfl)
  | some a => exact lv_ifnonnull hx hb hdg ht (kt (by simp))
theorem gx_get (C : gC p s m args meth c cc nL ret own nm Γ) (hG : gAg Γ G N H) {r : Option Nat} {a ci k idx : Nat} {ref : String} {cs : List Nat} {fs : List Value} {v : Value} (hr : r = some a) (ha : G a = some (.inr (ci, fs))) (hci : ci ∈ cs) (hv : fs[k]? = some v) (hf : fOkG own idx ref cs k = true) (hdg : decode cc pc = .ok (.getfield idx, 3)) (kk : W p l e R s m args below meth c H locs cells slots Q (F0 m (pc + 3) ls (v :: rest))) : W p l e R s m args below meth c H locs cells slots Q (F0 m pc ls (va_rf r :: rest)) := by
  obtain ⟨hx, hb, hml, hown, hts, hK, -⟩ := C
  subst hr
  have h1 := List.all_eq_true.mp hf ci hci
  cases hq : vwCl[ci]? with
  | none => rw [hq] at h1; cases h1
  | some q =>
    rw [hq] at h1
    simp only [Bool.and_eq_true, Bool.or_eq_true, decide_eq_true_eq] at h1
    obtain ⟨⟨hk, hl⟩, hs⟩ := h1
    exact va_get (D := Γ.1) (cl := vwCl) (ci := ci) (C := q.1) (T := q.2.1) (N := q.2.2) hx hb hts (vwOk ci q hq).1 hown hK (hG.P1 ha) 0 rfl hq k hk (hts _ (gW_mem hl)) (fun x hx => by
      rcases hs with hs | hs
      · rw [← hs]; exact hx
      · exact u_same (hts _ (gW_mem hs)) x hx) hv hdg kk
theorem gx_getI (C : gC p s m args meth c cc nL ret own nm Γ) (hG : gAg Γ G N H) {r : Option Nat} {a k idx : Nat} {ref : String} {cs : List Nat} {x : Int32} (hr : r = some a) (hv : gI cs k G a = some x) (hf : fOkG own idx ref cs k = true) (hdg : decode cc pc = .ok (.getfield idx, 3)) (kk : W p l e R s m args below meth c H locs cells slots Q (F0 m (pc + 3) ls (.int x :: rest))) : W p l e R s m args below meth c H locs cells slots Q (F0 m pc ls (va_rf r :: rest)) := by
  obtain ⟨ci, fs, h1, h2, h3⟩ := gI_inv hv
  exact gx_get C hG hr h1 h2 h3 hf hdg kk
theorem gx_getR (C : gC p s m args meth c cc nL ret own nm Γ) (hG : gAg Γ G N H) {r : Option Nat} {a k idx : Nat} {ref : String} {cs : List Nat} {x : Option Nat} (hr : r = some a) (hv : gR cs k G a = some x) (hf : fOkG own idx ref cs k = true) (hdg : decode cc pc = .ok (.getfield idx, 3)) (kk : W p l e R s m args below meth c H locs cells slots Q (F0 m (pc + 3) ls (va_rf x :: rest))) : W p l e R s m args below meth c H locs cells slots Q (F0 m pc ls (va_rf r :: rest)) := by
  obtain ⟨ci, fs, h1, h2, h3⟩ := gR_inv hv
  exact gx_get C hG hr h1 h2 h3 hf hdg kk
theorem gx_put (C : gC p s m args meth c cc nL ret own nm Γ) (hG : gAg Γ G N H) (hS : va_S Γ.2.2.1 s.heap H locs) {r : Option Nat} {a k idx : Nat} {ref : String} {cs : List Nat} {v : Value} {G' : gM} {ty : FieldType} {fin : Bool} (hr : r = some a) (hv : pV cs k v G a = some G') (hf : fOkG own idx ref cs k = true) (hfp : fOkP own cs k ty fin = true) (hin : fin = true → nm = "<init>") (hn : narrow ty v = v) (hfit : fits ty v = true) (hdg : decode cc pc = .ok (.putfield idx, 3))
    (kk : ∀ H1 locs1, gAg Γ G' N H1 → va_S Γ.2.2.1 s.heap H1 locs1 → W p l e R s m args below meth c H1 locs1 cells slots Q (F0 m (pc + 3) ls rest)) : W p l e R s m args below meth c H locs cells slots Q (F0 m pc ls (v :: va_rf r :: rest)) := by
  obtain ⟨hx, hb, hml, hown, hts, hK, hZ, hA, hret, hlk, hnm⟩ := C
  subst hr
  obtain ⟨ci, fs, ha, hci, hl, rfl⟩ := pV_inv hv
  have h1 := List.all_eq_true.mp hf ci hci
  have h2 := List.all_eq_true.mp hfp ci hci
  cases hq : vwCl[ci]? with
  | none => rw [hq] at h1; cases h1
  | some q =>
    rw [hq] at h1 h2
    simp only [Bool.and_eq_true, Bool.or_eq_true, decide_eq_true_eq, beq_iff_eq] at h1 h2
    obtain ⟨⟨hk, hlk1⟩, hs⟩ := h1
    obtain ⟨⟨hd, hfin⟩, hdecl⟩ := h2
    obtain ⟨hin0, ⟨ty0, hty⟩, hnames⟩ := vwOk ci q hq
    have hsame : ∀ x, s.fieldFound? (q.2.1 k).1 (q.2.1 k).2.1 (q.2.1 k).2.2.1 = some x → s.fieldFound? ref (q.2.1 k).2.1 (q.2.1 k).2.2.1 = some x := fun x hx => by
      rcases hs with hs | hs
      · rw [← hs]; exact hx
      · exact u_same (hts _ (gW_mem hs)) x hx
    have hlink := hts _ (gW_mem hlk1)
    have hap := va_apart (own := own) hts hin0 ty0 hty hnames hK hq
    obtain ⟨r', hr', cell, q1, q2, q3, q4⟩ := (hG.2 a _ ha).1
    have hrr : r' = q := Option.some.inj (hr'.symm.trans hq)
    subst hrr
    obtain ⟨hSl, hfc, kC, hkC, hkind⟩ := hK.1 ci _ hq
    obtain ⟨cf, kf, fi, f, hi, hsl⟩ := hSl k hk
    have hlay := hts _ (hin0 _ (u_in_lay hk))
    have hst := (u_facts hfc hkC (u_lays hts hin0 hk) hi).1
    have close : ∀ H' : Heap, H'[a]? = some (cell.setSlot f.slot v) → H'.size = H.size → (∀ q, q ≠ a → H'[q]? = H[q]?) → W p l e R s m args below meth c H' (locs ++ [⟨a, f.slot⟩]) cells slots Q (F0 m (pc + 3) ls rest) := fun H' e1 e2 e3 => by
      rw [hsl] at e1 ⊢
      exact kk H' _ (hG.set ha (gw_obj hG ha) ⟨_, hq, t_OB.to (V := updV (vp_V fs) k v) ⟨_, e1, q2, q3, t_set q4 hap hk v⟩ (fun j _ => vp_updV_set hl v j)⟩ e2 e3) (hS.put e2 e3 (gw_obj hG ha))
    unfold u_lay at hlay
    cases fin with
    | false =>
      rw [if_neg (by rw [hfin]; decide)] at hlay
      have h6 := u_store hfc hkC hkind hlay hi hd hn hfit
      exact W.putK hx hb (f := f) ⟨hown, hlink, ⟨_, _, _, hsame _ hi⟩, hst⟩ (by rw [q2]; exact h6) q1 q3 (by rw [hsl]; exact k2_hasslot (q4 k hk)) rfl rfl hdg close
    | true =>
      rw [if_pos hfin] at hlay
      have hcf : m.cls = cf := by
        obtain ⟨_, _, c', _, _, _, -, -, hf', -, -, -, hown2, -⟩ := Cond.laysFinal_spec hlay
        have e1 : c' = cf := by have := hi.symm.trans hf'; simp at this; exact this.1.symm
        have hde : (r'.2.1 k).1 = own := by simpa using hdecl
        rw [hde] at hown2
        rw [← e1]; exact Option.some.inj (hown.symm.trans hown2)
      have h6 := u_fits hfc hkC hkind (Or.inr hlay) hi hd hn hfit
      exact W.putFinK hx hb hown hlink (hsame _ hi) hst hcf (by rw [hnm]; exact hin rfl) (by rw [q2]; exact h6) q1 q3 (by rw [hsl]; exact k2_hasslot (q4 k hk)) rfl rfl hdg close
theorem gx_rfn (r : Option Nat) (ty : FieldType) (h : (∃ n, ty = .object n) ∨ ∃ t, ty = .array t) : narrow ty (va_rf r) = va_rf r ∧ fits ty (va_rf r) = true := by
  rcases h with ⟨n, rfl⟩ | ⟨t, rfl⟩ <;> cases r <;> exact ⟨rfl, rfl⟩
theorem gx_iald (C : gC p s m args meth c cc nL ret own nm Γ) (hG : gAg Γ G N H) {r : Option Nat} {a : Nat} {i x : Int32} (hr : r = some a) (hv : aI G a i = some x) (hdg : decode cc pc = .ok (.iaload, 1)) (kk : W p l e R s m args below meth c H locs cells slots Q (F0 m (pc + 1) ls (.int x :: rest))) : W p l e R s m args below meth c H locs cells slots Q (F0 m pc ls (.int i :: va_rf r :: rest)) := by
  obtain ⟨hx, hb, hml, hown, hts, hK, -⟩ := C
  subst hr
  obtain ⟨n, f, ha, hi, rfl⟩ := aI_inv hv
  exact va_iald hx hb hK (hG.P1 ha) 0 0 (n := n) (f := f) rfl rfl (ixb_in hi) hdg kk
theorem gx_lald (C : gC p s m args meth c cc nL ret own nm Γ) (hG : gAg Γ G N H) {r : Option Nat} {a : Nat} {i : Int32} {x : Int64} (hr : r = some a) (hv : aJ G a i = some x) (hdg : decode cc pc = .ok (.laload, 1)) (kk : W p l e R s m args below meth c H locs cells slots Q (F0 m (pc + 1) ls (.long x :: rest))) : W p l e R s m args below meth c H locs cells slots Q (F0 m pc ls (.int i :: va_rf r :: rest)) := by
  obtain ⟨hx, hb, hml, hown, hts, hK, -⟩ := C
  subst hr
  obtain ⟨n, f, ha, hi, rfl⟩ := aJ_inv hv
  exact va_lald hx hb hK (hG.P1 ha) 0 1 (n := n) (f := f) rfl rfl (ixb_in hi) hdg kk
theorem gx_aald (C : gC p s m args meth c cc nL ret own nm Γ) (hG : gAg Γ G N H) {r : Option Nat} {a : Nat} {i : Int32} {x : Option Nat} (hr : r = some a) (hv : aQ G a i = some x) (hdg : decode cc pc = .ok (.aaload, 1)) (kk : W p l e R s m args below meth c H locs cells slots Q (F0 m (pc + 1) ls (va_rf x :: rest))) : W p l e R s m args below meth c H locs cells slots Q (F0 m pc ls (.int i :: va_rf r :: rest)) := by
  obtain ⟨hx, hb, hml, hown, hts, hK, -⟩ := C
  subst hr
  obtain ⟨n, f, ha, hi, rfl⟩ := aQ_inv hv
  exact va_aldq hx hb hK (hG.P1 ha) 0 2 (C := "java/lang/Object") (n := n) (f := f) rfl rfl (ixb_in hi) hdg kk
theorem gx_iast (C : gC p s m args meth c cc nL ret own nm Γ) (hG : gAg Γ G N H) (hS : va_S Γ.2.2.1 s.heap H locs) {r : Option Nat} {a : Nat} {i v : Int32} {G' : gM} (hr : r = some a) (hv : uI G a i v = some G') (hdg : decode cc pc = .ok (.iastore, 1)) (kk : ∀ H1 locs1, gAg Γ G' N H1 → va_S Γ.2.2.1 s.heap H1 locs1 → W p l e R s m args below meth c H1 locs1 cells slots Q (F0 m (pc + 1) ls rest)) : W p l e R s m args below meth c H locs cells slots Q (F0 m pc ls (.int v :: .int i :: va_rf r :: rest)) := by
  obtain ⟨hx, hb, hml, hown, hts, hK, -⟩ := C
  subst hr
  obtain ⟨n, f, ha, hi, rfl⟩ := uI_inv hv
  have hA := gw_pos hG ha hi
  refine W.iast hx hb (hG.2 a _ ha).1 ((hK.2 0 _ rfl).1 n (fun j => .int (f j))) (fun q => by cases q) (by show ¬ (i < 0 ∨ (arrV _ _ _).slots.size ≤ _); rw [arrV_size]; exact ixb_in hi) rfl rfl hdg fun H1 e z oq => ?_
  refine kk H1 _ (hG.set ha hA ?_ z oq) (hS.put z oq hA)
  show H1[a]? = some (vp_cell _ _)
  rw [e]
  show some ((vp_cell _ (n, .inl f)).setSlot _ _) = _
  rw [vp_cell_i, vp_cell_i, arrV_store]
  congr 2
  funext q
  by_cases hq : q = i.toNatClampNeg
  · subst hq; simp [updV, upd]
  · simp [updV, upd, hq]
theorem gx_last (C : gC p s m args meth c cc nL ret own nm Γ) (hG : gAg Γ G N H) (hS : va_S Γ.2.2.1 s.heap H locs) {r : Option Nat} {a : Nat} {i : Int32} {v : Int64} {G' : gM} (hr : r = some a) (hv : uJ G a i v = some G') (hdg : decode cc pc = .ok (.lastore, 1)) (kk : ∀ H1 locs1, gAg Γ G' N H1 → va_S Γ.2.2.1 s.heap H1 locs1 → W p l e R s m args below meth c H1 locs1 cells slots Q (F0 m (pc + 1) ls rest)) : W p l e R s m args below meth c H locs cells slots Q (F0 m pc ls (.long v :: .int i :: va_rf r :: rest)) := by
  obtain ⟨hx, hb, hml, hown, hts, hK, -⟩ := C
  subst hr
  obtain ⟨n, f, ha, hi, rfl⟩ := uJ_inv hv
  have hA := gw_pos hG ha hi
  refine W.last hx hb (hG.2 a _ ha).1 ((hK.2 1 _ rfl).1 n (fun j => .long (f j))) (fun q => by cases q) (by show ¬ (i < 0 ∨ (arrV _ _ _).slots.size ≤ _); rw [arrV_size]; exact ixb_in hi) rfl rfl hdg fun H1 e z oq => ?_
  refine kk H1 _ (hG.set ha hA ?_ z oq) (hS.put z oq hA)
  show H1[a]? = some (vp_cell _ _)
  rw [e]
  show some ((vp_cell _ (n, .inr (.inl f))).setSlot _ _) = _
  rw [vp_cell_l, vp_cell_l, arrV_store]
  congr 2
  funext q
  by_cases hq : q = i.toNatClampNeg
  · subst hq; simp [updV, vp_updL]
  · simp [updV, vp_updL, hq]
theorem nWc {Γ : gEnv} {s : State} (hZ : gZ Γ s) {w : Cond} (h : nW.contains w = true) : va_Nw w s := hZ.2.2.2.1 w (List.contains_iff_mem.mp h)
theorem oL_cast {Γ : gEnv} {s : State} (hZ : gZ Γ s) {ci : Nat} {q : vw_C} (hci : ci ∈ oL) (hq : vwCl[ci]? = some q) : va_Nw (.castable q.1 "java/lang/Object") s := by
  simp only [oL, List.mem_cons, List.not_mem_nil, or_false] at hci
  rcases hci with rfl | rfl | rfl | rfl <;> cases hq <;> exact nWc hZ (by decide +kernel)
theorem gx_aast (C : gC p s m args meth c cc nL ret own nm Γ) (hG : gAg Γ G N H) (hS : va_S Γ.2.2.1 s.heap H locs) {r v : Option Nat} {a : Nat} {i : Int32} {G' : gM} (hr : r = some a) (hv : uQ G a i v = some G') (hdg : decode cc pc = .ok (.aastore, 1)) (kk : ∀ H1 locs1, gAg Γ G' N H1 → va_S Γ.2.2.1 s.heap H1 locs1 → W p l e R s m args below meth c H1 locs1 cells slots Q (F0 m (pc + 1) ls rest)) : W p l e R s m args below meth c H locs cells slots Q (F0 m pc ls (va_rf v :: .int i :: va_rf r :: rest)) := by
  obtain ⟨hx, hb, hml, hown, hts, hK, hZ, -⟩ := C
  subst hr
  obtain ⟨n, f, ha, hi, hok, rfl⟩ := uQ_inv hv
  have hA := gw_pos hG ha hi
  have hin := ixb_in hi
  have hlt : i.toNatClampNeg < n := Nat.not_le.mp fun q => hin (Or.inr q)
  have h0 : ¬ i < 0 := fun q => hin (Or.inl q)
  cases v with
  | none =>
    refine va_WaastN (C := "java/lang/Object") hx hb (hG.2 a _ ha).1 ((hK.2 2 _ rfl).1 n (fun j => va_rf (f j))) (fun h => by cases h) (by show ¬ (i < 0 ∨ (arrV _ _ _).slots.size ≤ _); rw [arrV_size]; exact hin) rfl rfl hdg fun H1 e z oq => ?_
    refine kk H1 _ (hG.set ha hA ?_ z oq) (hS.put z oq hA)
    show H1[a]? = some (vp_cell _ _)
    rw [e]
    show some ((vp_cell _ (n, .inr (.inr (.inr (.inr f))))).setSlot _ _) = _
    rw [vp_cell_q, vp_cell_q, arrV_store]
    congr 2
    funext q
    by_cases hq : q = i.toNatClampNeg
    · subst hq; simp [updV, va_up, va_rf]
    · simp [updV, va_up, hq]
  | some b =>
    simp only [okQ] at hok
    cases ho : gO oL G b with
    | none => rw [ho] at hok; cases hok
    | some q0 =>
      obtain ⟨ci, vs⟩ := q0
      obtain ⟨hb1, hci⟩ := gO_inv ho
      obtain ⟨rq, hrq, cellV, g1, g2, g3, -⟩ := (hG.2 b _ hb1).1
      have hca := oL_cast hZ hci hrq
      have hcls := (hK.1 ci rq hrq).2
      obtain ⟨kA, comp, k1, k2, k3, -⟩ := (hK.2 2 _ rfl).2
      obtain ⟨kE, hkE, -⟩ := Vm.findClass_spec k3
      obtain ⟨c0, t1, f1, f2, f3⟩ := Cond.castable_spec (va_Nw.use (A := args) rfl hca)
      cases hcls.1.symm.trans f1
      cases k3.symm.trans f2
      obtain ⟨kC, hkC, -⟩ := hcls.2
      refine W.aast hx hb (hG.2 a _ ha).1 (fun q h => by cases h) (fun h => by cases h) k1 k2 rfl hkE ⟨h0, by show _ < (arrV _ _ _).slots.size; rw [arrV_size]; exact hlt⟩ g1 (fun q h => by rw [g3] at h; cases h) (by rw [g2]; exact hkC) (by rw [g2]; exact f3) rfl rfl hdg fun H1 e z oq => ?_
      refine kk H1 _ (hG.set ha hA ?_ z oq) (hS.put z oq hA)
      show H1[a]? = some (vp_cell _ _)
      rw [e]
      show some ((vp_cell _ (n, .inr (.inr (.inr (.inr f))))).setSlot _ _) = _
      rw [vp_cell_q, vp_cell_q, arrV_store]
      congr 2
      funext q
      by_cases hq : q = i.toNatClampNeg
      · subst hq; simp [updV, va_up, va_rf]
      · simp [updV, va_up, hq]
theorem gx_alen (C : gC p s m args meth c cc nL ret own nm Γ) (hG : gAg Γ G N H) {r : Option Nat} {a : Nat} {x : Int32} (hr : r = some a) (hv : aN G a = some x) (hdg : decode cc pc = .ok (.arraylength, 1)) (kk : W p l e R s m args below meth c H locs cells slots Q (F0 m (pc + 1) ls (.int x :: rest))) : W p l e R s m args below meth c H locs cells slots Q (F0 m pc ls (va_rf r :: rest)) := by
  obtain ⟨hx, hb, hml, hown, hts, hK, -⟩ := C
  subst hr
  obtain ⟨t, n, f, ha, ht, rfl⟩ := aN_inv hv
  have hP := hG.P1 ha
  match t, ht, hP with
  | 0, _, hP => exact va_alen hx hb hK hP 0 0 rfl rfl rfl hdg kk
  | 1, _, hP => exact va_alen hx hb hK hP 0 1 rfl rfl rfl hdg kk
  | 2, _, hP => exact va_alen hx hb hK hP 0 2 rfl rfl rfl hdg kk
end GX
