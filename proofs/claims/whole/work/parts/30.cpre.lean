theorem gx_catI (x : Int32) : (Value.int x).category = 1 := rfl
theorem gx_catJ (x : Int64) : (Value.long x).category = 2 := rfl
section GZ
variable {p : Program} {l : Launch} {e : Env} {R : Room} {s : State} {m : MethodId} {args : Array Value} {below : List Frame} {meth : Method} {c : Code} {H : Heap} {locs : List Loc} {cells slots : Nat} {Q : State → Prop}
variable {cc : ByteArray} {nL pc : Nat} {ret : Option FieldType} {own nm : String} {Γ : gEnv} {G : gM} {N : Nat} {ls : Array Slot} {rest st : List Value} {z : Nat → Nat}
theorem gz_gets (C : gC p s m args meth c cc nL ret own nm Γ) (hz : Γ.2.2.2 = z) (hS : va_S Γ.2.2.1 s.heap H locs) {idx : Nat} (hl : gW.contains (.fieldLink own idx "java/util/ArrayList" "DEFAULTCAPACITY_EMPTY_ELEMENTDATA" "[Ljava/lang/Object;") = true) (hdg : decode cc pc = .ok (.getstatic idx, 3)) (kk : W p l e R s m args below meth c H locs cells slots Q (F0 m (pc + 3) ls (va_rf (some (z 0)) :: rest))) : W p l e R s m args below meth c H locs cells slots Q (F0 m pc ls rest) := by
  subst hz
  exact gx_gets C hS C.2.2.2.2.2.2.1.1.1 hl hdg kk
theorem gz_ldcM (C : gC p s m args meth c cc nL ret own nm Γ) (hz : Γ.2.2.2 = z) {idx : Nat} (hk : gW.contains (.classLink own idx "[Ljava/lang/Object;") = true) (hdg : decode cc pc = .ok (.ldc idx, 2)) (kk : W p l e R s m args below meth c H locs cells slots Q (F0 m (pc + 2) ls (va_rf (some (z 3)) :: rest))) : W p l e R s m args below meth c H locs cells slots Q (F0 m pc ls rest) := by
  subst hz
  exact gx_ldcM C hk hdg kk
theorem gz_getC (C : gC p s m args meth c cc nL ret own nm Γ) (hz : Γ.2.2.2 = z) (hG : gAg Γ G N H) {r : Option Nat} {a idx : Nat} {z1 : Unit} (hr : r = some a) (hv : isQ G a = some z1) (hw : gW.contains (.methodLink own idx ⟨"java/lang/Object", "getClass", "()Ljava/lang/Class;"⟩) = true ∧ nW.contains (.declares ⟨"java/lang/Object", "getClass", "()Ljava/lang/Class;"⟩) = true ∧ gW.contains (.selects "[Ljava/lang/Object;" ⟨"java/lang/Object", "getClass", "()Ljava/lang/Class;"⟩ ⟨"java/lang/Object", "getClass", "()Ljava/lang/Class;"⟩) = true ∧ gW.contains (.instanceMethod ⟨"java/lang/Object", "getClass", "()Ljava/lang/Class;"⟩) = true ∧ gW.contains (.native ⟨"java/lang/Object", "getClass", "()Ljava/lang/Class;"⟩) = true) (hl : ls.size = nL) (hR : 1 ≤ R.frames ∧ (rest.map fun v => v.category).sum + 14 ≤ R.locals) (hdg : decode cc pc = .ok (.invokevirtual idx, 3))
    (kk : W p l e R s m args below meth c H locs cells slots Q (F0 m (pc + 3) ls (va_rf (some (z 3)) :: rest))) : W p l e R s m args below meth c H locs cells slots Q (F0 m pc ls (va_rf r :: rest)) := by
  subst hz
  exact gx_getC C hG hr hv hw hl hR hdg kk
def aNz (z : Nat → Nat) (G : gM) (a : Nat) : Option Int32 := if a = z 0 then some 0 else aN G a
theorem gz_alen (C : gC p s m args meth c cc nL ret own nm Γ) (hz : Γ.2.2.2 = z) (hG : gAg Γ G N H) (hS : va_S Γ.2.2.1 s.heap H locs) {r : Option Nat} {a : Nat} {x : Int32} (hr : r = some a) (hv : aNz z G a = some x) (hdg : decode cc pc = .ok (.arraylength, 1)) (kk : W p l e R s m args below meth c H locs cells slots Q (F0 m (pc + 1) ls (.int x :: rest))) : W p l e R s m args below meth c H locs cells slots Q (F0 m pc ls (va_rf r :: rest)) := by
  subst hz
  subst hr
  unfold aNz at hv
  by_cases ha : a = Γ.2.2.2 0
  · rw [if_pos ha] at hv
    subst ha
    have e : (0 : Int32) = x := Option.some.inj hv
    subst e
    obtain ⟨hx, hb, hml, hown, hts, hK, hZ, -⟩ := C
    exact va_tlen hx hb hZ.1.2 hS rfl hdg kk
  · rw [if_neg ha] at hv
    exact gx_alen C hG rfl hv hdg kk
end GZ
