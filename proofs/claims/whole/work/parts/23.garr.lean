section GV
variable {p : Program} {l : Launch} {e : Env} {R : Room} {s : State} {m : MethodId} {args : Array Value} {below : List Frame} {meth : Method} {c : Code} {H : Heap} {locs : List Loc} {cells slots : Nat} {Q : State → Prop}
variable {cc : ByteArray} {nL pc : Nat} {ret : Option FieldType} {own nm : String} {Γ : gEnv} {G : gM} {N : Nat} {ls : Array Slot} {rest st : List Value} {g : JFrame}
theorem gy_cA {u : State} {cA cB : ClassId} (h1 : va_RA u cA .int) (h2 : u.vm.findClass ("[" ++ (newarray.typeOf .int).toString) = some cB) : cB = cA := by
  have h3 : u.vm.findClass ("[" ++ FieldType.int.toString) = some cA := h1
  have h4 : u.vm.findClass ("[" ++ FieldType.int.toString) = some cB := h2
  rw [h3] at h4
  exact (Option.some.inj h4).symm
theorem gy_cAJ {u : State} {cA cB : ClassId} (h1 : va_RA u cA .long) (h2 : u.vm.findClass ("[" ++ (newarray.typeOf .long).toString) = some cB) : cB = cA := by
  have h3 : u.vm.findClass ("[" ++ FieldType.long.toString) = some cA := h1
  have h4 : u.vm.findClass ("[" ++ FieldType.long.toString) = some cB := h2
  rw [h3] at h4
  exact (Option.some.inj h4).symm
theorem gy_cAZ {u : State} {cA cB : ClassId} (h1 : va_RA u cA .boolean) (h2 : u.vm.findClass ("[" ++ (newarray.typeOf .boolean).toString) = some cB) : cB = cA := by
  have h3 : u.vm.findClass ("[" ++ FieldType.boolean.toString) = some cA := h1
  have h4 : u.vm.findClass ("[" ++ FieldType.boolean.toString) = some cB := h2
  rw [h3] at h4
  exact (Option.some.inj h4).symm
set_option maxHeartbeats 200000 in
theorem gy_newI (C : gC p s m args meth c cc nL ret own nm Γ) {u v : gN} {s0 q : Nat} {n : Int32} (hG : gAn Γ s0 u H) (hS : va_S Γ.2.2.1 s.heap H locs) (he : nwI n u = some (q, v)) (hR : v.2.1 - s.heap.size ≤ R.cells ∧ v.2.2 - s0 ≤ R.slots) (hdg : decode cc pc = .ok (.newarray .int, 2))
    (kk : ∀ H1, gAn Γ s0 v H1 → va_S Γ.2.2.1 s.heap H1 locs → W p l e R s m args below meth c H1 locs (v.2.1 - s.heap.size) (v.2.2 - s0) Q (F0 m (pc + 2) ls (va_rf (some q) :: rest))) : W p l e R s m args below meth c H locs (u.2.1 - s.heap.size) (u.2.2 - s0) Q (F0 m pc ls (.int n :: rest)) := by
  obtain ⟨hx, hb, hml, hown, hts, hK, hZ, hA, -⟩ := C
  have h1 : s.heap.size ≤ u.2.1 := by rw [← hG.1.1]; exact hS.1
  have h2 := hG.2
  obtain ⟨⟨hn, hN⟩, he⟩ := if_so he
  cases he
  dsimp only at hR kk
  refine va_newaK (atype := .int) hx hb (hts (.arrayClass .int) (gW_mem (by decide +kernel))) rfl hdg rfl hn rfl (by rw [show componentBytes (newarray.typeOf .int) = 4 from rfl]; omega) (by omega) (by omega) hG.1.1 fun H1 cA e1 z1 o1 hAr hNm => ?_
  have hcA : cA = Γ.2.1 0 := gy_cA (hK.2 0 _ rfl).2 hNm
  subst hcA
  have hcell : va_at Γ.1 vwCl (u.2.1, gx Γ.2.1 (.inl (0, n.toNatClampNeg, .inl fun _ => 0))) H1 := e1
  have K := kk H1 ⟨hG.1.push (hA _ h1) hcell z1 o1, Nat.le_trans h2 (Nat.le_add_right _ _)⟩ ⟨by omega, fun x g1 g2 => (o1 x (by omega)).trans (hS.2.1 x g1 g2), hS.2.2⟩
  rw [show u.2.1 + 1 - s.heap.size = u.2.1 - s.heap.size + 1 by omega, show u.2.2 + n.toNatClampNeg - s0 = u.2.2 - s0 + n.toNatClampNeg by omega] at K
  exact K
set_option maxHeartbeats 200000 in
theorem gy_newJ (C : gC p s m args meth c cc nL ret own nm Γ) {u v : gN} {s0 q : Nat} {n : Int32} (hG : gAn Γ s0 u H) (hS : va_S Γ.2.2.1 s.heap H locs) (he : nwJ n u = some (q, v)) (hR : v.2.1 - s.heap.size ≤ R.cells ∧ v.2.2 - s0 ≤ R.slots) (hdg : decode cc pc = .ok (.newarray .long, 2))
    (kk : ∀ H1, gAn Γ s0 v H1 → va_S Γ.2.2.1 s.heap H1 locs → W p l e R s m args below meth c H1 locs (v.2.1 - s.heap.size) (v.2.2 - s0) Q (F0 m (pc + 2) ls (va_rf (some q) :: rest))) : W p l e R s m args below meth c H locs (u.2.1 - s.heap.size) (u.2.2 - s0) Q (F0 m pc ls (.int n :: rest)) := by
  obtain ⟨hx, hb, hml, hown, hts, hK, hZ, hA, -⟩ := C
  have h1 : s.heap.size ≤ u.2.1 := by rw [← hG.1.1]; exact hS.1
  have h2 := hG.2
  obtain ⟨⟨hn, hN⟩, he⟩ := if_so he
  cases he
  dsimp only at hR kk
  refine va_newaK (atype := .long) hx hb (hts (.arrayClass .long) (gW_mem (by decide +kernel))) rfl hdg rfl hn rfl (by rw [show componentBytes (newarray.typeOf .long) = 8 from rfl]; omega) (by omega) (by omega) hG.1.1 fun H1 cA e1 z1 o1 hAr hNm => ?_
  have hcA : cA = Γ.2.1 1 := gy_cAJ (hK.2 1 _ rfl).2 hNm
  subst hcA
  have hcell : va_at Γ.1 vwCl (u.2.1, gx Γ.2.1 (.inl (1, n.toNatClampNeg, .inr (.inl fun _ => 0)))) H1 := e1
  have K := kk H1 ⟨hG.1.push (hA _ h1) hcell z1 o1, Nat.le_trans h2 (Nat.le_add_right _ _)⟩ ⟨by omega, fun x g1 g2 => (o1 x (by omega)).trans (hS.2.1 x g1 g2), hS.2.2⟩
  rw [show u.2.1 + 1 - s.heap.size = u.2.1 - s.heap.size + 1 by omega, show u.2.2 + n.toNatClampNeg - s0 = u.2.2 - s0 + n.toNatClampNeg by omega] at K
  exact K
set_option maxHeartbeats 200000 in
theorem gy_newZ (C : gC p s m args meth c cc nL ret own nm Γ) {u v : gN} {s0 q : Nat} {n : Int32} (hG : gAn Γ s0 u H) (hS : va_S Γ.2.2.1 s.heap H locs) (he : nwZ n u = some (q, v)) (hR : v.2.1 - s.heap.size ≤ R.cells ∧ v.2.2 - s0 ≤ R.slots) (hdg : decode cc pc = .ok (.newarray .boolean, 2))
    (kk : ∀ H1, gAn Γ s0 v H1 → va_S Γ.2.2.1 s.heap H1 locs → W p l e R s m args below meth c H1 locs (v.2.1 - s.heap.size) (v.2.2 - s0) Q (F0 m (pc + 2) ls (va_rf (some q) :: rest))) : W p l e R s m args below meth c H locs (u.2.1 - s.heap.size) (u.2.2 - s0) Q (F0 m pc ls (.int n :: rest)) := by
  obtain ⟨hx, hb, hml, hown, hts, hK, hZ, hA, -⟩ := C
  have h1 : s.heap.size ≤ u.2.1 := by rw [← hG.1.1]; exact hS.1
  have h2 := hG.2
  obtain ⟨⟨hn, hN⟩, he⟩ := if_so he
  cases he
  dsimp only at hR kk
  refine va_newaK (atype := .boolean) hx hb (hts (.arrayClass .boolean) (gW_mem (by decide +kernel))) rfl hdg rfl hn rfl (by rw [show componentBytes (newarray.typeOf .boolean) = 1 from rfl]; omega) (by omega) (by omega) hG.1.1 fun H1 cA e1 z1 o1 hAr hNm => ?_
  have hcA : cA = Γ.2.1 3 := gy_cAZ (hK.2 3 _ rfl).2 hNm
  subst hcA
  have hcell : va_at Γ.1 vwCl (u.2.1, gx Γ.2.1 (.inl (3, n.toNatClampNeg, .inl fun _ => 0))) H1 := e1
  have K := kk H1 ⟨hG.1.push (hA _ h1) hcell z1 o1, Nat.le_trans h2 (Nat.le_add_right _ _)⟩ ⟨by omega, fun x g1 g2 => (o1 x (by omega)).trans (hS.2.1 x g1 g2), hS.2.2⟩
  rw [show u.2.1 + 1 - s.heap.size = u.2.1 - s.heap.size + 1 by omega, show u.2.2 + n.toNatClampNeg - s0 = u.2.2 - s0 + n.toNatClampNeg by omega] at K
  exact K
end GV
