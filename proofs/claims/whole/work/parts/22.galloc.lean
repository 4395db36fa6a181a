def isQ (G : gM) (a : Nat) : Option Unit := match G a with
  | some (.inl (2, _, .inr (.inr (.inr (.inr _))))) => some ()
  | _ => none
theorem isQ_inv {G : gM} {a : Nat} {z : Unit} (h : isQ G a = some z) : ∃ n f, G a = some (.inl (2, n, .inr (.inr (.inr (.inr f))))) := by
  unfold isQ at h
  split at h
  · next n f hG => exact ⟨n, f, hG⟩
  · cases h
def cpQ (G : gM) (a0 : Nat) (sp : Int32) (a : Nat) (dp n : Int32) : Option gM := match G a0, G a with
  | some (.inl (2, n0, .inr (.inr (.inr (.inr f))))), some (.inl (2, n1, .inr (.inr (.inr (.inr g))))) => if (¬ sp < 0 ∧ ¬ dp < 0 ∧ ¬ n < 0 ∧ sp.toNatClampNeg + n.toNatClampNeg ≤ n0 ∧ dp.toNatClampNeg + n.toNatClampNeg ≤ n1 ∧ 0 < n1 ∧ (List.range n.toNatClampNeg).all (fun i => okQ G (f (sp.toNatClampNeg + i))) = true) then some (va_up G a (some (.inl (2, n1, .inr (.inr (.inr (.inr (va_cpy f g sp.toNatClampNeg dp.toNatClampNeg n.toNatClampNeg)))))))) else none
  | _, _ => none
theorem cpQ_inv {G G' : gM} {a0 a : Nat} {sp dp n : Int32} (h : cpQ G a0 sp a dp n = some G') : ∃ n0 f n1 g, G a0 = some (.inl (2, n0, .inr (.inr (.inr (.inr f))))) ∧ G a = some (.inl (2, n1, .inr (.inr (.inr (.inr g))))) ∧ (¬ sp < 0 ∧ ¬ dp < 0 ∧ ¬ n < 0 ∧ sp.toNatClampNeg + n.toNatClampNeg ≤ n0 ∧ dp.toNatClampNeg + n.toNatClampNeg ≤ n1 ∧ 0 < n1 ∧ (List.range n.toNatClampNeg).all (fun i => okQ G (f (sp.toNatClampNeg + i))) = true) ∧ G' = va_up G a (some (.inl (2, n1, .inr (.inr (.inr (.inr (va_cpy f g sp.toNatClampNeg dp.toNatClampNeg n.toNatClampNeg))))))) := by
  unfold cpQ at h
  split at h
  · next n0 f n1 g h1 h2 => obtain ⟨h3, h4⟩ := if_so h; exact ⟨n0, f, n1, g, h1, h2, h3, h4.symm⟩
  · cases h
section GW
variable {p : Program} {l : Launch} {e : Env} {R : Room} {s : State} {m : MethodId} {args : Array Value} {below : List Frame} {meth : Method} {c : Code} {H : Heap} {locs : List Loc} {cells slots : Nat} {Q : State → Prop}
variable {cc : ByteArray} {nL pc : Nat} {ret : Option FieldType} {own nm : String} {Γ : gEnv} {G : gM} {N : Nat} {ls : Array Slot} {rest st : List Value} {g : JFrame}
theorem gy_ret {u v : gN} {s0 : Nat} (hG : gAn Γ s0 u H) (hS : va_S Γ.2.2.1 s.heap H locs) (hle : gLe u v) {H1 : Heap} {locs1 : List Loc} (hG1 : gAg Γ v.1 v.2.1 H1) (kk : gAn Γ s0 v H1 → W p l e R s m args below meth c H1 locs1 (v.2.1 - s.heap.size) (v.2.2 - s0) Q g) : W p l e R s m args below meth c H1 locs1 (u.2.1 - s.heap.size + (v.2.1 - u.2.1)) (u.2.2 - s0 + (v.2.2 - u.2.2)) Q g := by
  have h1 : s.heap.size ≤ u.2.1 := by rw [← hG.1.1]; exact hS.1
  have h2 := hG.2
  obtain ⟨h3, h4⟩ := hle
  rw [show u.2.1 - s.heap.size + (v.2.1 - u.2.1) = v.2.1 - s.heap.size by omega, show u.2.2 - s0 + (v.2.2 - u.2.2) = v.2.2 - s0 by omega]
  exact kk ⟨hG1, by omega⟩
theorem gy_room {u v : gN} {s0 a b : Nat} (hG : gAn Γ s0 u H) (hS : va_S Γ.2.2.1 s.heap H locs) (hle : gLe u v) (h : v.2.1 - s.heap.size ≤ a ∧ v.2.2 - s0 ≤ b) : u.2.1 - s.heap.size + (v.2.1 - u.2.1) ≤ a ∧ u.2.2 - s0 + (v.2.2 - u.2.2) ≤ b := by
  have h1 : s.heap.size ≤ u.2.1 := by rw [← hG.1.1]; exact hS.1
  have h2 := hG.2
  obtain ⟨h3, h4⟩ := hle
  omega
theorem gy_w {u v : gN} {s0 : Nat} {G' : gM} {H0 H1 : Heap} {locs1 : List Loc} (hG : gAn Γ s0 u H0) (ev : v = (G', u.2)) (hG1 : gAg Γ G' u.2.1 H1) (kk : gAn Γ s0 v H1 → W p l e R s m args below meth c H1 locs1 (v.2.1 - s.heap.size) (v.2.2 - s0) Q g) : W p l e R s m args below meth c H1 locs1 (u.2.1 - s.heap.size) (u.2.2 - s0) Q g := by
  subst ev
  exact kk ⟨hG1, hG.2⟩
theorem gy_new (C : gC p s m args meth c cc nL ret own nm Γ) {u v : gN} {s0 q ci idx : Nat} {fs : List Value} (hG : gAn Γ s0 u H) (hS : va_S Γ.2.2.1 s.heap H locs) (he : nwO ci fs u = some (q, v)) (hk : newOk own idx ci fs = true) (hR : v.2.1 - s.heap.size ≤ R.cells ∧ v.2.2 - s0 ≤ R.slots) (hdg : decode cc pc = .ok (.new idx, 3))
    (kk : ∀ H1, gAn Γ s0 v H1 → va_S Γ.2.2.1 s.heap H1 locs → W p l e R s m args below meth c H1 locs (v.2.1 - s.heap.size) (v.2.2 - s0) Q (F0 m (pc + 3) ls (va_rf (some q) :: rest))) : W p l e R s m args below meth c H locs (u.2.1 - s.heap.size) (u.2.2 - s0) Q (F0 m pc ls rest) := by
  obtain ⟨hx, hb, hml, hown, hts, hK, hZ, hA, -⟩ := C
  have h1 : s.heap.size ≤ u.2.1 := by rw [← hG.1.1]; exact hS.1
  have h2 := hG.2
  unfold newOk at hk
  cases hq : vwCl[ci]? with
  | none => rw [hq] at hk; cases hk
  | some cq =>
    rw [hq] at hk
    simp only [Bool.and_eq_true, decide_eq_true_eq] at hk
    obtain ⟨⟨⟨⟨w1, w2⟩, w3⟩, w4⟩, w5⟩ := hk
    obtain ⟨hin0, ⟨ty0, hty⟩, -⟩ := vwOk ci cq hq
    have hfs : ∀ j, j < cq.2.2 → defaultValue (ty0 j) = vp_V fs j := fun j hj => by
      have h5 := List.all_eq_true.mp w5 j (List.mem_range.mpr hj)
      rw [hty j hj] at h5
      simpa using h5
    cases he
    dsimp only at hR kk
    rw [w4] at hR kk
    have hKn := hK.1 ci _ hq
    refine W.newcK hx hb hown (hts _ (gW_mem w1)) (hts _ (gW_mem w2)) (hts _ (gW_mem w3)) rfl hdg (by omega) (by omega) hKn.2.1 hG.1.1 fun H1 kC hkC e1 z1 o1 => ?_
    have K := kk H1 ⟨hG.1.push (hA _ h1) ⟨_, hq, (u_born ty0 hts hin0 hKn hkC e1 hty).to hfs⟩ z1 o1, Nat.le_trans h2 (Nat.le_add_right _ _)⟩ ⟨by omega, fun x g1 g2 => (o1 x (by omega)).trans (hS.2.1 x g1 g2), hS.2.2⟩
    rw [show u.2.1 + 1 - s.heap.size = u.2.1 - s.heap.size + 1 by omega, show u.2.2 + cq.2.2 - s0 = u.2.2 - s0 + cq.2.2 by omega] at K
    exact K
theorem gy_newQ (C : gC p s m args meth c cc nL ret own nm Γ) {u v : gN} {s0 q idx : Nat} {n : Int32} (hG : gAn Γ s0 u H) (hS : va_S Γ.2.2.1 s.heap H locs) (he : nwQ n u = some (q, v)) (hk : gW.contains (.classLink own idx "java/lang/Object") = true) (hR : v.2.1 - s.heap.size ≤ R.cells ∧ v.2.2 - s0 ≤ R.slots) (hdg : decode cc pc = .ok (.anewarray idx, 3))
    (kk : ∀ H1, gAn Γ s0 v H1 → va_S Γ.2.2.1 s.heap H1 locs → W p l e R s m args below meth c H1 locs (v.2.1 - s.heap.size) (v.2.2 - s0) Q (F0 m (pc + 3) ls (va_rf (some q) :: rest))) : W p l e R s m args below meth c H locs (u.2.1 - s.heap.size) (u.2.2 - s0) Q (F0 m pc ls (.int n :: rest)) := by
  obtain ⟨hx, hb, hml, hown, hts, hK, hZ, hA, -⟩ := C
  have h1 : s.heap.size ≤ u.2.1 := by rw [← hG.1.1]; exact hS.1
  have h2 := hG.2
  obtain ⟨⟨hn, hN⟩, he⟩ := if_so he
  cases he
  dsimp only at hR kk
  refine W.anew hx hb hown (hts _ (gW_mem hk)) (va_AO.use hZ.2.2.2.2.1) rfl hdg rfl hn (by omega) (by omega) (by omega) fun cA kA comp f1 f2 f3 f4 => ?_
  obtain ⟨_, _, _, _, _, h6⟩ := (hK.2 2 _ rfl).2
  have hcA : cA = Γ.2.1 2 := Option.some.inj (f1.symm.trans h6)
  subst hcA
  generalize hH1 : H.push ({ cls := Γ.2.1 2, slots := Array.replicate n.toNatClampNeg .null, vm := .none } : Cell) = H1
  have z1 : H1.size = u.2.1 + 1 := by rw [← hH1, Array.size_push, hG.1.1]
  have e1 : H1[u.2.1]? = some (arrV (Γ.2.1 2) n.toNatClampNeg (fun _ => .null)) := by rw [← hH1, ← hG.1.1, Array.getElem?_push_size, ← arrV_new]
  have o1 : ∀ q : Nat, q < u.2.1 → H1[q]? = H[q]? := fun q hq => by rw [← hH1, Array.getElem?_push, if_neg (by rw [hG.1.1]; exact Nat.ne_of_lt hq)]
  have K := kk H1 ⟨hG.1.push (hA _ h1) (by show H1[_]? = some (vp_cell _ _); rw [vp_cell_q]; exact e1) z1 o1, Nat.le_trans h2 (Nat.le_add_right _ _)⟩ ⟨by omega, fun x g1 g2 => (o1 x (by omega)).trans (hS.2.1 x g1 g2), hS.2.2⟩
  rw [show u.2.1 + 1 - s.heap.size = u.2.1 - s.heap.size + 1 by omega, show u.2.2 + n.toNatClampNeg - s0 = u.2.2 - s0 + n.toNatClampNeg by omega] at K
  rw [hG.1.1]
  exact K
theorem gx_ldcM (C : gC p s m args meth c cc nL ret own nm Γ) {idx : Nat} (hk : gW.contains (.classLink own idx "[Ljava/lang/Object;") = true) (hdg : decode cc pc = .ok (.ldc idx, 2)) (kk : W p l e R s m args below meth c H locs cells slots Q (F0 m (pc + 2) ls (va_rf (some (Γ.2.2.2 3)) :: rest))) : W p l e R s m args below meth c H locs cells slots Q (F0 m pc ls rest) := by
  obtain ⟨hx, hb, hml, hown, hts, hK, hZ, -⟩ := C
  exact va_ldcM hx hb hown (hts _ (gW_mem hk)) hZ.2.2.2.2.2.1 hdg kk
theorem gx_recvA (C : gC p s m args meth c cc nL ret own nm Γ) (hG : gAg Γ G N H) {a n : Nat} {f : Nat → Option Nat} (ha : G a = some (.inl (2, n, .inr (.inr (.inr (.inr f)))))) : ∃ cell : Cell, H[a]? = some cell ∧ cell.vm.isStatics = false ∧ s.vm.findClass "[Ljava/lang/Object;" = some cell.cls :=
  ⟨_, (hG.2 a _ ha).1, rfl, va_nmO (C.2.2.2.2.2.1.2 2 _ rfl).2 (by decide +kernel)⟩
theorem gx_getC (C : gC p s m args meth c cc nL ret own nm Γ) (hG : gAg Γ G N H) {r : Option Nat} {a idx : Nat} {z : Unit} (hr : r = some a) (hv : isQ G a = some z) (hw : gW.contains (.methodLink own idx ⟨"java/lang/Object", "getClass", "()Ljava/lang/Class;"⟩) = true ∧ nW.contains (.declares ⟨"java/lang/Object", "getClass", "()Ljava/lang/Class;"⟩) = true ∧ gW.contains (.selects "[Ljava/lang/Object;" ⟨"java/lang/Object", "getClass", "()Ljava/lang/Class;"⟩ ⟨"java/lang/Object", "getClass", "()Ljava/lang/Class;"⟩) = true ∧ gW.contains (.instanceMethod ⟨"java/lang/Object", "getClass", "()Ljava/lang/Class;"⟩) = true ∧ gW.contains (.native ⟨"java/lang/Object", "getClass", "()Ljava/lang/Class;"⟩) = true) (hl : ls.size = nL) (hR : 1 ≤ R.frames ∧ (rest.map fun v => v.category).sum + 14 ≤ R.locals) (hdg : decode cc pc = .ok (.invokevirtual idx, 3))
    (kk : W p l e R s m args below meth c H locs cells slots Q (F0 m (pc + 3) ls (va_rf (some (Γ.2.2.2 3)) :: rest))) : W p l e R s m args below meth c H locs cells slots Q (F0 m pc ls (va_rf r :: rest)) := by
  have CC := C
  obtain ⟨hx, hb, hml, hown, hts, hK, hZ, -⟩ := C
  subst hr
  obtain ⟨n, f, ha⟩ := isQ_inv hv
  exact va_getC hx hb (hml.trans hl.symm) hown (hts _ (gW_mem hw.1)) (va_Nw.use rfl (nWc hZ hw.2.1)) (hts _ (gW_mem hw.2.2.1)) (hts _ (gW_mem hw.2.2.2.1)) (hts _ (gW_mem hw.2.2.2.2)) hZ.2.2.2.2.2.1 (gx_recvA CC hG ha) hR.1 hR.2 hdg kk
theorem gx_copy (C : gC p s m args meth c cc nL ret own nm Γ) (hG : gAg Γ G N H) (hS : va_S Γ.2.2.1 s.heap H locs) {r0 r : Option Nat} {a0 a idx : Nat} {sp dp n : Int32} {G' : gM} (hr0 : r0 = some a0) (hr : r = some a) (hv : cpQ G a0 sp a dp n = some G') (hw : gW.contains (.methodLink own idx arraycopyName) = true ∧ gW.contains (.native arraycopyName) = true ∧ gW.contains (.static arraycopyName) = true ∧ gW.contains (.initialized "java/lang/System") = true) (hl : ls.size = nL) (hR : 1 ≤ R.frames ∧ (rest.map fun v => v.category).sum + (nativeFrameWords "java/lang/System" "arraycopy" 5 + 11) ≤ R.locals) (hdg : decode cc pc = .ok (.invokestatic idx, 3))
    (kk : ∀ H1 locs1, gAg Γ G' N H1 → va_S Γ.2.2.1 s.heap H1 locs1 → W p l e R s m args below meth c H1 locs1 cells slots Q (F0 m (pc + 3) ls rest)) : W p l e R s m args below meth c H locs cells slots Q (F0 m pc ls (.int n :: .int dp :: va_rf r :: .int sp :: va_rf r0 :: rest)) := by
  obtain ⟨hx, hb, hml, hown, hts, hK, hZ, hAll, -⟩ := C
  subst hr0
  subst hr
  obtain ⟨n0, f, n1, g, ha0, ha, ⟨h1, h2, h3, h4, h5, h6, h7⟩, rfl⟩ := cpQ_inv hv
  have hA : Γ.2.2.1 a := (hG.2 a _ ha).2
  have nn : ∀ z : Int32, ¬ z < 0 → z.toInt = (z.toNatClampNeg : Int) := by
    intro z hz
    have hz0 : (0 : Int) ≤ z.toInt := by
      have := Int32.not_lt.mp hz
      simpa using Int32.le_iff_toInt_le.mp this
    show z.toInt = ((z.toInt.toNat : Nat) : Int)
    omega
  intro T hT X
  have hc0 : H[a0]? = some (vp_cell (Γ.2.1 2) (n0, .inr (.inr (.inr (.inr f))))) := (hG.2 a0 _ ha0).1
  have hc1 : H[a]? = some (vp_cell (Γ.2.1 2) (n1, .inr (.inr (.inr (.inr g))))) := (hG.2 a _ ha).1
  obtain ⟨-, k0, hk0, cm0, hkk0⟩ := (hK.2 2 _ rfl).1 n0 (fun j => va_rf (f j))
  obtain ⟨-, k1, hk1, cm1, hkk1⟩ := (hK.2 2 _ rfl).1 n1 (fun j => va_rf (g j))
  obtain ⟨vm', X', step⟩ := X.arraycopy hx hown (hts _ (gW_mem hw.1)) (hts _ (gW_mem hw.2.1)) (hts _ (gW_mem hw.2.2.1)) (hts _ (gW_mem hw.2.2.2)) (src := a0) (dst := a) (cs := vp_cell (Γ.2.1 2) (n0, .inr (.inr (.inr (.inr f))))) (cd := vp_cell (Γ.2.1 2) (n1, .inr (.inr (.inr (.inr g))))) (srcPos := sp) (destPos := dp) (n := n) (by rw [hT]; exact hc0) (by rw [hT]; exact hc1)
    (fun _ h => by cases h) (fun _ h => by cases h) (fun h => by cases h) (fun h => by cases h) hk0 hk1 hkk0 hkk1 rfl h1 h2 h3
    (by rw [nn sp h1, nn n h3]; show ¬ _ > ((arrV (Γ.2.1 2) n0 (fun j => va_rf (f j))).slots.size : Int); rw [arrV_size]; omega)
    (by rw [nn dp h2, nn n h3]; show ¬ _ > ((arrV (Γ.2.1 2) n1 (fun j => va_rf (g j))).slots.size : Int); rw [arrV_size]; omega)
    (fun vm₁ hal i hi => by
      have e : (vp_cell (Γ.2.1 2) (n0, .inr (.inr (.inr (.inr f))))).slots.getD (sp.toNatClampNeg + i) .null = va_rf (f (sp.toNatClampNeg + i)) := by
        show (arrV (Γ.2.1 2) n0 (fun j => va_rf (f j))).slots.getD _ _ = _
        rw [Array.getD_eq_getD_getElem?, arrV_read _ _ (by omega)]
        rfl
      rw [e]
      have hok := List.all_eq_true.mp h7 i (List.mem_range.mpr hi)
      cases hy : f (sp.toNatClampNeg + i) with
      | none => exact ⟨rfl, trivial⟩
      | some y =>
        rw [hy] at hok
        simp only [okQ] at hok
        cases ho : gO oL G y with
        | none => rw [ho] at hok; cases hok
        | some q0 =>
          obtain ⟨ci, vs⟩ := q0
          obtain ⟨hb1, hci⟩ := gO_inv ho
          obtain ⟨rq, hrq, cellV, g1, g2, g3, -⟩ := (hG.2 y _ hb1).1
          have hca := oL_cast hZ hci hrq
          obtain ⟨kA, comp, r1, r2, r3, -⟩ := (hK.2 2 _ rfl).2
          cases hk1.symm.trans r1
          cases hkk1.symm.trans r2
          have hcls := (hK.1 ci rq hrq).2
          obtain ⟨c0, t1, f1, f2, f3⟩ := Cond.castable_spec (va_Nw.use (A := args) rfl hca)
          cases hcls.1.symm.trans f1
          cases r3.symm.trans f2
          obtain ⟨kC, hkC, -⟩ := hcls.2
          obtain ⟨kE, hkE, -⟩ := Vm.findClass_spec r3
          obtain ⟨kC', hkC', -⟩ := hal.2.2 _ _ hkC
          obtain ⟨kE', hkE', -⟩ := hal.2.2 _ _ hkE
          refine ⟨rfl, cellV, (show T.heap[y]? = some cellV by rw [hT]; exact g1), (fun q h => by rw [g3] at h; cases h), ⟨kC', by rw [g2]; exact hkC'⟩, ?_, ?_⟩
          · exact ⟨kE', hkE'⟩
          · show vm₁.assignable _ _ = true
            rw [hal.assignable, g2]
            exact f3)
    (g := F0 m pc ls (.int n :: .int dp :: .ref a :: .int sp :: .ref a0 :: rest)) rfl (by rw [hml]; exact hl) (rest := rest) rfl (by rw [hb]; exact hdg) hR.1 (by show 2 * 0 + _ + _ ≤ _; have := hR.2; omega)
  have e1 : copied (vp_cell (Γ.2.1 2) (n0, .inr (.inr (.inr (.inr f))))) (vp_cell (Γ.2.1 2) (n1, .inr (.inr (.inr (.inr g))))) sp dp n = vp_cell (Γ.2.1 2) (n1, .inr (.inr (.inr (.inr (va_cpy f g sp.toNatClampNeg dp.toNatClampNeg n.toNatClampNeg))))) := by
    rw [vp_cell_q, vp_cell_q, vp_cell_q]
    exact va_copied (fun z => va_rf z) (Γ.2.1 2) (Γ.2.1 2) f g h4
  rw [e1] at X' step
  have hlt : a < H.size := (Array.getElem?_eq_some_iff.mp hc1).1
  have hheap : ((T.setVm vm').setCell a (vp_cell (Γ.2.1 2) (n1, .inr (.inr (.inr (.inr (va_cpy f g sp.toNatClampNeg dp.toNatClampNeg n.toNatClampNeg))))))).heap = H.setIfInBounds a (vp_cell (Γ.2.1 2) (n1, .inr (.inr (.inr (.inr (va_cpy f g sp.toNatClampNeg dp.toNatClampNeg n.toNatClampNeg)))))) := by rw [← hT]; rfl
  have oq : ∀ q : Nat, q ≠ a → (H.setIfInBounds a (vp_cell (Γ.2.1 2) (n1, .inr (.inr (.inr (.inr (va_cpy f g sp.toNatClampNeg dp.toNatClampNeg n.toNatClampNeg)))))))[q]? = H[q]? := fun q hq => by simp [Array.getElem?_setIfInBounds, Ne.symm hq]
  obtain ⟨t, a1, b1⟩ := kk _ _ (hG.set ha hA (show (H.setIfInBounds a _)[a]? = some _ by simp [Array.getElem?_setIfInBounds, hlt]) (by simp) oq) ⟨by simp; exact hS.1, fun q g1 g2 => by
      rw [oq q (fun e => g2 (by rw [e]; exact hA))]
      exact hS.2.1 q g1 g2, fun q hq => by
      rcases List.mem_append.mp hq with h | h
      · exact hS.2.2 q h
      · obtain ⟨z, -, hz⟩ := List.mem_map.mp h
        rw [← hz]
        exact hA⟩ _ hheap X'
  exact ⟨t, step t a1, b1⟩
end GW
