/-! what the law finds at its entry -/
theorem se_arr {args : Array Value} {s : State} {ty : FieldType} (h : (Cond.arrayClass ty).before args s = true) : ∃ cA, ArrOfT s cA ty ∧ s.vm.findClass ("[" ++ ty.toString) = some cA := by
  obtain ⟨c, k, comp, h1, h2, h3⟩ := Cond.arrayClass_spec h
  exact ⟨c, fun n z => ⟨fun k h => (by cases h), k, h2, comp, h3⟩, h1⟩
theorem se_arq {s : State} {C : String} (h : va_AO C s) : ∃ cA, ArrOfT s cA (.object C) ∧ va_RA s cA (.object C) := by
  obtain ⟨comp, cA, kA, hcomp, hidx, hkA, hkindA, hnameA⟩ := Cond.arrayOver_spec h
  exact ⟨cA, fun N z => ⟨fun k h => (by cases h), kA, hkA, comp, hkindA⟩, kA, comp, hkA, hkindA, hcomp, hnameA⟩
theorem se_ins (ci : Nat) (q : vw_C) (h : vwCl[ci]? = some q) : Cond.instantiable q.1 q.2.2 ∈ gW := by
  match ci, h with
  | 0, h => cases h; exact gW_mem (by decide +kernel)
  | 1, h => cases h; exact gW_mem (by decide +kernel)
  | 2, h => cases h; exact gW_mem (by decide +kernel)
  | 3, h => cases h; exact gW_mem (by decide +kernel)
  | 4, h => cases h; exact gW_mem (by decide +kernel)
  | 5, h => cases h; exact gW_mem (by decide +kernel)
  | 6, h => cases h; exact gW_mem (by decide +kernel)
  | 7, h => cases h; exact gW_mem (by decide +kernel)
  | 8, h => cases h; exact gW_mem (by decide +kernel)
  | 9, h => cases h; exact gW_mem (by decide +kernel)
  | 10, h => cases h; exact gW_mem (by decide +kernel)
  | 11, h => cases h; exact gW_mem (by decide +kernel)
  | ci + 12, h => simp at h
theorem se_cls {args : Array Value} {s : State} (hts : ∀ w ∈ gW, w.before args s = true) : ∃ D : va_G, ∀ (c : Nat) (q : vw_C), vwCl[c]? = some q → u_Kn s q.1 q.2.1 q.2.2 (D.1 c) (D.2 c) := by
  have h : ∀ c : Nat, ∃ x : ClassId × (Nat → Nat), ∀ q : vw_C, vwCl[c]? = some q → u_Kn s q.1 q.2.1 q.2.2 x.1 x.2 := by
    intro c
    cases hq : vwCl[c]? with
    | none => exact ⟨(0, fun _ => 0), fun q h => by cases h⟩
    | some q =>
      obtain ⟨cC, iS, hk⟩ := u_known hts (vwOk c q hq).1 (hts _ (se_ins c q hq))
      exact ⟨(cC, iS), fun q' h => by cases h; exact hk⟩
  exact ⟨(fun c => (Classical.choose (h c)).1, fun c => (Classical.choose (h c)).2), fun c q hq => Classical.choose_spec (h c) q hq⟩
theorem se_K {args : Array Value} {s : State} (hts : ∀ w ∈ gW, w.before args s = true) (hao : va_AO "java/lang/Object" s) : ∃ (D : va_G) (ac : Nat → ClassId), va_K D vwCl (gT ac) s := by
  obtain ⟨D, hD⟩ := se_cls hts
  obtain ⟨c0, a0, b0⟩ := se_arr (hts (.arrayClass .int) (gW_mem (by decide +kernel)))
  obtain ⟨c1, a1, b1⟩ := se_arr (hts (.arrayClass .long) (gW_mem (by decide +kernel)))
  obtain ⟨c3, a3, b3⟩ := se_arr (hts (.arrayClass .boolean) (gW_mem (by decide +kernel)))
  obtain ⟨c2, a2, b2⟩ := se_arq hao
  refine ⟨D, fun k => if k = 0 then c0 else if k = 1 then c1 else if k = 2 then c2 else c3, hD, fun k q hk => ?_⟩
  match k, hk with
  | 0, hk => cases hk; exact ⟨a0, b0⟩
  | 1, hk => cases hk; exact ⟨a1, b1⟩
  | 2, hk => cases hk; exact ⟨a2, b2⟩
  | 3, hk => cases hk; exact ⟨a3, b3⟩
  | k + 4, hk => simp at hk
theorem se_nW {args : Array Value} {s : State} (hts : ∀ w ∈ lw_tbl, w.before args s = true) : ∀ w ∈ nW, va_Nw w s := by
  intro w hw
  obtain ⟨h1, h2⟩ := List.mem_filter.mp hw
  have h3 := hts w h1
  cases w with
  | fieldLinkNest a i b n d h => exact va_Nw.of rfl h3
  | methodLinkNest a i x h => exact va_Nw.of rfl h3
  | castable a b => exact va_Nw.of rfl h3
  | declares x => exact va_Nw.of rfl h3
  | _ => cases h2
section SE
variable {args : Array Value} {s : State}
abbrev tmE : Term := .static "java/util/ArrayList" "DEFAULTCAPACITY_EMPTY_ELEMENTDATA" "[Ljava/lang/Object;"
abbrev tmT : Term := .static "LostParcels" "TENS" "[I"
abbrev tmP : Term := .static "LostParcels$Matching" "PLACES" "[J"
theorem se_0 (hts : ∀ w ∈ lw_tbl, w.before args s = true) (hg : (Jvm.Cond.and given_1 narrow_1).before args s = true) : ∃ t : Nat, va_Z "java/util/ArrayList" "DEFAULTCAPACITY_EMPTY_ELEMENTDATA" "[Ljava/lang/Object;" (.ref t) (fun q => s.heap.size ≤ q) s s.heap ∧ va_T (.object "java/lang/Object") t 0 (fun _ => .null) (fun q => s.heap.size ≤ q) s s.heap := by
  have hs := flat_of_before _ hg
  have hA : ∀ a : Nat, a < s.heap.size → ¬ (fun q => s.heap.size ≤ q) a := fun a h => Nat.not_le.mpr h
  obtain ⟨t, h1, h2⟩ := va_Tof (N := 0) (f := fun _ => .null) (A := fun q => s.heap.size ≤ q) (tm := tmE) (ty := .object "java/lang/Object") (by decide) (hs _ (by decide +kernel)) (va_eqt (hs (.eq (.length tmE) (.int 0)) (by decide +kernel))) (fun j hj => absurd hj (Nat.not_lt_zero _)) hA
  exact ⟨t, va_Zof (hts _ (by decide +kernel)) (hts _ (by decide +kernel)) h1 hA, h2⟩
theorem se_1 (hts : ∀ w ∈ lw_tbl, w.before args s = true) (hg : (Jvm.Cond.and given_1 narrow_1).before args s = true) : ∃ t : Nat, va_Z "LostParcels" "TENS" "[I" (.ref t) (fun q => s.heap.size ≤ q) s s.heap ∧ va_T .int t 9 (fun j => .int (tenA j)) (fun q => s.heap.size ≤ q) s s.heap := by
  have hs := flat_of_before _ hg
  have hA : ∀ a : Nat, a < s.heap.size → ¬ (fun q => s.heap.size ≤ q) a := fun a h => Nat.not_le.mpr h
  obtain ⟨t, h1, h2⟩ := va_Tof (N := 9) (f := fun j => .int (tenA j)) (A := fun q => s.heap.size ≤ q) (tm := tmT) (ty := .int) (by decide) (hs _ (by decide +kernel)) (va_eqt (hs (.eq (.length tmT) (.int 9)) (by decide +kernel))) (fun j hj => by
    match j, hj with
    | 0, _ => exact va_eqt (hs (.eq (.elem tmT (.int 0)) (.int 1)) (by decide +kernel))
    | 1, _ => exact va_eqt (hs (.eq (.elem tmT (.int 1)) (.int 10)) (by decide +kernel))
    | 2, _ => exact va_eqt (hs (.eq (.elem tmT (.int 2)) (.int 100)) (by decide +kernel))
    | 3, _ => exact va_eqt (hs (.eq (.elem tmT (.int 3)) (.int 1000)) (by decide +kernel))
    | 4, _ => exact va_eqt (hs (.eq (.elem tmT (.int 4)) (.int 10000)) (by decide +kernel))
    | 5, _ => exact va_eqt (hs (.eq (.elem tmT (.int 5)) (.int 100000)) (by decide +kernel))
    | 6, _ => exact va_eqt (hs (.eq (.elem tmT (.int 6)) (.int 1000000)) (by decide +kernel))
    | 7, _ => exact va_eqt (hs (.eq (.elem tmT (.int 7)) (.int 10000000)) (by decide +kernel))
    | 8, _ => exact va_eqt (hs (.eq (.elem tmT (.int 8)) (.int 100000000)) (by decide +kernel))
    | n + 9, h => exact absurd h (by omega)) hA
  exact ⟨t, va_Zof (hts _ (by decide +kernel)) (hts _ (by decide +kernel)) h1 hA, h2⟩
theorem se_2 (hts : ∀ w ∈ lw_tbl, w.before args s = true) (hg : (Jvm.Cond.and given_1 narrow_1).before args s = true) : ∃ t : Nat, va_Z "LostParcels$Matching" "PLACES" "[J" (.ref t) (fun q => s.heap.size ≤ q) s s.heap ∧ va_T .long t 8 (fun j => .long (plA j)) (fun q => s.heap.size ≤ q) s s.heap := by
  have hs := flat_of_before _ hg
  have hA : ∀ a : Nat, a < s.heap.size → ¬ (fun q => s.heap.size ≤ q) a := fun a h => Nat.not_le.mpr h
  obtain ⟨t, h1, h2⟩ := va_Tof (N := 8) (f := fun j => .long (plA j)) (A := fun q => s.heap.size ≤ q) (tm := tmP) (ty := .long) (by decide) (hs _ (by decide +kernel)) (va_eqt (hs (.eq (.length tmP) (.int 8)) (by decide +kernel))) (fun j hj => by
    match j, hj with
    | 0, _ => exact va_eqtl (hs (.eq (.elem tmP (.int 0)) (.long 1801088541)) (by decide +kernel))
    | 1, _ => exact va_eqtl (hs (.eq (.elem tmP (.int 1)) (.long 85766121)) (by decide +kernel))
    | 2, _ => exact va_eqtl (hs (.eq (.elem tmP (.int 2)) (.long 4084101)) (by decide +kernel))
    | 3, _ => exact va_eqtl (hs (.eq (.elem tmP (.int 3)) (.long 194481)) (by decide +kernel))
    | 4, _ => exact va_eqtl (hs (.eq (.elem tmP (.int 4)) (.long 9261)) (by decide +kernel))
    | 5, _ => exact va_eqtl (hs (.eq (.elem tmP (.int 5)) (.long 441)) (by decide +kernel))
    | 6, _ => exact va_eqtl (hs (.eq (.elem tmP (.int 6)) (.long 21)) (by decide +kernel))
    | 7, _ => exact va_eqtl (hs (.eq (.elem tmP (.int 7)) (.long 1)) (by decide +kernel))
    | n + 8, h => exact absurd h (by omega)) hA
  exact ⟨t, va_Zof (hts _ (by decide +kernel)) (hts _ (by decide +kernel)) h1 hA, h2⟩
theorem se_env (hts : ∀ w ∈ lw_tbl, w.before args s = true) (hg : (Jvm.Cond.and given_1 narrow_1).before args s = true) : ∃ (D : va_G) (ac : Nat → ClassId) (z : Nat → Nat), va_K D vwCl (gT ac) s ∧ gZ (D, ac, (fun q => s.heap.size ≤ q), z) s ∧ z 0 < s.heap.size := by
  have hs := flat_of_before _ hg
  have hao : va_AO "java/lang/Object" s := va_AO.of (hts (.arrayOver (.object "java/lang/Object")) (by decide +kernel))
  obtain ⟨D, ac, hK⟩ := se_K (gW_of hts) hao
  obtain ⟨t0, x0, y0⟩ := se_0 hts hg
  obtain ⟨t1, x1, y1⟩ := se_1 hts hg
  obtain ⟨t2, x2, y2⟩ := se_2 hts hg
  obtain ⟨t3, x3⟩ := va_Mi.of (hs (.isRef (.mirror "[Ljava/lang/Object;")) (by decide +kernel))
  refine ⟨D, ac, fun k => if k = 0 then t0 else if k = 1 then t1 else if k = 2 then t2 else t3, hK, ⟨⟨x0, y0⟩, ⟨x1, y1⟩, ⟨x2, y2⟩, se_nW hts, hao, x3, va_Nc.of (hs (.not (.castable "LostParcels$Thing" "LostParcels$Purse")) (by decide +kernel))⟩, Nat.not_le.mp y0.out⟩
end SE
