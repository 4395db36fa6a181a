section
variable {p : Program} {l : Launch} {e : Env} {s : State} {m : MethodId} {args : Array Value} {below : List Frame} {meth : Method} {c : Code} {D : va_G} {cI cZ cJ : ClassId} {o : Nat} {ad : Nat → Nat} {A : Nat → Prop}
abbrev rmX10_finding : Room := { frames := 0, cells := 0, slots := 0, locals := 0 }
def fX10_finding (x1 : Int32) (u : mS) : Option (Int32 × mS) :=
  (mR u 35 6 x1).bind fun v6 =>
  (mU u 35 6 x1 (v6 + (1 : Int32))).bind fun u9 =>
  some ((-1000000 : Int32) - x1, u9)
set_option maxHeartbeats 4000000 in
set_option maxRecDepth 20000 in
theorem wX10_finding (C : mC p s m args meth c cX10_finding 2 (some .int) D cI cZ cJ o ad A) {x1 : Int32} {u : mS} {res : Int32 × mS} (h : fX10_finding x1 u = some res) {H : Heap} {locs : List Loc} (hP : va_P D vwCl (mW cI cZ cJ o ad u) H) (hS : va_S A s.heap H locs) {ls : Array Slot} (hl : lv_has ls 2 [(0, .ref o), (1, .int x1)]) : W p l e rmX10_finding s m args below meth c H locs 0 0 (MQ below (mQi D cI cZ cJ o ad A res) args s 0 0 A) (F0 m 0 ls []) := by
  have hx := C.1
  have hb := C.2.1
  unfold fX10_finding at h
  refine lv_aload_n hx hb dX10_finding_0 rfl (lv_at hl 0 rfl) ?_
  refine mg_found C hP dX10_finding_1 ?_
  refine lv_iload_n hx hb dX10_finding_4 rfl (lv_at hl 1 rfl) ?_
  refine lv_dup2_11 hx hb dX10_finding_5 rfl rfl ?_
  obtain ⟨v6, e6, h⟩ := ob h
  refine ml_found C hP e6 dX10_finding_6 ?_
  refine lv_iconst (v := 1) hx hb dX10_finding_7 (by decide) ?_
  refine lv_iadd hx hb dX10_finding_8 ?_
  obtain ⟨u9, e9, h⟩ := ob h
  refine ms_found C hP hS e9 dX10_finding_9 (fun H locs hP hS => ?_)
  refine lv_ldc (v := -1000000) hx hb C.2.2.2.1 (C.2.2.2.2.1 _ kcX10_124) dX10_finding_10 ?_
  refine lv_iload_n hx hb dX10_finding_12 rfl (lv_at hl 1 rfl) ?_
  refine lv_isub hx hb dX10_finding_13 ?_
  exact mx_reti C h hP hS dX10_finding_14
theorem tX10_finding {D : va_G} {cI cZ cJ : ClassId} {o : Nat} {ad : Nat → Nat} {A : Nat → Prop} {x1 : Int32} {u : mS} {res : Int32 × mS} (h : fX10_finding x1 u = some res) : Met l yX10_finding (Cond.code yX10_finding cX10_finding 2 (some .int) :: gW) rmX10_finding (va_Pc [.ref o, .int x1] (mPre D cI cZ cJ o ad A u)) (mQi D cI cZ cJ o ad A res) 0 0 A :=
  mx_met ⟨by decide +kernel, rfl⟩ (Nat.le_of_ble_eq_true rfl) (fun p e s m below meth c ls C hP hl => wX10_finding C h hP va_S.rf hl)
abbrev rmX10_isIn : Room := { frames := 0, cells := 0, slots := 0, locals := 0 }
def fX10_isIn (x0 : Int32) (x1 : Int32) (x2 : Int32) (u : mS) : Option (Int32 × mS) :=
  if x0 < x1 then (
    some ((0 : Int32), u)
  ) else (
    if x2 < x0 then (
      some ((0 : Int32), u)
    ) else (
      some ((1 : Int32), u)
    )
  )
set_option maxHeartbeats 4000000 in
set_option maxRecDepth 20000 in
theorem wX10_isIn (C : mC p s m args meth c cX10_isIn 3 (some .boolean) D cI cZ cJ o ad A) {x0 : Int32} {x1 : Int32} {x2 : Int32} {u : mS} {res : Int32 × mS} (h : fX10_isIn x0 x1 x2 u = some res) {H : Heap} {locs : List Loc} (hP : va_P D vwCl (mW cI cZ cJ o ad u) H) (hS : va_S A s.heap H locs) {ls : Array Slot} (hl : lv_has ls 3 [(0, .int x0), (1, .int x1), (2, .int x2)]) : W p l e rmX10_isIn s m args below meth c H locs 0 0 (MQ below (mQi D cI cZ cJ o ad A res) args s 0 0 A) (F0 m 0 ls []) := by
  have hx := C.1
  have hb := C.2.1
  unfold fX10_isIn at h
  refine lv_iload_n hx hb dX10_isIn_0 rfl (lv_at hl 0 rfl) ?_
  refine lv_iload_n hx hb dX10_isIn_1 rfl (lv_at hl 1 rfl) ?_
  refine lv_icmp_lt (tgt := 14) hx hb dX10_isIn_2 (by decide) (fun hc => ?_) (fun hc => ?_)
  · replace h := it_pos hc h
    refine lv_iconst (v := 0) hx hb dX10_isIn_14 (by decide) ?_
    exact mx_retz C (by decide) h hP hS dX10_isIn_15
  · replace h := it_neg hc h
    refine lv_iload_n hx hb dX10_isIn_5 rfl (lv_at hl 0 rfl) ?_
    refine lv_iload_n hx hb dX10_isIn_6 rfl (lv_at hl 2 rfl) ?_
    refine lv_icmp_gt (tgt := 14) hx hb dX10_isIn_7 (by decide) (fun hc => ?_) (fun hc => ?_)
    · replace h := it_pos hc h
      refine lv_iconst (v := 0) hx hb dX10_isIn_14 (by decide) ?_
      exact mx_retz C (by decide) h hP hS dX10_isIn_15
    · replace h := it_neg hc h
      refine lv_iconst (v := 1) hx hb dX10_isIn_10 (by decide) ?_
      refine lv_goto (tgt := 15) hx hb dX10_isIn_11 (by decide) ?_
      exact mx_retz C (by decide) h hP hS dX10_isIn_15
theorem tX10_isIn {D : va_G} {cI cZ cJ : ClassId} {o : Nat} {ad : Nat → Nat} {A : Nat → Prop} {x0 : Int32} {x1 : Int32} {x2 : Int32} {u : mS} {res : Int32 × mS} (h : fX10_isIn x0 x1 x2 u = some res) : Met l yX10_isIn (Cond.code yX10_isIn cX10_isIn 3 (some .boolean) :: gW) rmX10_isIn (va_Pc [.int x0, .int x1, .int x2] (mPre D cI cZ cJ o ad A u)) (mQi D cI cZ cJ o ad A res) 0 0 A :=
  mx_met ⟨by decide +kernel, rfl⟩ (Nat.le_of_ble_eq_true rfl) (fun p e s m below meth c ls C hP hl => wX10_isIn C h hP va_S.rf hl)
abbrev rmX10_isThing : Room := { frames := 0, cells := 0, slots := 0, locals := 0 }
def fX10_isThing (x1 : Int32) (u : mS) : Option (Int32 × mS) :=
  if x1 < 0 then (
    some ((0 : Int32), u)
  ) else (
    if (u.1 2) ≤ x1 then (
      some ((0 : Int32), u)
    ) else (
      some ((1 : Int32), u)
    )
  )
set_option maxHeartbeats 4000000 in
set_option maxRecDepth 20000 in
theorem wX10_isThing (C : mC p s m args meth c cX10_isThing 2 (some .boolean) D cI cZ cJ o ad A) {x1 : Int32} {u : mS} {res : Int32 × mS} (h : fX10_isThing x1 u = some res) {H : Heap} {locs : List Loc} (hP : va_P D vwCl (mW cI cZ cJ o ad u) H) (hS : va_S A s.heap H locs) {ls : Array Slot} (hl : lv_has ls 2 [(0, .ref o), (1, .int x1)]) : W p l e rmX10_isThing s m args below meth c H locs 0 0 (MQ below (mQi D cI cZ cJ o ad A res) args s 0 0 A) (F0 m 0 ls []) := by
  have hx := C.1
  have hb := C.2.1
  unfold fX10_isThing at h
  refine lv_iload_n hx hb dX10_isThing_0 rfl (lv_at hl 1 rfl) ?_
  refine lv_if_lt (tgt := 16) hx hb dX10_isThing_1 (by decide) (fun hc => ?_) (fun hc => ?_)
  · replace h := it_pos hc h
    refine lv_iconst (v := 0) hx hb dX10_isThing_16 (by decide) ?_
    exact mx_retz C (by decide) h hP hS dX10_isThing_17
  · replace h := it_neg hc h
    refine lv_iload_n hx hb dX10_isThing_4 rfl (lv_at hl 1 rfl) ?_
    refine lv_aload_n hx hb dX10_isThing_5 rfl (lv_at hl 0 rfl) ?_
    refine mg_things C hP dX10_isThing_6 ?_
    refine lv_icmp_ge (tgt := 16) hx hb dX10_isThing_9 (by decide) (fun hc => ?_) (fun hc => ?_)
    · replace h := it_pos hc h
      refine lv_iconst (v := 0) hx hb dX10_isThing_16 (by decide) ?_
      exact mx_retz C (by decide) h hP hS dX10_isThing_17
    · replace h := it_neg hc h
      refine lv_iconst (v := 1) hx hb dX10_isThing_12 (by decide) ?_
      refine lv_goto (tgt := 17) hx hb dX10_isThing_13 (by decide) ?_
      exact mx_retz C (by decide) h hP hS dX10_isThing_17
theorem tX10_isThing {D : va_G} {cI cZ cJ : ClassId} {o : Nat} {ad : Nat → Nat} {A : Nat → Prop} {x1 : Int32} {u : mS} {res : Int32 × mS} (h : fX10_isThing x1 u = some res) : Met l yX10_isThing (Cond.code yX10_isThing cX10_isThing 2 (some .boolean) :: gW) rmX10_isThing (va_Pc [.ref o, .int x1] (mPre D cI cZ cJ o ad A u)) (mQi D cI cZ cJ o ad A res) 0 0 A :=
  mx_met ⟨by decide +kernel, rfl⟩ (Nat.le_of_ble_eq_true rfl) (fun p e s m below meth c ls C hP hl => wX10_isThing C h hP va_S.rf hl)
abbrev rmX10_isSeeker : Room := { frames := 0, cells := 0, slots := 0, locals := 0 }
def fX10_isSeeker (x1 : Int32) (u : mS) : Option (Int32 × mS) :=
  if x1 < 0 then (
    some ((0 : Int32), u)
  ) else (
    if (u.1 17) ≤ x1 then (
      some ((0 : Int32), u)
    ) else (
      some ((1 : Int32), u)
    )
  )
set_option maxHeartbeats 4000000 in
set_option maxRecDepth 20000 in
theorem wX10_isSeeker (C : mC p s m args meth c cX10_isSeeker 2 (some .boolean) D cI cZ cJ o ad A) {x1 : Int32} {u : mS} {res : Int32 × mS} (h : fX10_isSeeker x1 u = some res) {H : Heap} {locs : List Loc} (hP : va_P D vwCl (mW cI cZ cJ o ad u) H) (hS : va_S A s.heap H locs) {ls : Array Slot} (hl : lv_has ls 2 [(0, .ref o), (1, .int x1)]) : W p l e rmX10_isSeeker s m args below meth c H locs 0 0 (MQ below (mQi D cI cZ cJ o ad A res) args s 0 0 A) (F0 m 0 ls []) := by
  have hx := C.1
  have hb := C.2.1
  unfold fX10_isSeeker at h
  refine lv_iload_n hx hb dX10_isSeeker_0 rfl (lv_at hl 1 rfl) ?_
  refine lv_if_lt (tgt := 16) hx hb dX10_isSeeker_1 (by decide) (fun hc => ?_) (fun hc => ?_)
  · replace h := it_pos hc h
    refine lv_iconst (v := 0) hx hb dX10_isSeeker_16 (by decide) ?_
    exact mx_retz C (by decide) h hP hS dX10_isSeeker_17
  · replace h := it_neg hc h
    refine lv_iload_n hx hb dX10_isSeeker_4 rfl (lv_at hl 1 rfl) ?_
    refine lv_aload_n hx hb dX10_isSeeker_5 rfl (lv_at hl 0 rfl) ?_
    refine mg_seekers C hP dX10_isSeeker_6 ?_
    refine lv_icmp_ge (tgt := 16) hx hb dX10_isSeeker_9 (by decide) (fun hc => ?_) (fun hc => ?_)
    · replace h := it_pos hc h
      refine lv_iconst (v := 0) hx hb dX10_isSeeker_16 (by decide) ?_
      exact mx_retz C (by decide) h hP hS dX10_isSeeker_17
    · replace h := it_neg hc h
      refine lv_iconst (v := 1) hx hb dX10_isSeeker_12 (by decide) ?_
      refine lv_goto (tgt := 17) hx hb dX10_isSeeker_13 (by decide) ?_
      exact mx_retz C (by decide) h hP hS dX10_isSeeker_17
theorem tX10_isSeeker {D : va_G} {cI cZ cJ : ClassId} {o : Nat} {ad : Nat → Nat} {A : Nat → Prop} {x1 : Int32} {u : mS} {res : Int32 × mS} (h : fX10_isSeeker x1 u = some res) : Met l yX10_isSeeker (Cond.code yX10_isSeeker cX10_isSeeker 2 (some .boolean) :: gW) rmX10_isSeeker (va_Pc [.ref o, .int x1] (mPre D cI cZ cJ o ad A u)) (mQi D cI cZ cJ o ad A res) 0 0 A :=
  mx_met ⟨by decide +kernel, rfl⟩ (Nat.le_of_ble_eq_true rfl) (fun p e s m below meth c ls C hP hl => wX10_isSeeker C h hP va_S.rf hl)
abbrev rmX10_isTrait : Room := { frames := 1, cells := 0, slots := 0, locals := 22 }
def fX10_isTrait (x0 : Int32) (u : mS) : Option (Int32 × mS) :=
  bI (fX10_isIn x0 (0 : Int32) (4 : Int32) u) fun r3 u3 =>
  if (r3 = 0 ∨ r3 = 1) then some (r3, u3) else none
set_option maxHeartbeats 4000000 in
set_option maxRecDepth 20000 in
theorem wX10_isTrait (C : mC p s m args meth c cX10_isTrait 1 (some .boolean) D cI cZ cJ o ad A) {x0 : Int32} {u : mS} {res : Int32 × mS} (h : fX10_isTrait x0 u = some res) {H : Heap} {locs : List Loc} (hP : va_P D vwCl (mW cI cZ cJ o ad u) H) (hS : va_S A s.heap H locs) {ls : Array Slot} (hl : lv_has ls 1 [(0, .int x0)]) : W p l e rmX10_isTrait s m args below meth c H locs 0 0 (MQ below (mQi D cI cZ cJ o ad A res) args s 0 0 A) (F0 m 0 ls []) := by
  have hx := C.1
  have hb := C.2.1
  unfold fX10_isTrait at h
  refine lv_iload_n hx hb dX10_isTrait_0 rfl (lv_at hl 0 rfl) ?_
  refine lv_iconst (v := 0) hx hb dX10_isTrait_1 (by decide) ?_
  refine lv_iconst (v := 4) hx hb dX10_isTrait_2 (by decide) ?_
  obtain ⟨r3, u3, e3, h⟩ := obI h
  refine mx_cSi C hP hS [.int x0, .int (0 : Int32), .int (4 : Int32)] (tX10_isIn e3) qX10_131 ⟨rfl, rfl, Nat.le_of_ble_eq_true rfl, Nat.le_of_ble_eq_true rfl⟩ rfl hl.1 rfl (Nat.le_of_ble_eq_true rfl) dX10_isTrait_3 (fun H locs hP hS => ?_)
  obtain ⟨hz, h⟩ := if_so h
  exact mx_retz C hz (congrArg some h) hP hS dX10_isTrait_6
theorem tX10_isTrait {D : va_G} {cI cZ cJ : ClassId} {o : Nat} {ad : Nat → Nat} {A : Nat → Prop} {x0 : Int32} {u : mS} {res : Int32 × mS} (h : fX10_isTrait x0 u = some res) : Met l yX10_isTrait (Cond.code yX10_isTrait cX10_isTrait 1 (some .boolean) :: gW) rmX10_isTrait (va_Pc [.int x0] (mPre D cI cZ cJ o ad A u)) (mQi D cI cZ cJ o ad A res) 0 0 A :=
  mx_met ⟨by decide +kernel, rfl⟩ (Nat.le_of_ble_eq_true rfl) (fun p e s m below meth c ls C hP hl => wX10_isTrait C h hP va_S.rf hl)
abbrev rmX10_becomes : Room := { frames := 0, cells := 0, slots := 0, locals := 0 }
def fX10_becomes (x1 : Int32) (x2 : Int32) (u : mS) : Option (mS) :=
  (mU u 9 20 x1 x2).bind fun u6 =>
  (mU u6 11 20 x1 (u6.1 0)).bind fun u16 =>
  (mU u16 15 9000 ((3 : Int32) * (u16.1 16)) x1).bind fun u28 =>
  (mU u28 15 9000 (((3 : Int32) * (u28.1 16)) + (1 : Int32)) (u28.1 0)).bind fun u45 =>
  (mU u45 15 9000 (((3 : Int32) * (u45.1 16)) + (2 : Int32)) x2).bind fun u59 =>
  pU (mF u59 16 ((u59.1 16) + (1 : Int32))) fun u67 =>
  some u67
set_option maxHeartbeats 4000000 in
set_option maxRecDepth 20000 in
theorem wX10_becomes (C : mC p s m args meth c cX10_becomes 3 none D cI cZ cJ o ad A) {x1 : Int32} {x2 : Int32} {u : mS} {res : mS} (h : fX10_becomes x1 x2 u = some res) {H : Heap} {locs : List Loc} (hP : va_P D vwCl (mW cI cZ cJ o ad u) H) (hS : va_S A s.heap H locs) {ls : Array Slot} (hl : lv_has ls 3 [(0, .ref o), (1, .int x1), (2, .int x2)]) : W p l e rmX10_becomes s m args below meth c H locs 0 0 (MQ below (mQv D cI cZ cJ o ad A res) args s 0 0 A) (F0 m 0 ls []) := by
  have hx := C.1
  have hb := C.2.1
  unfold fX10_becomes at h
  refine lv_aload_n hx hb dX10_becomes_0 rfl (lv_at hl 0 rfl) ?_
  refine mg_is C hP dX10_becomes_1 ?_
  refine lv_iload_n hx hb dX10_becomes_4 rfl (lv_at hl 1 rfl) ?_
  refine lv_iload_n hx hb dX10_becomes_5 rfl (lv_at hl 2 rfl) ?_
  obtain ⟨u6, e6, h⟩ := ob h
  refine ms_is C hP hS e6 dX10_becomes_6 (fun H locs hP hS => ?_)
  refine lv_aload_n hx hb dX10_becomes_7 rfl (lv_at hl 0 rfl) ?_
  refine mg_since C hP dX10_becomes_8 ?_
  refine lv_iload_n hx hb dX10_becomes_11 rfl (lv_at hl 1 rfl) ?_
  refine lv_aload_n hx hb dX10_becomes_12 rfl (lv_at hl 0 rfl) ?_
  refine mg_today C hP dX10_becomes_13 ?_
  obtain ⟨u16, e16, h⟩ := ob h
  refine ms_since C hP hS e16 dX10_becomes_16 (fun H locs hP hS => ?_)
  refine lv_aload_n hx hb dX10_becomes_17 rfl (lv_at hl 0 rfl) ?_
  refine mg_events C hP dX10_becomes_18 ?_
  refine lv_iconst (v := 3) hx hb dX10_becomes_21 (by decide) ?_
  refine lv_aload_n hx hb dX10_becomes_22 rfl (lv_at hl 0 rfl) ?_
  refine mg_eventMany C hP dX10_becomes_23 ?_
  refine lv_imul hx hb dX10_becomes_26 ?_
  refine lv_iload_n hx hb dX10_becomes_27 rfl (lv_at hl 1 rfl) ?_
  obtain ⟨u28, e28, h⟩ := ob h
  refine ms_events C hP hS e28 dX10_becomes_28 (fun H locs hP hS => ?_)
  refine lv_aload_n hx hb dX10_becomes_29 rfl (lv_at hl 0 rfl) ?_
  refine mg_events C hP dX10_becomes_30 ?_
  refine lv_iconst (v := 3) hx hb dX10_becomes_33 (by decide) ?_
  refine lv_aload_n hx hb dX10_becomes_34 rfl (lv_at hl 0 rfl) ?_
  refine mg_eventMany C hP dX10_becomes_35 ?_
  refine lv_imul hx hb dX10_becomes_38 ?_
  refine lv_iconst (v := 1) hx hb dX10_becomes_39 (by decide) ?_
  refine lv_iadd hx hb dX10_becomes_40 ?_
  refine lv_aload_n hx hb dX10_becomes_41 rfl (lv_at hl 0 rfl) ?_
  refine mg_today C hP dX10_becomes_42 ?_
  obtain ⟨u45, e45, h⟩ := ob h
  refine ms_events C hP hS e45 dX10_becomes_45 (fun H locs hP hS => ?_)
  refine lv_aload_n hx hb dX10_becomes_46 rfl (lv_at hl 0 rfl) ?_
  refine mg_events C hP dX10_becomes_47 ?_
  refine lv_iconst (v := 3) hx hb dX10_becomes_50 (by decide) ?_
  refine lv_aload_n hx hb dX10_becomes_51 rfl (lv_at hl 0 rfl) ?_
  refine mg_eventMany C hP dX10_becomes_52 ?_
  refine lv_imul hx hb dX10_becomes_55 ?_
  refine lv_iconst (v := 2) hx hb dX10_becomes_56 (by decide) ?_
  refine lv_iadd hx hb dX10_becomes_57 ?_
  refine lv_iload_n hx hb dX10_becomes_58 rfl (lv_at hl 2 rfl) ?_
  obtain ⟨u59, e59, h⟩ := ob h
  refine ms_events C hP hS e59 dX10_becomes_59 (fun H locs hP hS => ?_)
  refine lv_aload_n hx hb dX10_becomes_60 rfl (lv_at hl 0 rfl) ?_
  refine lv_dup hx hb dX10_becomes_61 rfl ?_
  refine mg_eventMany C hP dX10_becomes_62 ?_
  refine lv_iconst (v := 1) hx hb dX10_becomes_65 (by decide) ?_
  refine lv_iadd hx hb dX10_becomes_66 ?_
  obtain ⟨u67, e67, h⟩ := op h
  refine mp_eventMany C hP hS e67 dX10_becomes_67 (fun H locs hP hS => ?_)
  exact mx_retv C h hP hS dX10_becomes_70
theorem tX10_becomes {D : va_G} {cI cZ cJ : ClassId} {o : Nat} {ad : Nat → Nat} {A : Nat → Prop} {x1 : Int32} {x2 : Int32} {u : mS} {res : mS} (h : fX10_becomes x1 x2 u = some res) : Met l yX10_becomes (Cond.code yX10_becomes cX10_becomes 3 none :: gW) rmX10_becomes (va_Pc [.ref o, .int x1, .int x2] (mPre D cI cZ cJ o ad A u)) (mQv D cI cZ cJ o ad A res) 0 0 A :=
  mx_met ⟨by decide +kernel, rfl⟩ (Nat.le_of_ble_eq_true rfl) (fun p e s m below meth c ls C hP hl => wX10_becomes C h hP va_S.rf hl)
abbrev rmX10_spoils : Room := { frames := 0, cells := 0, slots := 0, locals := 0 }
def fX10_spoils (x1 : Int32) (u : mS) : Option (Int32 × mS) :=
  (mR u 3 20 x1).bind fun v5 =>
  if v5 = (2 : Int32) then (
    (mR u 9 20 x1).bind fun v15 =>
    if v15 = 0 then (
      (mR u 4 20 x1).bind fun v28 =>
      if ((u.1 0) - v28) < (u.1 1) then (
        some ((0 : Int32), u)
      ) else (
        some ((1 : Int32), u)
      )
    ) else (
      some ((0 : Int32), u)
    )
  ) else (
    some ((0 : Int32), u)
  )
set_option maxHeartbeats 4000000 in
set_option maxRecDepth 20000 in
theorem wX10_spoils (C : mC p s m args meth c cX10_spoils 2 (some .boolean) D cI cZ cJ o ad A) {x1 : Int32} {u : mS} {res : Int32 × mS} (h : fX10_spoils x1 u = some res) {H : Heap} {locs : List Loc} (hP : va_P D vwCl (mW cI cZ cJ o ad u) H) (hS : va_S A s.heap H locs) {ls : Array Slot} (hl : lv_has ls 2 [(0, .ref o), (1, .int x1)]) : W p l e rmX10_spoils s m args below meth c H locs 0 0 (MQ below (mQi D cI cZ cJ o ad A res) args s 0 0 A) (F0 m 0 ls []) := by
  have hx := C.1
  have hb := C.2.1
  unfold fX10_spoils at h
  refine lv_aload_n hx hb dX10_spoils_0 rfl (lv_at hl 0 rfl) ?_
  refine mg_kind C hP dX10_spoils_1 ?_
  refine lv_iload_n hx hb dX10_spoils_4 rfl (lv_at hl 1 rfl) ?_
  obtain ⟨v5, e5, h⟩ := ob h
  refine ml_kind C hP e5 dX10_spoils_5 ?_
  refine lv_iconst (v := 2) hx hb dX10_spoils_6 (by decide) ?_
  refine lv_icmp_ne (tgt := 41) hx hb dX10_spoils_7 (by decide) (fun hc => ?_) (fun hc => ?_)
  · replace h := it_neg hc h
    refine lv_iconst (v := 0) hx hb dX10_spoils_41 (by decide) ?_
    exact mx_retz C (by decide) h hP hS dX10_spoils_42
  · replace h := it_pos hc h
    refine lv_aload_n hx hb dX10_spoils_10 rfl (lv_at hl 0 rfl) ?_
    refine mg_is C hP dX10_spoils_11 ?_
    refine lv_iload_n hx hb dX10_spoils_14 rfl (lv_at hl 1 rfl) ?_
    obtain ⟨v15, e15, h⟩ := ob h
    refine ml_is C hP e15 dX10_spoils_15 ?_
    refine lv_if_ne (tgt := 41) hx hb dX10_spoils_16 (by decide) (fun hc => ?_) (fun hc => ?_)
    · replace h := it_neg hc h
      refine lv_iconst (v := 0) hx hb dX10_spoils_41 (by decide) ?_
      exact mx_retz C (by decide) h hP hS dX10_spoils_42
    · replace h := it_pos hc h
      refine lv_aload_n hx hb dX10_spoils_19 rfl (lv_at hl 0 rfl) ?_
      refine mg_today C hP dX10_spoils_20 ?_
      refine lv_aload_n hx hb dX10_spoils_23 rfl (lv_at hl 0 rfl) ?_
      refine mg_foundOn C hP dX10_spoils_24 ?_
      refine lv_iload_n hx hb dX10_spoils_27 rfl (lv_at hl 1 rfl) ?_
      obtain ⟨v28, e28, h⟩ := ob h
      refine ml_foundOn C hP e28 dX10_spoils_28 ?_
      refine lv_isub hx hb dX10_spoils_29 ?_
      refine lv_aload_n hx hb dX10_spoils_30 rfl (lv_at hl 0 rfl) ?_
      refine mg_spoil C hP dX10_spoils_31 ?_
      refine lv_icmp_lt (tgt := 41) hx hb dX10_spoils_34 (by decide) (fun hc => ?_) (fun hc => ?_)
      · replace h := it_pos hc h
        refine lv_iconst (v := 0) hx hb dX10_spoils_41 (by decide) ?_
        exact mx_retz C (by decide) h hP hS dX10_spoils_42
      · replace h := it_neg hc h
        refine lv_iconst (v := 1) hx hb dX10_spoils_37 (by decide) ?_
        refine lv_goto (tgt := 42) hx hb dX10_spoils_38 (by decide) ?_
        exact mx_retz C (by decide) h hP hS dX10_spoils_42
theorem tX10_spoils {D : va_G} {cI cZ cJ : ClassId} {o : Nat} {ad : Nat → Nat} {A : Nat → Prop} {x1 : Int32} {u : mS} {res : Int32 × mS} (h : fX10_spoils x1 u = some res) : Met l yX10_spoils (Cond.code yX10_spoils cX10_spoils 2 (some .boolean) :: gW) rmX10_spoils (va_Pc [.ref o, .int x1] (mPre D cI cZ cJ o ad A u)) (mQi D cI cZ cJ o ad A res) 0 0 A :=
  mx_met ⟨by decide +kernel, rfl⟩ (Nat.le_of_ble_eq_true rfl) (fun p e s m below meth c ls C hP hl => wX10_spoils C h hP va_S.rf hl)
abbrev rmX10_thing : Room := { frames := 1, cells := 0, slots := 0, locals := 22 }
def fX10_thing_136_b (x6 : Int32) (x7 : Int32) (u : mS) (k136 : Int32 → Int32 → mS → Option (Int32 × mS)) (k161 : Int32 → mS → Option (Int32 × mS)) : Option (Int32 × mS) :=
  if (4 : Int32) ≤ x7 then (
    k161 x6 u
  ) else (
    (mU u 14 80 (((4 : Int32) * x6) + x7) (-1 : Int32)).bind fun u154 =>
    k136 x6 (x7 + (1 : Int32)) u154
  )
set_option maxHeartbeats 4000000 in
set_option maxRecDepth 20000 in
theorem wX10_thing_136_b (C : mC p s m args meth c cX10_thing 8 (some .int) D cI cZ cJ o ad A) {x6 : Int32} {x7 : Int32} {u : mS} {res : Int32 × mS} {k136 : Int32 → Int32 → mS → Option (Int32 × mS)} {k161 : Int32 → mS → Option (Int32 × mS)} (hk136 : ∀ (x6 : Int32) (x7 : Int32) (u : mS) (H : Heap) (locs : List Loc) (ls : Array Slot), k136 x6 x7 u = some res → va_P D vwCl (mW cI cZ cJ o ad u) H → va_S A s.heap H locs → lv_has ls 8 [(0, .ref o), (6, .int x6), (7, .int x7)] → W p l e rmX10_thing s m args below meth c H locs 0 0 (MQ below (mQi D cI cZ cJ o ad A res) args s 0 0 A) (F0 m 136 ls [])) (hk161 : ∀ (x6 : Int32) (u : mS) (H : Heap) (locs : List Loc) (ls : Array Slot), k161 x6 u = some res → va_P D vwCl (mW cI cZ cJ o ad u) H → va_S A s.heap H locs → lv_has ls 8 [(0, .ref o), (6, .int x6)] → W p l e rmX10_thing s m args below meth c H locs 0 0 (MQ below (mQi D cI cZ cJ o ad A res) args s 0 0 A) (F0 m 161 ls [])) (h : fX10_thing_136_b x6 x7 u k136 k161 = some res) {H : Heap} {locs : List Loc} (hP : va_P D vwCl (mW cI cZ cJ o ad u) H) (hS : va_S A s.heap H locs) {ls : Array Slot} (hl : lv_has ls 8 [(0, .ref o), (6, .int x6), (7, .int x7)]) : W p l e rmX10_thing s m args below meth c H locs 0 0 (MQ below (mQi D cI cZ cJ o ad A res) args s 0 0 A) (F0 m 136 ls []) := by
  have hx := C.1
  have hb := C.2.1
  unfold fX10_thing_136_b at h
  refine lv_iload hx hb dX10_thing_136 (lv_at hl 2 rfl) ?_
  refine lv_iconst (v := 4) hx hb dX10_thing_138 (by decide) ?_
  refine lv_icmp_ge (tgt := 161) hx hb dX10_thing_139 (by decide) (fun hc => ?_) (fun hc => ?_)
  · replace h := it_pos hc h
    exact hk161 _ _ _ _ _ h hP hS (lv_sub hl [0, 1] rfl)
  · replace h := it_neg hc h
    refine lv_aload_n hx hb dX10_thing_142 rfl (lv_at hl 0 rfl) ?_
    refine mg_counts C hP dX10_thing_143 ?_
    refine lv_iconst (v := 4) hx hb dX10_thing_146 (by decide) ?_
    refine lv_iload hx hb dX10_thing_147 (lv_at hl 1 rfl) ?_
    refine lv_imul hx hb dX10_thing_149 ?_
    refine lv_iload hx hb dX10_thing_150 (lv_at hl 2 rfl) ?_
    refine lv_iadd hx hb dX10_thing_152 ?_
    refine lv_iconst (v := -1) hx hb dX10_thing_153 (by decide) ?_
    obtain ⟨u154, e154, h⟩ := ob h
    refine ms_counts C hP hS e154 dX10_thing_154 (fun H locs hP hS => ?_)
    refine lv_iinc (v := x7 + (1 : Int32)) (lv' := [(7, .int (x7 + (1 : Int32))), (0, .ref o), (6, .int x6)]) hx hb dX10_thing_155 hl (k := 2) rfl rfl (by decide) rfl (fun ls hl => ?_)
    refine lv_goto (tgt := 136) hx hb dX10_thing_158 (by decide) ?_
    exact hk136 _ _ _ _ _ _ h hP hS (lv_sub hl [1, 2, 0] rfl)
def fX10_thing_136 (k161 : Int32 → mS → Option (Int32 × mS)) : Nat → Int32 → Int32 → mS → Option (Int32 × mS)
  | 0 => fun _ _ _ => none
  | n + 1 => fun x6 x7 u => fX10_thing_136_b x6 x7 u (fX10_thing_136 k161 n) k161 
theorem wX10_thing_136 (C : mC p s m args meth c cX10_thing 8 (some .int) D cI cZ cJ o ad A) {res : Int32 × mS} {k161 : Int32 → mS → Option (Int32 × mS)} (hk161 : ∀ (x6 : Int32) (u : mS) (H : Heap) (locs : List Loc) (ls : Array Slot), k161 x6 u = some res → va_P D vwCl (mW cI cZ cJ o ad u) H → va_S A s.heap H locs → lv_has ls 8 [(0, .ref o), (6, .int x6)] → W p l e rmX10_thing s m args below meth c H locs 0 0 (MQ below (mQi D cI cZ cJ o ad A res) args s 0 0 A) (F0 m 161 ls [])) (n : Nat) : ∀ {x6 : Int32} {x7 : Int32} {u : mS} {H : Heap} {locs : List Loc} {ls : Array Slot}, fX10_thing_136 k161 n x6 x7 u = some res → va_P D vwCl (mW cI cZ cJ o ad u) H → va_S A s.heap H locs → lv_has ls 8 [(0, .ref o), (6, .int x6), (7, .int x7)] → W p l e rmX10_thing s m args below meth c H locs 0 0 (MQ below (mQi D cI cZ cJ o ad A res) args s 0 0 A) (F0 m 136 ls []) := by
  induction n with
  | zero => intro _ _ _ _ _ _ h _ _ _; cases (show (none : Option (Int32 × mS)) = some res from h)
  | succ n ih => intro _ _ _ _ _ _ h hP hS hl; exact wX10_thing_136_b C (fun _ _ _ _ _ _ h hP hS hl => ih h hP hS hl) hk161 h hP hS hl
def fX10_thing (x1 : Int32) (x2 : Int32) (x3 : Int32) (x4 : Int32) (x5 : Int32) (u : mS) : Option (Int32 × mS) :=
  bI (fX10_isIn x1 (0 : Int32) (3 : Int32) u) fun r3 u3 =>
  if r3 = 0 then (
    bI (fX10_finding (1 : Int32) u3) fun r58 u58 =>
    some (r58, u58)
  ) else (
    bI (fX10_isIn x2 (0 : Int32) (u3.1 0) u3) fun r15 u15 =>
    if r15 = 0 then (
      bI (fX10_finding (1 : Int32) u15) fun r58 u58 =>
      some (r58, u58)
    ) else (
      bI (fX10_isIn x3 (1 : Int32) (5000 : Int32) u15) fun r26 u26 =>
      if r26 = 0 then (
        bI (fX10_finding (1 : Int32) u26) fun r58 u58 =>
        some (r58, u58)
      ) else (
        bI (fX10_isIn x4 (0 : Int32) (10000 : Int32) u26) fun r38 u38 =>
        if r38 = 0 then (
          bI (fX10_finding (1 : Int32) u38) fun r58 u58 =>
          some (r58, u58)
        ) else (
          bI (fX10_isIn x5 (1 : Int32) (9999 : Int32) u38) fun r50 u50 =>
          if r50 = 0 then (
            bI (fX10_finding (1 : Int32) u50) fun r58 u58 =>
            some (r58, u58)
          ) else (
            if (u50.1 2) = (20 : Int32) then (
              bI (fX10_finding (4 : Int32) u50) fun r73 u73 =>
              some (r73, u73)
            ) else (
              (mU u50 3 20 (u50.1 2) x1).bind fun u90 =>
              (mU u90 4 20 (u50.1 2) x2).bind fun u98 =>
              (mU u98 6 20 (u50.1 2) x3).bind fun u106 =>
              (mU u106 7 20 (u50.1 2) x4).bind fun u115 =>
              (mU u115 8 20 (u50.1 2) x5).bind fun u124 =>
              (mU u124 10 20 (u50.1 2) (-1 : Int32)).bind fun u132 =>
              fX10_thing_136 (fun x6 u =>
                    pU (mF u 2 ((u.1 2) + (1 : Int32))) fun u168 =>
                    (fX10_becomes x6 (0 : Int32) u168).bind fun u175 =>
                    bI (fX10_spoils x6 u175) fun r181 u181 =>
                    if r181 = 0 then (
                      some (x6, u181)
                    ) else (
                      (fX10_becomes x6 (3 : Int32) u181).bind fun u191 =>
                      some (x6, u191)
                    )) FU (u50.1 2) (0 : Int32) u132
            )
          )
        )
      )
    )
  )
set_option maxHeartbeats 4000000 in
set_option maxRecDepth 20000 in
theorem wX10_thing (C : mC p s m args meth c cX10_thing 8 (some .int) D cI cZ cJ o ad A) {x1 : Int32} {x2 : Int32} {x3 : Int32} {x4 : Int32} {x5 : Int32} {u : mS} {res : Int32 × mS} (h : fX10_thing x1 x2 x3 x4 x5 u = some res) {H : Heap} {locs : List Loc} (hP : va_P D vwCl (mW cI cZ cJ o ad u) H) (hS : va_S A s.heap H locs) {ls : Array Slot} (hl : lv_has ls 8 [(0, .ref o), (1, .int x1), (2, .int x2), (3, .int x3), (4, .int x4), (5, .int x5)]) : W p l e rmX10_thing s m args below meth c H locs 0 0 (MQ below (mQi D cI cZ cJ o ad A res) args s 0 0 A) (F0 m 0 ls []) := by
  have hx := C.1
  have hb := C.2.1
  unfold fX10_thing at h
  refine lv_iload_n hx hb dX10_thing_0 rfl (lv_at hl 1 rfl) ?_
  refine lv_iconst (v := 0) hx hb dX10_thing_1 (by decide) ?_
  refine lv_iconst (v := 3) hx hb dX10_thing_2 (by decide) ?_
  obtain ⟨r3, u3, e3, h⟩ := obI h
  refine mx_cSi C hP hS [.int x1, .int (0 : Int32), .int (3 : Int32)] (tX10_isIn e3) qX10_131 ⟨rfl, rfl, Nat.le_of_ble_eq_true rfl, Nat.le_of_ble_eq_true rfl⟩ rfl hl.1 rfl (Nat.le_of_ble_eq_true rfl) dX10_thing_3 (fun H locs hP hS => ?_)
  refine lv_if_eq (tgt := 56) hx hb dX10_thing_6 (by decide) (fun hc => ?_) (fun hc => ?_)
  · replace h := it_pos hc h
    refine lv_aload_n hx hb dX10_thing_56 rfl (lv_at hl 0 rfl) ?_
    refine lv_iconst (v := 1) hx hb dX10_thing_57 (by decide) ?_
    obtain ⟨r58, u58, e58, h⟩ := obI h
    refine mx_cVi C hP hS [.int (1 : Int32)] (tX10_finding e58) qX10_138 ⟨rfl, rfl, Nat.le_of_ble_eq_true rfl, Nat.le_of_ble_eq_true rfl⟩ rfl hl.1 rfl (Nat.le_of_ble_eq_true rfl) dX10_thing_58 (fun H locs hP hS => ?_)
    exact mx_reti C h hP hS dX10_thing_61
  · replace h := it_neg hc h
    refine lv_iload_n hx hb dX10_thing_9 rfl (lv_at hl 2 rfl) ?_
    refine lv_iconst (v := 0) hx hb dX10_thing_10 (by decide) ?_
    refine lv_aload_n hx hb dX10_thing_11 rfl (lv_at hl 0 rfl) ?_
    refine mg_today C hP dX10_thing_12 ?_
    obtain ⟨r15, u15, e15, h⟩ := obI h
    refine mx_cSi C hP hS [.int x2, .int (0 : Int32), .int (u3.1 0)] (tX10_isIn e15) qX10_131 ⟨rfl, rfl, Nat.le_of_ble_eq_true rfl, Nat.le_of_ble_eq_true rfl⟩ rfl hl.1 rfl (Nat.le_of_ble_eq_true rfl) dX10_thing_15 (fun H locs hP hS => ?_)
    refine lv_if_eq (tgt := 56) hx hb dX10_thing_18 (by decide) (fun hc => ?_) (fun hc => ?_)
    · replace h := it_pos hc h
      refine lv_aload_n hx hb dX10_thing_56 rfl (lv_at hl 0 rfl) ?_
      refine lv_iconst (v := 1) hx hb dX10_thing_57 (by decide) ?_
      obtain ⟨r58, u58, e58, h⟩ := obI h
      refine mx_cVi C hP hS [.int (1 : Int32)] (tX10_finding e58) qX10_138 ⟨rfl, rfl, Nat.le_of_ble_eq_true rfl, Nat.le_of_ble_eq_true rfl⟩ rfl hl.1 rfl (Nat.le_of_ble_eq_true rfl) dX10_thing_58 (fun H locs hP hS => ?_)
      exact mx_reti C h hP hS dX10_thing_61
    · replace h := it_neg hc h
      refine lv_iload_n hx hb dX10_thing_21 rfl (lv_at hl 3 rfl) ?_
      refine lv_iconst (v := 1) hx hb dX10_thing_22 (by decide) ?_
      refine lv_sipush (v := 5000) hx hb dX10_thing_23 (by decide) ?_
      obtain ⟨r26, u26, e26, h⟩ := obI h
      refine mx_cSi C hP hS [.int x3, .int (1 : Int32), .int (5000 : Int32)] (tX10_isIn e26) qX10_131 ⟨rfl, rfl, Nat.le_of_ble_eq_true rfl, Nat.le_of_ble_eq_true rfl⟩ rfl hl.1 rfl (Nat.le_of_ble_eq_true rfl) dX10_thing_26 (fun H locs hP hS => ?_)
      refine lv_if_eq (tgt := 56) hx hb dX10_thing_29 (by decide) (fun hc => ?_) (fun hc => ?_)
      · replace h := it_pos hc h
        refine lv_aload_n hx hb dX10_thing_56 rfl (lv_at hl 0 rfl) ?_
        refine lv_iconst (v := 1) hx hb dX10_thing_57 (by decide) ?_
        obtain ⟨r58, u58, e58, h⟩ := obI h
        refine mx_cVi C hP hS [.int (1 : Int32)] (tX10_finding e58) qX10_138 ⟨rfl, rfl, Nat.le_of_ble_eq_true rfl, Nat.le_of_ble_eq_true rfl⟩ rfl hl.1 rfl (Nat.le_of_ble_eq_true rfl) dX10_thing_58 (fun H locs hP hS => ?_)
        exact mx_reti C h hP hS dX10_thing_61
      · replace h := it_neg hc h
        refine lv_iload hx hb dX10_thing_32 (lv_at hl 4 rfl) ?_
        refine lv_iconst (v := 0) hx hb dX10_thing_34 (by decide) ?_
        refine lv_sipush (v := 10000) hx hb dX10_thing_35 (by decide) ?_
        obtain ⟨r38, u38, e38, h⟩ := obI h
        refine mx_cSi C hP hS [.int x4, .int (0 : Int32), .int (10000 : Int32)] (tX10_isIn e38) qX10_131 ⟨rfl, rfl, Nat.le_of_ble_eq_true rfl, Nat.le_of_ble_eq_true rfl⟩ rfl hl.1 rfl (Nat.le_of_ble_eq_true rfl) dX10_thing_38 (fun H locs hP hS => ?_)
        refine lv_if_eq (tgt := 56) hx hb dX10_thing_41 (by decide) (fun hc => ?_) (fun hc => ?_)
        · replace h := it_pos hc h
          refine lv_aload_n hx hb dX10_thing_56 rfl (lv_at hl 0 rfl) ?_
          refine lv_iconst (v := 1) hx hb dX10_thing_57 (by decide) ?_
          obtain ⟨r58, u58, e58, h⟩ := obI h
          refine mx_cVi C hP hS [.int (1 : Int32)] (tX10_finding e58) qX10_138 ⟨rfl, rfl, Nat.le_of_ble_eq_true rfl, Nat.le_of_ble_eq_true rfl⟩ rfl hl.1 rfl (Nat.le_of_ble_eq_true rfl) dX10_thing_58 (fun H locs hP hS => ?_)
          exact mx_reti C h hP hS dX10_thing_61
        · replace h := it_neg hc h
          refine lv_iload hx hb dX10_thing_44 (lv_at hl 5 rfl) ?_
          refine lv_iconst (v := 1) hx hb dX10_thing_46 (by decide) ?_
          refine lv_sipush (v := 9999) hx hb dX10_thing_47 (by decide) ?_
          obtain ⟨r50, u50, e50, h⟩ := obI h
          refine mx_cSi C hP hS [.int x5, .int (1 : Int32), .int (9999 : Int32)] (tX10_isIn e50) qX10_131 ⟨rfl, rfl, Nat.le_of_ble_eq_true rfl, Nat.le_of_ble_eq_true rfl⟩ rfl hl.1 rfl (Nat.le_of_ble_eq_true rfl) dX10_thing_50 (fun H locs hP hS => ?_)
          refine lv_if_ne (tgt := 62) hx hb dX10_thing_53 (by decide) (fun hc => ?_) (fun hc => ?_)
          · replace h := it_neg hc h
            refine lv_aload_n hx hb dX10_thing_62 rfl (lv_at hl 0 rfl) ?_
            refine mg_things C hP dX10_thing_63 ?_
            refine lv_bipush (v := 20) hx hb dX10_thing_66 (by decide) ?_
            refine lv_icmp_ne (tgt := 77) hx hb dX10_thing_68 (by decide) (fun hc => ?_) (fun hc => ?_)
            · replace h := it_neg hc h
              refine lv_aload_n hx hb dX10_thing_77 rfl (lv_at hl 0 rfl) ?_
              refine mg_things C hP dX10_thing_78 ?_
              refine lv_istore (lv' := [(6, .int (u50.1 2)), (0, .ref o), (1, .int x1), (2, .int x2), (3, .int x3), (4, .int x4), (5, .int x5)]) hx hb dX10_thing_81 hl (by decide) rfl (fun ls hl => ?_)
              refine lv_aload_n hx hb dX10_thing_83 rfl (lv_at hl 1 rfl) ?_
              refine mg_kind C hP dX10_thing_84 ?_
              refine lv_iload hx hb dX10_thing_87 (lv_at hl 0 rfl) ?_
              refine lv_iload_n hx hb dX10_thing_89 rfl (lv_at hl 2 rfl) ?_
              obtain ⟨u90, e90, h⟩ := ob h
              refine ms_kind C hP hS e90 dX10_thing_90 (fun H locs hP hS => ?_)
              refine lv_aload_n hx hb dX10_thing_91 rfl (lv_at hl 1 rfl) ?_
              refine mg_foundOn C hP dX10_thing_92 ?_
              refine lv_iload hx hb dX10_thing_95 (lv_at hl 0 rfl) ?_
              refine lv_iload_n hx hb dX10_thing_97 rfl (lv_at hl 3 rfl) ?_
              obtain ⟨u98, e98, h⟩ := ob h
              refine ms_foundOn C hP hS e98 dX10_thing_98 (fun H locs hP hS => ?_)
              refine lv_aload_n hx hb dX10_thing_99 rfl (lv_at hl 1 rfl) ?_
              refine mg_weight C hP dX10_thing_100 ?_
              refine lv_iload hx hb dX10_thing_103 (lv_at hl 0 rfl) ?_
              refine lv_iload_n hx hb dX10_thing_105 rfl (lv_at hl 4 rfl) ?_
              obtain ⟨u106, e106, h⟩ := ob h
              refine ms_weight C hP hS e106 dX10_thing_106 (fun H locs hP hS => ?_)
              refine lv_aload_n hx hb dX10_thing_107 rfl (lv_at hl 1 rfl) ?_
              refine mg_worth C hP dX10_thing_108 ?_
              refine lv_iload hx hb dX10_thing_111 (lv_at hl 0 rfl) ?_
              refine lv_iload hx hb dX10_thing_113 (lv_at hl 5 rfl) ?_
              obtain ⟨u115, e115, h⟩ := ob h
              refine ms_worth C hP hS e115 dX10_thing_115 (fun H locs hP hS => ?_)
              refine lv_aload_n hx hb dX10_thing_116 rfl (lv_at hl 1 rfl) ?_
              refine mg_secret C hP dX10_thing_117 ?_
              refine lv_iload hx hb dX10_thing_120 (lv_at hl 0 rfl) ?_
              refine lv_iload hx hb dX10_thing_122 (lv_at hl 6 rfl) ?_
              obtain ⟨u124, e124, h⟩ := ob h
              refine ms_secret C hP hS e124 dX10_thing_124 (fun H locs hP hS => ?_)
              refine lv_aload_n hx hb dX10_thing_125 rfl (lv_at hl 1 rfl) ?_
              refine mg_hasIt C hP dX10_thing_126 ?_
              refine lv_iload hx hb dX10_thing_129 (lv_at hl 0 rfl) ?_
              refine lv_iconst (v := -1) hx hb dX10_thing_131 (by decide) ?_
              obtain ⟨u132, e132, h⟩ := ob h
              refine ms_hasIt C hP hS e132 dX10_thing_132 (fun H locs hP hS => ?_)
              refine lv_iconst (v := 0) hx hb dX10_thing_133 (by decide) ?_
              refine lv_istore (lv' := [(7, .int (0 : Int32)), (6, .int (u50.1 2)), (0, .ref o), (1, .int x1), (2, .int x2), (3, .int x3), (4, .int x4), (5, .int x5)]) hx hb dX10_thing_134 hl (by decide) rfl (fun ls hl => ?_)
              refine wX10_thing_136 C ?_ FU h hP hS (lv_sub hl [2, 1, 0] rfl)
              · intro x6 u H locs ls h hP hS hl
                refine lv_aload_n hx hb dX10_thing_161 rfl (lv_at hl 0 rfl) ?_
                refine lv_dup hx hb dX10_thing_162 rfl ?_
                refine mg_things C hP dX10_thing_163 ?_
                refine lv_iconst (v := 1) hx hb dX10_thing_166 (by decide) ?_
                refine lv_iadd hx hb dX10_thing_167 ?_
                obtain ⟨u168, e168, h⟩ := op h
                refine mp_things C hP hS e168 dX10_thing_168 (fun H locs hP hS => ?_)
                refine lv_aload_n hx hb dX10_thing_171 rfl (lv_at hl 0 rfl) ?_
                refine lv_iload hx hb dX10_thing_172 (lv_at hl 1 rfl) ?_
                refine lv_iconst (v := 0) hx hb dX10_thing_174 (by decide) ?_
                obtain ⟨u175, e175, h⟩ := ob h
                refine mx_cVv C hP hS [.int x6, .int (0 : Int32)] (tX10_becomes e175) qX10_142 ⟨rfl, rfl, Nat.le_of_ble_eq_true rfl, Nat.le_of_ble_eq_true rfl⟩ rfl hl.1 rfl (Nat.le_of_ble_eq_true rfl) dX10_thing_175 (fun H locs hP hS => ?_)
                refine lv_aload_n hx hb dX10_thing_178 rfl (lv_at hl 0 rfl) ?_
                refine lv_iload hx hb dX10_thing_179 (lv_at hl 1 rfl) ?_
                obtain ⟨r181, u181, e181, h⟩ := obI h
                refine mx_cVi C hP hS [.int x6] (tX10_spoils e181) qX10_146 ⟨rfl, rfl, Nat.le_of_ble_eq_true rfl, Nat.le_of_ble_eq_true rfl⟩ rfl hl.1 rfl (Nat.le_of_ble_eq_true rfl) dX10_thing_181 (fun H locs hP hS => ?_)
                refine lv_if_eq (tgt := 194) hx hb dX10_thing_184 (by decide) (fun hc => ?_) (fun hc => ?_)
                · replace h := it_pos hc h
                  refine lv_iload hx hb dX10_thing_194 (lv_at hl 1 rfl) ?_
                  exact mx_reti C h hP hS dX10_thing_196
                · replace h := it_neg hc h
                  refine lv_aload_n hx hb dX10_thing_187 rfl (lv_at hl 0 rfl) ?_
                  refine lv_iload hx hb dX10_thing_188 (lv_at hl 1 rfl) ?_
                  refine lv_iconst (v := 3) hx hb dX10_thing_190 (by decide) ?_
                  obtain ⟨u191, e191, h⟩ := ob h
                  refine mx_cVv C hP hS [.int x6, .int (3 : Int32)] (tX10_becomes e191) qX10_142 ⟨rfl, rfl, Nat.le_of_ble_eq_true rfl, Nat.le_of_ble_eq_true rfl⟩ rfl hl.1 rfl (Nat.le_of_ble_eq_true rfl) dX10_thing_191 (fun H locs hP hS => ?_)
                  refine lv_iload hx hb dX10_thing_194 (lv_at hl 1 rfl) ?_
                  exact mx_reti C h hP hS dX10_thing_196
            · replace h := it_pos hc h
              refine lv_aload_n hx hb dX10_thing_71 rfl (lv_at hl 0 rfl) ?_
              refine lv_iconst (v := 4) hx hb dX10_thing_72 (by decide) ?_
              obtain ⟨r73, u73, e73, h⟩ := obI h
              refine mx_cVi C hP hS [.int (4 : Int32)] (tX10_finding e73) qX10_138 ⟨rfl, rfl, Nat.le_of_ble_eq_true rfl, Nat.le_of_ble_eq_true rfl⟩ rfl hl.1 rfl (Nat.le_of_ble_eq_true rfl) dX10_thing_73 (fun H locs hP hS => ?_)
              exact mx_reti C h hP hS dX10_thing_76
          · replace h := it_pos hc h
            refine lv_aload_n hx hb dX10_thing_56 rfl (lv_at hl 0 rfl) ?_
            refine lv_iconst (v := 1) hx hb dX10_thing_57 (by decide) ?_
            obtain ⟨r58, u58, e58, h⟩ := obI h
            refine mx_cVi C hP hS [.int (1 : Int32)] (tX10_finding e58) qX10_138 ⟨rfl, rfl, Nat.le_of_ble_eq_true rfl, Nat.le_of_ble_eq_true rfl⟩ rfl hl.1 rfl (Nat.le_of_ble_eq_true rfl) dX10_thing_58 (fun H locs hP hS => ?_)
            exact mx_reti C h hP hS dX10_thing_61
theorem tX10_thing {D : va_G} {cI cZ cJ : ClassId} {o : Nat} {ad : Nat → Nat} {A : Nat → Prop} {x1 : Int32} {x2 : Int32} {x3 : Int32} {x4 : Int32} {x5 : Int32} {u : mS} {res : Int32 × mS} (h : fX10_thing x1 x2 x3 x4 x5 u = some res) : Met l yX10_thing (Cond.code yX10_thing cX10_thing 8 (some .int) :: gW) rmX10_thing (va_Pc [.ref o, .int x1, .int x2, .int x3, .int x4, .int x5] (mPre D cI cZ cJ o ad A u)) (mQi D cI cZ cJ o ad A res) 0 0 A :=
  mx_met ⟨by decide +kernel, rfl⟩ (Nat.le_of_ble_eq_true rfl) (fun p e s m below meth c ls C hP hl => wX10_thing C h hP va_S.rf hl)
abbrev rmX10_as : Room := { frames := 1, cells := 0, slots := 0, locals := 22 }
def fX10_as (x1 : Int32) (x2 : Int32) (u : mS) : Option (Int32 × mS) :=
  bI (fX10_isThing x1 u) fun r2 u2 =>
  if r2 = 0 then (
    bI (fX10_finding (1 : Int32) u2) fun r19 u19 =>
    some (r19, u19)
  ) else (
    bI (fX10_isIn x2 (0 : Int32) (3 : Int32) u2) fun r11 u11 =>
    if r11 = 0 then (
      bI (fX10_finding (1 : Int32) u11) fun r19 u19 =>
      some (r19, u19)
    ) else (
      if x2 = 0 then (
        (mR u11 6 20 x1).bind fun v42 =>
        some (v42, u11)
      ) else (
        (mR u11 3 20 x1).bind fun v32 =>
        if v32 = x2 then (
          (mR u11 6 20 x1).bind fun v42 =>
          some (v42, u11)
        ) else (
          bI (fX10_finding (5 : Int32) u11) fun r48 u48 =>
          some (r48, u48)
        )
      )
    )
  )
set_option maxHeartbeats 4000000 in
set_option maxRecDepth 20000 in
theorem wX10_as (C : mC p s m args meth c cX10_as 3 (some .int) D cI cZ cJ o ad A) {x1 : Int32} {x2 : Int32} {u : mS} {res : Int32 × mS} (h : fX10_as x1 x2 u = some res) {H : Heap} {locs : List Loc} (hP : va_P D vwCl (mW cI cZ cJ o ad u) H) (hS : va_S A s.heap H locs) {ls : Array Slot} (hl : lv_has ls 3 [(0, .ref o), (1, .int x1), (2, .int x2)]) : W p l e rmX10_as s m args below meth c H locs 0 0 (MQ below (mQi D cI cZ cJ o ad A res) args s 0 0 A) (F0 m 0 ls []) := by
  have hx := C.1
  have hb := C.2.1
  unfold fX10_as at h
  refine lv_aload_n hx hb dX10_as_0 rfl (lv_at hl 0 rfl) ?_
  refine lv_iload_n hx hb dX10_as_1 rfl (lv_at hl 1 rfl) ?_
  obtain ⟨r2, u2, e2, h⟩ := obI h
  refine mx_cVi C hP hS [.int x1] (tX10_isThing e2) qX10_150 ⟨rfl, rfl, Nat.le_of_ble_eq_true rfl, Nat.le_of_ble_eq_true rfl⟩ rfl hl.1 rfl (Nat.le_of_ble_eq_true rfl) dX10_as_2 (fun H locs hP hS => ?_)
  refine lv_if_eq (tgt := 17) hx hb dX10_as_5 (by decide) (fun hc => ?_) (fun hc => ?_)
  · replace h := it_pos hc h
    refine lv_aload_n hx hb dX10_as_17 rfl (lv_at hl 0 rfl) ?_
    refine lv_iconst (v := 1) hx hb dX10_as_18 (by decide) ?_
    obtain ⟨r19, u19, e19, h⟩ := obI h
    refine mx_cVi C hP hS [.int (1 : Int32)] (tX10_finding e19) qX10_138 ⟨rfl, rfl, Nat.le_of_ble_eq_true rfl, Nat.le_of_ble_eq_true rfl⟩ rfl hl.1 rfl (Nat.le_of_ble_eq_true rfl) dX10_as_19 (fun H locs hP hS => ?_)
    exact mx_reti C h hP hS dX10_as_22
  · replace h := it_neg hc h
    refine lv_iload_n hx hb dX10_as_8 rfl (lv_at hl 2 rfl) ?_
    refine lv_iconst (v := 0) hx hb dX10_as_9 (by decide) ?_
    refine lv_iconst (v := 3) hx hb dX10_as_10 (by decide) ?_
    obtain ⟨r11, u11, e11, h⟩ := obI h
    refine mx_cSi C hP hS [.int x2, .int (0 : Int32), .int (3 : Int32)] (tX10_isIn e11) qX10_131 ⟨rfl, rfl, Nat.le_of_ble_eq_true rfl, Nat.le_of_ble_eq_true rfl⟩ rfl hl.1 rfl (Nat.le_of_ble_eq_true rfl) dX10_as_11 (fun H locs hP hS => ?_)
    refine lv_if_ne (tgt := 23) hx hb dX10_as_14 (by decide) (fun hc => ?_) (fun hc => ?_)
    · replace h := it_neg hc h
      refine lv_iload_n hx hb dX10_as_23 rfl (lv_at hl 2 rfl) ?_
      refine lv_if_eq (tgt := 37) hx hb dX10_as_24 (by decide) (fun hc => ?_) (fun hc => ?_)
      · replace h := it_pos hc h
        refine lv_aload_n hx hb dX10_as_37 rfl (lv_at hl 0 rfl) ?_
        refine mg_weight C hP dX10_as_38 ?_
        refine lv_iload_n hx hb dX10_as_41 rfl (lv_at hl 1 rfl) ?_
        obtain ⟨v42, e42, h⟩ := ob h
        refine ml_weight C hP e42 dX10_as_42 ?_
        refine lv_goto (tgt := 51) hx hb dX10_as_43 (by decide) ?_
        exact mx_reti C h hP hS dX10_as_51
      · replace h := it_neg hc h
        refine lv_aload_n hx hb dX10_as_27 rfl (lv_at hl 0 rfl) ?_
        refine mg_kind C hP dX10_as_28 ?_
        refine lv_iload_n hx hb dX10_as_31 rfl (lv_at hl 1 rfl) ?_
        obtain ⟨v32, e32, h⟩ := ob h
        refine ml_kind C hP e32 dX10_as_32 ?_
        refine lv_iload_n hx hb dX10_as_33 rfl (lv_at hl 2 rfl) ?_
        refine lv_icmp_ne (tgt := 46) hx hb dX10_as_34 (by decide) (fun hc => ?_) (fun hc => ?_)
        · replace h := it_neg hc h
          refine lv_aload_n hx hb dX10_as_46 rfl (lv_at hl 0 rfl) ?_
          refine lv_iconst (v := 5) hx hb dX10_as_47 (by decide) ?_
          obtain ⟨r48, u48, e48, h⟩ := obI h
          refine mx_cVi C hP hS [.int (5 : Int32)] (tX10_finding e48) qX10_138 ⟨rfl, rfl, Nat.le_of_ble_eq_true rfl, Nat.le_of_ble_eq_true rfl⟩ rfl hl.1 rfl (Nat.le_of_ble_eq_true rfl) dX10_as_48 (fun H locs hP hS => ?_)
          exact mx_reti C h hP hS dX10_as_51
        · replace h := it_pos hc h
          refine lv_aload_n hx hb dX10_as_37 rfl (lv_at hl 0 rfl) ?_
          refine mg_weight C hP dX10_as_38 ?_
          refine lv_iload_n hx hb dX10_as_41 rfl (lv_at hl 1 rfl) ?_
          obtain ⟨v42, e42, h⟩ := ob h
          refine ml_weight C hP e42 dX10_as_42 ?_
          refine lv_goto (tgt := 51) hx hb dX10_as_43 (by decide) ?_
          exact mx_reti C h hP hS dX10_as_51
    · replace h := it_pos hc h
      refine lv_aload_n hx hb dX10_as_17 rfl (lv_at hl 0 rfl) ?_
      refine lv_iconst (v := 1) hx hb dX10_as_18 (by decide) ?_
      obtain ⟨r19, u19, e19, h⟩ := obI h
      refine mx_cVi C hP hS [.int (1 : Int32)] (tX10_finding e19) qX10_138 ⟨rfl, rfl, Nat.le_of_ble_eq_true rfl, Nat.le_of_ble_eq_true rfl⟩ rfl hl.1 rfl (Nat.le_of_ble_eq_true rfl) dX10_as_19 (fun H locs hP hS => ?_)
      exact mx_reti C h hP hS dX10_as_22
theorem tX10_as {D : va_G} {cI cZ cJ : ClassId} {o : Nat} {ad : Nat → Nat} {A : Nat → Prop} {x1 : Int32} {x2 : Int32} {u : mS} {res : Int32 × mS} (h : fX10_as x1 x2 u = some res) : Met l yX10_as (Cond.code yX10_as cX10_as 3 (some .int) :: gW) rmX10_as (va_Pc [.ref o, .int x1, .int x2] (mPre D cI cZ cJ o ad A u)) (mQi D cI cZ cJ o ad A res) 0 0 A :=
  mx_met ⟨by decide +kernel, rfl⟩ (Nat.le_of_ble_eq_true rfl) (fun p e s m below meth c ls C hP hl => wX10_as C h hP va_S.rf hl)
abbrev rmX10_trait : Room := { frames := 2, cells := 0, slots := 0, locals := 42 }
def fX10_trait (x1 : Int32) (x2 : Int32) (x3 : Int32) (u : mS) : Option (Int32 × mS) :=
  bI (fX10_isThing x1 u) fun r2 u2 =>
  if r2 = 0 then (
    bI (fX10_finding (1 : Int32) u2) fun r27 u27 =>
    some (r27, u27)
  ) else (
    bI (fX10_isTrait x2 u2) fun r9 u9 =>
    if r9 = 0 then (
      bI (fX10_finding (1 : Int32) u9) fun r27 u27 =>
      some (r27, u27)
    ) else (
      bI (fX10_isIn x3 (0 : Int32) (15 : Int32) u9) fun r19 u19 =>
      if r19 = 0 then (
        bI (fX10_finding (1 : Int32) u19) fun r27 u27 =>
        some (r27, u27)
      ) else (
        (mR u19 5 100 (((5 : Int32) * x1) + x2)).bind fun v40 =>
        (mU u19 5 100 (((5 : Int32) * x1) + x2) x3).bind fun u53 =>
        some (v40, u53)
      )
    )
  )
set_option maxHeartbeats 4000000 in
set_option maxRecDepth 20000 in
theorem wX10_trait (C : mC p s m args meth c cX10_trait 5 (some .int) D cI cZ cJ o ad A) {x1 : Int32} {x2 : Int32} {x3 : Int32} {u : mS} {res : Int32 × mS} (h : fX10_trait x1 x2 x3 u = some res) {H : Heap} {locs : List Loc} (hP : va_P D vwCl (mW cI cZ cJ o ad u) H) (hS : va_S A s.heap H locs) {ls : Array Slot} (hl : lv_has ls 5 [(0, .ref o), (1, .int x1), (2, .int x2), (3, .int x3)]) : W p l e rmX10_trait s m args below meth c H locs 0 0 (MQ below (mQi D cI cZ cJ o ad A res) args s 0 0 A) (F0 m 0 ls []) := by
  have hx := C.1
  have hb := C.2.1
  unfold fX10_trait at h
  refine lv_aload_n hx hb dX10_trait_0 rfl (lv_at hl 0 rfl) ?_
  refine lv_iload_n hx hb dX10_trait_1 rfl (lv_at hl 1 rfl) ?_
  obtain ⟨r2, u2, e2, h⟩ := obI h
  refine mx_cVi C hP hS [.int x1] (tX10_isThing e2) qX10_150 ⟨rfl, rfl, Nat.le_of_ble_eq_true rfl, Nat.le_of_ble_eq_true rfl⟩ rfl hl.1 rfl (Nat.le_of_ble_eq_true rfl) dX10_trait_2 (fun H locs hP hS => ?_)
  refine lv_if_eq (tgt := 25) hx hb dX10_trait_5 (by decide) (fun hc => ?_) (fun hc => ?_)
  · replace h := it_pos hc h
    refine lv_aload_n hx hb dX10_trait_25 rfl (lv_at hl 0 rfl) ?_
    refine lv_iconst (v := 1) hx hb dX10_trait_26 (by decide) ?_
    obtain ⟨r27, u27, e27, h⟩ := obI h
    refine mx_cVi C hP hS [.int (1 : Int32)] (tX10_finding e27) qX10_138 ⟨rfl, rfl, Nat.le_of_ble_eq_true rfl, Nat.le_of_ble_eq_true rfl⟩ rfl hl.1 rfl (Nat.le_of_ble_eq_true rfl) dX10_trait_27 (fun H locs hP hS => ?_)
    exact mx_reti C h hP hS dX10_trait_30
  · replace h := it_neg hc h
    refine lv_iload_n hx hb dX10_trait_8 rfl (lv_at hl 2 rfl) ?_
    obtain ⟨r9, u9, e9, h⟩ := obI h
    refine mx_cSi C hP hS [.int x2] (tX10_isTrait e9) qX10_153 ⟨rfl, rfl, Nat.le_of_ble_eq_true rfl, Nat.le_of_ble_eq_true rfl⟩ rfl hl.1 rfl (Nat.le_of_ble_eq_true rfl) dX10_trait_9 (fun H locs hP hS => ?_)
    refine lv_if_eq (tgt := 25) hx hb dX10_trait_12 (by decide) (fun hc => ?_) (fun hc => ?_)
    · replace h := it_pos hc h
      refine lv_aload_n hx hb dX10_trait_25 rfl (lv_at hl 0 rfl) ?_
      refine lv_iconst (v := 1) hx hb dX10_trait_26 (by decide) ?_
      obtain ⟨r27, u27, e27, h⟩ := obI h
      refine mx_cVi C hP hS [.int (1 : Int32)] (tX10_finding e27) qX10_138 ⟨rfl, rfl, Nat.le_of_ble_eq_true rfl, Nat.le_of_ble_eq_true rfl⟩ rfl hl.1 rfl (Nat.le_of_ble_eq_true rfl) dX10_trait_27 (fun H locs hP hS => ?_)
      exact mx_reti C h hP hS dX10_trait_30
    · replace h := it_neg hc h
      refine lv_iload_n hx hb dX10_trait_15 rfl (lv_at hl 3 rfl) ?_
      refine lv_iconst (v := 0) hx hb dX10_trait_16 (by decide) ?_
      refine lv_bipush (v := 15) hx hb dX10_trait_17 (by decide) ?_
      obtain ⟨r19, u19, e19, h⟩ := obI h
      refine mx_cSi C hP hS [.int x3, .int (0 : Int32), .int (15 : Int32)] (tX10_isIn e19) qX10_131 ⟨rfl, rfl, Nat.le_of_ble_eq_true rfl, Nat.le_of_ble_eq_true rfl⟩ rfl hl.1 rfl (Nat.le_of_ble_eq_true rfl) dX10_trait_19 (fun H locs hP hS => ?_)
      refine lv_if_ne (tgt := 31) hx hb dX10_trait_22 (by decide) (fun hc => ?_) (fun hc => ?_)
      · replace h := it_neg hc h
        refine lv_aload_n hx hb dX10_trait_31 rfl (lv_at hl 0 rfl) ?_
        refine mg_trait C hP dX10_trait_32 ?_
        refine lv_iconst (v := 5) hx hb dX10_trait_35 (by decide) ?_
        refine lv_iload_n hx hb dX10_trait_36 rfl (lv_at hl 1 rfl) ?_
        refine lv_imul hx hb dX10_trait_37 ?_
        refine lv_iload_n hx hb dX10_trait_38 rfl (lv_at hl 2 rfl) ?_
        refine lv_iadd hx hb dX10_trait_39 ?_
        obtain ⟨v40, e40, h⟩ := ob h
        refine ml_trait C hP e40 dX10_trait_40 ?_
        refine lv_istore (lv' := [(4, .int v40), (0, .ref o), (1, .int x1), (2, .int x2), (3, .int x3)]) hx hb dX10_trait_41 hl (by decide) rfl (fun ls hl => ?_)
        refine lv_aload_n hx hb dX10_trait_43 rfl (lv_at hl 1 rfl) ?_
        refine mg_trait C hP dX10_trait_44 ?_
        refine lv_iconst (v := 5) hx hb dX10_trait_47 (by decide) ?_
        refine lv_iload_n hx hb dX10_trait_48 rfl (lv_at hl 2 rfl) ?_
        refine lv_imul hx hb dX10_trait_49 ?_
        refine lv_iload_n hx hb dX10_trait_50 rfl (lv_at hl 3 rfl) ?_
        refine lv_iadd hx hb dX10_trait_51 ?_
        refine lv_iload_n hx hb dX10_trait_52 rfl (lv_at hl 4 rfl) ?_
        obtain ⟨u53, e53, h⟩ := ob h
        refine ms_trait C hP hS e53 dX10_trait_53 (fun H locs hP hS => ?_)
        refine lv_iload hx hb dX10_trait_54 (lv_at hl 0 rfl) ?_
        exact mx_reti C h hP hS dX10_trait_56
      · replace h := it_pos hc h
        refine lv_aload_n hx hb dX10_trait_25 rfl (lv_at hl 0 rfl) ?_
        refine lv_iconst (v := 1) hx hb dX10_trait_26 (by decide) ?_
        obtain ⟨r27, u27, e27, h⟩ := obI h
        refine mx_cVi C hP hS [.int (1 : Int32)] (tX10_finding e27) qX10_138 ⟨rfl, rfl, Nat.le_of_ble_eq_true rfl, Nat.le_of_ble_eq_true rfl⟩ rfl hl.1 rfl (Nat.le_of_ble_eq_true rfl) dX10_trait_27 (fun H locs hP hS => ?_)
        exact mx_reti C h hP hS dX10_trait_30
theorem tX10_trait {D : va_G} {cI cZ cJ : ClassId} {o : Nat} {ad : Nat → Nat} {A : Nat → Prop} {x1 : Int32} {x2 : Int32} {x3 : Int32} {u : mS} {res : Int32 × mS} (h : fX10_trait x1 x2 x3 u = some res) : Met l yX10_trait (Cond.code yX10_trait cX10_trait 5 (some .int) :: gW) rmX10_trait (va_Pc [.ref o, .int x1, .int x2, .int x3] (mPre D cI cZ cJ o ad A u)) (mQi D cI cZ cJ o ad A res) 0 0 A :=
  mx_met ⟨by decide +kernel, rfl⟩ (Nat.le_of_ble_eq_true rfl) (fun p e s m below meth c ls C hP hl => wX10_trait C h hP va_S.rf hl)
abbrev rmX10_about : Room := { frames := 1, cells := 0, slots := 0, locals := 22 }
def fX10_about (x1 : Int32) (x2 : Int32) (u : mS) : Option (Int32 × mS) :=
  bI (fX10_isThing x1 u) fun r2 u2 =>
  if r2 = 0 then (
    bI (fX10_finding (1 : Int32) u2) fun r20 u20 =>
    some (r20, u20)
  ) else (
    bI (fX10_isIn x2 (0 : Int32) (10 : Int32) u2) fun r12 u12 =>
    if r12 = 0 then (
      bI (fX10_finding (1 : Int32) u12) fun r20 u20 =>
      some (r20, u20)
    ) else (
      if x2 = 0 then (
        (mR u12 3 20 x1).bind fun v69 =>
        some (v69, u12)
      ) else (
      if x2 = 1 then (
        (mR u12 4 20 x1).bind fun v76 =>
        some (v76, u12)
      ) else (
      if x2 = 2 then (
        (mR u12 6 20 x1).bind fun v83 =>
        some (v83, u12)
      ) else (
      if x2 = 3 then (
        (mR u12 7 20 x1).bind fun v90 =>
        some (v90, u12)
      ) else (
      if x2 = 4 then (
        (mR u12 9 20 x1).bind fun v97 =>
        some (v97, u12)
      ) else (
      if x2 = 5 then (
        (mR u12 10 20 x1).bind fun v104 =>
        some (v104, u12)
      ) else (
        (mR u12 5 100 ((((5 : Int32) * x1) + x2) - (6 : Int32))).bind fun v118 =>
        some (v118, u12)
      ))))))
    )
  )
set_option maxHeartbeats 4000000 in
set_option maxRecDepth 20000 in
theorem wX10_about (C : mC p s m args meth c cX10_about 3 (some .int) D cI cZ cJ o ad A) {x1 : Int32} {x2 : Int32} {u : mS} {res : Int32 × mS} (h : fX10_about x1 x2 u = some res) {H : Heap} {locs : List Loc} (hP : va_P D vwCl (mW cI cZ cJ o ad u) H) (hS : va_S A s.heap H locs) {ls : Array Slot} (hl : lv_has ls 3 [(0, .ref o), (1, .int x1), (2, .int x2)]) : W p l e rmX10_about s m args below meth c H locs 0 0 (MQ below (mQi D cI cZ cJ o ad A res) args s 0 0 A) (F0 m 0 ls []) := by
  have hx := C.1
  have hb := C.2.1
  unfold fX10_about at h
  refine lv_aload_n hx hb dX10_about_0 rfl (lv_at hl 0 rfl) ?_
  refine lv_iload_n hx hb dX10_about_1 rfl (lv_at hl 1 rfl) ?_
  obtain ⟨r2, u2, e2, h⟩ := obI h
  refine mx_cVi C hP hS [.int x1] (tX10_isThing e2) qX10_150 ⟨rfl, rfl, Nat.le_of_ble_eq_true rfl, Nat.le_of_ble_eq_true rfl⟩ rfl hl.1 rfl (Nat.le_of_ble_eq_true rfl) dX10_about_2 (fun H locs hP hS => ?_)
  refine lv_if_eq (tgt := 18) hx hb dX10_about_5 (by decide) (fun hc => ?_) (fun hc => ?_)
  · replace h := it_pos hc h
    refine lv_aload_n hx hb dX10_about_18 rfl (lv_at hl 0 rfl) ?_
    refine lv_iconst (v := 1) hx hb dX10_about_19 (by decide) ?_
    obtain ⟨r20, u20, e20, h⟩ := obI h
    refine mx_cVi C hP hS [.int (1 : Int32)] (tX10_finding e20) qX10_138 ⟨rfl, rfl, Nat.le_of_ble_eq_true rfl, Nat.le_of_ble_eq_true rfl⟩ rfl hl.1 rfl (Nat.le_of_ble_eq_true rfl) dX10_about_20 (fun H locs hP hS => ?_)
    exact mx_reti C h hP hS dX10_about_23
  · replace h := it_neg hc h
    refine lv_iload_n hx hb dX10_about_8 rfl (lv_at hl 2 rfl) ?_
    refine lv_iconst (v := 0) hx hb dX10_about_9 (by decide) ?_
    refine lv_bipush (v := 10) hx hb dX10_about_10 (by decide) ?_
    obtain ⟨r12, u12, e12, h⟩ := obI h
    refine mx_cSi C hP hS [.int x2, .int (0 : Int32), .int (10 : Int32)] (tX10_isIn e12) qX10_131 ⟨rfl, rfl, Nat.le_of_ble_eq_true rfl, Nat.le_of_ble_eq_true rfl⟩ rfl hl.1 rfl (Nat.le_of_ble_eq_true rfl) dX10_about_12 (fun H locs hP hS => ?_)
    refine lv_if_ne (tgt := 24) hx hb dX10_about_15 (by decide) (fun hc => ?_) (fun hc => ?_)
    · replace h := it_neg hc h
      refine lv_iload_n hx hb dX10_about_24 rfl (lv_at hl 2 rfl) ?_
      by_cases hc0 : x2 = 0
      · replace h := it_pos hc0 h
        refine lv_tableIn (tgt := 64) (off := 39) hx hb dX10_about_25 (by rw [hc0]; decide) (by rw [hc0]; decide) (by rw [hc0]; rfl) (by decide) ?_
        refine lv_aload_n hx hb dX10_about_64 rfl (lv_at hl 0 rfl) ?_
        refine mg_kind C hP dX10_about_65 ?_
        refine lv_iload_n hx hb dX10_about_68 rfl (lv_at hl 1 rfl) ?_
        obtain ⟨v69, e69, h⟩ := ob h
        refine ml_kind C hP e69 dX10_about_69 ?_
        exact mx_reti C h hP hS dX10_about_70
      replace h := it_neg hc0 h
      by_cases hc1 : x2 = 1
      · replace h := it_pos hc1 h
        refine lv_tableIn (tgt := 71) (off := 46) hx hb dX10_about_25 (by rw [hc1]; decide) (by rw [hc1]; decide) (by rw [hc1]; rfl) (by decide) ?_
        refine lv_aload_n hx hb dX10_about_71 rfl (lv_at hl 0 rfl) ?_
        refine mg_foundOn C hP dX10_about_72 ?_
        refine lv_iload_n hx hb dX10_about_75 rfl (lv_at hl 1 rfl) ?_
        obtain ⟨v76, e76, h⟩ := ob h
        refine ml_foundOn C hP e76 dX10_about_76 ?_
        exact mx_reti C h hP hS dX10_about_77
      replace h := it_neg hc1 h
      by_cases hc2 : x2 = 2
      · replace h := it_pos hc2 h
        refine lv_tableIn (tgt := 78) (off := 53) hx hb dX10_about_25 (by rw [hc2]; decide) (by rw [hc2]; decide) (by rw [hc2]; rfl) (by decide) ?_
        refine lv_aload_n hx hb dX10_about_78 rfl (lv_at hl 0 rfl) ?_
        refine mg_weight C hP dX10_about_79 ?_
        refine lv_iload_n hx hb dX10_about_82 rfl (lv_at hl 1 rfl) ?_
        obtain ⟨v83, e83, h⟩ := ob h
        refine ml_weight C hP e83 dX10_about_83 ?_
        exact mx_reti C h hP hS dX10_about_84
      replace h := it_neg hc2 h
      by_cases hc3 : x2 = 3
      · replace h := it_pos hc3 h
        refine lv_tableIn (tgt := 85) (off := 60) hx hb dX10_about_25 (by rw [hc3]; decide) (by rw [hc3]; decide) (by rw [hc3]; rfl) (by decide) ?_
        refine lv_aload_n hx hb dX10_about_85 rfl (lv_at hl 0 rfl) ?_
        refine mg_worth C hP dX10_about_86 ?_
        refine lv_iload_n hx hb dX10_about_89 rfl (lv_at hl 1 rfl) ?_
        obtain ⟨v90, e90, h⟩ := ob h
        refine ml_worth C hP e90 dX10_about_90 ?_
        exact mx_reti C h hP hS dX10_about_91
      replace h := it_neg hc3 h
      by_cases hc4 : x2 = 4
      · replace h := it_pos hc4 h
        refine lv_tableIn (tgt := 92) (off := 67) hx hb dX10_about_25 (by rw [hc4]; decide) (by rw [hc4]; decide) (by rw [hc4]; rfl) (by decide) ?_
        refine lv_aload_n hx hb dX10_about_92 rfl (lv_at hl 0 rfl) ?_
        refine mg_is C hP dX10_about_93 ?_
        refine lv_iload_n hx hb dX10_about_96 rfl (lv_at hl 1 rfl) ?_
        obtain ⟨v97, e97, h⟩ := ob h
        refine ml_is C hP e97 dX10_about_97 ?_
        exact mx_reti C h hP hS dX10_about_98
      replace h := it_neg hc4 h
      by_cases hc5 : x2 = 5
      · replace h := it_pos hc5 h
        refine lv_tableIn (tgt := 99) (off := 74) hx hb dX10_about_25 (by rw [hc5]; decide) (by rw [hc5]; decide) (by rw [hc5]; rfl) (by decide) ?_
        refine lv_aload_n hx hb dX10_about_99 rfl (lv_at hl 0 rfl) ?_
        refine mg_hasIt C hP dX10_about_100 ?_
        refine lv_iload_n hx hb dX10_about_103 rfl (lv_at hl 1 rfl) ?_
        obtain ⟨v104, e104, h⟩ := ob h
        refine ml_hasIt C hP e104 dX10_about_104 ?_
        exact mx_reti C h hP hS dX10_about_105
      replace h := it_neg hc5 h
      have hn0 := lv_neT hc0 (show (0 : Int32).toInt = 0 by decide)
      have hn1 := lv_neT hc1 (show (1 : Int32).toInt = 1 by decide)
      have hn2 := lv_neT hc2 (show (2 : Int32).toInt = 2 by decide)
      have hn3 := lv_neT hc3 (show (3 : Int32).toInt = 3 by decide)
      have hn4 := lv_neT hc4 (show (4 : Int32).toInt = 4 by decide)
      have hn5 := lv_neT hc5 (show (5 : Int32).toInt = 5 by decide)
      refine lv_tableOut (tgt := 106) hx hb dX10_about_25 (by omega) (by decide) ?_
      refine lv_aload_n hx hb dX10_about_106 rfl (lv_at hl 0 rfl) ?_
      refine mg_trait C hP dX10_about_107 ?_
      refine lv_iconst (v := 5) hx hb dX10_about_110 (by decide) ?_
      refine lv_iload_n hx hb dX10_about_111 rfl (lv_at hl 1 rfl) ?_
      refine lv_imul hx hb dX10_about_112 ?_
      refine lv_iload_n hx hb dX10_about_113 rfl (lv_at hl 2 rfl) ?_
      refine lv_iadd hx hb dX10_about_114 ?_
      refine lv_bipush (v := 6) hx hb dX10_about_115 (by decide) ?_
      refine lv_isub hx hb dX10_about_117 ?_
      obtain ⟨v118, e118, h⟩ := ob h
      refine ml_trait C hP e118 dX10_about_118 ?_
      exact mx_reti C h hP hS dX10_about_119
    · replace h := it_pos hc h
      refine lv_aload_n hx hb dX10_about_18 rfl (lv_at hl 0 rfl) ?_
      refine lv_iconst (v := 1) hx hb dX10_about_19 (by decide) ?_
      obtain ⟨r20, u20, e20, h⟩ := obI h
      refine mx_cVi C hP hS [.int (1 : Int32)] (tX10_finding e20) qX10_138 ⟨rfl, rfl, Nat.le_of_ble_eq_true rfl, Nat.le_of_ble_eq_true rfl⟩ rfl hl.1 rfl (Nat.le_of_ble_eq_true rfl) dX10_about_20 (fun H locs hP hS => ?_)
      exact mx_reti C h hP hS dX10_about_23
theorem tX10_about {D : va_G} {cI cZ cJ : ClassId} {o : Nat} {ad : Nat → Nat} {A : Nat → Prop} {x1 : Int32} {x2 : Int32} {u : mS} {res : Int32 × mS} (h : fX10_about x1 x2 u = some res) : Met l yX10_about (Cond.code yX10_about cX10_about 3 (some .int) :: gW) rmX10_about (va_Pc [.ref o, .int x1, .int x2] (mPre D cI cZ cJ o ad A u)) (mQi D cI cZ cJ o ad A res) 0 0 A :=
  mx_met ⟨by decide +kernel, rfl⟩ (Nat.le_of_ble_eq_true rfl) (fun p e s m below meth c ls C hP hl => wX10_about C h hP va_S.rf hl)
abbrev rmX10_day : Room := { frames := 1, cells := 0, slots := 0, locals := 22 }
def fX10_day_54 (x2 : Int32) (x3 : Int32) (u : mS) (k29 : Int32 → Int32 → mS → Option (Int32 × mS)) : Option (Int32 × mS) :=
  k29 x2 (x3 + (1 : Int32)) u
set_option maxHeartbeats 4000000 in
set_option maxRecDepth 20000 in
theorem wX10_day_54 (C : mC p s m args meth c cX10_day 4 (some .int) D cI cZ cJ o ad A) {x2 : Int32} {x3 : Int32} {u : mS} {res : Int32 × mS} {k29 : Int32 → Int32 → mS → Option (Int32 × mS)} (hk29 : ∀ (x2 : Int32) (x3 : Int32) (u : mS) (H : Heap) (locs : List Loc) (ls : Array Slot), k29 x2 x3 u = some res → va_P D vwCl (mW cI cZ cJ o ad u) H → va_S A s.heap H locs → lv_has ls 4 [(0, .ref o), (2, .int x2), (3, .int x3)] → W p l e rmX10_day s m args below meth c H locs 0 0 (MQ below (mQi D cI cZ cJ o ad A res) args s 0 0 A) (F0 m 29 ls [])) (h : fX10_day_54 x2 x3 u k29 = some res) {H : Heap} {locs : List Loc} (hP : va_P D vwCl (mW cI cZ cJ o ad u) H) (hS : va_S A s.heap H locs) {ls : Array Slot} (hl : lv_has ls 4 [(0, .ref o), (2, .int x2), (3, .int x3)]) : W p l e rmX10_day s m args below meth c H locs 0 0 (MQ below (mQi D cI cZ cJ o ad A res) args s 0 0 A) (F0 m 54 ls []) := by
  have hx := C.1
  have hb := C.2.1
  unfold fX10_day_54 at h
  refine lv_iinc (v := x3 + (1 : Int32)) (lv' := [(3, .int (x3 + (1 : Int32))), (0, .ref o), (2, .int x2)]) hx hb dX10_day_54 hl (k := 2) rfl rfl (by decide) rfl (fun ls hl => ?_)
  refine lv_goto (tgt := 29) hx hb dX10_day_57 (by decide) ?_
  exact hk29 _ _ _ _ _ _ h hP hS (lv_sub hl [1, 2, 0] rfl)
def fX10_day_29_b (x2 : Int32) (x3 : Int32) (u : mS) (k29 : Int32 → Int32 → mS → Option (Int32 × mS)) : Option (Int32 × mS) :=
  if (u.1 2) ≤ x3 then (
    some (x2, u)
  ) else (
    bI (fX10_spoils x3 u) fun r39 u39 =>
    if r39 = 0 then (
      fX10_day_54 x2 x3 u39 k29
    ) else (
      (fX10_becomes x3 (3 : Int32) u39).bind fun u48 =>
      fX10_day_54 (x2 + (1 : Int32)) x3 u48 k29
    )
  )
set_option maxHeartbeats 4000000 in
set_option maxRecDepth 20000 in
theorem wX10_day_29_b (C : mC p s m args meth c cX10_day 4 (some .int) D cI cZ cJ o ad A) {x2 : Int32} {x3 : Int32} {u : mS} {res : Int32 × mS} {k29 : Int32 → Int32 → mS → Option (Int32 × mS)} (hk29 : ∀ (x2 : Int32) (x3 : Int32) (u : mS) (H : Heap) (locs : List Loc) (ls : Array Slot), k29 x2 x3 u = some res → va_P D vwCl (mW cI cZ cJ o ad u) H → va_S A s.heap H locs → lv_has ls 4 [(0, .ref o), (2, .int x2), (3, .int x3)] → W p l e rmX10_day s m args below meth c H locs 0 0 (MQ below (mQi D cI cZ cJ o ad A res) args s 0 0 A) (F0 m 29 ls [])) (h : fX10_day_29_b x2 x3 u k29 = some res) {H : Heap} {locs : List Loc} (hP : va_P D vwCl (mW cI cZ cJ o ad u) H) (hS : va_S A s.heap H locs) {ls : Array Slot} (hl : lv_has ls 4 [(0, .ref o), (2, .int x2), (3, .int x3)]) : W p l e rmX10_day s m args below meth c H locs 0 0 (MQ below (mQi D cI cZ cJ o ad A res) args s 0 0 A) (F0 m 29 ls []) := by
  have hx := C.1
  have hb := C.2.1
  unfold fX10_day_29_b at h
  refine lv_iload_n hx hb dX10_day_29 rfl (lv_at hl 2 rfl) ?_
  refine lv_aload_n hx hb dX10_day_30 rfl (lv_at hl 0 rfl) ?_
  refine mg_things C hP dX10_day_31 ?_
  refine lv_icmp_ge (tgt := 60) hx hb dX10_day_34 (by decide) (fun hc => ?_) (fun hc => ?_)
  · replace h := it_pos hc h
    refine lv_iload_n hx hb dX10_day_60 rfl (lv_at hl 1 rfl) ?_
    exact mx_reti C h hP hS dX10_day_61
  · replace h := it_neg hc h
    refine lv_aload_n hx hb dX10_day_37 rfl (lv_at hl 0 rfl) ?_
    refine lv_iload_n hx hb dX10_day_38 rfl (lv_at hl 2 rfl) ?_
    obtain ⟨r39, u39, e39, h⟩ := obI h
    refine mx_cVi C hP hS [.int x3] (tX10_spoils e39) qX10_146 ⟨rfl, rfl, Nat.le_of_ble_eq_true rfl, Nat.le_of_ble_eq_true rfl⟩ rfl hl.1 rfl (Nat.le_of_ble_eq_true rfl) dX10_day_39 (fun H locs hP hS => ?_)
    refine lv_if_eq (tgt := 54) hx hb dX10_day_42 (by decide) (fun hc => ?_) (fun hc => ?_)
    · replace h := it_pos hc h
      exact wX10_day_54 C hk29 h hP hS (lv_sub hl [0, 1, 2] rfl)
    · replace h := it_neg hc h
      refine lv_aload_n hx hb dX10_day_45 rfl (lv_at hl 0 rfl) ?_
      refine lv_iload_n hx hb dX10_day_46 rfl (lv_at hl 2 rfl) ?_
      refine lv_iconst (v := 3) hx hb dX10_day_47 (by decide) ?_
      obtain ⟨u48, e48, h⟩ := ob h
      refine mx_cVv C hP hS [.int x3, .int (3 : Int32)] (tX10_becomes e48) qX10_142 ⟨rfl, rfl, Nat.le_of_ble_eq_true rfl, Nat.le_of_ble_eq_true rfl⟩ rfl hl.1 rfl (Nat.le_of_ble_eq_true rfl) dX10_day_48 (fun H locs hP hS => ?_)
      refine lv_iinc (v := x2 + (1 : Int32)) (lv' := [(2, .int (x2 + (1 : Int32))), (0, .ref o), (3, .int x3)]) hx hb dX10_day_51 hl (k := 1) rfl rfl (by decide) rfl (fun ls hl => ?_)
      exact wX10_day_54 C hk29 h hP hS (lv_sub hl [1, 0, 2] rfl)
def fX10_day_29 : Nat → Int32 → Int32 → mS → Option (Int32 × mS)
  | 0 => fun _ _ _ => none
  | n + 1 => fun x2 x3 u => fX10_day_29_b x2 x3 u (fX10_day_29 n) 
theorem wX10_day_29 (C : mC p s m args meth c cX10_day 4 (some .int) D cI cZ cJ o ad A) {res : Int32 × mS} (n : Nat) : ∀ {x2 : Int32} {x3 : Int32} {u : mS} {H : Heap} {locs : List Loc} {ls : Array Slot}, fX10_day_29 n x2 x3 u = some res → va_P D vwCl (mW cI cZ cJ o ad u) H → va_S A s.heap H locs → lv_has ls 4 [(0, .ref o), (2, .int x2), (3, .int x3)] → W p l e rmX10_day s m args below meth c H locs 0 0 (MQ below (mQi D cI cZ cJ o ad A res) args s 0 0 A) (F0 m 29 ls []) := by
  induction n with
  | zero => intro _ _ _ _ _ _ h _ _ _; cases (show (none : Option (Int32 × mS)) = some res from h)
  | succ n ih => intro _ _ _ _ _ _ h hP hS hl; exact wX10_day_29_b C (fun _ _ _ _ _ _ h hP hS hl => ih h hP hS hl) h hP hS hl
def fX10_day (x1 : Int32) (u : mS) : Option (Int32 × mS) :=
  bI (fX10_isIn x1 (u.1 0) (9999 : Int32) u) fun r8 u8 =>
  if r8 = 0 then (
    bI (fX10_finding (1 : Int32) u8) fun r16 u16 =>
    some (r16, u16)
  ) else (
    pU (mF u8 0 x1) fun u22 =>
    fX10_day_29  FU (0 : Int32) (0 : Int32) u22
  )
set_option maxHeartbeats 4000000 in
set_option maxRecDepth 20000 in
theorem wX10_day (C : mC p s m args meth c cX10_day 4 (some .int) D cI cZ cJ o ad A) {x1 : Int32} {u : mS} {res : Int32 × mS} (h : fX10_day x1 u = some res) {H : Heap} {locs : List Loc} (hP : va_P D vwCl (mW cI cZ cJ o ad u) H) (hS : va_S A s.heap H locs) {ls : Array Slot} (hl : lv_has ls 4 [(0, .ref o), (1, .int x1)]) : W p l e rmX10_day s m args below meth c H locs 0 0 (MQ below (mQi D cI cZ cJ o ad A res) args s 0 0 A) (F0 m 0 ls []) := by
  have hx := C.1
  have hb := C.2.1
  unfold fX10_day at h
  refine lv_iload_n hx hb dX10_day_0 rfl (lv_at hl 1 rfl) ?_
  refine lv_aload_n hx hb dX10_day_1 rfl (lv_at hl 0 rfl) ?_
  refine mg_today C hP dX10_day_2 ?_
  refine lv_sipush (v := 9999) hx hb dX10_day_5 (by decide) ?_
  obtain ⟨r8, u8, e8, h⟩ := obI h
  refine mx_cSi C hP hS [.int x1, .int (u.1 0), .int (9999 : Int32)] (tX10_isIn e8) qX10_131 ⟨rfl, rfl, Nat.le_of_ble_eq_true rfl, Nat.le_of_ble_eq_true rfl⟩ rfl hl.1 rfl (Nat.le_of_ble_eq_true rfl) dX10_day_8 (fun H locs hP hS => ?_)
  refine lv_if_ne (tgt := 20) hx hb dX10_day_11 (by decide) (fun hc => ?_) (fun hc => ?_)
  · replace h := it_neg hc h
    refine lv_aload_n hx hb dX10_day_20 rfl (lv_at hl 0 rfl) ?_
    refine lv_iload_n hx hb dX10_day_21 rfl (lv_at hl 1 rfl) ?_
    obtain ⟨u22, e22, h⟩ := op h
    refine mp_today C hP hS e22 dX10_day_22 (fun H locs hP hS => ?_)
    refine lv_iconst (v := 0) hx hb dX10_day_25 (by decide) ?_
    refine lv_istore_n (lv' := [(2, .int (0 : Int32)), (0, .ref o), (1, .int x1)]) hx hb dX10_day_26 rfl hl (by decide) rfl (fun ls hl => ?_)
    refine lv_iconst (v := 0) hx hb dX10_day_27 (by decide) ?_
    refine lv_istore_n (lv' := [(3, .int (0 : Int32)), (2, .int (0 : Int32)), (0, .ref o), (1, .int x1)]) hx hb dX10_day_28 rfl hl (by decide) rfl (fun ls hl => ?_)
    exact wX10_day_29 C  FU h hP hS (lv_sub hl [2, 1, 0] rfl)
  · replace h := it_pos hc h
    refine lv_aload_n hx hb dX10_day_14 rfl (lv_at hl 0 rfl) ?_
    refine lv_iconst (v := 1) hx hb dX10_day_15 (by decide) ?_
    obtain ⟨r16, u16, e16, h⟩ := obI h
    refine mx_cVi C hP hS [.int (1 : Int32)] (tX10_finding e16) qX10_138 ⟨rfl, rfl, Nat.le_of_ble_eq_true rfl, Nat.le_of_ble_eq_true rfl⟩ rfl hl.1 rfl (Nat.le_of_ble_eq_true rfl) dX10_day_16 (fun H locs hP hS => ?_)
    exact mx_reti C h hP hS dX10_day_19
theorem tX10_day {D : va_G} {cI cZ cJ : ClassId} {o : Nat} {ad : Nat → Nat} {A : Nat → Prop} {x1 : Int32} {u : mS} {res : Int32 × mS} (h : fX10_day x1 u = some res) : Met l yX10_day (Cond.code yX10_day cX10_day 4 (some .int) :: gW) rmX10_day (va_Pc [.ref o, .int x1] (mPre D cI cZ cJ o ad A u)) (mQi D cI cZ cJ o ad A res) 0 0 A :=
  mx_met ⟨by decide +kernel, rfl⟩ (Nat.le_of_ble_eq_true rfl) (fun p e s m below meth c ls C hP hl => wX10_day C h hP va_S.rf hl)
abbrev rmX10_spoil : Room := { frames := 1, cells := 0, slots := 0, locals := 22 }
def fX10_spoil (x1 : Int32) (u : mS) : Option (Int32 × mS) :=
  bI (fX10_isIn x1 (0 : Int32) (30 : Int32) u) fun r4 u4 =>
  if r4 = 0 then (
    bI (fX10_finding (1 : Int32) u4) fun r12 u12 =>
    some (r12, u12)
  ) else (
    pU (mF u4 1 x1) fun u23 =>
    some (u4.1 1, u23)
  )
set_option maxHeartbeats 4000000 in
set_option maxRecDepth 20000 in
theorem wX10_spoil (C : mC p s m args meth c cX10_spoil 3 (some .int) D cI cZ cJ o ad A) {x1 : Int32} {u : mS} {res : Int32 × mS} (h : fX10_spoil x1 u = some res) {H : Heap} {locs : List Loc} (hP : va_P D vwCl (mW cI cZ cJ o ad u) H) (hS : va_S A s.heap H locs) {ls : Array Slot} (hl : lv_has ls 3 [(0, .ref o), (1, .int x1)]) : W p l e rmX10_spoil s m args below meth c H locs 0 0 (MQ below (mQi D cI cZ cJ o ad A res) args s 0 0 A) (F0 m 0 ls []) := by
  have hx := C.1
  have hb := C.2.1
  unfold fX10_spoil at h
  refine lv_iload_n hx hb dX10_spoil_0 rfl (lv_at hl 1 rfl) ?_
  refine lv_iconst (v := 0) hx hb dX10_spoil_1 (by decide) ?_
  refine lv_bipush (v := 30) hx hb dX10_spoil_2 (by decide) ?_
  obtain ⟨r4, u4, e4, h⟩ := obI h
  refine mx_cSi C hP hS [.int x1, .int (0 : Int32), .int (30 : Int32)] (tX10_isIn e4) qX10_131 ⟨rfl, rfl, Nat.le_of_ble_eq_true rfl, Nat.le_of_ble_eq_true rfl⟩ rfl hl.1 rfl (Nat.le_of_ble_eq_true rfl) dX10_spoil_4 (fun H locs hP hS => ?_)
  refine lv_if_ne (tgt := 16) hx hb dX10_spoil_7 (by decide) (fun hc => ?_) (fun hc => ?_)
  · replace h := it_neg hc h
    refine lv_aload_n hx hb dX10_spoil_16 rfl (lv_at hl 0 rfl) ?_
    refine mg_spoil C hP dX10_spoil_17 ?_
    refine lv_istore_n (lv' := [(2, .int (u4.1 1)), (0, .ref o), (1, .int x1)]) hx hb dX10_spoil_20 rfl hl (by decide) rfl (fun ls hl => ?_)
    refine lv_aload_n hx hb dX10_spoil_21 rfl (lv_at hl 1 rfl) ?_
    refine lv_iload_n hx hb dX10_spoil_22 rfl (lv_at hl 2 rfl) ?_
    obtain ⟨u23, e23, h⟩ := op h
    refine mp_spoil C hP hS e23 dX10_spoil_23 (fun H locs hP hS => ?_)
    refine lv_iload_n hx hb dX10_spoil_26 rfl (lv_at hl 0 rfl) ?_
    exact mx_reti C h hP hS dX10_spoil_27
  · replace h := it_pos hc h
    refine lv_aload_n hx hb dX10_spoil_10 rfl (lv_at hl 0 rfl) ?_
    refine lv_iconst (v := 1) hx hb dX10_spoil_11 (by decide) ?_
    obtain ⟨r12, u12, e12, h⟩ := obI h
    refine mx_cVi C hP hS [.int (1 : Int32)] (tX10_finding e12) qX10_138 ⟨rfl, rfl, Nat.le_of_ble_eq_true rfl, Nat.le_of_ble_eq_true rfl⟩ rfl hl.1 rfl (Nat.le_of_ble_eq_true rfl) dX10_spoil_12 (fun H locs hP hS => ?_)
    exact mx_reti C h hP hS dX10_spoil_15
theorem tX10_spoil {D : va_G} {cI cZ cJ : ClassId} {o : Nat} {ad : Nat → Nat} {A : Nat → Prop} {x1 : Int32} {u : mS} {res : Int32 × mS} (h : fX10_spoil x1 u = some res) : Met l yX10_spoil (Cond.code yX10_spoil cX10_spoil 3 (some .int) :: gW) rmX10_spoil (va_Pc [.ref o, .int x1] (mPre D cI cZ cJ o ad A u)) (mQi D cI cZ cJ o ad A res) 0 0 A :=
  mx_met ⟨by decide +kernel, rfl⟩ (Nat.le_of_ble_eq_true rfl) (fun p e s m below meth c ls C hP hl => wX10_spoil C h hP va_S.rf hl)
abbrev rmX10_known : Room := { frames := 1, cells := 0, slots := 0, locals := 22 }
def fX10_known_82 (x1 : Int32) (x2 : Int32) (x4 : Int32) (s0 : Int32) (u : mS) (k30 : Int32 → Int32 → Int32 → Int32 → mS → Option (Int32 × mS)) : Option (Int32 × mS) :=
  k30 x1 x2 s0 (x4 + (1 : Int32)) u
set_option maxHeartbeats 4000000 in
set_option maxRecDepth 20000 in
theorem wX10_known_82 (C : mC p s m args meth c cX10_known 5 (some .int) D cI cZ cJ o ad A) {x1 : Int32} {x2 : Int32} {x4 : Int32} {s0 : Int32} {u : mS} {res : Int32 × mS} {k30 : Int32 → Int32 → Int32 → Int32 → mS → Option (Int32 × mS)} (hk30 : ∀ (x1 : Int32) (x2 : Int32) (x3 : Int32) (x4 : Int32) (u : mS) (H : Heap) (locs : List Loc) (ls : Array Slot), k30 x1 x2 x3 x4 u = some res → va_P D vwCl (mW cI cZ cJ o ad u) H → va_S A s.heap H locs → lv_has ls 5 [(0, .ref o), (1, .int x1), (2, .int x2), (3, .int x3), (4, .int x4)] → W p l e rmX10_known s m args below meth c H locs 0 0 (MQ below (mQi D cI cZ cJ o ad A res) args s 0 0 A) (F0 m 30 ls [])) (h : fX10_known_82 x1 x2 x4 s0 u k30 = some res) {H : Heap} {locs : List Loc} (hP : va_P D vwCl (mW cI cZ cJ o ad u) H) (hS : va_S A s.heap H locs) {ls : Array Slot} (hl : lv_has ls 5 [(0, .ref o), (1, .int x1), (2, .int x2), (4, .int x4)]) : W p l e rmX10_known s m args below meth c H locs 0 0 (MQ below (mQi D cI cZ cJ o ad A res) args s 0 0 A) (F0 m 82 ls [.int s0]) := by
  have hx := C.1
  have hb := C.2.1
  unfold fX10_known_82 at h
  refine lv_istore_n (lv' := [(3, .int s0), (0, .ref o), (1, .int x1), (2, .int x2), (4, .int x4)]) hx hb dX10_known_82 rfl hl (by decide) rfl (fun ls hl => ?_)
  refine lv_iinc (v := x4 + (1 : Int32)) (lv' := [(4, .int (x4 + (1 : Int32))), (3, .int s0), (0, .ref o), (1, .int x1), (2, .int x2)]) hx hb dX10_known_83 hl (k := 4) rfl rfl (by decide) rfl (fun ls hl => ?_)
  refine lv_goto (tgt := 30) hx hb dX10_known_86 (by decide) ?_
  exact hk30 _ _ _ _ _ _ _ _ h hP hS (lv_sub hl [2, 3, 4, 1, 0] rfl)
def fX10_known_81 (x1 : Int32) (x2 : Int32) (x3 : Int32) (x4 : Int32) (u : mS) (k30 : Int32 → Int32 → Int32 → Int32 → mS → Option (Int32 × mS)) : Option (Int32 × mS) :=
  fX10_known_82 x1 x2 x4 x3 u k30
set_option maxHeartbeats 4000000 in
set_option maxRecDepth 20000 in
theorem wX10_known_81 (C : mC p s m args meth c cX10_known 5 (some .int) D cI cZ cJ o ad A) {x1 : Int32} {x2 : Int32} {x3 : Int32} {x4 : Int32} {u : mS} {res : Int32 × mS} {k30 : Int32 → Int32 → Int32 → Int32 → mS → Option (Int32 × mS)} (hk30 : ∀ (x1 : Int32) (x2 : Int32) (x3 : Int32) (x4 : Int32) (u : mS) (H : Heap) (locs : List Loc) (ls : Array Slot), k30 x1 x2 x3 x4 u = some res → va_P D vwCl (mW cI cZ cJ o ad u) H → va_S A s.heap H locs → lv_has ls 5 [(0, .ref o), (1, .int x1), (2, .int x2), (3, .int x3), (4, .int x4)] → W p l e rmX10_known s m args below meth c H locs 0 0 (MQ below (mQi D cI cZ cJ o ad A res) args s 0 0 A) (F0 m 30 ls [])) (h : fX10_known_81 x1 x2 x3 x4 u k30 = some res) {H : Heap} {locs : List Loc} (hP : va_P D vwCl (mW cI cZ cJ o ad u) H) (hS : va_S A s.heap H locs) {ls : Array Slot} (hl : lv_has ls 5 [(0, .ref o), (1, .int x1), (2, .int x2), (3, .int x3), (4, .int x4)]) : W p l e rmX10_known s m args below meth c H locs 0 0 (MQ below (mQi D cI cZ cJ o ad A res) args s 0 0 A) (F0 m 81 ls []) := by
  have hx := C.1
  have hb := C.2.1
  unfold fX10_known_81 at h
  refine lv_iload_n hx hb dX10_known_81 rfl (lv_at hl 3 rfl) ?_
  exact wX10_known_82 C hk30 h hP hS (lv_sub hl [0, 1, 2, 4] rfl)
def fX10_known_30_b (x1 : Int32) (x2 : Int32) (x3 : Int32) (x4 : Int32) (u : mS) (k30 : Int32 → Int32 → Int32 → Int32 → mS → Option (Int32 × mS)) : Option (Int32 × mS) :=
  if (u.1 16) ≤ x4 then (
    some (x3, u)
  ) else (
    (mR u 15 9000 ((3 : Int32) * x4)).bind fun v47 =>
    if v47 = x1 then (
      (mR u 15 9000 (((3 : Int32) * x4) + (1 : Int32))).bind fun v62 =>
      if x2 < v62 then (
        fX10_known_81 x1 x2 x3 x4 u k30
      ) else (
        (mR u 15 9000 (((3 : Int32) * x4) + (2 : Int32))).bind fun v77 =>
        fX10_known_82 x1 x2 x4 v77 u k30
      )
    ) else (
      fX10_known_81 x1 x2 x3 x4 u k30
    )
  )
set_option maxHeartbeats 4000000 in
set_option maxRecDepth 20000 in
theorem wX10_known_30_b (C : mC p s m args meth c cX10_known 5 (some .int) D cI cZ cJ o ad A) {x1 : Int32} {x2 : Int32} {x3 : Int32} {x4 : Int32} {u : mS} {res : Int32 × mS} {k30 : Int32 → Int32 → Int32 → Int32 → mS → Option (Int32 × mS)} (hk30 : ∀ (x1 : Int32) (x2 : Int32) (x3 : Int32) (x4 : Int32) (u : mS) (H : Heap) (locs : List Loc) (ls : Array Slot), k30 x1 x2 x3 x4 u = some res → va_P D vwCl (mW cI cZ cJ o ad u) H → va_S A s.heap H locs → lv_has ls 5 [(0, .ref o), (1, .int x1), (2, .int x2), (3, .int x3), (4, .int x4)] → W p l e rmX10_known s m args below meth c H locs 0 0 (MQ below (mQi D cI cZ cJ o ad A res) args s 0 0 A) (F0 m 30 ls [])) (h : fX10_known_30_b x1 x2 x3 x4 u k30 = some res) {H : Heap} {locs : List Loc} (hP : va_P D vwCl (mW cI cZ cJ o ad u) H) (hS : va_S A s.heap H locs) {ls : Array Slot} (hl : lv_has ls 5 [(0, .ref o), (1, .int x1), (2, .int x2), (3, .int x3), (4, .int x4)]) : W p l e rmX10_known s m args below meth c H locs 0 0 (MQ below (mQi D cI cZ cJ o ad A res) args s 0 0 A) (F0 m 30 ls []) := by
  have hx := C.1
  have hb := C.2.1
  unfold fX10_known_30_b at h
  refine lv_iload hx hb dX10_known_30 (lv_at hl 4 rfl) ?_
  refine lv_aload_n hx hb dX10_known_32 rfl (lv_at hl 0 rfl) ?_
  refine mg_eventMany C hP dX10_known_33 ?_
  refine lv_icmp_ge (tgt := 89) hx hb dX10_known_36 (by decide) (fun hc => ?_) (fun hc => ?_)
  · replace h := it_pos hc h
    refine lv_iload_n hx hb dX10_known_89 rfl (lv_at hl 3 rfl) ?_
    exact mx_reti C h hP hS dX10_known_90
  · replace h := it_neg hc h
    refine lv_aload_n hx hb dX10_known_39 rfl (lv_at hl 0 rfl) ?_
    refine mg_events C hP dX10_known_40 ?_
    refine lv_iconst (v := 3) hx hb dX10_known_43 (by decide) ?_
    refine lv_iload hx hb dX10_known_44 (lv_at hl 4 rfl) ?_
    refine lv_imul hx hb dX10_known_46 ?_
    obtain ⟨v47, e47, h⟩ := ob h
    refine ml_events C hP e47 dX10_known_47 ?_
    refine lv_iload_n hx hb dX10_known_48 rfl (lv_at hl 1 rfl) ?_
    refine lv_icmp_ne (tgt := 81) hx hb dX10_known_49 (by decide) (fun hc => ?_) (fun hc => ?_)
    · replace h := it_neg hc h
      exact wX10_known_81 C hk30 h hP hS (lv_sub hl [0, 1, 2, 3, 4] rfl)
    · replace h := it_pos hc h
      refine lv_aload_n hx hb dX10_known_52 rfl (lv_at hl 0 rfl) ?_
      refine mg_events C hP dX10_known_53 ?_
      refine lv_iconst (v := 3) hx hb dX10_known_56 (by decide) ?_
      refine lv_iload hx hb dX10_known_57 (lv_at hl 4 rfl) ?_
      refine lv_imul hx hb dX10_known_59 ?_
      refine lv_iconst (v := 1) hx hb dX10_known_60 (by decide) ?_
      refine lv_iadd hx hb dX10_known_61 ?_
      obtain ⟨v62, e62, h⟩ := ob h
      refine ml_events C hP e62 dX10_known_62 ?_
      refine lv_iload_n hx hb dX10_known_63 rfl (lv_at hl 2 rfl) ?_
      refine lv_icmp_gt (tgt := 81) hx hb dX10_known_64 (by decide) (fun hc => ?_) (fun hc => ?_)
      · replace h := it_pos hc h
        exact wX10_known_81 C hk30 h hP hS (lv_sub hl [0, 1, 2, 3, 4] rfl)
      · replace h := it_neg hc h
        refine lv_aload_n hx hb dX10_known_67 rfl (lv_at hl 0 rfl) ?_
        refine mg_events C hP dX10_known_68 ?_
        refine lv_iconst (v := 3) hx hb dX10_known_71 (by decide) ?_
        refine lv_iload hx hb dX10_known_72 (lv_at hl 4 rfl) ?_
        refine lv_imul hx hb dX10_known_74 ?_
        refine lv_iconst (v := 2) hx hb dX10_known_75 (by decide) ?_
        refine lv_iadd hx hb dX10_known_76 ?_
        obtain ⟨v77, e77, h⟩ := ob h
        refine ml_events C hP e77 dX10_known_77 ?_
        refine lv_goto (tgt := 82) hx hb dX10_known_78 (by decide) ?_
        exact wX10_known_82 C hk30 h hP hS (lv_sub hl [0, 1, 2, 4] rfl)
def fX10_known_30 : Nat → Int32 → Int32 → Int32 → Int32 → mS → Option (Int32 × mS)
  | 0 => fun _ _ _ _ _ => none
  | n + 1 => fun x1 x2 x3 x4 u => fX10_known_30_b x1 x2 x3 x4 u (fX10_known_30 n) 
theorem wX10_known_30 (C : mC p s m args meth c cX10_known 5 (some .int) D cI cZ cJ o ad A) {res : Int32 × mS} (n : Nat) : ∀ {x1 : Int32} {x2 : Int32} {x3 : Int32} {x4 : Int32} {u : mS} {H : Heap} {locs : List Loc} {ls : Array Slot}, fX10_known_30 n x1 x2 x3 x4 u = some res → va_P D vwCl (mW cI cZ cJ o ad u) H → va_S A s.heap H locs → lv_has ls 5 [(0, .ref o), (1, .int x1), (2, .int x2), (3, .int x3), (4, .int x4)] → W p l e rmX10_known s m args below meth c H locs 0 0 (MQ below (mQi D cI cZ cJ o ad A res) args s 0 0 A) (F0 m 30 ls []) := by
  induction n with
  | zero => intro _ _ _ _ _ _ _ _ h _ _ _; cases (show (none : Option (Int32 × mS)) = some res from h)
  | succ n ih => intro _ _ _ _ _ _ _ _ h hP hS hl; exact wX10_known_30_b C (fun _ _ _ _ _ _ _ _ h hP hS hl => ih h hP hS hl) h hP hS hl
def fX10_known (x1 : Int32) (x2 : Int32) (u : mS) : Option (Int32 × mS) :=
  bI (fX10_isThing x1 u) fun r2 u2 =>
  if r2 = 0 then (
    bI (fX10_finding (1 : Int32) u2) fun r21 u21 =>
    some (r21, u21)
  ) else (
    bI (fX10_isIn x2 (0 : Int32) (9999 : Int32) u2) fun r13 u13 =>
    if r13 = 0 then (
      bI (fX10_finding (1 : Int32) u13) fun r21 u21 =>
      some (r21, u21)
    ) else (
      fX10_known_30  FU x1 x2 (-1 : Int32) (0 : Int32) u13
    )
  )
set_option maxHeartbeats 4000000 in
set_option maxRecDepth 20000 in
theorem wX10_known (C : mC p s m args meth c cX10_known 5 (some .int) D cI cZ cJ o ad A) {x1 : Int32} {x2 : Int32} {u : mS} {res : Int32 × mS} (h : fX10_known x1 x2 u = some res) {H : Heap} {locs : List Loc} (hP : va_P D vwCl (mW cI cZ cJ o ad u) H) (hS : va_S A s.heap H locs) {ls : Array Slot} (hl : lv_has ls 5 [(0, .ref o), (1, .int x1), (2, .int x2)]) : W p l e rmX10_known s m args below meth c H locs 0 0 (MQ below (mQi D cI cZ cJ o ad A res) args s 0 0 A) (F0 m 0 ls []) := by
  have hx := C.1
  have hb := C.2.1
  unfold fX10_known at h
  refine lv_aload_n hx hb dX10_known_0 rfl (lv_at hl 0 rfl) ?_
  refine lv_iload_n hx hb dX10_known_1 rfl (lv_at hl 1 rfl) ?_
  obtain ⟨r2, u2, e2, h⟩ := obI h
  refine mx_cVi C hP hS [.int x1] (tX10_isThing e2) qX10_150 ⟨rfl, rfl, Nat.le_of_ble_eq_true rfl, Nat.le_of_ble_eq_true rfl⟩ rfl hl.1 rfl (Nat.le_of_ble_eq_true rfl) dX10_known_2 (fun H locs hP hS => ?_)
  refine lv_if_eq (tgt := 19) hx hb dX10_known_5 (by decide) (fun hc => ?_) (fun hc => ?_)
  · replace h := it_pos hc h
    refine lv_aload_n hx hb dX10_known_19 rfl (lv_at hl 0 rfl) ?_
    refine lv_iconst (v := 1) hx hb dX10_known_20 (by decide) ?_
    obtain ⟨r21, u21, e21, h⟩ := obI h
    refine mx_cVi C hP hS [.int (1 : Int32)] (tX10_finding e21) qX10_138 ⟨rfl, rfl, Nat.le_of_ble_eq_true rfl, Nat.le_of_ble_eq_true rfl⟩ rfl hl.1 rfl (Nat.le_of_ble_eq_true rfl) dX10_known_21 (fun H locs hP hS => ?_)
    exact mx_reti C h hP hS dX10_known_24
  · replace h := it_neg hc h
    refine lv_iload_n hx hb dX10_known_8 rfl (lv_at hl 2 rfl) ?_
    refine lv_iconst (v := 0) hx hb dX10_known_9 (by decide) ?_
    refine lv_sipush (v := 9999) hx hb dX10_known_10 (by decide) ?_
    obtain ⟨r13, u13, e13, h⟩ := obI h
    refine mx_cSi C hP hS [.int x2, .int (0 : Int32), .int (9999 : Int32)] (tX10_isIn e13) qX10_131 ⟨rfl, rfl, Nat.le_of_ble_eq_true rfl, Nat.le_of_ble_eq_true rfl⟩ rfl hl.1 rfl (Nat.le_of_ble_eq_true rfl) dX10_known_13 (fun H locs hP hS => ?_)
    refine lv_if_ne (tgt := 25) hx hb dX10_known_16 (by decide) (fun hc => ?_) (fun hc => ?_)
    · replace h := it_neg hc h
      refine lv_iconst (v := -1) hx hb dX10_known_25 (by decide) ?_
      refine lv_istore_n (lv' := [(3, .int (-1 : Int32)), (0, .ref o), (1, .int x1), (2, .int x2)]) hx hb dX10_known_26 rfl hl (by decide) rfl (fun ls hl => ?_)
      refine lv_iconst (v := 0) hx hb dX10_known_27 (by decide) ?_
      refine lv_istore (lv' := [(4, .int (0 : Int32)), (3, .int (-1 : Int32)), (0, .ref o), (1, .int x1), (2, .int x2)]) hx hb dX10_known_28 hl (by decide) rfl (fun ls hl => ?_)
      exact wX10_known_30 C  FU h hP hS (lv_sub hl [2, 3, 4, 1, 0] rfl)
    · replace h := it_pos hc h
      refine lv_aload_n hx hb dX10_known_19 rfl (lv_at hl 0 rfl) ?_
      refine lv_iconst (v := 1) hx hb dX10_known_20 (by decide) ?_
      obtain ⟨r21, u21, e21, h⟩ := obI h
      refine mx_cVi C hP hS [.int (1 : Int32)] (tX10_finding e21) qX10_138 ⟨rfl, rfl, Nat.le_of_ble_eq_true rfl, Nat.le_of_ble_eq_true rfl⟩ rfl hl.1 rfl (Nat.le_of_ble_eq_true rfl) dX10_known_21 (fun H locs hP hS => ?_)
      exact mx_reti C h hP hS dX10_known_24
theorem tX10_known {D : va_G} {cI cZ cJ : ClassId} {o : Nat} {ad : Nat → Nat} {A : Nat → Prop} {x1 : Int32} {x2 : Int32} {u : mS} {res : Int32 × mS} (h : fX10_known x1 x2 u = some res) : Met l yX10_known (Cond.code yX10_known cX10_known 5 (some .int) :: gW) rmX10_known (va_Pc [.ref o, .int x1, .int x2] (mPre D cI cZ cJ o ad A u)) (mQi D cI cZ cJ o ad A res) 0 0 A :=
  mx_met ⟨by decide +kernel, rfl⟩ (Nat.le_of_ble_eq_true rfl) (fun p e s m below meth c ls C hP hl => wX10_known C h hP va_S.rf hl)
end
