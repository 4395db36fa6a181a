section
variable {p : Program} {l : Launch} {e : Env} {s : State} {m : MethodId} {args : Array Value} {below : List Frame} {meth : Method} {c : Code} {D : va_G} {cI cZ cJ : ClassId} {o : Nat} {ad : Nat → Nat} {A : Nat → Prop}
abbrev rmX10_waysOf : Room := { frames := 0, cells := 0, slots := 0, locals := 0 }
def fX10_waysOf (x1 : Int32) (x2 : Int32) (u : mS) : Option (Int64 × mS) :=
  if x2 < 0 then (
    some ((0 : Int64), u)
  ) else (
    if x2 ≤ x1 then (
      (mRL u 3721 (((61 : Int32) * x1) + x2)).bind fun v23 =>
      some (v23, u)
    ) else (
      some ((0 : Int64), u)
    )
  )
set_option maxHeartbeats 4000000 in
set_option maxRecDepth 20000 in
theorem wX10_waysOf (C : mC p s m args meth c cX10_waysOf 3 (some .long) D cI cZ cJ o ad A) {x1 : Int32} {x2 : Int32} {u : mS} {res : Int64 × mS} (h : fX10_waysOf x1 x2 u = some res) {H : Heap} {locs : List Loc} (hP : va_P D vwCl (mW cI cZ cJ o ad u) H) (hS : va_S A s.heap H locs) {ls : Array Slot} (hl : lv_has ls 3 [(0, .ref o), (1, .int x1), (2, .int x2)]) : W p l e rmX10_waysOf s m args below meth c H locs 0 0 (MQ below (mQl D cI cZ cJ o ad A res) args s 0 0 A) (F0 m 0 ls []) := by
  have hx := C.1
  have hb := C.2.1
  unfold fX10_waysOf at h
  refine lv_iload_n hx hb dX10_waysOf_0 rfl (lv_at hl 2 rfl) ?_
  refine lv_if_lt (tgt := 9) hx hb dX10_waysOf_1 (by decide) (fun hc => ?_) (fun hc => ?_)
  · replace h := it_pos hc h
    refine lv_lconst (v := 0) hx hb dX10_waysOf_9 (by decide) ?_
    refine lv_goto (tgt := 24) hx hb dX10_waysOf_10 (by decide) ?_
    exact mx_retl C h hP hS dX10_waysOf_24
  · replace h := it_neg hc h
    refine lv_iload_n hx hb dX10_waysOf_4 rfl (lv_at hl 2 rfl) ?_
    refine lv_iload_n hx hb dX10_waysOf_5 rfl (lv_at hl 1 rfl) ?_
    refine lv_icmp_le (tgt := 13) hx hb dX10_waysOf_6 (by decide) (fun hc => ?_) (fun hc => ?_)
    · replace h := it_pos hc h
      refine lv_aload_n hx hb dX10_waysOf_13 rfl (lv_at hl 0 rfl) ?_
      refine mg_ways C hP dX10_waysOf_14 ?_
      refine lv_bipush (v := 61) hx hb dX10_waysOf_17 (by decide) ?_
      refine lv_iload_n hx hb dX10_waysOf_19 rfl (lv_at hl 1 rfl) ?_
      refine lv_imul hx hb dX10_waysOf_20 ?_
      refine lv_iload_n hx hb dX10_waysOf_21 rfl (lv_at hl 2 rfl) ?_
      refine lv_iadd hx hb dX10_waysOf_22 ?_
      obtain ⟨v23, e23, h⟩ := ob h
      refine ml_ways C hP e23 dX10_waysOf_23 ?_
      exact mx_retl C h hP hS dX10_waysOf_24
    · replace h := it_neg hc h
      refine lv_lconst (v := 0) hx hb dX10_waysOf_9 (by decide) ?_
      refine lv_goto (tgt := 24) hx hb dX10_waysOf_10 (by decide) ?_
      exact mx_retl C h hP hS dX10_waysOf_24
theorem tX10_waysOf {D : va_G} {cI cZ cJ : ClassId} {o : Nat} {ad : Nat → Nat} {A : Nat → Prop} {x1 : Int32} {x2 : Int32} {u : mS} {res : Int64 × mS} (h : fX10_waysOf x1 x2 u = some res) : Met l yX10_waysOf (Cond.code yX10_waysOf cX10_waysOf 3 (some .long) :: gW) rmX10_waysOf (va_Pc [.ref o, .int x1, .int x2] (mPre D cI cZ cJ o ad A u)) (mQl D cI cZ cJ o ad A res) 0 0 A :=
  mx_met ⟨by decide +kernel, rfl⟩ (Nat.le_of_ble_eq_true rfl) (fun p e s m below meth c ls C hP hl => wX10_waysOf C h hP va_S.rf hl)
abbrev rmX10_tellWays : Room := { frames := 1, cells := 0, slots := 0, locals := 22 }
def fX10_tellWays_20_b (x1 : Int32) (x2 : Int32) (u : mS) (k20 : Int32 → Int32 → mS → Option (mS)) (k61 : Int32 → mS → Option (mS)) : Option (mS) :=
  if x1 < x2 then (
    k61 x1 u
  ) else (
    bI (fX10_waysOf (x1 - (1 : Int32)) (x2 - (1 : Int32)) u) fun r42 u42 =>
    bI (fX10_waysOf (x1 - (1 : Int32)) x2 u42) fun r50 u50 =>
    (mUL u50 3721 (((61 : Int32) * x1) + x2) (r42 + r50)).bind fun u54 =>
    k20 x1 (x2 + (1 : Int32)) u54
  )
set_option maxHeartbeats 4000000 in
set_option maxRecDepth 20000 in
theorem wX10_tellWays_20_b (C : mC p s m args meth c cX10_tellWays 3 none D cI cZ cJ o ad A) {x1 : Int32} {x2 : Int32} {u : mS} {res : mS} {k20 : Int32 → Int32 → mS → Option (mS)} {k61 : Int32 → mS → Option (mS)} (hk20 : ∀ (x1 : Int32) (x2 : Int32) (u : mS) (H : Heap) (locs : List Loc) (ls : Array Slot), k20 x1 x2 u = some res → va_P D vwCl (mW cI cZ cJ o ad u) H → va_S A s.heap H locs → lv_has ls 3 [(0, .ref o), (1, .int x1), (2, .int x2)] → W p l e rmX10_tellWays s m args below meth c H locs 0 0 (MQ below (mQv D cI cZ cJ o ad A res) args s 0 0 A) (F0 m 20 ls [])) (hk61 : ∀ (x1 : Int32) (u : mS) (H : Heap) (locs : List Loc) (ls : Array Slot), k61 x1 u = some res → va_P D vwCl (mW cI cZ cJ o ad u) H → va_S A s.heap H locs → lv_has ls 3 [(0, .ref o), (1, .int x1)] → W p l e rmX10_tellWays s m args below meth c H locs 0 0 (MQ below (mQv D cI cZ cJ o ad A res) args s 0 0 A) (F0 m 61 ls [])) (h : fX10_tellWays_20_b x1 x2 u k20 k61 = some res) {H : Heap} {locs : List Loc} (hP : va_P D vwCl (mW cI cZ cJ o ad u) H) (hS : va_S A s.heap H locs) {ls : Array Slot} (hl : lv_has ls 3 [(0, .ref o), (1, .int x1), (2, .int x2)]) : W p l e rmX10_tellWays s m args below meth c H locs 0 0 (MQ below (mQv D cI cZ cJ o ad A res) args s 0 0 A) (F0 m 20 ls []) := by
  have hx := C.1
  have hb := C.2.1
  unfold fX10_tellWays_20_b at h
  refine lv_iload_n hx hb dX10_tellWays_20 rfl (lv_at hl 2 rfl) ?_
  refine lv_iload_n hx hb dX10_tellWays_21 rfl (lv_at hl 1 rfl) ?_
  refine lv_icmp_gt (tgt := 61) hx hb dX10_tellWays_22 (by decide) (fun hc => ?_) (fun hc => ?_)
  · replace h := it_pos hc h
    exact hk61 _ _ _ _ _ h hP hS (lv_sub hl [0, 1] rfl)
  · replace h := it_neg hc h
    refine lv_aload_n hx hb dX10_tellWays_25 rfl (lv_at hl 0 rfl) ?_
    refine mg_ways C hP dX10_tellWays_26 ?_
    refine lv_bipush (v := 61) hx hb dX10_tellWays_29 (by decide) ?_
    refine lv_iload_n hx hb dX10_tellWays_31 rfl (lv_at hl 1 rfl) ?_
    refine lv_imul hx hb dX10_tellWays_32 ?_
    refine lv_iload_n hx hb dX10_tellWays_33 rfl (lv_at hl 2 rfl) ?_
    refine lv_iadd hx hb dX10_tellWays_34 ?_
    refine lv_aload_n hx hb dX10_tellWays_35 rfl (lv_at hl 0 rfl) ?_
    refine lv_iload_n hx hb dX10_tellWays_36 rfl (lv_at hl 1 rfl) ?_
    refine lv_iconst (v := 1) hx hb dX10_tellWays_37 (by decide) ?_
    refine lv_isub hx hb dX10_tellWays_38 ?_
    refine lv_iload_n hx hb dX10_tellWays_39 rfl (lv_at hl 2 rfl) ?_
    refine lv_iconst (v := 1) hx hb dX10_tellWays_40 (by decide) ?_
    refine lv_isub hx hb dX10_tellWays_41 ?_
    obtain ⟨r42, u42, e42, h⟩ := obI h
    refine mx_cVl C hP hS [.int (x1 - (1 : Int32)), .int (x2 - (1 : Int32))] (tX10_waysOf e42) qX10_223 ⟨rfl, rfl, Nat.le_of_ble_eq_true rfl, Nat.le_of_ble_eq_true rfl⟩ rfl hl.1 rfl (Nat.le_of_ble_eq_true rfl) dX10_tellWays_42 (fun H locs hP hS => ?_)
    refine lv_aload_n hx hb dX10_tellWays_45 rfl (lv_at hl 0 rfl) ?_
    refine lv_iload_n hx hb dX10_tellWays_46 rfl (lv_at hl 1 rfl) ?_
    refine lv_iconst (v := 1) hx hb dX10_tellWays_47 (by decide) ?_
    refine lv_isub hx hb dX10_tellWays_48 ?_
    refine lv_iload_n hx hb dX10_tellWays_49 rfl (lv_at hl 2 rfl) ?_
    obtain ⟨r50, u50, e50, h⟩ := obI h
    refine mx_cVl C hP hS [.int (x1 - (1 : Int32)), .int x2] (tX10_waysOf e50) qX10_223 ⟨rfl, rfl, Nat.le_of_ble_eq_true rfl, Nat.le_of_ble_eq_true rfl⟩ rfl hl.1 rfl (Nat.le_of_ble_eq_true rfl) dX10_tellWays_50 (fun H locs hP hS => ?_)
    refine lv_ladd hx hb dX10_tellWays_53 ?_
    obtain ⟨u54, e54, h⟩ := ob h
    refine ms_ways C hP hS e54 dX10_tellWays_54 (fun H locs hP hS => ?_)
    refine lv_iinc (v := x2 + (1 : Int32)) (lv' := [(2, .int (x2 + (1 : Int32))), (0, .ref o), (1, .int x1)]) hx hb dX10_tellWays_55 hl (k := 2) rfl rfl (by decide) rfl (fun ls hl => ?_)
    refine lv_goto (tgt := 20) hx hb dX10_tellWays_58 (by decide) ?_
    exact hk20 _ _ _ _ _ _ h hP hS (lv_sub hl [1, 2, 0] rfl)
def fX10_tellWays_20 (k61 : Int32 → mS → Option (mS)) : Nat → Int32 → Int32 → mS → Option (mS)
  | 0 => fun _ _ _ => none
  | n + 1 => fun x1 x2 u => fX10_tellWays_20_b x1 x2 u (fX10_tellWays_20 k61 n) k61 
theorem wX10_tellWays_20 (C : mC p s m args meth c cX10_tellWays 3 none D cI cZ cJ o ad A) {res : mS} {k61 : Int32 → mS → Option (mS)} (hk61 : ∀ (x1 : Int32) (u : mS) (H : Heap) (locs : List Loc) (ls : Array Slot), k61 x1 u = some res → va_P D vwCl (mW cI cZ cJ o ad u) H → va_S A s.heap H locs → lv_has ls 3 [(0, .ref o), (1, .int x1)] → W p l e rmX10_tellWays s m args below meth c H locs 0 0 (MQ below (mQv D cI cZ cJ o ad A res) args s 0 0 A) (F0 m 61 ls [])) (n : Nat) : ∀ {x1 : Int32} {x2 : Int32} {u : mS} {H : Heap} {locs : List Loc} {ls : Array Slot}, fX10_tellWays_20 k61 n x1 x2 u = some res → va_P D vwCl (mW cI cZ cJ o ad u) H → va_S A s.heap H locs → lv_has ls 3 [(0, .ref o), (1, .int x1), (2, .int x2)] → W p l e rmX10_tellWays s m args below meth c H locs 0 0 (MQ below (mQv D cI cZ cJ o ad A res) args s 0 0 A) (F0 m 20 ls []) := by
  induction n with
  | zero => intro _ _ _ _ _ _ h _ _ _; cases (show (none : Option (mS)) = some res from h)
  | succ n ih => intro _ _ _ _ _ _ h hP hS hl; exact wX10_tellWays_20_b C (fun _ _ _ _ _ _ h hP hS hl => ih h hP hS hl) hk61 h hP hS hl
def fX10_tellWays_2_b (x1 : Int32) (u : mS) (k2 : Int32 → mS → Option (mS)) : Option (mS) :=
  if (60 : Int32) < x1 then (
    some u
  ) else (
    (mUL u 3721 ((61 : Int32) * x1) (1 : Int64)).bind fun u17 =>
    fX10_tellWays_20 (fun x1 u =>
          k2 (x1 + (1 : Int32)) u) FU x1 (1 : Int32) u17
  )
set_option maxHeartbeats 4000000 in
set_option maxRecDepth 20000 in
theorem wX10_tellWays_2_b (C : mC p s m args meth c cX10_tellWays 3 none D cI cZ cJ o ad A) {x1 : Int32} {u : mS} {res : mS} {k2 : Int32 → mS → Option (mS)} (hk2 : ∀ (x1 : Int32) (u : mS) (H : Heap) (locs : List Loc) (ls : Array Slot), k2 x1 u = some res → va_P D vwCl (mW cI cZ cJ o ad u) H → va_S A s.heap H locs → lv_has ls 3 [(0, .ref o), (1, .int x1)] → W p l e rmX10_tellWays s m args below meth c H locs 0 0 (MQ below (mQv D cI cZ cJ o ad A res) args s 0 0 A) (F0 m 2 ls [])) (h : fX10_tellWays_2_b x1 u k2 = some res) {H : Heap} {locs : List Loc} (hP : va_P D vwCl (mW cI cZ cJ o ad u) H) (hS : va_S A s.heap H locs) {ls : Array Slot} (hl : lv_has ls 3 [(0, .ref o), (1, .int x1)]) : W p l e rmX10_tellWays s m args below meth c H locs 0 0 (MQ below (mQv D cI cZ cJ o ad A res) args s 0 0 A) (F0 m 2 ls []) := by
  have hx := C.1
  have hb := C.2.1
  unfold fX10_tellWays_2_b at h
  refine lv_iload_n hx hb dX10_tellWays_2 rfl (lv_at hl 1 rfl) ?_
  refine lv_bipush (v := 60) hx hb dX10_tellWays_3 (by decide) ?_
  refine lv_icmp_gt (tgt := 67) hx hb dX10_tellWays_5 (by decide) (fun hc => ?_) (fun hc => ?_)
  · replace h := it_pos hc h
    exact mx_retv C h hP hS dX10_tellWays_67
  · replace h := it_neg hc h
    refine lv_aload_n hx hb dX10_tellWays_8 rfl (lv_at hl 0 rfl) ?_
    refine mg_ways C hP dX10_tellWays_9 ?_
    refine lv_bipush (v := 61) hx hb dX10_tellWays_12 (by decide) ?_
    refine lv_iload_n hx hb dX10_tellWays_14 rfl (lv_at hl 1 rfl) ?_
    refine lv_imul hx hb dX10_tellWays_15 ?_
    refine lv_lconst (v := 1) hx hb dX10_tellWays_16 (by decide) ?_
    obtain ⟨u17, e17, h⟩ := ob h
    refine ms_ways C hP hS e17 dX10_tellWays_17 (fun H locs hP hS => ?_)
    refine lv_iconst (v := 1) hx hb dX10_tellWays_18 (by decide) ?_
    refine lv_istore_n (lv' := [(2, .int (1 : Int32)), (0, .ref o), (1, .int x1)]) hx hb dX10_tellWays_19 rfl hl (by decide) rfl (fun ls hl => ?_)
    refine wX10_tellWays_20 C ?_ FU h hP hS (lv_sub hl [1, 2, 0] rfl)
    · intro x1 u H locs ls h hP hS hl
      refine lv_iinc (v := x1 + (1 : Int32)) (lv' := [(1, .int (x1 + (1 : Int32))), (0, .ref o)]) hx hb dX10_tellWays_61 hl (k := 1) rfl rfl (by decide) rfl (fun ls hl => ?_)
      refine lv_goto (tgt := 2) hx hb dX10_tellWays_64 (by decide) ?_
      exact hk2 _ _ _ _ _ h hP hS (lv_sub hl [1, 0] rfl)
def fX10_tellWays_2 : Nat → Int32 → mS → Option (mS)
  | 0 => fun _ _ => none
  | n + 1 => fun x1 u => fX10_tellWays_2_b x1 u (fX10_tellWays_2 n) 
theorem wX10_tellWays_2 (C : mC p s m args meth c cX10_tellWays 3 none D cI cZ cJ o ad A) {res : mS} (n : Nat) : ∀ {x1 : Int32} {u : mS} {H : Heap} {locs : List Loc} {ls : Array Slot}, fX10_tellWays_2 n x1 u = some res → va_P D vwCl (mW cI cZ cJ o ad u) H → va_S A s.heap H locs → lv_has ls 3 [(0, .ref o), (1, .int x1)] → W p l e rmX10_tellWays s m args below meth c H locs 0 0 (MQ below (mQv D cI cZ cJ o ad A res) args s 0 0 A) (F0 m 2 ls []) := by
  induction n with
  | zero => intro _ _ _ _ _ h _ _ _; cases (show (none : Option (mS)) = some res from h)
  | succ n ih => intro _ _ _ _ _ h hP hS hl; exact wX10_tellWays_2_b C (fun _ _ _ _ _ h hP hS hl => ih h hP hS hl) h hP hS hl
def fX10_tellWays (u : mS) : Option (mS) :=
  fX10_tellWays_2  FU (0 : Int32) u
set_option maxHeartbeats 4000000 in
set_option maxRecDepth 20000 in
theorem wX10_tellWays (C : mC p s m args meth c cX10_tellWays 3 none D cI cZ cJ o ad A) {u : mS} {res : mS} (h : fX10_tellWays u = some res) {H : Heap} {locs : List Loc} (hP : va_P D vwCl (mW cI cZ cJ o ad u) H) (hS : va_S A s.heap H locs) {ls : Array Slot} (hl : lv_has ls 3 [(0, .ref o)]) : W p l e rmX10_tellWays s m args below meth c H locs 0 0 (MQ below (mQv D cI cZ cJ o ad A res) args s 0 0 A) (F0 m 0 ls []) := by
  have hx := C.1
  have hb := C.2.1
  unfold fX10_tellWays at h
  refine lv_iconst (v := 0) hx hb dX10_tellWays_0 (by decide) ?_
  refine lv_istore_n (lv' := [(1, .int (0 : Int32)), (0, .ref o)]) hx hb dX10_tellWays_1 rfl hl (by decide) rfl (fun ls hl => ?_)
  exact wX10_tellWays_2 C  FU h hP hS (lv_sub hl [1, 0] rfl)
theorem tX10_tellWays {D : va_G} {cI cZ cJ : ClassId} {o : Nat} {ad : Nat → Nat} {A : Nat → Prop} {u : mS} {res : mS} (h : fX10_tellWays u = some res) : Met l yX10_tellWays (Cond.code yX10_tellWays cX10_tellWays 3 none :: gW) rmX10_tellWays (va_Pc [.ref o] (mPre D cI cZ cJ o ad A u)) (mQv D cI cZ cJ o ad A res) 0 0 A :=
  mx_met ⟨by decide +kernel, rfl⟩ (Nat.le_of_ble_eq_true rfl) (fun p e s m below meth c ls C hP hl => wX10_tellWays C h hP va_S.rf hl)
abbrev rmX10_sorted : Room := { frames := 1, cells := 0, slots := 0, locals := 22 }
def fX10_sorted (x1 : Int32) (x2 : Int32) (u : mS) : Option (Int32 × mS) :=
  bI (fX10_isIn x1 (0 : Int32) (5 : Int32) u) fun r3 u3 =>
  if r3 = 0 then (
    bI (fX10_finding (1 : Int32) u3) fun r20 u20 =>
    some (r20, u20)
  ) else (
    bI (fX10_isIn x2 (0 : Int32) (1 : Int32) u3) fun r12 u12 =>
    if r12 = 0 then (
      bI (fX10_finding (1 : Int32) u12) fun r20 u20 =>
      some (r20, u20)
    ) else (
      if (u12.1 29) = (60 : Int32) then (
        bI (fX10_finding (4 : Int32) u12) fun r35 u35 =>
        some (r35, u35)
      ) else (
        (mU u12 30 60 (u12.1 29) x1).bind fun u48 =>
        (mU u48 31 60 (u48.1 29) x2).bind fun u58 =>
        pU (mF u58 29 ((u58.1 29) + (1 : Int32))) fun u66 =>
        some (u66.1 29, u66)
      )
    )
  )
set_option maxHeartbeats 4000000 in
set_option maxRecDepth 20000 in
theorem wX10_sorted (C : mC p s m args meth c cX10_sorted 3 (some .int) D cI cZ cJ o ad A) {x1 : Int32} {x2 : Int32} {u : mS} {res : Int32 × mS} (h : fX10_sorted x1 x2 u = some res) {H : Heap} {locs : List Loc} (hP : va_P D vwCl (mW cI cZ cJ o ad u) H) (hS : va_S A s.heap H locs) {ls : Array Slot} (hl : lv_has ls 3 [(0, .ref o), (1, .int x1), (2, .int x2)]) : W p l e rmX10_sorted s m args below meth c H locs 0 0 (MQ below (mQi D cI cZ cJ o ad A res) args s 0 0 A) (F0 m 0 ls []) := by
  have hx := C.1
  have hb := C.2.1
  unfold fX10_sorted at h
  refine lv_iload_n hx hb dX10_sorted_0 rfl (lv_at hl 1 rfl) ?_
  refine lv_iconst (v := 0) hx hb dX10_sorted_1 (by decide) ?_
  refine lv_iconst (v := 5) hx hb dX10_sorted_2 (by decide) ?_
  obtain ⟨r3, u3, e3, h⟩ := obI h
  refine mx_cSi C hP hS [.int x1, .int (0 : Int32), .int (5 : Int32)] (tX10_isIn e3) qX10_131 ⟨rfl, rfl, Nat.le_of_ble_eq_true rfl, Nat.le_of_ble_eq_true rfl⟩ rfl hl.1 rfl (Nat.le_of_ble_eq_true rfl) dX10_sorted_3 (fun H locs hP hS => ?_)
  refine lv_if_eq (tgt := 18) hx hb dX10_sorted_6 (by decide) (fun hc => ?_) (fun hc => ?_)
  · replace h := it_pos hc h
    refine lv_aload_n hx hb dX10_sorted_18 rfl (lv_at hl 0 rfl) ?_
    refine lv_iconst (v := 1) hx hb dX10_sorted_19 (by decide) ?_
    obtain ⟨r20, u20, e20, h⟩ := obI h
    refine mx_cVi C hP hS [.int (1 : Int32)] (tX10_finding e20) qX10_138 ⟨rfl, rfl, Nat.le_of_ble_eq_true rfl, Nat.le_of_ble_eq_true rfl⟩ rfl hl.1 rfl (Nat.le_of_ble_eq_true rfl) dX10_sorted_20 (fun H locs hP hS => ?_)
    exact mx_reti C h hP hS dX10_sorted_23
  · replace h := it_neg hc h
    refine lv_iload_n hx hb dX10_sorted_9 rfl (lv_at hl 2 rfl) ?_
    refine lv_iconst (v := 0) hx hb dX10_sorted_10 (by decide) ?_
    refine lv_iconst (v := 1) hx hb dX10_sorted_11 (by decide) ?_
    obtain ⟨r12, u12, e12, h⟩ := obI h
    refine mx_cSi C hP hS [.int x2, .int (0 : Int32), .int (1 : Int32)] (tX10_isIn e12) qX10_131 ⟨rfl, rfl, Nat.le_of_ble_eq_true rfl, Nat.le_of_ble_eq_true rfl⟩ rfl hl.1 rfl (Nat.le_of_ble_eq_true rfl) dX10_sorted_12 (fun H locs hP hS => ?_)
    refine lv_if_ne (tgt := 24) hx hb dX10_sorted_15 (by decide) (fun hc => ?_) (fun hc => ?_)
    · replace h := it_neg hc h
      refine lv_aload_n hx hb dX10_sorted_24 rfl (lv_at hl 0 rfl) ?_
      refine mg_records C hP dX10_sorted_25 ?_
      refine lv_bipush (v := 60) hx hb dX10_sorted_28 (by decide) ?_
      refine lv_icmp_ne (tgt := 39) hx hb dX10_sorted_30 (by decide) (fun hc => ?_) (fun hc => ?_)
      · replace h := it_neg hc h
        refine lv_aload_n hx hb dX10_sorted_39 rfl (lv_at hl 0 rfl) ?_
        refine mg_machine C hP dX10_sorted_40 ?_
        refine lv_aload_n hx hb dX10_sorted_43 rfl (lv_at hl 0 rfl) ?_
        refine mg_records C hP dX10_sorted_44 ?_
        refine lv_iload_n hx hb dX10_sorted_47 rfl (lv_at hl 1 rfl) ?_
        obtain ⟨u48, e48, h⟩ := ob h
        refine ms_machine C hP hS e48 dX10_sorted_48 (fun H locs hP hS => ?_)
        refine lv_aload_n hx hb dX10_sorted_49 rfl (lv_at hl 0 rfl) ?_
        refine mg_torn C hP dX10_sorted_50 ?_
        refine lv_aload_n hx hb dX10_sorted_53 rfl (lv_at hl 0 rfl) ?_
        refine mg_records C hP dX10_sorted_54 ?_
        refine lv_iload_n hx hb dX10_sorted_57 rfl (lv_at hl 2 rfl) ?_
        obtain ⟨u58, e58, h⟩ := ob h
        refine ms_torn C hP hS e58 dX10_sorted_58 (fun H locs hP hS => ?_)
        refine lv_aload_n hx hb dX10_sorted_59 rfl (lv_at hl 0 rfl) ?_
        refine lv_dup hx hb dX10_sorted_60 rfl ?_
        refine mg_records C hP dX10_sorted_61 ?_
        refine lv_iconst (v := 1) hx hb dX10_sorted_64 (by decide) ?_
        refine lv_iadd hx hb dX10_sorted_65 ?_
        obtain ⟨u66, e66, h⟩ := op h
        refine mp_records C hP hS e66 dX10_sorted_66 (fun H locs hP hS => ?_)
        refine lv_aload_n hx hb dX10_sorted_69 rfl (lv_at hl 0 rfl) ?_
        refine mg_records C hP dX10_sorted_70 ?_
        exact mx_reti C h hP hS dX10_sorted_73
      · replace h := it_pos hc h
        refine lv_aload_n hx hb dX10_sorted_33 rfl (lv_at hl 0 rfl) ?_
        refine lv_iconst (v := 4) hx hb dX10_sorted_34 (by decide) ?_
        obtain ⟨r35, u35, e35, h⟩ := obI h
        refine mx_cVi C hP hS [.int (4 : Int32)] (tX10_finding e35) qX10_138 ⟨rfl, rfl, Nat.le_of_ble_eq_true rfl, Nat.le_of_ble_eq_true rfl⟩ rfl hl.1 rfl (Nat.le_of_ble_eq_true rfl) dX10_sorted_35 (fun H locs hP hS => ?_)
        exact mx_reti C h hP hS dX10_sorted_38
    · replace h := it_pos hc h
      refine lv_aload_n hx hb dX10_sorted_18 rfl (lv_at hl 0 rfl) ?_
      refine lv_iconst (v := 1) hx hb dX10_sorted_19 (by decide) ?_
      obtain ⟨r20, u20, e20, h⟩ := obI h
      refine mx_cVi C hP hS [.int (1 : Int32)] (tX10_finding e20) qX10_138 ⟨rfl, rfl, Nat.le_of_ble_eq_true rfl, Nat.le_of_ble_eq_true rfl⟩ rfl hl.1 rfl (Nat.le_of_ble_eq_true rfl) dX10_sorted_20 (fun H locs hP hS => ?_)
      exact mx_reti C h hP hS dX10_sorted_23
theorem tX10_sorted {D : va_G} {cI cZ cJ : ClassId} {o : Nat} {ad : Nat → Nat} {A : Nat → Prop} {x1 : Int32} {x2 : Int32} {u : mS} {res : Int32 × mS} (h : fX10_sorted x1 x2 u = some res) : Met l yX10_sorted (Cond.code yX10_sorted cX10_sorted 3 (some .int) :: gW) rmX10_sorted (va_Pc [.ref o, .int x1, .int x2] (mPre D cI cZ cJ o ad A u)) (mQi D cI cZ cJ o ad A res) 0 0 A :=
  mx_met ⟨by decide +kernel, rfl⟩ (Nat.le_of_ble_eq_true rfl) (fun p e s m below meth c ls C hP hl => wX10_sorted C h hP va_S.rf hl)
abbrev rmX10_sorter : Room := { frames := 2, cells := 0, slots := 0, locals := 44 }
def fX10_sorter_99 (x1 : Int32) (x2 : Int32) (x3 : Int32) (x4 : Int32) (x6 : Int32) (s0 : Int32) (s1 : Int32) (u : mS) (k35 : Int32 → Int32 → Int32 → Int32 → Int32 → Int32 → mS → Option (Int32 × mS)) : Option (Int32 × mS) :=
  k35 x1 x2 x3 x4 (s0 + s1) (x6 + (1 : Int32)) u
set_option maxHeartbeats 4000000 in
set_option maxRecDepth 20000 in
theorem wX10_sorter_99 (C : mC p s m args meth c cX10_sorter 9 (some .int) D cI cZ cJ o ad A) {x1 : Int32} {x2 : Int32} {x3 : Int32} {x4 : Int32} {x6 : Int32} {s0 : Int32} {s1 : Int32} {u : mS} {res : Int32 × mS} {k35 : Int32 → Int32 → Int32 → Int32 → Int32 → Int32 → mS → Option (Int32 × mS)} (hk35 : ∀ (x1 : Int32) (x2 : Int32) (x3 : Int32) (x4 : Int32) (x5 : Int32) (x6 : Int32) (u : mS) (H : Heap) (locs : List Loc) (ls : Array Slot), k35 x1 x2 x3 x4 x5 x6 u = some res → va_P D vwCl (mW cI cZ cJ o ad u) H → va_S A s.heap H locs → lv_has ls 9 [(0, .ref o), (1, .int x1), (2, .int x2), (3, .int x3), (4, .int x4), (5, .int x5), (6, .int x6)] → W p l e rmX10_sorter s m args below meth c H locs 0 0 (MQ below (mQi D cI cZ cJ o ad A res) args s 0 0 A) (F0 m 35 ls [])) (h : fX10_sorter_99 x1 x2 x3 x4 x6 s0 s1 u k35 = some res) {H : Heap} {locs : List Loc} (hP : va_P D vwCl (mW cI cZ cJ o ad u) H) (hS : va_S A s.heap H locs) {ls : Array Slot} (hl : lv_has ls 9 [(0, .ref o), (1, .int x1), (2, .int x2), (3, .int x3), (4, .int x4), (6, .int x6)]) : W p l e rmX10_sorter s m args below meth c H locs 0 0 (MQ below (mQi D cI cZ cJ o ad A res) args s 0 0 A) (F0 m 99 ls [.int s1, .int s0]) := by
  have hx := C.1
  have hb := C.2.1
  unfold fX10_sorter_99 at h
  refine lv_iadd hx hb dX10_sorter_99 ?_
  refine lv_istore (lv' := [(5, .int (s0 + s1)), (0, .ref o), (1, .int x1), (2, .int x2), (3, .int x3), (4, .int x4), (6, .int x6)]) hx hb dX10_sorter_100 hl (by decide) rfl (fun ls hl => ?_)
  refine lv_iinc (v := x6 + (1 : Int32)) (lv' := [(6, .int (x6 + (1 : Int32))), (5, .int (s0 + s1)), (0, .ref o), (1, .int x1), (2, .int x2), (3, .int x3), (4, .int x4)]) hx hb dX10_sorter_102 hl (k := 6) rfl rfl (by decide) rfl (fun ls hl => ?_)
  refine lv_goto (tgt := 35) hx hb dX10_sorter_105 (by decide) ?_
  exact hk35 _ _ _ _ _ _ _ _ _ _ h hP hS (lv_sub hl [2, 3, 4, 5, 6, 1, 0] rfl)
def fX10_sorter_72 (x1 : Int32) (x2 : Int32) (x3 : Int32) (x5 : Int32) (x6 : Int32) (s0 : Int32) (s1 : Int32) (u : mS) (k35 : Int32 → Int32 → Int32 → Int32 → Int32 → Int32 → mS → Option (Int32 × mS)) : Option (Int32 × mS) :=
  (mR u 30 60 x6).bind fun v83 =>
  if v83 = x1 then (
    (mR u 31 60 x6).bind fun v94 =>
    fX10_sorter_99 x1 x2 x3 (s0 + s1) x6 x5 v94 u k35
  ) else (
    fX10_sorter_99 x1 x2 x3 (s0 + s1) x6 x5 (0 : Int32) u k35
  )
set_option maxHeartbeats 4000000 in
set_option maxRecDepth 20000 in
theorem wX10_sorter_72 (C : mC p s m args meth c cX10_sorter 9 (some .int) D cI cZ cJ o ad A) {x1 : Int32} {x2 : Int32} {x3 : Int32} {x5 : Int32} {x6 : Int32} {s0 : Int32} {s1 : Int32} {u : mS} {res : Int32 × mS} {k35 : Int32 → Int32 → Int32 → Int32 → Int32 → Int32 → mS → Option (Int32 × mS)} (hk35 : ∀ (x1 : Int32) (x2 : Int32) (x3 : Int32) (x4 : Int32) (x5 : Int32) (x6 : Int32) (u : mS) (H : Heap) (locs : List Loc) (ls : Array Slot), k35 x1 x2 x3 x4 x5 x6 u = some res → va_P D vwCl (mW cI cZ cJ o ad u) H → va_S A s.heap H locs → lv_has ls 9 [(0, .ref o), (1, .int x1), (2, .int x2), (3, .int x3), (4, .int x4), (5, .int x5), (6, .int x6)] → W p l e rmX10_sorter s m args below meth c H locs 0 0 (MQ below (mQi D cI cZ cJ o ad A res) args s 0 0 A) (F0 m 35 ls [])) (h : fX10_sorter_72 x1 x2 x3 x5 x6 s0 s1 u k35 = some res) {H : Heap} {locs : List Loc} (hP : va_P D vwCl (mW cI cZ cJ o ad u) H) (hS : va_S A s.heap H locs) {ls : Array Slot} (hl : lv_has ls 9 [(0, .ref o), (1, .int x1), (2, .int x2), (3, .int x3), (5, .int x5), (6, .int x6)]) : W p l e rmX10_sorter s m args below meth c H locs 0 0 (MQ below (mQi D cI cZ cJ o ad A res) args s 0 0 A) (F0 m 72 ls [.int s1, .int s0]) := by
  have hx := C.1
  have hb := C.2.1
  unfold fX10_sorter_72 at h
  refine lv_iadd hx hb dX10_sorter_72 ?_
  refine lv_istore (lv' := [(4, .int (s0 + s1)), (0, .ref o), (1, .int x1), (2, .int x2), (3, .int x3), (5, .int x5), (6, .int x6)]) hx hb dX10_sorter_73 hl (by decide) rfl (fun ls hl => ?_)
  refine lv_iload hx hb dX10_sorter_75 (lv_at hl 5 rfl) ?_
  refine lv_aload_n hx hb dX10_sorter_77 rfl (lv_at hl 1 rfl) ?_
  refine mg_machine C hP dX10_sorter_78 ?_
  refine lv_iload hx hb dX10_sorter_81 (lv_at hl 6 rfl) ?_
  obtain ⟨v83, e83, h⟩ := ob h
  refine ml_machine C hP e83 dX10_sorter_83 ?_
  refine lv_iload_n hx hb dX10_sorter_84 rfl (lv_at hl 2 rfl) ?_
  refine lv_icmp_ne (tgt := 98) hx hb dX10_sorter_85 (by decide) (fun hc => ?_) (fun hc => ?_)
  · replace h := it_neg hc h
    refine lv_iconst (v := 0) hx hb dX10_sorter_98 (by decide) ?_
    exact wX10_sorter_99 C hk35 h hP hS (lv_sub hl [1, 2, 3, 4, 0, 6] rfl)
  · replace h := it_pos hc h
    refine lv_aload_n hx hb dX10_sorter_88 rfl (lv_at hl 1 rfl) ?_
    refine mg_torn C hP dX10_sorter_89 ?_
    refine lv_iload hx hb dX10_sorter_92 (lv_at hl 6 rfl) ?_
    obtain ⟨v94, e94, h⟩ := ob h
    refine ml_torn C hP e94 dX10_sorter_94 ?_
    refine lv_goto (tgt := 99) hx hb dX10_sorter_95 (by decide) ?_
    exact wX10_sorter_99 C hk35 h hP hS (lv_sub hl [1, 2, 3, 4, 0, 6] rfl)
def fX10_sorter_35_b (x1 : Int32) (x2 : Int32) (x3 : Int32) (x4 : Int32) (x5 : Int32) (x6 : Int32) (u : mS) (k35 : Int32 → Int32 → Int32 → Int32 → Int32 → Int32 → mS → Option (Int32 × mS)) (k108 : Int32 → Int32 → Int32 → Int32 → mS → Option (Int32 × mS)) : Option (Int32 × mS) :=
  if (u.1 29) ≤ x6 then (
    k108 x2 x3 x4 x5 u
  ) else (
    (mR u 31 60 x6).bind fun v51 =>
    (mR u 30 60 x6).bind fun v62 =>
    if v62 = x1 then (
      fX10_sorter_72 x1 x2 (x3 + v51) x5 x6 x4 (1 : Int32) u k35
    ) else (
      fX10_sorter_72 x1 x2 (x3 + v51) x5 x6 x4 (0 : Int32) u k35
    )
  )
set_option maxHeartbeats 4000000 in
set_option maxRecDepth 20000 in
theorem wX10_sorter_35_b (C : mC p s m args meth c cX10_sorter 9 (some .int) D cI cZ cJ o ad A) {x1 : Int32} {x2 : Int32} {x3 : Int32} {x4 : Int32} {x5 : Int32} {x6 : Int32} {u : mS} {res : Int32 × mS} {k35 : Int32 → Int32 → Int32 → Int32 → Int32 → Int32 → mS → Option (Int32 × mS)} {k108 : Int32 → Int32 → Int32 → Int32 → mS → Option (Int32 × mS)} (hk35 : ∀ (x1 : Int32) (x2 : Int32) (x3 : Int32) (x4 : Int32) (x5 : Int32) (x6 : Int32) (u : mS) (H : Heap) (locs : List Loc) (ls : Array Slot), k35 x1 x2 x3 x4 x5 x6 u = some res → va_P D vwCl (mW cI cZ cJ o ad u) H → va_S A s.heap H locs → lv_has ls 9 [(0, .ref o), (1, .int x1), (2, .int x2), (3, .int x3), (4, .int x4), (5, .int x5), (6, .int x6)] → W p l e rmX10_sorter s m args below meth c H locs 0 0 (MQ below (mQi D cI cZ cJ o ad A res) args s 0 0 A) (F0 m 35 ls [])) (hk108 : ∀ (x2 : Int32) (x3 : Int32) (x4 : Int32) (x5 : Int32) (u : mS) (H : Heap) (locs : List Loc) (ls : Array Slot), k108 x2 x3 x4 x5 u = some res → va_P D vwCl (mW cI cZ cJ o ad u) H → va_S A s.heap H locs → lv_has ls 9 [(0, .ref o), (2, .int x2), (3, .int x3), (4, .int x4), (5, .int x5)] → W p l e rmX10_sorter s m args below meth c H locs 0 0 (MQ below (mQi D cI cZ cJ o ad A res) args s 0 0 A) (F0 m 108 ls [])) (h : fX10_sorter_35_b x1 x2 x3 x4 x5 x6 u k35 k108 = some res) {H : Heap} {locs : List Loc} (hP : va_P D vwCl (mW cI cZ cJ o ad u) H) (hS : va_S A s.heap H locs) {ls : Array Slot} (hl : lv_has ls 9 [(0, .ref o), (1, .int x1), (2, .int x2), (3, .int x3), (4, .int x4), (5, .int x5), (6, .int x6)]) : W p l e rmX10_sorter s m args below meth c H locs 0 0 (MQ below (mQi D cI cZ cJ o ad A res) args s 0 0 A) (F0 m 35 ls []) := by
  have hx := C.1
  have hb := C.2.1
  unfold fX10_sorter_35_b at h
  refine lv_iload hx hb dX10_sorter_35 (lv_at hl 6 rfl) ?_
  refine lv_aload_n hx hb dX10_sorter_37 rfl (lv_at hl 0 rfl) ?_
  refine mg_records C hP dX10_sorter_38 ?_
  refine lv_icmp_ge (tgt := 108) hx hb dX10_sorter_41 (by decide) (fun hc => ?_) (fun hc => ?_)
  · replace h := it_pos hc h
    exact hk108 _ _ _ _ _ _ _ _ h hP hS (lv_sub hl [0, 2, 3, 4, 5] rfl)
  · replace h := it_neg hc h
    refine lv_iload_n hx hb dX10_sorter_44 rfl (lv_at hl 3 rfl) ?_
    refine lv_aload_n hx hb dX10_sorter_45 rfl (lv_at hl 0 rfl) ?_
    refine mg_torn C hP dX10_sorter_46 ?_
    refine lv_iload hx hb dX10_sorter_49 (lv_at hl 6 rfl) ?_
    obtain ⟨v51, e51, h⟩ := ob h
    refine ml_torn C hP e51 dX10_sorter_51 ?_
    refine lv_iadd hx hb dX10_sorter_52 ?_
    refine lv_istore_n (lv' := [(3, .int (x3 + v51)), (0, .ref o), (1, .int x1), (2, .int x2), (4, .int x4), (5, .int x5), (6, .int x6)]) hx hb dX10_sorter_53 rfl hl (by decide) rfl (fun ls hl => ?_)
    refine lv_iload hx hb dX10_sorter_54 (lv_at hl 4 rfl) ?_
    refine lv_aload_n hx hb dX10_sorter_56 rfl (lv_at hl 1 rfl) ?_
    refine mg_machine C hP dX10_sorter_57 ?_
    refine lv_iload hx hb dX10_sorter_60 (lv_at hl 6 rfl) ?_
    obtain ⟨v62, e62, h⟩ := ob h
    refine ml_machine C hP e62 dX10_sorter_62 ?_
    refine lv_iload_n hx hb dX10_sorter_63 rfl (lv_at hl 2 rfl) ?_
    refine lv_icmp_ne (tgt := 71) hx hb dX10_sorter_64 (by decide) (fun hc => ?_) (fun hc => ?_)
    · replace h := it_neg hc h
      refine lv_iconst (v := 0) hx hb dX10_sorter_71 (by decide) ?_
      exact wX10_sorter_72 C hk35 h hP hS (lv_sub hl [1, 2, 3, 0, 5, 6] rfl)
    · replace h := it_pos hc h
      refine lv_iconst (v := 1) hx hb dX10_sorter_67 (by decide) ?_
      refine lv_goto (tgt := 72) hx hb dX10_sorter_68 (by decide) ?_
      exact wX10_sorter_72 C hk35 h hP hS (lv_sub hl [1, 2, 3, 0, 5, 6] rfl)
def fX10_sorter_35 (k108 : Int32 → Int32 → Int32 → Int32 → mS → Option (Int32 × mS)) : Nat → Int32 → Int32 → Int32 → Int32 → Int32 → Int32 → mS → Option (Int32 × mS)
  | 0 => fun _ _ _ _ _ _ _ => none
  | n + 1 => fun x1 x2 x3 x4 x5 x6 u => fX10_sorter_35_b x1 x2 x3 x4 x5 x6 u (fX10_sorter_35 k108 n) k108 
theorem wX10_sorter_35 (C : mC p s m args meth c cX10_sorter 9 (some .int) D cI cZ cJ o ad A) {res : Int32 × mS} {k108 : Int32 → Int32 → Int32 → Int32 → mS → Option (Int32 × mS)} (hk108 : ∀ (x2 : Int32) (x3 : Int32) (x4 : Int32) (x5 : Int32) (u : mS) (H : Heap) (locs : List Loc) (ls : Array Slot), k108 x2 x3 x4 x5 u = some res → va_P D vwCl (mW cI cZ cJ o ad u) H → va_S A s.heap H locs → lv_has ls 9 [(0, .ref o), (2, .int x2), (3, .int x3), (4, .int x4), (5, .int x5)] → W p l e rmX10_sorter s m args below meth c H locs 0 0 (MQ below (mQi D cI cZ cJ o ad A res) args s 0 0 A) (F0 m 108 ls [])) (n : Nat) : ∀ {x1 : Int32} {x2 : Int32} {x3 : Int32} {x4 : Int32} {x5 : Int32} {x6 : Int32} {u : mS} {H : Heap} {locs : List Loc} {ls : Array Slot}, fX10_sorter_35 k108 n x1 x2 x3 x4 x5 x6 u = some res → va_P D vwCl (mW cI cZ cJ o ad u) H → va_S A s.heap H locs → lv_has ls 9 [(0, .ref o), (1, .int x1), (2, .int x2), (3, .int x3), (4, .int x4), (5, .int x5), (6, .int x6)] → W p l e rmX10_sorter s m args below meth c H locs 0 0 (MQ below (mQi D cI cZ cJ o ad A res) args s 0 0 A) (F0 m 35 ls []) := by
  induction n with
  | zero => intro _ _ _ _ _ _ _ _ _ _ h _ _ _; cases (show (none : Option (Int32 × mS)) = some res from h)
  | succ n ih => intro _ _ _ _ _ _ _ _ _ _ h hP hS hl; exact wX10_sorter_35_b C (fun _ _ _ _ _ _ _ _ _ _ h hP hS hl => ih h hP hS hl) hk108 h hP hS hl
def fX10_sorter_136_b (x3 : Int32) (x4 : Int32) (x5 : Int32) (x6 : Int64) (x8 : Int32) (u : mS) (k136 : Int32 → Int32 → Int32 → Int64 → Int32 → mS → Option (Int32 × mS)) (k177 : Int32 → Int32 → Int64 → mS → Option (Int32 × mS)) : Option (Int32 × mS) :=
  if x4 < x8 then (
    k177 x4 x5 x6 u
  ) else (
    bI (fX10_waysOf x3 x8 u) fun r149 u149 =>
    bI (fX10_waysOf ((u149.1 29) - x3) (x4 - x8) u149) fun r164 u164 =>
    k136 x3 x4 x5 (x6 + (r149 * r164)) (x8 + (1 : Int32)) u164
  )
set_option maxHeartbeats 4000000 in
set_option maxRecDepth 20000 in
theorem wX10_sorter_136_b (C : mC p s m args meth c cX10_sorter 9 (some .int) D cI cZ cJ o ad A) {x3 : Int32} {x4 : Int32} {x5 : Int32} {x6 : Int64} {x8 : Int32} {u : mS} {res : Int32 × mS} {k136 : Int32 → Int32 → Int32 → Int64 → Int32 → mS → Option (Int32 × mS)} {k177 : Int32 → Int32 → Int64 → mS → Option (Int32 × mS)} (hk136 : ∀ (x3 : Int32) (x4 : Int32) (x5 : Int32) (x6 : Int64) (x8 : Int32) (u : mS) (H : Heap) (locs : List Loc) (ls : Array Slot), k136 x3 x4 x5 x6 x8 u = some res → va_P D vwCl (mW cI cZ cJ o ad u) H → va_S A s.heap H locs → lv_has ls 9 [(0, .ref o), (3, .int x3), (4, .int x4), (5, .int x5), (6, .long x6), (8, .int x8)] → W p l e rmX10_sorter s m args below meth c H locs 0 0 (MQ below (mQi D cI cZ cJ o ad A res) args s 0 0 A) (F0 m 136 ls [])) (hk177 : ∀ (x4 : Int32) (x5 : Int32) (x6 : Int64) (u : mS) (H : Heap) (locs : List Loc) (ls : Array Slot), k177 x4 x5 x6 u = some res → va_P D vwCl (mW cI cZ cJ o ad u) H → va_S A s.heap H locs → lv_has ls 9 [(0, .ref o), (4, .int x4), (5, .int x5), (6, .long x6)] → W p l e rmX10_sorter s m args below meth c H locs 0 0 (MQ below (mQi D cI cZ cJ o ad A res) args s 0 0 A) (F0 m 177 ls [])) (h : fX10_sorter_136_b x3 x4 x5 x6 x8 u k136 k177 = some res) {H : Heap} {locs : List Loc} (hP : va_P D vwCl (mW cI cZ cJ o ad u) H) (hS : va_S A s.heap H locs) {ls : Array Slot} (hl : lv_has ls 9 [(0, .ref o), (3, .int x3), (4, .int x4), (5, .int x5), (6, .long x6), (8, .int x8)]) : W p l e rmX10_sorter s m args below meth c H locs 0 0 (MQ below (mQi D cI cZ cJ o ad A res) args s 0 0 A) (F0 m 136 ls []) := by
  have hx := C.1
  have hb := C.2.1
  unfold fX10_sorter_136_b at h
  refine lv_iload hx hb dX10_sorter_136 (lv_at hl 5 rfl) ?_
  refine lv_iload hx hb dX10_sorter_138 (lv_at hl 2 rfl) ?_
  refine lv_icmp_gt (tgt := 177) hx hb dX10_sorter_140 (by decide) (fun hc => ?_) (fun hc => ?_)
  · replace h := it_pos hc h
    exact hk177 _ _ _ _ _ _ _ h hP hS (lv_sub hl [0, 2, 3, 4] rfl)
  · replace h := it_neg hc h
    refine lv_lload hx hb dX10_sorter_143 (lv_at hl 4 rfl) ?_
    refine lv_aload_n hx hb dX10_sorter_145 rfl (lv_at hl 0 rfl) ?_
    refine lv_iload_n hx hb dX10_sorter_146 rfl (lv_at hl 1 rfl) ?_
    refine lv_iload hx hb dX10_sorter_147 (lv_at hl 5 rfl) ?_
    obtain ⟨r149, u149, e149, h⟩ := obI h
    refine mx_cVl C hP hS [.int x3, .int x8] (tX10_waysOf e149) qX10_223 ⟨rfl, rfl, Nat.le_of_ble_eq_true rfl, Nat.le_of_ble_eq_true rfl⟩ rfl hl.1 rfl (Nat.le_of_ble_eq_true rfl) dX10_sorter_149 (fun H locs hP hS => ?_)
    refine lv_aload_n hx hb dX10_sorter_152 rfl (lv_at hl 0 rfl) ?_
    refine lv_aload_n hx hb dX10_sorter_153 rfl (lv_at hl 0 rfl) ?_
    refine mg_records C hP dX10_sorter_154 ?_
    refine lv_iload_n hx hb dX10_sorter_157 rfl (lv_at hl 1 rfl) ?_
    refine lv_isub hx hb dX10_sorter_158 ?_
    refine lv_iload hx hb dX10_sorter_159 (lv_at hl 2 rfl) ?_
    refine lv_iload hx hb dX10_sorter_161 (lv_at hl 5 rfl) ?_
    refine lv_isub hx hb dX10_sorter_163 ?_
    obtain ⟨r164, u164, e164, h⟩ := obI h
    refine mx_cVl C hP hS [.int ((u149.1 29) - x3), .int (x4 - x8)] (tX10_waysOf e164) qX10_223 ⟨rfl, rfl, Nat.le_of_ble_eq_true rfl, Nat.le_of_ble_eq_true rfl⟩ rfl hl.1 rfl (Nat.le_of_ble_eq_true rfl) dX10_sorter_164 (fun H locs hP hS => ?_)
    refine lv_lmul hx hb dX10_sorter_167 ?_
    refine lv_ladd hx hb dX10_sorter_168 ?_
    refine lv_lstore (lv' := [(6, .long (x6 + (r149 * r164))), (0, .ref o), (3, .int x3), (4, .int x4), (5, .int x5), (8, .int x8)]) hx hb dX10_sorter_169 hl (by decide) rfl (fun ls hl => ?_)
    refine lv_iinc (v := x8 + (1 : Int32)) (lv' := [(8, .int (x8 + (1 : Int32))), (6, .long (x6 + (r149 * r164))), (0, .ref o), (3, .int x3), (4, .int x4), (5, .int x5)]) hx hb dX10_sorter_171 hl (k := 5) rfl rfl (by decide) rfl (fun ls hl => ?_)
    refine lv_goto (tgt := 136) hx hb dX10_sorter_174 (by decide) ?_
    exact hk136 _ _ _ _ _ _ _ _ _ h hP hS (lv_sub hl [2, 3, 4, 5, 1, 0] rfl)
def fX10_sorter_136 (k177 : Int32 → Int32 → Int64 → mS → Option (Int32 × mS)) : Nat → Int32 → Int32 → Int32 → Int64 → Int32 → mS → Option (Int32 × mS)
  | 0 => fun _ _ _ _ _ _ => none
  | n + 1 => fun x3 x4 x5 x6 x8 u => fX10_sorter_136_b x3 x4 x5 x6 x8 u (fX10_sorter_136 k177 n) k177 
theorem wX10_sorter_136 (C : mC p s m args meth c cX10_sorter 9 (some .int) D cI cZ cJ o ad A) {res : Int32 × mS} {k177 : Int32 → Int32 → Int64 → mS → Option (Int32 × mS)} (hk177 : ∀ (x4 : Int32) (x5 : Int32) (x6 : Int64) (u : mS) (H : Heap) (locs : List Loc) (ls : Array Slot), k177 x4 x5 x6 u = some res → va_P D vwCl (mW cI cZ cJ o ad u) H → va_S A s.heap H locs → lv_has ls 9 [(0, .ref o), (4, .int x4), (5, .int x5), (6, .long x6)] → W p l e rmX10_sorter s m args below meth c H locs 0 0 (MQ below (mQi D cI cZ cJ o ad A res) args s 0 0 A) (F0 m 177 ls [])) (n : Nat) : ∀ {x3 : Int32} {x4 : Int32} {x5 : Int32} {x6 : Int64} {x8 : Int32} {u : mS} {H : Heap} {locs : List Loc} {ls : Array Slot}, fX10_sorter_136 k177 n x3 x4 x5 x6 x8 u = some res → va_P D vwCl (mW cI cZ cJ o ad u) H → va_S A s.heap H locs → lv_has ls 9 [(0, .ref o), (3, .int x3), (4, .int x4), (5, .int x5), (6, .long x6), (8, .int x8)] → W p l e rmX10_sorter s m args below meth c H locs 0 0 (MQ below (mQi D cI cZ cJ o ad A res) args s 0 0 A) (F0 m 136 ls []) := by
  induction n with
  | zero => intro _ _ _ _ _ _ _ _ _ h _ _ _; cases (show (none : Option (Int32 × mS)) = some res from h)
  | succ n ih => intro _ _ _ _ _ _ _ _ _ h hP hS hl; exact wX10_sorter_136_b C (fun _ _ _ _ _ _ _ _ _ h hP hS hl => ih h hP hS hl) hk177 h hP hS hl
def fX10_sorter (x1 : Int32) (x2 : Int32) (u : mS) : Option (Int32 × mS) :=
  bI (fX10_isIn x1 (0 : Int32) (5 : Int32) u) fun r3 u3 =>
  if r3 = 0 then (
    bI (fX10_finding (1 : Int32) u3) fun r20 u20 =>
    some (r20, u20)
  ) else (
    bI (fX10_isIn x2 (0 : Int32) (2 : Int32) u3) fun r12 u12 =>
    if r12 = 0 then (
      bI (fX10_finding (1 : Int32) u12) fun r20 u20 =>
      some (r20, u20)
    ) else (
      fX10_sorter_35 (fun x2 x3 x4 x5 u =>
            if (2 : Int32) ≤ x2 then (
              (fX10_tellWays u).bind fun u126 =>
              fX10_sorter_136 (fun x4 x5 x6 u =>
                    if x5 ≤ 0 then (
                      some ((0 : Int32), u)
                    ) else (
                      bI (fX10_waysOf (u.1 29) x4 u) fun r195 u195 =>
                      if 0 < (lg_cmp ((20 : Int64) * x6) r195) then (
                        some ((0 : Int32), u195)
                      ) else (
                        some ((1 : Int32), u195)
                      )
                    )) FU x3 x4 x5 (0 : Int64) x5 u126
            ) else (
              if x2 = 0 then (
                some (x4, u)
              ) else (
                some (x5, u)
              )
            )) FU x1 x2 (0 : Int32) (0 : Int32) (0 : Int32) (0 : Int32) u12
    )
  )
set_option maxHeartbeats 4000000 in
set_option maxRecDepth 20000 in
theorem wX10_sorter (C : mC p s m args meth c cX10_sorter 9 (some .int) D cI cZ cJ o ad A) {x1 : Int32} {x2 : Int32} {u : mS} {res : Int32 × mS} (h : fX10_sorter x1 x2 u = some res) {H : Heap} {locs : List Loc} (hP : va_P D vwCl (mW cI cZ cJ o ad u) H) (hS : va_S A s.heap H locs) {ls : Array Slot} (hl : lv_has ls 9 [(0, .ref o), (1, .int x1), (2, .int x2)]) : W p l e rmX10_sorter s m args below meth c H locs 0 0 (MQ below (mQi D cI cZ cJ o ad A res) args s 0 0 A) (F0 m 0 ls []) := by
  have hx := C.1
  have hb := C.2.1
  unfold fX10_sorter at h
  refine lv_iload_n hx hb dX10_sorter_0 rfl (lv_at hl 1 rfl) ?_
  refine lv_iconst (v := 0) hx hb dX10_sorter_1 (by decide) ?_
  refine lv_iconst (v := 5) hx hb dX10_sorter_2 (by decide) ?_
  obtain ⟨r3, u3, e3, h⟩ := obI h
  refine mx_cSi C hP hS [.int x1, .int (0 : Int32), .int (5 : Int32)] (tX10_isIn e3) qX10_131 ⟨rfl, rfl, Nat.le_of_ble_eq_true rfl, Nat.le_of_ble_eq_true rfl⟩ rfl hl.1 rfl (Nat.le_of_ble_eq_true rfl) dX10_sorter_3 (fun H locs hP hS => ?_)
  refine lv_if_eq (tgt := 18) hx hb dX10_sorter_6 (by decide) (fun hc => ?_) (fun hc => ?_)
  · replace h := it_pos hc h
    refine lv_aload_n hx hb dX10_sorter_18 rfl (lv_at hl 0 rfl) ?_
    refine lv_iconst (v := 1) hx hb dX10_sorter_19 (by decide) ?_
    obtain ⟨r20, u20, e20, h⟩ := obI h
    refine mx_cVi C hP hS [.int (1 : Int32)] (tX10_finding e20) qX10_138 ⟨rfl, rfl, Nat.le_of_ble_eq_true rfl, Nat.le_of_ble_eq_true rfl⟩ rfl hl.1 rfl (Nat.le_of_ble_eq_true rfl) dX10_sorter_20 (fun H locs hP hS => ?_)
    exact mx_reti C h hP hS dX10_sorter_23
  · replace h := it_neg hc h
    refine lv_iload_n hx hb dX10_sorter_9 rfl (lv_at hl 2 rfl) ?_
    refine lv_iconst (v := 0) hx hb dX10_sorter_10 (by decide) ?_
    refine lv_iconst (v := 2) hx hb dX10_sorter_11 (by decide) ?_
    obtain ⟨r12, u12, e12, h⟩ := obI h
    refine mx_cSi C hP hS [.int x2, .int (0 : Int32), .int (2 : Int32)] (tX10_isIn e12) qX10_131 ⟨rfl, rfl, Nat.le_of_ble_eq_true rfl, Nat.le_of_ble_eq_true rfl⟩ rfl hl.1 rfl (Nat.le_of_ble_eq_true rfl) dX10_sorter_12 (fun H locs hP hS => ?_)
    refine lv_if_ne (tgt := 24) hx hb dX10_sorter_15 (by decide) (fun hc => ?_) (fun hc => ?_)
    · replace h := it_neg hc h
      refine lv_iconst (v := 0) hx hb dX10_sorter_24 (by decide) ?_
      refine lv_istore_n (lv' := [(3, .int (0 : Int32)), (0, .ref o), (1, .int x1), (2, .int x2)]) hx hb dX10_sorter_25 rfl hl (by decide) rfl (fun ls hl => ?_)
      refine lv_iconst (v := 0) hx hb dX10_sorter_26 (by decide) ?_
      refine lv_istore (lv' := [(4, .int (0 : Int32)), (3, .int (0 : Int32)), (0, .ref o), (1, .int x1), (2, .int x2)]) hx hb dX10_sorter_27 hl (by decide) rfl (fun ls hl => ?_)
      refine lv_iconst (v := 0) hx hb dX10_sorter_29 (by decide) ?_
      refine lv_istore (lv' := [(5, .int (0 : Int32)), (4, .int (0 : Int32)), (3, .int (0 : Int32)), (0, .ref o), (1, .int x1), (2, .int x2)]) hx hb dX10_sorter_30 hl (by decide) rfl (fun ls hl => ?_)
      refine lv_iconst (v := 0) hx hb dX10_sorter_32 (by decide) ?_
      refine lv_istore (lv' := [(6, .int (0 : Int32)), (5, .int (0 : Int32)), (4, .int (0 : Int32)), (3, .int (0 : Int32)), (0, .ref o), (1, .int x1), (2, .int x2)]) hx hb dX10_sorter_33 hl (by decide) rfl (fun ls hl => ?_)
      refine wX10_sorter_35 C ?_ FU h hP hS (lv_sub hl [4, 5, 6, 3, 2, 1, 0] rfl)
      · intro x2 x3 x4 x5 u H locs ls h hP hS hl
        refine lv_iload_n hx hb dX10_sorter_108 rfl (lv_at hl 1 rfl) ?_
        refine lv_iconst (v := 2) hx hb dX10_sorter_109 (by decide) ?_
        refine lv_icmp_ge (tgt := 125) hx hb dX10_sorter_110 (by decide) (fun hc => ?_) (fun hc => ?_)
        · replace h := it_pos hc h
          refine lv_aload_n hx hb dX10_sorter_125 rfl (lv_at hl 0 rfl) ?_
          obtain ⟨u126, e126, h⟩ := ob h
          refine mx_cVv C hP hS [] (tX10_tellWays e126) qX10_230 ⟨rfl, rfl, Nat.le_of_ble_eq_true rfl, Nat.le_of_ble_eq_true rfl⟩ rfl hl.1 rfl (Nat.le_of_ble_eq_true rfl) dX10_sorter_126 (fun H locs hP hS => ?_)
          refine lv_lconst (v := 0) hx hb dX10_sorter_129 (by decide) ?_
          refine lv_lstore (lv' := [(6, .long (0 : Int64)), (0, .ref o), (2, .int x2), (3, .int x3), (4, .int x4), (5, .int x5)]) hx hb dX10_sorter_130 hl (by decide) rfl (fun ls hl => ?_)
          refine lv_iload hx hb dX10_sorter_132 (lv_at hl 5 rfl) ?_
          refine lv_istore (lv' := [(8, .int x5), (6, .long (0 : Int64)), (0, .ref o), (2, .int x2), (3, .int x3), (4, .int x4), (5, .int x5)]) hx hb dX10_sorter_134 hl (by decide) rfl (fun ls hl => ?_)
          refine wX10_sorter_136 C ?_ FU h hP hS (lv_sub hl [2, 4, 5, 6, 1, 0] rfl)
          · intro x4 x5 x6 u H locs ls h hP hS hl
            refine lv_iload hx hb dX10_sorter_177 (lv_at hl 2 rfl) ?_
            refine lv_if_le (tgt := 206) hx hb dX10_sorter_179 (by decide) (fun hc => ?_) (fun hc => ?_)
            · replace h := it_pos hc h
              refine lv_iconst (v := 0) hx hb dX10_sorter_206 (by decide) ?_
              exact mx_reti C h hP hS dX10_sorter_207
            · replace h := it_neg hc h
              refine lv_ldc2 (v := 20) hx hb C.2.2.2.1 (C.2.2.2.2.1 _ kcX10_233) dX10_sorter_182 ?_
              refine lv_lload hx hb dX10_sorter_185 (lv_at hl 3 rfl) ?_
              refine lv_lmul hx hb dX10_sorter_187 ?_
              refine lv_aload_n hx hb dX10_sorter_188 rfl (lv_at hl 0 rfl) ?_
              refine lv_aload_n hx hb dX10_sorter_189 rfl (lv_at hl 0 rfl) ?_
              refine mg_records C hP dX10_sorter_190 ?_
              refine lv_iload hx hb dX10_sorter_193 (lv_at hl 1 rfl) ?_
              obtain ⟨r195, u195, e195, h⟩ := obI h
              refine mx_cVl C hP hS [.int (u.1 29), .int x4] (tX10_waysOf e195) qX10_223 ⟨rfl, rfl, Nat.le_of_ble_eq_true rfl, Nat.le_of_ble_eq_true rfl⟩ rfl hl.1 rfl (Nat.le_of_ble_eq_true rfl) dX10_sorter_195 (fun H locs hP hS => ?_)
              refine W.lcmp hx hb dX10_sorter_198 ?_
              refine lv_if_gt (tgt := 206) hx hb dX10_sorter_199 (by decide) (fun hc => ?_) (fun hc => ?_)
              · replace h := it_pos hc h
                refine lv_iconst (v := 0) hx hb dX10_sorter_206 (by decide) ?_
                exact mx_reti C h hP hS dX10_sorter_207
              · replace h := it_neg hc h
                refine lv_iconst (v := 1) hx hb dX10_sorter_202 (by decide) ?_
                refine lv_goto (tgt := 207) hx hb dX10_sorter_203 (by decide) ?_
                exact mx_reti C h hP hS dX10_sorter_207
        · replace h := it_neg hc h
          refine lv_iload_n hx hb dX10_sorter_113 rfl (lv_at hl 1 rfl) ?_
          refine lv_if_ne (tgt := 122) hx hb dX10_sorter_114 (by decide) (fun hc => ?_) (fun hc => ?_)
          · replace h := it_neg hc h
            refine lv_iload hx hb dX10_sorter_122 (lv_at hl 4 rfl) ?_
            exact mx_reti C h hP hS dX10_sorter_124
          · replace h := it_pos hc h
            refine lv_iload hx hb dX10_sorter_117 (lv_at hl 3 rfl) ?_
            refine lv_goto (tgt := 124) hx hb dX10_sorter_119 (by decide) ?_
            exact mx_reti C h hP hS dX10_sorter_124
    · replace h := it_pos hc h
      refine lv_aload_n hx hb dX10_sorter_18 rfl (lv_at hl 0 rfl) ?_
      refine lv_iconst (v := 1) hx hb dX10_sorter_19 (by decide) ?_
      obtain ⟨r20, u20, e20, h⟩ := obI h
      refine mx_cVi C hP hS [.int (1 : Int32)] (tX10_finding e20) qX10_138 ⟨rfl, rfl, Nat.le_of_ble_eq_true rfl, Nat.le_of_ble_eq_true rfl⟩ rfl hl.1 rfl (Nat.le_of_ble_eq_true rfl) dX10_sorter_20 (fun H locs hP hS => ?_)
      exact mx_reti C h hP hS dX10_sorter_23
theorem tX10_sorter {D : va_G} {cI cZ cJ : ClassId} {o : Nat} {ad : Nat → Nat} {A : Nat → Prop} {x1 : Int32} {x2 : Int32} {u : mS} {res : Int32 × mS} (h : fX10_sorter x1 x2 u = some res) : Met l yX10_sorter (Cond.code yX10_sorter cX10_sorter 9 (some .int) :: gW) rmX10_sorter (va_Pc [.ref o, .int x1, .int x2] (mPre D cI cZ cJ o ad A u)) (mQi D cI cZ cJ o ad A res) 0 0 A :=
  mx_met ⟨by decide +kernel, rfl⟩ (Nat.le_of_ble_eq_true rfl) (fun p e s m below meth c ls C hP hl => wX10_sorter C h hP va_S.rf hl)
abbrev rmX10_money : Room := { frames := 1, cells := 0, slots := 0, locals := 22 }
def fX10_money_108 (x1 : Int32) (x5 : Int32) (s0 : Int32) (s1 : Int32) (u : mS) (k81 : Int32 → Int32 → Int32 → mS → Option (Int32 × mS)) : Option (Int32 × mS) :=
  k81 x1 (s0 + s1) (x5 + (1 : Int32)) u
set_option maxHeartbeats 4000000 in
set_option maxRecDepth 20000 in
theorem wX10_money_108 (C : mC p s m args meth c cX10_money 6 (some .int) D cI cZ cJ o ad A) {x1 : Int32} {x5 : Int32} {s0 : Int32} {s1 : Int32} {u : mS} {res : Int32 × mS} {k81 : Int32 → Int32 → Int32 → mS → Option (Int32 × mS)} (hk81 : ∀ (x1 : Int32) (x4 : Int32) (x5 : Int32) (u : mS) (H : Heap) (locs : List Loc) (ls : Array Slot), k81 x1 x4 x5 u = some res → va_P D vwCl (mW cI cZ cJ o ad u) H → va_S A s.heap H locs → lv_has ls 6 [(0, .ref o), (1, .int x1), (4, .int x4), (5, .int x5)] → W p l e rmX10_money s m args below meth c H locs 0 0 (MQ below (mQi D cI cZ cJ o ad A res) args s 0 0 A) (F0 m 81 ls [])) (h : fX10_money_108 x1 x5 s0 s1 u k81 = some res) {H : Heap} {locs : List Loc} (hP : va_P D vwCl (mW cI cZ cJ o ad u) H) (hS : va_S A s.heap H locs) {ls : Array Slot} (hl : lv_has ls 6 [(0, .ref o), (1, .int x1), (5, .int x5)]) : W p l e rmX10_money s m args below meth c H locs 0 0 (MQ below (mQi D cI cZ cJ o ad A res) args s 0 0 A) (F0 m 108 ls [.int s1, .int s0]) := by
  have hx := C.1
  have hb := C.2.1
  unfold fX10_money_108 at h
  refine lv_iadd hx hb dX10_money_108 ?_
  refine lv_istore (lv' := [(4, .int (s0 + s1)), (0, .ref o), (1, .int x1), (5, .int x5)]) hx hb dX10_money_109 hl (by decide) rfl (fun ls hl => ?_)
  refine lv_iinc (v := x5 + (1 : Int32)) (lv' := [(5, .int (x5 + (1 : Int32))), (4, .int (s0 + s1)), (0, .ref o), (1, .int x1)]) hx hb dX10_money_111 hl (k := 3) rfl rfl (by decide) rfl (fun ls hl => ?_)
  refine lv_goto (tgt := 81) hx hb dX10_money_114 (by decide) ?_
  exact hk81 _ _ _ _ _ _ _ h hP hS (lv_sub hl [2, 3, 1, 0] rfl)
def fX10_money_81_b (x1 : Int32) (x4 : Int32) (x5 : Int32) (u : mS) (k81 : Int32 → Int32 → Int32 → mS → Option (Int32 × mS)) : Option (Int32 × mS) :=
  if (4 : Int32) ≤ x5 then (
    some (x4, u)
  ) else (
    (mR u 14 80 (((4 : Int32) * x1) + x5)).bind fun v99 =>
    if v99 < 0 then (
      fX10_money_108 x1 x5 x4 (0 : Int32) u k81
    ) else (
      fX10_money_108 x1 x5 x4 (1 : Int32) u k81
    )
  )
set_option maxHeartbeats 4000000 in
set_option maxRecDepth 20000 in
theorem wX10_money_81_b (C : mC p s m args meth c cX10_money 6 (some .int) D cI cZ cJ o ad A) {x1 : Int32} {x4 : Int32} {x5 : Int32} {u : mS} {res : Int32 × mS} {k81 : Int32 → Int32 → Int32 → mS → Option (Int32 × mS)} (hk81 : ∀ (x1 : Int32) (x4 : Int32) (x5 : Int32) (u : mS) (H : Heap) (locs : List Loc) (ls : Array Slot), k81 x1 x4 x5 u = some res → va_P D vwCl (mW cI cZ cJ o ad u) H → va_S A s.heap H locs → lv_has ls 6 [(0, .ref o), (1, .int x1), (4, .int x4), (5, .int x5)] → W p l e rmX10_money s m args below meth c H locs 0 0 (MQ below (mQi D cI cZ cJ o ad A res) args s 0 0 A) (F0 m 81 ls [])) (h : fX10_money_81_b x1 x4 x5 u k81 = some res) {H : Heap} {locs : List Loc} (hP : va_P D vwCl (mW cI cZ cJ o ad u) H) (hS : va_S A s.heap H locs) {ls : Array Slot} (hl : lv_has ls 6 [(0, .ref o), (1, .int x1), (4, .int x4), (5, .int x5)]) : W p l e rmX10_money s m args below meth c H locs 0 0 (MQ below (mQi D cI cZ cJ o ad A res) args s 0 0 A) (F0 m 81 ls []) := by
  have hx := C.1
  have hb := C.2.1
  unfold fX10_money_81_b at h
  refine lv_iload hx hb dX10_money_81 (lv_at hl 3 rfl) ?_
  refine lv_iconst (v := 4) hx hb dX10_money_83 (by decide) ?_
  refine lv_icmp_ge (tgt := 117) hx hb dX10_money_84 (by decide) (fun hc => ?_) (fun hc => ?_)
  · replace h := it_pos hc h
    refine lv_iload hx hb dX10_money_117 (lv_at hl 2 rfl) ?_
    exact mx_reti C h hP hS dX10_money_119
  · replace h := it_neg hc h
    refine lv_iload hx hb dX10_money_87 (lv_at hl 2 rfl) ?_
    refine lv_aload_n hx hb dX10_money_89 rfl (lv_at hl 0 rfl) ?_
    refine mg_counts C hP dX10_money_90 ?_
    refine lv_iconst (v := 4) hx hb dX10_money_93 (by decide) ?_
    refine lv_iload_n hx hb dX10_money_94 rfl (lv_at hl 1 rfl) ?_
    refine lv_imul hx hb dX10_money_95 ?_
    refine lv_iload hx hb dX10_money_96 (lv_at hl 3 rfl) ?_
    refine lv_iadd hx hb dX10_money_98 ?_
    obtain ⟨v99, e99, h⟩ := ob h
    refine ml_counts C hP e99 dX10_money_99 ?_
    refine lv_if_lt (tgt := 107) hx hb dX10_money_100 (by decide) (fun hc => ?_) (fun hc => ?_)
    · replace h := it_pos hc h
      refine lv_iconst (v := 0) hx hb dX10_money_107 (by decide) ?_
      exact wX10_money_108 C hk81 h hP hS (lv_sub hl [0, 1, 3] rfl)
    · replace h := it_neg hc h
      refine lv_iconst (v := 1) hx hb dX10_money_103 (by decide) ?_
      refine lv_goto (tgt := 108) hx hb dX10_money_104 (by decide) ?_
      exact wX10_money_108 C hk81 h hP hS (lv_sub hl [0, 1, 3] rfl)
def fX10_money_81 : Nat → Int32 → Int32 → Int32 → mS → Option (Int32 × mS)
  | 0 => fun _ _ _ _ => none
  | n + 1 => fun x1 x4 x5 u => fX10_money_81_b x1 x4 x5 u (fX10_money_81 n) 
theorem wX10_money_81 (C : mC p s m args meth c cX10_money 6 (some .int) D cI cZ cJ o ad A) {res : Int32 × mS} (n : Nat) : ∀ {x1 : Int32} {x4 : Int32} {x5 : Int32} {u : mS} {H : Heap} {locs : List Loc} {ls : Array Slot}, fX10_money_81 n x1 x4 x5 u = some res → va_P D vwCl (mW cI cZ cJ o ad u) H → va_S A s.heap H locs → lv_has ls 6 [(0, .ref o), (1, .int x1), (4, .int x4), (5, .int x5)] → W p l e rmX10_money s m args below meth c H locs 0 0 (MQ below (mQi D cI cZ cJ o ad A res) args s 0 0 A) (F0 m 81 ls []) := by
  induction n with
  | zero => intro _ _ _ _ _ _ _ h _ _ _; cases (show (none : Option (Int32 × mS)) = some res from h)
  | succ n ih => intro _ _ _ _ _ _ _ h hP hS hl; exact wX10_money_81_b C (fun _ _ _ _ _ _ _ h hP hS hl => ih h hP hS hl) h hP hS hl
def fX10_money (x1 : Int32) (x2 : Int32) (x3 : Int32) (u : mS) : Option (Int32 × mS) :=
  bI (fX10_isThing x1 u) fun r2 u2 =>
  if r2 = 0 then (
    bI (fX10_finding (1 : Int32) u2) fun r29 u29 =>
    some (r29, u29)
  ) else (
    bI (fX10_isIn x2 (0 : Int32) (3 : Int32) u2) fun r11 u11 =>
    if r11 = 0 then (
      bI (fX10_finding (1 : Int32) u11) fun r29 u29 =>
      some (r29, u29)
    ) else (
      bI (fX10_isIn x3 (0 : Int32) (100000 : Int32) u11) fun r21 u21 =>
      if r21 = 0 then (
        bI (fX10_finding (1 : Int32) u21) fun r29 u29 =>
        some (r29, u29)
      ) else (
        (mR u21 3 20 x1).bind fun v38 =>
        if v38 = (3 : Int32) then (
          (mR u21 9 20 x1).bind fun v54 =>
          if v54 = 0 then (
            (mU u21 14 80 (((4 : Int32) * x1) + x2) x3).bind fun u74 =>
            fX10_money_81  FU x1 (0 : Int32) (0 : Int32) u74
          ) else (
            bI (fX10_finding (3 : Int32) u21) fun r60 u60 =>
            some (r60, u60)
          )
        ) else (
          bI (fX10_finding (5 : Int32) u21) fun r45 u45 =>
          some (r45, u45)
        )
      )
    )
  )
set_option maxHeartbeats 4000000 in
set_option maxRecDepth 20000 in
theorem wX10_money (C : mC p s m args meth c cX10_money 6 (some .int) D cI cZ cJ o ad A) {x1 : Int32} {x2 : Int32} {x3 : Int32} {u : mS} {res : Int32 × mS} (h : fX10_money x1 x2 x3 u = some res) {H : Heap} {locs : List Loc} (hP : va_P D vwCl (mW cI cZ cJ o ad u) H) (hS : va_S A s.heap H locs) {ls : Array Slot} (hl : lv_has ls 6 [(0, .ref o), (1, .int x1), (2, .int x2), (3, .int x3)]) : W p l e rmX10_money s m args below meth c H locs 0 0 (MQ below (mQi D cI cZ cJ o ad A res) args s 0 0 A) (F0 m 0 ls []) := by
  have hx := C.1
  have hb := C.2.1
  unfold fX10_money at h
  refine lv_aload_n hx hb dX10_money_0 rfl (lv_at hl 0 rfl) ?_
  refine lv_iload_n hx hb dX10_money_1 rfl (lv_at hl 1 rfl) ?_
  obtain ⟨r2, u2, e2, h⟩ := obI h
  refine mx_cVi C hP hS [.int x1] (tX10_isThing e2) qX10_150 ⟨rfl, rfl, Nat.le_of_ble_eq_true rfl, Nat.le_of_ble_eq_true rfl⟩ rfl hl.1 rfl (Nat.le_of_ble_eq_true rfl) dX10_money_2 (fun H locs hP hS => ?_)
  refine lv_if_eq (tgt := 27) hx hb dX10_money_5 (by decide) (fun hc => ?_) (fun hc => ?_)
  · replace h := it_pos hc h
    refine lv_aload_n hx hb dX10_money_27 rfl (lv_at hl 0 rfl) ?_
    refine lv_iconst (v := 1) hx hb dX10_money_28 (by decide) ?_
    obtain ⟨r29, u29, e29, h⟩ := obI h
    refine mx_cVi C hP hS [.int (1 : Int32)] (tX10_finding e29) qX10_138 ⟨rfl, rfl, Nat.le_of_ble_eq_true rfl, Nat.le_of_ble_eq_true rfl⟩ rfl hl.1 rfl (Nat.le_of_ble_eq_true rfl) dX10_money_29 (fun H locs hP hS => ?_)
    exact mx_reti C h hP hS dX10_money_32
  · replace h := it_neg hc h
    refine lv_iload_n hx hb dX10_money_8 rfl (lv_at hl 2 rfl) ?_
    refine lv_iconst (v := 0) hx hb dX10_money_9 (by decide) ?_
    refine lv_iconst (v := 3) hx hb dX10_money_10 (by decide) ?_
    obtain ⟨r11, u11, e11, h⟩ := obI h
    refine mx_cSi C hP hS [.int x2, .int (0 : Int32), .int (3 : Int32)] (tX10_isIn e11) qX10_131 ⟨rfl, rfl, Nat.le_of_ble_eq_true rfl, Nat.le_of_ble_eq_true rfl⟩ rfl hl.1 rfl (Nat.le_of_ble_eq_true rfl) dX10_money_11 (fun H locs hP hS => ?_)
    refine lv_if_eq (tgt := 27) hx hb dX10_money_14 (by decide) (fun hc => ?_) (fun hc => ?_)
    · replace h := it_pos hc h
      refine lv_aload_n hx hb dX10_money_27 rfl (lv_at hl 0 rfl) ?_
      refine lv_iconst (v := 1) hx hb dX10_money_28 (by decide) ?_
      obtain ⟨r29, u29, e29, h⟩ := obI h
      refine mx_cVi C hP hS [.int (1 : Int32)] (tX10_finding e29) qX10_138 ⟨rfl, rfl, Nat.le_of_ble_eq_true rfl, Nat.le_of_ble_eq_true rfl⟩ rfl hl.1 rfl (Nat.le_of_ble_eq_true rfl) dX10_money_29 (fun H locs hP hS => ?_)
      exact mx_reti C h hP hS dX10_money_32
    · replace h := it_neg hc h
      refine lv_iload_n hx hb dX10_money_17 rfl (lv_at hl 3 rfl) ?_
      refine lv_iconst (v := 0) hx hb dX10_money_18 (by decide) ?_
      refine lv_ldc (v := 100000) hx hb C.2.2.2.1 (C.2.2.2.2.1 _ kcX10_207) dX10_money_19 ?_
      obtain ⟨r21, u21, e21, h⟩ := obI h
      refine mx_cSi C hP hS [.int x3, .int (0 : Int32), .int (100000 : Int32)] (tX10_isIn e21) qX10_131 ⟨rfl, rfl, Nat.le_of_ble_eq_true rfl, Nat.le_of_ble_eq_true rfl⟩ rfl hl.1 rfl (Nat.le_of_ble_eq_true rfl) dX10_money_21 (fun H locs hP hS => ?_)
      refine lv_if_ne (tgt := 33) hx hb dX10_money_24 (by decide) (fun hc => ?_) (fun hc => ?_)
      · replace h := it_neg hc h
        refine lv_aload_n hx hb dX10_money_33 rfl (lv_at hl 0 rfl) ?_
        refine mg_kind C hP dX10_money_34 ?_
        refine lv_iload_n hx hb dX10_money_37 rfl (lv_at hl 1 rfl) ?_
        obtain ⟨v38, e38, h⟩ := ob h
        refine ml_kind C hP e38 dX10_money_38 ?_
        refine lv_iconst (v := 3) hx hb dX10_money_39 (by decide) ?_
        refine lv_icmp_eq (tgt := 49) hx hb dX10_money_40 (by decide) (fun hc => ?_) (fun hc => ?_)
        · replace h := it_pos hc h
          refine lv_aload_n hx hb dX10_money_49 rfl (lv_at hl 0 rfl) ?_
          refine mg_is C hP dX10_money_50 ?_
          refine lv_iload_n hx hb dX10_money_53 rfl (lv_at hl 1 rfl) ?_
          obtain ⟨v54, e54, h⟩ := ob h
          refine ml_is C hP e54 dX10_money_54 ?_
          refine lv_if_eq (tgt := 64) hx hb dX10_money_55 (by decide) (fun hc => ?_) (fun hc => ?_)
          · replace h := it_pos hc h
            refine lv_aload_n hx hb dX10_money_64 rfl (lv_at hl 0 rfl) ?_
            refine mg_counts C hP dX10_money_65 ?_
            refine lv_iconst (v := 4) hx hb dX10_money_68 (by decide) ?_
            refine lv_iload_n hx hb dX10_money_69 rfl (lv_at hl 1 rfl) ?_
            refine lv_imul hx hb dX10_money_70 ?_
            refine lv_iload_n hx hb dX10_money_71 rfl (lv_at hl 2 rfl) ?_
            refine lv_iadd hx hb dX10_money_72 ?_
            refine lv_iload_n hx hb dX10_money_73 rfl (lv_at hl 3 rfl) ?_
            obtain ⟨u74, e74, h⟩ := ob h
            refine ms_counts C hP hS e74 dX10_money_74 (fun H locs hP hS => ?_)
            refine lv_iconst (v := 0) hx hb dX10_money_75 (by decide) ?_
            refine lv_istore (lv' := [(4, .int (0 : Int32)), (0, .ref o), (1, .int x1), (2, .int x2), (3, .int x3)]) hx hb dX10_money_76 hl (by decide) rfl (fun ls hl => ?_)
            refine lv_iconst (v := 0) hx hb dX10_money_78 (by decide) ?_
            refine lv_istore (lv' := [(5, .int (0 : Int32)), (4, .int (0 : Int32)), (0, .ref o), (1, .int x1), (2, .int x2), (3, .int x3)]) hx hb dX10_money_79 hl (by decide) rfl (fun ls hl => ?_)
            exact wX10_money_81 C  FU h hP hS (lv_sub hl [2, 3, 1, 0] rfl)
          · replace h := it_neg hc h
            refine lv_aload_n hx hb dX10_money_58 rfl (lv_at hl 0 rfl) ?_
            refine lv_iconst (v := 3) hx hb dX10_money_59 (by decide) ?_
            obtain ⟨r60, u60, e60, h⟩ := obI h
            refine mx_cVi C hP hS [.int (3 : Int32)] (tX10_finding e60) qX10_138 ⟨rfl, rfl, Nat.le_of_ble_eq_true rfl, Nat.le_of_ble_eq_true rfl⟩ rfl hl.1 rfl (Nat.le_of_ble_eq_true rfl) dX10_money_60 (fun H locs hP hS => ?_)
            exact mx_reti C h hP hS dX10_money_63
        · replace h := it_neg hc h
          refine lv_aload_n hx hb dX10_money_43 rfl (lv_at hl 0 rfl) ?_
          refine lv_iconst (v := 5) hx hb dX10_money_44 (by decide) ?_
          obtain ⟨r45, u45, e45, h⟩ := obI h
          refine mx_cVi C hP hS [.int (5 : Int32)] (tX10_finding e45) qX10_138 ⟨rfl, rfl, Nat.le_of_ble_eq_true rfl, Nat.le_of_ble_eq_true rfl⟩ rfl hl.1 rfl (Nat.le_of_ble_eq_true rfl) dX10_money_45 (fun H locs hP hS => ?_)
          exact mx_reti C h hP hS dX10_money_48
      · replace h := it_pos hc h
        refine lv_aload_n hx hb dX10_money_27 rfl (lv_at hl 0 rfl) ?_
        refine lv_iconst (v := 1) hx hb dX10_money_28 (by decide) ?_
        obtain ⟨r29, u29, e29, h⟩ := obI h
        refine mx_cVi C hP hS [.int (1 : Int32)] (tX10_finding e29) qX10_138 ⟨rfl, rfl, Nat.le_of_ble_eq_true rfl, Nat.le_of_ble_eq_true rfl⟩ rfl hl.1 rfl (Nat.le_of_ble_eq_true rfl) dX10_money_29 (fun H locs hP hS => ?_)
        exact mx_reti C h hP hS dX10_money_32
theorem tX10_money {D : va_G} {cI cZ cJ : ClassId} {o : Nat} {ad : Nat → Nat} {A : Nat → Prop} {x1 : Int32} {x2 : Int32} {x3 : Int32} {u : mS} {res : Int32 × mS} (h : fX10_money x1 x2 x3 u = some res) : Met l yX10_money (Cond.code yX10_money cX10_money 6 (some .int) :: gW) rmX10_money (va_Pc [.ref o, .int x1, .int x2, .int x3] (mPre D cI cZ cJ o ad A u)) (mQi D cI cZ cJ o ad A res) 0 0 A :=
  mx_met ⟨by decide +kernel, rfl⟩ (Nat.le_of_ble_eq_true rfl) (fun p e s m below meth c ls C hP hl => wX10_money C h hP va_S.rf hl)
abbrev rmX10_handsFor : Room := { frames := 0, cells := 0, slots := 0, locals := 0 }
def fX10_handsFor_32 (x1 : Int32) (x2 : Int32) (x4 : Int32) (s0 : Int32) (s1 : Int32) (u : mS) (k5 : Int32 → Int32 → Int32 → Int32 → mS → Option (Int32 × mS)) : Option (Int32 × mS) :=
  k5 x1 x2 (s0 + s1) (x4 + (1 : Int32)) u
set_option maxHeartbeats 4000000 in
set_option maxRecDepth 20000 in
theorem wX10_handsFor_32 (C : mC p s m args meth c cX10_handsFor 5 (some .int) D cI cZ cJ o ad A) {x1 : Int32} {x2 : Int32} {x4 : Int32} {s0 : Int32} {s1 : Int32} {u : mS} {res : Int32 × mS} {k5 : Int32 → Int32 → Int32 → Int32 → mS → Option (Int32 × mS)} (hk5 : ∀ (x1 : Int32) (x2 : Int32) (x3 : Int32) (x4 : Int32) (u : mS) (H : Heap) (locs : List Loc) (ls : Array Slot), k5 x1 x2 x3 x4 u = some res → va_P D vwCl (mW cI cZ cJ o ad u) H → va_S A s.heap H locs → lv_has ls 5 [(0, .ref o), (1, .int x1), (2, .int x2), (3, .int x3), (4, .int x4)] → W p l e rmX10_handsFor s m args below meth c H locs 0 0 (MQ below (mQi D cI cZ cJ o ad A res) args s 0 0 A) (F0 m 5 ls [])) (h : fX10_handsFor_32 x1 x2 x4 s0 s1 u k5 = some res) {H : Heap} {locs : List Loc} (hP : va_P D vwCl (mW cI cZ cJ o ad u) H) (hS : va_S A s.heap H locs) {ls : Array Slot} (hl : lv_has ls 5 [(0, .ref o), (1, .int x1), (2, .int x2), (4, .int x4)]) : W p l e rmX10_handsFor s m args below meth c H locs 0 0 (MQ below (mQi D cI cZ cJ o ad A res) args s 0 0 A) (F0 m 32 ls [.int s1, .int s0]) := by
  have hx := C.1
  have hb := C.2.1
  unfold fX10_handsFor_32 at h
  refine lv_iadd hx hb dX10_handsFor_32 ?_
  refine lv_istore_n (lv' := [(3, .int (s0 + s1)), (0, .ref o), (1, .int x1), (2, .int x2), (4, .int x4)]) hx hb dX10_handsFor_33 rfl hl (by decide) rfl (fun ls hl => ?_)
  refine lv_iinc (v := x4 + (1 : Int32)) (lv' := [(4, .int (x4 + (1 : Int32))), (3, .int (s0 + s1)), (0, .ref o), (1, .int x1), (2, .int x2)]) hx hb dX10_handsFor_34 hl (k := 4) rfl rfl (by decide) rfl (fun ls hl => ?_)
  refine lv_goto (tgt := 5) hx hb dX10_handsFor_37 (by decide) ?_
  exact hk5 _ _ _ _ _ _ _ _ h hP hS (lv_sub hl [2, 3, 4, 1, 0] rfl)
def fX10_handsFor_5_b (x1 : Int32) (x2 : Int32) (x3 : Int32) (x4 : Int32) (u : mS) (k5 : Int32 → Int32 → Int32 → Int32 → mS → Option (Int32 × mS)) : Option (Int32 × mS) :=
  if (4 : Int32) ≤ x4 then (
    some (x3, u)
  ) else (
    (mR u 14 80 (((4 : Int32) * x1) + x4)).bind fun v22 =>
    if v22 = x2 then (
      fX10_handsFor_32 x1 x2 x4 x3 (1 : Int32) u k5
    ) else (
      fX10_handsFor_32 x1 x2 x4 x3 (0 : Int32) u k5
    )
  )
set_option maxHeartbeats 4000000 in
set_option maxRecDepth 20000 in
theorem wX10_handsFor_5_b (C : mC p s m args meth c cX10_handsFor 5 (some .int) D cI cZ cJ o ad A) {x1 : Int32} {x2 : Int32} {x3 : Int32} {x4 : Int32} {u : mS} {res : Int32 × mS} {k5 : Int32 → Int32 → Int32 → Int32 → mS → Option (Int32 × mS)} (hk5 : ∀ (x1 : Int32) (x2 : Int32) (x3 : Int32) (x4 : Int32) (u : mS) (H : Heap) (locs : List Loc) (ls : Array Slot), k5 x1 x2 x3 x4 u = some res → va_P D vwCl (mW cI cZ cJ o ad u) H → va_S A s.heap H locs → lv_has ls 5 [(0, .ref o), (1, .int x1), (2, .int x2), (3, .int x3), (4, .int x4)] → W p l e rmX10_handsFor s m args below meth c H locs 0 0 (MQ below (mQi D cI cZ cJ o ad A res) args s 0 0 A) (F0 m 5 ls [])) (h : fX10_handsFor_5_b x1 x2 x3 x4 u k5 = some res) {H : Heap} {locs : List Loc} (hP : va_P D vwCl (mW cI cZ cJ o ad u) H) (hS : va_S A s.heap H locs) {ls : Array Slot} (hl : lv_has ls 5 [(0, .ref o), (1, .int x1), (2, .int x2), (3, .int x3), (4, .int x4)]) : W p l e rmX10_handsFor s m args below meth c H locs 0 0 (MQ below (mQi D cI cZ cJ o ad A res) args s 0 0 A) (F0 m 5 ls []) := by
  have hx := C.1
  have hb := C.2.1
  unfold fX10_handsFor_5_b at h
  refine lv_iload hx hb dX10_handsFor_5 (lv_at hl 4 rfl) ?_
  refine lv_iconst (v := 4) hx hb dX10_handsFor_7 (by decide) ?_
  refine lv_icmp_ge (tgt := 40) hx hb dX10_handsFor_8 (by decide) (fun hc => ?_) (fun hc => ?_)
  · replace h := it_pos hc h
    refine lv_iload_n hx hb dX10_handsFor_40 rfl (lv_at hl 3 rfl) ?_
    exact mx_reti C h hP hS dX10_handsFor_41
  · replace h := it_neg hc h
    refine lv_iload_n hx hb dX10_handsFor_11 rfl (lv_at hl 3 rfl) ?_
    refine lv_aload_n hx hb dX10_handsFor_12 rfl (lv_at hl 0 rfl) ?_
    refine mg_counts C hP dX10_handsFor_13 ?_
    refine lv_iconst (v := 4) hx hb dX10_handsFor_16 (by decide) ?_
    refine lv_iload_n hx hb dX10_handsFor_17 rfl (lv_at hl 1 rfl) ?_
    refine lv_imul hx hb dX10_handsFor_18 ?_
    refine lv_iload hx hb dX10_handsFor_19 (lv_at hl 4 rfl) ?_
    refine lv_iadd hx hb dX10_handsFor_21 ?_
    obtain ⟨v22, e22, h⟩ := ob h
    refine ml_counts C hP e22 dX10_handsFor_22 ?_
    refine lv_iload_n hx hb dX10_handsFor_23 rfl (lv_at hl 2 rfl) ?_
    refine lv_icmp_ne (tgt := 31) hx hb dX10_handsFor_24 (by decide) (fun hc => ?_) (fun hc => ?_)
    · replace h := it_neg hc h
      refine lv_iconst (v := 0) hx hb dX10_handsFor_31 (by decide) ?_
      exact wX10_handsFor_32 C hk5 h hP hS (lv_sub hl [0, 1, 2, 4] rfl)
    · replace h := it_pos hc h
      refine lv_iconst (v := 1) hx hb dX10_handsFor_27 (by decide) ?_
      refine lv_goto (tgt := 32) hx hb dX10_handsFor_28 (by decide) ?_
      exact wX10_handsFor_32 C hk5 h hP hS (lv_sub hl [0, 1, 2, 4] rfl)
def fX10_handsFor_5 : Nat → Int32 → Int32 → Int32 → Int32 → mS → Option (Int32 × mS)
  | 0 => fun _ _ _ _ _ => none
  | n + 1 => fun x1 x2 x3 x4 u => fX10_handsFor_5_b x1 x2 x3 x4 u (fX10_handsFor_5 n) 
theorem wX10_handsFor_5 (C : mC p s m args meth c cX10_handsFor 5 (some .int) D cI cZ cJ o ad A) {res : Int32 × mS} (n : Nat) : ∀ {x1 : Int32} {x2 : Int32} {x3 : Int32} {x4 : Int32} {u : mS} {H : Heap} {locs : List Loc} {ls : Array Slot}, fX10_handsFor_5 n x1 x2 x3 x4 u = some res → va_P D vwCl (mW cI cZ cJ o ad u) H → va_S A s.heap H locs → lv_has ls 5 [(0, .ref o), (1, .int x1), (2, .int x2), (3, .int x3), (4, .int x4)] → W p l e rmX10_handsFor s m args below meth c H locs 0 0 (MQ below (mQi D cI cZ cJ o ad A res) args s 0 0 A) (F0 m 5 ls []) := by
  induction n with
  | zero => intro _ _ _ _ _ _ _ _ h _ _ _; cases (show (none : Option (Int32 × mS)) = some res from h)
  | succ n ih => intro _ _ _ _ _ _ _ _ h hP hS hl; exact wX10_handsFor_5_b C (fun _ _ _ _ _ _ _ _ h hP hS hl => ih h hP hS hl) h hP hS hl
def fX10_handsFor (x1 : Int32) (x2 : Int32) (u : mS) : Option (Int32 × mS) :=
  fX10_handsFor_5  FU x1 x2 (0 : Int32) (0 : Int32) u
set_option maxHeartbeats 4000000 in
set_option maxRecDepth 20000 in
theorem wX10_handsFor (C : mC p s m args meth c cX10_handsFor 5 (some .int) D cI cZ cJ o ad A) {x1 : Int32} {x2 : Int32} {u : mS} {res : Int32 × mS} (h : fX10_handsFor x1 x2 u = some res) {H : Heap} {locs : List Loc} (hP : va_P D vwCl (mW cI cZ cJ o ad u) H) (hS : va_S A s.heap H locs) {ls : Array Slot} (hl : lv_has ls 5 [(0, .ref o), (1, .int x1), (2, .int x2)]) : W p l e rmX10_handsFor s m args below meth c H locs 0 0 (MQ below (mQi D cI cZ cJ o ad A res) args s 0 0 A) (F0 m 0 ls []) := by
  have hx := C.1
  have hb := C.2.1
  unfold fX10_handsFor at h
  refine lv_iconst (v := 0) hx hb dX10_handsFor_0 (by decide) ?_
  refine lv_istore_n (lv' := [(3, .int (0 : Int32)), (0, .ref o), (1, .int x1), (2, .int x2)]) hx hb dX10_handsFor_1 rfl hl (by decide) rfl (fun ls hl => ?_)
  refine lv_iconst (v := 0) hx hb dX10_handsFor_2 (by decide) ?_
  refine lv_istore (lv' := [(4, .int (0 : Int32)), (3, .int (0 : Int32)), (0, .ref o), (1, .int x1), (2, .int x2)]) hx hb dX10_handsFor_3 hl (by decide) rfl (fun ls hl => ?_)
  exact wX10_handsFor_5 C  FU h hP hS (lv_sub hl [2, 3, 4, 1, 0] rfl)
theorem tX10_handsFor {D : va_G} {cI cZ cJ : ClassId} {o : Nat} {ad : Nat → Nat} {A : Nat → Prop} {x1 : Int32} {x2 : Int32} {u : mS} {res : Int32 × mS} (h : fX10_handsFor x1 x2 u = some res) : Met l yX10_handsFor (Cond.code yX10_handsFor cX10_handsFor 5 (some .int) :: gW) rmX10_handsFor (va_Pc [.ref o, .int x1, .int x2] (mPre D cI cZ cJ o ad A u)) (mQi D cI cZ cJ o ad A res) 0 0 A :=
  mx_met ⟨by decide +kernel, rfl⟩ (Nat.le_of_ble_eq_true rfl) (fun p e s m below meth c ls C hP hl => wX10_handsFor C h hP va_S.rf hl)
abbrev rmX10_counted : Room := { frames := 1, cells := 0, slots := 0, locals := 24 }
def fX10_counted_125 (x1 : Int32) (x2 : Int32) (x3 : Int32) (x5 : Int32) (s0 : Int32) (s1 : Int32) (u : mS) (k72 : Int32 → Int32 → Int32 → Int32 → Int32 → mS → Option (Int32 × mS)) : Option (Int32 × mS) :=
  k72 x1 x2 x3 (s0 &&& s1) (x5 + (1 : Int32)) u
set_option maxHeartbeats 4000000 in
set_option maxRecDepth 20000 in
theorem wX10_counted_125 (C : mC p s m args meth c cX10_counted 7 (some .int) D cI cZ cJ o ad A) {x1 : Int32} {x2 : Int32} {x3 : Int32} {x5 : Int32} {s0 : Int32} {s1 : Int32} {u : mS} {res : Int32 × mS} {k72 : Int32 → Int32 → Int32 → Int32 → Int32 → mS → Option (Int32 × mS)} (hk72 : ∀ (x1 : Int32) (x2 : Int32) (x3 : Int32) (x4 : Int32) (x5 : Int32) (u : mS) (H : Heap) (locs : List Loc) (ls : Array Slot), k72 x1 x2 x3 x4 x5 u = some res → va_P D vwCl (mW cI cZ cJ o ad u) H → va_S A s.heap H locs → lv_has ls 7 [(0, .ref o), (1, .int x1), (2, .int x2), (3, .int x3), (4, .int x4), (5, .int x5)] → W p l e rmX10_counted s m args below meth c H locs 0 0 (MQ below (mQi D cI cZ cJ o ad A res) args s 0 0 A) (F0 m 72 ls [])) (h : fX10_counted_125 x1 x2 x3 x5 s0 s1 u k72 = some res) {H : Heap} {locs : List Loc} (hP : va_P D vwCl (mW cI cZ cJ o ad u) H) (hS : va_S A s.heap H locs) {ls : Array Slot} (hl : lv_has ls 7 [(0, .ref o), (1, .int x1), (2, .int x2), (3, .int x3), (5, .int x5)]) : W p l e rmX10_counted s m args below meth c H locs 0 0 (MQ below (mQi D cI cZ cJ o ad A res) args s 0 0 A) (F0 m 125 ls [.int s1, .int s0]) := by
  have hx := C.1
  have hb := C.2.1
  unfold fX10_counted_125 at h
  refine lv_iand hx hb dX10_counted_125 ?_
  refine lv_istore (lv' := [(4, .int (s0 &&& s1)), (0, .ref o), (1, .int x1), (2, .int x2), (3, .int x3), (5, .int x5)]) hx hb dX10_counted_126 hl (by decide) rfl (fun ls hl => ?_)
  refine lv_iinc (v := x5 + (1 : Int32)) (lv' := [(5, .int (x5 + (1 : Int32))), (4, .int (s0 &&& s1)), (0, .ref o), (1, .int x1), (2, .int x2), (3, .int x3)]) hx hb dX10_counted_128 hl (k := 5) rfl rfl (by decide) rfl (fun ls hl => ?_)
  refine lv_goto (tgt := 72) hx hb dX10_counted_131 (by decide) ?_
  exact hk72 _ _ _ _ _ _ _ _ _ h hP hS (lv_sub hl [2, 3, 4, 5, 1, 0] rfl)
def fX10_counted_120 (x1 : Int32) (x2 : Int32) (x3 : Int32) (x5 : Int32) (s0 : Int32) (u : mS) (k72 : Int32 → Int32 → Int32 → Int32 → Int32 → mS → Option (Int32 × mS)) : Option (Int32 × mS) :=
  fX10_counted_125 x1 x2 x3 x5 s0 (1 : Int32) u k72
set_option maxHeartbeats 4000000 in
set_option maxRecDepth 20000 in
theorem wX10_counted_120 (C : mC p s m args meth c cX10_counted 7 (some .int) D cI cZ cJ o ad A) {x1 : Int32} {x2 : Int32} {x3 : Int32} {x5 : Int32} {s0 : Int32} {u : mS} {res : Int32 × mS} {k72 : Int32 → Int32 → Int32 → Int32 → Int32 → mS → Option (Int32 × mS)} (hk72 : ∀ (x1 : Int32) (x2 : Int32) (x3 : Int32) (x4 : Int32) (x5 : Int32) (u : mS) (H : Heap) (locs : List Loc) (ls : Array Slot), k72 x1 x2 x3 x4 x5 u = some res → va_P D vwCl (mW cI cZ cJ o ad u) H → va_S A s.heap H locs → lv_has ls 7 [(0, .ref o), (1, .int x1), (2, .int x2), (3, .int x3), (4, .int x4), (5, .int x5)] → W p l e rmX10_counted s m args below meth c H locs 0 0 (MQ below (mQi D cI cZ cJ o ad A res) args s 0 0 A) (F0 m 72 ls [])) (h : fX10_counted_120 x1 x2 x3 x5 s0 u k72 = some res) {H : Heap} {locs : List Loc} (hP : va_P D vwCl (mW cI cZ cJ o ad u) H) (hS : va_S A s.heap H locs) {ls : Array Slot} (hl : lv_has ls 7 [(0, .ref o), (1, .int x1), (2, .int x2), (3, .int x3), (5, .int x5)]) : W p l e rmX10_counted s m args below meth c H locs 0 0 (MQ below (mQi D cI cZ cJ o ad A res) args s 0 0 A) (F0 m 120 ls [.int s0]) := by
  have hx := C.1
  have hb := C.2.1
  unfold fX10_counted_120 at h
  refine lv_iconst (v := 1) hx hb dX10_counted_120 (by decide) ?_
  refine lv_goto (tgt := 125) hx hb dX10_counted_121 (by decide) ?_
  exact wX10_counted_125 C hk72 h hP hS (lv_sub hl [0, 1, 2, 3, 4] rfl)
def fX10_counted_72_b (x1 : Int32) (x2 : Int32) (x3 : Int32) (x4 : Int32) (x5 : Int32) (u : mS) (k72 : Int32 → Int32 → Int32 → Int32 → Int32 → mS → Option (Int32 × mS)) (k134 : Int32 → Int32 → Int32 → Int32 → mS → Option (Int32 × mS)) : Option (Int32 × mS) :=
  if (4 : Int32) ≤ x5 then (
    k134 x1 x2 x3 x4 u
  ) else (
    (mR u 14 80 (((4 : Int32) * x1) + x5)).bind fun v88 =>
    if v88 < 0 then (
      fX10_counted_120 x1 x2 x3 x5 x4 u k72
    ) else (
      if v88 = x3 then (
        fX10_counted_120 x1 x2 x3 x5 x4 u k72
      ) else (
        bI (fX10_handsFor x1 v88 u) fun r108 u108 =>
        bI (fX10_handsFor x1 x3 u108) fun r114 u114 =>
        if r114 ≤ r108 then (
          fX10_counted_125 x1 x2 x3 x5 x4 (0 : Int32) u114 k72
        ) else (
          fX10_counted_120 x1 x2 x3 x5 x4 u114 k72
        )
      )
    )
  )
set_option maxHeartbeats 4000000 in
set_option maxRecDepth 20000 in
theorem wX10_counted_72_b (C : mC p s m args meth c cX10_counted 7 (some .int) D cI cZ cJ o ad A) {x1 : Int32} {x2 : Int32} {x3 : Int32} {x4 : Int32} {x5 : Int32} {u : mS} {res : Int32 × mS} {k72 : Int32 → Int32 → Int32 → Int32 → Int32 → mS → Option (Int32 × mS)} {k134 : Int32 → Int32 → Int32 → Int32 → mS → Option (Int32 × mS)} (hk72 : ∀ (x1 : Int32) (x2 : Int32) (x3 : Int32) (x4 : Int32) (x5 : Int32) (u : mS) (H : Heap) (locs : List Loc) (ls : Array Slot), k72 x1 x2 x3 x4 x5 u = some res → va_P D vwCl (mW cI cZ cJ o ad u) H → va_S A s.heap H locs → lv_has ls 7 [(0, .ref o), (1, .int x1), (2, .int x2), (3, .int x3), (4, .int x4), (5, .int x5)] → W p l e rmX10_counted s m args below meth c H locs 0 0 (MQ below (mQi D cI cZ cJ o ad A res) args s 0 0 A) (F0 m 72 ls [])) (hk134 : ∀ (x1 : Int32) (x2 : Int32) (x3 : Int32) (x4 : Int32) (u : mS) (H : Heap) (locs : List Loc) (ls : Array Slot), k134 x1 x2 x3 x4 u = some res → va_P D vwCl (mW cI cZ cJ o ad u) H → va_S A s.heap H locs → lv_has ls 7 [(0, .ref o), (1, .int x1), (2, .int x2), (3, .int x3), (4, .int x4)] → W p l e rmX10_counted s m args below meth c H locs 0 0 (MQ below (mQi D cI cZ cJ o ad A res) args s 0 0 A) (F0 m 134 ls [])) (h : fX10_counted_72_b x1 x2 x3 x4 x5 u k72 k134 = some res) {H : Heap} {locs : List Loc} (hP : va_P D vwCl (mW cI cZ cJ o ad u) H) (hS : va_S A s.heap H locs) {ls : Array Slot} (hl : lv_has ls 7 [(0, .ref o), (1, .int x1), (2, .int x2), (3, .int x3), (4, .int x4), (5, .int x5)]) : W p l e rmX10_counted s m args below meth c H locs 0 0 (MQ below (mQi D cI cZ cJ o ad A res) args s 0 0 A) (F0 m 72 ls []) := by
  have hx := C.1
  have hb := C.2.1
  unfold fX10_counted_72_b at h
  refine lv_iload hx hb dX10_counted_72 (lv_at hl 5 rfl) ?_
  refine lv_iconst (v := 4) hx hb dX10_counted_74 (by decide) ?_
  refine lv_icmp_ge (tgt := 134) hx hb dX10_counted_75 (by decide) (fun hc => ?_) (fun hc => ?_)
  · replace h := it_pos hc h
    exact hk134 _ _ _ _ _ _ _ _ h hP hS (lv_sub hl [0, 1, 2, 3, 4] rfl)
  · replace h := it_neg hc h
    refine lv_aload_n hx hb dX10_counted_78 rfl (lv_at hl 0 rfl) ?_
    refine mg_counts C hP dX10_counted_79 ?_
    refine lv_iconst (v := 4) hx hb dX10_counted_82 (by decide) ?_
    refine lv_iload_n hx hb dX10_counted_83 rfl (lv_at hl 1 rfl) ?_
    refine lv_imul hx hb dX10_counted_84 ?_
    refine lv_iload hx hb dX10_counted_85 (lv_at hl 5 rfl) ?_
    refine lv_iadd hx hb dX10_counted_87 ?_
    obtain ⟨v88, e88, h⟩ := ob h
    refine ml_counts C hP e88 dX10_counted_88 ?_
    refine lv_istore (lv' := [(6, .int v88), (0, .ref o), (1, .int x1), (2, .int x2), (3, .int x3), (4, .int x4), (5, .int x5)]) hx hb dX10_counted_89 hl (by decide) rfl (fun ls hl => ?_)
    refine lv_iload hx hb dX10_counted_91 (lv_at hl 5 rfl) ?_
    refine lv_iload hx hb dX10_counted_93 (lv_at hl 0 rfl) ?_
    refine lv_if_lt (tgt := 120) hx hb dX10_counted_95 (by decide) (fun hc => ?_) (fun hc => ?_)
    · replace h := it_pos hc h
      exact wX10_counted_120 C hk72 h hP hS (lv_sub hl [1, 2, 3, 4, 6] rfl)
    · replace h := it_neg hc h
      refine lv_iload hx hb dX10_counted_98 (lv_at hl 0 rfl) ?_
      refine lv_iload_n hx hb dX10_counted_100 rfl (lv_at hl 4 rfl) ?_
      refine lv_icmp_eq (tgt := 120) hx hb dX10_counted_101 (by decide) (fun hc => ?_) (fun hc => ?_)
      · replace h := it_pos hc h
        exact wX10_counted_120 C hk72 h hP hS (lv_sub hl [1, 2, 3, 4, 6] rfl)
      · replace h := it_neg hc h
        refine lv_aload_n hx hb dX10_counted_104 rfl (lv_at hl 1 rfl) ?_
        refine lv_iload_n hx hb dX10_counted_105 rfl (lv_at hl 2 rfl) ?_
        refine lv_iload hx hb dX10_counted_106 (lv_at hl 0 rfl) ?_
        obtain ⟨r108, u108, e108, h⟩ := obI h
        refine mx_cVi C hP hS [.int x1, .int v88] (tX10_handsFor e108) qX10_235 ⟨rfl, rfl, Nat.le_of_ble_eq_true rfl, Nat.le_of_ble_eq_true rfl⟩ rfl hl.1 rfl (Nat.le_of_ble_eq_true rfl) dX10_counted_108 (fun H locs hP hS => ?_)
        refine lv_aload_n hx hb dX10_counted_111 rfl (lv_at hl 1 rfl) ?_
        refine lv_iload_n hx hb dX10_counted_112 rfl (lv_at hl 2 rfl) ?_
        refine lv_iload_n hx hb dX10_counted_113 rfl (lv_at hl 4 rfl) ?_
        obtain ⟨r114, u114, e114, h⟩ := obI h
        refine mx_cVi C hP hS [.int x1, .int x3] (tX10_handsFor e114) qX10_235 ⟨rfl, rfl, Nat.le_of_ble_eq_true rfl, Nat.le_of_ble_eq_true rfl⟩ rfl hl.1 rfl (Nat.le_of_ble_eq_true rfl) dX10_counted_114 (fun H locs hP hS => ?_)
        refine lv_icmp_ge (tgt := 124) hx hb dX10_counted_117 (by decide) (fun hc => ?_) (fun hc => ?_)
        · replace h := it_pos hc h
          refine lv_iconst (v := 0) hx hb dX10_counted_124 (by decide) ?_
          exact wX10_counted_125 C hk72 h hP hS (lv_sub hl [1, 2, 3, 4, 6] rfl)
        · replace h := it_neg hc h
          exact wX10_counted_120 C hk72 h hP hS (lv_sub hl [1, 2, 3, 4, 6] rfl)
def fX10_counted_72 (k134 : Int32 → Int32 → Int32 → Int32 → mS → Option (Int32 × mS)) : Nat → Int32 → Int32 → Int32 → Int32 → Int32 → mS → Option (Int32 × mS)
  | 0 => fun _ _ _ _ _ _ => none
  | n + 1 => fun x1 x2 x3 x4 x5 u => fX10_counted_72_b x1 x2 x3 x4 x5 u (fX10_counted_72 k134 n) k134 
theorem wX10_counted_72 (C : mC p s m args meth c cX10_counted 7 (some .int) D cI cZ cJ o ad A) {res : Int32 × mS} {k134 : Int32 → Int32 → Int32 → Int32 → mS → Option (Int32 × mS)} (hk134 : ∀ (x1 : Int32) (x2 : Int32) (x3 : Int32) (x4 : Int32) (u : mS) (H : Heap) (locs : List Loc) (ls : Array Slot), k134 x1 x2 x3 x4 u = some res → va_P D vwCl (mW cI cZ cJ o ad u) H → va_S A s.heap H locs → lv_has ls 7 [(0, .ref o), (1, .int x1), (2, .int x2), (3, .int x3), (4, .int x4)] → W p l e rmX10_counted s m args below meth c H locs 0 0 (MQ below (mQi D cI cZ cJ o ad A res) args s 0 0 A) (F0 m 134 ls [])) (n : Nat) : ∀ {x1 : Int32} {x2 : Int32} {x3 : Int32} {x4 : Int32} {x5 : Int32} {u : mS} {H : Heap} {locs : List Loc} {ls : Array Slot}, fX10_counted_72 k134 n x1 x2 x3 x4 x5 u = some res → va_P D vwCl (mW cI cZ cJ o ad u) H → va_S A s.heap H locs → lv_has ls 7 [(0, .ref o), (1, .int x1), (2, .int x2), (3, .int x3), (4, .int x4), (5, .int x5)] → W p l e rmX10_counted s m args below meth c H locs 0 0 (MQ below (mQi D cI cZ cJ o ad A res) args s 0 0 A) (F0 m 72 ls []) := by
  induction n with
  | zero => intro _ _ _ _ _ _ _ _ _ h _ _ _; cases (show (none : Option (Int32 × mS)) = some res from h)
  | succ n ih => intro _ _ _ _ _ _ _ _ _ h hP hS hl; exact wX10_counted_72_b C (fun _ _ _ _ _ _ _ _ _ h hP hS hl => ih h hP hS hl) hk134 h hP hS hl
def fX10_counted_67 (x1 : Int32) (x2 : Int32) (x3 : Int32) (s0 : Int32) (u : mS) (k32 : Int32 → Int32 → mS → Option (Int32 × mS)) : Option (Int32 × mS) :=
  fX10_counted_72 (fun x1 x2 x3 x4 u =>
        if x4 = 0 then (
          k32 x1 (x2 + (1 : Int32)) u
        ) else (
          some (x3, u)
        )) FU x1 x2 x3 s0 (0 : Int32) u
set_option maxHeartbeats 4000000 in
set_option maxRecDepth 20000 in
theorem wX10_counted_67 (C : mC p s m args meth c cX10_counted 7 (some .int) D cI cZ cJ o ad A) {x1 : Int32} {x2 : Int32} {x3 : Int32} {s0 : Int32} {u : mS} {res : Int32 × mS} {k32 : Int32 → Int32 → mS → Option (Int32 × mS)} (hk32 : ∀ (x1 : Int32) (x2 : Int32) (u : mS) (H : Heap) (locs : List Loc) (ls : Array Slot), k32 x1 x2 u = some res → va_P D vwCl (mW cI cZ cJ o ad u) H → va_S A s.heap H locs → lv_has ls 7 [(0, .ref o), (1, .int x1), (2, .int x2)] → W p l e rmX10_counted s m args below meth c H locs 0 0 (MQ below (mQi D cI cZ cJ o ad A res) args s 0 0 A) (F0 m 32 ls [])) (h : fX10_counted_67 x1 x2 x3 s0 u k32 = some res) {H : Heap} {locs : List Loc} (hP : va_P D vwCl (mW cI cZ cJ o ad u) H) (hS : va_S A s.heap H locs) {ls : Array Slot} (hl : lv_has ls 7 [(0, .ref o), (1, .int x1), (2, .int x2), (3, .int x3)]) : W p l e rmX10_counted s m args below meth c H locs 0 0 (MQ below (mQi D cI cZ cJ o ad A res) args s 0 0 A) (F0 m 67 ls [.int s0]) := by
  have hx := C.1
  have hb := C.2.1
  unfold fX10_counted_67 at h
  refine lv_istore (lv' := [(4, .int s0), (0, .ref o), (1, .int x1), (2, .int x2), (3, .int x3)]) hx hb dX10_counted_67 hl (by decide) rfl (fun ls hl => ?_)
  refine lv_iconst (v := 0) hx hb dX10_counted_69 (by decide) ?_
  refine lv_istore (lv' := [(5, .int (0 : Int32)), (4, .int s0), (0, .ref o), (1, .int x1), (2, .int x2), (3, .int x3)]) hx hb dX10_counted_70 hl (by decide) rfl (fun ls hl => ?_)
  refine wX10_counted_72 C ?_ FU h hP hS (lv_sub hl [2, 3, 4, 5, 1, 0] rfl)
  · intro x1 x2 x3 x4 u H locs ls h hP hS hl
    refine lv_iload hx hb dX10_counted_134 (lv_at hl 4 rfl) ?_
    refine lv_if_eq (tgt := 141) hx hb dX10_counted_136 (by decide) (fun hc => ?_) (fun hc => ?_)
    · replace h := it_pos hc h
      refine lv_iinc (v := x2 + (1 : Int32)) (lv' := [(2, .int (x2 + (1 : Int32))), (0, .ref o), (1, .int x1), (3, .int x3), (4, .int x4)]) hx hb dX10_counted_141 hl (k := 2) rfl rfl (by decide) rfl (fun ls hl => ?_)
      refine lv_goto (tgt := 32) hx hb dX10_counted_144 (by decide) ?_
      exact hk32 _ _ _ _ _ _ h hP hS (lv_sub hl [1, 2, 0] rfl)
    · replace h := it_neg hc h
      refine lv_iload_n hx hb dX10_counted_139 rfl (lv_at hl 3 rfl) ?_
      exact mx_reti C h hP hS dX10_counted_140
def fX10_counted_66 (x1 : Int32) (x2 : Int32) (x3 : Int32) (u : mS) (k32 : Int32 → Int32 → mS → Option (Int32 × mS)) : Option (Int32 × mS) :=
  fX10_counted_67 x1 x2 x3 (0 : Int32) u k32
set_option maxHeartbeats 4000000 in
set_option maxRecDepth 20000 in
theorem wX10_counted_66 (C : mC p s m args meth c cX10_counted 7 (some .int) D cI cZ cJ o ad A) {x1 : Int32} {x2 : Int32} {x3 : Int32} {u : mS} {res : Int32 × mS} {k32 : Int32 → Int32 → mS → Option (Int32 × mS)} (hk32 : ∀ (x1 : Int32) (x2 : Int32) (u : mS) (H : Heap) (locs : List Loc) (ls : Array Slot), k32 x1 x2 u = some res → va_P D vwCl (mW cI cZ cJ o ad u) H → va_S A s.heap H locs → lv_has ls 7 [(0, .ref o), (1, .int x1), (2, .int x2)] → W p l e rmX10_counted s m args below meth c H locs 0 0 (MQ below (mQi D cI cZ cJ o ad A res) args s 0 0 A) (F0 m 32 ls [])) (h : fX10_counted_66 x1 x2 x3 u k32 = some res) {H : Heap} {locs : List Loc} (hP : va_P D vwCl (mW cI cZ cJ o ad u) H) (hS : va_S A s.heap H locs) {ls : Array Slot} (hl : lv_has ls 7 [(0, .ref o), (1, .int x1), (2, .int x2), (3, .int x3)]) : W p l e rmX10_counted s m args below meth c H locs 0 0 (MQ below (mQi D cI cZ cJ o ad A res) args s 0 0 A) (F0 m 66 ls []) := by
  have hx := C.1
  have hb := C.2.1
  unfold fX10_counted_66 at h
  refine lv_iconst (v := 0) hx hb dX10_counted_66 (by decide) ?_
  exact wX10_counted_67 C hk32 h hP hS (lv_sub hl [0, 1, 2, 3] rfl)
def fX10_counted_32_b (x1 : Int32) (x2 : Int32) (u : mS) (k32 : Int32 → Int32 → mS → Option (Int32 × mS)) : Option (Int32 × mS) :=
  if (4 : Int32) ≤ x2 then (
    bI (fX10_finding (2 : Int32) u) fun r149 u149 =>
    some (r149, u149)
  ) else (
    (mR u 14 80 (((4 : Int32) * x1) + x2)).bind fun v46 =>
    if v46 < 0 then (
      fX10_counted_66 x1 x2 v46 u k32
    ) else (
      bI (fX10_handsFor x1 v46 u) fun r55 u55 =>
      if r55 ≤ (1 : Int32) then (
        fX10_counted_66 x1 x2 v46 u55 k32
      ) else (
        fX10_counted_67 x1 x2 v46 (1 : Int32) u55 k32
      )
    )
  )
set_option maxHeartbeats 4000000 in
set_option maxRecDepth 20000 in
theorem wX10_counted_32_b (C : mC p s m args meth c cX10_counted 7 (some .int) D cI cZ cJ o ad A) {x1 : Int32} {x2 : Int32} {u : mS} {res : Int32 × mS} {k32 : Int32 → Int32 → mS → Option (Int32 × mS)} (hk32 : ∀ (x1 : Int32) (x2 : Int32) (u : mS) (H : Heap) (locs : List Loc) (ls : Array Slot), k32 x1 x2 u = some res → va_P D vwCl (mW cI cZ cJ o ad u) H → va_S A s.heap H locs → lv_has ls 7 [(0, .ref o), (1, .int x1), (2, .int x2)] → W p l e rmX10_counted s m args below meth c H locs 0 0 (MQ below (mQi D cI cZ cJ o ad A res) args s 0 0 A) (F0 m 32 ls [])) (h : fX10_counted_32_b x1 x2 u k32 = some res) {H : Heap} {locs : List Loc} (hP : va_P D vwCl (mW cI cZ cJ o ad u) H) (hS : va_S A s.heap H locs) {ls : Array Slot} (hl : lv_has ls 7 [(0, .ref o), (1, .int x1), (2, .int x2)]) : W p l e rmX10_counted s m args below meth c H locs 0 0 (MQ below (mQi D cI cZ cJ o ad A res) args s 0 0 A) (F0 m 32 ls []) := by
  have hx := C.1
  have hb := C.2.1
  unfold fX10_counted_32_b at h
  refine lv_iload_n hx hb dX10_counted_32 rfl (lv_at hl 2 rfl) ?_
  refine lv_iconst (v := 4) hx hb dX10_counted_33 (by decide) ?_
  refine lv_icmp_ge (tgt := 147) hx hb dX10_counted_34 (by decide) (fun hc => ?_) (fun hc => ?_)
  · replace h := it_pos hc h
    refine lv_aload_n hx hb dX10_counted_147 rfl (lv_at hl 0 rfl) ?_
    refine lv_iconst (v := 2) hx hb dX10_counted_148 (by decide) ?_
    obtain ⟨r149, u149, e149, h⟩ := obI h
    refine mx_cVi C hP hS [.int (2 : Int32)] (tX10_finding e149) qX10_138 ⟨rfl, rfl, Nat.le_of_ble_eq_true rfl, Nat.le_of_ble_eq_true rfl⟩ rfl hl.1 rfl (Nat.le_of_ble_eq_true rfl) dX10_counted_149 (fun H locs hP hS => ?_)
    exact mx_reti C h hP hS dX10_counted_152
  · replace h := it_neg hc h
    refine lv_aload_n hx hb dX10_counted_37 rfl (lv_at hl 0 rfl) ?_
    refine mg_counts C hP dX10_counted_38 ?_
    refine lv_iconst (v := 4) hx hb dX10_counted_41 (by decide) ?_
    refine lv_iload_n hx hb dX10_counted_42 rfl (lv_at hl 1 rfl) ?_
    refine lv_imul hx hb dX10_counted_43 ?_
    refine lv_iload_n hx hb dX10_counted_44 rfl (lv_at hl 2 rfl) ?_
    refine lv_iadd hx hb dX10_counted_45 ?_
    obtain ⟨v46, e46, h⟩ := ob h
    refine ml_counts C hP e46 dX10_counted_46 ?_
    refine lv_istore_n (lv' := [(3, .int v46), (0, .ref o), (1, .int x1), (2, .int x2)]) hx hb dX10_counted_47 rfl hl (by decide) rfl (fun ls hl => ?_)
    refine lv_iload_n hx hb dX10_counted_48 rfl (lv_at hl 0 rfl) ?_
    refine lv_if_lt (tgt := 66) hx hb dX10_counted_49 (by decide) (fun hc => ?_) (fun hc => ?_)
    · replace h := it_pos hc h
      exact wX10_counted_66 C hk32 h hP hS (lv_sub hl [1, 2, 3, 0] rfl)
    · replace h := it_neg hc h
      refine lv_aload_n hx hb dX10_counted_52 rfl (lv_at hl 1 rfl) ?_
      refine lv_iload_n hx hb dX10_counted_53 rfl (lv_at hl 2 rfl) ?_
      refine lv_iload_n hx hb dX10_counted_54 rfl (lv_at hl 0 rfl) ?_
      obtain ⟨r55, u55, e55, h⟩ := obI h
      refine mx_cVi C hP hS [.int x1, .int v46] (tX10_handsFor e55) qX10_235 ⟨rfl, rfl, Nat.le_of_ble_eq_true rfl, Nat.le_of_ble_eq_true rfl⟩ rfl hl.1 rfl (Nat.le_of_ble_eq_true rfl) dX10_counted_55 (fun H locs hP hS => ?_)
      refine lv_iconst (v := 1) hx hb dX10_counted_58 (by decide) ?_
      refine lv_icmp_le (tgt := 66) hx hb dX10_counted_59 (by decide) (fun hc => ?_) (fun hc => ?_)
      · replace h := it_pos hc h
        exact wX10_counted_66 C hk32 h hP hS (lv_sub hl [1, 2, 3, 0] rfl)
      · replace h := it_neg hc h
        refine lv_iconst (v := 1) hx hb dX10_counted_62 (by decide) ?_
        refine lv_goto (tgt := 67) hx hb dX10_counted_63 (by decide) ?_
        exact wX10_counted_67 C hk32 h hP hS (lv_sub hl [1, 2, 3, 0] rfl)
def fX10_counted_32 : Nat → Int32 → Int32 → mS → Option (Int32 × mS)
  | 0 => fun _ _ _ => none
  | n + 1 => fun x1 x2 u => fX10_counted_32_b x1 x2 u (fX10_counted_32 n) 
theorem wX10_counted_32 (C : mC p s m args meth c cX10_counted 7 (some .int) D cI cZ cJ o ad A) {res : Int32 × mS} (n : Nat) : ∀ {x1 : Int32} {x2 : Int32} {u : mS} {H : Heap} {locs : List Loc} {ls : Array Slot}, fX10_counted_32 n x1 x2 u = some res → va_P D vwCl (mW cI cZ cJ o ad u) H → va_S A s.heap H locs → lv_has ls 7 [(0, .ref o), (1, .int x1), (2, .int x2)] → W p l e rmX10_counted s m args below meth c H locs 0 0 (MQ below (mQi D cI cZ cJ o ad A res) args s 0 0 A) (F0 m 32 ls []) := by
  induction n with
  | zero => intro _ _ _ _ _ _ h _ _ _; cases (show (none : Option (Int32 × mS)) = some res from h)
  | succ n ih => intro _ _ _ _ _ _ h hP hS hl; exact wX10_counted_32_b C (fun _ _ _ _ _ _ h hP hS hl => ih h hP hS hl) h hP hS hl
def fX10_counted (x1 : Int32) (u : mS) : Option (Int32 × mS) :=
  bI (fX10_isThing x1 u) fun r2 u2 =>
  if r2 = 0 then (
    bI (fX10_finding (1 : Int32) u2) fun r10 u10 =>
    some (r10, u10)
  ) else (
    (mR u2 3 20 x1).bind fun v19 =>
    if v19 = (3 : Int32) then (
      fX10_counted_32  FU x1 (0 : Int32) u2
    ) else (
      bI (fX10_finding (5 : Int32) u2) fun r26 u26 =>
      some (r26, u26)
    )
  )
set_option maxHeartbeats 4000000 in
set_option maxRecDepth 20000 in
theorem wX10_counted (C : mC p s m args meth c cX10_counted 7 (some .int) D cI cZ cJ o ad A) {x1 : Int32} {u : mS} {res : Int32 × mS} (h : fX10_counted x1 u = some res) {H : Heap} {locs : List Loc} (hP : va_P D vwCl (mW cI cZ cJ o ad u) H) (hS : va_S A s.heap H locs) {ls : Array Slot} (hl : lv_has ls 7 [(0, .ref o), (1, .int x1)]) : W p l e rmX10_counted s m args below meth c H locs 0 0 (MQ below (mQi D cI cZ cJ o ad A res) args s 0 0 A) (F0 m 0 ls []) := by
  have hx := C.1
  have hb := C.2.1
  unfold fX10_counted at h
  refine lv_aload_n hx hb dX10_counted_0 rfl (lv_at hl 0 rfl) ?_
  refine lv_iload_n hx hb dX10_counted_1 rfl (lv_at hl 1 rfl) ?_
  obtain ⟨r2, u2, e2, h⟩ := obI h
  refine mx_cVi C hP hS [.int x1] (tX10_isThing e2) qX10_150 ⟨rfl, rfl, Nat.le_of_ble_eq_true rfl, Nat.le_of_ble_eq_true rfl⟩ rfl hl.1 rfl (Nat.le_of_ble_eq_true rfl) dX10_counted_2 (fun H locs hP hS => ?_)
  refine lv_if_ne (tgt := 14) hx hb dX10_counted_5 (by decide) (fun hc => ?_) (fun hc => ?_)
  · replace h := it_neg hc h
    refine lv_aload_n hx hb dX10_counted_14 rfl (lv_at hl 0 rfl) ?_
    refine mg_kind C hP dX10_counted_15 ?_
    refine lv_iload_n hx hb dX10_counted_18 rfl (lv_at hl 1 rfl) ?_
    obtain ⟨v19, e19, h⟩ := ob h
    refine ml_kind C hP e19 dX10_counted_19 ?_
    refine lv_iconst (v := 3) hx hb dX10_counted_20 (by decide) ?_
    refine lv_icmp_eq (tgt := 30) hx hb dX10_counted_21 (by decide) (fun hc => ?_) (fun hc => ?_)
    · replace h := it_pos hc h
      refine lv_iconst (v := 0) hx hb dX10_counted_30 (by decide) ?_
      refine lv_istore_n (lv' := [(2, .int (0 : Int32)), (0, .ref o), (1, .int x1)]) hx hb dX10_counted_31 rfl hl (by decide) rfl (fun ls hl => ?_)
      exact wX10_counted_32 C  FU h hP hS (lv_sub hl [1, 2, 0] rfl)
    · replace h := it_neg hc h
      refine lv_aload_n hx hb dX10_counted_24 rfl (lv_at hl 0 rfl) ?_
      refine lv_iconst (v := 5) hx hb dX10_counted_25 (by decide) ?_
      obtain ⟨r26, u26, e26, h⟩ := obI h
      refine mx_cVi C hP hS [.int (5 : Int32)] (tX10_finding e26) qX10_138 ⟨rfl, rfl, Nat.le_of_ble_eq_true rfl, Nat.le_of_ble_eq_true rfl⟩ rfl hl.1 rfl (Nat.le_of_ble_eq_true rfl) dX10_counted_26 (fun H locs hP hS => ?_)
      exact mx_reti C h hP hS dX10_counted_29
  · replace h := it_pos hc h
    refine lv_aload_n hx hb dX10_counted_8 rfl (lv_at hl 0 rfl) ?_
    refine lv_iconst (v := 1) hx hb dX10_counted_9 (by decide) ?_
    obtain ⟨r10, u10, e10, h⟩ := obI h
    refine mx_cVi C hP hS [.int (1 : Int32)] (tX10_finding e10) qX10_138 ⟨rfl, rfl, Nat.le_of_ble_eq_true rfl, Nat.le_of_ble_eq_true rfl⟩ rfl hl.1 rfl (Nat.le_of_ble_eq_true rfl) dX10_counted_10 (fun H locs hP hS => ?_)
    exact mx_reti C h hP hS dX10_counted_13
theorem tX10_counted {D : va_G} {cI cZ cJ : ClassId} {o : Nat} {ad : Nat → Nat} {A : Nat → Prop} {x1 : Int32} {u : mS} {res : Int32 × mS} (h : fX10_counted x1 u = some res) : Met l yX10_counted (Cond.code yX10_counted cX10_counted 7 (some .int) :: gW) rmX10_counted (va_Pc [.ref o, .int x1] (mPre D cI cZ cJ o ad A u)) (mQi D cI cZ cJ o ad A res) 0 0 A :=
  mx_met ⟨by decide +kernel, rfl⟩ (Nat.le_of_ble_eq_true rfl) (fun p e s m below meth c ls C hP hl => wX10_counted C h hP va_S.rf hl)
end
