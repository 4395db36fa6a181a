section
variable {p : Program} {l : Launch} {e : Env} {s : State} {m : MethodId} {args : Array Value} {below : List Frame} {meth : Method} {c : Code} {D : va_G} {cI cZ cJ : ClassId} {o : Nat} {ad : Nat → Nat} {A : Nat → Prop}
abbrev rmX10_tellMatch : Room := { frames := 2, cells := 0, slots := 0, locals := 47 }
def fX10_tellMatch_56 (x1 : Int32) (x2 : Int32) (x3 : Int32) (s1 : Int32) (s2 : Int32) (u : mS) (k13 : Int32 → Int32 → Int32 → mS → Option (Int32 × mS)) : Option (Int32 × mS) :=
  (mU u 39 160 s1 s2).bind fun u56 =>
  k13 x1 x2 (x3 + (1 : Int32)) u56
set_option maxHeartbeats 4000000 in
set_option maxRecDepth 20000 in
theorem wX10_tellMatch_56 (C : mC p s m args meth c cX10_tellMatch 8 (some .int) D cI cZ cJ o ad A) {x1 : Int32} {x2 : Int32} {x3 : Int32} {s1 : Int32} {s2 : Int32} {u : mS} {res : Int32 × mS} {k13 : Int32 → Int32 → Int32 → mS → Option (Int32 × mS)} (hk13 : ∀ (x1 : Int32) (x2 : Int32) (x3 : Int32) (u : mS) (H : Heap) (locs : List Loc) (ls : Array Slot), k13 x1 x2 x3 u = some res → va_P D vwCl (mW cI cZ cJ o ad u) H → va_S A s.heap H locs → lv_has ls 8 [(0, .ref o), (1, .int x1), (2, .int x2), (3, .int x3)] → W p l e rmX10_tellMatch s m args below meth c H locs 0 0 (MQ below (mQi D cI cZ cJ o ad A res) args s 0 0 A) (F0 m 13 ls [])) (h : fX10_tellMatch_56 x1 x2 x3 s1 s2 u k13 = some res) {H : Heap} {locs : List Loc} (hP : va_P D vwCl (mW cI cZ cJ o ad u) H) (hS : va_S A s.heap H locs) {ls : Array Slot} (hl : lv_has ls 8 [(0, .ref o), (1, .int x1), (2, .int x2), (3, .int x3)]) : W p l e rmX10_tellMatch s m args below meth c H locs 0 0 (MQ below (mQi D cI cZ cJ o ad A res) args s 0 0 A) (F0 m 56 ls [.int s2, .int s1, .ref (ad 39)]) := by
  have hx := C.1
  have hb := C.2.1
  unfold fX10_tellMatch_56 at h
  obtain ⟨u56, e56, h⟩ := ob h
  refine ms_likes C hP hS e56 dX10_tellMatch_56 (fun H locs hP hS => ?_)
  refine lv_iinc (v := x3 + (1 : Int32)) (lv' := [(3, .int (x3 + (1 : Int32))), (0, .ref o), (1, .int x1), (2, .int x2)]) hx hb dX10_tellMatch_57 hl (k := 3) rfl rfl (by decide) rfl (fun ls hl => ?_)
  refine lv_goto (tgt := 13) hx hb dX10_tellMatch_60 (by decide) ?_
  exact hk13 _ _ _ _ _ _ _ h hP hS (lv_sub hl [1, 2, 3, 0] rfl)
def fX10_tellMatch_13_b (x1 : Int32) (x2 : Int32) (x3 : Int32) (u : mS) (k13 : Int32 → Int32 → Int32 → mS → Option (Int32 × mS)) (k63 : Int32 → Int32 → mS → Option (Int32 × mS)) : Option (Int32 × mS) :=
  if ((20 : Int32) * (u.1 17)) ≤ x3 then (
    k63 x1 x2 u
  ) else (
    if (u.1 2) ≤ (x3 - x3 / (20 : Int32) * (20 : Int32)) then (
      fX10_tellMatch_56 x1 x2 x3 x3 (0 : Int32) u k13
    ) else (
      bI (fX10_like (x3 / (20 : Int32)) (x3 - x3 / (20 : Int32) * (20 : Int32)) u) fun r49 u49 =>
      fX10_tellMatch_56 x1 x2 x3 x3 r49 u49 k13
    )
  )
set_option maxHeartbeats 4000000 in
set_option maxRecDepth 20000 in
theorem wX10_tellMatch_13_b (C : mC p s m args meth c cX10_tellMatch 8 (some .int) D cI cZ cJ o ad A) {x1 : Int32} {x2 : Int32} {x3 : Int32} {u : mS} {res : Int32 × mS} {k13 : Int32 → Int32 → Int32 → mS → Option (Int32 × mS)} {k63 : Int32 → Int32 → mS → Option (Int32 × mS)} (hk13 : ∀ (x1 : Int32) (x2 : Int32) (x3 : Int32) (u : mS) (H : Heap) (locs : List Loc) (ls : Array Slot), k13 x1 x2 x3 u = some res → va_P D vwCl (mW cI cZ cJ o ad u) H → va_S A s.heap H locs → lv_has ls 8 [(0, .ref o), (1, .int x1), (2, .int x2), (3, .int x3)] → W p l e rmX10_tellMatch s m args below meth c H locs 0 0 (MQ below (mQi D cI cZ cJ o ad A res) args s 0 0 A) (F0 m 13 ls [])) (hk63 : ∀ (x1 : Int32) (x2 : Int32) (u : mS) (H : Heap) (locs : List Loc) (ls : Array Slot), k63 x1 x2 u = some res → va_P D vwCl (mW cI cZ cJ o ad u) H → va_S A s.heap H locs → lv_has ls 8 [(0, .ref o), (1, .int x1), (2, .int x2)] → W p l e rmX10_tellMatch s m args below meth c H locs 0 0 (MQ below (mQi D cI cZ cJ o ad A res) args s 0 0 A) (F0 m 63 ls [])) (h : fX10_tellMatch_13_b x1 x2 x3 u k13 k63 = some res) {H : Heap} {locs : List Loc} (hP : va_P D vwCl (mW cI cZ cJ o ad u) H) (hS : va_S A s.heap H locs) {ls : Array Slot} (hl : lv_has ls 8 [(0, .ref o), (1, .int x1), (2, .int x2), (3, .int x3)]) : W p l e rmX10_tellMatch s m args below meth c H locs 0 0 (MQ below (mQi D cI cZ cJ o ad A res) args s 0 0 A) (F0 m 13 ls []) := by
  have hx := C.1
  have hb := C.2.1
  unfold fX10_tellMatch_13_b at h
  refine lv_iload_n hx hb dX10_tellMatch_13 rfl (lv_at hl 3 rfl) ?_
  refine lv_bipush (v := 20) hx hb dX10_tellMatch_14 (by decide) ?_
  refine lv_aload_n hx hb dX10_tellMatch_16 rfl (lv_at hl 0 rfl) ?_
  refine mg_seekers C hP dX10_tellMatch_17 ?_
  refine lv_imul hx hb dX10_tellMatch_20 ?_
  refine lv_icmp_ge (tgt := 63) hx hb dX10_tellMatch_21 (by decide) (fun hc => ?_) (fun hc => ?_)
  · replace h := it_pos hc h
    exact hk63 _ _ _ _ _ _ h hP hS (lv_sub hl [0, 1, 2] rfl)
  · replace h := it_neg hc h
    refine lv_aload_n hx hb dX10_tellMatch_24 rfl (lv_at hl 0 rfl) ?_
    refine mg_likes C hP dX10_tellMatch_25 ?_
    refine lv_iload_n hx hb dX10_tellMatch_28 rfl (lv_at hl 3 rfl) ?_
    refine lv_iload_n hx hb dX10_tellMatch_29 rfl (lv_at hl 3 rfl) ?_
    refine lv_bipush (v := 20) hx hb dX10_tellMatch_30 (by decide) ?_
    refine lv_irem hx hb dX10_tellMatch_32 (by decide) ?_
    refine lv_aload_n hx hb dX10_tellMatch_33 rfl (lv_at hl 0 rfl) ?_
    refine mg_things C hP dX10_tellMatch_34 ?_
    refine lv_icmp_ge (tgt := 55) hx hb dX10_tellMatch_37 (by decide) (fun hc => ?_) (fun hc => ?_)
    · replace h := it_pos hc h
      refine lv_iconst (v := 0) hx hb dX10_tellMatch_55 (by decide) ?_
      exact wX10_tellMatch_56 C hk13 h hP hS (lv_sub hl [0, 1, 2, 3] rfl)
    · replace h := it_neg hc h
      refine lv_aload_n hx hb dX10_tellMatch_40 rfl (lv_at hl 0 rfl) ?_
      refine lv_iload_n hx hb dX10_tellMatch_41 rfl (lv_at hl 3 rfl) ?_
      refine lv_bipush (v := 20) hx hb dX10_tellMatch_42 (by decide) ?_
      refine lv_idiv hx hb dX10_tellMatch_44 (by decide) ?_
      refine lv_iload_n hx hb dX10_tellMatch_45 rfl (lv_at hl 3 rfl) ?_
      refine lv_bipush (v := 20) hx hb dX10_tellMatch_46 (by decide) ?_
      refine lv_irem hx hb dX10_tellMatch_48 (by decide) ?_
      obtain ⟨r49, u49, e49, h⟩ := obI h
      refine mx_cVi C hP hS [.int (x3 / (20 : Int32)), .int (x3 - x3 / (20 : Int32) * (20 : Int32))] (tX10_like e49) qX10_159 ⟨rfl, rfl, Nat.le_of_ble_eq_true rfl, Nat.le_of_ble_eq_true rfl⟩ rfl hl.1 rfl (Nat.le_of_ble_eq_true rfl) dX10_tellMatch_49 (fun H locs hP hS => ?_)
      refine lv_goto (tgt := 56) hx hb dX10_tellMatch_52 (by decide) ?_
      exact wX10_tellMatch_56 C hk13 h hP hS (lv_sub hl [0, 1, 2, 3] rfl)
def fX10_tellMatch_13 (k63 : Int32 → Int32 → mS → Option (Int32 × mS)) : Nat → Int32 → Int32 → Int32 → mS → Option (Int32 × mS)
  | 0 => fun _ _ _ _ => none
  | n + 1 => fun x1 x2 x3 u => fX10_tellMatch_13_b x1 x2 x3 u (fX10_tellMatch_13 k63 n) k63 
theorem wX10_tellMatch_13 (C : mC p s m args meth c cX10_tellMatch 8 (some .int) D cI cZ cJ o ad A) {res : Int32 × mS} {k63 : Int32 → Int32 → mS → Option (Int32 × mS)} (hk63 : ∀ (x1 : Int32) (x2 : Int32) (u : mS) (H : Heap) (locs : List Loc) (ls : Array Slot), k63 x1 x2 u = some res → va_P D vwCl (mW cI cZ cJ o ad u) H → va_S A s.heap H locs → lv_has ls 8 [(0, .ref o), (1, .int x1), (2, .int x2)] → W p l e rmX10_tellMatch s m args below meth c H locs 0 0 (MQ below (mQi D cI cZ cJ o ad A res) args s 0 0 A) (F0 m 63 ls [])) (n : Nat) : ∀ {x1 : Int32} {x2 : Int32} {x3 : Int32} {u : mS} {H : Heap} {locs : List Loc} {ls : Array Slot}, fX10_tellMatch_13 k63 n x1 x2 x3 u = some res → va_P D vwCl (mW cI cZ cJ o ad u) H → va_S A s.heap H locs → lv_has ls 8 [(0, .ref o), (1, .int x1), (2, .int x2), (3, .int x3)] → W p l e rmX10_tellMatch s m args below meth c H locs 0 0 (MQ below (mQi D cI cZ cJ o ad A res) args s 0 0 A) (F0 m 13 ls []) := by
  induction n with
  | zero => intro _ _ _ _ _ _ _ h _ _ _; cases (show (none : Option (Int32 × mS)) = some res from h)
  | succ n ih => intro _ _ _ _ _ _ _ h hP hS hl; exact wX10_tellMatch_13_b C (fun _ _ _ _ _ _ _ h hP hS hl => ih h hP hS hl) hk63 h hP hS hl
def fX10_tellMatch_193 (x1 : Int32) (x2 : Int32) (x3 : Int32) (x4 : Int32) (x5 : Int32) (x6 : Int32) (u : mS) (k103 : Int32 → Int32 → Int32 → Int32 → Int32 → Int32 → mS → Option (Int32 × mS)) : Option (Int32 × mS) :=
  k103 x1 x2 x3 x4 x5 (x6 + (1 : Int32)) u
set_option maxHeartbeats 4000000 in
set_option maxRecDepth 20000 in
theorem wX10_tellMatch_193 (C : mC p s m args meth c cX10_tellMatch 8 (some .int) D cI cZ cJ o ad A) {x1 : Int32} {x2 : Int32} {x3 : Int32} {x4 : Int32} {x5 : Int32} {x6 : Int32} {u : mS} {res : Int32 × mS} {k103 : Int32 → Int32 → Int32 → Int32 → Int32 → Int32 → mS → Option (Int32 × mS)} (hk103 : ∀ (x1 : Int32) (x2 : Int32) (x3 : Int32) (x4 : Int32) (x5 : Int32) (x6 : Int32) (u : mS) (H : Heap) (locs : List Loc) (ls : Array Slot), k103 x1 x2 x3 x4 x5 x6 u = some res → va_P D vwCl (mW cI cZ cJ o ad u) H → va_S A s.heap H locs → lv_has ls 8 [(0, .ref o), (1, .int x1), (2, .int x2), (3, .int x3), (4, .int x4), (5, .int x5), (6, .int x6)] → W p l e rmX10_tellMatch s m args below meth c H locs 0 0 (MQ below (mQi D cI cZ cJ o ad A res) args s 0 0 A) (F0 m 103 ls [])) (h : fX10_tellMatch_193 x1 x2 x3 x4 x5 x6 u k103 = some res) {H : Heap} {locs : List Loc} (hP : va_P D vwCl (mW cI cZ cJ o ad u) H) (hS : va_S A s.heap H locs) {ls : Array Slot} (hl : lv_has ls 8 [(0, .ref o), (1, .int x1), (2, .int x2), (3, .int x3), (4, .int x4), (5, .int x5), (6, .int x6)]) : W p l e rmX10_tellMatch s m args below meth c H locs 0 0 (MQ below (mQi D cI cZ cJ o ad A res) args s 0 0 A) (F0 m 193 ls []) := by
  have hx := C.1
  have hb := C.2.1
  unfold fX10_tellMatch_193 at h
  refine lv_iinc (v := x6 + (1 : Int32)) (lv' := [(6, .int (x6 + (1 : Int32))), (0, .ref o), (1, .int x1), (2, .int x2), (3, .int x3), (4, .int x4), (5, .int x5)]) hx hb dX10_tellMatch_193 hl (k := 6) rfl rfl (by decide) rfl (fun ls hl => ?_)
  refine lv_goto (tgt := 103) hx hb dX10_tellMatch_196 (by decide) ?_
  exact hk103 _ _ _ _ _ _ _ _ _ _ h hP hS (lv_sub hl [1, 2, 3, 4, 5, 6, 0] rfl)
def fX10_tellMatch_103_b (x1 : Int32) (x2 : Int32) (x3 : Int32) (x4 : Int32) (x5 : Int32) (x6 : Int32) (u : mS) (k103 : Int32 → Int32 → Int32 → Int32 → Int32 → Int32 → mS → Option (Int32 × mS)) (k199 : Int32 → Int32 → Int32 → Int32 → Int32 → mS → Option (Int32 × mS)) : Option (Int32 × mS) :=
  if (u.1 2) ≤ x6 then (
    k199 x1 x2 x3 x4 x5 u
  ) else (
    (mR u 36 8 x5).bind fun v118 =>
    if 0 ≤ v118 then (
      k199 x1 x2 x3 x4 x5 u
    ) else (
      (mR u 39 160 (((20 : Int32) * x5) + x6)).bind fun v134 =>
      if ((x2 >>> (x6 &&& 31)) &&& (1 : Int32)) = 0 then (
        if v134 ≤ 0 then (
          fX10_tellMatch_193 x1 x2 x3 x4 x5 x6 u k103
        ) else (
          bI (fX10_mostOf x1 (x2 ||| ((1 : Int32) <<< (x6 &&& 31))) u) fun r161 u161 =>
          if (v134 + r161) = x4 then (
            (mU u161 36 8 x5 x6).bind fun u178 =>
            pU (x2 ||| ((1 : Int32) <<< (x6 &&& 31))) fun z185 =>
            fX10_tellMatch_193 x1 z185 x3 (x4 - v134) x5 x6 u178 k103
          ) else (
            fX10_tellMatch_193 x1 x2 x3 x4 x5 x6 u161 k103
          )
        )
      ) else (
        fX10_tellMatch_193 x1 x2 x3 x4 x5 x6 u k103
      )
    )
  )
set_option maxHeartbeats 4000000 in
set_option maxRecDepth 20000 in
theorem wX10_tellMatch_103_b (C : mC p s m args meth c cX10_tellMatch 8 (some .int) D cI cZ cJ o ad A) {x1 : Int32} {x2 : Int32} {x3 : Int32} {x4 : Int32} {x5 : Int32} {x6 : Int32} {u : mS} {res : Int32 × mS} {k103 : Int32 → Int32 → Int32 → Int32 → Int32 → Int32 → mS → Option (Int32 × mS)} {k199 : Int32 → Int32 → Int32 → Int32 → Int32 → mS → Option (Int32 × mS)} (hk103 : ∀ (x1 : Int32) (x2 : Int32) (x3 : Int32) (x4 : Int32) (x5 : Int32) (x6 : Int32) (u : mS) (H : Heap) (locs : List Loc) (ls : Array Slot), k103 x1 x2 x3 x4 x5 x6 u = some res → va_P D vwCl (mW cI cZ cJ o ad u) H → va_S A s.heap H locs → lv_has ls 8 [(0, .ref o), (1, .int x1), (2, .int x2), (3, .int x3), (4, .int x4), (5, .int x5), (6, .int x6)] → W p l e rmX10_tellMatch s m args below meth c H locs 0 0 (MQ below (mQi D cI cZ cJ o ad A res) args s 0 0 A) (F0 m 103 ls [])) (hk199 : ∀ (x1 : Int32) (x2 : Int32) (x3 : Int32) (x4 : Int32) (x5 : Int32) (u : mS) (H : Heap) (locs : List Loc) (ls : Array Slot), k199 x1 x2 x3 x4 x5 u = some res → va_P D vwCl (mW cI cZ cJ o ad u) H → va_S A s.heap H locs → lv_has ls 8 [(0, .ref o), (1, .int x1), (2, .int x2), (3, .int x3), (4, .int x4), (5, .int x5)] → W p l e rmX10_tellMatch s m args below meth c H locs 0 0 (MQ below (mQi D cI cZ cJ o ad A res) args s 0 0 A) (F0 m 199 ls [])) (h : fX10_tellMatch_103_b x1 x2 x3 x4 x5 x6 u k103 k199 = some res) {H : Heap} {locs : List Loc} (hP : va_P D vwCl (mW cI cZ cJ o ad u) H) (hS : va_S A s.heap H locs) {ls : Array Slot} (hl : lv_has ls 8 [(0, .ref o), (1, .int x1), (2, .int x2), (3, .int x3), (4, .int x4), (5, .int x5), (6, .int x6)]) : W p l e rmX10_tellMatch s m args below meth c H locs 0 0 (MQ below (mQi D cI cZ cJ o ad A res) args s 0 0 A) (F0 m 103 ls []) := by
  have hx := C.1
  have hb := C.2.1
  unfold fX10_tellMatch_103_b at h
  refine lv_iload hx hb dX10_tellMatch_103 (lv_at hl 6 rfl) ?_
  refine lv_aload_n hx hb dX10_tellMatch_105 rfl (lv_at hl 0 rfl) ?_
  refine mg_things C hP dX10_tellMatch_106 ?_
  refine lv_icmp_ge (tgt := 199) hx hb dX10_tellMatch_109 (by decide) (fun hc => ?_) (fun hc => ?_)
  · replace h := it_pos hc h
    exact hk199 _ _ _ _ _ _ _ _ _ h hP hS (lv_sub hl [0, 1, 2, 3, 4, 5] rfl)
  · replace h := it_neg hc h
    refine lv_aload_n hx hb dX10_tellMatch_112 rfl (lv_at hl 0 rfl) ?_
    refine mg_match C hP dX10_tellMatch_113 ?_
    refine lv_iload hx hb dX10_tellMatch_116 (lv_at hl 5 rfl) ?_
    obtain ⟨v118, e118, h⟩ := ob h
    refine ml_match C hP e118 dX10_tellMatch_118 ?_
    refine lv_if_ge (tgt := 199) hx hb dX10_tellMatch_119 (by decide) (fun hc => ?_) (fun hc => ?_)
    · replace h := it_pos hc h
      exact hk199 _ _ _ _ _ _ _ _ _ h hP hS (lv_sub hl [0, 1, 2, 3, 4, 5] rfl)
    · replace h := it_neg hc h
      refine lv_aload_n hx hb dX10_tellMatch_122 rfl (lv_at hl 0 rfl) ?_
      refine mg_likes C hP dX10_tellMatch_123 ?_
      refine lv_bipush (v := 20) hx hb dX10_tellMatch_126 (by decide) ?_
      refine lv_iload hx hb dX10_tellMatch_128 (lv_at hl 5 rfl) ?_
      refine lv_imul hx hb dX10_tellMatch_130 ?_
      refine lv_iload hx hb dX10_tellMatch_131 (lv_at hl 6 rfl) ?_
      refine lv_iadd hx hb dX10_tellMatch_133 ?_
      obtain ⟨v134, e134, h⟩ := ob h
      refine ml_likes C hP e134 dX10_tellMatch_134 ?_
      refine lv_istore (lv' := [(7, .int v134), (0, .ref o), (1, .int x1), (2, .int x2), (3, .int x3), (4, .int x4), (5, .int x5), (6, .int x6)]) hx hb dX10_tellMatch_135 hl (by decide) rfl (fun ls hl => ?_)
      refine lv_iload_n hx hb dX10_tellMatch_137 rfl (lv_at hl 3 rfl) ?_
      refine lv_iload hx hb dX10_tellMatch_138 (lv_at hl 7 rfl) ?_
      refine lv_ishr hx hb dX10_tellMatch_140 ?_
      refine lv_iconst (v := 1) hx hb dX10_tellMatch_141 (by decide) ?_
      refine lv_iand hx hb dX10_tellMatch_142 ?_
      refine lv_if_ne (tgt := 193) hx hb dX10_tellMatch_143 (by decide) (fun hc => ?_) (fun hc => ?_)
      · replace h := it_neg hc h
        exact wX10_tellMatch_193 C hk103 h hP hS (lv_sub hl [1, 2, 3, 4, 5, 6, 7] rfl)
      · replace h := it_pos hc h
        refine lv_iload hx hb dX10_tellMatch_146 (lv_at hl 0 rfl) ?_
        refine lv_if_le (tgt := 193) hx hb dX10_tellMatch_148 (by decide) (fun hc => ?_) (fun hc => ?_)
        · replace h := it_pos hc h
          exact wX10_tellMatch_193 C hk103 h hP hS (lv_sub hl [1, 2, 3, 4, 5, 6, 7] rfl)
        · replace h := it_neg hc h
          refine lv_iload hx hb dX10_tellMatch_151 (lv_at hl 0 rfl) ?_
          refine lv_aload_n hx hb dX10_tellMatch_153 rfl (lv_at hl 1 rfl) ?_
          refine lv_iload_n hx hb dX10_tellMatch_154 rfl (lv_at hl 2 rfl) ?_
          refine lv_iload_n hx hb dX10_tellMatch_155 rfl (lv_at hl 3 rfl) ?_
          refine lv_iconst (v := 1) hx hb dX10_tellMatch_156 (by decide) ?_
          refine lv_iload hx hb dX10_tellMatch_157 (lv_at hl 7 rfl) ?_
          refine lv_ishl hx hb dX10_tellMatch_159 ?_
          refine lv_ior hx hb dX10_tellMatch_160 ?_
          obtain ⟨r161, u161, e161, h⟩ := obI h
          refine mx_cVi C hP hS [.int x1, .int (x2 ||| ((1 : Int32) <<< (x6 &&& 31)))] (tX10_mostOf e161) qX10_163 ⟨rfl, rfl, Nat.le_of_ble_eq_true rfl, Nat.le_of_ble_eq_true rfl⟩ rfl hl.1 rfl (Nat.le_of_ble_eq_true rfl) dX10_tellMatch_161 (fun H locs hP hS => ?_)
          refine lv_iadd hx hb dX10_tellMatch_164 ?_
          refine lv_iload hx hb dX10_tellMatch_165 (lv_at hl 5 rfl) ?_
          refine lv_icmp_ne (tgt := 193) hx hb dX10_tellMatch_167 (by decide) (fun hc => ?_) (fun hc => ?_)
          · replace h := it_neg hc h
            exact wX10_tellMatch_193 C hk103 h hP hS (lv_sub hl [1, 2, 3, 4, 5, 6, 7] rfl)
          · replace h := it_pos hc h
            refine lv_aload_n hx hb dX10_tellMatch_170 rfl (lv_at hl 1 rfl) ?_
            refine mg_match C hP dX10_tellMatch_171 ?_
            refine lv_iload hx hb dX10_tellMatch_174 (lv_at hl 6 rfl) ?_
            refine lv_iload hx hb dX10_tellMatch_176 (lv_at hl 7 rfl) ?_
            obtain ⟨u178, e178, h⟩ := ob h
            refine ms_match C hP hS e178 dX10_tellMatch_178 (fun H locs hP hS => ?_)
            refine lv_iload_n hx hb dX10_tellMatch_179 rfl (lv_at hl 3 rfl) ?_
            refine lv_iconst (v := 1) hx hb dX10_tellMatch_180 (by decide) ?_
            refine lv_iload hx hb dX10_tellMatch_181 (lv_at hl 7 rfl) ?_
            refine lv_ishl hx hb dX10_tellMatch_183 ?_
            refine lv_ior hx hb dX10_tellMatch_184 ?_
            obtain ⟨z185, ez185, h⟩ := op h
            refine mx_topI ez185 ?_
            refine lv_istore_n (lv' := [(2, .int z185), (7, .int v134), (0, .ref o), (1, .int x1), (3, .int x3), (4, .int x4), (5, .int x5), (6, .int x6)]) hx hb dX10_tellMatch_185 rfl hl (by decide) rfl (fun ls hl => ?_)
            refine lv_iload hx hb dX10_tellMatch_186 (lv_at hl 5 rfl) ?_
            refine lv_iload hx hb dX10_tellMatch_188 (lv_at hl 1 rfl) ?_
            refine lv_isub hx hb dX10_tellMatch_190 ?_
            refine lv_istore (lv' := [(4, .int (x4 - v134)), (2, .int z185), (7, .int v134), (0, .ref o), (1, .int x1), (3, .int x3), (5, .int x5), (6, .int x6)]) hx hb dX10_tellMatch_191 hl (by decide) rfl (fun ls hl => ?_)
            exact wX10_tellMatch_193 C hk103 h hP hS (lv_sub hl [3, 4, 1, 5, 0, 6, 7] rfl)
def fX10_tellMatch_103 (k199 : Int32 → Int32 → Int32 → Int32 → Int32 → mS → Option (Int32 × mS)) : Nat → Int32 → Int32 → Int32 → Int32 → Int32 → Int32 → mS → Option (Int32 × mS)
  | 0 => fun _ _ _ _ _ _ _ => none
  | n + 1 => fun x1 x2 x3 x4 x5 x6 u => fX10_tellMatch_103_b x1 x2 x3 x4 x5 x6 u (fX10_tellMatch_103 k199 n) k199 
theorem wX10_tellMatch_103 (C : mC p s m args meth c cX10_tellMatch 8 (some .int) D cI cZ cJ o ad A) {res : Int32 × mS} {k199 : Int32 → Int32 → Int32 → Int32 → Int32 → mS → Option (Int32 × mS)} (hk199 : ∀ (x1 : Int32) (x2 : Int32) (x3 : Int32) (x4 : Int32) (x5 : Int32) (u : mS) (H : Heap) (locs : List Loc) (ls : Array Slot), k199 x1 x2 x3 x4 x5 u = some res → va_P D vwCl (mW cI cZ cJ o ad u) H → va_S A s.heap H locs → lv_has ls 8 [(0, .ref o), (1, .int x1), (2, .int x2), (3, .int x3), (4, .int x4), (5, .int x5)] → W p l e rmX10_tellMatch s m args below meth c H locs 0 0 (MQ below (mQi D cI cZ cJ o ad A res) args s 0 0 A) (F0 m 199 ls [])) (n : Nat) : ∀ {x1 : Int32} {x2 : Int32} {x3 : Int32} {x4 : Int32} {x5 : Int32} {x6 : Int32} {u : mS} {H : Heap} {locs : List Loc} {ls : Array Slot}, fX10_tellMatch_103 k199 n x1 x2 x3 x4 x5 x6 u = some res → va_P D vwCl (mW cI cZ cJ o ad u) H → va_S A s.heap H locs → lv_has ls 8 [(0, .ref o), (1, .int x1), (2, .int x2), (3, .int x3), (4, .int x4), (5, .int x5), (6, .int x6)] → W p l e rmX10_tellMatch s m args below meth c H locs 0 0 (MQ below (mQi D cI cZ cJ o ad A res) args s 0 0 A) (F0 m 103 ls []) := by
  induction n with
  | zero => intro _ _ _ _ _ _ _ _ _ _ h _ _ _; cases (show (none : Option (Int32 × mS)) = some res from h)
  | succ n ih => intro _ _ _ _ _ _ _ _ _ _ h hP hS hl; exact wX10_tellMatch_103_b C (fun _ _ _ _ _ _ _ _ _ _ h hP hS hl => ih h hP hS hl) hk199 h hP hS hl
def fX10_tellMatch_199 (x1 : Int32) (x2 : Int32) (x3 : Int32) (x4 : Int32) (x5 : Int32) (u : mS) (k76 : Int32 → Int32 → Int32 → Int32 → Int32 → mS → Option (Int32 × mS)) : Option (Int32 × mS) :=
  k76 x1 x2 x3 x4 (x5 + (1 : Int32)) u
set_option maxHeartbeats 4000000 in
set_option maxRecDepth 20000 in
theorem wX10_tellMatch_199 (C : mC p s m args meth c cX10_tellMatch 8 (some .int) D cI cZ cJ o ad A) {x1 : Int32} {x2 : Int32} {x3 : Int32} {x4 : Int32} {x5 : Int32} {u : mS} {res : Int32 × mS} {k76 : Int32 → Int32 → Int32 → Int32 → Int32 → mS → Option (Int32 × mS)} (hk76 : ∀ (x1 : Int32) (x2 : Int32) (x3 : Int32) (x4 : Int32) (x5 : Int32) (u : mS) (H : Heap) (locs : List Loc) (ls : Array Slot), k76 x1 x2 x3 x4 x5 u = some res → va_P D vwCl (mW cI cZ cJ o ad u) H → va_S A s.heap H locs → lv_has ls 8 [(0, .ref o), (1, .int x1), (2, .int x2), (3, .int x3), (4, .int x4), (5, .int x5)] → W p l e rmX10_tellMatch s m args below meth c H locs 0 0 (MQ below (mQi D cI cZ cJ o ad A res) args s 0 0 A) (F0 m 76 ls [])) (h : fX10_tellMatch_199 x1 x2 x3 x4 x5 u k76 = some res) {H : Heap} {locs : List Loc} (hP : va_P D vwCl (mW cI cZ cJ o ad u) H) (hS : va_S A s.heap H locs) {ls : Array Slot} (hl : lv_has ls 8 [(0, .ref o), (1, .int x1), (2, .int x2), (3, .int x3), (4, .int x4), (5, .int x5)]) : W p l e rmX10_tellMatch s m args below meth c H locs 0 0 (MQ below (mQi D cI cZ cJ o ad A res) args s 0 0 A) (F0 m 199 ls []) := by
  have hx := C.1
  have hb := C.2.1
  unfold fX10_tellMatch_199 at h
  refine lv_iinc (v := x5 + (1 : Int32)) (lv' := [(5, .int (x5 + (1 : Int32))), (0, .ref o), (1, .int x1), (2, .int x2), (3, .int x3), (4, .int x4)]) hx hb dX10_tellMatch_199 hl (k := 5) rfl rfl (by decide) rfl (fun ls hl => ?_)
  refine lv_goto (tgt := 76) hx hb dX10_tellMatch_202 (by decide) ?_
  exact hk76 _ _ _ _ _ _ _ _ _ h hP hS (lv_sub hl [1, 2, 3, 4, 5, 0] rfl)
def fX10_tellMatch_76_b (x1 : Int32) (x2 : Int32) (x3 : Int32) (x4 : Int32) (x5 : Int32) (u : mS) (k76 : Int32 → Int32 → Int32 → Int32 → Int32 → mS → Option (Int32 × mS)) : Option (Int32 × mS) :=
  if (u.1 17) ≤ x5 then (
    some (x3, u)
  ) else (
    pU (x1 ^^^ ((1 : Int32) <<< (x5 &&& 31))) fun z91 =>
    (mU u 36 8 x5 (-1 : Int32)).bind fun u99 =>
    fX10_tellMatch_103 (fun x1 x2 x3 x4 x5 u =>
          fX10_tellMatch_199 x1 x2 x3 x4 x5 u k76) FU z91 x2 x3 x4 x5 (0 : Int32) u99
  )
set_option maxHeartbeats 4000000 in
set_option maxRecDepth 20000 in
theorem wX10_tellMatch_76_b (C : mC p s m args meth c cX10_tellMatch 8 (some .int) D cI cZ cJ o ad A) {x1 : Int32} {x2 : Int32} {x3 : Int32} {x4 : Int32} {x5 : Int32} {u : mS} {res : Int32 × mS} {k76 : Int32 → Int32 → Int32 → Int32 → Int32 → mS → Option (Int32 × mS)} (hk76 : ∀ (x1 : Int32) (x2 : Int32) (x3 : Int32) (x4 : Int32) (x5 : Int32) (u : mS) (H : Heap) (locs : List Loc) (ls : Array Slot), k76 x1 x2 x3 x4 x5 u = some res → va_P D vwCl (mW cI cZ cJ o ad u) H → va_S A s.heap H locs → lv_has ls 8 [(0, .ref o), (1, .int x1), (2, .int x2), (3, .int x3), (4, .int x4), (5, .int x5)] → W p l e rmX10_tellMatch s m args below meth c H locs 0 0 (MQ below (mQi D cI cZ cJ o ad A res) args s 0 0 A) (F0 m 76 ls [])) (h : fX10_tellMatch_76_b x1 x2 x3 x4 x5 u k76 = some res) {H : Heap} {locs : List Loc} (hP : va_P D vwCl (mW cI cZ cJ o ad u) H) (hS : va_S A s.heap H locs) {ls : Array Slot} (hl : lv_has ls 8 [(0, .ref o), (1, .int x1), (2, .int x2), (3, .int x3), (4, .int x4), (5, .int x5)]) : W p l e rmX10_tellMatch s m args below meth c H locs 0 0 (MQ below (mQi D cI cZ cJ o ad A res) args s 0 0 A) (F0 m 76 ls []) := by
  have hx := C.1
  have hb := C.2.1
  unfold fX10_tellMatch_76_b at h
  refine lv_iload hx hb dX10_tellMatch_76 (lv_at hl 5 rfl) ?_
  refine lv_aload_n hx hb dX10_tellMatch_78 rfl (lv_at hl 0 rfl) ?_
  refine mg_seekers C hP dX10_tellMatch_79 ?_
  refine lv_icmp_ge (tgt := 205) hx hb dX10_tellMatch_82 (by decide) (fun hc => ?_) (fun hc => ?_)
  · replace h := it_pos hc h
    refine lv_iload_n hx hb dX10_tellMatch_205 rfl (lv_at hl 3 rfl) ?_
    exact mx_reti C h hP hS dX10_tellMatch_206
  · replace h := it_neg hc h
    refine lv_iload_n hx hb dX10_tellMatch_85 rfl (lv_at hl 1 rfl) ?_
    refine lv_iconst (v := 1) hx hb dX10_tellMatch_86 (by decide) ?_
    refine lv_iload hx hb dX10_tellMatch_87 (lv_at hl 5 rfl) ?_
    refine lv_ishl hx hb dX10_tellMatch_89 ?_
    refine lv_ixor hx hb dX10_tellMatch_90 ?_
    obtain ⟨z91, ez91, h⟩ := op h
    refine mx_topI ez91 ?_
    refine lv_istore_n (lv' := [(1, .int z91), (0, .ref o), (2, .int x2), (3, .int x3), (4, .int x4), (5, .int x5)]) hx hb dX10_tellMatch_91 rfl hl (by decide) rfl (fun ls hl => ?_)
    refine lv_aload_n hx hb dX10_tellMatch_92 rfl (lv_at hl 1 rfl) ?_
    refine mg_match C hP dX10_tellMatch_93 ?_
    refine lv_iload hx hb dX10_tellMatch_96 (lv_at hl 5 rfl) ?_
    refine lv_iconst (v := -1) hx hb dX10_tellMatch_98 (by decide) ?_
    obtain ⟨u99, e99, h⟩ := ob h
    refine ms_match C hP hS e99 dX10_tellMatch_99 (fun H locs hP hS => ?_)
    refine lv_iconst (v := 0) hx hb dX10_tellMatch_100 (by decide) ?_
    refine lv_istore (lv' := [(6, .int (0 : Int32)), (1, .int z91), (0, .ref o), (2, .int x2), (3, .int x3), (4, .int x4), (5, .int x5)]) hx hb dX10_tellMatch_101 hl (by decide) rfl (fun ls hl => ?_)
    refine wX10_tellMatch_103 C ?_ FU h hP hS (lv_sub hl [2, 1, 3, 4, 5, 6, 0] rfl)
    · intro x1 x2 x3 x4 x5 u H locs ls h hP hS hl
      exact wX10_tellMatch_199 C hk76 h hP hS (lv_sub hl [0, 1, 2, 3, 4, 5] rfl)
def fX10_tellMatch_76 : Nat → Int32 → Int32 → Int32 → Int32 → Int32 → mS → Option (Int32 × mS)
  | 0 => fun _ _ _ _ _ _ => none
  | n + 1 => fun x1 x2 x3 x4 x5 u => fX10_tellMatch_76_b x1 x2 x3 x4 x5 u (fX10_tellMatch_76 n) 
theorem wX10_tellMatch_76 (C : mC p s m args meth c cX10_tellMatch 8 (some .int) D cI cZ cJ o ad A) {res : Int32 × mS} (n : Nat) : ∀ {x1 : Int32} {x2 : Int32} {x3 : Int32} {x4 : Int32} {x5 : Int32} {u : mS} {H : Heap} {locs : List Loc} {ls : Array Slot}, fX10_tellMatch_76 n x1 x2 x3 x4 x5 u = some res → va_P D vwCl (mW cI cZ cJ o ad u) H → va_S A s.heap H locs → lv_has ls 8 [(0, .ref o), (1, .int x1), (2, .int x2), (3, .int x3), (4, .int x4), (5, .int x5)] → W p l e rmX10_tellMatch s m args below meth c H locs 0 0 (MQ below (mQi D cI cZ cJ o ad A res) args s 0 0 A) (F0 m 76 ls []) := by
  induction n with
  | zero => intro _ _ _ _ _ _ _ _ _ h _ _ _; cases (show (none : Option (Int32 × mS)) = some res from h)
  | succ n ih => intro _ _ _ _ _ _ _ _ _ h hP hS hl; exact wX10_tellMatch_76_b C (fun _ _ _ _ _ _ _ _ _ h hP hS hl => ih h hP hS hl) h hP hS hl
def fX10_tellMatch (u : mS) : Option (Int32 × mS) :=
  pU (((1 : Int32) <<< ((u.1 17) &&& 31)) - (1 : Int32)) fun z8 =>
  fX10_tellMatch_13 (fun x1 x2 u =>
        bI (fX10_mostOf x1 (0 : Int32) u) fun r66 u66 =>
        fX10_tellMatch_76  FU x1 x2 r66 r66 (0 : Int32) u66) FU z8 (0 : Int32) (0 : Int32) u
set_option maxHeartbeats 4000000 in
set_option maxRecDepth 20000 in
theorem wX10_tellMatch (C : mC p s m args meth c cX10_tellMatch 8 (some .int) D cI cZ cJ o ad A) {u : mS} {res : Int32 × mS} (h : fX10_tellMatch u = some res) {H : Heap} {locs : List Loc} (hP : va_P D vwCl (mW cI cZ cJ o ad u) H) (hS : va_S A s.heap H locs) {ls : Array Slot} (hl : lv_has ls 8 [(0, .ref o)]) : W p l e rmX10_tellMatch s m args below meth c H locs 0 0 (MQ below (mQi D cI cZ cJ o ad A res) args s 0 0 A) (F0 m 0 ls []) := by
  have hx := C.1
  have hb := C.2.1
  unfold fX10_tellMatch at h
  refine lv_iconst (v := 1) hx hb dX10_tellMatch_0 (by decide) ?_
  refine lv_aload_n hx hb dX10_tellMatch_1 rfl (lv_at hl 0 rfl) ?_
  refine mg_seekers C hP dX10_tellMatch_2 ?_
  refine lv_ishl hx hb dX10_tellMatch_5 ?_
  refine lv_iconst (v := 1) hx hb dX10_tellMatch_6 (by decide) ?_
  refine lv_isub hx hb dX10_tellMatch_7 ?_
  obtain ⟨z8, ez8, h⟩ := op h
  refine mx_topI ez8 ?_
  refine lv_istore_n (lv' := [(1, .int z8), (0, .ref o)]) hx hb dX10_tellMatch_8 rfl hl (by decide) rfl (fun ls hl => ?_)
  refine lv_iconst (v := 0) hx hb dX10_tellMatch_9 (by decide) ?_
  refine lv_istore_n (lv' := [(2, .int (0 : Int32)), (1, .int z8), (0, .ref o)]) hx hb dX10_tellMatch_10 rfl hl (by decide) rfl (fun ls hl => ?_)
  refine lv_iconst (v := 0) hx hb dX10_tellMatch_11 (by decide) ?_
  refine lv_istore_n (lv' := [(3, .int (0 : Int32)), (2, .int (0 : Int32)), (1, .int z8), (0, .ref o)]) hx hb dX10_tellMatch_12 rfl hl (by decide) rfl (fun ls hl => ?_)
  refine wX10_tellMatch_13 C ?_ FU h hP hS (lv_sub hl [3, 2, 1, 0] rfl)
  · intro x1 x2 u H locs ls h hP hS hl
    refine lv_aload_n hx hb dX10_tellMatch_63 rfl (lv_at hl 0 rfl) ?_
    refine lv_iload_n hx hb dX10_tellMatch_64 rfl (lv_at hl 1 rfl) ?_
    refine lv_iconst (v := 0) hx hb dX10_tellMatch_65 (by decide) ?_
    obtain ⟨r66, u66, e66, h⟩ := obI h
    refine mx_cVi C hP hS [.int x1, .int (0 : Int32)] (tX10_mostOf e66) qX10_163 ⟨rfl, rfl, Nat.le_of_ble_eq_true rfl, Nat.le_of_ble_eq_true rfl⟩ rfl hl.1 rfl (Nat.le_of_ble_eq_true rfl) dX10_tellMatch_66 (fun H locs hP hS => ?_)
    refine lv_istore_n (lv' := [(3, .int r66), (0, .ref o), (1, .int x1), (2, .int x2)]) hx hb dX10_tellMatch_69 rfl hl (by decide) rfl (fun ls hl => ?_)
    refine lv_iload_n hx hb dX10_tellMatch_70 rfl (lv_at hl 0 rfl) ?_
    refine lv_istore (lv' := [(4, .int r66), (3, .int r66), (0, .ref o), (1, .int x1), (2, .int x2)]) hx hb dX10_tellMatch_71 hl (by decide) rfl (fun ls hl => ?_)
    refine lv_iconst (v := 0) hx hb dX10_tellMatch_73 (by decide) ?_
    refine lv_istore (lv' := [(5, .int (0 : Int32)), (4, .int r66), (3, .int r66), (0, .ref o), (1, .int x1), (2, .int x2)]) hx hb dX10_tellMatch_74 hl (by decide) rfl (fun ls hl => ?_)
    exact wX10_tellMatch_76 C  FU h hP hS (lv_sub hl [3, 4, 5, 2, 1, 0] rfl)
theorem tX10_tellMatch {D : va_G} {cI cZ cJ : ClassId} {o : Nat} {ad : Nat → Nat} {A : Nat → Prop} {u : mS} {res : Int32 × mS} (h : fX10_tellMatch u = some res) : Met l yX10_tellMatch (Cond.code yX10_tellMatch cX10_tellMatch 8 (some .int) :: gW) rmX10_tellMatch (va_Pc [.ref o] (mPre D cI cZ cJ o ad A u)) (mQi D cI cZ cJ o ad A res) 0 0 A :=
  mx_met ⟨by decide +kernel, rfl⟩ (Nat.le_of_ble_eq_true rfl) (fun p e s m below meth c ls C hP hl => wX10_tellMatch C h hP va_S.rf hl)
abbrev rmX10_match : Room := { frames := 3, cells := 0, slots := 0, locals := 74 }
def fX10_match_19 (x1 : Int32) (u : mS) : Option (Int32 × mS) :=
  bI (fX10_tellMatch u) fun r20 u20 =>
  if 0 ≤ x1 then (
    (mR u20 36 8 x1).bind fun v37 =>
    if 0 ≤ v37 then (
      (mR u20 36 8 x1).bind fun v54 =>
      some (v54, u20)
    ) else (
      bI (fX10_finding (2 : Int32) u20) fun r43 u43 =>
      some (r43, u43)
    )
  ) else (
    some (r20, u20)
  )
set_option maxHeartbeats 4000000 in
set_option maxRecDepth 20000 in
theorem wX10_match_19 (C : mC p s m args meth c cX10_match 3 (some .int) D cI cZ cJ o ad A) {x1 : Int32} {u : mS} {res : Int32 × mS} (h : fX10_match_19 x1 u = some res) {H : Heap} {locs : List Loc} (hP : va_P D vwCl (mW cI cZ cJ o ad u) H) (hS : va_S A s.heap H locs) {ls : Array Slot} (hl : lv_has ls 3 [(0, .ref o), (1, .int x1)]) : W p l e rmX10_match s m args below meth c H locs 0 0 (MQ below (mQi D cI cZ cJ o ad A res) args s 0 0 A) (F0 m 19 ls []) := by
  have hx := C.1
  have hb := C.2.1
  unfold fX10_match_19 at h
  refine lv_aload_n hx hb dX10_match_19 rfl (lv_at hl 0 rfl) ?_
  obtain ⟨r20, u20, e20, h⟩ := obI h
  refine mx_cVi C hP hS [] (tX10_tellMatch e20) qX10_166 ⟨rfl, rfl, Nat.le_of_ble_eq_true rfl, Nat.le_of_ble_eq_true rfl⟩ rfl hl.1 rfl (Nat.le_of_ble_eq_true rfl) dX10_match_20 (fun H locs hP hS => ?_)
  refine lv_istore_n (lv' := [(2, .int r20), (0, .ref o), (1, .int x1)]) hx hb dX10_match_23 rfl hl (by decide) rfl (fun ls hl => ?_)
  refine lv_iload_n hx hb dX10_match_24 rfl (lv_at hl 2 rfl) ?_
  refine lv_if_ge (tgt := 32) hx hb dX10_match_25 (by decide) (fun hc => ?_) (fun hc => ?_)
  · replace h := it_pos hc h
    refine lv_aload_n hx hb dX10_match_32 rfl (lv_at hl 1 rfl) ?_
    refine mg_match C hP dX10_match_33 ?_
    refine lv_iload_n hx hb dX10_match_36 rfl (lv_at hl 2 rfl) ?_
    obtain ⟨v37, e37, h⟩ := ob h
    refine ml_match C hP e37 dX10_match_37 ?_
    refine lv_if_ge (tgt := 49) hx hb dX10_match_38 (by decide) (fun hc => ?_) (fun hc => ?_)
    · replace h := it_pos hc h
      refine lv_aload_n hx hb dX10_match_49 rfl (lv_at hl 1 rfl) ?_
      refine mg_match C hP dX10_match_50 ?_
      refine lv_iload_n hx hb dX10_match_53 rfl (lv_at hl 2 rfl) ?_
      obtain ⟨v54, e54, h⟩ := ob h
      refine ml_match C hP e54 dX10_match_54 ?_
      exact mx_reti C h hP hS dX10_match_55
    · replace h := it_neg hc h
      refine lv_aload_n hx hb dX10_match_41 rfl (lv_at hl 1 rfl) ?_
      refine lv_iconst (v := 2) hx hb dX10_match_42 (by decide) ?_
      obtain ⟨r43, u43, e43, h⟩ := obI h
      refine mx_cVi C hP hS [.int (2 : Int32)] (tX10_finding e43) qX10_138 ⟨rfl, rfl, Nat.le_of_ble_eq_true rfl, Nat.le_of_ble_eq_true rfl⟩ rfl hl.1 rfl (Nat.le_of_ble_eq_true rfl) dX10_match_43 (fun H locs hP hS => ?_)
      refine lv_goto (tgt := 55) hx hb dX10_match_46 (by decide) ?_
      exact mx_reti C h hP hS dX10_match_55
  · replace h := it_neg hc h
    refine lv_iload_n hx hb dX10_match_28 rfl (lv_at hl 0 rfl) ?_
    refine lv_goto (tgt := 55) hx hb dX10_match_29 (by decide) ?_
    exact mx_reti C h hP hS dX10_match_55
def fX10_match (x1 : Int32) (u : mS) : Option (Int32 × mS) :=
  if x1 = (-1 : Int32) then (
    fX10_match_19 x1 u 
  ) else (
    bI (fX10_isSeeker x1 u) fun r7 u7 =>
    if r7 = 0 then (
      bI (fX10_finding (1 : Int32) u7) fun r15 u15 =>
      some (r15, u15)
    ) else (
      fX10_match_19 x1 u7 
    )
  )
set_option maxHeartbeats 4000000 in
set_option maxRecDepth 20000 in
theorem wX10_match (C : mC p s m args meth c cX10_match 3 (some .int) D cI cZ cJ o ad A) {x1 : Int32} {u : mS} {res : Int32 × mS} (h : fX10_match x1 u = some res) {H : Heap} {locs : List Loc} (hP : va_P D vwCl (mW cI cZ cJ o ad u) H) (hS : va_S A s.heap H locs) {ls : Array Slot} (hl : lv_has ls 3 [(0, .ref o), (1, .int x1)]) : W p l e rmX10_match s m args below meth c H locs 0 0 (MQ below (mQi D cI cZ cJ o ad A res) args s 0 0 A) (F0 m 0 ls []) := by
  have hx := C.1
  have hb := C.2.1
  unfold fX10_match at h
  refine lv_iload_n hx hb dX10_match_0 rfl (lv_at hl 1 rfl) ?_
  refine lv_iconst (v := -1) hx hb dX10_match_1 (by decide) ?_
  refine lv_icmp_eq (tgt := 19) hx hb dX10_match_2 (by decide) (fun hc => ?_) (fun hc => ?_)
  · replace h := it_pos hc h
    exact wX10_match_19 C  h hP hS (lv_sub hl [0, 1] rfl)
  · replace h := it_neg hc h
    refine lv_aload_n hx hb dX10_match_5 rfl (lv_at hl 0 rfl) ?_
    refine lv_iload_n hx hb dX10_match_6 rfl (lv_at hl 1 rfl) ?_
    obtain ⟨r7, u7, e7, h⟩ := obI h
    refine mx_cVi C hP hS [.int x1] (tX10_isSeeker e7) qX10_156 ⟨rfl, rfl, Nat.le_of_ble_eq_true rfl, Nat.le_of_ble_eq_true rfl⟩ rfl hl.1 rfl (Nat.le_of_ble_eq_true rfl) dX10_match_7 (fun H locs hP hS => ?_)
    refine lv_if_ne (tgt := 19) hx hb dX10_match_10 (by decide) (fun hc => ?_) (fun hc => ?_)
    · replace h := it_neg hc h
      exact wX10_match_19 C  h hP hS (lv_sub hl [0, 1] rfl)
    · replace h := it_pos hc h
      refine lv_aload_n hx hb dX10_match_13 rfl (lv_at hl 0 rfl) ?_
      refine lv_iconst (v := 1) hx hb dX10_match_14 (by decide) ?_
      obtain ⟨r15, u15, e15, h⟩ := obI h
      refine mx_cVi C hP hS [.int (1 : Int32)] (tX10_finding e15) qX10_138 ⟨rfl, rfl, Nat.le_of_ble_eq_true rfl, Nat.le_of_ble_eq_true rfl⟩ rfl hl.1 rfl (Nat.le_of_ble_eq_true rfl) dX10_match_15 (fun H locs hP hS => ?_)
      exact mx_reti C h hP hS dX10_match_18
theorem tX10_match {D : va_G} {cI cZ cJ : ClassId} {o : Nat} {ad : Nat → Nat} {A : Nat → Prop} {x1 : Int32} {u : mS} {res : Int32 × mS} (h : fX10_match x1 u = some res) : Met l yX10_match (Cond.code yX10_match cX10_match 3 (some .int) :: gW) rmX10_match (va_Pc [.ref o, .int x1] (mPre D cI cZ cJ o ad A u)) (mQi D cI cZ cJ o ad A res) 0 0 A :=
  mx_met ⟨by decide +kernel, rfl⟩ (Nat.le_of_ble_eq_true rfl) (fun p e s m below meth c ls C hP hl => wX10_match C h hP va_S.rf hl)
abbrev rmX10_seen : Room := { frames := 1, cells := 0, slots := 0, locals := 22 }
def fX10_seen_121 (x1 : Int32) (x4 : Int32) (s0 : Int32) (s1 : Int32) (u : mS) (k84 : Int32 → Int32 → Int32 → mS → Option (Int32 × mS)) : Option (Int32 × mS) :=
  k84 x1 (s0 + s1) (x4 + (1 : Int32)) u
set_option maxHeartbeats 4000000 in
set_option maxRecDepth 20000 in
theorem wX10_seen_121 (C : mC p s m args meth c cX10_seen 5 (some .int) D cI cZ cJ o ad A) {x1 : Int32} {x4 : Int32} {s0 : Int32} {s1 : Int32} {u : mS} {res : Int32 × mS} {k84 : Int32 → Int32 → Int32 → mS → Option (Int32 × mS)} (hk84 : ∀ (x1 : Int32) (x3 : Int32) (x4 : Int32) (u : mS) (H : Heap) (locs : List Loc) (ls : Array Slot), k84 x1 x3 x4 u = some res → va_P D vwCl (mW cI cZ cJ o ad u) H → va_S A s.heap H locs → lv_has ls 5 [(0, .ref o), (1, .int x1), (3, .int x3), (4, .int x4)] → W p l e rmX10_seen s m args below meth c H locs 0 0 (MQ below (mQi D cI cZ cJ o ad A res) args s 0 0 A) (F0 m 84 ls [])) (h : fX10_seen_121 x1 x4 s0 s1 u k84 = some res) {H : Heap} {locs : List Loc} (hP : va_P D vwCl (mW cI cZ cJ o ad u) H) (hS : va_S A s.heap H locs) {ls : Array Slot} (hl : lv_has ls 5 [(0, .ref o), (1, .int x1), (4, .int x4)]) : W p l e rmX10_seen s m args below meth c H locs 0 0 (MQ below (mQi D cI cZ cJ o ad A res) args s 0 0 A) (F0 m 121 ls [.int s1, .int s0]) := by
  have hx := C.1
  have hb := C.2.1
  unfold fX10_seen_121 at h
  refine lv_iadd hx hb dX10_seen_121 ?_
  refine lv_istore_n (lv' := [(3, .int (s0 + s1)), (0, .ref o), (1, .int x1), (4, .int x4)]) hx hb dX10_seen_122 rfl hl (by decide) rfl (fun ls hl => ?_)
  refine lv_iinc (v := x4 + (1 : Int32)) (lv' := [(4, .int (x4 + (1 : Int32))), (3, .int (s0 + s1)), (0, .ref o), (1, .int x1)]) hx hb dX10_seen_123 hl (k := 3) rfl rfl (by decide) rfl (fun ls hl => ?_)
  refine lv_goto (tgt := 84) hx hb dX10_seen_126 (by decide) ?_
  exact hk84 _ _ _ _ _ _ _ h hP hS (lv_sub hl [2, 3, 1, 0] rfl)
def fX10_seen_120 (x1 : Int32) (x4 : Int32) (s0 : Int32) (u : mS) (k84 : Int32 → Int32 → Int32 → mS → Option (Int32 × mS)) : Option (Int32 × mS) :=
  fX10_seen_121 x1 x4 s0 (0 : Int32) u k84
set_option maxHeartbeats 4000000 in
set_option maxRecDepth 20000 in
theorem wX10_seen_120 (C : mC p s m args meth c cX10_seen 5 (some .int) D cI cZ cJ o ad A) {x1 : Int32} {x4 : Int32} {s0 : Int32} {u : mS} {res : Int32 × mS} {k84 : Int32 → Int32 → Int32 → mS → Option (Int32 × mS)} (hk84 : ∀ (x1 : Int32) (x3 : Int32) (x4 : Int32) (u : mS) (H : Heap) (locs : List Loc) (ls : Array Slot), k84 x1 x3 x4 u = some res → va_P D vwCl (mW cI cZ cJ o ad u) H → va_S A s.heap H locs → lv_has ls 5 [(0, .ref o), (1, .int x1), (3, .int x3), (4, .int x4)] → W p l e rmX10_seen s m args below meth c H locs 0 0 (MQ below (mQi D cI cZ cJ o ad A res) args s 0 0 A) (F0 m 84 ls [])) (h : fX10_seen_120 x1 x4 s0 u k84 = some res) {H : Heap} {locs : List Loc} (hP : va_P D vwCl (mW cI cZ cJ o ad u) H) (hS : va_S A s.heap H locs) {ls : Array Slot} (hl : lv_has ls 5 [(0, .ref o), (1, .int x1), (4, .int x4)]) : W p l e rmX10_seen s m args below meth c H locs 0 0 (MQ below (mQi D cI cZ cJ o ad A res) args s 0 0 A) (F0 m 120 ls [.int s0]) := by
  have hx := C.1
  have hb := C.2.1
  unfold fX10_seen_120 at h
  refine lv_iconst (v := 0) hx hb dX10_seen_120 (by decide) ?_
  exact wX10_seen_121 C hk84 h hP hS (lv_sub hl [0, 1, 2] rfl)
def fX10_seen_84_b (x1 : Int32) (x3 : Int32) (x4 : Int32) (u : mS) (k84 : Int32 → Int32 → Int32 → mS → Option (Int32 × mS)) : Option (Int32 × mS) :=
  if (u.1 2) ≤ x4 then (
    some (x3, u)
  ) else (
    (mR u 9 20 x4).bind fun v100 =>
    if v100 = (1 : Int32) then (
      (mR u 10 20 x4).bind fun v111 =>
      if v111 = x1 then (
        fX10_seen_121 x1 x4 x3 (1 : Int32) u k84
      ) else (
        fX10_seen_120 x1 x4 x3 u k84
      )
    ) else (
      fX10_seen_120 x1 x4 x3 u k84
    )
  )
set_option maxHeartbeats 4000000 in
set_option maxRecDepth 20000 in
theorem wX10_seen_84_b (C : mC p s m args meth c cX10_seen 5 (some .int) D cI cZ cJ o ad A) {x1 : Int32} {x3 : Int32} {x4 : Int32} {u : mS} {res : Int32 × mS} {k84 : Int32 → Int32 → Int32 → mS → Option (Int32 × mS)} (hk84 : ∀ (x1 : Int32) (x3 : Int32) (x4 : Int32) (u : mS) (H : Heap) (locs : List Loc) (ls : Array Slot), k84 x1 x3 x4 u = some res → va_P D vwCl (mW cI cZ cJ o ad u) H → va_S A s.heap H locs → lv_has ls 5 [(0, .ref o), (1, .int x1), (3, .int x3), (4, .int x4)] → W p l e rmX10_seen s m args below meth c H locs 0 0 (MQ below (mQi D cI cZ cJ o ad A res) args s 0 0 A) (F0 m 84 ls [])) (h : fX10_seen_84_b x1 x3 x4 u k84 = some res) {H : Heap} {locs : List Loc} (hP : va_P D vwCl (mW cI cZ cJ o ad u) H) (hS : va_S A s.heap H locs) {ls : Array Slot} (hl : lv_has ls 5 [(0, .ref o), (1, .int x1), (3, .int x3), (4, .int x4)]) : W p l e rmX10_seen s m args below meth c H locs 0 0 (MQ below (mQi D cI cZ cJ o ad A res) args s 0 0 A) (F0 m 84 ls []) := by
  have hx := C.1
  have hb := C.2.1
  unfold fX10_seen_84_b at h
  refine lv_iload hx hb dX10_seen_84 (lv_at hl 3 rfl) ?_
  refine lv_aload_n hx hb dX10_seen_86 rfl (lv_at hl 0 rfl) ?_
  refine mg_things C hP dX10_seen_87 ?_
  refine lv_icmp_ge (tgt := 129) hx hb dX10_seen_90 (by decide) (fun hc => ?_) (fun hc => ?_)
  · replace h := it_pos hc h
    refine lv_iload_n hx hb dX10_seen_129 rfl (lv_at hl 2 rfl) ?_
    exact mx_reti C h hP hS dX10_seen_130
  · replace h := it_neg hc h
    refine lv_iload_n hx hb dX10_seen_93 rfl (lv_at hl 2 rfl) ?_
    refine lv_aload_n hx hb dX10_seen_94 rfl (lv_at hl 0 rfl) ?_
    refine mg_is C hP dX10_seen_95 ?_
    refine lv_iload hx hb dX10_seen_98 (lv_at hl 3 rfl) ?_
    obtain ⟨v100, e100, h⟩ := ob h
    refine ml_is C hP e100 dX10_seen_100 ?_
    refine lv_iconst (v := 1) hx hb dX10_seen_101 (by decide) ?_
    refine lv_icmp_ne (tgt := 120) hx hb dX10_seen_102 (by decide) (fun hc => ?_) (fun hc => ?_)
    · replace h := it_neg hc h
      exact wX10_seen_120 C hk84 h hP hS (lv_sub hl [0, 1, 3] rfl)
    · replace h := it_pos hc h
      refine lv_aload_n hx hb dX10_seen_105 rfl (lv_at hl 0 rfl) ?_
      refine mg_hasIt C hP dX10_seen_106 ?_
      refine lv_iload hx hb dX10_seen_109 (lv_at hl 3 rfl) ?_
      obtain ⟨v111, e111, h⟩ := ob h
      refine ml_hasIt C hP e111 dX10_seen_111 ?_
      refine lv_iload_n hx hb dX10_seen_112 rfl (lv_at hl 1 rfl) ?_
      refine lv_icmp_ne (tgt := 120) hx hb dX10_seen_113 (by decide) (fun hc => ?_) (fun hc => ?_)
      · replace h := it_neg hc h
        exact wX10_seen_120 C hk84 h hP hS (lv_sub hl [0, 1, 3] rfl)
      · replace h := it_pos hc h
        refine lv_iconst (v := 1) hx hb dX10_seen_116 (by decide) ?_
        refine lv_goto (tgt := 121) hx hb dX10_seen_117 (by decide) ?_
        exact wX10_seen_121 C hk84 h hP hS (lv_sub hl [0, 1, 3] rfl)
def fX10_seen_84 : Nat → Int32 → Int32 → Int32 → mS → Option (Int32 × mS)
  | 0 => fun _ _ _ _ => none
  | n + 1 => fun x1 x3 x4 u => fX10_seen_84_b x1 x3 x4 u (fX10_seen_84 n) 
theorem wX10_seen_84 (C : mC p s m args meth c cX10_seen 5 (some .int) D cI cZ cJ o ad A) {res : Int32 × mS} (n : Nat) : ∀ {x1 : Int32} {x3 : Int32} {x4 : Int32} {u : mS} {H : Heap} {locs : List Loc} {ls : Array Slot}, fX10_seen_84 n x1 x3 x4 u = some res → va_P D vwCl (mW cI cZ cJ o ad u) H → va_S A s.heap H locs → lv_has ls 5 [(0, .ref o), (1, .int x1), (3, .int x3), (4, .int x4)] → W p l e rmX10_seen s m args below meth c H locs 0 0 (MQ below (mQi D cI cZ cJ o ad A res) args s 0 0 A) (F0 m 84 ls []) := by
  induction n with
  | zero => intro _ _ _ _ _ _ _ h _ _ _; cases (show (none : Option (Int32 × mS)) = some res from h)
  | succ n ih => intro _ _ _ _ _ _ _ h hP hS hl; exact wX10_seen_84_b C (fun _ _ _ _ _ _ _ h hP hS hl => ih h hP hS hl) h hP hS hl
def fX10_seen (x1 : Int32) (x2 : Int32) (u : mS) : Option (Int32 × mS) :=
  bI (fX10_isSeeker x1 u) fun r2 u2 =>
  if r2 = 0 then (
    bI (fX10_finding (1 : Int32) u2) fun r19 u19 =>
    some (r19, u19)
  ) else (
    bI (fX10_isIn x2 (0 : Int32) (3 : Int32) u2) fun r11 u11 =>
    if r11 = 0 then (
      bI (fX10_finding (1 : Int32) u11) fun r19 u19 =>
      some (r19, u19)
    ) else (
      if x2 = 0 then (
        (mR u11 18 8 x1).bind fun v57 =>
        some (v57, u11)
      ) else (
      if x2 = 1 then (
        (mR u11 22 8 x1).bind fun v64 =>
        some (v64, u11)
      ) else (
      if x2 = 2 then (
        (mR u11 23 8 x1).bind fun v71 =>
        if v71 = 0 then (
          some ((0 : Int32), u11)
        ) else (
          some ((1 : Int32), u11)
        )
      ) else (
        fX10_seen_84  FU x1 (0 : Int32) (0 : Int32) u11
      )))
    )
  )
set_option maxHeartbeats 4000000 in
set_option maxRecDepth 20000 in
theorem wX10_seen (C : mC p s m args meth c cX10_seen 5 (some .int) D cI cZ cJ o ad A) {x1 : Int32} {x2 : Int32} {u : mS} {res : Int32 × mS} (h : fX10_seen x1 x2 u = some res) {H : Heap} {locs : List Loc} (hP : va_P D vwCl (mW cI cZ cJ o ad u) H) (hS : va_S A s.heap H locs) {ls : Array Slot} (hl : lv_has ls 5 [(0, .ref o), (1, .int x1), (2, .int x2)]) : W p l e rmX10_seen s m args below meth c H locs 0 0 (MQ below (mQi D cI cZ cJ o ad A res) args s 0 0 A) (F0 m 0 ls []) := by
  have hx := C.1
  have hb := C.2.1
  unfold fX10_seen at h
  refine lv_aload_n hx hb dX10_seen_0 rfl (lv_at hl 0 rfl) ?_
  refine lv_iload_n hx hb dX10_seen_1 rfl (lv_at hl 1 rfl) ?_
  obtain ⟨r2, u2, e2, h⟩ := obI h
  refine mx_cVi C hP hS [.int x1] (tX10_isSeeker e2) qX10_156 ⟨rfl, rfl, Nat.le_of_ble_eq_true rfl, Nat.le_of_ble_eq_true rfl⟩ rfl hl.1 rfl (Nat.le_of_ble_eq_true rfl) dX10_seen_2 (fun H locs hP hS => ?_)
  refine lv_if_eq (tgt := 17) hx hb dX10_seen_5 (by decide) (fun hc => ?_) (fun hc => ?_)
  · replace h := it_pos hc h
    refine lv_aload_n hx hb dX10_seen_17 rfl (lv_at hl 0 rfl) ?_
    refine lv_iconst (v := 1) hx hb dX10_seen_18 (by decide) ?_
    obtain ⟨r19, u19, e19, h⟩ := obI h
    refine mx_cVi C hP hS [.int (1 : Int32)] (tX10_finding e19) qX10_138 ⟨rfl, rfl, Nat.le_of_ble_eq_true rfl, Nat.le_of_ble_eq_true rfl⟩ rfl hl.1 rfl (Nat.le_of_ble_eq_true rfl) dX10_seen_19 (fun H locs hP hS => ?_)
    exact mx_reti C h hP hS dX10_seen_22
  · replace h := it_neg hc h
    refine lv_iload_n hx hb dX10_seen_8 rfl (lv_at hl 2 rfl) ?_
    refine lv_iconst (v := 0) hx hb dX10_seen_9 (by decide) ?_
    refine lv_iconst (v := 3) hx hb dX10_seen_10 (by decide) ?_
    obtain ⟨r11, u11, e11, h⟩ := obI h
    refine mx_cSi C hP hS [.int x2, .int (0 : Int32), .int (3 : Int32)] (tX10_isIn e11) qX10_131 ⟨rfl, rfl, Nat.le_of_ble_eq_true rfl, Nat.le_of_ble_eq_true rfl⟩ rfl hl.1 rfl (Nat.le_of_ble_eq_true rfl) dX10_seen_11 (fun H locs hP hS => ?_)
    refine lv_if_ne (tgt := 23) hx hb dX10_seen_14 (by decide) (fun hc => ?_) (fun hc => ?_)
    · replace h := it_neg hc h
      refine lv_iconst (v := 0) hx hb dX10_seen_23 (by decide) ?_
      refine lv_istore_n (lv' := [(3, .int (0 : Int32)), (0, .ref o), (1, .int x1), (2, .int x2)]) hx hb dX10_seen_24 rfl hl (by decide) rfl (fun ls hl => ?_)
      refine lv_iload_n hx hb dX10_seen_25 rfl (lv_at hl 3 rfl) ?_
      by_cases hc0 : x2 = 0
      · replace h := it_pos hc0 h
        refine lv_tableIn (tgt := 52) (off := 26) hx hb dX10_seen_26 (by rw [hc0]; decide) (by rw [hc0]; decide) (by rw [hc0]; rfl) (by decide) ?_
        refine lv_aload_n hx hb dX10_seen_52 rfl (lv_at hl 1 rfl) ?_
        refine mg_lostOn C hP dX10_seen_53 ?_
        refine lv_iload_n hx hb dX10_seen_56 rfl (lv_at hl 2 rfl) ?_
        obtain ⟨v57, e57, h⟩ := ob h
        refine ml_lostOn C hP e57 dX10_seen_57 ?_
        exact mx_reti C h hP hS dX10_seen_58
      replace h := it_neg hc0 h
      by_cases hc1 : x2 = 1
      · replace h := it_pos hc1 h
        refine lv_tableIn (tgt := 59) (off := 33) hx hb dX10_seen_26 (by rw [hc1]; decide) (by rw [hc1]; decide) (by rw [hc1]; rfl) (by decide) ?_
        refine lv_aload_n hx hb dX10_seen_59 rfl (lv_at hl 1 rfl) ?_
        refine mg_falseMany C hP dX10_seen_60 ?_
        refine lv_iload_n hx hb dX10_seen_63 rfl (lv_at hl 2 rfl) ?_
        obtain ⟨v64, e64, h⟩ := ob h
        refine ml_falseMany C hP e64 dX10_seen_64 ?_
        exact mx_reti C h hP hS dX10_seen_65
      replace h := it_neg hc1 h
      by_cases hc2 : x2 = 2
      · replace h := it_pos hc2 h
        refine lv_tableIn (tgt := 66) (off := 40) hx hb dX10_seen_26 (by rw [hc2]; decide) (by rw [hc2]; decide) (by rw [hc2]; rfl) (by decide) ?_
        refine lv_aload_n hx hb dX10_seen_66 rfl (lv_at hl 1 rfl) ?_
        refine mg_isBarred C hP dX10_seen_67 ?_
        refine lv_iload_n hx hb dX10_seen_70 rfl (lv_at hl 2 rfl) ?_
        obtain ⟨v71, e71, h⟩ := ob h
        refine ml_isBarred C hP e71 dX10_seen_71 ?_
        refine lv_if_eq (tgt := 79) hx hb dX10_seen_72 (by decide) (fun hc => ?_) (fun hc => ?_)
        · replace h := it_pos hc h
          refine lv_iconst (v := 0) hx hb dX10_seen_79 (by decide) ?_
          exact mx_reti C h hP hS dX10_seen_80
        · replace h := it_neg hc h
          refine lv_iconst (v := 1) hx hb dX10_seen_75 (by decide) ?_
          refine lv_goto (tgt := 80) hx hb dX10_seen_76 (by decide) ?_
          exact mx_reti C h hP hS dX10_seen_80
      replace h := it_neg hc2 h
      have hn0 := lv_neT hc0 (show (0 : Int32).toInt = 0 by decide)
      have hn1 := lv_neT hc1 (show (1 : Int32).toInt = 1 by decide)
      have hn2 := lv_neT hc2 (show (2 : Int32).toInt = 2 by decide)
      refine lv_tableOut (tgt := 81) hx hb dX10_seen_26 (by omega) (by decide) ?_
      refine lv_iconst (v := 0) hx hb dX10_seen_81 (by decide) ?_
      refine lv_istore (lv' := [(4, .int (0 : Int32)), (3, .int (0 : Int32)), (0, .ref o), (1, .int x1), (2, .int x2)]) hx hb dX10_seen_82 hl (by decide) rfl (fun ls hl => ?_)
      exact wX10_seen_84 C  FU h hP hS (lv_sub hl [2, 3, 1, 0] rfl)
    · replace h := it_pos hc h
      refine lv_aload_n hx hb dX10_seen_17 rfl (lv_at hl 0 rfl) ?_
      refine lv_iconst (v := 1) hx hb dX10_seen_18 (by decide) ?_
      obtain ⟨r19, u19, e19, h⟩ := obI h
      refine mx_cVi C hP hS [.int (1 : Int32)] (tX10_finding e19) qX10_138 ⟨rfl, rfl, Nat.le_of_ble_eq_true rfl, Nat.le_of_ble_eq_true rfl⟩ rfl hl.1 rfl (Nat.le_of_ble_eq_true rfl) dX10_seen_19 (fun H locs hP hS => ?_)
      exact mx_reti C h hP hS dX10_seen_22
theorem tX10_seen {D : va_G} {cI cZ cJ : ClassId} {o : Nat} {ad : Nat → Nat} {A : Nat → Prop} {x1 : Int32} {x2 : Int32} {u : mS} {res : Int32 × mS} (h : fX10_seen x1 x2 u = some res) : Met l yX10_seen (Cond.code yX10_seen cX10_seen 5 (some .int) :: gW) rmX10_seen (va_Pc [.ref o, .int x1, .int x2] (mPre D cI cZ cJ o ad A u)) (mQi D cI cZ cJ o ad A res) 0 0 A :=
  mx_met ⟨by decide +kernel, rfl⟩ (Nat.le_of_ble_eq_true rfl) (fun p e s m below meth c ls C hP hl => wX10_seen C h hP va_S.rf hl)
abbrev rmX10_tellsFalse : Room := { frames := 0, cells := 0, slots := 0, locals := 0 }
def fX10_tellsFalse (x1 : Int32) (u : mS) : Option (mS) :=
  (mR u 22 8 x1).bind fun v6 =>
  (mU u 22 8 x1 (v6 + (1 : Int32))).bind fun u9 =>
  (mR u9 22 8 x1).bind fun v20 =>
  if v20 < (3 : Int32) then (
    (mU u9 23 8 x1 (vp_nar .boolean (0 : Int32))).bind fun u30 =>
    some u30
  ) else (
    (mU u9 23 8 x1 (vp_nar .boolean (1 : Int32))).bind fun u30 =>
    some u30
  )
set_option maxHeartbeats 4000000 in
set_option maxRecDepth 20000 in
theorem wX10_tellsFalse (C : mC p s m args meth c cX10_tellsFalse 2 none D cI cZ cJ o ad A) {x1 : Int32} {u : mS} {res : mS} (h : fX10_tellsFalse x1 u = some res) {H : Heap} {locs : List Loc} (hP : va_P D vwCl (mW cI cZ cJ o ad u) H) (hS : va_S A s.heap H locs) {ls : Array Slot} (hl : lv_has ls 2 [(0, .ref o), (1, .int x1)]) : W p l e rmX10_tellsFalse s m args below meth c H locs 0 0 (MQ below (mQv D cI cZ cJ o ad A res) args s 0 0 A) (F0 m 0 ls []) := by
  have hx := C.1
  have hb := C.2.1
  unfold fX10_tellsFalse at h
  refine lv_aload_n hx hb dX10_tellsFalse_0 rfl (lv_at hl 0 rfl) ?_
  refine mg_falseMany C hP dX10_tellsFalse_1 ?_
  refine lv_iload_n hx hb dX10_tellsFalse_4 rfl (lv_at hl 1 rfl) ?_
  refine lv_dup2_11 hx hb dX10_tellsFalse_5 rfl rfl ?_
  obtain ⟨v6, e6, h⟩ := ob h
  refine ml_falseMany C hP e6 dX10_tellsFalse_6 ?_
  refine lv_iconst (v := 1) hx hb dX10_tellsFalse_7 (by decide) ?_
  refine lv_iadd hx hb dX10_tellsFalse_8 ?_
  obtain ⟨u9, e9, h⟩ := ob h
  refine ms_falseMany C hP hS e9 dX10_tellsFalse_9 (fun H locs hP hS => ?_)
  refine lv_aload_n hx hb dX10_tellsFalse_10 rfl (lv_at hl 0 rfl) ?_
  refine mg_isBarred C hP dX10_tellsFalse_11 ?_
  refine lv_iload_n hx hb dX10_tellsFalse_14 rfl (lv_at hl 1 rfl) ?_
  refine lv_aload_n hx hb dX10_tellsFalse_15 rfl (lv_at hl 0 rfl) ?_
  refine mg_falseMany C hP dX10_tellsFalse_16 ?_
  refine lv_iload_n hx hb dX10_tellsFalse_19 rfl (lv_at hl 1 rfl) ?_
  obtain ⟨v20, e20, h⟩ := ob h
  refine ml_falseMany C hP e20 dX10_tellsFalse_20 ?_
  refine lv_iconst (v := 3) hx hb dX10_tellsFalse_21 (by decide) ?_
  refine lv_icmp_lt (tgt := 29) hx hb dX10_tellsFalse_22 (by decide) (fun hc => ?_) (fun hc => ?_)
  · replace h := it_pos hc h
    refine lv_iconst (v := 0) hx hb dX10_tellsFalse_29 (by decide) ?_
    obtain ⟨u30, e30, h⟩ := ob h
    refine ms_isBarred C hP hS e30 dX10_tellsFalse_30 (fun H locs hP hS => ?_)
    exact mx_retv C h hP hS dX10_tellsFalse_31
  · replace h := it_neg hc h
    refine lv_iconst (v := 1) hx hb dX10_tellsFalse_25 (by decide) ?_
    refine lv_goto (tgt := 30) hx hb dX10_tellsFalse_26 (by decide) ?_
    obtain ⟨u30, e30, h⟩ := ob h
    refine ms_isBarred C hP hS e30 dX10_tellsFalse_30 (fun H locs hP hS => ?_)
    exact mx_retv C h hP hS dX10_tellsFalse_31
theorem tX10_tellsFalse {D : va_G} {cI cZ cJ : ClassId} {o : Nat} {ad : Nat → Nat} {A : Nat → Prop} {x1 : Int32} {u : mS} {res : mS} (h : fX10_tellsFalse x1 u = some res) : Met l yX10_tellsFalse (Cond.code yX10_tellsFalse cX10_tellsFalse 2 none :: gW) rmX10_tellsFalse (va_Pc [.ref o, .int x1] (mPre D cI cZ cJ o ad A u)) (mQv D cI cZ cJ o ad A res) 0 0 A :=
  mx_met ⟨by decide +kernel, rfl⟩ (Nat.le_of_ble_eq_true rfl) (fun p e s m below meth c ls C hP hl => wX10_tellsFalse C h hP va_S.rf hl)
abbrev rmX10_answer : Room := { frames := 2, cells := 0, slots := 0, locals := 47 }
def fX10_answer (x1 : Int32) (x2 : Int32) (x3 : Int32) (u : mS) : Option (Int32 × mS) :=
  bI (fX10_isSeeker x1 u) fun r2 u2 =>
  if r2 = 0 then (
    bI (fX10_finding (1 : Int32) u2) fun r29 u29 =>
    some (r29, u29)
  ) else (
    bI (fX10_isThing x2 u2) fun r10 u10 =>
    if r10 = 0 then (
      bI (fX10_finding (1 : Int32) u10) fun r29 u29 =>
      some (r29, u29)
    ) else (
      bI (fX10_isIn x3 (1 : Int32) (9999 : Int32) u10) fun r21 u21 =>
      if r21 = 0 then (
        bI (fX10_finding (1 : Int32) u21) fun r29 u29 =>
        some (r29, u29)
      ) else (
        bI (fX10_like x1 x2 u21) fun r36 u36 =>
        if r36 = 0 then (
          bI (fX10_finding (3 : Int32) u36) fun r44 u44 =>
          some (r44, u44)
        ) else (
          (mR u36 8 20 x2).bind fun v54 =>
          if x3 = v54 then (
            (fX10_becomes x2 (1 : Int32) u36).bind fun u68 =>
            (mU u68 10 20 x2 x1).bind fun u77 =>
            some ((1 : Int32), u77)
          ) else (
            (fX10_tellsFalse x1 u36).bind fun u60 =>
            some ((0 : Int32), u60)
          )
        )
      )
    )
  )
set_option maxHeartbeats 4000000 in
set_option maxRecDepth 20000 in
theorem wX10_answer (C : mC p s m args meth c cX10_answer 4 (some .int) D cI cZ cJ o ad A) {x1 : Int32} {x2 : Int32} {x3 : Int32} {u : mS} {res : Int32 × mS} (h : fX10_answer x1 x2 x3 u = some res) {H : Heap} {locs : List Loc} (hP : va_P D vwCl (mW cI cZ cJ o ad u) H) (hS : va_S A s.heap H locs) {ls : Array Slot} (hl : lv_has ls 4 [(0, .ref o), (1, .int x1), (2, .int x2), (3, .int x3)]) : W p l e rmX10_answer s m args below meth c H locs 0 0 (MQ below (mQi D cI cZ cJ o ad A res) args s 0 0 A) (F0 m 0 ls []) := by
  have hx := C.1
  have hb := C.2.1
  unfold fX10_answer at h
  refine lv_aload_n hx hb dX10_answer_0 rfl (lv_at hl 0 rfl) ?_
  refine lv_iload_n hx hb dX10_answer_1 rfl (lv_at hl 1 rfl) ?_
  obtain ⟨r2, u2, e2, h⟩ := obI h
  refine mx_cVi C hP hS [.int x1] (tX10_isSeeker e2) qX10_156 ⟨rfl, rfl, Nat.le_of_ble_eq_true rfl, Nat.le_of_ble_eq_true rfl⟩ rfl hl.1 rfl (Nat.le_of_ble_eq_true rfl) dX10_answer_2 (fun H locs hP hS => ?_)
  refine lv_if_eq (tgt := 27) hx hb dX10_answer_5 (by decide) (fun hc => ?_) (fun hc => ?_)
  · replace h := it_pos hc h
    refine lv_aload_n hx hb dX10_answer_27 rfl (lv_at hl 0 rfl) ?_
    refine lv_iconst (v := 1) hx hb dX10_answer_28 (by decide) ?_
    obtain ⟨r29, u29, e29, h⟩ := obI h
    refine mx_cVi C hP hS [.int (1 : Int32)] (tX10_finding e29) qX10_138 ⟨rfl, rfl, Nat.le_of_ble_eq_true rfl, Nat.le_of_ble_eq_true rfl⟩ rfl hl.1 rfl (Nat.le_of_ble_eq_true rfl) dX10_answer_29 (fun H locs hP hS => ?_)
    exact mx_reti C h hP hS dX10_answer_32
  · replace h := it_neg hc h
    refine lv_aload_n hx hb dX10_answer_8 rfl (lv_at hl 0 rfl) ?_
    refine lv_iload_n hx hb dX10_answer_9 rfl (lv_at hl 2 rfl) ?_
    obtain ⟨r10, u10, e10, h⟩ := obI h
    refine mx_cVi C hP hS [.int x2] (tX10_isThing e10) qX10_150 ⟨rfl, rfl, Nat.le_of_ble_eq_true rfl, Nat.le_of_ble_eq_true rfl⟩ rfl hl.1 rfl (Nat.le_of_ble_eq_true rfl) dX10_answer_10 (fun H locs hP hS => ?_)
    refine lv_if_eq (tgt := 27) hx hb dX10_answer_13 (by decide) (fun hc => ?_) (fun hc => ?_)
    · replace h := it_pos hc h
      refine lv_aload_n hx hb dX10_answer_27 rfl (lv_at hl 0 rfl) ?_
      refine lv_iconst (v := 1) hx hb dX10_answer_28 (by decide) ?_
      obtain ⟨r29, u29, e29, h⟩ := obI h
      refine mx_cVi C hP hS [.int (1 : Int32)] (tX10_finding e29) qX10_138 ⟨rfl, rfl, Nat.le_of_ble_eq_true rfl, Nat.le_of_ble_eq_true rfl⟩ rfl hl.1 rfl (Nat.le_of_ble_eq_true rfl) dX10_answer_29 (fun H locs hP hS => ?_)
      exact mx_reti C h hP hS dX10_answer_32
    · replace h := it_neg hc h
      refine lv_iload_n hx hb dX10_answer_16 rfl (lv_at hl 3 rfl) ?_
      refine lv_iconst (v := 1) hx hb dX10_answer_17 (by decide) ?_
      refine lv_sipush (v := 9999) hx hb dX10_answer_18 (by decide) ?_
      obtain ⟨r21, u21, e21, h⟩ := obI h
      refine mx_cSi C hP hS [.int x3, .int (1 : Int32), .int (9999 : Int32)] (tX10_isIn e21) qX10_131 ⟨rfl, rfl, Nat.le_of_ble_eq_true rfl, Nat.le_of_ble_eq_true rfl⟩ rfl hl.1 rfl (Nat.le_of_ble_eq_true rfl) dX10_answer_21 (fun H locs hP hS => ?_)
      refine lv_if_ne (tgt := 33) hx hb dX10_answer_24 (by decide) (fun hc => ?_) (fun hc => ?_)
      · replace h := it_neg hc h
        refine lv_aload_n hx hb dX10_answer_33 rfl (lv_at hl 0 rfl) ?_
        refine lv_iload_n hx hb dX10_answer_34 rfl (lv_at hl 1 rfl) ?_
        refine lv_iload_n hx hb dX10_answer_35 rfl (lv_at hl 2 rfl) ?_
        obtain ⟨r36, u36, e36, h⟩ := obI h
        refine mx_cVi C hP hS [.int x1, .int x2] (tX10_like e36) qX10_159 ⟨rfl, rfl, Nat.le_of_ble_eq_true rfl, Nat.le_of_ble_eq_true rfl⟩ rfl hl.1 rfl (Nat.le_of_ble_eq_true rfl) dX10_answer_36 (fun H locs hP hS => ?_)
        refine lv_if_ne (tgt := 48) hx hb dX10_answer_39 (by decide) (fun hc => ?_) (fun hc => ?_)
        · replace h := it_neg hc h
          refine lv_iload_n hx hb dX10_answer_48 rfl (lv_at hl 3 rfl) ?_
          refine lv_aload_n hx hb dX10_answer_49 rfl (lv_at hl 0 rfl) ?_
          refine mg_secret C hP dX10_answer_50 ?_
          refine lv_iload_n hx hb dX10_answer_53 rfl (lv_at hl 2 rfl) ?_
          obtain ⟨v54, e54, h⟩ := ob h
          refine ml_secret C hP e54 dX10_answer_54 ?_
          refine lv_icmp_eq (tgt := 65) hx hb dX10_answer_55 (by decide) (fun hc => ?_) (fun hc => ?_)
          · replace h := it_pos hc h
            refine lv_aload_n hx hb dX10_answer_65 rfl (lv_at hl 0 rfl) ?_
            refine lv_iload_n hx hb dX10_answer_66 rfl (lv_at hl 2 rfl) ?_
            refine lv_iconst (v := 1) hx hb dX10_answer_67 (by decide) ?_
            obtain ⟨u68, e68, h⟩ := ob h
            refine mx_cVv C hP hS [.int x2, .int (1 : Int32)] (tX10_becomes e68) qX10_142 ⟨rfl, rfl, Nat.le_of_ble_eq_true rfl, Nat.le_of_ble_eq_true rfl⟩ rfl hl.1 rfl (Nat.le_of_ble_eq_true rfl) dX10_answer_68 (fun H locs hP hS => ?_)
            refine lv_aload_n hx hb dX10_answer_71 rfl (lv_at hl 0 rfl) ?_
            refine mg_hasIt C hP dX10_answer_72 ?_
            refine lv_iload_n hx hb dX10_answer_75 rfl (lv_at hl 2 rfl) ?_
            refine lv_iload_n hx hb dX10_answer_76 rfl (lv_at hl 1 rfl) ?_
            obtain ⟨u77, e77, h⟩ := ob h
            refine ms_hasIt C hP hS e77 dX10_answer_77 (fun H locs hP hS => ?_)
            refine lv_iconst (v := 1) hx hb dX10_answer_78 (by decide) ?_
            exact mx_reti C h hP hS dX10_answer_79
          · replace h := it_neg hc h
            refine lv_aload_n hx hb dX10_answer_58 rfl (lv_at hl 0 rfl) ?_
            refine lv_iload_n hx hb dX10_answer_59 rfl (lv_at hl 1 rfl) ?_
            obtain ⟨u60, e60, h⟩ := ob h
            refine mx_cVv C hP hS [.int x1] (tX10_tellsFalse e60) qX10_170 ⟨rfl, rfl, Nat.le_of_ble_eq_true rfl, Nat.le_of_ble_eq_true rfl⟩ rfl hl.1 rfl (Nat.le_of_ble_eq_true rfl) dX10_answer_60 (fun H locs hP hS => ?_)
            refine lv_iconst (v := 0) hx hb dX10_answer_63 (by decide) ?_
            exact mx_reti C h hP hS dX10_answer_64
        · replace h := it_pos hc h
          refine lv_aload_n hx hb dX10_answer_42 rfl (lv_at hl 0 rfl) ?_
          refine lv_iconst (v := 3) hx hb dX10_answer_43 (by decide) ?_
          obtain ⟨r44, u44, e44, h⟩ := obI h
          refine mx_cVi C hP hS [.int (3 : Int32)] (tX10_finding e44) qX10_138 ⟨rfl, rfl, Nat.le_of_ble_eq_true rfl, Nat.le_of_ble_eq_true rfl⟩ rfl hl.1 rfl (Nat.le_of_ble_eq_true rfl) dX10_answer_44 (fun H locs hP hS => ?_)
          exact mx_reti C h hP hS dX10_answer_47
      · replace h := it_pos hc h
        refine lv_aload_n hx hb dX10_answer_27 rfl (lv_at hl 0 rfl) ?_
        refine lv_iconst (v := 1) hx hb dX10_answer_28 (by decide) ?_
        obtain ⟨r29, u29, e29, h⟩ := obI h
        refine mx_cVi C hP hS [.int (1 : Int32)] (tX10_finding e29) qX10_138 ⟨rfl, rfl, Nat.le_of_ble_eq_true rfl, Nat.le_of_ble_eq_true rfl⟩ rfl hl.1 rfl (Nat.le_of_ble_eq_true rfl) dX10_answer_29 (fun H locs hP hS => ?_)
        exact mx_reti C h hP hS dX10_answer_32
theorem tX10_answer {D : va_G} {cI cZ cJ : ClassId} {o : Nat} {ad : Nat → Nat} {A : Nat → Prop} {x1 : Int32} {x2 : Int32} {x3 : Int32} {u : mS} {res : Int32 × mS} (h : fX10_answer x1 x2 x3 u = some res) : Met l yX10_answer (Cond.code yX10_answer cX10_answer 4 (some .int) :: gW) rmX10_answer (va_Pc [.ref o, .int x1, .int x2, .int x3] (mPre D cI cZ cJ o ad A u)) (mQi D cI cZ cJ o ad A res) 0 0 A :=
  mx_met ⟨by decide +kernel, rfl⟩ (Nat.le_of_ble_eq_true rfl) (fun p e s m below meth c ls C hP hl => wX10_answer C h hP va_S.rf hl)
abbrev rmX10_back : Room := { frames := 1, cells := 0, slots := 0, locals := 22 }
def fX10_back (x1 : Int32) (u : mS) : Option (Int32 × mS) :=
  bI (fX10_isThing x1 u) fun r2 u2 =>
  if r2 = 0 then (
    bI (fX10_finding (1 : Int32) u2) fun r10 u10 =>
    some (r10, u10)
  ) else (
    (mR u2 9 20 x1).bind fun v19 =>
    if v19 = (1 : Int32) then (
      (mR u2 11 20 x1).bind fun v33 =>
      if ((u2.1 0) - v33) ≤ (10 : Int32) then (
        (mR u2 10 20 x1).bind fun v51 =>
        (fX10_becomes x1 (0 : Int32) u2).bind fun u56 =>
        (mU u56 10 20 x1 (-1 : Int32)).bind fun u65 =>
        some (v51, u65)
      ) else (
        bI (fX10_finding (3 : Int32) u2) fun r42 u42 =>
        some (r42, u42)
      )
    ) else (
      bI (fX10_finding (3 : Int32) u2) fun r42 u42 =>
      some (r42, u42)
    )
  )
set_option maxHeartbeats 4000000 in
set_option maxRecDepth 20000 in
theorem wX10_back (C : mC p s m args meth c cX10_back 3 (some .int) D cI cZ cJ o ad A) {x1 : Int32} {u : mS} {res : Int32 × mS} (h : fX10_back x1 u = some res) {H : Heap} {locs : List Loc} (hP : va_P D vwCl (mW cI cZ cJ o ad u) H) (hS : va_S A s.heap H locs) {ls : Array Slot} (hl : lv_has ls 3 [(0, .ref o), (1, .int x1)]) : W p l e rmX10_back s m args below meth c H locs 0 0 (MQ below (mQi D cI cZ cJ o ad A res) args s 0 0 A) (F0 m 0 ls []) := by
  have hx := C.1
  have hb := C.2.1
  unfold fX10_back at h
  refine lv_aload_n hx hb dX10_back_0 rfl (lv_at hl 0 rfl) ?_
  refine lv_iload_n hx hb dX10_back_1 rfl (lv_at hl 1 rfl) ?_
  obtain ⟨r2, u2, e2, h⟩ := obI h
  refine mx_cVi C hP hS [.int x1] (tX10_isThing e2) qX10_150 ⟨rfl, rfl, Nat.le_of_ble_eq_true rfl, Nat.le_of_ble_eq_true rfl⟩ rfl hl.1 rfl (Nat.le_of_ble_eq_true rfl) dX10_back_2 (fun H locs hP hS => ?_)
  refine lv_if_ne (tgt := 14) hx hb dX10_back_5 (by decide) (fun hc => ?_) (fun hc => ?_)
  · replace h := it_neg hc h
    refine lv_aload_n hx hb dX10_back_14 rfl (lv_at hl 0 rfl) ?_
    refine mg_is C hP dX10_back_15 ?_
    refine lv_iload_n hx hb dX10_back_18 rfl (lv_at hl 1 rfl) ?_
    obtain ⟨v19, e19, h⟩ := ob h
    refine ml_is C hP e19 dX10_back_19 ?_
    refine lv_iconst (v := 1) hx hb dX10_back_20 (by decide) ?_
    refine lv_icmp_ne (tgt := 40) hx hb dX10_back_21 (by decide) (fun hc => ?_) (fun hc => ?_)
    · replace h := it_neg hc h
      refine lv_aload_n hx hb dX10_back_40 rfl (lv_at hl 0 rfl) ?_
      refine lv_iconst (v := 3) hx hb dX10_back_41 (by decide) ?_
      obtain ⟨r42, u42, e42, h⟩ := obI h
      refine mx_cVi C hP hS [.int (3 : Int32)] (tX10_finding e42) qX10_138 ⟨rfl, rfl, Nat.le_of_ble_eq_true rfl, Nat.le_of_ble_eq_true rfl⟩ rfl hl.1 rfl (Nat.le_of_ble_eq_true rfl) dX10_back_42 (fun H locs hP hS => ?_)
      exact mx_reti C h hP hS dX10_back_45
    · replace h := it_pos hc h
      refine lv_aload_n hx hb dX10_back_24 rfl (lv_at hl 0 rfl) ?_
      refine mg_today C hP dX10_back_25 ?_
      refine lv_aload_n hx hb dX10_back_28 rfl (lv_at hl 0 rfl) ?_
      refine mg_since C hP dX10_back_29 ?_
      refine lv_iload_n hx hb dX10_back_32 rfl (lv_at hl 1 rfl) ?_
      obtain ⟨v33, e33, h⟩ := ob h
      refine ml_since C hP e33 dX10_back_33 ?_
      refine lv_isub hx hb dX10_back_34 ?_
      refine lv_bipush (v := 10) hx hb dX10_back_35 (by decide) ?_
      refine lv_icmp_le (tgt := 46) hx hb dX10_back_37 (by decide) (fun hc => ?_) (fun hc => ?_)
      · replace h := it_pos hc h
        refine lv_aload_n hx hb dX10_back_46 rfl (lv_at hl 0 rfl) ?_
        refine mg_hasIt C hP dX10_back_47 ?_
        refine lv_iload_n hx hb dX10_back_50 rfl (lv_at hl 1 rfl) ?_
        obtain ⟨v51, e51, h⟩ := ob h
        refine ml_hasIt C hP e51 dX10_back_51 ?_
        refine lv_istore_n (lv' := [(2, .int v51), (0, .ref o), (1, .int x1)]) hx hb dX10_back_52 rfl hl (by decide) rfl (fun ls hl => ?_)
        refine lv_aload_n hx hb dX10_back_53 rfl (lv_at hl 1 rfl) ?_
        refine lv_iload_n hx hb dX10_back_54 rfl (lv_at hl 2 rfl) ?_
        refine lv_iconst (v := 0) hx hb dX10_back_55 (by decide) ?_
        obtain ⟨u56, e56, h⟩ := ob h
        refine mx_cVv C hP hS [.int x1, .int (0 : Int32)] (tX10_becomes e56) qX10_142 ⟨rfl, rfl, Nat.le_of_ble_eq_true rfl, Nat.le_of_ble_eq_true rfl⟩ rfl hl.1 rfl (Nat.le_of_ble_eq_true rfl) dX10_back_56 (fun H locs hP hS => ?_)
        refine lv_aload_n hx hb dX10_back_59 rfl (lv_at hl 1 rfl) ?_
        refine mg_hasIt C hP dX10_back_60 ?_
        refine lv_iload_n hx hb dX10_back_63 rfl (lv_at hl 2 rfl) ?_
        refine lv_iconst (v := -1) hx hb dX10_back_64 (by decide) ?_
        obtain ⟨u65, e65, h⟩ := ob h
        refine ms_hasIt C hP hS e65 dX10_back_65 (fun H locs hP hS => ?_)
        refine lv_iload_n hx hb dX10_back_66 rfl (lv_at hl 0 rfl) ?_
        exact mx_reti C h hP hS dX10_back_67
      · replace h := it_neg hc h
        refine lv_aload_n hx hb dX10_back_40 rfl (lv_at hl 0 rfl) ?_
        refine lv_iconst (v := 3) hx hb dX10_back_41 (by decide) ?_
        obtain ⟨r42, u42, e42, h⟩ := obI h
        refine mx_cVi C hP hS [.int (3 : Int32)] (tX10_finding e42) qX10_138 ⟨rfl, rfl, Nat.le_of_ble_eq_true rfl, Nat.le_of_ble_eq_true rfl⟩ rfl hl.1 rfl (Nat.le_of_ble_eq_true rfl) dX10_back_42 (fun H locs hP hS => ?_)
        exact mx_reti C h hP hS dX10_back_45
  · replace h := it_pos hc h
    refine lv_aload_n hx hb dX10_back_8 rfl (lv_at hl 0 rfl) ?_
    refine lv_iconst (v := 1) hx hb dX10_back_9 (by decide) ?_
    obtain ⟨r10, u10, e10, h⟩ := obI h
    refine mx_cVi C hP hS [.int (1 : Int32)] (tX10_finding e10) qX10_138 ⟨rfl, rfl, Nat.le_of_ble_eq_true rfl, Nat.le_of_ble_eq_true rfl⟩ rfl hl.1 rfl (Nat.le_of_ble_eq_true rfl) dX10_back_10 (fun H locs hP hS => ?_)
    exact mx_reti C h hP hS dX10_back_13
theorem tX10_back {D : va_G} {cI cZ cJ : ClassId} {o : Nat} {ad : Nat → Nat} {A : Nat → Prop} {x1 : Int32} {u : mS} {res : Int32 × mS} (h : fX10_back x1 u = some res) : Met l yX10_back (Cond.code yX10_back cX10_back 3 (some .int) :: gW) rmX10_back (va_Pc [.ref o, .int x1] (mPre D cI cZ cJ o ad A u)) (mQi D cI cZ cJ o ad A res) 0 0 A :=
  mx_met ⟨by decide +kernel, rfl⟩ (Nat.le_of_ble_eq_true rfl) (fun p e s m below meth c ls C hP hl => wX10_back C h hP va_S.rf hl)
abbrev rmX10_places : Room := { frames := 0, cells := 0, slots := 0, locals := 0 }
def fX10_places_4_b (x1 : Int32) (x2 : Int32) (u : mS) (k4 : Int32 → Int32 → mS → Option (Int32 × mS)) : Option (Int32 × mS) :=
  if x2 ≤ 0 then (
    some (x1, u)
  ) else (
    k4 (x1 + (1 : Int32)) (x2 / (10 : Int32)) u
  )
set_option maxHeartbeats 4000000 in
set_option maxRecDepth 20000 in
theorem wX10_places_4_b (C : mC p s m args meth c cX10_places 3 (some .int) D cI cZ cJ o ad A) {x1 : Int32} {x2 : Int32} {u : mS} {res : Int32 × mS} {k4 : Int32 → Int32 → mS → Option (Int32 × mS)} (hk4 : ∀ (x1 : Int32) (x2 : Int32) (u : mS) (H : Heap) (locs : List Loc) (ls : Array Slot), k4 x1 x2 u = some res → va_P D vwCl (mW cI cZ cJ o ad u) H → va_S A s.heap H locs → lv_has ls 3 [(1, .int x1), (2, .int x2)] → W p l e rmX10_places s m args below meth c H locs 0 0 (MQ below (mQi D cI cZ cJ o ad A res) args s 0 0 A) (F0 m 4 ls [])) (h : fX10_places_4_b x1 x2 u k4 = some res) {H : Heap} {locs : List Loc} (hP : va_P D vwCl (mW cI cZ cJ o ad u) H) (hS : va_S A s.heap H locs) {ls : Array Slot} (hl : lv_has ls 3 [(1, .int x1), (2, .int x2)]) : W p l e rmX10_places s m args below meth c H locs 0 0 (MQ below (mQi D cI cZ cJ o ad A res) args s 0 0 A) (F0 m 4 ls []) := by
  have hx := C.1
  have hb := C.2.1
  unfold fX10_places_4_b at h
  refine lv_iload_n hx hb dX10_places_4 rfl (lv_at hl 1 rfl) ?_
  refine lv_if_le (tgt := 19) hx hb dX10_places_5 (by decide) (fun hc => ?_) (fun hc => ?_)
  · replace h := it_pos hc h
    refine lv_iload_n hx hb dX10_places_19 rfl (lv_at hl 0 rfl) ?_
    exact mx_reti C h hP hS dX10_places_20
  · replace h := it_neg hc h
    refine lv_iinc (v := x1 + (1 : Int32)) (lv' := [(1, .int (x1 + (1 : Int32))), (2, .int x2)]) hx hb dX10_places_8 hl (k := 0) rfl rfl (by decide) rfl (fun ls hl => ?_)
    refine lv_iload_n hx hb dX10_places_11 rfl (lv_at hl 1 rfl) ?_
    refine lv_bipush (v := 10) hx hb dX10_places_12 (by decide) ?_
    refine lv_idiv hx hb dX10_places_14 (by decide) ?_
    refine lv_istore_n (lv' := [(2, .int (x2 / (10 : Int32))), (1, .int (x1 + (1 : Int32)))]) hx hb dX10_places_15 rfl hl (by decide) rfl (fun ls hl => ?_)
    refine lv_goto (tgt := 4) hx hb dX10_places_16 (by decide) ?_
    exact hk4 _ _ _ _ _ _ h hP hS (lv_sub hl [1, 0] rfl)
def fX10_places_4 : Nat → Int32 → Int32 → mS → Option (Int32 × mS)
  | 0 => fun _ _ _ => none
  | n + 1 => fun x1 x2 u => fX10_places_4_b x1 x2 u (fX10_places_4 n) 
theorem wX10_places_4 (C : mC p s m args meth c cX10_places 3 (some .int) D cI cZ cJ o ad A) {res : Int32 × mS} (n : Nat) : ∀ {x1 : Int32} {x2 : Int32} {u : mS} {H : Heap} {locs : List Loc} {ls : Array Slot}, fX10_places_4 n x1 x2 u = some res → va_P D vwCl (mW cI cZ cJ o ad u) H → va_S A s.heap H locs → lv_has ls 3 [(1, .int x1), (2, .int x2)] → W p l e rmX10_places s m args below meth c H locs 0 0 (MQ below (mQi D cI cZ cJ o ad A res) args s 0 0 A) (F0 m 4 ls []) := by
  induction n with
  | zero => intro _ _ _ _ _ _ h _ _ _; cases (show (none : Option (Int32 × mS)) = some res from h)
  | succ n ih => intro _ _ _ _ _ _ h hP hS hl; exact wX10_places_4_b C (fun _ _ _ _ _ _ h hP hS hl => ih h hP hS hl) h hP hS hl
def fX10_places (x0 : Int32) (u : mS) : Option (Int32 × mS) :=
  fX10_places_4  FU (0 : Int32) x0 u
set_option maxHeartbeats 4000000 in
set_option maxRecDepth 20000 in
theorem wX10_places (C : mC p s m args meth c cX10_places 3 (some .int) D cI cZ cJ o ad A) {x0 : Int32} {u : mS} {res : Int32 × mS} (h : fX10_places x0 u = some res) {H : Heap} {locs : List Loc} (hP : va_P D vwCl (mW cI cZ cJ o ad u) H) (hS : va_S A s.heap H locs) {ls : Array Slot} (hl : lv_has ls 3 [(0, .int x0)]) : W p l e rmX10_places s m args below meth c H locs 0 0 (MQ below (mQi D cI cZ cJ o ad A res) args s 0 0 A) (F0 m 0 ls []) := by
  have hx := C.1
  have hb := C.2.1
  unfold fX10_places at h
  refine lv_iconst (v := 0) hx hb dX10_places_0 (by decide) ?_
  refine lv_istore_n (lv' := [(1, .int (0 : Int32)), (0, .int x0)]) hx hb dX10_places_1 rfl hl (by decide) rfl (fun ls hl => ?_)
  refine lv_iload_n hx hb dX10_places_2 rfl (lv_at hl 1 rfl) ?_
  refine lv_istore_n (lv' := [(2, .int x0), (1, .int (0 : Int32)), (0, .int x0)]) hx hb dX10_places_3 rfl hl (by decide) rfl (fun ls hl => ?_)
  exact wX10_places_4 C  FU h hP hS (lv_sub hl [1, 0] rfl)
theorem tX10_places {D : va_G} {cI cZ cJ : ClassId} {o : Nat} {ad : Nat → Nat} {A : Nat → Prop} {x0 : Int32} {u : mS} {res : Int32 × mS} (h : fX10_places x0 u = some res) : Met l yX10_places (Cond.code yX10_places cX10_places 3 (some .int) :: gW) rmX10_places (va_Pc [.int x0] (mPre D cI cZ cJ o ad A u)) (mQi D cI cZ cJ o ad A res) 0 0 A :=
  mx_met ⟨by decide +kernel, rfl⟩ (Nat.le_of_ble_eq_true rfl) (fun p e s m below meth c ls C hP hl => wX10_places C h hP va_S.rf hl)
abbrev rmX10_digit : Room := { frames := 0, cells := 0, slots := 0, locals := 0 }
def fX10_digit_4_b (x1 : Int32) (x2 : Int32) (x3 : Int32) (u : mS) (k4 : Int32 → Int32 → Int32 → mS → Option (Int32 × mS)) : Option (Int32 × mS) :=
  if x1 ≤ x3 then (
    some (x2 - x2 / (10 : Int32) * (10 : Int32), u)
  ) else (
    k4 x1 (x2 / (10 : Int32)) (x3 + (1 : Int32)) u
  )
set_option maxHeartbeats 4000000 in
set_option maxRecDepth 20000 in
theorem wX10_digit_4_b (C : mC p s m args meth c cX10_digit 4 (some .int) D cI cZ cJ o ad A) {x1 : Int32} {x2 : Int32} {x3 : Int32} {u : mS} {res : Int32 × mS} {k4 : Int32 → Int32 → Int32 → mS → Option (Int32 × mS)} (hk4 : ∀ (x1 : Int32) (x2 : Int32) (x3 : Int32) (u : mS) (H : Heap) (locs : List Loc) (ls : Array Slot), k4 x1 x2 x3 u = some res → va_P D vwCl (mW cI cZ cJ o ad u) H → va_S A s.heap H locs → lv_has ls 4 [(1, .int x1), (2, .int x2), (3, .int x3)] → W p l e rmX10_digit s m args below meth c H locs 0 0 (MQ below (mQi D cI cZ cJ o ad A res) args s 0 0 A) (F0 m 4 ls [])) (h : fX10_digit_4_b x1 x2 x3 u k4 = some res) {H : Heap} {locs : List Loc} (hP : va_P D vwCl (mW cI cZ cJ o ad u) H) (hS : va_S A s.heap H locs) {ls : Array Slot} (hl : lv_has ls 4 [(1, .int x1), (2, .int x2), (3, .int x3)]) : W p l e rmX10_digit s m args below meth c H locs 0 0 (MQ below (mQi D cI cZ cJ o ad A res) args s 0 0 A) (F0 m 4 ls []) := by
  have hx := C.1
  have hb := C.2.1
  unfold fX10_digit_4_b at h
  refine lv_iload_n hx hb dX10_digit_4 rfl (lv_at hl 2 rfl) ?_
  refine lv_iload_n hx hb dX10_digit_5 rfl (lv_at hl 0 rfl) ?_
  refine lv_icmp_ge (tgt := 20) hx hb dX10_digit_6 (by decide) (fun hc => ?_) (fun hc => ?_)
  · replace h := it_pos hc h
    refine lv_iload_n hx hb dX10_digit_20 rfl (lv_at hl 1 rfl) ?_
    refine lv_bipush (v := 10) hx hb dX10_digit_21 (by decide) ?_
    refine lv_irem hx hb dX10_digit_23 (by decide) ?_
    exact mx_reti C h hP hS dX10_digit_24
  · replace h := it_neg hc h
    refine lv_iload_n hx hb dX10_digit_9 rfl (lv_at hl 1 rfl) ?_
    refine lv_bipush (v := 10) hx hb dX10_digit_10 (by decide) ?_
    refine lv_idiv hx hb dX10_digit_12 (by decide) ?_
    refine lv_istore_n (lv' := [(2, .int (x2 / (10 : Int32))), (1, .int x1), (3, .int x3)]) hx hb dX10_digit_13 rfl hl (by decide) rfl (fun ls hl => ?_)
    refine lv_iinc (v := x3 + (1 : Int32)) (lv' := [(3, .int (x3 + (1 : Int32))), (2, .int (x2 / (10 : Int32))), (1, .int x1)]) hx hb dX10_digit_14 hl (k := 2) rfl rfl (by decide) rfl (fun ls hl => ?_)
    refine lv_goto (tgt := 4) hx hb dX10_digit_17 (by decide) ?_
    exact hk4 _ _ _ _ _ _ _ h hP hS (lv_sub hl [2, 1, 0] rfl)
def fX10_digit_4 : Nat → Int32 → Int32 → Int32 → mS → Option (Int32 × mS)
  | 0 => fun _ _ _ _ => none
  | n + 1 => fun x1 x2 x3 u => fX10_digit_4_b x1 x2 x3 u (fX10_digit_4 n) 
theorem wX10_digit_4 (C : mC p s m args meth c cX10_digit 4 (some .int) D cI cZ cJ o ad A) {res : Int32 × mS} (n : Nat) : ∀ {x1 : Int32} {x2 : Int32} {x3 : Int32} {u : mS} {H : Heap} {locs : List Loc} {ls : Array Slot}, fX10_digit_4 n x1 x2 x3 u = some res → va_P D vwCl (mW cI cZ cJ o ad u) H → va_S A s.heap H locs → lv_has ls 4 [(1, .int x1), (2, .int x2), (3, .int x3)] → W p l e rmX10_digit s m args below meth c H locs 0 0 (MQ below (mQi D cI cZ cJ o ad A res) args s 0 0 A) (F0 m 4 ls []) := by
  induction n with
  | zero => intro _ _ _ _ _ _ _ h _ _ _; cases (show (none : Option (Int32 × mS)) = some res from h)
  | succ n ih => intro _ _ _ _ _ _ _ h hP hS hl; exact wX10_digit_4_b C (fun _ _ _ _ _ _ _ h hP hS hl => ih h hP hS hl) h hP hS hl
def fX10_digit (x0 : Int32) (x1 : Int32) (u : mS) : Option (Int32 × mS) :=
  fX10_digit_4  FU x1 x0 (0 : Int32) u
set_option maxHeartbeats 4000000 in
set_option maxRecDepth 20000 in
theorem wX10_digit (C : mC p s m args meth c cX10_digit 4 (some .int) D cI cZ cJ o ad A) {x0 : Int32} {x1 : Int32} {u : mS} {res : Int32 × mS} (h : fX10_digit x0 x1 u = some res) {H : Heap} {locs : List Loc} (hP : va_P D vwCl (mW cI cZ cJ o ad u) H) (hS : va_S A s.heap H locs) {ls : Array Slot} (hl : lv_has ls 4 [(0, .int x0), (1, .int x1)]) : W p l e rmX10_digit s m args below meth c H locs 0 0 (MQ below (mQi D cI cZ cJ o ad A res) args s 0 0 A) (F0 m 0 ls []) := by
  have hx := C.1
  have hb := C.2.1
  unfold fX10_digit at h
  refine lv_iload_n hx hb dX10_digit_0 rfl (lv_at hl 0 rfl) ?_
  refine lv_istore_n (lv' := [(2, .int x0), (0, .int x0), (1, .int x1)]) hx hb dX10_digit_1 rfl hl (by decide) rfl (fun ls hl => ?_)
  refine lv_iconst (v := 0) hx hb dX10_digit_2 (by decide) ?_
  refine lv_istore_n (lv' := [(3, .int (0 : Int32)), (2, .int x0), (0, .int x0), (1, .int x1)]) hx hb dX10_digit_3 rfl hl (by decide) rfl (fun ls hl => ?_)
  exact wX10_digit_4 C  FU h hP hS (lv_sub hl [3, 1, 0] rfl)
theorem tX10_digit {D : va_G} {cI cZ cJ : ClassId} {o : Nat} {ad : Nat → Nat} {A : Nat → Prop} {x0 : Int32} {x1 : Int32} {u : mS} {res : Int32 × mS} (h : fX10_digit x0 x1 u = some res) : Met l yX10_digit (Cond.code yX10_digit cX10_digit 4 (some .int) :: gW) rmX10_digit (va_Pc [.int x0, .int x1] (mPre D cI cZ cJ o ad A u)) (mQi D cI cZ cJ o ad A res) 0 0 A :=
  mx_met ⟨by decide +kernel, rfl⟩ (Nat.le_of_ble_eq_true rfl) (fun p e s m below meth c ls C hP hl => wX10_digit C h hP va_S.rf hl)
end
