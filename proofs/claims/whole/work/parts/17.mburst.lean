section
variable {p : Program} {l : Launch} {e : Env} {s : State} {m : MethodId} {args : Array Value} {below : List Frame} {meth : Method} {c : Code} {D : va_G} {cI cZ cJ : ClassId} {o : Nat} {ad : Nat → Nat} {A : Nat → Prop}
abbrev rmX10_burst : Room := { frames := 2, cells := 0, slots := 0, locals := 43 }
def fX10_burst_76 (x1 : Int32) (x2 : Int32) (x3 : Int32) (x5 : Int32) (s0 : Int32) (s1 : Int32) (u : mS) (k41 : Int32 → Int32 → Int32 → Int32 → Int32 → mS → Option (Int32 × mS)) : Option (Int32 × mS) :=
  k41 x1 x2 x3 (s0 &&& s1) (x5 + (1 : Int32)) u
set_option maxHeartbeats 4000000 in
set_option maxRecDepth 20000 in
theorem wX10_burst_76 (C : mC p s m args meth c cX10_burst 10 (some .int) D cI cZ cJ o ad A) {x1 : Int32} {x2 : Int32} {x3 : Int32} {x5 : Int32} {s0 : Int32} {s1 : Int32} {u : mS} {res : Int32 × mS} {k41 : Int32 → Int32 → Int32 → Int32 → Int32 → mS → Option (Int32 × mS)} (hk41 : ∀ (x1 : Int32) (x2 : Int32) (x3 : Int32) (x4 : Int32) (x5 : Int32) (u : mS) (H : Heap) (locs : List Loc) (ls : Array Slot), k41 x1 x2 x3 x4 x5 u = some res → va_P D vwCl (mW cI cZ cJ o ad u) H → va_S A s.heap H locs → lv_has ls 10 [(0, .ref o), (1, .int x1), (2, .int x2), (3, .int x3), (4, .int x4), (5, .int x5)] → W p l e rmX10_burst s m args below meth c H locs 0 0 (MQ below (mQi D cI cZ cJ o ad A res) args s 0 0 A) (F0 m 41 ls [])) (h : fX10_burst_76 x1 x2 x3 x5 s0 s1 u k41 = some res) {H : Heap} {locs : List Loc} (hP : va_P D vwCl (mW cI cZ cJ o ad u) H) (hS : va_S A s.heap H locs) {ls : Array Slot} (hl : lv_has ls 10 [(0, .ref o), (1, .int x1), (2, .int x2), (3, .int x3), (5, .int x5)]) : W p l e rmX10_burst s m args below meth c H locs 0 0 (MQ below (mQi D cI cZ cJ o ad A res) args s 0 0 A) (F0 m 76 ls [.int s1, .int s0]) := by
  have hx := C.1
  have hb := C.2.1
  unfold fX10_burst_76 at h
  refine lv_iand hx hb dX10_burst_76 ?_
  refine lv_istore (lv' := [(4, .int (s0 &&& s1)), (0, .ref o), (1, .int x1), (2, .int x2), (3, .int x3), (5, .int x5)]) hx hb dX10_burst_77 hl (by decide) rfl (fun ls hl => ?_)
  refine lv_iinc (v := x5 + (1 : Int32)) (lv' := [(5, .int (x5 + (1 : Int32))), (4, .int (s0 &&& s1)), (0, .ref o), (1, .int x1), (2, .int x2), (3, .int x3)]) hx hb dX10_burst_79 hl (k := 5) rfl rfl (by decide) rfl (fun ls hl => ?_)
  refine lv_goto (tgt := 41) hx hb dX10_burst_82 (by decide) ?_
  exact hk41 _ _ _ _ _ _ _ _ _ h hP hS (lv_sub hl [2, 3, 4, 5, 1, 0] rfl)
def fX10_burst_71 (x1 : Int32) (x2 : Int32) (x3 : Int32) (x5 : Int32) (s0 : Int32) (u : mS) (k41 : Int32 → Int32 → Int32 → Int32 → Int32 → mS → Option (Int32 × mS)) : Option (Int32 × mS) :=
  fX10_burst_76 x1 x2 x3 x5 s0 (1 : Int32) u k41
set_option maxHeartbeats 4000000 in
set_option maxRecDepth 20000 in
theorem wX10_burst_71 (C : mC p s m args meth c cX10_burst 10 (some .int) D cI cZ cJ o ad A) {x1 : Int32} {x2 : Int32} {x3 : Int32} {x5 : Int32} {s0 : Int32} {u : mS} {res : Int32 × mS} {k41 : Int32 → Int32 → Int32 → Int32 → Int32 → mS → Option (Int32 × mS)} (hk41 : ∀ (x1 : Int32) (x2 : Int32) (x3 : Int32) (x4 : Int32) (x5 : Int32) (u : mS) (H : Heap) (locs : List Loc) (ls : Array Slot), k41 x1 x2 x3 x4 x5 u = some res → va_P D vwCl (mW cI cZ cJ o ad u) H → va_S A s.heap H locs → lv_has ls 10 [(0, .ref o), (1, .int x1), (2, .int x2), (3, .int x3), (4, .int x4), (5, .int x5)] → W p l e rmX10_burst s m args below meth c H locs 0 0 (MQ below (mQi D cI cZ cJ o ad A res) args s 0 0 A) (F0 m 41 ls [])) (h : fX10_burst_71 x1 x2 x3 x5 s0 u k41 = some res) {H : Heap} {locs : List Loc} (hP : va_P D vwCl (mW cI cZ cJ o ad u) H) (hS : va_S A s.heap H locs) {ls : Array Slot} (hl : lv_has ls 10 [(0, .ref o), (1, .int x1), (2, .int x2), (3, .int x3), (5, .int x5)]) : W p l e rmX10_burst s m args below meth c H locs 0 0 (MQ below (mQi D cI cZ cJ o ad A res) args s 0 0 A) (F0 m 71 ls [.int s0]) := by
  have hx := C.1
  have hb := C.2.1
  unfold fX10_burst_71 at h
  refine lv_iconst (v := 1) hx hb dX10_burst_71 (by decide) ?_
  refine lv_goto (tgt := 76) hx hb dX10_burst_72 (by decide) ?_
  exact wX10_burst_76 C hk41 h hP hS (lv_sub hl [0, 1, 2, 3, 4] rfl)
def fX10_burst_41_b (x1 : Int32) (x2 : Int32) (x3 : Int32) (x4 : Int32) (x5 : Int32) (u : mS) (k41 : Int32 → Int32 → Int32 → Int32 → Int32 → mS → Option (Int32 × mS)) (k85 : Int32 → Int32 → Int32 → Int32 → mS → Option (Int32 × mS)) : Option (Int32 × mS) :=
  if (u.1 2) ≤ x5 then (
    k85 x1 x2 x3 x4 u
  ) else (
    if ((x1 >>> (x5 &&& 31)) &&& (1 : Int32)) = 0 then (
      fX10_burst_71 x1 x2 x3 x5 x4 u k41
    ) else (
      (mR u 9 20 x5).bind fun v67 =>
      if v67 = 0 then (
        fX10_burst_71 x1 x2 x3 x5 x4 u k41
      ) else (
        fX10_burst_76 x1 x2 x3 x5 x4 (0 : Int32) u k41
      )
    )
  )
set_option maxHeartbeats 4000000 in
set_option maxRecDepth 20000 in
theorem wX10_burst_41_b (C : mC p s m args meth c cX10_burst 10 (some .int) D cI cZ cJ o ad A) {x1 : Int32} {x2 : Int32} {x3 : Int32} {x4 : Int32} {x5 : Int32} {u : mS} {res : Int32 × mS} {k41 : Int32 → Int32 → Int32 → Int32 → Int32 → mS → Option (Int32 × mS)} {k85 : Int32 → Int32 → Int32 → Int32 → mS → Option (Int32 × mS)} (hk41 : ∀ (x1 : Int32) (x2 : Int32) (x3 : Int32) (x4 : Int32) (x5 : Int32) (u : mS) (H : Heap) (locs : List Loc) (ls : Array Slot), k41 x1 x2 x3 x4 x5 u = some res → va_P D vwCl (mW cI cZ cJ o ad u) H → va_S A s.heap H locs → lv_has ls 10 [(0, .ref o), (1, .int x1), (2, .int x2), (3, .int x3), (4, .int x4), (5, .int x5)] → W p l e rmX10_burst s m args below meth c H locs 0 0 (MQ below (mQi D cI cZ cJ o ad A res) args s 0 0 A) (F0 m 41 ls [])) (hk85 : ∀ (x1 : Int32) (x2 : Int32) (x3 : Int32) (x4 : Int32) (u : mS) (H : Heap) (locs : List Loc) (ls : Array Slot), k85 x1 x2 x3 x4 u = some res → va_P D vwCl (mW cI cZ cJ o ad u) H → va_S A s.heap H locs → lv_has ls 10 [(0, .ref o), (1, .int x1), (2, .int x2), (3, .int x3), (4, .int x4)] → W p l e rmX10_burst s m args below meth c H locs 0 0 (MQ below (mQi D cI cZ cJ o ad A res) args s 0 0 A) (F0 m 85 ls [])) (h : fX10_burst_41_b x1 x2 x3 x4 x5 u k41 k85 = some res) {H : Heap} {locs : List Loc} (hP : va_P D vwCl (mW cI cZ cJ o ad u) H) (hS : va_S A s.heap H locs) {ls : Array Slot} (hl : lv_has ls 10 [(0, .ref o), (1, .int x1), (2, .int x2), (3, .int x3), (4, .int x4), (5, .int x5)]) : W p l e rmX10_burst s m args below meth c H locs 0 0 (MQ below (mQi D cI cZ cJ o ad A res) args s 0 0 A) (F0 m 41 ls []) := by
  have hx := C.1
  have hb := C.2.1
  unfold fX10_burst_41_b at h
  refine lv_iload hx hb dX10_burst_41 (lv_at hl 5 rfl) ?_
  refine lv_aload_n hx hb dX10_burst_43 rfl (lv_at hl 0 rfl) ?_
  refine mg_things C hP dX10_burst_44 ?_
  refine lv_icmp_ge (tgt := 85) hx hb dX10_burst_47 (by decide) (fun hc => ?_) (fun hc => ?_)
  · replace h := it_pos hc h
    exact hk85 _ _ _ _ _ _ _ _ h hP hS (lv_sub hl [0, 1, 2, 3, 4] rfl)
  · replace h := it_neg hc h
    refine lv_iload hx hb dX10_burst_50 (lv_at hl 4 rfl) ?_
    refine lv_iload_n hx hb dX10_burst_52 rfl (lv_at hl 1 rfl) ?_
    refine lv_iload hx hb dX10_burst_53 (lv_at hl 5 rfl) ?_
    refine lv_ishr hx hb dX10_burst_55 ?_
    refine lv_iconst (v := 1) hx hb dX10_burst_56 (by decide) ?_
    refine lv_iand hx hb dX10_burst_57 ?_
    refine lv_if_eq (tgt := 71) hx hb dX10_burst_58 (by decide) (fun hc => ?_) (fun hc => ?_)
    · replace h := it_pos hc h
      exact wX10_burst_71 C hk41 h hP hS (lv_sub hl [0, 1, 2, 3, 5] rfl)
    · replace h := it_neg hc h
      refine lv_aload_n hx hb dX10_burst_61 rfl (lv_at hl 0 rfl) ?_
      refine mg_is C hP dX10_burst_62 ?_
      refine lv_iload hx hb dX10_burst_65 (lv_at hl 5 rfl) ?_
      obtain ⟨v67, e67, h⟩ := ob h
      refine ml_is C hP e67 dX10_burst_67 ?_
      refine lv_if_ne (tgt := 75) hx hb dX10_burst_68 (by decide) (fun hc => ?_) (fun hc => ?_)
      · replace h := it_neg hc h
        refine lv_iconst (v := 0) hx hb dX10_burst_75 (by decide) ?_
        exact wX10_burst_76 C hk41 h hP hS (lv_sub hl [0, 1, 2, 3, 5] rfl)
      · replace h := it_pos hc h
        exact wX10_burst_71 C hk41 h hP hS (lv_sub hl [0, 1, 2, 3, 5] rfl)
def fX10_burst_41 (k85 : Int32 → Int32 → Int32 → Int32 → mS → Option (Int32 × mS)) : Nat → Int32 → Int32 → Int32 → Int32 → Int32 → mS → Option (Int32 × mS)
  | 0 => fun _ _ _ _ _ _ => none
  | n + 1 => fun x1 x2 x3 x4 x5 u => fX10_burst_41_b x1 x2 x3 x4 x5 u (fX10_burst_41 k85 n) k85 
theorem wX10_burst_41 (C : mC p s m args meth c cX10_burst 10 (some .int) D cI cZ cJ o ad A) {res : Int32 × mS} {k85 : Int32 → Int32 → Int32 → Int32 → mS → Option (Int32 × mS)} (hk85 : ∀ (x1 : Int32) (x2 : Int32) (x3 : Int32) (x4 : Int32) (u : mS) (H : Heap) (locs : List Loc) (ls : Array Slot), k85 x1 x2 x3 x4 u = some res → va_P D vwCl (mW cI cZ cJ o ad u) H → va_S A s.heap H locs → lv_has ls 10 [(0, .ref o), (1, .int x1), (2, .int x2), (3, .int x3), (4, .int x4)] → W p l e rmX10_burst s m args below meth c H locs 0 0 (MQ below (mQi D cI cZ cJ o ad A res) args s 0 0 A) (F0 m 85 ls [])) (n : Nat) : ∀ {x1 : Int32} {x2 : Int32} {x3 : Int32} {x4 : Int32} {x5 : Int32} {u : mS} {H : Heap} {locs : List Loc} {ls : Array Slot}, fX10_burst_41 k85 n x1 x2 x3 x4 x5 u = some res → va_P D vwCl (mW cI cZ cJ o ad u) H → va_S A s.heap H locs → lv_has ls 10 [(0, .ref o), (1, .int x1), (2, .int x2), (3, .int x3), (4, .int x4), (5, .int x5)] → W p l e rmX10_burst s m args below meth c H locs 0 0 (MQ below (mQi D cI cZ cJ o ad A res) args s 0 0 A) (F0 m 41 ls []) := by
  induction n with
  | zero => intro _ _ _ _ _ _ _ _ _ h _ _ _; cases (show (none : Option (Int32 × mS)) = some res from h)
  | succ n ih => intro _ _ _ _ _ _ _ _ _ h hP hS hl; exact wX10_burst_41_b C (fun _ _ _ _ _ _ _ _ _ h hP hS hl => ih h hP hS hl) hk85 h hP hS hl
def fX10_burst_161 (x1 : Int32) (x2 : Int32) (x3 : Int32) (x5 : Int32) (x6 : Int32) (x7 : Int32) (x9 : Int32) (s0 : Int32) (s1 : Int32) (u : mS) (k128 : Int32 → Int32 → Int32 → Int32 → Int32 → Int32 → Int32 → Int32 → mS → Option (Int32 × mS)) : Option (Int32 × mS) :=
  k128 x1 x2 x3 x5 x6 x7 (s0 + s1) (x9 + (1 : Int32)) u
set_option maxHeartbeats 4000000 in
set_option maxRecDepth 20000 in
theorem wX10_burst_161 (C : mC p s m args meth c cX10_burst 10 (some .int) D cI cZ cJ o ad A) {x1 : Int32} {x2 : Int32} {x3 : Int32} {x5 : Int32} {x6 : Int32} {x7 : Int32} {x9 : Int32} {s0 : Int32} {s1 : Int32} {u : mS} {res : Int32 × mS} {k128 : Int32 → Int32 → Int32 → Int32 → Int32 → Int32 → Int32 → Int32 → mS → Option (Int32 × mS)} (hk128 : ∀ (x1 : Int32) (x2 : Int32) (x3 : Int32) (x5 : Int32) (x6 : Int32) (x7 : Int32) (x8 : Int32) (x9 : Int32) (u : mS) (H : Heap) (locs : List Loc) (ls : Array Slot), k128 x1 x2 x3 x5 x6 x7 x8 x9 u = some res → va_P D vwCl (mW cI cZ cJ o ad u) H → va_S A s.heap H locs → lv_has ls 10 [(0, .ref o), (1, .int x1), (2, .int x2), (3, .int x3), (5, .int x5), (6, .int x6), (7, .int x7), (8, .int x8), (9, .int x9)] → W p l e rmX10_burst s m args below meth c H locs 0 0 (MQ below (mQi D cI cZ cJ o ad A res) args s 0 0 A) (F0 m 128 ls [])) (h : fX10_burst_161 x1 x2 x3 x5 x6 x7 x9 s0 s1 u k128 = some res) {H : Heap} {locs : List Loc} (hP : va_P D vwCl (mW cI cZ cJ o ad u) H) (hS : va_S A s.heap H locs) {ls : Array Slot} (hl : lv_has ls 10 [(0, .ref o), (1, .int x1), (2, .int x2), (3, .int x3), (5, .int x5), (6, .int x6), (7, .int x7), (9, .int x9)]) : W p l e rmX10_burst s m args below meth c H locs 0 0 (MQ below (mQi D cI cZ cJ o ad A res) args s 0 0 A) (F0 m 161 ls [.int s1, .int s0]) := by
  have hx := C.1
  have hb := C.2.1
  unfold fX10_burst_161 at h
  refine lv_iadd hx hb dX10_burst_161 ?_
  refine lv_istore (lv' := [(8, .int (s0 + s1)), (0, .ref o), (1, .int x1), (2, .int x2), (3, .int x3), (5, .int x5), (6, .int x6), (7, .int x7), (9, .int x9)]) hx hb dX10_burst_162 hl (by decide) rfl (fun ls hl => ?_)
  refine lv_iinc (v := x9 + (1 : Int32)) (lv' := [(9, .int (x9 + (1 : Int32))), (8, .int (s0 + s1)), (0, .ref o), (1, .int x1), (2, .int x2), (3, .int x3), (5, .int x5), (6, .int x6), (7, .int x7)]) hx hb dX10_burst_164 hl (k := 8) rfl rfl (by decide) rfl (fun ls hl => ?_)
  refine lv_goto (tgt := 128) hx hb dX10_burst_167 (by decide) ?_
  exact hk128 _ _ _ _ _ _ _ _ _ _ _ _ h hP hS (lv_sub hl [2, 3, 4, 5, 6, 7, 8, 1, 0] rfl)
def fX10_burst_128_b (x1 : Int32) (x2 : Int32) (x3 : Int32) (x5 : Int32) (x6 : Int32) (x7 : Int32) (x8 : Int32) (x9 : Int32) (u : mS) (k128 : Int32 → Int32 → Int32 → Int32 → Int32 → Int32 → Int32 → Int32 → mS → Option (Int32 × mS)) (k170 : Int32 → Int32 → Int32 → Int32 → Int32 → Int32 → Int32 → mS → Option (Int32 × mS)) : Option (Int32 × mS) :=
  if (u.1 2) ≤ x9 then (
    k170 x1 x2 x3 x5 x6 x7 x8 u
  ) else (
    if ((x7 >>> (x9 &&& 31)) &&& (1 : Int32)) = (1 : Int32) then (
      (mR u 6 20 x9).bind fun v156 =>
      fX10_burst_161 x1 x2 x3 x5 x6 x7 x9 x8 v156 u k128
    ) else (
      fX10_burst_161 x1 x2 x3 x5 x6 x7 x9 x8 (0 : Int32) u k128
    )
  )
set_option maxHeartbeats 4000000 in
set_option maxRecDepth 20000 in
theorem wX10_burst_128_b (C : mC p s m args meth c cX10_burst 10 (some .int) D cI cZ cJ o ad A) {x1 : Int32} {x2 : Int32} {x3 : Int32} {x5 : Int32} {x6 : Int32} {x7 : Int32} {x8 : Int32} {x9 : Int32} {u : mS} {res : Int32 × mS} {k128 : Int32 → Int32 → Int32 → Int32 → Int32 → Int32 → Int32 → Int32 → mS → Option (Int32 × mS)} {k170 : Int32 → Int32 → Int32 → Int32 → Int32 → Int32 → Int32 → mS → Option (Int32 × mS)} (hk128 : ∀ (x1 : Int32) (x2 : Int32) (x3 : Int32) (x5 : Int32) (x6 : Int32) (x7 : Int32) (x8 : Int32) (x9 : Int32) (u : mS) (H : Heap) (locs : List Loc) (ls : Array Slot), k128 x1 x2 x3 x5 x6 x7 x8 x9 u = some res → va_P D vwCl (mW cI cZ cJ o ad u) H → va_S A s.heap H locs → lv_has ls 10 [(0, .ref o), (1, .int x1), (2, .int x2), (3, .int x3), (5, .int x5), (6, .int x6), (7, .int x7), (8, .int x8), (9, .int x9)] → W p l e rmX10_burst s m args below meth c H locs 0 0 (MQ below (mQi D cI cZ cJ o ad A res) args s 0 0 A) (F0 m 128 ls [])) (hk170 : ∀ (x1 : Int32) (x2 : Int32) (x3 : Int32) (x5 : Int32) (x6 : Int32) (x7 : Int32) (x8 : Int32) (u : mS) (H : Heap) (locs : List Loc) (ls : Array Slot), k170 x1 x2 x3 x5 x6 x7 x8 u = some res → va_P D vwCl (mW cI cZ cJ o ad u) H → va_S A s.heap H locs → lv_has ls 10 [(0, .ref o), (1, .int x1), (2, .int x2), (3, .int x3), (5, .int x5), (6, .int x6), (7, .int x7), (8, .int x8)] → W p l e rmX10_burst s m args below meth c H locs 0 0 (MQ below (mQi D cI cZ cJ o ad A res) args s 0 0 A) (F0 m 170 ls [])) (h : fX10_burst_128_b x1 x2 x3 x5 x6 x7 x8 x9 u k128 k170 = some res) {H : Heap} {locs : List Loc} (hP : va_P D vwCl (mW cI cZ cJ o ad u) H) (hS : va_S A s.heap H locs) {ls : Array Slot} (hl : lv_has ls 10 [(0, .ref o), (1, .int x1), (2, .int x2), (3, .int x3), (5, .int x5), (6, .int x6), (7, .int x7), (8, .int x8), (9, .int x9)]) : W p l e rmX10_burst s m args below meth c H locs 0 0 (MQ below (mQi D cI cZ cJ o ad A res) args s 0 0 A) (F0 m 128 ls []) := by
  have hx := C.1
  have hb := C.2.1
  unfold fX10_burst_128_b at h
  refine lv_iload hx hb dX10_burst_128 (lv_at hl 8 rfl) ?_
  refine lv_aload_n hx hb dX10_burst_130 rfl (lv_at hl 0 rfl) ?_
  refine mg_things C hP dX10_burst_131 ?_
  refine lv_icmp_ge (tgt := 170) hx hb dX10_burst_134 (by decide) (fun hc => ?_) (fun hc => ?_)
  · replace h := it_pos hc h
    exact hk170 _ _ _ _ _ _ _ _ _ _ _ h hP hS (lv_sub hl [0, 1, 2, 3, 4, 5, 6, 7] rfl)
  · replace h := it_neg hc h
    refine lv_iload hx hb dX10_burst_137 (lv_at hl 7 rfl) ?_
    refine lv_iload hx hb dX10_burst_139 (lv_at hl 6 rfl) ?_
    refine lv_iload hx hb dX10_burst_141 (lv_at hl 8 rfl) ?_
    refine lv_ishr hx hb dX10_burst_143 ?_
    refine lv_iconst (v := 1) hx hb dX10_burst_144 (by decide) ?_
    refine lv_iand hx hb dX10_burst_145 ?_
    refine lv_iconst (v := 1) hx hb dX10_burst_146 (by decide) ?_
    refine lv_icmp_ne (tgt := 160) hx hb dX10_burst_147 (by decide) (fun hc => ?_) (fun hc => ?_)
    · replace h := it_neg hc h
      refine lv_iconst (v := 0) hx hb dX10_burst_160 (by decide) ?_
      exact wX10_burst_161 C hk128 h hP hS (lv_sub hl [0, 1, 2, 3, 4, 5, 6, 8] rfl)
    · replace h := it_pos hc h
      refine lv_aload_n hx hb dX10_burst_150 rfl (lv_at hl 0 rfl) ?_
      refine mg_weight C hP dX10_burst_151 ?_
      refine lv_iload hx hb dX10_burst_154 (lv_at hl 8 rfl) ?_
      obtain ⟨v156, e156, h⟩ := ob h
      refine ml_weight C hP e156 dX10_burst_156 ?_
      refine lv_goto (tgt := 161) hx hb dX10_burst_157 (by decide) ?_
      exact wX10_burst_161 C hk128 h hP hS (lv_sub hl [0, 1, 2, 3, 4, 5, 6, 8] rfl)
def fX10_burst_128 (k170 : Int32 → Int32 → Int32 → Int32 → Int32 → Int32 → Int32 → mS → Option (Int32 × mS)) : Nat → Int32 → Int32 → Int32 → Int32 → Int32 → Int32 → Int32 → Int32 → mS → Option (Int32 × mS)
  | 0 => fun _ _ _ _ _ _ _ _ _ => none
  | n + 1 => fun x1 x2 x3 x5 x6 x7 x8 x9 u => fX10_burst_128_b x1 x2 x3 x5 x6 x7 x8 x9 u (fX10_burst_128 k170 n) k170 
theorem wX10_burst_128 (C : mC p s m args meth c cX10_burst 10 (some .int) D cI cZ cJ o ad A) {res : Int32 × mS} {k170 : Int32 → Int32 → Int32 → Int32 → Int32 → Int32 → Int32 → mS → Option (Int32 × mS)} (hk170 : ∀ (x1 : Int32) (x2 : Int32) (x3 : Int32) (x5 : Int32) (x6 : Int32) (x7 : Int32) (x8 : Int32) (u : mS) (H : Heap) (locs : List Loc) (ls : Array Slot), k170 x1 x2 x3 x5 x6 x7 x8 u = some res → va_P D vwCl (mW cI cZ cJ o ad u) H → va_S A s.heap H locs → lv_has ls 10 [(0, .ref o), (1, .int x1), (2, .int x2), (3, .int x3), (5, .int x5), (6, .int x6), (7, .int x7), (8, .int x8)] → W p l e rmX10_burst s m args below meth c H locs 0 0 (MQ below (mQi D cI cZ cJ o ad A res) args s 0 0 A) (F0 m 170 ls [])) (n : Nat) : ∀ {x1 : Int32} {x2 : Int32} {x3 : Int32} {x5 : Int32} {x6 : Int32} {x7 : Int32} {x8 : Int32} {x9 : Int32} {u : mS} {H : Heap} {locs : List Loc} {ls : Array Slot}, fX10_burst_128 k170 n x1 x2 x3 x5 x6 x7 x8 x9 u = some res → va_P D vwCl (mW cI cZ cJ o ad u) H → va_S A s.heap H locs → lv_has ls 10 [(0, .ref o), (1, .int x1), (2, .int x2), (3, .int x3), (5, .int x5), (6, .int x6), (7, .int x7), (8, .int x8), (9, .int x9)] → W p l e rmX10_burst s m args below meth c H locs 0 0 (MQ below (mQi D cI cZ cJ o ad A res) args s 0 0 A) (F0 m 128 ls []) := by
  induction n with
  | zero => intro _ _ _ _ _ _ _ _ _ _ _ _ h _ _ _; cases (show (none : Option (Int32 × mS)) = some res from h)
  | succ n ih => intro _ _ _ _ _ _ _ _ _ _ _ _ h hP hS hl; exact wX10_burst_128_b C (fun _ _ _ _ _ _ _ _ _ _ _ _ h hP hS hl => ih h hP hS hl) hk170 h hP hS hl
def fX10_burst_235 (x1 : Int32) (x2 : Int32) (x3 : Int32) (x5 : Int32) (x6 : Int32) (x7 : Int32) (u : mS) (k117 : Int32 → Int32 → Int32 → Int32 → Int32 → Int32 → mS → Option (Int32 × mS)) : Option (Int32 × mS) :=
  k117 x1 x2 x3 x5 x6 ((x7 - x1) &&& x1) u
set_option maxHeartbeats 4000000 in
set_option maxRecDepth 20000 in
theorem wX10_burst_235 (C : mC p s m args meth c cX10_burst 10 (some .int) D cI cZ cJ o ad A) {x1 : Int32} {x2 : Int32} {x3 : Int32} {x5 : Int32} {x6 : Int32} {x7 : Int32} {u : mS} {res : Int32 × mS} {k117 : Int32 → Int32 → Int32 → Int32 → Int32 → Int32 → mS → Option (Int32 × mS)} (hk117 : ∀ (x1 : Int32) (x2 : Int32) (x3 : Int32) (x5 : Int32) (x6 : Int32) (x7 : Int32) (u : mS) (H : Heap) (locs : List Loc) (ls : Array Slot), k117 x1 x2 x3 x5 x6 x7 u = some res → va_P D vwCl (mW cI cZ cJ o ad u) H → va_S A s.heap H locs → lv_has ls 10 [(0, .ref o), (1, .int x1), (2, .int x2), (3, .int x3), (5, .int x5), (6, .int x6), (7, .int x7)] → W p l e rmX10_burst s m args below meth c H locs 0 0 (MQ below (mQi D cI cZ cJ o ad A res) args s 0 0 A) (F0 m 117 ls [])) (h : fX10_burst_235 x1 x2 x3 x5 x6 x7 u k117 = some res) {H : Heap} {locs : List Loc} (hP : va_P D vwCl (mW cI cZ cJ o ad u) H) (hS : va_S A s.heap H locs) {ls : Array Slot} (hl : lv_has ls 10 [(0, .ref o), (1, .int x1), (2, .int x2), (3, .int x3), (5, .int x5), (6, .int x6), (7, .int x7)]) : W p l e rmX10_burst s m args below meth c H locs 0 0 (MQ below (mQi D cI cZ cJ o ad A res) args s 0 0 A) (F0 m 235 ls []) := by
  have hx := C.1
  have hb := C.2.1
  unfold fX10_burst_235 at h
  refine lv_iload hx hb dX10_burst_235 (lv_at hl 6 rfl) ?_
  refine lv_iload_n hx hb dX10_burst_237 rfl (lv_at hl 1 rfl) ?_
  refine lv_isub hx hb dX10_burst_238 ?_
  refine lv_iload_n hx hb dX10_burst_239 rfl (lv_at hl 1 rfl) ?_
  refine lv_iand hx hb dX10_burst_240 ?_
  refine lv_istore (lv' := [(7, .int ((x7 - x1) &&& x1)), (0, .ref o), (1, .int x1), (2, .int x2), (3, .int x3), (5, .int x5), (6, .int x6)]) hx hb dX10_burst_241 hl (by decide) rfl (fun ls hl => ?_)
  refine lv_goto (tgt := 117) hx hb dX10_burst_243 (by decide) ?_
  exact hk117 _ _ _ _ _ _ _ _ _ _ h hP hS (lv_sub hl [1, 2, 3, 4, 5, 6, 0] rfl)
def fX10_burst_227 (x1 : Int32) (x2 : Int32) (x3 : Int32) (x7 : Int32) (x9 : Int32) (u : mS) (k117 : Int32 → Int32 → Int32 → Int32 → Int32 → Int32 → mS → Option (Int32 × mS)) : Option (Int32 × mS) :=
  fX10_burst_235 x1 x2 x3 x7 x9 x7 u k117
set_option maxHeartbeats 4000000 in
set_option maxRecDepth 20000 in
theorem wX10_burst_227 (C : mC p s m args meth c cX10_burst 10 (some .int) D cI cZ cJ o ad A) {x1 : Int32} {x2 : Int32} {x3 : Int32} {x7 : Int32} {x9 : Int32} {u : mS} {res : Int32 × mS} {k117 : Int32 → Int32 → Int32 → Int32 → Int32 → Int32 → mS → Option (Int32 × mS)} (hk117 : ∀ (x1 : Int32) (x2 : Int32) (x3 : Int32) (x5 : Int32) (x6 : Int32) (x7 : Int32) (u : mS) (H : Heap) (locs : List Loc) (ls : Array Slot), k117 x1 x2 x3 x5 x6 x7 u = some res → va_P D vwCl (mW cI cZ cJ o ad u) H → va_S A s.heap H locs → lv_has ls 10 [(0, .ref o), (1, .int x1), (2, .int x2), (3, .int x3), (5, .int x5), (6, .int x6), (7, .int x7)] → W p l e rmX10_burst s m args below meth c H locs 0 0 (MQ below (mQi D cI cZ cJ o ad A res) args s 0 0 A) (F0 m 117 ls [])) (h : fX10_burst_227 x1 x2 x3 x7 x9 u k117 = some res) {H : Heap} {locs : List Loc} (hP : va_P D vwCl (mW cI cZ cJ o ad u) H) (hS : va_S A s.heap H locs) {ls : Array Slot} (hl : lv_has ls 10 [(0, .ref o), (1, .int x1), (2, .int x2), (3, .int x3), (7, .int x7), (9, .int x9)]) : W p l e rmX10_burst s m args below meth c H locs 0 0 (MQ below (mQi D cI cZ cJ o ad A res) args s 0 0 A) (F0 m 227 ls []) := by
  have hx := C.1
  have hb := C.2.1
  unfold fX10_burst_227 at h
  refine lv_iload hx hb dX10_burst_227 (lv_at hl 4 rfl) ?_
  refine lv_istore (lv' := [(5, .int x7), (0, .ref o), (1, .int x1), (2, .int x2), (3, .int x3), (7, .int x7), (9, .int x9)]) hx hb dX10_burst_229 hl (by decide) rfl (fun ls hl => ?_)
  refine lv_iload hx hb dX10_burst_231 (lv_at hl 6 rfl) ?_
  refine lv_istore (lv' := [(6, .int x9), (5, .int x7), (0, .ref o), (1, .int x1), (2, .int x2), (3, .int x3), (7, .int x7), (9, .int x9)]) hx hb dX10_burst_233 hl (by decide) rfl (fun ls hl => ?_)
  exact wX10_burst_235 C hk117 h hP hS (lv_sub hl [2, 3, 4, 5, 1, 0, 6] rfl)
def fX10_burst_187 (x1 : Int32) (x2 : Int32) (x3 : Int32) (x5 : Int32) (x6 : Int32) (x7 : Int32) (s0 : Int32) (u : mS) (k117 : Int32 → Int32 → Int32 → Int32 → Int32 → Int32 → mS → Option (Int32 × mS)) : Option (Int32 × mS) :=
  if x3 < s0 then (
    fX10_burst_235 x1 x2 x3 x5 x6 x7 u k117
  ) else (
    if x5 = 0 then (
      fX10_burst_227 x1 x2 x3 x7 s0 u k117
    ) else (
      if s0 < x6 then (
        fX10_burst_227 x1 x2 x3 x7 s0 u k117
      ) else (
        if s0 = x6 then (
          bI (fX10_ones x7 u) fun r216 u216 =>
          bI (fX10_ones x5 u216) fun r221 u221 =>
          if r221 ≤ r216 then (
            fX10_burst_235 x1 x2 x3 x5 x6 x7 u221 k117
          ) else (
            fX10_burst_227 x1 x2 x3 x7 s0 u221 k117
          )
        ) else (
          fX10_burst_235 x1 x2 x3 x5 x6 x7 u k117
        )
      )
    )
  )
set_option maxHeartbeats 4000000 in
set_option maxRecDepth 20000 in
theorem wX10_burst_187 (C : mC p s m args meth c cX10_burst 10 (some .int) D cI cZ cJ o ad A) {x1 : Int32} {x2 : Int32} {x3 : Int32} {x5 : Int32} {x6 : Int32} {x7 : Int32} {s0 : Int32} {u : mS} {res : Int32 × mS} {k117 : Int32 → Int32 → Int32 → Int32 → Int32 → Int32 → mS → Option (Int32 × mS)} (hk117 : ∀ (x1 : Int32) (x2 : Int32) (x3 : Int32) (x5 : Int32) (x6 : Int32) (x7 : Int32) (u : mS) (H : Heap) (locs : List Loc) (ls : Array Slot), k117 x1 x2 x3 x5 x6 x7 u = some res → va_P D vwCl (mW cI cZ cJ o ad u) H → va_S A s.heap H locs → lv_has ls 10 [(0, .ref o), (1, .int x1), (2, .int x2), (3, .int x3), (5, .int x5), (6, .int x6), (7, .int x7)] → W p l e rmX10_burst s m args below meth c H locs 0 0 (MQ below (mQi D cI cZ cJ o ad A res) args s 0 0 A) (F0 m 117 ls [])) (h : fX10_burst_187 x1 x2 x3 x5 x6 x7 s0 u k117 = some res) {H : Heap} {locs : List Loc} (hP : va_P D vwCl (mW cI cZ cJ o ad u) H) (hS : va_S A s.heap H locs) {ls : Array Slot} (hl : lv_has ls 10 [(0, .ref o), (1, .int x1), (2, .int x2), (3, .int x3), (5, .int x5), (6, .int x6), (7, .int x7)]) : W p l e rmX10_burst s m args below meth c H locs 0 0 (MQ below (mQi D cI cZ cJ o ad A res) args s 0 0 A) (F0 m 187 ls [.int s0]) := by
  have hx := C.1
  have hb := C.2.1
  unfold fX10_burst_187 at h
  refine lv_istore (lv' := [(9, .int s0), (0, .ref o), (1, .int x1), (2, .int x2), (3, .int x3), (5, .int x5), (6, .int x6), (7, .int x7)]) hx hb dX10_burst_187 hl (by decide) rfl (fun ls hl => ?_)
  refine lv_iload hx hb dX10_burst_189 (lv_at hl 0 rfl) ?_
  refine lv_iload_n hx hb dX10_burst_191 rfl (lv_at hl 4 rfl) ?_
  refine lv_icmp_gt (tgt := 235) hx hb dX10_burst_192 (by decide) (fun hc => ?_) (fun hc => ?_)
  · replace h := it_pos hc h
    exact wX10_burst_235 C hk117 h hP hS (lv_sub hl [1, 2, 3, 4, 5, 6, 7] rfl)
  · replace h := it_neg hc h
    refine lv_iload hx hb dX10_burst_195 (lv_at hl 5 rfl) ?_
    refine lv_if_eq (tgt := 227) hx hb dX10_burst_197 (by decide) (fun hc => ?_) (fun hc => ?_)
    · replace h := it_pos hc h
      exact wX10_burst_227 C hk117 h hP hS (lv_sub hl [1, 2, 3, 4, 7, 0] rfl)
    · replace h := it_neg hc h
      refine lv_iload hx hb dX10_burst_200 (lv_at hl 0 rfl) ?_
      refine lv_iload hx hb dX10_burst_202 (lv_at hl 6 rfl) ?_
      refine lv_icmp_lt (tgt := 227) hx hb dX10_burst_204 (by decide) (fun hc => ?_) (fun hc => ?_)
      · replace h := it_pos hc h
        exact wX10_burst_227 C hk117 h hP hS (lv_sub hl [1, 2, 3, 4, 7, 0] rfl)
      · replace h := it_neg hc h
        refine lv_iload hx hb dX10_burst_207 (lv_at hl 0 rfl) ?_
        refine lv_iload hx hb dX10_burst_209 (lv_at hl 6 rfl) ?_
        refine lv_icmp_ne (tgt := 235) hx hb dX10_burst_211 (by decide) (fun hc => ?_) (fun hc => ?_)
        · replace h := it_neg hc h
          exact wX10_burst_235 C hk117 h hP hS (lv_sub hl [1, 2, 3, 4, 5, 6, 7] rfl)
        · replace h := it_pos hc h
          refine lv_iload hx hb dX10_burst_214 (lv_at hl 7 rfl) ?_
          obtain ⟨r216, u216, e216, h⟩ := obI h
          refine mx_cSi C hP hS [.int x7] (tX10_ones e216) qX10_208 ⟨rfl, rfl, Nat.le_of_ble_eq_true rfl, Nat.le_of_ble_eq_true rfl⟩ rfl hl.1 rfl (Nat.le_of_ble_eq_true rfl) dX10_burst_216 (fun H locs hP hS => ?_)
          refine lv_iload hx hb dX10_burst_219 (lv_at hl 5 rfl) ?_
          obtain ⟨r221, u221, e221, h⟩ := obI h
          refine mx_cSi C hP hS [.int x5] (tX10_ones e221) qX10_208 ⟨rfl, rfl, Nat.le_of_ble_eq_true rfl, Nat.le_of_ble_eq_true rfl⟩ rfl hl.1 rfl (Nat.le_of_ble_eq_true rfl) dX10_burst_221 (fun H locs hP hS => ?_)
          refine lv_icmp_ge (tgt := 235) hx hb dX10_burst_224 (by decide) (fun hc => ?_) (fun hc => ?_)
          · replace h := it_pos hc h
            exact wX10_burst_235 C hk117 h hP hS (lv_sub hl [1, 2, 3, 4, 5, 6, 7] rfl)
          · replace h := it_neg hc h
            exact wX10_burst_227 C hk117 h hP hS (lv_sub hl [1, 2, 3, 4, 7, 0] rfl)
def fX10_burst_117_b (x1 : Int32) (x2 : Int32) (x3 : Int32) (x5 : Int32) (x6 : Int32) (x7 : Int32) (u : mS) (k117 : Int32 → Int32 → Int32 → Int32 → Int32 → Int32 → mS → Option (Int32 × mS)) : Option (Int32 × mS) :=
  if x7 = 0 then (
    if x5 = 0 then (
      bI (fX10_finding (2 : Int32) u) fun r253 u253 =>
      some (r253, u253)
    ) else (
      some (x5, u)
    )
  ) else (
    fX10_burst_128 (fun x1 x2 x3 x5 x6 x7 x8 u =>
          if x2 ≤ x8 then (
            fX10_burst_187 x1 x2 x3 x5 x6 x7 (x8 - x2) u k117
          ) else (
            fX10_burst_187 x1 x2 x3 x5 x6 x7 (x2 - x8) u k117
          )) FU x1 x2 x3 x5 x6 x7 (0 : Int32) (0 : Int32) u
  )
set_option maxHeartbeats 4000000 in
set_option maxRecDepth 20000 in
theorem wX10_burst_117_b (C : mC p s m args meth c cX10_burst 10 (some .int) D cI cZ cJ o ad A) {x1 : Int32} {x2 : Int32} {x3 : Int32} {x5 : Int32} {x6 : Int32} {x7 : Int32} {u : mS} {res : Int32 × mS} {k117 : Int32 → Int32 → Int32 → Int32 → Int32 → Int32 → mS → Option (Int32 × mS)} (hk117 : ∀ (x1 : Int32) (x2 : Int32) (x3 : Int32) (x5 : Int32) (x6 : Int32) (x7 : Int32) (u : mS) (H : Heap) (locs : List Loc) (ls : Array Slot), k117 x1 x2 x3 x5 x6 x7 u = some res → va_P D vwCl (mW cI cZ cJ o ad u) H → va_S A s.heap H locs → lv_has ls 10 [(0, .ref o), (1, .int x1), (2, .int x2), (3, .int x3), (5, .int x5), (6, .int x6), (7, .int x7)] → W p l e rmX10_burst s m args below meth c H locs 0 0 (MQ below (mQi D cI cZ cJ o ad A res) args s 0 0 A) (F0 m 117 ls [])) (h : fX10_burst_117_b x1 x2 x3 x5 x6 x7 u k117 = some res) {H : Heap} {locs : List Loc} (hP : va_P D vwCl (mW cI cZ cJ o ad u) H) (hS : va_S A s.heap H locs) {ls : Array Slot} (hl : lv_has ls 10 [(0, .ref o), (1, .int x1), (2, .int x2), (3, .int x3), (5, .int x5), (6, .int x6), (7, .int x7)]) : W p l e rmX10_burst s m args below meth c H locs 0 0 (MQ below (mQi D cI cZ cJ o ad A res) args s 0 0 A) (F0 m 117 ls []) := by
  have hx := C.1
  have hb := C.2.1
  unfold fX10_burst_117_b at h
  refine lv_iload hx hb dX10_burst_117 (lv_at hl 6 rfl) ?_
  refine lv_if_eq (tgt := 246) hx hb dX10_burst_119 (by decide) (fun hc => ?_) (fun hc => ?_)
  · replace h := it_pos hc h
    refine lv_iload hx hb dX10_burst_246 (lv_at hl 4 rfl) ?_
    refine lv_if_ne (tgt := 259) hx hb dX10_burst_248 (by decide) (fun hc => ?_) (fun hc => ?_)
    · replace h := it_neg hc h
      refine lv_iload hx hb dX10_burst_259 (lv_at hl 4 rfl) ?_
      exact mx_reti C h hP hS dX10_burst_261
    · replace h := it_pos hc h
      refine lv_aload_n hx hb dX10_burst_251 rfl (lv_at hl 0 rfl) ?_
      refine lv_iconst (v := 2) hx hb dX10_burst_252 (by decide) ?_
      obtain ⟨r253, u253, e253, h⟩ := obI h
      refine mx_cVi C hP hS [.int (2 : Int32)] (tX10_finding e253) qX10_138 ⟨rfl, rfl, Nat.le_of_ble_eq_true rfl, Nat.le_of_ble_eq_true rfl⟩ rfl hl.1 rfl (Nat.le_of_ble_eq_true rfl) dX10_burst_253 (fun H locs hP hS => ?_)
      refine lv_goto (tgt := 261) hx hb dX10_burst_256 (by decide) ?_
      exact mx_reti C h hP hS dX10_burst_261
  · replace h := it_neg hc h
    refine lv_iconst (v := 0) hx hb dX10_burst_122 (by decide) ?_
    refine lv_istore (lv' := [(8, .int (0 : Int32)), (0, .ref o), (1, .int x1), (2, .int x2), (3, .int x3), (5, .int x5), (6, .int x6), (7, .int x7)]) hx hb dX10_burst_123 hl (by decide) rfl (fun ls hl => ?_)
    refine lv_iconst (v := 0) hx hb dX10_burst_125 (by decide) ?_
    refine lv_istore (lv' := [(9, .int (0 : Int32)), (8, .int (0 : Int32)), (0, .ref o), (1, .int x1), (2, .int x2), (3, .int x3), (5, .int x5), (6, .int x6), (7, .int x7)]) hx hb dX10_burst_126 hl (by decide) rfl (fun ls hl => ?_)
    refine wX10_burst_128 C ?_ FU h hP hS (lv_sub hl [2, 3, 4, 5, 6, 7, 8, 1, 0] rfl)
    · intro x1 x2 x3 x5 x6 x7 x8 u H locs ls h hP hS hl
      refine lv_iload hx hb dX10_burst_170 (lv_at hl 7 rfl) ?_
      refine lv_iload_n hx hb dX10_burst_172 rfl (lv_at hl 2 rfl) ?_
      refine lv_icmp_ge (tgt := 183) hx hb dX10_burst_173 (by decide) (fun hc => ?_) (fun hc => ?_)
      · replace h := it_pos hc h
        refine lv_iload hx hb dX10_burst_183 (lv_at hl 7 rfl) ?_
        refine lv_iload_n hx hb dX10_burst_185 rfl (lv_at hl 2 rfl) ?_
        refine lv_isub hx hb dX10_burst_186 ?_
        exact wX10_burst_187 C hk117 h hP hS (lv_sub hl [0, 1, 2, 3, 4, 5, 6] rfl)
      · replace h := it_neg hc h
        refine lv_iload_n hx hb dX10_burst_176 rfl (lv_at hl 2 rfl) ?_
        refine lv_iload hx hb dX10_burst_177 (lv_at hl 7 rfl) ?_
        refine lv_isub hx hb dX10_burst_179 ?_
        refine lv_goto (tgt := 187) hx hb dX10_burst_180 (by decide) ?_
        exact wX10_burst_187 C hk117 h hP hS (lv_sub hl [0, 1, 2, 3, 4, 5, 6] rfl)
def fX10_burst_117 : Nat → Int32 → Int32 → Int32 → Int32 → Int32 → Int32 → mS → Option (Int32 × mS)
  | 0 => fun _ _ _ _ _ _ _ => none
  | n + 1 => fun x1 x2 x3 x5 x6 x7 u => fX10_burst_117_b x1 x2 x3 x5 x6 x7 u (fX10_burst_117 n) 
theorem wX10_burst_117 (C : mC p s m args meth c cX10_burst 10 (some .int) D cI cZ cJ o ad A) {res : Int32 × mS} (n : Nat) : ∀ {x1 : Int32} {x2 : Int32} {x3 : Int32} {x5 : Int32} {x6 : Int32} {x7 : Int32} {u : mS} {H : Heap} {locs : List Loc} {ls : Array Slot}, fX10_burst_117 n x1 x2 x3 x5 x6 x7 u = some res → va_P D vwCl (mW cI cZ cJ o ad u) H → va_S A s.heap H locs → lv_has ls 10 [(0, .ref o), (1, .int x1), (2, .int x2), (3, .int x3), (5, .int x5), (6, .int x6), (7, .int x7)] → W p l e rmX10_burst s m args below meth c H locs 0 0 (MQ below (mQi D cI cZ cJ o ad A res) args s 0 0 A) (F0 m 117 ls []) := by
  induction n with
  | zero => intro _ _ _ _ _ _ _ _ _ _ h _ _ _; cases (show (none : Option (Int32 × mS)) = some res from h)
  | succ n ih => intro _ _ _ _ _ _ _ _ _ _ h hP hS hl; exact wX10_burst_117_b C (fun _ _ _ _ _ _ _ _ _ _ h hP hS hl => ih h hP hS hl) h hP hS hl
def fX10_burst (x1 : Int32) (x2 : Int32) (x3 : Int32) (u : mS) : Option (Int32 × mS) :=
  bI (fX10_isSet x1 u) fun r2 u2 =>
  if r2 = 0 then (
    bI (fX10_finding (1 : Int32) u2) fun r31 u31 =>
    some (r31, u31)
  ) else (
    bI (fX10_isIn x2 (1 : Int32) (100000 : Int32) u2) fun r12 u12 =>
    if r12 = 0 then (
      bI (fX10_finding (1 : Int32) u12) fun r31 u31 =>
      some (r31, u31)
    ) else (
      bI (fX10_isIn x3 (0 : Int32) (1000 : Int32) u12) fun r23 u23 =>
      if r23 = 0 then (
        bI (fX10_finding (1 : Int32) u23) fun r31 u31 =>
        some (r31, u31)
      ) else (
        fX10_burst_41 (fun x1 x2 x3 x4 u =>
              bI (fX10_ones x1 u) fun r86 u86 =>
              if (14 : Int32) < r86 then (
                bI (fX10_finding (3 : Int32) u86) fun r101 u101 =>
                some (r101, u101)
              ) else (
                if x4 = 0 then (
                  bI (fX10_finding (3 : Int32) u86) fun r101 u101 =>
                  some (r101, u101)
                ) else (
                  fX10_burst_117  FU x1 x2 x3 (0 : Int32) (0 : Int32) ((-x1) &&& x1) u86
                )
              )) FU x1 x2 x3 (1 : Int32) (0 : Int32) u23
      )
    )
  )
set_option maxHeartbeats 4000000 in
set_option maxRecDepth 20000 in
theorem wX10_burst (C : mC p s m args meth c cX10_burst 10 (some .int) D cI cZ cJ o ad A) {x1 : Int32} {x2 : Int32} {x3 : Int32} {u : mS} {res : Int32 × mS} (h : fX10_burst x1 x2 x3 u = some res) {H : Heap} {locs : List Loc} (hP : va_P D vwCl (mW cI cZ cJ o ad u) H) (hS : va_S A s.heap H locs) {ls : Array Slot} (hl : lv_has ls 10 [(0, .ref o), (1, .int x1), (2, .int x2), (3, .int x3)]) : W p l e rmX10_burst s m args below meth c H locs 0 0 (MQ below (mQi D cI cZ cJ o ad A res) args s 0 0 A) (F0 m 0 ls []) := by
  have hx := C.1
  have hb := C.2.1
  unfold fX10_burst at h
  refine lv_aload_n hx hb dX10_burst_0 rfl (lv_at hl 0 rfl) ?_
  refine lv_iload_n hx hb dX10_burst_1 rfl (lv_at hl 1 rfl) ?_
  obtain ⟨r2, u2, e2, h⟩ := obI h
  refine mx_cVi C hP hS [.int x1] (tX10_isSet e2) qX10_204 ⟨rfl, rfl, Nat.le_of_ble_eq_true rfl, Nat.le_of_ble_eq_true rfl⟩ rfl hl.1 rfl (Nat.le_of_ble_eq_true rfl) dX10_burst_2 (fun H locs hP hS => ?_)
  refine lv_if_eq (tgt := 29) hx hb dX10_burst_5 (by decide) (fun hc => ?_) (fun hc => ?_)
  · replace h := it_pos hc h
    refine lv_aload_n hx hb dX10_burst_29 rfl (lv_at hl 0 rfl) ?_
    refine lv_iconst (v := 1) hx hb dX10_burst_30 (by decide) ?_
    obtain ⟨r31, u31, e31, h⟩ := obI h
    refine mx_cVi C hP hS [.int (1 : Int32)] (tX10_finding e31) qX10_138 ⟨rfl, rfl, Nat.le_of_ble_eq_true rfl, Nat.le_of_ble_eq_true rfl⟩ rfl hl.1 rfl (Nat.le_of_ble_eq_true rfl) dX10_burst_31 (fun H locs hP hS => ?_)
    exact mx_reti C h hP hS dX10_burst_34
  · replace h := it_neg hc h
    refine lv_iload_n hx hb dX10_burst_8 rfl (lv_at hl 2 rfl) ?_
    refine lv_iconst (v := 1) hx hb dX10_burst_9 (by decide) ?_
    refine lv_ldc (v := 100000) hx hb C.2.2.2.1 (C.2.2.2.2.1 _ kcX10_207) dX10_burst_10 ?_
    obtain ⟨r12, u12, e12, h⟩ := obI h
    refine mx_cSi C hP hS [.int x2, .int (1 : Int32), .int (100000 : Int32)] (tX10_isIn e12) qX10_131 ⟨rfl, rfl, Nat.le_of_ble_eq_true rfl, Nat.le_of_ble_eq_true rfl⟩ rfl hl.1 rfl (Nat.le_of_ble_eq_true rfl) dX10_burst_12 (fun H locs hP hS => ?_)
    refine lv_if_eq (tgt := 29) hx hb dX10_burst_15 (by decide) (fun hc => ?_) (fun hc => ?_)
    · replace h := it_pos hc h
      refine lv_aload_n hx hb dX10_burst_29 rfl (lv_at hl 0 rfl) ?_
      refine lv_iconst (v := 1) hx hb dX10_burst_30 (by decide) ?_
      obtain ⟨r31, u31, e31, h⟩ := obI h
      refine mx_cVi C hP hS [.int (1 : Int32)] (tX10_finding e31) qX10_138 ⟨rfl, rfl, Nat.le_of_ble_eq_true rfl, Nat.le_of_ble_eq_true rfl⟩ rfl hl.1 rfl (Nat.le_of_ble_eq_true rfl) dX10_burst_31 (fun H locs hP hS => ?_)
      exact mx_reti C h hP hS dX10_burst_34
    · replace h := it_neg hc h
      refine lv_iload_n hx hb dX10_burst_18 rfl (lv_at hl 3 rfl) ?_
      refine lv_iconst (v := 0) hx hb dX10_burst_19 (by decide) ?_
      refine lv_sipush (v := 1000) hx hb dX10_burst_20 (by decide) ?_
      obtain ⟨r23, u23, e23, h⟩ := obI h
      refine mx_cSi C hP hS [.int x3, .int (0 : Int32), .int (1000 : Int32)] (tX10_isIn e23) qX10_131 ⟨rfl, rfl, Nat.le_of_ble_eq_true rfl, Nat.le_of_ble_eq_true rfl⟩ rfl hl.1 rfl (Nat.le_of_ble_eq_true rfl) dX10_burst_23 (fun H locs hP hS => ?_)
      refine lv_if_ne (tgt := 35) hx hb dX10_burst_26 (by decide) (fun hc => ?_) (fun hc => ?_)
      · replace h := it_neg hc h
        refine lv_iconst (v := 1) hx hb dX10_burst_35 (by decide) ?_
        refine lv_istore (lv' := [(4, .int (1 : Int32)), (0, .ref o), (1, .int x1), (2, .int x2), (3, .int x3)]) hx hb dX10_burst_36 hl (by decide) rfl (fun ls hl => ?_)
        refine lv_iconst (v := 0) hx hb dX10_burst_38 (by decide) ?_
        refine lv_istore (lv' := [(5, .int (0 : Int32)), (4, .int (1 : Int32)), (0, .ref o), (1, .int x1), (2, .int x2), (3, .int x3)]) hx hb dX10_burst_39 hl (by decide) rfl (fun ls hl => ?_)
        refine wX10_burst_41 C ?_ FU h hP hS (lv_sub hl [2, 3, 4, 5, 1, 0] rfl)
        · intro x1 x2 x3 x4 u H locs ls h hP hS hl
          refine lv_iload_n hx hb dX10_burst_85 rfl (lv_at hl 1 rfl) ?_
          obtain ⟨r86, u86, e86, h⟩ := obI h
          refine mx_cSi C hP hS [.int x1] (tX10_ones e86) qX10_208 ⟨rfl, rfl, Nat.le_of_ble_eq_true rfl, Nat.le_of_ble_eq_true rfl⟩ rfl hl.1 rfl (Nat.le_of_ble_eq_true rfl) dX10_burst_86 (fun H locs hP hS => ?_)
          refine lv_bipush (v := 14) hx hb dX10_burst_89 (by decide) ?_
          refine lv_icmp_gt (tgt := 99) hx hb dX10_burst_91 (by decide) (fun hc => ?_) (fun hc => ?_)
          · replace h := it_pos hc h
            refine lv_aload_n hx hb dX10_burst_99 rfl (lv_at hl 0 rfl) ?_
            refine lv_iconst (v := 3) hx hb dX10_burst_100 (by decide) ?_
            obtain ⟨r101, u101, e101, h⟩ := obI h
            refine mx_cVi C hP hS [.int (3 : Int32)] (tX10_finding e101) qX10_138 ⟨rfl, rfl, Nat.le_of_ble_eq_true rfl, Nat.le_of_ble_eq_true rfl⟩ rfl hl.1 rfl (Nat.le_of_ble_eq_true rfl) dX10_burst_101 (fun H locs hP hS => ?_)
            exact mx_reti C h hP hS dX10_burst_104
          · replace h := it_neg hc h
            refine lv_iload hx hb dX10_burst_94 (lv_at hl 4 rfl) ?_
            refine lv_if_ne (tgt := 105) hx hb dX10_burst_96 (by decide) (fun hc => ?_) (fun hc => ?_)
            · replace h := it_neg hc h
              refine lv_iconst (v := 0) hx hb dX10_burst_105 (by decide) ?_
              refine lv_istore (lv' := [(5, .int (0 : Int32)), (0, .ref o), (1, .int x1), (2, .int x2), (3, .int x3), (4, .int x4)]) hx hb dX10_burst_106 hl (by decide) rfl (fun ls hl => ?_)
              refine lv_iconst (v := 0) hx hb dX10_burst_108 (by decide) ?_
              refine lv_istore (lv' := [(6, .int (0 : Int32)), (5, .int (0 : Int32)), (0, .ref o), (1, .int x1), (2, .int x2), (3, .int x3), (4, .int x4)]) hx hb dX10_burst_109 hl (by decide) rfl (fun ls hl => ?_)
              refine lv_iload_n hx hb dX10_burst_111 rfl (lv_at hl 3 rfl) ?_
              refine lv_ineg hx hb dX10_burst_112 ?_
              refine lv_iload_n hx hb dX10_burst_113 rfl (lv_at hl 3 rfl) ?_
              refine lv_iand hx hb dX10_burst_114 ?_
              refine lv_istore (lv' := [(7, .int ((-x1) &&& x1)), (6, .int (0 : Int32)), (5, .int (0 : Int32)), (0, .ref o), (1, .int x1), (2, .int x2), (3, .int x3), (4, .int x4)]) hx hb dX10_burst_115 hl (by decide) rfl (fun ls hl => ?_)
              exact wX10_burst_117 C  FU h hP hS (lv_sub hl [3, 4, 5, 6, 2, 1, 0] rfl)
            · replace h := it_pos hc h
              refine lv_aload_n hx hb dX10_burst_99 rfl (lv_at hl 0 rfl) ?_
              refine lv_iconst (v := 3) hx hb dX10_burst_100 (by decide) ?_
              obtain ⟨r101, u101, e101, h⟩ := obI h
              refine mx_cVi C hP hS [.int (3 : Int32)] (tX10_finding e101) qX10_138 ⟨rfl, rfl, Nat.le_of_ble_eq_true rfl, Nat.le_of_ble_eq_true rfl⟩ rfl hl.1 rfl (Nat.le_of_ble_eq_true rfl) dX10_burst_101 (fun H locs hP hS => ?_)
              exact mx_reti C h hP hS dX10_burst_104
      · replace h := it_pos hc h
        refine lv_aload_n hx hb dX10_burst_29 rfl (lv_at hl 0 rfl) ?_
        refine lv_iconst (v := 1) hx hb dX10_burst_30 (by decide) ?_
        obtain ⟨r31, u31, e31, h⟩ := obI h
        refine mx_cVi C hP hS [.int (1 : Int32)] (tX10_finding e31) qX10_138 ⟨rfl, rfl, Nat.le_of_ble_eq_true rfl, Nat.le_of_ble_eq_true rfl⟩ rfl hl.1 rfl (Nat.le_of_ble_eq_true rfl) dX10_burst_31 (fun H locs hP hS => ?_)
        exact mx_reti C h hP hS dX10_burst_34
theorem tX10_burst {D : va_G} {cI cZ cJ : ClassId} {o : Nat} {ad : Nat → Nat} {A : Nat → Prop} {x1 : Int32} {x2 : Int32} {x3 : Int32} {u : mS} {res : Int32 × mS} (h : fX10_burst x1 x2 x3 u = some res) : Met l yX10_burst (Cond.code yX10_burst cX10_burst 10 (some .int) :: gW) rmX10_burst (va_Pc [.ref o, .int x1, .int x2, .int x3] (mPre D cI cZ cJ o ad A u)) (mQi D cI cZ cJ o ad A res) 0 0 A :=
  mx_met ⟨by decide +kernel, rfl⟩ (Nat.le_of_ble_eq_true rfl) (fun p e s m below meth c ls C hP hl => wX10_burst C h hP va_S.rf hl)
abbrev rmX10_tell : Room := { frames := 1, cells := 0, slots := 0, locals := 21 }
def fX10_tell (x1 : Int32) (u : mS) : Option (Int32 × mS) :=
  if (u.1 32) = (20 : Int32) then (
    bI (fX10_finding (4 : Int32) u) fun r11 u11 =>
    some (r11, u11)
  ) else (
    (mU u 33 20 (u.1 32) x1).bind fun u24 =>
    pU (mF u24 32 ((u24.1 32) + (1 : Int32))) fun u32 =>
    some (u32.1 32, u32)
  )
set_option maxHeartbeats 4000000 in
set_option maxRecDepth 20000 in
theorem wX10_tell (C : mC p s m args meth c cX10_tell 2 (some .int) D cI cZ cJ o ad A) {x1 : Int32} {u : mS} {res : Int32 × mS} (h : fX10_tell x1 u = some res) {H : Heap} {locs : List Loc} (hP : va_P D vwCl (mW cI cZ cJ o ad u) H) (hS : va_S A s.heap H locs) {ls : Array Slot} (hl : lv_has ls 2 [(0, .ref o), (1, .int x1)]) : W p l e rmX10_tell s m args below meth c H locs 0 0 (MQ below (mQi D cI cZ cJ o ad A res) args s 0 0 A) (F0 m 0 ls []) := by
  have hx := C.1
  have hb := C.2.1
  unfold fX10_tell at h
  refine lv_aload_n hx hb dX10_tell_0 rfl (lv_at hl 0 rfl) ?_
  refine mg_waits C hP dX10_tell_1 ?_
  refine lv_bipush (v := 20) hx hb dX10_tell_4 (by decide) ?_
  refine lv_icmp_ne (tgt := 15) hx hb dX10_tell_6 (by decide) (fun hc => ?_) (fun hc => ?_)
  · replace h := it_neg hc h
    refine lv_aload_n hx hb dX10_tell_15 rfl (lv_at hl 0 rfl) ?_
    refine mg_waiting C hP dX10_tell_16 ?_
    refine lv_aload_n hx hb dX10_tell_19 rfl (lv_at hl 0 rfl) ?_
    refine mg_waits C hP dX10_tell_20 ?_
    refine lv_iload_n hx hb dX10_tell_23 rfl (lv_at hl 1 rfl) ?_
    obtain ⟨u24, e24, h⟩ := ob h
    refine ms_waiting C hP hS e24 dX10_tell_24 (fun H locs hP hS => ?_)
    refine lv_aload_n hx hb dX10_tell_25 rfl (lv_at hl 0 rfl) ?_
    refine lv_dup hx hb dX10_tell_26 rfl ?_
    refine mg_waits C hP dX10_tell_27 ?_
    refine lv_iconst (v := 1) hx hb dX10_tell_30 (by decide) ?_
    refine lv_iadd hx hb dX10_tell_31 ?_
    obtain ⟨u32, e32, h⟩ := op h
    refine mp_waits C hP hS e32 dX10_tell_32 (fun H locs hP hS => ?_)
    refine lv_aload_n hx hb dX10_tell_35 rfl (lv_at hl 0 rfl) ?_
    refine mg_waits C hP dX10_tell_36 ?_
    exact mx_reti C h hP hS dX10_tell_39
  · replace h := it_pos hc h
    refine lv_aload_n hx hb dX10_tell_9 rfl (lv_at hl 0 rfl) ?_
    refine lv_iconst (v := 4) hx hb dX10_tell_10 (by decide) ?_
    obtain ⟨r11, u11, e11, h⟩ := obI h
    refine mx_cVi C hP hS [.int (4 : Int32)] (tX10_finding e11) qX10_138 ⟨rfl, rfl, Nat.le_of_ble_eq_true rfl, Nat.le_of_ble_eq_true rfl⟩ rfl hl.1 rfl (Nat.le_of_ble_eq_true rfl) dX10_tell_11 (fun H locs hP hS => ?_)
    exact mx_reti C h hP hS dX10_tell_14
theorem tX10_tell {D : va_G} {cI cZ cJ : ClassId} {o : Nat} {ad : Nat → Nat} {A : Nat → Prop} {x1 : Int32} {u : mS} {res : Int32 × mS} (h : fX10_tell x1 u = some res) : Met l yX10_tell (Cond.code yX10_tell cX10_tell 2 (some .int) :: gW) rmX10_tell (va_Pc [.ref o, .int x1] (mPre D cI cZ cJ o ad A u)) (mQi D cI cZ cJ o ad A res) 0 0 A :=
  mx_met ⟨by decide +kernel, rfl⟩ (Nat.le_of_ble_eq_true rfl) (fun p e s m below meth c ls C hP hl => wX10_tell C h hP va_S.rf hl)
abbrev rmX10_check : Room := { frames := 3, cells := 0, slots := 0, locals := 74 }
def fX10_check_17_b (x1 : Int32) (x3 : Int32) (u : mS) (k17 : Int32 → Int32 → mS → Option (Int32 × mS)) : Option (Int32 × mS) :=
  if x1 ≤ x3 then (
    some ((0 : Int32), u)
  ) else (
    if (u.1 17) ≤ x3 then (
      some ((1 : Int32) + x3, u)
    ) else (
      (mR u 33 20 x3).bind fun v35 =>
      (mR u 36 8 x3).bind fun v41 =>
      if v35 = v41 then (
        k17 x1 (x3 + (1 : Int32)) u
      ) else (
        some ((1 : Int32) + x3, u)
      )
    )
  )
set_option maxHeartbeats 4000000 in
set_option maxRecDepth 20000 in
theorem wX10_check_17_b (C : mC p s m args meth c cX10_check 4 (some .int) D cI cZ cJ o ad A) {x1 : Int32} {x3 : Int32} {u : mS} {res : Int32 × mS} {k17 : Int32 → Int32 → mS → Option (Int32 × mS)} (hk17 : ∀ (x1 : Int32) (x3 : Int32) (u : mS) (H : Heap) (locs : List Loc) (ls : Array Slot), k17 x1 x3 u = some res → va_P D vwCl (mW cI cZ cJ o ad u) H → va_S A s.heap H locs → lv_has ls 4 [(0, .ref o), (1, .int x1), (3, .int x3)] → W p l e rmX10_check s m args below meth c H locs 0 0 (MQ below (mQi D cI cZ cJ o ad A res) args s 0 0 A) (F0 m 17 ls [])) (h : fX10_check_17_b x1 x3 u k17 = some res) {H : Heap} {locs : List Loc} (hP : va_P D vwCl (mW cI cZ cJ o ad u) H) (hS : va_S A s.heap H locs) {ls : Array Slot} (hl : lv_has ls 4 [(0, .ref o), (1, .int x1), (3, .int x3)]) : W p l e rmX10_check s m args below meth c H locs 0 0 (MQ below (mQi D cI cZ cJ o ad A res) args s 0 0 A) (F0 m 17 ls []) := by
  have hx := C.1
  have hb := C.2.1
  unfold fX10_check_17_b at h
  refine lv_iload_n hx hb dX10_check_17 rfl (lv_at hl 2 rfl) ?_
  refine lv_iload_n hx hb dX10_check_18 rfl (lv_at hl 1 rfl) ?_
  refine lv_icmp_ge (tgt := 55) hx hb dX10_check_19 (by decide) (fun hc => ?_) (fun hc => ?_)
  · replace h := it_pos hc h
    refine lv_iconst (v := 0) hx hb dX10_check_55 (by decide) ?_
    exact mx_reti C h hP hS dX10_check_56
  · replace h := it_neg hc h
    refine lv_iload_n hx hb dX10_check_22 rfl (lv_at hl 2 rfl) ?_
    refine lv_aload_n hx hb dX10_check_23 rfl (lv_at hl 0 rfl) ?_
    refine mg_seekers C hP dX10_check_24 ?_
    refine lv_icmp_ge (tgt := 45) hx hb dX10_check_27 (by decide) (fun hc => ?_) (fun hc => ?_)
    · replace h := it_pos hc h
      refine lv_iconst (v := 1) hx hb dX10_check_45 (by decide) ?_
      refine lv_iload_n hx hb dX10_check_46 rfl (lv_at hl 2 rfl) ?_
      refine lv_iadd hx hb dX10_check_47 ?_
      exact mx_reti C h hP hS dX10_check_48
    · replace h := it_neg hc h
      refine lv_aload_n hx hb dX10_check_30 rfl (lv_at hl 0 rfl) ?_
      refine mg_waiting C hP dX10_check_31 ?_
      refine lv_iload_n hx hb dX10_check_34 rfl (lv_at hl 2 rfl) ?_
      obtain ⟨v35, e35, h⟩ := ob h
      refine ml_waiting C hP e35 dX10_check_35 ?_
      refine lv_aload_n hx hb dX10_check_36 rfl (lv_at hl 0 rfl) ?_
      refine mg_match C hP dX10_check_37 ?_
      refine lv_iload_n hx hb dX10_check_40 rfl (lv_at hl 2 rfl) ?_
      obtain ⟨v41, e41, h⟩ := ob h
      refine ml_match C hP e41 dX10_check_41 ?_
      refine lv_icmp_eq (tgt := 49) hx hb dX10_check_42 (by decide) (fun hc => ?_) (fun hc => ?_)
      · replace h := it_pos hc h
        refine lv_iinc (v := x3 + (1 : Int32)) (lv' := [(3, .int (x3 + (1 : Int32))), (0, .ref o), (1, .int x1)]) hx hb dX10_check_49 hl (k := 2) rfl rfl (by decide) rfl (fun ls hl => ?_)
        refine lv_goto (tgt := 17) hx hb dX10_check_52 (by decide) ?_
        exact hk17 _ _ _ _ _ _ h hP hS (lv_sub hl [1, 2, 0] rfl)
      · replace h := it_neg hc h
        refine lv_iconst (v := 1) hx hb dX10_check_45 (by decide) ?_
        refine lv_iload_n hx hb dX10_check_46 rfl (lv_at hl 2 rfl) ?_
        refine lv_iadd hx hb dX10_check_47 ?_
        exact mx_reti C h hP hS dX10_check_48
def fX10_check_17 : Nat → Int32 → Int32 → mS → Option (Int32 × mS)
  | 0 => fun _ _ _ => none
  | n + 1 => fun x1 x3 u => fX10_check_17_b x1 x3 u (fX10_check_17 n) 
theorem wX10_check_17 (C : mC p s m args meth c cX10_check 4 (some .int) D cI cZ cJ o ad A) {res : Int32 × mS} (n : Nat) : ∀ {x1 : Int32} {x3 : Int32} {u : mS} {H : Heap} {locs : List Loc} {ls : Array Slot}, fX10_check_17 n x1 x3 u = some res → va_P D vwCl (mW cI cZ cJ o ad u) H → va_S A s.heap H locs → lv_has ls 4 [(0, .ref o), (1, .int x1), (3, .int x3)] → W p l e rmX10_check s m args below meth c H locs 0 0 (MQ below (mQi D cI cZ cJ o ad A res) args s 0 0 A) (F0 m 17 ls []) := by
  induction n with
  | zero => intro _ _ _ _ _ _ h _ _ _; cases (show (none : Option (Int32 × mS)) = some res from h)
  | succ n ih => intro _ _ _ _ _ _ h hP hS hl; exact wX10_check_17_b C (fun _ _ _ _ _ _ h hP hS hl => ih h hP hS hl) h hP hS hl
def fX10_check (u : mS) : Option (Int32 × mS) :=
  pU (mF u 32 (0 : Int32)) fun u7 =>
  bI (fX10_tellMatch u7) fun r11 u11 =>
  fX10_check_17  FU (u.1 32) (0 : Int32) u11
set_option maxHeartbeats 4000000 in
set_option maxRecDepth 20000 in
theorem wX10_check (C : mC p s m args meth c cX10_check 4 (some .int) D cI cZ cJ o ad A) {u : mS} {res : Int32 × mS} (h : fX10_check u = some res) {H : Heap} {locs : List Loc} (hP : va_P D vwCl (mW cI cZ cJ o ad u) H) (hS : va_S A s.heap H locs) {ls : Array Slot} (hl : lv_has ls 4 [(0, .ref o)]) : W p l e rmX10_check s m args below meth c H locs 0 0 (MQ below (mQi D cI cZ cJ o ad A res) args s 0 0 A) (F0 m 0 ls []) := by
  have hx := C.1
  have hb := C.2.1
  unfold fX10_check at h
  refine lv_aload_n hx hb dX10_check_0 rfl (lv_at hl 0 rfl) ?_
  refine mg_waits C hP dX10_check_1 ?_
  refine lv_istore_n (lv' := [(1, .int (u.1 32)), (0, .ref o)]) hx hb dX10_check_4 rfl hl (by decide) rfl (fun ls hl => ?_)
  refine lv_aload_n hx hb dX10_check_5 rfl (lv_at hl 1 rfl) ?_
  refine lv_iconst (v := 0) hx hb dX10_check_6 (by decide) ?_
  obtain ⟨u7, e7, h⟩ := op h
  refine mp_waits C hP hS e7 dX10_check_7 (fun H locs hP hS => ?_)
  refine lv_aload_n hx hb dX10_check_10 rfl (lv_at hl 1 rfl) ?_
  obtain ⟨r11, u11, e11, h⟩ := obI h
  refine mx_cVi C hP hS [] (tX10_tellMatch e11) qX10_166 ⟨rfl, rfl, Nat.le_of_ble_eq_true rfl, Nat.le_of_ble_eq_true rfl⟩ rfl hl.1 rfl (Nat.le_of_ble_eq_true rfl) dX10_check_11 (fun H locs hP hS => ?_)
  refine lv_istore_n (lv' := [(2, .int r11), (1, .int (u.1 32)), (0, .ref o)]) hx hb dX10_check_14 rfl hl (by decide) rfl (fun ls hl => ?_)
  refine lv_iconst (v := 0) hx hb dX10_check_15 (by decide) ?_
  refine lv_istore_n (lv' := [(3, .int (0 : Int32)), (2, .int r11), (1, .int (u.1 32)), (0, .ref o)]) hx hb dX10_check_16 rfl hl (by decide) rfl (fun ls hl => ?_)
  exact wX10_check_17 C  FU h hP hS (lv_sub hl [3, 2, 0] rfl)
theorem tX10_check {D : va_G} {cI cZ cJ : ClassId} {o : Nat} {ad : Nat → Nat} {A : Nat → Prop} {u : mS} {res : Int32 × mS} (h : fX10_check u = some res) : Met l yX10_check (Cond.code yX10_check cX10_check 4 (some .int) :: gW) rmX10_check (va_Pc [.ref o] (mPre D cI cZ cJ o ad A u)) (mQi D cI cZ cJ o ad A res) 0 0 A :=
  mx_met ⟨by decide +kernel, rfl⟩ (Nat.le_of_ble_eq_true rfl) (fun p e s m below meth c ls C hP hl => wX10_check C h hP va_S.rf hl)
abbrev rmX10_count : Room := { frames := 1, cells := 0, slots := 0, locals := 21 }
def fX10_count_93 (x1 : Int32) (x3 : Int32) (s0 : Int32) (s1 : Int32) (u : mS) (k67 : Int32 → Int32 → Int32 → mS → Option (Int32 × mS)) : Option (Int32 × mS) :=
  k67 x1 (s0 + s1) (x3 + (1 : Int32)) u
set_option maxHeartbeats 4000000 in
set_option maxRecDepth 20000 in
theorem wX10_count_93 (C : mC p s m args meth c cX10_count 4 (some .int) D cI cZ cJ o ad A) {x1 : Int32} {x3 : Int32} {s0 : Int32} {s1 : Int32} {u : mS} {res : Int32 × mS} {k67 : Int32 → Int32 → Int32 → mS → Option (Int32 × mS)} (hk67 : ∀ (x1 : Int32) (x2 : Int32) (x3 : Int32) (u : mS) (H : Heap) (locs : List Loc) (ls : Array Slot), k67 x1 x2 x3 u = some res → va_P D vwCl (mW cI cZ cJ o ad u) H → va_S A s.heap H locs → lv_has ls 4 [(0, .ref o), (1, .int x1), (2, .int x2), (3, .int x3)] → W p l e rmX10_count s m args below meth c H locs 0 0 (MQ below (mQi D cI cZ cJ o ad A res) args s 0 0 A) (F0 m 67 ls [])) (h : fX10_count_93 x1 x3 s0 s1 u k67 = some res) {H : Heap} {locs : List Loc} (hP : va_P D vwCl (mW cI cZ cJ o ad u) H) (hS : va_S A s.heap H locs) {ls : Array Slot} (hl : lv_has ls 4 [(0, .ref o), (1, .int x1), (3, .int x3)]) : W p l e rmX10_count s m args below meth c H locs 0 0 (MQ below (mQi D cI cZ cJ o ad A res) args s 0 0 A) (F0 m 93 ls [.int s1, .int s0]) := by
  have hx := C.1
  have hb := C.2.1
  unfold fX10_count_93 at h
  refine lv_iadd hx hb dX10_count_93 ?_
  refine lv_istore_n (lv' := [(2, .int (s0 + s1)), (0, .ref o), (1, .int x1), (3, .int x3)]) hx hb dX10_count_94 rfl hl (by decide) rfl (fun ls hl => ?_)
  refine lv_iinc (v := x3 + (1 : Int32)) (lv' := [(3, .int (x3 + (1 : Int32))), (2, .int (s0 + s1)), (0, .ref o), (1, .int x1)]) hx hb dX10_count_95 hl (k := 3) rfl rfl (by decide) rfl (fun ls hl => ?_)
  refine lv_goto (tgt := 67) hx hb dX10_count_98 (by decide) ?_
  exact hk67 _ _ _ _ _ _ _ h hP hS (lv_sub hl [2, 3, 1, 0] rfl)
def fX10_count_67_b (x1 : Int32) (x2 : Int32) (x3 : Int32) (u : mS) (k67 : Int32 → Int32 → Int32 → mS → Option (Int32 × mS)) : Option (Int32 × mS) :=
  if (u.1 2) ≤ x3 then (
    some (x2, u)
  ) else (
    (mR u 9 20 x3).bind fun v81 =>
    if v81 = (x1 - (1 : Int32)) then (
      fX10_count_93 x1 x3 x2 (1 : Int32) u k67
    ) else (
      fX10_count_93 x1 x3 x2 (0 : Int32) u k67
    )
  )
set_option maxHeartbeats 4000000 in
set_option maxRecDepth 20000 in
theorem wX10_count_67_b (C : mC p s m args meth c cX10_count 4 (some .int) D cI cZ cJ o ad A) {x1 : Int32} {x2 : Int32} {x3 : Int32} {u : mS} {res : Int32 × mS} {k67 : Int32 → Int32 → Int32 → mS → Option (Int32 × mS)} (hk67 : ∀ (x1 : Int32) (x2 : Int32) (x3 : Int32) (u : mS) (H : Heap) (locs : List Loc) (ls : Array Slot), k67 x1 x2 x3 u = some res → va_P D vwCl (mW cI cZ cJ o ad u) H → va_S A s.heap H locs → lv_has ls 4 [(0, .ref o), (1, .int x1), (2, .int x2), (3, .int x3)] → W p l e rmX10_count s m args below meth c H locs 0 0 (MQ below (mQi D cI cZ cJ o ad A res) args s 0 0 A) (F0 m 67 ls [])) (h : fX10_count_67_b x1 x2 x3 u k67 = some res) {H : Heap} {locs : List Loc} (hP : va_P D vwCl (mW cI cZ cJ o ad u) H) (hS : va_S A s.heap H locs) {ls : Array Slot} (hl : lv_has ls 4 [(0, .ref o), (1, .int x1), (2, .int x2), (3, .int x3)]) : W p l e rmX10_count s m args below meth c H locs 0 0 (MQ below (mQi D cI cZ cJ o ad A res) args s 0 0 A) (F0 m 67 ls []) := by
  have hx := C.1
  have hb := C.2.1
  unfold fX10_count_67_b at h
  refine lv_iload_n hx hb dX10_count_67 rfl (lv_at hl 3 rfl) ?_
  refine lv_aload_n hx hb dX10_count_68 rfl (lv_at hl 0 rfl) ?_
  refine mg_things C hP dX10_count_69 ?_
  refine lv_icmp_ge (tgt := 101) hx hb dX10_count_72 (by decide) (fun hc => ?_) (fun hc => ?_)
  · replace h := it_pos hc h
    refine lv_iload_n hx hb dX10_count_101 rfl (lv_at hl 2 rfl) ?_
    exact mx_reti C h hP hS dX10_count_102
  · replace h := it_neg hc h
    refine lv_iload_n hx hb dX10_count_75 rfl (lv_at hl 2 rfl) ?_
    refine lv_aload_n hx hb dX10_count_76 rfl (lv_at hl 0 rfl) ?_
    refine mg_is C hP dX10_count_77 ?_
    refine lv_iload_n hx hb dX10_count_80 rfl (lv_at hl 3 rfl) ?_
    obtain ⟨v81, e81, h⟩ := ob h
    refine ml_is C hP e81 dX10_count_81 ?_
    refine lv_iload_n hx hb dX10_count_82 rfl (lv_at hl 1 rfl) ?_
    refine lv_iconst (v := 1) hx hb dX10_count_83 (by decide) ?_
    refine lv_isub hx hb dX10_count_84 ?_
    refine lv_icmp_ne (tgt := 92) hx hb dX10_count_85 (by decide) (fun hc => ?_) (fun hc => ?_)
    · replace h := it_neg hc h
      refine lv_iconst (v := 0) hx hb dX10_count_92 (by decide) ?_
      exact wX10_count_93 C hk67 h hP hS (lv_sub hl [0, 1, 3] rfl)
    · replace h := it_pos hc h
      refine lv_iconst (v := 1) hx hb dX10_count_88 (by decide) ?_
      refine lv_goto (tgt := 93) hx hb dX10_count_89 (by decide) ?_
      exact wX10_count_93 C hk67 h hP hS (lv_sub hl [0, 1, 3] rfl)
def fX10_count_67 : Nat → Int32 → Int32 → Int32 → mS → Option (Int32 × mS)
  | 0 => fun _ _ _ _ => none
  | n + 1 => fun x1 x2 x3 u => fX10_count_67_b x1 x2 x3 u (fX10_count_67 n) 
theorem wX10_count_67 (C : mC p s m args meth c cX10_count 4 (some .int) D cI cZ cJ o ad A) {res : Int32 × mS} (n : Nat) : ∀ {x1 : Int32} {x2 : Int32} {x3 : Int32} {u : mS} {H : Heap} {locs : List Loc} {ls : Array Slot}, fX10_count_67 n x1 x2 x3 u = some res → va_P D vwCl (mW cI cZ cJ o ad u) H → va_S A s.heap H locs → lv_has ls 4 [(0, .ref o), (1, .int x1), (2, .int x2), (3, .int x3)] → W p l e rmX10_count s m args below meth c H locs 0 0 (MQ below (mQi D cI cZ cJ o ad A res) args s 0 0 A) (F0 m 67 ls []) := by
  induction n with
  | zero => intro _ _ _ _ _ _ _ h _ _ _; cases (show (none : Option (Int32 × mS)) = some res from h)
  | succ n ih => intro _ _ _ _ _ _ _ h hP hS hl; exact wX10_count_67_b C (fun _ _ _ _ _ _ _ h hP hS hl => ih h hP hS hl) h hP hS hl
def fX10_count (x1 : Int32) (u : mS) : Option (Int32 × mS) :=
  if x1 = 0 then (
    some (u.1 2, u)
  ) else (
  if x1 = 1 then (
    fX10_count_67  FU x1 (0 : Int32) (0 : Int32) u
  ) else (
  if x1 = 2 then (
    fX10_count_67  FU x1 (0 : Int32) (0 : Int32) u
  ) else (
  if x1 = 3 then (
    fX10_count_67  FU x1 (0 : Int32) (0 : Int32) u
  ) else (
  if x1 = 4 then (
    fX10_count_67  FU x1 (0 : Int32) (0 : Int32) u
  ) else (
  if x1 = 5 then (
    some (u.1 17, u)
  ) else (
  if x1 = 6 then (
    some (u.1 25, u)
  ) else (
  if x1 = 7 then (
    some (u.1 0, u)
  ) else (
  if x1 = 8 then (
    some (u.1 29, u)
  ) else (
  if x1 = 9 then (
    some (u.1 32, u)
  ) else (
  if x1 = 10 then (
    some (u.1 34, u)
  ) else (
    bI (fX10_finding (1 : Int32) u) fun r135 u135 =>
    some (r135, u135)
  )))))))))))
set_option maxHeartbeats 4000000 in
set_option maxRecDepth 20000 in
theorem wX10_count (C : mC p s m args meth c cX10_count 4 (some .int) D cI cZ cJ o ad A) {x1 : Int32} {u : mS} {res : Int32 × mS} (h : fX10_count x1 u = some res) {H : Heap} {locs : List Loc} (hP : va_P D vwCl (mW cI cZ cJ o ad u) H) (hS : va_S A s.heap H locs) {ls : Array Slot} (hl : lv_has ls 4 [(0, .ref o), (1, .int x1)]) : W p l e rmX10_count s m args below meth c H locs 0 0 (MQ below (mQi D cI cZ cJ o ad A res) args s 0 0 A) (F0 m 0 ls []) := by
  have hx := C.1
  have hb := C.2.1
  unfold fX10_count at h
  refine lv_iconst (v := 0) hx hb dX10_count_0 (by decide) ?_
  refine lv_istore_n (lv' := [(2, .int (0 : Int32)), (0, .ref o), (1, .int x1)]) hx hb dX10_count_1 rfl hl (by decide) rfl (fun ls hl => ?_)
  refine lv_iload_n hx hb dX10_count_2 rfl (lv_at hl 2 rfl) ?_
  by_cases hc0 : x1 = 0
  · replace h := it_pos hc0 h
    refine lv_tableIn (tgt := 60) (off := 57) hx hb dX10_count_3 (by rw [hc0]; decide) (by rw [hc0]; decide) (by rw [hc0]; rfl) (by decide) ?_
    refine lv_aload_n hx hb dX10_count_60 rfl (lv_at hl 1 rfl) ?_
    refine mg_things C hP dX10_count_61 ?_
    exact mx_reti C h hP hS dX10_count_64
  replace h := it_neg hc0 h
  by_cases hc1 : x1 = 1
  · replace h := it_pos hc1 h
    refine lv_tableIn (tgt := 65) (off := 62) hx hb dX10_count_3 (by rw [hc1]; decide) (by rw [hc1]; decide) (by rw [hc1]; rfl) (by decide) ?_
    refine lv_iconst (v := 0) hx hb dX10_count_65 (by decide) ?_
    refine lv_istore_n (lv' := [(3, .int (0 : Int32)), (2, .int (0 : Int32)), (0, .ref o), (1, .int x1)]) hx hb dX10_count_66 rfl hl (by decide) rfl (fun ls hl => ?_)
    exact wX10_count_67 C  FU h hP hS (lv_sub hl [2, 3, 1, 0] rfl)
  replace h := it_neg hc1 h
  by_cases hc2 : x1 = 2
  · replace h := it_pos hc2 h
    refine lv_tableIn (tgt := 65) (off := 62) hx hb dX10_count_3 (by rw [hc2]; decide) (by rw [hc2]; decide) (by rw [hc2]; rfl) (by decide) ?_
    refine lv_iconst (v := 0) hx hb dX10_count_65 (by decide) ?_
    refine lv_istore_n (lv' := [(3, .int (0 : Int32)), (2, .int (0 : Int32)), (0, .ref o), (1, .int x1)]) hx hb dX10_count_66 rfl hl (by decide) rfl (fun ls hl => ?_)
    exact wX10_count_67 C  FU h hP hS (lv_sub hl [2, 3, 1, 0] rfl)
  replace h := it_neg hc2 h
  by_cases hc3 : x1 = 3
  · replace h := it_pos hc3 h
    refine lv_tableIn (tgt := 65) (off := 62) hx hb dX10_count_3 (by rw [hc3]; decide) (by rw [hc3]; decide) (by rw [hc3]; rfl) (by decide) ?_
    refine lv_iconst (v := 0) hx hb dX10_count_65 (by decide) ?_
    refine lv_istore_n (lv' := [(3, .int (0 : Int32)), (2, .int (0 : Int32)), (0, .ref o), (1, .int x1)]) hx hb dX10_count_66 rfl hl (by decide) rfl (fun ls hl => ?_)
    exact wX10_count_67 C  FU h hP hS (lv_sub hl [2, 3, 1, 0] rfl)
  replace h := it_neg hc3 h
  by_cases hc4 : x1 = 4
  · replace h := it_pos hc4 h
    refine lv_tableIn (tgt := 65) (off := 62) hx hb dX10_count_3 (by rw [hc4]; decide) (by rw [hc4]; decide) (by rw [hc4]; rfl) (by decide) ?_
    refine lv_iconst (v := 0) hx hb dX10_count_65 (by decide) ?_
    refine lv_istore_n (lv' := [(3, .int (0 : Int32)), (2, .int (0 : Int32)), (0, .ref o), (1, .int x1)]) hx hb dX10_count_66 rfl hl (by decide) rfl (fun ls hl => ?_)
    exact wX10_count_67 C  FU h hP hS (lv_sub hl [2, 3, 1, 0] rfl)
  replace h := it_neg hc4 h
  by_cases hc5 : x1 = 5
  · replace h := it_pos hc5 h
    refine lv_tableIn (tgt := 103) (off := 100) hx hb dX10_count_3 (by rw [hc5]; decide) (by rw [hc5]; decide) (by rw [hc5]; rfl) (by decide) ?_
    refine lv_aload_n hx hb dX10_count_103 rfl (lv_at hl 1 rfl) ?_
    refine mg_seekers C hP dX10_count_104 ?_
    exact mx_reti C h hP hS dX10_count_107
  replace h := it_neg hc5 h
  by_cases hc6 : x1 = 6
  · replace h := it_pos hc6 h
    refine lv_tableIn (tgt := 108) (off := 105) hx hb dX10_count_3 (by rw [hc6]; decide) (by rw [hc6]; decide) (by rw [hc6]; rfl) (by decide) ?_
    refine lv_aload_n hx hb dX10_count_108 rfl (lv_at hl 1 rfl) ?_
    refine mg_addresses C hP dX10_count_109 ?_
    exact mx_reti C h hP hS dX10_count_112
  replace h := it_neg hc6 h
  by_cases hc7 : x1 = 7
  · replace h := it_pos hc7 h
    refine lv_tableIn (tgt := 113) (off := 110) hx hb dX10_count_3 (by rw [hc7]; decide) (by rw [hc7]; decide) (by rw [hc7]; rfl) (by decide) ?_
    refine lv_aload_n hx hb dX10_count_113 rfl (lv_at hl 1 rfl) ?_
    refine mg_today C hP dX10_count_114 ?_
    exact mx_reti C h hP hS dX10_count_117
  replace h := it_neg hc7 h
  by_cases hc8 : x1 = 8
  · replace h := it_pos hc8 h
    refine lv_tableIn (tgt := 118) (off := 115) hx hb dX10_count_3 (by rw [hc8]; decide) (by rw [hc8]; decide) (by rw [hc8]; rfl) (by decide) ?_
    refine lv_aload_n hx hb dX10_count_118 rfl (lv_at hl 1 rfl) ?_
    refine mg_records C hP dX10_count_119 ?_
    exact mx_reti C h hP hS dX10_count_122
  replace h := it_neg hc8 h
  by_cases hc9 : x1 = 9
  · replace h := it_pos hc9 h
    refine lv_tableIn (tgt := 123) (off := 120) hx hb dX10_count_3 (by rw [hc9]; decide) (by rw [hc9]; decide) (by rw [hc9]; rfl) (by decide) ?_
    refine lv_aload_n hx hb dX10_count_123 rfl (lv_at hl 1 rfl) ?_
    refine mg_waits C hP dX10_count_124 ?_
    exact mx_reti C h hP hS dX10_count_127
  replace h := it_neg hc9 h
  by_cases hc10 : x1 = 10
  · replace h := it_pos hc10 h
    refine lv_tableIn (tgt := 128) (off := 125) hx hb dX10_count_3 (by rw [hc10]; decide) (by rw [hc10]; decide) (by rw [hc10]; rfl) (by decide) ?_
    refine lv_aload_n hx hb dX10_count_128 rfl (lv_at hl 1 rfl) ?_
    refine mg_paid C hP dX10_count_129 ?_
    exact mx_reti C h hP hS dX10_count_132
  replace h := it_neg hc10 h
  have hn0 := lv_neT hc0 (show (0 : Int32).toInt = 0 by decide)
  have hn1 := lv_neT hc1 (show (1 : Int32).toInt = 1 by decide)
  have hn2 := lv_neT hc2 (show (2 : Int32).toInt = 2 by decide)
  have hn3 := lv_neT hc3 (show (3 : Int32).toInt = 3 by decide)
  have hn4 := lv_neT hc4 (show (4 : Int32).toInt = 4 by decide)
  have hn5 := lv_neT hc5 (show (5 : Int32).toInt = 5 by decide)
  have hn6 := lv_neT hc6 (show (6 : Int32).toInt = 6 by decide)
  have hn7 := lv_neT hc7 (show (7 : Int32).toInt = 7 by decide)
  have hn8 := lv_neT hc8 (show (8 : Int32).toInt = 8 by decide)
  have hn9 := lv_neT hc9 (show (9 : Int32).toInt = 9 by decide)
  have hn10 := lv_neT hc10 (show (10 : Int32).toInt = 10 by decide)
  refine lv_tableOut (tgt := 133) hx hb dX10_count_3 (by omega) (by decide) ?_
  refine lv_aload_n hx hb dX10_count_133 rfl (lv_at hl 1 rfl) ?_
  refine lv_iconst (v := 1) hx hb dX10_count_134 (by decide) ?_
  obtain ⟨r135, u135, e135, h⟩ := obI h
  refine mx_cVi C hP hS [.int (1 : Int32)] (tX10_finding e135) qX10_138 ⟨rfl, rfl, Nat.le_of_ble_eq_true rfl, Nat.le_of_ble_eq_true rfl⟩ rfl hl.1 rfl (Nat.le_of_ble_eq_true rfl) dX10_count_135 (fun H locs hP hS => ?_)
  exact mx_reti C h hP hS dX10_count_138
theorem tX10_count {D : va_G} {cI cZ cJ : ClassId} {o : Nat} {ad : Nat → Nat} {A : Nat → Prop} {x1 : Int32} {u : mS} {res : Int32 × mS} (h : fX10_count x1 u = some res) : Met l yX10_count (Cond.code yX10_count cX10_count 4 (some .int) :: gW) rmX10_count (va_Pc [.ref o, .int x1] (mPre D cI cZ cJ o ad A u)) (mQi D cI cZ cJ o ad A res) 0 0 A :=
  mx_met ⟨by decide +kernel, rfl⟩ (Nat.le_of_ble_eq_true rfl) (fun p e s m below meth c ls C hP hl => wX10_count C h hP va_S.rf hl)
abbrev rmX10_found : Room := { frames := 1, cells := 0, slots := 0, locals := 22 }
def fX10_found (x1 : Int32) (u : mS) : Option (Int32 × mS) :=
  bI (fX10_isIn x1 (1 : Int32) (5 : Int32) u) fun r3 u3 =>
  if r3 = 0 then (
    bI (fX10_finding (1 : Int32) u3) fun r20 u20 =>
    some (r20, u20)
  ) else (
    (mR u3 35 6 x1).bind fun v14 =>
    some (v14, u3)
  )
set_option maxHeartbeats 4000000 in
set_option maxRecDepth 20000 in
theorem wX10_found (C : mC p s m args meth c cX10_found 2 (some .int) D cI cZ cJ o ad A) {x1 : Int32} {u : mS} {res : Int32 × mS} (h : fX10_found x1 u = some res) {H : Heap} {locs : List Loc} (hP : va_P D vwCl (mW cI cZ cJ o ad u) H) (hS : va_S A s.heap H locs) {ls : Array Slot} (hl : lv_has ls 2 [(0, .ref o), (1, .int x1)]) : W p l e rmX10_found s m args below meth c H locs 0 0 (MQ below (mQi D cI cZ cJ o ad A res) args s 0 0 A) (F0 m 0 ls []) := by
  have hx := C.1
  have hb := C.2.1
  unfold fX10_found at h
  refine lv_iload_n hx hb dX10_found_0 rfl (lv_at hl 1 rfl) ?_
  refine lv_iconst (v := 1) hx hb dX10_found_1 (by decide) ?_
  refine lv_iconst (v := 5) hx hb dX10_found_2 (by decide) ?_
  obtain ⟨r3, u3, e3, h⟩ := obI h
  refine mx_cSi C hP hS [.int x1, .int (1 : Int32), .int (5 : Int32)] (tX10_isIn e3) qX10_131 ⟨rfl, rfl, Nat.le_of_ble_eq_true rfl, Nat.le_of_ble_eq_true rfl⟩ rfl hl.1 rfl (Nat.le_of_ble_eq_true rfl) dX10_found_3 (fun H locs hP hS => ?_)
  refine lv_if_eq (tgt := 18) hx hb dX10_found_6 (by decide) (fun hc => ?_) (fun hc => ?_)
  · replace h := it_pos hc h
    refine lv_aload_n hx hb dX10_found_18 rfl (lv_at hl 0 rfl) ?_
    refine lv_iconst (v := 1) hx hb dX10_found_19 (by decide) ?_
    obtain ⟨r20, u20, e20, h⟩ := obI h
    refine mx_cVi C hP hS [.int (1 : Int32)] (tX10_finding e20) qX10_138 ⟨rfl, rfl, Nat.le_of_ble_eq_true rfl, Nat.le_of_ble_eq_true rfl⟩ rfl hl.1 rfl (Nat.le_of_ble_eq_true rfl) dX10_found_20 (fun H locs hP hS => ?_)
    exact mx_reti C h hP hS dX10_found_23
  · replace h := it_neg hc h
    refine lv_aload_n hx hb dX10_found_9 rfl (lv_at hl 0 rfl) ?_
    refine mg_found C hP dX10_found_10 ?_
    refine lv_iload_n hx hb dX10_found_13 rfl (lv_at hl 1 rfl) ?_
    obtain ⟨v14, e14, h⟩ := ob h
    refine ml_found C hP e14 dX10_found_14 ?_
    refine lv_goto (tgt := 23) hx hb dX10_found_15 (by decide) ?_
    exact mx_reti C h hP hS dX10_found_23
theorem tX10_found {D : va_G} {cI cZ cJ : ClassId} {o : Nat} {ad : Nat → Nat} {A : Nat → Prop} {x1 : Int32} {u : mS} {res : Int32 × mS} (h : fX10_found x1 u = some res) : Met l yX10_found (Cond.code yX10_found cX10_found 2 (some .int) :: gW) rmX10_found (va_Pc [.ref o, .int x1] (mPre D cI cZ cJ o ad A u)) (mQi D cI cZ cJ o ad A res) 0 0 A :=
  mx_met ⟨by decide +kernel, rfl⟩ (Nat.le_of_ble_eq_true rfl) (fun p e s m below meth c ls C hP hl => wX10_found C h hP va_S.rf hl)
end
