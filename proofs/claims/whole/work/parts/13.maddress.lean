section
variable {p : Program} {l : Launch} {e : Env} {s : State} {m : MethodId} {args : Array Value} {below : List Frame} {meth : Method} {c : Code} {D : va_G} {cI cZ cJ : ClassId} {o : Nat} {ad : Nat → Nat} {A : Nat → Prop}
abbrev rmX10_address : Room := { frames := 1, cells := 0, slots := 0, locals := 23 }
def fX10_address_57 (x1 : Int32) (x2 : Int32) (x4 : Int32) (s0 : Int32) (u : mS) (k30 : Int32 → Int32 → Int32 → Int32 → mS → Option (Int32 × mS)) : Option (Int32 × mS) :=
  k30 x1 x2 s0 (x4 + (1 : Int32)) u
set_option maxHeartbeats 4000000 in
set_option maxRecDepth 20000 in
theorem wX10_address_57 (C : mC p s m args meth c cX10_address 5 (some .int) D cI cZ cJ o ad A) {x1 : Int32} {x2 : Int32} {x4 : Int32} {s0 : Int32} {u : mS} {res : Int32 × mS} {k30 : Int32 → Int32 → Int32 → Int32 → mS → Option (Int32 × mS)} (hk30 : ∀ (x1 : Int32) (x2 : Int32) (x3 : Int32) (x4 : Int32) (u : mS) (H : Heap) (locs : List Loc) (ls : Array Slot), k30 x1 x2 x3 x4 u = some res → va_P D vwCl (mW cI cZ cJ o ad u) H → va_S A s.heap H locs → lv_has ls 5 [(0, .ref o), (1, .int x1), (2, .int x2), (3, .int x3), (4, .int x4)] → W p l e rmX10_address s m args below meth c H locs 0 0 (MQ below (mQi D cI cZ cJ o ad A res) args s 0 0 A) (F0 m 30 ls [])) (h : fX10_address_57 x1 x2 x4 s0 u k30 = some res) {H : Heap} {locs : List Loc} (hP : va_P D vwCl (mW cI cZ cJ o ad u) H) (hS : va_S A s.heap H locs) {ls : Array Slot} (hl : lv_has ls 5 [(0, .ref o), (1, .int x1), (2, .int x2), (4, .int x4)]) : W p l e rmX10_address s m args below meth c H locs 0 0 (MQ below (mQi D cI cZ cJ o ad A res) args s 0 0 A) (F0 m 57 ls [.int s0]) := by
  have hx := C.1
  have hb := C.2.1
  unfold fX10_address_57 at h
  refine lv_istore_n (lv' := [(3, .int s0), (0, .ref o), (1, .int x1), (2, .int x2), (4, .int x4)]) hx hb dX10_address_57 rfl hl (by decide) rfl (fun ls hl => ?_)
  refine lv_iinc (v := x4 + (1 : Int32)) (lv' := [(4, .int (x4 + (1 : Int32))), (3, .int s0), (0, .ref o), (1, .int x1), (2, .int x2)]) hx hb dX10_address_58 hl (k := 4) rfl rfl (by decide) rfl (fun ls hl => ?_)
  refine lv_goto (tgt := 30) hx hb dX10_address_61 (by decide) ?_
  exact hk30 _ _ _ _ _ _ _ _ h hP hS (lv_sub hl [2, 3, 4, 1, 0] rfl)
def fX10_address_30_b (x1 : Int32) (x2 : Int32) (x3 : Int32) (x4 : Int32) (u : mS) (k30 : Int32 → Int32 → Int32 → Int32 → mS → Option (Int32 × mS)) (k64 : Int32 → Int32 → Int32 → mS → Option (Int32 × mS)) : Option (Int32 × mS) :=
  if x3 = 0 then (
    k64 x1 x2 x3 u
  ) else (
    bI (fX10_places x1 u) fun r37 u37 =>
    if r37 ≤ x4 then (
      k64 x1 x2 x3 u37
    ) else (
      bI (fX10_digit x1 x4 u37) fun r46 u46 =>
      if r46 ≤ 0 then (
        fX10_address_57 x1 x2 x4 (0 : Int32) u46 k30
      ) else (
        fX10_address_57 x1 x2 x4 (1 : Int32) u46 k30
      )
    )
  )
set_option maxHeartbeats 4000000 in
set_option maxRecDepth 20000 in
theorem wX10_address_30_b (C : mC p s m args meth c cX10_address 5 (some .int) D cI cZ cJ o ad A) {x1 : Int32} {x2 : Int32} {x3 : Int32} {x4 : Int32} {u : mS} {res : Int32 × mS} {k30 : Int32 → Int32 → Int32 → Int32 → mS → Option (Int32 × mS)} {k64 : Int32 → Int32 → Int32 → mS → Option (Int32 × mS)} (hk30 : ∀ (x1 : Int32) (x2 : Int32) (x3 : Int32) (x4 : Int32) (u : mS) (H : Heap) (locs : List Loc) (ls : Array Slot), k30 x1 x2 x3 x4 u = some res → va_P D vwCl (mW cI cZ cJ o ad u) H → va_S A s.heap H locs → lv_has ls 5 [(0, .ref o), (1, .int x1), (2, .int x2), (3, .int x3), (4, .int x4)] → W p l e rmX10_address s m args below meth c H locs 0 0 (MQ below (mQi D cI cZ cJ o ad A res) args s 0 0 A) (F0 m 30 ls [])) (hk64 : ∀ (x1 : Int32) (x2 : Int32) (x3 : Int32) (u : mS) (H : Heap) (locs : List Loc) (ls : Array Slot), k64 x1 x2 x3 u = some res → va_P D vwCl (mW cI cZ cJ o ad u) H → va_S A s.heap H locs → lv_has ls 5 [(0, .ref o), (1, .int x1), (2, .int x2), (3, .int x3)] → W p l e rmX10_address s m args below meth c H locs 0 0 (MQ below (mQi D cI cZ cJ o ad A res) args s 0 0 A) (F0 m 64 ls [])) (h : fX10_address_30_b x1 x2 x3 x4 u k30 k64 = some res) {H : Heap} {locs : List Loc} (hP : va_P D vwCl (mW cI cZ cJ o ad u) H) (hS : va_S A s.heap H locs) {ls : Array Slot} (hl : lv_has ls 5 [(0, .ref o), (1, .int x1), (2, .int x2), (3, .int x3), (4, .int x4)]) : W p l e rmX10_address s m args below meth c H locs 0 0 (MQ below (mQi D cI cZ cJ o ad A res) args s 0 0 A) (F0 m 30 ls []) := by
  have hx := C.1
  have hb := C.2.1
  unfold fX10_address_30_b at h
  refine lv_iload_n hx hb dX10_address_30 rfl (lv_at hl 3 rfl) ?_
  refine lv_if_eq (tgt := 64) hx hb dX10_address_31 (by decide) (fun hc => ?_) (fun hc => ?_)
  · replace h := it_pos hc h
    exact hk64 _ _ _ _ _ _ _ h hP hS (lv_sub hl [0, 1, 2, 3] rfl)
  · replace h := it_neg hc h
    refine lv_iload hx hb dX10_address_34 (lv_at hl 4 rfl) ?_
    refine lv_iload_n hx hb dX10_address_36 rfl (lv_at hl 1 rfl) ?_
    obtain ⟨r37, u37, e37, h⟩ := obI h
    refine mx_cSi C hP hS [.int x1] (tX10_places e37) qX10_175 ⟨rfl, rfl, Nat.le_of_ble_eq_true rfl, Nat.le_of_ble_eq_true rfl⟩ rfl hl.1 rfl (Nat.le_of_ble_eq_true rfl) dX10_address_37 (fun H locs hP hS => ?_)
    refine lv_icmp_ge (tgt := 64) hx hb dX10_address_40 (by decide) (fun hc => ?_) (fun hc => ?_)
    · replace h := it_pos hc h
      exact hk64 _ _ _ _ _ _ _ h hP hS (lv_sub hl [0, 1, 2, 3] rfl)
    · replace h := it_neg hc h
      refine lv_iload_n hx hb dX10_address_43 rfl (lv_at hl 1 rfl) ?_
      refine lv_iload hx hb dX10_address_44 (lv_at hl 4 rfl) ?_
      obtain ⟨r46, u46, e46, h⟩ := obI h
      refine mx_cSi C hP hS [.int x1, .int x4] (tX10_digit e46) qX10_178 ⟨rfl, rfl, Nat.le_of_ble_eq_true rfl, Nat.le_of_ble_eq_true rfl⟩ rfl hl.1 rfl (Nat.le_of_ble_eq_true rfl) dX10_address_46 (fun H locs hP hS => ?_)
      refine lv_if_le (tgt := 56) hx hb dX10_address_49 (by decide) (fun hc => ?_) (fun hc => ?_)
      · replace h := it_pos hc h
        refine lv_iconst (v := 0) hx hb dX10_address_56 (by decide) ?_
        exact wX10_address_57 C hk30 h hP hS (lv_sub hl [0, 1, 2, 4] rfl)
      · replace h := it_neg hc h
        refine lv_iconst (v := 1) hx hb dX10_address_52 (by decide) ?_
        refine lv_goto (tgt := 57) hx hb dX10_address_53 (by decide) ?_
        exact wX10_address_57 C hk30 h hP hS (lv_sub hl [0, 1, 2, 4] rfl)
def fX10_address_30 (k64 : Int32 → Int32 → Int32 → mS → Option (Int32 × mS)) : Nat → Int32 → Int32 → Int32 → Int32 → mS → Option (Int32 × mS)
  | 0 => fun _ _ _ _ _ => none
  | n + 1 => fun x1 x2 x3 x4 u => fX10_address_30_b x1 x2 x3 x4 u (fX10_address_30 k64 n) k64 
theorem wX10_address_30 (C : mC p s m args meth c cX10_address 5 (some .int) D cI cZ cJ o ad A) {res : Int32 × mS} {k64 : Int32 → Int32 → Int32 → mS → Option (Int32 × mS)} (hk64 : ∀ (x1 : Int32) (x2 : Int32) (x3 : Int32) (u : mS) (H : Heap) (locs : List Loc) (ls : Array Slot), k64 x1 x2 x3 u = some res → va_P D vwCl (mW cI cZ cJ o ad u) H → va_S A s.heap H locs → lv_has ls 5 [(0, .ref o), (1, .int x1), (2, .int x2), (3, .int x3)] → W p l e rmX10_address s m args below meth c H locs 0 0 (MQ below (mQi D cI cZ cJ o ad A res) args s 0 0 A) (F0 m 64 ls [])) (n : Nat) : ∀ {x1 : Int32} {x2 : Int32} {x3 : Int32} {x4 : Int32} {u : mS} {H : Heap} {locs : List Loc} {ls : Array Slot}, fX10_address_30 k64 n x1 x2 x3 x4 u = some res → va_P D vwCl (mW cI cZ cJ o ad u) H → va_S A s.heap H locs → lv_has ls 5 [(0, .ref o), (1, .int x1), (2, .int x2), (3, .int x3), (4, .int x4)] → W p l e rmX10_address s m args below meth c H locs 0 0 (MQ below (mQi D cI cZ cJ o ad A res) args s 0 0 A) (F0 m 30 ls []) := by
  induction n with
  | zero => intro _ _ _ _ _ _ _ _ h _ _ _; cases (show (none : Option (Int32 × mS)) = some res from h)
  | succ n ih => intro _ _ _ _ _ _ _ _ h hP hS hl; exact wX10_address_30_b C (fun _ _ _ _ _ _ _ _ h hP hS hl => ih h hP hS hl) hk64 h hP hS hl
def fX10_address_64 (x1 : Int32) (x2 : Int32) (x3 : Int32) (u : mS) : Option (Int32 × mS) :=
  if x3 = 0 then (
    bI (fX10_finding (1 : Int32) u) fun r70 u70 =>
    some (r70, u70)
  ) else (
    if (u.1 25) = (16 : Int32) then (
      bI (fX10_finding (4 : Int32) u) fun r85 u85 =>
      some (r85, u85)
    ) else (
      (mU u 26 16 (u.1 25) x1).bind fun u98 =>
      (mU u98 27 16 (u98.1 25) x2).bind fun u108 =>
      pU (mF u108 25 ((u108.1 25) + (1 : Int32))) fun u116 =>
      some ((u116.1 25) - (1 : Int32), u116)
    )
  )
set_option maxHeartbeats 4000000 in
set_option maxRecDepth 20000 in
theorem wX10_address_64 (C : mC p s m args meth c cX10_address 5 (some .int) D cI cZ cJ o ad A) {x1 : Int32} {x2 : Int32} {x3 : Int32} {u : mS} {res : Int32 × mS} (h : fX10_address_64 x1 x2 x3 u = some res) {H : Heap} {locs : List Loc} (hP : va_P D vwCl (mW cI cZ cJ o ad u) H) (hS : va_S A s.heap H locs) {ls : Array Slot} (hl : lv_has ls 5 [(0, .ref o), (1, .int x1), (2, .int x2), (3, .int x3)]) : W p l e rmX10_address s m args below meth c H locs 0 0 (MQ below (mQi D cI cZ cJ o ad A res) args s 0 0 A) (F0 m 64 ls []) := by
  have hx := C.1
  have hb := C.2.1
  unfold fX10_address_64 at h
  refine lv_iload_n hx hb dX10_address_64 rfl (lv_at hl 3 rfl) ?_
  refine lv_if_ne (tgt := 74) hx hb dX10_address_65 (by decide) (fun hc => ?_) (fun hc => ?_)
  · replace h := it_neg hc h
    refine lv_aload_n hx hb dX10_address_74 rfl (lv_at hl 0 rfl) ?_
    refine mg_addresses C hP dX10_address_75 ?_
    refine lv_bipush (v := 16) hx hb dX10_address_78 (by decide) ?_
    refine lv_icmp_ne (tgt := 89) hx hb dX10_address_80 (by decide) (fun hc => ?_) (fun hc => ?_)
    · replace h := it_neg hc h
      refine lv_aload_n hx hb dX10_address_89 rfl (lv_at hl 0 rfl) ?_
      refine mg_letters C hP dX10_address_90 ?_
      refine lv_aload_n hx hb dX10_address_93 rfl (lv_at hl 0 rfl) ?_
      refine mg_addresses C hP dX10_address_94 ?_
      refine lv_iload_n hx hb dX10_address_97 rfl (lv_at hl 1 rfl) ?_
      obtain ⟨u98, e98, h⟩ := ob h
      refine ms_letters C hP hS e98 dX10_address_98 (fun H locs hP hS => ?_)
      refine lv_aload_n hx hb dX10_address_99 rfl (lv_at hl 0 rfl) ?_
      refine mg_post C hP dX10_address_100 ?_
      refine lv_aload_n hx hb dX10_address_103 rfl (lv_at hl 0 rfl) ?_
      refine mg_addresses C hP dX10_address_104 ?_
      refine lv_iload_n hx hb dX10_address_107 rfl (lv_at hl 2 rfl) ?_
      obtain ⟨u108, e108, h⟩ := ob h
      refine ms_post C hP hS e108 dX10_address_108 (fun H locs hP hS => ?_)
      refine lv_aload_n hx hb dX10_address_109 rfl (lv_at hl 0 rfl) ?_
      refine lv_dup hx hb dX10_address_110 rfl ?_
      refine mg_addresses C hP dX10_address_111 ?_
      refine lv_iconst (v := 1) hx hb dX10_address_114 (by decide) ?_
      refine lv_iadd hx hb dX10_address_115 ?_
      obtain ⟨u116, e116, h⟩ := op h
      refine mp_addresses C hP hS e116 dX10_address_116 (fun H locs hP hS => ?_)
      refine lv_aload_n hx hb dX10_address_119 rfl (lv_at hl 0 rfl) ?_
      refine mg_addresses C hP dX10_address_120 ?_
      refine lv_iconst (v := 1) hx hb dX10_address_123 (by decide) ?_
      refine lv_isub hx hb dX10_address_124 ?_
      exact mx_reti C h hP hS dX10_address_125
    · replace h := it_pos hc h
      refine lv_aload_n hx hb dX10_address_83 rfl (lv_at hl 0 rfl) ?_
      refine lv_iconst (v := 4) hx hb dX10_address_84 (by decide) ?_
      obtain ⟨r85, u85, e85, h⟩ := obI h
      refine mx_cVi C hP hS [.int (4 : Int32)] (tX10_finding e85) qX10_138 ⟨rfl, rfl, Nat.le_of_ble_eq_true rfl, Nat.le_of_ble_eq_true rfl⟩ rfl hl.1 rfl (Nat.le_of_ble_eq_true rfl) dX10_address_85 (fun H locs hP hS => ?_)
      exact mx_reti C h hP hS dX10_address_88
  · replace h := it_pos hc h
    refine lv_aload_n hx hb dX10_address_68 rfl (lv_at hl 0 rfl) ?_
    refine lv_iconst (v := 1) hx hb dX10_address_69 (by decide) ?_
    obtain ⟨r70, u70, e70, h⟩ := obI h
    refine mx_cVi C hP hS [.int (1 : Int32)] (tX10_finding e70) qX10_138 ⟨rfl, rfl, Nat.le_of_ble_eq_true rfl, Nat.le_of_ble_eq_true rfl⟩ rfl hl.1 rfl (Nat.le_of_ble_eq_true rfl) dX10_address_70 (fun H locs hP hS => ?_)
    exact mx_reti C h hP hS dX10_address_73
def fX10_address_26 (x1 : Int32) (x2 : Int32) (s0 : Int32) (u : mS) : Option (Int32 × mS) :=
  fX10_address_30 (fun x1 x2 x3 u =>
        fX10_address_64 x1 x2 x3 u ) FU x1 x2 s0 (0 : Int32) u
set_option maxHeartbeats 4000000 in
set_option maxRecDepth 20000 in
theorem wX10_address_26 (C : mC p s m args meth c cX10_address 5 (some .int) D cI cZ cJ o ad A) {x1 : Int32} {x2 : Int32} {s0 : Int32} {u : mS} {res : Int32 × mS} (h : fX10_address_26 x1 x2 s0 u = some res) {H : Heap} {locs : List Loc} (hP : va_P D vwCl (mW cI cZ cJ o ad u) H) (hS : va_S A s.heap H locs) {ls : Array Slot} (hl : lv_has ls 5 [(0, .ref o), (1, .int x1), (2, .int x2)]) : W p l e rmX10_address s m args below meth c H locs 0 0 (MQ below (mQi D cI cZ cJ o ad A res) args s 0 0 A) (F0 m 26 ls [.int s0]) := by
  have hx := C.1
  have hb := C.2.1
  unfold fX10_address_26 at h
  refine lv_istore_n (lv' := [(3, .int s0), (0, .ref o), (1, .int x1), (2, .int x2)]) hx hb dX10_address_26 rfl hl (by decide) rfl (fun ls hl => ?_)
  refine lv_iconst (v := 0) hx hb dX10_address_27 (by decide) ?_
  refine lv_istore (lv' := [(4, .int (0 : Int32)), (3, .int s0), (0, .ref o), (1, .int x1), (2, .int x2)]) hx hb dX10_address_28 hl (by decide) rfl (fun ls hl => ?_)
  refine wX10_address_30 C ?_ FU h hP hS (lv_sub hl [2, 3, 4, 1, 0] rfl)
  · intro x1 x2 x3 u H locs ls h hP hS hl
    exact wX10_address_64 C  h hP hS (lv_sub hl [0, 1, 2, 3] rfl)
def fX10_address_25 (x1 : Int32) (x2 : Int32) (u : mS) : Option (Int32 × mS) :=
  fX10_address_26 x1 x2 (0 : Int32) u 
set_option maxHeartbeats 4000000 in
set_option maxRecDepth 20000 in
theorem wX10_address_25 (C : mC p s m args meth c cX10_address 5 (some .int) D cI cZ cJ o ad A) {x1 : Int32} {x2 : Int32} {u : mS} {res : Int32 × mS} (h : fX10_address_25 x1 x2 u = some res) {H : Heap} {locs : List Loc} (hP : va_P D vwCl (mW cI cZ cJ o ad u) H) (hS : va_S A s.heap H locs) {ls : Array Slot} (hl : lv_has ls 5 [(0, .ref o), (1, .int x1), (2, .int x2)]) : W p l e rmX10_address s m args below meth c H locs 0 0 (MQ below (mQi D cI cZ cJ o ad A res) args s 0 0 A) (F0 m 25 ls []) := by
  have hx := C.1
  have hb := C.2.1
  unfold fX10_address_25 at h
  refine lv_iconst (v := 0) hx hb dX10_address_25 (by decide) ?_
  exact wX10_address_26 C  h hP hS (lv_sub hl [0, 1, 2] rfl)
def fX10_address (x1 : Int32) (x2 : Int32) (u : mS) : Option (Int32 × mS) :=
  bI (fX10_isIn x1 (1 : Int32) (99999999 : Int32) u) fun r4 u4 =>
  if r4 = 0 then (
    fX10_address_25 x1 x2 u4 
  ) else (
    bI (fX10_isIn x2 (0 : Int32) (1000 : Int32) u4) fun r15 u15 =>
    if r15 = 0 then (
      fX10_address_25 x1 x2 u15 
    ) else (
      fX10_address_26 x1 x2 (1 : Int32) u15 
    )
  )
set_option maxHeartbeats 4000000 in
set_option maxRecDepth 20000 in
theorem wX10_address (C : mC p s m args meth c cX10_address 5 (some .int) D cI cZ cJ o ad A) {x1 : Int32} {x2 : Int32} {u : mS} {res : Int32 × mS} (h : fX10_address x1 x2 u = some res) {H : Heap} {locs : List Loc} (hP : va_P D vwCl (mW cI cZ cJ o ad u) H) (hS : va_S A s.heap H locs) {ls : Array Slot} (hl : lv_has ls 5 [(0, .ref o), (1, .int x1), (2, .int x2)]) : W p l e rmX10_address s m args below meth c H locs 0 0 (MQ below (mQi D cI cZ cJ o ad A res) args s 0 0 A) (F0 m 0 ls []) := by
  have hx := C.1
  have hb := C.2.1
  unfold fX10_address at h
  refine lv_iload_n hx hb dX10_address_0 rfl (lv_at hl 1 rfl) ?_
  refine lv_iconst (v := 1) hx hb dX10_address_1 (by decide) ?_
  refine lv_ldc (v := 99999999) hx hb C.2.2.2.1 (C.2.2.2.2.1 _ kcX10_174) dX10_address_2 ?_
  obtain ⟨r4, u4, e4, h⟩ := obI h
  refine mx_cSi C hP hS [.int x1, .int (1 : Int32), .int (99999999 : Int32)] (tX10_isIn e4) qX10_131 ⟨rfl, rfl, Nat.le_of_ble_eq_true rfl, Nat.le_of_ble_eq_true rfl⟩ rfl hl.1 rfl (Nat.le_of_ble_eq_true rfl) dX10_address_4 (fun H locs hP hS => ?_)
  refine lv_if_eq (tgt := 25) hx hb dX10_address_7 (by decide) (fun hc => ?_) (fun hc => ?_)
  · replace h := it_pos hc h
    exact wX10_address_25 C  h hP hS (lv_sub hl [0, 1, 2] rfl)
  · replace h := it_neg hc h
    refine lv_iload_n hx hb dX10_address_10 rfl (lv_at hl 2 rfl) ?_
    refine lv_iconst (v := 0) hx hb dX10_address_11 (by decide) ?_
    refine lv_sipush (v := 1000) hx hb dX10_address_12 (by decide) ?_
    obtain ⟨r15, u15, e15, h⟩ := obI h
    refine mx_cSi C hP hS [.int x2, .int (0 : Int32), .int (1000 : Int32)] (tX10_isIn e15) qX10_131 ⟨rfl, rfl, Nat.le_of_ble_eq_true rfl, Nat.le_of_ble_eq_true rfl⟩ rfl hl.1 rfl (Nat.le_of_ble_eq_true rfl) dX10_address_15 (fun H locs hP hS => ?_)
    refine lv_if_eq (tgt := 25) hx hb dX10_address_18 (by decide) (fun hc => ?_) (fun hc => ?_)
    · replace h := it_pos hc h
      exact wX10_address_25 C  h hP hS (lv_sub hl [0, 1, 2] rfl)
    · replace h := it_neg hc h
      refine lv_iconst (v := 1) hx hb dX10_address_21 (by decide) ?_
      refine lv_goto (tgt := 26) hx hb dX10_address_22 (by decide) ?_
      exact wX10_address_26 C  h hP hS (lv_sub hl [0, 1, 2] rfl)
theorem tX10_address {D : va_G} {cI cZ cJ : ClassId} {o : Nat} {ad : Nat → Nat} {A : Nat → Prop} {x1 : Int32} {x2 : Int32} {u : mS} {res : Int32 × mS} (h : fX10_address x1 x2 u = some res) : Met l yX10_address (Cond.code yX10_address cX10_address 5 (some .int) :: gW) rmX10_address (va_Pc [.ref o, .int x1, .int x2] (mPre D cI cZ cJ o ad A u)) (mQi D cI cZ cJ o ad A res) 0 0 A :=
  mx_met ⟨by decide +kernel, rfl⟩ (Nat.le_of_ble_eq_true rfl) (fun p e s m below meth c ls C hP hl => wX10_address C h hP va_S.rf hl)
abbrev rmX10_isAddress : Room := { frames := 0, cells := 0, slots := 0, locals := 0 }
def fX10_isAddress (x1 : Int32) (u : mS) : Option (Int32 × mS) :=
  if x1 < 0 then (
    some ((0 : Int32), u)
  ) else (
    if (u.1 25) ≤ x1 then (
      some ((0 : Int32), u)
    ) else (
      some ((1 : Int32), u)
    )
  )
set_option maxHeartbeats 4000000 in
set_option maxRecDepth 20000 in
theorem wX10_isAddress (C : mC p s m args meth c cX10_isAddress 2 (some .boolean) D cI cZ cJ o ad A) {x1 : Int32} {u : mS} {res : Int32 × mS} (h : fX10_isAddress x1 u = some res) {H : Heap} {locs : List Loc} (hP : va_P D vwCl (mW cI cZ cJ o ad u) H) (hS : va_S A s.heap H locs) {ls : Array Slot} (hl : lv_has ls 2 [(0, .ref o), (1, .int x1)]) : W p l e rmX10_isAddress s m args below meth c H locs 0 0 (MQ below (mQi D cI cZ cJ o ad A res) args s 0 0 A) (F0 m 0 ls []) := by
  have hx := C.1
  have hb := C.2.1
  unfold fX10_isAddress at h
  refine lv_iload_n hx hb dX10_isAddress_0 rfl (lv_at hl 1 rfl) ?_
  refine lv_if_lt (tgt := 16) hx hb dX10_isAddress_1 (by decide) (fun hc => ?_) (fun hc => ?_)
  · replace h := it_pos hc h
    refine lv_iconst (v := 0) hx hb dX10_isAddress_16 (by decide) ?_
    exact mx_retz C (by decide) h hP hS dX10_isAddress_17
  · replace h := it_neg hc h
    refine lv_iload_n hx hb dX10_isAddress_4 rfl (lv_at hl 1 rfl) ?_
    refine lv_aload_n hx hb dX10_isAddress_5 rfl (lv_at hl 0 rfl) ?_
    refine mg_addresses C hP dX10_isAddress_6 ?_
    refine lv_icmp_ge (tgt := 16) hx hb dX10_isAddress_9 (by decide) (fun hc => ?_) (fun hc => ?_)
    · replace h := it_pos hc h
      refine lv_iconst (v := 0) hx hb dX10_isAddress_16 (by decide) ?_
      exact mx_retz C (by decide) h hP hS dX10_isAddress_17
    · replace h := it_neg hc h
      refine lv_iconst (v := 1) hx hb dX10_isAddress_12 (by decide) ?_
      refine lv_goto (tgt := 17) hx hb dX10_isAddress_13 (by decide) ?_
      exact mx_retz C (by decide) h hP hS dX10_isAddress_17
theorem tX10_isAddress {D : va_G} {cI cZ cJ : ClassId} {o : Nat} {ad : Nat → Nat} {A : Nat → Prop} {x1 : Int32} {u : mS} {res : Int32 × mS} (h : fX10_isAddress x1 u = some res) : Met l yX10_isAddress (Cond.code yX10_isAddress cX10_isAddress 2 (some .boolean) :: gW) rmX10_isAddress (va_Pc [.ref o, .int x1] (mPre D cI cZ cJ o ad A u)) (mQi D cI cZ cJ o ad A res) 0 0 A :=
  mx_met ⟨by decide +kernel, rfl⟩ (Nat.le_of_ble_eq_true rfl) (fun p e s m below meth c ls C hP hl => wX10_isAddress C h hP va_S.rf hl)
abbrev rmX10_post : Room := { frames := 1, cells := 0, slots := 0, locals := 22 }
def fX10_post (x1 : Int32) (x2 : Int32) (u : mS) : Option (Int32 × mS) :=
  bI (fX10_isAddress x1 u) fun r2 u2 =>
  if r2 = 0 then (
    bI (fX10_finding (1 : Int32) u2) fun r21 u21 =>
    some (r21, u21)
  ) else (
    bI (fX10_isIn x2 (0 : Int32) (1000 : Int32) u2) fun r13 u13 =>
    if r13 = 0 then (
      bI (fX10_finding (1 : Int32) u13) fun r21 u21 =>
      some (r21, u21)
    ) else (
      (mR u13 27 16 x1).bind fun v30 =>
      (mU u13 27 16 x1 x2).bind fun u38 =>
      some (v30, u38)
    )
  )
set_option maxHeartbeats 4000000 in
set_option maxRecDepth 20000 in
theorem wX10_post (C : mC p s m args meth c cX10_post 4 (some .int) D cI cZ cJ o ad A) {x1 : Int32} {x2 : Int32} {u : mS} {res : Int32 × mS} (h : fX10_post x1 x2 u = some res) {H : Heap} {locs : List Loc} (hP : va_P D vwCl (mW cI cZ cJ o ad u) H) (hS : va_S A s.heap H locs) {ls : Array Slot} (hl : lv_has ls 4 [(0, .ref o), (1, .int x1), (2, .int x2)]) : W p l e rmX10_post s m args below meth c H locs 0 0 (MQ below (mQi D cI cZ cJ o ad A res) args s 0 0 A) (F0 m 0 ls []) := by
  have hx := C.1
  have hb := C.2.1
  unfold fX10_post at h
  refine lv_aload_n hx hb dX10_post_0 rfl (lv_at hl 0 rfl) ?_
  refine lv_iload_n hx hb dX10_post_1 rfl (lv_at hl 1 rfl) ?_
  obtain ⟨r2, u2, e2, h⟩ := obI h
  refine mx_cVi C hP hS [.int x1] (tX10_isAddress e2) qX10_184 ⟨rfl, rfl, Nat.le_of_ble_eq_true rfl, Nat.le_of_ble_eq_true rfl⟩ rfl hl.1 rfl (Nat.le_of_ble_eq_true rfl) dX10_post_2 (fun H locs hP hS => ?_)
  refine lv_if_eq (tgt := 19) hx hb dX10_post_5 (by decide) (fun hc => ?_) (fun hc => ?_)
  · replace h := it_pos hc h
    refine lv_aload_n hx hb dX10_post_19 rfl (lv_at hl 0 rfl) ?_
    refine lv_iconst (v := 1) hx hb dX10_post_20 (by decide) ?_
    obtain ⟨r21, u21, e21, h⟩ := obI h
    refine mx_cVi C hP hS [.int (1 : Int32)] (tX10_finding e21) qX10_138 ⟨rfl, rfl, Nat.le_of_ble_eq_true rfl, Nat.le_of_ble_eq_true rfl⟩ rfl hl.1 rfl (Nat.le_of_ble_eq_true rfl) dX10_post_21 (fun H locs hP hS => ?_)
    exact mx_reti C h hP hS dX10_post_24
  · replace h := it_neg hc h
    refine lv_iload_n hx hb dX10_post_8 rfl (lv_at hl 2 rfl) ?_
    refine lv_iconst (v := 0) hx hb dX10_post_9 (by decide) ?_
    refine lv_sipush (v := 1000) hx hb dX10_post_10 (by decide) ?_
    obtain ⟨r13, u13, e13, h⟩ := obI h
    refine mx_cSi C hP hS [.int x2, .int (0 : Int32), .int (1000 : Int32)] (tX10_isIn e13) qX10_131 ⟨rfl, rfl, Nat.le_of_ble_eq_true rfl, Nat.le_of_ble_eq_true rfl⟩ rfl hl.1 rfl (Nat.le_of_ble_eq_true rfl) dX10_post_13 (fun H locs hP hS => ?_)
    refine lv_if_ne (tgt := 25) hx hb dX10_post_16 (by decide) (fun hc => ?_) (fun hc => ?_)
    · replace h := it_neg hc h
      refine lv_aload_n hx hb dX10_post_25 rfl (lv_at hl 0 rfl) ?_
      refine mg_post C hP dX10_post_26 ?_
      refine lv_iload_n hx hb dX10_post_29 rfl (lv_at hl 1 rfl) ?_
      obtain ⟨v30, e30, h⟩ := ob h
      refine ml_post C hP e30 dX10_post_30 ?_
      refine lv_istore_n (lv' := [(3, .int v30), (0, .ref o), (1, .int x1), (2, .int x2)]) hx hb dX10_post_31 rfl hl (by decide) rfl (fun ls hl => ?_)
      refine lv_aload_n hx hb dX10_post_32 rfl (lv_at hl 1 rfl) ?_
      refine mg_post C hP dX10_post_33 ?_
      refine lv_iload_n hx hb dX10_post_36 rfl (lv_at hl 2 rfl) ?_
      refine lv_iload_n hx hb dX10_post_37 rfl (lv_at hl 3 rfl) ?_
      obtain ⟨u38, e38, h⟩ := ob h
      refine ms_post C hP hS e38 dX10_post_38 (fun H locs hP hS => ?_)
      refine lv_iload_n hx hb dX10_post_39 rfl (lv_at hl 0 rfl) ?_
      exact mx_reti C h hP hS dX10_post_40
    · replace h := it_pos hc h
      refine lv_aload_n hx hb dX10_post_19 rfl (lv_at hl 0 rfl) ?_
      refine lv_iconst (v := 1) hx hb dX10_post_20 (by decide) ?_
      obtain ⟨r21, u21, e21, h⟩ := obI h
      refine mx_cVi C hP hS [.int (1 : Int32)] (tX10_finding e21) qX10_138 ⟨rfl, rfl, Nat.le_of_ble_eq_true rfl, Nat.le_of_ble_eq_true rfl⟩ rfl hl.1 rfl (Nat.le_of_ble_eq_true rfl) dX10_post_21 (fun H locs hP hS => ?_)
      exact mx_reti C h hP hS dX10_post_24
theorem tX10_post {D : va_G} {cI cZ cJ : ClassId} {o : Nat} {ad : Nat → Nat} {A : Nat → Prop} {x1 : Int32} {x2 : Int32} {u : mS} {res : Int32 × mS} (h : fX10_post x1 x2 u = some res) : Met l yX10_post (Cond.code yX10_post cX10_post 4 (some .int) :: gW) rmX10_post (va_Pc [.ref o, .int x1, .int x2] (mPre D cI cZ cJ o ad A u)) (mQi D cI cZ cJ o ad A res) 0 0 A :=
  mx_met ⟨by decide +kernel, rfl⟩ (Nat.le_of_ble_eq_true rfl) (fun p e s m below meth c ls C hP hl => wX10_post C h hP va_S.rf hl)
abbrev rmX10_isLabel : Room := { frames := 1, cells := 0, slots := 0, locals := 22 }
def fX10_isLabel (x0 : Int32) (x1 : Int32) (u : mS) : Option (Int32 × mS) :=
  bI (fX10_isIn x1 (10 : Int32) (83 : Int32) u) fun r5 u5 =>
  if r5 = 0 then (
    some ((0 : Int32), u5)
  ) else (
    if (4 : Int32) ≤ (x1 - x1 / (10 : Int32) * (10 : Int32)) then (
      some ((0 : Int32), u5)
    ) else (
      bI (fX10_isIn x0 (0 : Int32) (99999999 : Int32) u5) fun r23 u23 =>
      if r23 = 0 then (
        some ((0 : Int32), u23)
      ) else (
        bI (fX10_places x0 u23) fun r30 u30 =>
        if (x1 / (10 : Int32)) < r30 then (
          some ((0 : Int32), u30)
        ) else (
          some ((1 : Int32), u30)
        )
      )
    )
  )
set_option maxHeartbeats 4000000 in
set_option maxRecDepth 20000 in
theorem wX10_isLabel (C : mC p s m args meth c cX10_isLabel 2 (some .boolean) D cI cZ cJ o ad A) {x0 : Int32} {x1 : Int32} {u : mS} {res : Int32 × mS} (h : fX10_isLabel x0 x1 u = some res) {H : Heap} {locs : List Loc} (hP : va_P D vwCl (mW cI cZ cJ o ad u) H) (hS : va_S A s.heap H locs) {ls : Array Slot} (hl : lv_has ls 2 [(0, .int x0), (1, .int x1)]) : W p l e rmX10_isLabel s m args below meth c H locs 0 0 (MQ below (mQi D cI cZ cJ o ad A res) args s 0 0 A) (F0 m 0 ls []) := by
  have hx := C.1
  have hb := C.2.1
  unfold fX10_isLabel at h
  refine lv_iload_n hx hb dX10_isLabel_0 rfl (lv_at hl 1 rfl) ?_
  refine lv_bipush (v := 10) hx hb dX10_isLabel_1 (by decide) ?_
  refine lv_bipush (v := 83) hx hb dX10_isLabel_3 (by decide) ?_
  obtain ⟨r5, u5, e5, h⟩ := obI h
  refine mx_cSi C hP hS [.int x1, .int (10 : Int32), .int (83 : Int32)] (tX10_isIn e5) qX10_131 ⟨rfl, rfl, Nat.le_of_ble_eq_true rfl, Nat.le_of_ble_eq_true rfl⟩ rfl hl.1 rfl (Nat.le_of_ble_eq_true rfl) dX10_isLabel_5 (fun H locs hP hS => ?_)
  refine lv_if_eq (tgt := 44) hx hb dX10_isLabel_8 (by decide) (fun hc => ?_) (fun hc => ?_)
  · replace h := it_pos hc h
    refine lv_iconst (v := 0) hx hb dX10_isLabel_44 (by decide) ?_
    exact mx_retz C (by decide) h hP hS dX10_isLabel_45
  · replace h := it_neg hc h
    refine lv_iload_n hx hb dX10_isLabel_11 rfl (lv_at hl 1 rfl) ?_
    refine lv_bipush (v := 10) hx hb dX10_isLabel_12 (by decide) ?_
    refine lv_irem hx hb dX10_isLabel_14 (by decide) ?_
    refine lv_iconst (v := 4) hx hb dX10_isLabel_15 (by decide) ?_
    refine lv_icmp_ge (tgt := 44) hx hb dX10_isLabel_16 (by decide) (fun hc => ?_) (fun hc => ?_)
    · replace h := it_pos hc h
      refine lv_iconst (v := 0) hx hb dX10_isLabel_44 (by decide) ?_
      exact mx_retz C (by decide) h hP hS dX10_isLabel_45
    · replace h := it_neg hc h
      refine lv_iload_n hx hb dX10_isLabel_19 rfl (lv_at hl 0 rfl) ?_
      refine lv_iconst (v := 0) hx hb dX10_isLabel_20 (by decide) ?_
      refine lv_ldc (v := 99999999) hx hb C.2.2.2.1 (C.2.2.2.2.1 _ kcX10_174) dX10_isLabel_21 ?_
      obtain ⟨r23, u23, e23, h⟩ := obI h
      refine mx_cSi C hP hS [.int x0, .int (0 : Int32), .int (99999999 : Int32)] (tX10_isIn e23) qX10_131 ⟨rfl, rfl, Nat.le_of_ble_eq_true rfl, Nat.le_of_ble_eq_true rfl⟩ rfl hl.1 rfl (Nat.le_of_ble_eq_true rfl) dX10_isLabel_23 (fun H locs hP hS => ?_)
      refine lv_if_eq (tgt := 44) hx hb dX10_isLabel_26 (by decide) (fun hc => ?_) (fun hc => ?_)
      · replace h := it_pos hc h
        refine lv_iconst (v := 0) hx hb dX10_isLabel_44 (by decide) ?_
        exact mx_retz C (by decide) h hP hS dX10_isLabel_45
      · replace h := it_neg hc h
        refine lv_iload_n hx hb dX10_isLabel_29 rfl (lv_at hl 0 rfl) ?_
        obtain ⟨r30, u30, e30, h⟩ := obI h
        refine mx_cSi C hP hS [.int x0] (tX10_places e30) qX10_175 ⟨rfl, rfl, Nat.le_of_ble_eq_true rfl, Nat.le_of_ble_eq_true rfl⟩ rfl hl.1 rfl (Nat.le_of_ble_eq_true rfl) dX10_isLabel_30 (fun H locs hP hS => ?_)
        refine lv_iload_n hx hb dX10_isLabel_33 rfl (lv_at hl 1 rfl) ?_
        refine lv_bipush (v := 10) hx hb dX10_isLabel_34 (by decide) ?_
        refine lv_idiv hx hb dX10_isLabel_36 (by decide) ?_
        refine lv_icmp_gt (tgt := 44) hx hb dX10_isLabel_37 (by decide) (fun hc => ?_) (fun hc => ?_)
        · replace h := it_pos hc h
          refine lv_iconst (v := 0) hx hb dX10_isLabel_44 (by decide) ?_
          exact mx_retz C (by decide) h hP hS dX10_isLabel_45
        · replace h := it_neg hc h
          refine lv_iconst (v := 1) hx hb dX10_isLabel_40 (by decide) ?_
          refine lv_goto (tgt := 45) hx hb dX10_isLabel_41 (by decide) ?_
          exact mx_retz C (by decide) h hP hS dX10_isLabel_45
theorem tX10_isLabel {D : va_G} {cI cZ cJ : ClassId} {o : Nat} {ad : Nat → Nat} {A : Nat → Prop} {x0 : Int32} {x1 : Int32} {u : mS} {res : Int32 × mS} (h : fX10_isLabel x0 x1 u = some res) : Met l yX10_isLabel (Cond.code yX10_isLabel cX10_isLabel 2 (some .boolean) :: gW) rmX10_isLabel (va_Pc [.int x0, .int x1] (mPre D cI cZ cJ o ad A u)) (mQi D cI cZ cJ o ad A res) 0 0 A :=
  mx_met ⟨by decide +kernel, rfl⟩ (Nat.le_of_ble_eq_true rfl) (fun p e s m below meth c ls C hP hl => wX10_isLabel C h hP va_S.rf hl)
abbrev rmX10_liesOn : Room := { frames := 1, cells := 0, slots := 0, locals := 23 }
def fX10_liesOn_37 (x0 : Int32) (x1 : Int32) (x2 : Int32) (x3 : Int32) (x4 : Int32) (u : mS) (k3 : Int32 → Int32 → Int32 → Int32 → Int32 → mS → Option (Int32 × mS)) : Option (Int32 × mS) :=
  k3 x0 x1 x2 x3 (x4 + (1 : Int32)) u
set_option maxHeartbeats 4000000 in
set_option maxRecDepth 20000 in
theorem wX10_liesOn_37 (C : mC p s m args meth c cX10_liesOn 6 (some .boolean) D cI cZ cJ o ad A) {x0 : Int32} {x1 : Int32} {x2 : Int32} {x3 : Int32} {x4 : Int32} {u : mS} {res : Int32 × mS} {k3 : Int32 → Int32 → Int32 → Int32 → Int32 → mS → Option (Int32 × mS)} (hk3 : ∀ (x0 : Int32) (x1 : Int32) (x2 : Int32) (x3 : Int32) (x4 : Int32) (u : mS) (H : Heap) (locs : List Loc) (ls : Array Slot), k3 x0 x1 x2 x3 x4 u = some res → va_P D vwCl (mW cI cZ cJ o ad u) H → va_S A s.heap H locs → lv_has ls 6 [(0, .int x0), (1, .int x1), (2, .int x2), (3, .int x3), (4, .int x4)] → W p l e rmX10_liesOn s m args below meth c H locs 0 0 (MQ below (mQi D cI cZ cJ o ad A res) args s 0 0 A) (F0 m 3 ls [])) (h : fX10_liesOn_37 x0 x1 x2 x3 x4 u k3 = some res) {H : Heap} {locs : List Loc} (hP : va_P D vwCl (mW cI cZ cJ o ad u) H) (hS : va_S A s.heap H locs) {ls : Array Slot} (hl : lv_has ls 6 [(0, .int x0), (1, .int x1), (2, .int x2), (3, .int x3), (4, .int x4)]) : W p l e rmX10_liesOn s m args below meth c H locs 0 0 (MQ below (mQi D cI cZ cJ o ad A res) args s 0 0 A) (F0 m 37 ls []) := by
  have hx := C.1
  have hb := C.2.1
  unfold fX10_liesOn_37 at h
  refine lv_iinc (v := x4 + (1 : Int32)) (lv' := [(4, .int (x4 + (1 : Int32))), (0, .int x0), (1, .int x1), (2, .int x2), (3, .int x3)]) hx hb dX10_liesOn_37 hl (k := 4) rfl rfl (by decide) rfl (fun ls hl => ?_)
  refine lv_goto (tgt := 3) hx hb dX10_liesOn_40 (by decide) ?_
  exact hk3 _ _ _ _ _ _ _ _ _ h hP hS (lv_sub hl [1, 2, 3, 4, 0] rfl)
def fX10_liesOn_3_b (x0 : Int32) (x1 : Int32) (x2 : Int32) (x3 : Int32) (x4 : Int32) (u : mS) (k3 : Int32 → Int32 → Int32 → Int32 → Int32 → mS → Option (Int32 × mS)) : Option (Int32 × mS) :=
  if x2 ≤ x4 then (
    some ((1 : Int32), u)
  ) else (
    bI (fX10_digit x1 x4 u) fun r12 u12 =>
    if r12 ≤ 0 then (
      fX10_liesOn_37 x0 x1 x2 x3 x4 u12 k3
    ) else (
      bI (fX10_digit x0 (x4 + x3) u12) fun r29 u29 =>
      if r12 = r29 then (
        fX10_liesOn_37 x0 x1 x2 x3 x4 u29 k3
      ) else (
        some ((0 : Int32), u29)
      )
    )
  )
set_option maxHeartbeats 4000000 in
set_option maxRecDepth 20000 in
theorem wX10_liesOn_3_b (C : mC p s m args meth c cX10_liesOn 6 (some .boolean) D cI cZ cJ o ad A) {x0 : Int32} {x1 : Int32} {x2 : Int32} {x3 : Int32} {x4 : Int32} {u : mS} {res : Int32 × mS} {k3 : Int32 → Int32 → Int32 → Int32 → Int32 → mS → Option (Int32 × mS)} (hk3 : ∀ (x0 : Int32) (x1 : Int32) (x2 : Int32) (x3 : Int32) (x4 : Int32) (u : mS) (H : Heap) (locs : List Loc) (ls : Array Slot), k3 x0 x1 x2 x3 x4 u = some res → va_P D vwCl (mW cI cZ cJ o ad u) H → va_S A s.heap H locs → lv_has ls 6 [(0, .int x0), (1, .int x1), (2, .int x2), (3, .int x3), (4, .int x4)] → W p l e rmX10_liesOn s m args below meth c H locs 0 0 (MQ below (mQi D cI cZ cJ o ad A res) args s 0 0 A) (F0 m 3 ls [])) (h : fX10_liesOn_3_b x0 x1 x2 x3 x4 u k3 = some res) {H : Heap} {locs : List Loc} (hP : va_P D vwCl (mW cI cZ cJ o ad u) H) (hS : va_S A s.heap H locs) {ls : Array Slot} (hl : lv_has ls 6 [(0, .int x0), (1, .int x1), (2, .int x2), (3, .int x3), (4, .int x4)]) : W p l e rmX10_liesOn s m args below meth c H locs 0 0 (MQ below (mQi D cI cZ cJ o ad A res) args s 0 0 A) (F0 m 3 ls []) := by
  have hx := C.1
  have hb := C.2.1
  unfold fX10_liesOn_3_b at h
  refine lv_iload hx hb dX10_liesOn_3 (lv_at hl 4 rfl) ?_
  refine lv_iload_n hx hb dX10_liesOn_5 rfl (lv_at hl 2 rfl) ?_
  refine lv_icmp_ge (tgt := 43) hx hb dX10_liesOn_6 (by decide) (fun hc => ?_) (fun hc => ?_)
  · replace h := it_pos hc h
    refine lv_iconst (v := 1) hx hb dX10_liesOn_43 (by decide) ?_
    exact mx_retz C (by decide) h hP hS dX10_liesOn_44
  · replace h := it_neg hc h
    refine lv_iload_n hx hb dX10_liesOn_9 rfl (lv_at hl 1 rfl) ?_
    refine lv_iload hx hb dX10_liesOn_10 (lv_at hl 4 rfl) ?_
    obtain ⟨r12, u12, e12, h⟩ := obI h
    refine mx_cSi C hP hS [.int x1, .int x4] (tX10_digit e12) qX10_178 ⟨rfl, rfl, Nat.le_of_ble_eq_true rfl, Nat.le_of_ble_eq_true rfl⟩ rfl hl.1 rfl (Nat.le_of_ble_eq_true rfl) dX10_liesOn_12 (fun H locs hP hS => ?_)
    refine lv_istore (lv' := [(5, .int r12), (0, .int x0), (1, .int x1), (2, .int x2), (3, .int x3), (4, .int x4)]) hx hb dX10_liesOn_15 hl (by decide) rfl (fun ls hl => ?_)
    refine lv_iload hx hb dX10_liesOn_17 (lv_at hl 0 rfl) ?_
    refine lv_if_le (tgt := 37) hx hb dX10_liesOn_19 (by decide) (fun hc => ?_) (fun hc => ?_)
    · replace h := it_pos hc h
      exact wX10_liesOn_37 C hk3 h hP hS (lv_sub hl [1, 2, 3, 4, 5] rfl)
    · replace h := it_neg hc h
      refine lv_iload hx hb dX10_liesOn_22 (lv_at hl 0 rfl) ?_
      refine lv_iload_n hx hb dX10_liesOn_24 rfl (lv_at hl 1 rfl) ?_
      refine lv_iload hx hb dX10_liesOn_25 (lv_at hl 5 rfl) ?_
      refine lv_iload_n hx hb dX10_liesOn_27 rfl (lv_at hl 4 rfl) ?_
      refine lv_iadd hx hb dX10_liesOn_28 ?_
      obtain ⟨r29, u29, e29, h⟩ := obI h
      refine mx_cSi C hP hS [.int x0, .int (x4 + x3)] (tX10_digit e29) qX10_178 ⟨rfl, rfl, Nat.le_of_ble_eq_true rfl, Nat.le_of_ble_eq_true rfl⟩ rfl hl.1 rfl (Nat.le_of_ble_eq_true rfl) dX10_liesOn_29 (fun H locs hP hS => ?_)
      refine lv_icmp_eq (tgt := 37) hx hb dX10_liesOn_32 (by decide) (fun hc => ?_) (fun hc => ?_)
      · replace h := it_pos hc h
        exact wX10_liesOn_37 C hk3 h hP hS (lv_sub hl [1, 2, 3, 4, 5] rfl)
      · replace h := it_neg hc h
        refine lv_iconst (v := 0) hx hb dX10_liesOn_35 (by decide) ?_
        exact mx_retz C (by decide) h hP hS dX10_liesOn_36
def fX10_liesOn_3 : Nat → Int32 → Int32 → Int32 → Int32 → Int32 → mS → Option (Int32 × mS)
  | 0 => fun _ _ _ _ _ _ => none
  | n + 1 => fun x0 x1 x2 x3 x4 u => fX10_liesOn_3_b x0 x1 x2 x3 x4 u (fX10_liesOn_3 n) 
theorem wX10_liesOn_3 (C : mC p s m args meth c cX10_liesOn 6 (some .boolean) D cI cZ cJ o ad A) {res : Int32 × mS} (n : Nat) : ∀ {x0 : Int32} {x1 : Int32} {x2 : Int32} {x3 : Int32} {x4 : Int32} {u : mS} {H : Heap} {locs : List Loc} {ls : Array Slot}, fX10_liesOn_3 n x0 x1 x2 x3 x4 u = some res → va_P D vwCl (mW cI cZ cJ o ad u) H → va_S A s.heap H locs → lv_has ls 6 [(0, .int x0), (1, .int x1), (2, .int x2), (3, .int x3), (4, .int x4)] → W p l e rmX10_liesOn s m args below meth c H locs 0 0 (MQ below (mQi D cI cZ cJ o ad A res) args s 0 0 A) (F0 m 3 ls []) := by
  induction n with
  | zero => intro _ _ _ _ _ _ _ _ _ h _ _ _; cases (show (none : Option (Int32 × mS)) = some res from h)
  | succ n ih => intro _ _ _ _ _ _ _ _ _ h hP hS hl; exact wX10_liesOn_3_b C (fun _ _ _ _ _ _ _ _ _ h hP hS hl => ih h hP hS hl) h hP hS hl
def fX10_liesOn (x0 : Int32) (x1 : Int32) (x2 : Int32) (x3 : Int32) (u : mS) : Option (Int32 × mS) :=
  fX10_liesOn_3  FU x0 x1 x2 x3 (0 : Int32) u
set_option maxHeartbeats 4000000 in
set_option maxRecDepth 20000 in
theorem wX10_liesOn (C : mC p s m args meth c cX10_liesOn 6 (some .boolean) D cI cZ cJ o ad A) {x0 : Int32} {x1 : Int32} {x2 : Int32} {x3 : Int32} {u : mS} {res : Int32 × mS} (h : fX10_liesOn x0 x1 x2 x3 u = some res) {H : Heap} {locs : List Loc} (hP : va_P D vwCl (mW cI cZ cJ o ad u) H) (hS : va_S A s.heap H locs) {ls : Array Slot} (hl : lv_has ls 6 [(0, .int x0), (1, .int x1), (2, .int x2), (3, .int x3)]) : W p l e rmX10_liesOn s m args below meth c H locs 0 0 (MQ below (mQi D cI cZ cJ o ad A res) args s 0 0 A) (F0 m 0 ls []) := by
  have hx := C.1
  have hb := C.2.1
  unfold fX10_liesOn at h
  refine lv_iconst (v := 0) hx hb dX10_liesOn_0 (by decide) ?_
  refine lv_istore (lv' := [(4, .int (0 : Int32)), (0, .int x0), (1, .int x1), (2, .int x2), (3, .int x3)]) hx hb dX10_liesOn_1 hl (by decide) rfl (fun ls hl => ?_)
  exact wX10_liesOn_3 C  FU h hP hS (lv_sub hl [1, 2, 3, 4, 0] rfl)
theorem tX10_liesOn {D : va_G} {cI cZ cJ : ClassId} {o : Nat} {ad : Nat → Nat} {A : Nat → Prop} {x0 : Int32} {x1 : Int32} {x2 : Int32} {x3 : Int32} {u : mS} {res : Int32 × mS} (h : fX10_liesOn x0 x1 x2 x3 u = some res) : Met l yX10_liesOn (Cond.code yX10_liesOn cX10_liesOn 6 (some .boolean) :: gW) rmX10_liesOn (va_Pc [.int x0, .int x1, .int x2, .int x3] (mPre D cI cZ cJ o ad A u)) (mQi D cI cZ cJ o ad A res) 0 0 A :=
  mx_met ⟨by decide +kernel, rfl⟩ (Nat.le_of_ble_eq_true rfl) (fun p e s m below meth c ls C hP hl => wX10_liesOn C h hP va_S.rf hl)
abbrev rmX10_isFit : Room := { frames := 2, cells := 0, slots := 0, locals := 48 }
def fX10_isFit_99 (x1 : Int32) (x2 : Int32) (x3 : Int32) (x4 : Int32) (x5 : Int32) (x7 : Int32) (s0 : Int32) (s1 : Int32) (u : mS) (k26 : Int32 → Int32 → Int32 → Int32 → Int32 → Int32 → Int32 → mS → Option (Int32 × mS)) : Option (Int32 × mS) :=
  k26 x1 x2 x3 x4 x5 (s0 ||| s1) (x7 + (1 : Int32)) u
set_option maxHeartbeats 4000000 in
set_option maxRecDepth 20000 in
theorem wX10_isFit_99 (C : mC p s m args meth c cX10_isFit 9 (some .boolean) D cI cZ cJ o ad A) {x1 : Int32} {x2 : Int32} {x3 : Int32} {x4 : Int32} {x5 : Int32} {x7 : Int32} {s0 : Int32} {s1 : Int32} {u : mS} {res : Int32 × mS} {k26 : Int32 → Int32 → Int32 → Int32 → Int32 → Int32 → Int32 → mS → Option (Int32 × mS)} (hk26 : ∀ (x1 : Int32) (x2 : Int32) (x3 : Int32) (x4 : Int32) (x5 : Int32) (x6 : Int32) (x7 : Int32) (u : mS) (H : Heap) (locs : List Loc) (ls : Array Slot), k26 x1 x2 x3 x4 x5 x6 x7 u = some res → va_P D vwCl (mW cI cZ cJ o ad u) H → va_S A s.heap H locs → lv_has ls 9 [(0, .ref o), (1, .int x1), (2, .int x2), (3, .int x3), (4, .int x4), (5, .int x5), (6, .int x6), (7, .int x7)] → W p l e rmX10_isFit s m args below meth c H locs 0 0 (MQ below (mQi D cI cZ cJ o ad A res) args s 0 0 A) (F0 m 26 ls [])) (h : fX10_isFit_99 x1 x2 x3 x4 x5 x7 s0 s1 u k26 = some res) {H : Heap} {locs : List Loc} (hP : va_P D vwCl (mW cI cZ cJ o ad u) H) (hS : va_S A s.heap H locs) {ls : Array Slot} (hl : lv_has ls 9 [(0, .ref o), (1, .int x1), (2, .int x2), (3, .int x3), (4, .int x4), (5, .int x5), (7, .int x7)]) : W p l e rmX10_isFit s m args below meth c H locs 0 0 (MQ below (mQi D cI cZ cJ o ad A res) args s 0 0 A) (F0 m 99 ls [.int s1, .int s0]) := by
  have hx := C.1
  have hb := C.2.1
  unfold fX10_isFit_99 at h
  refine lv_ior hx hb dX10_isFit_99 ?_
  refine lv_istore (lv' := [(6, .int (s0 ||| s1)), (0, .ref o), (1, .int x1), (2, .int x2), (3, .int x3), (4, .int x4), (5, .int x5), (7, .int x7)]) hx hb dX10_isFit_100 hl (by decide) rfl (fun ls hl => ?_)
  refine lv_iinc (v := x7 + (1 : Int32)) (lv' := [(7, .int (x7 + (1 : Int32))), (6, .int (s0 ||| s1)), (0, .ref o), (1, .int x1), (2, .int x2), (3, .int x3), (4, .int x4), (5, .int x5)]) hx hb dX10_isFit_102 hl (k := 7) rfl rfl (by decide) rfl (fun ls hl => ?_)
  refine lv_goto (tgt := 26) hx hb dX10_isFit_105 (by decide) ?_
  exact hk26 _ _ _ _ _ _ _ _ _ _ _ h hP hS (lv_sub hl [2, 3, 4, 5, 6, 7, 1, 0] rfl)
def fX10_isFit_98 (x1 : Int32) (x2 : Int32) (x3 : Int32) (x4 : Int32) (x5 : Int32) (x7 : Int32) (s0 : Int32) (u : mS) (k26 : Int32 → Int32 → Int32 → Int32 → Int32 → Int32 → Int32 → mS → Option (Int32 × mS)) : Option (Int32 × mS) :=
  fX10_isFit_99 x1 x2 x3 x4 x5 x7 s0 (0 : Int32) u k26
set_option maxHeartbeats 4000000 in
set_option maxRecDepth 20000 in
theorem wX10_isFit_98 (C : mC p s m args meth c cX10_isFit 9 (some .boolean) D cI cZ cJ o ad A) {x1 : Int32} {x2 : Int32} {x3 : Int32} {x4 : Int32} {x5 : Int32} {x7 : Int32} {s0 : Int32} {u : mS} {res : Int32 × mS} {k26 : Int32 → Int32 → Int32 → Int32 → Int32 → Int32 → Int32 → mS → Option (Int32 × mS)} (hk26 : ∀ (x1 : Int32) (x2 : Int32) (x3 : Int32) (x4 : Int32) (x5 : Int32) (x6 : Int32) (x7 : Int32) (u : mS) (H : Heap) (locs : List Loc) (ls : Array Slot), k26 x1 x2 x3 x4 x5 x6 x7 u = some res → va_P D vwCl (mW cI cZ cJ o ad u) H → va_S A s.heap H locs → lv_has ls 9 [(0, .ref o), (1, .int x1), (2, .int x2), (3, .int x3), (4, .int x4), (5, .int x5), (6, .int x6), (7, .int x7)] → W p l e rmX10_isFit s m args below meth c H locs 0 0 (MQ below (mQi D cI cZ cJ o ad A res) args s 0 0 A) (F0 m 26 ls [])) (h : fX10_isFit_98 x1 x2 x3 x4 x5 x7 s0 u k26 = some res) {H : Heap} {locs : List Loc} (hP : va_P D vwCl (mW cI cZ cJ o ad u) H) (hS : va_S A s.heap H locs) {ls : Array Slot} (hl : lv_has ls 9 [(0, .ref o), (1, .int x1), (2, .int x2), (3, .int x3), (4, .int x4), (5, .int x5), (7, .int x7)]) : W p l e rmX10_isFit s m args below meth c H locs 0 0 (MQ below (mQi D cI cZ cJ o ad A res) args s 0 0 A) (F0 m 98 ls [.int s0]) := by
  have hx := C.1
  have hb := C.2.1
  unfold fX10_isFit_98 at h
  refine lv_iconst (v := 0) hx hb dX10_isFit_98 (by decide) ?_
  exact wX10_isFit_99 C hk26 h hP hS (lv_sub hl [0, 1, 2, 3, 4, 5, 6] rfl)
def fX10_isFit_68 (x1 : Int32) (x2 : Int32) (x3 : Int32) (x4 : Int32) (x5 : Int32) (x6 : Int32) (x7 : Int32) (s0 : Int32) (u : mS) (k26 : Int32 → Int32 → Int32 → Int32 → Int32 → Int32 → Int32 → mS → Option (Int32 × mS)) : Option (Int32 × mS) :=
  if s0 = 0 then (
    fX10_isFit_98 x1 x2 x3 x4 x5 x7 x6 u k26
  ) else (
    (mR u 26 16 x1).bind fun v82 =>
    bI (fX10_liesOn v82 x2 x4 x7 u) fun r88 u88 =>
    if r88 = 0 then (
      fX10_isFit_98 x1 x2 x3 x4 x5 x7 x6 u88 k26
    ) else (
      fX10_isFit_99 x1 x2 x3 x4 x5 x7 x6 (1 : Int32) u88 k26
    )
  )
set_option maxHeartbeats 4000000 in
set_option maxRecDepth 20000 in
theorem wX10_isFit_68 (C : mC p s m args meth c cX10_isFit 9 (some .boolean) D cI cZ cJ o ad A) {x1 : Int32} {x2 : Int32} {x3 : Int32} {x4 : Int32} {x5 : Int32} {x6 : Int32} {x7 : Int32} {s0 : Int32} {u : mS} {res : Int32 × mS} {k26 : Int32 → Int32 → Int32 → Int32 → Int32 → Int32 → Int32 → mS → Option (Int32 × mS)} (hk26 : ∀ (x1 : Int32) (x2 : Int32) (x3 : Int32) (x4 : Int32) (x5 : Int32) (x6 : Int32) (x7 : Int32) (u : mS) (H : Heap) (locs : List Loc) (ls : Array Slot), k26 x1 x2 x3 x4 x5 x6 x7 u = some res → va_P D vwCl (mW cI cZ cJ o ad u) H → va_S A s.heap H locs → lv_has ls 9 [(0, .ref o), (1, .int x1), (2, .int x2), (3, .int x3), (4, .int x4), (5, .int x5), (6, .int x6), (7, .int x7)] → W p l e rmX10_isFit s m args below meth c H locs 0 0 (MQ below (mQi D cI cZ cJ o ad A res) args s 0 0 A) (F0 m 26 ls [])) (h : fX10_isFit_68 x1 x2 x3 x4 x5 x6 x7 s0 u k26 = some res) {H : Heap} {locs : List Loc} (hP : va_P D vwCl (mW cI cZ cJ o ad u) H) (hS : va_S A s.heap H locs) {ls : Array Slot} (hl : lv_has ls 9 [(0, .ref o), (1, .int x1), (2, .int x2), (3, .int x3), (4, .int x4), (5, .int x5), (6, .int x6), (7, .int x7)]) : W p l e rmX10_isFit s m args below meth c H locs 0 0 (MQ below (mQi D cI cZ cJ o ad A res) args s 0 0 A) (F0 m 68 ls [.int s0]) := by
  have hx := C.1
  have hb := C.2.1
  unfold fX10_isFit_68 at h
  refine lv_istore (lv' := [(8, .int s0), (0, .ref o), (1, .int x1), (2, .int x2), (3, .int x3), (4, .int x4), (5, .int x5), (6, .int x6), (7, .int x7)]) hx hb dX10_isFit_68 hl (by decide) rfl (fun ls hl => ?_)
  refine lv_iload hx hb dX10_isFit_70 (lv_at hl 7 rfl) ?_
  refine lv_iload hx hb dX10_isFit_72 (lv_at hl 0 rfl) ?_
  refine lv_if_eq (tgt := 98) hx hb dX10_isFit_74 (by decide) (fun hc => ?_) (fun hc => ?_)
  · replace h := it_pos hc h
    exact wX10_isFit_98 C hk26 h hP hS (lv_sub hl [1, 2, 3, 4, 5, 6, 8] rfl)
  · replace h := it_neg hc h
    refine lv_aload_n hx hb dX10_isFit_77 rfl (lv_at hl 1 rfl) ?_
    refine mg_letters C hP dX10_isFit_78 ?_
    refine lv_iload_n hx hb dX10_isFit_81 rfl (lv_at hl 2 rfl) ?_
    obtain ⟨v82, e82, h⟩ := ob h
    refine ml_letters C hP e82 dX10_isFit_82 ?_
    refine lv_iload_n hx hb dX10_isFit_83 rfl (lv_at hl 3 rfl) ?_
    refine lv_iload hx hb dX10_isFit_84 (lv_at hl 5 rfl) ?_
    refine lv_iload hx hb dX10_isFit_86 (lv_at hl 8 rfl) ?_
    obtain ⟨r88, u88, e88, h⟩ := obI h
    refine mx_cSi C hP hS [.int v82, .int x2, .int x4, .int x7] (tX10_liesOn e88) qX10_187 ⟨rfl, rfl, Nat.le_of_ble_eq_true rfl, Nat.le_of_ble_eq_true rfl⟩ rfl hl.1 rfl (Nat.le_of_ble_eq_true rfl) dX10_isFit_88 (fun H locs hP hS => ?_)
    refine lv_if_eq (tgt := 98) hx hb dX10_isFit_91 (by decide) (fun hc => ?_) (fun hc => ?_)
    · replace h := it_pos hc h
      exact wX10_isFit_98 C hk26 h hP hS (lv_sub hl [1, 2, 3, 4, 5, 6, 8] rfl)
    · replace h := it_neg hc h
      refine lv_iconst (v := 1) hx hb dX10_isFit_94 (by decide) ?_
      refine lv_goto (tgt := 99) hx hb dX10_isFit_95 (by decide) ?_
      exact wX10_isFit_99 C hk26 h hP hS (lv_sub hl [1, 2, 3, 4, 5, 6, 8] rfl)
def fX10_isFit_63 (x1 : Int32) (x2 : Int32) (x3 : Int32) (x4 : Int32) (x5 : Int32) (x6 : Int32) (x7 : Int32) (u : mS) (k26 : Int32 → Int32 → Int32 → Int32 → Int32 → Int32 → Int32 → mS → Option (Int32 × mS)) : Option (Int32 × mS) :=
  fX10_isFit_68 x1 x2 x3 x4 x5 x6 x7 (1 : Int32) u k26
set_option maxHeartbeats 4000000 in
set_option maxRecDepth 20000 in
theorem wX10_isFit_63 (C : mC p s m args meth c cX10_isFit 9 (some .boolean) D cI cZ cJ o ad A) {x1 : Int32} {x2 : Int32} {x3 : Int32} {x4 : Int32} {x5 : Int32} {x6 : Int32} {x7 : Int32} {u : mS} {res : Int32 × mS} {k26 : Int32 → Int32 → Int32 → Int32 → Int32 → Int32 → Int32 → mS → Option (Int32 × mS)} (hk26 : ∀ (x1 : Int32) (x2 : Int32) (x3 : Int32) (x4 : Int32) (x5 : Int32) (x6 : Int32) (x7 : Int32) (u : mS) (H : Heap) (locs : List Loc) (ls : Array Slot), k26 x1 x2 x3 x4 x5 x6 x7 u = some res → va_P D vwCl (mW cI cZ cJ o ad u) H → va_S A s.heap H locs → lv_has ls 9 [(0, .ref o), (1, .int x1), (2, .int x2), (3, .int x3), (4, .int x4), (5, .int x5), (6, .int x6), (7, .int x7)] → W p l e rmX10_isFit s m args below meth c H locs 0 0 (MQ below (mQi D cI cZ cJ o ad A res) args s 0 0 A) (F0 m 26 ls [])) (h : fX10_isFit_63 x1 x2 x3 x4 x5 x6 x7 u k26 = some res) {H : Heap} {locs : List Loc} (hP : va_P D vwCl (mW cI cZ cJ o ad u) H) (hS : va_S A s.heap H locs) {ls : Array Slot} (hl : lv_has ls 9 [(0, .ref o), (1, .int x1), (2, .int x2), (3, .int x3), (4, .int x4), (5, .int x5), (6, .int x6), (7, .int x7)]) : W p l e rmX10_isFit s m args below meth c H locs 0 0 (MQ below (mQi D cI cZ cJ o ad A res) args s 0 0 A) (F0 m 63 ls []) := by
  have hx := C.1
  have hb := C.2.1
  unfold fX10_isFit_63 at h
  refine lv_iconst (v := 1) hx hb dX10_isFit_63 (by decide) ?_
  refine lv_goto (tgt := 68) hx hb dX10_isFit_64 (by decide) ?_
  exact wX10_isFit_68 C hk26 h hP hS (lv_sub hl [0, 1, 2, 3, 4, 5, 6, 7] rfl)
def fX10_isFit_67 (x1 : Int32) (x2 : Int32) (x3 : Int32) (x4 : Int32) (x5 : Int32) (x6 : Int32) (x7 : Int32) (u : mS) (k26 : Int32 → Int32 → Int32 → Int32 → Int32 → Int32 → Int32 → mS → Option (Int32 × mS)) : Option (Int32 × mS) :=
  fX10_isFit_68 x1 x2 x3 x4 x5 x6 x7 (0 : Int32) u k26
set_option maxHeartbeats 4000000 in
set_option maxRecDepth 20000 in
theorem wX10_isFit_67 (C : mC p s m args meth c cX10_isFit 9 (some .boolean) D cI cZ cJ o ad A) {x1 : Int32} {x2 : Int32} {x3 : Int32} {x4 : Int32} {x5 : Int32} {x6 : Int32} {x7 : Int32} {u : mS} {res : Int32 × mS} {k26 : Int32 → Int32 → Int32 → Int32 → Int32 → Int32 → Int32 → mS → Option (Int32 × mS)} (hk26 : ∀ (x1 : Int32) (x2 : Int32) (x3 : Int32) (x4 : Int32) (x5 : Int32) (x6 : Int32) (x7 : Int32) (u : mS) (H : Heap) (locs : List Loc) (ls : Array Slot), k26 x1 x2 x3 x4 x5 x6 x7 u = some res → va_P D vwCl (mW cI cZ cJ o ad u) H → va_S A s.heap H locs → lv_has ls 9 [(0, .ref o), (1, .int x1), (2, .int x2), (3, .int x3), (4, .int x4), (5, .int x5), (6, .int x6), (7, .int x7)] → W p l e rmX10_isFit s m args below meth c H locs 0 0 (MQ below (mQi D cI cZ cJ o ad A res) args s 0 0 A) (F0 m 26 ls [])) (h : fX10_isFit_67 x1 x2 x3 x4 x5 x6 x7 u k26 = some res) {H : Heap} {locs : List Loc} (hP : va_P D vwCl (mW cI cZ cJ o ad u) H) (hS : va_S A s.heap H locs) {ls : Array Slot} (hl : lv_has ls 9 [(0, .ref o), (1, .int x1), (2, .int x2), (3, .int x3), (4, .int x4), (5, .int x5), (6, .int x6), (7, .int x7)]) : W p l e rmX10_isFit s m args below meth c H locs 0 0 (MQ below (mQi D cI cZ cJ o ad A res) args s 0 0 A) (F0 m 67 ls []) := by
  have hx := C.1
  have hb := C.2.1
  unfold fX10_isFit_67 at h
  refine lv_iconst (v := 0) hx hb dX10_isFit_67 (by decide) ?_
  exact wX10_isFit_68 C hk26 h hP hS (lv_sub hl [0, 1, 2, 3, 4, 5, 6, 7] rfl)
def fX10_isFit_48 (x1 : Int32) (x2 : Int32) (x3 : Int32) (x4 : Int32) (x5 : Int32) (x6 : Int32) (x7 : Int32) (u : mS) (k26 : Int32 → Int32 → Int32 → Int32 → Int32 → Int32 → Int32 → mS → Option (Int32 × mS)) : Option (Int32 × mS) :=
  if x7 = x5 then (
    fX10_isFit_63 x1 x2 x3 x4 x5 x6 x7 u k26
  ) else (
    if (x3 - x3 / (10 : Int32) * (10 : Int32)) ≤ (1 : Int32) then (
      fX10_isFit_67 x1 x2 x3 x4 x5 x6 x7 u k26
    ) else (
      fX10_isFit_63 x1 x2 x3 x4 x5 x6 x7 u k26
    )
  )
set_option maxHeartbeats 4000000 in
set_option maxRecDepth 20000 in
theorem wX10_isFit_48 (C : mC p s m args meth c cX10_isFit 9 (some .boolean) D cI cZ cJ o ad A) {x1 : Int32} {x2 : Int32} {x3 : Int32} {x4 : Int32} {x5 : Int32} {x6 : Int32} {x7 : Int32} {u : mS} {res : Int32 × mS} {k26 : Int32 → Int32 → Int32 → Int32 → Int32 → Int32 → Int32 → mS → Option (Int32 × mS)} (hk26 : ∀ (x1 : Int32) (x2 : Int32) (x3 : Int32) (x4 : Int32) (x5 : Int32) (x6 : Int32) (x7 : Int32) (u : mS) (H : Heap) (locs : List Loc) (ls : Array Slot), k26 x1 x2 x3 x4 x5 x6 x7 u = some res → va_P D vwCl (mW cI cZ cJ o ad u) H → va_S A s.heap H locs → lv_has ls 9 [(0, .ref o), (1, .int x1), (2, .int x2), (3, .int x3), (4, .int x4), (5, .int x5), (6, .int x6), (7, .int x7)] → W p l e rmX10_isFit s m args below meth c H locs 0 0 (MQ below (mQi D cI cZ cJ o ad A res) args s 0 0 A) (F0 m 26 ls [])) (h : fX10_isFit_48 x1 x2 x3 x4 x5 x6 x7 u k26 = some res) {H : Heap} {locs : List Loc} (hP : va_P D vwCl (mW cI cZ cJ o ad u) H) (hS : va_S A s.heap H locs) {ls : Array Slot} (hl : lv_has ls 9 [(0, .ref o), (1, .int x1), (2, .int x2), (3, .int x3), (4, .int x4), (5, .int x5), (6, .int x6), (7, .int x7)]) : W p l e rmX10_isFit s m args below meth c H locs 0 0 (MQ below (mQi D cI cZ cJ o ad A res) args s 0 0 A) (F0 m 48 ls []) := by
  have hx := C.1
  have hb := C.2.1
  unfold fX10_isFit_48 at h
  refine lv_iload hx hb dX10_isFit_48 (lv_at hl 7 rfl) ?_
  refine lv_iload hx hb dX10_isFit_50 (lv_at hl 5 rfl) ?_
  refine lv_icmp_eq (tgt := 63) hx hb dX10_isFit_52 (by decide) (fun hc => ?_) (fun hc => ?_)
  · replace h := it_pos hc h
    exact wX10_isFit_63 C hk26 h hP hS (lv_sub hl [0, 1, 2, 3, 4, 5, 6, 7] rfl)
  · replace h := it_neg hc h
    refine lv_iload_n hx hb dX10_isFit_55 rfl (lv_at hl 3 rfl) ?_
    refine lv_bipush (v := 10) hx hb dX10_isFit_56 (by decide) ?_
    refine lv_irem hx hb dX10_isFit_58 (by decide) ?_
    refine lv_iconst (v := 1) hx hb dX10_isFit_59 (by decide) ?_
    refine lv_icmp_le (tgt := 67) hx hb dX10_isFit_60 (by decide) (fun hc => ?_) (fun hc => ?_)
    · replace h := it_pos hc h
      exact wX10_isFit_67 C hk26 h hP hS (lv_sub hl [0, 1, 2, 3, 4, 5, 6, 7] rfl)
    · replace h := it_neg hc h
      exact wX10_isFit_63 C hk26 h hP hS (lv_sub hl [0, 1, 2, 3, 4, 5, 6, 7] rfl)
def fX10_isFit_26_b (x1 : Int32) (x2 : Int32) (x3 : Int32) (x4 : Int32) (x5 : Int32) (x6 : Int32) (x7 : Int32) (u : mS) (k26 : Int32 → Int32 → Int32 → Int32 → Int32 → Int32 → Int32 → mS → Option (Int32 × mS)) : Option (Int32 × mS) :=
  if x5 < x7 then (
    if (x6 = 0 ∨ x6 = 1) then some (x6, u) else none
  ) else (
    if x7 = 0 then (
      fX10_isFit_48 x1 x2 x3 x4 x5 x6 x7 u k26
    ) else (
      if ((x3 - x3 / (10 : Int32) * (10 : Int32)) - (x3 - x3 / (10 : Int32) * (10 : Int32)) / (2 : Int32) * (2 : Int32)) = (1 : Int32) then (
        fX10_isFit_48 x1 x2 x3 x4 x5 x6 x7 u k26
      ) else (
        fX10_isFit_67 x1 x2 x3 x4 x5 x6 x7 u k26
      )
    )
  )
set_option maxHeartbeats 4000000 in
set_option maxRecDepth 20000 in
theorem wX10_isFit_26_b (C : mC p s m args meth c cX10_isFit 9 (some .boolean) D cI cZ cJ o ad A) {x1 : Int32} {x2 : Int32} {x3 : Int32} {x4 : Int32} {x5 : Int32} {x6 : Int32} {x7 : Int32} {u : mS} {res : Int32 × mS} {k26 : Int32 → Int32 → Int32 → Int32 → Int32 → Int32 → Int32 → mS → Option (Int32 × mS)} (hk26 : ∀ (x1 : Int32) (x2 : Int32) (x3 : Int32) (x4 : Int32) (x5 : Int32) (x6 : Int32) (x7 : Int32) (u : mS) (H : Heap) (locs : List Loc) (ls : Array Slot), k26 x1 x2 x3 x4 x5 x6 x7 u = some res → va_P D vwCl (mW cI cZ cJ o ad u) H → va_S A s.heap H locs → lv_has ls 9 [(0, .ref o), (1, .int x1), (2, .int x2), (3, .int x3), (4, .int x4), (5, .int x5), (6, .int x6), (7, .int x7)] → W p l e rmX10_isFit s m args below meth c H locs 0 0 (MQ below (mQi D cI cZ cJ o ad A res) args s 0 0 A) (F0 m 26 ls [])) (h : fX10_isFit_26_b x1 x2 x3 x4 x5 x6 x7 u k26 = some res) {H : Heap} {locs : List Loc} (hP : va_P D vwCl (mW cI cZ cJ o ad u) H) (hS : va_S A s.heap H locs) {ls : Array Slot} (hl : lv_has ls 9 [(0, .ref o), (1, .int x1), (2, .int x2), (3, .int x3), (4, .int x4), (5, .int x5), (6, .int x6), (7, .int x7)]) : W p l e rmX10_isFit s m args below meth c H locs 0 0 (MQ below (mQi D cI cZ cJ o ad A res) args s 0 0 A) (F0 m 26 ls []) := by
  have hx := C.1
  have hb := C.2.1
  unfold fX10_isFit_26_b at h
  refine lv_iload hx hb dX10_isFit_26 (lv_at hl 7 rfl) ?_
  refine lv_iload hx hb dX10_isFit_28 (lv_at hl 5 rfl) ?_
  refine lv_icmp_gt (tgt := 108) hx hb dX10_isFit_30 (by decide) (fun hc => ?_) (fun hc => ?_)
  · replace h := it_pos hc h
    refine lv_iload hx hb dX10_isFit_108 (lv_at hl 6 rfl) ?_
    obtain ⟨hz, h⟩ := if_so h
    exact mx_retz C hz (congrArg some h) hP hS dX10_isFit_110
  · replace h := it_neg hc h
    refine lv_iload hx hb dX10_isFit_33 (lv_at hl 7 rfl) ?_
    refine lv_if_eq (tgt := 48) hx hb dX10_isFit_35 (by decide) (fun hc => ?_) (fun hc => ?_)
    · replace h := it_pos hc h
      exact wX10_isFit_48 C hk26 h hP hS (lv_sub hl [0, 1, 2, 3, 4, 5, 6, 7] rfl)
    · replace h := it_neg hc h
      refine lv_iload_n hx hb dX10_isFit_38 rfl (lv_at hl 3 rfl) ?_
      refine lv_bipush (v := 10) hx hb dX10_isFit_39 (by decide) ?_
      refine lv_irem hx hb dX10_isFit_41 (by decide) ?_
      refine lv_iconst (v := 2) hx hb dX10_isFit_42 (by decide) ?_
      refine lv_irem hx hb dX10_isFit_43 (by decide) ?_
      refine lv_iconst (v := 1) hx hb dX10_isFit_44 (by decide) ?_
      refine lv_icmp_ne (tgt := 67) hx hb dX10_isFit_45 (by decide) (fun hc => ?_) (fun hc => ?_)
      · replace h := it_neg hc h
        exact wX10_isFit_67 C hk26 h hP hS (lv_sub hl [0, 1, 2, 3, 4, 5, 6, 7] rfl)
      · replace h := it_pos hc h
        exact wX10_isFit_48 C hk26 h hP hS (lv_sub hl [0, 1, 2, 3, 4, 5, 6, 7] rfl)
def fX10_isFit_26 : Nat → Int32 → Int32 → Int32 → Int32 → Int32 → Int32 → Int32 → mS → Option (Int32 × mS)
  | 0 => fun _ _ _ _ _ _ _ _ => none
  | n + 1 => fun x1 x2 x3 x4 x5 x6 x7 u => fX10_isFit_26_b x1 x2 x3 x4 x5 x6 x7 u (fX10_isFit_26 n) 
theorem wX10_isFit_26 (C : mC p s m args meth c cX10_isFit 9 (some .boolean) D cI cZ cJ o ad A) {res : Int32 × mS} (n : Nat) : ∀ {x1 : Int32} {x2 : Int32} {x3 : Int32} {x4 : Int32} {x5 : Int32} {x6 : Int32} {x7 : Int32} {u : mS} {H : Heap} {locs : List Loc} {ls : Array Slot}, fX10_isFit_26 n x1 x2 x3 x4 x5 x6 x7 u = some res → va_P D vwCl (mW cI cZ cJ o ad u) H → va_S A s.heap H locs → lv_has ls 9 [(0, .ref o), (1, .int x1), (2, .int x2), (3, .int x3), (4, .int x4), (5, .int x5), (6, .int x6), (7, .int x7)] → W p l e rmX10_isFit s m args below meth c H locs 0 0 (MQ below (mQi D cI cZ cJ o ad A res) args s 0 0 A) (F0 m 26 ls []) := by
  induction n with
  | zero => intro _ _ _ _ _ _ _ _ _ _ _ h _ _ _; cases (show (none : Option (Int32 × mS)) = some res from h)
  | succ n ih => intro _ _ _ _ _ _ _ _ _ _ _ h hP hS hl; exact wX10_isFit_26_b C (fun _ _ _ _ _ _ _ _ _ _ _ h hP hS hl => ih h hP hS hl) h hP hS hl
def fX10_isFit (x1 : Int32) (x2 : Int32) (x3 : Int32) (u : mS) : Option (Int32 × mS) :=
  (mR u 26 16 x1).bind fun v11 =>
  bI (fX10_places v11 u) fun r12 u12 =>
  pU (r12 - (x3 / (10 : Int32))) fun z18 =>
  fX10_isFit_26  FU x1 x2 x3 (x3 / (10 : Int32)) z18 (0 : Int32) (0 : Int32) u12
set_option maxHeartbeats 4000000 in
set_option maxRecDepth 20000 in
theorem wX10_isFit (C : mC p s m args meth c cX10_isFit 9 (some .boolean) D cI cZ cJ o ad A) {x1 : Int32} {x2 : Int32} {x3 : Int32} {u : mS} {res : Int32 × mS} (h : fX10_isFit x1 x2 x3 u = some res) {H : Heap} {locs : List Loc} (hP : va_P D vwCl (mW cI cZ cJ o ad u) H) (hS : va_S A s.heap H locs) {ls : Array Slot} (hl : lv_has ls 9 [(0, .ref o), (1, .int x1), (2, .int x2), (3, .int x3)]) : W p l e rmX10_isFit s m args below meth c H locs 0 0 (MQ below (mQi D cI cZ cJ o ad A res) args s 0 0 A) (F0 m 0 ls []) := by
  have hx := C.1
  have hb := C.2.1
  unfold fX10_isFit at h
  refine lv_iload_n hx hb dX10_isFit_0 rfl (lv_at hl 3 rfl) ?_
  refine lv_bipush (v := 10) hx hb dX10_isFit_1 (by decide) ?_
  refine lv_idiv hx hb dX10_isFit_3 (by decide) ?_
  refine lv_istore (lv' := [(4, .int (x3 / (10 : Int32))), (0, .ref o), (1, .int x1), (2, .int x2), (3, .int x3)]) hx hb dX10_isFit_4 hl (by decide) rfl (fun ls hl => ?_)
  refine lv_aload_n hx hb dX10_isFit_6 rfl (lv_at hl 1 rfl) ?_
  refine mg_letters C hP dX10_isFit_7 ?_
  refine lv_iload_n hx hb dX10_isFit_10 rfl (lv_at hl 2 rfl) ?_
  obtain ⟨v11, e11, h⟩ := ob h
  refine ml_letters C hP e11 dX10_isFit_11 ?_
  obtain ⟨r12, u12, e12, h⟩ := obI h
  refine mx_cSi C hP hS [.int v11] (tX10_places e12) qX10_175 ⟨rfl, rfl, Nat.le_of_ble_eq_true rfl, Nat.le_of_ble_eq_true rfl⟩ rfl hl.1 rfl (Nat.le_of_ble_eq_true rfl) dX10_isFit_12 (fun H locs hP hS => ?_)
  refine lv_iload hx hb dX10_isFit_15 (lv_at hl 0 rfl) ?_
  refine lv_isub hx hb dX10_isFit_17 ?_
  obtain ⟨z18, ez18, h⟩ := op h
  refine mx_topI ez18 ?_
  refine lv_istore (lv' := [(5, .int z18), (4, .int (x3 / (10 : Int32))), (0, .ref o), (1, .int x1), (2, .int x2), (3, .int x3)]) hx hb dX10_isFit_18 hl (by decide) rfl (fun ls hl => ?_)
  refine lv_iconst (v := 0) hx hb dX10_isFit_20 (by decide) ?_
  refine lv_istore (lv' := [(6, .int (0 : Int32)), (5, .int z18), (4, .int (x3 / (10 : Int32))), (0, .ref o), (1, .int x1), (2, .int x2), (3, .int x3)]) hx hb dX10_isFit_21 hl (by decide) rfl (fun ls hl => ?_)
  refine lv_iconst (v := 0) hx hb dX10_isFit_23 (by decide) ?_
  refine lv_istore (lv' := [(7, .int (0 : Int32)), (6, .int (0 : Int32)), (5, .int z18), (4, .int (x3 / (10 : Int32))), (0, .ref o), (1, .int x1), (2, .int x2), (3, .int x3)]) hx hb dX10_isFit_24 hl (by decide) rfl (fun ls hl => ?_)
  exact wX10_isFit_26 C  FU h hP hS (lv_sub hl [4, 5, 6, 7, 3, 2, 1, 0] rfl)
theorem tX10_isFit {D : va_G} {cI cZ cJ : ClassId} {o : Nat} {ad : Nat → Nat} {A : Nat → Prop} {x1 : Int32} {x2 : Int32} {x3 : Int32} {u : mS} {res : Int32 × mS} (h : fX10_isFit x1 x2 x3 u = some res) : Met l yX10_isFit (Cond.code yX10_isFit cX10_isFit 9 (some .boolean) :: gW) rmX10_isFit (va_Pc [.ref o, .int x1, .int x2, .int x3] (mPre D cI cZ cJ o ad A u)) (mQi D cI cZ cJ o ad A res) 0 0 A :=
  mx_met ⟨by decide +kernel, rfl⟩ (Nat.le_of_ble_eq_true rfl) (fun p e s m below meth c ls C hP hl => wX10_isFit C h hP va_S.rf hl)
abbrev rmX10_fits : Room := { frames := 3, cells := 0, slots := 0, locals := 76 }
def fX10_fits (x1 : Int32) (x2 : Int32) (x3 : Int32) (u : mS) : Option (Int32 × mS) :=
  bI (fX10_isAddress x1 u) fun r2 u2 =>
  if r2 = 0 then (
    bI (fX10_finding (1 : Int32) u2) fun r18 u18 =>
    some (r18, u18)
  ) else (
    bI (fX10_isLabel x2 x3 u2) fun r10 u10 =>
    if r10 = 0 then (
      bI (fX10_finding (1 : Int32) u10) fun r18 u18 =>
      some (r18, u18)
    ) else (
      bI (fX10_isFit x1 x2 x3 u10) fun r26 u26 =>
      if r26 = 0 then (
        some ((0 : Int32), u26)
      ) else (
        some ((1 : Int32), u26)
      )
    )
  )
set_option maxHeartbeats 4000000 in
set_option maxRecDepth 20000 in
theorem wX10_fits (C : mC p s m args meth c cX10_fits 4 (some .int) D cI cZ cJ o ad A) {x1 : Int32} {x2 : Int32} {x3 : Int32} {u : mS} {res : Int32 × mS} (h : fX10_fits x1 x2 x3 u = some res) {H : Heap} {locs : List Loc} (hP : va_P D vwCl (mW cI cZ cJ o ad u) H) (hS : va_S A s.heap H locs) {ls : Array Slot} (hl : lv_has ls 4 [(0, .ref o), (1, .int x1), (2, .int x2), (3, .int x3)]) : W p l e rmX10_fits s m args below meth c H locs 0 0 (MQ below (mQi D cI cZ cJ o ad A res) args s 0 0 A) (F0 m 0 ls []) := by
  have hx := C.1
  have hb := C.2.1
  unfold fX10_fits at h
  refine lv_aload_n hx hb dX10_fits_0 rfl (lv_at hl 0 rfl) ?_
  refine lv_iload_n hx hb dX10_fits_1 rfl (lv_at hl 1 rfl) ?_
  obtain ⟨r2, u2, e2, h⟩ := obI h
  refine mx_cVi C hP hS [.int x1] (tX10_isAddress e2) qX10_184 ⟨rfl, rfl, Nat.le_of_ble_eq_true rfl, Nat.le_of_ble_eq_true rfl⟩ rfl hl.1 rfl (Nat.le_of_ble_eq_true rfl) dX10_fits_2 (fun H locs hP hS => ?_)
  refine lv_if_eq (tgt := 16) hx hb dX10_fits_5 (by decide) (fun hc => ?_) (fun hc => ?_)
  · replace h := it_pos hc h
    refine lv_aload_n hx hb dX10_fits_16 rfl (lv_at hl 0 rfl) ?_
    refine lv_iconst (v := 1) hx hb dX10_fits_17 (by decide) ?_
    obtain ⟨r18, u18, e18, h⟩ := obI h
    refine mx_cVi C hP hS [.int (1 : Int32)] (tX10_finding e18) qX10_138 ⟨rfl, rfl, Nat.le_of_ble_eq_true rfl, Nat.le_of_ble_eq_true rfl⟩ rfl hl.1 rfl (Nat.le_of_ble_eq_true rfl) dX10_fits_18 (fun H locs hP hS => ?_)
    exact mx_reti C h hP hS dX10_fits_21
  · replace h := it_neg hc h
    refine lv_iload_n hx hb dX10_fits_8 rfl (lv_at hl 2 rfl) ?_
    refine lv_iload_n hx hb dX10_fits_9 rfl (lv_at hl 3 rfl) ?_
    obtain ⟨r10, u10, e10, h⟩ := obI h
    refine mx_cSi C hP hS [.int x2, .int x3] (tX10_isLabel e10) qX10_191 ⟨rfl, rfl, Nat.le_of_ble_eq_true rfl, Nat.le_of_ble_eq_true rfl⟩ rfl hl.1 rfl (Nat.le_of_ble_eq_true rfl) dX10_fits_10 (fun H locs hP hS => ?_)
    refine lv_if_ne (tgt := 22) hx hb dX10_fits_13 (by decide) (fun hc => ?_) (fun hc => ?_)
    · replace h := it_neg hc h
      refine lv_aload_n hx hb dX10_fits_22 rfl (lv_at hl 0 rfl) ?_
      refine lv_iload_n hx hb dX10_fits_23 rfl (lv_at hl 1 rfl) ?_
      refine lv_iload_n hx hb dX10_fits_24 rfl (lv_at hl 2 rfl) ?_
      refine lv_iload_n hx hb dX10_fits_25 rfl (lv_at hl 3 rfl) ?_
      obtain ⟨r26, u26, e26, h⟩ := obI h
      refine mx_cVi C hP hS [.int x1, .int x2, .int x3] (tX10_isFit e26) qX10_195 ⟨rfl, rfl, Nat.le_of_ble_eq_true rfl, Nat.le_of_ble_eq_true rfl⟩ rfl hl.1 rfl (Nat.le_of_ble_eq_true rfl) dX10_fits_26 (fun H locs hP hS => ?_)
      refine lv_if_eq (tgt := 36) hx hb dX10_fits_29 (by decide) (fun hc => ?_) (fun hc => ?_)
      · replace h := it_pos hc h
        refine lv_iconst (v := 0) hx hb dX10_fits_36 (by decide) ?_
        exact mx_reti C h hP hS dX10_fits_37
      · replace h := it_neg hc h
        refine lv_iconst (v := 1) hx hb dX10_fits_32 (by decide) ?_
        refine lv_goto (tgt := 37) hx hb dX10_fits_33 (by decide) ?_
        exact mx_reti C h hP hS dX10_fits_37
    · replace h := it_pos hc h
      refine lv_aload_n hx hb dX10_fits_16 rfl (lv_at hl 0 rfl) ?_
      refine lv_iconst (v := 1) hx hb dX10_fits_17 (by decide) ?_
      obtain ⟨r18, u18, e18, h⟩ := obI h
      refine mx_cVi C hP hS [.int (1 : Int32)] (tX10_finding e18) qX10_138 ⟨rfl, rfl, Nat.le_of_ble_eq_true rfl, Nat.le_of_ble_eq_true rfl⟩ rfl hl.1 rfl (Nat.le_of_ble_eq_true rfl) dX10_fits_18 (fun H locs hP hS => ?_)
      exact mx_reti C h hP hS dX10_fits_21
theorem tX10_fits {D : va_G} {cI cZ cJ : ClassId} {o : Nat} {ad : Nat → Nat} {A : Nat → Prop} {x1 : Int32} {x2 : Int32} {x3 : Int32} {u : mS} {res : Int32 × mS} (h : fX10_fits x1 x2 x3 u = some res) : Met l yX10_fits (Cond.code yX10_fits cX10_fits 4 (some .int) :: gW) rmX10_fits (va_Pc [.ref o, .int x1, .int x2, .int x3] (mPre D cI cZ cJ o ad A u)) (mQi D cI cZ cJ o ad A res) 0 0 A :=
  mx_met ⟨by decide +kernel, rfl⟩ (Nat.le_of_ble_eq_true rfl) (fun p e s m below meth c ls C hP hl => wX10_fits C h hP va_S.rf hl)
abbrev rmX10_likely : Room := { frames := 3, cells := 0, slots := 0, locals := 76 }
def fX10_likely_104 (x1 : Int32) (x2 : Int32) (x3 : Int32) (x4 : Int32) (x6 : Int32) (s0 : Int32) (s1 : Int32) (u : mS) (k36 : Int32 → Int32 → Int32 → Int32 → Int32 → Int32 → mS → Option (Int32 × mS)) : Option (Int32 × mS) :=
  k36 x1 x2 x3 x4 (s0 + s1) (x6 + (1 : Int32)) u
set_option maxHeartbeats 4000000 in
set_option maxRecDepth 20000 in
theorem wX10_likely_104 (C : mC p s m args meth c cX10_likely 7 (some .int) D cI cZ cJ o ad A) {x1 : Int32} {x2 : Int32} {x3 : Int32} {x4 : Int32} {x6 : Int32} {s0 : Int32} {s1 : Int32} {u : mS} {res : Int32 × mS} {k36 : Int32 → Int32 → Int32 → Int32 → Int32 → Int32 → mS → Option (Int32 × mS)} (hk36 : ∀ (x1 : Int32) (x2 : Int32) (x3 : Int32) (x4 : Int32) (x5 : Int32) (x6 : Int32) (u : mS) (H : Heap) (locs : List Loc) (ls : Array Slot), k36 x1 x2 x3 x4 x5 x6 u = some res → va_P D vwCl (mW cI cZ cJ o ad u) H → va_S A s.heap H locs → lv_has ls 7 [(0, .ref o), (1, .int x1), (2, .int x2), (3, .int x3), (4, .int x4), (5, .int x5), (6, .int x6)] → W p l e rmX10_likely s m args below meth c H locs 0 0 (MQ below (mQi D cI cZ cJ o ad A res) args s 0 0 A) (F0 m 36 ls [])) (h : fX10_likely_104 x1 x2 x3 x4 x6 s0 s1 u k36 = some res) {H : Heap} {locs : List Loc} (hP : va_P D vwCl (mW cI cZ cJ o ad u) H) (hS : va_S A s.heap H locs) {ls : Array Slot} (hl : lv_has ls 7 [(0, .ref o), (1, .int x1), (2, .int x2), (3, .int x3), (4, .int x4), (6, .int x6)]) : W p l e rmX10_likely s m args below meth c H locs 0 0 (MQ below (mQi D cI cZ cJ o ad A res) args s 0 0 A) (F0 m 104 ls [.int s1, .int s0]) := by
  have hx := C.1
  have hb := C.2.1
  unfold fX10_likely_104 at h
  refine lv_iadd hx hb dX10_likely_104 ?_
  refine lv_istore (lv' := [(5, .int (s0 + s1)), (0, .ref o), (1, .int x1), (2, .int x2), (3, .int x3), (4, .int x4), (6, .int x6)]) hx hb dX10_likely_105 hl (by decide) rfl (fun ls hl => ?_)
  refine lv_iinc (v := x6 + (1 : Int32)) (lv' := [(6, .int (x6 + (1 : Int32))), (5, .int (s0 + s1)), (0, .ref o), (1, .int x1), (2, .int x2), (3, .int x3), (4, .int x4)]) hx hb dX10_likely_107 hl (k := 6) rfl rfl (by decide) rfl (fun ls hl => ?_)
  refine lv_goto (tgt := 36) hx hb dX10_likely_110 (by decide) ?_
  exact hk36 _ _ _ _ _ _ _ _ _ _ h hP hS (lv_sub hl [2, 3, 4, 5, 6, 1, 0] rfl)
def fX10_likely_103 (x1 : Int32) (x2 : Int32) (x3 : Int32) (x4 : Int32) (x6 : Int32) (s0 : Int32) (u : mS) (k36 : Int32 → Int32 → Int32 → Int32 → Int32 → Int32 → mS → Option (Int32 × mS)) : Option (Int32 × mS) :=
  fX10_likely_104 x1 x2 x3 x4 x6 s0 (0 : Int32) u k36
set_option maxHeartbeats 4000000 in
set_option maxRecDepth 20000 in
theorem wX10_likely_103 (C : mC p s m args meth c cX10_likely 7 (some .int) D cI cZ cJ o ad A) {x1 : Int32} {x2 : Int32} {x3 : Int32} {x4 : Int32} {x6 : Int32} {s0 : Int32} {u : mS} {res : Int32 × mS} {k36 : Int32 → Int32 → Int32 → Int32 → Int32 → Int32 → mS → Option (Int32 × mS)} (hk36 : ∀ (x1 : Int32) (x2 : Int32) (x3 : Int32) (x4 : Int32) (x5 : Int32) (x6 : Int32) (u : mS) (H : Heap) (locs : List Loc) (ls : Array Slot), k36 x1 x2 x3 x4 x5 x6 u = some res → va_P D vwCl (mW cI cZ cJ o ad u) H → va_S A s.heap H locs → lv_has ls 7 [(0, .ref o), (1, .int x1), (2, .int x2), (3, .int x3), (4, .int x4), (5, .int x5), (6, .int x6)] → W p l e rmX10_likely s m args below meth c H locs 0 0 (MQ below (mQi D cI cZ cJ o ad A res) args s 0 0 A) (F0 m 36 ls [])) (h : fX10_likely_103 x1 x2 x3 x4 x6 s0 u k36 = some res) {H : Heap} {locs : List Loc} (hP : va_P D vwCl (mW cI cZ cJ o ad u) H) (hS : va_S A s.heap H locs) {ls : Array Slot} (hl : lv_has ls 7 [(0, .ref o), (1, .int x1), (2, .int x2), (3, .int x3), (4, .int x4), (6, .int x6)]) : W p l e rmX10_likely s m args below meth c H locs 0 0 (MQ below (mQi D cI cZ cJ o ad A res) args s 0 0 A) (F0 m 103 ls [.int s0]) := by
  have hx := C.1
  have hb := C.2.1
  unfold fX10_likely_103 at h
  refine lv_iconst (v := 0) hx hb dX10_likely_103 (by decide) ?_
  exact wX10_likely_104 C hk36 h hP hS (lv_sub hl [0, 1, 2, 3, 4, 5] rfl)
def fX10_likely_99 (x1 : Int32) (x2 : Int32) (x3 : Int32) (x4 : Int32) (x6 : Int32) (s0 : Int32) (u : mS) (k36 : Int32 → Int32 → Int32 → Int32 → Int32 → Int32 → mS → Option (Int32 × mS)) : Option (Int32 × mS) :=
  fX10_likely_104 x1 x2 x3 x4 x6 s0 (1 : Int32) u k36
set_option maxHeartbeats 4000000 in
set_option maxRecDepth 20000 in
theorem wX10_likely_99 (C : mC p s m args meth c cX10_likely 7 (some .int) D cI cZ cJ o ad A) {x1 : Int32} {x2 : Int32} {x3 : Int32} {x4 : Int32} {x6 : Int32} {s0 : Int32} {u : mS} {res : Int32 × mS} {k36 : Int32 → Int32 → Int32 → Int32 → Int32 → Int32 → mS → Option (Int32 × mS)} (hk36 : ∀ (x1 : Int32) (x2 : Int32) (x3 : Int32) (x4 : Int32) (x5 : Int32) (x6 : Int32) (u : mS) (H : Heap) (locs : List Loc) (ls : Array Slot), k36 x1 x2 x3 x4 x5 x6 u = some res → va_P D vwCl (mW cI cZ cJ o ad u) H → va_S A s.heap H locs → lv_has ls 7 [(0, .ref o), (1, .int x1), (2, .int x2), (3, .int x3), (4, .int x4), (5, .int x5), (6, .int x6)] → W p l e rmX10_likely s m args below meth c H locs 0 0 (MQ below (mQi D cI cZ cJ o ad A res) args s 0 0 A) (F0 m 36 ls [])) (h : fX10_likely_99 x1 x2 x3 x4 x6 s0 u k36 = some res) {H : Heap} {locs : List Loc} (hP : va_P D vwCl (mW cI cZ cJ o ad u) H) (hS : va_S A s.heap H locs) {ls : Array Slot} (hl : lv_has ls 7 [(0, .ref o), (1, .int x1), (2, .int x2), (3, .int x3), (4, .int x4), (6, .int x6)]) : W p l e rmX10_likely s m args below meth c H locs 0 0 (MQ below (mQi D cI cZ cJ o ad A res) args s 0 0 A) (F0 m 99 ls [.int s0]) := by
  have hx := C.1
  have hb := C.2.1
  unfold fX10_likely_99 at h
  refine lv_iconst (v := 1) hx hb dX10_likely_99 (by decide) ?_
  refine lv_goto (tgt := 104) hx hb dX10_likely_100 (by decide) ?_
  exact wX10_likely_104 C hk36 h hP hS (lv_sub hl [0, 1, 2, 3, 4, 5] rfl)
def fX10_likely_36_b (x1 : Int32) (x2 : Int32) (x3 : Int32) (x4 : Int32) (x5 : Int32) (x6 : Int32) (u : mS) (k36 : Int32 → Int32 → Int32 → Int32 → Int32 → Int32 → mS → Option (Int32 × mS)) (k113 : Int32 → Int32 → Int32 → Int32 → Int32 → mS → Option (Int32 × mS)) : Option (Int32 × mS) :=
  if (u.1 25) ≤ x6 then (
    k113 x1 x2 x3 x4 x5 u
  ) else (
    bI (fX10_isFit x6 x1 x2 u) fun r52 u52 =>
    if r52 = 0 then (
      fX10_likely_103 x1 x2 x3 x4 x6 x5 u52 k36
    ) else (
      (mR u52 27 16 x6).bind fun v64 =>
      (mR u52 27 16 x4).bind fun v71 =>
      if v71 < v64 then (
        fX10_likely_99 x1 x2 x3 x4 x6 x5 u52 k36
      ) else (
        (mR u52 27 16 x6).bind fun v81 =>
        (mR u52 27 16 x4).bind fun v88 =>
        if v81 = v88 then (
          if x4 ≤ x6 then (
            fX10_likely_103 x1 x2 x3 x4 x6 x5 u52 k36
          ) else (
            fX10_likely_99 x1 x2 x3 x4 x6 x5 u52 k36
          )
        ) else (
          fX10_likely_103 x1 x2 x3 x4 x6 x5 u52 k36
        )
      )
    )
  )
set_option maxHeartbeats 4000000 in
set_option maxRecDepth 20000 in
theorem wX10_likely_36_b (C : mC p s m args meth c cX10_likely 7 (some .int) D cI cZ cJ o ad A) {x1 : Int32} {x2 : Int32} {x3 : Int32} {x4 : Int32} {x5 : Int32} {x6 : Int32} {u : mS} {res : Int32 × mS} {k36 : Int32 → Int32 → Int32 → Int32 → Int32 → Int32 → mS → Option (Int32 × mS)} {k113 : Int32 → Int32 → Int32 → Int32 → Int32 → mS → Option (Int32 × mS)} (hk36 : ∀ (x1 : Int32) (x2 : Int32) (x3 : Int32) (x4 : Int32) (x5 : Int32) (x6 : Int32) (u : mS) (H : Heap) (locs : List Loc) (ls : Array Slot), k36 x1 x2 x3 x4 x5 x6 u = some res → va_P D vwCl (mW cI cZ cJ o ad u) H → va_S A s.heap H locs → lv_has ls 7 [(0, .ref o), (1, .int x1), (2, .int x2), (3, .int x3), (4, .int x4), (5, .int x5), (6, .int x6)] → W p l e rmX10_likely s m args below meth c H locs 0 0 (MQ below (mQi D cI cZ cJ o ad A res) args s 0 0 A) (F0 m 36 ls [])) (hk113 : ∀ (x1 : Int32) (x2 : Int32) (x3 : Int32) (x4 : Int32) (x5 : Int32) (u : mS) (H : Heap) (locs : List Loc) (ls : Array Slot), k113 x1 x2 x3 x4 x5 u = some res → va_P D vwCl (mW cI cZ cJ o ad u) H → va_S A s.heap H locs → lv_has ls 7 [(0, .ref o), (1, .int x1), (2, .int x2), (3, .int x3), (4, .int x4), (5, .int x5)] → W p l e rmX10_likely s m args below meth c H locs 0 0 (MQ below (mQi D cI cZ cJ o ad A res) args s 0 0 A) (F0 m 113 ls [])) (h : fX10_likely_36_b x1 x2 x3 x4 x5 x6 u k36 k113 = some res) {H : Heap} {locs : List Loc} (hP : va_P D vwCl (mW cI cZ cJ o ad u) H) (hS : va_S A s.heap H locs) {ls : Array Slot} (hl : lv_has ls 7 [(0, .ref o), (1, .int x1), (2, .int x2), (3, .int x3), (4, .int x4), (5, .int x5), (6, .int x6)]) : W p l e rmX10_likely s m args below meth c H locs 0 0 (MQ below (mQi D cI cZ cJ o ad A res) args s 0 0 A) (F0 m 36 ls []) := by
  have hx := C.1
  have hb := C.2.1
  unfold fX10_likely_36_b at h
  refine lv_iload hx hb dX10_likely_36 (lv_at hl 6 rfl) ?_
  refine lv_aload_n hx hb dX10_likely_38 rfl (lv_at hl 0 rfl) ?_
  refine mg_addresses C hP dX10_likely_39 ?_
  refine lv_icmp_ge (tgt := 113) hx hb dX10_likely_42 (by decide) (fun hc => ?_) (fun hc => ?_)
  · replace h := it_pos hc h
    exact hk113 _ _ _ _ _ _ _ _ _ h hP hS (lv_sub hl [0, 1, 2, 3, 4, 5] rfl)
  · replace h := it_neg hc h
    refine lv_iload hx hb dX10_likely_45 (lv_at hl 5 rfl) ?_
    refine lv_aload_n hx hb dX10_likely_47 rfl (lv_at hl 0 rfl) ?_
    refine lv_iload hx hb dX10_likely_48 (lv_at hl 6 rfl) ?_
    refine lv_iload_n hx hb dX10_likely_50 rfl (lv_at hl 1 rfl) ?_
    refine lv_iload_n hx hb dX10_likely_51 rfl (lv_at hl 2 rfl) ?_
    obtain ⟨r52, u52, e52, h⟩ := obI h
    refine mx_cVi C hP hS [.int x6, .int x1, .int x2] (tX10_isFit e52) qX10_195 ⟨rfl, rfl, Nat.le_of_ble_eq_true rfl, Nat.le_of_ble_eq_true rfl⟩ rfl hl.1 rfl (Nat.le_of_ble_eq_true rfl) dX10_likely_52 (fun H locs hP hS => ?_)
    refine lv_if_eq (tgt := 103) hx hb dX10_likely_55 (by decide) (fun hc => ?_) (fun hc => ?_)
    · replace h := it_pos hc h
      exact wX10_likely_103 C hk36 h hP hS (lv_sub hl [0, 1, 2, 3, 4, 6] rfl)
    · replace h := it_neg hc h
      refine lv_aload_n hx hb dX10_likely_58 rfl (lv_at hl 0 rfl) ?_
      refine mg_post C hP dX10_likely_59 ?_
      refine lv_iload hx hb dX10_likely_62 (lv_at hl 6 rfl) ?_
      obtain ⟨v64, e64, h⟩ := ob h
      refine ml_post C hP e64 dX10_likely_64 ?_
      refine lv_aload_n hx hb dX10_likely_65 rfl (lv_at hl 0 rfl) ?_
      refine mg_post C hP dX10_likely_66 ?_
      refine lv_iload hx hb dX10_likely_69 (lv_at hl 4 rfl) ?_
      obtain ⟨v71, e71, h⟩ := ob h
      refine ml_post C hP e71 dX10_likely_71 ?_
      refine lv_icmp_gt (tgt := 99) hx hb dX10_likely_72 (by decide) (fun hc => ?_) (fun hc => ?_)
      · replace h := it_pos hc h
        exact wX10_likely_99 C hk36 h hP hS (lv_sub hl [0, 1, 2, 3, 4, 6] rfl)
      · replace h := it_neg hc h
        refine lv_aload_n hx hb dX10_likely_75 rfl (lv_at hl 0 rfl) ?_
        refine mg_post C hP dX10_likely_76 ?_
        refine lv_iload hx hb dX10_likely_79 (lv_at hl 6 rfl) ?_
        obtain ⟨v81, e81, h⟩ := ob h
        refine ml_post C hP e81 dX10_likely_81 ?_
        refine lv_aload_n hx hb dX10_likely_82 rfl (lv_at hl 0 rfl) ?_
        refine mg_post C hP dX10_likely_83 ?_
        refine lv_iload hx hb dX10_likely_86 (lv_at hl 4 rfl) ?_
        obtain ⟨v88, e88, h⟩ := ob h
        refine ml_post C hP e88 dX10_likely_88 ?_
        refine lv_icmp_ne (tgt := 103) hx hb dX10_likely_89 (by decide) (fun hc => ?_) (fun hc => ?_)
        · replace h := it_neg hc h
          exact wX10_likely_103 C hk36 h hP hS (lv_sub hl [0, 1, 2, 3, 4, 6] rfl)
        · replace h := it_pos hc h
          refine lv_iload hx hb dX10_likely_92 (lv_at hl 6 rfl) ?_
          refine lv_iload hx hb dX10_likely_94 (lv_at hl 4 rfl) ?_
          refine lv_icmp_ge (tgt := 103) hx hb dX10_likely_96 (by decide) (fun hc => ?_) (fun hc => ?_)
          · replace h := it_pos hc h
            exact wX10_likely_103 C hk36 h hP hS (lv_sub hl [0, 1, 2, 3, 4, 6] rfl)
          · replace h := it_neg hc h
            exact wX10_likely_99 C hk36 h hP hS (lv_sub hl [0, 1, 2, 3, 4, 6] rfl)
def fX10_likely_36 (k113 : Int32 → Int32 → Int32 → Int32 → Int32 → mS → Option (Int32 × mS)) : Nat → Int32 → Int32 → Int32 → Int32 → Int32 → Int32 → mS → Option (Int32 × mS)
  | 0 => fun _ _ _ _ _ _ _ => none
  | n + 1 => fun x1 x2 x3 x4 x5 x6 u => fX10_likely_36_b x1 x2 x3 x4 x5 x6 u (fX10_likely_36 k113 n) k113 
theorem wX10_likely_36 (C : mC p s m args meth c cX10_likely 7 (some .int) D cI cZ cJ o ad A) {res : Int32 × mS} {k113 : Int32 → Int32 → Int32 → Int32 → Int32 → mS → Option (Int32 × mS)} (hk113 : ∀ (x1 : Int32) (x2 : Int32) (x3 : Int32) (x4 : Int32) (x5 : Int32) (u : mS) (H : Heap) (locs : List Loc) (ls : Array Slot), k113 x1 x2 x3 x4 x5 u = some res → va_P D vwCl (mW cI cZ cJ o ad u) H → va_S A s.heap H locs → lv_has ls 7 [(0, .ref o), (1, .int x1), (2, .int x2), (3, .int x3), (4, .int x4), (5, .int x5)] → W p l e rmX10_likely s m args below meth c H locs 0 0 (MQ below (mQi D cI cZ cJ o ad A res) args s 0 0 A) (F0 m 113 ls [])) (n : Nat) : ∀ {x1 : Int32} {x2 : Int32} {x3 : Int32} {x4 : Int32} {x5 : Int32} {x6 : Int32} {u : mS} {H : Heap} {locs : List Loc} {ls : Array Slot}, fX10_likely_36 k113 n x1 x2 x3 x4 x5 x6 u = some res → va_P D vwCl (mW cI cZ cJ o ad u) H → va_S A s.heap H locs → lv_has ls 7 [(0, .ref o), (1, .int x1), (2, .int x2), (3, .int x3), (4, .int x4), (5, .int x5), (6, .int x6)] → W p l e rmX10_likely s m args below meth c H locs 0 0 (MQ below (mQi D cI cZ cJ o ad A res) args s 0 0 A) (F0 m 36 ls []) := by
  induction n with
  | zero => intro _ _ _ _ _ _ _ _ _ _ h _ _ _; cases (show (none : Option (Int32 × mS)) = some res from h)
  | succ n ih => intro _ _ _ _ _ _ _ _ _ _ h hP hS hl; exact wX10_likely_36_b C (fun _ _ _ _ _ _ _ _ _ _ h hP hS hl => ih h hP hS hl) hk113 h hP hS hl
def fX10_likely_133 (x1 : Int32) (x2 : Int32) (x3 : Int32) (x4 : Int32) (u : mS) (k21 : Int32 → Int32 → Int32 → Int32 → mS → Option (Int32 × mS)) : Option (Int32 × mS) :=
  k21 x1 x2 x3 (x4 + (1 : Int32)) u
set_option maxHeartbeats 4000000 in
set_option maxRecDepth 20000 in
theorem wX10_likely_133 (C : mC p s m args meth c cX10_likely 7 (some .int) D cI cZ cJ o ad A) {x1 : Int32} {x2 : Int32} {x3 : Int32} {x4 : Int32} {u : mS} {res : Int32 × mS} {k21 : Int32 → Int32 → Int32 → Int32 → mS → Option (Int32 × mS)} (hk21 : ∀ (x1 : Int32) (x2 : Int32) (x3 : Int32) (x4 : Int32) (u : mS) (H : Heap) (locs : List Loc) (ls : Array Slot), k21 x1 x2 x3 x4 u = some res → va_P D vwCl (mW cI cZ cJ o ad u) H → va_S A s.heap H locs → lv_has ls 7 [(0, .ref o), (1, .int x1), (2, .int x2), (3, .int x3), (4, .int x4)] → W p l e rmX10_likely s m args below meth c H locs 0 0 (MQ below (mQi D cI cZ cJ o ad A res) args s 0 0 A) (F0 m 21 ls [])) (h : fX10_likely_133 x1 x2 x3 x4 u k21 = some res) {H : Heap} {locs : List Loc} (hP : va_P D vwCl (mW cI cZ cJ o ad u) H) (hS : va_S A s.heap H locs) {ls : Array Slot} (hl : lv_has ls 7 [(0, .ref o), (1, .int x1), (2, .int x2), (3, .int x3), (4, .int x4)]) : W p l e rmX10_likely s m args below meth c H locs 0 0 (MQ below (mQi D cI cZ cJ o ad A res) args s 0 0 A) (F0 m 133 ls []) := by
  have hx := C.1
  have hb := C.2.1
  unfold fX10_likely_133 at h
  refine lv_iinc (v := x4 + (1 : Int32)) (lv' := [(4, .int (x4 + (1 : Int32))), (0, .ref o), (1, .int x1), (2, .int x2), (3, .int x3)]) hx hb dX10_likely_133 hl (k := 4) rfl rfl (by decide) rfl (fun ls hl => ?_)
  refine lv_goto (tgt := 21) hx hb dX10_likely_136 (by decide) ?_
  exact hk21 _ _ _ _ _ _ _ _ h hP hS (lv_sub hl [1, 2, 3, 4, 0] rfl)
def fX10_likely_21_b (x1 : Int32) (x2 : Int32) (x3 : Int32) (x4 : Int32) (u : mS) (k21 : Int32 → Int32 → Int32 → Int32 → mS → Option (Int32 × mS)) : Option (Int32 × mS) :=
  if (u.1 25) ≤ x4 then (
    bI (fX10_finding (2 : Int32) u) fun r141 u141 =>
    some (r141, u141)
  ) else (
    fX10_likely_36 (fun x1 x2 x3 x4 x5 u =>
          bI (fX10_isFit x4 x1 x2 u) fun r118 u118 =>
          if r118 = 0 then (
            fX10_likely_133 x1 x2 x3 x4 u118 k21
          ) else (
            if x5 = x3 then (
              some (x4, u118)
            ) else (
              fX10_likely_133 x1 x2 x3 x4 u118 k21
            )
          )) FU x1 x2 x3 x4 (0 : Int32) (0 : Int32) u
  )
set_option maxHeartbeats 4000000 in
set_option maxRecDepth 20000 in
theorem wX10_likely_21_b (C : mC p s m args meth c cX10_likely 7 (some .int) D cI cZ cJ o ad A) {x1 : Int32} {x2 : Int32} {x3 : Int32} {x4 : Int32} {u : mS} {res : Int32 × mS} {k21 : Int32 → Int32 → Int32 → Int32 → mS → Option (Int32 × mS)} (hk21 : ∀ (x1 : Int32) (x2 : Int32) (x3 : Int32) (x4 : Int32) (u : mS) (H : Heap) (locs : List Loc) (ls : Array Slot), k21 x1 x2 x3 x4 u = some res → va_P D vwCl (mW cI cZ cJ o ad u) H → va_S A s.heap H locs → lv_has ls 7 [(0, .ref o), (1, .int x1), (2, .int x2), (3, .int x3), (4, .int x4)] → W p l e rmX10_likely s m args below meth c H locs 0 0 (MQ below (mQi D cI cZ cJ o ad A res) args s 0 0 A) (F0 m 21 ls [])) (h : fX10_likely_21_b x1 x2 x3 x4 u k21 = some res) {H : Heap} {locs : List Loc} (hP : va_P D vwCl (mW cI cZ cJ o ad u) H) (hS : va_S A s.heap H locs) {ls : Array Slot} (hl : lv_has ls 7 [(0, .ref o), (1, .int x1), (2, .int x2), (3, .int x3), (4, .int x4)]) : W p l e rmX10_likely s m args below meth c H locs 0 0 (MQ below (mQi D cI cZ cJ o ad A res) args s 0 0 A) (F0 m 21 ls []) := by
  have hx := C.1
  have hb := C.2.1
  unfold fX10_likely_21_b at h
  refine lv_iload hx hb dX10_likely_21 (lv_at hl 4 rfl) ?_
  refine lv_aload_n hx hb dX10_likely_23 rfl (lv_at hl 0 rfl) ?_
  refine mg_addresses C hP dX10_likely_24 ?_
  refine lv_icmp_ge (tgt := 139) hx hb dX10_likely_27 (by decide) (fun hc => ?_) (fun hc => ?_)
  · replace h := it_pos hc h
    refine lv_aload_n hx hb dX10_likely_139 rfl (lv_at hl 0 rfl) ?_
    refine lv_iconst (v := 2) hx hb dX10_likely_140 (by decide) ?_
    obtain ⟨r141, u141, e141, h⟩ := obI h
    refine mx_cVi C hP hS [.int (2 : Int32)] (tX10_finding e141) qX10_138 ⟨rfl, rfl, Nat.le_of_ble_eq_true rfl, Nat.le_of_ble_eq_true rfl⟩ rfl hl.1 rfl (Nat.le_of_ble_eq_true rfl) dX10_likely_141 (fun H locs hP hS => ?_)
    exact mx_reti C h hP hS dX10_likely_144
  · replace h := it_neg hc h
    refine lv_iconst (v := 0) hx hb dX10_likely_30 (by decide) ?_
    refine lv_istore (lv' := [(5, .int (0 : Int32)), (0, .ref o), (1, .int x1), (2, .int x2), (3, .int x3), (4, .int x4)]) hx hb dX10_likely_31 hl (by decide) rfl (fun ls hl => ?_)
    refine lv_iconst (v := 0) hx hb dX10_likely_33 (by decide) ?_
    refine lv_istore (lv' := [(6, .int (0 : Int32)), (5, .int (0 : Int32)), (0, .ref o), (1, .int x1), (2, .int x2), (3, .int x3), (4, .int x4)]) hx hb dX10_likely_34 hl (by decide) rfl (fun ls hl => ?_)
    refine wX10_likely_36 C ?_ FU h hP hS (lv_sub hl [2, 3, 4, 5, 6, 1, 0] rfl)
    · intro x1 x2 x3 x4 x5 u H locs ls h hP hS hl
      refine lv_aload_n hx hb dX10_likely_113 rfl (lv_at hl 0 rfl) ?_
      refine lv_iload hx hb dX10_likely_114 (lv_at hl 4 rfl) ?_
      refine lv_iload_n hx hb dX10_likely_116 rfl (lv_at hl 1 rfl) ?_
      refine lv_iload_n hx hb dX10_likely_117 rfl (lv_at hl 2 rfl) ?_
      obtain ⟨r118, u118, e118, h⟩ := obI h
      refine mx_cVi C hP hS [.int x4, .int x1, .int x2] (tX10_isFit e118) qX10_195 ⟨rfl, rfl, Nat.le_of_ble_eq_true rfl, Nat.le_of_ble_eq_true rfl⟩ rfl hl.1 rfl (Nat.le_of_ble_eq_true rfl) dX10_likely_118 (fun H locs hP hS => ?_)
      refine lv_if_eq (tgt := 133) hx hb dX10_likely_121 (by decide) (fun hc => ?_) (fun hc => ?_)
      · replace h := it_pos hc h
        exact wX10_likely_133 C hk21 h hP hS (lv_sub hl [0, 1, 2, 3, 4] rfl)
      · replace h := it_neg hc h
        refine lv_iload hx hb dX10_likely_124 (lv_at hl 5 rfl) ?_
        refine lv_iload_n hx hb dX10_likely_126 rfl (lv_at hl 3 rfl) ?_
        refine lv_icmp_ne (tgt := 133) hx hb dX10_likely_127 (by decide) (fun hc => ?_) (fun hc => ?_)
        · replace h := it_neg hc h
          exact wX10_likely_133 C hk21 h hP hS (lv_sub hl [0, 1, 2, 3, 4] rfl)
        · replace h := it_pos hc h
          refine lv_iload hx hb dX10_likely_130 (lv_at hl 4 rfl) ?_
          exact mx_reti C h hP hS dX10_likely_132
def fX10_likely_21 : Nat → Int32 → Int32 → Int32 → Int32 → mS → Option (Int32 × mS)
  | 0 => fun _ _ _ _ _ => none
  | n + 1 => fun x1 x2 x3 x4 u => fX10_likely_21_b x1 x2 x3 x4 u (fX10_likely_21 n) 
theorem wX10_likely_21 (C : mC p s m args meth c cX10_likely 7 (some .int) D cI cZ cJ o ad A) {res : Int32 × mS} (n : Nat) : ∀ {x1 : Int32} {x2 : Int32} {x3 : Int32} {x4 : Int32} {u : mS} {H : Heap} {locs : List Loc} {ls : Array Slot}, fX10_likely_21 n x1 x2 x3 x4 u = some res → va_P D vwCl (mW cI cZ cJ o ad u) H → va_S A s.heap H locs → lv_has ls 7 [(0, .ref o), (1, .int x1), (2, .int x2), (3, .int x3), (4, .int x4)] → W p l e rmX10_likely s m args below meth c H locs 0 0 (MQ below (mQi D cI cZ cJ o ad A res) args s 0 0 A) (F0 m 21 ls []) := by
  induction n with
  | zero => intro _ _ _ _ _ _ _ _ h _ _ _; cases (show (none : Option (Int32 × mS)) = some res from h)
  | succ n ih => intro _ _ _ _ _ _ _ _ h hP hS hl; exact wX10_likely_21_b C (fun _ _ _ _ _ _ _ _ h hP hS hl => ih h hP hS hl) h hP hS hl
def fX10_likely (x1 : Int32) (x2 : Int32) (x3 : Int32) (u : mS) : Option (Int32 × mS) :=
  bI (fX10_isLabel x1 x2 u) fun r2 u2 =>
  if r2 = 0 then (
    bI (fX10_finding (1 : Int32) u2) fun r14 u14 =>
    some (r14, u14)
  ) else (
    if 0 ≤ x3 then (
      fX10_likely_21  FU x1 x2 x3 (0 : Int32) u2
    ) else (
      bI (fX10_finding (1 : Int32) u2) fun r14 u14 =>
      some (r14, u14)
    )
  )
set_option maxHeartbeats 4000000 in
set_option maxRecDepth 20000 in
theorem wX10_likely (C : mC p s m args meth c cX10_likely 7 (some .int) D cI cZ cJ o ad A) {x1 : Int32} {x2 : Int32} {x3 : Int32} {u : mS} {res : Int32 × mS} (h : fX10_likely x1 x2 x3 u = some res) {H : Heap} {locs : List Loc} (hP : va_P D vwCl (mW cI cZ cJ o ad u) H) (hS : va_S A s.heap H locs) {ls : Array Slot} (hl : lv_has ls 7 [(0, .ref o), (1, .int x1), (2, .int x2), (3, .int x3)]) : W p l e rmX10_likely s m args below meth c H locs 0 0 (MQ below (mQi D cI cZ cJ o ad A res) args s 0 0 A) (F0 m 0 ls []) := by
  have hx := C.1
  have hb := C.2.1
  unfold fX10_likely at h
  refine lv_iload_n hx hb dX10_likely_0 rfl (lv_at hl 1 rfl) ?_
  refine lv_iload_n hx hb dX10_likely_1 rfl (lv_at hl 2 rfl) ?_
  obtain ⟨r2, u2, e2, h⟩ := obI h
  refine mx_cSi C hP hS [.int x1, .int x2] (tX10_isLabel e2) qX10_191 ⟨rfl, rfl, Nat.le_of_ble_eq_true rfl, Nat.le_of_ble_eq_true rfl⟩ rfl hl.1 rfl (Nat.le_of_ble_eq_true rfl) dX10_likely_2 (fun H locs hP hS => ?_)
  refine lv_if_eq (tgt := 12) hx hb dX10_likely_5 (by decide) (fun hc => ?_) (fun hc => ?_)
  · replace h := it_pos hc h
    refine lv_aload_n hx hb dX10_likely_12 rfl (lv_at hl 0 rfl) ?_
    refine lv_iconst (v := 1) hx hb dX10_likely_13 (by decide) ?_
    obtain ⟨r14, u14, e14, h⟩ := obI h
    refine mx_cVi C hP hS [.int (1 : Int32)] (tX10_finding e14) qX10_138 ⟨rfl, rfl, Nat.le_of_ble_eq_true rfl, Nat.le_of_ble_eq_true rfl⟩ rfl hl.1 rfl (Nat.le_of_ble_eq_true rfl) dX10_likely_14 (fun H locs hP hS => ?_)
    exact mx_reti C h hP hS dX10_likely_17
  · replace h := it_neg hc h
    refine lv_iload_n hx hb dX10_likely_8 rfl (lv_at hl 3 rfl) ?_
    refine lv_if_ge (tgt := 18) hx hb dX10_likely_9 (by decide) (fun hc => ?_) (fun hc => ?_)
    · replace h := it_pos hc h
      refine lv_iconst (v := 0) hx hb dX10_likely_18 (by decide) ?_
      refine lv_istore (lv' := [(4, .int (0 : Int32)), (0, .ref o), (1, .int x1), (2, .int x2), (3, .int x3)]) hx hb dX10_likely_19 hl (by decide) rfl (fun ls hl => ?_)
      exact wX10_likely_21 C  FU h hP hS (lv_sub hl [1, 2, 3, 4, 0] rfl)
    · replace h := it_neg hc h
      refine lv_aload_n hx hb dX10_likely_12 rfl (lv_at hl 0 rfl) ?_
      refine lv_iconst (v := 1) hx hb dX10_likely_13 (by decide) ?_
      obtain ⟨r14, u14, e14, h⟩ := obI h
      refine mx_cVi C hP hS [.int (1 : Int32)] (tX10_finding e14) qX10_138 ⟨rfl, rfl, Nat.le_of_ble_eq_true rfl, Nat.le_of_ble_eq_true rfl⟩ rfl hl.1 rfl (Nat.le_of_ble_eq_true rfl) dX10_likely_14 (fun H locs hP hS => ?_)
      exact mx_reti C h hP hS dX10_likely_17
theorem tX10_likely {D : va_G} {cI cZ cJ : ClassId} {o : Nat} {ad : Nat → Nat} {A : Nat → Prop} {x1 : Int32} {x2 : Int32} {x3 : Int32} {u : mS} {res : Int32 × mS} (h : fX10_likely x1 x2 x3 u = some res) : Met l yX10_likely (Cond.code yX10_likely cX10_likely 7 (some .int) :: gW) rmX10_likely (va_Pc [.ref o, .int x1, .int x2, .int x3] (mPre D cI cZ cJ o ad A u)) (mQi D cI cZ cJ o ad A res) 0 0 A :=
  mx_met ⟨by decide +kernel, rfl⟩ (Nat.le_of_ble_eq_true rfl) (fun p e s m below meth c ls C hP hl => wX10_likely C h hP va_S.rf hl)
end
