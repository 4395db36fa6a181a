section
variable {p : Program} {l : Launch} {e : Env} {s : State} {m : MethodId} {args : Array Value} {below : List Frame} {meth : Method} {c : Code} {Γ : gEnv} {N sB : Nat}
abbrev rmX9_tell : Room := { frames := 1, cells := 0, slots := 0, locals := 21 }
def fX9_tell (x0 : Nat) (x1 : Int32) (u : gM) : Option (Int32 × gM) :=
  (gI [10] 12 u x0).bind fun v1 =>
  if v1 < (20 : Int32) then (
    (gR [10] 6 u x0).bind fun v16 =>
    (gI [10] 12 u x0).bind fun v20 =>
    (v16).bind fun a24 =>
    (uI u a24 v20 x1).bind fun u24 =>
    (gI [10] 12 u24 x0).bind fun v27 =>
    (pV [10] 12 (.int (v27 + (1 : Int32))) u24 x0).bind fun u32 =>
    (gI [10] 12 u32 x0).bind fun v36 =>
    some (v36, u32)
  ) else (
    (gO [10] u x0).bind fun _ =>
    bI (fX9_finding x0 (4 : Int32) u) fun r11 u11 =>
    some (r11, u11)
  )
set_option maxHeartbeats 4000000 in
set_option maxRecDepth 20000 in
theorem wX9_tell  (C : gC p s m args meth c cX9_tell 2 (some .int) RX9 "tell" Γ){x0 : Nat} {x1 : Int32} {u : gM} {res : Int32 × gM} (h : fX9_tell x0 x1 u = some res) {H : Heap} {locs : List Loc} (hG : gAg Γ u N H) (hS : va_S Γ.2.2.1 s.heap H locs) {ls : Array Slot} (hl : lv_has ls 2 [(0, va_rf (some x0)), (1, .int x1)]) : W p l e rmX9_tell s m args below meth c H locs 0 0 (MQ below (gQ Γ (some (.int res.1)) res.2 N) args s 0 0 Γ.2.2.1) (F0 m 0 ls []) := by
  have hx := C.1
  have hb := C.2.1
  unfold fX9_tell at h
  refine gx_aload_n (r := (some x0)) hx hb dX9_tell_0 rfl (lv_at hl 0 rfl) ?_
  obtain ⟨v1, e1, h⟩ := ob h
  refine gx_getI C hG rfl e1 fgX9_66 dX9_tell_1 ?_
  refine lv_bipush (v := 20) hx hb dX9_tell_4 (by decide) ?_
  refine lv_icmp_lt (tgt := 15) hx hb dX9_tell_6 (by decide) (fun hc => ?_) (fun hc => ?_)
  · replace h := it_pos hc h
    refine gx_aload_n (r := (some x0)) hx hb dX9_tell_15 rfl (lv_at hl 0 rfl) ?_
    obtain ⟨v16, e16, h⟩ := ob h
    refine gx_getR C hG rfl e16 fgX9_32 dX9_tell_16 ?_
    refine gx_aload_n (r := (some x0)) hx hb dX9_tell_19 rfl (lv_at hl 0 rfl) ?_
    obtain ⟨v20, e20, h⟩ := ob h
    refine gx_getI C hG rfl e20 fgX9_66 dX9_tell_20 ?_
    refine lv_iload_n hx hb dX9_tell_23 rfl (lv_at hl 1 rfl) ?_
    obtain ⟨a24, na24, h⟩ := ob h
    obtain ⟨u24, e24, h⟩ := ob h
    refine gx_iast C hG hS na24 e24 dX9_tell_24 (fun H locs hG hS => ?_)
    refine gx_aload_n (r := (some x0)) hx hb dX9_tell_25 rfl (lv_at hl 0 rfl) ?_
    refine lv_dup hx hb dX9_tell_26 (by first | rfl | exact gx_cat _) ?_
    obtain ⟨v27, e27, h⟩ := ob h
    refine gx_getI C hG rfl e27 fgX9_66 dX9_tell_27 ?_
    refine lv_iconst (v := 1) hx hb dX9_tell_30 (by decide) ?_
    refine lv_iadd hx hb dX9_tell_31 ?_
    obtain ⟨u32, e32, h⟩ := ob h
    refine gx_put C hG hS rfl e32 fgX9_66 fpX9_66 (fun q => by cases q) rfl rfl dX9_tell_32 (fun H locs hG hS => ?_)
    refine gx_aload_n (r := (some x0)) hx hb dX9_tell_35 rfl (lv_at hl 0 rfl) ?_
    obtain ⟨v36, e36, h⟩ := ob h
    refine gx_getI C hG rfl e36 fgX9_66 dX9_tell_36 ?_
    cases Option.some.inj h
    exact gx_reti C hG hS dX9_tell_39
  · replace h := it_neg hc h
    refine gx_aload_n (r := (some x0)) hx hb dX9_tell_9 rfl (lv_at hl 0 rfl) ?_
    refine lv_iconst (v := 4) hx hb dX9_tell_10 (by decide) ?_
    obtain ⟨_, eo11, h⟩ := ob h
    obtain ⟨r11, u11, e11, h⟩ := obI h
    refine gx_cV C hG hS [.int (4 : Int32)] rfl eo11 (tX9_finding e11) qcX9_89 ⟨rfl, rfl, Nat.le_of_ble_eq_true rfl, Nat.le_of_ble_eq_true rfl⟩ ⟨Nat.zero_le _, Nat.zero_le _⟩ rfl hl.1 rfl (Nat.le_of_ble_eq_true rfl) (st1 := [.int r11]) rfl dX9_tell_11 (fun H locs hG hS => ?_)
    cases Option.some.inj h
    exact gx_reti C hG hS dX9_tell_14
theorem tX9_tell {Γ : gEnv} {N : Nat} {x0 : Nat} {x1 : Int32} {u v : gM} {r : Int32} (h : fX9_tell x0 x1 u = some (r, v)) : Met l yX9_tell (Cond.code yX9_tell cX9_tell 2 (some .int) :: gW) rmX9_tell (va_Pc [va_rf (some x0), .int x1] (gPre Γ u N)) (gQ Γ (some (.int r)) v N) 0 0 Γ.2.2.1 :=
  gx_met (nm := "tell") ⟨by decide +kernel, rfl, rfl⟩ (Nat.le_of_ble_eq_true rfl) (fun p e s m below meth c ls C hG hl => wX9_tell C h hG va_S.rf hl)
abbrev rmX9_check : Room := { frames := 4, cells := 0, slots := 0, locals := 86 }
def fX9_check_18_b (x0 : Nat) (x1 : Int64) (x3 : Int32) (x4 : Int32) (u : gM) (k18 : Nat → Int64 → Int32 → Int32 → gM → Option (Int32 × gM)) : Option (Int32 × gM) :=
  if x3 ≤ x4 then (
    some ((0 : Int32), u)
  ) else (
    (gR [10] 1 u x0).bind fun v27 =>
    (v27).bind fun a30 =>
    (gO [0] u a30).bind fun _ =>
    bI (fJx4a65c_size_8abf5 a30 u) fun r30 u30 =>
    if r30 ≤ x4 then (
      some ((1 : Int32) + x4, u30)
    ) else (
      (gR [10] 6 u30 x0).bind fun v37 =>
      (v37).bind fun a42 =>
      (aI u30 a42 x4).bind fun v42 =>
      bI (fX3_thingIn x1 x4 u30) fun r46 u46 =>
      if v42 = r46 then (
        k18 x0 x1 x3 (x4 + (1 : Int32)) u46
      ) else (
        some ((1 : Int32) + x4, u46)
      )
    )
  )
set_option maxHeartbeats 4000000 in
set_option maxRecDepth 20000 in
theorem wX9_check_18_b  (C : gC p s m args meth c cX9_check 5 (some .int) RX9 "check" Γ){x0 : Nat} {x1 : Int64} {x3 : Int32} {x4 : Int32} {u : gM} {res : Int32 × gM} {k18 : Nat → Int64 → Int32 → Int32 → gM → Option (Int32 × gM)} (hk18 : ∀ (x0 : Nat) (x1 : Int64) (x3 : Int32) (x4 : Int32) (u : gM) (H : Heap) (locs : List Loc) (ls : Array Slot), k18 x0 x1 x3 x4 u = some res → gAg Γ u N H → va_S Γ.2.2.1 s.heap H locs → lv_has ls 5 [(0, va_rf (some x0)), (1, .long x1), (3, .int x3), (4, .int x4)] → W p l e rmX9_check s m args below meth c H locs 0 0 (MQ below (gQ Γ (some (.int res.1)) res.2 N) args s 0 0 Γ.2.2.1) (F0 m 18 ls [])) (h : fX9_check_18_b x0 x1 x3 x4 u k18 = some res) {H : Heap} {locs : List Loc} (hG : gAg Γ u N H) (hS : va_S Γ.2.2.1 s.heap H locs) {ls : Array Slot} (hl : lv_has ls 5 [(0, va_rf (some x0)), (1, .long x1), (3, .int x3), (4, .int x4)]) : W p l e rmX9_check s m args below meth c H locs 0 0 (MQ below (gQ Γ (some (.int res.1)) res.2 N) args s 0 0 Γ.2.2.1) (F0 m 18 ls []) := by
  have hx := C.1
  have hb := C.2.1
  unfold fX9_check_18_b at h
  refine lv_iload hx hb dX9_check_18 (lv_at hl 3 rfl) ?_
  refine lv_iload_n hx hb dX9_check_20 rfl (lv_at hl 2 rfl) ?_
  refine lv_icmp_ge (tgt := 63) hx hb dX9_check_21 (by decide) (fun hc => ?_) (fun hc => ?_)
  · replace h := it_pos hc h
    refine lv_iconst (v := 0) hx hb dX9_check_63 (by decide) ?_
    cases Option.some.inj h
    exact gx_reti C hG hS dX9_check_64
  · replace h := it_neg hc h
    refine lv_iload hx hb dX9_check_24 (lv_at hl 3 rfl) ?_
    refine gx_aload_n (r := (some x0)) hx hb dX9_check_26 rfl (lv_at hl 0 rfl) ?_
    obtain ⟨v27, e27, h⟩ := ob h
    refine gx_getR C hG rfl e27 fgX9_16 dX9_check_27 ?_
    obtain ⟨a30, na30, h⟩ := ob h
    obtain ⟨_, eo30, h⟩ := ob h
    obtain ⟨r30, u30, e30, h⟩ := obI h
    refine gx_cV C hG hS [] na30 eo30 (tJx4a65c_size_8abf5 e30) qcX9_93 ⟨rfl, rfl, Nat.le_of_ble_eq_true rfl, Nat.le_of_ble_eq_true rfl⟩ ⟨Nat.zero_le _, Nat.zero_le _⟩ rfl hl.1 rfl (Nat.le_of_ble_eq_true rfl) (st1 := [.int r30, .int x4]) rfl dX9_check_30 (fun H locs hG hS => ?_)
    refine lv_icmp_ge (tgt := 52) hx hb dX9_check_33 (by decide) (fun hc => ?_) (fun hc => ?_)
    · replace h := it_pos hc h
      refine lv_iconst (v := 1) hx hb dX9_check_52 (by decide) ?_
      refine lv_iload hx hb dX9_check_53 (lv_at hl 3 rfl) ?_
      refine lv_iadd hx hb dX9_check_55 ?_
      cases Option.some.inj h
      exact gx_reti C hG hS dX9_check_56
    · replace h := it_neg hc h
      refine gx_aload_n (r := (some x0)) hx hb dX9_check_36 rfl (lv_at hl 0 rfl) ?_
      obtain ⟨v37, e37, h⟩ := ob h
      refine gx_getR C hG rfl e37 fgX9_32 dX9_check_37 ?_
      refine lv_iload hx hb dX9_check_40 (lv_at hl 3 rfl) ?_
      obtain ⟨a42, na42, h⟩ := ob h
      obtain ⟨v42, e42, h⟩ := ob h
      refine gx_iald C hG na42 e42 dX9_check_42 ?_
      refine lv_lload_n hx hb dX9_check_43 rfl (lv_at hl 1 rfl) ?_
      refine lv_iload hx hb dX9_check_44 (lv_at hl 3 rfl) ?_
      obtain ⟨r46, u46, e46, h⟩ := obI h
      refine gx_cS C hG hS [.long x1, .int x4] (tX3_thingIn e46) qcX9_185 ⟨rfl, rfl, Nat.le_of_ble_eq_true rfl, Nat.le_of_ble_eq_true rfl⟩ ⟨Nat.zero_le _, Nat.zero_le _⟩ rfl hl.1 rfl (Nat.le_of_ble_eq_true rfl) (st1 := [.int r46, .int v42]) rfl dX9_check_46 (fun H locs hG hS => ?_)
      refine lv_icmp_eq (tgt := 57) hx hb dX9_check_49 (by decide) (fun hc => ?_) (fun hc => ?_)
      · replace h := it_pos hc h
        refine lv_iinc (v := x4 + (1 : Int32)) (lv' := [(4, .int (x4 + (1 : Int32))), (0, va_rf (some x0)), (1, .long x1), (3, .int x3)]) hx hb dX9_check_57 hl (k := 3) rfl rfl (by decide) rfl (fun ls hl => ?_)
        refine lv_goto (tgt := 18) hx hb dX9_check_60 (by decide) ?_
        exact hk18 _ _ _ _ _ _ _ _ h hG hS (lv_sub hl [1, 2, 3, 0] rfl)
      · replace h := it_neg hc h
        refine lv_iconst (v := 1) hx hb dX9_check_52 (by decide) ?_
        refine lv_iload hx hb dX9_check_53 (lv_at hl 3 rfl) ?_
        refine lv_iadd hx hb dX9_check_55 ?_
        cases Option.some.inj h
        exact gx_reti C hG hS dX9_check_56
def fX9_check_18 : Nat → Nat → Int64 → Int32 → Int32 → gM → Option (Int32 × gM)
  | 0 => fun _ _ _ _ _ => none
  | n + 1 => fun x0 x1 x3 x4 u => fX9_check_18_b x0 x1 x3 x4 u (fX9_check_18 n) 
theorem wX9_check_18 (C : gC p s m args meth c cX9_check 5 (some .int) RX9 "check" Γ) {res : Int32 × gM} (n : Nat) : ∀ {x0 : Nat} {x1 : Int64} {x3 : Int32} {x4 : Int32} {u : gM} {H : Heap} {locs : List Loc} {ls : Array Slot}, fX9_check_18 n x0 x1 x3 x4 u = some res → gAg Γ u N H → va_S Γ.2.2.1 s.heap H locs → lv_has ls 5 [(0, va_rf (some x0)), (1, .long x1), (3, .int x3), (4, .int x4)] → W p l e rmX9_check s m args below meth c H locs 0 0 (MQ below (gQ Γ (some (.int res.1)) res.2 N) args s 0 0 Γ.2.2.1) (F0 m 18 ls []) := by
  induction n with
  | zero => intro _ _ _ _ _ _ _ _ h _ _ _; cases (show (none : Option (Int32 × gM)) = some res from h)
  | succ n ih => intro _ _ _ _ _ _ _ _ h hG hS hl; exact wX9_check_18_b C (fun _ _ _ _ _ _ _ _ h hG hS hl => ih h hG hS hl) h hG hS hl
def fX9_check (x0 : Nat) (u : gM) : Option (Int32 × gM) :=
  (gO [10] u x0).bind fun _ =>
  bI (fX9_bestMatch x0 u) fun r1 u1 =>
  (gI [10] 12 u1 x0).bind fun v6 =>
  (pV [10] 12 (.int (0 : Int32)) u1 x0).bind fun u12 =>
  fX9_check_18  FU x0 r1 v6 (0 : Int32) u12
set_option maxHeartbeats 4000000 in
set_option maxRecDepth 20000 in
theorem wX9_check  (C : gC p s m args meth c cX9_check 5 (some .int) RX9 "check" Γ){x0 : Nat} {u : gM} {res : Int32 × gM} (h : fX9_check x0 u = some res) {H : Heap} {locs : List Loc} (hG : gAg Γ u N H) (hS : va_S Γ.2.2.1 s.heap H locs) {ls : Array Slot} (hl : lv_has ls 5 [(0, va_rf (some x0))]) : W p l e rmX9_check s m args below meth c H locs 0 0 (MQ below (gQ Γ (some (.int res.1)) res.2 N) args s 0 0 Γ.2.2.1) (F0 m 0 ls []) := by
  have hx := C.1
  have hb := C.2.1
  unfold fX9_check at h
  refine gx_aload_n (r := (some x0)) hx hb dX9_check_0 rfl (lv_at hl 0 rfl) ?_
  obtain ⟨_, eo1, h⟩ := ob h
  obtain ⟨r1, u1, e1, h⟩ := obI h
  refine gx_cV C hG hS [] rfl eo1 (tX9_bestMatch e1) qcX9_177 ⟨rfl, rfl, Nat.le_of_ble_eq_true rfl, Nat.le_of_ble_eq_true rfl⟩ ⟨Nat.zero_le _, Nat.zero_le _⟩ rfl hl.1 rfl (Nat.le_of_ble_eq_true rfl) (st1 := [.long r1]) rfl dX9_check_1 (fun H locs hG hS => ?_)
  refine lv_lstore_n (i := 1) (lv' := [(1, .long r1), (0, va_rf (some x0))]) hx hb dX9_check_4 rfl hl (by decide) rfl (fun ls hl => ?_)
  refine gx_aload_n (r := (some x0)) hx hb dX9_check_5 rfl (lv_at hl 1 rfl) ?_
  obtain ⟨v6, e6, h⟩ := ob h
  refine gx_getI C hG rfl e6 fgX9_66 dX9_check_6 ?_
  refine lv_istore_n (i := 3) (lv' := [(3, .int v6), (1, .long r1), (0, va_rf (some x0))]) hx hb dX9_check_9 rfl hl (by decide) rfl (fun ls hl => ?_)
  refine gx_aload_n (r := (some x0)) hx hb dX9_check_10 rfl (lv_at hl 2 rfl) ?_
  refine lv_iconst (v := 0) hx hb dX9_check_11 (by decide) ?_
  obtain ⟨u12, e12, h⟩ := ob h
  refine gx_put C hG hS rfl e12 fgX9_66 fpX9_66 (fun q => by cases q) rfl rfl dX9_check_12 (fun H locs hG hS => ?_)
  refine lv_iconst (v := 0) hx hb dX9_check_15 (by decide) ?_
  refine lv_istore (i := 4) (lv' := [(4, .int (0 : Int32)), (3, .int v6), (1, .long r1), (0, va_rf (some x0))]) hx hb dX9_check_16 hl (by decide) rfl (fun ls hl => ?_)
  exact wX9_check_18 C  FU h hG hS (lv_sub hl [3, 2, 1, 0] rfl)
theorem tX9_check {Γ : gEnv} {N : Nat} {x0 : Nat} {u v : gM} {r : Int32} (h : fX9_check x0 u = some (r, v)) : Met l yX9_check (Cond.code yX9_check cX9_check 5 (some .int) :: gW) rmX9_check (va_Pc [va_rf (some x0)] (gPre Γ u N)) (gQ Γ (some (.int r)) v N) 0 0 Γ.2.2.1 :=
  gx_met (nm := "check") ⟨by decide +kernel, rfl, rfl⟩ (Nat.le_of_ble_eq_true rfl) (fun p e s m below meth c ls C hG hl => wX9_check C h hG va_S.rf hl)
abbrev rmX9_thingsThatAre : Room := { frames := 3, cells := 0, slots := 0, locals := 64 }
def fX9_thingsThatAre_36 (x0 : Nat) (x1 : Int32) (x2 : Int32) (x3 : Int32) (u : gM) (k4 : Nat → Int32 → Int32 → Int32 → gM → Option (Int32 × gM)) : Option (Int32 × gM) :=
  k4 x0 x1 x2 (x3 + (1 : Int32)) u
set_option maxHeartbeats 4000000 in
set_option maxRecDepth 20000 in
theorem wX9_thingsThatAre_36  (C : gC p s m args meth c cX9_thingsThatAre 4 (some .int) RX9 "thingsThatAre" Γ){x0 : Nat} {x1 : Int32} {x2 : Int32} {x3 : Int32} {u : gM} {res : Int32 × gM} {k4 : Nat → Int32 → Int32 → Int32 → gM → Option (Int32 × gM)} (hk4 : ∀ (x0 : Nat) (x1 : Int32) (x2 : Int32) (x3 : Int32) (u : gM) (H : Heap) (locs : List Loc) (ls : Array Slot), k4 x0 x1 x2 x3 u = some res → gAg Γ u N H → va_S Γ.2.2.1 s.heap H locs → lv_has ls 4 [(0, va_rf (some x0)), (1, .int x1), (2, .int x2), (3, .int x3)] → W p l e rmX9_thingsThatAre s m args below meth c H locs 0 0 (MQ below (gQ Γ (some (.int res.1)) res.2 N) args s 0 0 Γ.2.2.1) (F0 m 4 ls [])) (h : fX9_thingsThatAre_36 x0 x1 x2 x3 u k4 = some res) {H : Heap} {locs : List Loc} (hG : gAg Γ u N H) (hS : va_S Γ.2.2.1 s.heap H locs) {ls : Array Slot} (hl : lv_has ls 4 [(0, va_rf (some x0)), (1, .int x1), (2, .int x2), (3, .int x3)]) : W p l e rmX9_thingsThatAre s m args below meth c H locs 0 0 (MQ below (gQ Γ (some (.int res.1)) res.2 N) args s 0 0 Γ.2.2.1) (F0 m 36 ls []) := by
  have hx := C.1
  have hb := C.2.1
  unfold fX9_thingsThatAre_36 at h
  refine lv_iinc (v := x3 + (1 : Int32)) (lv' := [(3, .int (x3 + (1 : Int32))), (0, va_rf (some x0)), (1, .int x1), (2, .int x2)]) hx hb dX9_thingsThatAre_36 hl (k := 3) rfl rfl (by decide) rfl (fun ls hl => ?_)
  refine lv_goto (tgt := 4) hx hb dX9_thingsThatAre_39 (by decide) ?_
  exact hk4 _ _ _ _ _ _ _ _ h hG hS (lv_sub hl [1, 2, 3, 0] rfl)
def fX9_thingsThatAre_4_b (x0 : Nat) (x1 : Int32) (x2 : Int32) (x3 : Int32) (u : gM) (k4 : Nat → Int32 → Int32 → Int32 → gM → Option (Int32 × gM)) : Option (Int32 × gM) :=
  (gR [10] 0 u x0).bind fun v6 =>
  (v6).bind fun a9 =>
  (gO [0] u a9).bind fun _ =>
  bI (fJx4a65c_size_8abf5 a9 u) fun r9 u9 =>
  if r9 ≤ x3 then (
    some (x2, u9)
  ) else (
    (gR [10] 0 u9 x0).bind fun v16 =>
    (v16).bind fun a20 =>
    (gO [0] u9 a20).bind fun _ =>
    bI (fJx4a65c_get_915e3 a20 x3 u9) fun r20 u20 =>
    (kC [9, 6] u20 r20).bind fun _ =>
    (r20).bind fun a26 =>
    (gI [9, 6] 6 u20 a26).bind fun v26 =>
    if v26 = x1 then (
      fX9_thingsThatAre_36 x0 x1 (x2 + (1 : Int32)) x3 u20 k4
    ) else (
      fX9_thingsThatAre_36 x0 x1 x2 x3 u20 k4
    )
  )
set_option maxHeartbeats 4000000 in
set_option maxRecDepth 20000 in
theorem wX9_thingsThatAre_4_b  (C : gC p s m args meth c cX9_thingsThatAre 4 (some .int) RX9 "thingsThatAre" Γ){x0 : Nat} {x1 : Int32} {x2 : Int32} {x3 : Int32} {u : gM} {res : Int32 × gM} {k4 : Nat → Int32 → Int32 → Int32 → gM → Option (Int32 × gM)} (hk4 : ∀ (x0 : Nat) (x1 : Int32) (x2 : Int32) (x3 : Int32) (u : gM) (H : Heap) (locs : List Loc) (ls : Array Slot), k4 x0 x1 x2 x3 u = some res → gAg Γ u N H → va_S Γ.2.2.1 s.heap H locs → lv_has ls 4 [(0, va_rf (some x0)), (1, .int x1), (2, .int x2), (3, .int x3)] → W p l e rmX9_thingsThatAre s m args below meth c H locs 0 0 (MQ below (gQ Γ (some (.int res.1)) res.2 N) args s 0 0 Γ.2.2.1) (F0 m 4 ls [])) (h : fX9_thingsThatAre_4_b x0 x1 x2 x3 u k4 = some res) {H : Heap} {locs : List Loc} (hG : gAg Γ u N H) (hS : va_S Γ.2.2.1 s.heap H locs) {ls : Array Slot} (hl : lv_has ls 4 [(0, va_rf (some x0)), (1, .int x1), (2, .int x2), (3, .int x3)]) : W p l e rmX9_thingsThatAre s m args below meth c H locs 0 0 (MQ below (gQ Γ (some (.int res.1)) res.2 N) args s 0 0 Γ.2.2.1) (F0 m 4 ls []) := by
  have hx := C.1
  have hb := C.2.1
  unfold fX9_thingsThatAre_4_b at h
  refine lv_iload_n hx hb dX9_thingsThatAre_4 rfl (lv_at hl 3 rfl) ?_
  refine gx_aload_n (r := (some x0)) hx hb dX9_thingsThatAre_5 rfl (lv_at hl 0 rfl) ?_
  obtain ⟨v6, e6, h⟩ := ob h
  refine gx_getR C hG rfl e6 fgX9_10 dX9_thingsThatAre_6 ?_
  obtain ⟨a9, na9, h⟩ := ob h
  obtain ⟨_, eo9, h⟩ := ob h
  obtain ⟨r9, u9, e9, h⟩ := obI h
  refine gx_cV C hG hS [] na9 eo9 (tJx4a65c_size_8abf5 e9) qcX9_93 ⟨rfl, rfl, Nat.le_of_ble_eq_true rfl, Nat.le_of_ble_eq_true rfl⟩ ⟨Nat.zero_le _, Nat.zero_le _⟩ rfl hl.1 rfl (Nat.le_of_ble_eq_true rfl) (st1 := [.int r9, .int x3]) rfl dX9_thingsThatAre_9 (fun H locs hG hS => ?_)
  refine lv_icmp_ge (tgt := 42) hx hb dX9_thingsThatAre_12 (by decide) (fun hc => ?_) (fun hc => ?_)
  · replace h := it_pos hc h
    refine lv_iload_n hx hb dX9_thingsThatAre_42 rfl (lv_at hl 2 rfl) ?_
    cases Option.some.inj h
    exact gx_reti C hG hS dX9_thingsThatAre_43
  · replace h := it_neg hc h
    refine gx_aload_n (r := (some x0)) hx hb dX9_thingsThatAre_15 rfl (lv_at hl 0 rfl) ?_
    obtain ⟨v16, e16, h⟩ := ob h
    refine gx_getR C hG rfl e16 fgX9_10 dX9_thingsThatAre_16 ?_
    refine lv_iload_n hx hb dX9_thingsThatAre_19 rfl (lv_at hl 3 rfl) ?_
    obtain ⟨a20, na20, h⟩ := ob h
    obtain ⟨_, eo20, h⟩ := ob h
    obtain ⟨r20, u20, e20, h⟩ := obI h
    refine gx_cV C hG hS [.int x3] na20 eo20 (tJx4a65c_get_915e3 e20) qcX9_144 ⟨rfl, rfl, Nat.le_of_ble_eq_true rfl, Nat.le_of_ble_eq_true rfl⟩ ⟨Nat.zero_le _, Nat.zero_le _⟩ rfl hl.1 rfl (Nat.le_of_ble_eq_true rfl) (st1 := [va_rf r20]) rfl dX9_thingsThatAre_20 (fun H locs hG hS => ?_)
    obtain ⟨_, e23, h⟩ := ob h
    refine gx_cast C hG e23 ckX9_102 dX9_thingsThatAre_23 ?_
    obtain ⟨a26, na26, h⟩ := ob h
    obtain ⟨v26, e26, h⟩ := ob h
    refine gx_getI C hG na26 e26 fgX9_138 dX9_thingsThatAre_26 ?_
    refine lv_iload_n hx hb dX9_thingsThatAre_29 rfl (lv_at hl 1 rfl) ?_
    refine lv_icmp_ne (tgt := 36) hx hb dX9_thingsThatAre_30 (by decide) (fun hc => ?_) (fun hc => ?_)
    · replace h := it_neg hc h
      exact wX9_thingsThatAre_36 C hk4 h hG hS (lv_sub hl [0, 1, 2, 3] rfl)
    · replace h := it_pos hc h
      refine lv_iinc (v := x2 + (1 : Int32)) (lv' := [(2, .int (x2 + (1 : Int32))), (0, va_rf (some x0)), (1, .int x1), (3, .int x3)]) hx hb dX9_thingsThatAre_33 hl (k := 2) rfl rfl (by decide) rfl (fun ls hl => ?_)
      exact wX9_thingsThatAre_36 C hk4 h hG hS (lv_sub hl [1, 2, 0, 3] rfl)
def fX9_thingsThatAre_4 : Nat → Nat → Int32 → Int32 → Int32 → gM → Option (Int32 × gM)
  | 0 => fun _ _ _ _ _ => none
  | n + 1 => fun x0 x1 x2 x3 u => fX9_thingsThatAre_4_b x0 x1 x2 x3 u (fX9_thingsThatAre_4 n) 
theorem wX9_thingsThatAre_4 (C : gC p s m args meth c cX9_thingsThatAre 4 (some .int) RX9 "thingsThatAre" Γ) {res : Int32 × gM} (n : Nat) : ∀ {x0 : Nat} {x1 : Int32} {x2 : Int32} {x3 : Int32} {u : gM} {H : Heap} {locs : List Loc} {ls : Array Slot}, fX9_thingsThatAre_4 n x0 x1 x2 x3 u = some res → gAg Γ u N H → va_S Γ.2.2.1 s.heap H locs → lv_has ls 4 [(0, va_rf (some x0)), (1, .int x1), (2, .int x2), (3, .int x3)] → W p l e rmX9_thingsThatAre s m args below meth c H locs 0 0 (MQ below (gQ Γ (some (.int res.1)) res.2 N) args s 0 0 Γ.2.2.1) (F0 m 4 ls []) := by
  induction n with
  | zero => intro _ _ _ _ _ _ _ _ h _ _ _; cases (show (none : Option (Int32 × gM)) = some res from h)
  | succ n ih => intro _ _ _ _ _ _ _ _ h hG hS hl; exact wX9_thingsThatAre_4_b C (fun _ _ _ _ _ _ _ _ h hG hS hl => ih h hG hS hl) h hG hS hl
def fX9_thingsThatAre (x0 : Nat) (x1 : Int32) (u : gM) : Option (Int32 × gM) :=
  fX9_thingsThatAre_4  FU x0 x1 (0 : Int32) (0 : Int32) u
set_option maxHeartbeats 4000000 in
set_option maxRecDepth 20000 in
theorem wX9_thingsThatAre  (C : gC p s m args meth c cX9_thingsThatAre 4 (some .int) RX9 "thingsThatAre" Γ){x0 : Nat} {x1 : Int32} {u : gM} {res : Int32 × gM} (h : fX9_thingsThatAre x0 x1 u = some res) {H : Heap} {locs : List Loc} (hG : gAg Γ u N H) (hS : va_S Γ.2.2.1 s.heap H locs) {ls : Array Slot} (hl : lv_has ls 4 [(0, va_rf (some x0)), (1, .int x1)]) : W p l e rmX9_thingsThatAre s m args below meth c H locs 0 0 (MQ below (gQ Γ (some (.int res.1)) res.2 N) args s 0 0 Γ.2.2.1) (F0 m 0 ls []) := by
  have hx := C.1
  have hb := C.2.1
  unfold fX9_thingsThatAre at h
  refine lv_iconst (v := 0) hx hb dX9_thingsThatAre_0 (by decide) ?_
  refine lv_istore_n (i := 2) (lv' := [(2, .int (0 : Int32)), (0, va_rf (some x0)), (1, .int x1)]) hx hb dX9_thingsThatAre_1 rfl hl (by decide) rfl (fun ls hl => ?_)
  refine lv_iconst (v := 0) hx hb dX9_thingsThatAre_2 (by decide) ?_
  refine lv_istore_n (i := 3) (lv' := [(3, .int (0 : Int32)), (2, .int (0 : Int32)), (0, va_rf (some x0)), (1, .int x1)]) hx hb dX9_thingsThatAre_3 rfl hl (by decide) rfl (fun ls hl => ?_)
  exact wX9_thingsThatAre_4 C  FU h hG hS (lv_sub hl [2, 3, 1, 0] rfl)
theorem tX9_thingsThatAre {Γ : gEnv} {N : Nat} {x0 : Nat} {x1 : Int32} {u v : gM} {r : Int32} (h : fX9_thingsThatAre x0 x1 u = some (r, v)) : Met l yX9_thingsThatAre (Cond.code yX9_thingsThatAre cX9_thingsThatAre 4 (some .int) :: gW) rmX9_thingsThatAre (va_Pc [va_rf (some x0), .int x1] (gPre Γ u N)) (gQ Γ (some (.int r)) v N) 0 0 Γ.2.2.1 :=
  gx_met (nm := "thingsThatAre") ⟨by decide +kernel, rfl, rfl⟩ (Nat.le_of_ble_eq_true rfl) (fun p e s m below meth c ls C hG hl => wX9_thingsThatAre C h hG va_S.rf hl)
abbrev rmX9_count : Room := { frames := 4, cells := 0, slots := 0, locals := 87 }
def fX9_count (x0 : Nat) (x1 : Int32) (u : gM) : Option (Int32 × gM) :=
  if x1 = 0 then (
    (gR [10] 0 u x0).bind fun v61 =>
    (v61).bind fun a64 =>
    (gO [0] u a64).bind fun _ =>
    bI (fJx4a65c_size_8abf5 a64 u) fun r64 u64 =>
    some (r64, u64)
  ) else (
  if x1 = 1 then (
    (gO [10] u x0).bind fun _ =>
    bI (fX9_thingsThatAre x0 (0 : Int32) u) fun r70 u70 =>
    some (r70, u70)
  ) else (
  if x1 = 2 then (
    (gO [10] u x0).bind fun _ =>
    bI (fX9_thingsThatAre x0 (1 : Int32) u) fun r76 u76 =>
    some (r76, u76)
  ) else (
  if x1 = 3 then (
    (gO [10] u x0).bind fun _ =>
    bI (fX9_thingsThatAre x0 (2 : Int32) u) fun r82 u82 =>
    some (r82, u82)
  ) else (
  if x1 = 4 then (
    (gO [10] u x0).bind fun _ =>
    bI (fX9_thingsThatAre x0 (3 : Int32) u) fun r88 u88 =>
    some (r88, u88)
  ) else (
  if x1 = 5 then (
    (gR [10] 1 u x0).bind fun v93 =>
    (v93).bind fun a96 =>
    (gO [0] u a96).bind fun _ =>
    bI (fJx4a65c_size_8abf5 a96 u) fun r96 u96 =>
    some (r96, u96)
  ) else (
  if x1 = 6 then (
    (gR [10] 2 u x0).bind fun v101 =>
    (v101).bind fun a104 =>
    (gO [0] u a104).bind fun _ =>
    bI (fJx4a65c_size_8abf5 a104 u) fun r104 u104 =>
    some (r104, u104)
  ) else (
  if x1 = 7 then (
    (gI [10] 13 u x0).bind fun v109 =>
    some (v109, u)
  ) else (
  if x1 = 8 then (
    (gR [10] 11 u x0).bind fun v114 =>
    (v114).bind fun a117 =>
    (gI [7] 2 u a117).bind fun v117 =>
    some (v117, u)
  ) else (
  if x1 = 9 then (
    (gI [10] 12 u x0).bind fun v122 =>
    some (v122, u)
  ) else (
  if x1 = 10 then (
    (gI [10] 15 u x0).bind fun v127 =>
    some (v127, u)
  ) else (
    (gO [10] u x0).bind fun _ =>
    bI (fX9_finding x0 (1 : Int32) u) fun r133 u133 =>
    some (r133, u133)
  )))))))))))
set_option maxHeartbeats 4000000 in
set_option maxRecDepth 20000 in
theorem wX9_count  (C : gC p s m args meth c cX9_count 2 (some .int) RX9 "count" Γ){x0 : Nat} {x1 : Int32} {u : gM} {res : Int32 × gM} (h : fX9_count x0 x1 u = some res) {H : Heap} {locs : List Loc} (hG : gAg Γ u N H) (hS : va_S Γ.2.2.1 s.heap H locs) {ls : Array Slot} (hl : lv_has ls 2 [(0, va_rf (some x0)), (1, .int x1)]) : W p l e rmX9_count s m args below meth c H locs 0 0 (MQ below (gQ Γ (some (.int res.1)) res.2 N) args s 0 0 Γ.2.2.1) (F0 m 0 ls []) := by
  have hx := C.1
  have hb := C.2.1
  unfold fX9_count at h
  refine lv_iload_n hx hb dX9_count_0 rfl (lv_at hl 1 rfl) ?_
  by_cases hc0 : x1 = 0
  · replace h := it_pos hc0 h
    refine lv_tableIn (tgt := 60) (off := 59) hx hb dX9_count_1 (by rw [hc0]; decide) (by rw [hc0]; decide) (by rw [hc0]; rfl) (by decide) ?_
    refine gx_aload_n (r := (some x0)) hx hb dX9_count_60 rfl (lv_at hl 0 rfl) ?_
    obtain ⟨v61, e61, h⟩ := ob h
    refine gx_getR C hG rfl e61 fgX9_10 dX9_count_61 ?_
    obtain ⟨a64, na64, h⟩ := ob h
    obtain ⟨_, eo64, h⟩ := ob h
    obtain ⟨r64, u64, e64, h⟩ := obI h
    refine gx_cV C hG hS [] na64 eo64 (tJx4a65c_size_8abf5 e64) qcX9_93 ⟨rfl, rfl, Nat.le_of_ble_eq_true rfl, Nat.le_of_ble_eq_true rfl⟩ ⟨Nat.zero_le _, Nat.zero_le _⟩ rfl hl.1 rfl (Nat.le_of_ble_eq_true rfl) (st1 := [.int r64]) rfl dX9_count_64 (fun H locs hG hS => ?_)
    cases Option.some.inj h
    exact gx_reti C hG hS dX9_count_67
  replace h := it_neg hc0 h
  by_cases hc1 : x1 = 1
  · replace h := it_pos hc1 h
    refine lv_tableIn (tgt := 68) (off := 67) hx hb dX9_count_1 (by rw [hc1]; decide) (by rw [hc1]; decide) (by rw [hc1]; rfl) (by decide) ?_
    refine gx_aload_n (r := (some x0)) hx hb dX9_count_68 rfl (lv_at hl 0 rfl) ?_
    refine lv_iconst (v := 0) hx hb dX9_count_69 (by decide) ?_
    obtain ⟨_, eo70, h⟩ := ob h
    obtain ⟨r70, u70, e70, h⟩ := obI h
    refine gx_cV C hG hS [.int (0 : Int32)] rfl eo70 (tX9_thingsThatAre e70) qcX9_313 ⟨rfl, rfl, Nat.le_of_ble_eq_true rfl, Nat.le_of_ble_eq_true rfl⟩ ⟨Nat.zero_le _, Nat.zero_le _⟩ rfl hl.1 rfl (Nat.le_of_ble_eq_true rfl) (st1 := [.int r70]) rfl dX9_count_70 (fun H locs hG hS => ?_)
    cases Option.some.inj h
    exact gx_reti C hG hS dX9_count_73
  replace h := it_neg hc1 h
  by_cases hc2 : x1 = 2
  · replace h := it_pos hc2 h
    refine lv_tableIn (tgt := 74) (off := 73) hx hb dX9_count_1 (by rw [hc2]; decide) (by rw [hc2]; decide) (by rw [hc2]; rfl) (by decide) ?_
    refine gx_aload_n (r := (some x0)) hx hb dX9_count_74 rfl (lv_at hl 0 rfl) ?_
    refine lv_iconst (v := 1) hx hb dX9_count_75 (by decide) ?_
    obtain ⟨_, eo76, h⟩ := ob h
    obtain ⟨r76, u76, e76, h⟩ := obI h
    refine gx_cV C hG hS [.int (1 : Int32)] rfl eo76 (tX9_thingsThatAre e76) qcX9_313 ⟨rfl, rfl, Nat.le_of_ble_eq_true rfl, Nat.le_of_ble_eq_true rfl⟩ ⟨Nat.zero_le _, Nat.zero_le _⟩ rfl hl.1 rfl (Nat.le_of_ble_eq_true rfl) (st1 := [.int r76]) rfl dX9_count_76 (fun H locs hG hS => ?_)
    cases Option.some.inj h
    exact gx_reti C hG hS dX9_count_79
  replace h := it_neg hc2 h
  by_cases hc3 : x1 = 3
  · replace h := it_pos hc3 h
    refine lv_tableIn (tgt := 80) (off := 79) hx hb dX9_count_1 (by rw [hc3]; decide) (by rw [hc3]; decide) (by rw [hc3]; rfl) (by decide) ?_
    refine gx_aload_n (r := (some x0)) hx hb dX9_count_80 rfl (lv_at hl 0 rfl) ?_
    refine lv_iconst (v := 2) hx hb dX9_count_81 (by decide) ?_
    obtain ⟨_, eo82, h⟩ := ob h
    obtain ⟨r82, u82, e82, h⟩ := obI h
    refine gx_cV C hG hS [.int (2 : Int32)] rfl eo82 (tX9_thingsThatAre e82) qcX9_313 ⟨rfl, rfl, Nat.le_of_ble_eq_true rfl, Nat.le_of_ble_eq_true rfl⟩ ⟨Nat.zero_le _, Nat.zero_le _⟩ rfl hl.1 rfl (Nat.le_of_ble_eq_true rfl) (st1 := [.int r82]) rfl dX9_count_82 (fun H locs hG hS => ?_)
    cases Option.some.inj h
    exact gx_reti C hG hS dX9_count_85
  replace h := it_neg hc3 h
  by_cases hc4 : x1 = 4
  · replace h := it_pos hc4 h
    refine lv_tableIn (tgt := 86) (off := 85) hx hb dX9_count_1 (by rw [hc4]; decide) (by rw [hc4]; decide) (by rw [hc4]; rfl) (by decide) ?_
    refine gx_aload_n (r := (some x0)) hx hb dX9_count_86 rfl (lv_at hl 0 rfl) ?_
    refine lv_iconst (v := 3) hx hb dX9_count_87 (by decide) ?_
    obtain ⟨_, eo88, h⟩ := ob h
    obtain ⟨r88, u88, e88, h⟩ := obI h
    refine gx_cV C hG hS [.int (3 : Int32)] rfl eo88 (tX9_thingsThatAre e88) qcX9_313 ⟨rfl, rfl, Nat.le_of_ble_eq_true rfl, Nat.le_of_ble_eq_true rfl⟩ ⟨Nat.zero_le _, Nat.zero_le _⟩ rfl hl.1 rfl (Nat.le_of_ble_eq_true rfl) (st1 := [.int r88]) rfl dX9_count_88 (fun H locs hG hS => ?_)
    cases Option.some.inj h
    exact gx_reti C hG hS dX9_count_91
  replace h := it_neg hc4 h
  by_cases hc5 : x1 = 5
  · replace h := it_pos hc5 h
    refine lv_tableIn (tgt := 92) (off := 91) hx hb dX9_count_1 (by rw [hc5]; decide) (by rw [hc5]; decide) (by rw [hc5]; rfl) (by decide) ?_
    refine gx_aload_n (r := (some x0)) hx hb dX9_count_92 rfl (lv_at hl 0 rfl) ?_
    obtain ⟨v93, e93, h⟩ := ob h
    refine gx_getR C hG rfl e93 fgX9_16 dX9_count_93 ?_
    obtain ⟨a96, na96, h⟩ := ob h
    obtain ⟨_, eo96, h⟩ := ob h
    obtain ⟨r96, u96, e96, h⟩ := obI h
    refine gx_cV C hG hS [] na96 eo96 (tJx4a65c_size_8abf5 e96) qcX9_93 ⟨rfl, rfl, Nat.le_of_ble_eq_true rfl, Nat.le_of_ble_eq_true rfl⟩ ⟨Nat.zero_le _, Nat.zero_le _⟩ rfl hl.1 rfl (Nat.le_of_ble_eq_true rfl) (st1 := [.int r96]) rfl dX9_count_96 (fun H locs hG hS => ?_)
    cases Option.some.inj h
    exact gx_reti C hG hS dX9_count_99
  replace h := it_neg hc5 h
  by_cases hc6 : x1 = 6
  · replace h := it_pos hc6 h
    refine lv_tableIn (tgt := 100) (off := 99) hx hb dX9_count_1 (by rw [hc6]; decide) (by rw [hc6]; decide) (by rw [hc6]; rfl) (by decide) ?_
    refine gx_aload_n (r := (some x0)) hx hb dX9_count_100 rfl (lv_at hl 0 rfl) ?_
    obtain ⟨v101, e101, h⟩ := ob h
    refine gx_getR C hG rfl e101 fgX9_19 dX9_count_101 ?_
    obtain ⟨a104, na104, h⟩ := ob h
    obtain ⟨_, eo104, h⟩ := ob h
    obtain ⟨r104, u104, e104, h⟩ := obI h
    refine gx_cV C hG hS [] na104 eo104 (tJx4a65c_size_8abf5 e104) qcX9_93 ⟨rfl, rfl, Nat.le_of_ble_eq_true rfl, Nat.le_of_ble_eq_true rfl⟩ ⟨Nat.zero_le _, Nat.zero_le _⟩ rfl hl.1 rfl (Nat.le_of_ble_eq_true rfl) (st1 := [.int r104]) rfl dX9_count_104 (fun H locs hG hS => ?_)
    cases Option.some.inj h
    exact gx_reti C hG hS dX9_count_107
  replace h := it_neg hc6 h
  by_cases hc7 : x1 = 7
  · replace h := it_pos hc7 h
    refine lv_tableIn (tgt := 108) (off := 107) hx hb dX9_count_1 (by rw [hc7]; decide) (by rw [hc7]; decide) (by rw [hc7]; rfl) (by decide) ?_
    refine gx_aload_n (r := (some x0)) hx hb dX9_count_108 rfl (lv_at hl 0 rfl) ?_
    obtain ⟨v109, e109, h⟩ := ob h
    refine gx_getI C hG rfl e109 fgX9_70 dX9_count_109 ?_
    cases Option.some.inj h
    exact gx_reti C hG hS dX9_count_112
  replace h := it_neg hc7 h
  by_cases hc8 : x1 = 8
  · replace h := it_pos hc8 h
    refine lv_tableIn (tgt := 113) (off := 112) hx hb dX9_count_1 (by rw [hc8]; decide) (by rw [hc8]; decide) (by rw [hc8]; rfl) (by decide) ?_
    refine gx_aload_n (r := (some x0)) hx hb dX9_count_113 rfl (lv_at hl 0 rfl) ?_
    obtain ⟨v114, e114, h⟩ := ob h
    refine gx_getR C hG rfl e114 fgX9_62 dX9_count_114 ?_
    obtain ⟨a117, na117, h⟩ := ob h
    obtain ⟨v117, e117, h⟩ := ob h
    refine gx_getI C hG na117 e117 fgX9_282 dX9_count_117 ?_
    cases Option.some.inj h
    exact gx_reti C hG hS dX9_count_120
  replace h := it_neg hc8 h
  by_cases hc9 : x1 = 9
  · replace h := it_pos hc9 h
    refine lv_tableIn (tgt := 121) (off := 120) hx hb dX9_count_1 (by rw [hc9]; decide) (by rw [hc9]; decide) (by rw [hc9]; rfl) (by decide) ?_
    refine gx_aload_n (r := (some x0)) hx hb dX9_count_121 rfl (lv_at hl 0 rfl) ?_
    obtain ⟨v122, e122, h⟩ := ob h
    refine gx_getI C hG rfl e122 fgX9_66 dX9_count_122 ?_
    cases Option.some.inj h
    exact gx_reti C hG hS dX9_count_125
  replace h := it_neg hc9 h
  by_cases hc10 : x1 = 10
  · replace h := it_pos hc10 h
    refine lv_tableIn (tgt := 126) (off := 125) hx hb dX9_count_1 (by rw [hc10]; decide) (by rw [hc10]; decide) (by rw [hc10]; rfl) (by decide) ?_
    refine gx_aload_n (r := (some x0)) hx hb dX9_count_126 rfl (lv_at hl 0 rfl) ?_
    obtain ⟨v127, e127, h⟩ := ob h
    refine gx_getI C hG rfl e127 fgX9_76 dX9_count_127 ?_
    cases Option.some.inj h
    exact gx_reti C hG hS dX9_count_130
  replace h := it_neg hc10 h
  have hn0 := lv_neT hc0 (show (0 : Int32).toInt = 0 by decide)
  have hn1 := lv_neT hc1 (show (1 : Int32).toInt = 1 by decide)
  have hn2 := lv_neT hc2 (show (2 : Int32).toInt = 2 by decide)
  have hn3 := lv_neT hc3 (show (3 : Int32).toInt = 3 by decide)
  have hn4 := lv_neT hc4 (show (4 : Int32).toInt = 4 by decide)
  have hn5 := lv_neT hc5 (show (5 : Int32).toInt = 5 by decide)
  have hn6 := lv_neT hc6 (show (6 : Int32).toInt = 6 by decide)
  have hn7 := lv_neT hc7 (show (7 : Int32).toInt = 7 by decide)
  have hn8 := lv_neT hc8 (show (8 : Int32).toInt = 8 by decide)
  have hn9 := lv_neT hc9 (show (9 : Int32).toInt = 9 by decide)
  have hn10 := lv_neT hc10 (show (10 : Int32).toInt = 10 by decide)
  refine lv_tableOut (tgt := 131) hx hb dX9_count_1 (by omega) (by decide) ?_
  refine gx_aload_n (r := (some x0)) hx hb dX9_count_131 rfl (lv_at hl 0 rfl) ?_
  refine lv_iconst (v := 1) hx hb dX9_count_132 (by decide) ?_
  obtain ⟨_, eo133, h⟩ := ob h
  obtain ⟨r133, u133, e133, h⟩ := obI h
  refine gx_cV C hG hS [.int (1 : Int32)] rfl eo133 (tX9_finding e133) qcX9_89 ⟨rfl, rfl, Nat.le_of_ble_eq_true rfl, Nat.le_of_ble_eq_true rfl⟩ ⟨Nat.zero_le _, Nat.zero_le _⟩ rfl hl.1 rfl (Nat.le_of_ble_eq_true rfl) (st1 := [.int r133]) rfl dX9_count_133 (fun H locs hG hS => ?_)
  cases Option.some.inj h
  exact gx_reti C hG hS dX9_count_136
theorem tX9_count {Γ : gEnv} {N : Nat} {x0 : Nat} {x1 : Int32} {u v : gM} {r : Int32} (h : fX9_count x0 x1 u = some (r, v)) : Met l yX9_count (Cond.code yX9_count cX9_count 2 (some .int) :: gW) rmX9_count (va_Pc [va_rf (some x0), .int x1] (gPre Γ u N)) (gQ Γ (some (.int r)) v N) 0 0 Γ.2.2.1 :=
  gx_met (nm := "count") ⟨by decide +kernel, rfl, rfl⟩ (Nat.le_of_ble_eq_true rfl) (fun p e s m below meth c ls C hG hl => wX9_count C h hG va_S.rf hl)
abbrev rmX9_found : Room := { frames := 1, cells := 0, slots := 0, locals := 22 }
def fX9_found (x0 : Nat) (x1 : Int32) (u : gM) : Option (Int32 × gM) :=
  bI (fX9_within x1 (1 : Int32) (5 : Int32) u) fun r3 u3 =>
  if r3 = 0 then (
    (gO [10] u3 x0).bind fun _ =>
    bI (fX9_finding x0 (1 : Int32) u3) fun r20 u20 =>
    some (r20, u20)
  ) else (
    (gR [10] 5 u3 x0).bind fun v10 =>
    (v10).bind fun a14 =>
    (aI u3 a14 x1).bind fun v14 =>
    some (v14, u3)
  )
set_option maxHeartbeats 4000000 in
set_option maxRecDepth 20000 in
theorem wX9_found  (C : gC p s m args meth c cX9_found 2 (some .int) RX9 "found" Γ){x0 : Nat} {x1 : Int32} {u : gM} {res : Int32 × gM} (h : fX9_found x0 x1 u = some res) {H : Heap} {locs : List Loc} (hG : gAg Γ u N H) (hS : va_S Γ.2.2.1 s.heap H locs) {ls : Array Slot} (hl : lv_has ls 2 [(0, va_rf (some x0)), (1, .int x1)]) : W p l e rmX9_found s m args below meth c H locs 0 0 (MQ below (gQ Γ (some (.int res.1)) res.2 N) args s 0 0 Γ.2.2.1) (F0 m 0 ls []) := by
  have hx := C.1
  have hb := C.2.1
  unfold fX9_found at h
  refine lv_iload_n hx hb dX9_found_0 rfl (lv_at hl 1 rfl) ?_
  refine lv_iconst (v := 1) hx hb dX9_found_1 (by decide) ?_
  refine lv_iconst (v := 5) hx hb dX9_found_2 (by decide) ?_
  obtain ⟨r3, u3, e3, h⟩ := obI h
  refine gx_cS C hG hS [.int x1, .int (1 : Int32), .int (5 : Int32)] (tX9_within e3) qcX9_85 ⟨rfl, rfl, Nat.le_of_ble_eq_true rfl, Nat.le_of_ble_eq_true rfl⟩ ⟨Nat.zero_le _, Nat.zero_le _⟩ rfl hl.1 rfl (Nat.le_of_ble_eq_true rfl) (st1 := [.int r3]) rfl dX9_found_3 (fun H locs hG hS => ?_)
  refine lv_if_eq (tgt := 18) hx hb dX9_found_6 (by decide) (fun hc => ?_) (fun hc => ?_)
  · replace h := it_pos hc h
    refine gx_aload_n (r := (some x0)) hx hb dX9_found_18 rfl (lv_at hl 0 rfl) ?_
    refine lv_iconst (v := 1) hx hb dX9_found_19 (by decide) ?_
    obtain ⟨_, eo20, h⟩ := ob h
    obtain ⟨r20, u20, e20, h⟩ := obI h
    refine gx_cV C hG hS [.int (1 : Int32)] rfl eo20 (tX9_finding e20) qcX9_89 ⟨rfl, rfl, Nat.le_of_ble_eq_true rfl, Nat.le_of_ble_eq_true rfl⟩ ⟨Nat.zero_le _, Nat.zero_le _⟩ rfl hl.1 rfl (Nat.le_of_ble_eq_true rfl) (st1 := [.int r20]) rfl dX9_found_20 (fun H locs hG hS => ?_)
    cases Option.some.inj h
    exact gx_reti C hG hS dX9_found_23
  · replace h := it_neg hc h
    refine gx_aload_n (r := (some x0)) hx hb dX9_found_9 rfl (lv_at hl 0 rfl) ?_
    obtain ⟨v10, e10, h⟩ := ob h
    refine gx_getR C hG rfl e10 fgX9_29 dX9_found_10 ?_
    refine lv_iload_n hx hb dX9_found_13 rfl (lv_at hl 1 rfl) ?_
    obtain ⟨a14, na14, h⟩ := ob h
    obtain ⟨v14, e14, h⟩ := ob h
    refine gx_iald C hG na14 e14 dX9_found_14 ?_
    refine lv_goto (tgt := 23) hx hb dX9_found_15 (by decide) ?_
    cases Option.some.inj h
    exact gx_reti C hG hS dX9_found_23
theorem tX9_found {Γ : gEnv} {N : Nat} {x0 : Nat} {x1 : Int32} {u v : gM} {r : Int32} (h : fX9_found x0 x1 u = some (r, v)) : Met l yX9_found (Cond.code yX9_found cX9_found 2 (some .int) :: gW) rmX9_found (va_Pc [va_rf (some x0), .int x1] (gPre Γ u N)) (gQ Γ (some (.int r)) v N) 0 0 Γ.2.2.1 :=
  gx_met (nm := "found") ⟨by decide +kernel, rfl, rfl⟩ (Nat.le_of_ble_eq_true rfl) (fun p e s m below meth c ls C hG hl => wX9_found C h hG va_S.rf hl)
end
