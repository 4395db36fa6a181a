section
variable {p : Program} {l : Launch} {e : Env} {s : State} {m : MethodId} {args : Array Value} {below : List Frame} {meth : Method} {c : Code} {Γ : gEnv} {N sB : Nat}
abbrev rmX9_tell : Room := { frames := 1, cells := 0, slots := 0, locals := 21 }
def fX9_tell (x0 : Nat) (x1 : Int32) (u : gM) : Option (Int32 × gM) :=
  (gI [10] 12 u x0).bind fun v1 =>
  if v1 < (20 : Int32) then (
    (gR [10] 6 u x0).bind fun v16 =>
    (gI [10] 12 u x0).bind fun v20 =>
    (v16).bind fun a24 =>
    (uI u a24 v20 x1).bind fun u24 =>
    (gI [10] 12 u24 x0).bind fun v27 =>
    (pV [10] 12 (.int (v27 + (1 : Int32))) u24 x0).bind fun u32 =>
    (gI [10] 12 u32 x0).bind fun v36 =>
    some (v36, u32)
  ) else (
    (gO [10] u x0).bind fun _ =>
    bI (fX9_finding x0 (4 : Int32) u) fun r11 u11 =>
    some (r11, u11)
  )
set_option maxHeartbeats 4000000 in
set_option maxRecDepth 20000 in
theorem wX9_tell  (C : gC p s m args meth c cX9_tell 2 (some .int) RX9 "tell" Γ){x0 : Nat} {x1 : Int32} {u : gM} {res : Int32 × gM} (h : fX9_tell x0 x1 u = some res) {H : Heap} {locs : List Loc} (hG : gAg Γ u N H) (hS : va_S Γ.2.2.1 s.heap H locs) {ls : Array Slot} (hl : lv_has ls 2 [(0, va_rf (some x0)), (1, .int x1)]) : W p l e rmX9_tell s m args below meth c H locs 0 0 (MQ below (gQ Γ (some (.int res.1)) res.2 N) args s 0 0 Γ.2.2.1) (F0 m 0 ls []) := by
  have hx := C.1
  have hb := C.2.1
  unfold fX9_tell at h
  refine gx_aload_n (r := (some x0)) hx hb dX9_tell_0 rfl (lv_at hl 0 rfl) ?_
  obtain ⟨v1, e1, h⟩ := ob h
  refine gx_getI C hG rfl e1 fgX9_66 dX9_tell_1 ?_
  refine lv_bipush (v := 20) hx hb dX9_tell_4 (by decide) ?_
  refine lv_icmp_lt (tgt := 15) hx hb dX9_tell_6 (by decide) (fun hc => ?_) (fun hc => ?_)
  · replace h := it_pos hc h
    refine gx_aload_n (r := (some x0)) hx hb dX9_tell_15 rfl (lv_at hl 0 rfl) ?_
    obtain ⟨v16, e16, h⟩ := ob h
    refine gx_getR C hG rfl e16 fgX9_32 dX9_tell_16 ?_
    refine gx_aload_n (r := (some x0)) hx hb dX9_tell_19 rfl (lv_at hl 0 rfl) ?_
    obtain ⟨v20, e20, h⟩ := ob h
    refine gx_getI C hG rfl e20 fgX9_66 dX9_tell_20 ?_
    refine lv_iload_n hx hb dX9_tell_23 rfl (lv_at hl 1 rfl) ?_
    obtain ⟨a24, na24, h⟩ := ob h
    obtain ⟨u24, e24, h⟩ := ob h
    refine gx_iast C hG hS na24 e24 dX9_tell_24 (fun H locs hG hS => ?_)
    refine gx_aload_n (r := (some x0)) hx hb dX9_tell_25 rfl (lv_at hl 0 rfl) ?_
    refine lv_dup hx hb dX9_tell_26 (by first | rfl | exact gx_cat _) ?_
    obtain ⟨v27, e27, h⟩ := ob h
    refine gx_getI C hG rfl e27 fgX9_66 dX9_tell_27 ?_
    refine lv_iconst (v := 1) hx hb dX9_tell_30 (by decide) ?_
    refine lv_iadd hx hb dX9_tell_31 ?_
    obtain ⟨u32, e32, h⟩ := ob h
    refine gx_put C hG hS rfl e32 fgX9_66 fpX9_66 (fun q => by cases q) rfl rfl dX9_tell_32 (fun H locs hG hS => ?_)
    refine gx_aload_n (r := (some x0)) hx hb dX9_tell_35 rfl (lv_at hl 0 rfl) ?_
    obtain ⟨v36, e36, h⟩ := ob h
    refine gx_getI C hG rfl e36 fgX9_66 dX9_tell_36 ?_
    cases Option.some.inj h
    exact gx_reti C hG hS dX9_tell_39
  · replace h := it_neg hc h
    refine gx_aload_n (r := (some x0)) hx hb dX9_tell_9 rfl (lv_at hl 0 rfl) ?_
    refine lv_iconst (v := 4) hx hb dX9_tell_10 (by decide) ?_
    obtain ⟨_, eo11, h⟩ := ob h
    obtain ⟨r11, u11, e11, h⟩ := obI h
    refine gx_cV C hG hS [.int (4 : Int32)] rfl eo11 (tX9_finding e11) qcX9_89 ⟨rfl, rfl, Nat.le_of_ble_eq_true rfl, Nat.le_of_ble_eq_true rfl⟩ ⟨Nat.zero_le _, Nat.zero_le _⟩ rfl hl.1 rfl (Nat.le_of_ble_eq_true rfl) (st1 := [.int r11]) rfl dX9_tell_11 (fun H locs hG hS => ?_)
    cases Option.some.inj h
    exact gx_reti C hG hS dX9_tell_14
theorem tX9_tell {Γ : gEnv} {N : Nat} {x0 : Nat} {x1 : Int32} {u v : gM} {r : Int32} (h : fX9_tell x0 x1 u = some (r, v)) : Met l yX9_tell (Cond.code yX9_tell cX9_tell 2 (some .int) :: gW) rmX9_tell (va_Pc [va_rf (some x0), .int x1] (gPre Γ u N)) (gQ Γ (some (.int r)) v N) 0 0 Γ.2.2.1 :=
  gx_met (nm := "tell") ⟨by decide +kernel, rfl, rfl⟩ (Nat.le_of_ble_eq_true rfl) (fun p e s m below meth c ls C hG hl => wX9_tell C h hG va_S.rf hl)
abbrev rmX9_check : Room := { frames := 4, cells := 0, slots := 0, locals := 86 }
def fX9_check_18_b (x0 : Nat) (x1 : Int64) (x3 : Int32) (x4 : Int32) (u : gM) (k18 : Nat → Int64 → Int32 → Int32 → gM → Option (Int32 × gM)) : Option (Int32 × gM) :=
  if x3 ≤ x4 then (
    some ((0 : Int32), u)
  ) else (
    (gR [10] 1 u x0).bind fun v27 =>
    (v27).bind fun a30 =>
    (gO [0] u a30).bind fun _ =>
    bI (fJx4a65c_size_8abf5 a30 u) fun r30 u30 =>
    if r30 ≤ x4 then (
      some ((1 : Int32) + x4, u30)
    ) else (
      (gR [10] 6 u30 x0).bind fun v37 =>
      (v37).bind fun a42 =>
      (aI u30 a42 x4).bind fun v42 =>
      bI (fX3_thingIn x1 x4 u30) fun r46 u46 =>
      if v42 = r46 then (
        k18 x0 x1 x3 (x4 + (1 : Int32)) u46
      ) else (
        some ((1 : Int32) + x4, u46)
      )
    )
  )
set_option maxHeartbeats 4000000 in
set_option maxRecDepth 20000 in
theorem wX9_check_18_b  (C : gC p s m args meth c cX9_check 5 (some .int) RX9 "check" Γ){x0 : Nat} {x1 : Int64} {x3 : Int32} {x4 : Int32} {u : gM} {res : Int32 × gM} {k18 : Nat → Int64 → Int32 → Int32 → gM → Option (Int32 × gM)} (hk18 : ∀ (x0 : Nat) (x1 : Int64) (x3 : Int32) (x4 : Int32) (u : gM) (H : Heap) (locs : List Loc) (ls : Array Slot), k18 x0 x1 x3 x4 u = some res → gAg Γ u N H → va_S Γ.2.2.1 s.heap H locs → lv_has ls 5 [(0, va_rf (some x0)), (1, .long x1), (3, .int x3), (4, .int x4)] → W p l e rmX9_check s m args below meth c H locs 0 0 (MQ below (gQ Γ (some (.int res.1)) res.2 N) args s 0 0 Γ.2.2.1) (F0 m 18 ls [])) (h : fX9_check_18_b x0 x1 x3 x4 u k18 = some res) {H : Heap} {locs : List Loc} (hG : gAg Γ u N H) (hS : va_S Γ.2.2.1 s.heap H locs) {ls : Array Slot} (hl : lv_has ls 5 [(0, va_rf (some x0)), (1, .long x1), (3, .int x3), (4, .int x4)]) : W p l e rmX9_check s m args below meth c H locs 0 0 (MQ below (gQ Γ (some (.int res.1)) res.2 N) args s 0 0 Γ.2.2.1) (F0 m 18 ls []) := by
  have hx := C.1
  have hb := C.2.1
  unfold fX9_check_18_b at h
  refine lv_iload hx hb dX9_check_18 (lv_at hl 3 rfl) ?_
  refine lv_iload_n hx hb dX9_check_20 rfl (lv_at hl 2 rfl) ?_
  refine lv_icmp_ge (tgt := 63) hx hb dX9_check_21 (by decide) (fun hc => ?_) (fun hc => ?_)
  · replace h := it_pos hc h
    refine lv_iconst (v := 0) hx hb dX9_check_63 (by decide) ?_
    cases Option.some.inj h
    exact gx_reti C hG hS dX9_check_64
  · replace h := it_neg hc h
    refine lv_iload hx hb dX9_check_24 (lv_at hl 3 rfl) ?_
    refine gx_aload_n (r := (some x0)) hx hb dX9_check_26 rfl (lv_at hl 0 rfl) ?_
    obtain ⟨v27, e27, h⟩ := ob h
    refine gx_getR C hG rfl e27 fgX9_16 dX9_check_27 ?_
    obtain ⟨a30, na30, h⟩ := ob h
    obtain ⟨_, eo30, h⟩ := ob h
    obtain ⟨r30, u30, e30, h⟩ := obI h
    refine gx_cV C hG hS [] na30 eo30 (tJx4a65c_size_8abf5 e30) qcX9_93 ⟨rfl, rfl, Nat.le_of_ble_eq_true rfl, Nat.le_of_ble_eq_true rfl⟩ ⟨Nat.zero_le _, Nat.zero_le _⟩ rfl hl.1 rfl (Nat.le_of_ble_eq_true rfl) (st1 := [.int r30, .int x4]) rfl dX9_check_30 (fun H locs hG hS => ?_)
    refine lv_icmp_ge (tgt := 52) hx hb dX9_check_33 (by decide) (fun hc => ?_) (fun hc => ?_)
    · replace h := it_pos hc h
      refine lv_iconst (v := 1) hx hb dX9_check_52 (by decide) ?_
      refine lv_iload hx hb dX9_check_53 (lv_at hl 3 rfl) ?_
      refine lv_iadd hx hb dX9_check_55 ?_
      cases Option.some.inj h
      exact gx_reti C hG hS dX9_check_56
    · replace h := it_neg hc h
      refine gx_aload_n (r := (some x0)) hx hb dX9_check_36 rfl (lv_at hl 0 rfl) ?_
      obtain ⟨v37, e37, h⟩ := ob h
      refine gx_getR C hG rfl e37 fgX9_32 dX9_check_37 ?_
      refine lv_iload hx hb dX9_check_40 (lv_at hl 3 rfl) ?_
      obtain ⟨a42, na42, h⟩ := ob h
      obtain ⟨v42, e42, h⟩ := ob h
      refine gx_iald C hG na42 e42 dX9_check_42 ?_
      refine lv_lload_n hx hb dX9_check_43 rfl (lv_at hl 1 rfl) ?_
      refine lv_iload hx hb dX9_check_44 (lv_at hl 3 rfl) ?_
      obtain ⟨r46, u46, e46, h⟩ := obI h
      refine gx_cS C hG hS [.long x1, .int x4] (tX3_thingIn e46) qcX9_185 ⟨rfl, rfl, Nat.le_of_ble_eq_true rfl, Nat.le_of_ble_eq_true rfl⟩ ⟨Nat.zero_le _, Nat.zero_le _⟩ rfl hl.1 rfl (Nat.le_of_ble_eq_true rfl) (st1 := [.int r46, .int v42]) rfl dX9_check_46 (fun H locs hG hS => ?_)
      refine lv_icmp_eq (tgt := 57) hx hb dX9_check_49 (by decide) (fun hc => ?_) (fun hc => ?_)
      · replace h := it_pos hc h
        refine lv_iinc (v := x4 + (1 : Int32)) (lv' := [(4, .int (x4 + (1 : Int32))), (0, va_rf (some x0)), (1, .long x1), (3, .int x3)]) hx hb dX9_check_57 hl (k := 3) rfl rfl (by decide) rfl (fun ls hl => ?_)
        refine lv_goto (tgt := 18) hx hb dX9_check_60 (by decide) ?_
        exact hk18 _ _ _ _ _ _ _ _ h hG hS (lv_sub hl [1, 2, 3, 0] rfl)
      · replace h := it_neg hc h
        refine lv_iconst (v := 1) hx hb dX9_check_52 (by decide) ?_
        refine lv_iload hx hb dX9_check_53 (lv_at hl 3 rfl) ?_
        refine lv_iadd hx hb dX9_check_55 ?_
        cases Option.some.inj h
        exact gx_reti C hG hS dX9_check_56
def fX9_check_18 : Nat → Nat → Int64 → Int32 → Int32 → gM → Option (Int32 × gM)
  | 0 => fun _ _ _ _ _ => none
  | n + 1 => fun x0 x1 x3 x4 u => fX9_check_18_b x0 x1 x3 x4 u (fX9_check_18 n) 
theorem wX9_check_18 (C : gC p s m args meth c cX9_check 5 (some .int) RX9 "check" Γ) {res : Int32 × gM} (n : Nat) : ∀ {x0 : Nat} {x1 : Int64} {x3 : Int32} {x4 : Int32} {u : gM} {H : Heap} {locs : List Loc} {ls : Array Slot}, fX9_check_18 n x0 x1 x3 x4 u = some res → gAg Γ u N H → va_S Γ.2.2.1 s.heap H locs → lv_has ls 5 [(0, va_rf (some x0)), (1, .long x1), (3, .int x3), (4, .int x4)] → W p l e rmX9_check s m args below meth c H locs 0 0 (MQ below (gQ Γ (some (.int res.1)) res.2 N) args s 0 0 Γ.2.2.1) (F0 m 18 ls []) := by
  induction n with
  | zero => intro _ _ _ _ _ _ _ _ h _ _ _; cases (show (none : Option (Int32 × gM)) = some res from h)
  | succ n ih => intro _ _ _ _ _ _ _ _ h hG hS hl; exact wX9_check_18_b C (fun _ _ _ _ _ _ _ _ h hG hS hl => ih h hG hS hl) h hG hS hl
def fX9_check (x0 : Nat) (u : gM) : Option (Int32 × gM) :=
  (gO [10] u x0).bind fun _ =>
  bI (fX9_bestMatch x0 u) fun r1 u1 =>
  (gI [10] 12 u1 x0).bind fun v6 =>
  (pV [10] 12 (.int (0 : Int32)) u1 x0).bind fun u12 =>
  fX9_check_18  FU x0 r1 v6 (0 : Int32) u12
set_option maxHeartbeats 4000000 in
set_option maxRecDepth 20000 in
theorem wX9_check  (C : gC p s m args meth c cX9_check 5 (some .int) RX9 "check" Γ){x0 : Nat} {u : gM} {res : Int32 × gM} (h : fX9_check x0 u = some res) {H : Heap} {locs : List Loc} (hG : gAg Γ u N H) (hS : va_S Γ.2.2.1 s.heap H locs) {ls : Array Slot} (hl : lv_has ls 5 [(0, va_rf (some x0))]) : W p l e rmX9_check s m args below meth c H locs 0 0 (MQ below (gQ Γ (some (.int res.1)) res.2 N) args s 0 0 Γ.2.2.1) (F0 m 0 ls []) := by
  have hx := C.1
  have hb := C.2.1
  unfold fX9_check at h
  refine gx_aload_n (r := (some x0)) hx hb dX9_check_0 rfl (lv_at hl 0 rfl) ?_
  obtain ⟨_, eo1, h⟩ := ob h
  obtain ⟨r1, u1, e1, h⟩ := obI h
  refine gx_cV C hG hS [] rfl eo1 (tX9_bestMatch e1) qcX9_177 ⟨rfl, rfl, Nat.le_of_ble_eq_true rfl, Nat.le_of_ble_eq_true rfl⟩ ⟨Nat.zero_le _, Nat.zero_le _⟩ rfl hl.1 rfl (Nat.le_of_ble_eq_true rfl) (st1 := [.long r1]) rfl dX9_check_1 (fun H locs hG hS => ?_)
  refine lv_lstore_n (i := 1) (lv' := [(1, .long r1), (0, va_rf (some x0))]) hx hb dX9_check_4 rfl hl (by decide) rfl (fun ls hl => ?_)
  refine gx_aload_n (r := (some x0)) hx hb dX9_check_5 rfl (lv_at hl 1 rfl) ?_
  obtain ⟨v6, e6, h⟩ := ob h
  refine gx_getI C hG rfl e6 fgX9_66 dX9_check_6 ?_
  refine lv_istore_n (i := 3) (lv' := [(3, .int v6), (1, .long r1), (0, va_rf (some x0))]) hx hb dX9_check_9 rfl hl (by decide) rfl (fun ls hl => ?_)
  refine gx_aload_n (r := (some x0)) hx hb dX9_check_10 rfl (lv_at hl 2 rfl) ?_
  refine lv_iconst (v := 0) hx hb dX9_check_11 (by decide) ?_
  obtain ⟨u12, e12, h⟩ := ob h
  refine gx_put C hG hS rfl e12 fgX9_66 fpX9_66 (fun q => by cases q) rfl rfl dX9_check_12 (fun H locs hG hS => ?_)
  refine lv_iconst (v := 0) hx hb dX9_check_15 (by decide) ?_
  refine lv_istore (i := 4) (lv' := [(4, .int (0 : Int32)), (3, .int v6), (1, .long r1), (0, va_rf (some x0))]) hx hb dX9_check_16 hl (by decide) rfl (fun ls hl => ?_)
  exact wX9_check_18 C  FU h hG hS (lv_sub hl [3, 2, 1, 0] rfl)
theorem tX9_check {Γ : gEnv} {N : Nat} {x0 : Nat} {u v : gM} {r : Int32} (h : fX9_check x0 u = some (r, v)) : Met l yX9_check (Cond.code yX9_check cX9_check 5 (some .int) :: gW) rmX9_check (va_Pc [va_rf (some x0)] (gPre Γ u N)) (gQ Γ (some (.int r)) v N) 0 0 Γ.2.2.1 :=
  gx_met (nm := "check") ⟨by decide +kernel, rfl, rfl⟩ (Nat.le_of_ble_eq_true rfl) (fun p e s m below meth c ls C hG hl => wX9_check C h hG va_S.rf hl)
abbrev rmX9_thingsThatAre : Room := { frames := 3, cells := 0, slots := 0, locals := 64 }
def fX9_thingsThatAre_36 (x0 : Nat) (x1 : Int32) (x2 : Int32) (x3 : Int32) (u : gM) (k4 : Nat → Int32 → Int32 → Int32 → gM → Option (Int32 × gM)) : Option (Int32 × gM) :=
  k4 x0 x1 x2 (x3 + (1 : Int32)) u
set_option maxHeartbeats 4000000 in
set_option maxRecDepth 20000 in
theorem wX9_thingsThatAre_36  (C : gC p s m args meth c cX9_thingsThatAre 4 (some .int) RX9 "thingsThatAre" Γ){x0 : Nat} {x1 : Int32} {x2 : Int32} {x3 : Int32} {u : gM} {res : Int32 × gM} {k4 : Nat → Int32 → Int32 → Int32 → gM → Option (Int32 × gM)} (hk4 : ∀ (x0 : Nat) (x1 : Int32) (x2 : Int32) (x3 : Int32) (u : gM) (H : Heap) (locs : List Loc) (ls : Array Slot), k4 x0 x1 x2 x3 u = some res → gAg Γ u N H → va_S Γ.2.2.1 s.heap H locs → lv_has ls 4 [(0, va_rf (some x0)), (1, .int x1), (2, .int x2), (3, .int x3)] → W p l e rmX9_thingsThatAre s m args below meth c H locs 0 0 (MQ below (gQ Γ (some (.int res.1)) res.2 N) args s 0 0 Γ.2.2.1) (F0 m 4 ls [])) (h : fX9_thingsThatAre_36 x0 x1 x2 x3 u k4 = some res) {H : Heap} {locs : List Loc} (hG : gAg Γ u N H) (hS : va_S Γ.2.2.1 s.heap H locs) {ls : Array Slot} (hl : lv_has ls 4 [(0, va_rf (some x0)), (1, .int x1), (2, .int x2), (3, .int x3)]) : W p l e rmX9_thingsThatAre s m args below meth c H locs 0 0 (MQ below (gQ Γ (some (.int res.1)) res.2 N) args s 0 0 Γ.2.2.1) (F0 m 36 ls []) := by
  have hx := C.1
  have hb := C.2.1
  unfold fX9_thingsThatAre_36 at h
  refine lv_iinc (v := x3 + (1 : Int32)) (lv' := [(3, .int (x3 + (1 : Int32))), (0, va_rf (some x0)), (1, .int x1), (2, .int x2)]) hx hb dX9_thingsThatAre_36 hl (k := 3) rfl rfl (by decide) rfl (fun ls hl => ?_)
  refine lv_goto (tgt := 4) hx hb dX9_thingsThatAre_39 (by decide) ?_
  exact hk4 _ _ _ _ _ _ _ _ h hG hS (lv_sub hl [1, 2, 3, 0] rfl)
def fX9_thingsThatAre_4_b (x0 : Nat) (x1 : Int32) (x2 : Int32) (x3 : Int32) (u : gM) (k4 : Nat → Int32 → Int32 → Int32 → gM → Option (Int32 × gM)) : Option (Int32 × gM) :=
  (gR [10] 0 u x0).bind fun v6 =>
  (v6).bind fun a9 =>
  (gO [0] u a9).bind fun _ =>
  bI (fJx4a65c_size_8abf5 a9 u) fun r9 u9 =>
  if r9 ≤ x3 then (
    some (x2, u9)
  ) else (
    (gR [10] 0 u9 x0).bind fun v16 =>
    (v16).bind fun a20 =>
    (gO [0] u9 a20).bind fun _ =>
    bI (fJx4a65c_get_915e3 a20 x3 u9) fun r20 u20 =>
    (kC [9, 6] u20 r20).bind fun _ =>
    (r20).bind fun a26 =>
    (gI [9, 6] 6 u20 a26).bind fun v26 =>
    if v26 = x1 then (
      fX9_thingsThatAre_36 x0 x1 (x2 + (1 : Int32)) x3 u20 k4
    ) else (
      fX9_thingsThatAre_36 x0 x1 x2 x3 u20 k4
    )
  )
set_option maxHeartbeats 4000000 in
set_option maxRecDepth 20000 in
theorem wX9_thingsThatAre_4_b  (C : gC p s m args meth c cX9_thingsThatAre 4 (some .int) RX9 "thingsThatAre" Γ){x0 : Nat} {x1 : Int32} {x2 : Int32} {x3 : Int32} {u : gM} {res : Int32 × gM} {k4 : Nat → Int32 → Int32 → Int32 → gM → Option (Int32 × gM)} (hk4 : ∀ (x0 : Nat) (x1 : Int32) (x2 : Int32) (x3 : Int32) (u : gM) (H : Heap) (locs : List Loc) (ls : Array Slot), k4 x0 x1 x2 x3 u = some res → gAg Γ u N H → va_S Γ.2.2.1 s.heap H locs → lv_has ls 4 [(0, va_rf (some x0)), (1, .int x1), (2, .int x2), (3, .int x3)] → W p l e rmX9_thingsThatAre s m args below meth c H locs 0 0 (MQ below (gQ Γ (some (.int res.1)) res.2 N) args s 0 0 Γ.2.2.1) (F0 m 4 ls [])) (h : fX9_thingsThatAre_4_b x0 x1 x2 x3 u k4 = some res) {H : Heap} {locs : List Loc} (hG : gAg Γ u N H) (hS : va_S Γ.2.2.1 s.heap H locs) {ls : Array Slot} (hl : lv_has ls 4 [(0, va_rf (some x0)), (1, .int x1), (2, .int x2), (3, .int x3)]) : W p l e rmX9_thingsThatAre s m args below meth c H locs 0 0 (MQ below (gQ Γ (some (.int res.1)) res.2 N) args s 0 0 Γ.2.2.1) (F0 m 4 ls []) := by
  have hx := C.1
  have hb := C.2.1
  unfold fX9_thingsThatAre_4_b at h
  refine lv_iload_n hx hb dX9_thingsThatAre_4 rfl (lv_at hl 3 rfl) ?_
  refine gx_aload_n (r := (some x0)) hx hb dX9_thingsThatAre_5 rfl (lv_at hl 0 rfl) ?_
  obtain ⟨v6, e6, h⟩ := ob h
  refine gx_getR C hG rfl e6 fgX9_10 dX9_thingsThatAre_6 ?_
  obtain ⟨a9, na9, h⟩ := ob h
  obtain ⟨_, eo9, h⟩ := ob h
  obtain ⟨r9, u9, e9, h⟩ := obI h
  refine gx_cV C hG hS [] na9 eo9 (tJx4a65c_size_8abf5 e9) qcX9_93 ⟨rfl, rfl, Nat.le_of_ble_eq_true rfl, Nat.le_of_ble_eq_true rfl⟩ ⟨Nat.zero_le _, Nat.zero_le _⟩ rfl hl.1 rfl (Nat.le_of_ble_eq_true rfl) (st1 := [.int r9, .int x3]) rfl dX9_thingsThatAre_9 (fun H locs hG hS => ?_)
  refine lv_icmp_ge (tgt := 42) hx hb dX9_thingsThatAre_12 (by decide) (fun hc => ?_) (fun hc => ?_)
  · replace h := it_pos hc h
    refine lv_iload_n hx hb dX9_thingsThatAre_42 rfl (lv_at hl 2 rfl) ?_
    cases Option.some.inj h
    exact gx_reti C hG hS dX9_thingsThatAre_43
  · replace h := it_neg hc h
    refine gx_aload_n (r := (some x0)) hx hb dX9_thingsThatAre_15 rfl (lv_at hl 0 rfl) ?_
    obtain ⟨v16, e16, h⟩ := ob h
    refine gx_getR C hG rfl e16 fgX9_10 dX9_thingsThatAre_16 ?_
    refine lv_iload_n hx hb dX9_thingsThatAre_19 rfl (lv_at hl 3 rfl) ?_
    obtain ⟨a20, na20, h⟩ := ob h
    obtain ⟨_, eo20, h⟩ := ob h
    obtain ⟨r20, u20, e20, h⟩ := obI h
    refine gx_cV C hG hS [.int x3] na20 eo20 (tJx4a65c_get_915e3 e20) qcX9_144 ⟨rfl, rfl, Nat.le_of_ble_eq_true rfl, Nat.le_of_ble_eq_true rfl⟩ ⟨Nat.zero_le _, Nat.zero_le _⟩ rfl hl.1 rfl (Nat.le_of_ble_eq_true rfl) (st1 := [va_rf r20]) rfl dX9_thingsThatAre_20 (fun H locs hG hS => ?_)
    obtain ⟨_, e23, h⟩ := ob h
    refine gx_cast C hG e23 ckX9_102 dX9_thingsThatAre_23 ?_
    obtain ⟨a26, na26, h⟩ := ob h
    obtain ⟨v26, e26, h⟩ := ob h
    refine gx_getI C hG na26 e26 fgX9_138 dX9_thingsThatAre_26 ?_
    refine lv_iload_n hx hb dX9_thingsThatAre_29 rfl (lv_at hl 1 rfl) ?_
    refine lv_icmp_ne (tgt := 36) hx hb dX9_thingsThatAre_30 (by decide) (fun hc => ?_) (fun hc => ?_)
    · replace h := it_neg hc h
      exact wX9_thingsThatAre_36 C hk4 h hG hS (lv_sub hl [0, 1, 2, 3] rfl)
    · replace h := it_pos hc h
      refine lv_iinc (v := x2 + (1 : Int32)) (lv' := [(2, .int (x2 + (1 : Int32))), (0, va_rf (some x0)), (1, .int x1), (3, .int x3)]) hx hb dX9_thingsThatAre_33 hl (k := 2) rfl rfl (by decide) rfl (fun ls hl => ?_)
      exact wX9_thingsThatAre_36 C hk4 h hG hS (lv_sub hl [1, 2, 0, 3] rfl)
def fX9_thingsThatAre_4 : Nat → Nat → Int32 → Int32 → Int32 → gM → Option (Int32 × gM)
  | 0 => fun _ _ _ _ _ => none
  | n + 1 => fun x0 x1 x2 x3 u => fX9_thingsThatAre_4_b x0 x1 x2 x3 u (fX9_thingsThatAre_4 n) 
theorem wX9_thingsThatAre_4 (C : gC p s m args meth c cX9_thingsThatAre 4 (some .int) RX9 "thingsThatAre" Γ) {res : Int32 × gM} (n : Nat) : ∀ {x0 : Nat} {x1 : Int32} {x2 : Int32} {x3 : Int32} {u : gM} {H : Heap} {locs : List Loc} {ls : Array Slot}, fX9_thingsThatAre_4 n x0 x1 x2 x3 u = some res → gAg Γ u N H → va_S Γ.2.2.1 s.heap H locs → lv_has ls 4 [(0, va_rf (some x0)), (1, .int x1), (2, .int x2), (3, .int x3)] → W p l e rmX9_thingsThatAre s m args below meth c H locs 0 0 (MQ below (gQ Γ (some (.int res.1)) res.2 N) args s 0 0 Γ.2.2.1) (F0 m 4 ls []) := by
  induction n with
  | zero => intro _ _ _ _ _ _ _ _ h _ _ _; cases (show (none : Option (Int32 × gM)) = some res from h)
  | succ n ih => intro _ _ _ _ _ _ _ _ h hG hS hl; exact wX9_thingsThatAre_4_b C (fun _ _ _ _ _ _ _ _ h hG hS hl => ih h hG hS hl) h hG hS hl
def fX9_thingsThatAre (x0 : Nat) (x1 : Int32) (u : gM) : Option (Int32 × gM) :=
  fX9_thingsThatAre_4  FU x0 x1 (0 : Int32) (0 : Int32) u
set_option maxHeartbeats 4000000 in
set_option maxRecDepth 20000 in
theorem wX9_thingsThatAre  (C : gC p s m args meth c cX9_thingsThatAre 4 (some .int) RX9 "thingsThatAre" Γ){x0 : Nat} {x1 : Int32} {u : gM} {res : Int32 × gM} (h : fX9_thingsThatAre x0 x1 u = some res) {H : Heap} {locs : List Loc} (hG : gAg Γ u N H) (hS : va_S Γ.2.2.1 s.heap H locs) {ls : Array Slot} (hl : lv_has ls 4 [(0, va_rf (some x0)), (1, .int x1)]) : W p l e rmX9_thingsThatAre s m args below meth c H locs 0 0 (MQ below (gQ Γ (some (.int res.1)) res.2 N) args s 0 0 Γ.2.2.1) (F0 m 0 ls []) := by
  have hx := C.1
  have hb := C.2.1
  unfold fX9_thingsThatAre at h
  refine lv_iconst (v := 0) hx hb dX9_thingsThatAre_0 (by decide) ?_
  refine lv_istore_n (i := 2) (lv' := [(2, .int (0 : Int32)), (0, va_rf (some x0)), (1, .int x1)]) hx hb dX9_thingsThatAre_1 rfl hl (by decide) rfl (fun ls hl => ?_)
  refine lv_iconst (v := 0) hx hb dX9_thingsThatAre_2 (by decide) ?_
  refine lv_istore_n (i := 3) (lv' := [(3, .int (0 : Int32)), (2, .int (0 : Int32)), (0, va_rf (some x0)), (1, .int x1)]) hx hb dX9_thingsThatAre_3 rfl hl (by decide) rfl (fun ls hl => ?_)
  exact wX9_thingsThatAre_4 C  FU h hG hS (lv_sub hl [2, 3, 1, 0] rfl)
theorem tX9_thingsThatAre {Γ : gEnv} {N : Nat} {x0 : Nat} {x1 : Int32} {u v : gM} {r : Int32} (h : fX9_thingsThatAre x0 x1 u = some (r, v)) : Met l yX9_thingsThatAre (Cond.code yX9_thingsThatAre cX9_thingsThatAre 4 (some .int) :: gW) rmX9_thingsThatAre (va_Pc [va_rf (some x0), .int x1] (gPre Γ u N)) (gQ Γ (some (.int r)) v N) 0 0 Γ.2.2.1 :=
  gx_met (nm := "thingsThatAre") ⟨by decide +kernel, rfl, rfl⟩ (Nat.le_of_ble_eq_true rfl) (fun p e s m below meth c ls C hG hl => wX9_thingsThatAre C h hG va_S.rf hl)
abbrev rmX9_count : Room := { frames := 4, cells := 0, slots := 0, locals := 87 }
def fX9_count (x0 : Nat) (x1 : Int32) (u : gM) : Option (Int32 × gM) :=
  if x1 = 0 then (
    (gR [10] 0 u x0).bind fun v61 =>
    (v61).bind fun a64 =>
    (gO [0] u a64).bind fun _ =>
    bI (fJx4a65c_size_8abf5 a64 u) fun r64 u64 =>
    some (r64, u64)
  ) else (
  if x1 = 1 then (
    (gO [10] u x0).bind fun _ =>
    bI (fX9_thingsThatAre x0 (0 : Int32) u) fun r70 u70 =>
    some (r70, u70)
  ) else (
  if x1 = 2 then (
    (gO [10] u x0).bind fun _ =>
    bI (fX9_thingsThatAre x0 (1 : Int32) u) fun r76 u76 =>
    some (r76, u76)
  ) else (
  if x1 = 3 then (
    (gO [10] u x0).bind fun _ =>
    bI (fX9_thingsThatAre x0 (2 : Int32) u) fun r82 u82 =>
    some (r82, u82)
  ) else (
  if x1 = 4 then (
    (gO [10] u x0).bind fun _ =>
    bI (fX9_thingsThatAre x0 (3 : Int32) u) fun r88 u88 =>
    some (r88, u88)
  ) else (
  if x1 = 5 then (
    (gR [10] 1 u x0).bind fun v93 =>
    (v93).bind fun a96 =>
    (gO [0] u a96).bind fun _ =>
    bI (fJx4a65c_size_8abf5 a96 u) fun r96 u96 =>
    some (r96, u96)
  ) else (
  if x1 = 6 then (
    (gR [10] 2 u x0).bind fun v101 =>
    (v101).bind fun a104 =>
    (gO [0] u a104).bind fun _ =>
    bI (fJx4a65c_size_8abf5 a104 u) fun r104 u104 =>
    some (r104, u104)
  ) else (
  if x1 = 7 then (
    (gI [10] 13 u x0).bind fun v109 =>
    some (v109, u)
  ) else (
  if x1 = 8 then (
    (gR [10] 11 u x0).bind fun v114 =>
    (v114).bind fun a117 =>
    (gI [7] 2 u a117).bind fun v117 =>
    some (v117, u)
  ) else (
  if x1 = 9 then (
    (gI [10] 12 u x0).bind fun v122 =>
    some (v122, u)
  ) else (
  if x1 = 10 then (
    (gI [10] 15 u x0).bind fun v127 =>
    some (v127, u)
  ) else (
    (gO [10] u x0).bind fun _ =>
    bI (fX9_finding x0 (1 : Int32) u) fun r133 u133 =>
    some (r133, u133)
  )))))))))))
set_option maxHeartbeats 4000000 in
set_option maxRecDepth 20000 in
theorem wX9_count  (C : gC p s m args meth c cX9_count 2 (some .int) RX9 "count" Γ){x0 : Nat} {x1 : Int32} {u : gM} {res : Int32 × gM} (h : fX9_count x0 x1 u = some res) {H : Heap} {locs : List Loc} (hG : gAg Γ u N H) (hS : va_S Γ.2.2.1 s.heap H locs) {ls : Array Slot} (hl : lv_has ls 2 [(0, va_rf (some x0)), (1, .int x1)]) : W p l e rmX9_count s m args below meth c H locs 0 0 (MQ below (gQ Γ (some (.int res.1)) res.2 N) args s 0 0 Γ.2.2.1) (F0 m 0 ls []) := by
  have hx := C.1
  have hb := C.2.1
  unfold fX9_count at h
  refine lv_iload_n hx hb dX9_count_0 rfl (lv_at hl 1 rfl) ?_
  by_cases hc0 : x1 = 0
  · replace h := it_pos hc0 h
    refine lv_tableIn (tgt := 60) (off := 59) hx hb dX9_count_1 (by rw [hc0]; decide) (by rw [hc0]; decide) (by rw [hc0]; rfl) (by decide) ?_
    refine gx_aload_n (r := (some x0)) hx hb dX9_count_60 rfl (lv_at hl 0 rfl) ?_
    obtain ⟨v61, e61, h⟩ := ob h
    refine gx_getR C hG rfl e61 fgX9_10 dX9_count_61 ?_
    obtain ⟨a64, na64, h⟩ := ob h
    obtain ⟨_, eo64, h⟩ := ob h
    obtain ⟨r64, u64, e64, h⟩ := obI h
    refine gx_cV C hG hS [] na64 eo64 (tJx4a65c_size_8abf5 e64) qcX9_93 ⟨rfl, rfl, Nat.le_of_ble_eq_true rfl, Nat.le_of_ble_eq_true rfl⟩ ⟨Nat.zero_le _, Nat.zero_le _⟩ rfl hl.1 rfl (Nat.le_of_ble_eq_true rfl) (st1 := [.int r64]) rfl dX9_count_64 (fun H locs hG hS => ?_)
    cases Option.some.inj h
    exact gx_reti C hG hS dX9_count_67
  replace h := it_neg hc0 h
  by_cases hc1 : x1 = 1
  · replace h := it_pos hc1 h
    refine lv_tableIn (tgt := 68) (off := 67) hx hb dX9_count_1 (by rw [hc1]; decide) (by rw [hc1]; decide) (by rw [hc1]; rfl) (by decide) ?_
    refine gx_aload_n (r := (some x0)) hx hb dX9_count_68 rfl (lv_at hl 0 rfl) ?_
    refine lv_iconst (v := 0) hx hb dX9_count_69 (by decide) ?_
    obtain ⟨_, eo70, h⟩ := ob h
    obtain ⟨r70, u70, e70, h⟩ := obI h
    refine gx_cV C hG hS [.int (0 : Int32)] rfl eo70 (tX9_thingsThatAre e70) qcX9_313 ⟨rfl, rfl, Nat.le_of_ble_eq_true rfl, Nat.le_of_ble_eq_true rfl⟩ ⟨Nat.zero_le _, Nat.zero_le _⟩ rfl hl.1 rfl (Nat.le_of_ble_eq_true rfl) (st1 := [.int r70]) rfl dX9_count_70 (fun H locs hG hS => ?_)
    cases Option.some.inj h
    exact gx_reti C hG hS dX9_count_73
  replace h := it_neg hc1 h
  by_cases hc2 : x1 = 2
  · replace h := it_pos hc2 h
    refine lv_tableIn (tgt := 74) (off := 73) hx hb dX9_count_1 (by rw [hc2]; decide) (by rw [hc2]; decide) (by rw [hc2]; rfl) (by decide) ?_
    refine gx_aload_n (r := (some x0)) hx hb dX9_count_74 rfl (lv_at hl 0 rfl) ?_
    refine lv_iconst (v := 1) hx hb dX9_count_75 (by decide) ?_
    obtain ⟨_, eo76, h⟩ := ob h
    obtain ⟨r76, u76, e76, h⟩ := obI h
    refine gx_cV C hG hS [.int (1 : Int32)] rfl eo76 (tX9_thingsThatAre e76) qcX9_313 ⟨rfl, rfl, Nat.le_of_ble_eq_true rfl, Nat.le_of_ble_eq_true rfl⟩ ⟨Nat.zero_le _, Nat.zero_le _⟩ rfl hl.1 rfl (Nat.le_of_ble_eq_true rfl) (st1 := [.int r76]) rfl dX9_count_76 (fun H locs hG hS => ?_)
    cases Option.some.inj h
    exact gx_reti C hG hS dX9_count_79
  replace h := it_neg hc2 h
  by_cases hc3 : x1 = 3
  · replace h := it_pos hc3 h
    refine lv_tableIn (tgt := 80) (off := 79) hx hb dX9_count_1 (by rw [hc3]; decide) (by rw [hc3]; decide) (by rw [hc3]; rfl) (by decide) ?_
    refine gx_aload_n (r := (some x0)) hx hb dX9_count_80 rfl (lv_at hl 0 rfl) ?_
    refine lv_iconst (v := 2) hx hb dX9_count_81 (by decide) ?_
    obtain ⟨_, eo82, h⟩ := ob h
    obtain ⟨r82, u82, e82, h⟩ := obI h
    refine gx_cV C hG hS [.int (2 : Int32)] rfl eo82 (tX9_thingsThatAre e82) qcX9_313 ⟨rfl, rfl, Nat.le_of_ble_eq_true rfl, Nat.le_of_ble_eq_true rfl⟩ ⟨Nat.zero_le _, Nat.zero_le _⟩ rfl hl.1 rfl (Nat.le_of_ble_eq_true rfl) (st1 := [.int r82]) rfl dX9_count_82 (fun H locs hG hS => ?_)
    cases Option.some.inj h
    exact gx_reti C hG hS dX9_count_85
  replace h := it_neg hc3 h
  by_cases hc4 : x1 = 4
  · replace h := it_pos hc4 h
    refine lv_tableIn (tgt := 86) (off := 85) hx hb dX9_count_1 (by rw [hc4]; decide) (by rw [hc4]; decide) (by rw [hc4]; rfl) (by decide) ?_
    refine gx_aload_n (r := (some x0)) hx hb dX9_count_86 rfl (lv_at hl 0 rfl) ?_
    refine lv_iconst (v := 3) hx hb dX9_count_87 (by decide) ?_
    obtain ⟨_, eo88, h⟩ := ob h
    obtain ⟨r88, u88, e88, h⟩ := obI h
    refine gx_cV C hG hS [.int (3 : Int32)] rfl eo88 (tX9_thingsThatAre e88) qcX9_313 ⟨rfl, rfl, Nat.le_of_ble_eq_true rfl, Nat.le_of_ble_eq_true rfl⟩ ⟨Nat.zero_le _, Nat.zero_le _⟩ rfl hl.1 rfl (Nat.le_of_ble_eq_true rfl) (st1 := [.int r88]) rfl dX9_count_88 (fun H locs hG hS => ?_)
    cases Option.some.inj h
    exact gx_reti C hG hS dX9_count_91
  replace h := it_neg hc4 h
  by_cases hc5 : x1 = 5
  · replace h := it_pos hc5 h
    refine lv_tableIn (tgt := 92) (off := 91) hx hb dX9_count_1 (by rw [hc5]; decide) (by rw [hc5]; decide) (by rw [hc5]; rfl) (by decide) ?_
    refine gx_aload_n (r := (some x0)) hx hb dX9_count_92 rfl (lv_at hl 0 rfl) ?_
    obtain ⟨v93, e93, h⟩ := ob h
    refine gx_getR C hG rfl e93 fgX9_16 dX9_count_93 ?_
    obtain ⟨a96, na96, h⟩ := ob h
    obtain ⟨_, eo96, h⟩ := ob h
    obtain ⟨r96, u96, e96, h⟩ := obI h
    refine gx_cV C hG hS [] na96 eo96 (tJx4a65c_size_8abf5 e96) qcX9_93 ⟨rfl, rfl, Nat.le_of_ble_eq_true rfl, Nat.le_of_ble_eq_true rfl⟩ ⟨Nat.zero_le _, Nat.zero_le _⟩ rfl hl.1 rfl (Nat.le_of_ble_eq_true rfl) (st1 := [.int r96]) rfl dX9_count_96 (fun H locs hG hS => ?_)
    cases Option.some.inj h
    exact gx_reti C hG hS dX9_count_99
  replace h := it_neg hc5 h
  by_cases hc6 : x1 = 6
  · replace h := it_pos hc6 h
    refine lv_tableIn (tgt := 100) (off := 99) hx hb dX9_count_1 (by rw [hc6]; decide) (by rw [hc6]; decide) (by rw [hc6]; rfl) (by decide) ?_
    refine gx_aload_n (r := (some x0)) hx hb dX9_count_100 rfl (lv_at hl 0 rfl) ?_
    obtain ⟨v101, e101, h⟩ := ob h
    refine gx_getR C hG rfl e101 fgX9_19 dX9_count_101 ?_
    obtain ⟨a104, na104, h⟩ := ob h
    obtain ⟨_, eo104, h⟩ := ob h
    obtain ⟨r104, u104, e104, h⟩ := obI h
    refine gx_cV C hG hS [] na104 eo104 (tJx4a65c_size_8abf5 e104) qcX9_93 ⟨rfl, rfl, Nat.le_of_ble_eq_true rfl, Nat.le_of_ble_eq_true rfl⟩ ⟨Nat.zero_le _, Nat.zero_le _⟩ rfl hl.1 rfl (Nat.le_of_ble_eq_true rfl) (st1 := [.int r104]) rfl dX9_count_104 (fun H locs hG hS => ?_)
    cases Option.some.inj h
    exact gx_reti C hG hS dX9_count_107
  replace h := it_neg hc6 h
  by_cases hc7 : x1 = 7
  · replace h := it_pos hc7 h
    refine lv_tableIn (tgt := 108) (off := 107) hx hb dX9_count_1 (by rw [hc7]; decide) (by rw [hc7]; decide) (by rw [hc7]; rfl) (by decide) ?_
    refine gx_aload_n (r := (some x0)) hx hb dX9_count_108 rfl (lv_at hl 0 rfl) ?_
    obtain ⟨v109, e109, h⟩ := ob h
    refine gx_getI C hG rfl e109 fgX9_70 dX9_count_109 ?_
    cases Option.some.inj h
    exact gx_reti C hG hS dX9_count_112
  replace h := it_neg hc7 h
  by_cases hc8 : x1 = 8
  · replace h := it_pos hc8 h
    refine lv_tableIn (tgt := 113) (off := 112) hx hb dX9_count_1 (by rw [hc8]; decide) (by rw [hc8]; decide) (by rw [hc8]; rfl) (by decide) ?_
    refine gx_aload_n (r := (some x0)) hx hb dX9_count_113 rfl (lv_at hl 0 rfl) ?_
    obtain ⟨v114, e114, h⟩ := ob h
    refine gx_getR C hG rfl e114 fgX9_62 dX9_count_114 ?_
    obtain ⟨a117, na117, h⟩ := ob h
    obtain ⟨v117, e117, h⟩ := ob h
    refine gx_getI C hG na117 e117 fgX9_282 dX9_count_117 ?_
    cases Option.some.inj h
    exact gx_reti C hG hS dX9_count_120
  replace h := it_neg hc8 h
  by_cases hc9 : x1 = 9
  · replace h := it_pos hc9 h
    refine lv_tableIn (tgt := 121) (off := 120) hx hb dX9_count_1 (by rw [hc9]; decide) (by rw [hc9]; decide) (by rw [hc9]; rfl) (by decide) ?_
    refine gx_aload_n (r := (some x0)) hx hb dX9_count_121 rfl (lv_at hl 0 rfl) ?_
    obtain ⟨v122, e122, h⟩ := ob h
    refine gx_getI C hG rfl e122 fgX9_66 dX9_count_122 ?_
    cases Option.some.inj h
    exact gx_reti C hG hS dX9_count_125
  replace h := it_neg hc9 h
  by_cases hc10 : x1 = 10
  · replace h := it_pos hc10 h
    refine lv_tableIn (tgt := 126) (off := 125) hx hb dX9_count_1 (by rw [hc10]; decide) (by rw [hc10]; decide) (by rw [hc10]; rfl) (by decide) ?_
    refine gx_aload_n (r := (some x0)) hx hb dX9_count_126 rfl (lv_at hl 0 rfl) ?_
    obtain ⟨v127, e127, h⟩ := ob h
    refine gx_getI C hG rfl e127 fgX9_76 dX9_count_127 ?_
    cases Option.some.inj h
    exact gx_reti C hG hS dX9_count_130
  replace h := it_neg hc10 h
  have hn0 := lv_neT hc0 (show (0 : Int32).toInt = 0 by decide)
  have hn1 := lv_neT hc1 (show (1 : Int32).toInt = 1 by decide)
  have hn2 := lv_neT hc2 (show (2 : Int32).toInt = 2 by decide)
  have hn3 := lv_neT hc3 (show (3 : Int32).toInt = 3 by decide)
  have hn4 := lv_neT hc4 (show (4 : Int32).toInt = 4 by decide)
  have hn5 := lv_neT hc5 (show (5 : Int32).toInt = 5 by decide)
  have hn6 := lv_neT hc6 (show (6 : Int32).toInt = 6 by decide)
  have hn7 := lv_neT hc7 (show (7 : Int32).toInt = 7 by decide)
  have hn8 := lv_neT hc8 (show (8 : Int32).toInt = 8 by decide)
  have hn9 := lv_neT hc9 (show (9 : Int32).toInt = 9 by decide)
  have hn10 := lv_neT hc10 (show (10 : Int32).toInt = 10 by decide)
  refine lv_tableOut (tgt := 131) hx hb dX9_count_1 (by omega) (by decide) ?_
  refine gx_aload_n (r := (some x0)) hx hb dX9_count_131 rfl (lv_at hl 0 rfl) ?_
  refine lv_iconst (v := 1) hx hb dX9_count_132 (by decide) ?_
  obtain ⟨_, eo133, h⟩ := ob h
  obtain ⟨r133, u133, e133, h⟩ := obI h
  refine gx_cV C hG hS [.int (1 : Int32)] rfl eo133 (tX9_finding e133) qcX9_89 ⟨rfl, rfl, Nat.le_of_ble_eq_true rfl, Nat.le_of_ble_eq_true rfl⟩ ⟨Nat.zero_le _, Nat.zero_le _⟩ rfl hl.1 rfl (Nat.le_of_ble_eq_true rfl) (st1 := [.int r133]) rfl dX9_count_133 (fun H locs hG hS => ?_)
  cases Option.some.inj h
  exact gx_reti C hG hS dX9_count_136
theorem tX9_count {Γ : gEnv} {N : Nat} {x0 : Nat} {x1 : Int32} {u v : gM} {r : Int32} (h : fX9_count x0 x1 u = some (r, v)) : Met l yX9_count (Cond.code yX9_count cX9_count 2 (some .int) :: gW) rmX9_count (va_Pc [va_rf (some x0), .int x1] (gPre Γ u N)) (gQ Γ (some (.int r)) v N) 0 0 Γ.2.2.1 :=
  gx_met (nm := "count") ⟨by decide +kernel, rfl, rfl⟩ (Nat.le_of_ble_eq_true rfl) (fun p e s m below meth c ls C hG hl => wX9_count C h hG va_S.rf hl)
abbrev rmX9_found : Room := { frames := 1, cells := 0, slots := 0, locals := 22 }
def fX9_found (x0 : Nat) (x1 : Int32) (u : gM) : Option (Int32 × gM) :=
  bI (fX9_within x1 (1 : Int32) (5 : Int32) u) fun r3 u3 =>
  if r3 = 0 then (
    (gO [10] u3 x0).bind fun _ =>
    bI (fX9_finding x0 (1 : Int32) u3) fun r20 u20 =>
    some (r20, u20)
  ) else (
    (gR [10] 5 u3 x0).bind fun v10 =>
    (v10).bind fun a14 =>
    (aI u3 a14 x1).bind fun v14 =>
    some (v14, u3)
  )
set_option maxHeartbeats 4000000 in
set_option maxRecDepth 20000 in
theorem wX9_found  (C : gC p s m args meth c cX9_found 2 (some .int) RX9 "found" Γ){x0 : Nat} {x1 : Int32} {u : gM} {res : Int32 × gM} (h : fX9_found x0 x1 u = some res) {H : Heap} {locs : List Loc} (hG : gAg Γ u N H) (hS : va_S Γ.2.2.1 s.heap H locs) {ls : Array Slot} (hl : lv_has ls 2 [(0, va_rf (some x0)), (1, .int x1)]) : W p l e rmX9_found s m args below meth c H locs 0 0 (MQ below (gQ Γ (some (.int res.1)) res.2 N) args s 0 0 Γ.2.2.1) (F0 m 0 ls []) := by
  have hx := C.1
  have hb := C.2.1
  unfold fX9_found at h
  refine lv_iload_n hx hb dX9_found_0 rfl (lv_at hl 1 rfl) ?_
  refine lv_iconst (v := 1) hx hb dX9_found_1 (by decide) ?_
  refine lv_iconst (v := 5) hx hb dX9_found_2 (by decide) ?_
  obtain ⟨r3, u3, e3, h⟩ := obI h
  refine gx_cS C hG hS [.int x1, .int (1 : Int32), .int (5 : Int32)] (tX9_within e3) qcX9_85 ⟨rfl, rfl, Nat.le_of_ble_eq_true rfl, Nat.le_of_ble_eq_true rfl⟩ ⟨Nat.zero_le _, Nat.zero_le _⟩ rfl hl.1 rfl (Nat.le_of_ble_eq_true rfl) (st1 := [.int r3]) rfl dX9_found_3 (fun H locs hG hS => ?_)
  refine lv_if_eq (tgt := 18) hx hb dX9_found_6 (by decide) (fun hc => ?_) (fun hc => ?_)
  · replace h := it_pos hc h
    refine gx_aload_n (r := (some x0)) hx hb dX9_found_18 rfl (lv_at hl 0 rfl) ?_
    refine lv_iconst (v := 1) hx hb dX9_found_19 (by decide) ?_
    obtain ⟨_, eo20, h⟩ := ob h
    obtain ⟨r20, u20, e20, h⟩ := obI h
    refine gx_cV C hG hS [.int (1 : Int32)] rfl eo20 (tX9_finding e20) qcX9_89 ⟨rfl, rfl, Nat.le_of_ble_eq_true rfl, Nat.le_of_ble_eq_true rfl⟩ ⟨Nat.zero_le _, Nat.zero_le _⟩ rfl hl.1 rfl (Nat.le_of_ble_eq_true rfl) (st1 := [.int r20]) rfl dX9_found_20 (fun H locs hG hS => ?_)
    cases Option.some.inj h
    exact gx_reti C hG hS dX9_found_23
  · replace h := it_neg hc h
    refine gx_aload_n (r := (some x0)) hx hb dX9_found_9 rfl (lv_at hl 0 rfl) ?_
    obtain ⟨v10, e10, h⟩ := ob h
    refine gx_getR C hG rfl e10 fgX9_29 dX9_found_10 ?_
    refine lv_iload_n hx hb dX9_found_13 rfl (lv_at hl 1 rfl) ?_
    obtain ⟨a14, na14, h⟩ := ob h
    obtain ⟨v14, e14, h⟩ := ob h
    refine gx_iald C hG na14 e14 dX9_found_14 ?_
    refine lv_goto (tgt := 23) hx hb dX9_found_15 (by decide) ?_
    cases Option.some.inj h
    exact gx_reti C hG hS dX9_found_23
theorem tX9_found {Γ : gEnv} {N : Nat} {x0 : Nat} {x1 : Int32} {u v : gM} {r : Int32} (h : fX9_found x0 x1 u = some (r, v)) : Met l yX9_found (Cond.code yX9_found cX9_found 2 (some .int) :: gW) rmX9_found (va_Pc [va_rf (some x0), .int x1] (gPre Γ u N)) (gQ Γ (some (.int r)) v N) 0 0 Γ.2.2.1 :=
  gx_met (nm := "found") ⟨by decide +kernel, rfl, rfl⟩ (Nat.le_of_ble_eq_true rfl) (fun p e s m below meth c ls C hG hl => wX9_found C h hG va_S.rf hl)
abbrev rmX10_init (a b : Nat) : Room := { frames := 1, cells := a, slots := b, locals := 12 }
def fX10_init_331 (x0 : Nat) (s1 : Option Nat) (u : gN) : Option (gN) :=
  (wN (pV [11] 44 (va_rf s1) u.1 x0) u).bind fun u331 =>
  (wN (pV [11] 0 (.int (0 : Int32)) u331.1 x0) u331).bind fun u336 =>
  some u336
set_option maxRecDepth 20000 in
theorem moX10_init_331 {x0 : Nat} {s1 : Option Nat} {u : gN} {res : gN} (h : fX10_init_331 x0 s1 u = some res) : gLe u res := by
  unfold fX10_init_331 at h
  obtain ⟨u331, e331, h⟩ := ob h
  refine gLe.tr (wN_le e331) ?_
  obtain ⟨u336, e336, h⟩ := ob h
  refine gLe.tr (wN_le e336) ?_
  cases Option.some.inj h
  exact gLe.rf _
set_option maxHeartbeats 4000000 in
set_option maxRecDepth 20000 in
theorem wX10_init_331  (C : gC p s m args meth c cX10_init 1 none RX10 "<init>" Γ){x0 : Nat} {s1 : Option Nat} {u : gN} {res : gN} (h : fX10_init_331 x0 s1 u = some res) {H : Heap} {locs : List Loc} (hG : gAn Γ sB u H) (hS : va_S Γ.2.2.1 s.heap H locs) {ls : Array Slot} (hl : lv_has ls 1 [(0, va_rf (some x0))]) : W p l e (rmX10_init (res.2.1 - s.heap.size) (res.2.2 - sB)) s m args below meth c H locs (u.2.1 - s.heap.size) (u.2.2 - sB) (MQ below (gQ Γ none res.1 res.2.1) args s (res.2.1 - s.heap.size) (res.2.2 - sB) Γ.2.2.1) (F0 m 331 ls [va_rf s1, va_rf (some x0)]) := by
  have hx := C.1
  have hb := C.2.1
  have hm := moX10_init_331 h
  unfold fX10_init_331 at h
  obtain ⟨u331, e331, h⟩ := ob h
  obtain ⟨g331, eg331, ev331⟩ := wN_inv e331
  replace hm : gLe u331 res := by rw [ev331]; exact hm
  refine gx_put C hG.1 hS rfl eg331 fgX10_117 fpX10_117 (fun _ => rfl) (gx_rfn _ _ (Or.inr ⟨_, rfl⟩)).1 (gx_rfn _ _ (Or.inr ⟨_, rfl⟩)).2 dX10_init_331 (fun H locs hg hS => gy_w hG ev331 hg (fun hG => ?_))
  refine gx_aload_n (r := (some x0)) hx hb dX10_init_334 rfl (lv_at hl 0 rfl) ?_
  refine lv_iconst (v := 0) hx hb dX10_init_335 (by decide) ?_
  obtain ⟨u336, e336, h⟩ := ob h
  obtain ⟨g336, eg336, ev336⟩ := wN_inv e336
  replace hm : gLe u336 res := by rw [ev336]; exact hm
  refine gx_put C hG.1 hS rfl eg336 fgX10_121 fpX10_121 (fun q => by cases q) rfl rfl dX10_init_336 (fun H locs hg hS => gy_w hG ev336 hg (fun hG => ?_))
  cases Option.some.inj h
  exact gx_retv C hG.1 hS dX10_init_339
def fX10_init_322 (x0 : Nat) (s1 : Option Nat) (u : gN) : Option (gN) :=
  (wN (pV [11] 43 (va_rf s1) u.1 x0) u).bind fun u322 =>
  bI (nwJ (3721 : Int32) u322) fun q329 u329 =>
  fX10_init_331 x0 (some q329) u329 
set_option maxRecDepth 20000 in
theorem moX10_init_322 {x0 : Nat} {s1 : Option Nat} {u : gN} {res : gN} (h : fX10_init_322 x0 s1 u = some res) : gLe u res := by
  unfold fX10_init_322 at h
  obtain ⟨u322, e322, h⟩ := ob h
  refine gLe.tr (wN_le e322) ?_
  obtain ⟨q329, u329, e329, h⟩ := obI h
  refine gLe.tr (nwJ_le e329) ?_
  exact moX10_init_331  h
set_option maxHeartbeats 4000000 in
set_option maxRecDepth 20000 in
theorem wX10_init_322  (C : gC p s m args meth c cX10_init 1 none RX10 "<init>" Γ){x0 : Nat} {s1 : Option Nat} {u : gN} {res : gN} (h : fX10_init_322 x0 s1 u = some res) {H : Heap} {locs : List Loc} (hG : gAn Γ sB u H) (hS : va_S Γ.2.2.1 s.heap H locs) {ls : Array Slot} (hl : lv_has ls 1 [(0, va_rf (some x0))]) : W p l e (rmX10_init (res.2.1 - s.heap.size) (res.2.2 - sB)) s m args below meth c H locs (u.2.1 - s.heap.size) (u.2.2 - sB) (MQ below (gQ Γ none res.1 res.2.1) args s (res.2.1 - s.heap.size) (res.2.2 - sB) Γ.2.2.1) (F0 m 322 ls [va_rf s1, va_rf (some x0)]) := by
  have hx := C.1
  have hb := C.2.1
  have hm := moX10_init_322 h
  unfold fX10_init_322 at h
  obtain ⟨u322, e322, h⟩ := ob h
  obtain ⟨g322, eg322, ev322⟩ := wN_inv e322
  replace hm : gLe u322 res := by rw [ev322]; exact hm
  refine gx_put C hG.1 hS rfl eg322 fgX10_114 fpX10_114 (fun _ => rfl) (gx_rfn _ _ (Or.inr ⟨_, rfl⟩)).1 (gx_rfn _ _ (Or.inr ⟨_, rfl⟩)).2 dX10_init_322 (fun H locs hg hS => gy_w hG ev322 hg (fun hG => ?_))
  refine gx_aload_n (r := (some x0)) hx hb dX10_init_325 rfl (lv_at hl 0 rfl) ?_
  refine lv_sipush (v := 3721) hx hb dX10_init_326 (by decide) ?_
  obtain ⟨q329, u329, e329, h⟩ := obI h
  have hm2 : gLe u329 res := by
    exact moX10_init_331  h
  refine gy_newJ C hG hS e329 ⟨Nat.sub_le_sub_right hm2.1 _, Nat.sub_le_sub_right hm2.2 _⟩ dX10_init_329 (fun H hG hS => ?_)
  exact wX10_init_331 C  h hG hS (lv_sub hl [0] rfl)
def fX10_init_313 (x0 : Nat) (s1 : Option Nat) (u : gN) : Option (gN) :=
  (wN (pV [11] 42 (va_rf s1) u.1 x0) u).bind fun u313 =>
  bI (nwZ (1024 : Int32) u313) fun q320 u320 =>
  fX10_init_322 x0 (some q320) u320 
set_option maxRecDepth 20000 in
theorem moX10_init_313 {x0 : Nat} {s1 : Option Nat} {u : gN} {res : gN} (h : fX10_init_313 x0 s1 u = some res) : gLe u res := by
  unfold fX10_init_313 at h
  obtain ⟨u313, e313, h⟩ := ob h
  refine gLe.tr (wN_le e313) ?_
  obtain ⟨q320, u320, e320, h⟩ := obI h
  refine gLe.tr (nwZ_le e320) ?_
  exact moX10_init_322  h
set_option maxHeartbeats 4000000 in
set_option maxRecDepth 20000 in
theorem wX10_init_313  (C : gC p s m args meth c cX10_init 1 none RX10 "<init>" Γ){x0 : Nat} {s1 : Option Nat} {u : gN} {res : gN} (h : fX10_init_313 x0 s1 u = some res) {H : Heap} {locs : List Loc} (hG : gAn Γ sB u H) (hS : va_S Γ.2.2.1 s.heap H locs) {ls : Array Slot} (hl : lv_has ls 1 [(0, va_rf (some x0))]) : W p l e (rmX10_init (res.2.1 - s.heap.size) (res.2.2 - sB)) s m args below meth c H locs (u.2.1 - s.heap.size) (u.2.2 - sB) (MQ below (gQ Γ none res.1 res.2.1) args s (res.2.1 - s.heap.size) (res.2.2 - sB) Γ.2.2.1) (F0 m 313 ls [va_rf s1, va_rf (some x0)]) := by
  have hx := C.1
  have hb := C.2.1
  have hm := moX10_init_313 h
  unfold fX10_init_313 at h
  obtain ⟨u313, e313, h⟩ := ob h
  obtain ⟨g313, eg313, ev313⟩ := wN_inv e313
  replace hm : gLe u313 res := by rw [ev313]; exact hm
  refine gx_put C hG.1 hS rfl eg313 fgX10_111 fpX10_111 (fun _ => rfl) (gx_rfn _ _ (Or.inr ⟨_, rfl⟩)).1 (gx_rfn _ _ (Or.inr ⟨_, rfl⟩)).2 dX10_init_313 (fun H locs hg hS => gy_w hG ev313 hg (fun hG => ?_))
  refine gx_aload_n (r := (some x0)) hx hb dX10_init_316 rfl (lv_at hl 0 rfl) ?_
  refine lv_sipush (v := 1024) hx hb dX10_init_317 (by decide) ?_
  obtain ⟨q320, u320, e320, h⟩ := obI h
  have hm2 : gLe u320 res := by
    exact moX10_init_322  h
  refine gy_newZ C hG hS e320 ⟨Nat.sub_le_sub_right hm2.1 _, Nat.sub_le_sub_right hm2.2 _⟩ dX10_init_320 (fun H hG hS => ?_)
  exact wX10_init_322 C  h hG hS (lv_sub hl [0] rfl)
def fX10_init_304 (x0 : Nat) (s1 : Option Nat) (u : gN) : Option (gN) :=
  (wN (pV [11] 40 (va_rf s1) u.1 x0) u).bind fun u304 =>
  bI (nwI (1024 : Int32) u304) fun q311 u311 =>
  fX10_init_313 x0 (some q311) u311 
set_option maxRecDepth 20000 in
theorem moX10_init_304 {x0 : Nat} {s1 : Option Nat} {u : gN} {res : gN} (h : fX10_init_304 x0 s1 u = some res) : gLe u res := by
  unfold fX10_init_304 at h
  obtain ⟨u304, e304, h⟩ := ob h
  refine gLe.tr (wN_le e304) ?_
  obtain ⟨q311, u311, e311, h⟩ := obI h
  refine gLe.tr (nwI_le e311) ?_
  exact moX10_init_313  h
set_option maxHeartbeats 4000000 in
set_option maxRecDepth 20000 in
theorem wX10_init_304  (C : gC p s m args meth c cX10_init 1 none RX10 "<init>" Γ){x0 : Nat} {s1 : Option Nat} {u : gN} {res : gN} (h : fX10_init_304 x0 s1 u = some res) {H : Heap} {locs : List Loc} (hG : gAn Γ sB u H) (hS : va_S Γ.2.2.1 s.heap H locs) {ls : Array Slot} (hl : lv_has ls 1 [(0, va_rf (some x0))]) : W p l e (rmX10_init (res.2.1 - s.heap.size) (res.2.2 - sB)) s m args below meth c H locs (u.2.1 - s.heap.size) (u.2.2 - sB) (MQ below (gQ Γ none res.1 res.2.1) args s (res.2.1 - s.heap.size) (res.2.2 - sB) Γ.2.2.1) (F0 m 304 ls [va_rf s1, va_rf (some x0)]) := by
  have hx := C.1
  have hb := C.2.1
  have hm := moX10_init_304 h
  unfold fX10_init_304 at h
  obtain ⟨u304, e304, h⟩ := ob h
  obtain ⟨g304, eg304, ev304⟩ := wN_inv e304
  replace hm : gLe u304 res := by rw [ev304]; exact hm
  refine gx_put C hG.1 hS rfl eg304 fgX10_108 fpX10_108 (fun _ => rfl) (gx_rfn _ _ (Or.inr ⟨_, rfl⟩)).1 (gx_rfn _ _ (Or.inr ⟨_, rfl⟩)).2 dX10_init_304 (fun H locs hg hS => gy_w hG ev304 hg (fun hG => ?_))
  refine gx_aload_n (r := (some x0)) hx hb dX10_init_307 rfl (lv_at hl 0 rfl) ?_
  refine lv_sipush (v := 1024) hx hb dX10_init_308 (by decide) ?_
  obtain ⟨q311, u311, e311, h⟩ := obI h
  have hm2 : gLe u311 res := by
    exact moX10_init_313  h
  refine gy_newI C hG hS e311 ⟨Nat.sub_le_sub_right hm2.1 _, Nat.sub_le_sub_right hm2.2 _⟩ dX10_init_311 (fun H hG hS => ?_)
  exact wX10_init_313 C  h hG hS (lv_sub hl [0] rfl)
def fX10_init_296 (x0 : Nat) (s1 : Option Nat) (u : gN) : Option (gN) :=
  (wN (pV [11] 39 (va_rf s1) u.1 x0) u).bind fun u296 =>
  bI (nwI (10 : Int32) u296) fun q302 u302 =>
  fX10_init_304 x0 (some q302) u302 
set_option maxRecDepth 20000 in
theorem moX10_init_296 {x0 : Nat} {s1 : Option Nat} {u : gN} {res : gN} (h : fX10_init_296 x0 s1 u = some res) : gLe u res := by
  unfold fX10_init_296 at h
  obtain ⟨u296, e296, h⟩ := ob h
  refine gLe.tr (wN_le e296) ?_
  obtain ⟨q302, u302, e302, h⟩ := obI h
  refine gLe.tr (nwI_le e302) ?_
  exact moX10_init_304  h
set_option maxHeartbeats 4000000 in
set_option maxRecDepth 20000 in
theorem wX10_init_296  (C : gC p s m args meth c cX10_init 1 none RX10 "<init>" Γ){x0 : Nat} {s1 : Option Nat} {u : gN} {res : gN} (h : fX10_init_296 x0 s1 u = some res) {H : Heap} {locs : List Loc} (hG : gAn Γ sB u H) (hS : va_S Γ.2.2.1 s.heap H locs) {ls : Array Slot} (hl : lv_has ls 1 [(0, va_rf (some x0))]) : W p l e (rmX10_init (res.2.1 - s.heap.size) (res.2.2 - sB)) s m args below meth c H locs (u.2.1 - s.heap.size) (u.2.2 - sB) (MQ below (gQ Γ none res.1 res.2.1) args s (res.2.1 - s.heap.size) (res.2.2 - sB) Γ.2.2.1) (F0 m 296 ls [va_rf s1, va_rf (some x0)]) := by
  have hx := C.1
  have hb := C.2.1
  have hm := moX10_init_296 h
  unfold fX10_init_296 at h
  obtain ⟨u296, e296, h⟩ := ob h
  obtain ⟨g296, eg296, ev296⟩ := wN_inv e296
  replace hm : gLe u296 res := by rw [ev296]; exact hm
  refine gx_put C hG.1 hS rfl eg296 fgX10_105 fpX10_105 (fun _ => rfl) (gx_rfn _ _ (Or.inr ⟨_, rfl⟩)).1 (gx_rfn _ _ (Or.inr ⟨_, rfl⟩)).2 dX10_init_296 (fun H locs hg hS => gy_w hG ev296 hg (fun hG => ?_))
  refine gx_aload_n (r := (some x0)) hx hb dX10_init_299 rfl (lv_at hl 0 rfl) ?_
  refine lv_bipush (v := 10) hx hb dX10_init_300 (by decide) ?_
  obtain ⟨q302, u302, e302, h⟩ := obI h
  have hm2 : gLe u302 res := by
    exact moX10_init_304  h
  refine gy_newI C hG hS e302 ⟨Nat.sub_le_sub_right hm2.1 _, Nat.sub_le_sub_right hm2.2 _⟩ dX10_init_302 (fun H hG hS => ?_)
  exact wX10_init_304 C  h hG hS (lv_sub hl [0] rfl)
def fX10_init_287 (x0 : Nat) (s1 : Option Nat) (u : gN) : Option (gN) :=
  (wN (pV [11] 38 (va_rf s1) u.1 x0) u).bind fun u287 =>
  bI (nwI (160 : Int32) u287) fun q294 u294 =>
  fX10_init_296 x0 (some q294) u294 
set_option maxRecDepth 20000 in
theorem moX10_init_287 {x0 : Nat} {s1 : Option Nat} {u : gN} {res : gN} (h : fX10_init_287 x0 s1 u = some res) : gLe u res := by
  unfold fX10_init_287 at h
  obtain ⟨u287, e287, h⟩ := ob h
  refine gLe.tr (wN_le e287) ?_
  obtain ⟨q294, u294, e294, h⟩ := obI h
  refine gLe.tr (nwI_le e294) ?_
  exact moX10_init_296  h
set_option maxHeartbeats 4000000 in
set_option maxRecDepth 20000 in
theorem wX10_init_287  (C : gC p s m args meth c cX10_init 1 none RX10 "<init>" Γ){x0 : Nat} {s1 : Option Nat} {u : gN} {res : gN} (h : fX10_init_287 x0 s1 u = some res) {H : Heap} {locs : List Loc} (hG : gAn Γ sB u H) (hS : va_S Γ.2.2.1 s.heap H locs) {ls : Array Slot} (hl : lv_has ls 1 [(0, va_rf (some x0))]) : W p l e (rmX10_init (res.2.1 - s.heap.size) (res.2.2 - sB)) s m args below meth c H locs (u.2.1 - s.heap.size) (u.2.2 - sB) (MQ below (gQ Γ none res.1 res.2.1) args s (res.2.1 - s.heap.size) (res.2.2 - sB) Γ.2.2.1) (F0 m 287 ls [va_rf s1, va_rf (some x0)]) := by
  have hx := C.1
  have hb := C.2.1
  have hm := moX10_init_287 h
  unfold fX10_init_287 at h
  obtain ⟨u287, e287, h⟩ := ob h
  obtain ⟨g287, eg287, ev287⟩ := wN_inv e287
  replace hm : gLe u287 res := by rw [ev287]; exact hm
  refine gx_put C hG.1 hS rfl eg287 fgX10_102 fpX10_102 (fun _ => rfl) (gx_rfn _ _ (Or.inr ⟨_, rfl⟩)).1 (gx_rfn _ _ (Or.inr ⟨_, rfl⟩)).2 dX10_init_287 (fun H locs hg hS => gy_w hG ev287 hg (fun hG => ?_))
  refine gx_aload_n (r := (some x0)) hx hb dX10_init_290 rfl (lv_at hl 0 rfl) ?_
  refine lv_sipush (v := 160) hx hb dX10_init_291 (by decide) ?_
  obtain ⟨q294, u294, e294, h⟩ := obI h
  have hm2 : gLe u294 res := by
    exact moX10_init_296  h
  refine gy_newI C hG hS e294 ⟨Nat.sub_le_sub_right hm2.1 _, Nat.sub_le_sub_right hm2.2 _⟩ dX10_init_294 (fun H hG hS => ?_)
  exact wX10_init_296 C  h hG hS (lv_sub hl [0] rfl)
def fX10_init_278 (x0 : Nat) (s1 : Option Nat) (u : gN) : Option (gN) :=
  (wN (pV [11] 37 (va_rf s1) u.1 x0) u).bind fun u278 =>
  bI (nwI (256 : Int32) u278) fun q285 u285 =>
  fX10_init_287 x0 (some q285) u285 
set_option maxRecDepth 20000 in
theorem moX10_init_278 {x0 : Nat} {s1 : Option Nat} {u : gN} {res : gN} (h : fX10_init_278 x0 s1 u = some res) : gLe u res := by
  unfold fX10_init_278 at h
  obtain ⟨u278, e278, h⟩ := ob h
  refine gLe.tr (wN_le e278) ?_
  obtain ⟨q285, u285, e285, h⟩ := obI h
  refine gLe.tr (nwI_le e285) ?_
  exact moX10_init_287  h
set_option maxHeartbeats 4000000 in
set_option maxRecDepth 20000 in
theorem wX10_init_278  (C : gC p s m args meth c cX10_init 1 none RX10 "<init>" Γ){x0 : Nat} {s1 : Option Nat} {u : gN} {res : gN} (h : fX10_init_278 x0 s1 u = some res) {H : Heap} {locs : List Loc} (hG : gAn Γ sB u H) (hS : va_S Γ.2.2.1 s.heap H locs) {ls : Array Slot} (hl : lv_has ls 1 [(0, va_rf (some x0))]) : W p l e (rmX10_init (res.2.1 - s.heap.size) (res.2.2 - sB)) s m args below meth c H locs (u.2.1 - s.heap.size) (u.2.2 - sB) (MQ below (gQ Γ none res.1 res.2.1) args s (res.2.1 - s.heap.size) (res.2.2 - sB) Γ.2.2.1) (F0 m 278 ls [va_rf s1, va_rf (some x0)]) := by
  have hx := C.1
  have hb := C.2.1
  have hm := moX10_init_278 h
  unfold fX10_init_278 at h
  obtain ⟨u278, e278, h⟩ := ob h
  obtain ⟨g278, eg278, ev278⟩ := wN_inv e278
  replace hm : gLe u278 res := by rw [ev278]; exact hm
  refine gx_put C hG.1 hS rfl eg278 fgX10_99 fpX10_99 (fun _ => rfl) (gx_rfn _ _ (Or.inr ⟨_, rfl⟩)).1 (gx_rfn _ _ (Or.inr ⟨_, rfl⟩)).2 dX10_init_278 (fun H locs hg hS => gy_w hG ev278 hg (fun hG => ?_))
  refine gx_aload_n (r := (some x0)) hx hb dX10_init_281 rfl (lv_at hl 0 rfl) ?_
  refine lv_sipush (v := 256) hx hb dX10_init_282 (by decide) ?_
  obtain ⟨q285, u285, e285, h⟩ := obI h
  have hm2 : gLe u285 res := by
    exact moX10_init_287  h
  refine gy_newI C hG hS e285 ⟨Nat.sub_le_sub_right hm2.1 _, Nat.sub_le_sub_right hm2.2 _⟩ dX10_init_285 (fun H hG hS => ?_)
  exact wX10_init_287 C  h hG hS (lv_sub hl [0] rfl)
def fX10_init_269 (x0 : Nat) (s1 : Option Nat) (u : gN) : Option (gN) :=
  (wN (pV [11] 36 (va_rf s1) u.1 x0) u).bind fun u269 =>
  bI (nwI (256 : Int32) u269) fun q276 u276 =>
  fX10_init_278 x0 (some q276) u276 
set_option maxRecDepth 20000 in
theorem moX10_init_269 {x0 : Nat} {s1 : Option Nat} {u : gN} {res : gN} (h : fX10_init_269 x0 s1 u = some res) : gLe u res := by
  unfold fX10_init_269 at h
  obtain ⟨u269, e269, h⟩ := ob h
  refine gLe.tr (wN_le e269) ?_
  obtain ⟨q276, u276, e276, h⟩ := obI h
  refine gLe.tr (nwI_le e276) ?_
  exact moX10_init_278  h
set_option maxHeartbeats 4000000 in
set_option maxRecDepth 20000 in
theorem wX10_init_269  (C : gC p s m args meth c cX10_init 1 none RX10 "<init>" Γ){x0 : Nat} {s1 : Option Nat} {u : gN} {res : gN} (h : fX10_init_269 x0 s1 u = some res) {H : Heap} {locs : List Loc} (hG : gAn Γ sB u H) (hS : va_S Γ.2.2.1 s.heap H locs) {ls : Array Slot} (hl : lv_has ls 1 [(0, va_rf (some x0))]) : W p l e (rmX10_init (res.2.1 - s.heap.size) (res.2.2 - sB)) s m args below meth c H locs (u.2.1 - s.heap.size) (u.2.2 - sB) (MQ below (gQ Γ none res.1 res.2.1) args s (res.2.1 - s.heap.size) (res.2.2 - sB) Γ.2.2.1) (F0 m 269 ls [va_rf s1, va_rf (some x0)]) := by
  have hx := C.1
  have hb := C.2.1
  have hm := moX10_init_269 h
  unfold fX10_init_269 at h
  obtain ⟨u269, e269, h⟩ := ob h
  obtain ⟨g269, eg269, ev269⟩ := wN_inv e269
  replace hm : gLe u269 res := by rw [ev269]; exact hm
  refine gx_put C hG.1 hS rfl eg269 fgX10_96 fpX10_96 (fun _ => rfl) (gx_rfn _ _ (Or.inr ⟨_, rfl⟩)).1 (gx_rfn _ _ (Or.inr ⟨_, rfl⟩)).2 dX10_init_269 (fun H locs hg hS => gy_w hG ev269 hg (fun hG => ?_))
  refine gx_aload_n (r := (some x0)) hx hb dX10_init_272 rfl (lv_at hl 0 rfl) ?_
  refine lv_sipush (v := 256) hx hb dX10_init_273 (by decide) ?_
  obtain ⟨q276, u276, e276, h⟩ := obI h
  have hm2 : gLe u276 res := by
    exact moX10_init_278  h
  refine gy_newI C hG hS e276 ⟨Nat.sub_le_sub_right hm2.1 _, Nat.sub_le_sub_right hm2.2 _⟩ dX10_init_276 (fun H hG hS => ?_)
  exact wX10_init_278 C  h hG hS (lv_sub hl [0] rfl)
def fX10_init_261 (x0 : Nat) (s1 : Option Nat) (u : gN) : Option (gN) :=
  (wN (pV [11] 35 (va_rf s1) u.1 x0) u).bind fun u261 =>
  bI (nwI (8 : Int32) u261) fun q267 u267 =>
  fX10_init_269 x0 (some q267) u267 
set_option maxRecDepth 20000 in
theorem moX10_init_261 {x0 : Nat} {s1 : Option Nat} {u : gN} {res : gN} (h : fX10_init_261 x0 s1 u = some res) : gLe u res := by
  unfold fX10_init_261 at h
  obtain ⟨u261, e261, h⟩ := ob h
  refine gLe.tr (wN_le e261) ?_
  obtain ⟨q267, u267, e267, h⟩ := obI h
  refine gLe.tr (nwI_le e267) ?_
  exact moX10_init_269  h
set_option maxHeartbeats 4000000 in
set_option maxRecDepth 20000 in
theorem wX10_init_261  (C : gC p s m args meth c cX10_init 1 none RX10 "<init>" Γ){x0 : Nat} {s1 : Option Nat} {u : gN} {res : gN} (h : fX10_init_261 x0 s1 u = some res) {H : Heap} {locs : List Loc} (hG : gAn Γ sB u H) (hS : va_S Γ.2.2.1 s.heap H locs) {ls : Array Slot} (hl : lv_has ls 1 [(0, va_rf (some x0))]) : W p l e (rmX10_init (res.2.1 - s.heap.size) (res.2.2 - sB)) s m args below meth c H locs (u.2.1 - s.heap.size) (u.2.2 - sB) (MQ below (gQ Γ none res.1 res.2.1) args s (res.2.1 - s.heap.size) (res.2.2 - sB) Γ.2.2.1) (F0 m 261 ls [va_rf s1, va_rf (some x0)]) := by
  have hx := C.1
  have hb := C.2.1
  have hm := moX10_init_261 h
  unfold fX10_init_261 at h
  obtain ⟨u261, e261, h⟩ := ob h
  obtain ⟨g261, eg261, ev261⟩ := wN_inv e261
  replace hm : gLe u261 res := by rw [ev261]; exact hm
  refine gx_put C hG.1 hS rfl eg261 fgX10_93 fpX10_93 (fun _ => rfl) (gx_rfn _ _ (Or.inr ⟨_, rfl⟩)).1 (gx_rfn _ _ (Or.inr ⟨_, rfl⟩)).2 dX10_init_261 (fun H locs hg hS => gy_w hG ev261 hg (fun hG => ?_))
  refine gx_aload_n (r := (some x0)) hx hb dX10_init_264 rfl (lv_at hl 0 rfl) ?_
  refine lv_bipush (v := 8) hx hb dX10_init_265 (by decide) ?_
  obtain ⟨q267, u267, e267, h⟩ := obI h
  have hm2 : gLe u267 res := by
    exact moX10_init_269  h
  refine gy_newI C hG hS e267 ⟨Nat.sub_le_sub_right hm2.1 _, Nat.sub_le_sub_right hm2.2 _⟩ dX10_init_267 (fun H hG hS => ?_)
  exact wX10_init_269 C  h hG hS (lv_sub hl [0] rfl)
def fX10_init_253 (x0 : Nat) (s1 : Option Nat) (u : gN) : Option (gN) :=
  (wN (pV [11] 33 (va_rf s1) u.1 x0) u).bind fun u253 =>
  bI (nwI (6 : Int32) u253) fun q259 u259 =>
  fX10_init_261 x0 (some q259) u259 
set_option maxRecDepth 20000 in
theorem moX10_init_253 {x0 : Nat} {s1 : Option Nat} {u : gN} {res : gN} (h : fX10_init_253 x0 s1 u = some res) : gLe u res := by
  unfold fX10_init_253 at h
  obtain ⟨u253, e253, h⟩ := ob h
  refine gLe.tr (wN_le e253) ?_
  obtain ⟨q259, u259, e259, h⟩ := obI h
  refine gLe.tr (nwI_le e259) ?_
  exact moX10_init_261  h
set_option maxHeartbeats 4000000 in
set_option maxRecDepth 20000 in
theorem wX10_init_253  (C : gC p s m args meth c cX10_init 1 none RX10 "<init>" Γ){x0 : Nat} {s1 : Option Nat} {u : gN} {res : gN} (h : fX10_init_253 x0 s1 u = some res) {H : Heap} {locs : List Loc} (hG : gAn Γ sB u H) (hS : va_S Γ.2.2.1 s.heap H locs) {ls : Array Slot} (hl : lv_has ls 1 [(0, va_rf (some x0))]) : W p l e (rmX10_init (res.2.1 - s.heap.size) (res.2.2 - sB)) s m args below meth c H locs (u.2.1 - s.heap.size) (u.2.2 - sB) (MQ below (gQ Γ none res.1 res.2.1) args s (res.2.1 - s.heap.size) (res.2.2 - sB) Γ.2.2.1) (F0 m 253 ls [va_rf s1, va_rf (some x0)]) := by
  have hx := C.1
  have hb := C.2.1
  have hm := moX10_init_253 h
  unfold fX10_init_253 at h
  obtain ⟨u253, e253, h⟩ := ob h
  obtain ⟨g253, eg253, ev253⟩ := wN_inv e253
  replace hm : gLe u253 res := by rw [ev253]; exact hm
  refine gx_put C hG.1 hS rfl eg253 fgX10_90 fpX10_90 (fun _ => rfl) (gx_rfn _ _ (Or.inr ⟨_, rfl⟩)).1 (gx_rfn _ _ (Or.inr ⟨_, rfl⟩)).2 dX10_init_253 (fun H locs hg hS => gy_w hG ev253 hg (fun hG => ?_))
  refine gx_aload_n (r := (some x0)) hx hb dX10_init_256 rfl (lv_at hl 0 rfl) ?_
  refine lv_bipush (v := 6) hx hb dX10_init_257 (by decide) ?_
  obtain ⟨q259, u259, e259, h⟩ := obI h
  have hm2 : gLe u259 res := by
    exact moX10_init_261  h
  refine gy_newI C hG hS e259 ⟨Nat.sub_le_sub_right hm2.1 _, Nat.sub_le_sub_right hm2.2 _⟩ dX10_init_259 (fun H hG hS => ?_)
  exact wX10_init_261 C  h hG hS (lv_sub hl [0] rfl)
def fX10_init_245 (x0 : Nat) (s1 : Option Nat) (u : gN) : Option (gN) :=
  (wN (pV [11] 31 (va_rf s1) u.1 x0) u).bind fun u245 =>
  bI (nwI (20 : Int32) u245) fun q251 u251 =>
  fX10_init_253 x0 (some q251) u251 
set_option maxRecDepth 20000 in
theorem moX10_init_245 {x0 : Nat} {s1 : Option Nat} {u : gN} {res : gN} (h : fX10_init_245 x0 s1 u = some res) : gLe u res := by
  unfold fX10_init_245 at h
  obtain ⟨u245, e245, h⟩ := ob h
  refine gLe.tr (wN_le e245) ?_
  obtain ⟨q251, u251, e251, h⟩ := obI h
  refine gLe.tr (nwI_le e251) ?_
  exact moX10_init_253  h
set_option maxHeartbeats 4000000 in
set_option maxRecDepth 20000 in
theorem wX10_init_245  (C : gC p s m args meth c cX10_init 1 none RX10 "<init>" Γ){x0 : Nat} {s1 : Option Nat} {u : gN} {res : gN} (h : fX10_init_245 x0 s1 u = some res) {H : Heap} {locs : List Loc} (hG : gAn Γ sB u H) (hS : va_S Γ.2.2.1 s.heap H locs) {ls : Array Slot} (hl : lv_has ls 1 [(0, va_rf (some x0))]) : W p l e (rmX10_init (res.2.1 - s.heap.size) (res.2.2 - sB)) s m args below meth c H locs (u.2.1 - s.heap.size) (u.2.2 - sB) (MQ below (gQ Γ none res.1 res.2.1) args s (res.2.1 - s.heap.size) (res.2.2 - sB) Γ.2.2.1) (F0 m 245 ls [va_rf s1, va_rf (some x0)]) := by
  have hx := C.1
  have hb := C.2.1
  have hm := moX10_init_245 h
  unfold fX10_init_245 at h
  obtain ⟨u245, e245, h⟩ := ob h
  obtain ⟨g245, eg245, ev245⟩ := wN_inv e245
  replace hm : gLe u245 res := by rw [ev245]; exact hm
  refine gx_put C hG.1 hS rfl eg245 fgX10_87 fpX10_87 (fun _ => rfl) (gx_rfn _ _ (Or.inr ⟨_, rfl⟩)).1 (gx_rfn _ _ (Or.inr ⟨_, rfl⟩)).2 dX10_init_245 (fun H locs hg hS => gy_w hG ev245 hg (fun hG => ?_))
  refine gx_aload_n (r := (some x0)) hx hb dX10_init_248 rfl (lv_at hl 0 rfl) ?_
  refine lv_bipush (v := 20) hx hb dX10_init_249 (by decide) ?_
  obtain ⟨q251, u251, e251, h⟩ := obI h
  have hm2 : gLe u251 res := by
    exact moX10_init_253  h
  refine gy_newI C hG hS e251 ⟨Nat.sub_le_sub_right hm2.1 _, Nat.sub_le_sub_right hm2.2 _⟩ dX10_init_251 (fun H hG hS => ?_)
  exact wX10_init_253 C  h hG hS (lv_sub hl [0] rfl)
def fX10_init_237 (x0 : Nat) (s1 : Option Nat) (u : gN) : Option (gN) :=
  (wN (pV [11] 30 (va_rf s1) u.1 x0) u).bind fun u237 =>
  bI (nwI (60 : Int32) u237) fun q243 u243 =>
  fX10_init_245 x0 (some q243) u243 
set_option maxRecDepth 20000 in
theorem moX10_init_237 {x0 : Nat} {s1 : Option Nat} {u : gN} {res : gN} (h : fX10_init_237 x0 s1 u = some res) : gLe u res := by
  unfold fX10_init_237 at h
  obtain ⟨u237, e237, h⟩ := ob h
  refine gLe.tr (wN_le e237) ?_
  obtain ⟨q243, u243, e243, h⟩ := obI h
  refine gLe.tr (nwI_le e243) ?_
  exact moX10_init_245  h
set_option maxHeartbeats 4000000 in
set_option maxRecDepth 20000 in
theorem wX10_init_237  (C : gC p s m args meth c cX10_init 1 none RX10 "<init>" Γ){x0 : Nat} {s1 : Option Nat} {u : gN} {res : gN} (h : fX10_init_237 x0 s1 u = some res) {H : Heap} {locs : List Loc} (hG : gAn Γ sB u H) (hS : va_S Γ.2.2.1 s.heap H locs) {ls : Array Slot} (hl : lv_has ls 1 [(0, va_rf (some x0))]) : W p l e (rmX10_init (res.2.1 - s.heap.size) (res.2.2 - sB)) s m args below meth c H locs (u.2.1 - s.heap.size) (u.2.2 - sB) (MQ below (gQ Γ none res.1 res.2.1) args s (res.2.1 - s.heap.size) (res.2.2 - sB) Γ.2.2.1) (F0 m 237 ls [va_rf s1, va_rf (some x0)]) := by
  have hx := C.1
  have hb := C.2.1
  have hm := moX10_init_237 h
  unfold fX10_init_237 at h
  obtain ⟨u237, e237, h⟩ := ob h
  obtain ⟨g237, eg237, ev237⟩ := wN_inv e237
  replace hm : gLe u237 res := by rw [ev237]; exact hm
  refine gx_put C hG.1 hS rfl eg237 fgX10_84 fpX10_84 (fun _ => rfl) (gx_rfn _ _ (Or.inr ⟨_, rfl⟩)).1 (gx_rfn _ _ (Or.inr ⟨_, rfl⟩)).2 dX10_init_237 (fun H locs hg hS => gy_w hG ev237 hg (fun hG => ?_))
  refine gx_aload_n (r := (some x0)) hx hb dX10_init_240 rfl (lv_at hl 0 rfl) ?_
  refine lv_bipush (v := 60) hx hb dX10_init_241 (by decide) ?_
  obtain ⟨q243, u243, e243, h⟩ := obI h
  have hm2 : gLe u243 res := by
    exact moX10_init_245  h
  refine gy_newI C hG hS e243 ⟨Nat.sub_le_sub_right hm2.1 _, Nat.sub_le_sub_right hm2.2 _⟩ dX10_init_243 (fun H hG hS => ?_)
  exact wX10_init_245 C  h hG hS (lv_sub hl [0] rfl)
def fX10_init_209 (x0 : Nat) (s1 : Option Nat) (u : gN) : Option (gN) :=
  (s1).bind fun a213 =>
  (wN (uI u.1 a213 (0 : Int32) (12 : Int32)) u).bind fun u213 =>
  (s1).bind fun a218 =>
  (wN (uI u213.1 a218 (1 : Int32) (12 : Int32)) u213).bind fun u218 =>
  (s1).bind fun a223 =>
  (wN (uI u218.1 a223 (2 : Int32) (12 : Int32)) u218).bind fun u223 =>
  (s1).bind fun a228 =>
  (wN (uI u223.1 a228 (3 : Int32) (12 : Int32)) u223).bind fun u228 =>
  (wN (pV [11] 28 (va_rf s1) u228.1 x0) u228).bind fun u229 =>
  bI (nwI (60 : Int32) u229) fun q235 u235 =>
  fX10_init_237 x0 (some q235) u235 
set_option maxRecDepth 20000 in
theorem moX10_init_209 {x0 : Nat} {s1 : Option Nat} {u : gN} {res : gN} (h : fX10_init_209 x0 s1 u = some res) : gLe u res := by
  unfold fX10_init_209 at h
  obtain ⟨a213, na213, h⟩ := ob h
  obtain ⟨u213, e213, h⟩ := ob h
  refine gLe.tr (wN_le e213) ?_
  obtain ⟨a218, na218, h⟩ := ob h
  obtain ⟨u218, e218, h⟩ := ob h
  refine gLe.tr (wN_le e218) ?_
  obtain ⟨a223, na223, h⟩ := ob h
  obtain ⟨u223, e223, h⟩ := ob h
  refine gLe.tr (wN_le e223) ?_
  obtain ⟨a228, na228, h⟩ := ob h
  obtain ⟨u228, e228, h⟩ := ob h
  refine gLe.tr (wN_le e228) ?_
  obtain ⟨u229, e229, h⟩ := ob h
  refine gLe.tr (wN_le e229) ?_
  obtain ⟨q235, u235, e235, h⟩ := obI h
  refine gLe.tr (nwI_le e235) ?_
  exact moX10_init_237  h
set_option maxHeartbeats 4000000 in
set_option maxRecDepth 20000 in
theorem wX10_init_209  (C : gC p s m args meth c cX10_init 1 none RX10 "<init>" Γ){x0 : Nat} {s1 : Option Nat} {u : gN} {res : gN} (h : fX10_init_209 x0 s1 u = some res) {H : Heap} {locs : List Loc} (hG : gAn Γ sB u H) (hS : va_S Γ.2.2.1 s.heap H locs) {ls : Array Slot} (hl : lv_has ls 1 [(0, va_rf (some x0))]) : W p l e (rmX10_init (res.2.1 - s.heap.size) (res.2.2 - sB)) s m args below meth c H locs (u.2.1 - s.heap.size) (u.2.2 - sB) (MQ below (gQ Γ none res.1 res.2.1) args s (res.2.1 - s.heap.size) (res.2.2 - sB) Γ.2.2.1) (F0 m 209 ls [va_rf s1, va_rf (some x0)]) := by
  have hx := C.1
  have hb := C.2.1
  have hm := moX10_init_209 h
  unfold fX10_init_209 at h
  refine lv_dup hx hb dX10_init_209 (by first | rfl | exact gx_cat _) ?_
  refine lv_iconst (v := 0) hx hb dX10_init_210 (by decide) ?_
  refine lv_bipush (v := 12) hx hb dX10_init_211 (by decide) ?_
  obtain ⟨a213, na213, h⟩ := ob h
  obtain ⟨u213, e213, h⟩ := ob h
  obtain ⟨g213, eg213, ev213⟩ := wN_inv e213
  replace hm : gLe u213 res := by rw [ev213]; exact hm
  refine gx_iast C hG.1 hS na213 eg213 dX10_init_213 (fun H locs hg hS => gy_w hG ev213 hg (fun hG => ?_))
  refine lv_dup hx hb dX10_init_214 (by first | rfl | exact gx_cat _) ?_
  refine lv_iconst (v := 1) hx hb dX10_init_215 (by decide) ?_
  refine lv_bipush (v := 12) hx hb dX10_init_216 (by decide) ?_
  obtain ⟨a218, na218, h⟩ := ob h
  obtain ⟨u218, e218, h⟩ := ob h
  obtain ⟨g218, eg218, ev218⟩ := wN_inv e218
  replace hm : gLe u218 res := by rw [ev218]; exact hm
  refine gx_iast C hG.1 hS na218 eg218 dX10_init_218 (fun H locs hg hS => gy_w hG ev218 hg (fun hG => ?_))
  refine lv_dup hx hb dX10_init_219 (by first | rfl | exact gx_cat _) ?_
  refine lv_iconst (v := 2) hx hb dX10_init_220 (by decide) ?_
  refine lv_bipush (v := 12) hx hb dX10_init_221 (by decide) ?_
  obtain ⟨a223, na223, h⟩ := ob h
  obtain ⟨u223, e223, h⟩ := ob h
  obtain ⟨g223, eg223, ev223⟩ := wN_inv e223
  replace hm : gLe u223 res := by rw [ev223]; exact hm
  refine gx_iast C hG.1 hS na223 eg223 dX10_init_223 (fun H locs hg hS => gy_w hG ev223 hg (fun hG => ?_))
  refine lv_dup hx hb dX10_init_224 (by first | rfl | exact gx_cat _) ?_
  refine lv_iconst (v := 3) hx hb dX10_init_225 (by decide) ?_
  refine lv_bipush (v := 12) hx hb dX10_init_226 (by decide) ?_
  obtain ⟨a228, na228, h⟩ := ob h
  obtain ⟨u228, e228, h⟩ := ob h
  obtain ⟨g228, eg228, ev228⟩ := wN_inv e228
  replace hm : gLe u228 res := by rw [ev228]; exact hm
  refine gx_iast C hG.1 hS na228 eg228 dX10_init_228 (fun H locs hg hS => gy_w hG ev228 hg (fun hG => ?_))
  obtain ⟨u229, e229, h⟩ := ob h
  obtain ⟨g229, eg229, ev229⟩ := wN_inv e229
  replace hm : gLe u229 res := by rw [ev229]; exact hm
  refine gx_put C hG.1 hS rfl eg229 fgX10_81 fpX10_81 (fun _ => rfl) (gx_rfn _ _ (Or.inr ⟨_, rfl⟩)).1 (gx_rfn _ _ (Or.inr ⟨_, rfl⟩)).2 dX10_init_229 (fun H locs hg hS => gy_w hG ev229 hg (fun hG => ?_))
  refine gx_aload_n (r := (some x0)) hx hb dX10_init_232 rfl (lv_at hl 0 rfl) ?_
  refine lv_bipush (v := 60) hx hb dX10_init_233 (by decide) ?_
  obtain ⟨q235, u235, e235, h⟩ := obI h
  have hm2 : gLe u235 res := by
    exact moX10_init_237  h
  refine gy_newI C hG hS e235 ⟨Nat.sub_le_sub_right hm2.1 _, Nat.sub_le_sub_right hm2.2 _⟩ dX10_init_235 (fun H hG hS => ?_)
  exact wX10_init_237 C  h hG hS (lv_sub hl [0] rfl)
def fX10_init_202 (x0 : Nat) (s1 : Option Nat) (u : gN) : Option (gN) :=
  (wN (pV [11] 27 (va_rf s1) u.1 x0) u).bind fun u202 =>
  bI (nwI (4 : Int32) u202) fun q207 u207 =>
  fX10_init_209 x0 (some q207) u207 
set_option maxRecDepth 20000 in
theorem moX10_init_202 {x0 : Nat} {s1 : Option Nat} {u : gN} {res : gN} (h : fX10_init_202 x0 s1 u = some res) : gLe u res := by
  unfold fX10_init_202 at h
  obtain ⟨u202, e202, h⟩ := ob h
  refine gLe.tr (wN_le e202) ?_
  obtain ⟨q207, u207, e207, h⟩ := obI h
  refine gLe.tr (nwI_le e207) ?_
  exact moX10_init_209  h
set_option maxHeartbeats 4000000 in
set_option maxRecDepth 20000 in
theorem wX10_init_202  (C : gC p s m args meth c cX10_init 1 none RX10 "<init>" Γ){x0 : Nat} {s1 : Option Nat} {u : gN} {res : gN} (h : fX10_init_202 x0 s1 u = some res) {H : Heap} {locs : List Loc} (hG : gAn Γ sB u H) (hS : va_S Γ.2.2.1 s.heap H locs) {ls : Array Slot} (hl : lv_has ls 1 [(0, va_rf (some x0))]) : W p l e (rmX10_init (res.2.1 - s.heap.size) (res.2.2 - sB)) s m args below meth c H locs (u.2.1 - s.heap.size) (u.2.2 - sB) (MQ below (gQ Γ none res.1 res.2.1) args s (res.2.1 - s.heap.size) (res.2.2 - sB) Γ.2.2.1) (F0 m 202 ls [va_rf s1, va_rf (some x0)]) := by
  have hx := C.1
  have hb := C.2.1
  have hm := moX10_init_202 h
  unfold fX10_init_202 at h
  obtain ⟨u202, e202, h⟩ := ob h
  obtain ⟨g202, eg202, ev202⟩ := wN_inv e202
  replace hm : gLe u202 res := by rw [ev202]; exact hm
  refine gx_put C hG.1 hS rfl eg202 fgX10_78 fpX10_78 (fun _ => rfl) (gx_rfn _ _ (Or.inr ⟨_, rfl⟩)).1 (gx_rfn _ _ (Or.inr ⟨_, rfl⟩)).2 dX10_init_202 (fun H locs hg hS => gy_w hG ev202 hg (fun hG => ?_))
  refine gx_aload_n (r := (some x0)) hx hb dX10_init_205 rfl (lv_at hl 0 rfl) ?_
  refine lv_iconst (v := 4) hx hb dX10_init_206 (by decide) ?_
  obtain ⟨q207, u207, e207, h⟩ := obI h
  have hm2 : gLe u207 res := by
    exact moX10_init_209  h
  refine gy_newI C hG hS e207 ⟨Nat.sub_le_sub_right hm2.1 _, Nat.sub_le_sub_right hm2.2 _⟩ dX10_init_207 (fun H hG hS => ?_)
  exact wX10_init_209 C  h hG hS (lv_sub hl [0] rfl)
def fX10_init_194 (x0 : Nat) (s1 : Option Nat) (u : gN) : Option (gN) :=
  (wN (pV [11] 26 (va_rf s1) u.1 x0) u).bind fun u194 =>
  bI (nwI (16 : Int32) u194) fun q200 u200 =>
  fX10_init_202 x0 (some q200) u200 
set_option maxRecDepth 20000 in
theorem moX10_init_194 {x0 : Nat} {s1 : Option Nat} {u : gN} {res : gN} (h : fX10_init_194 x0 s1 u = some res) : gLe u res := by
  unfold fX10_init_194 at h
  obtain ⟨u194, e194, h⟩ := ob h
  refine gLe.tr (wN_le e194) ?_
  obtain ⟨q200, u200, e200, h⟩ := obI h
  refine gLe.tr (nwI_le e200) ?_
  exact moX10_init_202  h
set_option maxHeartbeats 4000000 in
set_option maxRecDepth 20000 in
theorem wX10_init_194  (C : gC p s m args meth c cX10_init 1 none RX10 "<init>" Γ){x0 : Nat} {s1 : Option Nat} {u : gN} {res : gN} (h : fX10_init_194 x0 s1 u = some res) {H : Heap} {locs : List Loc} (hG : gAn Γ sB u H) (hS : va_S Γ.2.2.1 s.heap H locs) {ls : Array Slot} (hl : lv_has ls 1 [(0, va_rf (some x0))]) : W p l e (rmX10_init (res.2.1 - s.heap.size) (res.2.2 - sB)) s m args below meth c H locs (u.2.1 - s.heap.size) (u.2.2 - sB) (MQ below (gQ Γ none res.1 res.2.1) args s (res.2.1 - s.heap.size) (res.2.2 - sB) Γ.2.2.1) (F0 m 194 ls [va_rf s1, va_rf (some x0)]) := by
  have hx := C.1
  have hb := C.2.1
  have hm := moX10_init_194 h
  unfold fX10_init_194 at h
  obtain ⟨u194, e194, h⟩ := ob h
  obtain ⟨g194, eg194, ev194⟩ := wN_inv e194
  replace hm : gLe u194 res := by rw [ev194]; exact hm
  refine gx_put C hG.1 hS rfl eg194 fgX10_75 fpX10_75 (fun _ => rfl) (gx_rfn _ _ (Or.inr ⟨_, rfl⟩)).1 (gx_rfn _ _ (Or.inr ⟨_, rfl⟩)).2 dX10_init_194 (fun H locs hg hS => gy_w hG ev194 hg (fun hG => ?_))
  refine gx_aload_n (r := (some x0)) hx hb dX10_init_197 rfl (lv_at hl 0 rfl) ?_
  refine lv_bipush (v := 16) hx hb dX10_init_198 (by decide) ?_
  obtain ⟨q200, u200, e200, h⟩ := obI h
  have hm2 : gLe u200 res := by
    exact moX10_init_202  h
  refine gy_newI C hG hS e200 ⟨Nat.sub_le_sub_right hm2.1 _, Nat.sub_le_sub_right hm2.2 _⟩ dX10_init_200 (fun H hG hS => ?_)
  exact wX10_init_202 C  h hG hS (lv_sub hl [0] rfl)
def fX10_init_166 (x0 : Nat) (s1 : Option Nat) (u : gN) : Option (gN) :=
  (s1).bind fun a169 =>
  (wN (uI u.1 a169 (0 : Int32) (4 : Int32)) u).bind fun u169 =>
  (s1).bind fun a173 =>
  (wN (uI u169.1 a173 (1 : Int32) (4 : Int32)) u169).bind fun u173 =>
  (s1).bind fun a177 =>
  (wN (uI u173.1 a177 (2 : Int32) (4 : Int32)) u173).bind fun u177 =>
  (s1).bind fun a181 =>
  (wN (uI u177.1 a181 (3 : Int32) (4 : Int32)) u177).bind fun u181 =>
  (s1).bind fun a185 =>
  (wN (uI u181.1 a185 (4 : Int32) (4 : Int32)) u181).bind fun u185 =>
  (wN (pV [11] 24 (va_rf s1) u185.1 x0) u185).bind fun u186 =>
  bI (nwI (16 : Int32) u186) fun q192 u192 =>
  fX10_init_194 x0 (some q192) u192 
set_option maxRecDepth 20000 in
theorem moX10_init_166 {x0 : Nat} {s1 : Option Nat} {u : gN} {res : gN} (h : fX10_init_166 x0 s1 u = some res) : gLe u res := by
  unfold fX10_init_166 at h
  obtain ⟨a169, na169, h⟩ := ob h
  obtain ⟨u169, e169, h⟩ := ob h
  refine gLe.tr (wN_le e169) ?_
  obtain ⟨a173, na173, h⟩ := ob h
  obtain ⟨u173, e173, h⟩ := ob h
  refine gLe.tr (wN_le e173) ?_
  obtain ⟨a177, na177, h⟩ := ob h
  obtain ⟨u177, e177, h⟩ := ob h
  refine gLe.tr (wN_le e177) ?_
  obtain ⟨a181, na181, h⟩ := ob h
  obtain ⟨u181, e181, h⟩ := ob h
  refine gLe.tr (wN_le e181) ?_
  obtain ⟨a185, na185, h⟩ := ob h
  obtain ⟨u185, e185, h⟩ := ob h
  refine gLe.tr (wN_le e185) ?_
  obtain ⟨u186, e186, h⟩ := ob h
  refine gLe.tr (wN_le e186) ?_
  obtain ⟨q192, u192, e192, h⟩ := obI h
  refine gLe.tr (nwI_le e192) ?_
  exact moX10_init_194  h
set_option maxHeartbeats 4000000 in
set_option maxRecDepth 20000 in
theorem wX10_init_166  (C : gC p s m args meth c cX10_init 1 none RX10 "<init>" Γ){x0 : Nat} {s1 : Option Nat} {u : gN} {res : gN} (h : fX10_init_166 x0 s1 u = some res) {H : Heap} {locs : List Loc} (hG : gAn Γ sB u H) (hS : va_S Γ.2.2.1 s.heap H locs) {ls : Array Slot} (hl : lv_has ls 1 [(0, va_rf (some x0))]) : W p l e (rmX10_init (res.2.1 - s.heap.size) (res.2.2 - sB)) s m args below meth c H locs (u.2.1 - s.heap.size) (u.2.2 - sB) (MQ below (gQ Γ none res.1 res.2.1) args s (res.2.1 - s.heap.size) (res.2.2 - sB) Γ.2.2.1) (F0 m 166 ls [va_rf s1, va_rf (some x0)]) := by
  have hx := C.1
  have hb := C.2.1
  have hm := moX10_init_166 h
  unfold fX10_init_166 at h
  refine lv_dup hx hb dX10_init_166 (by first | rfl | exact gx_cat _) ?_
  refine lv_iconst (v := 0) hx hb dX10_init_167 (by decide) ?_
  refine lv_iconst (v := 4) hx hb dX10_init_168 (by decide) ?_
  obtain ⟨a169, na169, h⟩ := ob h
  obtain ⟨u169, e169, h⟩ := ob h
  obtain ⟨g169, eg169, ev169⟩ := wN_inv e169
  replace hm : gLe u169 res := by rw [ev169]; exact hm
  refine gx_iast C hG.1 hS na169 eg169 dX10_init_169 (fun H locs hg hS => gy_w hG ev169 hg (fun hG => ?_))
  refine lv_dup hx hb dX10_init_170 (by first | rfl | exact gx_cat _) ?_
  refine lv_iconst (v := 1) hx hb dX10_init_171 (by decide) ?_
  refine lv_iconst (v := 4) hx hb dX10_init_172 (by decide) ?_
  obtain ⟨a173, na173, h⟩ := ob h
  obtain ⟨u173, e173, h⟩ := ob h
  obtain ⟨g173, eg173, ev173⟩ := wN_inv e173
  replace hm : gLe u173 res := by rw [ev173]; exact hm
  refine gx_iast C hG.1 hS na173 eg173 dX10_init_173 (fun H locs hg hS => gy_w hG ev173 hg (fun hG => ?_))
  refine lv_dup hx hb dX10_init_174 (by first | rfl | exact gx_cat _) ?_
  refine lv_iconst (v := 2) hx hb dX10_init_175 (by decide) ?_
  refine lv_iconst (v := 4) hx hb dX10_init_176 (by decide) ?_
  obtain ⟨a177, na177, h⟩ := ob h
  obtain ⟨u177, e177, h⟩ := ob h
  obtain ⟨g177, eg177, ev177⟩ := wN_inv e177
  replace hm : gLe u177 res := by rw [ev177]; exact hm
  refine gx_iast C hG.1 hS na177 eg177 dX10_init_177 (fun H locs hg hS => gy_w hG ev177 hg (fun hG => ?_))
  refine lv_dup hx hb dX10_init_178 (by first | rfl | exact gx_cat _) ?_
  refine lv_iconst (v := 3) hx hb dX10_init_179 (by decide) ?_
  refine lv_iconst (v := 4) hx hb dX10_init_180 (by decide) ?_
  obtain ⟨a181, na181, h⟩ := ob h
  obtain ⟨u181, e181, h⟩ := ob h
  obtain ⟨g181, eg181, ev181⟩ := wN_inv e181
  replace hm : gLe u181 res := by rw [ev181]; exact hm
  refine gx_iast C hG.1 hS na181 eg181 dX10_init_181 (fun H locs hg hS => gy_w hG ev181 hg (fun hG => ?_))
  refine lv_dup hx hb dX10_init_182 (by first | rfl | exact gx_cat _) ?_
  refine lv_iconst (v := 4) hx hb dX10_init_183 (by decide) ?_
  refine lv_iconst (v := 4) hx hb dX10_init_184 (by decide) ?_
  obtain ⟨a185, na185, h⟩ := ob h
  obtain ⟨u185, e185, h⟩ := ob h
  obtain ⟨g185, eg185, ev185⟩ := wN_inv e185
  replace hm : gLe u185 res := by rw [ev185]; exact hm
  refine gx_iast C hG.1 hS na185 eg185 dX10_init_185 (fun H locs hg hS => gy_w hG ev185 hg (fun hG => ?_))
  obtain ⟨u186, e186, h⟩ := ob h
  obtain ⟨g186, eg186, ev186⟩ := wN_inv e186
  replace hm : gLe u186 res := by rw [ev186]; exact hm
  refine gx_put C hG.1 hS rfl eg186 fgX10_72 fpX10_72 (fun _ => rfl) (gx_rfn _ _ (Or.inr ⟨_, rfl⟩)).1 (gx_rfn _ _ (Or.inr ⟨_, rfl⟩)).2 dX10_init_186 (fun H locs hg hS => gy_w hG ev186 hg (fun hG => ?_))
  refine gx_aload_n (r := (some x0)) hx hb dX10_init_189 rfl (lv_at hl 0 rfl) ?_
  refine lv_bipush (v := 16) hx hb dX10_init_190 (by decide) ?_
  obtain ⟨q192, u192, e192, h⟩ := obI h
  have hm2 : gLe u192 res := by
    exact moX10_init_194  h
  refine gy_newI C hG hS e192 ⟨Nat.sub_le_sub_right hm2.1 _, Nat.sub_le_sub_right hm2.2 _⟩ dX10_init_192 (fun H hG hS => ?_)
  exact wX10_init_194 C  h hG hS (lv_sub hl [0] rfl)
def fX10_init_159 (x0 : Nat) (s1 : Option Nat) (u : gN) : Option (gN) :=
  (wN (pV [11] 23 (va_rf s1) u.1 x0) u).bind fun u159 =>
  bI (nwI (5 : Int32) u159) fun q164 u164 =>
  fX10_init_166 x0 (some q164) u164 
set_option maxRecDepth 20000 in
theorem moX10_init_159 {x0 : Nat} {s1 : Option Nat} {u : gN} {res : gN} (h : fX10_init_159 x0 s1 u = some res) : gLe u res := by
  unfold fX10_init_159 at h
  obtain ⟨u159, e159, h⟩ := ob h
  refine gLe.tr (wN_le e159) ?_
  obtain ⟨q164, u164, e164, h⟩ := obI h
  refine gLe.tr (nwI_le e164) ?_
  exact moX10_init_166  h
set_option maxHeartbeats 4000000 in
set_option maxRecDepth 20000 in
theorem wX10_init_159  (C : gC p s m args meth c cX10_init 1 none RX10 "<init>" Γ){x0 : Nat} {s1 : Option Nat} {u : gN} {res : gN} (h : fX10_init_159 x0 s1 u = some res) {H : Heap} {locs : List Loc} (hG : gAn Γ sB u H) (hS : va_S Γ.2.2.1 s.heap H locs) {ls : Array Slot} (hl : lv_has ls 1 [(0, va_rf (some x0))]) : W p l e (rmX10_init (res.2.1 - s.heap.size) (res.2.2 - sB)) s m args below meth c H locs (u.2.1 - s.heap.size) (u.2.2 - sB) (MQ below (gQ Γ none res.1 res.2.1) args s (res.2.1 - s.heap.size) (res.2.2 - sB) Γ.2.2.1) (F0 m 159 ls [va_rf s1, va_rf (some x0)]) := by
  have hx := C.1
  have hb := C.2.1
  have hm := moX10_init_159 h
  unfold fX10_init_159 at h
  obtain ⟨u159, e159, h⟩ := ob h
  obtain ⟨g159, eg159, ev159⟩ := wN_inv e159
  replace hm : gLe u159 res := by rw [ev159]; exact hm
  refine gx_put C hG.1 hS rfl eg159 fgX10_69 fpX10_69 (fun _ => rfl) (gx_rfn _ _ (Or.inr ⟨_, rfl⟩)).1 (gx_rfn _ _ (Or.inr ⟨_, rfl⟩)).2 dX10_init_159 (fun H locs hg hS => gy_w hG ev159 hg (fun hG => ?_))
  refine gx_aload_n (r := (some x0)) hx hb dX10_init_162 rfl (lv_at hl 0 rfl) ?_
  refine lv_iconst (v := 5) hx hb dX10_init_163 (by decide) ?_
  obtain ⟨q164, u164, e164, h⟩ := obI h
  have hm2 : gLe u164 res := by
    exact moX10_init_166  h
  refine gy_newI C hG hS e164 ⟨Nat.sub_le_sub_right hm2.1 _, Nat.sub_le_sub_right hm2.2 _⟩ dX10_init_164 (fun H hG hS => ?_)
  exact wX10_init_166 C  h hG hS (lv_sub hl [0] rfl)
def fX10_init_151 (x0 : Nat) (s1 : Option Nat) (u : gN) : Option (gN) :=
  (wN (pV [11] 22 (va_rf s1) u.1 x0) u).bind fun u151 =>
  bI (nwZ (8 : Int32) u151) fun q157 u157 =>
  fX10_init_159 x0 (some q157) u157 
set_option maxRecDepth 20000 in
theorem moX10_init_151 {x0 : Nat} {s1 : Option Nat} {u : gN} {res : gN} (h : fX10_init_151 x0 s1 u = some res) : gLe u res := by
  unfold fX10_init_151 at h
  obtain ⟨u151, e151, h⟩ := ob h
  refine gLe.tr (wN_le e151) ?_
  obtain ⟨q157, u157, e157, h⟩ := obI h
  refine gLe.tr (nwZ_le e157) ?_
  exact moX10_init_159  h
set_option maxHeartbeats 4000000 in
set_option maxRecDepth 20000 in
theorem wX10_init_151  (C : gC p s m args meth c cX10_init 1 none RX10 "<init>" Γ){x0 : Nat} {s1 : Option Nat} {u : gN} {res : gN} (h : fX10_init_151 x0 s1 u = some res) {H : Heap} {locs : List Loc} (hG : gAn Γ sB u H) (hS : va_S Γ.2.2.1 s.heap H locs) {ls : Array Slot} (hl : lv_has ls 1 [(0, va_rf (some x0))]) : W p l e (rmX10_init (res.2.1 - s.heap.size) (res.2.2 - sB)) s m args below meth c H locs (u.2.1 - s.heap.size) (u.2.2 - sB) (MQ below (gQ Γ none res.1 res.2.1) args s (res.2.1 - s.heap.size) (res.2.2 - sB) Γ.2.2.1) (F0 m 151 ls [va_rf s1, va_rf (some x0)]) := by
  have hx := C.1
  have hb := C.2.1
  have hm := moX10_init_151 h
  unfold fX10_init_151 at h
  obtain ⟨u151, e151, h⟩ := ob h
  obtain ⟨g151, eg151, ev151⟩ := wN_inv e151
  replace hm : gLe u151 res := by rw [ev151]; exact hm
  refine gx_put C hG.1 hS rfl eg151 fgX10_66 fpX10_66 (fun _ => rfl) (gx_rfn _ _ (Or.inr ⟨_, rfl⟩)).1 (gx_rfn _ _ (Or.inr ⟨_, rfl⟩)).2 dX10_init_151 (fun H locs hg hS => gy_w hG ev151 hg (fun hG => ?_))
  refine gx_aload_n (r := (some x0)) hx hb dX10_init_154 rfl (lv_at hl 0 rfl) ?_
  refine lv_bipush (v := 8) hx hb dX10_init_155 (by decide) ?_
  obtain ⟨q157, u157, e157, h⟩ := obI h
  have hm2 : gLe u157 res := by
    exact moX10_init_159  h
  refine gy_newZ C hG hS e157 ⟨Nat.sub_le_sub_right hm2.1 _, Nat.sub_le_sub_right hm2.2 _⟩ dX10_init_157 (fun H hG hS => ?_)
  exact wX10_init_159 C  h hG hS (lv_sub hl [0] rfl)
def fX10_init_143 (x0 : Nat) (s1 : Option Nat) (u : gN) : Option (gN) :=
  (wN (pV [11] 21 (va_rf s1) u.1 x0) u).bind fun u143 =>
  bI (nwI (8 : Int32) u143) fun q149 u149 =>
  fX10_init_151 x0 (some q149) u149 
set_option maxRecDepth 20000 in
theorem moX10_init_143 {x0 : Nat} {s1 : Option Nat} {u : gN} {res : gN} (h : fX10_init_143 x0 s1 u = some res) : gLe u res := by
  unfold fX10_init_143 at h
  obtain ⟨u143, e143, h⟩ := ob h
  refine gLe.tr (wN_le e143) ?_
  obtain ⟨q149, u149, e149, h⟩ := obI h
  refine gLe.tr (nwI_le e149) ?_
  exact moX10_init_151  h
set_option maxHeartbeats 4000000 in
set_option maxRecDepth 20000 in
theorem wX10_init_143  (C : gC p s m args meth c cX10_init 1 none RX10 "<init>" Γ){x0 : Nat} {s1 : Option Nat} {u : gN} {res : gN} (h : fX10_init_143 x0 s1 u = some res) {H : Heap} {locs : List Loc} (hG : gAn Γ sB u H) (hS : va_S Γ.2.2.1 s.heap H locs) {ls : Array Slot} (hl : lv_has ls 1 [(0, va_rf (some x0))]) : W p l e (rmX10_init (res.2.1 - s.heap.size) (res.2.2 - sB)) s m args below meth c H locs (u.2.1 - s.heap.size) (u.2.2 - sB) (MQ below (gQ Γ none res.1 res.2.1) args s (res.2.1 - s.heap.size) (res.2.2 - sB) Γ.2.2.1) (F0 m 143 ls [va_rf s1, va_rf (some x0)]) := by
  have hx := C.1
  have hb := C.2.1
  have hm := moX10_init_143 h
  unfold fX10_init_143 at h
  obtain ⟨u143, e143, h⟩ := ob h
  obtain ⟨g143, eg143, ev143⟩ := wN_inv e143
  replace hm : gLe u143 res := by rw [ev143]; exact hm
  refine gx_put C hG.1 hS rfl eg143 fgX10_63 fpX10_63 (fun _ => rfl) (gx_rfn _ _ (Or.inr ⟨_, rfl⟩)).1 (gx_rfn _ _ (Or.inr ⟨_, rfl⟩)).2 dX10_init_143 (fun H locs hg hS => gy_w hG ev143 hg (fun hG => ?_))
  refine gx_aload_n (r := (some x0)) hx hb dX10_init_146 rfl (lv_at hl 0 rfl) ?_
  refine lv_bipush (v := 8) hx hb dX10_init_147 (by decide) ?_
  obtain ⟨q149, u149, e149, h⟩ := obI h
  have hm2 : gLe u149 res := by
    exact moX10_init_151  h
  refine gy_newI C hG hS e149 ⟨Nat.sub_le_sub_right hm2.1 _, Nat.sub_le_sub_right hm2.2 _⟩ dX10_init_149 (fun H hG hS => ?_)
  exact wX10_init_151 C  h hG hS (lv_sub hl [0] rfl)
def fX10_init_135 (x0 : Nat) (s1 : Option Nat) (u : gN) : Option (gN) :=
  (wN (pV [11] 20 (va_rf s1) u.1 x0) u).bind fun u135 =>
  bI (nwI (8 : Int32) u135) fun q141 u141 =>
  fX10_init_143 x0 (some q141) u141 
set_option maxRecDepth 20000 in
theorem moX10_init_135 {x0 : Nat} {s1 : Option Nat} {u : gN} {res : gN} (h : fX10_init_135 x0 s1 u = some res) : gLe u res := by
  unfold fX10_init_135 at h
  obtain ⟨u135, e135, h⟩ := ob h
  refine gLe.tr (wN_le e135) ?_
  obtain ⟨q141, u141, e141, h⟩ := obI h
  refine gLe.tr (nwI_le e141) ?_
  exact moX10_init_143  h
set_option maxHeartbeats 4000000 in
set_option maxRecDepth 20000 in
theorem wX10_init_135  (C : gC p s m args meth c cX10_init 1 none RX10 "<init>" Γ){x0 : Nat} {s1 : Option Nat} {u : gN} {res : gN} (h : fX10_init_135 x0 s1 u = some res) {H : Heap} {locs : List Loc} (hG : gAn Γ sB u H) (hS : va_S Γ.2.2.1 s.heap H locs) {ls : Array Slot} (hl : lv_has ls 1 [(0, va_rf (some x0))]) : W p l e (rmX10_init (res.2.1 - s.heap.size) (res.2.2 - sB)) s m args below meth c H locs (u.2.1 - s.heap.size) (u.2.2 - sB) (MQ below (gQ Γ none res.1 res.2.1) args s (res.2.1 - s.heap.size) (res.2.2 - sB) Γ.2.2.1) (F0 m 135 ls [va_rf s1, va_rf (some x0)]) := by
  have hx := C.1
  have hb := C.2.1
  have hm := moX10_init_135 h
  unfold fX10_init_135 at h
  obtain ⟨u135, e135, h⟩ := ob h
  obtain ⟨g135, eg135, ev135⟩ := wN_inv e135
  replace hm : gLe u135 res := by rw [ev135]; exact hm
  refine gx_put C hG.1 hS rfl eg135 fgX10_60 fpX10_60 (fun _ => rfl) (gx_rfn _ _ (Or.inr ⟨_, rfl⟩)).1 (gx_rfn _ _ (Or.inr ⟨_, rfl⟩)).2 dX10_init_135 (fun H locs hg hS => gy_w hG ev135 hg (fun hG => ?_))
  refine gx_aload_n (r := (some x0)) hx hb dX10_init_138 rfl (lv_at hl 0 rfl) ?_
  refine lv_bipush (v := 8) hx hb dX10_init_139 (by decide) ?_
  obtain ⟨q141, u141, e141, h⟩ := obI h
  have hm2 : gLe u141 res := by
    exact moX10_init_143  h
  refine gy_newI C hG hS e141 ⟨Nat.sub_le_sub_right hm2.1 _, Nat.sub_le_sub_right hm2.2 _⟩ dX10_init_141 (fun H hG hS => ?_)
  exact wX10_init_143 C  h hG hS (lv_sub hl [0] rfl)
def fX10_init_127 (x0 : Nat) (s1 : Option Nat) (u : gN) : Option (gN) :=
  (wN (pV [11] 19 (va_rf s1) u.1 x0) u).bind fun u127 =>
  bI (nwI (8 : Int32) u127) fun q133 u133 =>
  fX10_init_135 x0 (some q133) u133 
set_option maxRecDepth 20000 in
theorem moX10_init_127 {x0 : Nat} {s1 : Option Nat} {u : gN} {res : gN} (h : fX10_init_127 x0 s1 u = some res) : gLe u res := by
  unfold fX10_init_127 at h
  obtain ⟨u127, e127, h⟩ := ob h
  refine gLe.tr (wN_le e127) ?_
  obtain ⟨q133, u133, e133, h⟩ := obI h
  refine gLe.tr (nwI_le e133) ?_
  exact moX10_init_135  h
set_option maxHeartbeats 4000000 in
set_option maxRecDepth 20000 in
theorem wX10_init_127  (C : gC p s m args meth c cX10_init 1 none RX10 "<init>" Γ){x0 : Nat} {s1 : Option Nat} {u : gN} {res : gN} (h : fX10_init_127 x0 s1 u = some res) {H : Heap} {locs : List Loc} (hG : gAn Γ sB u H) (hS : va_S Γ.2.2.1 s.heap H locs) {ls : Array Slot} (hl : lv_has ls 1 [(0, va_rf (some x0))]) : W p l e (rmX10_init (res.2.1 - s.heap.size) (res.2.2 - sB)) s m args below meth c H locs (u.2.1 - s.heap.size) (u.2.2 - sB) (MQ below (gQ Γ none res.1 res.2.1) args s (res.2.1 - s.heap.size) (res.2.2 - sB) Γ.2.2.1) (F0 m 127 ls [va_rf s1, va_rf (some x0)]) := by
  have hx := C.1
  have hb := C.2.1
  have hm := moX10_init_127 h
  unfold fX10_init_127 at h
  obtain ⟨u127, e127, h⟩ := ob h
  obtain ⟨g127, eg127, ev127⟩ := wN_inv e127
  replace hm : gLe u127 res := by rw [ev127]; exact hm
  refine gx_put C hG.1 hS rfl eg127 fgX10_57 fpX10_57 (fun _ => rfl) (gx_rfn _ _ (Or.inr ⟨_, rfl⟩)).1 (gx_rfn _ _ (Or.inr ⟨_, rfl⟩)).2 dX10_init_127 (fun H locs hg hS => gy_w hG ev127 hg (fun hG => ?_))
  refine gx_aload_n (r := (some x0)) hx hb dX10_init_130 rfl (lv_at hl 0 rfl) ?_
  refine lv_bipush (v := 8) hx hb dX10_init_131 (by decide) ?_
  obtain ⟨q133, u133, e133, h⟩ := obI h
  have hm2 : gLe u133 res := by
    exact moX10_init_135  h
  refine gy_newI C hG hS e133 ⟨Nat.sub_le_sub_right hm2.1 _, Nat.sub_le_sub_right hm2.2 _⟩ dX10_init_133 (fun H hG hS => ?_)
  exact wX10_init_135 C  h hG hS (lv_sub hl [0] rfl)
def fX10_init_119 (x0 : Nat) (s1 : Option Nat) (u : gN) : Option (gN) :=
  (wN (pV [11] 18 (va_rf s1) u.1 x0) u).bind fun u119 =>
  bI (nwI (40 : Int32) u119) fun q125 u125 =>
  fX10_init_127 x0 (some q125) u125 
set_option maxRecDepth 20000 in
theorem moX10_init_119 {x0 : Nat} {s1 : Option Nat} {u : gN} {res : gN} (h : fX10_init_119 x0 s1 u = some res) : gLe u res := by
  unfold fX10_init_119 at h
  obtain ⟨u119, e119, h⟩ := ob h
  refine gLe.tr (wN_le e119) ?_
  obtain ⟨q125, u125, e125, h⟩ := obI h
  refine gLe.tr (nwI_le e125) ?_
  exact moX10_init_127  h
set_option maxHeartbeats 4000000 in
set_option maxRecDepth 20000 in
theorem wX10_init_119  (C : gC p s m args meth c cX10_init 1 none RX10 "<init>" Γ){x0 : Nat} {s1 : Option Nat} {u : gN} {res : gN} (h : fX10_init_119 x0 s1 u = some res) {H : Heap} {locs : List Loc} (hG : gAn Γ sB u H) (hS : va_S Γ.2.2.1 s.heap H locs) {ls : Array Slot} (hl : lv_has ls 1 [(0, va_rf (some x0))]) : W p l e (rmX10_init (res.2.1 - s.heap.size) (res.2.2 - sB)) s m args below meth c H locs (u.2.1 - s.heap.size) (u.2.2 - sB) (MQ below (gQ Γ none res.1 res.2.1) args s (res.2.1 - s.heap.size) (res.2.2 - sB) Γ.2.2.1) (F0 m 119 ls [va_rf s1, va_rf (some x0)]) := by
  have hx := C.1
  have hb := C.2.1
  have hm := moX10_init_119 h
  unfold fX10_init_119 at h
  obtain ⟨u119, e119, h⟩ := ob h
  obtain ⟨g119, eg119, ev119⟩ := wN_inv e119
  replace hm : gLe u119 res := by rw [ev119]; exact hm
  refine gx_put C hG.1 hS rfl eg119 fgX10_54 fpX10_54 (fun _ => rfl) (gx_rfn _ _ (Or.inr ⟨_, rfl⟩)).1 (gx_rfn _ _ (Or.inr ⟨_, rfl⟩)).2 dX10_init_119 (fun H locs hg hS => gy_w hG ev119 hg (fun hG => ?_))
  refine gx_aload_n (r := (some x0)) hx hb dX10_init_122 rfl (lv_at hl 0 rfl) ?_
  refine lv_bipush (v := 40) hx hb dX10_init_123 (by decide) ?_
  obtain ⟨q125, u125, e125, h⟩ := obI h
  have hm2 : gLe u125 res := by
    exact moX10_init_127  h
  refine gy_newI C hG hS e125 ⟨Nat.sub_le_sub_right hm2.1 _, Nat.sub_le_sub_right hm2.2 _⟩ dX10_init_125 (fun H hG hS => ?_)
  exact wX10_init_127 C  h hG hS (lv_sub hl [0] rfl)
def fX10_init_111 (x0 : Nat) (s1 : Option Nat) (u : gN) : Option (gN) :=
  (wN (pV [11] 15 (va_rf s1) u.1 x0) u).bind fun u111 =>
  bI (nwI (8 : Int32) u111) fun q117 u117 =>
  fX10_init_119 x0 (some q117) u117 
set_option maxRecDepth 20000 in
theorem moX10_init_111 {x0 : Nat} {s1 : Option Nat} {u : gN} {res : gN} (h : fX10_init_111 x0 s1 u = some res) : gLe u res := by
  unfold fX10_init_111 at h
  obtain ⟨u111, e111, h⟩ := ob h
  refine gLe.tr (wN_le e111) ?_
  obtain ⟨q117, u117, e117, h⟩ := obI h
  refine gLe.tr (nwI_le e117) ?_
  exact moX10_init_119  h
set_option maxHeartbeats 4000000 in
set_option maxRecDepth 20000 in
theorem wX10_init_111  (C : gC p s m args meth c cX10_init 1 none RX10 "<init>" Γ){x0 : Nat} {s1 : Option Nat} {u : gN} {res : gN} (h : fX10_init_111 x0 s1 u = some res) {H : Heap} {locs : List Loc} (hG : gAn Γ sB u H) (hS : va_S Γ.2.2.1 s.heap H locs) {ls : Array Slot} (hl : lv_has ls 1 [(0, va_rf (some x0))]) : W p l e (rmX10_init (res.2.1 - s.heap.size) (res.2.2 - sB)) s m args below meth c H locs (u.2.1 - s.heap.size) (u.2.2 - sB) (MQ below (gQ Γ none res.1 res.2.1) args s (res.2.1 - s.heap.size) (res.2.2 - sB) Γ.2.2.1) (F0 m 111 ls [va_rf s1, va_rf (some x0)]) := by
  have hx := C.1
  have hb := C.2.1
  have hm := moX10_init_111 h
  unfold fX10_init_111 at h
  obtain ⟨u111, e111, h⟩ := ob h
  obtain ⟨g111, eg111, ev111⟩ := wN_inv e111
  replace hm : gLe u111 res := by rw [ev111]; exact hm
  refine gx_put C hG.1 hS rfl eg111 fgX10_51 fpX10_51 (fun _ => rfl) (gx_rfn _ _ (Or.inr ⟨_, rfl⟩)).1 (gx_rfn _ _ (Or.inr ⟨_, rfl⟩)).2 dX10_init_111 (fun H locs hg hS => gy_w hG ev111 hg (fun hG => ?_))
  refine gx_aload_n (r := (some x0)) hx hb dX10_init_114 rfl (lv_at hl 0 rfl) ?_
  refine lv_bipush (v := 8) hx hb dX10_init_115 (by decide) ?_
  obtain ⟨q117, u117, e117, h⟩ := obI h
  have hm2 : gLe u117 res := by
    exact moX10_init_119  h
  refine gy_newI C hG hS e117 ⟨Nat.sub_le_sub_right hm2.1 _, Nat.sub_le_sub_right hm2.2 _⟩ dX10_init_117 (fun H hG hS => ?_)
  exact wX10_init_119 C  h hG hS (lv_sub hl [0] rfl)
def fX10_init_102 (x0 : Nat) (s1 : Option Nat) (u : gN) : Option (gN) :=
  (wN (pV [11] 14 (va_rf s1) u.1 x0) u).bind fun u102 =>
  bI (nwI (9000 : Int32) u102) fun q109 u109 =>
  fX10_init_111 x0 (some q109) u109 
set_option maxRecDepth 20000 in
theorem moX10_init_102 {x0 : Nat} {s1 : Option Nat} {u : gN} {res : gN} (h : fX10_init_102 x0 s1 u = some res) : gLe u res := by
  unfold fX10_init_102 at h
  obtain ⟨u102, e102, h⟩ := ob h
  refine gLe.tr (wN_le e102) ?_
  obtain ⟨q109, u109, e109, h⟩ := obI h
  refine gLe.tr (nwI_le e109) ?_
  exact moX10_init_111  h
set_option maxHeartbeats 4000000 in
set_option maxRecDepth 20000 in
theorem wX10_init_102  (C : gC p s m args meth c cX10_init 1 none RX10 "<init>" Γ){x0 : Nat} {s1 : Option Nat} {u : gN} {res : gN} (h : fX10_init_102 x0 s1 u = some res) {H : Heap} {locs : List Loc} (hG : gAn Γ sB u H) (hS : va_S Γ.2.2.1 s.heap H locs) {ls : Array Slot} (hl : lv_has ls 1 [(0, va_rf (some x0))]) : W p l e (rmX10_init (res.2.1 - s.heap.size) (res.2.2 - sB)) s m args below meth c H locs (u.2.1 - s.heap.size) (u.2.2 - sB) (MQ below (gQ Γ none res.1 res.2.1) args s (res.2.1 - s.heap.size) (res.2.2 - sB) Γ.2.2.1) (F0 m 102 ls [va_rf s1, va_rf (some x0)]) := by
  have hx := C.1
  have hb := C.2.1
  have hm := moX10_init_102 h
  unfold fX10_init_102 at h
  obtain ⟨u102, e102, h⟩ := ob h
  obtain ⟨g102, eg102, ev102⟩ := wN_inv e102
  replace hm : gLe u102 res := by rw [ev102]; exact hm
  refine gx_put C hG.1 hS rfl eg102 fgX10_48 fpX10_48 (fun _ => rfl) (gx_rfn _ _ (Or.inr ⟨_, rfl⟩)).1 (gx_rfn _ _ (Or.inr ⟨_, rfl⟩)).2 dX10_init_102 (fun H locs hg hS => gy_w hG ev102 hg (fun hG => ?_))
  refine gx_aload_n (r := (some x0)) hx hb dX10_init_105 rfl (lv_at hl 0 rfl) ?_
  refine lv_sipush (v := 9000) hx hb dX10_init_106 (by decide) ?_
  obtain ⟨q109, u109, e109, h⟩ := obI h
  have hm2 : gLe u109 res := by
    exact moX10_init_111  h
  refine gy_newI C hG hS e109 ⟨Nat.sub_le_sub_right hm2.1 _, Nat.sub_le_sub_right hm2.2 _⟩ dX10_init_109 (fun H hG hS => ?_)
  exact wX10_init_111 C  h hG hS (lv_sub hl [0] rfl)
def fX10_init_94 (x0 : Nat) (s1 : Option Nat) (u : gN) : Option (gN) :=
  (wN (pV [11] 13 (va_rf s1) u.1 x0) u).bind fun u94 =>
  bI (nwI (80 : Int32) u94) fun q100 u100 =>
  fX10_init_102 x0 (some q100) u100 
set_option maxRecDepth 20000 in
theorem moX10_init_94 {x0 : Nat} {s1 : Option Nat} {u : gN} {res : gN} (h : fX10_init_94 x0 s1 u = some res) : gLe u res := by
  unfold fX10_init_94 at h
  obtain ⟨u94, e94, h⟩ := ob h
  refine gLe.tr (wN_le e94) ?_
  obtain ⟨q100, u100, e100, h⟩ := obI h
  refine gLe.tr (nwI_le e100) ?_
  exact moX10_init_102  h
set_option maxHeartbeats 4000000 in
set_option maxRecDepth 20000 in
theorem wX10_init_94  (C : gC p s m args meth c cX10_init 1 none RX10 "<init>" Γ){x0 : Nat} {s1 : Option Nat} {u : gN} {res : gN} (h : fX10_init_94 x0 s1 u = some res) {H : Heap} {locs : List Loc} (hG : gAn Γ sB u H) (hS : va_S Γ.2.2.1 s.heap H locs) {ls : Array Slot} (hl : lv_has ls 1 [(0, va_rf (some x0))]) : W p l e (rmX10_init (res.2.1 - s.heap.size) (res.2.2 - sB)) s m args below meth c H locs (u.2.1 - s.heap.size) (u.2.2 - sB) (MQ below (gQ Γ none res.1 res.2.1) args s (res.2.1 - s.heap.size) (res.2.2 - sB) Γ.2.2.1) (F0 m 94 ls [va_rf s1, va_rf (some x0)]) := by
  have hx := C.1
  have hb := C.2.1
  have hm := moX10_init_94 h
  unfold fX10_init_94 at h
  obtain ⟨u94, e94, h⟩ := ob h
  obtain ⟨g94, eg94, ev94⟩ := wN_inv e94
  replace hm : gLe u94 res := by rw [ev94]; exact hm
  refine gx_put C hG.1 hS rfl eg94 fgX10_44 fpX10_44 (fun _ => rfl) (gx_rfn _ _ (Or.inr ⟨_, rfl⟩)).1 (gx_rfn _ _ (Or.inr ⟨_, rfl⟩)).2 dX10_init_94 (fun H locs hg hS => gy_w hG ev94 hg (fun hG => ?_))
  refine gx_aload_n (r := (some x0)) hx hb dX10_init_97 rfl (lv_at hl 0 rfl) ?_
  refine lv_bipush (v := 80) hx hb dX10_init_98 (by decide) ?_
  obtain ⟨q100, u100, e100, h⟩ := obI h
  have hm2 : gLe u100 res := by
    exact moX10_init_102  h
  refine gy_newI C hG hS e100 ⟨Nat.sub_le_sub_right hm2.1 _, Nat.sub_le_sub_right hm2.2 _⟩ dX10_init_100 (fun H hG hS => ?_)
  exact wX10_init_102 C  h hG hS (lv_sub hl [0] rfl)
def fX10_init_86 (x0 : Nat) (s1 : Option Nat) (u : gN) : Option (gN) :=
  (wN (pV [11] 12 (va_rf s1) u.1 x0) u).bind fun u86 =>
  bI (nwZ (20 : Int32) u86) fun q92 u92 =>
  fX10_init_94 x0 (some q92) u92 
set_option maxRecDepth 20000 in
theorem moX10_init_86 {x0 : Nat} {s1 : Option Nat} {u : gN} {res : gN} (h : fX10_init_86 x0 s1 u = some res) : gLe u res := by
  unfold fX10_init_86 at h
  obtain ⟨u86, e86, h⟩ := ob h
  refine gLe.tr (wN_le e86) ?_
  obtain ⟨q92, u92, e92, h⟩ := obI h
  refine gLe.tr (nwZ_le e92) ?_
  exact moX10_init_94  h
set_option maxHeartbeats 4000000 in
set_option maxRecDepth 20000 in
theorem wX10_init_86  (C : gC p s m args meth c cX10_init 1 none RX10 "<init>" Γ){x0 : Nat} {s1 : Option Nat} {u : gN} {res : gN} (h : fX10_init_86 x0 s1 u = some res) {H : Heap} {locs : List Loc} (hG : gAn Γ sB u H) (hS : va_S Γ.2.2.1 s.heap H locs) {ls : Array Slot} (hl : lv_has ls 1 [(0, va_rf (some x0))]) : W p l e (rmX10_init (res.2.1 - s.heap.size) (res.2.2 - sB)) s m args below meth c H locs (u.2.1 - s.heap.size) (u.2.2 - sB) (MQ below (gQ Γ none res.1 res.2.1) args s (res.2.1 - s.heap.size) (res.2.2 - sB) Γ.2.2.1) (F0 m 86 ls [va_rf s1, va_rf (some x0)]) := by
  have hx := C.1
  have hb := C.2.1
  have hm := moX10_init_86 h
  unfold fX10_init_86 at h
  obtain ⟨u86, e86, h⟩ := ob h
  obtain ⟨g86, eg86, ev86⟩ := wN_inv e86
  replace hm : gLe u86 res := by rw [ev86]; exact hm
  refine gx_put C hG.1 hS rfl eg86 fgX10_41 fpX10_41 (fun _ => rfl) (gx_rfn _ _ (Or.inr ⟨_, rfl⟩)).1 (gx_rfn _ _ (Or.inr ⟨_, rfl⟩)).2 dX10_init_86 (fun H locs hg hS => gy_w hG ev86 hg (fun hG => ?_))
  refine gx_aload_n (r := (some x0)) hx hb dX10_init_89 rfl (lv_at hl 0 rfl) ?_
  refine lv_bipush (v := 20) hx hb dX10_init_90 (by decide) ?_
  obtain ⟨q92, u92, e92, h⟩ := obI h
  have hm2 : gLe u92 res := by
    exact moX10_init_94  h
  refine gy_newZ C hG hS e92 ⟨Nat.sub_le_sub_right hm2.1 _, Nat.sub_le_sub_right hm2.2 _⟩ dX10_init_92 (fun H hG hS => ?_)
  exact wX10_init_94 C  h hG hS (lv_sub hl [0] rfl)
def fX10_init_78 (x0 : Nat) (s1 : Option Nat) (u : gN) : Option (gN) :=
  (wN (pV [11] 11 (va_rf s1) u.1 x0) u).bind fun u78 =>
  bI (nwI (20 : Int32) u78) fun q84 u84 =>
  fX10_init_86 x0 (some q84) u84 
set_option maxRecDepth 20000 in
theorem moX10_init_78 {x0 : Nat} {s1 : Option Nat} {u : gN} {res : gN} (h : fX10_init_78 x0 s1 u = some res) : gLe u res := by
  unfold fX10_init_78 at h
  obtain ⟨u78, e78, h⟩ := ob h
  refine gLe.tr (wN_le e78) ?_
  obtain ⟨q84, u84, e84, h⟩ := obI h
  refine gLe.tr (nwI_le e84) ?_
  exact moX10_init_86  h
set_option maxHeartbeats 4000000 in
set_option maxRecDepth 20000 in
theorem wX10_init_78  (C : gC p s m args meth c cX10_init 1 none RX10 "<init>" Γ){x0 : Nat} {s1 : Option Nat} {u : gN} {res : gN} (h : fX10_init_78 x0 s1 u = some res) {H : Heap} {locs : List Loc} (hG : gAn Γ sB u H) (hS : va_S Γ.2.2.1 s.heap H locs) {ls : Array Slot} (hl : lv_has ls 1 [(0, va_rf (some x0))]) : W p l e (rmX10_init (res.2.1 - s.heap.size) (res.2.2 - sB)) s m args below meth c H locs (u.2.1 - s.heap.size) (u.2.2 - sB) (MQ below (gQ Γ none res.1 res.2.1) args s (res.2.1 - s.heap.size) (res.2.2 - sB) Γ.2.2.1) (F0 m 78 ls [va_rf s1, va_rf (some x0)]) := by
  have hx := C.1
  have hb := C.2.1
  have hm := moX10_init_78 h
  unfold fX10_init_78 at h
  obtain ⟨u78, e78, h⟩ := ob h
  obtain ⟨g78, eg78, ev78⟩ := wN_inv e78
  replace hm : gLe u78 res := by rw [ev78]; exact hm
  refine gx_put C hG.1 hS rfl eg78 fgX10_38 fpX10_38 (fun _ => rfl) (gx_rfn _ _ (Or.inr ⟨_, rfl⟩)).1 (gx_rfn _ _ (Or.inr ⟨_, rfl⟩)).2 dX10_init_78 (fun H locs hg hS => gy_w hG ev78 hg (fun hG => ?_))
  refine gx_aload_n (r := (some x0)) hx hb dX10_init_81 rfl (lv_at hl 0 rfl) ?_
  refine lv_bipush (v := 20) hx hb dX10_init_82 (by decide) ?_
  obtain ⟨q84, u84, e84, h⟩ := obI h
  have hm2 : gLe u84 res := by
    exact moX10_init_86  h
  refine gy_newI C hG hS e84 ⟨Nat.sub_le_sub_right hm2.1 _, Nat.sub_le_sub_right hm2.2 _⟩ dX10_init_84 (fun H hG hS => ?_)
  exact wX10_init_86 C  h hG hS (lv_sub hl [0] rfl)
def fX10_init_70 (x0 : Nat) (s1 : Option Nat) (u : gN) : Option (gN) :=
  (wN (pV [11] 10 (va_rf s1) u.1 x0) u).bind fun u70 =>
  bI (nwI (20 : Int32) u70) fun q76 u76 =>
  fX10_init_78 x0 (some q76) u76 
set_option maxRecDepth 20000 in
theorem moX10_init_70 {x0 : Nat} {s1 : Option Nat} {u : gN} {res : gN} (h : fX10_init_70 x0 s1 u = some res) : gLe u res := by
  unfold fX10_init_70 at h
  obtain ⟨u70, e70, h⟩ := ob h
  refine gLe.tr (wN_le e70) ?_
  obtain ⟨q76, u76, e76, h⟩ := obI h
  refine gLe.tr (nwI_le e76) ?_
  exact moX10_init_78  h
set_option maxHeartbeats 4000000 in
set_option maxRecDepth 20000 in
theorem wX10_init_70  (C : gC p s m args meth c cX10_init 1 none RX10 "<init>" Γ){x0 : Nat} {s1 : Option Nat} {u : gN} {res : gN} (h : fX10_init_70 x0 s1 u = some res) {H : Heap} {locs : List Loc} (hG : gAn Γ sB u H) (hS : va_S Γ.2.2.1 s.heap H locs) {ls : Array Slot} (hl : lv_has ls 1 [(0, va_rf (some x0))]) : W p l e (rmX10_init (res.2.1 - s.heap.size) (res.2.2 - sB)) s m args below meth c H locs (u.2.1 - s.heap.size) (u.2.2 - sB) (MQ below (gQ Γ none res.1 res.2.1) args s (res.2.1 - s.heap.size) (res.2.2 - sB) Γ.2.2.1) (F0 m 70 ls [va_rf s1, va_rf (some x0)]) := by
  have hx := C.1
  have hb := C.2.1
  have hm := moX10_init_70 h
  unfold fX10_init_70 at h
  obtain ⟨u70, e70, h⟩ := ob h
  obtain ⟨g70, eg70, ev70⟩ := wN_inv e70
  replace hm : gLe u70 res := by rw [ev70]; exact hm
  refine gx_put C hG.1 hS rfl eg70 fgX10_35 fpX10_35 (fun _ => rfl) (gx_rfn _ _ (Or.inr ⟨_, rfl⟩)).1 (gx_rfn _ _ (Or.inr ⟨_, rfl⟩)).2 dX10_init_70 (fun H locs hg hS => gy_w hG ev70 hg (fun hG => ?_))
  refine gx_aload_n (r := (some x0)) hx hb dX10_init_73 rfl (lv_at hl 0 rfl) ?_
  refine lv_bipush (v := 20) hx hb dX10_init_74 (by decide) ?_
  obtain ⟨q76, u76, e76, h⟩ := obI h
  have hm2 : gLe u76 res := by
    exact moX10_init_78  h
  refine gy_newI C hG hS e76 ⟨Nat.sub_le_sub_right hm2.1 _, Nat.sub_le_sub_right hm2.2 _⟩ dX10_init_76 (fun H hG hS => ?_)
  exact wX10_init_78 C  h hG hS (lv_sub hl [0] rfl)
def fX10_init_62 (x0 : Nat) (s1 : Option Nat) (u : gN) : Option (gN) :=
  (wN (pV [11] 9 (va_rf s1) u.1 x0) u).bind fun u62 =>
  bI (nwI (20 : Int32) u62) fun q68 u68 =>
  fX10_init_70 x0 (some q68) u68 
set_option maxRecDepth 20000 in
theorem moX10_init_62 {x0 : Nat} {s1 : Option Nat} {u : gN} {res : gN} (h : fX10_init_62 x0 s1 u = some res) : gLe u res := by
  unfold fX10_init_62 at h
  obtain ⟨u62, e62, h⟩ := ob h
  refine gLe.tr (wN_le e62) ?_
  obtain ⟨q68, u68, e68, h⟩ := obI h
  refine gLe.tr (nwI_le e68) ?_
  exact moX10_init_70  h
set_option maxHeartbeats 4000000 in
set_option maxRecDepth 20000 in
theorem wX10_init_62  (C : gC p s m args meth c cX10_init 1 none RX10 "<init>" Γ){x0 : Nat} {s1 : Option Nat} {u : gN} {res : gN} (h : fX10_init_62 x0 s1 u = some res) {H : Heap} {locs : List Loc} (hG : gAn Γ sB u H) (hS : va_S Γ.2.2.1 s.heap H locs) {ls : Array Slot} (hl : lv_has ls 1 [(0, va_rf (some x0))]) : W p l e (rmX10_init (res.2.1 - s.heap.size) (res.2.2 - sB)) s m args below meth c H locs (u.2.1 - s.heap.size) (u.2.2 - sB) (MQ below (gQ Γ none res.1 res.2.1) args s (res.2.1 - s.heap.size) (res.2.2 - sB) Γ.2.2.1) (F0 m 62 ls [va_rf s1, va_rf (some x0)]) := by
  have hx := C.1
  have hb := C.2.1
  have hm := moX10_init_62 h
  unfold fX10_init_62 at h
  obtain ⟨u62, e62, h⟩ := ob h
  obtain ⟨g62, eg62, ev62⟩ := wN_inv e62
  replace hm : gLe u62 res := by rw [ev62]; exact hm
  refine gx_put C hG.1 hS rfl eg62 fgX10_32 fpX10_32 (fun _ => rfl) (gx_rfn _ _ (Or.inr ⟨_, rfl⟩)).1 (gx_rfn _ _ (Or.inr ⟨_, rfl⟩)).2 dX10_init_62 (fun H locs hg hS => gy_w hG ev62 hg (fun hG => ?_))
  refine gx_aload_n (r := (some x0)) hx hb dX10_init_65 rfl (lv_at hl 0 rfl) ?_
  refine lv_bipush (v := 20) hx hb dX10_init_66 (by decide) ?_
  obtain ⟨q68, u68, e68, h⟩ := obI h
  have hm2 : gLe u68 res := by
    exact moX10_init_70  h
  refine gy_newI C hG hS e68 ⟨Nat.sub_le_sub_right hm2.1 _, Nat.sub_le_sub_right hm2.2 _⟩ dX10_init_68 (fun H hG hS => ?_)
  exact wX10_init_70 C  h hG hS (lv_sub hl [0] rfl)
def fX10_init_54 (x0 : Nat) (s1 : Option Nat) (u : gN) : Option (gN) :=
  (wN (pV [11] 8 (va_rf s1) u.1 x0) u).bind fun u54 =>
  bI (nwI (20 : Int32) u54) fun q60 u60 =>
  fX10_init_62 x0 (some q60) u60 
set_option maxRecDepth 20000 in
theorem moX10_init_54 {x0 : Nat} {s1 : Option Nat} {u : gN} {res : gN} (h : fX10_init_54 x0 s1 u = some res) : gLe u res := by
  unfold fX10_init_54 at h
  obtain ⟨u54, e54, h⟩ := ob h
  refine gLe.tr (wN_le e54) ?_
  obtain ⟨q60, u60, e60, h⟩ := obI h
  refine gLe.tr (nwI_le e60) ?_
  exact moX10_init_62  h
set_option maxHeartbeats 4000000 in
set_option maxRecDepth 20000 in
theorem wX10_init_54  (C : gC p s m args meth c cX10_init 1 none RX10 "<init>" Γ){x0 : Nat} {s1 : Option Nat} {u : gN} {res : gN} (h : fX10_init_54 x0 s1 u = some res) {H : Heap} {locs : List Loc} (hG : gAn Γ sB u H) (hS : va_S Γ.2.2.1 s.heap H locs) {ls : Array Slot} (hl : lv_has ls 1 [(0, va_rf (some x0))]) : W p l e (rmX10_init (res.2.1 - s.heap.size) (res.2.2 - sB)) s m args below meth c H locs (u.2.1 - s.heap.size) (u.2.2 - sB) (MQ below (gQ Γ none res.1 res.2.1) args s (res.2.1 - s.heap.size) (res.2.2 - sB) Γ.2.2.1) (F0 m 54 ls [va_rf s1, va_rf (some x0)]) := by
  have hx := C.1
  have hb := C.2.1
  have hm := moX10_init_54 h
  unfold fX10_init_54 at h
  obtain ⟨u54, e54, h⟩ := ob h
  obtain ⟨g54, eg54, ev54⟩ := wN_inv e54
  replace hm : gLe u54 res := by rw [ev54]; exact hm
  refine gx_put C hG.1 hS rfl eg54 fgX10_29 fpX10_29 (fun _ => rfl) (gx_rfn _ _ (Or.inr ⟨_, rfl⟩)).1 (gx_rfn _ _ (Or.inr ⟨_, rfl⟩)).2 dX10_init_54 (fun H locs hg hS => gy_w hG ev54 hg (fun hG => ?_))
  refine gx_aload_n (r := (some x0)) hx hb dX10_init_57 rfl (lv_at hl 0 rfl) ?_
  refine lv_bipush (v := 20) hx hb dX10_init_58 (by decide) ?_
  obtain ⟨q60, u60, e60, h⟩ := obI h
  have hm2 : gLe u60 res := by
    exact moX10_init_62  h
  refine gy_newI C hG hS e60 ⟨Nat.sub_le_sub_right hm2.1 _, Nat.sub_le_sub_right hm2.2 _⟩ dX10_init_60 (fun H hG hS => ?_)
  exact wX10_init_62 C  h hG hS (lv_sub hl [0] rfl)
def fX10_init_46 (x0 : Nat) (s1 : Option Nat) (u : gN) : Option (gN) :=
  (wN (pV [11] 7 (va_rf s1) u.1 x0) u).bind fun u46 =>
  bI (nwI (20 : Int32) u46) fun q52 u52 =>
  fX10_init_54 x0 (some q52) u52 
set_option maxRecDepth 20000 in
theorem moX10_init_46 {x0 : Nat} {s1 : Option Nat} {u : gN} {res : gN} (h : fX10_init_46 x0 s1 u = some res) : gLe u res := by
  unfold fX10_init_46 at h
  obtain ⟨u46, e46, h⟩ := ob h
  refine gLe.tr (wN_le e46) ?_
  obtain ⟨q52, u52, e52, h⟩ := obI h
  refine gLe.tr (nwI_le e52) ?_
  exact moX10_init_54  h
set_option maxHeartbeats 4000000 in
set_option maxRecDepth 20000 in
theorem wX10_init_46  (C : gC p s m args meth c cX10_init 1 none RX10 "<init>" Γ){x0 : Nat} {s1 : Option Nat} {u : gN} {res : gN} (h : fX10_init_46 x0 s1 u = some res) {H : Heap} {locs : List Loc} (hG : gAn Γ sB u H) (hS : va_S Γ.2.2.1 s.heap H locs) {ls : Array Slot} (hl : lv_has ls 1 [(0, va_rf (some x0))]) : W p l e (rmX10_init (res.2.1 - s.heap.size) (res.2.2 - sB)) s m args below meth c H locs (u.2.1 - s.heap.size) (u.2.2 - sB) (MQ below (gQ Γ none res.1 res.2.1) args s (res.2.1 - s.heap.size) (res.2.2 - sB) Γ.2.2.1) (F0 m 46 ls [va_rf s1, va_rf (some x0)]) := by
  have hx := C.1
  have hb := C.2.1
  have hm := moX10_init_46 h
  unfold fX10_init_46 at h
  obtain ⟨u46, e46, h⟩ := ob h
  obtain ⟨g46, eg46, ev46⟩ := wN_inv e46
  replace hm : gLe u46 res := by rw [ev46]; exact hm
  refine gx_put C hG.1 hS rfl eg46 fgX10_26 fpX10_26 (fun _ => rfl) (gx_rfn _ _ (Or.inr ⟨_, rfl⟩)).1 (gx_rfn _ _ (Or.inr ⟨_, rfl⟩)).2 dX10_init_46 (fun H locs hg hS => gy_w hG ev46 hg (fun hG => ?_))
  refine gx_aload_n (r := (some x0)) hx hb dX10_init_49 rfl (lv_at hl 0 rfl) ?_
  refine lv_bipush (v := 20) hx hb dX10_init_50 (by decide) ?_
  obtain ⟨q52, u52, e52, h⟩ := obI h
  have hm2 : gLe u52 res := by
    exact moX10_init_54  h
  refine gy_newI C hG hS e52 ⟨Nat.sub_le_sub_right hm2.1 _, Nat.sub_le_sub_right hm2.2 _⟩ dX10_init_52 (fun H hG hS => ?_)
  exact wX10_init_54 C  h hG hS (lv_sub hl [0] rfl)
def fX10_init_38 (x0 : Nat) (s1 : Option Nat) (u : gN) : Option (gN) :=
  (wN (pV [11] 6 (va_rf s1) u.1 x0) u).bind fun u38 =>
  bI (nwI (20 : Int32) u38) fun q44 u44 =>
  fX10_init_46 x0 (some q44) u44 
set_option maxRecDepth 20000 in
theorem moX10_init_38 {x0 : Nat} {s1 : Option Nat} {u : gN} {res : gN} (h : fX10_init_38 x0 s1 u = some res) : gLe u res := by
  unfold fX10_init_38 at h
  obtain ⟨u38, e38, h⟩ := ob h
  refine gLe.tr (wN_le e38) ?_
  obtain ⟨q44, u44, e44, h⟩ := obI h
  refine gLe.tr (nwI_le e44) ?_
  exact moX10_init_46  h
set_option maxHeartbeats 4000000 in
set_option maxRecDepth 20000 in
theorem wX10_init_38  (C : gC p s m args meth c cX10_init 1 none RX10 "<init>" Γ){x0 : Nat} {s1 : Option Nat} {u : gN} {res : gN} (h : fX10_init_38 x0 s1 u = some res) {H : Heap} {locs : List Loc} (hG : gAn Γ sB u H) (hS : va_S Γ.2.2.1 s.heap H locs) {ls : Array Slot} (hl : lv_has ls 1 [(0, va_rf (some x0))]) : W p l e (rmX10_init (res.2.1 - s.heap.size) (res.2.2 - sB)) s m args below meth c H locs (u.2.1 - s.heap.size) (u.2.2 - sB) (MQ below (gQ Γ none res.1 res.2.1) args s (res.2.1 - s.heap.size) (res.2.2 - sB) Γ.2.2.1) (F0 m 38 ls [va_rf s1, va_rf (some x0)]) := by
  have hx := C.1
  have hb := C.2.1
  have hm := moX10_init_38 h
  unfold fX10_init_38 at h
  obtain ⟨u38, e38, h⟩ := ob h
  obtain ⟨g38, eg38, ev38⟩ := wN_inv e38
  replace hm : gLe u38 res := by rw [ev38]; exact hm
  refine gx_put C hG.1 hS rfl eg38 fgX10_23 fpX10_23 (fun _ => rfl) (gx_rfn _ _ (Or.inr ⟨_, rfl⟩)).1 (gx_rfn _ _ (Or.inr ⟨_, rfl⟩)).2 dX10_init_38 (fun H locs hg hS => gy_w hG ev38 hg (fun hG => ?_))
  refine gx_aload_n (r := (some x0)) hx hb dX10_init_41 rfl (lv_at hl 0 rfl) ?_
  refine lv_bipush (v := 20) hx hb dX10_init_42 (by decide) ?_
  obtain ⟨q44, u44, e44, h⟩ := obI h
  have hm2 : gLe u44 res := by
    exact moX10_init_46  h
  refine gy_newI C hG hS e44 ⟨Nat.sub_le_sub_right hm2.1 _, Nat.sub_le_sub_right hm2.2 _⟩ dX10_init_44 (fun H hG hS => ?_)
  exact wX10_init_46 C  h hG hS (lv_sub hl [0] rfl)
def fX10_init_30 (x0 : Nat) (s1 : Option Nat) (u : gN) : Option (gN) :=
  (wN (pV [11] 5 (va_rf s1) u.1 x0) u).bind fun u30 =>
  bI (nwI (20 : Int32) u30) fun q36 u36 =>
  fX10_init_38 x0 (some q36) u36 
set_option maxRecDepth 20000 in
theorem moX10_init_30 {x0 : Nat} {s1 : Option Nat} {u : gN} {res : gN} (h : fX10_init_30 x0 s1 u = some res) : gLe u res := by
  unfold fX10_init_30 at h
  obtain ⟨u30, e30, h⟩ := ob h
  refine gLe.tr (wN_le e30) ?_
  obtain ⟨q36, u36, e36, h⟩ := obI h
  refine gLe.tr (nwI_le e36) ?_
  exact moX10_init_38  h
set_option maxHeartbeats 4000000 in
set_option maxRecDepth 20000 in
theorem wX10_init_30  (C : gC p s m args meth c cX10_init 1 none RX10 "<init>" Γ){x0 : Nat} {s1 : Option Nat} {u : gN} {res : gN} (h : fX10_init_30 x0 s1 u = some res) {H : Heap} {locs : List Loc} (hG : gAn Γ sB u H) (hS : va_S Γ.2.2.1 s.heap H locs) {ls : Array Slot} (hl : lv_has ls 1 [(0, va_rf (some x0))]) : W p l e (rmX10_init (res.2.1 - s.heap.size) (res.2.2 - sB)) s m args below meth c H locs (u.2.1 - s.heap.size) (u.2.2 - sB) (MQ below (gQ Γ none res.1 res.2.1) args s (res.2.1 - s.heap.size) (res.2.2 - sB) Γ.2.2.1) (F0 m 30 ls [va_rf s1, va_rf (some x0)]) := by
  have hx := C.1
  have hb := C.2.1
  have hm := moX10_init_30 h
  unfold fX10_init_30 at h
  obtain ⟨u30, e30, h⟩ := ob h
  obtain ⟨g30, eg30, ev30⟩ := wN_inv e30
  replace hm : gLe u30 res := by rw [ev30]; exact hm
  refine gx_put C hG.1 hS rfl eg30 fgX10_20 fpX10_20 (fun _ => rfl) (gx_rfn _ _ (Or.inr ⟨_, rfl⟩)).1 (gx_rfn _ _ (Or.inr ⟨_, rfl⟩)).2 dX10_init_30 (fun H locs hg hS => gy_w hG ev30 hg (fun hG => ?_))
  refine gx_aload_n (r := (some x0)) hx hb dX10_init_33 rfl (lv_at hl 0 rfl) ?_
  refine lv_bipush (v := 20) hx hb dX10_init_34 (by decide) ?_
  obtain ⟨q36, u36, e36, h⟩ := obI h
  have hm2 : gLe u36 res := by
    exact moX10_init_38  h
  refine gy_newI C hG hS e36 ⟨Nat.sub_le_sub_right hm2.1 _, Nat.sub_le_sub_right hm2.2 _⟩ dX10_init_36 (fun H hG hS => ?_)
  exact wX10_init_38 C  h hG hS (lv_sub hl [0] rfl)
def fX10_init_22 (x0 : Nat) (s1 : Option Nat) (u : gN) : Option (gN) :=
  (wN (pV [11] 4 (va_rf s1) u.1 x0) u).bind fun u22 =>
  bI (nwI (100 : Int32) u22) fun q28 u28 =>
  fX10_init_30 x0 (some q28) u28 
set_option maxRecDepth 20000 in
theorem moX10_init_22 {x0 : Nat} {s1 : Option Nat} {u : gN} {res : gN} (h : fX10_init_22 x0 s1 u = some res) : gLe u res := by
  unfold fX10_init_22 at h
  obtain ⟨u22, e22, h⟩ := ob h
  refine gLe.tr (wN_le e22) ?_
  obtain ⟨q28, u28, e28, h⟩ := obI h
  refine gLe.tr (nwI_le e28) ?_
  exact moX10_init_30  h
set_option maxHeartbeats 4000000 in
set_option maxRecDepth 20000 in
theorem wX10_init_22  (C : gC p s m args meth c cX10_init 1 none RX10 "<init>" Γ){x0 : Nat} {s1 : Option Nat} {u : gN} {res : gN} (h : fX10_init_22 x0 s1 u = some res) {H : Heap} {locs : List Loc} (hG : gAn Γ sB u H) (hS : va_S Γ.2.2.1 s.heap H locs) {ls : Array Slot} (hl : lv_has ls 1 [(0, va_rf (some x0))]) : W p l e (rmX10_init (res.2.1 - s.heap.size) (res.2.2 - sB)) s m args below meth c H locs (u.2.1 - s.heap.size) (u.2.2 - sB) (MQ below (gQ Γ none res.1 res.2.1) args s (res.2.1 - s.heap.size) (res.2.2 - sB) Γ.2.2.1) (F0 m 22 ls [va_rf s1, va_rf (some x0)]) := by
  have hx := C.1
  have hb := C.2.1
  have hm := moX10_init_22 h
  unfold fX10_init_22 at h
  obtain ⟨u22, e22, h⟩ := ob h
  obtain ⟨g22, eg22, ev22⟩ := wN_inv e22
  replace hm : gLe u22 res := by rw [ev22]; exact hm
  refine gx_put C hG.1 hS rfl eg22 fgX10_17 fpX10_17 (fun _ => rfl) (gx_rfn _ _ (Or.inr ⟨_, rfl⟩)).1 (gx_rfn _ _ (Or.inr ⟨_, rfl⟩)).2 dX10_init_22 (fun H locs hg hS => gy_w hG ev22 hg (fun hG => ?_))
  refine gx_aload_n (r := (some x0)) hx hb dX10_init_25 rfl (lv_at hl 0 rfl) ?_
  refine lv_bipush (v := 100) hx hb dX10_init_26 (by decide) ?_
  obtain ⟨q28, u28, e28, h⟩ := obI h
  have hm2 : gLe u28 res := by
    exact moX10_init_30  h
  refine gy_newI C hG hS e28 ⟨Nat.sub_le_sub_right hm2.1 _, Nat.sub_le_sub_right hm2.2 _⟩ dX10_init_28 (fun H hG hS => ?_)
  exact wX10_init_30 C  h hG hS (lv_sub hl [0] rfl)
def fX10_init_14 (x0 : Nat) (s1 : Option Nat) (u : gN) : Option (gN) :=
  (wN (pV [11] 3 (va_rf s1) u.1 x0) u).bind fun u14 =>
  bI (nwI (20 : Int32) u14) fun q20 u20 =>
  fX10_init_22 x0 (some q20) u20 
set_option maxRecDepth 20000 in
theorem moX10_init_14 {x0 : Nat} {s1 : Option Nat} {u : gN} {res : gN} (h : fX10_init_14 x0 s1 u = some res) : gLe u res := by
  unfold fX10_init_14 at h
  obtain ⟨u14, e14, h⟩ := ob h
  refine gLe.tr (wN_le e14) ?_
  obtain ⟨q20, u20, e20, h⟩ := obI h
  refine gLe.tr (nwI_le e20) ?_
  exact moX10_init_22  h
set_option maxHeartbeats 4000000 in
set_option maxRecDepth 20000 in
theorem wX10_init_14  (C : gC p s m args meth c cX10_init 1 none RX10 "<init>" Γ){x0 : Nat} {s1 : Option Nat} {u : gN} {res : gN} (h : fX10_init_14 x0 s1 u = some res) {H : Heap} {locs : List Loc} (hG : gAn Γ sB u H) (hS : va_S Γ.2.2.1 s.heap H locs) {ls : Array Slot} (hl : lv_has ls 1 [(0, va_rf (some x0))]) : W p l e (rmX10_init (res.2.1 - s.heap.size) (res.2.2 - sB)) s m args below meth c H locs (u.2.1 - s.heap.size) (u.2.2 - sB) (MQ below (gQ Γ none res.1 res.2.1) args s (res.2.1 - s.heap.size) (res.2.2 - sB) Γ.2.2.1) (F0 m 14 ls [va_rf s1, va_rf (some x0)]) := by
  have hx := C.1
  have hb := C.2.1
  have hm := moX10_init_14 h
  unfold fX10_init_14 at h
  obtain ⟨u14, e14, h⟩ := ob h
  obtain ⟨g14, eg14, ev14⟩ := wN_inv e14
  replace hm : gLe u14 res := by rw [ev14]; exact hm
  refine gx_put C hG.1 hS rfl eg14 fgX10_13 fpX10_13 (fun _ => rfl) (gx_rfn _ _ (Or.inr ⟨_, rfl⟩)).1 (gx_rfn _ _ (Or.inr ⟨_, rfl⟩)).2 dX10_init_14 (fun H locs hg hS => gy_w hG ev14 hg (fun hG => ?_))
  refine gx_aload_n (r := (some x0)) hx hb dX10_init_17 rfl (lv_at hl 0 rfl) ?_
  refine lv_bipush (v := 20) hx hb dX10_init_18 (by decide) ?_
  obtain ⟨q20, u20, e20, h⟩ := obI h
  have hm2 : gLe u20 res := by
    exact moX10_init_22  h
  refine gy_newI C hG hS e20 ⟨Nat.sub_le_sub_right hm2.1 _, Nat.sub_le_sub_right hm2.2 _⟩ dX10_init_20 (fun H hG hS => ?_)
  exact wX10_init_22 C  h hG hS (lv_sub hl [0] rfl)
def fX10_init (x0 : Nat) (u : gN) : Option (gN) :=
  (wN (pV [11] 1 (.int (3 : Int32)) u.1 x0) u).bind fun u6 =>
  bI (nwI (20 : Int32) u6) fun q12 u12 =>
  fX10_init_14 x0 (some q12) u12 
set_option maxRecDepth 20000 in
theorem moX10_init {x0 : Nat} {u : gN} {res : gN} (h : fX10_init x0 u = some res) : gLe u res := by
  unfold fX10_init at h
  obtain ⟨u6, e6, h⟩ := ob h
  refine gLe.tr (wN_le e6) ?_
  obtain ⟨q12, u12, e12, h⟩ := obI h
  refine gLe.tr (nwI_le e12) ?_
  exact moX10_init_14  h
set_option maxHeartbeats 4000000 in
set_option maxRecDepth 20000 in
theorem wX10_init  (C : gC p s m args meth c cX10_init 1 none RX10 "<init>" Γ){x0 : Nat} {u : gN} {res : gN} (h : fX10_init x0 u = some res) {H : Heap} {locs : List Loc} (hG : gAn Γ sB u H) (hS : va_S Γ.2.2.1 s.heap H locs) {ls : Array Slot} (hl : lv_has ls 1 [(0, va_rf (some x0))]) : W p l e (rmX10_init (res.2.1 - s.heap.size) (res.2.2 - sB)) s m args below meth c H locs (u.2.1 - s.heap.size) (u.2.2 - sB) (MQ below (gQ Γ none res.1 res.2.1) args s (res.2.1 - s.heap.size) (res.2.2 - sB) Γ.2.2.1) (F0 m 0 ls []) := by
  have hx := C.1
  have hb := C.2.1
  have hm := moX10_init h
  unfold fX10_init at h
  refine gx_aload_n (r := (some x0)) hx hb dX10_init_0 rfl (lv_at hl 0 rfl) ?_
  refine gx_obj C rfl qcX10_1 hl.1 ⟨Nat.le_of_ble_eq_true rfl, Nat.le_of_ble_eq_true rfl⟩ dX10_init_1 ?_
  refine gx_aload_n (r := (some x0)) hx hb dX10_init_4 rfl (lv_at hl 0 rfl) ?_
  refine lv_iconst (v := 3) hx hb dX10_init_5 (by decide) ?_
  obtain ⟨u6, e6, h⟩ := ob h
  obtain ⟨g6, eg6, ev6⟩ := wN_inv e6
  replace hm : gLe u6 res := by rw [ev6]; exact hm
  refine gx_put C hG.1 hS rfl eg6 fgX10_7 fpX10_7 (fun q => by cases q) rfl rfl dX10_init_6 (fun H locs hg hS => gy_w hG ev6 hg (fun hG => ?_))
  refine gx_aload_n (r := (some x0)) hx hb dX10_init_9 rfl (lv_at hl 0 rfl) ?_
  refine lv_bipush (v := 20) hx hb dX10_init_10 (by decide) ?_
  obtain ⟨q12, u12, e12, h⟩ := obI h
  have hm2 : gLe u12 res := by
    exact moX10_init_14  h
  refine gy_newI C hG hS e12 ⟨Nat.sub_le_sub_right hm2.1 _, Nat.sub_le_sub_right hm2.2 _⟩ dX10_init_12 (fun H hG hS => ?_)
  exact wX10_init_14 C  h hG hS (lv_sub hl [0] rfl)
theorem tX10_init {Γ : gEnv} {x0 : Nat} {u v : gN} (h : fX10_init x0 u = some v) : Met l yX10_init (Cond.code yX10_init cX10_init 1 none :: gW) (rmX10_init (v.2.1 - u.2.1) (v.2.2 - u.2.2)) (va_Pc [va_rf (some x0)] (gPre Γ u.1 u.2.1)) (gQ Γ none v.1 v.2.1) (v.2.1 - u.2.1) (v.2.2 - u.2.2) Γ.2.2.1 := by
  refine gx_met (nm := "<init>") ⟨by decide +kernel, rfl, rfl⟩ (Nat.le_of_ble_eq_true rfl) (fun p e s m below meth c ls C hG hl => ?_)
  have hN : s.heap.size = u.2.1 := hG.1
  have K := wX10_init (l := l) (e := e) (below := below) (sB := u.2.2) C h ⟨hG, Nat.le_refl _⟩ va_S.rf hl
  rw [hN, Nat.sub_self, Nat.sub_self] at K
  exact K
end
