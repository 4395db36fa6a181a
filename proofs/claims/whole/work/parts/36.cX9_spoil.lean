section
variable {p : Program} {l : Launch} {e : Env} {s : State} {m : MethodId} {args : Array Value} {below : List Frame} {meth : Method} {c : Code} {Γ : gEnv} {N sB : Nat}
abbrev rmX9_spoil : Room := { frames := 1, cells := 0, slots := 0, locals := 22 }
def fX9_spoil (x0 : Nat) (x1 : Int32) (u : gM) : Option (Int32 × gM) :=
  bI (fX9_within x1 (0 : Int32) (30 : Int32) u) fun r4 u4 =>
  if r4 = 0 then (
    (gO [10] u4 x0).bind fun _ =>
    bI (fX9_finding x0 (1 : Int32) u4) fun r12 u12 =>
    some (r12, u12)
  ) else (
    (gI [10] 14 u4 x0).bind fun v17 =>
    (pV [10] 14 (.int x1) u4 x0).bind fun u23 =>
    some (v17, u23)
  )
set_option maxHeartbeats 4000000 in
set_option maxRecDepth 20000 in
theorem wX9_spoil  (C : gC p s m args meth c cX9_spoil 3 (some .int) RX9 "spoil" Γ){x0 : Nat} {x1 : Int32} {u : gM} {res : Int32 × gM} (h : fX9_spoil x0 x1 u = some res) {H : Heap} {locs : List Loc} (hG : gAg Γ u N H) (hS : va_S Γ.2.2.1 s.heap H locs) {ls : Array Slot} (hl : lv_has ls 3 [(0, va_rf (some x0)), (1, .int x1)]) : W p l e rmX9_spoil s m args below meth c H locs 0 0 (MQ below (gQ Γ (some (.int res.1)) res.2 N) args s 0 0 Γ.2.2.1) (F0 m 0 ls []) := by
  have hx := C.1
  have hb := C.2.1
  unfold fX9_spoil at h
  refine lv_iload_n hx hb dX9_spoil_0 rfl (lv_at hl 1 rfl) ?_
  refine lv_iconst (v := 0) hx hb dX9_spoil_1 (by decide) ?_
  refine lv_bipush (v := 30) hx hb dX9_spoil_2 (by decide) ?_
  obtain ⟨r4, u4, e4, h⟩ := obI h
  refine gx_cS C hG hS [.int x1, .int (0 : Int32), .int (30 : Int32)] (tX9_within e4) qcX9_85 ⟨rfl, rfl, Nat.le_of_ble_eq_true rfl, Nat.le_of_ble_eq_true rfl⟩ ⟨Nat.zero_le _, Nat.zero_le _⟩ rfl hl.1 rfl (Nat.le_of_ble_eq_true rfl) (st1 := [.int r4]) rfl dX9_spoil_4 (fun H locs hG hS => ?_)
  refine lv_if_ne (tgt := 16) hx hb dX9_spoil_7 (by decide) (fun hc => ?_) (fun hc => ?_)
  · replace h := it_neg hc h
    refine gx_aload_n (r := (some x0)) hx hb dX9_spoil_16 rfl (lv_at hl 0 rfl) ?_
    obtain ⟨v17, e17, h⟩ := ob h
    refine gx_getI C hG rfl e17 fgX9_73 dX9_spoil_17 ?_
    refine lv_istore_n (i := 2) (lv' := [(2, .int v17), (0, va_rf (some x0)), (1, .int x1)]) hx hb dX9_spoil_20 rfl hl (by decide) rfl (fun ls hl => ?_)
    refine gx_aload_n (r := (some x0)) hx hb dX9_spoil_21 rfl (lv_at hl 1 rfl) ?_
    refine lv_iload_n hx hb dX9_spoil_22 rfl (lv_at hl 2 rfl) ?_
    obtain ⟨u23, e23, h⟩ := ob h
    refine gx_put C hG hS rfl e23 fgX9_73 fpX9_73 (fun q => by cases q) rfl rfl dX9_spoil_23 (fun H locs hG hS => ?_)
    refine lv_iload_n hx hb dX9_spoil_26 rfl (lv_at hl 0 rfl) ?_
    cases Option.some.inj h
    exact gx_reti C hG hS dX9_spoil_27
  · replace h := it_pos hc h
    refine gx_aload_n (r := (some x0)) hx hb dX9_spoil_10 rfl (lv_at hl 0 rfl) ?_
    refine lv_iconst (v := 1) hx hb dX9_spoil_11 (by decide) ?_
    obtain ⟨_, eo12, h⟩ := ob h
    obtain ⟨r12, u12, e12, h⟩ := obI h
    refine gx_cV C hG hS [.int (1 : Int32)] rfl eo12 (tX9_finding e12) qcX9_89 ⟨rfl, rfl, Nat.le_of_ble_eq_true rfl, Nat.le_of_ble_eq_true rfl⟩ ⟨Nat.zero_le _, Nat.zero_le _⟩ rfl hl.1 rfl (Nat.le_of_ble_eq_true rfl) (st1 := [.int r12]) rfl dX9_spoil_12 (fun H locs hG hS => ?_)
    cases Option.some.inj h
    exact gx_reti C hG hS dX9_spoil_15
theorem tX9_spoil {Γ : gEnv} {N : Nat} {x0 : Nat} {x1 : Int32} {u v : gM} {r : Int32} (h : fX9_spoil x0 x1 u = some (r, v)) : Met l yX9_spoil (Cond.code yX9_spoil cX9_spoil 3 (some .int) :: gW) rmX9_spoil (va_Pc [va_rf (some x0), .int x1] (gPre Γ u N)) (gQ Γ (some (.int r)) v N) 0 0 Γ.2.2.1 :=
  gx_met (nm := "spoil") ⟨by decide +kernel, rfl, rfl⟩ (Nat.le_of_ble_eq_true rfl) (fun p e s m below meth c ls C hG hl => wX9_spoil C h hG va_S.rf hl)
abbrev rmX9_isDay : Room := { frames := 1, cells := 0, slots := 0, locals := 22 }
def fX9_isDay (x0 : Int32) (u : gM) : Option (Int32 × gM) :=
  bI (fX9_within x0 (0 : Int32) (9999 : Int32) u) fun r5 u5 =>
  if (r5 = 0 ∨ r5 = 1) then some (r5, u5) else none
set_option maxHeartbeats 4000000 in
set_option maxRecDepth 20000 in
theorem wX9_isDay  (C : gC p s m args meth c cX9_isDay 1 (some .boolean) RX9 "isDay" Γ){x0 : Int32} {u : gM} {res : Int32 × gM} (h : fX9_isDay x0 u = some res) {H : Heap} {locs : List Loc} (hG : gAg Γ u N H) (hS : va_S Γ.2.2.1 s.heap H locs) {ls : Array Slot} (hl : lv_has ls 1 [(0, .int x0)]) : W p l e rmX9_isDay s m args below meth c H locs 0 0 (MQ below (gQ Γ (some (.int res.1)) res.2 N) args s 0 0 Γ.2.2.1) (F0 m 0 ls []) := by
  have hx := C.1
  have hb := C.2.1
  unfold fX9_isDay at h
  refine lv_iload_n hx hb dX9_isDay_0 rfl (lv_at hl 0 rfl) ?_
  refine lv_iconst (v := 0) hx hb dX9_isDay_1 (by decide) ?_
  refine lv_sipush (v := 9999) hx hb dX9_isDay_2 (by decide) ?_
  obtain ⟨r5, u5, e5, h⟩ := obI h
  refine gx_cS C hG hS [.int x0, .int (0 : Int32), .int (9999 : Int32)] (tX9_within e5) qcX9_85 ⟨rfl, rfl, Nat.le_of_ble_eq_true rfl, Nat.le_of_ble_eq_true rfl⟩ ⟨Nat.zero_le _, Nat.zero_le _⟩ rfl hl.1 rfl (Nat.le_of_ble_eq_true rfl) (st1 := [.int r5]) rfl dX9_isDay_5 (fun H locs hG hS => ?_)
  obtain ⟨hz1, h⟩ := if_so h
  cases h
  exact gx_retz C hz1 hG hS dX9_isDay_8
theorem tX9_isDay {Γ : gEnv} {N : Nat} {x0 : Int32} {u v : gM} {r : Int32} (h : fX9_isDay x0 u = some (r, v)) : Met l yX9_isDay (Cond.code yX9_isDay cX9_isDay 1 (some .boolean) :: gW) rmX9_isDay (va_Pc [.int x0] (gPre Γ u N)) (gQ Γ (some (.int r)) v N) 0 0 Γ.2.2.1 :=
  gx_met (nm := "isDay") ⟨by decide +kernel, rfl, rfl⟩ (Nat.le_of_ble_eq_true rfl) (fun p e s m below meth c ls C hG hl => wX9_isDay C h hG va_S.rf hl)
abbrev rmX9_known : Room := { frames := 4, cells := 0, slots := 0, locals := 85 }
def fX9_known (x0 : Nat) (x1 : Int32) (x2 : Int32) (u : gM) : Option (Int32 × gM) :=
  (gO [10] u x0).bind fun _ =>
  bI (fX9_thingOf x0 x1 u) fun r2 u2 =>
  if r2 = none then (
    (gO [10] u2 x0).bind fun _ =>
    bI (fX9_finding x0 (1 : Int32) u2) fun r19 u19 =>
    some (r19, u19)
  ) else (
    bI (fX9_isDay x2 u2) fun r11 u11 =>
    if r11 = 0 then (
      (gO [10] u11 x0).bind fun _ =>
      bI (fX9_finding x0 (1 : Int32) u11) fun r19 u19 =>
      some (r19, u19)
    ) else (
      (r2).bind fun a25 =>
      (gO [6, 9] u11 a25).bind fun _ =>
      bI (fX8_stateBy a25 x2 u11) fun r25 u25 =>
      some (r25, u25)
    )
  )
set_option maxHeartbeats 4000000 in
set_option maxRecDepth 20000 in
theorem wX9_known  (C : gC p s m args meth c cX9_known 4 (some .int) RX9 "known" Γ){x0 : Nat} {x1 : Int32} {x2 : Int32} {u : gM} {res : Int32 × gM} (h : fX9_known x0 x1 x2 u = some res) {H : Heap} {locs : List Loc} (hG : gAg Γ u N H) (hS : va_S Γ.2.2.1 s.heap H locs) {ls : Array Slot} (hl : lv_has ls 4 [(0, va_rf (some x0)), (1, .int x1), (2, .int x2)]) : W p l e rmX9_known s m args below meth c H locs 0 0 (MQ below (gQ Γ (some (.int res.1)) res.2 N) args s 0 0 Γ.2.2.1) (F0 m 0 ls []) := by
  have hx := C.1
  have hb := C.2.1
  unfold fX9_known at h
  refine gx_aload_n (r := (some x0)) hx hb dX9_known_0 rfl (lv_at hl 0 rfl) ?_
  refine lv_iload_n hx hb dX9_known_1 rfl (lv_at hl 1 rfl) ?_
  obtain ⟨_, eo2, h⟩ := ob h
  obtain ⟨r2, u2, e2, h⟩ := obI h
  refine gx_cV C hG hS [.int x1] rfl eo2 (tX9_thingOf e2) qcX9_119 ⟨rfl, rfl, Nat.le_of_ble_eq_true rfl, Nat.le_of_ble_eq_true rfl⟩ ⟨Nat.zero_le _, Nat.zero_le _⟩ rfl hl.1 rfl (Nat.le_of_ble_eq_true rfl) (st1 := [va_rf r2]) rfl dX9_known_2 (fun H locs hG hS => ?_)
  refine gx_astore_n (r := r2) (i := 3) (lv' := [(3, va_rf r2), (0, va_rf (some x0)), (1, .int x1), (2, .int x2)]) hx hb dX9_known_5 rfl hl (by decide) rfl (fun ls hl => ?_)
  refine gx_aload_n (r := r2) hx hb dX9_known_6 rfl (lv_at hl 0 rfl) ?_
  refine gx_ifnull (tgt := 17) hx hb dX9_known_7 (by decide) (fun hc => ?_) (fun hc => ?_)
  · replace h := it_pos hc h
    refine gx_aload_n (r := (some x0)) hx hb dX9_known_17 rfl (lv_at hl 1 rfl) ?_
    refine lv_iconst (v := 1) hx hb dX9_known_18 (by decide) ?_
    obtain ⟨_, eo19, h⟩ := ob h
    obtain ⟨r19, u19, e19, h⟩ := obI h
    refine gx_cV C hG hS [.int (1 : Int32)] rfl eo19 (tX9_finding e19) qcX9_89 ⟨rfl, rfl, Nat.le_of_ble_eq_true rfl, Nat.le_of_ble_eq_true rfl⟩ ⟨Nat.zero_le _, Nat.zero_le _⟩ rfl hl.1 rfl (Nat.le_of_ble_eq_true rfl) (st1 := [.int r19]) rfl dX9_known_19 (fun H locs hG hS => ?_)
    cases Option.some.inj h
    exact gx_reti C hG hS dX9_known_22
  · replace h := it_neg hc h
    refine lv_iload_n hx hb dX9_known_10 rfl (lv_at hl 3 rfl) ?_
    obtain ⟨r11, u11, e11, h⟩ := obI h
    refine gx_cS C hG hS [.int x2] (tX9_isDay e11) qcX9_148 ⟨rfl, rfl, Nat.le_of_ble_eq_true rfl, Nat.le_of_ble_eq_true rfl⟩ ⟨Nat.zero_le _, Nat.zero_le _⟩ rfl hl.1 rfl (Nat.le_of_ble_eq_true rfl) (st1 := [.int r11]) rfl dX9_known_11 (fun H locs hG hS => ?_)
    refine lv_if_ne (tgt := 23) hx hb dX9_known_14 (by decide) (fun hc => ?_) (fun hc => ?_)
    · replace h := it_neg hc h
      refine gx_aload_n (r := r2) hx hb dX9_known_23 rfl (lv_at hl 0 rfl) ?_
      refine lv_iload_n hx hb dX9_known_24 rfl (lv_at hl 3 rfl) ?_
      obtain ⟨a25, na25, h⟩ := ob h
      obtain ⟨_, eo25, h⟩ := ob h
      obtain ⟨r25, u25, e25, h⟩ := obI h
      refine gx_cU C hG hS [.int x2] na25 eo25 (tX8_stateBy e25) qcX9_152 ⟨rfl, rfl, Nat.le_of_ble_eq_true rfl, Nat.le_of_ble_eq_true rfl⟩ ⟨Nat.zero_le _, Nat.zero_le _⟩ rfl hl.1 rfl (Nat.le_of_ble_eq_true rfl) (st1 := [.int r25]) rfl dX9_known_25 (fun H locs hG hS => ?_)
      cases Option.some.inj h
      exact gx_reti C hG hS dX9_known_28
    · replace h := it_pos hc h
      refine gx_aload_n (r := (some x0)) hx hb dX9_known_17 rfl (lv_at hl 1 rfl) ?_
      refine lv_iconst (v := 1) hx hb dX9_known_18 (by decide) ?_
      obtain ⟨_, eo19, h⟩ := ob h
      obtain ⟨r19, u19, e19, h⟩ := obI h
      refine gx_cV C hG hS [.int (1 : Int32)] rfl eo19 (tX9_finding e19) qcX9_89 ⟨rfl, rfl, Nat.le_of_ble_eq_true rfl, Nat.le_of_ble_eq_true rfl⟩ ⟨Nat.zero_le _, Nat.zero_le _⟩ rfl hl.1 rfl (Nat.le_of_ble_eq_true rfl) (st1 := [.int r19]) rfl dX9_known_19 (fun H locs hG hS => ?_)
      cases Option.some.inj h
      exact gx_reti C hG hS dX9_known_22
theorem tX9_known {Γ : gEnv} {N : Nat} {x0 : Nat} {x1 : Int32} {x2 : Int32} {u v : gM} {r : Int32} (h : fX9_known x0 x1 x2 u = some (r, v)) : Met l yX9_known (Cond.code yX9_known cX9_known 4 (some .int) :: gW) rmX9_known (va_Pc [va_rf (some x0), .int x1, .int x2] (gPre Γ u N)) (gQ Γ (some (.int r)) v N) 0 0 Γ.2.2.1 :=
  gx_met (nm := "known") ⟨by decide +kernel, rfl, rfl⟩ (Nat.le_of_ble_eq_true rfl) (fun p e s m below meth c ls C hG hl => wX9_known C h hG va_S.rf hl)
abbrev rmX9_seeker (a b : Nat) : Room := { frames := 7, cells := a, slots := b, locals := 171 }
def fX9_seeker_46 (z : Nat → Nat) (x0 : Nat) (s0 : Int32) (u : gN) : Option (Int32 × gN) :=
  (gR [10] 1 u.1 x0).bind fun v48 =>
  (v48).bind fun a51 =>
  (gO [0] u.1 a51).bind fun _ =>
  bI (cN (fJx4a65c_size_8abf5 a51 u.1) u) fun r51 u51 =>
  some (r51 - (1 : Int32), u51)
set_option maxRecDepth 20000 in
theorem moX9_seeker_46 {z : Nat → Nat} {x0 : Nat} {s0 : Int32} {u : gN} {res : Int32 × gN} (h : fX9_seeker_46 z x0 s0 u = some res) : gLe u res.2 := by
  unfold fX9_seeker_46 at h
  obtain ⟨v48, e48, h⟩ := ob h
  obtain ⟨a51, na51, h⟩ := ob h
  obtain ⟨_, eo51, h⟩ := ob h
  obtain ⟨r51, u51, e51, h⟩ := obI h
  refine gLe.tr (cN_le e51) ?_
  cases Option.some.inj h
  exact gLe.rf _
set_option maxHeartbeats 4000000 in
set_option maxRecDepth 20000 in
theorem wX9_seeker_46 {z : Nat → Nat}  (C : gC p s m args meth c cX9_seeker 2 (some .int) RX9 "seeker" Γ)(hz : Γ.2.2.2 = z) {x0 : Nat} {s0 : Int32} {u : gN} {res : Int32 × gN} (h : fX9_seeker_46 z x0 s0 u = some res) {H : Heap} {locs : List Loc} (hG : gAn Γ sB u H) (hS : va_S Γ.2.2.1 s.heap H locs) {ls : Array Slot} (hl : lv_has ls 2 [(0, va_rf (some x0))]) : W p l e (rmX9_seeker (res.2.2.1 - s.heap.size) (res.2.2.2 - sB)) s m args below meth c H locs (u.2.1 - s.heap.size) (u.2.2 - sB) (MQ below (gQ Γ (some (.int res.1)) res.2.1 res.2.2.1) args s (res.2.2.1 - s.heap.size) (res.2.2.2 - sB) Γ.2.2.1) (F0 m 46 ls [.int s0]) := by
  have hx := C.1
  have hb := C.2.1
  have hm := moX9_seeker_46 h
  unfold fX9_seeker_46 at h
  refine lv_pop hx hb dX9_seeker_46 (by first | rfl | exact gx_cat _) ?_
  refine gx_aload_n (r := (some x0)) hx hb dX9_seeker_47 rfl (lv_at hl 0 rfl) ?_
  obtain ⟨v48, e48, h⟩ := ob h
  refine gx_getR C hG.1 rfl e48 fgX9_16 dX9_seeker_48 ?_
  obtain ⟨a51, na51, h⟩ := ob h
  obtain ⟨_, eo51, h⟩ := ob h
  obtain ⟨r51, u51, e51, h⟩ := obI h
  obtain ⟨g51, eg51, ev51⟩ := cN_inv e51
  refine gx_cV C hG.1 hS [] na51 eo51 (tJx4a65c_size_8abf5 eg51) qcX9_93 ⟨rfl, rfl, Nat.le_of_ble_eq_true rfl, Nat.le_of_ble_eq_true rfl⟩ ⟨Nat.sub_le_sub_right hm.1 _, Nat.sub_le_sub_right hm.2 _⟩ rfl hl.1 rfl (Nat.le_of_ble_eq_true rfl) (st1 := [.int r51]) rfl dX9_seeker_51 (fun H locs hg hS2 => gy_w (H0 := _) hG ev51 hg (fun hG => ?_))
  replace hS := hS2
  replace hm : gLe u51 res.2 := by rw [ev51]; exact hm
  refine lv_iconst (v := 1) hx hb dX9_seeker_54 (by decide) ?_
  refine lv_isub hx hb dX9_seeker_55 ?_
  cases Option.some.inj h
  exact gx_reti C hG.1 hS dX9_seeker_56
def fX9_seeker_43 (z : Nat → Nat) (x0 : Nat) (s0 : Option Nat) (s1 : Option Nat) (u : gN) : Option (Int32 × gN) :=
  (s0).bind fun a43 =>
  (gO [0] u.1 a43).bind fun _ =>
  bI (fJx4a65c_add_9ea2d z a43 s1 u) fun r43 u43 =>
  fX9_seeker_46 z x0 r43 u43 
set_option maxRecDepth 20000 in
theorem moX9_seeker_43 {z : Nat → Nat} {x0 : Nat} {s0 : Option Nat} {s1 : Option Nat} {u : gN} {res : Int32 × gN} (h : fX9_seeker_43 z x0 s0 s1 u = some res) : gLe u res.2 := by
  unfold fX9_seeker_43 at h
  obtain ⟨a43, na43, h⟩ := ob h
  obtain ⟨_, eo43, h⟩ := ob h
  obtain ⟨r43, u43, e43, h⟩ := obI h
  refine gLe.tr (moJx4a65c_add_9ea2d e43) ?_
  exact moX9_seeker_46  h
set_option maxHeartbeats 4000000 in
set_option maxRecDepth 20000 in
theorem wX9_seeker_43 {z : Nat → Nat}  (C : gC p s m args meth c cX9_seeker 2 (some .int) RX9 "seeker" Γ)(hz : Γ.2.2.2 = z) {x0 : Nat} {s0 : Option Nat} {s1 : Option Nat} {u : gN} {res : Int32 × gN} (h : fX9_seeker_43 z x0 s0 s1 u = some res) {H : Heap} {locs : List Loc} (hG : gAn Γ sB u H) (hS : va_S Γ.2.2.1 s.heap H locs) {ls : Array Slot} (hl : lv_has ls 2 [(0, va_rf (some x0))]) : W p l e (rmX9_seeker (res.2.2.1 - s.heap.size) (res.2.2.2 - sB)) s m args below meth c H locs (u.2.1 - s.heap.size) (u.2.2 - sB) (MQ below (gQ Γ (some (.int res.1)) res.2.1 res.2.2.1) args s (res.2.2.1 - s.heap.size) (res.2.2.2 - sB) Γ.2.2.1) (F0 m 43 ls [va_rf s1, va_rf s0]) := by
  have hx := C.1
  have hb := C.2.1
  have hm := moX9_seeker_43 h
  unfold fX9_seeker_43 at h
  obtain ⟨a43, na43, h⟩ := ob h
  obtain ⟨_, eo43, h⟩ := ob h
  obtain ⟨r43, u43, e43, h⟩ := obI h
  have hle := moJx4a65c_add_9ea2d e43
  have hm2 : gLe u43 res.2 := by
    exact moX9_seeker_46  h
  refine gx_cV C hG.1 hS [va_rf s1] na43 eo43 (tJx4a65c_add_9ea2d hz e43) qcX9_115 ⟨rfl, rfl, Nat.le_of_ble_eq_true rfl, Nat.le_of_ble_eq_true rfl⟩ (gy_room hG hS hle ⟨Nat.sub_le_sub_right hm2.1 _, Nat.sub_le_sub_right hm2.2 _⟩) rfl hl.1 rfl (Nat.le_of_ble_eq_true rfl) (st1 := [.int r43]) rfl dX9_seeker_43 (fun H locs hg hS2 => gy_ret hG hS hle hg (fun hG => ?_))
  replace hS := hS2
  exact wX9_seeker_46 C hz  h hG hS (lv_sub hl [0] rfl)
def fX9_seeker_38 (z : Nat → Nat) (x0 : Nat) (x1 : Int32) (s0 : Option Nat) (s1 : Option Nat) (u : gN) : Option (Int32 × gN) :=
  (s1).bind fun a40 =>
  (fX7_init a40 x1 u).bind fun u40 =>
  fX9_seeker_43 z x0 s0 s1 u40 
set_option maxRecDepth 20000 in
theorem moX9_seeker_38 {z : Nat → Nat} {x0 : Nat} {x1 : Int32} {s0 : Option Nat} {s1 : Option Nat} {u : gN} {res : Int32 × gN} (h : fX9_seeker_38 z x0 x1 s0 s1 u = some res) : gLe u res.2 := by
  unfold fX9_seeker_38 at h
  obtain ⟨a40, na40, h⟩ := ob h
  obtain ⟨u40, e40, h⟩ := ob h
  refine gLe.tr (moX7_init e40) ?_
  exact moX9_seeker_43  h
set_option maxHeartbeats 4000000 in
set_option maxRecDepth 20000 in
theorem wX9_seeker_38 {z : Nat → Nat}  (C : gC p s m args meth c cX9_seeker 2 (some .int) RX9 "seeker" Γ)(hz : Γ.2.2.2 = z) {x0 : Nat} {x1 : Int32} {s0 : Option Nat} {s1 : Option Nat} {u : gN} {res : Int32 × gN} (h : fX9_seeker_38 z x0 x1 s0 s1 u = some res) {H : Heap} {locs : List Loc} (hG : gAn Γ sB u H) (hS : va_S Γ.2.2.1 s.heap H locs) {ls : Array Slot} (hl : lv_has ls 2 [(0, va_rf (some x0)), (1, .int x1)]) : W p l e (rmX9_seeker (res.2.2.1 - s.heap.size) (res.2.2.2 - sB)) s m args below meth c H locs (u.2.1 - s.heap.size) (u.2.2 - sB) (MQ below (gQ Γ (some (.int res.1)) res.2.1 res.2.2.1) args s (res.2.2.1 - s.heap.size) (res.2.2.2 - sB) Γ.2.2.1) (F0 m 38 ls [va_rf s1, va_rf s0]) := by
  have hx := C.1
  have hb := C.2.1
  have hm := moX9_seeker_38 h
  unfold fX9_seeker_38 at h
  refine lv_dup hx hb dX9_seeker_38 (by first | rfl | exact gx_cat _) ?_
  refine lv_iload_n hx hb dX9_seeker_39 rfl (lv_at hl 1 rfl) ?_
  obtain ⟨a40, na40, h⟩ := ob h
  obtain ⟨u40, e40, h⟩ := ob h
  have hle := moX7_init e40
  have hm2 : gLe u40 res.2 := by
    exact moX9_seeker_43  h
  refine gx_cI C hG.1 hS [.int x1] na40 (tX7_init e40) qcX9_157 ⟨rfl, rfl, Nat.le_of_ble_eq_true rfl, Nat.le_of_ble_eq_true rfl⟩ (gy_room hG hS hle ⟨Nat.sub_le_sub_right hm2.1 _, Nat.sub_le_sub_right hm2.2 _⟩) rfl hl.1 rfl (by simp [gx_cat, gx_catI, gx_catJ]) dX9_seeker_40 (fun H locs hg hS2 => gy_ret hG hS hle hg (fun hG => ?_))
  replace hS := hS2
  exact wX9_seeker_43 C hz  h hG hS (lv_sub hl [0] rfl)
def fX9_seeker (z : Nat → Nat) (x0 : Nat) (x1 : Int32) (u : gN) : Option (Int32 × gN) :=
  bI (cN (fX9_isDay x1 u.1) u) fun r1 u1 =>
  if r1 = 0 then (
    (gO [10] u1.1 x0).bind fun _ =>
    bI (cN (fX9_finding x0 (1 : Int32) u1.1) u1) fun r9 u9 =>
    some (r9, u9)
  ) else (
    (gR [10] 1 u1.1 x0).bind fun v14 =>
    (v14).bind fun a17 =>
    (gO [0] u1.1 a17).bind fun _ =>
    bI (cN (fJx4a65c_size_8abf5 a17 u1.1) u1) fun r17 u17 =>
    if r17 < (8 : Int32) then (
      (gR [10] 1 u17.1 x0).bind fun v32 =>
      bI (nwO 8 [.int 0, .null, .int 0, .int 0, .int 0] u17) fun q35 u35 =>
      fX9_seeker_38 z x0 x1 v32 (some q35) u35 
    ) else (
      (gO [10] u17.1 x0).bind fun _ =>
      bI (cN (fX9_finding x0 (4 : Int32) u17.1) u17) fun r27 u27 =>
      some (r27, u27)
    )
  )
set_option maxRecDepth 20000 in
theorem moX9_seeker {z : Nat → Nat} {x0 : Nat} {x1 : Int32} {u : gN} {res : Int32 × gN} (h : fX9_seeker z x0 x1 u = some res) : gLe u res.2 := by
  unfold fX9_seeker at h
  obtain ⟨r1, u1, e1, h⟩ := obI h
  refine gLe.tr (cN_le e1) ?_
  by_cases hc : r1 = 0
  · replace h := it_pos hc h
    obtain ⟨_, eo9, h⟩ := ob h
    obtain ⟨r9, u9, e9, h⟩ := obI h
    refine gLe.tr (cN_le e9) ?_
    cases Option.some.inj h
    exact gLe.rf _
  · replace h := it_neg hc h
    obtain ⟨v14, e14, h⟩ := ob h
    obtain ⟨a17, na17, h⟩ := ob h
    obtain ⟨_, eo17, h⟩ := ob h
    obtain ⟨r17, u17, e17, h⟩ := obI h
    refine gLe.tr (cN_le e17) ?_
    by_cases hc : r17 < (8 : Int32)
    · replace h := it_pos hc h
      obtain ⟨v32, e32, h⟩ := ob h
      obtain ⟨q35, u35, e35, h⟩ := obI h
      refine gLe.tr (nwO_le e35) ?_
      exact moX9_seeker_38  h
    · replace h := it_neg hc h
      obtain ⟨_, eo27, h⟩ := ob h
      obtain ⟨r27, u27, e27, h⟩ := obI h
      refine gLe.tr (cN_le e27) ?_
      cases Option.some.inj h
      exact gLe.rf _
set_option maxHeartbeats 4000000 in
set_option maxRecDepth 20000 in
theorem wX9_seeker {z : Nat → Nat}  (C : gC p s m args meth c cX9_seeker 2 (some .int) RX9 "seeker" Γ)(hz : Γ.2.2.2 = z) {x0 : Nat} {x1 : Int32} {u : gN} {res : Int32 × gN} (h : fX9_seeker z x0 x1 u = some res) {H : Heap} {locs : List Loc} (hG : gAn Γ sB u H) (hS : va_S Γ.2.2.1 s.heap H locs) {ls : Array Slot} (hl : lv_has ls 2 [(0, va_rf (some x0)), (1, .int x1)]) : W p l e (rmX9_seeker (res.2.2.1 - s.heap.size) (res.2.2.2 - sB)) s m args below meth c H locs (u.2.1 - s.heap.size) (u.2.2 - sB) (MQ below (gQ Γ (some (.int res.1)) res.2.1 res.2.2.1) args s (res.2.2.1 - s.heap.size) (res.2.2.2 - sB) Γ.2.2.1) (F0 m 0 ls []) := by
  have hx := C.1
  have hb := C.2.1
  have hm := moX9_seeker h
  unfold fX9_seeker at h
  refine lv_iload_n hx hb dX9_seeker_0 rfl (lv_at hl 1 rfl) ?_
  obtain ⟨r1, u1, e1, h⟩ := obI h
  obtain ⟨g1, eg1, ev1⟩ := cN_inv e1
  refine gx_cS C hG.1 hS [.int x1] (tX9_isDay eg1) qcX9_148 ⟨rfl, rfl, Nat.le_of_ble_eq_true rfl, Nat.le_of_ble_eq_true rfl⟩ ⟨Nat.sub_le_sub_right hm.1 _, Nat.sub_le_sub_right hm.2 _⟩ rfl hl.1 rfl (Nat.le_of_ble_eq_true rfl) (st1 := [.int r1]) rfl dX9_seeker_1 (fun H locs hg hS2 => gy_w (H0 := _) hG ev1 hg (fun hG => ?_))
  replace hS := hS2
  replace hm : gLe u1 res.2 := by rw [ev1]; exact hm
  refine lv_if_ne (tgt := 13) hx hb dX9_seeker_4 (by decide) (fun hc => ?_) (fun hc => ?_)
  · replace h := it_neg hc h
    refine gx_aload_n (r := (some x0)) hx hb dX9_seeker_13 rfl (lv_at hl 0 rfl) ?_
    obtain ⟨v14, e14, h⟩ := ob h
    refine gx_getR C hG.1 rfl e14 fgX9_16 dX9_seeker_14 ?_
    obtain ⟨a17, na17, h⟩ := ob h
    obtain ⟨_, eo17, h⟩ := ob h
    obtain ⟨r17, u17, e17, h⟩ := obI h
    obtain ⟨g17, eg17, ev17⟩ := cN_inv e17
    refine gx_cV C hG.1 hS [] na17 eo17 (tJx4a65c_size_8abf5 eg17) qcX9_93 ⟨rfl, rfl, Nat.le_of_ble_eq_true rfl, Nat.le_of_ble_eq_true rfl⟩ ⟨Nat.sub_le_sub_right hm.1 _, Nat.sub_le_sub_right hm.2 _⟩ rfl hl.1 rfl (Nat.le_of_ble_eq_true rfl) (st1 := [.int r17]) rfl dX9_seeker_17 (fun H locs hg hS2 => gy_w (H0 := _) hG ev17 hg (fun hG => ?_))
    replace hS := hS2
    replace hm : gLe u17 res.2 := by rw [ev17]; exact hm
    refine lv_bipush (v := 8) hx hb dX9_seeker_20 (by decide) ?_
    refine lv_icmp_lt (tgt := 31) hx hb dX9_seeker_22 (by decide) (fun hc => ?_) (fun hc => ?_)
    · replace h := it_pos hc h
      refine gx_aload_n (r := (some x0)) hx hb dX9_seeker_31 rfl (lv_at hl 0 rfl) ?_
      obtain ⟨v32, e32, h⟩ := ob h
      refine gx_getR C hG.1 rfl e32 fgX9_16 dX9_seeker_32 ?_
      obtain ⟨q35, u35, e35, h⟩ := obI h
      have hm2 : gLe u35 res.2 := by
        exact moX9_seeker_38  h
      refine gy_new C hG hS e35 kwX9_155 ⟨Nat.sub_le_sub_right hm2.1 _, Nat.sub_le_sub_right hm2.2 _⟩ dX9_seeker_35 (fun H hG hS => ?_)
      exact wX9_seeker_38 C hz  h hG hS (lv_sub hl [0, 1] rfl)
    · replace h := it_neg hc h
      refine gx_aload_n (r := (some x0)) hx hb dX9_seeker_25 rfl (lv_at hl 0 rfl) ?_
      refine lv_iconst (v := 4) hx hb dX9_seeker_26 (by decide) ?_
      obtain ⟨_, eo27, h⟩ := ob h
      obtain ⟨r27, u27, e27, h⟩ := obI h
      obtain ⟨g27, eg27, ev27⟩ := cN_inv e27
      refine gx_cV C hG.1 hS [.int (4 : Int32)] rfl eo27 (tX9_finding eg27) qcX9_89 ⟨rfl, rfl, Nat.le_of_ble_eq_true rfl, Nat.le_of_ble_eq_true rfl⟩ ⟨Nat.sub_le_sub_right hm.1 _, Nat.sub_le_sub_right hm.2 _⟩ rfl hl.1 rfl (Nat.le_of_ble_eq_true rfl) (st1 := [.int r27]) rfl dX9_seeker_27 (fun H locs hg hS2 => gy_w (H0 := _) hG ev27 hg (fun hG => ?_))
      replace hS := hS2
      replace hm : gLe u27 res.2 := by rw [ev27]; exact hm
      cases Option.some.inj h
      exact gx_reti C hG.1 hS dX9_seeker_30
  · replace h := it_pos hc h
    refine gx_aload_n (r := (some x0)) hx hb dX9_seeker_7 rfl (lv_at hl 0 rfl) ?_
    refine lv_iconst (v := 1) hx hb dX9_seeker_8 (by decide) ?_
    obtain ⟨_, eo9, h⟩ := ob h
    obtain ⟨r9, u9, e9, h⟩ := obI h
    obtain ⟨g9, eg9, ev9⟩ := cN_inv e9
    refine gx_cV C hG.1 hS [.int (1 : Int32)] rfl eo9 (tX9_finding eg9) qcX9_89 ⟨rfl, rfl, Nat.le_of_ble_eq_true rfl, Nat.le_of_ble_eq_true rfl⟩ ⟨Nat.sub_le_sub_right hm.1 _, Nat.sub_le_sub_right hm.2 _⟩ rfl hl.1 rfl (Nat.le_of_ble_eq_true rfl) (st1 := [.int r9]) rfl dX9_seeker_9 (fun H locs hg hS2 => gy_w (H0 := _) hG ev9 hg (fun hG => ?_))
    replace hS := hS2
    replace hm : gLe u9 res.2 := by rw [ev9]; exact hm
    cases Option.some.inj h
    exact gx_reti C hG.1 hS dX9_seeker_12
theorem tX9_seeker {Γ : gEnv} {z : Nat → Nat} (hz : Γ.2.2.2 = z) {x0 : Nat} {x1 : Int32} {u v : gN} {r : Int32} (h : fX9_seeker z x0 x1 u = some (r, v)) : Met l yX9_seeker (Cond.code yX9_seeker cX9_seeker 2 (some .int) :: gW) (rmX9_seeker (v.2.1 - u.2.1) (v.2.2 - u.2.2)) (va_Pc [va_rf (some x0), .int x1] (gPre Γ u.1 u.2.1)) (gQ Γ (some (.int r)) v.1 v.2.1) (v.2.1 - u.2.1) (v.2.2 - u.2.2) Γ.2.2.1 := by
  refine gx_met (nm := "seeker") ⟨by decide +kernel, rfl, rfl⟩ (Nat.le_of_ble_eq_true rfl) (fun p e s m below meth c ls C hG hl => ?_)
  have hN : s.heap.size = u.2.1 := hG.1
  have K := wX9_seeker (l := l) (e := e) (below := below) (sB := u.2.2) C hz h ⟨hG, Nat.le_refl _⟩ va_S.rf hl
  rw [hN, Nat.sub_self, Nat.sub_self] at K
  exact K
abbrev rmX9_seekerOf : Room := { frames := 3, cells := 0, slots := 0, locals := 64 }
def fX9_seekerOf (x0 : Nat) (x1 : Int32) (u : gM) : Option (Option Nat × gM) :=
  (gR [10] 1 u x0).bind fun v3 =>
  (v3).bind fun a6 =>
  (gO [0] u a6).bind fun _ =>
  bI (fJx4a65c_size_8abf5 a6 u) fun r6 u6 =>
  bI (fX9_within x1 (0 : Int32) (r6 - (1 : Int32)) u6) fun r11 u11 =>
  if r11 = 0 then (
    some (none, u11)
  ) else (
    (gR [10] 1 u11 x0).bind fun v18 =>
    (v18).bind fun a22 =>
    (gO [0] u11 a22).bind fun _ =>
    bI (fJx4a65c_get_915e3 a22 x1 u11) fun r22 u22 =>
    (kC [8] u22 r22).bind fun _ =>
    some (r22, u22)
  )
set_option maxHeartbeats 4000000 in
set_option maxRecDepth 20000 in
theorem wX9_seekerOf  (C : gC p s m args meth c cX9_seekerOf 2 (some (.object "LostParcels$Seeker")) RX9 "seekerOf" Γ){x0 : Nat} {x1 : Int32} {u : gM} {res : Option Nat × gM} (h : fX9_seekerOf x0 x1 u = some res) {H : Heap} {locs : List Loc} (hG : gAg Γ u N H) (hS : va_S Γ.2.2.1 s.heap H locs) {ls : Array Slot} (hl : lv_has ls 2 [(0, va_rf (some x0)), (1, .int x1)]) : W p l e rmX9_seekerOf s m args below meth c H locs 0 0 (MQ below (gQ Γ (some (va_rf res.1)) res.2 N) args s 0 0 Γ.2.2.1) (F0 m 0 ls []) := by
  have hx := C.1
  have hb := C.2.1
  unfold fX9_seekerOf at h
  refine lv_iload_n hx hb dX9_seekerOf_0 rfl (lv_at hl 1 rfl) ?_
  refine lv_iconst (v := 0) hx hb dX9_seekerOf_1 (by decide) ?_
  refine gx_aload_n (r := (some x0)) hx hb dX9_seekerOf_2 rfl (lv_at hl 0 rfl) ?_
  obtain ⟨v3, e3, h⟩ := ob h
  refine gx_getR C hG rfl e3 fgX9_16 dX9_seekerOf_3 ?_
  obtain ⟨a6, na6, h⟩ := ob h
  obtain ⟨_, eo6, h⟩ := ob h
  obtain ⟨r6, u6, e6, h⟩ := obI h
  refine gx_cV C hG hS [] na6 eo6 (tJx4a65c_size_8abf5 e6) qcX9_93 ⟨rfl, rfl, Nat.le_of_ble_eq_true rfl, Nat.le_of_ble_eq_true rfl⟩ ⟨Nat.zero_le _, Nat.zero_le _⟩ rfl hl.1 rfl (Nat.le_of_ble_eq_true rfl) (st1 := [.int r6, .int (0 : Int32), .int x1]) rfl dX9_seekerOf_6 (fun H locs hG hS => ?_)
  refine lv_iconst (v := 1) hx hb dX9_seekerOf_9 (by decide) ?_
  refine lv_isub hx hb dX9_seekerOf_10 ?_
  obtain ⟨r11, u11, e11, h⟩ := obI h
  refine gx_cS C hG hS [.int x1, .int (0 : Int32), .int (r6 - (1 : Int32))] (tX9_within e11) qcX9_85 ⟨rfl, rfl, Nat.le_of_ble_eq_true rfl, Nat.le_of_ble_eq_true rfl⟩ ⟨Nat.zero_le _, Nat.zero_le _⟩ rfl hl.1 rfl (Nat.le_of_ble_eq_true rfl) (st1 := [.int r11]) rfl dX9_seekerOf_11 (fun H locs hG hS => ?_)
  refine lv_if_eq (tgt := 31) hx hb dX9_seekerOf_14 (by decide) (fun hc => ?_) (fun hc => ?_)
  · replace h := it_pos hc h
    refine gx_null hx hb dX9_seekerOf_31 ?_
    cases Option.some.inj h
    exact gx_reta C (Or.inl ⟨_, rfl⟩) hG hS dX9_seekerOf_32
  · replace h := it_neg hc h
    refine gx_aload_n (r := (some x0)) hx hb dX9_seekerOf_17 rfl (lv_at hl 0 rfl) ?_
    obtain ⟨v18, e18, h⟩ := ob h
    refine gx_getR C hG rfl e18 fgX9_16 dX9_seekerOf_18 ?_
    refine lv_iload_n hx hb dX9_seekerOf_21 rfl (lv_at hl 1 rfl) ?_
    obtain ⟨a22, na22, h⟩ := ob h
    obtain ⟨_, eo22, h⟩ := ob h
    obtain ⟨r22, u22, e22, h⟩ := obI h
    refine gx_cV C hG hS [.int x1] na22 eo22 (tJx4a65c_get_915e3 e22) qcX9_144 ⟨rfl, rfl, Nat.le_of_ble_eq_true rfl, Nat.le_of_ble_eq_true rfl⟩ ⟨Nat.zero_le _, Nat.zero_le _⟩ rfl hl.1 rfl (Nat.le_of_ble_eq_true rfl) (st1 := [va_rf r22]) rfl dX9_seekerOf_22 (fun H locs hG hS => ?_)
    obtain ⟨_, e25, h⟩ := ob h
    refine gx_cast C hG e25 ckX9_155 dX9_seekerOf_25 ?_
    refine lv_goto (tgt := 32) hx hb dX9_seekerOf_28 (by decide) ?_
    cases Option.some.inj h
    exact gx_reta C (Or.inl ⟨_, rfl⟩) hG hS dX9_seekerOf_32
theorem tX9_seekerOf {Γ : gEnv} {N : Nat} {x0 : Nat} {x1 : Int32} {u v : gM} {r : Option Nat} (h : fX9_seekerOf x0 x1 u = some (r, v)) : Met l yX9_seekerOf (Cond.code yX9_seekerOf cX9_seekerOf 2 (some (.object "LostParcels$Seeker")) :: gW) rmX9_seekerOf (va_Pc [va_rf (some x0), .int x1] (gPre Γ u N)) (gQ Γ (some (va_rf r)) v N) 0 0 Γ.2.2.1 :=
  gx_met (nm := "seekerOf") ⟨by decide +kernel, rfl, rfl⟩ (Nat.le_of_ble_eq_true rfl) (fun p e s m below meth c ls C hG hl => wX9_seekerOf C h hG va_S.rf hl)
abbrev rmX9_word : Room := { frames := 4, cells := 0, slots := 0, locals := 85 }
def fX9_word (x0 : Nat) (x1 : Int32) (x2 : Int32) (x3 : Int32) (u : gM) : Option (Int32 × gM) :=
  (gO [10] u x0).bind fun _ =>
  bI (fX9_seekerOf x0 x1 u) fun r2 u2 =>
  if r2 = none then (
    (gO [10] u2 x0).bind fun _ =>
    bI (fX9_finding x0 (1 : Int32) u2) fun r33 u33 =>
    some (r33, u33)
  ) else (
    bI (fX9_within x2 (0 : Int32) (4 : Int32) u2) fun r15 u15 =>
    if r15 = 0 then (
      (gO [10] u15 x0).bind fun _ =>
      bI (fX9_finding x0 (1 : Int32) u15) fun r33 u33 =>
      some (r33, u33)
    ) else (
      bI (fX9_within x3 (-1 : Int32) (15 : Int32) u15) fun r25 u25 =>
      if r25 = 0 then (
        (gO [10] u25 x0).bind fun _ =>
        bI (fX9_finding x0 (1 : Int32) u25) fun r33 u33 =>
        some (r33, u33)
      ) else (
        (r2).bind fun a39 =>
        (gR [8] 1 u25 a39).bind fun v39 =>
        (v39).bind fun a43 =>
        (aI u25 a43 x2).bind fun v43 =>
        (r2).bind fun a48 =>
        (gR [8] 1 u25 a48).bind fun v48 =>
        (v48).bind fun a53 =>
        (uI u25 a53 x2 x3).bind fun u53 =>
        some (v43, u53)
      )
    )
  )
set_option maxHeartbeats 4000000 in
set_option maxRecDepth 20000 in
theorem wX9_word  (C : gC p s m args meth c cX9_word 6 (some .int) RX9 "word" Γ){x0 : Nat} {x1 : Int32} {x2 : Int32} {x3 : Int32} {u : gM} {res : Int32 × gM} (h : fX9_word x0 x1 x2 x3 u = some res) {H : Heap} {locs : List Loc} (hG : gAg Γ u N H) (hS : va_S Γ.2.2.1 s.heap H locs) {ls : Array Slot} (hl : lv_has ls 6 [(0, va_rf (some x0)), (1, .int x1), (2, .int x2), (3, .int x3)]) : W p l e rmX9_word s m args below meth c H locs 0 0 (MQ below (gQ Γ (some (.int res.1)) res.2 N) args s 0 0 Γ.2.2.1) (F0 m 0 ls []) := by
  have hx := C.1
  have hb := C.2.1
  unfold fX9_word at h
  refine gx_aload_n (r := (some x0)) hx hb dX9_word_0 rfl (lv_at hl 0 rfl) ?_
  refine lv_iload_n hx hb dX9_word_1 rfl (lv_at hl 1 rfl) ?_
  obtain ⟨_, eo2, h⟩ := ob h
  obtain ⟨r2, u2, e2, h⟩ := obI h
  refine gx_cV C hG hS [.int x1] rfl eo2 (tX9_seekerOf e2) qcX9_160 ⟨rfl, rfl, Nat.le_of_ble_eq_true rfl, Nat.le_of_ble_eq_true rfl⟩ ⟨Nat.zero_le _, Nat.zero_le _⟩ rfl hl.1 rfl (Nat.le_of_ble_eq_true rfl) (st1 := [va_rf r2]) rfl dX9_word_2 (fun H locs hG hS => ?_)
  refine gx_astore (r := r2) (i := 4) (lv' := [(4, va_rf r2), (0, va_rf (some x0)), (1, .int x1), (2, .int x2), (3, .int x3)]) hx hb dX9_word_5 hl (by decide) rfl (fun ls hl => ?_)
  refine gx_aload (r := r2) hx hb dX9_word_7 (lv_at hl 0 rfl) ?_
  refine gx_ifnull (tgt := 31) hx hb dX9_word_9 (by decide) (fun hc => ?_) (fun hc => ?_)
  · replace h := it_pos hc h
    refine gx_aload_n (r := (some x0)) hx hb dX9_word_31 rfl (lv_at hl 1 rfl) ?_
    refine lv_iconst (v := 1) hx hb dX9_word_32 (by decide) ?_
    obtain ⟨_, eo33, h⟩ := ob h
    obtain ⟨r33, u33, e33, h⟩ := obI h
    refine gx_cV C hG hS [.int (1 : Int32)] rfl eo33 (tX9_finding e33) qcX9_89 ⟨rfl, rfl, Nat.le_of_ble_eq_true rfl, Nat.le_of_ble_eq_true rfl⟩ ⟨Nat.zero_le _, Nat.zero_le _⟩ rfl hl.1 rfl (Nat.le_of_ble_eq_true rfl) (st1 := [.int r33]) rfl dX9_word_33 (fun H locs hG hS => ?_)
    cases Option.some.inj h
    exact gx_reti C hG hS dX9_word_36
  · replace h := it_neg hc h
    refine lv_iload_n hx hb dX9_word_12 rfl (lv_at hl 3 rfl) ?_
    refine lv_iconst (v := 0) hx hb dX9_word_13 (by decide) ?_
    refine lv_iconst (v := 4) hx hb dX9_word_14 (by decide) ?_
    obtain ⟨r15, u15, e15, h⟩ := obI h
    refine gx_cS C hG hS [.int x2, .int (0 : Int32), .int (4 : Int32)] (tX9_within e15) qcX9_85 ⟨rfl, rfl, Nat.le_of_ble_eq_true rfl, Nat.le_of_ble_eq_true rfl⟩ ⟨Nat.zero_le _, Nat.zero_le _⟩ rfl hl.1 rfl (Nat.le_of_ble_eq_true rfl) (st1 := [.int r15]) rfl dX9_word_15 (fun H locs hG hS => ?_)
    refine lv_if_eq (tgt := 31) hx hb dX9_word_18 (by decide) (fun hc => ?_) (fun hc => ?_)
    · replace h := it_pos hc h
      refine gx_aload_n (r := (some x0)) hx hb dX9_word_31 rfl (lv_at hl 1 rfl) ?_
      refine lv_iconst (v := 1) hx hb dX9_word_32 (by decide) ?_
      obtain ⟨_, eo33, h⟩ := ob h
      obtain ⟨r33, u33, e33, h⟩ := obI h
      refine gx_cV C hG hS [.int (1 : Int32)] rfl eo33 (tX9_finding e33) qcX9_89 ⟨rfl, rfl, Nat.le_of_ble_eq_true rfl, Nat.le_of_ble_eq_true rfl⟩ ⟨Nat.zero_le _, Nat.zero_le _⟩ rfl hl.1 rfl (Nat.le_of_ble_eq_true rfl) (st1 := [.int r33]) rfl dX9_word_33 (fun H locs hG hS => ?_)
      cases Option.some.inj h
      exact gx_reti C hG hS dX9_word_36
    · replace h := it_neg hc h
      refine lv_iload_n hx hb dX9_word_21 rfl (lv_at hl 4 rfl) ?_
      refine lv_iconst (v := -1) hx hb dX9_word_22 (by decide) ?_
      refine lv_bipush (v := 15) hx hb dX9_word_23 (by decide) ?_
      obtain ⟨r25, u25, e25, h⟩ := obI h
      refine gx_cS C hG hS [.int x3, .int (-1 : Int32), .int (15 : Int32)] (tX9_within e25) qcX9_85 ⟨rfl, rfl, Nat.le_of_ble_eq_true rfl, Nat.le_of_ble_eq_true rfl⟩ ⟨Nat.zero_le _, Nat.zero_le _⟩ rfl hl.1 rfl (Nat.le_of_ble_eq_true rfl) (st1 := [.int r25]) rfl dX9_word_25 (fun H locs hG hS => ?_)
      refine lv_if_ne (tgt := 37) hx hb dX9_word_28 (by decide) (fun hc => ?_) (fun hc => ?_)
      · replace h := it_neg hc h
        refine gx_aload (r := r2) hx hb dX9_word_37 (lv_at hl 0 rfl) ?_
        obtain ⟨a39, na39, h⟩ := ob h
        obtain ⟨v39, e39, h⟩ := ob h
        refine gx_getR C hG na39 e39 fgX9_164 dX9_word_39 ?_
        refine lv_iload_n hx hb dX9_word_42 rfl (lv_at hl 3 rfl) ?_
        obtain ⟨a43, na43, h⟩ := ob h
        obtain ⟨v43, e43, h⟩ := ob h
        refine gx_iald C hG na43 e43 dX9_word_43 ?_
        refine lv_istore (i := 5) (lv' := [(5, .int v43), (4, va_rf r2), (0, va_rf (some x0)), (1, .int x1), (2, .int x2), (3, .int x3)]) hx hb dX9_word_44 hl (by decide) (by simp [gx_cat, gx_catI, gx_catJ]) (fun ls hl => ?_)
        refine gx_aload (r := r2) hx hb dX9_word_46 (lv_at hl 1 rfl) ?_
        obtain ⟨a48, na48, h⟩ := ob h
        obtain ⟨v48, e48, h⟩ := ob h
        refine gx_getR C hG na48 e48 fgX9_164 dX9_word_48 ?_
        refine lv_iload_n hx hb dX9_word_51 rfl (lv_at hl 4 rfl) ?_
        refine lv_iload_n hx hb dX9_word_52 rfl (lv_at hl 5 rfl) ?_
        obtain ⟨a53, na53, h⟩ := ob h
        obtain ⟨u53, e53, h⟩ := ob h
        refine gx_iast C hG hS na53 e53 dX9_word_53 (fun H locs hG hS => ?_)
        refine lv_iload hx hb dX9_word_54 (lv_at hl 0 rfl) ?_
        cases Option.some.inj h
        exact gx_reti C hG hS dX9_word_56
      · replace h := it_pos hc h
        refine gx_aload_n (r := (some x0)) hx hb dX9_word_31 rfl (lv_at hl 1 rfl) ?_
        refine lv_iconst (v := 1) hx hb dX9_word_32 (by decide) ?_
        obtain ⟨_, eo33, h⟩ := ob h
        obtain ⟨r33, u33, e33, h⟩ := obI h
        refine gx_cV C hG hS [.int (1 : Int32)] rfl eo33 (tX9_finding e33) qcX9_89 ⟨rfl, rfl, Nat.le_of_ble_eq_true rfl, Nat.le_of_ble_eq_true rfl⟩ ⟨Nat.zero_le _, Nat.zero_le _⟩ rfl hl.1 rfl (Nat.le_of_ble_eq_true rfl) (st1 := [.int r33]) rfl dX9_word_33 (fun H locs hG hS => ?_)
        cases Option.some.inj h
        exact gx_reti C hG hS dX9_word_36
theorem tX9_word {Γ : gEnv} {N : Nat} {x0 : Nat} {x1 : Int32} {x2 : Int32} {x3 : Int32} {u v : gM} {r : Int32} (h : fX9_word x0 x1 x2 x3 u = some (r, v)) : Met l yX9_word (Cond.code yX9_word cX9_word 6 (some .int) :: gW) rmX9_word (va_Pc [va_rf (some x0), .int x1, .int x2, .int x3] (gPre Γ u N)) (gQ Γ (some (.int r)) v N) 0 0 Γ.2.2.1 :=
  gx_met (nm := "word") ⟨by decide +kernel, rfl, rfl⟩ (Nat.le_of_ble_eq_true rfl) (fun p e s m below meth c ls C hG hl => wX9_word C h hG va_S.rf hl)
abbrev rmX9_span : Room := { frames := 4, cells := 0, slots := 0, locals := 85 }
def fX9_span (x0 : Nat) (x1 : Int32) (x2 : Int32) (x3 : Int32) (u : gM) : Option (Int32 × gM) :=
  (gO [10] u x0).bind fun _ =>
  bI (fX9_seekerOf x0 x1 u) fun r2 u2 =>
  if r2 = none then (
    (gO [10] u2 x0).bind fun _ =>
    bI (fX9_finding x0 (1 : Int32) u2) fun r36 u36 =>
    some (r36, u36)
  ) else (
    bI (fX9_within x2 (1 : Int32) (5000 : Int32) u2) fun r17 u17 =>
    if r17 = 0 then (
      (gO [10] u17 x0).bind fun _ =>
      bI (fX9_finding x0 (1 : Int32) u17) fun r36 u36 =>
      some (r36, u36)
    ) else (
      bI (fX9_within x3 x2 (5000 : Int32) u17) fun r28 u28 =>
      if r28 = 0 then (
        (gO [10] u28 x0).bind fun _ =>
        bI (fX9_finding x0 (1 : Int32) u28) fun r36 u36 =>
        some (r36, u36)
      ) else (
        (r2).bind fun a43 =>
        (pV [8] 2 (.int x2) u28 a43).bind fun u43 =>
        (r2).bind fun a49 =>
        (pV [8] 3 (.int x3) u43 a49).bind fun u49 =>
        some ((1 : Int32), u49)
      )
    )
  )
set_option maxHeartbeats 4000000 in
set_option maxRecDepth 20000 in
theorem wX9_span  (C : gC p s m args meth c cX9_span 5 (some .int) RX9 "span" Γ){x0 : Nat} {x1 : Int32} {x2 : Int32} {x3 : Int32} {u : gM} {res : Int32 × gM} (h : fX9_span x0 x1 x2 x3 u = some res) {H : Heap} {locs : List Loc} (hG : gAg Γ u N H) (hS : va_S Γ.2.2.1 s.heap H locs) {ls : Array Slot} (hl : lv_has ls 5 [(0, va_rf (some x0)), (1, .int x1), (2, .int x2), (3, .int x3)]) : W p l e rmX9_span s m args below meth c H locs 0 0 (MQ below (gQ Γ (some (.int res.1)) res.2 N) args s 0 0 Γ.2.2.1) (F0 m 0 ls []) := by
  have hx := C.1
  have hb := C.2.1
  unfold fX9_span at h
  refine gx_aload_n (r := (some x0)) hx hb dX9_span_0 rfl (lv_at hl 0 rfl) ?_
  refine lv_iload_n hx hb dX9_span_1 rfl (lv_at hl 1 rfl) ?_
  obtain ⟨_, eo2, h⟩ := ob h
  obtain ⟨r2, u2, e2, h⟩ := obI h
  refine gx_cV C hG hS [.int x1] rfl eo2 (tX9_seekerOf e2) qcX9_160 ⟨rfl, rfl, Nat.le_of_ble_eq_true rfl, Nat.le_of_ble_eq_true rfl⟩ ⟨Nat.zero_le _, Nat.zero_le _⟩ rfl hl.1 rfl (Nat.le_of_ble_eq_true rfl) (st1 := [va_rf r2]) rfl dX9_span_2 (fun H locs hG hS => ?_)
  refine gx_astore (r := r2) (i := 4) (lv' := [(4, va_rf r2), (0, va_rf (some x0)), (1, .int x1), (2, .int x2), (3, .int x3)]) hx hb dX9_span_5 hl (by decide) rfl (fun ls hl => ?_)
  refine gx_aload (r := r2) hx hb dX9_span_7 (lv_at hl 0 rfl) ?_
  refine gx_ifnull (tgt := 34) hx hb dX9_span_9 (by decide) (fun hc => ?_) (fun hc => ?_)
  · replace h := it_pos hc h
    refine gx_aload_n (r := (some x0)) hx hb dX9_span_34 rfl (lv_at hl 1 rfl) ?_
    refine lv_iconst (v := 1) hx hb dX9_span_35 (by decide) ?_
    obtain ⟨_, eo36, h⟩ := ob h
    obtain ⟨r36, u36, e36, h⟩ := obI h
    refine gx_cV C hG hS [.int (1 : Int32)] rfl eo36 (tX9_finding e36) qcX9_89 ⟨rfl, rfl, Nat.le_of_ble_eq_true rfl, Nat.le_of_ble_eq_true rfl⟩ ⟨Nat.zero_le _, Nat.zero_le _⟩ rfl hl.1 rfl (Nat.le_of_ble_eq_true rfl) (st1 := [.int r36]) rfl dX9_span_36 (fun H locs hG hS => ?_)
    cases Option.some.inj h
    exact gx_reti C hG hS dX9_span_39
  · replace h := it_neg hc h
    refine lv_iload_n hx hb dX9_span_12 rfl (lv_at hl 3 rfl) ?_
    refine lv_iconst (v := 1) hx hb dX9_span_13 (by decide) ?_
    refine lv_sipush (v := 5000) hx hb dX9_span_14 (by decide) ?_
    obtain ⟨r17, u17, e17, h⟩ := obI h
    refine gx_cS C hG hS [.int x2, .int (1 : Int32), .int (5000 : Int32)] (tX9_within e17) qcX9_85 ⟨rfl, rfl, Nat.le_of_ble_eq_true rfl, Nat.le_of_ble_eq_true rfl⟩ ⟨Nat.zero_le _, Nat.zero_le _⟩ rfl hl.1 rfl (Nat.le_of_ble_eq_true rfl) (st1 := [.int r17]) rfl dX9_span_17 (fun H locs hG hS => ?_)
    refine lv_if_eq (tgt := 34) hx hb dX9_span_20 (by decide) (fun hc => ?_) (fun hc => ?_)
    · replace h := it_pos hc h
      refine gx_aload_n (r := (some x0)) hx hb dX9_span_34 rfl (lv_at hl 1 rfl) ?_
      refine lv_iconst (v := 1) hx hb dX9_span_35 (by decide) ?_
      obtain ⟨_, eo36, h⟩ := ob h
      obtain ⟨r36, u36, e36, h⟩ := obI h
      refine gx_cV C hG hS [.int (1 : Int32)] rfl eo36 (tX9_finding e36) qcX9_89 ⟨rfl, rfl, Nat.le_of_ble_eq_true rfl, Nat.le_of_ble_eq_true rfl⟩ ⟨Nat.zero_le _, Nat.zero_le _⟩ rfl hl.1 rfl (Nat.le_of_ble_eq_true rfl) (st1 := [.int r36]) rfl dX9_span_36 (fun H locs hG hS => ?_)
      cases Option.some.inj h
      exact gx_reti C hG hS dX9_span_39
    · replace h := it_neg hc h
      refine lv_iload_n hx hb dX9_span_23 rfl (lv_at hl 4 rfl) ?_
      refine lv_iload_n hx hb dX9_span_24 rfl (lv_at hl 3 rfl) ?_
      refine lv_sipush (v := 5000) hx hb dX9_span_25 (by decide) ?_
      obtain ⟨r28, u28, e28, h⟩ := obI h
      refine gx_cS C hG hS [.int x3, .int x2, .int (5000 : Int32)] (tX9_within e28) qcX9_85 ⟨rfl, rfl, Nat.le_of_ble_eq_true rfl, Nat.le_of_ble_eq_true rfl⟩ ⟨Nat.zero_le _, Nat.zero_le _⟩ rfl hl.1 rfl (Nat.le_of_ble_eq_true rfl) (st1 := [.int r28]) rfl dX9_span_28 (fun H locs hG hS => ?_)
      refine lv_if_ne (tgt := 40) hx hb dX9_span_31 (by decide) (fun hc => ?_) (fun hc => ?_)
      · replace h := it_neg hc h
        refine gx_aload (r := r2) hx hb dX9_span_40 (lv_at hl 0 rfl) ?_
        refine lv_iload_n hx hb dX9_span_42 rfl (lv_at hl 3 rfl) ?_
        obtain ⟨a43, na43, h⟩ := ob h
        obtain ⟨u43, e43, h⟩ := ob h
        refine gx_put C hG hS na43 e43 fgX9_167 fpX9_167 (fun q => by cases q) rfl rfl dX9_span_43 (fun H locs hG hS => ?_)
        refine gx_aload (r := r2) hx hb dX9_span_46 (lv_at hl 0 rfl) ?_
        refine lv_iload_n hx hb dX9_span_48 rfl (lv_at hl 4 rfl) ?_
        obtain ⟨a49, na49, h⟩ := ob h
        obtain ⟨u49, e49, h⟩ := ob h
        refine gx_put C hG hS na49 e49 fgX9_170 fpX9_170 (fun q => by cases q) rfl rfl dX9_span_49 (fun H locs hG hS => ?_)
        refine lv_iconst (v := 1) hx hb dX9_span_52 (by decide) ?_
        cases Option.some.inj h
        exact gx_reti C hG hS dX9_span_53
      · replace h := it_pos hc h
        refine gx_aload_n (r := (some x0)) hx hb dX9_span_34 rfl (lv_at hl 1 rfl) ?_
        refine lv_iconst (v := 1) hx hb dX9_span_35 (by decide) ?_
        obtain ⟨_, eo36, h⟩ := ob h
        obtain ⟨r36, u36, e36, h⟩ := obI h
        refine gx_cV C hG hS [.int (1 : Int32)] rfl eo36 (tX9_finding e36) qcX9_89 ⟨rfl, rfl, Nat.le_of_ble_eq_true rfl, Nat.le_of_ble_eq_true rfl⟩ ⟨Nat.zero_le _, Nat.zero_le _⟩ rfl hl.1 rfl (Nat.le_of_ble_eq_true rfl) (st1 := [.int r36]) rfl dX9_span_36 (fun H locs hG hS => ?_)
        cases Option.some.inj h
        exact gx_reti C hG hS dX9_span_39
theorem tX9_span {Γ : gEnv} {N : Nat} {x0 : Nat} {x1 : Int32} {x2 : Int32} {x3 : Int32} {u v : gM} {r : Int32} (h : fX9_span x0 x1 x2 x3 u = some (r, v)) : Met l yX9_span (Cond.code yX9_span cX9_span 5 (some .int) :: gW) rmX9_span (va_Pc [va_rf (some x0), .int x1, .int x2, .int x3] (gPre Γ u N)) (gQ Γ (some (.int r)) v N) 0 0 Γ.2.2.1 :=
  gx_met (nm := "span") ⟨by decide +kernel, rfl, rfl⟩ (Nat.le_of_ble_eq_true rfl) (fun p e s m below meth c ls C hG hl => wX9_span C h hG va_S.rf hl)
abbrev rmX9_points : Room := { frames := 1, cells := 0, slots := 0, locals := 22 }
def fX9_points (x0 : Nat) (x1 : Int32) (x2 : Int32) (u : gM) : Option (Int32 × gM) :=
  bI (fX9_within x1 (0 : Int32) (4 : Int32) u) fun r3 u3 =>
  if r3 = 0 then (
    (gO [10] u3 x0).bind fun _ =>
    bI (fX9_finding x0 (1 : Int32) u3) fun r21 u21 =>
    some (r21, u21)
  ) else (
    bI (fX9_within x2 (0 : Int32) (20 : Int32) u3) fun r13 u13 =>
    if r13 = 0 then (
      (gO [10] u13 x0).bind fun _ =>
      bI (fX9_finding x0 (1 : Int32) u13) fun r21 u21 =>
      some (r21, u21)
    ) else (
      (gR [10] 3 u13 x0).bind fun v26 =>
      (v26).bind fun a30 =>
      (aI u13 a30 x1).bind fun v30 =>
      (gR [10] 3 u13 x0).bind fun v33 =>
      (v33).bind fun a38 =>
      (uI u13 a38 x1 x2).bind fun u38 =>
      some (v30, u38)
    )
  )
set_option maxHeartbeats 4000000 in
set_option maxRecDepth 20000 in
theorem wX9_points  (C : gC p s m args meth c cX9_points 4 (some .int) RX9 "points" Γ){x0 : Nat} {x1 : Int32} {x2 : Int32} {u : gM} {res : Int32 × gM} (h : fX9_points x0 x1 x2 u = some res) {H : Heap} {locs : List Loc} (hG : gAg Γ u N H) (hS : va_S Γ.2.2.1 s.heap H locs) {ls : Array Slot} (hl : lv_has ls 4 [(0, va_rf (some x0)), (1, .int x1), (2, .int x2)]) : W p l e rmX9_points s m args below meth c H locs 0 0 (MQ below (gQ Γ (some (.int res.1)) res.2 N) args s 0 0 Γ.2.2.1) (F0 m 0 ls []) := by
  have hx := C.1
  have hb := C.2.1
  unfold fX9_points at h
  refine lv_iload_n hx hb dX9_points_0 rfl (lv_at hl 1 rfl) ?_
  refine lv_iconst (v := 0) hx hb dX9_points_1 (by decide) ?_
  refine lv_iconst (v := 4) hx hb dX9_points_2 (by decide) ?_
  obtain ⟨r3, u3, e3, h⟩ := obI h
  refine gx_cS C hG hS [.int x1, .int (0 : Int32), .int (4 : Int32)] (tX9_within e3) qcX9_85 ⟨rfl, rfl, Nat.le_of_ble_eq_true rfl, Nat.le_of_ble_eq_true rfl⟩ ⟨Nat.zero_le _, Nat.zero_le _⟩ rfl hl.1 rfl (Nat.le_of_ble_eq_true rfl) (st1 := [.int r3]) rfl dX9_points_3 (fun H locs hG hS => ?_)
  refine lv_if_eq (tgt := 19) hx hb dX9_points_6 (by decide) (fun hc => ?_) (fun hc => ?_)
  · replace h := it_pos hc h
    refine gx_aload_n (r := (some x0)) hx hb dX9_points_19 rfl (lv_at hl 0 rfl) ?_
    refine lv_iconst (v := 1) hx hb dX9_points_20 (by decide) ?_
    obtain ⟨_, eo21, h⟩ := ob h
    obtain ⟨r21, u21, e21, h⟩ := obI h
    refine gx_cV C hG hS [.int (1 : Int32)] rfl eo21 (tX9_finding e21) qcX9_89 ⟨rfl, rfl, Nat.le_of_ble_eq_true rfl, Nat.le_of_ble_eq_true rfl⟩ ⟨Nat.zero_le _, Nat.zero_le _⟩ rfl hl.1 rfl (Nat.le_of_ble_eq_true rfl) (st1 := [.int r21]) rfl dX9_points_21 (fun H locs hG hS => ?_)
    cases Option.some.inj h
    exact gx_reti C hG hS dX9_points_24
  · replace h := it_neg hc h
    refine lv_iload_n hx hb dX9_points_9 rfl (lv_at hl 2 rfl) ?_
    refine lv_iconst (v := 0) hx hb dX9_points_10 (by decide) ?_
    refine lv_bipush (v := 20) hx hb dX9_points_11 (by decide) ?_
    obtain ⟨r13, u13, e13, h⟩ := obI h
    refine gx_cS C hG hS [.int x2, .int (0 : Int32), .int (20 : Int32)] (tX9_within e13) qcX9_85 ⟨rfl, rfl, Nat.le_of_ble_eq_true rfl, Nat.le_of_ble_eq_true rfl⟩ ⟨Nat.zero_le _, Nat.zero_le _⟩ rfl hl.1 rfl (Nat.le_of_ble_eq_true rfl) (st1 := [.int r13]) rfl dX9_points_13 (fun H locs hG hS => ?_)
    refine lv_if_ne (tgt := 25) hx hb dX9_points_16 (by decide) (fun hc => ?_) (fun hc => ?_)
    · replace h := it_neg hc h
      refine gx_aload_n (r := (some x0)) hx hb dX9_points_25 rfl (lv_at hl 0 rfl) ?_
      obtain ⟨v26, e26, h⟩ := ob h
      refine gx_getR C hG rfl e26 fgX9_22 dX9_points_26 ?_
      refine lv_iload_n hx hb dX9_points_29 rfl (lv_at hl 1 rfl) ?_
      obtain ⟨a30, na30, h⟩ := ob h
      obtain ⟨v30, e30, h⟩ := ob h
      refine gx_iald C hG na30 e30 dX9_points_30 ?_
      refine lv_istore_n (i := 3) (lv' := [(3, .int v30), (0, va_rf (some x0)), (1, .int x1), (2, .int x2)]) hx hb dX9_points_31 rfl hl (by decide) rfl (fun ls hl => ?_)
      refine gx_aload_n (r := (some x0)) hx hb dX9_points_32 rfl (lv_at hl 1 rfl) ?_
      obtain ⟨v33, e33, h⟩ := ob h
      refine gx_getR C hG rfl e33 fgX9_22 dX9_points_33 ?_
      refine lv_iload_n hx hb dX9_points_36 rfl (lv_at hl 2 rfl) ?_
      refine lv_iload_n hx hb dX9_points_37 rfl (lv_at hl 3 rfl) ?_
      obtain ⟨a38, na38, h⟩ := ob h
      obtain ⟨u38, e38, h⟩ := ob h
      refine gx_iast C hG hS na38 e38 dX9_points_38 (fun H locs hG hS => ?_)
      refine lv_iload_n hx hb dX9_points_39 rfl (lv_at hl 0 rfl) ?_
      cases Option.some.inj h
      exact gx_reti C hG hS dX9_points_40
    · replace h := it_pos hc h
      refine gx_aload_n (r := (some x0)) hx hb dX9_points_19 rfl (lv_at hl 0 rfl) ?_
      refine lv_iconst (v := 1) hx hb dX9_points_20 (by decide) ?_
      obtain ⟨_, eo21, h⟩ := ob h
      obtain ⟨r21, u21, e21, h⟩ := obI h
      refine gx_cV C hG hS [.int (1 : Int32)] rfl eo21 (tX9_finding e21) qcX9_89 ⟨rfl, rfl, Nat.le_of_ble_eq_true rfl, Nat.le_of_ble_eq_true rfl⟩ ⟨Nat.zero_le _, Nat.zero_le _⟩ rfl hl.1 rfl (Nat.le_of_ble_eq_true rfl) (st1 := [.int r21]) rfl dX9_points_21 (fun H locs hG hS => ?_)
      cases Option.some.inj h
      exact gx_reti C hG hS dX9_points_24
theorem tX9_points {Γ : gEnv} {N : Nat} {x0 : Nat} {x1 : Int32} {x2 : Int32} {u v : gM} {r : Int32} (h : fX9_points x0 x1 x2 u = some (r, v)) : Met l yX9_points (Cond.code yX9_points cX9_points 4 (some .int) :: gW) rmX9_points (va_Pc [va_rf (some x0), .int x1, .int x2] (gPre Γ u N)) (gQ Γ (some (.int r)) v N) 0 0 Γ.2.2.1 :=
  gx_met (nm := "points") ⟨by decide +kernel, rfl, rfl⟩ (Nat.le_of_ble_eq_true rfl) (fun p e s m below meth c ls C hG hl => wX9_points C h hG va_S.rf hl)
abbrev rmX9_likenessOf : Room := { frames := 1, cells := 0, slots := 0, locals := 22 }
def fX9_likenessOf_114 (x0 : Nat) (x1 : Option Nat) (x2 : Option Nat) (x3 : Int32) (x4 : Int32) (u : gM) (k55 : Nat → Option Nat → Option Nat → Int32 → Int32 → gM → Option (Int32 × gM)) : Option (Int32 × gM) :=
  k55 x0 x1 x2 x3 (x4 + (1 : Int32)) u
set_option maxHeartbeats 4000000 in
set_option maxRecDepth 20000 in
theorem wX9_likenessOf_114  (C : gC p s m args meth c cX9_likenessOf 5 (some .int) RX9 "likenessOf" Γ){x0 : Nat} {x1 : Option Nat} {x2 : Option Nat} {x3 : Int32} {x4 : Int32} {u : gM} {res : Int32 × gM} {k55 : Nat → Option Nat → Option Nat → Int32 → Int32 → gM → Option (Int32 × gM)} (hk55 : ∀ (x0 : Nat) (x1 : Option Nat) (x2 : Option Nat) (x3 : Int32) (x4 : Int32) (u : gM) (H : Heap) (locs : List Loc) (ls : Array Slot), k55 x0 x1 x2 x3 x4 u = some res → gAg Γ u N H → va_S Γ.2.2.1 s.heap H locs → lv_has ls 5 [(0, va_rf (some x0)), (1, va_rf x1), (2, va_rf x2), (3, .int x3), (4, .int x4)] → W p l e rmX9_likenessOf s m args below meth c H locs 0 0 (MQ below (gQ Γ (some (.int res.1)) res.2 N) args s 0 0 Γ.2.2.1) (F0 m 55 ls [])) (h : fX9_likenessOf_114 x0 x1 x2 x3 x4 u k55 = some res) {H : Heap} {locs : List Loc} (hG : gAg Γ u N H) (hS : va_S Γ.2.2.1 s.heap H locs) {ls : Array Slot} (hl : lv_has ls 5 [(0, va_rf (some x0)), (1, va_rf x1), (2, va_rf x2), (3, .int x3), (4, .int x4)]) : W p l e rmX9_likenessOf s m args below meth c H locs 0 0 (MQ below (gQ Γ (some (.int res.1)) res.2 N) args s 0 0 Γ.2.2.1) (F0 m 114 ls []) := by
  have hx := C.1
  have hb := C.2.1
  unfold fX9_likenessOf_114 at h
  refine lv_iinc (v := x4 + (1 : Int32)) (lv' := [(4, .int (x4 + (1 : Int32))), (0, va_rf (some x0)), (1, va_rf x1), (2, va_rf x2), (3, .int x3)]) hx hb dX9_likenessOf_114 hl (k := 4) rfl rfl (by decide) rfl (fun ls hl => ?_)
  refine lv_goto (tgt := 55) hx hb dX9_likenessOf_117 (by decide) ?_
  exact hk55 _ _ _ _ _ _ _ _ _ h hG hS (lv_sub hl [1, 2, 3, 4, 0] rfl)
def fX9_likenessOf_55_b (x0 : Nat) (x1 : Option Nat) (x2 : Option Nat) (x3 : Int32) (x4 : Int32) (u : gM) (k55 : Nat → Option Nat → Option Nat → Int32 → Int32 → gM → Option (Int32 × gM)) : Option (Int32 × gM) :=
  if (5 : Int32) ≤ x4 then (
    pU (if x3 < (0 : Int32) then (0 : Int32) else x3) fun y122 =>
    some (y122, u)
  ) else (
    (x1).bind fun a62 =>
    (gR [8] 1 u a62).bind fun v62 =>
    (v62).bind fun a67 =>
    (aI u a67 x4).bind fun v67 =>
    (x2).bind fun a69 =>
    (gR [9, 6] 5 u a69).bind fun v69 =>
    (v69).bind fun a74 =>
    (aI u a74 x4).bind fun v74 =>
    if v67 = v74 then (
      (gR [10] 3 u x0).bind fun v80 =>
      (v80).bind fun a85 =>
      (aI u a85 x4).bind fun v85 =>
      fX9_likenessOf_114 x0 x1 x2 (x3 + v85) x4 u k55
    ) else (
      (x1).bind fun a92 =>
      (gR [8] 1 u a92).bind fun v92 =>
      (v92).bind fun a97 =>
      (aI u a97 x4).bind fun v97 =>
      if v97 = (-1 : Int32) then (
        fX9_likenessOf_114 x0 x1 x2 x3 x4 u k55
      ) else (
        (gR [10] 3 u x0).bind fun v104 =>
        (v104).bind fun a109 =>
        (aI u a109 x4).bind fun v109 =>
        pU (x3 - (v109 / (2 : Int32))) fun z113 =>
        fX9_likenessOf_114 x0 x1 x2 z113 x4 u k55
      )
    )
  )
set_option maxHeartbeats 4000000 in
set_option maxRecDepth 20000 in
theorem wX9_likenessOf_55_b  (C : gC p s m args meth c cX9_likenessOf 5 (some .int) RX9 "likenessOf" Γ){x0 : Nat} {x1 : Option Nat} {x2 : Option Nat} {x3 : Int32} {x4 : Int32} {u : gM} {res : Int32 × gM} {k55 : Nat → Option Nat → Option Nat → Int32 → Int32 → gM → Option (Int32 × gM)} (hk55 : ∀ (x0 : Nat) (x1 : Option Nat) (x2 : Option Nat) (x3 : Int32) (x4 : Int32) (u : gM) (H : Heap) (locs : List Loc) (ls : Array Slot), k55 x0 x1 x2 x3 x4 u = some res → gAg Γ u N H → va_S Γ.2.2.1 s.heap H locs → lv_has ls 5 [(0, va_rf (some x0)), (1, va_rf x1), (2, va_rf x2), (3, .int x3), (4, .int x4)] → W p l e rmX9_likenessOf s m args below meth c H locs 0 0 (MQ below (gQ Γ (some (.int res.1)) res.2 N) args s 0 0 Γ.2.2.1) (F0 m 55 ls [])) (h : fX9_likenessOf_55_b x0 x1 x2 x3 x4 u k55 = some res) {H : Heap} {locs : List Loc} (hG : gAg Γ u N H) (hS : va_S Γ.2.2.1 s.heap H locs) {ls : Array Slot} (hl : lv_has ls 5 [(0, va_rf (some x0)), (1, va_rf x1), (2, va_rf x2), (3, .int x3), (4, .int x4)]) : W p l e rmX9_likenessOf s m args below meth c H locs 0 0 (MQ below (gQ Γ (some (.int res.1)) res.2 N) args s 0 0 Γ.2.2.1) (F0 m 55 ls []) := by
  have hx := C.1
  have hb := C.2.1
  unfold fX9_likenessOf_55_b at h
  refine lv_iload hx hb dX9_likenessOf_55 (lv_at hl 4 rfl) ?_
  refine lv_iconst (v := 5) hx hb dX9_likenessOf_57 (by decide) ?_
  refine lv_icmp_ge (tgt := 120) hx hb dX9_likenessOf_58 (by decide) (fun hc => ?_) (fun hc => ?_)
  · replace h := it_pos hc h
    refine lv_iload_n hx hb dX9_likenessOf_120 rfl (lv_at hl 3 rfl) ?_
    refine lv_iconst (v := 0) hx hb dX9_likenessOf_121 (by decide) ?_
    refine gx_mmax C qcX9_317 hl.1 ⟨Nat.le_of_ble_eq_true rfl, (Nat.le_of_ble_eq_true rfl)⟩ ⟨Nat.zero_le _, Nat.zero_le _⟩ dX9_likenessOf_122 ?_
    obtain ⟨y122, ey122, h⟩ := op h
    refine gx_topI ey122 ?_
    cases Option.some.inj h
    exact gx_reti C hG hS dX9_likenessOf_125
  · replace h := it_neg hc h
    refine gx_aload_n (r := x1) hx hb dX9_likenessOf_61 rfl (lv_at hl 1 rfl) ?_
    obtain ⟨a62, na62, h⟩ := ob h
    obtain ⟨v62, e62, h⟩ := ob h
    refine gx_getR C hG na62 e62 fgX9_164 dX9_likenessOf_62 ?_
    refine lv_iload hx hb dX9_likenessOf_65 (lv_at hl 4 rfl) ?_
    obtain ⟨a67, na67, h⟩ := ob h
    obtain ⟨v67, e67, h⟩ := ob h
    refine gx_iald C hG na67 e67 dX9_likenessOf_67 ?_
    refine gx_aload_n (r := x2) hx hb dX9_likenessOf_68 rfl (lv_at hl 2 rfl) ?_
    obtain ⟨a69, na69, h⟩ := ob h
    obtain ⟨v69, e69, h⟩ := ob h
    refine gx_getR C hG na69 e69 fgX9_129 dX9_likenessOf_69 ?_
    refine lv_iload hx hb dX9_likenessOf_72 (lv_at hl 4 rfl) ?_
    obtain ⟨a74, na74, h⟩ := ob h
    obtain ⟨v74, e74, h⟩ := ob h
    refine gx_iald C hG na74 e74 dX9_likenessOf_74 ?_
    refine lv_icmp_ne (tgt := 91) hx hb dX9_likenessOf_75 (by decide) (fun hc => ?_) (fun hc => ?_)
    · replace h := it_neg hc h
      refine gx_aload_n (r := x1) hx hb dX9_likenessOf_91 rfl (lv_at hl 1 rfl) ?_
      obtain ⟨a92, na92, h⟩ := ob h
      obtain ⟨v92, e92, h⟩ := ob h
      refine gx_getR C hG na92 e92 fgX9_164 dX9_likenessOf_92 ?_
      refine lv_iload hx hb dX9_likenessOf_95 (lv_at hl 4 rfl) ?_
      obtain ⟨a97, na97, h⟩ := ob h
      obtain ⟨v97, e97, h⟩ := ob h
      refine gx_iald C hG na97 e97 dX9_likenessOf_97 ?_
      refine lv_iconst (v := -1) hx hb dX9_likenessOf_98 (by decide) ?_
      refine lv_icmp_eq (tgt := 114) hx hb dX9_likenessOf_99 (by decide) (fun hc => ?_) (fun hc => ?_)
      · replace h := it_pos hc h
        exact wX9_likenessOf_114 C hk55 h hG hS (lv_sub hl [0, 1, 2, 3, 4] rfl)
      · replace h := it_neg hc h
        refine lv_iload_n hx hb dX9_likenessOf_102 rfl (lv_at hl 3 rfl) ?_
        refine gx_aload_n (r := (some x0)) hx hb dX9_likenessOf_103 rfl (lv_at hl 0 rfl) ?_
        obtain ⟨v104, e104, h⟩ := ob h
        refine gx_getR C hG rfl e104 fgX9_22 dX9_likenessOf_104 ?_
        refine lv_iload hx hb dX9_likenessOf_107 (lv_at hl 4 rfl) ?_
        obtain ⟨a109, na109, h⟩ := ob h
        obtain ⟨v109, e109, h⟩ := ob h
        refine gx_iald C hG na109 e109 dX9_likenessOf_109 ?_
        refine lv_iconst (v := 2) hx hb dX9_likenessOf_110 (by decide) ?_
        refine lv_idiv hx hb dX9_likenessOf_111 (by decide) ?_
        refine lv_isub hx hb dX9_likenessOf_112 ?_
        obtain ⟨z113, ez113, h⟩ := op h
        refine gx_topI ez113 ?_
        refine lv_istore_n (i := 3) (lv' := [(3, .int z113), (0, va_rf (some x0)), (1, va_rf x1), (2, va_rf x2), (4, .int x4)]) hx hb dX9_likenessOf_113 rfl hl (by decide) (by simp [gx_cat, gx_catI, gx_catJ]) (fun ls hl => ?_)
        exact wX9_likenessOf_114 C hk55 h hG hS (lv_sub hl [1, 2, 3, 0, 4] rfl)
    · replace h := it_pos hc h
      refine lv_iload_n hx hb dX9_likenessOf_78 rfl (lv_at hl 3 rfl) ?_
      refine gx_aload_n (r := (some x0)) hx hb dX9_likenessOf_79 rfl (lv_at hl 0 rfl) ?_
      obtain ⟨v80, e80, h⟩ := ob h
      refine gx_getR C hG rfl e80 fgX9_22 dX9_likenessOf_80 ?_
      refine lv_iload hx hb dX9_likenessOf_83 (lv_at hl 4 rfl) ?_
      obtain ⟨a85, na85, h⟩ := ob h
      obtain ⟨v85, e85, h⟩ := ob h
      refine gx_iald C hG na85 e85 dX9_likenessOf_85 ?_
      refine lv_iadd hx hb dX9_likenessOf_86 ?_
      refine lv_istore_n (i := 3) (lv' := [(3, .int (x3 + v85)), (0, va_rf (some x0)), (1, va_rf x1), (2, va_rf x2), (4, .int x4)]) hx hb dX9_likenessOf_87 rfl hl (by decide) (by simp [gx_cat, gx_catI, gx_catJ]) (fun ls hl => ?_)
      refine lv_goto (tgt := 114) hx hb dX9_likenessOf_88 (by decide) ?_
      exact wX9_likenessOf_114 C hk55 h hG hS (lv_sub hl [1, 2, 3, 0, 4] rfl)
def fX9_likenessOf_55 : Nat → Nat → Option Nat → Option Nat → Int32 → Int32 → gM → Option (Int32 × gM)
  | 0 => fun _ _ _ _ _ _ => none
  | n + 1 => fun x0 x1 x2 x3 x4 u => fX9_likenessOf_55_b x0 x1 x2 x3 x4 u (fX9_likenessOf_55 n) 
theorem wX9_likenessOf_55 (C : gC p s m args meth c cX9_likenessOf 5 (some .int) RX9 "likenessOf" Γ) {res : Int32 × gM} (n : Nat) : ∀ {x0 : Nat} {x1 : Option Nat} {x2 : Option Nat} {x3 : Int32} {x4 : Int32} {u : gM} {H : Heap} {locs : List Loc} {ls : Array Slot}, fX9_likenessOf_55 n x0 x1 x2 x3 x4 u = some res → gAg Γ u N H → va_S Γ.2.2.1 s.heap H locs → lv_has ls 5 [(0, va_rf (some x0)), (1, va_rf x1), (2, va_rf x2), (3, .int x3), (4, .int x4)] → W p l e rmX9_likenessOf s m args below meth c H locs 0 0 (MQ below (gQ Γ (some (.int res.1)) res.2 N) args s 0 0 Γ.2.2.1) (F0 m 55 ls []) := by
  induction n with
  | zero => intro _ _ _ _ _ _ _ _ _ h _ _ _; cases (show (none : Option (Int32 × gM)) = some res from h)
  | succ n ih => intro _ _ _ _ _ _ _ _ _ h hG hS hl; exact wX9_likenessOf_55_b C (fun _ _ _ _ _ _ _ _ _ h hG hS hl => ih h hG hS hl) h hG hS hl
def fX9_likenessOf_51 (x0 : Nat) (x1 : Option Nat) (x2 : Option Nat) (s0 : Int32) (u : gM) : Option (Int32 × gM) :=
  fX9_likenessOf_55  FU x0 x1 x2 s0 (0 : Int32) u
set_option maxHeartbeats 4000000 in
set_option maxRecDepth 20000 in
theorem wX9_likenessOf_51  (C : gC p s m args meth c cX9_likenessOf 5 (some .int) RX9 "likenessOf" Γ){x0 : Nat} {x1 : Option Nat} {x2 : Option Nat} {s0 : Int32} {u : gM} {res : Int32 × gM} (h : fX9_likenessOf_51 x0 x1 x2 s0 u = some res) {H : Heap} {locs : List Loc} (hG : gAg Γ u N H) (hS : va_S Γ.2.2.1 s.heap H locs) {ls : Array Slot} (hl : lv_has ls 5 [(0, va_rf (some x0)), (1, va_rf x1), (2, va_rf x2)]) : W p l e rmX9_likenessOf s m args below meth c H locs 0 0 (MQ below (gQ Γ (some (.int res.1)) res.2 N) args s 0 0 Γ.2.2.1) (F0 m 51 ls [.int s0]) := by
  have hx := C.1
  have hb := C.2.1
  unfold fX9_likenessOf_51 at h
  refine lv_istore_n (i := 3) (lv' := [(3, .int s0), (0, va_rf (some x0)), (1, va_rf x1), (2, va_rf x2)]) hx hb dX9_likenessOf_51 rfl hl (by decide) (by simp [gx_cat, gx_catI, gx_catJ]) (fun ls hl => ?_)
  refine lv_iconst (v := 0) hx hb dX9_likenessOf_52 (by decide) ?_
  refine lv_istore (i := 4) (lv' := [(4, .int (0 : Int32)), (3, .int s0), (0, va_rf (some x0)), (1, va_rf x1), (2, va_rf x2)]) hx hb dX9_likenessOf_53 hl (by decide) rfl (fun ls hl => ?_)
  exact wX9_likenessOf_55 C  FU h hG hS (lv_sub hl [2, 3, 4, 1, 0] rfl)
def fX9_likenessOf (x0 : Nat) (x1 : Option Nat) (x2 : Option Nat) (u : gM) : Option (Int32 × gM) :=
  (x2).bind fun a1 =>
  (gI [9, 6] 6 u a1).bind fun v1 =>
  if v1 = 0 then (
    (x1).bind fun a8 =>
    (gO [8] u a8).bind fun _ =>
    bI (fX7_isBarred a8 u) fun r8 u8 =>
    if r8 = 0 then (
      (x2).bind fun a15 =>
      (gI [9, 6] 1 u8 a15).bind fun v15 =>
      (x1).bind fun a19 =>
      (gI [8] 0 u8 a19).bind fun v19 =>
      if v19 ≤ v15 then (
        (x2).bind fun a28 =>
        (gI [9, 6] 2 u8 a28).bind fun v28 =>
        (x1).bind fun a32 =>
        (gI [8] 2 u8 a32).bind fun v32 =>
        (x1).bind fun a36 =>
        (gI [8] 3 u8 a36).bind fun v36 =>
        bI (fX9_within v28 v32 v36 u8) fun r39 u39 =>
        if r39 = 0 then (
          fX9_likenessOf_51 x0 x1 x2 (-3 : Int32) u39 
        ) else (
          fX9_likenessOf_51 x0 x1 x2 (3 : Int32) u39 
        )
      ) else (
        some ((0 : Int32), u8)
      )
    ) else (
      some ((0 : Int32), u8)
    )
  ) else (
    some ((0 : Int32), u)
  )
set_option maxHeartbeats 4000000 in
set_option maxRecDepth 20000 in
theorem wX9_likenessOf  (C : gC p s m args meth c cX9_likenessOf 5 (some .int) RX9 "likenessOf" Γ){x0 : Nat} {x1 : Option Nat} {x2 : Option Nat} {u : gM} {res : Int32 × gM} (h : fX9_likenessOf x0 x1 x2 u = some res) {H : Heap} {locs : List Loc} (hG : gAg Γ u N H) (hS : va_S Γ.2.2.1 s.heap H locs) {ls : Array Slot} (hl : lv_has ls 5 [(0, va_rf (some x0)), (1, va_rf x1), (2, va_rf x2)]) : W p l e rmX9_likenessOf s m args below meth c H locs 0 0 (MQ below (gQ Γ (some (.int res.1)) res.2 N) args s 0 0 Γ.2.2.1) (F0 m 0 ls []) := by
  have hx := C.1
  have hb := C.2.1
  unfold fX9_likenessOf at h
  refine gx_aload_n (r := x2) hx hb dX9_likenessOf_0 rfl (lv_at hl 2 rfl) ?_
  obtain ⟨a1, na1, h⟩ := ob h
  obtain ⟨v1, e1, h⟩ := ob h
  refine gx_getI C hG na1 e1 fgX9_138 dX9_likenessOf_1 ?_
  refine lv_if_ne (tgt := 25) hx hb dX9_likenessOf_4 (by decide) (fun hc => ?_) (fun hc => ?_)
  · replace h := it_neg hc h
    refine lv_iconst (v := 0) hx hb dX9_likenessOf_25 (by decide) ?_
    cases Option.some.inj h
    exact gx_reti C hG hS dX9_likenessOf_26
  · replace h := it_pos hc h
    refine gx_aload_n (r := x1) hx hb dX9_likenessOf_7 rfl (lv_at hl 1 rfl) ?_
    obtain ⟨a8, na8, h⟩ := ob h
    obtain ⟨_, eo8, h⟩ := ob h
    obtain ⟨r8, u8, e8, h⟩ := obI h
    refine gx_cV C hG hS [] na8 eo8 (tX7_isBarred e8) qcX9_195 ⟨rfl, rfl, Nat.le_of_ble_eq_true rfl, Nat.le_of_ble_eq_true rfl⟩ ⟨Nat.zero_le _, Nat.zero_le _⟩ rfl hl.1 rfl (Nat.le_of_ble_eq_true rfl) (st1 := [.int r8]) rfl dX9_likenessOf_8 (fun H locs hG hS => ?_)
    refine lv_if_ne (tgt := 25) hx hb dX9_likenessOf_11 (by decide) (fun hc => ?_) (fun hc => ?_)
    · replace h := it_neg hc h
      refine lv_iconst (v := 0) hx hb dX9_likenessOf_25 (by decide) ?_
      cases Option.some.inj h
      exact gx_reti C hG hS dX9_likenessOf_26
    · replace h := it_pos hc h
      refine gx_aload_n (r := x2) hx hb dX9_likenessOf_14 rfl (lv_at hl 2 rfl) ?_
      obtain ⟨a15, na15, h⟩ := ob h
      obtain ⟨v15, e15, h⟩ := ob h
      refine gx_getI C hG na15 e15 fgX9_132 dX9_likenessOf_15 ?_
      refine gx_aload_n (r := x1) hx hb dX9_likenessOf_18 rfl (lv_at hl 1 rfl) ?_
      obtain ⟨a19, na19, h⟩ := ob h
      obtain ⟨v19, e19, h⟩ := ob h
      refine gx_getI C hG na19 e19 fgX9_189 dX9_likenessOf_19 ?_
      refine lv_icmp_ge (tgt := 27) hx hb dX9_likenessOf_22 (by decide) (fun hc => ?_) (fun hc => ?_)
      · replace h := it_pos hc h
        refine gx_aload_n (r := x2) hx hb dX9_likenessOf_27 rfl (lv_at hl 2 rfl) ?_
        obtain ⟨a28, na28, h⟩ := ob h
        obtain ⟨v28, e28, h⟩ := ob h
        refine gx_getI C hG na28 e28 fgX9_126 dX9_likenessOf_28 ?_
        refine gx_aload_n (r := x1) hx hb dX9_likenessOf_31 rfl (lv_at hl 1 rfl) ?_
        obtain ⟨a32, na32, h⟩ := ob h
        obtain ⟨v32, e32, h⟩ := ob h
        refine gx_getI C hG na32 e32 fgX9_167 dX9_likenessOf_32 ?_
        refine gx_aload_n (r := x1) hx hb dX9_likenessOf_35 rfl (lv_at hl 1 rfl) ?_
        obtain ⟨a36, na36, h⟩ := ob h
        obtain ⟨v36, e36, h⟩ := ob h
        refine gx_getI C hG na36 e36 fgX9_170 dX9_likenessOf_36 ?_
        obtain ⟨r39, u39, e39, h⟩ := obI h
        refine gx_cS C hG hS [.int v28, .int v32, .int v36] (tX9_within e39) qcX9_85 ⟨rfl, rfl, Nat.le_of_ble_eq_true rfl, Nat.le_of_ble_eq_true rfl⟩ ⟨Nat.zero_le _, Nat.zero_le _⟩ rfl hl.1 rfl (Nat.le_of_ble_eq_true rfl) (st1 := [.int r39]) rfl dX9_likenessOf_39 (fun H locs hG hS => ?_)
        refine lv_if_eq (tgt := 49) hx hb dX9_likenessOf_42 (by decide) (fun hc => ?_) (fun hc => ?_)
        · replace h := it_pos hc h
          refine lv_bipush (v := -3) hx hb dX9_likenessOf_49 (by decide) ?_
          exact wX9_likenessOf_51 C  h hG hS (lv_sub hl [0, 1, 2] rfl)
        · replace h := it_neg hc h
          refine lv_iconst (v := 3) hx hb dX9_likenessOf_45 (by decide) ?_
          refine lv_goto (tgt := 51) hx hb dX9_likenessOf_46 (by decide) ?_
          exact wX9_likenessOf_51 C  h hG hS (lv_sub hl [0, 1, 2] rfl)
      · replace h := it_neg hc h
        refine lv_iconst (v := 0) hx hb dX9_likenessOf_25 (by decide) ?_
        cases Option.some.inj h
        exact gx_reti C hG hS dX9_likenessOf_26
theorem tX9_likenessOf {Γ : gEnv} {N : Nat} {x0 : Nat} {x1 : Option Nat} {x2 : Option Nat} {u v : gM} {r : Int32} (h : fX9_likenessOf x0 x1 x2 u = some (r, v)) : Met l yX9_likenessOf (Cond.code yX9_likenessOf cX9_likenessOf 5 (some .int) :: gW) rmX9_likenessOf (va_Pc [va_rf (some x0), va_rf x1, va_rf x2] (gPre Γ u N)) (gQ Γ (some (.int r)) v N) 0 0 Γ.2.2.1 :=
  gx_met (nm := "likenessOf") ⟨by decide +kernel, rfl, rfl⟩ (by simp [lg_sl, gx_cat, gx_catI, gx_catJ]) (fun p e s m below meth c ls C hG hl => wX9_likenessOf C h hG va_S.rf (by simpa [lv_args, gx_cat, gx_catI, gx_catJ] using hl))
abbrev rmX9_likeness : Room := { frames := 4, cells := 0, slots := 0, locals := 85 }
def fX9_likeness (x0 : Nat) (x1 : Int32) (x2 : Int32) (u : gM) : Option (Int32 × gM) :=
  (gO [10] u x0).bind fun _ =>
  bI (fX9_seekerOf x0 x1 u) fun r2 u2 =>
  (gO [10] u2 x0).bind fun _ =>
  bI (fX9_thingOf x0 x2 u2) fun r8 u8 =>
  if r2 = none then (
    (gO [10] u8 x0).bind fun _ =>
    bI (fX9_finding x0 (1 : Int32) u8) fun r24 u24 =>
    some (r24, u24)
  ) else (
    if r8 = none then (
      (gO [10] u8 x0).bind fun _ =>
      bI (fX9_finding x0 (1 : Int32) u8) fun r24 u24 =>
      some (r24, u24)
    ) else (
      (gO [10] u8 x0).bind fun _ =>
      bI (fX9_likenessOf x0 r2 r8 u8) fun r32 u32 =>
      some (r32, u32)
    )
  )
set_option maxHeartbeats 4000000 in
set_option maxRecDepth 20000 in
theorem wX9_likeness  (C : gC p s m args meth c cX9_likeness 5 (some .int) RX9 "likeness" Γ){x0 : Nat} {x1 : Int32} {x2 : Int32} {u : gM} {res : Int32 × gM} (h : fX9_likeness x0 x1 x2 u = some res) {H : Heap} {locs : List Loc} (hG : gAg Γ u N H) (hS : va_S Γ.2.2.1 s.heap H locs) {ls : Array Slot} (hl : lv_has ls 5 [(0, va_rf (some x0)), (1, .int x1), (2, .int x2)]) : W p l e rmX9_likeness s m args below meth c H locs 0 0 (MQ below (gQ Γ (some (.int res.1)) res.2 N) args s 0 0 Γ.2.2.1) (F0 m 0 ls []) := by
  have hx := C.1
  have hb := C.2.1
  unfold fX9_likeness at h
  refine gx_aload_n (r := (some x0)) hx hb dX9_likeness_0 rfl (lv_at hl 0 rfl) ?_
  refine lv_iload_n hx hb dX9_likeness_1 rfl (lv_at hl 1 rfl) ?_
  obtain ⟨_, eo2, h⟩ := ob h
  obtain ⟨r2, u2, e2, h⟩ := obI h
  refine gx_cV C hG hS [.int x1] rfl eo2 (tX9_seekerOf e2) qcX9_160 ⟨rfl, rfl, Nat.le_of_ble_eq_true rfl, Nat.le_of_ble_eq_true rfl⟩ ⟨Nat.zero_le _, Nat.zero_le _⟩ rfl hl.1 rfl (Nat.le_of_ble_eq_true rfl) (st1 := [va_rf r2]) rfl dX9_likeness_2 (fun H locs hG hS => ?_)
  refine gx_astore_n (r := r2) (i := 3) (lv' := [(3, va_rf r2), (0, va_rf (some x0)), (1, .int x1), (2, .int x2)]) hx hb dX9_likeness_5 rfl hl (by decide) rfl (fun ls hl => ?_)
  refine gx_aload_n (r := (some x0)) hx hb dX9_likeness_6 rfl (lv_at hl 1 rfl) ?_
  refine lv_iload_n hx hb dX9_likeness_7 rfl (lv_at hl 3 rfl) ?_
  obtain ⟨_, eo8, h⟩ := ob h
  obtain ⟨r8, u8, e8, h⟩ := obI h
  refine gx_cV C hG hS [.int x2] rfl eo8 (tX9_thingOf e8) qcX9_119 ⟨rfl, rfl, Nat.le_of_ble_eq_true rfl, Nat.le_of_ble_eq_true rfl⟩ ⟨Nat.zero_le _, Nat.zero_le _⟩ rfl hl.1 rfl (Nat.le_of_ble_eq_true rfl) (st1 := [va_rf r8]) rfl dX9_likeness_8 (fun H locs hG hS => ?_)
  refine gx_astore (r := r8) (i := 4) (lv' := [(4, va_rf r8), (3, va_rf r2), (0, va_rf (some x0)), (1, .int x1), (2, .int x2)]) hx hb dX9_likeness_11 hl (by decide) (by simp [gx_cat, gx_catI, gx_catJ]) (fun ls hl => ?_)
  refine gx_aload_n (r := r2) hx hb dX9_likeness_13 rfl (lv_at hl 1 rfl) ?_
  refine gx_ifnull (tgt := 22) hx hb dX9_likeness_14 (by decide) (fun hc => ?_) (fun hc => ?_)
  · replace h := it_pos hc h
    refine gx_aload_n (r := (some x0)) hx hb dX9_likeness_22 rfl (lv_at hl 2 rfl) ?_
    refine lv_iconst (v := 1) hx hb dX9_likeness_23 (by decide) ?_
    obtain ⟨_, eo24, h⟩ := ob h
    obtain ⟨r24, u24, e24, h⟩ := obI h
    refine gx_cV C hG hS [.int (1 : Int32)] rfl eo24 (tX9_finding e24) qcX9_89 ⟨rfl, rfl, Nat.le_of_ble_eq_true rfl, Nat.le_of_ble_eq_true rfl⟩ ⟨Nat.zero_le _, Nat.zero_le _⟩ rfl hl.1 rfl (Nat.le_of_ble_eq_true rfl) (st1 := [.int r24]) rfl dX9_likeness_24 (fun H locs hG hS => ?_)
    cases Option.some.inj h
    exact gx_reti C hG hS dX9_likeness_27
  · replace h := it_neg hc h
    refine gx_aload (r := r8) hx hb dX9_likeness_17 (lv_at hl 0 rfl) ?_
    refine gx_ifnonnull (tgt := 28) hx hb dX9_likeness_19 (by decide) (fun hc => ?_) (fun hc => ?_)
    · replace h := it_neg hc h
      refine gx_aload_n (r := (some x0)) hx hb dX9_likeness_28 rfl (lv_at hl 2 rfl) ?_
      refine gx_aload_n (r := r2) hx hb dX9_likeness_29 rfl (lv_at hl 1 rfl) ?_
      refine gx_aload (r := r8) hx hb dX9_likeness_30 (lv_at hl 0 rfl) ?_
      obtain ⟨_, eo32, h⟩ := ob h
      obtain ⟨r32, u32, e32, h⟩ := obI h
      refine gx_cV C hG hS [va_rf r2, va_rf r8] rfl eo32 (tX9_likenessOf e32) qcX9_173 ⟨rfl, rfl, Nat.le_of_ble_eq_true rfl, Nat.le_of_ble_eq_true rfl⟩ ⟨Nat.zero_le _, Nat.zero_le _⟩ rfl hl.1 rfl (Nat.le_of_ble_eq_true rfl) (st1 := [.int r32]) rfl dX9_likeness_32 (fun H locs hG hS => ?_)
      cases Option.some.inj h
      exact gx_reti C hG hS dX9_likeness_35
    · replace h := it_pos hc h
      refine gx_aload_n (r := (some x0)) hx hb dX9_likeness_22 rfl (lv_at hl 2 rfl) ?_
      refine lv_iconst (v := 1) hx hb dX9_likeness_23 (by decide) ?_
      obtain ⟨_, eo24, h⟩ := ob h
      obtain ⟨r24, u24, e24, h⟩ := obI h
      refine gx_cV C hG hS [.int (1 : Int32)] rfl eo24 (tX9_finding e24) qcX9_89 ⟨rfl, rfl, Nat.le_of_ble_eq_true rfl, Nat.le_of_ble_eq_true rfl⟩ ⟨Nat.zero_le _, Nat.zero_le _⟩ rfl hl.1 rfl (Nat.le_of_ble_eq_true rfl) (st1 := [.int r24]) rfl dX9_likeness_24 (fun H locs hG hS => ?_)
      cases Option.some.inj h
      exact gx_reti C hG hS dX9_likeness_27
theorem tX9_likeness {Γ : gEnv} {N : Nat} {x0 : Nat} {x1 : Int32} {x2 : Int32} {u v : gM} {r : Int32} (h : fX9_likeness x0 x1 x2 u = some (r, v)) : Met l yX9_likeness (Cond.code yX9_likeness cX9_likeness 5 (some .int) :: gW) rmX9_likeness (va_Pc [va_rf (some x0), .int x1, .int x2] (gPre Γ u N)) (gQ Γ (some (.int r)) v N) 0 0 Γ.2.2.1 :=
  gx_met (nm := "likeness") ⟨by decide +kernel, rfl, rfl⟩ (Nat.le_of_ble_eq_true rfl) (fun p e s m below meth c ls C hG hl => wX9_likeness C h hG va_S.rf hl)
abbrev rmX9_chance : Room := { frames := 4, cells := 0, slots := 0, locals := 85 }
def fX9_chance_34_b (x0 : Nat) (x3 : Option Nat) (x4 : Option Nat) (x5 : Int32) (x6 : Int32) (u : gM) (k34 : Nat → Option Nat → Option Nat → Int32 → Int32 → gM → Option (Int32 × gM)) (k82 : Nat → Option Nat → Option Nat → Int32 → gM → Option (Int32 × gM)) : Option (Int32 × gM) :=
  (gR [10] 1 u x0).bind fun v37 =>
  (v37).bind fun a40 =>
  (gO [0] u a40).bind fun _ =>
  bI (fJx4a65c_size_8abf5 a40 u) fun r40 u40 =>
  if r40 ≤ x6 then (
    k82 x0 x3 x4 x5 u40
  ) else (
    (gR [10] 1 u40 x0).bind fun v48 =>
    (v48).bind fun a53 =>
    (gO [0] u40 a53).bind fun _ =>
    bI (fJx4a65c_get_915e3 a53 x6 u40) fun r53 u53 =>
    (kC [8] u53 r53).bind fun _ =>
    (gO [10] u53 x0).bind fun _ =>
    bI (fX9_likenessOf x0 r53 x4 u53) fun r61 u61 =>
    k34 x0 x3 x4 (x5 + (r61 * r61)) (x6 + (1 : Int32)) u61
  )
set_option maxHeartbeats 4000000 in
set_option maxRecDepth 20000 in
theorem wX9_chance_34_b  (C : gC p s m args meth c cX9_chance 8 (some .int) RX9 "chance" Γ){x0 : Nat} {x3 : Option Nat} {x4 : Option Nat} {x5 : Int32} {x6 : Int32} {u : gM} {res : Int32 × gM} {k34 : Nat → Option Nat → Option Nat → Int32 → Int32 → gM → Option (Int32 × gM)} {k82 : Nat → Option Nat → Option Nat → Int32 → gM → Option (Int32 × gM)} (hk34 : ∀ (x0 : Nat) (x3 : Option Nat) (x4 : Option Nat) (x5 : Int32) (x6 : Int32) (u : gM) (H : Heap) (locs : List Loc) (ls : Array Slot), k34 x0 x3 x4 x5 x6 u = some res → gAg Γ u N H → va_S Γ.2.2.1 s.heap H locs → lv_has ls 8 [(0, va_rf (some x0)), (3, va_rf x3), (4, va_rf x4), (5, .int x5), (6, .int x6)] → W p l e rmX9_chance s m args below meth c H locs 0 0 (MQ below (gQ Γ (some (.int res.1)) res.2 N) args s 0 0 Γ.2.2.1) (F0 m 34 ls [])) (hk82 : ∀ (x0 : Nat) (x3 : Option Nat) (x4 : Option Nat) (x5 : Int32) (u : gM) (H : Heap) (locs : List Loc) (ls : Array Slot), k82 x0 x3 x4 x5 u = some res → gAg Γ u N H → va_S Γ.2.2.1 s.heap H locs → lv_has ls 8 [(0, va_rf (some x0)), (3, va_rf x3), (4, va_rf x4), (5, .int x5)] → W p l e rmX9_chance s m args below meth c H locs 0 0 (MQ below (gQ Γ (some (.int res.1)) res.2 N) args s 0 0 Γ.2.2.1) (F0 m 82 ls [])) (h : fX9_chance_34_b x0 x3 x4 x5 x6 u k34 k82 = some res) {H : Heap} {locs : List Loc} (hG : gAg Γ u N H) (hS : va_S Γ.2.2.1 s.heap H locs) {ls : Array Slot} (hl : lv_has ls 8 [(0, va_rf (some x0)), (3, va_rf x3), (4, va_rf x4), (5, .int x5), (6, .int x6)]) : W p l e rmX9_chance s m args below meth c H locs 0 0 (MQ below (gQ Γ (some (.int res.1)) res.2 N) args s 0 0 Γ.2.2.1) (F0 m 34 ls []) := by
  have hx := C.1
  have hb := C.2.1
  unfold fX9_chance_34_b at h
  refine lv_iload hx hb dX9_chance_34 (lv_at hl 4 rfl) ?_
  refine gx_aload_n (r := (some x0)) hx hb dX9_chance_36 rfl (lv_at hl 0 rfl) ?_
  obtain ⟨v37, e37, h⟩ := ob h
  refine gx_getR C hG rfl e37 fgX9_16 dX9_chance_37 ?_
  obtain ⟨a40, na40, h⟩ := ob h
  obtain ⟨_, eo40, h⟩ := ob h
  obtain ⟨r40, u40, e40, h⟩ := obI h
  refine gx_cV C hG hS [] na40 eo40 (tJx4a65c_size_8abf5 e40) qcX9_93 ⟨rfl, rfl, Nat.le_of_ble_eq_true rfl, Nat.le_of_ble_eq_true rfl⟩ ⟨Nat.zero_le _, Nat.zero_le _⟩ rfl hl.1 rfl (Nat.le_of_ble_eq_true rfl) (st1 := [.int r40, .int x6]) rfl dX9_chance_40 (fun H locs hG hS => ?_)
  refine lv_icmp_ge (tgt := 82) hx hb dX9_chance_43 (by decide) (fun hc => ?_) (fun hc => ?_)
  · replace h := it_pos hc h
    exact hk82 _ _ _ _ _ _ _ _ h hG hS (lv_sub hl [0, 1, 2, 3] rfl)
  · replace h := it_neg hc h
    refine gx_aload_n (r := (some x0)) hx hb dX9_chance_46 rfl (lv_at hl 0 rfl) ?_
    refine gx_aload_n (r := (some x0)) hx hb dX9_chance_47 rfl (lv_at hl 0 rfl) ?_
    obtain ⟨v48, e48, h⟩ := ob h
    refine gx_getR C hG rfl e48 fgX9_16 dX9_chance_48 ?_
    refine lv_iload hx hb dX9_chance_51 (lv_at hl 4 rfl) ?_
    obtain ⟨a53, na53, h⟩ := ob h
    obtain ⟨_, eo53, h⟩ := ob h
    obtain ⟨r53, u53, e53, h⟩ := obI h
    refine gx_cV C hG hS [.int x6] na53 eo53 (tJx4a65c_get_915e3 e53) qcX9_144 ⟨rfl, rfl, Nat.le_of_ble_eq_true rfl, Nat.le_of_ble_eq_true rfl⟩ ⟨Nat.zero_le _, Nat.zero_le _⟩ rfl hl.1 rfl (Nat.le_of_ble_eq_true rfl) (st1 := [va_rf r53, va_rf (some x0)]) rfl dX9_chance_53 (fun H locs hG hS => ?_)
    obtain ⟨_, e56, h⟩ := ob h
    refine gx_cast C hG e56 ckX9_155 dX9_chance_56 ?_
    refine gx_aload (r := x4) hx hb dX9_chance_59 (lv_at hl 2 rfl) ?_
    obtain ⟨_, eo61, h⟩ := ob h
    obtain ⟨r61, u61, e61, h⟩ := obI h
    refine gx_cV C hG hS [va_rf r53, va_rf x4] rfl eo61 (tX9_likenessOf e61) qcX9_173 ⟨rfl, rfl, Nat.le_of_ble_eq_true rfl, Nat.le_of_ble_eq_true rfl⟩ ⟨Nat.zero_le _, Nat.zero_le _⟩ rfl hl.1 rfl (Nat.le_of_ble_eq_true rfl) (st1 := [.int r61]) rfl dX9_chance_61 (fun H locs hG hS => ?_)
    refine lv_istore (i := 7) (lv' := [(7, .int r61), (0, va_rf (some x0)), (3, va_rf x3), (4, va_rf x4), (5, .int x5), (6, .int x6)]) hx hb dX9_chance_64 hl (by decide) rfl (fun ls hl => ?_)
    refine lv_iload hx hb dX9_chance_66 (lv_at hl 4 rfl) ?_
    refine lv_iload hx hb dX9_chance_68 (lv_at hl 0 rfl) ?_
    refine lv_iload hx hb dX9_chance_70 (lv_at hl 0 rfl) ?_
    refine lv_imul hx hb dX9_chance_72 ?_
    refine lv_iadd hx hb dX9_chance_73 ?_
    refine lv_istore (i := 5) (lv' := [(5, .int (x5 + (r61 * r61))), (7, .int r61), (0, va_rf (some x0)), (3, va_rf x3), (4, va_rf x4), (6, .int x6)]) hx hb dX9_chance_74 hl (by decide) (by simp [gx_cat, gx_catI, gx_catJ]) (fun ls hl => ?_)
    refine lv_iinc (v := x6 + (1 : Int32)) (lv' := [(6, .int (x6 + (1 : Int32))), (5, .int (x5 + (r61 * r61))), (7, .int r61), (0, va_rf (some x0)), (3, va_rf x3), (4, va_rf x4)]) hx hb dX9_chance_76 hl (k := 5) rfl rfl (by decide) rfl (fun ls hl => ?_)
    refine lv_goto (tgt := 34) hx hb dX9_chance_79 (by decide) ?_
    exact hk34 _ _ _ _ _ _ _ _ _ h hG hS (lv_sub hl [3, 4, 5, 1, 0] rfl)
def fX9_chance_34 (k82 : Nat → Option Nat → Option Nat → Int32 → gM → Option (Int32 × gM)) : Nat → Nat → Option Nat → Option Nat → Int32 → Int32 → gM → Option (Int32 × gM)
  | 0 => fun _ _ _ _ _ _ => none
  | n + 1 => fun x0 x3 x4 x5 x6 u => fX9_chance_34_b x0 x3 x4 x5 x6 u (fX9_chance_34 k82 n) k82 
theorem wX9_chance_34 (C : gC p s m args meth c cX9_chance 8 (some .int) RX9 "chance" Γ) {res : Int32 × gM} {k82 : Nat → Option Nat → Option Nat → Int32 → gM → Option (Int32 × gM)} (hk82 : ∀ (x0 : Nat) (x3 : Option Nat) (x4 : Option Nat) (x5 : Int32) (u : gM) (H : Heap) (locs : List Loc) (ls : Array Slot), k82 x0 x3 x4 x5 u = some res → gAg Γ u N H → va_S Γ.2.2.1 s.heap H locs → lv_has ls 8 [(0, va_rf (some x0)), (3, va_rf x3), (4, va_rf x4), (5, .int x5)] → W p l e rmX9_chance s m args below meth c H locs 0 0 (MQ below (gQ Γ (some (.int res.1)) res.2 N) args s 0 0 Γ.2.2.1) (F0 m 82 ls [])) (n : Nat) : ∀ {x0 : Nat} {x3 : Option Nat} {x4 : Option Nat} {x5 : Int32} {x6 : Int32} {u : gM} {H : Heap} {locs : List Loc} {ls : Array Slot}, fX9_chance_34 k82 n x0 x3 x4 x5 x6 u = some res → gAg Γ u N H → va_S Γ.2.2.1 s.heap H locs → lv_has ls 8 [(0, va_rf (some x0)), (3, va_rf x3), (4, va_rf x4), (5, .int x5), (6, .int x6)] → W p l e rmX9_chance s m args below meth c H locs 0 0 (MQ below (gQ Γ (some (.int res.1)) res.2 N) args s 0 0 Γ.2.2.1) (F0 m 34 ls []) := by
  induction n with
  | zero => intro _ _ _ _ _ _ _ _ _ h _ _ _; cases (show (none : Option (Int32 × gM)) = some res from h)
  | succ n ih => intro _ _ _ _ _ _ _ _ _ h hG hS hl; exact wX9_chance_34_b C (fun _ _ _ _ _ _ _ _ _ h hG hS hl => ih h hG hS hl) hk82 h hG hS hl
def fX9_chance (x0 : Nat) (x1 : Int32) (x2 : Int32) (u : gM) : Option (Int32 × gM) :=
  (gO [10] u x0).bind fun _ =>
  bI (fX9_seekerOf x0 x1 u) fun r2 u2 =>
  (gO [10] u2 x0).bind fun _ =>
  bI (fX9_thingOf x0 x2 u2) fun r8 u8 =>
  if r2 = none then (
    (gO [10] u8 x0).bind fun _ =>
    bI (fX9_finding x0 (1 : Int32) u8) fun r24 u24 =>
    some (r24, u24)
  ) else (
    if r8 = none then (
      (gO [10] u8 x0).bind fun _ =>
      bI (fX9_finding x0 (1 : Int32) u8) fun r24 u24 =>
      some (r24, u24)
    ) else (
      fX9_chance_34 (fun x0 x3 x4 x5 u =>
            (gO [10] u x0).bind fun _ =>
            bI (fX9_likenessOf x0 x3 x4 u) fun r86 u86 =>
            if x5 = 0 then (
              some ((0 : Int32), u86)
            ) else (
              if x5 = 0 then none else
              some ((((1000 : Int32) * r86) * r86) / x5, u86)
            )) FU x0 r2 r8 (0 : Int32) (0 : Int32) u8
    )
  )
set_option maxHeartbeats 4000000 in
set_option maxRecDepth 20000 in
theorem wX9_chance  (C : gC p s m args meth c cX9_chance 8 (some .int) RX9 "chance" Γ){x0 : Nat} {x1 : Int32} {x2 : Int32} {u : gM} {res : Int32 × gM} (h : fX9_chance x0 x1 x2 u = some res) {H : Heap} {locs : List Loc} (hG : gAg Γ u N H) (hS : va_S Γ.2.2.1 s.heap H locs) {ls : Array Slot} (hl : lv_has ls 8 [(0, va_rf (some x0)), (1, .int x1), (2, .int x2)]) : W p l e rmX9_chance s m args below meth c H locs 0 0 (MQ below (gQ Γ (some (.int res.1)) res.2 N) args s 0 0 Γ.2.2.1) (F0 m 0 ls []) := by
  have hx := C.1
  have hb := C.2.1
  unfold fX9_chance at h
  refine gx_aload_n (r := (some x0)) hx hb dX9_chance_0 rfl (lv_at hl 0 rfl) ?_
  refine lv_iload_n hx hb dX9_chance_1 rfl (lv_at hl 1 rfl) ?_
  obtain ⟨_, eo2, h⟩ := ob h
  obtain ⟨r2, u2, e2, h⟩ := obI h
  refine gx_cV C hG hS [.int x1] rfl eo2 (tX9_seekerOf e2) qcX9_160 ⟨rfl, rfl, Nat.le_of_ble_eq_true rfl, Nat.le_of_ble_eq_true rfl⟩ ⟨Nat.zero_le _, Nat.zero_le _⟩ rfl hl.1 rfl (Nat.le_of_ble_eq_true rfl) (st1 := [va_rf r2]) rfl dX9_chance_2 (fun H locs hG hS => ?_)
  refine gx_astore_n (r := r2) (i := 3) (lv' := [(3, va_rf r2), (0, va_rf (some x0)), (1, .int x1), (2, .int x2)]) hx hb dX9_chance_5 rfl hl (by decide) rfl (fun ls hl => ?_)
  refine gx_aload_n (r := (some x0)) hx hb dX9_chance_6 rfl (lv_at hl 1 rfl) ?_
  refine lv_iload_n hx hb dX9_chance_7 rfl (lv_at hl 3 rfl) ?_
  obtain ⟨_, eo8, h⟩ := ob h
  obtain ⟨r8, u8, e8, h⟩ := obI h
  refine gx_cV C hG hS [.int x2] rfl eo8 (tX9_thingOf e8) qcX9_119 ⟨rfl, rfl, Nat.le_of_ble_eq_true rfl, Nat.le_of_ble_eq_true rfl⟩ ⟨Nat.zero_le _, Nat.zero_le _⟩ rfl hl.1 rfl (Nat.le_of_ble_eq_true rfl) (st1 := [va_rf r8]) rfl dX9_chance_8 (fun H locs hG hS => ?_)
  refine gx_astore (r := r8) (i := 4) (lv' := [(4, va_rf r8), (3, va_rf r2), (0, va_rf (some x0)), (1, .int x1), (2, .int x2)]) hx hb dX9_chance_11 hl (by decide) (by simp [gx_cat, gx_catI, gx_catJ]) (fun ls hl => ?_)
  refine gx_aload_n (r := r2) hx hb dX9_chance_13 rfl (lv_at hl 1 rfl) ?_
  refine gx_ifnull (tgt := 22) hx hb dX9_chance_14 (by decide) (fun hc => ?_) (fun hc => ?_)
  · replace h := it_pos hc h
    refine gx_aload_n (r := (some x0)) hx hb dX9_chance_22 rfl (lv_at hl 2 rfl) ?_
    refine lv_iconst (v := 1) hx hb dX9_chance_23 (by decide) ?_
    obtain ⟨_, eo24, h⟩ := ob h
    obtain ⟨r24, u24, e24, h⟩ := obI h
    refine gx_cV C hG hS [.int (1 : Int32)] rfl eo24 (tX9_finding e24) qcX9_89 ⟨rfl, rfl, Nat.le_of_ble_eq_true rfl, Nat.le_of_ble_eq_true rfl⟩ ⟨Nat.zero_le _, Nat.zero_le _⟩ rfl hl.1 rfl (Nat.le_of_ble_eq_true rfl) (st1 := [.int r24]) rfl dX9_chance_24 (fun H locs hG hS => ?_)
    cases Option.some.inj h
    exact gx_reti C hG hS dX9_chance_27
  · replace h := it_neg hc h
    refine gx_aload (r := r8) hx hb dX9_chance_17 (lv_at hl 0 rfl) ?_
    refine gx_ifnonnull (tgt := 28) hx hb dX9_chance_19 (by decide) (fun hc => ?_) (fun hc => ?_)
    · replace h := it_neg hc h
      refine lv_iconst (v := 0) hx hb dX9_chance_28 (by decide) ?_
      refine lv_istore (i := 5) (lv' := [(5, .int (0 : Int32)), (4, va_rf r8), (3, va_rf r2), (0, va_rf (some x0)), (1, .int x1), (2, .int x2)]) hx hb dX9_chance_29 hl (by decide) (by simp [gx_cat, gx_catI, gx_catJ]) (fun ls hl => ?_)
      refine lv_iconst (v := 0) hx hb dX9_chance_31 (by decide) ?_
      refine lv_istore (i := 6) (lv' := [(6, .int (0 : Int32)), (5, .int (0 : Int32)), (4, va_rf r8), (3, va_rf r2), (0, va_rf (some x0)), (1, .int x1), (2, .int x2)]) hx hb dX9_chance_32 hl (by decide) rfl (fun ls hl => ?_)
      refine wX9_chance_34 C ?_ FU h hG hS (lv_sub hl [4, 3, 2, 1, 0] rfl)
      · intro x0 x3 x4 x5 u H locs ls h hG hS hl
        refine gx_aload_n (r := (some x0)) hx hb dX9_chance_82 rfl (lv_at hl 0 rfl) ?_
        refine gx_aload_n (r := x3) hx hb dX9_chance_83 rfl (lv_at hl 1 rfl) ?_
        refine gx_aload (r := x4) hx hb dX9_chance_84 (lv_at hl 2 rfl) ?_
        obtain ⟨_, eo86, h⟩ := ob h
        obtain ⟨r86, u86, e86, h⟩ := obI h
        refine gx_cV C hG hS [va_rf x3, va_rf x4] rfl eo86 (tX9_likenessOf e86) qcX9_173 ⟨rfl, rfl, Nat.le_of_ble_eq_true rfl, Nat.le_of_ble_eq_true rfl⟩ ⟨Nat.zero_le _, Nat.zero_le _⟩ rfl hl.1 rfl (Nat.le_of_ble_eq_true rfl) (st1 := [.int r86]) rfl dX9_chance_86 (fun H locs hG hS => ?_)
        refine lv_istore (i := 6) (lv' := [(6, .int r86), (0, va_rf (some x0)), (3, va_rf x3), (4, va_rf x4), (5, .int x5)]) hx hb dX9_chance_89 hl (by decide) rfl (fun ls hl => ?_)
        refine lv_iload hx hb dX9_chance_91 (lv_at hl 4 rfl) ?_
        refine lv_if_ne (tgt := 100) hx hb dX9_chance_93 (by decide) (fun hc => ?_) (fun hc => ?_)
        · replace h := it_neg hc h
          refine lv_sipush (v := 1000) hx hb dX9_chance_100 (by decide) ?_
          refine lv_iload hx hb dX9_chance_103 (lv_at hl 0 rfl) ?_
          refine lv_imul hx hb dX9_chance_105 ?_
          refine lv_iload hx hb dX9_chance_106 (lv_at hl 0 rfl) ?_
          refine lv_imul hx hb dX9_chance_108 ?_
          refine lv_iload hx hb dX9_chance_109 (lv_at hl 4 rfl) ?_
          have n111 : ¬ x5 = 0 := fun q => by rw [if_pos q] at h; cases h
          replace h := it_neg n111 h
          refine lv_idiv hx hb dX9_chance_111 n111 ?_
          cases Option.some.inj h
          exact gx_reti C hG hS dX9_chance_112
        · replace h := it_pos hc h
          refine lv_iconst (v := 0) hx hb dX9_chance_96 (by decide) ?_
          refine lv_goto (tgt := 112) hx hb dX9_chance_97 (by decide) ?_
          cases Option.some.inj h
          exact gx_reti C hG hS dX9_chance_112
    · replace h := it_pos hc h
      refine gx_aload_n (r := (some x0)) hx hb dX9_chance_22 rfl (lv_at hl 2 rfl) ?_
      refine lv_iconst (v := 1) hx hb dX9_chance_23 (by decide) ?_
      obtain ⟨_, eo24, h⟩ := ob h
      obtain ⟨r24, u24, e24, h⟩ := obI h
      refine gx_cV C hG hS [.int (1 : Int32)] rfl eo24 (tX9_finding e24) qcX9_89 ⟨rfl, rfl, Nat.le_of_ble_eq_true rfl, Nat.le_of_ble_eq_true rfl⟩ ⟨Nat.zero_le _, Nat.zero_le _⟩ rfl hl.1 rfl (Nat.le_of_ble_eq_true rfl) (st1 := [.int r24]) rfl dX9_chance_24 (fun H locs hG hS => ?_)
      cases Option.some.inj h
      exact gx_reti C hG hS dX9_chance_27
theorem tX9_chance {Γ : gEnv} {N : Nat} {x0 : Nat} {x1 : Int32} {x2 : Int32} {u v : gM} {r : Int32} (h : fX9_chance x0 x1 x2 u = some (r, v)) : Met l yX9_chance (Cond.code yX9_chance cX9_chance 8 (some .int) :: gW) rmX9_chance (va_Pc [va_rf (some x0), .int x1, .int x2] (gPre Γ u N)) (gQ Γ (some (.int r)) v N) 0 0 Γ.2.2.1 :=
  gx_met (nm := "chance") ⟨by decide +kernel, rfl, rfl⟩ (Nat.le_of_ble_eq_true rfl) (fun p e s m below meth c ls C hG hl => wX9_chance C h hG va_S.rf hl)
abbrev rmX9_bestMatch : Room := { frames := 3, cells := 0, slots := 0, locals := 64 }
def fX9_bestMatch_29_b (x0 : Nat) (x1 : Int32) (x2 : Int32) (u : gM) (k29 : Nat → Int32 → Int32 → gM → Option (Int64 × gM)) (k81 : Nat → Int32 → gM → Option (Int64 × gM)) : Option (Int64 × gM) :=
  (gR [10] 1 u x0).bind fun v31 =>
  (v31).bind fun a34 =>
  (gO [0] u a34).bind fun _ =>
  bI (fJx4a65c_size_8abf5 a34 u) fun r34 u34 =>
  if r34 ≤ x2 then (
    k81 x0 x1 u34
  ) else (
    (gR [10] 8 u34 x0).bind fun v41 =>
    (gR [10] 1 u34 x0).bind fun v48 =>
    (v48).bind fun a52 =>
    (gO [0] u34 a52).bind fun _ =>
    bI (fJx4a65c_get_915e3 a52 x2 u34) fun r52 u52 =>
    (kC [8] u52 r52).bind fun _ =>
    (gR [10] 0 u52 x0).bind fun v59 =>
    (v59).bind fun a63 =>
    (gO [0] u52 a63).bind fun _ =>
    bI (fJx4a65c_get_915e3 a63 x1 u52) fun r63 u63 =>
    (kC [9, 6] u63 r63).bind fun _ =>
    (gO [10] u63 x0).bind fun _ =>
    bI (fX9_likenessOf x0 r52 r63 u63) fun r69 u69 =>
    (v41).bind fun a72 =>
    (gO [4] u69 a72).bind fun _ =>
    (fX3_weigh a72 x2 x1 r69 u69).bind fun u72 =>
    k29 x0 x1 (x2 + (1 : Int32)) u72
  )
set_option maxHeartbeats 4000000 in
set_option maxRecDepth 20000 in
theorem wX9_bestMatch_29_b  (C : gC p s m args meth c cX9_bestMatch 3 (some .long) RX9 "bestMatch" Γ){x0 : Nat} {x1 : Int32} {x2 : Int32} {u : gM} {res : Int64 × gM} {k29 : Nat → Int32 → Int32 → gM → Option (Int64 × gM)} {k81 : Nat → Int32 → gM → Option (Int64 × gM)} (hk29 : ∀ (x0 : Nat) (x1 : Int32) (x2 : Int32) (u : gM) (H : Heap) (locs : List Loc) (ls : Array Slot), k29 x0 x1 x2 u = some res → gAg Γ u N H → va_S Γ.2.2.1 s.heap H locs → lv_has ls 3 [(0, va_rf (some x0)), (1, .int x1), (2, .int x2)] → W p l e rmX9_bestMatch s m args below meth c H locs 0 0 (MQ below (gQ Γ (some (.long res.1)) res.2 N) args s 0 0 Γ.2.2.1) (F0 m 29 ls [])) (hk81 : ∀ (x0 : Nat) (x1 : Int32) (u : gM) (H : Heap) (locs : List Loc) (ls : Array Slot), k81 x0 x1 u = some res → gAg Γ u N H → va_S Γ.2.2.1 s.heap H locs → lv_has ls 3 [(0, va_rf (some x0)), (1, .int x1)] → W p l e rmX9_bestMatch s m args below meth c H locs 0 0 (MQ below (gQ Γ (some (.long res.1)) res.2 N) args s 0 0 Γ.2.2.1) (F0 m 81 ls [])) (h : fX9_bestMatch_29_b x0 x1 x2 u k29 k81 = some res) {H : Heap} {locs : List Loc} (hG : gAg Γ u N H) (hS : va_S Γ.2.2.1 s.heap H locs) {ls : Array Slot} (hl : lv_has ls 3 [(0, va_rf (some x0)), (1, .int x1), (2, .int x2)]) : W p l e rmX9_bestMatch s m args below meth c H locs 0 0 (MQ below (gQ Γ (some (.long res.1)) res.2 N) args s 0 0 Γ.2.2.1) (F0 m 29 ls []) := by
  have hx := C.1
  have hb := C.2.1
  unfold fX9_bestMatch_29_b at h
  refine lv_iload_n hx hb dX9_bestMatch_29 rfl (lv_at hl 2 rfl) ?_
  refine gx_aload_n (r := (some x0)) hx hb dX9_bestMatch_30 rfl (lv_at hl 0 rfl) ?_
  obtain ⟨v31, e31, h⟩ := ob h
  refine gx_getR C hG rfl e31 fgX9_16 dX9_bestMatch_31 ?_
  obtain ⟨a34, na34, h⟩ := ob h
  obtain ⟨_, eo34, h⟩ := ob h
  obtain ⟨r34, u34, e34, h⟩ := obI h
  refine gx_cV C hG hS [] na34 eo34 (tJx4a65c_size_8abf5 e34) qcX9_93 ⟨rfl, rfl, Nat.le_of_ble_eq_true rfl, Nat.le_of_ble_eq_true rfl⟩ ⟨Nat.zero_le _, Nat.zero_le _⟩ rfl hl.1 rfl (Nat.le_of_ble_eq_true rfl) (st1 := [.int r34, .int x2]) rfl dX9_bestMatch_34 (fun H locs hG hS => ?_)
  refine lv_icmp_ge (tgt := 81) hx hb dX9_bestMatch_37 (by decide) (fun hc => ?_) (fun hc => ?_)
  · replace h := it_pos hc h
    exact hk81 _ _ _ _ _ _ h hG hS (lv_sub hl [0, 1] rfl)
  · replace h := it_neg hc h
    refine gx_aload_n (r := (some x0)) hx hb dX9_bestMatch_40 rfl (lv_at hl 0 rfl) ?_
    obtain ⟨v41, e41, h⟩ := ob h
    refine gx_getR C hG rfl e41 fgX9_41 dX9_bestMatch_41 ?_
    refine lv_iload_n hx hb dX9_bestMatch_44 rfl (lv_at hl 2 rfl) ?_
    refine lv_iload_n hx hb dX9_bestMatch_45 rfl (lv_at hl 1 rfl) ?_
    refine gx_aload_n (r := (some x0)) hx hb dX9_bestMatch_46 rfl (lv_at hl 0 rfl) ?_
    refine gx_aload_n (r := (some x0)) hx hb dX9_bestMatch_47 rfl (lv_at hl 0 rfl) ?_
    obtain ⟨v48, e48, h⟩ := ob h
    refine gx_getR C hG rfl e48 fgX9_16 dX9_bestMatch_48 ?_
    refine lv_iload_n hx hb dX9_bestMatch_51 rfl (lv_at hl 2 rfl) ?_
    obtain ⟨a52, na52, h⟩ := ob h
    obtain ⟨_, eo52, h⟩ := ob h
    obtain ⟨r52, u52, e52, h⟩ := obI h
    refine gx_cV C hG hS [.int x2] na52 eo52 (tJx4a65c_get_915e3 e52) qcX9_144 ⟨rfl, rfl, Nat.le_of_ble_eq_true rfl, Nat.le_of_ble_eq_true rfl⟩ ⟨Nat.zero_le _, Nat.zero_le _⟩ rfl hl.1 rfl (by simp [gx_cat, gx_catI, gx_catJ]) (st1 := [va_rf r52, va_rf (some x0), .int x1, .int x2, va_rf v41]) rfl dX9_bestMatch_52 (fun H locs hG hS => ?_)
    obtain ⟨_, e55, h⟩ := ob h
    refine gx_cast C hG e55 ckX9_155 dX9_bestMatch_55 ?_
    refine gx_aload_n (r := (some x0)) hx hb dX9_bestMatch_58 rfl (lv_at hl 0 rfl) ?_
    obtain ⟨v59, e59, h⟩ := ob h
    refine gx_getR C hG rfl e59 fgX9_10 dX9_bestMatch_59 ?_
    refine lv_iload_n hx hb dX9_bestMatch_62 rfl (lv_at hl 1 rfl) ?_
    obtain ⟨a63, na63, h⟩ := ob h
    obtain ⟨_, eo63, h⟩ := ob h
    obtain ⟨r63, u63, e63, h⟩ := obI h
    refine gx_cV C hG hS [.int x1] na63 eo63 (tJx4a65c_get_915e3 e63) qcX9_144 ⟨rfl, rfl, Nat.le_of_ble_eq_true rfl, Nat.le_of_ble_eq_true rfl⟩ ⟨Nat.zero_le _, Nat.zero_le _⟩ rfl hl.1 rfl (by simp [gx_cat, gx_catI, gx_catJ]) (st1 := [va_rf r63, va_rf r52, va_rf (some x0), .int x1, .int x2, va_rf v41]) rfl dX9_bestMatch_63 (fun H locs hG hS => ?_)
    obtain ⟨_, e66, h⟩ := ob h
    refine gx_cast C hG e66 ckX9_102 dX9_bestMatch_66 ?_
    obtain ⟨_, eo69, h⟩ := ob h
    obtain ⟨r69, u69, e69, h⟩ := obI h
    refine gx_cV C hG hS [va_rf r52, va_rf r63] rfl eo69 (tX9_likenessOf e69) qcX9_173 ⟨rfl, rfl, Nat.le_of_ble_eq_true rfl, Nat.le_of_ble_eq_true rfl⟩ ⟨Nat.zero_le _, Nat.zero_le _⟩ rfl hl.1 rfl (by simp [gx_cat, gx_catI, gx_catJ]) (st1 := [.int r69, .int x1, .int x2, va_rf v41]) rfl dX9_bestMatch_69 (fun H locs hG hS => ?_)
    obtain ⟨a72, na72, h⟩ := ob h
    obtain ⟨_, eo72, h⟩ := ob h
    obtain ⟨u72, e72, h⟩ := ob h
    refine gx_cV C hG hS [.int x2, .int x1, .int r69] na72 eo72 (tX3_weigh e72) qcX9_325 ⟨rfl, rfl, Nat.le_of_ble_eq_true rfl, Nat.le_of_ble_eq_true rfl⟩ ⟨Nat.zero_le _, Nat.zero_le _⟩ rfl hl.1 rfl (Nat.le_of_ble_eq_true rfl) (st1 := []) rfl dX9_bestMatch_72 (fun H locs hG hS => ?_)
    refine lv_iinc (v := x2 + (1 : Int32)) (lv' := [(2, .int (x2 + (1 : Int32))), (0, va_rf (some x0)), (1, .int x1)]) hx hb dX9_bestMatch_75 hl (k := 2) rfl rfl (by decide) rfl (fun ls hl => ?_)
    refine lv_goto (tgt := 29) hx hb dX9_bestMatch_78 (by decide) ?_
    exact hk29 _ _ _ _ _ _ _ h hG hS (lv_sub hl [1, 2, 0] rfl)
def fX9_bestMatch_29 (k81 : Nat → Int32 → gM → Option (Int64 × gM)) : Nat → Nat → Int32 → Int32 → gM → Option (Int64 × gM)
  | 0 => fun _ _ _ _ => none
  | n + 1 => fun x0 x1 x2 u => fX9_bestMatch_29_b x0 x1 x2 u (fX9_bestMatch_29 k81 n) k81 
theorem wX9_bestMatch_29 (C : gC p s m args meth c cX9_bestMatch 3 (some .long) RX9 "bestMatch" Γ) {res : Int64 × gM} {k81 : Nat → Int32 → gM → Option (Int64 × gM)} (hk81 : ∀ (x0 : Nat) (x1 : Int32) (u : gM) (H : Heap) (locs : List Loc) (ls : Array Slot), k81 x0 x1 u = some res → gAg Γ u N H → va_S Γ.2.2.1 s.heap H locs → lv_has ls 3 [(0, va_rf (some x0)), (1, .int x1)] → W p l e rmX9_bestMatch s m args below meth c H locs 0 0 (MQ below (gQ Γ (some (.long res.1)) res.2 N) args s 0 0 Γ.2.2.1) (F0 m 81 ls [])) (n : Nat) : ∀ {x0 : Nat} {x1 : Int32} {x2 : Int32} {u : gM} {H : Heap} {locs : List Loc} {ls : Array Slot}, fX9_bestMatch_29 k81 n x0 x1 x2 u = some res → gAg Γ u N H → va_S Γ.2.2.1 s.heap H locs → lv_has ls 3 [(0, va_rf (some x0)), (1, .int x1), (2, .int x2)] → W p l e rmX9_bestMatch s m args below meth c H locs 0 0 (MQ below (gQ Γ (some (.long res.1)) res.2 N) args s 0 0 Γ.2.2.1) (F0 m 29 ls []) := by
  induction n with
  | zero => intro _ _ _ _ _ _ _ h _ _ _; cases (show (none : Option (Int64 × gM)) = some res from h)
  | succ n ih => intro _ _ _ _ _ _ _ h hG hS hl; exact wX9_bestMatch_29_b C (fun _ _ _ _ _ _ _ h hG hS hl => ih h hG hS hl) hk81 h hG hS hl
def fX9_bestMatch_16_b (x0 : Nat) (x1 : Int32) (u : gM) (k16 : Nat → Int32 → gM → Option (Int64 × gM)) : Option (Int64 × gM) :=
  (gR [10] 0 u x0).bind fun v18 =>
  (v18).bind fun a21 =>
  (gO [0] u a21).bind fun _ =>
  bI (fJx4a65c_size_8abf5 a21 u) fun r21 u21 =>
  if r21 ≤ x1 then (
    (gR [10] 8 u21 x0).bind fun v95 =>
    (v95).bind fun a98 =>
    (gO [4] u21 a98).bind fun _ =>
    bI (fX3_best a98 u21) fun r98 u98 =>
    some (r98, u98)
  ) else (
    fX9_bestMatch_29 (fun x0 x1 u =>
          (gR [10] 8 u x0).bind fun v82 =>
          (v82).bind fun a85 =>
          (gO [4] u a85).bind fun _ =>
          (fX3_offer a85 u).bind fun u85 =>
          k16 x0 (x1 + (1 : Int32)) u85) FU x0 x1 (0 : Int32) u21
  )
set_option maxHeartbeats 4000000 in
set_option maxRecDepth 20000 in
theorem wX9_bestMatch_16_b  (C : gC p s m args meth c cX9_bestMatch 3 (some .long) RX9 "bestMatch" Γ){x0 : Nat} {x1 : Int32} {u : gM} {res : Int64 × gM} {k16 : Nat → Int32 → gM → Option (Int64 × gM)} (hk16 : ∀ (x0 : Nat) (x1 : Int32) (u : gM) (H : Heap) (locs : List Loc) (ls : Array Slot), k16 x0 x1 u = some res → gAg Γ u N H → va_S Γ.2.2.1 s.heap H locs → lv_has ls 3 [(0, va_rf (some x0)), (1, .int x1)] → W p l e rmX9_bestMatch s m args below meth c H locs 0 0 (MQ below (gQ Γ (some (.long res.1)) res.2 N) args s 0 0 Γ.2.2.1) (F0 m 16 ls [])) (h : fX9_bestMatch_16_b x0 x1 u k16 = some res) {H : Heap} {locs : List Loc} (hG : gAg Γ u N H) (hS : va_S Γ.2.2.1 s.heap H locs) {ls : Array Slot} (hl : lv_has ls 3 [(0, va_rf (some x0)), (1, .int x1)]) : W p l e rmX9_bestMatch s m args below meth c H locs 0 0 (MQ below (gQ Γ (some (.long res.1)) res.2 N) args s 0 0 Γ.2.2.1) (F0 m 16 ls []) := by
  have hx := C.1
  have hb := C.2.1
  unfold fX9_bestMatch_16_b at h
  refine lv_iload_n hx hb dX9_bestMatch_16 rfl (lv_at hl 1 rfl) ?_
  refine gx_aload_n (r := (some x0)) hx hb dX9_bestMatch_17 rfl (lv_at hl 0 rfl) ?_
  obtain ⟨v18, e18, h⟩ := ob h
  refine gx_getR C hG rfl e18 fgX9_10 dX9_bestMatch_18 ?_
  obtain ⟨a21, na21, h⟩ := ob h
  obtain ⟨_, eo21, h⟩ := ob h
  obtain ⟨r21, u21, e21, h⟩ := obI h
  refine gx_cV C hG hS [] na21 eo21 (tJx4a65c_size_8abf5 e21) qcX9_93 ⟨rfl, rfl, Nat.le_of_ble_eq_true rfl, Nat.le_of_ble_eq_true rfl⟩ ⟨Nat.zero_le _, Nat.zero_le _⟩ rfl hl.1 rfl (Nat.le_of_ble_eq_true rfl) (st1 := [.int r21, .int x1]) rfl dX9_bestMatch_21 (fun H locs hG hS => ?_)
  refine lv_icmp_ge (tgt := 94) hx hb dX9_bestMatch_24 (by decide) (fun hc => ?_) (fun hc => ?_)
  · replace h := it_pos hc h
    refine gx_aload_n (r := (some x0)) hx hb dX9_bestMatch_94 rfl (lv_at hl 0 rfl) ?_
    obtain ⟨v95, e95, h⟩ := ob h
    refine gx_getR C hG rfl e95 fgX9_41 dX9_bestMatch_95 ?_
    obtain ⟨a98, na98, h⟩ := ob h
    obtain ⟨_, eo98, h⟩ := ob h
    obtain ⟨r98, u98, e98, h⟩ := obI h
    refine gx_cV C hG hS [] na98 eo98 (tX3_best e98) qcX9_331 ⟨rfl, rfl, Nat.le_of_ble_eq_true rfl, Nat.le_of_ble_eq_true rfl⟩ ⟨Nat.zero_le _, Nat.zero_le _⟩ rfl hl.1 rfl (Nat.le_of_ble_eq_true rfl) (st1 := [.long r98]) rfl dX9_bestMatch_98 (fun H locs hG hS => ?_)
    cases Option.some.inj h
    exact gx_retl C hG hS dX9_bestMatch_101
  · replace h := it_neg hc h
    refine lv_iconst (v := 0) hx hb dX9_bestMatch_27 (by decide) ?_
    refine lv_istore_n (i := 2) (lv' := [(2, .int (0 : Int32)), (0, va_rf (some x0)), (1, .int x1)]) hx hb dX9_bestMatch_28 rfl hl (by decide) rfl (fun ls hl => ?_)
    refine wX9_bestMatch_29 C ?_ FU h hG hS (lv_sub hl [1, 2, 0] rfl)
    · intro x0 x1 u H locs ls h hG hS hl
      refine gx_aload_n (r := (some x0)) hx hb dX9_bestMatch_81 rfl (lv_at hl 0 rfl) ?_
      obtain ⟨v82, e82, h⟩ := ob h
      refine gx_getR C hG rfl e82 fgX9_41 dX9_bestMatch_82 ?_
      obtain ⟨a85, na85, h⟩ := ob h
      obtain ⟨_, eo85, h⟩ := ob h
      obtain ⟨u85, e85, h⟩ := ob h
      refine gx_cV C hG hS [] na85 eo85 (tX3_offer e85) qcX9_328 ⟨rfl, rfl, Nat.le_of_ble_eq_true rfl, Nat.le_of_ble_eq_true rfl⟩ ⟨Nat.zero_le _, Nat.zero_le _⟩ rfl hl.1 rfl (Nat.le_of_ble_eq_true rfl) (st1 := []) rfl dX9_bestMatch_85 (fun H locs hG hS => ?_)
      refine lv_iinc (v := x1 + (1 : Int32)) (lv' := [(1, .int (x1 + (1 : Int32))), (0, va_rf (some x0))]) hx hb dX9_bestMatch_88 hl (k := 1) rfl rfl (by decide) rfl (fun ls hl => ?_)
      refine lv_goto (tgt := 16) hx hb dX9_bestMatch_91 (by decide) ?_
      exact hk16 _ _ _ _ _ _ h hG hS (lv_sub hl [1, 0] rfl)
def fX9_bestMatch_16 : Nat → Nat → Int32 → gM → Option (Int64 × gM)
  | 0 => fun _ _ _ => none
  | n + 1 => fun x0 x1 u => fX9_bestMatch_16_b x0 x1 u (fX9_bestMatch_16 n) 
theorem wX9_bestMatch_16 (C : gC p s m args meth c cX9_bestMatch 3 (some .long) RX9 "bestMatch" Γ) {res : Int64 × gM} (n : Nat) : ∀ {x0 : Nat} {x1 : Int32} {u : gM} {H : Heap} {locs : List Loc} {ls : Array Slot}, fX9_bestMatch_16 n x0 x1 u = some res → gAg Γ u N H → va_S Γ.2.2.1 s.heap H locs → lv_has ls 3 [(0, va_rf (some x0)), (1, .int x1)] → W p l e rmX9_bestMatch s m args below meth c H locs 0 0 (MQ below (gQ Γ (some (.long res.1)) res.2 N) args s 0 0 Γ.2.2.1) (F0 m 16 ls []) := by
  induction n with
  | zero => intro _ _ _ _ _ _ h _ _ _; cases (show (none : Option (Int64 × gM)) = some res from h)
  | succ n ih => intro _ _ _ _ _ _ h hG hS hl; exact wX9_bestMatch_16_b C (fun _ _ _ _ _ _ h hG hS hl => ih h hG hS hl) h hG hS hl
def fX9_bestMatch (x0 : Nat) (u : gM) : Option (Int64 × gM) :=
  (gR [10] 8 u x0).bind fun v1 =>
  (gR [10] 1 u x0).bind fun v5 =>
  (v5).bind fun a8 =>
  (gO [0] u a8).bind fun _ =>
  bI (fJx4a65c_size_8abf5 a8 u) fun r8 u8 =>
  (v1).bind fun a11 =>
  (gO [4] u8 a11).bind fun _ =>
  (fX3_begin a11 r8 u8).bind fun u11 =>
  fX9_bestMatch_16  FU x0 (0 : Int32) u11
set_option maxHeartbeats 4000000 in
set_option maxRecDepth 20000 in
theorem wX9_bestMatch  (C : gC p s m args meth c cX9_bestMatch 3 (some .long) RX9 "bestMatch" Γ){x0 : Nat} {u : gM} {res : Int64 × gM} (h : fX9_bestMatch x0 u = some res) {H : Heap} {locs : List Loc} (hG : gAg Γ u N H) (hS : va_S Γ.2.2.1 s.heap H locs) {ls : Array Slot} (hl : lv_has ls 3 [(0, va_rf (some x0))]) : W p l e rmX9_bestMatch s m args below meth c H locs 0 0 (MQ below (gQ Γ (some (.long res.1)) res.2 N) args s 0 0 Γ.2.2.1) (F0 m 0 ls []) := by
  have hx := C.1
  have hb := C.2.1
  unfold fX9_bestMatch at h
  refine gx_aload_n (r := (some x0)) hx hb dX9_bestMatch_0 rfl (lv_at hl 0 rfl) ?_
  obtain ⟨v1, e1, h⟩ := ob h
  refine gx_getR C hG rfl e1 fgX9_41 dX9_bestMatch_1 ?_
  refine gx_aload_n (r := (some x0)) hx hb dX9_bestMatch_4 rfl (lv_at hl 0 rfl) ?_
  obtain ⟨v5, e5, h⟩ := ob h
  refine gx_getR C hG rfl e5 fgX9_16 dX9_bestMatch_5 ?_
  obtain ⟨a8, na8, h⟩ := ob h
  obtain ⟨_, eo8, h⟩ := ob h
  obtain ⟨r8, u8, e8, h⟩ := obI h
  refine gx_cV C hG hS [] na8 eo8 (tJx4a65c_size_8abf5 e8) qcX9_93 ⟨rfl, rfl, Nat.le_of_ble_eq_true rfl, Nat.le_of_ble_eq_true rfl⟩ ⟨Nat.zero_le _, Nat.zero_le _⟩ rfl hl.1 rfl (by simp [gx_cat, gx_catI, gx_catJ]) (st1 := [.int r8, va_rf v1]) rfl dX9_bestMatch_8 (fun H locs hG hS => ?_)
  obtain ⟨a11, na11, h⟩ := ob h
  obtain ⟨_, eo11, h⟩ := ob h
  obtain ⟨u11, e11, h⟩ := ob h
  refine gx_cV C hG hS [.int r8] na11 eo11 (tX3_begin e11) qcX9_322 ⟨rfl, rfl, Nat.le_of_ble_eq_true rfl, Nat.le_of_ble_eq_true rfl⟩ ⟨Nat.zero_le _, Nat.zero_le _⟩ rfl hl.1 rfl (Nat.le_of_ble_eq_true rfl) (st1 := []) rfl dX9_bestMatch_11 (fun H locs hG hS => ?_)
  refine lv_iconst (v := 0) hx hb dX9_bestMatch_14 (by decide) ?_
  refine lv_istore_n (i := 1) (lv' := [(1, .int (0 : Int32)), (0, va_rf (some x0))]) hx hb dX9_bestMatch_15 rfl hl (by decide) rfl (fun ls hl => ?_)
  exact wX9_bestMatch_16 C  FU h hG hS (lv_sub hl [1, 0] rfl)
theorem tX9_bestMatch {Γ : gEnv} {N : Nat} {x0 : Nat} {u v : gM} {r : Int64} (h : fX9_bestMatch x0 u = some (r, v)) : Met l yX9_bestMatch (Cond.code yX9_bestMatch cX9_bestMatch 3 (some .long) :: gW) rmX9_bestMatch (va_Pc [va_rf (some x0)] (gPre Γ u N)) (gQ Γ (some (.long r)) v N) 0 0 Γ.2.2.1 :=
  gx_met (nm := "bestMatch") ⟨by decide +kernel, rfl, rfl⟩ (Nat.le_of_ble_eq_true rfl) (fun p e s m below meth c ls C hG hl => wX9_bestMatch C h hG va_S.rf hl)
end
