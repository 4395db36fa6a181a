section
variable {p : Program} {l : Launch} {e : Env} {s : State} {m : MethodId} {args : Array Value} {below : List Frame} {meth : Method} {c : Code} {Γ : gEnv} {N sB : Nat}
abbrev rmX9_isLabel : Room := { frames := 1, cells := 0, slots := 0, locals := 22 }
def fX9_isLabel (x0 : Int32) (x1 : Int32) (u : gM) : Option (Int32 × gM) :=
  if x1 < 0 then (
    some ((0 : Int32), u)
  ) else (
    bI (fX9_within (x1 / (10 : Int32)) (1 : Int32) ((9 : Int32) - (1 : Int32)) u) fun r17 u17 =>
    if r17 = 0 then (
      some ((0 : Int32), u17)
    ) else (
      if (3 : Int32) < (x1 - x1 / (10 : Int32) * (10 : Int32)) then (
        some ((0 : Int32), u17)
      ) else (
        (tE (x1 / (10 : Int32))).bind fun v37 =>
        bI (fX9_within x0 (0 : Int32) (v37 - (1 : Int32)) u17) fun r40 u40 =>
        if r40 = 0 then (
          some ((0 : Int32), u40)
        ) else (
          some ((1 : Int32), u40)
        )
      )
    )
  )
set_option maxHeartbeats 4000000 in
set_option maxRecDepth 20000 in
theorem wX9_isLabel  (C : gC p s m args meth c cX9_isLabel 3 (some .boolean) RX9 "isLabel" Γ){x0 : Int32} {x1 : Int32} {u : gM} {res : Int32 × gM} (h : fX9_isLabel x0 x1 u = some res) {H : Heap} {locs : List Loc} (hG : gAg Γ u N H) (hS : va_S Γ.2.2.1 s.heap H locs) {ls : Array Slot} (hl : lv_has ls 3 [(0, .int x0), (1, .int x1)]) : W p l e rmX9_isLabel s m args below meth c H locs 0 0 (MQ below (gQ Γ (some (.int res.1)) res.2 N) args s 0 0 Γ.2.2.1) (F0 m 0 ls []) := by
  have hx := C.1
  have hb := C.2.1
  unfold fX9_isLabel at h
  refine lv_iload_n hx hb dX9_isLabel_0 rfl (lv_at hl 1 rfl) ?_
  refine lv_bipush (v := 10) hx hb dX9_isLabel_1 (by decide) ?_
  refine lv_idiv hx hb dX9_isLabel_3 (by decide) ?_
  refine lv_istore_n (i := 2) (lv' := [(2, .int (x1 / (10 : Int32))), (0, .int x0), (1, .int x1)]) hx hb dX9_isLabel_4 rfl hl (by decide) rfl (fun ls hl => ?_)
  refine lv_iload_n hx hb dX9_isLabel_5 rfl (lv_at hl 2 rfl) ?_
  refine lv_if_lt (tgt := 50) hx hb dX9_isLabel_6 (by decide) (fun hc => ?_) (fun hc => ?_)
  · replace h := it_pos hc h
    refine lv_iconst (v := 0) hx hb dX9_isLabel_50 (by decide) ?_
    cases Option.some.inj h
    exact gx_retz C (Or.inl rfl) hG hS dX9_isLabel_51
  · replace h := it_neg hc h
    refine lv_iload_n hx hb dX9_isLabel_9 rfl (lv_at hl 0 rfl) ?_
    refine lv_iconst (v := 1) hx hb dX9_isLabel_10 (by decide) ?_
    refine gx_gets C hS C.2.2.2.2.2.2.1.2.1.1 ksX9_334 dX9_isLabel_11 ?_
    refine gx_tlen C hS dX9_isLabel_14 ?_
    refine lv_iconst (v := 1) hx hb dX9_isLabel_15 (by decide) ?_
    refine lv_isub hx hb dX9_isLabel_16 ?_
    obtain ⟨r17, u17, e17, h⟩ := obI h
    refine gx_cS C hG hS [.int (x1 / (10 : Int32)), .int (1 : Int32), .int ((9 : Int32) - (1 : Int32))] (tX9_within e17) qcX9_85 ⟨rfl, rfl, Nat.le_of_ble_eq_true rfl, Nat.le_of_ble_eq_true rfl⟩ ⟨Nat.zero_le _, Nat.zero_le _⟩ rfl hl.1 rfl (Nat.le_of_ble_eq_true rfl) (st1 := [.int r17]) rfl dX9_isLabel_17 (fun H locs hG hS => ?_)
    refine lv_if_eq (tgt := 50) hx hb dX9_isLabel_20 (by decide) (fun hc => ?_) (fun hc => ?_)
    · replace h := it_pos hc h
      refine lv_iconst (v := 0) hx hb dX9_isLabel_50 (by decide) ?_
      cases Option.some.inj h
      exact gx_retz C (Or.inl rfl) hG hS dX9_isLabel_51
    · replace h := it_neg hc h
      refine lv_iload_n hx hb dX9_isLabel_23 rfl (lv_at hl 2 rfl) ?_
      refine lv_bipush (v := 10) hx hb dX9_isLabel_24 (by decide) ?_
      refine lv_irem hx hb dX9_isLabel_26 (by decide) ?_
      refine lv_iconst (v := 3) hx hb dX9_isLabel_27 (by decide) ?_
      refine lv_icmp_gt (tgt := 50) hx hb dX9_isLabel_28 (by decide) (fun hc => ?_) (fun hc => ?_)
      · replace h := it_pos hc h
        refine lv_iconst (v := 0) hx hb dX9_isLabel_50 (by decide) ?_
        cases Option.some.inj h
        exact gx_retz C (Or.inl rfl) hG hS dX9_isLabel_51
      · replace h := it_neg hc h
        refine lv_iload_n hx hb dX9_isLabel_31 rfl (lv_at hl 1 rfl) ?_
        refine lv_iconst (v := 0) hx hb dX9_isLabel_32 (by decide) ?_
        refine gx_gets C hS C.2.2.2.2.2.2.1.2.1.1 ksX9_334 dX9_isLabel_33 ?_
        refine lv_iload_n hx hb dX9_isLabel_36 rfl (lv_at hl 0 rfl) ?_
        obtain ⟨v37, e37, h⟩ := ob h
        refine gx_ten C hS e37 dX9_isLabel_37 ?_
        refine lv_iconst (v := 1) hx hb dX9_isLabel_38 (by decide) ?_
        refine lv_isub hx hb dX9_isLabel_39 ?_
        obtain ⟨r40, u40, e40, h⟩ := obI h
        refine gx_cS C hG hS [.int x0, .int (0 : Int32), .int (v37 - (1 : Int32))] (tX9_within e40) qcX9_85 ⟨rfl, rfl, Nat.le_of_ble_eq_true rfl, Nat.le_of_ble_eq_true rfl⟩ ⟨Nat.zero_le _, Nat.zero_le _⟩ rfl hl.1 rfl (Nat.le_of_ble_eq_true rfl) (st1 := [.int r40]) rfl dX9_isLabel_40 (fun H locs hG hS => ?_)
        refine lv_if_eq (tgt := 50) hx hb dX9_isLabel_43 (by decide) (fun hc => ?_) (fun hc => ?_)
        · replace h := it_pos hc h
          refine lv_iconst (v := 0) hx hb dX9_isLabel_50 (by decide) ?_
          cases Option.some.inj h
          exact gx_retz C (Or.inl rfl) hG hS dX9_isLabel_51
        · replace h := it_neg hc h
          refine lv_iconst (v := 1) hx hb dX9_isLabel_46 (by decide) ?_
          refine lv_goto (tgt := 51) hx hb dX9_isLabel_47 (by decide) ?_
          cases Option.some.inj h
          exact gx_retz C (Or.inr rfl) hG hS dX9_isLabel_51
theorem tX9_isLabel {Γ : gEnv} {N : Nat} {x0 : Int32} {x1 : Int32} {u v : gM} {r : Int32} (h : fX9_isLabel x0 x1 u = some (r, v)) : Met l yX9_isLabel (Cond.code yX9_isLabel cX9_isLabel 3 (some .boolean) :: gW) rmX9_isLabel (va_Pc [.int x0, .int x1] (gPre Γ u N)) (gQ Γ (some (.int r)) v N) 0 0 Γ.2.2.1 :=
  gx_met (nm := "isLabel") ⟨by decide +kernel, rfl, rfl⟩ (Nat.le_of_ble_eq_true rfl) (fun p e s m below meth c ls C hG hl => wX9_isLabel C h hG va_S.rf hl)
abbrev rmX9_fits : Room := { frames := 4, cells := 0, slots := 0, locals := 85 }
def fX9_fits (x0 : Nat) (x1 : Int32) (x2 : Int32) (x3 : Int32) (u : gM) : Option (Int32 × gM) :=
  (gO [10] u x0).bind fun _ =>
  bI (fX9_addressOf x0 x1 u) fun r2 u2 =>
  if r2 = none then (
    (gO [10] u2 x0).bind fun _ =>
    bI (fX9_finding x0 (1 : Int32) u2) fun r22 u22 =>
    some (r22, u22)
  ) else (
    bI (fX9_isLabel x2 x3 u2) fun r14 u14 =>
    if r14 = 0 then (
      (gO [10] u14 x0).bind fun _ =>
      bI (fX9_finding x0 (1 : Int32) u14) fun r22 u22 =>
      some (r22, u22)
    ) else (
      (r2).bind fun a37 =>
      (gO [1] u14 a37).bind fun _ =>
      bI (fX0_takes a37 x2 (x3 / (10 : Int32)) (x3 - x3 / (10 : Int32) * (10 : Int32)) u14) fun r37 u37 =>
      if r37 = 0 then (
        some ((0 : Int32), u37)
      ) else (
        some ((1 : Int32), u37)
      )
    )
  )
set_option maxHeartbeats 4000000 in
set_option maxRecDepth 20000 in
theorem wX9_fits  (C : gC p s m args meth c cX9_fits 5 (some .int) RX9 "fits" Γ){x0 : Nat} {x1 : Int32} {x2 : Int32} {x3 : Int32} {u : gM} {res : Int32 × gM} (h : fX9_fits x0 x1 x2 x3 u = some res) {H : Heap} {locs : List Loc} (hG : gAg Γ u N H) (hS : va_S Γ.2.2.1 s.heap H locs) {ls : Array Slot} (hl : lv_has ls 5 [(0, va_rf (some x0)), (1, .int x1), (2, .int x2), (3, .int x3)]) : W p l e rmX9_fits s m args below meth c H locs 0 0 (MQ below (gQ Γ (some (.int res.1)) res.2 N) args s 0 0 Γ.2.2.1) (F0 m 0 ls []) := by
  have hx := C.1
  have hb := C.2.1
  unfold fX9_fits at h
  refine gx_aload_n (r := (some x0)) hx hb dX9_fits_0 rfl (lv_at hl 0 rfl) ?_
  refine lv_iload_n hx hb dX9_fits_1 rfl (lv_at hl 1 rfl) ?_
  obtain ⟨_, eo2, h⟩ := ob h
  obtain ⟨r2, u2, e2, h⟩ := obI h
  refine gx_cV C hG hS [.int x1] rfl eo2 (tX9_addressOf e2) qcX9_219 ⟨rfl, rfl, Nat.le_of_ble_eq_true rfl, Nat.le_of_ble_eq_true rfl⟩ ⟨Nat.zero_le _, Nat.zero_le _⟩ rfl hl.1 rfl (Nat.le_of_ble_eq_true rfl) (st1 := [va_rf r2]) rfl dX9_fits_2 (fun H locs hG hS => ?_)
  refine gx_astore (r := r2) (i := 4) (lv' := [(4, va_rf r2), (0, va_rf (some x0)), (1, .int x1), (2, .int x2), (3, .int x3)]) hx hb dX9_fits_5 hl (by decide) rfl (fun ls hl => ?_)
  refine gx_aload (r := r2) hx hb dX9_fits_7 (lv_at hl 0 rfl) ?_
  refine gx_ifnull (tgt := 20) hx hb dX9_fits_9 (by decide) (fun hc => ?_) (fun hc => ?_)
  · replace h := it_pos hc h
    refine gx_aload_n (r := (some x0)) hx hb dX9_fits_20 rfl (lv_at hl 1 rfl) ?_
    refine lv_iconst (v := 1) hx hb dX9_fits_21 (by decide) ?_
    obtain ⟨_, eo22, h⟩ := ob h
    obtain ⟨r22, u22, e22, h⟩ := obI h
    refine gx_cV C hG hS [.int (1 : Int32)] rfl eo22 (tX9_finding e22) qcX9_89 ⟨rfl, rfl, Nat.le_of_ble_eq_true rfl, Nat.le_of_ble_eq_true rfl⟩ ⟨Nat.zero_le _, Nat.zero_le _⟩ rfl hl.1 rfl (Nat.le_of_ble_eq_true rfl) (st1 := [.int r22]) rfl dX9_fits_22 (fun H locs hG hS => ?_)
    cases Option.some.inj h
    exact gx_reti C hG hS dX9_fits_25
  · replace h := it_neg hc h
    refine lv_iload_n hx hb dX9_fits_12 rfl (lv_at hl 3 rfl) ?_
    refine lv_iload_n hx hb dX9_fits_13 rfl (lv_at hl 4 rfl) ?_
    obtain ⟨r14, u14, e14, h⟩ := obI h
    refine gx_cS C hG hS [.int x2, .int x3] (tX9_isLabel e14) qcX9_226 ⟨rfl, rfl, Nat.le_of_ble_eq_true rfl, Nat.le_of_ble_eq_true rfl⟩ ⟨Nat.zero_le _, Nat.zero_le _⟩ rfl hl.1 rfl (Nat.le_of_ble_eq_true rfl) (st1 := [.int r14]) rfl dX9_fits_14 (fun H locs hG hS => ?_)
    refine lv_if_ne (tgt := 26) hx hb dX9_fits_17 (by decide) (fun hc => ?_) (fun hc => ?_)
    · replace h := it_neg hc h
      refine gx_aload (r := r2) hx hb dX9_fits_26 (lv_at hl 0 rfl) ?_
      refine lv_iload_n hx hb dX9_fits_28 rfl (lv_at hl 3 rfl) ?_
      refine lv_iload_n hx hb dX9_fits_29 rfl (lv_at hl 4 rfl) ?_
      refine lv_bipush (v := 10) hx hb dX9_fits_30 (by decide) ?_
      refine lv_idiv hx hb dX9_fits_32 (by decide) ?_
      refine lv_iload_n hx hb dX9_fits_33 rfl (lv_at hl 4 rfl) ?_
      refine lv_bipush (v := 10) hx hb dX9_fits_34 (by decide) ?_
      refine lv_irem hx hb dX9_fits_36 (by decide) ?_
      obtain ⟨a37, na37, h⟩ := ob h
      obtain ⟨_, eo37, h⟩ := ob h
      obtain ⟨r37, u37, e37, h⟩ := obI h
      refine gx_cV C hG hS [.int x2, .int (x3 / (10 : Int32)), .int (x3 - x3 / (10 : Int32) * (10 : Int32))] na37 eo37 (tX0_takes e37) qcX9_230 ⟨rfl, rfl, Nat.le_of_ble_eq_true rfl, Nat.le_of_ble_eq_true rfl⟩ ⟨Nat.zero_le _, Nat.zero_le _⟩ rfl hl.1 rfl (Nat.le_of_ble_eq_true rfl) (st1 := [.int r37]) rfl dX9_fits_37 (fun H locs hG hS => ?_)
      refine lv_if_eq (tgt := 47) hx hb dX9_fits_40 (by decide) (fun hc => ?_) (fun hc => ?_)
      · replace h := it_pos hc h
        refine lv_iconst (v := 0) hx hb dX9_fits_47 (by decide) ?_
        cases Option.some.inj h
        exact gx_reti C hG hS dX9_fits_48
      · replace h := it_neg hc h
        refine lv_iconst (v := 1) hx hb dX9_fits_43 (by decide) ?_
        refine lv_goto (tgt := 48) hx hb dX9_fits_44 (by decide) ?_
        cases Option.some.inj h
        exact gx_reti C hG hS dX9_fits_48
    · replace h := it_pos hc h
      refine gx_aload_n (r := (some x0)) hx hb dX9_fits_20 rfl (lv_at hl 1 rfl) ?_
      refine lv_iconst (v := 1) hx hb dX9_fits_21 (by decide) ?_
      obtain ⟨_, eo22, h⟩ := ob h
      obtain ⟨r22, u22, e22, h⟩ := obI h
      refine gx_cV C hG hS [.int (1 : Int32)] rfl eo22 (tX9_finding e22) qcX9_89 ⟨rfl, rfl, Nat.le_of_ble_eq_true rfl, Nat.le_of_ble_eq_true rfl⟩ ⟨Nat.zero_le _, Nat.zero_le _⟩ rfl hl.1 rfl (Nat.le_of_ble_eq_true rfl) (st1 := [.int r22]) rfl dX9_fits_22 (fun H locs hG hS => ?_)
      cases Option.some.inj h
      exact gx_reti C hG hS dX9_fits_25
theorem tX9_fits {Γ : gEnv} {N : Nat} {x0 : Nat} {x1 : Int32} {x2 : Int32} {x3 : Int32} {u v : gM} {r : Int32} (h : fX9_fits x0 x1 x2 x3 u = some (r, v)) : Met l yX9_fits (Cond.code yX9_fits cX9_fits 5 (some .int) :: gW) rmX9_fits (va_Pc [va_rf (some x0), .int x1, .int x2, .int x3] (gPre Γ u N)) (gQ Γ (some (.int r)) v N) 0 0 Γ.2.2.1 :=
  gx_met (nm := "fits") ⟨by decide +kernel, rfl, rfl⟩ (Nat.le_of_ble_eq_true rfl) (fun p e s m below meth c ls C hG hl => wX9_fits C h hG va_S.rf hl)
abbrev rmX9_fittingBits : Room := { frames := 3, cells := 0, slots := 0, locals := 64 }
def fX9_fittingBits_51 (x0 : Nat) (x1 : Int32) (x2 : Int32) (x3 : Int32) (x4 : Int32) (u : gM) (k5 : Nat → Int32 → Int32 → Int32 → Int32 → gM → Option (Int32 × gM)) : Option (Int32 × gM) :=
  k5 x0 x1 x2 x3 (x4 + (1 : Int32)) u
set_option maxHeartbeats 4000000 in
set_option maxRecDepth 20000 in
theorem wX9_fittingBits_51  (C : gC p s m args meth c cX9_fittingBits 5 (some .int) RX9 "fittingBits" Γ){x0 : Nat} {x1 : Int32} {x2 : Int32} {x3 : Int32} {x4 : Int32} {u : gM} {res : Int32 × gM} {k5 : Nat → Int32 → Int32 → Int32 → Int32 → gM → Option (Int32 × gM)} (hk5 : ∀ (x0 : Nat) (x1 : Int32) (x2 : Int32) (x3 : Int32) (x4 : Int32) (u : gM) (H : Heap) (locs : List Loc) (ls : Array Slot), k5 x0 x1 x2 x3 x4 u = some res → gAg Γ u N H → va_S Γ.2.2.1 s.heap H locs → lv_has ls 5 [(0, va_rf (some x0)), (1, .int x1), (2, .int x2), (3, .int x3), (4, .int x4)] → W p l e rmX9_fittingBits s m args below meth c H locs 0 0 (MQ below (gQ Γ (some (.int res.1)) res.2 N) args s 0 0 Γ.2.2.1) (F0 m 5 ls [])) (h : fX9_fittingBits_51 x0 x1 x2 x3 x4 u k5 = some res) {H : Heap} {locs : List Loc} (hG : gAg Γ u N H) (hS : va_S Γ.2.2.1 s.heap H locs) {ls : Array Slot} (hl : lv_has ls 5 [(0, va_rf (some x0)), (1, .int x1), (2, .int x2), (3, .int x3), (4, .int x4)]) : W p l e rmX9_fittingBits s m args below meth c H locs 0 0 (MQ below (gQ Γ (some (.int res.1)) res.2 N) args s 0 0 Γ.2.2.1) (F0 m 51 ls []) := by
  have hx := C.1
  have hb := C.2.1
  unfold fX9_fittingBits_51 at h
  refine lv_iinc (v := x4 + (1 : Int32)) (lv' := [(4, .int (x4 + (1 : Int32))), (0, va_rf (some x0)), (1, .int x1), (2, .int x2), (3, .int x3)]) hx hb dX9_fittingBits_51 hl (k := 4) rfl rfl (by decide) rfl (fun ls hl => ?_)
  refine lv_goto (tgt := 5) hx hb dX9_fittingBits_54 (by decide) ?_
  exact hk5 _ _ _ _ _ _ _ _ _ h hG hS (lv_sub hl [1, 2, 3, 4, 0] rfl)
def fX9_fittingBits_5_b (x0 : Nat) (x1 : Int32) (x2 : Int32) (x3 : Int32) (x4 : Int32) (u : gM) (k5 : Nat → Int32 → Int32 → Int32 → Int32 → gM → Option (Int32 × gM)) : Option (Int32 × gM) :=
  (gR [10] 2 u x0).bind fun v8 =>
  (v8).bind fun a11 =>
  (gO [0] u a11).bind fun _ =>
  bI (fJx4a65c_size_8abf5 a11 u) fun r11 u11 =>
  if r11 ≤ x4 then (
    some (x3, u11)
  ) else (
    (gR [10] 2 u11 x0).bind fun v18 =>
    (v18).bind fun a23 =>
    (gO [0] u11 a23).bind fun _ =>
    bI (fJx4a65c_get_915e3 a23 x4 u11) fun r23 u23 =>
    (kC [1] u23 r23).bind fun _ =>
    (r23).bind fun a38 =>
    (gO [1] u23 a38).bind fun _ =>
    bI (fX0_takes a38 x1 (x2 / (10 : Int32)) (x2 - x2 / (10 : Int32) * (10 : Int32)) u23) fun r38 u38 =>
    if r38 = 0 then (
      fX9_fittingBits_51 x0 x1 x2 x3 x4 u38 k5
    ) else (
      pU (x3 ||| ((1 : Int32) <<< (x4 &&& 31))) fun z50 =>
      fX9_fittingBits_51 x0 x1 x2 z50 x4 u38 k5
    )
  )
set_option maxHeartbeats 4000000 in
set_option maxRecDepth 20000 in
theorem wX9_fittingBits_5_b  (C : gC p s m args meth c cX9_fittingBits 5 (some .int) RX9 "fittingBits" Γ){x0 : Nat} {x1 : Int32} {x2 : Int32} {x3 : Int32} {x4 : Int32} {u : gM} {res : Int32 × gM} {k5 : Nat → Int32 → Int32 → Int32 → Int32 → gM → Option (Int32 × gM)} (hk5 : ∀ (x0 : Nat) (x1 : Int32) (x2 : Int32) (x3 : Int32) (x4 : Int32) (u : gM) (H : Heap) (locs : List Loc) (ls : Array Slot), k5 x0 x1 x2 x3 x4 u = some res → gAg Γ u N H → va_S Γ.2.2.1 s.heap H locs → lv_has ls 5 [(0, va_rf (some x0)), (1, .int x1), (2, .int x2), (3, .int x3), (4, .int x4)] → W p l e rmX9_fittingBits s m args below meth c H locs 0 0 (MQ below (gQ Γ (some (.int res.1)) res.2 N) args s 0 0 Γ.2.2.1) (F0 m 5 ls [])) (h : fX9_fittingBits_5_b x0 x1 x2 x3 x4 u k5 = some res) {H : Heap} {locs : List Loc} (hG : gAg Γ u N H) (hS : va_S Γ.2.2.1 s.heap H locs) {ls : Array Slot} (hl : lv_has ls 5 [(0, va_rf (some x0)), (1, .int x1), (2, .int x2), (3, .int x3), (4, .int x4)]) : W p l e rmX9_fittingBits s m args below meth c H locs 0 0 (MQ below (gQ Γ (some (.int res.1)) res.2 N) args s 0 0 Γ.2.2.1) (F0 m 5 ls []) := by
  have hx := C.1
  have hb := C.2.1
  unfold fX9_fittingBits_5_b at h
  refine lv_iload hx hb dX9_fittingBits_5 (lv_at hl 4 rfl) ?_
  refine gx_aload_n (r := (some x0)) hx hb dX9_fittingBits_7 rfl (lv_at hl 0 rfl) ?_
  obtain ⟨v8, e8, h⟩ := ob h
  refine gx_getR C hG rfl e8 fgX9_19 dX9_fittingBits_8 ?_
  obtain ⟨a11, na11, h⟩ := ob h
  obtain ⟨_, eo11, h⟩ := ob h
  obtain ⟨r11, u11, e11, h⟩ := obI h
  refine gx_cV C hG hS [] na11 eo11 (tJx4a65c_size_8abf5 e11) qcX9_93 ⟨rfl, rfl, Nat.le_of_ble_eq_true rfl, Nat.le_of_ble_eq_true rfl⟩ ⟨Nat.zero_le _, Nat.zero_le _⟩ rfl hl.1 rfl (Nat.le_of_ble_eq_true rfl) (st1 := [.int r11, .int x4]) rfl dX9_fittingBits_11 (fun H locs hG hS => ?_)
  refine lv_icmp_ge (tgt := 57) hx hb dX9_fittingBits_14 (by decide) (fun hc => ?_) (fun hc => ?_)
  · replace h := it_pos hc h
    refine lv_iload_n hx hb dX9_fittingBits_57 rfl (lv_at hl 3 rfl) ?_
    cases Option.some.inj h
    exact gx_reti C hG hS dX9_fittingBits_58
  · replace h := it_neg hc h
    refine gx_aload_n (r := (some x0)) hx hb dX9_fittingBits_17 rfl (lv_at hl 0 rfl) ?_
    obtain ⟨v18, e18, h⟩ := ob h
    refine gx_getR C hG rfl e18 fgX9_19 dX9_fittingBits_18 ?_
    refine lv_iload hx hb dX9_fittingBits_21 (lv_at hl 4 rfl) ?_
    obtain ⟨a23, na23, h⟩ := ob h
    obtain ⟨_, eo23, h⟩ := ob h
    obtain ⟨r23, u23, e23, h⟩ := obI h
    refine gx_cV C hG hS [.int x4] na23 eo23 (tJx4a65c_get_915e3 e23) qcX9_144 ⟨rfl, rfl, Nat.le_of_ble_eq_true rfl, Nat.le_of_ble_eq_true rfl⟩ ⟨Nat.zero_le _, Nat.zero_le _⟩ rfl hl.1 rfl (Nat.le_of_ble_eq_true rfl) (st1 := [va_rf r23]) rfl dX9_fittingBits_23 (fun H locs hG hS => ?_)
    obtain ⟨_, e26, h⟩ := ob h
    refine gx_cast C hG e26 ckX9_211 dX9_fittingBits_26 ?_
    refine lv_iload_n hx hb dX9_fittingBits_29 rfl (lv_at hl 1 rfl) ?_
    refine lv_iload_n hx hb dX9_fittingBits_30 rfl (lv_at hl 2 rfl) ?_
    refine lv_bipush (v := 10) hx hb dX9_fittingBits_31 (by decide) ?_
    refine lv_idiv hx hb dX9_fittingBits_33 (by decide) ?_
    refine lv_iload_n hx hb dX9_fittingBits_34 rfl (lv_at hl 2 rfl) ?_
    refine lv_bipush (v := 10) hx hb dX9_fittingBits_35 (by decide) ?_
    refine lv_irem hx hb dX9_fittingBits_37 (by decide) ?_
    obtain ⟨a38, na38, h⟩ := ob h
    obtain ⟨_, eo38, h⟩ := ob h
    obtain ⟨r38, u38, e38, h⟩ := obI h
    refine gx_cV C hG hS [.int x1, .int (x2 / (10 : Int32)), .int (x2 - x2 / (10 : Int32) * (10 : Int32))] na38 eo38 (tX0_takes e38) qcX9_230 ⟨rfl, rfl, Nat.le_of_ble_eq_true rfl, Nat.le_of_ble_eq_true rfl⟩ ⟨Nat.zero_le _, Nat.zero_le _⟩ rfl hl.1 rfl (Nat.le_of_ble_eq_true rfl) (st1 := [.int r38]) rfl dX9_fittingBits_38 (fun H locs hG hS => ?_)
    refine lv_if_eq (tgt := 51) hx hb dX9_fittingBits_41 (by decide) (fun hc => ?_) (fun hc => ?_)
    · replace h := it_pos hc h
      exact wX9_fittingBits_51 C hk5 h hG hS (lv_sub hl [0, 1, 2, 3, 4] rfl)
    · replace h := it_neg hc h
      refine lv_iload_n hx hb dX9_fittingBits_44 rfl (lv_at hl 3 rfl) ?_
      refine lv_iconst (v := 1) hx hb dX9_fittingBits_45 (by decide) ?_
      refine lv_iload hx hb dX9_fittingBits_46 (lv_at hl 4 rfl) ?_
      refine lv_ishl hx hb dX9_fittingBits_48 ?_
      refine lv_ior hx hb dX9_fittingBits_49 ?_
      obtain ⟨z50, ez50, h⟩ := op h
      refine gx_topI ez50 ?_
      refine lv_istore_n (i := 3) (lv' := [(3, .int z50), (0, va_rf (some x0)), (1, .int x1), (2, .int x2), (4, .int x4)]) hx hb dX9_fittingBits_50 rfl hl (by decide) rfl (fun ls hl => ?_)
      exact wX9_fittingBits_51 C hk5 h hG hS (lv_sub hl [1, 2, 3, 0, 4] rfl)
def fX9_fittingBits_5 : Nat → Nat → Int32 → Int32 → Int32 → Int32 → gM → Option (Int32 × gM)
  | 0 => fun _ _ _ _ _ _ => none
  | n + 1 => fun x0 x1 x2 x3 x4 u => fX9_fittingBits_5_b x0 x1 x2 x3 x4 u (fX9_fittingBits_5 n) 
theorem wX9_fittingBits_5 (C : gC p s m args meth c cX9_fittingBits 5 (some .int) RX9 "fittingBits" Γ) {res : Int32 × gM} (n : Nat) : ∀ {x0 : Nat} {x1 : Int32} {x2 : Int32} {x3 : Int32} {x4 : Int32} {u : gM} {H : Heap} {locs : List Loc} {ls : Array Slot}, fX9_fittingBits_5 n x0 x1 x2 x3 x4 u = some res → gAg Γ u N H → va_S Γ.2.2.1 s.heap H locs → lv_has ls 5 [(0, va_rf (some x0)), (1, .int x1), (2, .int x2), (3, .int x3), (4, .int x4)] → W p l e rmX9_fittingBits s m args below meth c H locs 0 0 (MQ below (gQ Γ (some (.int res.1)) res.2 N) args s 0 0 Γ.2.2.1) (F0 m 5 ls []) := by
  induction n with
  | zero => intro _ _ _ _ _ _ _ _ _ h _ _ _; cases (show (none : Option (Int32 × gM)) = some res from h)
  | succ n ih => intro _ _ _ _ _ _ _ _ _ h hG hS hl; exact wX9_fittingBits_5_b C (fun _ _ _ _ _ _ _ _ _ h hG hS hl => ih h hG hS hl) h hG hS hl
def fX9_fittingBits (x0 : Nat) (x1 : Int32) (x2 : Int32) (u : gM) : Option (Int32 × gM) :=
  fX9_fittingBits_5  FU x0 x1 x2 (0 : Int32) (0 : Int32) u
set_option maxHeartbeats 4000000 in
set_option maxRecDepth 20000 in
theorem wX9_fittingBits  (C : gC p s m args meth c cX9_fittingBits 5 (some .int) RX9 "fittingBits" Γ){x0 : Nat} {x1 : Int32} {x2 : Int32} {u : gM} {res : Int32 × gM} (h : fX9_fittingBits x0 x1 x2 u = some res) {H : Heap} {locs : List Loc} (hG : gAg Γ u N H) (hS : va_S Γ.2.2.1 s.heap H locs) {ls : Array Slot} (hl : lv_has ls 5 [(0, va_rf (some x0)), (1, .int x1), (2, .int x2)]) : W p l e rmX9_fittingBits s m args below meth c H locs 0 0 (MQ below (gQ Γ (some (.int res.1)) res.2 N) args s 0 0 Γ.2.2.1) (F0 m 0 ls []) := by
  have hx := C.1
  have hb := C.2.1
  unfold fX9_fittingBits at h
  refine lv_iconst (v := 0) hx hb dX9_fittingBits_0 (by decide) ?_
  refine lv_istore_n (i := 3) (lv' := [(3, .int (0 : Int32)), (0, va_rf (some x0)), (1, .int x1), (2, .int x2)]) hx hb dX9_fittingBits_1 rfl hl (by decide) rfl (fun ls hl => ?_)
  refine lv_iconst (v := 0) hx hb dX9_fittingBits_2 (by decide) ?_
  refine lv_istore (i := 4) (lv' := [(4, .int (0 : Int32)), (3, .int (0 : Int32)), (0, va_rf (some x0)), (1, .int x1), (2, .int x2)]) hx hb dX9_fittingBits_3 hl (by decide) rfl (fun ls hl => ?_)
  exact wX9_fittingBits_5 C  FU h hG hS (lv_sub hl [2, 3, 4, 1, 0] rfl)
theorem tX9_fittingBits {Γ : gEnv} {N : Nat} {x0 : Nat} {x1 : Int32} {x2 : Int32} {u v : gM} {r : Int32} (h : fX9_fittingBits x0 x1 x2 u = some (r, v)) : Met l yX9_fittingBits (Cond.code yX9_fittingBits cX9_fittingBits 5 (some .int) :: gW) rmX9_fittingBits (va_Pc [va_rf (some x0), .int x1, .int x2] (gPre Γ u N)) (gQ Γ (some (.int r)) v N) 0 0 Γ.2.2.1 :=
  gx_met (nm := "fittingBits") ⟨by decide +kernel, rfl, rfl⟩ (Nat.le_of_ble_eq_true rfl) (fun p e s m below meth c ls C hG hl => wX9_fittingBits C h hG va_S.rf hl)
abbrev rmX9_rankAmong : Room := { frames := 3, cells := 0, slots := 0, locals := 64 }
def fX9_rankAmong_80 (x0 : Nat) (x1 : Int32) (x2 : Int32) (x3 : Int32) (x4 : Int32) (x5 : Int32) (u : gM) (k21 : Nat → Int32 → Int32 → Int32 → Int32 → Int32 → gM → Option (Int32 × gM)) : Option (Int32 × gM) :=
  k21 x0 x1 x2 x3 x4 (x5 + (1 : Int32)) u
set_option maxHeartbeats 4000000 in
set_option maxRecDepth 20000 in
theorem wX9_rankAmong_80  (C : gC p s m args meth c cX9_rankAmong 7 (some .int) RX9 "rankAmong" Γ){x0 : Nat} {x1 : Int32} {x2 : Int32} {x3 : Int32} {x4 : Int32} {x5 : Int32} {u : gM} {res : Int32 × gM} {k21 : Nat → Int32 → Int32 → Int32 → Int32 → Int32 → gM → Option (Int32 × gM)} (hk21 : ∀ (x0 : Nat) (x1 : Int32) (x2 : Int32) (x3 : Int32) (x4 : Int32) (x5 : Int32) (u : gM) (H : Heap) (locs : List Loc) (ls : Array Slot), k21 x0 x1 x2 x3 x4 x5 u = some res → gAg Γ u N H → va_S Γ.2.2.1 s.heap H locs → lv_has ls 7 [(0, va_rf (some x0)), (1, .int x1), (2, .int x2), (3, .int x3), (4, .int x4), (5, .int x5)] → W p l e rmX9_rankAmong s m args below meth c H locs 0 0 (MQ below (gQ Γ (some (.int res.1)) res.2 N) args s 0 0 Γ.2.2.1) (F0 m 21 ls [])) (h : fX9_rankAmong_80 x0 x1 x2 x3 x4 x5 u k21 = some res) {H : Heap} {locs : List Loc} (hG : gAg Γ u N H) (hS : va_S Γ.2.2.1 s.heap H locs) {ls : Array Slot} (hl : lv_has ls 7 [(0, va_rf (some x0)), (1, .int x1), (2, .int x2), (3, .int x3), (4, .int x4), (5, .int x5)]) : W p l e rmX9_rankAmong s m args below meth c H locs 0 0 (MQ below (gQ Γ (some (.int res.1)) res.2 N) args s 0 0 Γ.2.2.1) (F0 m 80 ls []) := by
  have hx := C.1
  have hb := C.2.1
  unfold fX9_rankAmong_80 at h
  refine lv_iinc (v := x5 + (1 : Int32)) (lv' := [(5, .int (x5 + (1 : Int32))), (0, va_rf (some x0)), (1, .int x1), (2, .int x2), (3, .int x3), (4, .int x4)]) hx hb dX9_rankAmong_80 hl (k := 5) rfl rfl (by decide) rfl (fun ls hl => ?_)
  refine lv_goto (tgt := 21) hx hb dX9_rankAmong_83 (by decide) ?_
  exact hk21 _ _ _ _ _ _ _ _ _ _ h hG hS (lv_sub hl [1, 2, 3, 4, 5, 0] rfl)
def fX9_rankAmong_77 (x0 : Nat) (x1 : Int32) (x2 : Int32) (x3 : Int32) (x4 : Int32) (x5 : Int32) (u : gM) (k21 : Nat → Int32 → Int32 → Int32 → Int32 → Int32 → gM → Option (Int32 × gM)) : Option (Int32 × gM) :=
  fX9_rankAmong_80 x0 x1 x2 x3 (x4 + (1 : Int32)) x5 u k21
set_option maxHeartbeats 4000000 in
set_option maxRecDepth 20000 in
theorem wX9_rankAmong_77  (C : gC p s m args meth c cX9_rankAmong 7 (some .int) RX9 "rankAmong" Γ){x0 : Nat} {x1 : Int32} {x2 : Int32} {x3 : Int32} {x4 : Int32} {x5 : Int32} {u : gM} {res : Int32 × gM} {k21 : Nat → Int32 → Int32 → Int32 → Int32 → Int32 → gM → Option (Int32 × gM)} (hk21 : ∀ (x0 : Nat) (x1 : Int32) (x2 : Int32) (x3 : Int32) (x4 : Int32) (x5 : Int32) (u : gM) (H : Heap) (locs : List Loc) (ls : Array Slot), k21 x0 x1 x2 x3 x4 x5 u = some res → gAg Γ u N H → va_S Γ.2.2.1 s.heap H locs → lv_has ls 7 [(0, va_rf (some x0)), (1, .int x1), (2, .int x2), (3, .int x3), (4, .int x4), (5, .int x5)] → W p l e rmX9_rankAmong s m args below meth c H locs 0 0 (MQ below (gQ Γ (some (.int res.1)) res.2 N) args s 0 0 Γ.2.2.1) (F0 m 21 ls [])) (h : fX9_rankAmong_77 x0 x1 x2 x3 x4 x5 u k21 = some res) {H : Heap} {locs : List Loc} (hG : gAg Γ u N H) (hS : va_S Γ.2.2.1 s.heap H locs) {ls : Array Slot} (hl : lv_has ls 7 [(0, va_rf (some x0)), (1, .int x1), (2, .int x2), (3, .int x3), (4, .int x4), (5, .int x5)]) : W p l e rmX9_rankAmong s m args below meth c H locs 0 0 (MQ below (gQ Γ (some (.int res.1)) res.2 N) args s 0 0 Γ.2.2.1) (F0 m 77 ls []) := by
  have hx := C.1
  have hb := C.2.1
  unfold fX9_rankAmong_77 at h
  refine lv_iinc (v := x4 + (1 : Int32)) (lv' := [(4, .int (x4 + (1 : Int32))), (0, va_rf (some x0)), (1, .int x1), (2, .int x2), (3, .int x3), (5, .int x5)]) hx hb dX9_rankAmong_77 hl (k := 4) rfl rfl (by decide) rfl (fun ls hl => ?_)
  exact wX9_rankAmong_80 C hk21 h hG hS (lv_sub hl [1, 2, 3, 4, 0, 5] rfl)
def fX9_rankAmong_21_b (x0 : Nat) (x1 : Int32) (x2 : Int32) (x3 : Int32) (x4 : Int32) (x5 : Int32) (u : gM) (k21 : Nat → Int32 → Int32 → Int32 → Int32 → Int32 → gM → Option (Int32 × gM)) : Option (Int32 × gM) :=
  (gR [10] 2 u x0).bind fun v24 =>
  (v24).bind fun a27 =>
  (gO [0] u a27).bind fun _ =>
  bI (fJx4a65c_size_8abf5 a27 u) fun r27 u27 =>
  if r27 ≤ x5 then (
    some (x4, u27)
  ) else (
    (gR [10] 2 u27 x0).bind fun v34 =>
    (v34).bind fun a39 =>
    (gO [0] u27 a39).bind fun _ =>
    bI (fJx4a65c_get_915e3 a39 x5 u27) fun r39 u39 =>
    (kC [1] u39 r39).bind fun _ =>
    (r39).bind fun a45 =>
    (gI [1] 2 u39 a45).bind fun v45 =>
    bI (fX9_hasBit x1 x5 u39) fun r53 u53 =>
    if r53 = 0 then (
      fX9_rankAmong_80 x0 x1 x2 x3 x4 x5 u53 k21
    ) else (
      if x3 < v45 then (
        fX9_rankAmong_77 x0 x1 x2 x3 x4 x5 u53 k21
      ) else (
        if v45 = x3 then (
          if x2 ≤ x5 then (
            fX9_rankAmong_80 x0 x1 x2 x3 x4 x5 u53 k21
          ) else (
            fX9_rankAmong_77 x0 x1 x2 x3 x4 x5 u53 k21
          )
        ) else (
          fX9_rankAmong_80 x0 x1 x2 x3 x4 x5 u53 k21
        )
      )
    )
  )
set_option maxHeartbeats 4000000 in
set_option maxRecDepth 20000 in
theorem wX9_rankAmong_21_b  (C : gC p s m args meth c cX9_rankAmong 7 (some .int) RX9 "rankAmong" Γ){x0 : Nat} {x1 : Int32} {x2 : Int32} {x3 : Int32} {x4 : Int32} {x5 : Int32} {u : gM} {res : Int32 × gM} {k21 : Nat → Int32 → Int32 → Int32 → Int32 → Int32 → gM → Option (Int32 × gM)} (hk21 : ∀ (x0 : Nat) (x1 : Int32) (x2 : Int32) (x3 : Int32) (x4 : Int32) (x5 : Int32) (u : gM) (H : Heap) (locs : List Loc) (ls : Array Slot), k21 x0 x1 x2 x3 x4 x5 u = some res → gAg Γ u N H → va_S Γ.2.2.1 s.heap H locs → lv_has ls 7 [(0, va_rf (some x0)), (1, .int x1), (2, .int x2), (3, .int x3), (4, .int x4), (5, .int x5)] → W p l e rmX9_rankAmong s m args below meth c H locs 0 0 (MQ below (gQ Γ (some (.int res.1)) res.2 N) args s 0 0 Γ.2.2.1) (F0 m 21 ls [])) (h : fX9_rankAmong_21_b x0 x1 x2 x3 x4 x5 u k21 = some res) {H : Heap} {locs : List Loc} (hG : gAg Γ u N H) (hS : va_S Γ.2.2.1 s.heap H locs) {ls : Array Slot} (hl : lv_has ls 7 [(0, va_rf (some x0)), (1, .int x1), (2, .int x2), (3, .int x3), (4, .int x4), (5, .int x5)]) : W p l e rmX9_rankAmong s m args below meth c H locs 0 0 (MQ below (gQ Γ (some (.int res.1)) res.2 N) args s 0 0 Γ.2.2.1) (F0 m 21 ls []) := by
  have hx := C.1
  have hb := C.2.1
  unfold fX9_rankAmong_21_b at h
  refine lv_iload hx hb dX9_rankAmong_21 (lv_at hl 5 rfl) ?_
  refine gx_aload_n (r := (some x0)) hx hb dX9_rankAmong_23 rfl (lv_at hl 0 rfl) ?_
  obtain ⟨v24, e24, h⟩ := ob h
  refine gx_getR C hG rfl e24 fgX9_19 dX9_rankAmong_24 ?_
  obtain ⟨a27, na27, h⟩ := ob h
  obtain ⟨_, eo27, h⟩ := ob h
  obtain ⟨r27, u27, e27, h⟩ := obI h
  refine gx_cV C hG hS [] na27 eo27 (tJx4a65c_size_8abf5 e27) qcX9_93 ⟨rfl, rfl, Nat.le_of_ble_eq_true rfl, Nat.le_of_ble_eq_true rfl⟩ ⟨Nat.zero_le _, Nat.zero_le _⟩ rfl hl.1 rfl (Nat.le_of_ble_eq_true rfl) (st1 := [.int r27, .int x5]) rfl dX9_rankAmong_27 (fun H locs hG hS => ?_)
  refine lv_icmp_ge (tgt := 86) hx hb dX9_rankAmong_30 (by decide) (fun hc => ?_) (fun hc => ?_)
  · replace h := it_pos hc h
    refine lv_iload hx hb dX9_rankAmong_86 (lv_at hl 4 rfl) ?_
    cases Option.some.inj h
    exact gx_reti C hG hS dX9_rankAmong_88
  · replace h := it_neg hc h
    refine gx_aload_n (r := (some x0)) hx hb dX9_rankAmong_33 rfl (lv_at hl 0 rfl) ?_
    obtain ⟨v34, e34, h⟩ := ob h
    refine gx_getR C hG rfl e34 fgX9_19 dX9_rankAmong_34 ?_
    refine lv_iload hx hb dX9_rankAmong_37 (lv_at hl 5 rfl) ?_
    obtain ⟨a39, na39, h⟩ := ob h
    obtain ⟨_, eo39, h⟩ := ob h
    obtain ⟨r39, u39, e39, h⟩ := obI h
    refine gx_cV C hG hS [.int x5] na39 eo39 (tJx4a65c_get_915e3 e39) qcX9_144 ⟨rfl, rfl, Nat.le_of_ble_eq_true rfl, Nat.le_of_ble_eq_true rfl⟩ ⟨Nat.zero_le _, Nat.zero_le _⟩ rfl hl.1 rfl (Nat.le_of_ble_eq_true rfl) (st1 := [va_rf r39]) rfl dX9_rankAmong_39 (fun H locs hG hS => ?_)
    obtain ⟨_, e42, h⟩ := ob h
    refine gx_cast C hG e42 ckX9_211 dX9_rankAmong_42 ?_
    obtain ⟨a45, na45, h⟩ := ob h
    obtain ⟨v45, e45, h⟩ := ob h
    refine gx_getI C hG na45 e45 fgX9_223 dX9_rankAmong_45 ?_
    refine lv_istore (i := 6) (lv' := [(6, .int v45), (0, va_rf (some x0)), (1, .int x1), (2, .int x2), (3, .int x3), (4, .int x4), (5, .int x5)]) hx hb dX9_rankAmong_48 hl (by decide) rfl (fun ls hl => ?_)
    refine lv_iload_n hx hb dX9_rankAmong_50 rfl (lv_at hl 2 rfl) ?_
    refine lv_iload hx hb dX9_rankAmong_51 (lv_at hl 6 rfl) ?_
    obtain ⟨r53, u53, e53, h⟩ := obI h
    refine gx_cS C hG hS [.int x1, .int x5] (tX9_hasBit e53) qcX9_237 ⟨rfl, rfl, Nat.le_of_ble_eq_true rfl, Nat.le_of_ble_eq_true rfl⟩ ⟨Nat.zero_le _, Nat.zero_le _⟩ rfl hl.1 rfl (Nat.le_of_ble_eq_true rfl) (st1 := [.int r53]) rfl dX9_rankAmong_53 (fun H locs hG hS => ?_)
    refine lv_if_eq (tgt := 80) hx hb dX9_rankAmong_56 (by decide) (fun hc => ?_) (fun hc => ?_)
    · replace h := it_pos hc h
      exact wX9_rankAmong_80 C hk21 h hG hS (lv_sub hl [1, 2, 3, 4, 5, 6] rfl)
    · replace h := it_neg hc h
      refine lv_iload hx hb dX9_rankAmong_59 (lv_at hl 0 rfl) ?_
      refine lv_iload_n hx hb dX9_rankAmong_61 rfl (lv_at hl 4 rfl) ?_
      refine lv_icmp_gt (tgt := 77) hx hb dX9_rankAmong_62 (by decide) (fun hc => ?_) (fun hc => ?_)
      · replace h := it_pos hc h
        exact wX9_rankAmong_77 C hk21 h hG hS (lv_sub hl [1, 2, 3, 4, 5, 6] rfl)
      · replace h := it_neg hc h
        refine lv_iload hx hb dX9_rankAmong_65 (lv_at hl 0 rfl) ?_
        refine lv_iload_n hx hb dX9_rankAmong_67 rfl (lv_at hl 4 rfl) ?_
        refine lv_icmp_ne (tgt := 80) hx hb dX9_rankAmong_68 (by decide) (fun hc => ?_) (fun hc => ?_)
        · replace h := it_neg hc h
          exact wX9_rankAmong_80 C hk21 h hG hS (lv_sub hl [1, 2, 3, 4, 5, 6] rfl)
        · replace h := it_pos hc h
          refine lv_iload hx hb dX9_rankAmong_71 (lv_at hl 6 rfl) ?_
          refine lv_iload_n hx hb dX9_rankAmong_73 rfl (lv_at hl 3 rfl) ?_
          refine lv_icmp_ge (tgt := 80) hx hb dX9_rankAmong_74 (by decide) (fun hc => ?_) (fun hc => ?_)
          · replace h := it_pos hc h
            exact wX9_rankAmong_80 C hk21 h hG hS (lv_sub hl [1, 2, 3, 4, 5, 6] rfl)
          · replace h := it_neg hc h
            exact wX9_rankAmong_77 C hk21 h hG hS (lv_sub hl [1, 2, 3, 4, 5, 6] rfl)
def fX9_rankAmong_21 : Nat → Nat → Int32 → Int32 → Int32 → Int32 → Int32 → gM → Option (Int32 × gM)
  | 0 => fun _ _ _ _ _ _ _ => none
  | n + 1 => fun x0 x1 x2 x3 x4 x5 u => fX9_rankAmong_21_b x0 x1 x2 x3 x4 x5 u (fX9_rankAmong_21 n) 
theorem wX9_rankAmong_21 (C : gC p s m args meth c cX9_rankAmong 7 (some .int) RX9 "rankAmong" Γ) {res : Int32 × gM} (n : Nat) : ∀ {x0 : Nat} {x1 : Int32} {x2 : Int32} {x3 : Int32} {x4 : Int32} {x5 : Int32} {u : gM} {H : Heap} {locs : List Loc} {ls : Array Slot}, fX9_rankAmong_21 n x0 x1 x2 x3 x4 x5 u = some res → gAg Γ u N H → va_S Γ.2.2.1 s.heap H locs → lv_has ls 7 [(0, va_rf (some x0)), (1, .int x1), (2, .int x2), (3, .int x3), (4, .int x4), (5, .int x5)] → W p l e rmX9_rankAmong s m args below meth c H locs 0 0 (MQ below (gQ Γ (some (.int res.1)) res.2 N) args s 0 0 Γ.2.2.1) (F0 m 21 ls []) := by
  induction n with
  | zero => intro _ _ _ _ _ _ _ _ _ _ h _ _ _; cases (show (none : Option (Int32 × gM)) = some res from h)
  | succ n ih => intro _ _ _ _ _ _ _ _ _ _ h hG hS hl; exact wX9_rankAmong_21_b C (fun _ _ _ _ _ _ _ _ _ _ h hG hS hl => ih h hG hS hl) h hG hS hl
def fX9_rankAmong (x0 : Nat) (x1 : Int32) (x2 : Int32) (u : gM) : Option (Int32 × gM) :=
  (gR [10] 2 u x0).bind fun v1 =>
  (v1).bind fun a5 =>
  (gO [0] u a5).bind fun _ =>
  bI (fJx4a65c_get_915e3 a5 x2 u) fun r5 u5 =>
  (kC [1] u5 r5).bind fun _ =>
  (r5).bind fun a11 =>
  (gI [1] 2 u5 a11).bind fun v11 =>
  fX9_rankAmong_21  FU x0 x1 x2 v11 (0 : Int32) (0 : Int32) u5
set_option maxHeartbeats 4000000 in
set_option maxRecDepth 20000 in
theorem wX9_rankAmong  (C : gC p s m args meth c cX9_rankAmong 7 (some .int) RX9 "rankAmong" Γ){x0 : Nat} {x1 : Int32} {x2 : Int32} {u : gM} {res : Int32 × gM} (h : fX9_rankAmong x0 x1 x2 u = some res) {H : Heap} {locs : List Loc} (hG : gAg Γ u N H) (hS : va_S Γ.2.2.1 s.heap H locs) {ls : Array Slot} (hl : lv_has ls 7 [(0, va_rf (some x0)), (1, .int x1), (2, .int x2)]) : W p l e rmX9_rankAmong s m args below meth c H locs 0 0 (MQ below (gQ Γ (some (.int res.1)) res.2 N) args s 0 0 Γ.2.2.1) (F0 m 0 ls []) := by
  have hx := C.1
  have hb := C.2.1
  unfold fX9_rankAmong at h
  refine gx_aload_n (r := (some x0)) hx hb dX9_rankAmong_0 rfl (lv_at hl 0 rfl) ?_
  obtain ⟨v1, e1, h⟩ := ob h
  refine gx_getR C hG rfl e1 fgX9_19 dX9_rankAmong_1 ?_
  refine lv_iload_n hx hb dX9_rankAmong_4 rfl (lv_at hl 2 rfl) ?_
  obtain ⟨a5, na5, h⟩ := ob h
  obtain ⟨_, eo5, h⟩ := ob h
  obtain ⟨r5, u5, e5, h⟩ := obI h
  refine gx_cV C hG hS [.int x2] na5 eo5 (tJx4a65c_get_915e3 e5) qcX9_144 ⟨rfl, rfl, Nat.le_of_ble_eq_true rfl, Nat.le_of_ble_eq_true rfl⟩ ⟨Nat.zero_le _, Nat.zero_le _⟩ rfl hl.1 rfl (Nat.le_of_ble_eq_true rfl) (st1 := [va_rf r5]) rfl dX9_rankAmong_5 (fun H locs hG hS => ?_)
  obtain ⟨_, e8, h⟩ := ob h
  refine gx_cast C hG e8 ckX9_211 dX9_rankAmong_8 ?_
  obtain ⟨a11, na11, h⟩ := ob h
  obtain ⟨v11, e11, h⟩ := ob h
  refine gx_getI C hG na11 e11 fgX9_223 dX9_rankAmong_11 ?_
  refine lv_istore_n (i := 3) (lv' := [(3, .int v11), (0, va_rf (some x0)), (1, .int x1), (2, .int x2)]) hx hb dX9_rankAmong_14 rfl hl (by decide) rfl (fun ls hl => ?_)
  refine lv_iconst (v := 0) hx hb dX9_rankAmong_15 (by decide) ?_
  refine lv_istore (i := 4) (lv' := [(4, .int (0 : Int32)), (3, .int v11), (0, va_rf (some x0)), (1, .int x1), (2, .int x2)]) hx hb dX9_rankAmong_16 hl (by decide) rfl (fun ls hl => ?_)
  refine lv_iconst (v := 0) hx hb dX9_rankAmong_18 (by decide) ?_
  refine lv_istore (i := 5) (lv' := [(5, .int (0 : Int32)), (4, .int (0 : Int32)), (3, .int v11), (0, va_rf (some x0)), (1, .int x1), (2, .int x2)]) hx hb dX9_rankAmong_19 hl (by decide) rfl (fun ls hl => ?_)
  exact wX9_rankAmong_21 C  FU h hG hS (lv_sub hl [3, 4, 5, 2, 1, 0] rfl)
theorem tX9_rankAmong {Γ : gEnv} {N : Nat} {x0 : Nat} {x1 : Int32} {x2 : Int32} {u v : gM} {r : Int32} (h : fX9_rankAmong x0 x1 x2 u = some (r, v)) : Met l yX9_rankAmong (Cond.code yX9_rankAmong cX9_rankAmong 7 (some .int) :: gW) rmX9_rankAmong (va_Pc [va_rf (some x0), .int x1, .int x2] (gPre Γ u N)) (gQ Γ (some (.int r)) v N) 0 0 Γ.2.2.1 :=
  gx_met (nm := "rankAmong") ⟨by decide +kernel, rfl, rfl⟩ (Nat.le_of_ble_eq_true rfl) (fun p e s m below meth c ls C hG hl => wX9_rankAmong C h hG va_S.rf hl)
abbrev rmX9_likely : Room := { frames := 4, cells := 0, slots := 0, locals := 90 }
def fX9_likely_66 (x0 : Nat) (x3 : Int32) (x4 : Int32) (x5 : Int32) (u : gM) (k29 : Nat → Int32 → Int32 → Int32 → gM → Option (Int32 × gM)) : Option (Int32 × gM) :=
  k29 x0 x3 x4 (x5 + (1 : Int32)) u
set_option maxHeartbeats 4000000 in
set_option maxRecDepth 20000 in
theorem wX9_likely_66  (C : gC p s m args meth c cX9_likely 6 (some .int) RX9 "likely" Γ){x0 : Nat} {x3 : Int32} {x4 : Int32} {x5 : Int32} {u : gM} {res : Int32 × gM} {k29 : Nat → Int32 → Int32 → Int32 → gM → Option (Int32 × gM)} (hk29 : ∀ (x0 : Nat) (x3 : Int32) (x4 : Int32) (x5 : Int32) (u : gM) (H : Heap) (locs : List Loc) (ls : Array Slot), k29 x0 x3 x4 x5 u = some res → gAg Γ u N H → va_S Γ.2.2.1 s.heap H locs → lv_has ls 6 [(0, va_rf (some x0)), (3, .int x3), (4, .int x4), (5, .int x5)] → W p l e rmX9_likely s m args below meth c H locs 0 0 (MQ below (gQ Γ (some (.int res.1)) res.2 N) args s 0 0 Γ.2.2.1) (F0 m 29 ls [])) (h : fX9_likely_66 x0 x3 x4 x5 u k29 = some res) {H : Heap} {locs : List Loc} (hG : gAg Γ u N H) (hS : va_S Γ.2.2.1 s.heap H locs) {ls : Array Slot} (hl : lv_has ls 6 [(0, va_rf (some x0)), (3, .int x3), (4, .int x4), (5, .int x5)]) : W p l e rmX9_likely s m args below meth c H locs 0 0 (MQ below (gQ Γ (some (.int res.1)) res.2 N) args s 0 0 Γ.2.2.1) (F0 m 66 ls []) := by
  have hx := C.1
  have hb := C.2.1
  unfold fX9_likely_66 at h
  refine lv_iinc (v := x5 + (1 : Int32)) (lv' := [(5, .int (x5 + (1 : Int32))), (0, va_rf (some x0)), (3, .int x3), (4, .int x4)]) hx hb dX9_likely_66 hl (k := 3) rfl rfl (by decide) rfl (fun ls hl => ?_)
  refine lv_goto (tgt := 29) hx hb dX9_likely_69 (by decide) ?_
  exact hk29 _ _ _ _ _ _ _ _ h hG hS (lv_sub hl [1, 2, 3, 0] rfl)
def fX9_likely_29_b (x0 : Nat) (x3 : Int32) (x4 : Int32) (x5 : Int32) (u : gM) (k29 : Nat → Int32 → Int32 → Int32 → gM → Option (Int32 × gM)) : Option (Int32 × gM) :=
  (gR [10] 2 u x0).bind fun v32 =>
  (v32).bind fun a35 =>
  (gO [0] u a35).bind fun _ =>
  bI (fJx4a65c_size_8abf5 a35 u) fun r35 u35 =>
  if r35 ≤ x5 then (
    (gO [10] u35 x0).bind fun _ =>
    bI (fX9_finding x0 (2 : Int32) u35) fun r74 u74 =>
    some (r74, u74)
  ) else (
    bI (fX9_hasBit x4 x5 u35) fun r45 u45 =>
    if r45 = 0 then (
      fX9_likely_66 x0 x3 x4 x5 u45 k29
    ) else (
      (gO [10] u45 x0).bind fun _ =>
      bI (fX9_rankAmong x0 x4 x5 u45) fun r56 u56 =>
      if r56 = x3 then (
        some (x5, u56)
      ) else (
        fX9_likely_66 x0 x3 x4 x5 u56 k29
      )
    )
  )
set_option maxHeartbeats 4000000 in
set_option maxRecDepth 20000 in
theorem wX9_likely_29_b  (C : gC p s m args meth c cX9_likely 6 (some .int) RX9 "likely" Γ){x0 : Nat} {x3 : Int32} {x4 : Int32} {x5 : Int32} {u : gM} {res : Int32 × gM} {k29 : Nat → Int32 → Int32 → Int32 → gM → Option (Int32 × gM)} (hk29 : ∀ (x0 : Nat) (x3 : Int32) (x4 : Int32) (x5 : Int32) (u : gM) (H : Heap) (locs : List Loc) (ls : Array Slot), k29 x0 x3 x4 x5 u = some res → gAg Γ u N H → va_S Γ.2.2.1 s.heap H locs → lv_has ls 6 [(0, va_rf (some x0)), (3, .int x3), (4, .int x4), (5, .int x5)] → W p l e rmX9_likely s m args below meth c H locs 0 0 (MQ below (gQ Γ (some (.int res.1)) res.2 N) args s 0 0 Γ.2.2.1) (F0 m 29 ls [])) (h : fX9_likely_29_b x0 x3 x4 x5 u k29 = some res) {H : Heap} {locs : List Loc} (hG : gAg Γ u N H) (hS : va_S Γ.2.2.1 s.heap H locs) {ls : Array Slot} (hl : lv_has ls 6 [(0, va_rf (some x0)), (3, .int x3), (4, .int x4), (5, .int x5)]) : W p l e rmX9_likely s m args below meth c H locs 0 0 (MQ below (gQ Γ (some (.int res.1)) res.2 N) args s 0 0 Γ.2.2.1) (F0 m 29 ls []) := by
  have hx := C.1
  have hb := C.2.1
  unfold fX9_likely_29_b at h
  refine lv_iload hx hb dX9_likely_29 (lv_at hl 3 rfl) ?_
  refine gx_aload_n (r := (some x0)) hx hb dX9_likely_31 rfl (lv_at hl 0 rfl) ?_
  obtain ⟨v32, e32, h⟩ := ob h
  refine gx_getR C hG rfl e32 fgX9_19 dX9_likely_32 ?_
  obtain ⟨a35, na35, h⟩ := ob h
  obtain ⟨_, eo35, h⟩ := ob h
  obtain ⟨r35, u35, e35, h⟩ := obI h
  refine gx_cV C hG hS [] na35 eo35 (tJx4a65c_size_8abf5 e35) qcX9_93 ⟨rfl, rfl, Nat.le_of_ble_eq_true rfl, Nat.le_of_ble_eq_true rfl⟩ ⟨Nat.zero_le _, Nat.zero_le _⟩ rfl hl.1 rfl (Nat.le_of_ble_eq_true rfl) (st1 := [.int r35, .int x5]) rfl dX9_likely_35 (fun H locs hG hS => ?_)
  refine lv_icmp_ge (tgt := 72) hx hb dX9_likely_38 (by decide) (fun hc => ?_) (fun hc => ?_)
  · replace h := it_pos hc h
    refine gx_aload_n (r := (some x0)) hx hb dX9_likely_72 rfl (lv_at hl 0 rfl) ?_
    refine lv_iconst (v := 2) hx hb dX9_likely_73 (by decide) ?_
    obtain ⟨_, eo74, h⟩ := ob h
    obtain ⟨r74, u74, e74, h⟩ := obI h
    refine gx_cV C hG hS [.int (2 : Int32)] rfl eo74 (tX9_finding e74) qcX9_89 ⟨rfl, rfl, Nat.le_of_ble_eq_true rfl, Nat.le_of_ble_eq_true rfl⟩ ⟨Nat.zero_le _, Nat.zero_le _⟩ rfl hl.1 rfl (Nat.le_of_ble_eq_true rfl) (st1 := [.int r74]) rfl dX9_likely_74 (fun H locs hG hS => ?_)
    cases Option.some.inj h
    exact gx_reti C hG hS dX9_likely_77
  · replace h := it_neg hc h
    refine lv_iload hx hb dX9_likely_41 (lv_at hl 2 rfl) ?_
    refine lv_iload hx hb dX9_likely_43 (lv_at hl 3 rfl) ?_
    obtain ⟨r45, u45, e45, h⟩ := obI h
    refine gx_cS C hG hS [.int x4, .int x5] (tX9_hasBit e45) qcX9_237 ⟨rfl, rfl, Nat.le_of_ble_eq_true rfl, Nat.le_of_ble_eq_true rfl⟩ ⟨Nat.zero_le _, Nat.zero_le _⟩ rfl hl.1 rfl (Nat.le_of_ble_eq_true rfl) (st1 := [.int r45]) rfl dX9_likely_45 (fun H locs hG hS => ?_)
    refine lv_if_eq (tgt := 66) hx hb dX9_likely_48 (by decide) (fun hc => ?_) (fun hc => ?_)
    · replace h := it_pos hc h
      exact wX9_likely_66 C hk29 h hG hS (lv_sub hl [0, 1, 2, 3] rfl)
    · replace h := it_neg hc h
      refine gx_aload_n (r := (some x0)) hx hb dX9_likely_51 rfl (lv_at hl 0 rfl) ?_
      refine lv_iload hx hb dX9_likely_52 (lv_at hl 2 rfl) ?_
      refine lv_iload hx hb dX9_likely_54 (lv_at hl 3 rfl) ?_
      obtain ⟨_, eo56, h⟩ := ob h
      obtain ⟨r56, u56, e56, h⟩ := obI h
      refine gx_cV C hG hS [.int x4, .int x5] rfl eo56 (tX9_rankAmong e56) qcX9_240 ⟨rfl, rfl, Nat.le_of_ble_eq_true rfl, Nat.le_of_ble_eq_true rfl⟩ ⟨Nat.zero_le _, Nat.zero_le _⟩ rfl hl.1 rfl (Nat.le_of_ble_eq_true rfl) (st1 := [.int r56]) rfl dX9_likely_56 (fun H locs hG hS => ?_)
      refine lv_iload_n hx hb dX9_likely_59 rfl (lv_at hl 1 rfl) ?_
      refine lv_icmp_ne (tgt := 66) hx hb dX9_likely_60 (by decide) (fun hc => ?_) (fun hc => ?_)
      · replace h := it_neg hc h
        exact wX9_likely_66 C hk29 h hG hS (lv_sub hl [0, 1, 2, 3] rfl)
      · replace h := it_pos hc h
        refine lv_iload hx hb dX9_likely_63 (lv_at hl 3 rfl) ?_
        cases Option.some.inj h
        exact gx_reti C hG hS dX9_likely_65
def fX9_likely_29 : Nat → Nat → Int32 → Int32 → Int32 → gM → Option (Int32 × gM)
  | 0 => fun _ _ _ _ _ => none
  | n + 1 => fun x0 x3 x4 x5 u => fX9_likely_29_b x0 x3 x4 x5 u (fX9_likely_29 n) 
theorem wX9_likely_29 (C : gC p s m args meth c cX9_likely 6 (some .int) RX9 "likely" Γ) {res : Int32 × gM} (n : Nat) : ∀ {x0 : Nat} {x3 : Int32} {x4 : Int32} {x5 : Int32} {u : gM} {H : Heap} {locs : List Loc} {ls : Array Slot}, fX9_likely_29 n x0 x3 x4 x5 u = some res → gAg Γ u N H → va_S Γ.2.2.1 s.heap H locs → lv_has ls 6 [(0, va_rf (some x0)), (3, .int x3), (4, .int x4), (5, .int x5)] → W p l e rmX9_likely s m args below meth c H locs 0 0 (MQ below (gQ Γ (some (.int res.1)) res.2 N) args s 0 0 Γ.2.2.1) (F0 m 29 ls []) := by
  induction n with
  | zero => intro _ _ _ _ _ _ _ _ h _ _ _; cases (show (none : Option (Int32 × gM)) = some res from h)
  | succ n ih => intro _ _ _ _ _ _ _ _ h hG hS hl; exact wX9_likely_29_b C (fun _ _ _ _ _ _ _ _ h hG hS hl => ih h hG hS hl) h hG hS hl
def fX9_likely (x0 : Nat) (x1 : Int32) (x2 : Int32) (x3 : Int32) (u : gM) : Option (Int32 × gM) :=
  bI (fX9_isLabel x1 x2 u) fun r2 u2 =>
  if r2 = 0 then (
    (gO [10] u2 x0).bind fun _ =>
    bI (fX9_finding x0 (1 : Int32) u2) fun r14 u14 =>
    some (r14, u14)
  ) else (
    if 0 ≤ x3 then (
      (gO [10] u2 x0).bind fun _ =>
      bI (fX9_fittingBits x0 x1 x2 u2) fun r21 u21 =>
      fX9_likely_29  FU x0 x3 r21 (0 : Int32) u21
    ) else (
      (gO [10] u2 x0).bind fun _ =>
      bI (fX9_finding x0 (1 : Int32) u2) fun r14 u14 =>
      some (r14, u14)
    )
  )
set_option maxHeartbeats 4000000 in
set_option maxRecDepth 20000 in
theorem wX9_likely  (C : gC p s m args meth c cX9_likely 6 (some .int) RX9 "likely" Γ){x0 : Nat} {x1 : Int32} {x2 : Int32} {x3 : Int32} {u : gM} {res : Int32 × gM} (h : fX9_likely x0 x1 x2 x3 u = some res) {H : Heap} {locs : List Loc} (hG : gAg Γ u N H) (hS : va_S Γ.2.2.1 s.heap H locs) {ls : Array Slot} (hl : lv_has ls 6 [(0, va_rf (some x0)), (1, .int x1), (2, .int x2), (3, .int x3)]) : W p l e rmX9_likely s m args below meth c H locs 0 0 (MQ below (gQ Γ (some (.int res.1)) res.2 N) args s 0 0 Γ.2.2.1) (F0 m 0 ls []) := by
  have hx := C.1
  have hb := C.2.1
  unfold fX9_likely at h
  refine lv_iload_n hx hb dX9_likely_0 rfl (lv_at hl 1 rfl) ?_
  refine lv_iload_n hx hb dX9_likely_1 rfl (lv_at hl 2 rfl) ?_
  obtain ⟨r2, u2, e2, h⟩ := obI h
  refine gx_cS C hG hS [.int x1, .int x2] (tX9_isLabel e2) qcX9_226 ⟨rfl, rfl, Nat.le_of_ble_eq_true rfl, Nat.le_of_ble_eq_true rfl⟩ ⟨Nat.zero_le _, Nat.zero_le _⟩ rfl hl.1 rfl (Nat.le_of_ble_eq_true rfl) (st1 := [.int r2]) rfl dX9_likely_2 (fun H locs hG hS => ?_)
  refine lv_if_eq (tgt := 12) hx hb dX9_likely_5 (by decide) (fun hc => ?_) (fun hc => ?_)
  · replace h := it_pos hc h
    refine gx_aload_n (r := (some x0)) hx hb dX9_likely_12 rfl (lv_at hl 0 rfl) ?_
    refine lv_iconst (v := 1) hx hb dX9_likely_13 (by decide) ?_
    obtain ⟨_, eo14, h⟩ := ob h
    obtain ⟨r14, u14, e14, h⟩ := obI h
    refine gx_cV C hG hS [.int (1 : Int32)] rfl eo14 (tX9_finding e14) qcX9_89 ⟨rfl, rfl, Nat.le_of_ble_eq_true rfl, Nat.le_of_ble_eq_true rfl⟩ ⟨Nat.zero_le _, Nat.zero_le _⟩ rfl hl.1 rfl (Nat.le_of_ble_eq_true rfl) (st1 := [.int r14]) rfl dX9_likely_14 (fun H locs hG hS => ?_)
    cases Option.some.inj h
    exact gx_reti C hG hS dX9_likely_17
  · replace h := it_neg hc h
    refine lv_iload_n hx hb dX9_likely_8 rfl (lv_at hl 3 rfl) ?_
    refine lv_if_ge (tgt := 18) hx hb dX9_likely_9 (by decide) (fun hc => ?_) (fun hc => ?_)
    · replace h := it_pos hc h
      refine gx_aload_n (r := (some x0)) hx hb dX9_likely_18 rfl (lv_at hl 0 rfl) ?_
      refine lv_iload_n hx hb dX9_likely_19 rfl (lv_at hl 1 rfl) ?_
      refine lv_iload_n hx hb dX9_likely_20 rfl (lv_at hl 2 rfl) ?_
      obtain ⟨_, eo21, h⟩ := ob h
      obtain ⟨r21, u21, e21, h⟩ := obI h
      refine gx_cV C hG hS [.int x1, .int x2] rfl eo21 (tX9_fittingBits e21) qcX9_233 ⟨rfl, rfl, Nat.le_of_ble_eq_true rfl, Nat.le_of_ble_eq_true rfl⟩ ⟨Nat.zero_le _, Nat.zero_le _⟩ rfl hl.1 rfl (Nat.le_of_ble_eq_true rfl) (st1 := [.int r21]) rfl dX9_likely_21 (fun H locs hG hS => ?_)
      refine lv_istore (i := 4) (lv' := [(4, .int r21), (0, va_rf (some x0)), (1, .int x1), (2, .int x2), (3, .int x3)]) hx hb dX9_likely_24 hl (by decide) rfl (fun ls hl => ?_)
      refine lv_iconst (v := 0) hx hb dX9_likely_26 (by decide) ?_
      refine lv_istore (i := 5) (lv' := [(5, .int (0 : Int32)), (4, .int r21), (0, va_rf (some x0)), (1, .int x1), (2, .int x2), (3, .int x3)]) hx hb dX9_likely_27 hl (by decide) rfl (fun ls hl => ?_)
      exact wX9_likely_29 C  FU h hG hS (lv_sub hl [2, 5, 1, 0] rfl)
    · replace h := it_neg hc h
      refine gx_aload_n (r := (some x0)) hx hb dX9_likely_12 rfl (lv_at hl 0 rfl) ?_
      refine lv_iconst (v := 1) hx hb dX9_likely_13 (by decide) ?_
      obtain ⟨_, eo14, h⟩ := ob h
      obtain ⟨r14, u14, e14, h⟩ := obI h
      refine gx_cV C hG hS [.int (1 : Int32)] rfl eo14 (tX9_finding e14) qcX9_89 ⟨rfl, rfl, Nat.le_of_ble_eq_true rfl, Nat.le_of_ble_eq_true rfl⟩ ⟨Nat.zero_le _, Nat.zero_le _⟩ rfl hl.1 rfl (Nat.le_of_ble_eq_true rfl) (st1 := [.int r14]) rfl dX9_likely_14 (fun H locs hG hS => ?_)
      cases Option.some.inj h
      exact gx_reti C hG hS dX9_likely_17
theorem tX9_likely {Γ : gEnv} {N : Nat} {x0 : Nat} {x1 : Int32} {x2 : Int32} {x3 : Int32} {u v : gM} {r : Int32} (h : fX9_likely x0 x1 x2 x3 u = some (r, v)) : Met l yX9_likely (Cond.code yX9_likely cX9_likely 6 (some .int) :: gW) rmX9_likely (va_Pc [va_rf (some x0), .int x1, .int x2, .int x3] (gPre Γ u N)) (gQ Γ (some (.int r)) v N) 0 0 Γ.2.2.1 :=
  gx_met (nm := "likely") ⟨by decide +kernel, rfl, rfl⟩ (Nat.le_of_ble_eq_true rfl) (fun p e s m below meth c ls C hG hl => wX9_likely C h hG va_S.rf hl)
abbrev rmX9_share : Room := { frames := 4, cells := 0, slots := 0, locals := 88 }
def fX9_share_82 (x0 : Nat) (x1 : Int32) (x4 : Option Nat) (x5 : Int32) (x6 : Int32) (x7 : Int32) (u : gM) (k40 : Nat → Int32 → Option Nat → Int32 → Int32 → Int32 → gM → Option (Int32 × gM)) : Option (Int32 × gM) :=
  k40 x0 x1 x4 x5 x6 (x7 + (1 : Int32)) u
set_option maxHeartbeats 4000000 in
set_option maxRecDepth 20000 in
theorem wX9_share_82  (C : gC p s m args meth c cX9_share 8 (some .int) RX9 "share" Γ){x0 : Nat} {x1 : Int32} {x4 : Option Nat} {x5 : Int32} {x6 : Int32} {x7 : Int32} {u : gM} {res : Int32 × gM} {k40 : Nat → Int32 → Option Nat → Int32 → Int32 → Int32 → gM → Option (Int32 × gM)} (hk40 : ∀ (x0 : Nat) (x1 : Int32) (x4 : Option Nat) (x5 : Int32) (x6 : Int32) (x7 : Int32) (u : gM) (H : Heap) (locs : List Loc) (ls : Array Slot), k40 x0 x1 x4 x5 x6 x7 u = some res → gAg Γ u N H → va_S Γ.2.2.1 s.heap H locs → lv_has ls 8 [(0, va_rf (some x0)), (1, .int x1), (4, va_rf x4), (5, .int x5), (6, .int x6), (7, .int x7)] → W p l e rmX9_share s m args below meth c H locs 0 0 (MQ below (gQ Γ (some (.int res.1)) res.2 N) args s 0 0 Γ.2.2.1) (F0 m 40 ls [])) (h : fX9_share_82 x0 x1 x4 x5 x6 x7 u k40 = some res) {H : Heap} {locs : List Loc} (hG : gAg Γ u N H) (hS : va_S Γ.2.2.1 s.heap H locs) {ls : Array Slot} (hl : lv_has ls 8 [(0, va_rf (some x0)), (1, .int x1), (4, va_rf x4), (5, .int x5), (6, .int x6), (7, .int x7)]) : W p l e rmX9_share s m args below meth c H locs 0 0 (MQ below (gQ Γ (some (.int res.1)) res.2 N) args s 0 0 Γ.2.2.1) (F0 m 82 ls []) := by
  have hx := C.1
  have hb := C.2.1
  unfold fX9_share_82 at h
  refine lv_iinc (v := x7 + (1 : Int32)) (lv' := [(7, .int (x7 + (1 : Int32))), (0, va_rf (some x0)), (1, .int x1), (4, va_rf x4), (5, .int x5), (6, .int x6)]) hx hb dX9_share_82 hl (k := 5) rfl rfl (by decide) rfl (fun ls hl => ?_)
  refine lv_goto (tgt := 40) hx hb dX9_share_85 (by decide) ?_
  exact hk40 _ _ _ _ _ _ _ _ _ _ h hG hS (lv_sub hl [1, 2, 3, 4, 5, 0] rfl)
def fX9_share_40_b (x0 : Nat) (x1 : Int32) (x4 : Option Nat) (x5 : Int32) (x6 : Int32) (x7 : Int32) (u : gM) (k40 : Nat → Int32 → Option Nat → Int32 → Int32 → Int32 → gM → Option (Int32 × gM)) (k88 : Nat → Int32 → Option Nat → Int32 → Int32 → gM → Option (Int32 × gM)) : Option (Int32 × gM) :=
  (gR [10] 2 u x0).bind fun v43 =>
  (v43).bind fun a46 =>
  (gO [0] u a46).bind fun _ =>
  bI (fJx4a65c_size_8abf5 a46 u) fun r46 u46 =>
  if r46 ≤ x7 then (
    k88 x0 x1 x4 x5 x6 u46
  ) else (
    bI (fX9_hasBit x5 x7 u46) fun r56 u56 =>
    if r56 = 0 then (
      fX9_share_82 x0 x1 x4 x5 x6 x7 u56 k40
    ) else (
      (gR [10] 2 u56 x0).bind fun v65 =>
      (v65).bind fun a70 =>
      (gO [0] u56 a70).bind fun _ =>
      bI (fJx4a65c_get_915e3 a70 x7 u56) fun r70 u70 =>
      (kC [1] u70 r70).bind fun _ =>
      (r70).bind fun a76 =>
      (gI [1] 2 u70 a76).bind fun v76 =>
      fX9_share_82 x0 x1 x4 x5 (x6 + v76) x7 u70 k40
    )
  )
set_option maxHeartbeats 4000000 in
set_option maxRecDepth 20000 in
theorem wX9_share_40_b  (C : gC p s m args meth c cX9_share 8 (some .int) RX9 "share" Γ){x0 : Nat} {x1 : Int32} {x4 : Option Nat} {x5 : Int32} {x6 : Int32} {x7 : Int32} {u : gM} {res : Int32 × gM} {k40 : Nat → Int32 → Option Nat → Int32 → Int32 → Int32 → gM → Option (Int32 × gM)} {k88 : Nat → Int32 → Option Nat → Int32 → Int32 → gM → Option (Int32 × gM)} (hk40 : ∀ (x0 : Nat) (x1 : Int32) (x4 : Option Nat) (x5 : Int32) (x6 : Int32) (x7 : Int32) (u : gM) (H : Heap) (locs : List Loc) (ls : Array Slot), k40 x0 x1 x4 x5 x6 x7 u = some res → gAg Γ u N H → va_S Γ.2.2.1 s.heap H locs → lv_has ls 8 [(0, va_rf (some x0)), (1, .int x1), (4, va_rf x4), (5, .int x5), (6, .int x6), (7, .int x7)] → W p l e rmX9_share s m args below meth c H locs 0 0 (MQ below (gQ Γ (some (.int res.1)) res.2 N) args s 0 0 Γ.2.2.1) (F0 m 40 ls [])) (hk88 : ∀ (x0 : Nat) (x1 : Int32) (x4 : Option Nat) (x5 : Int32) (x6 : Int32) (u : gM) (H : Heap) (locs : List Loc) (ls : Array Slot), k88 x0 x1 x4 x5 x6 u = some res → gAg Γ u N H → va_S Γ.2.2.1 s.heap H locs → lv_has ls 8 [(0, va_rf (some x0)), (1, .int x1), (4, va_rf x4), (5, .int x5), (6, .int x6)] → W p l e rmX9_share s m args below meth c H locs 0 0 (MQ below (gQ Γ (some (.int res.1)) res.2 N) args s 0 0 Γ.2.2.1) (F0 m 88 ls [])) (h : fX9_share_40_b x0 x1 x4 x5 x6 x7 u k40 k88 = some res) {H : Heap} {locs : List Loc} (hG : gAg Γ u N H) (hS : va_S Γ.2.2.1 s.heap H locs) {ls : Array Slot} (hl : lv_has ls 8 [(0, va_rf (some x0)), (1, .int x1), (4, va_rf x4), (5, .int x5), (6, .int x6), (7, .int x7)]) : W p l e rmX9_share s m args below meth c H locs 0 0 (MQ below (gQ Γ (some (.int res.1)) res.2 N) args s 0 0 Γ.2.2.1) (F0 m 40 ls []) := by
  have hx := C.1
  have hb := C.2.1
  unfold fX9_share_40_b at h
  refine lv_iload hx hb dX9_share_40 (lv_at hl 5 rfl) ?_
  refine gx_aload_n (r := (some x0)) hx hb dX9_share_42 rfl (lv_at hl 0 rfl) ?_
  obtain ⟨v43, e43, h⟩ := ob h
  refine gx_getR C hG rfl e43 fgX9_19 dX9_share_43 ?_
  obtain ⟨a46, na46, h⟩ := ob h
  obtain ⟨_, eo46, h⟩ := ob h
  obtain ⟨r46, u46, e46, h⟩ := obI h
  refine gx_cV C hG hS [] na46 eo46 (tJx4a65c_size_8abf5 e46) qcX9_93 ⟨rfl, rfl, Nat.le_of_ble_eq_true rfl, Nat.le_of_ble_eq_true rfl⟩ ⟨Nat.zero_le _, Nat.zero_le _⟩ rfl hl.1 rfl (Nat.le_of_ble_eq_true rfl) (st1 := [.int r46, .int x7]) rfl dX9_share_46 (fun H locs hG hS => ?_)
  refine lv_icmp_ge (tgt := 88) hx hb dX9_share_49 (by decide) (fun hc => ?_) (fun hc => ?_)
  · replace h := it_pos hc h
    exact hk88 _ _ _ _ _ _ _ _ _ h hG hS (lv_sub hl [0, 1, 2, 3, 4] rfl)
  · replace h := it_neg hc h
    refine lv_iload hx hb dX9_share_52 (lv_at hl 3 rfl) ?_
    refine lv_iload hx hb dX9_share_54 (lv_at hl 5 rfl) ?_
    obtain ⟨r56, u56, e56, h⟩ := obI h
    refine gx_cS C hG hS [.int x5, .int x7] (tX9_hasBit e56) qcX9_237 ⟨rfl, rfl, Nat.le_of_ble_eq_true rfl, Nat.le_of_ble_eq_true rfl⟩ ⟨Nat.zero_le _, Nat.zero_le _⟩ rfl hl.1 rfl (Nat.le_of_ble_eq_true rfl) (st1 := [.int r56]) rfl dX9_share_56 (fun H locs hG hS => ?_)
    refine lv_if_eq (tgt := 82) hx hb dX9_share_59 (by decide) (fun hc => ?_) (fun hc => ?_)
    · replace h := it_pos hc h
      exact wX9_share_82 C hk40 h hG hS (lv_sub hl [0, 1, 2, 3, 4, 5] rfl)
    · replace h := it_neg hc h
      refine lv_iload hx hb dX9_share_62 (lv_at hl 4 rfl) ?_
      refine gx_aload_n (r := (some x0)) hx hb dX9_share_64 rfl (lv_at hl 0 rfl) ?_
      obtain ⟨v65, e65, h⟩ := ob h
      refine gx_getR C hG rfl e65 fgX9_19 dX9_share_65 ?_
      refine lv_iload hx hb dX9_share_68 (lv_at hl 5 rfl) ?_
      obtain ⟨a70, na70, h⟩ := ob h
      obtain ⟨_, eo70, h⟩ := ob h
      obtain ⟨r70, u70, e70, h⟩ := obI h
      refine gx_cV C hG hS [.int x7] na70 eo70 (tJx4a65c_get_915e3 e70) qcX9_144 ⟨rfl, rfl, Nat.le_of_ble_eq_true rfl, Nat.le_of_ble_eq_true rfl⟩ ⟨Nat.zero_le _, Nat.zero_le _⟩ rfl hl.1 rfl (Nat.le_of_ble_eq_true rfl) (st1 := [va_rf r70, .int x6]) rfl dX9_share_70 (fun H locs hG hS => ?_)
      obtain ⟨_, e73, h⟩ := ob h
      refine gx_cast C hG e73 ckX9_211 dX9_share_73 ?_
      obtain ⟨a76, na76, h⟩ := ob h
      obtain ⟨v76, e76, h⟩ := ob h
      refine gx_getI C hG na76 e76 fgX9_223 dX9_share_76 ?_
      refine lv_iadd hx hb dX9_share_79 ?_
      refine lv_istore (i := 6) (lv' := [(6, .int (x6 + v76)), (0, va_rf (some x0)), (1, .int x1), (4, va_rf x4), (5, .int x5), (7, .int x7)]) hx hb dX9_share_80 hl (by decide) rfl (fun ls hl => ?_)
      exact wX9_share_82 C hk40 h hG hS (lv_sub hl [1, 2, 3, 4, 0, 5] rfl)
def fX9_share_40 (k88 : Nat → Int32 → Option Nat → Int32 → Int32 → gM → Option (Int32 × gM)) : Nat → Nat → Int32 → Option Nat → Int32 → Int32 → Int32 → gM → Option (Int32 × gM)
  | 0 => fun _ _ _ _ _ _ _ => none
  | n + 1 => fun x0 x1 x4 x5 x6 x7 u => fX9_share_40_b x0 x1 x4 x5 x6 x7 u (fX9_share_40 k88 n) k88 
theorem wX9_share_40 (C : gC p s m args meth c cX9_share 8 (some .int) RX9 "share" Γ) {res : Int32 × gM} {k88 : Nat → Int32 → Option Nat → Int32 → Int32 → gM → Option (Int32 × gM)} (hk88 : ∀ (x0 : Nat) (x1 : Int32) (x4 : Option Nat) (x5 : Int32) (x6 : Int32) (u : gM) (H : Heap) (locs : List Loc) (ls : Array Slot), k88 x0 x1 x4 x5 x6 u = some res → gAg Γ u N H → va_S Γ.2.2.1 s.heap H locs → lv_has ls 8 [(0, va_rf (some x0)), (1, .int x1), (4, va_rf x4), (5, .int x5), (6, .int x6)] → W p l e rmX9_share s m args below meth c H locs 0 0 (MQ below (gQ Γ (some (.int res.1)) res.2 N) args s 0 0 Γ.2.2.1) (F0 m 88 ls [])) (n : Nat) : ∀ {x0 : Nat} {x1 : Int32} {x4 : Option Nat} {x5 : Int32} {x6 : Int32} {x7 : Int32} {u : gM} {H : Heap} {locs : List Loc} {ls : Array Slot}, fX9_share_40 k88 n x0 x1 x4 x5 x6 x7 u = some res → gAg Γ u N H → va_S Γ.2.2.1 s.heap H locs → lv_has ls 8 [(0, va_rf (some x0)), (1, .int x1), (4, va_rf x4), (5, .int x5), (6, .int x6), (7, .int x7)] → W p l e rmX9_share s m args below meth c H locs 0 0 (MQ below (gQ Γ (some (.int res.1)) res.2 N) args s 0 0 Γ.2.2.1) (F0 m 40 ls []) := by
  induction n with
  | zero => intro _ _ _ _ _ _ _ _ _ _ h _ _ _; cases (show (none : Option (Int32 × gM)) = some res from h)
  | succ n ih => intro _ _ _ _ _ _ _ _ _ _ h hG hS hl; exact wX9_share_40_b C (fun _ _ _ _ _ _ _ _ _ _ h hG hS hl => ih h hG hS hl) hk88 h hG hS hl
def fX9_share (x0 : Nat) (x1 : Int32) (x2 : Int32) (x3 : Int32) (u : gM) : Option (Int32 × gM) :=
  (gO [10] u x0).bind fun _ =>
  bI (fX9_addressOf x0 x1 u) fun r2 u2 =>
  if r2 = none then (
    (gO [10] u2 x0).bind fun _ =>
    bI (fX9_finding x0 (1 : Int32) u2) fun r22 u22 =>
    some (r22, u22)
  ) else (
    bI (fX9_isLabel x2 x3 u2) fun r14 u14 =>
    if r14 = 0 then (
      (gO [10] u14 x0).bind fun _ =>
      bI (fX9_finding x0 (1 : Int32) u14) fun r22 u22 =>
      some (r22, u22)
    ) else (
      (gO [10] u14 x0).bind fun _ =>
      bI (fX9_fittingBits x0 x2 x3 u14) fun r29 u29 =>
      fX9_share_40 (fun x0 x1 x4 x5 x6 u =>
            bI (fX9_hasBit x5 x1 u) fun r91 u91 =>
            if r91 = 0 then (
              (gO [10] u91 x0).bind fun _ =>
              bI (fX9_finding x0 (2 : Int32) u91) fun r104 u104 =>
              some (r104, u104)
            ) else (
              if x6 = 0 then (
                (gO [10] u91 x0).bind fun _ =>
                bI (fX9_finding x0 (2 : Int32) u91) fun r104 u104 =>
                some (r104, u104)
              ) else (
                (x4).bind fun a110 =>
                (gI [1] 2 u91 a110).bind fun v110 =>
                if x6 = 0 then none else
                some ((v110 * (1000 : Int32)) / x6, u91)
              )
            )) FU x0 x1 r2 r29 (0 : Int32) (0 : Int32) u29
    )
  )
set_option maxHeartbeats 4000000 in
set_option maxRecDepth 20000 in
theorem wX9_share  (C : gC p s m args meth c cX9_share 8 (some .int) RX9 "share" Γ){x0 : Nat} {x1 : Int32} {x2 : Int32} {x3 : Int32} {u : gM} {res : Int32 × gM} (h : fX9_share x0 x1 x2 x3 u = some res) {H : Heap} {locs : List Loc} (hG : gAg Γ u N H) (hS : va_S Γ.2.2.1 s.heap H locs) {ls : Array Slot} (hl : lv_has ls 8 [(0, va_rf (some x0)), (1, .int x1), (2, .int x2), (3, .int x3)]) : W p l e rmX9_share s m args below meth c H locs 0 0 (MQ below (gQ Γ (some (.int res.1)) res.2 N) args s 0 0 Γ.2.2.1) (F0 m 0 ls []) := by
  have hx := C.1
  have hb := C.2.1
  unfold fX9_share at h
  refine gx_aload_n (r := (some x0)) hx hb dX9_share_0 rfl (lv_at hl 0 rfl) ?_
  refine lv_iload_n hx hb dX9_share_1 rfl (lv_at hl 1 rfl) ?_
  obtain ⟨_, eo2, h⟩ := ob h
  obtain ⟨r2, u2, e2, h⟩ := obI h
  refine gx_cV C hG hS [.int x1] rfl eo2 (tX9_addressOf e2) qcX9_219 ⟨rfl, rfl, Nat.le_of_ble_eq_true rfl, Nat.le_of_ble_eq_true rfl⟩ ⟨Nat.zero_le _, Nat.zero_le _⟩ rfl hl.1 rfl (Nat.le_of_ble_eq_true rfl) (st1 := [va_rf r2]) rfl dX9_share_2 (fun H locs hG hS => ?_)
  refine gx_astore (r := r2) (i := 4) (lv' := [(4, va_rf r2), (0, va_rf (some x0)), (1, .int x1), (2, .int x2), (3, .int x3)]) hx hb dX9_share_5 hl (by decide) rfl (fun ls hl => ?_)
  refine gx_aload (r := r2) hx hb dX9_share_7 (lv_at hl 0 rfl) ?_
  refine gx_ifnull (tgt := 20) hx hb dX9_share_9 (by decide) (fun hc => ?_) (fun hc => ?_)
  · replace h := it_pos hc h
    refine gx_aload_n (r := (some x0)) hx hb dX9_share_20 rfl (lv_at hl 1 rfl) ?_
    refine lv_iconst (v := 1) hx hb dX9_share_21 (by decide) ?_
    obtain ⟨_, eo22, h⟩ := ob h
    obtain ⟨r22, u22, e22, h⟩ := obI h
    refine gx_cV C hG hS [.int (1 : Int32)] rfl eo22 (tX9_finding e22) qcX9_89 ⟨rfl, rfl, Nat.le_of_ble_eq_true rfl, Nat.le_of_ble_eq_true rfl⟩ ⟨Nat.zero_le _, Nat.zero_le _⟩ rfl hl.1 rfl (Nat.le_of_ble_eq_true rfl) (st1 := [.int r22]) rfl dX9_share_22 (fun H locs hG hS => ?_)
    cases Option.some.inj h
    exact gx_reti C hG hS dX9_share_25
  · replace h := it_neg hc h
    refine lv_iload_n hx hb dX9_share_12 rfl (lv_at hl 3 rfl) ?_
    refine lv_iload_n hx hb dX9_share_13 rfl (lv_at hl 4 rfl) ?_
    obtain ⟨r14, u14, e14, h⟩ := obI h
    refine gx_cS C hG hS [.int x2, .int x3] (tX9_isLabel e14) qcX9_226 ⟨rfl, rfl, Nat.le_of_ble_eq_true rfl, Nat.le_of_ble_eq_true rfl⟩ ⟨Nat.zero_le _, Nat.zero_le _⟩ rfl hl.1 rfl (Nat.le_of_ble_eq_true rfl) (st1 := [.int r14]) rfl dX9_share_14 (fun H locs hG hS => ?_)
    refine lv_if_ne (tgt := 26) hx hb dX9_share_17 (by decide) (fun hc => ?_) (fun hc => ?_)
    · replace h := it_neg hc h
      refine gx_aload_n (r := (some x0)) hx hb dX9_share_26 rfl (lv_at hl 1 rfl) ?_
      refine lv_iload_n hx hb dX9_share_27 rfl (lv_at hl 3 rfl) ?_
      refine lv_iload_n hx hb dX9_share_28 rfl (lv_at hl 4 rfl) ?_
      obtain ⟨_, eo29, h⟩ := ob h
      obtain ⟨r29, u29, e29, h⟩ := obI h
      refine gx_cV C hG hS [.int x2, .int x3] rfl eo29 (tX9_fittingBits e29) qcX9_233 ⟨rfl, rfl, Nat.le_of_ble_eq_true rfl, Nat.le_of_ble_eq_true rfl⟩ ⟨Nat.zero_le _, Nat.zero_le _⟩ rfl hl.1 rfl (Nat.le_of_ble_eq_true rfl) (st1 := [.int r29]) rfl dX9_share_29 (fun H locs hG hS => ?_)
      refine lv_istore (i := 5) (lv' := [(5, .int r29), (4, va_rf r2), (0, va_rf (some x0)), (1, .int x1), (2, .int x2), (3, .int x3)]) hx hb dX9_share_32 hl (by decide) (by simp [gx_cat, gx_catI, gx_catJ]) (fun ls hl => ?_)
      refine lv_iconst (v := 0) hx hb dX9_share_34 (by decide) ?_
      refine lv_istore (i := 6) (lv' := [(6, .int (0 : Int32)), (5, .int r29), (4, va_rf r2), (0, va_rf (some x0)), (1, .int x1), (2, .int x2), (3, .int x3)]) hx hb dX9_share_35 hl (by decide) rfl (fun ls hl => ?_)
      refine lv_iconst (v := 0) hx hb dX9_share_37 (by decide) ?_
      refine lv_istore (i := 7) (lv' := [(7, .int (0 : Int32)), (6, .int (0 : Int32)), (5, .int r29), (4, va_rf r2), (0, va_rf (some x0)), (1, .int x1), (2, .int x2), (3, .int x3)]) hx hb dX9_share_38 hl (by decide) rfl (fun ls hl => ?_)
      refine wX9_share_40 C ?_ FU h hG hS (lv_sub hl [4, 5, 3, 2, 1, 0] rfl)
      · intro x0 x1 x4 x5 x6 u H locs ls h hG hS hl
        refine lv_iload hx hb dX9_share_88 (lv_at hl 3 rfl) ?_
        refine lv_iload_n hx hb dX9_share_90 rfl (lv_at hl 1 rfl) ?_
        obtain ⟨r91, u91, e91, h⟩ := obI h
        refine gx_cS C hG hS [.int x5, .int x1] (tX9_hasBit e91) qcX9_237 ⟨rfl, rfl, Nat.le_of_ble_eq_true rfl, Nat.le_of_ble_eq_true rfl⟩ ⟨Nat.zero_le _, Nat.zero_le _⟩ rfl hl.1 rfl (Nat.le_of_ble_eq_true rfl) (st1 := [.int r91]) rfl dX9_share_91 (fun H locs hG hS => ?_)
        refine lv_if_eq (tgt := 102) hx hb dX9_share_94 (by decide) (fun hc => ?_) (fun hc => ?_)
        · replace h := it_pos hc h
          refine gx_aload_n (r := (some x0)) hx hb dX9_share_102 rfl (lv_at hl 0 rfl) ?_
          refine lv_iconst (v := 2) hx hb dX9_share_103 (by decide) ?_
          obtain ⟨_, eo104, h⟩ := ob h
          obtain ⟨r104, u104, e104, h⟩ := obI h
          refine gx_cV C hG hS [.int (2 : Int32)] rfl eo104 (tX9_finding e104) qcX9_89 ⟨rfl, rfl, Nat.le_of_ble_eq_true rfl, Nat.le_of_ble_eq_true rfl⟩ ⟨Nat.zero_le _, Nat.zero_le _⟩ rfl hl.1 rfl (Nat.le_of_ble_eq_true rfl) (st1 := [.int r104]) rfl dX9_share_104 (fun H locs hG hS => ?_)
          cases Option.some.inj h
          exact gx_reti C hG hS dX9_share_107
        · replace h := it_neg hc h
          refine lv_iload hx hb dX9_share_97 (lv_at hl 4 rfl) ?_
          refine lv_if_ne (tgt := 108) hx hb dX9_share_99 (by decide) (fun hc => ?_) (fun hc => ?_)
          · replace h := it_neg hc h
            refine gx_aload (r := x4) hx hb dX9_share_108 (lv_at hl 2 rfl) ?_
            obtain ⟨a110, na110, h⟩ := ob h
            obtain ⟨v110, e110, h⟩ := ob h
            refine gx_getI C hG na110 e110 fgX9_223 dX9_share_110 ?_
            refine lv_sipush (v := 1000) hx hb dX9_share_113 (by decide) ?_
            refine lv_imul hx hb dX9_share_116 ?_
            refine lv_iload hx hb dX9_share_117 (lv_at hl 4 rfl) ?_
            have n119 : ¬ x6 = 0 := fun q => by rw [if_pos q] at h; cases h
            replace h := it_neg n119 h
            refine lv_idiv hx hb dX9_share_119 n119 ?_
            cases Option.some.inj h
            exact gx_reti C hG hS dX9_share_120
          · replace h := it_pos hc h
            refine gx_aload_n (r := (some x0)) hx hb dX9_share_102 rfl (lv_at hl 0 rfl) ?_
            refine lv_iconst (v := 2) hx hb dX9_share_103 (by decide) ?_
            obtain ⟨_, eo104, h⟩ := ob h
            obtain ⟨r104, u104, e104, h⟩ := obI h
            refine gx_cV C hG hS [.int (2 : Int32)] rfl eo104 (tX9_finding e104) qcX9_89 ⟨rfl, rfl, Nat.le_of_ble_eq_true rfl, Nat.le_of_ble_eq_true rfl⟩ ⟨Nat.zero_le _, Nat.zero_le _⟩ rfl hl.1 rfl (Nat.le_of_ble_eq_true rfl) (st1 := [.int r104]) rfl dX9_share_104 (fun H locs hG hS => ?_)
            cases Option.some.inj h
            exact gx_reti C hG hS dX9_share_107
    · replace h := it_pos hc h
      refine gx_aload_n (r := (some x0)) hx hb dX9_share_20 rfl (lv_at hl 1 rfl) ?_
      refine lv_iconst (v := 1) hx hb dX9_share_21 (by decide) ?_
      obtain ⟨_, eo22, h⟩ := ob h
      obtain ⟨r22, u22, e22, h⟩ := obI h
      refine gx_cV C hG hS [.int (1 : Int32)] rfl eo22 (tX9_finding e22) qcX9_89 ⟨rfl, rfl, Nat.le_of_ble_eq_true rfl, Nat.le_of_ble_eq_true rfl⟩ ⟨Nat.zero_le _, Nat.zero_le _⟩ rfl hl.1 rfl (Nat.le_of_ble_eq_true rfl) (st1 := [.int r22]) rfl dX9_share_22 (fun H locs hG hS => ?_)
      cases Option.some.inj h
      exact gx_reti C hG hS dX9_share_25
theorem tX9_share {Γ : gEnv} {N : Nat} {x0 : Nat} {x1 : Int32} {x2 : Int32} {x3 : Int32} {u v : gM} {r : Int32} (h : fX9_share x0 x1 x2 x3 u = some (r, v)) : Met l yX9_share (Cond.code yX9_share cX9_share 8 (some .int) :: gW) rmX9_share (va_Pc [va_rf (some x0), .int x1, .int x2, .int x3] (gPre Γ u N)) (gQ Γ (some (.int r)) v N) 0 0 Γ.2.2.1 :=
  gx_met (nm := "share") ⟨by decide +kernel, rfl, rfl⟩ (Nat.le_of_ble_eq_true rfl) (fun p e s m below meth c ls C hG hl => wX9_share C h hG va_S.rf hl)
abbrev rmX9_law : Room := { frames := 1, cells := 0, slots := 0, locals := 22 }
def fX9_law (x0 : Nat) (x1 : Int32) (x2 : Int32) (u : gM) : Option (Int32 × gM) :=
  bI (fX9_within x1 (0 : Int32) (3 : Int32) u) fun r3 u3 =>
  if r3 = 0 then (
    (gO [10] u3 x0).bind fun _ =>
    bI (fX9_finding x0 (1 : Int32) u3) fun r21 u21 =>
    some (r21, u21)
  ) else (
    bI (fX9_within x2 (0 : Int32) (60 : Int32) u3) fun r13 u13 =>
    if r13 = 0 then (
      (gO [10] u13 x0).bind fun _ =>
      bI (fX9_finding x0 (1 : Int32) u13) fun r21 u21 =>
      some (r21, u21)
    ) else (
      (gR [10] 4 u13 x0).bind fun v26 =>
      (v26).bind fun a30 =>
      (aI u13 a30 x1).bind fun v30 =>
      (gR [10] 4 u13 x0).bind fun v33 =>
      (v33).bind fun a38 =>
      (uI u13 a38 x1 x2).bind fun u38 =>
      some (v30, u38)
    )
  )
set_option maxHeartbeats 4000000 in
set_option maxRecDepth 20000 in
theorem wX9_law  (C : gC p s m args meth c cX9_law 4 (some .int) RX9 "law" Γ){x0 : Nat} {x1 : Int32} {x2 : Int32} {u : gM} {res : Int32 × gM} (h : fX9_law x0 x1 x2 u = some res) {H : Heap} {locs : List Loc} (hG : gAg Γ u N H) (hS : va_S Γ.2.2.1 s.heap H locs) {ls : Array Slot} (hl : lv_has ls 4 [(0, va_rf (some x0)), (1, .int x1), (2, .int x2)]) : W p l e rmX9_law s m args below meth c H locs 0 0 (MQ below (gQ Γ (some (.int res.1)) res.2 N) args s 0 0 Γ.2.2.1) (F0 m 0 ls []) := by
  have hx := C.1
  have hb := C.2.1
  unfold fX9_law at h
  refine lv_iload_n hx hb dX9_law_0 rfl (lv_at hl 1 rfl) ?_
  refine lv_iconst (v := 0) hx hb dX9_law_1 (by decide) ?_
  refine lv_iconst (v := 3) hx hb dX9_law_2 (by decide) ?_
  obtain ⟨r3, u3, e3, h⟩ := obI h
  refine gx_cS C hG hS [.int x1, .int (0 : Int32), .int (3 : Int32)] (tX9_within e3) qcX9_85 ⟨rfl, rfl, Nat.le_of_ble_eq_true rfl, Nat.le_of_ble_eq_true rfl⟩ ⟨Nat.zero_le _, Nat.zero_le _⟩ rfl hl.1 rfl (Nat.le_of_ble_eq_true rfl) (st1 := [.int r3]) rfl dX9_law_3 (fun H locs hG hS => ?_)
  refine lv_if_eq (tgt := 19) hx hb dX9_law_6 (by decide) (fun hc => ?_) (fun hc => ?_)
  · replace h := it_pos hc h
    refine gx_aload_n (r := (some x0)) hx hb dX9_law_19 rfl (lv_at hl 0 rfl) ?_
    refine lv_iconst (v := 1) hx hb dX9_law_20 (by decide) ?_
    obtain ⟨_, eo21, h⟩ := ob h
    obtain ⟨r21, u21, e21, h⟩ := obI h
    refine gx_cV C hG hS [.int (1 : Int32)] rfl eo21 (tX9_finding e21) qcX9_89 ⟨rfl, rfl, Nat.le_of_ble_eq_true rfl, Nat.le_of_ble_eq_true rfl⟩ ⟨Nat.zero_le _, Nat.zero_le _⟩ rfl hl.1 rfl (Nat.le_of_ble_eq_true rfl) (st1 := [.int r21]) rfl dX9_law_21 (fun H locs hG hS => ?_)
    cases Option.some.inj h
    exact gx_reti C hG hS dX9_law_24
  · replace h := it_neg hc h
    refine lv_iload_n hx hb dX9_law_9 rfl (lv_at hl 2 rfl) ?_
    refine lv_iconst (v := 0) hx hb dX9_law_10 (by decide) ?_
    refine lv_bipush (v := 60) hx hb dX9_law_11 (by decide) ?_
    obtain ⟨r13, u13, e13, h⟩ := obI h
    refine gx_cS C hG hS [.int x2, .int (0 : Int32), .int (60 : Int32)] (tX9_within e13) qcX9_85 ⟨rfl, rfl, Nat.le_of_ble_eq_true rfl, Nat.le_of_ble_eq_true rfl⟩ ⟨Nat.zero_le _, Nat.zero_le _⟩ rfl hl.1 rfl (Nat.le_of_ble_eq_true rfl) (st1 := [.int r13]) rfl dX9_law_13 (fun H locs hG hS => ?_)
    refine lv_if_ne (tgt := 25) hx hb dX9_law_16 (by decide) (fun hc => ?_) (fun hc => ?_)
    · replace h := it_neg hc h
      refine gx_aload_n (r := (some x0)) hx hb dX9_law_25 rfl (lv_at hl 0 rfl) ?_
      obtain ⟨v26, e26, h⟩ := ob h
      refine gx_getR C hG rfl e26 fgX9_26 dX9_law_26 ?_
      refine lv_iload_n hx hb dX9_law_29 rfl (lv_at hl 1 rfl) ?_
      obtain ⟨a30, na30, h⟩ := ob h
      obtain ⟨v30, e30, h⟩ := ob h
      refine gx_iald C hG na30 e30 dX9_law_30 ?_
      refine lv_istore_n (i := 3) (lv' := [(3, .int v30), (0, va_rf (some x0)), (1, .int x1), (2, .int x2)]) hx hb dX9_law_31 rfl hl (by decide) rfl (fun ls hl => ?_)
      refine gx_aload_n (r := (some x0)) hx hb dX9_law_32 rfl (lv_at hl 1 rfl) ?_
      obtain ⟨v33, e33, h⟩ := ob h
      refine gx_getR C hG rfl e33 fgX9_26 dX9_law_33 ?_
      refine lv_iload_n hx hb dX9_law_36 rfl (lv_at hl 2 rfl) ?_
      refine lv_iload_n hx hb dX9_law_37 rfl (lv_at hl 3 rfl) ?_
      obtain ⟨a38, na38, h⟩ := ob h
      obtain ⟨u38, e38, h⟩ := ob h
      refine gx_iast C hG hS na38 e38 dX9_law_38 (fun H locs hG hS => ?_)
      refine lv_iload_n hx hb dX9_law_39 rfl (lv_at hl 0 rfl) ?_
      cases Option.some.inj h
      exact gx_reti C hG hS dX9_law_40
    · replace h := it_pos hc h
      refine gx_aload_n (r := (some x0)) hx hb dX9_law_19 rfl (lv_at hl 0 rfl) ?_
      refine lv_iconst (v := 1) hx hb dX9_law_20 (by decide) ?_
      obtain ⟨_, eo21, h⟩ := ob h
      obtain ⟨r21, u21, e21, h⟩ := obI h
      refine gx_cV C hG hS [.int (1 : Int32)] rfl eo21 (tX9_finding e21) qcX9_89 ⟨rfl, rfl, Nat.le_of_ble_eq_true rfl, Nat.le_of_ble_eq_true rfl⟩ ⟨Nat.zero_le _, Nat.zero_le _⟩ rfl hl.1 rfl (Nat.le_of_ble_eq_true rfl) (st1 := [.int r21]) rfl dX9_law_21 (fun H locs hG hS => ?_)
      cases Option.some.inj h
      exact gx_reti C hG hS dX9_law_24
theorem tX9_law {Γ : gEnv} {N : Nat} {x0 : Nat} {x1 : Int32} {x2 : Int32} {u v : gM} {r : Int32} (h : fX9_law x0 x1 x2 u = some (r, v)) : Met l yX9_law (Cond.code yX9_law cX9_law 4 (some .int) :: gW) rmX9_law (va_Pc [va_rf (some x0), .int x1, .int x2] (gPre Γ u N)) (gQ Γ (some (.int r)) v N) 0 0 Γ.2.2.1 :=
  gx_met (nm := "law") ⟨by decide +kernel, rfl, rfl⟩ (Nat.le_of_ble_eq_true rfl) (fun p e s m below meth c ls C hG hl => wX9_law C h hG va_S.rf hl)
abbrev rmX9_mayBeSold : Room := { frames := 0, cells := 0, slots := 0, locals := 0 }
def fX9_mayBeSold (x0 : Nat) (x1 : Option Nat) (u : gM) : Option (Int32 × gM) :=
  (x1).bind fun a1 =>
  (gI [9, 6] 6 u a1).bind fun v1 =>
  if v1 = 0 then (
    (x1).bind fun a8 =>
    (gI [9, 6] 0 u a8).bind fun v8 =>
    if v8 = (1 : Int32) then (
      some ((0 : Int32), u)
    ) else (
      (gI [10] 13 u x0).bind fun v16 =>
      (x1).bind fun a20 =>
      (gI [9, 6] 1 u a20).bind fun v20 =>
      (gR [10] 4 u x0).bind fun v25 =>
      (x1).bind fun a29 =>
      (gI [9, 6] 0 u a29).bind fun v29 =>
      (v25).bind fun a32 =>
      (aI u a32 v29).bind fun v32 =>
      if (v16 - v20) < (v32 * (30 : Int32)) then (
        some ((0 : Int32), u)
      ) else (
        some ((1 : Int32), u)
      )
    )
  ) else (
    some ((0 : Int32), u)
  )
set_option maxHeartbeats 4000000 in
set_option maxRecDepth 20000 in
theorem wX9_mayBeSold  (C : gC p s m args meth c cX9_mayBeSold 2 (some .boolean) RX9 "mayBeSold" Γ){x0 : Nat} {x1 : Option Nat} {u : gM} {res : Int32 × gM} (h : fX9_mayBeSold x0 x1 u = some res) {H : Heap} {locs : List Loc} (hG : gAg Γ u N H) (hS : va_S Γ.2.2.1 s.heap H locs) {ls : Array Slot} (hl : lv_has ls 2 [(0, va_rf (some x0)), (1, va_rf x1)]) : W p l e rmX9_mayBeSold s m args below meth c H locs 0 0 (MQ below (gQ Γ (some (.int res.1)) res.2 N) args s 0 0 Γ.2.2.1) (F0 m 0 ls []) := by
  have hx := C.1
  have hb := C.2.1
  unfold fX9_mayBeSold at h
  refine gx_aload_n (r := x1) hx hb dX9_mayBeSold_0 rfl (lv_at hl 1 rfl) ?_
  obtain ⟨a1, na1, h⟩ := ob h
  obtain ⟨v1, e1, h⟩ := ob h
  refine gx_getI C hG na1 e1 fgX9_138 dX9_mayBeSold_1 ?_
  refine lv_if_ne (tgt := 43) hx hb dX9_mayBeSold_4 (by decide) (fun hc => ?_) (fun hc => ?_)
  · replace h := it_neg hc h
    refine lv_iconst (v := 0) hx hb dX9_mayBeSold_43 (by decide) ?_
    cases Option.some.inj h
    exact gx_retz C (Or.inl rfl) hG hS dX9_mayBeSold_44
  · replace h := it_pos hc h
    refine gx_aload_n (r := x1) hx hb dX9_mayBeSold_7 rfl (lv_at hl 1 rfl) ?_
    obtain ⟨a8, na8, h⟩ := ob h
    obtain ⟨v8, e8, h⟩ := ob h
    refine gx_getI C hG na8 e8 fgX9_123 dX9_mayBeSold_8 ?_
    refine lv_iconst (v := 1) hx hb dX9_mayBeSold_11 (by decide) ?_
    refine lv_icmp_eq (tgt := 43) hx hb dX9_mayBeSold_12 (by decide) (fun hc => ?_) (fun hc => ?_)
    · replace h := it_pos hc h
      refine lv_iconst (v := 0) hx hb dX9_mayBeSold_43 (by decide) ?_
      cases Option.some.inj h
      exact gx_retz C (Or.inl rfl) hG hS dX9_mayBeSold_44
    · replace h := it_neg hc h
      refine gx_aload_n (r := (some x0)) hx hb dX9_mayBeSold_15 rfl (lv_at hl 0 rfl) ?_
      obtain ⟨v16, e16, h⟩ := ob h
      refine gx_getI C hG rfl e16 fgX9_70 dX9_mayBeSold_16 ?_
      refine gx_aload_n (r := x1) hx hb dX9_mayBeSold_19 rfl (lv_at hl 1 rfl) ?_
      obtain ⟨a20, na20, h⟩ := ob h
      obtain ⟨v20, e20, h⟩ := ob h
      refine gx_getI C hG na20 e20 fgX9_132 dX9_mayBeSold_20 ?_
      refine lv_isub hx hb dX9_mayBeSold_23 ?_
      refine gx_aload_n (r := (some x0)) hx hb dX9_mayBeSold_24 rfl (lv_at hl 0 rfl) ?_
      obtain ⟨v25, e25, h⟩ := ob h
      refine gx_getR C hG rfl e25 fgX9_26 dX9_mayBeSold_25 ?_
      refine gx_aload_n (r := x1) hx hb dX9_mayBeSold_28 rfl (lv_at hl 1 rfl) ?_
      obtain ⟨a29, na29, h⟩ := ob h
      obtain ⟨v29, e29, h⟩ := ob h
      refine gx_getI C hG na29 e29 fgX9_123 dX9_mayBeSold_29 ?_
      obtain ⟨a32, na32, h⟩ := ob h
      obtain ⟨v32, e32, h⟩ := ob h
      refine gx_iald C hG na32 e32 dX9_mayBeSold_32 ?_
      refine lv_bipush (v := 30) hx hb dX9_mayBeSold_33 (by decide) ?_
      refine lv_imul hx hb dX9_mayBeSold_35 ?_
      refine lv_icmp_lt (tgt := 43) hx hb dX9_mayBeSold_36 (by decide) (fun hc => ?_) (fun hc => ?_)
      · replace h := it_pos hc h
        refine lv_iconst (v := 0) hx hb dX9_mayBeSold_43 (by decide) ?_
        cases Option.some.inj h
        exact gx_retz C (Or.inl rfl) hG hS dX9_mayBeSold_44
      · replace h := it_neg hc h
        refine lv_iconst (v := 1) hx hb dX9_mayBeSold_39 (by decide) ?_
        refine lv_goto (tgt := 44) hx hb dX9_mayBeSold_40 (by decide) ?_
        cases Option.some.inj h
        exact gx_retz C (Or.inr rfl) hG hS dX9_mayBeSold_44
theorem tX9_mayBeSold {Γ : gEnv} {N : Nat} {x0 : Nat} {x1 : Option Nat} {u v : gM} {r : Int32} (h : fX9_mayBeSold x0 x1 u = some (r, v)) : Met l yX9_mayBeSold (Cond.code yX9_mayBeSold cX9_mayBeSold 2 (some .boolean) :: gW) rmX9_mayBeSold (va_Pc [va_rf (some x0), va_rf x1] (gPre Γ u N)) (gQ Γ (some (.int r)) v N) 0 0 Γ.2.2.1 :=
  gx_met (nm := "mayBeSold") ⟨by decide +kernel, rfl, rfl⟩ (by simp [lg_sl, gx_cat, gx_catI, gx_catJ]) (fun p e s m below meth c ls C hG hl => wX9_mayBeSold C h hG va_S.rf (by simpa [lv_args, gx_cat, gx_catI, gx_catJ] using hl))
abbrev rmX9_sellable : Room := { frames := 3, cells := 0, slots := 0, locals := 64 }
def fX9_sellable_39 (x0 : Nat) (x1 : Int32) (x2 : Int32) (u : gM) (k4 : Nat → Int32 → Int32 → gM → Option (Int32 × gM)) : Option (Int32 × gM) :=
  k4 x0 x1 (x2 + (1 : Int32)) u
set_option maxHeartbeats 4000000 in
set_option maxRecDepth 20000 in
theorem wX9_sellable_39  (C : gC p s m args meth c cX9_sellable 3 (some .int) RX9 "sellable" Γ){x0 : Nat} {x1 : Int32} {x2 : Int32} {u : gM} {res : Int32 × gM} {k4 : Nat → Int32 → Int32 → gM → Option (Int32 × gM)} (hk4 : ∀ (x0 : Nat) (x1 : Int32) (x2 : Int32) (u : gM) (H : Heap) (locs : List Loc) (ls : Array Slot), k4 x0 x1 x2 u = some res → gAg Γ u N H → va_S Γ.2.2.1 s.heap H locs → lv_has ls 3 [(0, va_rf (some x0)), (1, .int x1), (2, .int x2)] → W p l e rmX9_sellable s m args below meth c H locs 0 0 (MQ below (gQ Γ (some (.int res.1)) res.2 N) args s 0 0 Γ.2.2.1) (F0 m 4 ls [])) (h : fX9_sellable_39 x0 x1 x2 u k4 = some res) {H : Heap} {locs : List Loc} (hG : gAg Γ u N H) (hS : va_S Γ.2.2.1 s.heap H locs) {ls : Array Slot} (hl : lv_has ls 3 [(0, va_rf (some x0)), (1, .int x1), (2, .int x2)]) : W p l e rmX9_sellable s m args below meth c H locs 0 0 (MQ below (gQ Γ (some (.int res.1)) res.2 N) args s 0 0 Γ.2.2.1) (F0 m 39 ls []) := by
  have hx := C.1
  have hb := C.2.1
  unfold fX9_sellable_39 at h
  refine lv_iinc (v := x2 + (1 : Int32)) (lv' := [(2, .int (x2 + (1 : Int32))), (0, va_rf (some x0)), (1, .int x1)]) hx hb dX9_sellable_39 hl (k := 2) rfl rfl (by decide) rfl (fun ls hl => ?_)
  refine lv_goto (tgt := 4) hx hb dX9_sellable_42 (by decide) ?_
  exact hk4 _ _ _ _ _ _ _ h hG hS (lv_sub hl [1, 2, 0] rfl)
def fX9_sellable_4_b (x0 : Nat) (x1 : Int32) (x2 : Int32) (u : gM) (k4 : Nat → Int32 → Int32 → gM → Option (Int32 × gM)) : Option (Int32 × gM) :=
  (gR [10] 0 u x0).bind fun v6 =>
  (v6).bind fun a9 =>
  (gO [0] u a9).bind fun _ =>
  bI (fJx4a65c_size_8abf5 a9 u) fun r9 u9 =>
  if r9 ≤ x2 then (
    some (x1, u9)
  ) else (
    (gR [10] 0 u9 x0).bind fun v17 =>
    (v17).bind fun a21 =>
    (gO [0] u9 a21).bind fun _ =>
    bI (fJx4a65c_get_915e3 a21 x2 u9) fun r21 u21 =>
    (kC [9, 6] u21 r21).bind fun _ =>
    (gO [10] u21 x0).bind fun _ =>
    bI (fX9_mayBeSold x0 r21 u21) fun r27 u27 =>
    if r27 = 0 then (
      fX9_sellable_39 x0 x1 x2 u27 k4
    ) else (
      pU (x1 ||| ((1 : Int32) <<< (x2 &&& 31))) fun z38 =>
      fX9_sellable_39 x0 z38 x2 u27 k4
    )
  )
set_option maxHeartbeats 4000000 in
set_option maxRecDepth 20000 in
theorem wX9_sellable_4_b  (C : gC p s m args meth c cX9_sellable 3 (some .int) RX9 "sellable" Γ){x0 : Nat} {x1 : Int32} {x2 : Int32} {u : gM} {res : Int32 × gM} {k4 : Nat → Int32 → Int32 → gM → Option (Int32 × gM)} (hk4 : ∀ (x0 : Nat) (x1 : Int32) (x2 : Int32) (u : gM) (H : Heap) (locs : List Loc) (ls : Array Slot), k4 x0 x1 x2 u = some res → gAg Γ u N H → va_S Γ.2.2.1 s.heap H locs → lv_has ls 3 [(0, va_rf (some x0)), (1, .int x1), (2, .int x2)] → W p l e rmX9_sellable s m args below meth c H locs 0 0 (MQ below (gQ Γ (some (.int res.1)) res.2 N) args s 0 0 Γ.2.2.1) (F0 m 4 ls [])) (h : fX9_sellable_4_b x0 x1 x2 u k4 = some res) {H : Heap} {locs : List Loc} (hG : gAg Γ u N H) (hS : va_S Γ.2.2.1 s.heap H locs) {ls : Array Slot} (hl : lv_has ls 3 [(0, va_rf (some x0)), (1, .int x1), (2, .int x2)]) : W p l e rmX9_sellable s m args below meth c H locs 0 0 (MQ below (gQ Γ (some (.int res.1)) res.2 N) args s 0 0 Γ.2.2.1) (F0 m 4 ls []) := by
  have hx := C.1
  have hb := C.2.1
  unfold fX9_sellable_4_b at h
  refine lv_iload_n hx hb dX9_sellable_4 rfl (lv_at hl 2 rfl) ?_
  refine gx_aload_n (r := (some x0)) hx hb dX9_sellable_5 rfl (lv_at hl 0 rfl) ?_
  obtain ⟨v6, e6, h⟩ := ob h
  refine gx_getR C hG rfl e6 fgX9_10 dX9_sellable_6 ?_
  obtain ⟨a9, na9, h⟩ := ob h
  obtain ⟨_, eo9, h⟩ := ob h
  obtain ⟨r9, u9, e9, h⟩ := obI h
  refine gx_cV C hG hS [] na9 eo9 (tJx4a65c_size_8abf5 e9) qcX9_93 ⟨rfl, rfl, Nat.le_of_ble_eq_true rfl, Nat.le_of_ble_eq_true rfl⟩ ⟨Nat.zero_le _, Nat.zero_le _⟩ rfl hl.1 rfl (Nat.le_of_ble_eq_true rfl) (st1 := [.int r9, .int x2]) rfl dX9_sellable_9 (fun H locs hG hS => ?_)
  refine lv_icmp_ge (tgt := 45) hx hb dX9_sellable_12 (by decide) (fun hc => ?_) (fun hc => ?_)
  · replace h := it_pos hc h
    refine lv_iload_n hx hb dX9_sellable_45 rfl (lv_at hl 1 rfl) ?_
    cases Option.some.inj h
    exact gx_reti C hG hS dX9_sellable_46
  · replace h := it_neg hc h
    refine gx_aload_n (r := (some x0)) hx hb dX9_sellable_15 rfl (lv_at hl 0 rfl) ?_
    refine gx_aload_n (r := (some x0)) hx hb dX9_sellable_16 rfl (lv_at hl 0 rfl) ?_
    obtain ⟨v17, e17, h⟩ := ob h
    refine gx_getR C hG rfl e17 fgX9_10 dX9_sellable_17 ?_
    refine lv_iload_n hx hb dX9_sellable_20 rfl (lv_at hl 2 rfl) ?_
    obtain ⟨a21, na21, h⟩ := ob h
    obtain ⟨_, eo21, h⟩ := ob h
    obtain ⟨r21, u21, e21, h⟩ := obI h
    refine gx_cV C hG hS [.int x2] na21 eo21 (tJx4a65c_get_915e3 e21) qcX9_144 ⟨rfl, rfl, Nat.le_of_ble_eq_true rfl, Nat.le_of_ble_eq_true rfl⟩ ⟨Nat.zero_le _, Nat.zero_le _⟩ rfl hl.1 rfl (Nat.le_of_ble_eq_true rfl) (st1 := [va_rf r21, va_rf (some x0)]) rfl dX9_sellable_21 (fun H locs hG hS => ?_)
    obtain ⟨_, e24, h⟩ := ob h
    refine gx_cast C hG e24 ckX9_102 dX9_sellable_24 ?_
    obtain ⟨_, eo27, h⟩ := ob h
    obtain ⟨r27, u27, e27, h⟩ := obI h
    refine gx_cV C hG hS [va_rf r21] rfl eo27 (tX9_mayBeSold e27) qcX9_243 ⟨rfl, rfl, Nat.le_of_ble_eq_true rfl, Nat.le_of_ble_eq_true rfl⟩ ⟨Nat.zero_le _, Nat.zero_le _⟩ rfl hl.1 rfl (Nat.le_of_ble_eq_true rfl) (st1 := [.int r27]) rfl dX9_sellable_27 (fun H locs hG hS => ?_)
    refine lv_if_eq (tgt := 39) hx hb dX9_sellable_30 (by decide) (fun hc => ?_) (fun hc => ?_)
    · replace h := it_pos hc h
      exact wX9_sellable_39 C hk4 h hG hS (lv_sub hl [0, 1, 2] rfl)
    · replace h := it_neg hc h
      refine lv_iload_n hx hb dX9_sellable_33 rfl (lv_at hl 1 rfl) ?_
      refine lv_iconst (v := 1) hx hb dX9_sellable_34 (by decide) ?_
      refine lv_iload_n hx hb dX9_sellable_35 rfl (lv_at hl 2 rfl) ?_
      refine lv_ishl hx hb dX9_sellable_36 ?_
      refine lv_ior hx hb dX9_sellable_37 ?_
      obtain ⟨z38, ez38, h⟩ := op h
      refine gx_topI ez38 ?_
      refine lv_istore_n (i := 1) (lv' := [(1, .int z38), (0, va_rf (some x0)), (2, .int x2)]) hx hb dX9_sellable_38 rfl hl (by decide) rfl (fun ls hl => ?_)
      exact wX9_sellable_39 C hk4 h hG hS (lv_sub hl [1, 0, 2] rfl)
def fX9_sellable_4 : Nat → Nat → Int32 → Int32 → gM → Option (Int32 × gM)
  | 0 => fun _ _ _ _ => none
  | n + 1 => fun x0 x1 x2 u => fX9_sellable_4_b x0 x1 x2 u (fX9_sellable_4 n) 
theorem wX9_sellable_4 (C : gC p s m args meth c cX9_sellable 3 (some .int) RX9 "sellable" Γ) {res : Int32 × gM} (n : Nat) : ∀ {x0 : Nat} {x1 : Int32} {x2 : Int32} {u : gM} {H : Heap} {locs : List Loc} {ls : Array Slot}, fX9_sellable_4 n x0 x1 x2 u = some res → gAg Γ u N H → va_S Γ.2.2.1 s.heap H locs → lv_has ls 3 [(0, va_rf (some x0)), (1, .int x1), (2, .int x2)] → W p l e rmX9_sellable s m args below meth c H locs 0 0 (MQ below (gQ Γ (some (.int res.1)) res.2 N) args s 0 0 Γ.2.2.1) (F0 m 4 ls []) := by
  induction n with
  | zero => intro _ _ _ _ _ _ _ h _ _ _; cases (show (none : Option (Int32 × gM)) = some res from h)
  | succ n ih => intro _ _ _ _ _ _ _ h hG hS hl; exact wX9_sellable_4_b C (fun _ _ _ _ _ _ _ h hG hS hl => ih h hG hS hl) h hG hS hl
def fX9_sellable (x0 : Nat) (u : gM) : Option (Int32 × gM) :=
  fX9_sellable_4  FU x0 (0 : Int32) (0 : Int32) u
set_option maxHeartbeats 4000000 in
set_option maxRecDepth 20000 in
theorem wX9_sellable  (C : gC p s m args meth c cX9_sellable 3 (some .int) RX9 "sellable" Γ){x0 : Nat} {u : gM} {res : Int32 × gM} (h : fX9_sellable x0 u = some res) {H : Heap} {locs : List Loc} (hG : gAg Γ u N H) (hS : va_S Γ.2.2.1 s.heap H locs) {ls : Array Slot} (hl : lv_has ls 3 [(0, va_rf (some x0))]) : W p l e rmX9_sellable s m args below meth c H locs 0 0 (MQ below (gQ Γ (some (.int res.1)) res.2 N) args s 0 0 Γ.2.2.1) (F0 m 0 ls []) := by
  have hx := C.1
  have hb := C.2.1
  unfold fX9_sellable at h
  refine lv_iconst (v := 0) hx hb dX9_sellable_0 (by decide) ?_
  refine lv_istore_n (i := 1) (lv' := [(1, .int (0 : Int32)), (0, va_rf (some x0))]) hx hb dX9_sellable_1 rfl hl (by decide) rfl (fun ls hl => ?_)
  refine lv_iconst (v := 0) hx hb dX9_sellable_2 (by decide) ?_
  refine lv_istore_n (i := 2) (lv' := [(2, .int (0 : Int32)), (1, .int (0 : Int32)), (0, va_rf (some x0))]) hx hb dX9_sellable_3 rfl hl (by decide) rfl (fun ls hl => ?_)
  exact wX9_sellable_4 C  FU h hG hS (lv_sub hl [2, 1, 0] rfl)
theorem tX9_sellable {Γ : gEnv} {N : Nat} {x0 : Nat} {u v : gM} {r : Int32} (h : fX9_sellable x0 u = some (r, v)) : Met l yX9_sellable (Cond.code yX9_sellable cX9_sellable 3 (some .int) :: gW) rmX9_sellable (va_Pc [va_rf (some x0)] (gPre Γ u N)) (gQ Γ (some (.int r)) v N) 0 0 Γ.2.2.1 :=
  gx_met (nm := "sellable") ⟨by decide +kernel, rfl, rfl⟩ (Nat.le_of_ble_eq_true rfl) (fun p e s m below meth c ls C hG hl => wX9_sellable C h hG va_S.rf hl)
abbrev rmJx4a65c_clear_da8c8 : Room := { frames := 0, cells := 0, slots := 0, locals := 0 }
def fJx4a65c_clear_da8c8_27_b (x1 : Option Nat) (x2 : Int32) (x3 : Int32) (u : gM) (k27 : Option Nat → Int32 → Int32 → gM → Option (gM)) : Option (gM) :=
  if x2 ≤ x3 then (
    some u
  ) else (
    (x1).bind fun a35 =>
    (uQ u a35 x3 none).bind fun u35 =>
    k27 x1 x2 (x3 + (1 : Int32)) u35
  )
set_option maxHeartbeats 4000000 in
set_option maxRecDepth 20000 in
theorem wJx4a65c_clear_da8c8_27_b  (C : gC p s m args meth c cJx4a65c_clear_da8c8 4 none RJx4a65c "clear" Γ){x1 : Option Nat} {x2 : Int32} {x3 : Int32} {u : gM} {res : gM} {k27 : Option Nat → Int32 → Int32 → gM → Option (gM)} (hk27 : ∀ (x1 : Option Nat) (x2 : Int32) (x3 : Int32) (u : gM) (H : Heap) (locs : List Loc) (ls : Array Slot), k27 x1 x2 x3 u = some res → gAg Γ u N H → va_S Γ.2.2.1 s.heap H locs → lv_has ls 4 [(1, va_rf x1), (2, .int x2), (3, .int x3)] → W p l e rmJx4a65c_clear_da8c8 s m args below meth c H locs 0 0 (MQ below (gQ Γ none res N) args s 0 0 Γ.2.2.1) (F0 m 27 ls [])) (h : fJx4a65c_clear_da8c8_27_b x1 x2 x3 u k27 = some res) {H : Heap} {locs : List Loc} (hG : gAg Γ u N H) (hS : va_S Γ.2.2.1 s.heap H locs) {ls : Array Slot} (hl : lv_has ls 4 [(1, va_rf x1), (2, .int x2), (3, .int x3)]) : W p l e rmJx4a65c_clear_da8c8 s m args below meth c H locs 0 0 (MQ below (gQ Γ none res N) args s 0 0 Γ.2.2.1) (F0 m 27 ls []) := by
  have hx := C.1
  have hb := C.2.1
  unfold fJx4a65c_clear_da8c8_27_b at h
  refine lv_iload_n hx hb dJx4a65c_clear_da8c8_27 rfl (lv_at hl 2 rfl) ?_
  refine lv_iload_n hx hb dJx4a65c_clear_da8c8_28 rfl (lv_at hl 1 rfl) ?_
  refine lv_icmp_ge (tgt := 42) hx hb dJx4a65c_clear_da8c8_29 (by decide) (fun hc => ?_) (fun hc => ?_)
  · replace h := it_pos hc h
    cases Option.some.inj h
    exact gx_retv C hG hS dJx4a65c_clear_da8c8_42
  · replace h := it_neg hc h
    refine gx_aload_n (r := x1) hx hb dJx4a65c_clear_da8c8_32 rfl (lv_at hl 0 rfl) ?_
    refine lv_iload_n hx hb dJx4a65c_clear_da8c8_33 rfl (lv_at hl 2 rfl) ?_
    refine gx_null hx hb dJx4a65c_clear_da8c8_34 ?_
    obtain ⟨a35, na35, h⟩ := ob h
    obtain ⟨u35, e35, h⟩ := ob h
    refine gx_aast C hG hS na35 e35 dJx4a65c_clear_da8c8_35 (fun H locs hG hS => ?_)
    refine lv_iinc (v := x3 + (1 : Int32)) (lv' := [(3, .int (x3 + (1 : Int32))), (1, va_rf x1), (2, .int x2)]) hx hb dJx4a65c_clear_da8c8_36 hl (k := 2) rfl rfl (by decide) rfl (fun ls hl => ?_)
    refine lv_goto (tgt := 27) hx hb dJx4a65c_clear_da8c8_39 (by decide) ?_
    exact hk27 _ _ _ _ _ _ _ h hG hS (lv_sub hl [1, 2, 0] rfl)
def fJx4a65c_clear_da8c8_27 : Nat → Option Nat → Int32 → Int32 → gM → Option (gM)
  | 0 => fun _ _ _ _ => none
  | n + 1 => fun x1 x2 x3 u => fJx4a65c_clear_da8c8_27_b x1 x2 x3 u (fJx4a65c_clear_da8c8_27 n) 
theorem wJx4a65c_clear_da8c8_27 (C : gC p s m args meth c cJx4a65c_clear_da8c8 4 none RJx4a65c "clear" Γ) {res : gM} (n : Nat) : ∀ {x1 : Option Nat} {x2 : Int32} {x3 : Int32} {u : gM} {H : Heap} {locs : List Loc} {ls : Array Slot}, fJx4a65c_clear_da8c8_27 n x1 x2 x3 u = some res → gAg Γ u N H → va_S Γ.2.2.1 s.heap H locs → lv_has ls 4 [(1, va_rf x1), (2, .int x2), (3, .int x3)] → W p l e rmJx4a65c_clear_da8c8 s m args below meth c H locs 0 0 (MQ below (gQ Γ none res N) args s 0 0 Γ.2.2.1) (F0 m 27 ls []) := by
  induction n with
  | zero => intro _ _ _ _ _ _ _ h _ _ _; cases (show (none : Option (gM)) = some res from h)
  | succ n ih => intro _ _ _ _ _ _ _ h hG hS hl; exact wJx4a65c_clear_da8c8_27_b C (fun _ _ _ _ _ _ _ h hG hS hl => ih h hG hS hl) h hG hS hl
def fJx4a65c_clear_da8c8 (x0 : Nat) (u : gM) : Option (gM) :=
  (gI [0] 0 u x0).bind fun v2 =>
  (pV [0] 0 (.int (v2 + (1 : Int32))) u x0).bind fun u7 =>
  (gR [0] 1 u7 x0).bind fun v11 =>
  (gI [0] 2 u7 x0).bind fun v16 =>
  (pV [0] 2 (.int (0 : Int32)) u7 x0).bind fun u23 =>
  fJx4a65c_clear_da8c8_27  FU v11 v16 (0 : Int32) u23
set_option maxHeartbeats 4000000 in
set_option maxRecDepth 20000 in
theorem wJx4a65c_clear_da8c8  (C : gC p s m args meth c cJx4a65c_clear_da8c8 4 none RJx4a65c "clear" Γ){x0 : Nat} {u : gM} {res : gM} (h : fJx4a65c_clear_da8c8 x0 u = some res) {H : Heap} {locs : List Loc} (hG : gAg Γ u N H) (hS : va_S Γ.2.2.1 s.heap H locs) {ls : Array Slot} (hl : lv_has ls 4 [(0, va_rf (some x0))]) : W p l e rmJx4a65c_clear_da8c8 s m args below meth c H locs 0 0 (MQ below (gQ Γ none res N) args s 0 0 Γ.2.2.1) (F0 m 0 ls []) := by
  have hx := C.1
  have hb := C.2.1
  unfold fJx4a65c_clear_da8c8 at h
  refine gx_aload_n (r := (some x0)) hx hb dJx4a65c_clear_da8c8_0 rfl (lv_at hl 0 rfl) ?_
  refine lv_dup hx hb dJx4a65c_clear_da8c8_1 (by first | rfl | exact gx_cat _) ?_
  obtain ⟨v2, e2, h⟩ := ob h
  refine gx_getI C hG rfl e2 fgJx4a65c_63 dJx4a65c_clear_da8c8_2 ?_
  refine lv_iconst (v := 1) hx hb dJx4a65c_clear_da8c8_5 (by decide) ?_
  refine lv_iadd hx hb dJx4a65c_clear_da8c8_6 ?_
  obtain ⟨u7, e7, h⟩ := ob h
  refine gx_put C hG hS rfl e7 fgJx4a65c_63 fpJx4a65c_63 (fun q => by cases q) rfl rfl dJx4a65c_clear_da8c8_7 (fun H locs hG hS => ?_)
  refine gx_aload_n (r := (some x0)) hx hb dJx4a65c_clear_da8c8_10 rfl (lv_at hl 0 rfl) ?_
  obtain ⟨v11, e11, h⟩ := ob h
  refine gx_getR C hG rfl e11 fgJx4a65c_9 dJx4a65c_clear_da8c8_11 ?_
  refine gx_astore_n (r := v11) (i := 1) (lv' := [(1, va_rf v11), (0, va_rf (some x0))]) hx hb dJx4a65c_clear_da8c8_14 rfl hl (by decide) rfl (fun ls hl => ?_)
  refine gx_aload_n (r := (some x0)) hx hb dJx4a65c_clear_da8c8_15 rfl (lv_at hl 1 rfl) ?_
  obtain ⟨v16, e16, h⟩ := ob h
  refine gx_getI C hG rfl e16 fgJx4a65c_48 dJx4a65c_clear_da8c8_16 ?_
  refine lv_istore_n (i := 2) (lv' := [(2, .int v16), (1, va_rf v11), (0, va_rf (some x0))]) hx hb dJx4a65c_clear_da8c8_19 rfl hl (by decide) (by simp [gx_cat, gx_catI, gx_catJ]) (fun ls hl => ?_)
  refine gx_aload_n (r := (some x0)) hx hb dJx4a65c_clear_da8c8_20 rfl (lv_at hl 2 rfl) ?_
  refine lv_iconst (v := 0) hx hb dJx4a65c_clear_da8c8_21 (by decide) ?_
  refine lv_dup_x1 hx hb dJx4a65c_clear_da8c8_22 (by first | rfl | exact gx_cat _) (by first | rfl | exact gx_cat _) ?_
  obtain ⟨u23, e23, h⟩ := ob h
  refine gx_put C hG hS rfl e23 fgJx4a65c_48 fpJx4a65c_48 (fun q => by cases q) rfl rfl dJx4a65c_clear_da8c8_23 (fun H locs hG hS => ?_)
  refine lv_istore_n (i := 3) (lv' := [(3, .int (0 : Int32)), (2, .int v16), (1, va_rf v11), (0, va_rf (some x0))]) hx hb dJx4a65c_clear_da8c8_26 rfl hl (by decide) rfl (fun ls hl => ?_)
  exact wJx4a65c_clear_da8c8_27 C  FU h hG hS (lv_sub hl [2, 1, 0] rfl)
theorem tJx4a65c_clear_da8c8 {Γ : gEnv} {N : Nat} {x0 : Nat} {u v : gM} (h : fJx4a65c_clear_da8c8 x0 u = some v) : Met l yJx4a65c_clear_da8c8 (Cond.code yJx4a65c_clear_da8c8 cJx4a65c_clear_da8c8 4 none :: gW) rmJx4a65c_clear_da8c8 (va_Pc [va_rf (some x0)] (gPre Γ u N)) (gQ Γ none v N) 0 0 Γ.2.2.1 :=
  gx_met (nm := "clear") ⟨by decide +kernel, rfl, rfl⟩ (Nat.le_of_ble_eq_true rfl) (fun p e s m below meth c ls C hG hl => wJx4a65c_clear_da8c8 C h hG va_S.rf hl)
end
