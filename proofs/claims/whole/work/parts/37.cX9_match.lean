section
variable {p : Program} {l : Launch} {e : Env} {s : State} {m : MethodId} {args : Array Value} {below : List Frame} {meth : Method} {c : Code} {Γ : gEnv} {N sB : Nat}
abbrev rmX9_match : Room := { frames := 4, cells := 0, slots := 0, locals := 86 }
def fX9_match (x0 : Nat) (x1 : Int32) (u : gM) : Option (Int32 × gM) :=
  (gR [10] 1 u x0).bind fun v3 =>
  (v3).bind fun a6 =>
  (gO [0] u a6).bind fun _ =>
  bI (fJx4a65c_size_8abf5 a6 u) fun r6 u6 =>
  bI (fX9_within x1 (-1 : Int32) (r6 - (1 : Int32)) u6) fun r11 u11 =>
  if r11 = 0 then (
    (gO [10] u11 x0).bind fun _ =>
    bI (fX9_finding x0 (1 : Int32) u11) fun r19 u19 =>
    some (r19, u19)
  ) else (
    (gO [10] u11 x0).bind fun _ =>
    bI (fX9_bestMatch x0 u11) fun r24 u24 =>
    if x1 = (-1 : Int32) then (
      bI (fX3_likenessesIn r24 u24) fun r34 u34 =>
      some (r34, u34)
    ) else (
      bI (fX3_thingIn r24 x1 u24) fun r40 u40 =>
      if r40 = (-1 : Int32) then (
        (gO [10] u40 x0).bind fun _ =>
        bI (fX9_finding x0 (2 : Int32) u40) fun r53 u53 =>
        some (r53, u53)
      ) else (
        some (r40, u40)
      )
    )
  )
set_option maxHeartbeats 4000000 in
set_option maxRecDepth 20000 in
theorem wX9_match  (C : gC p s m args meth c cX9_match 5 (some .int) RX9 "match" Γ){x0 : Nat} {x1 : Int32} {u : gM} {res : Int32 × gM} (h : fX9_match x0 x1 u = some res) {H : Heap} {locs : List Loc} (hG : gAg Γ u N H) (hS : va_S Γ.2.2.1 s.heap H locs) {ls : Array Slot} (hl : lv_has ls 5 [(0, va_rf (some x0)), (1, .int x1)]) : W p l e rmX9_match s m args below meth c H locs 0 0 (MQ below (gQ Γ (some (.int res.1)) res.2 N) args s 0 0 Γ.2.2.1) (F0 m 0 ls []) := by
  have hx := C.1
  have hb := C.2.1
  unfold fX9_match at h
  refine lv_iload_n hx hb dX9_match_0 rfl (lv_at hl 1 rfl) ?_
  refine lv_iconst (v := -1) hx hb dX9_match_1 (by decide) ?_
  refine gx_aload_n (r := (some x0)) hx hb dX9_match_2 rfl (lv_at hl 0 rfl) ?_
  obtain ⟨v3, e3, h⟩ := ob h
  refine gx_getR C hG rfl e3 fgX9_16 dX9_match_3 ?_
  obtain ⟨a6, na6, h⟩ := ob h
  obtain ⟨_, eo6, h⟩ := ob h
  obtain ⟨r6, u6, e6, h⟩ := obI h
  refine gx_cV C hG hS [] na6 eo6 (tJx4a65c_size_8abf5 e6) qcX9_93 ⟨rfl, rfl, Nat.le_of_ble_eq_true rfl, Nat.le_of_ble_eq_true rfl⟩ ⟨Nat.zero_le _, Nat.zero_le _⟩ rfl hl.1 rfl (Nat.le_of_ble_eq_true rfl) (st1 := [.int r6, .int (-1 : Int32), .int x1]) rfl dX9_match_6 (fun H locs hG hS => ?_)
  refine lv_iconst (v := 1) hx hb dX9_match_9 (by decide) ?_
  refine lv_isub hx hb dX9_match_10 ?_
  obtain ⟨r11, u11, e11, h⟩ := obI h
  refine gx_cS C hG hS [.int x1, .int (-1 : Int32), .int (r6 - (1 : Int32))] (tX9_within e11) qcX9_85 ⟨rfl, rfl, Nat.le_of_ble_eq_true rfl, Nat.le_of_ble_eq_true rfl⟩ ⟨Nat.zero_le _, Nat.zero_le _⟩ rfl hl.1 rfl (Nat.le_of_ble_eq_true rfl) (st1 := [.int r11]) rfl dX9_match_11 (fun H locs hG hS => ?_)
  refine lv_if_ne (tgt := 23) hx hb dX9_match_14 (by decide) (fun hc => ?_) (fun hc => ?_)
  · replace h := it_neg hc h
    refine gx_aload_n (r := (some x0)) hx hb dX9_match_23 rfl (lv_at hl 0 rfl) ?_
    obtain ⟨_, eo24, h⟩ := ob h
    obtain ⟨r24, u24, e24, h⟩ := obI h
    refine gx_cV C hG hS [] rfl eo24 (tX9_bestMatch e24) qcX9_177 ⟨rfl, rfl, Nat.le_of_ble_eq_true rfl, Nat.le_of_ble_eq_true rfl⟩ ⟨Nat.zero_le _, Nat.zero_le _⟩ rfl hl.1 rfl (Nat.le_of_ble_eq_true rfl) (st1 := [.long r24]) rfl dX9_match_24 (fun H locs hG hS => ?_)
    refine lv_lstore_n (i := 2) (lv' := [(2, .long r24), (0, va_rf (some x0)), (1, .int x1)]) hx hb dX9_match_27 rfl hl (by decide) rfl (fun ls hl => ?_)
    refine lv_iload_n hx hb dX9_match_28 rfl (lv_at hl 2 rfl) ?_
    refine lv_iconst (v := -1) hx hb dX9_match_29 (by decide) ?_
    refine lv_icmp_ne (tgt := 38) hx hb dX9_match_30 (by decide) (fun hc => ?_) (fun hc => ?_)
    · replace h := it_neg hc h
      refine lv_lload_n hx hb dX9_match_38 rfl (lv_at hl 0 rfl) ?_
      refine lv_iload_n hx hb dX9_match_39 rfl (lv_at hl 2 rfl) ?_
      obtain ⟨r40, u40, e40, h⟩ := obI h
      refine gx_cS C hG hS [.long r24, .int x1] (tX3_thingIn e40) qcX9_185 ⟨rfl, rfl, Nat.le_of_ble_eq_true rfl, Nat.le_of_ble_eq_true rfl⟩ ⟨Nat.zero_le _, Nat.zero_le _⟩ rfl hl.1 rfl (Nat.le_of_ble_eq_true rfl) (st1 := [.int r40]) rfl dX9_match_40 (fun H locs hG hS => ?_)
      refine lv_istore (i := 4) (lv' := [(4, .int r40), (2, .long r24), (0, va_rf (some x0)), (1, .int x1)]) hx hb dX9_match_43 hl (by decide) rfl (fun ls hl => ?_)
      refine lv_iload hx hb dX9_match_45 (lv_at hl 0 rfl) ?_
      refine lv_iconst (v := -1) hx hb dX9_match_47 (by decide) ?_
      refine lv_icmp_ne (tgt := 59) hx hb dX9_match_48 (by decide) (fun hc => ?_) (fun hc => ?_)
      · replace h := it_neg hc h
        refine lv_iload hx hb dX9_match_59 (lv_at hl 0 rfl) ?_
        cases Option.some.inj h
        exact gx_reti C hG hS dX9_match_61
      · replace h := it_pos hc h
        refine gx_aload_n (r := (some x0)) hx hb dX9_match_51 rfl (lv_at hl 2 rfl) ?_
        refine lv_iconst (v := 2) hx hb dX9_match_52 (by decide) ?_
        obtain ⟨_, eo53, h⟩ := ob h
        obtain ⟨r53, u53, e53, h⟩ := obI h
        refine gx_cV C hG hS [.int (2 : Int32)] rfl eo53 (tX9_finding e53) qcX9_89 ⟨rfl, rfl, Nat.le_of_ble_eq_true rfl, Nat.le_of_ble_eq_true rfl⟩ ⟨Nat.zero_le _, Nat.zero_le _⟩ rfl hl.1 rfl (Nat.le_of_ble_eq_true rfl) (st1 := [.int r53]) rfl dX9_match_53 (fun H locs hG hS => ?_)
        refine lv_goto (tgt := 61) hx hb dX9_match_56 (by decide) ?_
        cases Option.some.inj h
        exact gx_reti C hG hS dX9_match_61
    · replace h := it_pos hc h
      refine lv_lload_n hx hb dX9_match_33 rfl (lv_at hl 0 rfl) ?_
      obtain ⟨r34, u34, e34, h⟩ := obI h
      refine gx_cS C hG hS [.long r24] (tX3_likenessesIn e34) qcX9_181 ⟨rfl, rfl, Nat.le_of_ble_eq_true rfl, Nat.le_of_ble_eq_true rfl⟩ ⟨Nat.zero_le _, Nat.zero_le _⟩ rfl hl.1 rfl (Nat.le_of_ble_eq_true rfl) (st1 := [.int r34]) rfl dX9_match_34 (fun H locs hG hS => ?_)
      cases Option.some.inj h
      exact gx_reti C hG hS dX9_match_37
  · replace h := it_pos hc h
    refine gx_aload_n (r := (some x0)) hx hb dX9_match_17 rfl (lv_at hl 0 rfl) ?_
    refine lv_iconst (v := 1) hx hb dX9_match_18 (by decide) ?_
    obtain ⟨_, eo19, h⟩ := ob h
    obtain ⟨r19, u19, e19, h⟩ := obI h
    refine gx_cV C hG hS [.int (1 : Int32)] rfl eo19 (tX9_finding e19) qcX9_89 ⟨rfl, rfl, Nat.le_of_ble_eq_true rfl, Nat.le_of_ble_eq_true rfl⟩ ⟨Nat.zero_le _, Nat.zero_le _⟩ rfl hl.1 rfl (Nat.le_of_ble_eq_true rfl) (st1 := [.int r19]) rfl dX9_match_19 (fun H locs hG hS => ?_)
    cases Option.some.inj h
    exact gx_reti C hG hS dX9_match_22
theorem tX9_match {Γ : gEnv} {N : Nat} {x0 : Nat} {x1 : Int32} {u v : gM} {r : Int32} (h : fX9_match x0 x1 u = some (r, v)) : Met l yX9_match (Cond.code yX9_match cX9_match 5 (some .int) :: gW) rmX9_match (va_Pc [va_rf (some x0), .int x1] (gPre Γ u N)) (gQ Γ (some (.int r)) v N) 0 0 Γ.2.2.1 :=
  gx_met (nm := "match") ⟨by decide +kernel, rfl, rfl⟩ (Nat.le_of_ble_eq_true rfl) (fun p e s m below meth c ls C hG hl => wX9_match C h hG va_S.rf hl)
abbrev rmX9_heldBy : Room := { frames := 3, cells := 0, slots := 0, locals := 64 }
def fX9_heldBy_36 (x0 : Nat) (x1 : Int32) (x2 : Int32) (x3 : Int32) (u : gM) (k4 : Nat → Int32 → Int32 → Int32 → gM → Option (Int32 × gM)) : Option (Int32 × gM) :=
  k4 x0 x1 x2 (x3 + (1 : Int32)) u
set_option maxHeartbeats 4000000 in
set_option maxRecDepth 20000 in
theorem wX9_heldBy_36  (C : gC p s m args meth c cX9_heldBy 4 (some .int) RX9 "heldBy" Γ){x0 : Nat} {x1 : Int32} {x2 : Int32} {x3 : Int32} {u : gM} {res : Int32 × gM} {k4 : Nat → Int32 → Int32 → Int32 → gM → Option (Int32 × gM)} (hk4 : ∀ (x0 : Nat) (x1 : Int32) (x2 : Int32) (x3 : Int32) (u : gM) (H : Heap) (locs : List Loc) (ls : Array Slot), k4 x0 x1 x2 x3 u = some res → gAg Γ u N H → va_S Γ.2.2.1 s.heap H locs → lv_has ls 4 [(0, va_rf (some x0)), (1, .int x1), (2, .int x2), (3, .int x3)] → W p l e rmX9_heldBy s m args below meth c H locs 0 0 (MQ below (gQ Γ (some (.int res.1)) res.2 N) args s 0 0 Γ.2.2.1) (F0 m 4 ls [])) (h : fX9_heldBy_36 x0 x1 x2 x3 u k4 = some res) {H : Heap} {locs : List Loc} (hG : gAg Γ u N H) (hS : va_S Γ.2.2.1 s.heap H locs) {ls : Array Slot} (hl : lv_has ls 4 [(0, va_rf (some x0)), (1, .int x1), (2, .int x2), (3, .int x3)]) : W p l e rmX9_heldBy s m args below meth c H locs 0 0 (MQ below (gQ Γ (some (.int res.1)) res.2 N) args s 0 0 Γ.2.2.1) (F0 m 36 ls []) := by
  have hx := C.1
  have hb := C.2.1
  unfold fX9_heldBy_36 at h
  refine lv_iinc (v := x3 + (1 : Int32)) (lv' := [(3, .int (x3 + (1 : Int32))), (0, va_rf (some x0)), (1, .int x1), (2, .int x2)]) hx hb dX9_heldBy_36 hl (k := 3) rfl rfl (by decide) rfl (fun ls hl => ?_)
  refine lv_goto (tgt := 4) hx hb dX9_heldBy_39 (by decide) ?_
  exact hk4 _ _ _ _ _ _ _ _ h hG hS (lv_sub hl [1, 2, 3, 0] rfl)
def fX9_heldBy_4_b (x0 : Nat) (x1 : Int32) (x2 : Int32) (x3 : Int32) (u : gM) (k4 : Nat → Int32 → Int32 → Int32 → gM → Option (Int32 × gM)) : Option (Int32 × gM) :=
  (gR [10] 0 u x0).bind fun v6 =>
  (v6).bind fun a9 =>
  (gO [0] u a9).bind fun _ =>
  bI (fJx4a65c_size_8abf5 a9 u) fun r9 u9 =>
  if r9 ≤ x3 then (
    some (x2, u9)
  ) else (
    (gR [10] 0 u9 x0).bind fun v16 =>
    (v16).bind fun a20 =>
    (gO [0] u9 a20).bind fun _ =>
    bI (fJx4a65c_get_915e3 a20 x3 u9) fun r20 u20 =>
    (kC [9, 6] u20 r20).bind fun _ =>
    (r20).bind fun a26 =>
    (gI [9, 6] 7 u20 a26).bind fun v26 =>
    if v26 = x1 then (
      fX9_heldBy_36 x0 x1 (x2 + (1 : Int32)) x3 u20 k4
    ) else (
      fX9_heldBy_36 x0 x1 x2 x3 u20 k4
    )
  )
set_option maxHeartbeats 4000000 in
set_option maxRecDepth 20000 in
theorem wX9_heldBy_4_b  (C : gC p s m args meth c cX9_heldBy 4 (some .int) RX9 "heldBy" Γ){x0 : Nat} {x1 : Int32} {x2 : Int32} {x3 : Int32} {u : gM} {res : Int32 × gM} {k4 : Nat → Int32 → Int32 → Int32 → gM → Option (Int32 × gM)} (hk4 : ∀ (x0 : Nat) (x1 : Int32) (x2 : Int32) (x3 : Int32) (u : gM) (H : Heap) (locs : List Loc) (ls : Array Slot), k4 x0 x1 x2 x3 u = some res → gAg Γ u N H → va_S Γ.2.2.1 s.heap H locs → lv_has ls 4 [(0, va_rf (some x0)), (1, .int x1), (2, .int x2), (3, .int x3)] → W p l e rmX9_heldBy s m args below meth c H locs 0 0 (MQ below (gQ Γ (some (.int res.1)) res.2 N) args s 0 0 Γ.2.2.1) (F0 m 4 ls [])) (h : fX9_heldBy_4_b x0 x1 x2 x3 u k4 = some res) {H : Heap} {locs : List Loc} (hG : gAg Γ u N H) (hS : va_S Γ.2.2.1 s.heap H locs) {ls : Array Slot} (hl : lv_has ls 4 [(0, va_rf (some x0)), (1, .int x1), (2, .int x2), (3, .int x3)]) : W p l e rmX9_heldBy s m args below meth c H locs 0 0 (MQ below (gQ Γ (some (.int res.1)) res.2 N) args s 0 0 Γ.2.2.1) (F0 m 4 ls []) := by
  have hx := C.1
  have hb := C.2.1
  unfold fX9_heldBy_4_b at h
  refine lv_iload_n hx hb dX9_heldBy_4 rfl (lv_at hl 3 rfl) ?_
  refine gx_aload_n (r := (some x0)) hx hb dX9_heldBy_5 rfl (lv_at hl 0 rfl) ?_
  obtain ⟨v6, e6, h⟩ := ob h
  refine gx_getR C hG rfl e6 fgX9_10 dX9_heldBy_6 ?_
  obtain ⟨a9, na9, h⟩ := ob h
  obtain ⟨_, eo9, h⟩ := ob h
  obtain ⟨r9, u9, e9, h⟩ := obI h
  refine gx_cV C hG hS [] na9 eo9 (tJx4a65c_size_8abf5 e9) qcX9_93 ⟨rfl, rfl, Nat.le_of_ble_eq_true rfl, Nat.le_of_ble_eq_true rfl⟩ ⟨Nat.zero_le _, Nat.zero_le _⟩ rfl hl.1 rfl (Nat.le_of_ble_eq_true rfl) (st1 := [.int r9, .int x3]) rfl dX9_heldBy_9 (fun H locs hG hS => ?_)
  refine lv_icmp_ge (tgt := 42) hx hb dX9_heldBy_12 (by decide) (fun hc => ?_) (fun hc => ?_)
  · replace h := it_pos hc h
    refine lv_iload_n hx hb dX9_heldBy_42 rfl (lv_at hl 2 rfl) ?_
    cases Option.some.inj h
    exact gx_reti C hG hS dX9_heldBy_43
  · replace h := it_neg hc h
    refine gx_aload_n (r := (some x0)) hx hb dX9_heldBy_15 rfl (lv_at hl 0 rfl) ?_
    obtain ⟨v16, e16, h⟩ := ob h
    refine gx_getR C hG rfl e16 fgX9_10 dX9_heldBy_16 ?_
    refine lv_iload_n hx hb dX9_heldBy_19 rfl (lv_at hl 3 rfl) ?_
    obtain ⟨a20, na20, h⟩ := ob h
    obtain ⟨_, eo20, h⟩ := ob h
    obtain ⟨r20, u20, e20, h⟩ := obI h
    refine gx_cV C hG hS [.int x3] na20 eo20 (tJx4a65c_get_915e3 e20) qcX9_144 ⟨rfl, rfl, Nat.le_of_ble_eq_true rfl, Nat.le_of_ble_eq_true rfl⟩ ⟨Nat.zero_le _, Nat.zero_le _⟩ rfl hl.1 rfl (Nat.le_of_ble_eq_true rfl) (st1 := [va_rf r20]) rfl dX9_heldBy_20 (fun H locs hG hS => ?_)
    obtain ⟨_, e23, h⟩ := ob h
    refine gx_cast C hG e23 ckX9_102 dX9_heldBy_23 ?_
    obtain ⟨a26, na26, h⟩ := ob h
    obtain ⟨v26, e26, h⟩ := ob h
    refine gx_getI C hG na26 e26 fgX9_141 dX9_heldBy_26 ?_
    refine lv_iload_n hx hb dX9_heldBy_29 rfl (lv_at hl 1 rfl) ?_
    refine lv_icmp_ne (tgt := 36) hx hb dX9_heldBy_30 (by decide) (fun hc => ?_) (fun hc => ?_)
    · replace h := it_neg hc h
      exact wX9_heldBy_36 C hk4 h hG hS (lv_sub hl [0, 1, 2, 3] rfl)
    · replace h := it_pos hc h
      refine lv_iinc (v := x2 + (1 : Int32)) (lv' := [(2, .int (x2 + (1 : Int32))), (0, va_rf (some x0)), (1, .int x1), (3, .int x3)]) hx hb dX9_heldBy_33 hl (k := 2) rfl rfl (by decide) rfl (fun ls hl => ?_)
      exact wX9_heldBy_36 C hk4 h hG hS (lv_sub hl [1, 2, 0, 3] rfl)
def fX9_heldBy_4 : Nat → Nat → Int32 → Int32 → Int32 → gM → Option (Int32 × gM)
  | 0 => fun _ _ _ _ _ => none
  | n + 1 => fun x0 x1 x2 x3 u => fX9_heldBy_4_b x0 x1 x2 x3 u (fX9_heldBy_4 n) 
theorem wX9_heldBy_4 (C : gC p s m args meth c cX9_heldBy 4 (some .int) RX9 "heldBy" Γ) {res : Int32 × gM} (n : Nat) : ∀ {x0 : Nat} {x1 : Int32} {x2 : Int32} {x3 : Int32} {u : gM} {H : Heap} {locs : List Loc} {ls : Array Slot}, fX9_heldBy_4 n x0 x1 x2 x3 u = some res → gAg Γ u N H → va_S Γ.2.2.1 s.heap H locs → lv_has ls 4 [(0, va_rf (some x0)), (1, .int x1), (2, .int x2), (3, .int x3)] → W p l e rmX9_heldBy s m args below meth c H locs 0 0 (MQ below (gQ Γ (some (.int res.1)) res.2 N) args s 0 0 Γ.2.2.1) (F0 m 4 ls []) := by
  induction n with
  | zero => intro _ _ _ _ _ _ _ _ h _ _ _; cases (show (none : Option (Int32 × gM)) = some res from h)
  | succ n ih => intro _ _ _ _ _ _ _ _ h hG hS hl; exact wX9_heldBy_4_b C (fun _ _ _ _ _ _ _ _ h hG hS hl => ih h hG hS hl) h hG hS hl
def fX9_heldBy (x0 : Nat) (x1 : Int32) (u : gM) : Option (Int32 × gM) :=
  fX9_heldBy_4  FU x0 x1 (0 : Int32) (0 : Int32) u
set_option maxHeartbeats 4000000 in
set_option maxRecDepth 20000 in
theorem wX9_heldBy  (C : gC p s m args meth c cX9_heldBy 4 (some .int) RX9 "heldBy" Γ){x0 : Nat} {x1 : Int32} {u : gM} {res : Int32 × gM} (h : fX9_heldBy x0 x1 u = some res) {H : Heap} {locs : List Loc} (hG : gAg Γ u N H) (hS : va_S Γ.2.2.1 s.heap H locs) {ls : Array Slot} (hl : lv_has ls 4 [(0, va_rf (some x0)), (1, .int x1)]) : W p l e rmX9_heldBy s m args below meth c H locs 0 0 (MQ below (gQ Γ (some (.int res.1)) res.2 N) args s 0 0 Γ.2.2.1) (F0 m 0 ls []) := by
  have hx := C.1
  have hb := C.2.1
  unfold fX9_heldBy at h
  refine lv_iconst (v := 0) hx hb dX9_heldBy_0 (by decide) ?_
  refine lv_istore_n (i := 2) (lv' := [(2, .int (0 : Int32)), (0, va_rf (some x0)), (1, .int x1)]) hx hb dX9_heldBy_1 rfl hl (by decide) rfl (fun ls hl => ?_)
  refine lv_iconst (v := 0) hx hb dX9_heldBy_2 (by decide) ?_
  refine lv_istore_n (i := 3) (lv' := [(3, .int (0 : Int32)), (2, .int (0 : Int32)), (0, va_rf (some x0)), (1, .int x1)]) hx hb dX9_heldBy_3 rfl hl (by decide) rfl (fun ls hl => ?_)
  exact wX9_heldBy_4 C  FU h hG hS (lv_sub hl [2, 3, 1, 0] rfl)
theorem tX9_heldBy {Γ : gEnv} {N : Nat} {x0 : Nat} {x1 : Int32} {u v : gM} {r : Int32} (h : fX9_heldBy x0 x1 u = some (r, v)) : Met l yX9_heldBy (Cond.code yX9_heldBy cX9_heldBy 4 (some .int) :: gW) rmX9_heldBy (va_Pc [va_rf (some x0), .int x1] (gPre Γ u N)) (gQ Γ (some (.int r)) v N) 0 0 Γ.2.2.1 :=
  gx_met (nm := "heldBy") ⟨by decide +kernel, rfl, rfl⟩ (Nat.le_of_ble_eq_true rfl) (fun p e s m below meth c ls C hG hl => wX9_heldBy C h hG va_S.rf hl)
abbrev rmX9_seen : Room := { frames := 4, cells := 0, slots := 0, locals := 87 }
def fX9_seen (x0 : Nat) (x1 : Int32) (x2 : Int32) (u : gM) : Option (Int32 × gM) :=
  (gO [10] u x0).bind fun _ =>
  bI (fX9_seekerOf x0 x1 u) fun r2 u2 =>
  if r2 = none then (
    (gO [10] u2 x0).bind fun _ =>
    bI (fX9_finding x0 (1 : Int32) u2) fun r21 u21 =>
    some (r21, u21)
  ) else (
    bI (fX9_within x2 (0 : Int32) (3 : Int32) u2) fun r13 u13 =>
    if r13 = 0 then (
      (gO [10] u13 x0).bind fun _ =>
      bI (fX9_finding x0 (1 : Int32) u13) fun r21 u21 =>
      some (r21, u21)
    ) else (
      if x2 = 0 then (
        (r2).bind fun a53 =>
        (gI [8] 0 u13 a53).bind fun v53 =>
        some (v53, u13)
      ) else (
      if x2 = 1 then (
        (r2).bind fun a58 =>
        (gI [8] 4 u13 a58).bind fun v58 =>
        some (v58, u13)
      ) else (
      if x2 = 2 then (
        (r2).bind fun a63 =>
        (gO [8] u13 a63).bind fun _ =>
        bI (fX7_isBarred a63 u13) fun r63 u63 =>
        if r63 = 0 then (
          some ((0 : Int32), u63)
        ) else (
          some ((1 : Int32), u63)
        )
      ) else (
        (gO [10] u13 x0).bind fun _ =>
        bI (fX9_heldBy x0 x1 u13) fun r77 u77 =>
        some (r77, u77)
      )))
    )
  )
set_option maxHeartbeats 4000000 in
set_option maxRecDepth 20000 in
theorem wX9_seen  (C : gC p s m args meth c cX9_seen 4 (some .int) RX9 "seen" Γ){x0 : Nat} {x1 : Int32} {x2 : Int32} {u : gM} {res : Int32 × gM} (h : fX9_seen x0 x1 x2 u = some res) {H : Heap} {locs : List Loc} (hG : gAg Γ u N H) (hS : va_S Γ.2.2.1 s.heap H locs) {ls : Array Slot} (hl : lv_has ls 4 [(0, va_rf (some x0)), (1, .int x1), (2, .int x2)]) : W p l e rmX9_seen s m args below meth c H locs 0 0 (MQ below (gQ Γ (some (.int res.1)) res.2 N) args s 0 0 Γ.2.2.1) (F0 m 0 ls []) := by
  have hx := C.1
  have hb := C.2.1
  unfold fX9_seen at h
  refine gx_aload_n (r := (some x0)) hx hb dX9_seen_0 rfl (lv_at hl 0 rfl) ?_
  refine lv_iload_n hx hb dX9_seen_1 rfl (lv_at hl 1 rfl) ?_
  obtain ⟨_, eo2, h⟩ := ob h
  obtain ⟨r2, u2, e2, h⟩ := obI h
  refine gx_cV C hG hS [.int x1] rfl eo2 (tX9_seekerOf e2) qcX9_160 ⟨rfl, rfl, Nat.le_of_ble_eq_true rfl, Nat.le_of_ble_eq_true rfl⟩ ⟨Nat.zero_le _, Nat.zero_le _⟩ rfl hl.1 rfl (Nat.le_of_ble_eq_true rfl) (st1 := [va_rf r2]) rfl dX9_seen_2 (fun H locs hG hS => ?_)
  refine gx_astore_n (r := r2) (i := 3) (lv' := [(3, va_rf r2), (0, va_rf (some x0)), (1, .int x1), (2, .int x2)]) hx hb dX9_seen_5 rfl hl (by decide) rfl (fun ls hl => ?_)
  refine gx_aload_n (r := r2) hx hb dX9_seen_6 rfl (lv_at hl 0 rfl) ?_
  refine gx_ifnull (tgt := 19) hx hb dX9_seen_7 (by decide) (fun hc => ?_) (fun hc => ?_)
  · replace h := it_pos hc h
    refine gx_aload_n (r := (some x0)) hx hb dX9_seen_19 rfl (lv_at hl 1 rfl) ?_
    refine lv_iconst (v := 1) hx hb dX9_seen_20 (by decide) ?_
    obtain ⟨_, eo21, h⟩ := ob h
    obtain ⟨r21, u21, e21, h⟩ := obI h
    refine gx_cV C hG hS [.int (1 : Int32)] rfl eo21 (tX9_finding e21) qcX9_89 ⟨rfl, rfl, Nat.le_of_ble_eq_true rfl, Nat.le_of_ble_eq_true rfl⟩ ⟨Nat.zero_le _, Nat.zero_le _⟩ rfl hl.1 rfl (Nat.le_of_ble_eq_true rfl) (st1 := [.int r21]) rfl dX9_seen_21 (fun H locs hG hS => ?_)
    cases Option.some.inj h
    exact gx_reti C hG hS dX9_seen_24
  · replace h := it_neg hc h
    refine lv_iload_n hx hb dX9_seen_10 rfl (lv_at hl 3 rfl) ?_
    refine lv_iconst (v := 0) hx hb dX9_seen_11 (by decide) ?_
    refine lv_iconst (v := 3) hx hb dX9_seen_12 (by decide) ?_
    obtain ⟨r13, u13, e13, h⟩ := obI h
    refine gx_cS C hG hS [.int x2, .int (0 : Int32), .int (3 : Int32)] (tX9_within e13) qcX9_85 ⟨rfl, rfl, Nat.le_of_ble_eq_true rfl, Nat.le_of_ble_eq_true rfl⟩ ⟨Nat.zero_le _, Nat.zero_le _⟩ rfl hl.1 rfl (Nat.le_of_ble_eq_true rfl) (st1 := [.int r13]) rfl dX9_seen_13 (fun H locs hG hS => ?_)
    refine lv_if_ne (tgt := 25) hx hb dX9_seen_16 (by decide) (fun hc => ?_) (fun hc => ?_)
    · replace h := it_neg hc h
      refine lv_iload_n hx hb dX9_seen_25 rfl (lv_at hl 3 rfl) ?_
      by_cases hc0 : x2 = 0
      · replace h := it_pos hc0 h
        refine lv_tableIn (tgt := 52) (off := 26) hx hb dX9_seen_26 (by rw [hc0]; decide) (by rw [hc0]; decide) (by rw [hc0]; rfl) (by decide) ?_
        refine gx_aload_n (r := r2) hx hb dX9_seen_52 rfl (lv_at hl 0 rfl) ?_
        obtain ⟨a53, na53, h⟩ := ob h
        obtain ⟨v53, e53, h⟩ := ob h
        refine gx_getI C hG na53 e53 fgX9_189 dX9_seen_53 ?_
        cases Option.some.inj h
        exact gx_reti C hG hS dX9_seen_56
      replace h := it_neg hc0 h
      by_cases hc1 : x2 = 1
      · replace h := it_pos hc1 h
        refine lv_tableIn (tgt := 57) (off := 31) hx hb dX9_seen_26 (by rw [hc1]; decide) (by rw [hc1]; decide) (by rw [hc1]; rfl) (by decide) ?_
        refine gx_aload_n (r := r2) hx hb dX9_seen_57 rfl (lv_at hl 0 rfl) ?_
        obtain ⟨a58, na58, h⟩ := ob h
        obtain ⟨v58, e58, h⟩ := ob h
        refine gx_getI C hG na58 e58 fgX9_192 dX9_seen_58 ?_
        cases Option.some.inj h
        exact gx_reti C hG hS dX9_seen_61
      replace h := it_neg hc1 h
      by_cases hc2 : x2 = 2
      · replace h := it_pos hc2 h
        refine lv_tableIn (tgt := 62) (off := 36) hx hb dX9_seen_26 (by rw [hc2]; decide) (by rw [hc2]; decide) (by rw [hc2]; rfl) (by decide) ?_
        refine gx_aload_n (r := r2) hx hb dX9_seen_62 rfl (lv_at hl 0 rfl) ?_
        obtain ⟨a63, na63, h⟩ := ob h
        obtain ⟨_, eo63, h⟩ := ob h
        obtain ⟨r63, u63, e63, h⟩ := obI h
        refine gx_cV C hG hS [] na63 eo63 (tX7_isBarred e63) qcX9_195 ⟨rfl, rfl, Nat.le_of_ble_eq_true rfl, Nat.le_of_ble_eq_true rfl⟩ ⟨Nat.zero_le _, Nat.zero_le _⟩ rfl hl.1 rfl (Nat.le_of_ble_eq_true rfl) (st1 := [.int r63]) rfl dX9_seen_63 (fun H locs hG hS => ?_)
        refine lv_if_eq (tgt := 73) hx hb dX9_seen_66 (by decide) (fun hc => ?_) (fun hc => ?_)
        · replace h := it_pos hc h
          refine lv_iconst (v := 0) hx hb dX9_seen_73 (by decide) ?_
          cases Option.some.inj h
          exact gx_reti C hG hS dX9_seen_74
        · replace h := it_neg hc h
          refine lv_iconst (v := 1) hx hb dX9_seen_69 (by decide) ?_
          refine lv_goto (tgt := 74) hx hb dX9_seen_70 (by decide) ?_
          cases Option.some.inj h
          exact gx_reti C hG hS dX9_seen_74
      replace h := it_neg hc2 h
      have hn0 := lv_neT hc0 (show (0 : Int32).toInt = 0 by decide)
      have hn1 := lv_neT hc1 (show (1 : Int32).toInt = 1 by decide)
      have hn2 := lv_neT hc2 (show (2 : Int32).toInt = 2 by decide)
      refine lv_tableOut (tgt := 75) hx hb dX9_seen_26 (by omega) (by decide) ?_
      refine gx_aload_n (r := (some x0)) hx hb dX9_seen_75 rfl (lv_at hl 1 rfl) ?_
      refine lv_iload_n hx hb dX9_seen_76 rfl (lv_at hl 2 rfl) ?_
      obtain ⟨_, eo77, h⟩ := ob h
      obtain ⟨r77, u77, e77, h⟩ := obI h
      refine gx_cV C hG hS [.int x1] rfl eo77 (tX9_heldBy e77) qcX9_199 ⟨rfl, rfl, Nat.le_of_ble_eq_true rfl, Nat.le_of_ble_eq_true rfl⟩ ⟨Nat.zero_le _, Nat.zero_le _⟩ rfl hl.1 rfl (Nat.le_of_ble_eq_true rfl) (st1 := [.int r77]) rfl dX9_seen_77 (fun H locs hG hS => ?_)
      cases Option.some.inj h
      exact gx_reti C hG hS dX9_seen_80
    · replace h := it_pos hc h
      refine gx_aload_n (r := (some x0)) hx hb dX9_seen_19 rfl (lv_at hl 1 rfl) ?_
      refine lv_iconst (v := 1) hx hb dX9_seen_20 (by decide) ?_
      obtain ⟨_, eo21, h⟩ := ob h
      obtain ⟨r21, u21, e21, h⟩ := obI h
      refine gx_cV C hG hS [.int (1 : Int32)] rfl eo21 (tX9_finding e21) qcX9_89 ⟨rfl, rfl, Nat.le_of_ble_eq_true rfl, Nat.le_of_ble_eq_true rfl⟩ ⟨Nat.zero_le _, Nat.zero_le _⟩ rfl hl.1 rfl (Nat.le_of_ble_eq_true rfl) (st1 := [.int r21]) rfl dX9_seen_21 (fun H locs hG hS => ?_)
      cases Option.some.inj h
      exact gx_reti C hG hS dX9_seen_24
theorem tX9_seen {Γ : gEnv} {N : Nat} {x0 : Nat} {x1 : Int32} {x2 : Int32} {u v : gM} {r : Int32} (h : fX9_seen x0 x1 x2 u = some (r, v)) : Met l yX9_seen (Cond.code yX9_seen cX9_seen 4 (some .int) :: gW) rmX9_seen (va_Pc [va_rf (some x0), .int x1, .int x2] (gPre Γ u N)) (gQ Γ (some (.int r)) v N) 0 0 Γ.2.2.1 :=
  gx_met (nm := "seen") ⟨by decide +kernel, rfl, rfl⟩ (Nat.le_of_ble_eq_true rfl) (fun p e s m below meth c ls C hG hl => wX9_seen C h hG va_S.rf hl)
abbrev rmX9_answer (a b : Nat) : Room := { frames := 4, cells := a, slots := b, locals := 85 }
def fX9_answer_90 (x0 : Nat) (x1 : Int32) (x5 : Option Nat) (u : gN) : Option (Int32 × gN) :=
  (x5).bind fun a93 =>
  (wN (pV [9, 6] 7 (.int x1) u.1 a93) u).bind fun u93 =>
  (gI [10] 13 u93.1 x0).bind fun v99 =>
  (x5).bind fun a102 =>
  (wN (pV [9, 6] 8 (.int v99) u93.1 a102) u93).bind fun u102 =>
  some ((1 : Int32), u102)
set_option maxRecDepth 20000 in
theorem moX9_answer_90 {x0 : Nat} {x1 : Int32} {x5 : Option Nat} {u : gN} {res : Int32 × gN} (h : fX9_answer_90 x0 x1 x5 u = some res) : gLe u res.2 := by
  unfold fX9_answer_90 at h
  obtain ⟨a93, na93, h⟩ := ob h
  obtain ⟨u93, e93, h⟩ := ob h
  refine gLe.tr (wN_le e93) ?_
  obtain ⟨v99, e99, h⟩ := ob h
  obtain ⟨a102, na102, h⟩ := ob h
  obtain ⟨u102, e102, h⟩ := ob h
  refine gLe.tr (wN_le e102) ?_
  cases Option.some.inj h
  exact gLe.rf _
set_option maxHeartbeats 4000000 in
set_option maxRecDepth 20000 in
theorem wX9_answer_90  (C : gC p s m args meth c cX9_answer 6 (some .int) RX9 "answer" Γ){x0 : Nat} {x1 : Int32} {x5 : Option Nat} {u : gN} {res : Int32 × gN} (h : fX9_answer_90 x0 x1 x5 u = some res) {H : Heap} {locs : List Loc} (hG : gAn Γ sB u H) (hS : va_S Γ.2.2.1 s.heap H locs) {ls : Array Slot} (hl : lv_has ls 6 [(0, va_rf (some x0)), (1, .int x1), (5, va_rf x5)]) : W p l e (rmX9_answer (res.2.2.1 - s.heap.size) (res.2.2.2 - sB)) s m args below meth c H locs (u.2.1 - s.heap.size) (u.2.2 - sB) (MQ below (gQ Γ (some (.int res.1)) res.2.1 res.2.2.1) args s (res.2.2.1 - s.heap.size) (res.2.2.2 - sB) Γ.2.2.1) (F0 m 90 ls []) := by
  have hx := C.1
  have hb := C.2.1
  have hm := moX9_answer_90 h
  unfold fX9_answer_90 at h
  refine gx_aload (r := x5) hx hb dX9_answer_90 (lv_at hl 2 rfl) ?_
  refine lv_iload_n hx hb dX9_answer_92 rfl (lv_at hl 1 rfl) ?_
  obtain ⟨a93, na93, h⟩ := ob h
  obtain ⟨u93, e93, h⟩ := ob h
  obtain ⟨g93, eg93, ev93⟩ := wN_inv e93
  replace hm : gLe u93 res.2 := by rw [ev93]; exact hm
  refine gx_put C hG.1 hS na93 eg93 fgX9_141 fpX9_141 (fun q => by cases q) rfl rfl dX9_answer_93 (fun H locs hg hS => gy_w hG ev93 hg (fun hG => ?_))
  refine gx_aload (r := x5) hx hb dX9_answer_96 (lv_at hl 2 rfl) ?_
  refine gx_aload_n (r := (some x0)) hx hb dX9_answer_98 rfl (lv_at hl 0 rfl) ?_
  obtain ⟨v99, e99, h⟩ := ob h
  refine gx_getI C hG.1 rfl e99 fgX9_70 dX9_answer_99 ?_
  obtain ⟨a102, na102, h⟩ := ob h
  obtain ⟨u102, e102, h⟩ := ob h
  obtain ⟨g102, eg102, ev102⟩ := wN_inv e102
  replace hm : gLe u102 res.2 := by rw [ev102]; exact hm
  refine gx_put C hG.1 hS na102 eg102 fgX9_205 fpX9_205 (fun q => by cases q) rfl rfl dX9_answer_102 (fun H locs hg hS => gy_w hG ev102 hg (fun hG => ?_))
  refine lv_iconst (v := 1) hx hb dX9_answer_105 (by decide) ?_
  cases Option.some.inj h
  exact gx_reti C hG.1 hS dX9_answer_106
def fX9_answer (x0 : Nat) (x1 : Int32) (x2 : Int32) (x3 : Int32) (u : gN) : Option (Int32 × gN) :=
  (gO [10] u.1 x0).bind fun _ =>
  bI (cN (fX9_seekerOf x0 x1 u.1) u) fun r2 u2 =>
  (gO [10] u2.1 x0).bind fun _ =>
  bI (cN (fX9_thingOf x0 x2 u2.1) u2) fun r9 u9 =>
  if r2 = none then (
    (gO [10] u9.1 x0).bind fun _ =>
    bI (cN (fX9_finding x0 (1 : Int32) u9.1) u9) fun r37 u37 =>
    some (r37, u37)
  ) else (
    if r9 = none then (
      (gO [10] u9.1 x0).bind fun _ =>
      bI (cN (fX9_finding x0 (1 : Int32) u9.1) u9) fun r37 u37 =>
      some (r37, u37)
    ) else (
      bI (cN (fX9_within x3 (1 : Int32) (9999 : Int32) u9.1) u9) fun r29 u29 =>
      if r29 = 0 then (
        (gO [10] u29.1 x0).bind fun _ =>
        bI (cN (fX9_finding x0 (1 : Int32) u29.1) u29) fun r37 u37 =>
        some (r37, u37)
      ) else (
        (gO [10] u29.1 x0).bind fun _ =>
        bI (cN (fX9_likenessOf x0 r2 r9 u29.1) u29) fun r46 u46 =>
        if r46 = 0 then (
          (gO [10] u46.1 x0).bind fun _ =>
          bI (cN (fX9_finding x0 (3 : Int32) u46.1) u46) fun r54 u54 =>
          some (r54, u54)
        ) else (
          (r9).bind fun a61 =>
          (gI [9, 6] 4 u46.1 a61).bind fun v61 =>
          if x3 = v61 then (
            (gI [10] 13 u46.1 x0).bind fun v84 =>
            (r9).bind fun a87 =>
            (gO [6, 9] u46.1 a87).bind fun _ =>
            (fX8_become a87 (1 : Int32) v84 u46).bind fun u87 =>
            fX9_answer_90 x0 x1 r9 u87 
          ) else (
            (r2).bind fun a70 =>
            (gI [8] 4 u46.1 a70).bind fun v70 =>
            (r2).bind fun a75 =>
            (wN (pV [8] 4 (.int (v70 + (1 : Int32))) u46.1 a75) u46).bind fun u75 =>
            some ((0 : Int32), u75)
          )
        )
      )
    )
  )
set_option maxRecDepth 20000 in
theorem moX9_answer {x0 : Nat} {x1 : Int32} {x2 : Int32} {x3 : Int32} {u : gN} {res : Int32 × gN} (h : fX9_answer x0 x1 x2 x3 u = some res) : gLe u res.2 := by
  unfold fX9_answer at h
  obtain ⟨_, eo2, h⟩ := ob h
  obtain ⟨r2, u2, e2, h⟩ := obI h
  refine gLe.tr (cN_le e2) ?_
  obtain ⟨_, eo9, h⟩ := ob h
  obtain ⟨r9, u9, e9, h⟩ := obI h
  refine gLe.tr (cN_le e9) ?_
  by_cases hc : r2 = none
  · replace h := it_pos hc h
    obtain ⟨_, eo37, h⟩ := ob h
    obtain ⟨r37, u37, e37, h⟩ := obI h
    refine gLe.tr (cN_le e37) ?_
    cases Option.some.inj h
    exact gLe.rf _
  · replace h := it_neg hc h
    by_cases hc : r9 = none
    · replace h := it_pos hc h
      obtain ⟨_, eo37, h⟩ := ob h
      obtain ⟨r37, u37, e37, h⟩ := obI h
      refine gLe.tr (cN_le e37) ?_
      cases Option.some.inj h
      exact gLe.rf _
    · replace h := it_neg hc h
      obtain ⟨r29, u29, e29, h⟩ := obI h
      refine gLe.tr (cN_le e29) ?_
      by_cases hc : r29 = 0
      · replace h := it_pos hc h
        obtain ⟨_, eo37, h⟩ := ob h
        obtain ⟨r37, u37, e37, h⟩ := obI h
        refine gLe.tr (cN_le e37) ?_
        cases Option.some.inj h
        exact gLe.rf _
      · replace h := it_neg hc h
        obtain ⟨_, eo46, h⟩ := ob h
        obtain ⟨r46, u46, e46, h⟩ := obI h
        refine gLe.tr (cN_le e46) ?_
        by_cases hc : r46 = 0
        · replace h := it_pos hc h
          obtain ⟨_, eo54, h⟩ := ob h
          obtain ⟨r54, u54, e54, h⟩ := obI h
          refine gLe.tr (cN_le e54) ?_
          cases Option.some.inj h
          exact gLe.rf _
        · replace h := it_neg hc h
          obtain ⟨a61, na61, h⟩ := ob h
          obtain ⟨v61, e61, h⟩ := ob h
          by_cases hc : x3 = v61
          · replace h := it_pos hc h
            obtain ⟨v84, e84, h⟩ := ob h
            obtain ⟨a87, na87, h⟩ := ob h
            obtain ⟨_, eo87, h⟩ := ob h
            obtain ⟨u87, e87, h⟩ := ob h
            refine gLe.tr (moX8_become e87) ?_
            exact moX9_answer_90  h
          · replace h := it_neg hc h
            obtain ⟨a70, na70, h⟩ := ob h
            obtain ⟨v70, e70, h⟩ := ob h
            obtain ⟨a75, na75, h⟩ := ob h
            obtain ⟨u75, e75, h⟩ := ob h
            refine gLe.tr (wN_le e75) ?_
            cases Option.some.inj h
            exact gLe.rf _
set_option maxHeartbeats 4000000 in
set_option maxRecDepth 20000 in
theorem wX9_answer  (C : gC p s m args meth c cX9_answer 6 (some .int) RX9 "answer" Γ){x0 : Nat} {x1 : Int32} {x2 : Int32} {x3 : Int32} {u : gN} {res : Int32 × gN} (h : fX9_answer x0 x1 x2 x3 u = some res) {H : Heap} {locs : List Loc} (hG : gAn Γ sB u H) (hS : va_S Γ.2.2.1 s.heap H locs) {ls : Array Slot} (hl : lv_has ls 6 [(0, va_rf (some x0)), (1, .int x1), (2, .int x2), (3, .int x3)]) : W p l e (rmX9_answer (res.2.2.1 - s.heap.size) (res.2.2.2 - sB)) s m args below meth c H locs (u.2.1 - s.heap.size) (u.2.2 - sB) (MQ below (gQ Γ (some (.int res.1)) res.2.1 res.2.2.1) args s (res.2.2.1 - s.heap.size) (res.2.2.2 - sB) Γ.2.2.1) (F0 m 0 ls []) := by
  have hx := C.1
  have hb := C.2.1
  have hm := moX9_answer h
  unfold fX9_answer at h
  refine gx_aload_n (r := (some x0)) hx hb dX9_answer_0 rfl (lv_at hl 0 rfl) ?_
  refine lv_iload_n hx hb dX9_answer_1 rfl (lv_at hl 1 rfl) ?_
  obtain ⟨_, eo2, h⟩ := ob h
  obtain ⟨r2, u2, e2, h⟩ := obI h
  obtain ⟨g2, eg2, ev2⟩ := cN_inv e2
  refine gx_cV C hG.1 hS [.int x1] rfl eo2 (tX9_seekerOf eg2) qcX9_160 ⟨rfl, rfl, Nat.le_of_ble_eq_true rfl, Nat.le_of_ble_eq_true rfl⟩ ⟨Nat.sub_le_sub_right hm.1 _, Nat.sub_le_sub_right hm.2 _⟩ rfl hl.1 rfl (Nat.le_of_ble_eq_true rfl) (st1 := [va_rf r2]) rfl dX9_answer_2 (fun H locs hg hS2 => gy_w (H0 := _) hG ev2 hg (fun hG => ?_))
  replace hS := hS2
  replace hm : gLe u2 res.2 := by rw [ev2]; exact hm
  refine gx_astore (r := r2) (i := 4) (lv' := [(4, va_rf r2), (0, va_rf (some x0)), (1, .int x1), (2, .int x2), (3, .int x3)]) hx hb dX9_answer_5 hl (by decide) rfl (fun ls hl => ?_)
  refine gx_aload_n (r := (some x0)) hx hb dX9_answer_7 rfl (lv_at hl 1 rfl) ?_
  refine lv_iload_n hx hb dX9_answer_8 rfl (lv_at hl 3 rfl) ?_
  obtain ⟨_, eo9, h⟩ := ob h
  obtain ⟨r9, u9, e9, h⟩ := obI h
  obtain ⟨g9, eg9, ev9⟩ := cN_inv e9
  refine gx_cV C hG.1 hS [.int x2] rfl eo9 (tX9_thingOf eg9) qcX9_119 ⟨rfl, rfl, Nat.le_of_ble_eq_true rfl, Nat.le_of_ble_eq_true rfl⟩ ⟨Nat.sub_le_sub_right hm.1 _, Nat.sub_le_sub_right hm.2 _⟩ rfl hl.1 rfl (Nat.le_of_ble_eq_true rfl) (st1 := [va_rf r9]) rfl dX9_answer_9 (fun H locs hg hS2 => gy_w (H0 := _) hG ev9 hg (fun hG => ?_))
  replace hS := hS2
  replace hm : gLe u9 res.2 := by rw [ev9]; exact hm
  refine gx_astore (r := r9) (i := 5) (lv' := [(5, va_rf r9), (4, va_rf r2), (0, va_rf (some x0)), (1, .int x1), (2, .int x2), (3, .int x3)]) hx hb dX9_answer_12 hl (by decide) (by simp [gx_cat, gx_catI, gx_catJ]) (fun ls hl => ?_)
  refine gx_aload (r := r2) hx hb dX9_answer_14 (lv_at hl 1 rfl) ?_
  refine gx_ifnull (tgt := 35) hx hb dX9_answer_16 (by decide) (fun hc => ?_) (fun hc => ?_)
  · replace h := it_pos hc h
    refine gx_aload_n (r := (some x0)) hx hb dX9_answer_35 rfl (lv_at hl 2 rfl) ?_
    refine lv_iconst (v := 1) hx hb dX9_answer_36 (by decide) ?_
    obtain ⟨_, eo37, h⟩ := ob h
    obtain ⟨r37, u37, e37, h⟩ := obI h
    obtain ⟨g37, eg37, ev37⟩ := cN_inv e37
    refine gx_cV C hG.1 hS [.int (1 : Int32)] rfl eo37 (tX9_finding eg37) qcX9_89 ⟨rfl, rfl, Nat.le_of_ble_eq_true rfl, Nat.le_of_ble_eq_true rfl⟩ ⟨Nat.sub_le_sub_right hm.1 _, Nat.sub_le_sub_right hm.2 _⟩ rfl hl.1 rfl (Nat.le_of_ble_eq_true rfl) (st1 := [.int r37]) rfl dX9_answer_37 (fun H locs hg hS2 => gy_w (H0 := _) hG ev37 hg (fun hG => ?_))
    replace hS := hS2
    replace hm : gLe u37 res.2 := by rw [ev37]; exact hm
    cases Option.some.inj h
    exact gx_reti C hG.1 hS dX9_answer_40
  · replace h := it_neg hc h
    refine gx_aload (r := r9) hx hb dX9_answer_19 (lv_at hl 0 rfl) ?_
    refine gx_ifnull (tgt := 35) hx hb dX9_answer_21 (by decide) (fun hc => ?_) (fun hc => ?_)
    · replace h := it_pos hc h
      refine gx_aload_n (r := (some x0)) hx hb dX9_answer_35 rfl (lv_at hl 2 rfl) ?_
      refine lv_iconst (v := 1) hx hb dX9_answer_36 (by decide) ?_
      obtain ⟨_, eo37, h⟩ := ob h
      obtain ⟨r37, u37, e37, h⟩ := obI h
      obtain ⟨g37, eg37, ev37⟩ := cN_inv e37
      refine gx_cV C hG.1 hS [.int (1 : Int32)] rfl eo37 (tX9_finding eg37) qcX9_89 ⟨rfl, rfl, Nat.le_of_ble_eq_true rfl, Nat.le_of_ble_eq_true rfl⟩ ⟨Nat.sub_le_sub_right hm.1 _, Nat.sub_le_sub_right hm.2 _⟩ rfl hl.1 rfl (Nat.le_of_ble_eq_true rfl) (st1 := [.int r37]) rfl dX9_answer_37 (fun H locs hg hS2 => gy_w (H0 := _) hG ev37 hg (fun hG => ?_))
      replace hS := hS2
      replace hm : gLe u37 res.2 := by rw [ev37]; exact hm
      cases Option.some.inj h
      exact gx_reti C hG.1 hS dX9_answer_40
    · replace h := it_neg hc h
      refine lv_iload_n hx hb dX9_answer_24 rfl (lv_at hl 5 rfl) ?_
      refine lv_iconst (v := 1) hx hb dX9_answer_25 (by decide) ?_
      refine lv_sipush (v := 9999) hx hb dX9_answer_26 (by decide) ?_
      obtain ⟨r29, u29, e29, h⟩ := obI h
      obtain ⟨g29, eg29, ev29⟩ := cN_inv e29
      refine gx_cS C hG.1 hS [.int x3, .int (1 : Int32), .int (9999 : Int32)] (tX9_within eg29) qcX9_85 ⟨rfl, rfl, Nat.le_of_ble_eq_true rfl, Nat.le_of_ble_eq_true rfl⟩ ⟨Nat.sub_le_sub_right hm.1 _, Nat.sub_le_sub_right hm.2 _⟩ rfl hl.1 rfl (Nat.le_of_ble_eq_true rfl) (st1 := [.int r29]) rfl dX9_answer_29 (fun H locs hg hS2 => gy_w (H0 := _) hG ev29 hg (fun hG => ?_))
      replace hS := hS2
      replace hm : gLe u29 res.2 := by rw [ev29]; exact hm
      refine lv_if_ne (tgt := 41) hx hb dX9_answer_32 (by decide) (fun hc => ?_) (fun hc => ?_)
      · replace h := it_neg hc h
        refine gx_aload_n (r := (some x0)) hx hb dX9_answer_41 rfl (lv_at hl 2 rfl) ?_
        refine gx_aload (r := r2) hx hb dX9_answer_42 (lv_at hl 1 rfl) ?_
        refine gx_aload (r := r9) hx hb dX9_answer_44 (lv_at hl 0 rfl) ?_
        obtain ⟨_, eo46, h⟩ := ob h
        obtain ⟨r46, u46, e46, h⟩ := obI h
        obtain ⟨g46, eg46, ev46⟩ := cN_inv e46
        refine gx_cV C hG.1 hS [va_rf r2, va_rf r9] rfl eo46 (tX9_likenessOf eg46) qcX9_173 ⟨rfl, rfl, Nat.le_of_ble_eq_true rfl, Nat.le_of_ble_eq_true rfl⟩ ⟨Nat.sub_le_sub_right hm.1 _, Nat.sub_le_sub_right hm.2 _⟩ rfl hl.1 rfl (Nat.le_of_ble_eq_true rfl) (st1 := [.int r46]) rfl dX9_answer_46 (fun H locs hg hS2 => gy_w (H0 := _) hG ev46 hg (fun hG => ?_))
        replace hS := hS2
        replace hm : gLe u46 res.2 := by rw [ev46]; exact hm
        refine lv_if_ne (tgt := 58) hx hb dX9_answer_49 (by decide) (fun hc => ?_) (fun hc => ?_)
        · replace h := it_neg hc h
          refine lv_iload_n hx hb dX9_answer_58 rfl (lv_at hl 5 rfl) ?_
          refine gx_aload (r := r9) hx hb dX9_answer_59 (lv_at hl 0 rfl) ?_
          obtain ⟨a61, na61, h⟩ := ob h
          obtain ⟨v61, e61, h⟩ := ob h
          refine gx_getI C hG.1 na61 e61 fgX9_202 dX9_answer_61 ?_
          refine lv_icmp_eq (tgt := 80) hx hb dX9_answer_64 (by decide) (fun hc => ?_) (fun hc => ?_)
          · replace h := it_pos hc h
            refine gx_aload (r := r9) hx hb dX9_answer_80 (lv_at hl 0 rfl) ?_
            refine lv_iconst (v := 1) hx hb dX9_answer_82 (by decide) ?_
            refine gx_aload_n (r := (some x0)) hx hb dX9_answer_83 rfl (lv_at hl 2 rfl) ?_
            obtain ⟨v84, e84, h⟩ := ob h
            refine gx_getI C hG.1 rfl e84 fgX9_70 dX9_answer_84 ?_
            obtain ⟨a87, na87, h⟩ := ob h
            obtain ⟨_, eo87, h⟩ := ob h
            obtain ⟨u87, e87, h⟩ := ob h
            have hle := moX8_become e87
            have hm2 : gLe u87 res.2 := by
              exact moX9_answer_90  h
            refine gx_cU C hG.1 hS [.int (1 : Int32), .int v84] na87 eo87 (tX8_become e87) qcX9_107 ⟨rfl, rfl, Nat.le_of_ble_eq_true rfl, Nat.le_of_ble_eq_true rfl⟩ (gy_room hG hS hle ⟨Nat.sub_le_sub_right hm2.1 _, Nat.sub_le_sub_right hm2.2 _⟩) rfl hl.1 rfl (Nat.le_of_ble_eq_true rfl) (st1 := []) rfl dX9_answer_87 (fun H locs hg hS2 => gy_ret hG hS hle hg (fun hG => ?_))
            replace hS := hS2
            exact wX9_answer_90 C  h hG hS (lv_sub hl [2, 3, 0] rfl)
          · replace h := it_neg hc h
            refine gx_aload (r := r2) hx hb dX9_answer_67 (lv_at hl 1 rfl) ?_
            refine lv_dup hx hb dX9_answer_69 (by first | rfl | exact gx_cat _) ?_
            obtain ⟨a70, na70, h⟩ := ob h
            obtain ⟨v70, e70, h⟩ := ob h
            refine gx_getI C hG.1 na70 e70 fgX9_192 dX9_answer_70 ?_
            refine lv_iconst (v := 1) hx hb dX9_answer_73 (by decide) ?_
            refine lv_iadd hx hb dX9_answer_74 ?_
            obtain ⟨a75, na75, h⟩ := ob h
            obtain ⟨u75, e75, h⟩ := ob h
            obtain ⟨g75, eg75, ev75⟩ := wN_inv e75
            replace hm : gLe u75 res.2 := by rw [ev75]; exact hm
            refine gx_put C hG.1 hS na75 eg75 fgX9_192 fpX9_192 (fun q => by cases q) rfl rfl dX9_answer_75 (fun H locs hg hS => gy_w hG ev75 hg (fun hG => ?_))
            refine lv_iconst (v := 0) hx hb dX9_answer_78 (by decide) ?_
            cases Option.some.inj h
            exact gx_reti C hG.1 hS dX9_answer_79
        · replace h := it_pos hc h
          refine gx_aload_n (r := (some x0)) hx hb dX9_answer_52 rfl (lv_at hl 2 rfl) ?_
          refine lv_iconst (v := 3) hx hb dX9_answer_53 (by decide) ?_
          obtain ⟨_, eo54, h⟩ := ob h
          obtain ⟨r54, u54, e54, h⟩ := obI h
          obtain ⟨g54, eg54, ev54⟩ := cN_inv e54
          refine gx_cV C hG.1 hS [.int (3 : Int32)] rfl eo54 (tX9_finding eg54) qcX9_89 ⟨rfl, rfl, Nat.le_of_ble_eq_true rfl, Nat.le_of_ble_eq_true rfl⟩ ⟨Nat.sub_le_sub_right hm.1 _, Nat.sub_le_sub_right hm.2 _⟩ rfl hl.1 rfl (Nat.le_of_ble_eq_true rfl) (st1 := [.int r54]) rfl dX9_answer_54 (fun H locs hg hS2 => gy_w (H0 := _) hG ev54 hg (fun hG => ?_))
          replace hS := hS2
          replace hm : gLe u54 res.2 := by rw [ev54]; exact hm
          cases Option.some.inj h
          exact gx_reti C hG.1 hS dX9_answer_57
      · replace h := it_pos hc h
        refine gx_aload_n (r := (some x0)) hx hb dX9_answer_35 rfl (lv_at hl 2 rfl) ?_
        refine lv_iconst (v := 1) hx hb dX9_answer_36 (by decide) ?_
        obtain ⟨_, eo37, h⟩ := ob h
        obtain ⟨r37, u37, e37, h⟩ := obI h
        obtain ⟨g37, eg37, ev37⟩ := cN_inv e37
        refine gx_cV C hG.1 hS [.int (1 : Int32)] rfl eo37 (tX9_finding eg37) qcX9_89 ⟨rfl, rfl, Nat.le_of_ble_eq_true rfl, Nat.le_of_ble_eq_true rfl⟩ ⟨Nat.sub_le_sub_right hm.1 _, Nat.sub_le_sub_right hm.2 _⟩ rfl hl.1 rfl (Nat.le_of_ble_eq_true rfl) (st1 := [.int r37]) rfl dX9_answer_37 (fun H locs hg hS2 => gy_w (H0 := _) hG ev37 hg (fun hG => ?_))
        replace hS := hS2
        replace hm : gLe u37 res.2 := by rw [ev37]; exact hm
        cases Option.some.inj h
        exact gx_reti C hG.1 hS dX9_answer_40
theorem tX9_answer {Γ : gEnv} {x0 : Nat} {x1 : Int32} {x2 : Int32} {x3 : Int32} {u v : gN} {r : Int32} (h : fX9_answer x0 x1 x2 x3 u = some (r, v)) : Met l yX9_answer (Cond.code yX9_answer cX9_answer 6 (some .int) :: gW) (rmX9_answer (v.2.1 - u.2.1) (v.2.2 - u.2.2)) (va_Pc [va_rf (some x0), .int x1, .int x2, .int x3] (gPre Γ u.1 u.2.1)) (gQ Γ (some (.int r)) v.1 v.2.1) (v.2.1 - u.2.1) (v.2.2 - u.2.2) Γ.2.2.1 := by
  refine gx_met (nm := "answer") ⟨by decide +kernel, rfl, rfl⟩ (Nat.le_of_ble_eq_true rfl) (fun p e s m below meth c ls C hG hl => ?_)
  have hN : s.heap.size = u.2.1 := hG.1
  have K := wX9_answer (l := l) (e := e) (below := below) (sB := u.2.2) C h ⟨hG, Nat.le_refl _⟩ va_S.rf hl
  rw [hN, Nat.sub_self, Nat.sub_self] at K
  exact K
abbrev rmX9_back (a b : Nat) : Room := { frames := 4, cells := a, slots := b, locals := 85 }
def fX9_back_58 (x2 : Option Nat) (x3 : Int32) (u : gN) : Option (Int32 × gN) :=
  (x2).bind fun a60 =>
  (wN (pV [9, 6] 7 (.int (-1 : Int32)) u.1 a60) u).bind fun u60 =>
  some (x3, u60)
set_option maxRecDepth 20000 in
theorem moX9_back_58 {x2 : Option Nat} {x3 : Int32} {u : gN} {res : Int32 × gN} (h : fX9_back_58 x2 x3 u = some res) : gLe u res.2 := by
  unfold fX9_back_58 at h
  obtain ⟨a60, na60, h⟩ := ob h
  obtain ⟨u60, e60, h⟩ := ob h
  refine gLe.tr (wN_le e60) ?_
  cases Option.some.inj h
  exact gLe.rf _
set_option maxHeartbeats 4000000 in
set_option maxRecDepth 20000 in
theorem wX9_back_58  (C : gC p s m args meth c cX9_back 4 (some .int) RX9 "back" Γ){x2 : Option Nat} {x3 : Int32} {u : gN} {res : Int32 × gN} (h : fX9_back_58 x2 x3 u = some res) {H : Heap} {locs : List Loc} (hG : gAn Γ sB u H) (hS : va_S Γ.2.2.1 s.heap H locs) {ls : Array Slot} (hl : lv_has ls 4 [(2, va_rf x2), (3, .int x3)]) : W p l e (rmX9_back (res.2.2.1 - s.heap.size) (res.2.2.2 - sB)) s m args below meth c H locs (u.2.1 - s.heap.size) (u.2.2 - sB) (MQ below (gQ Γ (some (.int res.1)) res.2.1 res.2.2.1) args s (res.2.2.1 - s.heap.size) (res.2.2.2 - sB) Γ.2.2.1) (F0 m 58 ls []) := by
  have hx := C.1
  have hb := C.2.1
  have hm := moX9_back_58 h
  unfold fX9_back_58 at h
  refine gx_aload_n (r := x2) hx hb dX9_back_58 rfl (lv_at hl 0 rfl) ?_
  refine lv_iconst (v := -1) hx hb dX9_back_59 (by decide) ?_
  obtain ⟨a60, na60, h⟩ := ob h
  obtain ⟨u60, e60, h⟩ := ob h
  obtain ⟨g60, eg60, ev60⟩ := wN_inv e60
  replace hm : gLe u60 res.2 := by rw [ev60]; exact hm
  refine gx_put C hG.1 hS na60 eg60 fgX9_141 fpX9_141 (fun q => by cases q) rfl rfl dX9_back_60 (fun H locs hg hS => gy_w hG ev60 hg (fun hG => ?_))
  refine lv_iload_n hx hb dX9_back_63 rfl (lv_at hl 1 rfl) ?_
  cases Option.some.inj h
  exact gx_reti C hG.1 hS dX9_back_64
def fX9_back (x0 : Nat) (x1 : Int32) (u : gN) : Option (Int32 × gN) :=
  (gO [10] u.1 x0).bind fun _ =>
  bI (cN (fX9_thingOf x0 x1 u.1) u) fun r2 u2 =>
  if r2 = none then (
    (gO [10] u2.1 x0).bind fun _ =>
    bI (cN (fX9_finding x0 (1 : Int32) u2.1) u2) fun r12 u12 =>
    some (r12, u12)
  ) else (
    (r2).bind fun a17 =>
    (gI [9, 6] 6 u2.1 a17).bind fun v17 =>
    if v17 = (1 : Int32) then (
      (gI [10] 13 u2.1 x0).bind fun v25 =>
      (r2).bind fun a29 =>
      (gI [9, 6] 8 u2.1 a29).bind fun v29 =>
      if (v25 - v29) ≤ (10 : Int32) then (
        (r2).bind fun a45 =>
        (gI [9, 6] 7 u2.1 a45).bind fun v45 =>
        (gI [10] 13 u2.1 x0).bind fun v52 =>
        (r2).bind fun a55 =>
        (gO [6, 9] u2.1 a55).bind fun _ =>
        (fX8_become a55 (0 : Int32) v52 u2).bind fun u55 =>
        fX9_back_58 r2 v45 u55 
      ) else (
        (gO [10] u2.1 x0).bind fun _ =>
        bI (cN (fX9_finding x0 (3 : Int32) u2.1) u2) fun r40 u40 =>
        some (r40, u40)
      )
    ) else (
      (gO [10] u2.1 x0).bind fun _ =>
      bI (cN (fX9_finding x0 (3 : Int32) u2.1) u2) fun r40 u40 =>
      some (r40, u40)
    )
  )
set_option maxRecDepth 20000 in
theorem moX9_back {x0 : Nat} {x1 : Int32} {u : gN} {res : Int32 × gN} (h : fX9_back x0 x1 u = some res) : gLe u res.2 := by
  unfold fX9_back at h
  obtain ⟨_, eo2, h⟩ := ob h
  obtain ⟨r2, u2, e2, h⟩ := obI h
  refine gLe.tr (cN_le e2) ?_
  by_cases hc : r2 = none
  · replace h := it_pos hc h
    obtain ⟨_, eo12, h⟩ := ob h
    obtain ⟨r12, u12, e12, h⟩ := obI h
    refine gLe.tr (cN_le e12) ?_
    cases Option.some.inj h
    exact gLe.rf _
  · replace h := it_neg hc h
    obtain ⟨a17, na17, h⟩ := ob h
    obtain ⟨v17, e17, h⟩ := ob h
    by_cases hc : v17 = (1 : Int32)
    · replace h := it_pos hc h
      obtain ⟨v25, e25, h⟩ := ob h
      obtain ⟨a29, na29, h⟩ := ob h
      obtain ⟨v29, e29, h⟩ := ob h
      by_cases hc : (v25 - v29) ≤ (10 : Int32)
      · replace h := it_pos hc h
        obtain ⟨a45, na45, h⟩ := ob h
        obtain ⟨v45, e45, h⟩ := ob h
        obtain ⟨v52, e52, h⟩ := ob h
        obtain ⟨a55, na55, h⟩ := ob h
        obtain ⟨_, eo55, h⟩ := ob h
        obtain ⟨u55, e55, h⟩ := ob h
        refine gLe.tr (moX8_become e55) ?_
        exact moX9_back_58  h
      · replace h := it_neg hc h
        obtain ⟨_, eo40, h⟩ := ob h
        obtain ⟨r40, u40, e40, h⟩ := obI h
        refine gLe.tr (cN_le e40) ?_
        cases Option.some.inj h
        exact gLe.rf _
    · replace h := it_neg hc h
      obtain ⟨_, eo40, h⟩ := ob h
      obtain ⟨r40, u40, e40, h⟩ := obI h
      refine gLe.tr (cN_le e40) ?_
      cases Option.some.inj h
      exact gLe.rf _
set_option maxHeartbeats 4000000 in
set_option maxRecDepth 20000 in
theorem wX9_back  (C : gC p s m args meth c cX9_back 4 (some .int) RX9 "back" Γ){x0 : Nat} {x1 : Int32} {u : gN} {res : Int32 × gN} (h : fX9_back x0 x1 u = some res) {H : Heap} {locs : List Loc} (hG : gAn Γ sB u H) (hS : va_S Γ.2.2.1 s.heap H locs) {ls : Array Slot} (hl : lv_has ls 4 [(0, va_rf (some x0)), (1, .int x1)]) : W p l e (rmX9_back (res.2.2.1 - s.heap.size) (res.2.2.2 - sB)) s m args below meth c H locs (u.2.1 - s.heap.size) (u.2.2 - sB) (MQ below (gQ Γ (some (.int res.1)) res.2.1 res.2.2.1) args s (res.2.2.1 - s.heap.size) (res.2.2.2 - sB) Γ.2.2.1) (F0 m 0 ls []) := by
  have hx := C.1
  have hb := C.2.1
  have hm := moX9_back h
  unfold fX9_back at h
  refine gx_aload_n (r := (some x0)) hx hb dX9_back_0 rfl (lv_at hl 0 rfl) ?_
  refine lv_iload_n hx hb dX9_back_1 rfl (lv_at hl 1 rfl) ?_
  obtain ⟨_, eo2, h⟩ := ob h
  obtain ⟨r2, u2, e2, h⟩ := obI h
  obtain ⟨g2, eg2, ev2⟩ := cN_inv e2
  refine gx_cV C hG.1 hS [.int x1] rfl eo2 (tX9_thingOf eg2) qcX9_119 ⟨rfl, rfl, Nat.le_of_ble_eq_true rfl, Nat.le_of_ble_eq_true rfl⟩ ⟨Nat.sub_le_sub_right hm.1 _, Nat.sub_le_sub_right hm.2 _⟩ rfl hl.1 rfl (Nat.le_of_ble_eq_true rfl) (st1 := [va_rf r2]) rfl dX9_back_2 (fun H locs hg hS2 => gy_w (H0 := _) hG ev2 hg (fun hG => ?_))
  replace hS := hS2
  replace hm : gLe u2 res.2 := by rw [ev2]; exact hm
  refine gx_astore_n (r := r2) (i := 2) (lv' := [(2, va_rf r2), (0, va_rf (some x0)), (1, .int x1)]) hx hb dX9_back_5 rfl hl (by decide) rfl (fun ls hl => ?_)
  refine gx_aload_n (r := r2) hx hb dX9_back_6 rfl (lv_at hl 0 rfl) ?_
  refine gx_ifnonnull (tgt := 16) hx hb dX9_back_7 (by decide) (fun hc => ?_) (fun hc => ?_)
  · replace h := it_neg hc h
    refine gx_aload_n (r := r2) hx hb dX9_back_16 rfl (lv_at hl 0 rfl) ?_
    obtain ⟨a17, na17, h⟩ := ob h
    obtain ⟨v17, e17, h⟩ := ob h
    refine gx_getI C hG.1 na17 e17 fgX9_138 dX9_back_17 ?_
    refine lv_iconst (v := 1) hx hb dX9_back_20 (by decide) ?_
    refine lv_icmp_ne (tgt := 38) hx hb dX9_back_21 (by decide) (fun hc => ?_) (fun hc => ?_)
    · replace h := it_neg hc h
      refine gx_aload_n (r := (some x0)) hx hb dX9_back_38 rfl (lv_at hl 1 rfl) ?_
      refine lv_iconst (v := 3) hx hb dX9_back_39 (by decide) ?_
      obtain ⟨_, eo40, h⟩ := ob h
      obtain ⟨r40, u40, e40, h⟩ := obI h
      obtain ⟨g40, eg40, ev40⟩ := cN_inv e40
      refine gx_cV C hG.1 hS [.int (3 : Int32)] rfl eo40 (tX9_finding eg40) qcX9_89 ⟨rfl, rfl, Nat.le_of_ble_eq_true rfl, Nat.le_of_ble_eq_true rfl⟩ ⟨Nat.sub_le_sub_right hm.1 _, Nat.sub_le_sub_right hm.2 _⟩ rfl hl.1 rfl (Nat.le_of_ble_eq_true rfl) (st1 := [.int r40]) rfl dX9_back_40 (fun H locs hg hS2 => gy_w (H0 := _) hG ev40 hg (fun hG => ?_))
      replace hS := hS2
      replace hm : gLe u40 res.2 := by rw [ev40]; exact hm
      cases Option.some.inj h
      exact gx_reti C hG.1 hS dX9_back_43
    · replace h := it_pos hc h
      refine gx_aload_n (r := (some x0)) hx hb dX9_back_24 rfl (lv_at hl 1 rfl) ?_
      obtain ⟨v25, e25, h⟩ := ob h
      refine gx_getI C hG.1 rfl e25 fgX9_70 dX9_back_25 ?_
      refine gx_aload_n (r := r2) hx hb dX9_back_28 rfl (lv_at hl 0 rfl) ?_
      obtain ⟨a29, na29, h⟩ := ob h
      obtain ⟨v29, e29, h⟩ := ob h
      refine gx_getI C hG.1 na29 e29 fgX9_205 dX9_back_29 ?_
      refine lv_isub hx hb dX9_back_32 ?_
      refine lv_bipush (v := 10) hx hb dX9_back_33 (by decide) ?_
      refine lv_icmp_le (tgt := 44) hx hb dX9_back_35 (by decide) (fun hc => ?_) (fun hc => ?_)
      · replace h := it_pos hc h
        refine gx_aload_n (r := r2) hx hb dX9_back_44 rfl (lv_at hl 0 rfl) ?_
        obtain ⟨a45, na45, h⟩ := ob h
        obtain ⟨v45, e45, h⟩ := ob h
        refine gx_getI C hG.1 na45 e45 fgX9_141 dX9_back_45 ?_
        refine lv_istore_n (i := 3) (lv' := [(3, .int v45), (2, va_rf r2), (0, va_rf (some x0)), (1, .int x1)]) hx hb dX9_back_48 rfl hl (by decide) (by simp [gx_cat, gx_catI, gx_catJ]) (fun ls hl => ?_)
        refine gx_aload_n (r := r2) hx hb dX9_back_49 rfl (lv_at hl 1 rfl) ?_
        refine lv_iconst (v := 0) hx hb dX9_back_50 (by decide) ?_
        refine gx_aload_n (r := (some x0)) hx hb dX9_back_51 rfl (lv_at hl 2 rfl) ?_
        obtain ⟨v52, e52, h⟩ := ob h
        refine gx_getI C hG.1 rfl e52 fgX9_70 dX9_back_52 ?_
        obtain ⟨a55, na55, h⟩ := ob h
        obtain ⟨_, eo55, h⟩ := ob h
        obtain ⟨u55, e55, h⟩ := ob h
        have hle := moX8_become e55
        have hm2 : gLe u55 res.2 := by
          exact moX9_back_58  h
        refine gx_cU C hG.1 hS [.int (0 : Int32), .int v52] na55 eo55 (tX8_become e55) qcX9_107 ⟨rfl, rfl, Nat.le_of_ble_eq_true rfl, Nat.le_of_ble_eq_true rfl⟩ (gy_room hG hS hle ⟨Nat.sub_le_sub_right hm2.1 _, Nat.sub_le_sub_right hm2.2 _⟩) rfl hl.1 rfl (Nat.le_of_ble_eq_true rfl) (st1 := []) rfl dX9_back_55 (fun H locs hg hS2 => gy_ret hG hS hle hg (fun hG => ?_))
        replace hS := hS2
        exact wX9_back_58 C  h hG hS (lv_sub hl [1, 0] rfl)
      · replace h := it_neg hc h
        refine gx_aload_n (r := (some x0)) hx hb dX9_back_38 rfl (lv_at hl 1 rfl) ?_
        refine lv_iconst (v := 3) hx hb dX9_back_39 (by decide) ?_
        obtain ⟨_, eo40, h⟩ := ob h
        obtain ⟨r40, u40, e40, h⟩ := obI h
        obtain ⟨g40, eg40, ev40⟩ := cN_inv e40
        refine gx_cV C hG.1 hS [.int (3 : Int32)] rfl eo40 (tX9_finding eg40) qcX9_89 ⟨rfl, rfl, Nat.le_of_ble_eq_true rfl, Nat.le_of_ble_eq_true rfl⟩ ⟨Nat.sub_le_sub_right hm.1 _, Nat.sub_le_sub_right hm.2 _⟩ rfl hl.1 rfl (Nat.le_of_ble_eq_true rfl) (st1 := [.int r40]) rfl dX9_back_40 (fun H locs hg hS2 => gy_w (H0 := _) hG ev40 hg (fun hG => ?_))
        replace hS := hS2
        replace hm : gLe u40 res.2 := by rw [ev40]; exact hm
        cases Option.some.inj h
        exact gx_reti C hG.1 hS dX9_back_43
  · replace h := it_pos hc h
    refine gx_aload_n (r := (some x0)) hx hb dX9_back_10 rfl (lv_at hl 1 rfl) ?_
    refine lv_iconst (v := 1) hx hb dX9_back_11 (by decide) ?_
    obtain ⟨_, eo12, h⟩ := ob h
    obtain ⟨r12, u12, e12, h⟩ := obI h
    obtain ⟨g12, eg12, ev12⟩ := cN_inv e12
    refine gx_cV C hG.1 hS [.int (1 : Int32)] rfl eo12 (tX9_finding eg12) qcX9_89 ⟨rfl, rfl, Nat.le_of_ble_eq_true rfl, Nat.le_of_ble_eq_true rfl⟩ ⟨Nat.sub_le_sub_right hm.1 _, Nat.sub_le_sub_right hm.2 _⟩ rfl hl.1 rfl (Nat.le_of_ble_eq_true rfl) (st1 := [.int r12]) rfl dX9_back_12 (fun H locs hg hS2 => gy_w (H0 := _) hG ev12 hg (fun hG => ?_))
    replace hS := hS2
    replace hm : gLe u12 res.2 := by rw [ev12]; exact hm
    cases Option.some.inj h
    exact gx_reti C hG.1 hS dX9_back_15
theorem tX9_back {Γ : gEnv} {x0 : Nat} {x1 : Int32} {u v : gN} {r : Int32} (h : fX9_back x0 x1 u = some (r, v)) : Met l yX9_back (Cond.code yX9_back cX9_back 4 (some .int) :: gW) (rmX9_back (v.2.1 - u.2.1) (v.2.2 - u.2.2)) (va_Pc [va_rf (some x0), .int x1] (gPre Γ u.1 u.2.1)) (gQ Γ (some (.int r)) v.1 v.2.1) (v.2.1 - u.2.1) (v.2.2 - u.2.2) Γ.2.2.1 := by
  refine gx_met (nm := "back") ⟨by decide +kernel, rfl, rfl⟩ (Nat.le_of_ble_eq_true rfl) (fun p e s m below meth c ls C hG hl => ?_)
  have hN : s.heap.size = u.2.1 := hG.1
  have K := wX9_back (l := l) (e := e) (below := below) (sB := u.2.2) C h ⟨hG, Nat.le_refl _⟩ va_S.rf hl
  rw [hN, Nat.sub_self, Nat.sub_self] at K
  exact K
abbrev rmX9_digitsOf : Room := { frames := 0, cells := 0, slots := 0, locals := 0 }
def fX9_digitsOf_2_b (x0 : Int32) (x1 : Int32) (u : gM) (k2 : Int32 → Int32 → gM → Option (Int32 × gM)) : Option (Int32 × gM) :=
  if ((9 : Int32) - (1 : Int32)) ≤ x1 then (
    some (x1, u)
  ) else (
    (tE x1).bind fun v17 =>
    if x0 < v17 then (
      some (x1, u)
    ) else (
      k2 x0 (x1 + (1 : Int32)) u
    )
  )
set_option maxHeartbeats 4000000 in
set_option maxRecDepth 20000 in
theorem wX9_digitsOf_2_b  (C : gC p s m args meth c cX9_digitsOf 2 (some .int) RX9 "digitsOf" Γ){x0 : Int32} {x1 : Int32} {u : gM} {res : Int32 × gM} {k2 : Int32 → Int32 → gM → Option (Int32 × gM)} (hk2 : ∀ (x0 : Int32) (x1 : Int32) (u : gM) (H : Heap) (locs : List Loc) (ls : Array Slot), k2 x0 x1 u = some res → gAg Γ u N H → va_S Γ.2.2.1 s.heap H locs → lv_has ls 2 [(0, .int x0), (1, .int x1)] → W p l e rmX9_digitsOf s m args below meth c H locs 0 0 (MQ below (gQ Γ (some (.int res.1)) res.2 N) args s 0 0 Γ.2.2.1) (F0 m 2 ls [])) (h : fX9_digitsOf_2_b x0 x1 u k2 = some res) {H : Heap} {locs : List Loc} (hG : gAg Γ u N H) (hS : va_S Γ.2.2.1 s.heap H locs) {ls : Array Slot} (hl : lv_has ls 2 [(0, .int x0), (1, .int x1)]) : W p l e rmX9_digitsOf s m args below meth c H locs 0 0 (MQ below (gQ Γ (some (.int res.1)) res.2 N) args s 0 0 Γ.2.2.1) (F0 m 2 ls []) := by
  have hx := C.1
  have hb := C.2.1
  unfold fX9_digitsOf_2_b at h
  refine lv_iload_n hx hb dX9_digitsOf_2 rfl (lv_at hl 1 rfl) ?_
  refine gx_gets C hS C.2.2.2.2.2.2.1.2.1.1 ksX9_334 dX9_digitsOf_3 ?_
  refine gx_tlen C hS dX9_digitsOf_6 ?_
  refine lv_iconst (v := 1) hx hb dX9_digitsOf_7 (by decide) ?_
  refine lv_isub hx hb dX9_digitsOf_8 ?_
  refine lv_icmp_ge (tgt := 27) hx hb dX9_digitsOf_9 (by decide) (fun hc => ?_) (fun hc => ?_)
  · replace h := it_pos hc h
    refine lv_iload_n hx hb dX9_digitsOf_27 rfl (lv_at hl 1 rfl) ?_
    cases Option.some.inj h
    exact gx_reti C hG hS dX9_digitsOf_28
  · replace h := it_neg hc h
    refine lv_iload_n hx hb dX9_digitsOf_12 rfl (lv_at hl 0 rfl) ?_
    refine gx_gets C hS C.2.2.2.2.2.2.1.2.1.1 ksX9_334 dX9_digitsOf_13 ?_
    refine lv_iload_n hx hb dX9_digitsOf_16 rfl (lv_at hl 1 rfl) ?_
    obtain ⟨v17, e17, h⟩ := ob h
    refine gx_ten C hS e17 dX9_digitsOf_17 ?_
    refine lv_icmp_lt (tgt := 27) hx hb dX9_digitsOf_18 (by decide) (fun hc => ?_) (fun hc => ?_)
    · replace h := it_pos hc h
      refine lv_iload_n hx hb dX9_digitsOf_27 rfl (lv_at hl 1 rfl) ?_
      cases Option.some.inj h
      exact gx_reti C hG hS dX9_digitsOf_28
    · replace h := it_neg hc h
      refine lv_iinc (v := x1 + (1 : Int32)) (lv' := [(1, .int (x1 + (1 : Int32))), (0, .int x0)]) hx hb dX9_digitsOf_21 hl (k := 1) rfl rfl (by decide) rfl (fun ls hl => ?_)
      refine lv_goto (tgt := 2) hx hb dX9_digitsOf_24 (by decide) ?_
      exact hk2 _ _ _ _ _ _ h hG hS (lv_sub hl [1, 0] rfl)
def fX9_digitsOf_2 : Nat → Int32 → Int32 → gM → Option (Int32 × gM)
  | 0 => fun _ _ _ => none
  | n + 1 => fun x0 x1 u => fX9_digitsOf_2_b x0 x1 u (fX9_digitsOf_2 n) 
theorem wX9_digitsOf_2 (C : gC p s m args meth c cX9_digitsOf 2 (some .int) RX9 "digitsOf" Γ) {res : Int32 × gM} (n : Nat) : ∀ {x0 : Int32} {x1 : Int32} {u : gM} {H : Heap} {locs : List Loc} {ls : Array Slot}, fX9_digitsOf_2 n x0 x1 u = some res → gAg Γ u N H → va_S Γ.2.2.1 s.heap H locs → lv_has ls 2 [(0, .int x0), (1, .int x1)] → W p l e rmX9_digitsOf s m args below meth c H locs 0 0 (MQ below (gQ Γ (some (.int res.1)) res.2 N) args s 0 0 Γ.2.2.1) (F0 m 2 ls []) := by
  induction n with
  | zero => intro _ _ _ _ _ _ h _ _ _; cases (show (none : Option (Int32 × gM)) = some res from h)
  | succ n ih => intro _ _ _ _ _ _ h hG hS hl; exact wX9_digitsOf_2_b C (fun _ _ _ _ _ _ h hG hS hl => ih h hG hS hl) h hG hS hl
def fX9_digitsOf (x0 : Int32) (u : gM) : Option (Int32 × gM) :=
  fX9_digitsOf_2  FU x0 (1 : Int32) u
set_option maxHeartbeats 4000000 in
set_option maxRecDepth 20000 in
theorem wX9_digitsOf  (C : gC p s m args meth c cX9_digitsOf 2 (some .int) RX9 "digitsOf" Γ){x0 : Int32} {u : gM} {res : Int32 × gM} (h : fX9_digitsOf x0 u = some res) {H : Heap} {locs : List Loc} (hG : gAg Γ u N H) (hS : va_S Γ.2.2.1 s.heap H locs) {ls : Array Slot} (hl : lv_has ls 2 [(0, .int x0)]) : W p l e rmX9_digitsOf s m args below meth c H locs 0 0 (MQ below (gQ Γ (some (.int res.1)) res.2 N) args s 0 0 Γ.2.2.1) (F0 m 0 ls []) := by
  have hx := C.1
  have hb := C.2.1
  unfold fX9_digitsOf at h
  refine lv_iconst (v := 1) hx hb dX9_digitsOf_0 (by decide) ?_
  refine lv_istore_n (i := 1) (lv' := [(1, .int (1 : Int32)), (0, .int x0)]) hx hb dX9_digitsOf_1 rfl hl (by decide) rfl (fun ls hl => ?_)
  exact wX9_digitsOf_2 C  FU h hG hS (lv_sub hl [1, 0] rfl)
theorem tX9_digitsOf {Γ : gEnv} {N : Nat} {x0 : Int32} {u v : gM} {r : Int32} (h : fX9_digitsOf x0 u = some (r, v)) : Met l yX9_digitsOf (Cond.code yX9_digitsOf cX9_digitsOf 2 (some .int) :: gW) rmX9_digitsOf (va_Pc [.int x0] (gPre Γ u N)) (gQ Γ (some (.int r)) v N) 0 0 Γ.2.2.1 :=
  gx_met (nm := "digitsOf") ⟨by decide +kernel, rfl, rfl⟩ (Nat.le_of_ble_eq_true rfl) (fun p e s m below meth c ls C hG hl => wX9_digitsOf C h hG va_S.rf hl)
abbrev rmX9_isWord : Room := { frames := 1, cells := 0, slots := 0, locals := 22 }
def fX9_isWord_15_b (x0 : Int32) (x1 : Int32) (u : gM) (k15 : Int32 → Int32 → gM → Option (Int32 × gM)) : Option (Int32 × gM) :=
  bI (fX9_digitsOf x0 u) fun r17 u17 =>
  if r17 ≤ x1 then (
    some ((1 : Int32), u17)
  ) else (
    (tE x1).bind fun v28 =>
    if v28 = 0 then none else
    if ((x0 / v28) - (x0 / v28) / (10 : Int32) * (10 : Int32)) = 0 then (
      some ((0 : Int32), u17)
    ) else (
      k15 x0 (x1 + (1 : Int32)) u17
    )
  )
set_option maxHeartbeats 4000000 in
set_option maxRecDepth 20000 in
theorem wX9_isWord_15_b  (C : gC p s m args meth c cX9_isWord 2 (some .boolean) RX9 "isWord" Γ){x0 : Int32} {x1 : Int32} {u : gM} {res : Int32 × gM} {k15 : Int32 → Int32 → gM → Option (Int32 × gM)} (hk15 : ∀ (x0 : Int32) (x1 : Int32) (u : gM) (H : Heap) (locs : List Loc) (ls : Array Slot), k15 x0 x1 u = some res → gAg Γ u N H → va_S Γ.2.2.1 s.heap H locs → lv_has ls 2 [(0, .int x0), (1, .int x1)] → W p l e rmX9_isWord s m args below meth c H locs 0 0 (MQ below (gQ Γ (some (.int res.1)) res.2 N) args s 0 0 Γ.2.2.1) (F0 m 15 ls [])) (h : fX9_isWord_15_b x0 x1 u k15 = some res) {H : Heap} {locs : List Loc} (hG : gAg Γ u N H) (hS : va_S Γ.2.2.1 s.heap H locs) {ls : Array Slot} (hl : lv_has ls 2 [(0, .int x0), (1, .int x1)]) : W p l e rmX9_isWord s m args below meth c H locs 0 0 (MQ below (gQ Γ (some (.int res.1)) res.2 N) args s 0 0 Γ.2.2.1) (F0 m 15 ls []) := by
  have hx := C.1
  have hb := C.2.1
  unfold fX9_isWord_15_b at h
  refine lv_iload_n hx hb dX9_isWord_15 rfl (lv_at hl 1 rfl) ?_
  refine lv_iload_n hx hb dX9_isWord_16 rfl (lv_at hl 0 rfl) ?_
  obtain ⟨r17, u17, e17, h⟩ := obI h
  refine gx_cS C hG hS [.int x0] (tX9_digitsOf e17) qcX9_213 ⟨rfl, rfl, Nat.le_of_ble_eq_true rfl, Nat.le_of_ble_eq_true rfl⟩ ⟨Nat.zero_le _, Nat.zero_le _⟩ rfl hl.1 rfl (Nat.le_of_ble_eq_true rfl) (st1 := [.int r17, .int x1]) rfl dX9_isWord_17 (fun H locs hG hS => ?_)
  refine lv_icmp_ge (tgt := 44) hx hb dX9_isWord_20 (by decide) (fun hc => ?_) (fun hc => ?_)
  · replace h := it_pos hc h
    refine lv_iconst (v := 1) hx hb dX9_isWord_44 (by decide) ?_
    cases Option.some.inj h
    exact gx_retz C (Or.inr rfl) hG hS dX9_isWord_45
  · replace h := it_neg hc h
    refine lv_iload_n hx hb dX9_isWord_23 rfl (lv_at hl 0 rfl) ?_
    refine gx_gets C hS C.2.2.2.2.2.2.1.2.1.1 ksX9_334 dX9_isWord_24 ?_
    refine lv_iload_n hx hb dX9_isWord_27 rfl (lv_at hl 1 rfl) ?_
    obtain ⟨v28, e28, h⟩ := ob h
    refine gx_ten C hS e28 dX9_isWord_28 ?_
    have n29 : ¬ v28 = 0 := fun q => by rw [if_pos q] at h; cases h
    replace h := it_neg n29 h
    refine lv_idiv hx hb dX9_isWord_29 n29 ?_
    refine lv_bipush (v := 10) hx hb dX9_isWord_30 (by decide) ?_
    refine lv_irem hx hb dX9_isWord_32 (by decide) ?_
    refine lv_if_ne (tgt := 38) hx hb dX9_isWord_33 (by decide) (fun hc => ?_) (fun hc => ?_)
    · replace h := it_neg hc h
      refine lv_iinc (v := x1 + (1 : Int32)) (lv' := [(1, .int (x1 + (1 : Int32))), (0, .int x0)]) hx hb dX9_isWord_38 hl (k := 1) rfl rfl (by decide) rfl (fun ls hl => ?_)
      refine lv_goto (tgt := 15) hx hb dX9_isWord_41 (by decide) ?_
      exact hk15 _ _ _ _ _ _ h hG hS (lv_sub hl [1, 0] rfl)
    · replace h := it_pos hc h
      refine lv_iconst (v := 0) hx hb dX9_isWord_36 (by decide) ?_
      cases Option.some.inj h
      exact gx_retz C (Or.inl rfl) hG hS dX9_isWord_37
def fX9_isWord_15 : Nat → Int32 → Int32 → gM → Option (Int32 × gM)
  | 0 => fun _ _ _ => none
  | n + 1 => fun x0 x1 u => fX9_isWord_15_b x0 x1 u (fX9_isWord_15 n) 
theorem wX9_isWord_15 (C : gC p s m args meth c cX9_isWord 2 (some .boolean) RX9 "isWord" Γ) {res : Int32 × gM} (n : Nat) : ∀ {x0 : Int32} {x1 : Int32} {u : gM} {H : Heap} {locs : List Loc} {ls : Array Slot}, fX9_isWord_15 n x0 x1 u = some res → gAg Γ u N H → va_S Γ.2.2.1 s.heap H locs → lv_has ls 2 [(0, .int x0), (1, .int x1)] → W p l e rmX9_isWord s m args below meth c H locs 0 0 (MQ below (gQ Γ (some (.int res.1)) res.2 N) args s 0 0 Γ.2.2.1) (F0 m 15 ls []) := by
  induction n with
  | zero => intro _ _ _ _ _ _ h _ _ _; cases (show (none : Option (Int32 × gM)) = some res from h)
  | succ n ih => intro _ _ _ _ _ _ h hG hS hl; exact wX9_isWord_15_b C (fun _ _ _ _ _ _ h hG hS hl => ih h hG hS hl) h hG hS hl
def fX9_isWord (x0 : Int32) (u : gM) : Option (Int32 × gM) :=
  bI (fX9_within x0 (1 : Int32) (99999999 : Int32) u) fun r5 u5 =>
  if r5 = 0 then (
    some ((0 : Int32), u5)
  ) else (
    fX9_isWord_15  FU x0 (0 : Int32) u5
  )
set_option maxHeartbeats 4000000 in
set_option maxRecDepth 20000 in
theorem wX9_isWord  (C : gC p s m args meth c cX9_isWord 2 (some .boolean) RX9 "isWord" Γ){x0 : Int32} {u : gM} {res : Int32 × gM} (h : fX9_isWord x0 u = some res) {H : Heap} {locs : List Loc} (hG : gAg Γ u N H) (hS : va_S Γ.2.2.1 s.heap H locs) {ls : Array Slot} (hl : lv_has ls 2 [(0, .int x0)]) : W p l e rmX9_isWord s m args below meth c H locs 0 0 (MQ below (gQ Γ (some (.int res.1)) res.2 N) args s 0 0 Γ.2.2.1) (F0 m 0 ls []) := by
  have hx := C.1
  have hb := C.2.1
  unfold fX9_isWord at h
  refine lv_iload_n hx hb dX9_isWord_0 rfl (lv_at hl 0 rfl) ?_
  refine lv_iconst (v := 1) hx hb dX9_isWord_1 (by decide) ?_
  refine lv_ldcw (v := 99999999) hx hb C.2.2.2.1 (C.2.2.2.2.1 _ (gW_mem kcX9_337)) dX9_isWord_2 ?_
  obtain ⟨r5, u5, e5, h⟩ := obI h
  refine gx_cS C hG hS [.int x0, .int (1 : Int32), .int (99999999 : Int32)] (tX9_within e5) qcX9_85 ⟨rfl, rfl, Nat.le_of_ble_eq_true rfl, Nat.le_of_ble_eq_true rfl⟩ ⟨Nat.zero_le _, Nat.zero_le _⟩ rfl hl.1 rfl (Nat.le_of_ble_eq_true rfl) (st1 := [.int r5]) rfl dX9_isWord_5 (fun H locs hG hS => ?_)
  refine lv_if_ne (tgt := 13) hx hb dX9_isWord_8 (by decide) (fun hc => ?_) (fun hc => ?_)
  · replace h := it_neg hc h
    refine lv_iconst (v := 0) hx hb dX9_isWord_13 (by decide) ?_
    refine lv_istore_n (i := 1) (lv' := [(1, .int (0 : Int32)), (0, .int x0)]) hx hb dX9_isWord_14 rfl hl (by decide) rfl (fun ls hl => ?_)
    exact wX9_isWord_15 C  FU h hG hS (lv_sub hl [1, 0] rfl)
  · replace h := it_pos hc h
    refine lv_iconst (v := 0) hx hb dX9_isWord_11 (by decide) ?_
    cases Option.some.inj h
    exact gx_retz C (Or.inl rfl) hG hS dX9_isWord_12
theorem tX9_isWord {Γ : gEnv} {N : Nat} {x0 : Int32} {u v : gM} {r : Int32} (h : fX9_isWord x0 u = some (r, v)) : Met l yX9_isWord (Cond.code yX9_isWord cX9_isWord 2 (some .boolean) :: gW) rmX9_isWord (va_Pc [.int x0] (gPre Γ u N)) (gQ Γ (some (.int r)) v N) 0 0 Γ.2.2.1 :=
  gx_met (nm := "isWord") ⟨by decide +kernel, rfl, rfl⟩ (Nat.le_of_ble_eq_true rfl) (fun p e s m below meth c ls C hG hl => wX9_isWord C h hG va_S.rf hl)
abbrev rmX9_address (a b : Nat) : Room := { frames := 7, cells := a, slots := b, locals := 171 }
def fX9_address_62 (z : Nat → Nat) (x0 : Nat) (s0 : Int32) (u : gN) : Option (Int32 × gN) :=
  (gR [10] 2 u.1 x0).bind fun v64 =>
  (v64).bind fun a67 =>
  (gO [0] u.1 a67).bind fun _ =>
  bI (cN (fJx4a65c_size_8abf5 a67 u.1) u) fun r67 u67 =>
  some (r67 - (1 : Int32), u67)
set_option maxRecDepth 20000 in
theorem moX9_address_62 {z : Nat → Nat} {x0 : Nat} {s0 : Int32} {u : gN} {res : Int32 × gN} (h : fX9_address_62 z x0 s0 u = some res) : gLe u res.2 := by
  unfold fX9_address_62 at h
  obtain ⟨v64, e64, h⟩ := ob h
  obtain ⟨a67, na67, h⟩ := ob h
  obtain ⟨_, eo67, h⟩ := ob h
  obtain ⟨r67, u67, e67, h⟩ := obI h
  refine gLe.tr (cN_le e67) ?_
  cases Option.some.inj h
  exact gLe.rf _
set_option maxHeartbeats 4000000 in
set_option maxRecDepth 20000 in
theorem wX9_address_62 {z : Nat → Nat}  (C : gC p s m args meth c cX9_address 3 (some .int) RX9 "address" Γ)(hz : Γ.2.2.2 = z) {x0 : Nat} {s0 : Int32} {u : gN} {res : Int32 × gN} (h : fX9_address_62 z x0 s0 u = some res) {H : Heap} {locs : List Loc} (hG : gAn Γ sB u H) (hS : va_S Γ.2.2.1 s.heap H locs) {ls : Array Slot} (hl : lv_has ls 3 [(0, va_rf (some x0))]) : W p l e (rmX9_address (res.2.2.1 - s.heap.size) (res.2.2.2 - sB)) s m args below meth c H locs (u.2.1 - s.heap.size) (u.2.2 - sB) (MQ below (gQ Γ (some (.int res.1)) res.2.1 res.2.2.1) args s (res.2.2.1 - s.heap.size) (res.2.2.2 - sB) Γ.2.2.1) (F0 m 62 ls [.int s0]) := by
  have hx := C.1
  have hb := C.2.1
  have hm := moX9_address_62 h
  unfold fX9_address_62 at h
  refine lv_pop hx hb dX9_address_62 (by first | rfl | exact gx_cat _) ?_
  refine gx_aload_n (r := (some x0)) hx hb dX9_address_63 rfl (lv_at hl 0 rfl) ?_
  obtain ⟨v64, e64, h⟩ := ob h
  refine gx_getR C hG.1 rfl e64 fgX9_19 dX9_address_64 ?_
  obtain ⟨a67, na67, h⟩ := ob h
  obtain ⟨_, eo67, h⟩ := ob h
  obtain ⟨r67, u67, e67, h⟩ := obI h
  obtain ⟨g67, eg67, ev67⟩ := cN_inv e67
  refine gx_cV C hG.1 hS [] na67 eo67 (tJx4a65c_size_8abf5 eg67) qcX9_93 ⟨rfl, rfl, Nat.le_of_ble_eq_true rfl, Nat.le_of_ble_eq_true rfl⟩ ⟨Nat.sub_le_sub_right hm.1 _, Nat.sub_le_sub_right hm.2 _⟩ rfl hl.1 rfl (Nat.le_of_ble_eq_true rfl) (st1 := [.int r67]) rfl dX9_address_67 (fun H locs hg hS2 => gy_w (H0 := _) hG ev67 hg (fun hG => ?_))
  replace hS := hS2
  replace hm : gLe u67 res.2 := by rw [ev67]; exact hm
  refine lv_iconst (v := 1) hx hb dX9_address_70 (by decide) ?_
  refine lv_isub hx hb dX9_address_71 ?_
  cases Option.some.inj h
  exact gx_reti C hG.1 hS dX9_address_72
def fX9_address_49 (z : Nat → Nat) (x0 : Nat) (x1 : Int32) (x2 : Int32) (s0 : Option Nat) (s1 : Option Nat) (u : gN) : Option (Int32 × gN) :=
  bI (cN (fX9_digitsOf x1 u.1) u) fun r52 u52 =>
  (s1).bind fun a56 =>
  (wN (fX0_init a56 x1 r52 x2 u52.1) u52).bind fun u56 =>
  (s0).bind fun a59 =>
  (gO [0] u56.1 a59).bind fun _ =>
  bI (fJx4a65c_add_9ea2d z a59 s1 u56) fun r59 u59 =>
  fX9_address_62 z x0 r59 u59 
set_option maxRecDepth 20000 in
theorem moX9_address_49 {z : Nat → Nat} {x0 : Nat} {x1 : Int32} {x2 : Int32} {s0 : Option Nat} {s1 : Option Nat} {u : gN} {res : Int32 × gN} (h : fX9_address_49 z x0 x1 x2 s0 s1 u = some res) : gLe u res.2 := by
  unfold fX9_address_49 at h
  obtain ⟨r52, u52, e52, h⟩ := obI h
  refine gLe.tr (cN_le e52) ?_
  obtain ⟨a56, na56, h⟩ := ob h
  obtain ⟨u56, e56, h⟩ := ob h
  refine gLe.tr (wN_le e56) ?_
  obtain ⟨a59, na59, h⟩ := ob h
  obtain ⟨_, eo59, h⟩ := ob h
  obtain ⟨r59, u59, e59, h⟩ := obI h
  refine gLe.tr (moJx4a65c_add_9ea2d e59) ?_
  exact moX9_address_62  h
set_option maxHeartbeats 4000000 in
set_option maxRecDepth 20000 in
theorem wX9_address_49 {z : Nat → Nat}  (C : gC p s m args meth c cX9_address 3 (some .int) RX9 "address" Γ)(hz : Γ.2.2.2 = z) {x0 : Nat} {x1 : Int32} {x2 : Int32} {s0 : Option Nat} {s1 : Option Nat} {u : gN} {res : Int32 × gN} (h : fX9_address_49 z x0 x1 x2 s0 s1 u = some res) {H : Heap} {locs : List Loc} (hG : gAn Γ sB u H) (hS : va_S Γ.2.2.1 s.heap H locs) {ls : Array Slot} (hl : lv_has ls 3 [(0, va_rf (some x0)), (1, .int x1), (2, .int x2)]) : W p l e (rmX9_address (res.2.2.1 - s.heap.size) (res.2.2.2 - sB)) s m args below meth c H locs (u.2.1 - s.heap.size) (u.2.2 - sB) (MQ below (gQ Γ (some (.int res.1)) res.2.1 res.2.2.1) args s (res.2.2.1 - s.heap.size) (res.2.2.2 - sB) Γ.2.2.1) (F0 m 49 ls [va_rf s1, va_rf s0]) := by
  have hx := C.1
  have hb := C.2.1
  have hm := moX9_address_49 h
  unfold fX9_address_49 at h
  refine lv_dup hx hb dX9_address_49 (by first | rfl | exact gx_cat _) ?_
  refine lv_iload_n hx hb dX9_address_50 rfl (lv_at hl 1 rfl) ?_
  refine lv_iload_n hx hb dX9_address_51 rfl (lv_at hl 1 rfl) ?_
  obtain ⟨r52, u52, e52, h⟩ := obI h
  obtain ⟨g52, eg52, ev52⟩ := cN_inv e52
  refine gx_cS C hG.1 hS [.int x1] (tX9_digitsOf eg52) qcX9_213 ⟨rfl, rfl, Nat.le_of_ble_eq_true rfl, Nat.le_of_ble_eq_true rfl⟩ ⟨Nat.sub_le_sub_right hm.1 _, Nat.sub_le_sub_right hm.2 _⟩ rfl hl.1 rfl (by simp [gx_cat, gx_catI, gx_catJ]) (st1 := [.int r52, .int x1, va_rf s1, va_rf s1, va_rf s0]) rfl dX9_address_52 (fun H locs hg hS2 => gy_w (H0 := _) hG ev52 hg (fun hG => ?_))
  replace hS := hS2
  replace hm : gLe u52 res.2 := by rw [ev52]; exact hm
  refine lv_iload_n hx hb dX9_address_55 rfl (lv_at hl 2 rfl) ?_
  obtain ⟨a56, na56, h⟩ := ob h
  obtain ⟨u56, e56, h⟩ := ob h
  obtain ⟨g56, eg56, ev56⟩ := wN_inv e56
  refine gx_cI C hG.1 hS [.int x1, .int r52, .int x2] na56 (tX0_init eg56) qcX9_216 ⟨rfl, rfl, Nat.le_of_ble_eq_true rfl, Nat.le_of_ble_eq_true rfl⟩ ⟨Nat.sub_le_sub_right hm.1 _, Nat.sub_le_sub_right hm.2 _⟩ rfl hl.1 rfl (by simp [gx_cat, gx_catI, gx_catJ]) dX9_address_56 (fun H locs hg hS2 => gy_w (H0 := _) hG ev56 hg (fun hG => ?_))
  replace hS := hS2
  replace hm : gLe u56 res.2 := by rw [ev56]; exact hm
  obtain ⟨a59, na59, h⟩ := ob h
  obtain ⟨_, eo59, h⟩ := ob h
  obtain ⟨r59, u59, e59, h⟩ := obI h
  have hle := moJx4a65c_add_9ea2d e59
  have hm2 : gLe u59 res.2 := by
    exact moX9_address_62  h
  refine gx_cV C hG.1 hS [va_rf s1] na59 eo59 (tJx4a65c_add_9ea2d hz e59) qcX9_115 ⟨rfl, rfl, Nat.le_of_ble_eq_true rfl, Nat.le_of_ble_eq_true rfl⟩ (gy_room hG hS hle ⟨Nat.sub_le_sub_right hm2.1 _, Nat.sub_le_sub_right hm2.2 _⟩) rfl hl.1 rfl (Nat.le_of_ble_eq_true rfl) (st1 := [.int r59]) rfl dX9_address_59 (fun H locs hg hS2 => gy_ret hG hS hle hg (fun hG => ?_))
  replace hS := hS2
  exact wX9_address_62 C hz  h hG hS (lv_sub hl [0] rfl)
def fX9_address (z : Nat → Nat) (x0 : Nat) (x1 : Int32) (x2 : Int32) (u : gN) : Option (Int32 × gN) :=
  bI (cN (fX9_isWord x1 u.1) u) fun r1 u1 =>
  if r1 = 0 then (
    (gO [10] u1.1 x0).bind fun _ =>
    bI (cN (fX9_finding x0 (1 : Int32) u1.1) u1) fun r20 u20 =>
    some (r20, u20)
  ) else (
    bI (cN (fX9_within x2 (0 : Int32) (1000 : Int32) u1.1) u1) fun r12 u12 =>
    if r12 = 0 then (
      (gO [10] u12.1 x0).bind fun _ =>
      bI (cN (fX9_finding x0 (1 : Int32) u12.1) u12) fun r20 u20 =>
      some (r20, u20)
    ) else (
      (gR [10] 2 u12.1 x0).bind fun v25 =>
      (v25).bind fun a28 =>
      (gO [0] u12.1 a28).bind fun _ =>
      bI (cN (fJx4a65c_size_8abf5 a28 u12.1) u12) fun r28 u28 =>
      if r28 < (16 : Int32) then (
        (gR [10] 2 u28.1 x0).bind fun v43 =>
        bI (nwO 1 [.int 0, .int 0, .int 0] u28) fun q46 u46 =>
        fX9_address_49 z x0 x1 x2 v43 (some q46) u46 
      ) else (
        (gO [10] u28.1 x0).bind fun _ =>
        bI (cN (fX9_finding x0 (4 : Int32) u28.1) u28) fun r38 u38 =>
        some (r38, u38)
      )
    )
  )
set_option maxRecDepth 20000 in
theorem moX9_address {z : Nat → Nat} {x0 : Nat} {x1 : Int32} {x2 : Int32} {u : gN} {res : Int32 × gN} (h : fX9_address z x0 x1 x2 u = some res) : gLe u res.2 := by
  unfold fX9_address at h
  obtain ⟨r1, u1, e1, h⟩ := obI h
  refine gLe.tr (cN_le e1) ?_
  by_cases hc : r1 = 0
  · replace h := it_pos hc h
    obtain ⟨_, eo20, h⟩ := ob h
    obtain ⟨r20, u20, e20, h⟩ := obI h
    refine gLe.tr (cN_le e20) ?_
    cases Option.some.inj h
    exact gLe.rf _
  · replace h := it_neg hc h
    obtain ⟨r12, u12, e12, h⟩ := obI h
    refine gLe.tr (cN_le e12) ?_
    by_cases hc : r12 = 0
    · replace h := it_pos hc h
      obtain ⟨_, eo20, h⟩ := ob h
      obtain ⟨r20, u20, e20, h⟩ := obI h
      refine gLe.tr (cN_le e20) ?_
      cases Option.some.inj h
      exact gLe.rf _
    · replace h := it_neg hc h
      obtain ⟨v25, e25, h⟩ := ob h
      obtain ⟨a28, na28, h⟩ := ob h
      obtain ⟨_, eo28, h⟩ := ob h
      obtain ⟨r28, u28, e28, h⟩ := obI h
      refine gLe.tr (cN_le e28) ?_
      by_cases hc : r28 < (16 : Int32)
      · replace h := it_pos hc h
        obtain ⟨v43, e43, h⟩ := ob h
        obtain ⟨q46, u46, e46, h⟩ := obI h
        refine gLe.tr (nwO_le e46) ?_
        exact moX9_address_49  h
      · replace h := it_neg hc h
        obtain ⟨_, eo38, h⟩ := ob h
        obtain ⟨r38, u38, e38, h⟩ := obI h
        refine gLe.tr (cN_le e38) ?_
        cases Option.some.inj h
        exact gLe.rf _
set_option maxHeartbeats 4000000 in
set_option maxRecDepth 20000 in
theorem wX9_address {z : Nat → Nat}  (C : gC p s m args meth c cX9_address 3 (some .int) RX9 "address" Γ)(hz : Γ.2.2.2 = z) {x0 : Nat} {x1 : Int32} {x2 : Int32} {u : gN} {res : Int32 × gN} (h : fX9_address z x0 x1 x2 u = some res) {H : Heap} {locs : List Loc} (hG : gAn Γ sB u H) (hS : va_S Γ.2.2.1 s.heap H locs) {ls : Array Slot} (hl : lv_has ls 3 [(0, va_rf (some x0)), (1, .int x1), (2, .int x2)]) : W p l e (rmX9_address (res.2.2.1 - s.heap.size) (res.2.2.2 - sB)) s m args below meth c H locs (u.2.1 - s.heap.size) (u.2.2 - sB) (MQ below (gQ Γ (some (.int res.1)) res.2.1 res.2.2.1) args s (res.2.2.1 - s.heap.size) (res.2.2.2 - sB) Γ.2.2.1) (F0 m 0 ls []) := by
  have hx := C.1
  have hb := C.2.1
  have hm := moX9_address h
  unfold fX9_address at h
  refine lv_iload_n hx hb dX9_address_0 rfl (lv_at hl 1 rfl) ?_
  obtain ⟨r1, u1, e1, h⟩ := obI h
  obtain ⟨g1, eg1, ev1⟩ := cN_inv e1
  refine gx_cS C hG.1 hS [.int x1] (tX9_isWord eg1) qcX9_208 ⟨rfl, rfl, Nat.le_of_ble_eq_true rfl, Nat.le_of_ble_eq_true rfl⟩ ⟨Nat.sub_le_sub_right hm.1 _, Nat.sub_le_sub_right hm.2 _⟩ rfl hl.1 rfl (Nat.le_of_ble_eq_true rfl) (st1 := [.int r1]) rfl dX9_address_1 (fun H locs hg hS2 => gy_w (H0 := _) hG ev1 hg (fun hG => ?_))
  replace hS := hS2
  replace hm : gLe u1 res.2 := by rw [ev1]; exact hm
  refine lv_if_eq (tgt := 18) hx hb dX9_address_4 (by decide) (fun hc => ?_) (fun hc => ?_)
  · replace h := it_pos hc h
    refine gx_aload_n (r := (some x0)) hx hb dX9_address_18 rfl (lv_at hl 0 rfl) ?_
    refine lv_iconst (v := 1) hx hb dX9_address_19 (by decide) ?_
    obtain ⟨_, eo20, h⟩ := ob h
    obtain ⟨r20, u20, e20, h⟩ := obI h
    obtain ⟨g20, eg20, ev20⟩ := cN_inv e20
    refine gx_cV C hG.1 hS [.int (1 : Int32)] rfl eo20 (tX9_finding eg20) qcX9_89 ⟨rfl, rfl, Nat.le_of_ble_eq_true rfl, Nat.le_of_ble_eq_true rfl⟩ ⟨Nat.sub_le_sub_right hm.1 _, Nat.sub_le_sub_right hm.2 _⟩ rfl hl.1 rfl (Nat.le_of_ble_eq_true rfl) (st1 := [.int r20]) rfl dX9_address_20 (fun H locs hg hS2 => gy_w (H0 := _) hG ev20 hg (fun hG => ?_))
    replace hS := hS2
    replace hm : gLe u20 res.2 := by rw [ev20]; exact hm
    cases Option.some.inj h
    exact gx_reti C hG.1 hS dX9_address_23
  · replace h := it_neg hc h
    refine lv_iload_n hx hb dX9_address_7 rfl (lv_at hl 2 rfl) ?_
    refine lv_iconst (v := 0) hx hb dX9_address_8 (by decide) ?_
    refine lv_sipush (v := 1000) hx hb dX9_address_9 (by decide) ?_
    obtain ⟨r12, u12, e12, h⟩ := obI h
    obtain ⟨g12, eg12, ev12⟩ := cN_inv e12
    refine gx_cS C hG.1 hS [.int x2, .int (0 : Int32), .int (1000 : Int32)] (tX9_within eg12) qcX9_85 ⟨rfl, rfl, Nat.le_of_ble_eq_true rfl, Nat.le_of_ble_eq_true rfl⟩ ⟨Nat.sub_le_sub_right hm.1 _, Nat.sub_le_sub_right hm.2 _⟩ rfl hl.1 rfl (Nat.le_of_ble_eq_true rfl) (st1 := [.int r12]) rfl dX9_address_12 (fun H locs hg hS2 => gy_w (H0 := _) hG ev12 hg (fun hG => ?_))
    replace hS := hS2
    replace hm : gLe u12 res.2 := by rw [ev12]; exact hm
    refine lv_if_ne (tgt := 24) hx hb dX9_address_15 (by decide) (fun hc => ?_) (fun hc => ?_)
    · replace h := it_neg hc h
      refine gx_aload_n (r := (some x0)) hx hb dX9_address_24 rfl (lv_at hl 0 rfl) ?_
      obtain ⟨v25, e25, h⟩ := ob h
      refine gx_getR C hG.1 rfl e25 fgX9_19 dX9_address_25 ?_
      obtain ⟨a28, na28, h⟩ := ob h
      obtain ⟨_, eo28, h⟩ := ob h
      obtain ⟨r28, u28, e28, h⟩ := obI h
      obtain ⟨g28, eg28, ev28⟩ := cN_inv e28
      refine gx_cV C hG.1 hS [] na28 eo28 (tJx4a65c_size_8abf5 eg28) qcX9_93 ⟨rfl, rfl, Nat.le_of_ble_eq_true rfl, Nat.le_of_ble_eq_true rfl⟩ ⟨Nat.sub_le_sub_right hm.1 _, Nat.sub_le_sub_right hm.2 _⟩ rfl hl.1 rfl (Nat.le_of_ble_eq_true rfl) (st1 := [.int r28]) rfl dX9_address_28 (fun H locs hg hS2 => gy_w (H0 := _) hG ev28 hg (fun hG => ?_))
      replace hS := hS2
      replace hm : gLe u28 res.2 := by rw [ev28]; exact hm
      refine lv_bipush (v := 16) hx hb dX9_address_31 (by decide) ?_
      refine lv_icmp_lt (tgt := 42) hx hb dX9_address_33 (by decide) (fun hc => ?_) (fun hc => ?_)
      · replace h := it_pos hc h
        refine gx_aload_n (r := (some x0)) hx hb dX9_address_42 rfl (lv_at hl 0 rfl) ?_
        obtain ⟨v43, e43, h⟩ := ob h
        refine gx_getR C hG.1 rfl e43 fgX9_19 dX9_address_43 ?_
        obtain ⟨q46, u46, e46, h⟩ := obI h
        have hm2 : gLe u46 res.2 := by
          exact moX9_address_49  h
        refine gy_new C hG hS e46 kwX9_211 ⟨Nat.sub_le_sub_right hm2.1 _, Nat.sub_le_sub_right hm2.2 _⟩ dX9_address_46 (fun H hG hS => ?_)
        exact wX9_address_49 C hz  h hG hS (lv_sub hl [0, 1, 2] rfl)
      · replace h := it_neg hc h
        refine gx_aload_n (r := (some x0)) hx hb dX9_address_36 rfl (lv_at hl 0 rfl) ?_
        refine lv_iconst (v := 4) hx hb dX9_address_37 (by decide) ?_
        obtain ⟨_, eo38, h⟩ := ob h
        obtain ⟨r38, u38, e38, h⟩ := obI h
        obtain ⟨g38, eg38, ev38⟩ := cN_inv e38
        refine gx_cV C hG.1 hS [.int (4 : Int32)] rfl eo38 (tX9_finding eg38) qcX9_89 ⟨rfl, rfl, Nat.le_of_ble_eq_true rfl, Nat.le_of_ble_eq_true rfl⟩ ⟨Nat.sub_le_sub_right hm.1 _, Nat.sub_le_sub_right hm.2 _⟩ rfl hl.1 rfl (Nat.le_of_ble_eq_true rfl) (st1 := [.int r38]) rfl dX9_address_38 (fun H locs hg hS2 => gy_w (H0 := _) hG ev38 hg (fun hG => ?_))
        replace hS := hS2
        replace hm : gLe u38 res.2 := by rw [ev38]; exact hm
        cases Option.some.inj h
        exact gx_reti C hG.1 hS dX9_address_41
    · replace h := it_pos hc h
      refine gx_aload_n (r := (some x0)) hx hb dX9_address_18 rfl (lv_at hl 0 rfl) ?_
      refine lv_iconst (v := 1) hx hb dX9_address_19 (by decide) ?_
      obtain ⟨_, eo20, h⟩ := ob h
      obtain ⟨r20, u20, e20, h⟩ := obI h
      obtain ⟨g20, eg20, ev20⟩ := cN_inv e20
      refine gx_cV C hG.1 hS [.int (1 : Int32)] rfl eo20 (tX9_finding eg20) qcX9_89 ⟨rfl, rfl, Nat.le_of_ble_eq_true rfl, Nat.le_of_ble_eq_true rfl⟩ ⟨Nat.sub_le_sub_right hm.1 _, Nat.sub_le_sub_right hm.2 _⟩ rfl hl.1 rfl (Nat.le_of_ble_eq_true rfl) (st1 := [.int r20]) rfl dX9_address_20 (fun H locs hg hS2 => gy_w (H0 := _) hG ev20 hg (fun hG => ?_))
      replace hS := hS2
      replace hm : gLe u20 res.2 := by rw [ev20]; exact hm
      cases Option.some.inj h
      exact gx_reti C hG.1 hS dX9_address_23
theorem tX9_address {Γ : gEnv} {z : Nat → Nat} (hz : Γ.2.2.2 = z) {x0 : Nat} {x1 : Int32} {x2 : Int32} {u v : gN} {r : Int32} (h : fX9_address z x0 x1 x2 u = some (r, v)) : Met l yX9_address (Cond.code yX9_address cX9_address 3 (some .int) :: gW) (rmX9_address (v.2.1 - u.2.1) (v.2.2 - u.2.2)) (va_Pc [va_rf (some x0), .int x1, .int x2] (gPre Γ u.1 u.2.1)) (gQ Γ (some (.int r)) v.1 v.2.1) (v.2.1 - u.2.1) (v.2.2 - u.2.2) Γ.2.2.1 := by
  refine gx_met (nm := "address") ⟨by decide +kernel, rfl, rfl⟩ (Nat.le_of_ble_eq_true rfl) (fun p e s m below meth c ls C hG hl => ?_)
  have hN : s.heap.size = u.2.1 := hG.1
  have K := wX9_address (l := l) (e := e) (below := below) (sB := u.2.2) C hz h ⟨hG, Nat.le_refl _⟩ va_S.rf hl
  rw [hN, Nat.sub_self, Nat.sub_self] at K
  exact K
abbrev rmX9_addressOf : Room := { frames := 3, cells := 0, slots := 0, locals := 64 }
def fX9_addressOf (x0 : Nat) (x1 : Int32) (u : gM) : Option (Option Nat × gM) :=
  (gR [10] 2 u x0).bind fun v3 =>
  (v3).bind fun a6 =>
  (gO [0] u a6).bind fun _ =>
  bI (fJx4a65c_size_8abf5 a6 u) fun r6 u6 =>
  bI (fX9_within x1 (0 : Int32) (r6 - (1 : Int32)) u6) fun r11 u11 =>
  if r11 = 0 then (
    some (none, u11)
  ) else (
    (gR [10] 2 u11 x0).bind fun v18 =>
    (v18).bind fun a22 =>
    (gO [0] u11 a22).bind fun _ =>
    bI (fJx4a65c_get_915e3 a22 x1 u11) fun r22 u22 =>
    (kC [1] u22 r22).bind fun _ =>
    some (r22, u22)
  )
set_option maxHeartbeats 4000000 in
set_option maxRecDepth 20000 in
theorem wX9_addressOf  (C : gC p s m args meth c cX9_addressOf 2 (some (.object "LostParcels$Address")) RX9 "addressOf" Γ){x0 : Nat} {x1 : Int32} {u : gM} {res : Option Nat × gM} (h : fX9_addressOf x0 x1 u = some res) {H : Heap} {locs : List Loc} (hG : gAg Γ u N H) (hS : va_S Γ.2.2.1 s.heap H locs) {ls : Array Slot} (hl : lv_has ls 2 [(0, va_rf (some x0)), (1, .int x1)]) : W p l e rmX9_addressOf s m args below meth c H locs 0 0 (MQ below (gQ Γ (some (va_rf res.1)) res.2 N) args s 0 0 Γ.2.2.1) (F0 m 0 ls []) := by
  have hx := C.1
  have hb := C.2.1
  unfold fX9_addressOf at h
  refine lv_iload_n hx hb dX9_addressOf_0 rfl (lv_at hl 1 rfl) ?_
  refine lv_iconst (v := 0) hx hb dX9_addressOf_1 (by decide) ?_
  refine gx_aload_n (r := (some x0)) hx hb dX9_addressOf_2 rfl (lv_at hl 0 rfl) ?_
  obtain ⟨v3, e3, h⟩ := ob h
  refine gx_getR C hG rfl e3 fgX9_19 dX9_addressOf_3 ?_
  obtain ⟨a6, na6, h⟩ := ob h
  obtain ⟨_, eo6, h⟩ := ob h
  obtain ⟨r6, u6, e6, h⟩ := obI h
  refine gx_cV C hG hS [] na6 eo6 (tJx4a65c_size_8abf5 e6) qcX9_93 ⟨rfl, rfl, Nat.le_of_ble_eq_true rfl, Nat.le_of_ble_eq_true rfl⟩ ⟨Nat.zero_le _, Nat.zero_le _⟩ rfl hl.1 rfl (Nat.le_of_ble_eq_true rfl) (st1 := [.int r6, .int (0 : Int32), .int x1]) rfl dX9_addressOf_6 (fun H locs hG hS => ?_)
  refine lv_iconst (v := 1) hx hb dX9_addressOf_9 (by decide) ?_
  refine lv_isub hx hb dX9_addressOf_10 ?_
  obtain ⟨r11, u11, e11, h⟩ := obI h
  refine gx_cS C hG hS [.int x1, .int (0 : Int32), .int (r6 - (1 : Int32))] (tX9_within e11) qcX9_85 ⟨rfl, rfl, Nat.le_of_ble_eq_true rfl, Nat.le_of_ble_eq_true rfl⟩ ⟨Nat.zero_le _, Nat.zero_le _⟩ rfl hl.1 rfl (Nat.le_of_ble_eq_true rfl) (st1 := [.int r11]) rfl dX9_addressOf_11 (fun H locs hG hS => ?_)
  refine lv_if_eq (tgt := 31) hx hb dX9_addressOf_14 (by decide) (fun hc => ?_) (fun hc => ?_)
  · replace h := it_pos hc h
    refine gx_null hx hb dX9_addressOf_31 ?_
    cases Option.some.inj h
    exact gx_reta C (Or.inl ⟨_, rfl⟩) hG hS dX9_addressOf_32
  · replace h := it_neg hc h
    refine gx_aload_n (r := (some x0)) hx hb dX9_addressOf_17 rfl (lv_at hl 0 rfl) ?_
    obtain ⟨v18, e18, h⟩ := ob h
    refine gx_getR C hG rfl e18 fgX9_19 dX9_addressOf_18 ?_
    refine lv_iload_n hx hb dX9_addressOf_21 rfl (lv_at hl 1 rfl) ?_
    obtain ⟨a22, na22, h⟩ := ob h
    obtain ⟨_, eo22, h⟩ := ob h
    obtain ⟨r22, u22, e22, h⟩ := obI h
    refine gx_cV C hG hS [.int x1] na22 eo22 (tJx4a65c_get_915e3 e22) qcX9_144 ⟨rfl, rfl, Nat.le_of_ble_eq_true rfl, Nat.le_of_ble_eq_true rfl⟩ ⟨Nat.zero_le _, Nat.zero_le _⟩ rfl hl.1 rfl (Nat.le_of_ble_eq_true rfl) (st1 := [va_rf r22]) rfl dX9_addressOf_22 (fun H locs hG hS => ?_)
    obtain ⟨_, e25, h⟩ := ob h
    refine gx_cast C hG e25 ckX9_211 dX9_addressOf_25 ?_
    refine lv_goto (tgt := 32) hx hb dX9_addressOf_28 (by decide) ?_
    cases Option.some.inj h
    exact gx_reta C (Or.inl ⟨_, rfl⟩) hG hS dX9_addressOf_32
theorem tX9_addressOf {Γ : gEnv} {N : Nat} {x0 : Nat} {x1 : Int32} {u v : gM} {r : Option Nat} (h : fX9_addressOf x0 x1 u = some (r, v)) : Met l yX9_addressOf (Cond.code yX9_addressOf cX9_addressOf 2 (some (.object "LostParcels$Address")) :: gW) rmX9_addressOf (va_Pc [va_rf (some x0), .int x1] (gPre Γ u N)) (gQ Γ (some (va_rf r)) v N) 0 0 Γ.2.2.1 :=
  gx_met (nm := "addressOf") ⟨by decide +kernel, rfl, rfl⟩ (Nat.le_of_ble_eq_true rfl) (fun p e s m below meth c ls C hG hl => wX9_addressOf C h hG va_S.rf hl)
abbrev rmX9_post : Room := { frames := 4, cells := 0, slots := 0, locals := 85 }
def fX9_post (x0 : Nat) (x1 : Int32) (x2 : Int32) (u : gM) : Option (Int32 × gM) :=
  (gO [10] u x0).bind fun _ =>
  bI (fX9_addressOf x0 x1 u) fun r2 u2 =>
  if r2 = none then (
    (gO [10] u2 x0).bind fun _ =>
    bI (fX9_finding x0 (1 : Int32) u2) fun r23 u23 =>
    some (r23, u23)
  ) else (
    bI (fX9_within x2 (0 : Int32) (1000 : Int32) u2) fun r15 u15 =>
    if r15 = 0 then (
      (gO [10] u15 x0).bind fun _ =>
      bI (fX9_finding x0 (1 : Int32) u15) fun r23 u23 =>
      some (r23, u23)
    ) else (
      (r2).bind fun a28 =>
      (gI [1] 2 u15 a28).bind fun v28 =>
      (r2).bind fun a35 =>
      (pV [1] 2 (.int x2) u15 a35).bind fun u35 =>
      some (v28, u35)
    )
  )
set_option maxHeartbeats 4000000 in
set_option maxRecDepth 20000 in
theorem wX9_post  (C : gC p s m args meth c cX9_post 5 (some .int) RX9 "post" Γ){x0 : Nat} {x1 : Int32} {x2 : Int32} {u : gM} {res : Int32 × gM} (h : fX9_post x0 x1 x2 u = some res) {H : Heap} {locs : List Loc} (hG : gAg Γ u N H) (hS : va_S Γ.2.2.1 s.heap H locs) {ls : Array Slot} (hl : lv_has ls 5 [(0, va_rf (some x0)), (1, .int x1), (2, .int x2)]) : W p l e rmX9_post s m args below meth c H locs 0 0 (MQ below (gQ Γ (some (.int res.1)) res.2 N) args s 0 0 Γ.2.2.1) (F0 m 0 ls []) := by
  have hx := C.1
  have hb := C.2.1
  unfold fX9_post at h
  refine gx_aload_n (r := (some x0)) hx hb dX9_post_0 rfl (lv_at hl 0 rfl) ?_
  refine lv_iload_n hx hb dX9_post_1 rfl (lv_at hl 1 rfl) ?_
  obtain ⟨_, eo2, h⟩ := ob h
  obtain ⟨r2, u2, e2, h⟩ := obI h
  refine gx_cV C hG hS [.int x1] rfl eo2 (tX9_addressOf e2) qcX9_219 ⟨rfl, rfl, Nat.le_of_ble_eq_true rfl, Nat.le_of_ble_eq_true rfl⟩ ⟨Nat.zero_le _, Nat.zero_le _⟩ rfl hl.1 rfl (Nat.le_of_ble_eq_true rfl) (st1 := [va_rf r2]) rfl dX9_post_2 (fun H locs hG hS => ?_)
  refine gx_astore_n (r := r2) (i := 3) (lv' := [(3, va_rf r2), (0, va_rf (some x0)), (1, .int x1), (2, .int x2)]) hx hb dX9_post_5 rfl hl (by decide) rfl (fun ls hl => ?_)
  refine gx_aload_n (r := r2) hx hb dX9_post_6 rfl (lv_at hl 0 rfl) ?_
  refine gx_ifnull (tgt := 21) hx hb dX9_post_7 (by decide) (fun hc => ?_) (fun hc => ?_)
  · replace h := it_pos hc h
    refine gx_aload_n (r := (some x0)) hx hb dX9_post_21 rfl (lv_at hl 1 rfl) ?_
    refine lv_iconst (v := 1) hx hb dX9_post_22 (by decide) ?_
    obtain ⟨_, eo23, h⟩ := ob h
    obtain ⟨r23, u23, e23, h⟩ := obI h
    refine gx_cV C hG hS [.int (1 : Int32)] rfl eo23 (tX9_finding e23) qcX9_89 ⟨rfl, rfl, Nat.le_of_ble_eq_true rfl, Nat.le_of_ble_eq_true rfl⟩ ⟨Nat.zero_le _, Nat.zero_le _⟩ rfl hl.1 rfl (Nat.le_of_ble_eq_true rfl) (st1 := [.int r23]) rfl dX9_post_23 (fun H locs hG hS => ?_)
    cases Option.some.inj h
    exact gx_reti C hG hS dX9_post_26
  · replace h := it_neg hc h
    refine lv_iload_n hx hb dX9_post_10 rfl (lv_at hl 3 rfl) ?_
    refine lv_iconst (v := 0) hx hb dX9_post_11 (by decide) ?_
    refine lv_sipush (v := 1000) hx hb dX9_post_12 (by decide) ?_
    obtain ⟨r15, u15, e15, h⟩ := obI h
    refine gx_cS C hG hS [.int x2, .int (0 : Int32), .int (1000 : Int32)] (tX9_within e15) qcX9_85 ⟨rfl, rfl, Nat.le_of_ble_eq_true rfl, Nat.le_of_ble_eq_true rfl⟩ ⟨Nat.zero_le _, Nat.zero_le _⟩ rfl hl.1 rfl (Nat.le_of_ble_eq_true rfl) (st1 := [.int r15]) rfl dX9_post_15 (fun H locs hG hS => ?_)
    refine lv_if_ne (tgt := 27) hx hb dX9_post_18 (by decide) (fun hc => ?_) (fun hc => ?_)
    · replace h := it_neg hc h
      refine gx_aload_n (r := r2) hx hb dX9_post_27 rfl (lv_at hl 0 rfl) ?_
      obtain ⟨a28, na28, h⟩ := ob h
      obtain ⟨v28, e28, h⟩ := ob h
      refine gx_getI C hG na28 e28 fgX9_223 dX9_post_28 ?_
      refine lv_istore (i := 4) (lv' := [(4, .int v28), (3, va_rf r2), (0, va_rf (some x0)), (1, .int x1), (2, .int x2)]) hx hb dX9_post_31 hl (by decide) (by simp [gx_cat, gx_catI, gx_catJ]) (fun ls hl => ?_)
      refine gx_aload_n (r := r2) hx hb dX9_post_33 rfl (lv_at hl 1 rfl) ?_
      refine lv_iload_n hx hb dX9_post_34 rfl (lv_at hl 4 rfl) ?_
      obtain ⟨a35, na35, h⟩ := ob h
      obtain ⟨u35, e35, h⟩ := ob h
      refine gx_put C hG hS na35 e35 fgX9_223 fpX9_223 (fun q => by cases q) rfl rfl dX9_post_35 (fun H locs hG hS => ?_)
      refine lv_iload hx hb dX9_post_38 (lv_at hl 0 rfl) ?_
      cases Option.some.inj h
      exact gx_reti C hG hS dX9_post_40
    · replace h := it_pos hc h
      refine gx_aload_n (r := (some x0)) hx hb dX9_post_21 rfl (lv_at hl 1 rfl) ?_
      refine lv_iconst (v := 1) hx hb dX9_post_22 (by decide) ?_
      obtain ⟨_, eo23, h⟩ := ob h
      obtain ⟨r23, u23, e23, h⟩ := obI h
      refine gx_cV C hG hS [.int (1 : Int32)] rfl eo23 (tX9_finding e23) qcX9_89 ⟨rfl, rfl, Nat.le_of_ble_eq_true rfl, Nat.le_of_ble_eq_true rfl⟩ ⟨Nat.zero_le _, Nat.zero_le _⟩ rfl hl.1 rfl (Nat.le_of_ble_eq_true rfl) (st1 := [.int r23]) rfl dX9_post_23 (fun H locs hG hS => ?_)
      cases Option.some.inj h
      exact gx_reti C hG hS dX9_post_26
theorem tX9_post {Γ : gEnv} {N : Nat} {x0 : Nat} {x1 : Int32} {x2 : Int32} {u v : gM} {r : Int32} (h : fX9_post x0 x1 x2 u = some (r, v)) : Met l yX9_post (Cond.code yX9_post cX9_post 5 (some .int) :: gW) rmX9_post (va_Pc [va_rf (some x0), .int x1, .int x2] (gPre Γ u N)) (gQ Γ (some (.int r)) v N) 0 0 Γ.2.2.1 :=
  gx_met (nm := "post") ⟨by decide +kernel, rfl, rfl⟩ (Nat.le_of_ble_eq_true rfl) (fun p e s m below meth c ls C hG hl => wX9_post C h hG va_S.rf hl)
end
