section
variable {p : Program} {l : Launch} {e : Env} {s : State} {m : MethodId} {args : Array Value} {below : List Frame} {meth : Method} {c : Code} {Γ : gEnv} {N sB : Nat}
abbrev rmJx4a65c_isEmpty_aae02 : Room := { frames := 0, cells := 0, slots := 0, locals := 0 }
def fJx4a65c_isEmpty_aae02 (x0 : Nat) (u : gM) : Option (Int32 × gM) :=
  (gI [0] 2 u x0).bind fun v1 =>
  if v1 = 0 then (
    some ((1 : Int32), u)
  ) else (
    some ((0 : Int32), u)
  )
set_option maxHeartbeats 4000000 in
set_option maxRecDepth 20000 in
theorem wJx4a65c_isEmpty_aae02  (C : gC p s m args meth c cJx4a65c_isEmpty_aae02 1 (some .boolean) RJx4a65c "isEmpty" Γ){x0 : Nat} {u : gM} {res : Int32 × gM} (h : fJx4a65c_isEmpty_aae02 x0 u = some res) {H : Heap} {locs : List Loc} (hG : gAg Γ u N H) (hS : va_S Γ.2.2.1 s.heap H locs) {ls : Array Slot} (hl : lv_has ls 1 [(0, va_rf (some x0))]) : W p l e rmJx4a65c_isEmpty_aae02 s m args below meth c H locs 0 0 (MQ below (gQ Γ (some (.int res.1)) res.2 N) args s 0 0 Γ.2.2.1) (F0 m 0 ls []) := by
  have hx := C.1
  have hb := C.2.1
  unfold fJx4a65c_isEmpty_aae02 at h
  refine gx_aload_n (r := (some x0)) hx hb dJx4a65c_isEmpty_aae02_0 rfl (lv_at hl 0 rfl) ?_
  obtain ⟨v1, e1, h⟩ := ob h
  refine gx_getI C hG rfl e1 fgJx4a65c_48 dJx4a65c_isEmpty_aae02_1 ?_
  refine lv_if_ne (tgt := 11) hx hb dJx4a65c_isEmpty_aae02_4 (by decide) (fun hc => ?_) (fun hc => ?_)
  · replace h := it_neg hc h
    refine lv_iconst (v := 0) hx hb dJx4a65c_isEmpty_aae02_11 (by decide) ?_
    cases Option.some.inj h
    exact gx_retz C (Or.inl rfl) hG hS dJx4a65c_isEmpty_aae02_12
  · replace h := it_pos hc h
    refine lv_iconst (v := 1) hx hb dJx4a65c_isEmpty_aae02_7 (by decide) ?_
    refine lv_goto (tgt := 12) hx hb dJx4a65c_isEmpty_aae02_8 (by decide) ?_
    cases Option.some.inj h
    exact gx_retz C (Or.inr rfl) hG hS dJx4a65c_isEmpty_aae02_12
theorem tJx4a65c_isEmpty_aae02 {Γ : gEnv} {N : Nat} {x0 : Nat} {u v : gM} {r : Int32} (h : fJx4a65c_isEmpty_aae02 x0 u = some (r, v)) : Met l yJx4a65c_isEmpty_aae02 (Cond.code yJx4a65c_isEmpty_aae02 cJx4a65c_isEmpty_aae02 1 (some .boolean) :: gW) rmJx4a65c_isEmpty_aae02 (va_Pc [va_rf (some x0)] (gPre Γ u N)) (gQ Γ (some (.int r)) v N) 0 0 Γ.2.2.1 :=
  gx_met (nm := "isEmpty") ⟨by decide +kernel, rfl, rfl⟩ (Nat.le_of_ble_eq_true rfl) (fun p e s m below meth c ls C hG hl => wJx4a65c_isEmpty_aae02 C h hG va_S.rf hl)
abbrev rmX9_spread : Room := { frames := 1, cells := 0, slots := 0, locals := 21 }
def fX9_spread_41 (x0 : Int32) (x1 : Int32) (x2 : Int32) (x3 : Int32) (x4 : Int32) (u : gM) (k7 : Int32 → Int32 → Int32 → Int32 → Int32 → gM → Option (Int32 × gM)) : Option (Int32 × gM) :=
  k7 x0 x1 x2 x3 (x4 + (1 : Int32)) u
set_option maxHeartbeats 4000000 in
set_option maxRecDepth 20000 in
theorem wX9_spread_41  (C : gC p s m args meth c cX9_spread 5 (some .int) RX9 "spread" Γ){x0 : Int32} {x1 : Int32} {x2 : Int32} {x3 : Int32} {x4 : Int32} {u : gM} {res : Int32 × gM} {k7 : Int32 → Int32 → Int32 → Int32 → Int32 → gM → Option (Int32 × gM)} (hk7 : ∀ (x0 : Int32) (x1 : Int32) (x2 : Int32) (x3 : Int32) (x4 : Int32) (u : gM) (H : Heap) (locs : List Loc) (ls : Array Slot), k7 x0 x1 x2 x3 x4 u = some res → gAg Γ u N H → va_S Γ.2.2.1 s.heap H locs → lv_has ls 5 [(0, .int x0), (1, .int x1), (2, .int x2), (3, .int x3), (4, .int x4)] → W p l e rmX9_spread s m args below meth c H locs 0 0 (MQ below (gQ Γ (some (.int res.1)) res.2 N) args s 0 0 Γ.2.2.1) (F0 m 7 ls [])) (h : fX9_spread_41 x0 x1 x2 x3 x4 u k7 = some res) {H : Heap} {locs : List Loc} (hG : gAg Γ u N H) (hS : va_S Γ.2.2.1 s.heap H locs) {ls : Array Slot} (hl : lv_has ls 5 [(0, .int x0), (1, .int x1), (2, .int x2), (3, .int x3), (4, .int x4)]) : W p l e rmX9_spread s m args below meth c H locs 0 0 (MQ below (gQ Γ (some (.int res.1)) res.2 N) args s 0 0 Γ.2.2.1) (F0 m 41 ls []) := by
  have hx := C.1
  have hb := C.2.1
  unfold fX9_spread_41 at h
  refine lv_iinc (v := x4 + (1 : Int32)) (lv' := [(4, .int (x4 + (1 : Int32))), (0, .int x0), (1, .int x1), (2, .int x2), (3, .int x3)]) hx hb dX9_spread_41 hl (k := 4) rfl rfl (by decide) rfl (fun ls hl => ?_)
  refine lv_goto (tgt := 7) hx hb dX9_spread_44 (by decide) ?_
  exact hk7 _ _ _ _ _ _ _ _ _ h hG hS (lv_sub hl [1, 2, 3, 4, 0] rfl)
def fX9_spread_38 (x0 : Int32) (x1 : Int32) (x2 : Int32) (x3 : Int32) (x4 : Int32) (u : gM) (k7 : Int32 → Int32 → Int32 → Int32 → Int32 → gM → Option (Int32 × gM)) : Option (Int32 × gM) :=
  fX9_spread_41 x0 x1 x2 (x3 + (1 : Int32)) x4 u k7
set_option maxHeartbeats 4000000 in
set_option maxRecDepth 20000 in
theorem wX9_spread_38  (C : gC p s m args meth c cX9_spread 5 (some .int) RX9 "spread" Γ){x0 : Int32} {x1 : Int32} {x2 : Int32} {x3 : Int32} {x4 : Int32} {u : gM} {res : Int32 × gM} {k7 : Int32 → Int32 → Int32 → Int32 → Int32 → gM → Option (Int32 × gM)} (hk7 : ∀ (x0 : Int32) (x1 : Int32) (x2 : Int32) (x3 : Int32) (x4 : Int32) (u : gM) (H : Heap) (locs : List Loc) (ls : Array Slot), k7 x0 x1 x2 x3 x4 u = some res → gAg Γ u N H → va_S Γ.2.2.1 s.heap H locs → lv_has ls 5 [(0, .int x0), (1, .int x1), (2, .int x2), (3, .int x3), (4, .int x4)] → W p l e rmX9_spread s m args below meth c H locs 0 0 (MQ below (gQ Γ (some (.int res.1)) res.2 N) args s 0 0 Γ.2.2.1) (F0 m 7 ls [])) (h : fX9_spread_38 x0 x1 x2 x3 x4 u k7 = some res) {H : Heap} {locs : List Loc} (hG : gAg Γ u N H) (hS : va_S Γ.2.2.1 s.heap H locs) {ls : Array Slot} (hl : lv_has ls 5 [(0, .int x0), (1, .int x1), (2, .int x2), (3, .int x3), (4, .int x4)]) : W p l e rmX9_spread s m args below meth c H locs 0 0 (MQ below (gQ Γ (some (.int res.1)) res.2 N) args s 0 0 Γ.2.2.1) (F0 m 38 ls []) := by
  have hx := C.1
  have hb := C.2.1
  unfold fX9_spread_38 at h
  refine lv_iinc (v := x3 + (1 : Int32)) (lv' := [(3, .int (x3 + (1 : Int32))), (0, .int x0), (1, .int x1), (2, .int x2), (4, .int x4)]) hx hb dX9_spread_38 hl (k := 3) rfl rfl (by decide) rfl (fun ls hl => ?_)
  exact wX9_spread_41 C hk7 h hG hS (lv_sub hl [1, 2, 3, 0, 4] rfl)
def fX9_spread_7_b (x0 : Int32) (x1 : Int32) (x2 : Int32) (x3 : Int32) (x4 : Int32) (u : gM) (k7 : Int32 → Int32 → Int32 → Int32 → Int32 → gM → Option (Int32 × gM)) : Option (Int32 × gM) :=
  if (20 : Int32) ≤ x4 then (
    some (x2, u)
  ) else (
    bI (fX9_hasBit x1 x4 u) fun r17 u17 =>
    if r17 = 0 then (
      fX9_spread_41 x0 x1 x2 x3 x4 u17 k7
    ) else (
      bI (fX9_hasBit x0 x3 u17) fun r25 u25 =>
      if r25 = 0 then (
        fX9_spread_38 x0 x1 x2 x3 x4 u25 k7
      ) else (
        pU (x2 ||| ((1 : Int32) <<< (x4 &&& 31))) fun z37 =>
        fX9_spread_38 x0 x1 z37 x3 x4 u25 k7
      )
    )
  )
set_option maxHeartbeats 4000000 in
set_option maxRecDepth 20000 in
theorem wX9_spread_7_b  (C : gC p s m args meth c cX9_spread 5 (some .int) RX9 "spread" Γ){x0 : Int32} {x1 : Int32} {x2 : Int32} {x3 : Int32} {x4 : Int32} {u : gM} {res : Int32 × gM} {k7 : Int32 → Int32 → Int32 → Int32 → Int32 → gM → Option (Int32 × gM)} (hk7 : ∀ (x0 : Int32) (x1 : Int32) (x2 : Int32) (x3 : Int32) (x4 : Int32) (u : gM) (H : Heap) (locs : List Loc) (ls : Array Slot), k7 x0 x1 x2 x3 x4 u = some res → gAg Γ u N H → va_S Γ.2.2.1 s.heap H locs → lv_has ls 5 [(0, .int x0), (1, .int x1), (2, .int x2), (3, .int x3), (4, .int x4)] → W p l e rmX9_spread s m args below meth c H locs 0 0 (MQ below (gQ Γ (some (.int res.1)) res.2 N) args s 0 0 Γ.2.2.1) (F0 m 7 ls [])) (h : fX9_spread_7_b x0 x1 x2 x3 x4 u k7 = some res) {H : Heap} {locs : List Loc} (hG : gAg Γ u N H) (hS : va_S Γ.2.2.1 s.heap H locs) {ls : Array Slot} (hl : lv_has ls 5 [(0, .int x0), (1, .int x1), (2, .int x2), (3, .int x3), (4, .int x4)]) : W p l e rmX9_spread s m args below meth c H locs 0 0 (MQ below (gQ Γ (some (.int res.1)) res.2 N) args s 0 0 Γ.2.2.1) (F0 m 7 ls []) := by
  have hx := C.1
  have hb := C.2.1
  unfold fX9_spread_7_b at h
  refine lv_iload hx hb dX9_spread_7 (lv_at hl 4 rfl) ?_
  refine lv_bipush (v := 20) hx hb dX9_spread_9 (by decide) ?_
  refine lv_icmp_ge (tgt := 47) hx hb dX9_spread_11 (by decide) (fun hc => ?_) (fun hc => ?_)
  · replace h := it_pos hc h
    refine lv_iload_n hx hb dX9_spread_47 rfl (lv_at hl 2 rfl) ?_
    cases Option.some.inj h
    exact gx_reti C hG hS dX9_spread_48
  · replace h := it_neg hc h
    refine lv_iload_n hx hb dX9_spread_14 rfl (lv_at hl 1 rfl) ?_
    refine lv_iload hx hb dX9_spread_15 (lv_at hl 4 rfl) ?_
    obtain ⟨r17, u17, e17, h⟩ := obI h
    refine gx_cS C hG hS [.int x1, .int x4] (tX9_hasBit e17) qcX9_237 ⟨rfl, rfl, Nat.le_of_ble_eq_true rfl, Nat.le_of_ble_eq_true rfl⟩ ⟨Nat.zero_le _, Nat.zero_le _⟩ rfl hl.1 rfl (Nat.le_of_ble_eq_true rfl) (st1 := [.int r17]) rfl dX9_spread_17 (fun H locs hG hS => ?_)
    refine lv_if_eq (tgt := 41) hx hb dX9_spread_20 (by decide) (fun hc => ?_) (fun hc => ?_)
    · replace h := it_pos hc h
      exact wX9_spread_41 C hk7 h hG hS (lv_sub hl [0, 1, 2, 3, 4] rfl)
    · replace h := it_neg hc h
      refine lv_iload_n hx hb dX9_spread_23 rfl (lv_at hl 0 rfl) ?_
      refine lv_iload_n hx hb dX9_spread_24 rfl (lv_at hl 3 rfl) ?_
      obtain ⟨r25, u25, e25, h⟩ := obI h
      refine gx_cS C hG hS [.int x0, .int x3] (tX9_hasBit e25) qcX9_237 ⟨rfl, rfl, Nat.le_of_ble_eq_true rfl, Nat.le_of_ble_eq_true rfl⟩ ⟨Nat.zero_le _, Nat.zero_le _⟩ rfl hl.1 rfl (Nat.le_of_ble_eq_true rfl) (st1 := [.int r25]) rfl dX9_spread_25 (fun H locs hG hS => ?_)
      refine lv_if_eq (tgt := 38) hx hb dX9_spread_28 (by decide) (fun hc => ?_) (fun hc => ?_)
      · replace h := it_pos hc h
        exact wX9_spread_38 C hk7 h hG hS (lv_sub hl [0, 1, 2, 3, 4] rfl)
      · replace h := it_neg hc h
        refine lv_iload_n hx hb dX9_spread_31 rfl (lv_at hl 2 rfl) ?_
        refine lv_iconst (v := 1) hx hb dX9_spread_32 (by decide) ?_
        refine lv_iload hx hb dX9_spread_33 (lv_at hl 4 rfl) ?_
        refine lv_ishl hx hb dX9_spread_35 ?_
        refine lv_ior hx hb dX9_spread_36 ?_
        obtain ⟨z37, ez37, h⟩ := op h
        refine gx_topI ez37 ?_
        refine lv_istore_n (i := 2) (lv' := [(2, .int z37), (0, .int x0), (1, .int x1), (3, .int x3), (4, .int x4)]) hx hb dX9_spread_37 rfl hl (by decide) rfl (fun ls hl => ?_)
        exact wX9_spread_38 C hk7 h hG hS (lv_sub hl [1, 2, 0, 3, 4] rfl)
def fX9_spread_7 : Nat → Int32 → Int32 → Int32 → Int32 → Int32 → gM → Option (Int32 × gM)
  | 0 => fun _ _ _ _ _ _ => none
  | n + 1 => fun x0 x1 x2 x3 x4 u => fX9_spread_7_b x0 x1 x2 x3 x4 u (fX9_spread_7 n) 
theorem wX9_spread_7 (C : gC p s m args meth c cX9_spread 5 (some .int) RX9 "spread" Γ) {res : Int32 × gM} (n : Nat) : ∀ {x0 : Int32} {x1 : Int32} {x2 : Int32} {x3 : Int32} {x4 : Int32} {u : gM} {H : Heap} {locs : List Loc} {ls : Array Slot}, fX9_spread_7 n x0 x1 x2 x3 x4 u = some res → gAg Γ u N H → va_S Γ.2.2.1 s.heap H locs → lv_has ls 5 [(0, .int x0), (1, .int x1), (2, .int x2), (3, .int x3), (4, .int x4)] → W p l e rmX9_spread s m args below meth c H locs 0 0 (MQ below (gQ Γ (some (.int res.1)) res.2 N) args s 0 0 Γ.2.2.1) (F0 m 7 ls []) := by
  induction n with
  | zero => intro _ _ _ _ _ _ _ _ _ h _ _ _; cases (show (none : Option (Int32 × gM)) = some res from h)
  | succ n ih => intro _ _ _ _ _ _ _ _ _ h hG hS hl; exact wX9_spread_7_b C (fun _ _ _ _ _ _ _ _ _ h hG hS hl => ih h hG hS hl) h hG hS hl
def fX9_spread (x0 : Int32) (x1 : Int32) (u : gM) : Option (Int32 × gM) :=
  fX9_spread_7  FU x0 x1 (0 : Int32) (0 : Int32) (0 : Int32) u
set_option maxHeartbeats 4000000 in
set_option maxRecDepth 20000 in
theorem wX9_spread  (C : gC p s m args meth c cX9_spread 5 (some .int) RX9 "spread" Γ){x0 : Int32} {x1 : Int32} {u : gM} {res : Int32 × gM} (h : fX9_spread x0 x1 u = some res) {H : Heap} {locs : List Loc} (hG : gAg Γ u N H) (hS : va_S Γ.2.2.1 s.heap H locs) {ls : Array Slot} (hl : lv_has ls 5 [(0, .int x0), (1, .int x1)]) : W p l e rmX9_spread s m args below meth c H locs 0 0 (MQ below (gQ Γ (some (.int res.1)) res.2 N) args s 0 0 Γ.2.2.1) (F0 m 0 ls []) := by
  have hx := C.1
  have hb := C.2.1
  unfold fX9_spread at h
  refine lv_iconst (v := 0) hx hb dX9_spread_0 (by decide) ?_
  refine lv_istore_n (i := 2) (lv' := [(2, .int (0 : Int32)), (0, .int x0), (1, .int x1)]) hx hb dX9_spread_1 rfl hl (by decide) rfl (fun ls hl => ?_)
  refine lv_iconst (v := 0) hx hb dX9_spread_2 (by decide) ?_
  refine lv_istore_n (i := 3) (lv' := [(3, .int (0 : Int32)), (2, .int (0 : Int32)), (0, .int x0), (1, .int x1)]) hx hb dX9_spread_3 rfl hl (by decide) rfl (fun ls hl => ?_)
  refine lv_iconst (v := 0) hx hb dX9_spread_4 (by decide) ?_
  refine lv_istore (i := 4) (lv' := [(4, .int (0 : Int32)), (3, .int (0 : Int32)), (2, .int (0 : Int32)), (0, .int x0), (1, .int x1)]) hx hb dX9_spread_5 hl (by decide) rfl (fun ls hl => ?_)
  exact wX9_spread_7 C  FU h hG hS (lv_sub hl [3, 4, 2, 1, 0] rfl)
theorem tX9_spread {Γ : gEnv} {N : Nat} {x0 : Int32} {x1 : Int32} {u v : gM} {r : Int32} (h : fX9_spread x0 x1 u = some (r, v)) : Met l yX9_spread (Cond.code yX9_spread cX9_spread 5 (some .int) :: gW) rmX9_spread (va_Pc [.int x0, .int x1] (gPre Γ u N)) (gQ Γ (some (.int r)) v N) 0 0 Γ.2.2.1 :=
  gx_met (nm := "spread") ⟨by decide +kernel, rfl, rfl⟩ (Nat.le_of_ble_eq_true rfl) (fun p e s m below meth c ls C hG hl => wX9_spread C h hG va_S.rf hl)
abbrev rmX9_lots (a b : Nat) : Room := { frames := 8, cells := a, slots := b, locals := 193 }
def fX9_lots_44 (z : Nat → Nat) (x0 : Nat) (x1 : Int32) (x2 : Int32) (x3 : Int32) (x4 : Int32) (u : gN) : Option (Int32 × gN) :=
  (gR [10] 7 u.1 x0).bind fun v45 =>
  (v45).bind fun a48 =>
  (gO [0] u.1 a48).bind fun _ =>
  bI (cN (fJx4a65c_isEmpty_aae02 a48 u.1) u) fun r48 u48 =>
  if r48 = 0 then (
    (gR [10] 7 u48.1 x0).bind fun v55 =>
    (v55).bind fun a58 =>
    (gO [0] u48.1 a58).bind fun _ =>
    bI (cN (fJx4a65c_size_8abf5 a58 u48.1) u48) fun r58 u58 =>
    if (10 : Int32) < r58 then (
      (gO [10] u58.1 x0).bind fun _ =>
      bI (cN (fX9_finding x0 (3 : Int32) u58.1) u58) fun r75 u75 =>
      some (r75, u75)
    ) else (
      (gO [10] u58.1 x0).bind fun _ =>
      bI (cN (fX9_chosenMayBeSold x0 u58.1) u58) fun r67 u67 =>
      if r67 = 0 then (
        (gO [10] u67.1 x0).bind fun _ =>
        bI (cN (fX9_finding x0 (3 : Int32) u67.1) u67) fun r75 u75 =>
        some (r75, u75)
      ) else (
        (gR [10] 9 u67.1 x0).bind fun v80 =>
        (gR [10] 7 u67.1 x0).bind fun v84 =>
        (v80).bind fun a89 =>
        (gO [5] u67.1 a89).bind fun _ =>
        (wN (fX4_part a89 v84 x2 x3 u67.1) u67).bind fun u89 =>
        (gR [10] 9 u89.1 x0).bind fun v93 =>
        (v93).bind fun a96 =>
        (gO [5] u89.1 a96).bind fun _ =>
        bI (cN (fX4_fewestLots a96 u89.1) u89) fun r96 u96 =>
        if r96 = 0 then (
          (gO [10] u96.1 x0).bind fun _ =>
          bI (cN (fX9_finding x0 (2 : Int32) u96.1) u96) fun r115 u115 =>
          some (r115, u115)
        ) else (
          if x4 ≤ r96 then (
            if x4 = 0 then (
              some (r96, u96)
            ) else (
              (gR [10] 9 u96.1 x0).bind fun v130 =>
              (v130).bind fun a137 =>
              (gO [5] u96.1 a137).bind fun _ =>
              bI (cN (fX4_lotAt a137 (x4 - (1 : Int32)) u96.1) u96) fun r137 u137 =>
              bI (cN (fX9_spread r137 x1 u137.1) u137) fun r141 u141 =>
              some (r141, u141)
            )
          ) else (
            (gO [10] u96.1 x0).bind fun _ =>
            bI (cN (fX9_finding x0 (2 : Int32) u96.1) u96) fun r115 u115 =>
            some (r115, u115)
          )
        )
      )
    )
  ) else (
    (gO [10] u48.1 x0).bind fun _ =>
    bI (cN (fX9_finding x0 (3 : Int32) u48.1) u48) fun r75 u75 =>
    some (r75, u75)
  )
set_option maxRecDepth 20000 in
theorem moX9_lots_44 {z : Nat → Nat} {x0 : Nat} {x1 : Int32} {x2 : Int32} {x3 : Int32} {x4 : Int32} {u : gN} {res : Int32 × gN} (h : fX9_lots_44 z x0 x1 x2 x3 x4 u = some res) : gLe u res.2 := by
  unfold fX9_lots_44 at h
  obtain ⟨v45, e45, h⟩ := ob h
  obtain ⟨a48, na48, h⟩ := ob h
  obtain ⟨_, eo48, h⟩ := ob h
  obtain ⟨r48, u48, e48, h⟩ := obI h
  refine gLe.tr (cN_le e48) ?_
  by_cases hc : r48 = 0
  · replace h := it_pos hc h
    obtain ⟨v55, e55, h⟩ := ob h
    obtain ⟨a58, na58, h⟩ := ob h
    obtain ⟨_, eo58, h⟩ := ob h
    obtain ⟨r58, u58, e58, h⟩ := obI h
    refine gLe.tr (cN_le e58) ?_
    by_cases hc : (10 : Int32) < r58
    · replace h := it_pos hc h
      obtain ⟨_, eo75, h⟩ := ob h
      obtain ⟨r75, u75, e75, h⟩ := obI h
      refine gLe.tr (cN_le e75) ?_
      cases Option.some.inj h
      exact gLe.rf _
    · replace h := it_neg hc h
      obtain ⟨_, eo67, h⟩ := ob h
      obtain ⟨r67, u67, e67, h⟩ := obI h
      refine gLe.tr (cN_le e67) ?_
      by_cases hc : r67 = 0
      · replace h := it_pos hc h
        obtain ⟨_, eo75, h⟩ := ob h
        obtain ⟨r75, u75, e75, h⟩ := obI h
        refine gLe.tr (cN_le e75) ?_
        cases Option.some.inj h
        exact gLe.rf _
      · replace h := it_neg hc h
        obtain ⟨v80, e80, h⟩ := ob h
        obtain ⟨v84, e84, h⟩ := ob h
        obtain ⟨a89, na89, h⟩ := ob h
        obtain ⟨_, eo89, h⟩ := ob h
        obtain ⟨u89, e89, h⟩ := ob h
        refine gLe.tr (wN_le e89) ?_
        obtain ⟨v93, e93, h⟩ := ob h
        obtain ⟨a96, na96, h⟩ := ob h
        obtain ⟨_, eo96, h⟩ := ob h
        obtain ⟨r96, u96, e96, h⟩ := obI h
        refine gLe.tr (cN_le e96) ?_
        by_cases hc : r96 = 0
        · replace h := it_pos hc h
          obtain ⟨_, eo115, h⟩ := ob h
          obtain ⟨r115, u115, e115, h⟩ := obI h
          refine gLe.tr (cN_le e115) ?_
          cases Option.some.inj h
          exact gLe.rf _
        · replace h := it_neg hc h
          by_cases hc : x4 ≤ r96
          · replace h := it_pos hc h
            by_cases hc : x4 = 0
            · replace h := it_pos hc h
              cases Option.some.inj h
              exact gLe.rf _
            · replace h := it_neg hc h
              obtain ⟨v130, e130, h⟩ := ob h
              obtain ⟨a137, na137, h⟩ := ob h
              obtain ⟨_, eo137, h⟩ := ob h
              obtain ⟨r137, u137, e137, h⟩ := obI h
              refine gLe.tr (cN_le e137) ?_
              obtain ⟨r141, u141, e141, h⟩ := obI h
              refine gLe.tr (cN_le e141) ?_
              cases Option.some.inj h
              exact gLe.rf _
          · replace h := it_neg hc h
            obtain ⟨_, eo115, h⟩ := ob h
            obtain ⟨r115, u115, e115, h⟩ := obI h
            refine gLe.tr (cN_le e115) ?_
            cases Option.some.inj h
            exact gLe.rf _
  · replace h := it_neg hc h
    obtain ⟨_, eo75, h⟩ := ob h
    obtain ⟨r75, u75, e75, h⟩ := obI h
    refine gLe.tr (cN_le e75) ?_
    cases Option.some.inj h
    exact gLe.rf _
set_option maxHeartbeats 4000000 in
set_option maxRecDepth 20000 in
theorem wX9_lots_44 {z : Nat → Nat}  (C : gC p s m args meth c cX9_lots 6 (some .int) RX9 "lots" Γ)(hz : Γ.2.2.2 = z) {x0 : Nat} {x1 : Int32} {x2 : Int32} {x3 : Int32} {x4 : Int32} {u : gN} {res : Int32 × gN} (h : fX9_lots_44 z x0 x1 x2 x3 x4 u = some res) {H : Heap} {locs : List Loc} (hG : gAn Γ sB u H) (hS : va_S Γ.2.2.1 s.heap H locs) {ls : Array Slot} (hl : lv_has ls 6 [(0, va_rf (some x0)), (1, .int x1), (2, .int x2), (3, .int x3), (4, .int x4)]) : W p l e (rmX9_lots (res.2.2.1 - s.heap.size) (res.2.2.2 - sB)) s m args below meth c H locs (u.2.1 - s.heap.size) (u.2.2 - sB) (MQ below (gQ Γ (some (.int res.1)) res.2.1 res.2.2.1) args s (res.2.2.1 - s.heap.size) (res.2.2.2 - sB) Γ.2.2.1) (F0 m 44 ls []) := by
  have hx := C.1
  have hb := C.2.1
  have hm := moX9_lots_44 h
  unfold fX9_lots_44 at h
  refine gx_aload_n (r := (some x0)) hx hb dX9_lots_44 rfl (lv_at hl 0 rfl) ?_
  obtain ⟨v45, e45, h⟩ := ob h
  refine gx_getR C hG.1 rfl e45 fgX9_35 dX9_lots_45 ?_
  obtain ⟨a48, na48, h⟩ := ob h
  obtain ⟨_, eo48, h⟩ := ob h
  obtain ⟨r48, u48, e48, h⟩ := obI h
  obtain ⟨g48, eg48, ev48⟩ := cN_inv e48
  refine gx_cV C hG.1 hS [] na48 eo48 (tJx4a65c_isEmpty_aae02 eg48) qcX9_266 ⟨rfl, rfl, Nat.le_of_ble_eq_true rfl, Nat.le_of_ble_eq_true rfl⟩ ⟨Nat.sub_le_sub_right hm.1 _, Nat.sub_le_sub_right hm.2 _⟩ rfl hl.1 rfl (Nat.le_of_ble_eq_true rfl) (st1 := [.int r48]) rfl dX9_lots_48 (fun H locs hg hS2 => gy_w (H0 := _) hG ev48 hg (fun hG => ?_))
  replace hS := hS2
  replace hm : gLe u48 res.2 := by rw [ev48]; exact hm
  refine lv_if_ne (tgt := 73) hx hb dX9_lots_51 (by decide) (fun hc => ?_) (fun hc => ?_)
  · replace h := it_neg hc h
    refine gx_aload_n (r := (some x0)) hx hb dX9_lots_73 rfl (lv_at hl 0 rfl) ?_
    refine lv_iconst (v := 3) hx hb dX9_lots_74 (by decide) ?_
    obtain ⟨_, eo75, h⟩ := ob h
    obtain ⟨r75, u75, e75, h⟩ := obI h
    obtain ⟨g75, eg75, ev75⟩ := cN_inv e75
    refine gx_cV C hG.1 hS [.int (3 : Int32)] rfl eo75 (tX9_finding eg75) qcX9_89 ⟨rfl, rfl, Nat.le_of_ble_eq_true rfl, Nat.le_of_ble_eq_true rfl⟩ ⟨Nat.sub_le_sub_right hm.1 _, Nat.sub_le_sub_right hm.2 _⟩ rfl hl.1 rfl (Nat.le_of_ble_eq_true rfl) (st1 := [.int r75]) rfl dX9_lots_75 (fun H locs hg hS2 => gy_w (H0 := _) hG ev75 hg (fun hG => ?_))
    replace hS := hS2
    replace hm : gLe u75 res.2 := by rw [ev75]; exact hm
    cases Option.some.inj h
    exact gx_reti C hG.1 hS dX9_lots_78
  · replace h := it_pos hc h
    refine gx_aload_n (r := (some x0)) hx hb dX9_lots_54 rfl (lv_at hl 0 rfl) ?_
    obtain ⟨v55, e55, h⟩ := ob h
    refine gx_getR C hG.1 rfl e55 fgX9_35 dX9_lots_55 ?_
    obtain ⟨a58, na58, h⟩ := ob h
    obtain ⟨_, eo58, h⟩ := ob h
    obtain ⟨r58, u58, e58, h⟩ := obI h
    obtain ⟨g58, eg58, ev58⟩ := cN_inv e58
    refine gx_cV C hG.1 hS [] na58 eo58 (tJx4a65c_size_8abf5 eg58) qcX9_93 ⟨rfl, rfl, Nat.le_of_ble_eq_true rfl, Nat.le_of_ble_eq_true rfl⟩ ⟨Nat.sub_le_sub_right hm.1 _, Nat.sub_le_sub_right hm.2 _⟩ rfl hl.1 rfl (Nat.le_of_ble_eq_true rfl) (st1 := [.int r58]) rfl dX9_lots_58 (fun H locs hg hS2 => gy_w (H0 := _) hG ev58 hg (fun hG => ?_))
    replace hS := hS2
    replace hm : gLe u58 res.2 := by rw [ev58]; exact hm
    refine lv_bipush (v := 10) hx hb dX9_lots_61 (by decide) ?_
    refine lv_icmp_gt (tgt := 73) hx hb dX9_lots_63 (by decide) (fun hc => ?_) (fun hc => ?_)
    · replace h := it_pos hc h
      refine gx_aload_n (r := (some x0)) hx hb dX9_lots_73 rfl (lv_at hl 0 rfl) ?_
      refine lv_iconst (v := 3) hx hb dX9_lots_74 (by decide) ?_
      obtain ⟨_, eo75, h⟩ := ob h
      obtain ⟨r75, u75, e75, h⟩ := obI h
      obtain ⟨g75, eg75, ev75⟩ := cN_inv e75
      refine gx_cV C hG.1 hS [.int (3 : Int32)] rfl eo75 (tX9_finding eg75) qcX9_89 ⟨rfl, rfl, Nat.le_of_ble_eq_true rfl, Nat.le_of_ble_eq_true rfl⟩ ⟨Nat.sub_le_sub_right hm.1 _, Nat.sub_le_sub_right hm.2 _⟩ rfl hl.1 rfl (Nat.le_of_ble_eq_true rfl) (st1 := [.int r75]) rfl dX9_lots_75 (fun H locs hg hS2 => gy_w (H0 := _) hG ev75 hg (fun hG => ?_))
      replace hS := hS2
      replace hm : gLe u75 res.2 := by rw [ev75]; exact hm
      cases Option.some.inj h
      exact gx_reti C hG.1 hS dX9_lots_78
    · replace h := it_neg hc h
      refine gx_aload_n (r := (some x0)) hx hb dX9_lots_66 rfl (lv_at hl 0 rfl) ?_
      obtain ⟨_, eo67, h⟩ := ob h
      obtain ⟨r67, u67, e67, h⟩ := obI h
      obtain ⟨g67, eg67, ev67⟩ := cN_inv e67
      refine gx_cV C hG.1 hS [] rfl eo67 (tX9_chosenMayBeSold eg67) qcX9_253 ⟨rfl, rfl, Nat.le_of_ble_eq_true rfl, Nat.le_of_ble_eq_true rfl⟩ ⟨Nat.sub_le_sub_right hm.1 _, Nat.sub_le_sub_right hm.2 _⟩ rfl hl.1 rfl (Nat.le_of_ble_eq_true rfl) (st1 := [.int r67]) rfl dX9_lots_67 (fun H locs hg hS2 => gy_w (H0 := _) hG ev67 hg (fun hG => ?_))
      replace hS := hS2
      replace hm : gLe u67 res.2 := by rw [ev67]; exact hm
      refine lv_if_ne (tgt := 79) hx hb dX9_lots_70 (by decide) (fun hc => ?_) (fun hc => ?_)
      · replace h := it_neg hc h
        refine gx_aload_n (r := (some x0)) hx hb dX9_lots_79 rfl (lv_at hl 0 rfl) ?_
        obtain ⟨v80, e80, h⟩ := ob h
        refine gx_getR C hG.1 rfl e80 fgX9_48 dX9_lots_80 ?_
        refine gx_aload_n (r := (some x0)) hx hb dX9_lots_83 rfl (lv_at hl 0 rfl) ?_
        obtain ⟨v84, e84, h⟩ := ob h
        refine gx_getR C hG.1 rfl e84 fgX9_35 dX9_lots_84 ?_
        refine lv_iload_n hx hb dX9_lots_87 rfl (lv_at hl 2 rfl) ?_
        refine lv_iload_n hx hb dX9_lots_88 rfl (lv_at hl 3 rfl) ?_
        obtain ⟨a89, na89, h⟩ := ob h
        obtain ⟨_, eo89, h⟩ := ob h
        obtain ⟨u89, e89, h⟩ := ob h
        obtain ⟨g89, eg89, ev89⟩ := wN_inv e89
        refine gx_cV C hG.1 hS [va_rf v84, .int x2, .int x3] na89 eo89 (tX4_part eg89) qcX9_269 ⟨rfl, rfl, Nat.le_of_ble_eq_true rfl, Nat.le_of_ble_eq_true rfl⟩ ⟨Nat.sub_le_sub_right hm.1 _, Nat.sub_le_sub_right hm.2 _⟩ rfl hl.1 rfl (Nat.le_of_ble_eq_true rfl) (st1 := []) rfl dX9_lots_89 (fun H locs hg hS2 => gy_w (H0 := _) hG ev89 hg (fun hG => ?_))
        replace hS := hS2
        replace hm : gLe u89 res.2 := by rw [ev89]; exact hm
        refine gx_aload_n (r := (some x0)) hx hb dX9_lots_92 rfl (lv_at hl 0 rfl) ?_
        obtain ⟨v93, e93, h⟩ := ob h
        refine gx_getR C hG.1 rfl e93 fgX9_48 dX9_lots_93 ?_
        obtain ⟨a96, na96, h⟩ := ob h
        obtain ⟨_, eo96, h⟩ := ob h
        obtain ⟨r96, u96, e96, h⟩ := obI h
        obtain ⟨g96, eg96, ev96⟩ := cN_inv e96
        refine gx_cV C hG.1 hS [] na96 eo96 (tX4_fewestLots eg96) qcX9_273 ⟨rfl, rfl, Nat.le_of_ble_eq_true rfl, Nat.le_of_ble_eq_true rfl⟩ ⟨Nat.sub_le_sub_right hm.1 _, Nat.sub_le_sub_right hm.2 _⟩ rfl hl.1 rfl (Nat.le_of_ble_eq_true rfl) (st1 := [.int r96]) rfl dX9_lots_96 (fun H locs hg hS2 => gy_w (H0 := _) hG ev96 hg (fun hG => ?_))
        replace hS := hS2
        replace hm : gLe u96 res.2 := by rw [ev96]; exact hm
        refine lv_istore (i := 5) (lv' := [(5, .int r96), (0, va_rf (some x0)), (1, .int x1), (2, .int x2), (3, .int x3), (4, .int x4)]) hx hb dX9_lots_99 hl (by decide) rfl (fun ls hl => ?_)
        refine lv_iload hx hb dX9_lots_101 (lv_at hl 0 rfl) ?_
        refine lv_if_eq (tgt := 113) hx hb dX9_lots_103 (by decide) (fun hc => ?_) (fun hc => ?_)
        · replace h := it_pos hc h
          refine gx_aload_n (r := (some x0)) hx hb dX9_lots_113 rfl (lv_at hl 1 rfl) ?_
          refine lv_iconst (v := 2) hx hb dX9_lots_114 (by decide) ?_
          obtain ⟨_, eo115, h⟩ := ob h
          obtain ⟨r115, u115, e115, h⟩ := obI h
          obtain ⟨g115, eg115, ev115⟩ := cN_inv e115
          refine gx_cV C hG.1 hS [.int (2 : Int32)] rfl eo115 (tX9_finding eg115) qcX9_89 ⟨rfl, rfl, Nat.le_of_ble_eq_true rfl, Nat.le_of_ble_eq_true rfl⟩ ⟨Nat.sub_le_sub_right hm.1 _, Nat.sub_le_sub_right hm.2 _⟩ rfl hl.1 rfl (Nat.le_of_ble_eq_true rfl) (st1 := [.int r115]) rfl dX9_lots_115 (fun H locs hg hS2 => gy_w (H0 := _) hG ev115 hg (fun hG => ?_))
          replace hS := hS2
          replace hm : gLe u115 res.2 := by rw [ev115]; exact hm
          cases Option.some.inj h
          exact gx_reti C hG.1 hS dX9_lots_118
        · replace h := it_neg hc h
          refine lv_iload hx hb dX9_lots_106 (lv_at hl 5 rfl) ?_
          refine lv_iload hx hb dX9_lots_108 (lv_at hl 0 rfl) ?_
          refine lv_icmp_le (tgt := 119) hx hb dX9_lots_110 (by decide) (fun hc => ?_) (fun hc => ?_)
          · replace h := it_pos hc h
            refine lv_iload hx hb dX9_lots_119 (lv_at hl 5 rfl) ?_
            refine lv_if_ne (tgt := 129) hx hb dX9_lots_121 (by decide) (fun hc => ?_) (fun hc => ?_)
            · replace h := it_neg hc h
              refine gx_aload_n (r := (some x0)) hx hb dX9_lots_129 rfl (lv_at hl 1 rfl) ?_
              obtain ⟨v130, e130, h⟩ := ob h
              refine gx_getR C hG.1 rfl e130 fgX9_48 dX9_lots_130 ?_
              refine lv_iload hx hb dX9_lots_133 (lv_at hl 5 rfl) ?_
              refine lv_iconst (v := 1) hx hb dX9_lots_135 (by decide) ?_
              refine lv_isub hx hb dX9_lots_136 ?_
              obtain ⟨a137, na137, h⟩ := ob h
              obtain ⟨_, eo137, h⟩ := ob h
              obtain ⟨r137, u137, e137, h⟩ := obI h
              obtain ⟨g137, eg137, ev137⟩ := cN_inv e137
              refine gx_cV C hG.1 hS [.int (x4 - (1 : Int32))] na137 eo137 (tX4_lotAt eg137) qcX9_276 ⟨rfl, rfl, Nat.le_of_ble_eq_true rfl, Nat.le_of_ble_eq_true rfl⟩ ⟨Nat.sub_le_sub_right hm.1 _, Nat.sub_le_sub_right hm.2 _⟩ rfl hl.1 rfl (Nat.le_of_ble_eq_true rfl) (st1 := [.int r137]) rfl dX9_lots_137 (fun H locs hg hS2 => gy_w (H0 := _) hG ev137 hg (fun hG => ?_))
              replace hS := hS2
              replace hm : gLe u137 res.2 := by rw [ev137]; exact hm
              refine lv_iload_n hx hb dX9_lots_140 rfl (lv_at hl 2 rfl) ?_
              obtain ⟨r141, u141, e141, h⟩ := obI h
              obtain ⟨g141, eg141, ev141⟩ := cN_inv e141
              refine gx_cS C hG.1 hS [.int r137, .int x1] (tX9_spread eg141) qcX9_279 ⟨rfl, rfl, Nat.le_of_ble_eq_true rfl, Nat.le_of_ble_eq_true rfl⟩ ⟨Nat.sub_le_sub_right hm.1 _, Nat.sub_le_sub_right hm.2 _⟩ rfl hl.1 rfl (Nat.le_of_ble_eq_true rfl) (st1 := [.int r141]) rfl dX9_lots_141 (fun H locs hg hS2 => gy_w (H0 := _) hG ev141 hg (fun hG => ?_))
              replace hS := hS2
              replace hm : gLe u141 res.2 := by rw [ev141]; exact hm
              cases Option.some.inj h
              exact gx_reti C hG.1 hS dX9_lots_144
            · replace h := it_pos hc h
              refine lv_iload hx hb dX9_lots_124 (lv_at hl 0 rfl) ?_
              refine lv_goto (tgt := 144) hx hb dX9_lots_126 (by decide) ?_
              cases Option.some.inj h
              exact gx_reti C hG.1 hS dX9_lots_144
          · replace h := it_neg hc h
            refine gx_aload_n (r := (some x0)) hx hb dX9_lots_113 rfl (lv_at hl 1 rfl) ?_
            refine lv_iconst (v := 2) hx hb dX9_lots_114 (by decide) ?_
            obtain ⟨_, eo115, h⟩ := ob h
            obtain ⟨r115, u115, e115, h⟩ := obI h
            obtain ⟨g115, eg115, ev115⟩ := cN_inv e115
            refine gx_cV C hG.1 hS [.int (2 : Int32)] rfl eo115 (tX9_finding eg115) qcX9_89 ⟨rfl, rfl, Nat.le_of_ble_eq_true rfl, Nat.le_of_ble_eq_true rfl⟩ ⟨Nat.sub_le_sub_right hm.1 _, Nat.sub_le_sub_right hm.2 _⟩ rfl hl.1 rfl (Nat.le_of_ble_eq_true rfl) (st1 := [.int r115]) rfl dX9_lots_115 (fun H locs hg hS2 => gy_w (H0 := _) hG ev115 hg (fun hG => ?_))
            replace hS := hS2
            replace hm : gLe u115 res.2 := by rw [ev115]; exact hm
            cases Option.some.inj h
            exact gx_reti C hG.1 hS dX9_lots_118
      · replace h := it_pos hc h
        refine gx_aload_n (r := (some x0)) hx hb dX9_lots_73 rfl (lv_at hl 0 rfl) ?_
        refine lv_iconst (v := 3) hx hb dX9_lots_74 (by decide) ?_
        obtain ⟨_, eo75, h⟩ := ob h
        obtain ⟨r75, u75, e75, h⟩ := obI h
        obtain ⟨g75, eg75, ev75⟩ := cN_inv e75
        refine gx_cV C hG.1 hS [.int (3 : Int32)] rfl eo75 (tX9_finding eg75) qcX9_89 ⟨rfl, rfl, Nat.le_of_ble_eq_true rfl, Nat.le_of_ble_eq_true rfl⟩ ⟨Nat.sub_le_sub_right hm.1 _, Nat.sub_le_sub_right hm.2 _⟩ rfl hl.1 rfl (Nat.le_of_ble_eq_true rfl) (st1 := [.int r75]) rfl dX9_lots_75 (fun H locs hg hS2 => gy_w (H0 := _) hG ev75 hg (fun hG => ?_))
        replace hS := hS2
        replace hm : gLe u75 res.2 := by rw [ev75]; exact hm
        cases Option.some.inj h
        exact gx_reti C hG.1 hS dX9_lots_78
def fX9_lots (z : Nat → Nat) (x0 : Nat) (x1 : Int32) (x2 : Int32) (x3 : Int32) (x4 : Int32) (u : gN) : Option (Int32 × gN) :=
  (gO [10] u.1 x0).bind fun _ =>
  bI (cN (fX9_hasBitOfNoThing x0 x1 u.1) u) fun r2 u2 =>
  if r2 = 0 then (
    bI (cN (fX9_within x2 (0 : Int32) (100000 : Int32) u2.1) u2) fun r12 u12 =>
    if r12 = 0 then (
      (gO [10] u12.1 x0).bind fun _ =>
      bI (cN (fX9_finding x0 (1 : Int32) u12.1) u12) fun r35 u35 =>
      some (r35, u35)
    ) else (
      bI (cN (fX9_within x3 x2 (100000 : Int32) u12.1) u12) fun r22 u22 =>
      if r22 = 0 then (
        (gO [10] u22.1 x0).bind fun _ =>
        bI (cN (fX9_finding x0 (1 : Int32) u22.1) u22) fun r35 u35 =>
        some (r35, u35)
      ) else (
        if 0 ≤ x4 then (
          (gO [10] u22.1 x0).bind fun _ =>
          (fX9_choose z x0 x1 u22).bind fun u41 =>
          fX9_lots_44 z x0 x1 x2 x3 x4 u41 
        ) else (
          (gO [10] u22.1 x0).bind fun _ =>
          bI (cN (fX9_finding x0 (1 : Int32) u22.1) u22) fun r35 u35 =>
          some (r35, u35)
        )
      )
    )
  ) else (
    (gO [10] u2.1 x0).bind fun _ =>
    bI (cN (fX9_finding x0 (1 : Int32) u2.1) u2) fun r35 u35 =>
    some (r35, u35)
  )
set_option maxRecDepth 20000 in
theorem moX9_lots {z : Nat → Nat} {x0 : Nat} {x1 : Int32} {x2 : Int32} {x3 : Int32} {x4 : Int32} {u : gN} {res : Int32 × gN} (h : fX9_lots z x0 x1 x2 x3 x4 u = some res) : gLe u res.2 := by
  unfold fX9_lots at h
  obtain ⟨_, eo2, h⟩ := ob h
  obtain ⟨r2, u2, e2, h⟩ := obI h
  refine gLe.tr (cN_le e2) ?_
  by_cases hc : r2 = 0
  · replace h := it_pos hc h
    obtain ⟨r12, u12, e12, h⟩ := obI h
    refine gLe.tr (cN_le e12) ?_
    by_cases hc : r12 = 0
    · replace h := it_pos hc h
      obtain ⟨_, eo35, h⟩ := ob h
      obtain ⟨r35, u35, e35, h⟩ := obI h
      refine gLe.tr (cN_le e35) ?_
      cases Option.some.inj h
      exact gLe.rf _
    · replace h := it_neg hc h
      obtain ⟨r22, u22, e22, h⟩ := obI h
      refine gLe.tr (cN_le e22) ?_
      by_cases hc : r22 = 0
      · replace h := it_pos hc h
        obtain ⟨_, eo35, h⟩ := ob h
        obtain ⟨r35, u35, e35, h⟩ := obI h
        refine gLe.tr (cN_le e35) ?_
        cases Option.some.inj h
        exact gLe.rf _
      · replace h := it_neg hc h
        by_cases hc : 0 ≤ x4
        · replace h := it_pos hc h
          obtain ⟨_, eo41, h⟩ := ob h
          obtain ⟨u41, e41, h⟩ := ob h
          refine gLe.tr (moX9_choose e41) ?_
          exact moX9_lots_44  h
        · replace h := it_neg hc h
          obtain ⟨_, eo35, h⟩ := ob h
          obtain ⟨r35, u35, e35, h⟩ := obI h
          refine gLe.tr (cN_le e35) ?_
          cases Option.some.inj h
          exact gLe.rf _
  · replace h := it_neg hc h
    obtain ⟨_, eo35, h⟩ := ob h
    obtain ⟨r35, u35, e35, h⟩ := obI h
    refine gLe.tr (cN_le e35) ?_
    cases Option.some.inj h
    exact gLe.rf _
set_option maxHeartbeats 4000000 in
set_option maxRecDepth 20000 in
theorem wX9_lots {z : Nat → Nat}  (C : gC p s m args meth c cX9_lots 6 (some .int) RX9 "lots" Γ)(hz : Γ.2.2.2 = z) {x0 : Nat} {x1 : Int32} {x2 : Int32} {x3 : Int32} {x4 : Int32} {u : gN} {res : Int32 × gN} (h : fX9_lots z x0 x1 x2 x3 x4 u = some res) {H : Heap} {locs : List Loc} (hG : gAn Γ sB u H) (hS : va_S Γ.2.2.1 s.heap H locs) {ls : Array Slot} (hl : lv_has ls 6 [(0, va_rf (some x0)), (1, .int x1), (2, .int x2), (3, .int x3), (4, .int x4)]) : W p l e (rmX9_lots (res.2.2.1 - s.heap.size) (res.2.2.2 - sB)) s m args below meth c H locs (u.2.1 - s.heap.size) (u.2.2 - sB) (MQ below (gQ Γ (some (.int res.1)) res.2.1 res.2.2.1) args s (res.2.2.1 - s.heap.size) (res.2.2.2 - sB) Γ.2.2.1) (F0 m 0 ls []) := by
  have hx := C.1
  have hb := C.2.1
  have hm := moX9_lots h
  unfold fX9_lots at h
  refine gx_aload_n (r := (some x0)) hx hb dX9_lots_0 rfl (lv_at hl 0 rfl) ?_
  refine lv_iload_n hx hb dX9_lots_1 rfl (lv_at hl 1 rfl) ?_
  obtain ⟨_, eo2, h⟩ := ob h
  obtain ⟨r2, u2, e2, h⟩ := obI h
  obtain ⟨g2, eg2, ev2⟩ := cN_inv e2
  refine gx_cV C hG.1 hS [.int x1] rfl eo2 (tX9_hasBitOfNoThing eg2) qcX9_246 ⟨rfl, rfl, Nat.le_of_ble_eq_true rfl, Nat.le_of_ble_eq_true rfl⟩ ⟨Nat.sub_le_sub_right hm.1 _, Nat.sub_le_sub_right hm.2 _⟩ rfl hl.1 rfl (Nat.le_of_ble_eq_true rfl) (st1 := [.int r2]) rfl dX9_lots_2 (fun H locs hg hS2 => gy_w (H0 := _) hG ev2 hg (fun hG => ?_))
  replace hS := hS2
  replace hm : gLe u2 res.2 := by rw [ev2]; exact hm
  refine lv_if_ne (tgt := 33) hx hb dX9_lots_5 (by decide) (fun hc => ?_) (fun hc => ?_)
  · replace h := it_neg hc h
    refine gx_aload_n (r := (some x0)) hx hb dX9_lots_33 rfl (lv_at hl 0 rfl) ?_
    refine lv_iconst (v := 1) hx hb dX9_lots_34 (by decide) ?_
    obtain ⟨_, eo35, h⟩ := ob h
    obtain ⟨r35, u35, e35, h⟩ := obI h
    obtain ⟨g35, eg35, ev35⟩ := cN_inv e35
    refine gx_cV C hG.1 hS [.int (1 : Int32)] rfl eo35 (tX9_finding eg35) qcX9_89 ⟨rfl, rfl, Nat.le_of_ble_eq_true rfl, Nat.le_of_ble_eq_true rfl⟩ ⟨Nat.sub_le_sub_right hm.1 _, Nat.sub_le_sub_right hm.2 _⟩ rfl hl.1 rfl (Nat.le_of_ble_eq_true rfl) (st1 := [.int r35]) rfl dX9_lots_35 (fun H locs hg hS2 => gy_w (H0 := _) hG ev35 hg (fun hG => ?_))
    replace hS := hS2
    replace hm : gLe u35 res.2 := by rw [ev35]; exact hm
    cases Option.some.inj h
    exact gx_reti C hG.1 hS dX9_lots_38
  · replace h := it_pos hc h
    refine lv_iload_n hx hb dX9_lots_8 rfl (lv_at hl 2 rfl) ?_
    refine lv_iconst (v := 0) hx hb dX9_lots_9 (by decide) ?_
    refine lv_ldc (v := 100000) hx hb C.2.2.2.1 (C.2.2.2.2.1 _ (gW_mem kcX9_249)) dX9_lots_10 ?_
    obtain ⟨r12, u12, e12, h⟩ := obI h
    obtain ⟨g12, eg12, ev12⟩ := cN_inv e12
    refine gx_cS C hG.1 hS [.int x2, .int (0 : Int32), .int (100000 : Int32)] (tX9_within eg12) qcX9_85 ⟨rfl, rfl, Nat.le_of_ble_eq_true rfl, Nat.le_of_ble_eq_true rfl⟩ ⟨Nat.sub_le_sub_right hm.1 _, Nat.sub_le_sub_right hm.2 _⟩ rfl hl.1 rfl (Nat.le_of_ble_eq_true rfl) (st1 := [.int r12]) rfl dX9_lots_12 (fun H locs hg hS2 => gy_w (H0 := _) hG ev12 hg (fun hG => ?_))
    replace hS := hS2
    replace hm : gLe u12 res.2 := by rw [ev12]; exact hm
    refine lv_if_eq (tgt := 33) hx hb dX9_lots_15 (by decide) (fun hc => ?_) (fun hc => ?_)
    · replace h := it_pos hc h
      refine gx_aload_n (r := (some x0)) hx hb dX9_lots_33 rfl (lv_at hl 0 rfl) ?_
      refine lv_iconst (v := 1) hx hb dX9_lots_34 (by decide) ?_
      obtain ⟨_, eo35, h⟩ := ob h
      obtain ⟨r35, u35, e35, h⟩ := obI h
      obtain ⟨g35, eg35, ev35⟩ := cN_inv e35
      refine gx_cV C hG.1 hS [.int (1 : Int32)] rfl eo35 (tX9_finding eg35) qcX9_89 ⟨rfl, rfl, Nat.le_of_ble_eq_true rfl, Nat.le_of_ble_eq_true rfl⟩ ⟨Nat.sub_le_sub_right hm.1 _, Nat.sub_le_sub_right hm.2 _⟩ rfl hl.1 rfl (Nat.le_of_ble_eq_true rfl) (st1 := [.int r35]) rfl dX9_lots_35 (fun H locs hg hS2 => gy_w (H0 := _) hG ev35 hg (fun hG => ?_))
      replace hS := hS2
      replace hm : gLe u35 res.2 := by rw [ev35]; exact hm
      cases Option.some.inj h
      exact gx_reti C hG.1 hS dX9_lots_38
    · replace h := it_neg hc h
      refine lv_iload_n hx hb dX9_lots_18 rfl (lv_at hl 3 rfl) ?_
      refine lv_iload_n hx hb dX9_lots_19 rfl (lv_at hl 2 rfl) ?_
      refine lv_ldc (v := 100000) hx hb C.2.2.2.1 (C.2.2.2.2.1 _ (gW_mem kcX9_249)) dX9_lots_20 ?_
      obtain ⟨r22, u22, e22, h⟩ := obI h
      obtain ⟨g22, eg22, ev22⟩ := cN_inv e22
      refine gx_cS C hG.1 hS [.int x3, .int x2, .int (100000 : Int32)] (tX9_within eg22) qcX9_85 ⟨rfl, rfl, Nat.le_of_ble_eq_true rfl, Nat.le_of_ble_eq_true rfl⟩ ⟨Nat.sub_le_sub_right hm.1 _, Nat.sub_le_sub_right hm.2 _⟩ rfl hl.1 rfl (Nat.le_of_ble_eq_true rfl) (st1 := [.int r22]) rfl dX9_lots_22 (fun H locs hg hS2 => gy_w (H0 := _) hG ev22 hg (fun hG => ?_))
      replace hS := hS2
      replace hm : gLe u22 res.2 := by rw [ev22]; exact hm
      refine lv_if_eq (tgt := 33) hx hb dX9_lots_25 (by decide) (fun hc => ?_) (fun hc => ?_)
      · replace h := it_pos hc h
        refine gx_aload_n (r := (some x0)) hx hb dX9_lots_33 rfl (lv_at hl 0 rfl) ?_
        refine lv_iconst (v := 1) hx hb dX9_lots_34 (by decide) ?_
        obtain ⟨_, eo35, h⟩ := ob h
        obtain ⟨r35, u35, e35, h⟩ := obI h
        obtain ⟨g35, eg35, ev35⟩ := cN_inv e35
        refine gx_cV C hG.1 hS [.int (1 : Int32)] rfl eo35 (tX9_finding eg35) qcX9_89 ⟨rfl, rfl, Nat.le_of_ble_eq_true rfl, Nat.le_of_ble_eq_true rfl⟩ ⟨Nat.sub_le_sub_right hm.1 _, Nat.sub_le_sub_right hm.2 _⟩ rfl hl.1 rfl (Nat.le_of_ble_eq_true rfl) (st1 := [.int r35]) rfl dX9_lots_35 (fun H locs hg hS2 => gy_w (H0 := _) hG ev35 hg (fun hG => ?_))
        replace hS := hS2
        replace hm : gLe u35 res.2 := by rw [ev35]; exact hm
        cases Option.some.inj h
        exact gx_reti C hG.1 hS dX9_lots_38
      · replace h := it_neg hc h
        refine lv_iload hx hb dX9_lots_28 (lv_at hl 4 rfl) ?_
        refine lv_if_ge (tgt := 39) hx hb dX9_lots_30 (by decide) (fun hc => ?_) (fun hc => ?_)
        · replace h := it_pos hc h
          refine gx_aload_n (r := (some x0)) hx hb dX9_lots_39 rfl (lv_at hl 0 rfl) ?_
          refine lv_iload_n hx hb dX9_lots_40 rfl (lv_at hl 1 rfl) ?_
          obtain ⟨_, eo41, h⟩ := ob h
          obtain ⟨u41, e41, h⟩ := ob h
          have hle := moX9_choose e41
          have hm2 : gLe u41 res.2 := by
            exact moX9_lots_44  h
          refine gx_cV C hG.1 hS [.int x1] rfl eo41 (tX9_choose hz e41) qcX9_250 ⟨rfl, rfl, Nat.le_of_ble_eq_true rfl, Nat.le_of_ble_eq_true rfl⟩ (gy_room hG hS hle ⟨Nat.sub_le_sub_right hm2.1 _, Nat.sub_le_sub_right hm2.2 _⟩) rfl hl.1 rfl (Nat.le_of_ble_eq_true rfl) (st1 := []) rfl dX9_lots_41 (fun H locs hg hS2 => gy_ret hG hS hle hg (fun hG => ?_))
          replace hS := hS2
          exact wX9_lots_44 C hz  h hG hS (lv_sub hl [0, 1, 2, 3, 4] rfl)
        · replace h := it_neg hc h
          refine gx_aload_n (r := (some x0)) hx hb dX9_lots_33 rfl (lv_at hl 0 rfl) ?_
          refine lv_iconst (v := 1) hx hb dX9_lots_34 (by decide) ?_
          obtain ⟨_, eo35, h⟩ := ob h
          obtain ⟨r35, u35, e35, h⟩ := obI h
          obtain ⟨g35, eg35, ev35⟩ := cN_inv e35
          refine gx_cV C hG.1 hS [.int (1 : Int32)] rfl eo35 (tX9_finding eg35) qcX9_89 ⟨rfl, rfl, Nat.le_of_ble_eq_true rfl, Nat.le_of_ble_eq_true rfl⟩ ⟨Nat.sub_le_sub_right hm.1 _, Nat.sub_le_sub_right hm.2 _⟩ rfl hl.1 rfl (Nat.le_of_ble_eq_true rfl) (st1 := [.int r35]) rfl dX9_lots_35 (fun H locs hg hS2 => gy_w (H0 := _) hG ev35 hg (fun hG => ?_))
          replace hS := hS2
          replace hm : gLe u35 res.2 := by rw [ev35]; exact hm
          cases Option.some.inj h
          exact gx_reti C hG.1 hS dX9_lots_38
theorem tX9_lots {Γ : gEnv} {z : Nat → Nat} (hz : Γ.2.2.2 = z) {x0 : Nat} {x1 : Int32} {x2 : Int32} {x3 : Int32} {x4 : Int32} {u v : gN} {r : Int32} (h : fX9_lots z x0 x1 x2 x3 x4 u = some (r, v)) : Met l yX9_lots (Cond.code yX9_lots cX9_lots 6 (some .int) :: gW) (rmX9_lots (v.2.1 - u.2.1) (v.2.2 - u.2.2)) (va_Pc [va_rf (some x0), .int x1, .int x2, .int x3, .int x4] (gPre Γ u.1 u.2.1)) (gQ Γ (some (.int r)) v.1 v.2.1) (v.2.1 - u.2.1) (v.2.2 - u.2.2) Γ.2.2.1 := by
  refine gx_met (nm := "lots") ⟨by decide +kernel, rfl, rfl⟩ (Nat.le_of_ble_eq_true rfl) (fun p e s m below meth c ls C hG hl => ?_)
  have hN : s.heap.size = u.2.1 := hG.1
  have K := wX9_lots (l := l) (e := e) (below := below) (sB := u.2.2) C hz h ⟨hG, Nat.le_refl _⟩ va_S.rf hl
  rw [hN, Nat.sub_self, Nat.sub_self] at K
  exact K
abbrev rmX9_sorted : Room := { frames := 1, cells := 0, slots := 0, locals := 22 }
def fX9_sorted (x0 : Nat) (x1 : Int32) (x2 : Int32) (u : gM) : Option (Int32 × gM) :=
  bI (fX9_within x1 (0 : Int32) (5 : Int32) u) fun r3 u3 =>
  if r3 = 0 then (
    (gO [10] u3 x0).bind fun _ =>
    bI (fX9_finding x0 (1 : Int32) u3) fun r20 u20 =>
    some (r20, u20)
  ) else (
    bI (fX9_within x2 (0 : Int32) (1 : Int32) u3) fun r12 u12 =>
    if r12 = 0 then (
      (gO [10] u12 x0).bind fun _ =>
      bI (fX9_finding x0 (1 : Int32) u12) fun r20 u20 =>
      some (r20, u20)
    ) else (
      (gR [10] 11 u12 x0).bind fun v25 =>
      (v25).bind fun a28 =>
      (gI [7] 2 u12 a28).bind fun v28 =>
      if v28 < (60 : Int32) then (
        (gR [10] 11 u12 x0).bind fun v43 =>
        (v43).bind fun a48 =>
        (gO [7] u12 a48).bind fun _ =>
        (fX6_add a48 x1 x2 u12).bind fun u48 =>
        (gR [10] 11 u48 x0).bind fun v52 =>
        (v52).bind fun a55 =>
        (gI [7] 2 u48 a55).bind fun v55 =>
        some (v55, u48)
      ) else (
        (gO [10] u12 x0).bind fun _ =>
        bI (fX9_finding x0 (4 : Int32) u12) fun r38 u38 =>
        some (r38, u38)
      )
    )
  )
set_option maxHeartbeats 4000000 in
set_option maxRecDepth 20000 in
theorem wX9_sorted  (C : gC p s m args meth c cX9_sorted 3 (some .int) RX9 "sorted" Γ){x0 : Nat} {x1 : Int32} {x2 : Int32} {u : gM} {res : Int32 × gM} (h : fX9_sorted x0 x1 x2 u = some res) {H : Heap} {locs : List Loc} (hG : gAg Γ u N H) (hS : va_S Γ.2.2.1 s.heap H locs) {ls : Array Slot} (hl : lv_has ls 3 [(0, va_rf (some x0)), (1, .int x1), (2, .int x2)]) : W p l e rmX9_sorted s m args below meth c H locs 0 0 (MQ below (gQ Γ (some (.int res.1)) res.2 N) args s 0 0 Γ.2.2.1) (F0 m 0 ls []) := by
  have hx := C.1
  have hb := C.2.1
  unfold fX9_sorted at h
  refine lv_iload_n hx hb dX9_sorted_0 rfl (lv_at hl 1 rfl) ?_
  refine lv_iconst (v := 0) hx hb dX9_sorted_1 (by decide) ?_
  refine lv_iconst (v := 5) hx hb dX9_sorted_2 (by decide) ?_
  obtain ⟨r3, u3, e3, h⟩ := obI h
  refine gx_cS C hG hS [.int x1, .int (0 : Int32), .int (5 : Int32)] (tX9_within e3) qcX9_85 ⟨rfl, rfl, Nat.le_of_ble_eq_true rfl, Nat.le_of_ble_eq_true rfl⟩ ⟨Nat.zero_le _, Nat.zero_le _⟩ rfl hl.1 rfl (Nat.le_of_ble_eq_true rfl) (st1 := [.int r3]) rfl dX9_sorted_3 (fun H locs hG hS => ?_)
  refine lv_if_eq (tgt := 18) hx hb dX9_sorted_6 (by decide) (fun hc => ?_) (fun hc => ?_)
  · replace h := it_pos hc h
    refine gx_aload_n (r := (some x0)) hx hb dX9_sorted_18 rfl (lv_at hl 0 rfl) ?_
    refine lv_iconst (v := 1) hx hb dX9_sorted_19 (by decide) ?_
    obtain ⟨_, eo20, h⟩ := ob h
    obtain ⟨r20, u20, e20, h⟩ := obI h
    refine gx_cV C hG hS [.int (1 : Int32)] rfl eo20 (tX9_finding e20) qcX9_89 ⟨rfl, rfl, Nat.le_of_ble_eq_true rfl, Nat.le_of_ble_eq_true rfl⟩ ⟨Nat.zero_le _, Nat.zero_le _⟩ rfl hl.1 rfl (Nat.le_of_ble_eq_true rfl) (st1 := [.int r20]) rfl dX9_sorted_20 (fun H locs hG hS => ?_)
    cases Option.some.inj h
    exact gx_reti C hG hS dX9_sorted_23
  · replace h := it_neg hc h
    refine lv_iload_n hx hb dX9_sorted_9 rfl (lv_at hl 2 rfl) ?_
    refine lv_iconst (v := 0) hx hb dX9_sorted_10 (by decide) ?_
    refine lv_iconst (v := 1) hx hb dX9_sorted_11 (by decide) ?_
    obtain ⟨r12, u12, e12, h⟩ := obI h
    refine gx_cS C hG hS [.int x2, .int (0 : Int32), .int (1 : Int32)] (tX9_within e12) qcX9_85 ⟨rfl, rfl, Nat.le_of_ble_eq_true rfl, Nat.le_of_ble_eq_true rfl⟩ ⟨Nat.zero_le _, Nat.zero_le _⟩ rfl hl.1 rfl (Nat.le_of_ble_eq_true rfl) (st1 := [.int r12]) rfl dX9_sorted_12 (fun H locs hG hS => ?_)
    refine lv_if_ne (tgt := 24) hx hb dX9_sorted_15 (by decide) (fun hc => ?_) (fun hc => ?_)
    · replace h := it_neg hc h
      refine gx_aload_n (r := (some x0)) hx hb dX9_sorted_24 rfl (lv_at hl 0 rfl) ?_
      obtain ⟨v25, e25, h⟩ := ob h
      refine gx_getR C hG rfl e25 fgX9_62 dX9_sorted_25 ?_
      obtain ⟨a28, na28, h⟩ := ob h
      obtain ⟨v28, e28, h⟩ := ob h
      refine gx_getI C hG na28 e28 fgX9_282 dX9_sorted_28 ?_
      refine lv_bipush (v := 60) hx hb dX9_sorted_31 (by decide) ?_
      refine lv_icmp_lt (tgt := 42) hx hb dX9_sorted_33 (by decide) (fun hc => ?_) (fun hc => ?_)
      · replace h := it_pos hc h
        refine gx_aload_n (r := (some x0)) hx hb dX9_sorted_42 rfl (lv_at hl 0 rfl) ?_
        obtain ⟨v43, e43, h⟩ := ob h
        refine gx_getR C hG rfl e43 fgX9_62 dX9_sorted_43 ?_
        refine lv_iload_n hx hb dX9_sorted_46 rfl (lv_at hl 1 rfl) ?_
        refine lv_iload_n hx hb dX9_sorted_47 rfl (lv_at hl 2 rfl) ?_
        obtain ⟨a48, na48, h⟩ := ob h
        obtain ⟨_, eo48, h⟩ := ob h
        obtain ⟨u48, e48, h⟩ := ob h
        refine gx_cV C hG hS [.int x1, .int x2] na48 eo48 (tX6_add e48) qcX9_285 ⟨rfl, rfl, Nat.le_of_ble_eq_true rfl, Nat.le_of_ble_eq_true rfl⟩ ⟨Nat.zero_le _, Nat.zero_le _⟩ rfl hl.1 rfl (Nat.le_of_ble_eq_true rfl) (st1 := []) rfl dX9_sorted_48 (fun H locs hG hS => ?_)
        refine gx_aload_n (r := (some x0)) hx hb dX9_sorted_51 rfl (lv_at hl 0 rfl) ?_
        obtain ⟨v52, e52, h⟩ := ob h
        refine gx_getR C hG rfl e52 fgX9_62 dX9_sorted_52 ?_
        obtain ⟨a55, na55, h⟩ := ob h
        obtain ⟨v55, e55, h⟩ := ob h
        refine gx_getI C hG na55 e55 fgX9_282 dX9_sorted_55 ?_
        cases Option.some.inj h
        exact gx_reti C hG hS dX9_sorted_58
      · replace h := it_neg hc h
        refine gx_aload_n (r := (some x0)) hx hb dX9_sorted_36 rfl (lv_at hl 0 rfl) ?_
        refine lv_iconst (v := 4) hx hb dX9_sorted_37 (by decide) ?_
        obtain ⟨_, eo38, h⟩ := ob h
        obtain ⟨r38, u38, e38, h⟩ := obI h
        refine gx_cV C hG hS [.int (4 : Int32)] rfl eo38 (tX9_finding e38) qcX9_89 ⟨rfl, rfl, Nat.le_of_ble_eq_true rfl, Nat.le_of_ble_eq_true rfl⟩ ⟨Nat.zero_le _, Nat.zero_le _⟩ rfl hl.1 rfl (Nat.le_of_ble_eq_true rfl) (st1 := [.int r38]) rfl dX9_sorted_38 (fun H locs hG hS => ?_)
        cases Option.some.inj h
        exact gx_reti C hG hS dX9_sorted_41
    · replace h := it_pos hc h
      refine gx_aload_n (r := (some x0)) hx hb dX9_sorted_18 rfl (lv_at hl 0 rfl) ?_
      refine lv_iconst (v := 1) hx hb dX9_sorted_19 (by decide) ?_
      obtain ⟨_, eo20, h⟩ := ob h
      obtain ⟨r20, u20, e20, h⟩ := obI h
      refine gx_cV C hG hS [.int (1 : Int32)] rfl eo20 (tX9_finding e20) qcX9_89 ⟨rfl, rfl, Nat.le_of_ble_eq_true rfl, Nat.le_of_ble_eq_true rfl⟩ ⟨Nat.zero_le _, Nat.zero_le _⟩ rfl hl.1 rfl (Nat.le_of_ble_eq_true rfl) (st1 := [.int r20]) rfl dX9_sorted_20 (fun H locs hG hS => ?_)
      cases Option.some.inj h
      exact gx_reti C hG hS dX9_sorted_23
theorem tX9_sorted {Γ : gEnv} {N : Nat} {x0 : Nat} {x1 : Int32} {x2 : Int32} {u v : gM} {r : Int32} (h : fX9_sorted x0 x1 x2 u = some (r, v)) : Met l yX9_sorted (Cond.code yX9_sorted cX9_sorted 3 (some .int) :: gW) rmX9_sorted (va_Pc [va_rf (some x0), .int x1, .int x2] (gPre Γ u N)) (gQ Γ (some (.int r)) v N) 0 0 Γ.2.2.1 :=
  gx_met (nm := "sorted") ⟨by decide +kernel, rfl, rfl⟩ (Nat.le_of_ble_eq_true rfl) (fun p e s m below meth c ls C hG hl => wX9_sorted C h hG va_S.rf hl)
abbrev rmX9_sorter : Room := { frames := 2, cells := 0, slots := 0, locals := 50 }
def fX9_sorter (x0 : Nat) (x1 : Int32) (x2 : Int32) (u : gM) : Option (Int32 × gM) :=
  bI (fX9_within x1 (0 : Int32) (5 : Int32) u) fun r3 u3 =>
  if r3 = 0 then (
    (gO [10] u3 x0).bind fun _ =>
    bI (fX9_finding x0 (1 : Int32) u3) fun r20 u20 =>
    some (r20, u20)
  ) else (
    bI (fX9_within x2 (0 : Int32) (2 : Int32) u3) fun r12 u12 =>
    if r12 = 0 then (
      (gO [10] u12 x0).bind fun _ =>
      bI (fX9_finding x0 (1 : Int32) u12) fun r20 u20 =>
      some (r20, u20)
    ) else (
      if x2 = 0 then (
        (gR [10] 11 u12 x0).bind fun v53 =>
        (v53).bind fun a56 =>
        (gR [7] 0 u12 a56).bind fun v56 =>
        (v56).bind fun a60 =>
        (aI u12 a60 x1).bind fun v60 =>
        some (v60, u12)
      ) else (
      if x2 = 1 then (
        (gR [10] 11 u12 x0).bind fun v63 =>
        (v63).bind fun a66 =>
        (gR [7] 1 u12 a66).bind fun v66 =>
        (v66).bind fun a70 =>
        (aI u12 a70 x1).bind fun v70 =>
        some (v70, u12)
      ) else (
        (gR [10] 11 u12 x0).bind fun v73 =>
        (v73).bind fun a77 =>
        (gO [7] u12 a77).bind fun _ =>
        bI (fX6_isBeyondChance a77 x1 u12) fun r77 u77 =>
        if r77 = 0 then (
          some ((0 : Int32), u77)
        ) else (
          some ((1 : Int32), u77)
        )
      ))
    )
  )
set_option maxHeartbeats 4000000 in
set_option maxRecDepth 20000 in
theorem wX9_sorter  (C : gC p s m args meth c cX9_sorter 3 (some .int) RX9 "sorter" Γ){x0 : Nat} {x1 : Int32} {x2 : Int32} {u : gM} {res : Int32 × gM} (h : fX9_sorter x0 x1 x2 u = some res) {H : Heap} {locs : List Loc} (hG : gAg Γ u N H) (hS : va_S Γ.2.2.1 s.heap H locs) {ls : Array Slot} (hl : lv_has ls 3 [(0, va_rf (some x0)), (1, .int x1), (2, .int x2)]) : W p l e rmX9_sorter s m args below meth c H locs 0 0 (MQ below (gQ Γ (some (.int res.1)) res.2 N) args s 0 0 Γ.2.2.1) (F0 m 0 ls []) := by
  have hx := C.1
  have hb := C.2.1
  unfold fX9_sorter at h
  refine lv_iload_n hx hb dX9_sorter_0 rfl (lv_at hl 1 rfl) ?_
  refine lv_iconst (v := 0) hx hb dX9_sorter_1 (by decide) ?_
  refine lv_iconst (v := 5) hx hb dX9_sorter_2 (by decide) ?_
  obtain ⟨r3, u3, e3, h⟩ := obI h
  refine gx_cS C hG hS [.int x1, .int (0 : Int32), .int (5 : Int32)] (tX9_within e3) qcX9_85 ⟨rfl, rfl, Nat.le_of_ble_eq_true rfl, Nat.le_of_ble_eq_true rfl⟩ ⟨Nat.zero_le _, Nat.zero_le _⟩ rfl hl.1 rfl (Nat.le_of_ble_eq_true rfl) (st1 := [.int r3]) rfl dX9_sorter_3 (fun H locs hG hS => ?_)
  refine lv_if_eq (tgt := 18) hx hb dX9_sorter_6 (by decide) (fun hc => ?_) (fun hc => ?_)
  · replace h := it_pos hc h
    refine gx_aload_n (r := (some x0)) hx hb dX9_sorter_18 rfl (lv_at hl 0 rfl) ?_
    refine lv_iconst (v := 1) hx hb dX9_sorter_19 (by decide) ?_
    obtain ⟨_, eo20, h⟩ := ob h
    obtain ⟨r20, u20, e20, h⟩ := obI h
    refine gx_cV C hG hS [.int (1 : Int32)] rfl eo20 (tX9_finding e20) qcX9_89 ⟨rfl, rfl, Nat.le_of_ble_eq_true rfl, Nat.le_of_ble_eq_true rfl⟩ ⟨Nat.zero_le _, Nat.zero_le _⟩ rfl hl.1 rfl (Nat.le_of_ble_eq_true rfl) (st1 := [.int r20]) rfl dX9_sorter_20 (fun H locs hG hS => ?_)
    cases Option.some.inj h
    exact gx_reti C hG hS dX9_sorter_23
  · replace h := it_neg hc h
    refine lv_iload_n hx hb dX9_sorter_9 rfl (lv_at hl 2 rfl) ?_
    refine lv_iconst (v := 0) hx hb dX9_sorter_10 (by decide) ?_
    refine lv_iconst (v := 2) hx hb dX9_sorter_11 (by decide) ?_
    obtain ⟨r12, u12, e12, h⟩ := obI h
    refine gx_cS C hG hS [.int x2, .int (0 : Int32), .int (2 : Int32)] (tX9_within e12) qcX9_85 ⟨rfl, rfl, Nat.le_of_ble_eq_true rfl, Nat.le_of_ble_eq_true rfl⟩ ⟨Nat.zero_le _, Nat.zero_le _⟩ rfl hl.1 rfl (Nat.le_of_ble_eq_true rfl) (st1 := [.int r12]) rfl dX9_sorter_12 (fun H locs hG hS => ?_)
    refine lv_if_ne (tgt := 24) hx hb dX9_sorter_15 (by decide) (fun hc => ?_) (fun hc => ?_)
    · replace h := it_neg hc h
      refine lv_iload_n hx hb dX9_sorter_24 rfl (lv_at hl 2 rfl) ?_
      by_cases hc0 : x2 = 0
      · replace h := it_pos hc0 h
        refine lv_lookup (tgt := 52) (off := 27) hx hb dX9_sorter_25 (by decide) (by rw [hc0]; decide) (by decide) ?_
        refine gx_aload_n (r := (some x0)) hx hb dX9_sorter_52 rfl (lv_at hl 0 rfl) ?_
        obtain ⟨v53, e53, h⟩ := ob h
        refine gx_getR C hG rfl e53 fgX9_62 dX9_sorter_53 ?_
        obtain ⟨a56, na56, h⟩ := ob h
        obtain ⟨v56, e56, h⟩ := ob h
        refine gx_getR C hG na56 e56 fgX9_287 dX9_sorter_56 ?_
        refine lv_iload_n hx hb dX9_sorter_59 rfl (lv_at hl 1 rfl) ?_
        obtain ⟨a60, na60, h⟩ := ob h
        obtain ⟨v60, e60, h⟩ := ob h
        refine gx_iald C hG na60 e60 dX9_sorter_60 ?_
        cases Option.some.inj h
        exact gx_reti C hG hS dX9_sorter_61
      replace h := it_neg hc0 h
      by_cases hc1 : x2 = 1
      · replace h := it_pos hc1 h
        refine lv_lookup (tgt := 62) (off := 37) hx hb dX9_sorter_25 (by decide) (by rw [hc1]; decide) (by decide) ?_
        refine gx_aload_n (r := (some x0)) hx hb dX9_sorter_62 rfl (lv_at hl 0 rfl) ?_
        obtain ⟨v63, e63, h⟩ := ob h
        refine gx_getR C hG rfl e63 fgX9_62 dX9_sorter_63 ?_
        obtain ⟨a66, na66, h⟩ := ob h
        obtain ⟨v66, e66, h⟩ := ob h
        refine gx_getR C hG na66 e66 fgX9_290 dX9_sorter_66 ?_
        refine lv_iload_n hx hb dX9_sorter_69 rfl (lv_at hl 1 rfl) ?_
        obtain ⟨a70, na70, h⟩ := ob h
        obtain ⟨v70, e70, h⟩ := ob h
        refine gx_iald C hG na70 e70 dX9_sorter_70 ?_
        cases Option.some.inj h
        exact gx_reti C hG hS dX9_sorter_71
      replace h := it_neg hc1 h
      have hn0 := lv_neT hc0 (show (0 : Int32).toInt = 0 by decide)
      have hn1 := lv_neT hc1 (show (1 : Int32).toInt = 1 by decide)
      refine lv_lookup (tgt := 72) (off := 47) hx hb dX9_sorter_25 (by decide) (by rw [lv_osw hc0 (show (0 : Int32).toInt = 0 by decide)]; rw [lv_osw hc1 (show (1 : Int32).toInt = 1 by decide)]; rfl) (by decide) ?_
      refine gx_aload_n (r := (some x0)) hx hb dX9_sorter_72 rfl (lv_at hl 0 rfl) ?_
      obtain ⟨v73, e73, h⟩ := ob h
      refine gx_getR C hG rfl e73 fgX9_62 dX9_sorter_73 ?_
      refine lv_iload_n hx hb dX9_sorter_76 rfl (lv_at hl 1 rfl) ?_
      obtain ⟨a77, na77, h⟩ := ob h
      obtain ⟨_, eo77, h⟩ := ob h
      obtain ⟨r77, u77, e77, h⟩ := obI h
      refine gx_cV C hG hS [.int x1] na77 eo77 (tX6_isBeyondChance e77) qcX9_293 ⟨rfl, rfl, Nat.le_of_ble_eq_true rfl, Nat.le_of_ble_eq_true rfl⟩ ⟨Nat.zero_le _, Nat.zero_le _⟩ rfl hl.1 rfl (Nat.le_of_ble_eq_true rfl) (st1 := [.int r77]) rfl dX9_sorter_77 (fun H locs hG hS => ?_)
      refine lv_if_eq (tgt := 87) hx hb dX9_sorter_80 (by decide) (fun hc => ?_) (fun hc => ?_)
      · replace h := it_pos hc h
        refine lv_iconst (v := 0) hx hb dX9_sorter_87 (by decide) ?_
        cases Option.some.inj h
        exact gx_reti C hG hS dX9_sorter_88
      · replace h := it_neg hc h
        refine lv_iconst (v := 1) hx hb dX9_sorter_83 (by decide) ?_
        refine lv_goto (tgt := 88) hx hb dX9_sorter_84 (by decide) ?_
        cases Option.some.inj h
        exact gx_reti C hG hS dX9_sorter_88
    · replace h := it_pos hc h
      refine gx_aload_n (r := (some x0)) hx hb dX9_sorter_18 rfl (lv_at hl 0 rfl) ?_
      refine lv_iconst (v := 1) hx hb dX9_sorter_19 (by decide) ?_
      obtain ⟨_, eo20, h⟩ := ob h
      obtain ⟨r20, u20, e20, h⟩ := obI h
      refine gx_cV C hG hS [.int (1 : Int32)] rfl eo20 (tX9_finding e20) qcX9_89 ⟨rfl, rfl, Nat.le_of_ble_eq_true rfl, Nat.le_of_ble_eq_true rfl⟩ ⟨Nat.zero_le _, Nat.zero_le _⟩ rfl hl.1 rfl (Nat.le_of_ble_eq_true rfl) (st1 := [.int r20]) rfl dX9_sorter_20 (fun H locs hG hS => ?_)
      cases Option.some.inj h
      exact gx_reti C hG hS dX9_sorter_23
theorem tX9_sorter {Γ : gEnv} {N : Nat} {x0 : Nat} {x1 : Int32} {x2 : Int32} {u v : gM} {r : Int32} (h : fX9_sorter x0 x1 x2 u = some (r, v)) : Met l yX9_sorter (Cond.code yX9_sorter cX9_sorter 3 (some .int) :: gW) rmX9_sorter (va_Pc [va_rf (some x0), .int x1, .int x2] (gPre Γ u N)) (gQ Γ (some (.int r)) v N) 0 0 Γ.2.2.1 :=
  gx_met (nm := "sorter") ⟨by decide +kernel, rfl, rfl⟩ (Nat.le_of_ble_eq_true rfl) (fun p e s m below meth c ls C hG hl => wX9_sorter C h hG va_S.rf hl)
abbrev rmX9_money : Room := { frames := 4, cells := 0, slots := 0, locals := 85 }
def fX9_money (x0 : Nat) (x1 : Int32) (x2 : Int32) (x3 : Int32) (u : gM) : Option (Int32 × gM) :=
  (gO [10] u x0).bind fun _ =>
  bI (fX9_thingOf x0 x1 u) fun r2 u2 =>
  if r2 = none then (
    (gO [10] u2 x0).bind fun _ =>
    bI (fX9_finding x0 (1 : Int32) u2) fun r33 u33 =>
    some (r33, u33)
  ) else (
    bI (fX9_within x2 (0 : Int32) (3 : Int32) u2) fun r15 u15 =>
    if r15 = 0 then (
      (gO [10] u15 x0).bind fun _ =>
      bI (fX9_finding x0 (1 : Int32) u15) fun r33 u33 =>
      some (r33, u33)
    ) else (
      bI (fX9_within x3 (0 : Int32) (100000 : Int32) u15) fun r25 u25 =>
      if r25 = 0 then (
        (gO [10] u25 x0).bind fun _ =>
        bI (fX9_finding x0 (1 : Int32) u25) fun r33 u33 =>
        some (r33, u33)
      ) else (
        (iS u25 r2).bind fun v39 =>
        if v39 = 0 then (
          (gO [10] u25 x0).bind fun _ =>
          bI (fX9_finding x0 (5 : Int32) u25) fun r57 u57 =>
          some (r57, u57)
        ) else (
          (kC [6] u25 r2).bind fun _ =>
          (r2).bind fun a63 =>
          (gI [6] 6 u25 a63).bind fun v63 =>
          if v63 = 0 then (
            (r2).bind fun a77 =>
            (gR [6] 12 u25 a77).bind fun v77 =>
            (v77).bind fun a82 =>
            (uI u25 a82 x2 x3).bind fun u82 =>
            (r2).bind fun a85 =>
            (gO [6] u82 a85).bind fun _ =>
            bI (fX5_handsThatCounted a85 u82) fun r85 u85 =>
            some (r85, u85)
          ) else (
            (gO [10] u25 x0).bind fun _ =>
            bI (fX9_finding x0 (3 : Int32) u25) fun r71 u71 =>
            some (r71, u71)
          )
        )
      )
    )
  )
set_option maxHeartbeats 4000000 in
set_option maxRecDepth 20000 in
theorem wX9_money  (C : gC p s m args meth c cX9_money 6 (some .int) RX9 "money" Γ){x0 : Nat} {x1 : Int32} {x2 : Int32} {x3 : Int32} {u : gM} {res : Int32 × gM} (h : fX9_money x0 x1 x2 x3 u = some res) {H : Heap} {locs : List Loc} (hG : gAg Γ u N H) (hS : va_S Γ.2.2.1 s.heap H locs) {ls : Array Slot} (hl : lv_has ls 6 [(0, va_rf (some x0)), (1, .int x1), (2, .int x2), (3, .int x3)]) : W p l e rmX9_money s m args below meth c H locs 0 0 (MQ below (gQ Γ (some (.int res.1)) res.2 N) args s 0 0 Γ.2.2.1) (F0 m 0 ls []) := by
  have hx := C.1
  have hb := C.2.1
  unfold fX9_money at h
  refine gx_aload_n (r := (some x0)) hx hb dX9_money_0 rfl (lv_at hl 0 rfl) ?_
  refine lv_iload_n hx hb dX9_money_1 rfl (lv_at hl 1 rfl) ?_
  obtain ⟨_, eo2, h⟩ := ob h
  obtain ⟨r2, u2, e2, h⟩ := obI h
  refine gx_cV C hG hS [.int x1] rfl eo2 (tX9_thingOf e2) qcX9_119 ⟨rfl, rfl, Nat.le_of_ble_eq_true rfl, Nat.le_of_ble_eq_true rfl⟩ ⟨Nat.zero_le _, Nat.zero_le _⟩ rfl hl.1 rfl (Nat.le_of_ble_eq_true rfl) (st1 := [va_rf r2]) rfl dX9_money_2 (fun H locs hG hS => ?_)
  refine gx_astore (r := r2) (i := 4) (lv' := [(4, va_rf r2), (0, va_rf (some x0)), (1, .int x1), (2, .int x2), (3, .int x3)]) hx hb dX9_money_5 hl (by decide) rfl (fun ls hl => ?_)
  refine gx_aload (r := r2) hx hb dX9_money_7 (lv_at hl 0 rfl) ?_
  refine gx_ifnull (tgt := 31) hx hb dX9_money_9 (by decide) (fun hc => ?_) (fun hc => ?_)
  · replace h := it_pos hc h
    refine gx_aload_n (r := (some x0)) hx hb dX9_money_31 rfl (lv_at hl 1 rfl) ?_
    refine lv_iconst (v := 1) hx hb dX9_money_32 (by decide) ?_
    obtain ⟨_, eo33, h⟩ := ob h
    obtain ⟨r33, u33, e33, h⟩ := obI h
    refine gx_cV C hG hS [.int (1 : Int32)] rfl eo33 (tX9_finding e33) qcX9_89 ⟨rfl, rfl, Nat.le_of_ble_eq_true rfl, Nat.le_of_ble_eq_true rfl⟩ ⟨Nat.zero_le _, Nat.zero_le _⟩ rfl hl.1 rfl (Nat.le_of_ble_eq_true rfl) (st1 := [.int r33]) rfl dX9_money_33 (fun H locs hG hS => ?_)
    cases Option.some.inj h
    exact gx_reti C hG hS dX9_money_36
  · replace h := it_neg hc h
    refine lv_iload_n hx hb dX9_money_12 rfl (lv_at hl 3 rfl) ?_
    refine lv_iconst (v := 0) hx hb dX9_money_13 (by decide) ?_
    refine lv_iconst (v := 3) hx hb dX9_money_14 (by decide) ?_
    obtain ⟨r15, u15, e15, h⟩ := obI h
    refine gx_cS C hG hS [.int x2, .int (0 : Int32), .int (3 : Int32)] (tX9_within e15) qcX9_85 ⟨rfl, rfl, Nat.le_of_ble_eq_true rfl, Nat.le_of_ble_eq_true rfl⟩ ⟨Nat.zero_le _, Nat.zero_le _⟩ rfl hl.1 rfl (Nat.le_of_ble_eq_true rfl) (st1 := [.int r15]) rfl dX9_money_15 (fun H locs hG hS => ?_)
    refine lv_if_eq (tgt := 31) hx hb dX9_money_18 (by decide) (fun hc => ?_) (fun hc => ?_)
    · replace h := it_pos hc h
      refine gx_aload_n (r := (some x0)) hx hb dX9_money_31 rfl (lv_at hl 1 rfl) ?_
      refine lv_iconst (v := 1) hx hb dX9_money_32 (by decide) ?_
      obtain ⟨_, eo33, h⟩ := ob h
      obtain ⟨r33, u33, e33, h⟩ := obI h
      refine gx_cV C hG hS [.int (1 : Int32)] rfl eo33 (tX9_finding e33) qcX9_89 ⟨rfl, rfl, Nat.le_of_ble_eq_true rfl, Nat.le_of_ble_eq_true rfl⟩ ⟨Nat.zero_le _, Nat.zero_le _⟩ rfl hl.1 rfl (Nat.le_of_ble_eq_true rfl) (st1 := [.int r33]) rfl dX9_money_33 (fun H locs hG hS => ?_)
      cases Option.some.inj h
      exact gx_reti C hG hS dX9_money_36
    · replace h := it_neg hc h
      refine lv_iload_n hx hb dX9_money_21 rfl (lv_at hl 4 rfl) ?_
      refine lv_iconst (v := 0) hx hb dX9_money_22 (by decide) ?_
      refine lv_ldc (v := 100000) hx hb C.2.2.2.1 (C.2.2.2.2.1 _ (gW_mem kcX9_249)) dX9_money_23 ?_
      obtain ⟨r25, u25, e25, h⟩ := obI h
      refine gx_cS C hG hS [.int x3, .int (0 : Int32), .int (100000 : Int32)] (tX9_within e25) qcX9_85 ⟨rfl, rfl, Nat.le_of_ble_eq_true rfl, Nat.le_of_ble_eq_true rfl⟩ ⟨Nat.zero_le _, Nat.zero_le _⟩ rfl hl.1 rfl (Nat.le_of_ble_eq_true rfl) (st1 := [.int r25]) rfl dX9_money_25 (fun H locs hG hS => ?_)
      refine lv_if_ne (tgt := 37) hx hb dX9_money_28 (by decide) (fun hc => ?_) (fun hc => ?_)
      · replace h := it_neg hc h
        refine gx_aload (r := r2) hx hb dX9_money_37 (lv_at hl 0 rfl) ?_
        obtain ⟨v39, e39, h⟩ := ob h
        refine gx_inst C hG e39 klX9_97 dX9_money_39 ?_
        refine lv_if_eq (tgt := 55) hx hb dX9_money_42 (by decide) (fun hc => ?_) (fun hc => ?_)
        · replace h := it_pos hc h
          refine gx_aload_n (r := (some x0)) hx hb dX9_money_55 rfl (lv_at hl 1 rfl) ?_
          refine lv_iconst (v := 5) hx hb dX9_money_56 (by decide) ?_
          obtain ⟨_, eo57, h⟩ := ob h
          obtain ⟨r57, u57, e57, h⟩ := obI h
          refine gx_cV C hG hS [.int (5 : Int32)] rfl eo57 (tX9_finding e57) qcX9_89 ⟨rfl, rfl, Nat.le_of_ble_eq_true rfl, Nat.le_of_ble_eq_true rfl⟩ ⟨Nat.zero_le _, Nat.zero_le _⟩ rfl hl.1 rfl (Nat.le_of_ble_eq_true rfl) (st1 := [.int r57]) rfl dX9_money_57 (fun H locs hG hS => ?_)
          cases Option.some.inj h
          exact gx_reti C hG hS dX9_money_60
        · replace h := it_neg hc h
          refine gx_aload (r := r2) hx hb dX9_money_45 (lv_at hl 0 rfl) ?_
          obtain ⟨_, e47, h⟩ := ob h
          refine gx_cast C hG e47 ckX9_97 dX9_money_47 ?_
          refine gx_astore (r := r2) (i := 5) (lv' := [(5, va_rf r2), (4, va_rf r2), (0, va_rf (some x0)), (1, .int x1), (2, .int x2), (3, .int x3)]) hx hb dX9_money_50 hl (by decide) (by simp [gx_cat, gx_catI, gx_catJ]) (fun ls hl => ?_)
          refine lv_goto (tgt := 61) hx hb dX9_money_52 (by decide) ?_
          refine gx_aload (r := r2) hx hb dX9_money_61 (lv_at hl 0 rfl) ?_
          obtain ⟨a63, na63, h⟩ := ob h
          obtain ⟨v63, e63, h⟩ := ob h
          refine gx_getI C hG na63 e63 fgX9_296 dX9_money_63 ?_
          refine lv_if_eq (tgt := 75) hx hb dX9_money_66 (by decide) (fun hc => ?_) (fun hc => ?_)
          · replace h := it_pos hc h
            refine gx_aload (r := r2) hx hb dX9_money_75 (lv_at hl 0 rfl) ?_
            obtain ⟨a77, na77, h⟩ := ob h
            obtain ⟨v77, e77, h⟩ := ob h
            refine gx_getR C hG na77 e77 fgX9_297 dX9_money_77 ?_
            refine lv_iload_n hx hb dX9_money_80 rfl (lv_at hl 4 rfl) ?_
            refine lv_iload_n hx hb dX9_money_81 rfl (lv_at hl 5 rfl) ?_
            obtain ⟨a82, na82, h⟩ := ob h
            obtain ⟨u82, e82, h⟩ := ob h
            refine gx_iast C hG hS na82 e82 dX9_money_82 (fun H locs hG hS => ?_)
            refine gx_aload (r := r2) hx hb dX9_money_83 (lv_at hl 0 rfl) ?_
            obtain ⟨a85, na85, h⟩ := ob h
            obtain ⟨_, eo85, h⟩ := ob h
            obtain ⟨r85, u85, e85, h⟩ := obI h
            refine gx_cV C hG hS [] na85 eo85 (tX5_handsThatCounted e85) qcX9_300 ⟨rfl, rfl, Nat.le_of_ble_eq_true rfl, Nat.le_of_ble_eq_true rfl⟩ ⟨Nat.zero_le _, Nat.zero_le _⟩ rfl hl.1 rfl (Nat.le_of_ble_eq_true rfl) (st1 := [.int r85]) rfl dX9_money_85 (fun H locs hG hS => ?_)
            cases Option.some.inj h
            exact gx_reti C hG hS dX9_money_88
          · replace h := it_neg hc h
            refine gx_aload_n (r := (some x0)) hx hb dX9_money_69 rfl (lv_at hl 2 rfl) ?_
            refine lv_iconst (v := 3) hx hb dX9_money_70 (by decide) ?_
            obtain ⟨_, eo71, h⟩ := ob h
            obtain ⟨r71, u71, e71, h⟩ := obI h
            refine gx_cV C hG hS [.int (3 : Int32)] rfl eo71 (tX9_finding e71) qcX9_89 ⟨rfl, rfl, Nat.le_of_ble_eq_true rfl, Nat.le_of_ble_eq_true rfl⟩ ⟨Nat.zero_le _, Nat.zero_le _⟩ rfl hl.1 rfl (Nat.le_of_ble_eq_true rfl) (st1 := [.int r71]) rfl dX9_money_71 (fun H locs hG hS => ?_)
            cases Option.some.inj h
            exact gx_reti C hG hS dX9_money_74
      · replace h := it_pos hc h
        refine gx_aload_n (r := (some x0)) hx hb dX9_money_31 rfl (lv_at hl 1 rfl) ?_
        refine lv_iconst (v := 1) hx hb dX9_money_32 (by decide) ?_
        obtain ⟨_, eo33, h⟩ := ob h
        obtain ⟨r33, u33, e33, h⟩ := obI h
        refine gx_cV C hG hS [.int (1 : Int32)] rfl eo33 (tX9_finding e33) qcX9_89 ⟨rfl, rfl, Nat.le_of_ble_eq_true rfl, Nat.le_of_ble_eq_true rfl⟩ ⟨Nat.zero_le _, Nat.zero_le _⟩ rfl hl.1 rfl (Nat.le_of_ble_eq_true rfl) (st1 := [.int r33]) rfl dX9_money_33 (fun H locs hG hS => ?_)
        cases Option.some.inj h
        exact gx_reti C hG hS dX9_money_36
theorem tX9_money {Γ : gEnv} {N : Nat} {x0 : Nat} {x1 : Int32} {x2 : Int32} {x3 : Int32} {u v : gM} {r : Int32} (h : fX9_money x0 x1 x2 x3 u = some (r, v)) : Met l yX9_money (Cond.code yX9_money cX9_money 6 (some .int) :: gW) rmX9_money (va_Pc [va_rf (some x0), .int x1, .int x2, .int x3] (gPre Γ u N)) (gQ Γ (some (.int r)) v N) 0 0 Γ.2.2.1 :=
  gx_met (nm := "money") ⟨by decide +kernel, rfl, rfl⟩ (Nat.le_of_ble_eq_true rfl) (fun p e s m below meth c ls C hG hl => wX9_money C h hG va_S.rf hl)
abbrev rmX9_counted : Room := { frames := 4, cells := 0, slots := 0, locals := 85 }
def fX9_counted (x0 : Nat) (x1 : Int32) (u : gM) : Option (Int32 × gM) :=
  (gO [10] u x0).bind fun _ =>
  bI (fX9_thingOf x0 x1 u) fun r2 u2 =>
  if r2 = none then (
    (gO [10] u2 x0).bind fun _ =>
    bI (fX9_finding x0 (1 : Int32) u2) fun r12 u12 =>
    some (r12, u12)
  ) else (
    (iS u2 r2).bind fun v17 =>
    if v17 = 0 then (
      (gO [10] u2 x0).bind fun _ =>
      bI (fX9_finding x0 (5 : Int32) u2) fun r33 u33 =>
      some (r33, u33)
    ) else (
      (kC [6] u2 r2).bind fun _ =>
      (r2).bind fun a38 =>
      (gO [6] u2 a38).bind fun _ =>
      bI (fX5_agreedCount a38 u2) fun r38 u38 =>
      if r38 = (-1 : Int32) then (
        (gO [10] u38 x0).bind fun _ =>
        bI (fX9_finding x0 (2 : Int32) u38) fun r51 u51 =>
        some (r51, u51)
      ) else (
        some (r38, u38)
      )
    )
  )
set_option maxHeartbeats 4000000 in
set_option maxRecDepth 20000 in
theorem wX9_counted  (C : gC p s m args meth c cX9_counted 5 (some .int) RX9 "counted" Γ){x0 : Nat} {x1 : Int32} {u : gM} {res : Int32 × gM} (h : fX9_counted x0 x1 u = some res) {H : Heap} {locs : List Loc} (hG : gAg Γ u N H) (hS : va_S Γ.2.2.1 s.heap H locs) {ls : Array Slot} (hl : lv_has ls 5 [(0, va_rf (some x0)), (1, .int x1)]) : W p l e rmX9_counted s m args below meth c H locs 0 0 (MQ below (gQ Γ (some (.int res.1)) res.2 N) args s 0 0 Γ.2.2.1) (F0 m 0 ls []) := by
  have hx := C.1
  have hb := C.2.1
  unfold fX9_counted at h
  refine gx_aload_n (r := (some x0)) hx hb dX9_counted_0 rfl (lv_at hl 0 rfl) ?_
  refine lv_iload_n hx hb dX9_counted_1 rfl (lv_at hl 1 rfl) ?_
  obtain ⟨_, eo2, h⟩ := ob h
  obtain ⟨r2, u2, e2, h⟩ := obI h
  refine gx_cV C hG hS [.int x1] rfl eo2 (tX9_thingOf e2) qcX9_119 ⟨rfl, rfl, Nat.le_of_ble_eq_true rfl, Nat.le_of_ble_eq_true rfl⟩ ⟨Nat.zero_le _, Nat.zero_le _⟩ rfl hl.1 rfl (Nat.le_of_ble_eq_true rfl) (st1 := [va_rf r2]) rfl dX9_counted_2 (fun H locs hG hS => ?_)
  refine gx_astore_n (r := r2) (i := 2) (lv' := [(2, va_rf r2), (0, va_rf (some x0)), (1, .int x1)]) hx hb dX9_counted_5 rfl hl (by decide) rfl (fun ls hl => ?_)
  refine gx_aload_n (r := r2) hx hb dX9_counted_6 rfl (lv_at hl 0 rfl) ?_
  refine gx_ifnonnull (tgt := 16) hx hb dX9_counted_7 (by decide) (fun hc => ?_) (fun hc => ?_)
  · replace h := it_neg hc h
    refine gx_aload_n (r := r2) hx hb dX9_counted_16 rfl (lv_at hl 0 rfl) ?_
    obtain ⟨v17, e17, h⟩ := ob h
    refine gx_inst C hG e17 klX9_97 dX9_counted_17 ?_
    refine lv_if_eq (tgt := 31) hx hb dX9_counted_20 (by decide) (fun hc => ?_) (fun hc => ?_)
    · replace h := it_pos hc h
      refine gx_aload_n (r := (some x0)) hx hb dX9_counted_31 rfl (lv_at hl 1 rfl) ?_
      refine lv_iconst (v := 5) hx hb dX9_counted_32 (by decide) ?_
      obtain ⟨_, eo33, h⟩ := ob h
      obtain ⟨r33, u33, e33, h⟩ := obI h
      refine gx_cV C hG hS [.int (5 : Int32)] rfl eo33 (tX9_finding e33) qcX9_89 ⟨rfl, rfl, Nat.le_of_ble_eq_true rfl, Nat.le_of_ble_eq_true rfl⟩ ⟨Nat.zero_le _, Nat.zero_le _⟩ rfl hl.1 rfl (Nat.le_of_ble_eq_true rfl) (st1 := [.int r33]) rfl dX9_counted_33 (fun H locs hG hS => ?_)
      cases Option.some.inj h
      exact gx_reti C hG hS dX9_counted_36
    · replace h := it_neg hc h
      refine gx_aload_n (r := r2) hx hb dX9_counted_23 rfl (lv_at hl 0 rfl) ?_
      obtain ⟨_, e24, h⟩ := ob h
      refine gx_cast C hG e24 ckX9_97 dX9_counted_24 ?_
      refine gx_astore_n (r := r2) (i := 3) (lv' := [(3, va_rf r2), (2, va_rf r2), (0, va_rf (some x0)), (1, .int x1)]) hx hb dX9_counted_27 rfl hl (by decide) (by simp [gx_cat, gx_catI, gx_catJ]) (fun ls hl => ?_)
      refine lv_goto (tgt := 37) hx hb dX9_counted_28 (by decide) ?_
      refine gx_aload_n (r := r2) hx hb dX9_counted_37 rfl (lv_at hl 0 rfl) ?_
      obtain ⟨a38, na38, h⟩ := ob h
      obtain ⟨_, eo38, h⟩ := ob h
      obtain ⟨r38, u38, e38, h⟩ := obI h
      refine gx_cV C hG hS [] na38 eo38 (tX5_agreedCount e38) qcX9_303 ⟨rfl, rfl, Nat.le_of_ble_eq_true rfl, Nat.le_of_ble_eq_true rfl⟩ ⟨Nat.zero_le _, Nat.zero_le _⟩ rfl hl.1 rfl (Nat.le_of_ble_eq_true rfl) (st1 := [.int r38]) rfl dX9_counted_38 (fun H locs hG hS => ?_)
      refine lv_istore (i := 4) (lv' := [(4, .int r38), (3, va_rf r2), (2, va_rf r2), (0, va_rf (some x0)), (1, .int x1)]) hx hb dX9_counted_41 hl (by decide) (by simp [gx_cat, gx_catI, gx_catJ]) (fun ls hl => ?_)
      refine lv_iload hx hb dX9_counted_43 (lv_at hl 0 rfl) ?_
      refine lv_iconst (v := -1) hx hb dX9_counted_45 (by decide) ?_
      refine lv_icmp_ne (tgt := 57) hx hb dX9_counted_46 (by decide) (fun hc => ?_) (fun hc => ?_)
      · replace h := it_neg hc h
        refine lv_iload hx hb dX9_counted_57 (lv_at hl 0 rfl) ?_
        cases Option.some.inj h
        exact gx_reti C hG hS dX9_counted_59
      · replace h := it_pos hc h
        refine gx_aload_n (r := (some x0)) hx hb dX9_counted_49 rfl (lv_at hl 3 rfl) ?_
        refine lv_iconst (v := 2) hx hb dX9_counted_50 (by decide) ?_
        obtain ⟨_, eo51, h⟩ := ob h
        obtain ⟨r51, u51, e51, h⟩ := obI h
        refine gx_cV C hG hS [.int (2 : Int32)] rfl eo51 (tX9_finding e51) qcX9_89 ⟨rfl, rfl, Nat.le_of_ble_eq_true rfl, Nat.le_of_ble_eq_true rfl⟩ ⟨Nat.zero_le _, Nat.zero_le _⟩ rfl hl.1 rfl (Nat.le_of_ble_eq_true rfl) (st1 := [.int r51]) rfl dX9_counted_51 (fun H locs hG hS => ?_)
        refine lv_goto (tgt := 59) hx hb dX9_counted_54 (by decide) ?_
        cases Option.some.inj h
        exact gx_reti C hG hS dX9_counted_59
  · replace h := it_pos hc h
    refine gx_aload_n (r := (some x0)) hx hb dX9_counted_10 rfl (lv_at hl 1 rfl) ?_
    refine lv_iconst (v := 1) hx hb dX9_counted_11 (by decide) ?_
    obtain ⟨_, eo12, h⟩ := ob h
    obtain ⟨r12, u12, e12, h⟩ := obI h
    refine gx_cV C hG hS [.int (1 : Int32)] rfl eo12 (tX9_finding e12) qcX9_89 ⟨rfl, rfl, Nat.le_of_ble_eq_true rfl, Nat.le_of_ble_eq_true rfl⟩ ⟨Nat.zero_le _, Nat.zero_le _⟩ rfl hl.1 rfl (Nat.le_of_ble_eq_true rfl) (st1 := [.int r12]) rfl dX9_counted_12 (fun H locs hG hS => ?_)
    cases Option.some.inj h
    exact gx_reti C hG hS dX9_counted_15
theorem tX9_counted {Γ : gEnv} {N : Nat} {x0 : Nat} {x1 : Int32} {u v : gM} {r : Int32} (h : fX9_counted x0 x1 u = some (r, v)) : Met l yX9_counted (Cond.code yX9_counted cX9_counted 5 (some .int) :: gW) rmX9_counted (va_Pc [va_rf (some x0), .int x1] (gPre Γ u N)) (gQ Γ (some (.int r)) v N) 0 0 Γ.2.2.1 :=
  gx_met (nm := "counted") ⟨by decide +kernel, rfl, rfl⟩ (Nat.le_of_ble_eq_true rfl) (fun p e s m below meth c ls C hG hl => wX9_counted C h hG va_S.rf hl)
abbrev rmX9_chosenAreKept : Room := { frames := 3, cells := 0, slots := 0, locals := 64 }
def fX9_chosenAreKept_2_b (x0 : Nat) (x1 : Int32) (u : gM) (k2 : Nat → Int32 → gM → Option (Int32 × gM)) : Option (Int32 × gM) :=
  (gR [10] 7 u x0).bind fun v4 =>
  (v4).bind fun a7 =>
  (gO [0] u a7).bind fun _ =>
  bI (fJx4a65c_size_8abf5 a7 u) fun r7 u7 =>
  if r7 ≤ x1 then (
    some ((1 : Int32), u7)
  ) else (
    (gR [10] 7 u7 x0).bind fun v14 =>
    (v14).bind fun a18 =>
    (gO [0] u7 a18).bind fun _ =>
    bI (fJx4a65c_get_915e3 a18 x1 u7) fun r18 u18 =>
    (kC [9, 6] u18 r18).bind fun _ =>
    (r18).bind fun a24 =>
    (gI [9, 6] 6 u18 a24).bind fun v24 =>
    if v24 = 0 then (
      k2 x0 (x1 + (1 : Int32)) u18
    ) else (
      some ((0 : Int32), u18)
    )
  )
set_option maxHeartbeats 4000000 in
set_option maxRecDepth 20000 in
theorem wX9_chosenAreKept_2_b  (C : gC p s m args meth c cX9_chosenAreKept 2 (some .boolean) RX9 "chosenAreKept" Γ){x0 : Nat} {x1 : Int32} {u : gM} {res : Int32 × gM} {k2 : Nat → Int32 → gM → Option (Int32 × gM)} (hk2 : ∀ (x0 : Nat) (x1 : Int32) (u : gM) (H : Heap) (locs : List Loc) (ls : Array Slot), k2 x0 x1 u = some res → gAg Γ u N H → va_S Γ.2.2.1 s.heap H locs → lv_has ls 2 [(0, va_rf (some x0)), (1, .int x1)] → W p l e rmX9_chosenAreKept s m args below meth c H locs 0 0 (MQ below (gQ Γ (some (.int res.1)) res.2 N) args s 0 0 Γ.2.2.1) (F0 m 2 ls [])) (h : fX9_chosenAreKept_2_b x0 x1 u k2 = some res) {H : Heap} {locs : List Loc} (hG : gAg Γ u N H) (hS : va_S Γ.2.2.1 s.heap H locs) {ls : Array Slot} (hl : lv_has ls 2 [(0, va_rf (some x0)), (1, .int x1)]) : W p l e rmX9_chosenAreKept s m args below meth c H locs 0 0 (MQ below (gQ Γ (some (.int res.1)) res.2 N) args s 0 0 Γ.2.2.1) (F0 m 2 ls []) := by
  have hx := C.1
  have hb := C.2.1
  unfold fX9_chosenAreKept_2_b at h
  refine lv_iload_n hx hb dX9_chosenAreKept_2 rfl (lv_at hl 1 rfl) ?_
  refine gx_aload_n (r := (some x0)) hx hb dX9_chosenAreKept_3 rfl (lv_at hl 0 rfl) ?_
  obtain ⟨v4, e4, h⟩ := ob h
  refine gx_getR C hG rfl e4 fgX9_35 dX9_chosenAreKept_4 ?_
  obtain ⟨a7, na7, h⟩ := ob h
  obtain ⟨_, eo7, h⟩ := ob h
  obtain ⟨r7, u7, e7, h⟩ := obI h
  refine gx_cV C hG hS [] na7 eo7 (tJx4a65c_size_8abf5 e7) qcX9_93 ⟨rfl, rfl, Nat.le_of_ble_eq_true rfl, Nat.le_of_ble_eq_true rfl⟩ ⟨Nat.zero_le _, Nat.zero_le _⟩ rfl hl.1 rfl (Nat.le_of_ble_eq_true rfl) (st1 := [.int r7, .int x1]) rfl dX9_chosenAreKept_7 (fun H locs hG hS => ?_)
  refine lv_icmp_ge (tgt := 38) hx hb dX9_chosenAreKept_10 (by decide) (fun hc => ?_) (fun hc => ?_)
  · replace h := it_pos hc h
    refine lv_iconst (v := 1) hx hb dX9_chosenAreKept_38 (by decide) ?_
    cases Option.some.inj h
    exact gx_retz C (Or.inr rfl) hG hS dX9_chosenAreKept_39
  · replace h := it_neg hc h
    refine gx_aload_n (r := (some x0)) hx hb dX9_chosenAreKept_13 rfl (lv_at hl 0 rfl) ?_
    obtain ⟨v14, e14, h⟩ := ob h
    refine gx_getR C hG rfl e14 fgX9_35 dX9_chosenAreKept_14 ?_
    refine lv_iload_n hx hb dX9_chosenAreKept_17 rfl (lv_at hl 1 rfl) ?_
    obtain ⟨a18, na18, h⟩ := ob h
    obtain ⟨_, eo18, h⟩ := ob h
    obtain ⟨r18, u18, e18, h⟩ := obI h
    refine gx_cV C hG hS [.int x1] na18 eo18 (tJx4a65c_get_915e3 e18) qcX9_144 ⟨rfl, rfl, Nat.le_of_ble_eq_true rfl, Nat.le_of_ble_eq_true rfl⟩ ⟨Nat.zero_le _, Nat.zero_le _⟩ rfl hl.1 rfl (Nat.le_of_ble_eq_true rfl) (st1 := [va_rf r18]) rfl dX9_chosenAreKept_18 (fun H locs hG hS => ?_)
    obtain ⟨_, e21, h⟩ := ob h
    refine gx_cast C hG e21 ckX9_102 dX9_chosenAreKept_21 ?_
    obtain ⟨a24, na24, h⟩ := ob h
    obtain ⟨v24, e24, h⟩ := ob h
    refine gx_getI C hG na24 e24 fgX9_138 dX9_chosenAreKept_24 ?_
    refine lv_if_eq (tgt := 32) hx hb dX9_chosenAreKept_27 (by decide) (fun hc => ?_) (fun hc => ?_)
    · replace h := it_pos hc h
      refine lv_iinc (v := x1 + (1 : Int32)) (lv' := [(1, .int (x1 + (1 : Int32))), (0, va_rf (some x0))]) hx hb dX9_chosenAreKept_32 hl (k := 1) rfl rfl (by decide) rfl (fun ls hl => ?_)
      refine lv_goto (tgt := 2) hx hb dX9_chosenAreKept_35 (by decide) ?_
      exact hk2 _ _ _ _ _ _ h hG hS (lv_sub hl [1, 0] rfl)
    · replace h := it_neg hc h
      refine lv_iconst (v := 0) hx hb dX9_chosenAreKept_30 (by decide) ?_
      cases Option.some.inj h
      exact gx_retz C (Or.inl rfl) hG hS dX9_chosenAreKept_31
def fX9_chosenAreKept_2 : Nat → Nat → Int32 → gM → Option (Int32 × gM)
  | 0 => fun _ _ _ => none
  | n + 1 => fun x0 x1 u => fX9_chosenAreKept_2_b x0 x1 u (fX9_chosenAreKept_2 n) 
theorem wX9_chosenAreKept_2 (C : gC p s m args meth c cX9_chosenAreKept 2 (some .boolean) RX9 "chosenAreKept" Γ) {res : Int32 × gM} (n : Nat) : ∀ {x0 : Nat} {x1 : Int32} {u : gM} {H : Heap} {locs : List Loc} {ls : Array Slot}, fX9_chosenAreKept_2 n x0 x1 u = some res → gAg Γ u N H → va_S Γ.2.2.1 s.heap H locs → lv_has ls 2 [(0, va_rf (some x0)), (1, .int x1)] → W p l e rmX9_chosenAreKept s m args below meth c H locs 0 0 (MQ below (gQ Γ (some (.int res.1)) res.2 N) args s 0 0 Γ.2.2.1) (F0 m 2 ls []) := by
  induction n with
  | zero => intro _ _ _ _ _ _ h _ _ _; cases (show (none : Option (Int32 × gM)) = some res from h)
  | succ n ih => intro _ _ _ _ _ _ h hG hS hl; exact wX9_chosenAreKept_2_b C (fun _ _ _ _ _ _ h hG hS hl => ih h hG hS hl) h hG hS hl
def fX9_chosenAreKept (x0 : Nat) (u : gM) : Option (Int32 × gM) :=
  fX9_chosenAreKept_2  FU x0 (0 : Int32) u
set_option maxHeartbeats 4000000 in
set_option maxRecDepth 20000 in
theorem wX9_chosenAreKept  (C : gC p s m args meth c cX9_chosenAreKept 2 (some .boolean) RX9 "chosenAreKept" Γ){x0 : Nat} {u : gM} {res : Int32 × gM} (h : fX9_chosenAreKept x0 u = some res) {H : Heap} {locs : List Loc} (hG : gAg Γ u N H) (hS : va_S Γ.2.2.1 s.heap H locs) {ls : Array Slot} (hl : lv_has ls 2 [(0, va_rf (some x0))]) : W p l e rmX9_chosenAreKept s m args below meth c H locs 0 0 (MQ below (gQ Γ (some (.int res.1)) res.2 N) args s 0 0 Γ.2.2.1) (F0 m 0 ls []) := by
  have hx := C.1
  have hb := C.2.1
  unfold fX9_chosenAreKept at h
  refine lv_iconst (v := 0) hx hb dX9_chosenAreKept_0 (by decide) ?_
  refine lv_istore_n (i := 1) (lv' := [(1, .int (0 : Int32)), (0, va_rf (some x0))]) hx hb dX9_chosenAreKept_1 rfl hl (by decide) rfl (fun ls hl => ?_)
  exact wX9_chosenAreKept_2 C  FU h hG hS (lv_sub hl [1, 0] rfl)
theorem tX9_chosenAreKept {Γ : gEnv} {N : Nat} {x0 : Nat} {u v : gM} {r : Int32} (h : fX9_chosenAreKept x0 u = some (r, v)) : Met l yX9_chosenAreKept (Cond.code yX9_chosenAreKept cX9_chosenAreKept 2 (some .boolean) :: gW) rmX9_chosenAreKept (va_Pc [va_rf (some x0)] (gPre Γ u N)) (gQ Γ (some (.int r)) v N) 0 0 Γ.2.2.1 :=
  gx_met (nm := "chosenAreKept") ⟨by decide +kernel, rfl, rfl⟩ (Nat.le_of_ble_eq_true rfl) (fun p e s m below meth c ls C hG hl => wX9_chosenAreKept C h hG va_S.rf hl)
abbrev rmX9_burst (a b : Nat) : Room := { frames := 8, cells := a, slots := b, locals := 193 }
def fX9_burst_40 (z : Nat → Nat) (x0 : Nat) (x1 : Int32) (x2 : Int32) (x3 : Int32) (u : gN) : Option (Int32 × gN) :=
  (gR [10] 7 u.1 x0).bind fun v41 =>
  (v41).bind fun a44 =>
  (gO [0] u.1 a44).bind fun _ =>
  bI (cN (fJx4a65c_size_8abf5 a44 u.1) u) fun r44 u44 =>
  if (14 : Int32) < r44 then (
    (gO [10] u44.1 x0).bind fun _ =>
    bI (cN (fX9_finding x0 (3 : Int32) u44.1) u44) fun r61 u61 =>
    some (r61, u61)
  ) else (
    (gO [10] u44.1 x0).bind fun _ =>
    bI (cN (fX9_chosenAreKept x0 u44.1) u44) fun r53 u53 =>
    if r53 = 0 then (
      (gO [10] u53.1 x0).bind fun _ =>
      bI (cN (fX9_finding x0 (3 : Int32) u53.1) u53) fun r61 u61 =>
      some (r61, u61)
    ) else (
      (gR [10] 10 u53.1 x0).bind fun v66 =>
      (gR [10] 7 u53.1 x0).bind fun v70 =>
      (v66).bind fun a75 =>
      (gO [3] u53.1 a75).bind fun _ =>
      bI (cN (fX2_nearest a75 v70 x2 x3 u53.1) u53) fun r75 u75 =>
      if r75 = 0 then (
        (gO [10] u75.1 x0).bind fun _ =>
        bI (cN (fX9_finding x0 (2 : Int32) u75.1) u75) fun r87 u87 =>
        some (r87, u87)
      ) else (
        bI (cN (fX9_spread r75 x1 u75.1) u75) fun r96 u96 =>
        some (r96, u96)
      )
    )
  )
set_option maxRecDepth 20000 in
theorem moX9_burst_40 {z : Nat → Nat} {x0 : Nat} {x1 : Int32} {x2 : Int32} {x3 : Int32} {u : gN} {res : Int32 × gN} (h : fX9_burst_40 z x0 x1 x2 x3 u = some res) : gLe u res.2 := by
  unfold fX9_burst_40 at h
  obtain ⟨v41, e41, h⟩ := ob h
  obtain ⟨a44, na44, h⟩ := ob h
  obtain ⟨_, eo44, h⟩ := ob h
  obtain ⟨r44, u44, e44, h⟩ := obI h
  refine gLe.tr (cN_le e44) ?_
  by_cases hc : (14 : Int32) < r44
  · replace h := it_pos hc h
    obtain ⟨_, eo61, h⟩ := ob h
    obtain ⟨r61, u61, e61, h⟩ := obI h
    refine gLe.tr (cN_le e61) ?_
    cases Option.some.inj h
    exact gLe.rf _
  · replace h := it_neg hc h
    obtain ⟨_, eo53, h⟩ := ob h
    obtain ⟨r53, u53, e53, h⟩ := obI h
    refine gLe.tr (cN_le e53) ?_
    by_cases hc : r53 = 0
    · replace h := it_pos hc h
      obtain ⟨_, eo61, h⟩ := ob h
      obtain ⟨r61, u61, e61, h⟩ := obI h
      refine gLe.tr (cN_le e61) ?_
      cases Option.some.inj h
      exact gLe.rf _
    · replace h := it_neg hc h
      obtain ⟨v66, e66, h⟩ := ob h
      obtain ⟨v70, e70, h⟩ := ob h
      obtain ⟨a75, na75, h⟩ := ob h
      obtain ⟨_, eo75, h⟩ := ob h
      obtain ⟨r75, u75, e75, h⟩ := obI h
      refine gLe.tr (cN_le e75) ?_
      by_cases hc : r75 = 0
      · replace h := it_pos hc h
        obtain ⟨_, eo87, h⟩ := ob h
        obtain ⟨r87, u87, e87, h⟩ := obI h
        refine gLe.tr (cN_le e87) ?_
        cases Option.some.inj h
        exact gLe.rf _
      · replace h := it_neg hc h
        obtain ⟨r96, u96, e96, h⟩ := obI h
        refine gLe.tr (cN_le e96) ?_
        cases Option.some.inj h
        exact gLe.rf _
set_option maxHeartbeats 4000000 in
set_option maxRecDepth 20000 in
theorem wX9_burst_40 {z : Nat → Nat}  (C : gC p s m args meth c cX9_burst 5 (some .int) RX9 "burst" Γ)(hz : Γ.2.2.2 = z) {x0 : Nat} {x1 : Int32} {x2 : Int32} {x3 : Int32} {u : gN} {res : Int32 × gN} (h : fX9_burst_40 z x0 x1 x2 x3 u = some res) {H : Heap} {locs : List Loc} (hG : gAn Γ sB u H) (hS : va_S Γ.2.2.1 s.heap H locs) {ls : Array Slot} (hl : lv_has ls 5 [(0, va_rf (some x0)), (1, .int x1), (2, .int x2), (3, .int x3)]) : W p l e (rmX9_burst (res.2.2.1 - s.heap.size) (res.2.2.2 - sB)) s m args below meth c H locs (u.2.1 - s.heap.size) (u.2.2 - sB) (MQ below (gQ Γ (some (.int res.1)) res.2.1 res.2.2.1) args s (res.2.2.1 - s.heap.size) (res.2.2.2 - sB) Γ.2.2.1) (F0 m 40 ls []) := by
  have hx := C.1
  have hb := C.2.1
  have hm := moX9_burst_40 h
  unfold fX9_burst_40 at h
  refine gx_aload_n (r := (some x0)) hx hb dX9_burst_40 rfl (lv_at hl 0 rfl) ?_
  obtain ⟨v41, e41, h⟩ := ob h
  refine gx_getR C hG.1 rfl e41 fgX9_35 dX9_burst_41 ?_
  obtain ⟨a44, na44, h⟩ := ob h
  obtain ⟨_, eo44, h⟩ := ob h
  obtain ⟨r44, u44, e44, h⟩ := obI h
  obtain ⟨g44, eg44, ev44⟩ := cN_inv e44
  refine gx_cV C hG.1 hS [] na44 eo44 (tJx4a65c_size_8abf5 eg44) qcX9_93 ⟨rfl, rfl, Nat.le_of_ble_eq_true rfl, Nat.le_of_ble_eq_true rfl⟩ ⟨Nat.sub_le_sub_right hm.1 _, Nat.sub_le_sub_right hm.2 _⟩ rfl hl.1 rfl (Nat.le_of_ble_eq_true rfl) (st1 := [.int r44]) rfl dX9_burst_44 (fun H locs hg hS2 => gy_w (H0 := _) hG ev44 hg (fun hG => ?_))
  replace hS := hS2
  replace hm : gLe u44 res.2 := by rw [ev44]; exact hm
  refine lv_bipush (v := 14) hx hb dX9_burst_47 (by decide) ?_
  refine lv_icmp_gt (tgt := 59) hx hb dX9_burst_49 (by decide) (fun hc => ?_) (fun hc => ?_)
  · replace h := it_pos hc h
    refine gx_aload_n (r := (some x0)) hx hb dX9_burst_59 rfl (lv_at hl 0 rfl) ?_
    refine lv_iconst (v := 3) hx hb dX9_burst_60 (by decide) ?_
    obtain ⟨_, eo61, h⟩ := ob h
    obtain ⟨r61, u61, e61, h⟩ := obI h
    obtain ⟨g61, eg61, ev61⟩ := cN_inv e61
    refine gx_cV C hG.1 hS [.int (3 : Int32)] rfl eo61 (tX9_finding eg61) qcX9_89 ⟨rfl, rfl, Nat.le_of_ble_eq_true rfl, Nat.le_of_ble_eq_true rfl⟩ ⟨Nat.sub_le_sub_right hm.1 _, Nat.sub_le_sub_right hm.2 _⟩ rfl hl.1 rfl (Nat.le_of_ble_eq_true rfl) (st1 := [.int r61]) rfl dX9_burst_61 (fun H locs hg hS2 => gy_w (H0 := _) hG ev61 hg (fun hG => ?_))
    replace hS := hS2
    replace hm : gLe u61 res.2 := by rw [ev61]; exact hm
    cases Option.some.inj h
    exact gx_reti C hG.1 hS dX9_burst_64
  · replace h := it_neg hc h
    refine gx_aload_n (r := (some x0)) hx hb dX9_burst_52 rfl (lv_at hl 0 rfl) ?_
    obtain ⟨_, eo53, h⟩ := ob h
    obtain ⟨r53, u53, e53, h⟩ := obI h
    obtain ⟨g53, eg53, ev53⟩ := cN_inv e53
    refine gx_cV C hG.1 hS [] rfl eo53 (tX9_chosenAreKept eg53) qcX9_306 ⟨rfl, rfl, Nat.le_of_ble_eq_true rfl, Nat.le_of_ble_eq_true rfl⟩ ⟨Nat.sub_le_sub_right hm.1 _, Nat.sub_le_sub_right hm.2 _⟩ rfl hl.1 rfl (Nat.le_of_ble_eq_true rfl) (st1 := [.int r53]) rfl dX9_burst_53 (fun H locs hg hS2 => gy_w (H0 := _) hG ev53 hg (fun hG => ?_))
    replace hS := hS2
    replace hm : gLe u53 res.2 := by rw [ev53]; exact hm
    refine lv_if_ne (tgt := 65) hx hb dX9_burst_56 (by decide) (fun hc => ?_) (fun hc => ?_)
    · replace h := it_neg hc h
      refine gx_aload_n (r := (some x0)) hx hb dX9_burst_65 rfl (lv_at hl 0 rfl) ?_
      obtain ⟨v66, e66, h⟩ := ob h
      refine gx_getR C hG.1 rfl e66 fgX9_55 dX9_burst_66 ?_
      refine gx_aload_n (r := (some x0)) hx hb dX9_burst_69 rfl (lv_at hl 0 rfl) ?_
      obtain ⟨v70, e70, h⟩ := ob h
      refine gx_getR C hG.1 rfl e70 fgX9_35 dX9_burst_70 ?_
      refine lv_iload_n hx hb dX9_burst_73 rfl (lv_at hl 2 rfl) ?_
      refine lv_iload_n hx hb dX9_burst_74 rfl (lv_at hl 3 rfl) ?_
      obtain ⟨a75, na75, h⟩ := ob h
      obtain ⟨_, eo75, h⟩ := ob h
      obtain ⟨r75, u75, e75, h⟩ := obI h
      obtain ⟨g75, eg75, ev75⟩ := cN_inv e75
      refine gx_cV C hG.1 hS [va_rf v70, .int x2, .int x3] na75 eo75 (tX2_nearest eg75) qcX9_309 ⟨rfl, rfl, Nat.le_of_ble_eq_true rfl, Nat.le_of_ble_eq_true rfl⟩ ⟨Nat.sub_le_sub_right hm.1 _, Nat.sub_le_sub_right hm.2 _⟩ rfl hl.1 rfl (Nat.le_of_ble_eq_true rfl) (st1 := [.int r75]) rfl dX9_burst_75 (fun H locs hg hS2 => gy_w (H0 := _) hG ev75 hg (fun hG => ?_))
      replace hS := hS2
      replace hm : gLe u75 res.2 := by rw [ev75]; exact hm
      refine lv_istore (i := 4) (lv' := [(4, .int r75), (0, va_rf (some x0)), (1, .int x1), (2, .int x2), (3, .int x3)]) hx hb dX9_burst_78 hl (by decide) rfl (fun ls hl => ?_)
      refine lv_iload hx hb dX9_burst_80 (lv_at hl 0 rfl) ?_
      refine lv_if_ne (tgt := 93) hx hb dX9_burst_82 (by decide) (fun hc => ?_) (fun hc => ?_)
      · replace h := it_neg hc h
        refine lv_iload hx hb dX9_burst_93 (lv_at hl 0 rfl) ?_
        refine lv_iload_n hx hb dX9_burst_95 rfl (lv_at hl 2 rfl) ?_
        obtain ⟨r96, u96, e96, h⟩ := obI h
        obtain ⟨g96, eg96, ev96⟩ := cN_inv e96
        refine gx_cS C hG.1 hS [.int r75, .int x1] (tX9_spread eg96) qcX9_279 ⟨rfl, rfl, Nat.le_of_ble_eq_true rfl, Nat.le_of_ble_eq_true rfl⟩ ⟨Nat.sub_le_sub_right hm.1 _, Nat.sub_le_sub_right hm.2 _⟩ rfl hl.1 rfl (Nat.le_of_ble_eq_true rfl) (st1 := [.int r96]) rfl dX9_burst_96 (fun H locs hg hS2 => gy_w (H0 := _) hG ev96 hg (fun hG => ?_))
        replace hS := hS2
        replace hm : gLe u96 res.2 := by rw [ev96]; exact hm
        cases Option.some.inj h
        exact gx_reti C hG.1 hS dX9_burst_99
      · replace h := it_pos hc h
        refine gx_aload_n (r := (some x0)) hx hb dX9_burst_85 rfl (lv_at hl 1 rfl) ?_
        refine lv_iconst (v := 2) hx hb dX9_burst_86 (by decide) ?_
        obtain ⟨_, eo87, h⟩ := ob h
        obtain ⟨r87, u87, e87, h⟩ := obI h
        obtain ⟨g87, eg87, ev87⟩ := cN_inv e87
        refine gx_cV C hG.1 hS [.int (2 : Int32)] rfl eo87 (tX9_finding eg87) qcX9_89 ⟨rfl, rfl, Nat.le_of_ble_eq_true rfl, Nat.le_of_ble_eq_true rfl⟩ ⟨Nat.sub_le_sub_right hm.1 _, Nat.sub_le_sub_right hm.2 _⟩ rfl hl.1 rfl (Nat.le_of_ble_eq_true rfl) (st1 := [.int r87]) rfl dX9_burst_87 (fun H locs hg hS2 => gy_w (H0 := _) hG ev87 hg (fun hG => ?_))
        replace hS := hS2
        replace hm : gLe u87 res.2 := by rw [ev87]; exact hm
        refine lv_goto (tgt := 99) hx hb dX9_burst_90 (by decide) ?_
        cases Option.some.inj h
        exact gx_reti C hG.1 hS dX9_burst_99
    · replace h := it_pos hc h
      refine gx_aload_n (r := (some x0)) hx hb dX9_burst_59 rfl (lv_at hl 0 rfl) ?_
      refine lv_iconst (v := 3) hx hb dX9_burst_60 (by decide) ?_
      obtain ⟨_, eo61, h⟩ := ob h
      obtain ⟨r61, u61, e61, h⟩ := obI h
      obtain ⟨g61, eg61, ev61⟩ := cN_inv e61
      refine gx_cV C hG.1 hS [.int (3 : Int32)] rfl eo61 (tX9_finding eg61) qcX9_89 ⟨rfl, rfl, Nat.le_of_ble_eq_true rfl, Nat.le_of_ble_eq_true rfl⟩ ⟨Nat.sub_le_sub_right hm.1 _, Nat.sub_le_sub_right hm.2 _⟩ rfl hl.1 rfl (Nat.le_of_ble_eq_true rfl) (st1 := [.int r61]) rfl dX9_burst_61 (fun H locs hg hS2 => gy_w (H0 := _) hG ev61 hg (fun hG => ?_))
      replace hS := hS2
      replace hm : gLe u61 res.2 := by rw [ev61]; exact hm
      cases Option.some.inj h
      exact gx_reti C hG.1 hS dX9_burst_64
def fX9_burst (z : Nat → Nat) (x0 : Nat) (x1 : Int32) (x2 : Int32) (x3 : Int32) (u : gN) : Option (Int32 × gN) :=
  (gO [10] u.1 x0).bind fun _ =>
  bI (cN (fX9_hasBitOfNoThing x0 x1 u.1) u) fun r2 u2 =>
  if r2 = 0 then (
    bI (cN (fX9_within x2 (1 : Int32) (100000 : Int32) u2.1) u2) fun r12 u12 =>
    if r12 = 0 then (
      (gO [10] u12.1 x0).bind fun _ =>
      bI (cN (fX9_finding x0 (1 : Int32) u12.1) u12) fun r31 u31 =>
      some (r31, u31)
    ) else (
      bI (cN (fX9_within x3 (0 : Int32) (1000 : Int32) u12.1) u12) fun r23 u23 =>
      if r23 = 0 then (
        (gO [10] u23.1 x0).bind fun _ =>
        bI (cN (fX9_finding x0 (1 : Int32) u23.1) u23) fun r31 u31 =>
        some (r31, u31)
      ) else (
        (gO [10] u23.1 x0).bind fun _ =>
        (fX9_choose z x0 x1 u23).bind fun u37 =>
        fX9_burst_40 z x0 x1 x2 x3 u37 
      )
    )
  ) else (
    (gO [10] u2.1 x0).bind fun _ =>
    bI (cN (fX9_finding x0 (1 : Int32) u2.1) u2) fun r31 u31 =>
    some (r31, u31)
  )
set_option maxRecDepth 20000 in
theorem moX9_burst {z : Nat → Nat} {x0 : Nat} {x1 : Int32} {x2 : Int32} {x3 : Int32} {u : gN} {res : Int32 × gN} (h : fX9_burst z x0 x1 x2 x3 u = some res) : gLe u res.2 := by
  unfold fX9_burst at h
  obtain ⟨_, eo2, h⟩ := ob h
  obtain ⟨r2, u2, e2, h⟩ := obI h
  refine gLe.tr (cN_le e2) ?_
  by_cases hc : r2 = 0
  · replace h := it_pos hc h
    obtain ⟨r12, u12, e12, h⟩ := obI h
    refine gLe.tr (cN_le e12) ?_
    by_cases hc : r12 = 0
    · replace h := it_pos hc h
      obtain ⟨_, eo31, h⟩ := ob h
      obtain ⟨r31, u31, e31, h⟩ := obI h
      refine gLe.tr (cN_le e31) ?_
      cases Option.some.inj h
      exact gLe.rf _
    · replace h := it_neg hc h
      obtain ⟨r23, u23, e23, h⟩ := obI h
      refine gLe.tr (cN_le e23) ?_
      by_cases hc : r23 = 0
      · replace h := it_pos hc h
        obtain ⟨_, eo31, h⟩ := ob h
        obtain ⟨r31, u31, e31, h⟩ := obI h
        refine gLe.tr (cN_le e31) ?_
        cases Option.some.inj h
        exact gLe.rf _
      · replace h := it_neg hc h
        obtain ⟨_, eo37, h⟩ := ob h
        obtain ⟨u37, e37, h⟩ := ob h
        refine gLe.tr (moX9_choose e37) ?_
        exact moX9_burst_40  h
  · replace h := it_neg hc h
    obtain ⟨_, eo31, h⟩ := ob h
    obtain ⟨r31, u31, e31, h⟩ := obI h
    refine gLe.tr (cN_le e31) ?_
    cases Option.some.inj h
    exact gLe.rf _
set_option maxHeartbeats 4000000 in
set_option maxRecDepth 20000 in
theorem wX9_burst {z : Nat → Nat}  (C : gC p s m args meth c cX9_burst 5 (some .int) RX9 "burst" Γ)(hz : Γ.2.2.2 = z) {x0 : Nat} {x1 : Int32} {x2 : Int32} {x3 : Int32} {u : gN} {res : Int32 × gN} (h : fX9_burst z x0 x1 x2 x3 u = some res) {H : Heap} {locs : List Loc} (hG : gAn Γ sB u H) (hS : va_S Γ.2.2.1 s.heap H locs) {ls : Array Slot} (hl : lv_has ls 5 [(0, va_rf (some x0)), (1, .int x1), (2, .int x2), (3, .int x3)]) : W p l e (rmX9_burst (res.2.2.1 - s.heap.size) (res.2.2.2 - sB)) s m args below meth c H locs (u.2.1 - s.heap.size) (u.2.2 - sB) (MQ below (gQ Γ (some (.int res.1)) res.2.1 res.2.2.1) args s (res.2.2.1 - s.heap.size) (res.2.2.2 - sB) Γ.2.2.1) (F0 m 0 ls []) := by
  have hx := C.1
  have hb := C.2.1
  have hm := moX9_burst h
  unfold fX9_burst at h
  refine gx_aload_n (r := (some x0)) hx hb dX9_burst_0 rfl (lv_at hl 0 rfl) ?_
  refine lv_iload_n hx hb dX9_burst_1 rfl (lv_at hl 1 rfl) ?_
  obtain ⟨_, eo2, h⟩ := ob h
  obtain ⟨r2, u2, e2, h⟩ := obI h
  obtain ⟨g2, eg2, ev2⟩ := cN_inv e2
  refine gx_cV C hG.1 hS [.int x1] rfl eo2 (tX9_hasBitOfNoThing eg2) qcX9_246 ⟨rfl, rfl, Nat.le_of_ble_eq_true rfl, Nat.le_of_ble_eq_true rfl⟩ ⟨Nat.sub_le_sub_right hm.1 _, Nat.sub_le_sub_right hm.2 _⟩ rfl hl.1 rfl (Nat.le_of_ble_eq_true rfl) (st1 := [.int r2]) rfl dX9_burst_2 (fun H locs hg hS2 => gy_w (H0 := _) hG ev2 hg (fun hG => ?_))
  replace hS := hS2
  replace hm : gLe u2 res.2 := by rw [ev2]; exact hm
  refine lv_if_ne (tgt := 29) hx hb dX9_burst_5 (by decide) (fun hc => ?_) (fun hc => ?_)
  · replace h := it_neg hc h
    refine gx_aload_n (r := (some x0)) hx hb dX9_burst_29 rfl (lv_at hl 0 rfl) ?_
    refine lv_iconst (v := 1) hx hb dX9_burst_30 (by decide) ?_
    obtain ⟨_, eo31, h⟩ := ob h
    obtain ⟨r31, u31, e31, h⟩ := obI h
    obtain ⟨g31, eg31, ev31⟩ := cN_inv e31
    refine gx_cV C hG.1 hS [.int (1 : Int32)] rfl eo31 (tX9_finding eg31) qcX9_89 ⟨rfl, rfl, Nat.le_of_ble_eq_true rfl, Nat.le_of_ble_eq_true rfl⟩ ⟨Nat.sub_le_sub_right hm.1 _, Nat.sub_le_sub_right hm.2 _⟩ rfl hl.1 rfl (Nat.le_of_ble_eq_true rfl) (st1 := [.int r31]) rfl dX9_burst_31 (fun H locs hg hS2 => gy_w (H0 := _) hG ev31 hg (fun hG => ?_))
    replace hS := hS2
    replace hm : gLe u31 res.2 := by rw [ev31]; exact hm
    cases Option.some.inj h
    exact gx_reti C hG.1 hS dX9_burst_34
  · replace h := it_pos hc h
    refine lv_iload_n hx hb dX9_burst_8 rfl (lv_at hl 2 rfl) ?_
    refine lv_iconst (v := 1) hx hb dX9_burst_9 (by decide) ?_
    refine lv_ldc (v := 100000) hx hb C.2.2.2.1 (C.2.2.2.2.1 _ (gW_mem kcX9_249)) dX9_burst_10 ?_
    obtain ⟨r12, u12, e12, h⟩ := obI h
    obtain ⟨g12, eg12, ev12⟩ := cN_inv e12
    refine gx_cS C hG.1 hS [.int x2, .int (1 : Int32), .int (100000 : Int32)] (tX9_within eg12) qcX9_85 ⟨rfl, rfl, Nat.le_of_ble_eq_true rfl, Nat.le_of_ble_eq_true rfl⟩ ⟨Nat.sub_le_sub_right hm.1 _, Nat.sub_le_sub_right hm.2 _⟩ rfl hl.1 rfl (Nat.le_of_ble_eq_true rfl) (st1 := [.int r12]) rfl dX9_burst_12 (fun H locs hg hS2 => gy_w (H0 := _) hG ev12 hg (fun hG => ?_))
    replace hS := hS2
    replace hm : gLe u12 res.2 := by rw [ev12]; exact hm
    refine lv_if_eq (tgt := 29) hx hb dX9_burst_15 (by decide) (fun hc => ?_) (fun hc => ?_)
    · replace h := it_pos hc h
      refine gx_aload_n (r := (some x0)) hx hb dX9_burst_29 rfl (lv_at hl 0 rfl) ?_
      refine lv_iconst (v := 1) hx hb dX9_burst_30 (by decide) ?_
      obtain ⟨_, eo31, h⟩ := ob h
      obtain ⟨r31, u31, e31, h⟩ := obI h
      obtain ⟨g31, eg31, ev31⟩ := cN_inv e31
      refine gx_cV C hG.1 hS [.int (1 : Int32)] rfl eo31 (tX9_finding eg31) qcX9_89 ⟨rfl, rfl, Nat.le_of_ble_eq_true rfl, Nat.le_of_ble_eq_true rfl⟩ ⟨Nat.sub_le_sub_right hm.1 _, Nat.sub_le_sub_right hm.2 _⟩ rfl hl.1 rfl (Nat.le_of_ble_eq_true rfl) (st1 := [.int r31]) rfl dX9_burst_31 (fun H locs hg hS2 => gy_w (H0 := _) hG ev31 hg (fun hG => ?_))
      replace hS := hS2
      replace hm : gLe u31 res.2 := by rw [ev31]; exact hm
      cases Option.some.inj h
      exact gx_reti C hG.1 hS dX9_burst_34
    · replace h := it_neg hc h
      refine lv_iload_n hx hb dX9_burst_18 rfl (lv_at hl 3 rfl) ?_
      refine lv_iconst (v := 0) hx hb dX9_burst_19 (by decide) ?_
      refine lv_sipush (v := 1000) hx hb dX9_burst_20 (by decide) ?_
      obtain ⟨r23, u23, e23, h⟩ := obI h
      obtain ⟨g23, eg23, ev23⟩ := cN_inv e23
      refine gx_cS C hG.1 hS [.int x3, .int (0 : Int32), .int (1000 : Int32)] (tX9_within eg23) qcX9_85 ⟨rfl, rfl, Nat.le_of_ble_eq_true rfl, Nat.le_of_ble_eq_true rfl⟩ ⟨Nat.sub_le_sub_right hm.1 _, Nat.sub_le_sub_right hm.2 _⟩ rfl hl.1 rfl (Nat.le_of_ble_eq_true rfl) (st1 := [.int r23]) rfl dX9_burst_23 (fun H locs hg hS2 => gy_w (H0 := _) hG ev23 hg (fun hG => ?_))
      replace hS := hS2
      replace hm : gLe u23 res.2 := by rw [ev23]; exact hm
      refine lv_if_ne (tgt := 35) hx hb dX9_burst_26 (by decide) (fun hc => ?_) (fun hc => ?_)
      · replace h := it_neg hc h
        refine gx_aload_n (r := (some x0)) hx hb dX9_burst_35 rfl (lv_at hl 0 rfl) ?_
        refine lv_iload_n hx hb dX9_burst_36 rfl (lv_at hl 1 rfl) ?_
        obtain ⟨_, eo37, h⟩ := ob h
        obtain ⟨u37, e37, h⟩ := ob h
        have hle := moX9_choose e37
        have hm2 : gLe u37 res.2 := by
          exact moX9_burst_40  h
        refine gx_cV C hG.1 hS [.int x1] rfl eo37 (tX9_choose hz e37) qcX9_250 ⟨rfl, rfl, Nat.le_of_ble_eq_true rfl, Nat.le_of_ble_eq_true rfl⟩ (gy_room hG hS hle ⟨Nat.sub_le_sub_right hm2.1 _, Nat.sub_le_sub_right hm2.2 _⟩) rfl hl.1 rfl (Nat.le_of_ble_eq_true rfl) (st1 := []) rfl dX9_burst_37 (fun H locs hg hS2 => gy_ret hG hS hle hg (fun hG => ?_))
        replace hS := hS2
        exact wX9_burst_40 C hz  h hG hS (lv_sub hl [0, 1, 2, 3] rfl)
      · replace h := it_pos hc h
        refine gx_aload_n (r := (some x0)) hx hb dX9_burst_29 rfl (lv_at hl 0 rfl) ?_
        refine lv_iconst (v := 1) hx hb dX9_burst_30 (by decide) ?_
        obtain ⟨_, eo31, h⟩ := ob h
        obtain ⟨r31, u31, e31, h⟩ := obI h
        obtain ⟨g31, eg31, ev31⟩ := cN_inv e31
        refine gx_cV C hG.1 hS [.int (1 : Int32)] rfl eo31 (tX9_finding eg31) qcX9_89 ⟨rfl, rfl, Nat.le_of_ble_eq_true rfl, Nat.le_of_ble_eq_true rfl⟩ ⟨Nat.sub_le_sub_right hm.1 _, Nat.sub_le_sub_right hm.2 _⟩ rfl hl.1 rfl (Nat.le_of_ble_eq_true rfl) (st1 := [.int r31]) rfl dX9_burst_31 (fun H locs hg hS2 => gy_w (H0 := _) hG ev31 hg (fun hG => ?_))
        replace hS := hS2
        replace hm : gLe u31 res.2 := by rw [ev31]; exact hm
        cases Option.some.inj h
        exact gx_reti C hG.1 hS dX9_burst_34
theorem tX9_burst {Γ : gEnv} {z : Nat → Nat} (hz : Γ.2.2.2 = z) {x0 : Nat} {x1 : Int32} {x2 : Int32} {x3 : Int32} {u v : gN} {r : Int32} (h : fX9_burst z x0 x1 x2 x3 u = some (r, v)) : Met l yX9_burst (Cond.code yX9_burst cX9_burst 5 (some .int) :: gW) (rmX9_burst (v.2.1 - u.2.1) (v.2.2 - u.2.2)) (va_Pc [va_rf (some x0), .int x1, .int x2, .int x3] (gPre Γ u.1 u.2.1)) (gQ Γ (some (.int r)) v.1 v.2.1) (v.2.1 - u.2.1) (v.2.2 - u.2.2) Γ.2.2.1 := by
  refine gx_met (nm := "burst") ⟨by decide +kernel, rfl, rfl⟩ (Nat.le_of_ble_eq_true rfl) (fun p e s m below meth c ls C hG hl => ?_)
  have hN : s.heap.size = u.2.1 := hG.1
  have K := wX9_burst (l := l) (e := e) (below := below) (sB := u.2.2) C hz h ⟨hG, Nat.le_refl _⟩ va_S.rf hl
  rw [hN, Nat.sub_self, Nat.sub_self] at K
  exact K
end
