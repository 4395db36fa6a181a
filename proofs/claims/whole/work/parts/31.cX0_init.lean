section
variable {p : Program} {l : Launch} {e : Env} {s : State} {m : MethodId} {args : Array Value} {below : List Frame} {meth : Method} {c : Code} {Γ : gEnv} {N sB : Nat}
abbrev rmX0_init : Room := { frames := 1, cells := 0, slots := 0, locals := 12 }
def fX0_init (x0 : Nat) (x1 : Int32) (x2 : Int32) (x3 : Int32) (u : gM) : Option (gM) :=
  (pV [1] 0 (.int x1) u x0).bind fun u6 =>
  (pV [1] 1 (.int x2) u6 x0).bind fun u11 =>
  (pV [1] 2 (.int x3) u11 x0).bind fun u16 =>
  some u16
set_option maxHeartbeats 4000000 in
set_option maxRecDepth 20000 in
theorem wX0_init  (C : gC p s m args meth c cX0_init 4 none RX0 "<init>" Γ){x0 : Nat} {x1 : Int32} {x2 : Int32} {x3 : Int32} {u : gM} {res : gM} (h : fX0_init x0 x1 x2 x3 u = some res) {H : Heap} {locs : List Loc} (hG : gAg Γ u N H) (hS : va_S Γ.2.2.1 s.heap H locs) {ls : Array Slot} (hl : lv_has ls 4 [(0, va_rf (some x0)), (1, .int x1), (2, .int x2), (3, .int x3)]) : W p l e rmX0_init s m args below meth c H locs 0 0 (MQ below (gQ Γ none res N) args s 0 0 Γ.2.2.1) (F0 m 0 ls []) := by
  have hx := C.1
  have hb := C.2.1
  unfold fX0_init at h
  refine gx_aload_n (r := (some x0)) hx hb dX0_init_0 rfl (lv_at hl 0 rfl) ?_
  refine gx_obj C rfl qcX0_1 hl.1 ⟨Nat.le_of_ble_eq_true rfl, Nat.le_of_ble_eq_true rfl⟩ dX0_init_1 ?_
  refine gx_aload_n (r := (some x0)) hx hb dX0_init_4 rfl (lv_at hl 0 rfl) ?_
  refine lv_iload_n hx hb dX0_init_5 rfl (lv_at hl 1 rfl) ?_
  obtain ⟨u6, e6, h⟩ := ob h
  refine gx_put C hG hS rfl e6 fgX0_7 fpX0_7 (fun _ => rfl) rfl rfl dX0_init_6 (fun H locs hG hS => ?_)
  refine gx_aload_n (r := (some x0)) hx hb dX0_init_9 rfl (lv_at hl 0 rfl) ?_
  refine lv_iload_n hx hb dX0_init_10 rfl (lv_at hl 2 rfl) ?_
  obtain ⟨u11, e11, h⟩ := ob h
  refine gx_put C hG hS rfl e11 fgX0_13 fpX0_13 (fun _ => rfl) rfl rfl dX0_init_11 (fun H locs hG hS => ?_)
  refine gx_aload_n (r := (some x0)) hx hb dX0_init_14 rfl (lv_at hl 0 rfl) ?_
  refine lv_iload_n hx hb dX0_init_15 rfl (lv_at hl 3 rfl) ?_
  obtain ⟨u16, e16, h⟩ := ob h
  refine gx_put C hG hS rfl e16 fgX0_16 fpX0_16 (fun q => by cases q) rfl rfl dX0_init_16 (fun H locs hG hS => ?_)
  cases Option.some.inj h
  exact gx_retv C hG hS dX0_init_19
theorem tX0_init {Γ : gEnv} {N : Nat} {x0 : Nat} {x1 : Int32} {x2 : Int32} {x3 : Int32} {u v : gM} (h : fX0_init x0 x1 x2 x3 u = some v) : Met l yX0_init (Cond.code yX0_init cX0_init 4 none :: gW) rmX0_init (va_Pc [va_rf (some x0), .int x1, .int x2, .int x3] (gPre Γ u N)) (gQ Γ none v N) 0 0 Γ.2.2.1 :=
  gx_met (nm := "<init>") ⟨by decide +kernel, rfl, rfl⟩ (Nat.le_of_ble_eq_true rfl) (fun p e s m below meth c ls C hG hl => wX0_init C h hG va_S.rf hl)
abbrev rmX0_agrees : Room := { frames := 0, cells := 0, slots := 0, locals := 0 }
def fX0_agrees_61 (x0 : Nat) (x1 : Int32) (x2 : Int32) (x3 : Int32) (x4 : Int32) (u : gM) (k3 : Nat → Int32 → Int32 → Int32 → Int32 → gM → Option (Int32 × gM)) : Option (Int32 × gM) :=
  k3 x0 x1 x2 x3 (x4 + (1 : Int32)) u
set_option maxHeartbeats 4000000 in
set_option maxRecDepth 20000 in
theorem wX0_agrees_61  (C : gC p s m args meth c cX0_agrees 6 (some .boolean) RX0 "agrees" Γ){x0 : Nat} {x1 : Int32} {x2 : Int32} {x3 : Int32} {x4 : Int32} {u : gM} {res : Int32 × gM} {k3 : Nat → Int32 → Int32 → Int32 → Int32 → gM → Option (Int32 × gM)} (hk3 : ∀ (x0 : Nat) (x1 : Int32) (x2 : Int32) (x3 : Int32) (x4 : Int32) (u : gM) (H : Heap) (locs : List Loc) (ls : Array Slot), k3 x0 x1 x2 x3 x4 u = some res → gAg Γ u N H → va_S Γ.2.2.1 s.heap H locs → lv_has ls 6 [(0, va_rf (some x0)), (1, .int x1), (2, .int x2), (3, .int x3), (4, .int x4)] → W p l e rmX0_agrees s m args below meth c H locs 0 0 (MQ below (gQ Γ (some (.int res.1)) res.2 N) args s 0 0 Γ.2.2.1) (F0 m 3 ls [])) (h : fX0_agrees_61 x0 x1 x2 x3 x4 u k3 = some res) {H : Heap} {locs : List Loc} (hG : gAg Γ u N H) (hS : va_S Γ.2.2.1 s.heap H locs) {ls : Array Slot} (hl : lv_has ls 6 [(0, va_rf (some x0)), (1, .int x1), (2, .int x2), (3, .int x3), (4, .int x4)]) : W p l e rmX0_agrees s m args below meth c H locs 0 0 (MQ below (gQ Γ (some (.int res.1)) res.2 N) args s 0 0 Γ.2.2.1) (F0 m 61 ls []) := by
  have hx := C.1
  have hb := C.2.1
  unfold fX0_agrees_61 at h
  refine lv_iinc (v := x4 + (1 : Int32)) (lv' := [(4, .int (x4 + (1 : Int32))), (0, va_rf (some x0)), (1, .int x1), (2, .int x2), (3, .int x3)]) hx hb dX0_agrees_61 hl (k := 4) rfl rfl (by decide) rfl (fun ls hl => ?_)
  refine lv_goto (tgt := 3) hx hb dX0_agrees_64 (by decide) ?_
  exact hk3 _ _ _ _ _ _ _ _ _ h hG hS (lv_sub hl [1, 2, 3, 4, 0] rfl)
def fX0_agrees_3_b (x0 : Nat) (x1 : Int32) (x2 : Int32) (x3 : Int32) (x4 : Int32) (u : gM) (k3 : Nat → Int32 → Int32 → Int32 → Int32 → gM → Option (Int32 × gM)) : Option (Int32 × gM) :=
  if x2 ≤ x4 then (
    some ((1 : Int32), u)
  ) else (
    (gI [1] 1 u x0).bind fun v14 =>
    if v14 ≤ (x4 + x3) then (
      some ((1 : Int32), u)
    ) else (
      (tE x4).bind fun v26 =>
      if v26 = 0 then none else
      pU ((x1 / v26) - (x1 / v26) / (10 : Int32) * (10 : Int32)) fun z31 =>
      if z31 = 0 then (
        fX0_agrees_61 x0 x1 x2 x3 x4 u k3
      ) else (
        (gI [1] 0 u x0).bind fun v41 =>
        (tE (x4 + x3)).bind fun v51 =>
        if v51 = 0 then none else
        if z31 = ((v41 / v51) - (v41 / v51) / (10 : Int32) * (10 : Int32)) then (
          fX0_agrees_61 x0 x1 x2 x3 x4 u k3
        ) else (
          some ((0 : Int32), u)
        )
      )
    )
  )
set_option maxHeartbeats 4000000 in
set_option maxRecDepth 20000 in
theorem wX0_agrees_3_b  (C : gC p s m args meth c cX0_agrees 6 (some .boolean) RX0 "agrees" Γ){x0 : Nat} {x1 : Int32} {x2 : Int32} {x3 : Int32} {x4 : Int32} {u : gM} {res : Int32 × gM} {k3 : Nat → Int32 → Int32 → Int32 → Int32 → gM → Option (Int32 × gM)} (hk3 : ∀ (x0 : Nat) (x1 : Int32) (x2 : Int32) (x3 : Int32) (x4 : Int32) (u : gM) (H : Heap) (locs : List Loc) (ls : Array Slot), k3 x0 x1 x2 x3 x4 u = some res → gAg Γ u N H → va_S Γ.2.2.1 s.heap H locs → lv_has ls 6 [(0, va_rf (some x0)), (1, .int x1), (2, .int x2), (3, .int x3), (4, .int x4)] → W p l e rmX0_agrees s m args below meth c H locs 0 0 (MQ below (gQ Γ (some (.int res.1)) res.2 N) args s 0 0 Γ.2.2.1) (F0 m 3 ls [])) (h : fX0_agrees_3_b x0 x1 x2 x3 x4 u k3 = some res) {H : Heap} {locs : List Loc} (hG : gAg Γ u N H) (hS : va_S Γ.2.2.1 s.heap H locs) {ls : Array Slot} (hl : lv_has ls 6 [(0, va_rf (some x0)), (1, .int x1), (2, .int x2), (3, .int x3), (4, .int x4)]) : W p l e rmX0_agrees s m args below meth c H locs 0 0 (MQ below (gQ Γ (some (.int res.1)) res.2 N) args s 0 0 Γ.2.2.1) (F0 m 3 ls []) := by
  have hx := C.1
  have hb := C.2.1
  unfold fX0_agrees_3_b at h
  refine lv_iload hx hb dX0_agrees_3 (lv_at hl 4 rfl) ?_
  refine lv_iload_n hx hb dX0_agrees_5 rfl (lv_at hl 2 rfl) ?_
  refine lv_icmp_ge (tgt := 67) hx hb dX0_agrees_6 (by decide) (fun hc => ?_) (fun hc => ?_)
  · replace h := it_pos hc h
    refine lv_iconst (v := 1) hx hb dX0_agrees_67 (by decide) ?_
    cases Option.some.inj h
    exact gx_retz C (Or.inr rfl) hG hS dX0_agrees_68
  · replace h := it_neg hc h
    refine lv_iload hx hb dX0_agrees_9 (lv_at hl 4 rfl) ?_
    refine lv_iload_n hx hb dX0_agrees_11 rfl (lv_at hl 3 rfl) ?_
    refine lv_iadd hx hb dX0_agrees_12 ?_
    refine gx_aload_n (r := (some x0)) hx hb dX0_agrees_13 rfl (lv_at hl 0 rfl) ?_
    obtain ⟨v14, e14, h⟩ := ob h
    refine gx_getI C hG rfl e14 fgX0_13 dX0_agrees_14 ?_
    refine lv_icmp_ge (tgt := 67) hx hb dX0_agrees_17 (by decide) (fun hc => ?_) (fun hc => ?_)
    · replace h := it_pos hc h
      refine lv_iconst (v := 1) hx hb dX0_agrees_67 (by decide) ?_
      cases Option.some.inj h
      exact gx_retz C (Or.inr rfl) hG hS dX0_agrees_68
    · replace h := it_neg hc h
      refine lv_iload_n hx hb dX0_agrees_20 rfl (lv_at hl 1 rfl) ?_
      refine gx_getsN C hS C.2.2.2.2.2.2.1.2.1.1 knX0_23 dX0_agrees_21 ?_
      refine lv_iload hx hb dX0_agrees_24 (lv_at hl 4 rfl) ?_
      obtain ⟨v26, e26, h⟩ := ob h
      refine gx_ten C hS e26 dX0_agrees_26 ?_
      have n27 : ¬ v26 = 0 := fun q => by rw [if_pos q] at h; cases h
      replace h := it_neg n27 h
      refine lv_idiv hx hb dX0_agrees_27 n27 ?_
      refine lv_bipush (v := 10) hx hb dX0_agrees_28 (by decide) ?_
      refine lv_irem hx hb dX0_agrees_30 (by decide) ?_
      obtain ⟨z31, ez31, h⟩ := op h
      refine gx_topI ez31 ?_
      refine lv_istore (i := 5) (lv' := [(5, .int z31), (0, va_rf (some x0)), (1, .int x1), (2, .int x2), (3, .int x3), (4, .int x4)]) hx hb dX0_agrees_31 hl (by decide) rfl (fun ls hl => ?_)
      refine lv_iload hx hb dX0_agrees_33 (lv_at hl 0 rfl) ?_
      refine lv_if_eq (tgt := 61) hx hb dX0_agrees_35 (by decide) (fun hc => ?_) (fun hc => ?_)
      · replace h := it_pos hc h
        exact wX0_agrees_61 C hk3 h hG hS (lv_sub hl [1, 2, 3, 4, 5] rfl)
      · replace h := it_neg hc h
        refine lv_iload hx hb dX0_agrees_38 (lv_at hl 0 rfl) ?_
        refine gx_aload_n (r := (some x0)) hx hb dX0_agrees_40 rfl (lv_at hl 1 rfl) ?_
        obtain ⟨v41, e41, h⟩ := ob h
        refine gx_getI C hG rfl e41 fgX0_7 dX0_agrees_41 ?_
        refine gx_getsN C hS C.2.2.2.2.2.2.1.2.1.1 knX0_23 dX0_agrees_44 ?_
        refine lv_iload hx hb dX0_agrees_47 (lv_at hl 5 rfl) ?_
        refine lv_iload_n hx hb dX0_agrees_49 rfl (lv_at hl 4 rfl) ?_
        refine lv_iadd hx hb dX0_agrees_50 ?_
        obtain ⟨v51, e51, h⟩ := ob h
        refine gx_ten C hS e51 dX0_agrees_51 ?_
        have n52 : ¬ v51 = 0 := fun q => by rw [if_pos q] at h; cases h
        replace h := it_neg n52 h
        refine lv_idiv hx hb dX0_agrees_52 n52 ?_
        refine lv_bipush (v := 10) hx hb dX0_agrees_53 (by decide) ?_
        refine lv_irem hx hb dX0_agrees_55 (by decide) ?_
        refine lv_icmp_eq (tgt := 61) hx hb dX0_agrees_56 (by decide) (fun hc => ?_) (fun hc => ?_)
        · replace h := it_pos hc h
          exact wX0_agrees_61 C hk3 h hG hS (lv_sub hl [1, 2, 3, 4, 5] rfl)
        · replace h := it_neg hc h
          refine lv_iconst (v := 0) hx hb dX0_agrees_59 (by decide) ?_
          cases Option.some.inj h
          exact gx_retz C (Or.inl rfl) hG hS dX0_agrees_60
def fX0_agrees_3 : Nat → Nat → Int32 → Int32 → Int32 → Int32 → gM → Option (Int32 × gM)
  | 0 => fun _ _ _ _ _ _ => none
  | n + 1 => fun x0 x1 x2 x3 x4 u => fX0_agrees_3_b x0 x1 x2 x3 x4 u (fX0_agrees_3 n) 
theorem wX0_agrees_3 (C : gC p s m args meth c cX0_agrees 6 (some .boolean) RX0 "agrees" Γ) {res : Int32 × gM} (n : Nat) : ∀ {x0 : Nat} {x1 : Int32} {x2 : Int32} {x3 : Int32} {x4 : Int32} {u : gM} {H : Heap} {locs : List Loc} {ls : Array Slot}, fX0_agrees_3 n x0 x1 x2 x3 x4 u = some res → gAg Γ u N H → va_S Γ.2.2.1 s.heap H locs → lv_has ls 6 [(0, va_rf (some x0)), (1, .int x1), (2, .int x2), (3, .int x3), (4, .int x4)] → W p l e rmX0_agrees s m args below meth c H locs 0 0 (MQ below (gQ Γ (some (.int res.1)) res.2 N) args s 0 0 Γ.2.2.1) (F0 m 3 ls []) := by
  induction n with
  | zero => intro _ _ _ _ _ _ _ _ _ h _ _ _; cases (show (none : Option (Int32 × gM)) = some res from h)
  | succ n ih => intro _ _ _ _ _ _ _ _ _ h hG hS hl; exact wX0_agrees_3_b C (fun _ _ _ _ _ _ _ _ _ h hG hS hl => ih h hG hS hl) h hG hS hl
def fX0_agrees (x0 : Nat) (x1 : Int32) (x2 : Int32) (x3 : Int32) (u : gM) : Option (Int32 × gM) :=
  fX0_agrees_3  FU x0 x1 x2 x3 (0 : Int32) u
set_option maxHeartbeats 4000000 in
set_option maxRecDepth 20000 in
theorem wX0_agrees  (C : gC p s m args meth c cX0_agrees 6 (some .boolean) RX0 "agrees" Γ){x0 : Nat} {x1 : Int32} {x2 : Int32} {x3 : Int32} {u : gM} {res : Int32 × gM} (h : fX0_agrees x0 x1 x2 x3 u = some res) {H : Heap} {locs : List Loc} (hG : gAg Γ u N H) (hS : va_S Γ.2.2.1 s.heap H locs) {ls : Array Slot} (hl : lv_has ls 6 [(0, va_rf (some x0)), (1, .int x1), (2, .int x2), (3, .int x3)]) : W p l e rmX0_agrees s m args below meth c H locs 0 0 (MQ below (gQ Γ (some (.int res.1)) res.2 N) args s 0 0 Γ.2.2.1) (F0 m 0 ls []) := by
  have hx := C.1
  have hb := C.2.1
  unfold fX0_agrees at h
  refine lv_iconst (v := 0) hx hb dX0_agrees_0 (by decide) ?_
  refine lv_istore (i := 4) (lv' := [(4, .int (0 : Int32)), (0, va_rf (some x0)), (1, .int x1), (2, .int x2), (3, .int x3)]) hx hb dX0_agrees_1 hl (by decide) rfl (fun ls hl => ?_)
  exact wX0_agrees_3 C  FU h hG hS (lv_sub hl [1, 2, 3, 4, 0] rfl)
theorem tX0_agrees {Γ : gEnv} {N : Nat} {x0 : Nat} {x1 : Int32} {x2 : Int32} {x3 : Int32} {u v : gM} {r : Int32} (h : fX0_agrees x0 x1 x2 x3 u = some (r, v)) : Met l yX0_agrees (Cond.code yX0_agrees cX0_agrees 6 (some .boolean) :: gW) rmX0_agrees (va_Pc [va_rf (some x0), .int x1, .int x2, .int x3] (gPre Γ u N)) (gQ Γ (some (.int r)) v N) 0 0 Γ.2.2.1 :=
  gx_met (nm := "agrees") ⟨by decide +kernel, rfl, rfl⟩ (Nat.le_of_ble_eq_true rfl) (fun p e s m below meth c ls C hG hl => wX0_agrees C h hG va_S.rf hl)
abbrev rmX0_takes : Room := { frames := 1, cells := 0, slots := 0, locals := 25 }
def fX0_takes_79 (x0 : Nat) (x1 : Int32) (x2 : Int32) (x3 : Int32) (x4 : Int32) (x5 : Int32) (u : gM) (k11 : Nat → Int32 → Int32 → Int32 → Int32 → Int32 → gM → Option (Int32 × gM)) : Option (Int32 × gM) :=
  k11 x0 x1 x2 x3 x4 (x5 + (1 : Int32)) u
set_option maxHeartbeats 4000000 in
set_option maxRecDepth 20000 in
theorem wX0_takes_79  (C : gC p s m args meth c cX0_takes 8 (some .boolean) RX0 "takes" Γ){x0 : Nat} {x1 : Int32} {x2 : Int32} {x3 : Int32} {x4 : Int32} {x5 : Int32} {u : gM} {res : Int32 × gM} {k11 : Nat → Int32 → Int32 → Int32 → Int32 → Int32 → gM → Option (Int32 × gM)} (hk11 : ∀ (x0 : Nat) (x1 : Int32) (x2 : Int32) (x3 : Int32) (x4 : Int32) (x5 : Int32) (u : gM) (H : Heap) (locs : List Loc) (ls : Array Slot), k11 x0 x1 x2 x3 x4 x5 u = some res → gAg Γ u N H → va_S Γ.2.2.1 s.heap H locs → lv_has ls 8 [(0, va_rf (some x0)), (1, .int x1), (2, .int x2), (3, .int x3), (4, .int x4), (5, .int x5)] → W p l e rmX0_takes s m args below meth c H locs 0 0 (MQ below (gQ Γ (some (.int res.1)) res.2 N) args s 0 0 Γ.2.2.1) (F0 m 11 ls [])) (h : fX0_takes_79 x0 x1 x2 x3 x4 x5 u k11 = some res) {H : Heap} {locs : List Loc} (hG : gAg Γ u N H) (hS : va_S Γ.2.2.1 s.heap H locs) {ls : Array Slot} (hl : lv_has ls 8 [(0, va_rf (some x0)), (1, .int x1), (2, .int x2), (3, .int x3), (4, .int x4), (5, .int x5)]) : W p l e rmX0_takes s m args below meth c H locs 0 0 (MQ below (gQ Γ (some (.int res.1)) res.2 N) args s 0 0 Γ.2.2.1) (F0 m 79 ls []) := by
  have hx := C.1
  have hb := C.2.1
  unfold fX0_takes_79 at h
  refine lv_iinc (v := x5 + (1 : Int32)) (lv' := [(5, .int (x5 + (1 : Int32))), (0, va_rf (some x0)), (1, .int x1), (2, .int x2), (3, .int x3), (4, .int x4)]) hx hb dX0_takes_79 hl (k := 5) rfl rfl (by decide) rfl (fun ls hl => ?_)
  refine lv_goto (tgt := 11) hx hb dX0_takes_82 (by decide) ?_
  exact hk11 _ _ _ _ _ _ _ _ _ _ h hG hS (lv_sub hl [1, 2, 3, 4, 5, 0] rfl)
def fX0_takes_54 (x0 : Nat) (x1 : Int32) (x2 : Int32) (x3 : Int32) (x4 : Int32) (x5 : Int32) (x6 : Int32) (s0 : Int32) (u : gM) (k11 : Nat → Int32 → Int32 → Int32 → Int32 → Int32 → gM → Option (Int32 × gM)) : Option (Int32 × gM) :=
  if x6 = 0 then (
    fX0_takes_79 x0 x1 x2 x3 x4 x5 u k11
  ) else (
    if s0 = 0 then (
      fX0_takes_79 x0 x1 x2 x3 x4 x5 u k11
    ) else (
      (gO [1] u x0).bind fun _ =>
      bI (fX0_agrees x0 x1 x2 x5 u) fun r71 u71 =>
      if r71 = 0 then (
        fX0_takes_79 x0 x1 x2 x3 x4 x5 u71 k11
      ) else (
        some ((1 : Int32), u71)
      )
    )
  )
set_option maxHeartbeats 4000000 in
set_option maxRecDepth 20000 in
theorem wX0_takes_54  (C : gC p s m args meth c cX0_takes 8 (some .boolean) RX0 "takes" Γ){x0 : Nat} {x1 : Int32} {x2 : Int32} {x3 : Int32} {x4 : Int32} {x5 : Int32} {x6 : Int32} {s0 : Int32} {u : gM} {res : Int32 × gM} {k11 : Nat → Int32 → Int32 → Int32 → Int32 → Int32 → gM → Option (Int32 × gM)} (hk11 : ∀ (x0 : Nat) (x1 : Int32) (x2 : Int32) (x3 : Int32) (x4 : Int32) (x5 : Int32) (u : gM) (H : Heap) (locs : List Loc) (ls : Array Slot), k11 x0 x1 x2 x3 x4 x5 u = some res → gAg Γ u N H → va_S Γ.2.2.1 s.heap H locs → lv_has ls 8 [(0, va_rf (some x0)), (1, .int x1), (2, .int x2), (3, .int x3), (4, .int x4), (5, .int x5)] → W p l e rmX0_takes s m args below meth c H locs 0 0 (MQ below (gQ Γ (some (.int res.1)) res.2 N) args s 0 0 Γ.2.2.1) (F0 m 11 ls [])) (h : fX0_takes_54 x0 x1 x2 x3 x4 x5 x6 s0 u k11 = some res) {H : Heap} {locs : List Loc} (hG : gAg Γ u N H) (hS : va_S Γ.2.2.1 s.heap H locs) {ls : Array Slot} (hl : lv_has ls 8 [(0, va_rf (some x0)), (1, .int x1), (2, .int x2), (3, .int x3), (4, .int x4), (5, .int x5), (6, .int x6)]) : W p l e rmX0_takes s m args below meth c H locs 0 0 (MQ below (gQ Γ (some (.int res.1)) res.2 N) args s 0 0 Γ.2.2.1) (F0 m 54 ls [.int s0]) := by
  have hx := C.1
  have hb := C.2.1
  unfold fX0_takes_54 at h
  refine lv_istore (i := 7) (lv' := [(7, .int s0), (0, va_rf (some x0)), (1, .int x1), (2, .int x2), (3, .int x3), (4, .int x4), (5, .int x5), (6, .int x6)]) hx hb dX0_takes_54 hl (by decide) rfl (fun ls hl => ?_)
  refine lv_iload hx hb dX0_takes_56 (lv_at hl 7 rfl) ?_
  refine lv_if_eq (tgt := 79) hx hb dX0_takes_58 (by decide) (fun hc => ?_) (fun hc => ?_)
  · replace h := it_pos hc h
    exact wX0_takes_79 C hk11 h hG hS (lv_sub hl [1, 2, 3, 4, 5, 6] rfl)
  · replace h := it_neg hc h
    refine lv_iload hx hb dX0_takes_61 (lv_at hl 0 rfl) ?_
    refine lv_if_eq (tgt := 79) hx hb dX0_takes_63 (by decide) (fun hc => ?_) (fun hc => ?_)
    · replace h := it_pos hc h
      exact wX0_takes_79 C hk11 h hG hS (lv_sub hl [1, 2, 3, 4, 5, 6] rfl)
    · replace h := it_neg hc h
      refine gx_aload_n (r := (some x0)) hx hb dX0_takes_66 rfl (lv_at hl 1 rfl) ?_
      refine lv_iload_n hx hb dX0_takes_67 rfl (lv_at hl 2 rfl) ?_
      refine lv_iload_n hx hb dX0_takes_68 rfl (lv_at hl 3 rfl) ?_
      refine lv_iload hx hb dX0_takes_69 (lv_at hl 6 rfl) ?_
      obtain ⟨_, eo71, h⟩ := ob h
      obtain ⟨r71, u71, e71, h⟩ := obI h
      refine gx_cV C hG hS [.int x1, .int x2, .int x5] rfl eo71 (tX0_agrees e71) qcX0_19 ⟨rfl, rfl, Nat.le_of_ble_eq_true rfl, Nat.le_of_ble_eq_true rfl⟩ ⟨Nat.zero_le _, Nat.zero_le _⟩ rfl hl.1 rfl (Nat.le_of_ble_eq_true rfl) (st1 := [.int r71]) rfl dX0_takes_71 (fun H locs hG hS => ?_)
      refine lv_if_eq (tgt := 79) hx hb dX0_takes_74 (by decide) (fun hc => ?_) (fun hc => ?_)
      · replace h := it_pos hc h
        exact wX0_takes_79 C hk11 h hG hS (lv_sub hl [1, 2, 3, 4, 5, 6] rfl)
      · replace h := it_neg hc h
        refine lv_iconst (v := 1) hx hb dX0_takes_77 (by decide) ?_
        cases Option.some.inj h
        exact gx_retz C (Or.inr rfl) hG hS dX0_takes_78
def fX0_takes_49 (x0 : Nat) (x1 : Int32) (x2 : Int32) (x3 : Int32) (x4 : Int32) (x5 : Int32) (x6 : Int32) (u : gM) (k11 : Nat → Int32 → Int32 → Int32 → Int32 → Int32 → gM → Option (Int32 × gM)) : Option (Int32 × gM) :=
  fX0_takes_54 x0 x1 x2 x3 x4 x5 x6 (1 : Int32) u k11
set_option maxHeartbeats 4000000 in
set_option maxRecDepth 20000 in
theorem wX0_takes_49  (C : gC p s m args meth c cX0_takes 8 (some .boolean) RX0 "takes" Γ){x0 : Nat} {x1 : Int32} {x2 : Int32} {x3 : Int32} {x4 : Int32} {x5 : Int32} {x6 : Int32} {u : gM} {res : Int32 × gM} {k11 : Nat → Int32 → Int32 → Int32 → Int32 → Int32 → gM → Option (Int32 × gM)} (hk11 : ∀ (x0 : Nat) (x1 : Int32) (x2 : Int32) (x3 : Int32) (x4 : Int32) (x5 : Int32) (u : gM) (H : Heap) (locs : List Loc) (ls : Array Slot), k11 x0 x1 x2 x3 x4 x5 u = some res → gAg Γ u N H → va_S Γ.2.2.1 s.heap H locs → lv_has ls 8 [(0, va_rf (some x0)), (1, .int x1), (2, .int x2), (3, .int x3), (4, .int x4), (5, .int x5)] → W p l e rmX0_takes s m args below meth c H locs 0 0 (MQ below (gQ Γ (some (.int res.1)) res.2 N) args s 0 0 Γ.2.2.1) (F0 m 11 ls [])) (h : fX0_takes_49 x0 x1 x2 x3 x4 x5 x6 u k11 = some res) {H : Heap} {locs : List Loc} (hG : gAg Γ u N H) (hS : va_S Γ.2.2.1 s.heap H locs) {ls : Array Slot} (hl : lv_has ls 8 [(0, va_rf (some x0)), (1, .int x1), (2, .int x2), (3, .int x3), (4, .int x4), (5, .int x5), (6, .int x6)]) : W p l e rmX0_takes s m args below meth c H locs 0 0 (MQ below (gQ Γ (some (.int res.1)) res.2 N) args s 0 0 Γ.2.2.1) (F0 m 49 ls []) := by
  have hx := C.1
  have hb := C.2.1
  unfold fX0_takes_49 at h
  refine lv_iconst (v := 1) hx hb dX0_takes_49 (by decide) ?_
  refine lv_goto (tgt := 54) hx hb dX0_takes_50 (by decide) ?_
  exact wX0_takes_54 C hk11 h hG hS (lv_sub hl [0, 1, 2, 3, 4, 5, 6] rfl)
def fX0_takes_34 (x0 : Nat) (x1 : Int32) (x2 : Int32) (x3 : Int32) (x4 : Int32) (x5 : Int32) (s0 : Int32) (u : gM) (k11 : Nat → Int32 → Int32 → Int32 → Int32 → Int32 → gM → Option (Int32 × gM)) : Option (Int32 × gM) :=
  if x5 = x4 then (
    fX0_takes_49 x0 x1 x2 x3 x4 x5 s0 u k11
  ) else (
    if (x3 &&& (2 : Int32)) = 0 then (
      fX0_takes_54 x0 x1 x2 x3 x4 x5 s0 (0 : Int32) u k11
    ) else (
      fX0_takes_49 x0 x1 x2 x3 x4 x5 s0 u k11
    )
  )
set_option maxHeartbeats 4000000 in
set_option maxRecDepth 20000 in
theorem wX0_takes_34  (C : gC p s m args meth c cX0_takes 8 (some .boolean) RX0 "takes" Γ){x0 : Nat} {x1 : Int32} {x2 : Int32} {x3 : Int32} {x4 : Int32} {x5 : Int32} {s0 : Int32} {u : gM} {res : Int32 × gM} {k11 : Nat → Int32 → Int32 → Int32 → Int32 → Int32 → gM → Option (Int32 × gM)} (hk11 : ∀ (x0 : Nat) (x1 : Int32) (x2 : Int32) (x3 : Int32) (x4 : Int32) (x5 : Int32) (u : gM) (H : Heap) (locs : List Loc) (ls : Array Slot), k11 x0 x1 x2 x3 x4 x5 u = some res → gAg Γ u N H → va_S Γ.2.2.1 s.heap H locs → lv_has ls 8 [(0, va_rf (some x0)), (1, .int x1), (2, .int x2), (3, .int x3), (4, .int x4), (5, .int x5)] → W p l e rmX0_takes s m args below meth c H locs 0 0 (MQ below (gQ Γ (some (.int res.1)) res.2 N) args s 0 0 Γ.2.2.1) (F0 m 11 ls [])) (h : fX0_takes_34 x0 x1 x2 x3 x4 x5 s0 u k11 = some res) {H : Heap} {locs : List Loc} (hG : gAg Γ u N H) (hS : va_S Γ.2.2.1 s.heap H locs) {ls : Array Slot} (hl : lv_has ls 8 [(0, va_rf (some x0)), (1, .int x1), (2, .int x2), (3, .int x3), (4, .int x4), (5, .int x5)]) : W p l e rmX0_takes s m args below meth c H locs 0 0 (MQ below (gQ Γ (some (.int res.1)) res.2 N) args s 0 0 Γ.2.2.1) (F0 m 34 ls [.int s0]) := by
  have hx := C.1
  have hb := C.2.1
  unfold fX0_takes_34 at h
  refine lv_istore (i := 6) (lv' := [(6, .int s0), (0, va_rf (some x0)), (1, .int x1), (2, .int x2), (3, .int x3), (4, .int x4), (5, .int x5)]) hx hb dX0_takes_34 hl (by decide) rfl (fun ls hl => ?_)
  refine lv_iload hx hb dX0_takes_36 (lv_at hl 6 rfl) ?_
  refine lv_iload hx hb dX0_takes_38 (lv_at hl 5 rfl) ?_
  refine lv_icmp_eq (tgt := 49) hx hb dX0_takes_40 (by decide) (fun hc => ?_) (fun hc => ?_)
  · replace h := it_pos hc h
    exact wX0_takes_49 C hk11 h hG hS (lv_sub hl [1, 2, 3, 4, 5, 6, 0] rfl)
  · replace h := it_neg hc h
    refine lv_iload_n hx hb dX0_takes_43 rfl (lv_at hl 4 rfl) ?_
    refine lv_iconst (v := 2) hx hb dX0_takes_44 (by decide) ?_
    refine lv_iand hx hb dX0_takes_45 ?_
    refine lv_if_eq (tgt := 53) hx hb dX0_takes_46 (by decide) (fun hc => ?_) (fun hc => ?_)
    · replace h := it_pos hc h
      refine lv_iconst (v := 0) hx hb dX0_takes_53 (by decide) ?_
      exact wX0_takes_54 C hk11 h hG hS (lv_sub hl [1, 2, 3, 4, 5, 6, 0] rfl)
    · replace h := it_neg hc h
      exact wX0_takes_49 C hk11 h hG hS (lv_sub hl [1, 2, 3, 4, 5, 6, 0] rfl)
def fX0_takes_29 (x0 : Nat) (x1 : Int32) (x2 : Int32) (x3 : Int32) (x4 : Int32) (x5 : Int32) (u : gM) (k11 : Nat → Int32 → Int32 → Int32 → Int32 → Int32 → gM → Option (Int32 × gM)) : Option (Int32 × gM) :=
  fX0_takes_34 x0 x1 x2 x3 x4 x5 (1 : Int32) u k11
set_option maxHeartbeats 4000000 in
set_option maxRecDepth 20000 in
theorem wX0_takes_29  (C : gC p s m args meth c cX0_takes 8 (some .boolean) RX0 "takes" Γ){x0 : Nat} {x1 : Int32} {x2 : Int32} {x3 : Int32} {x4 : Int32} {x5 : Int32} {u : gM} {res : Int32 × gM} {k11 : Nat → Int32 → Int32 → Int32 → Int32 → Int32 → gM → Option (Int32 × gM)} (hk11 : ∀ (x0 : Nat) (x1 : Int32) (x2 : Int32) (x3 : Int32) (x4 : Int32) (x5 : Int32) (u : gM) (H : Heap) (locs : List Loc) (ls : Array Slot), k11 x0 x1 x2 x3 x4 x5 u = some res → gAg Γ u N H → va_S Γ.2.2.1 s.heap H locs → lv_has ls 8 [(0, va_rf (some x0)), (1, .int x1), (2, .int x2), (3, .int x3), (4, .int x4), (5, .int x5)] → W p l e rmX0_takes s m args below meth c H locs 0 0 (MQ below (gQ Γ (some (.int res.1)) res.2 N) args s 0 0 Γ.2.2.1) (F0 m 11 ls [])) (h : fX0_takes_29 x0 x1 x2 x3 x4 x5 u k11 = some res) {H : Heap} {locs : List Loc} (hG : gAg Γ u N H) (hS : va_S Γ.2.2.1 s.heap H locs) {ls : Array Slot} (hl : lv_has ls 8 [(0, va_rf (some x0)), (1, .int x1), (2, .int x2), (3, .int x3), (4, .int x4), (5, .int x5)]) : W p l e rmX0_takes s m args below meth c H locs 0 0 (MQ below (gQ Γ (some (.int res.1)) res.2 N) args s 0 0 Γ.2.2.1) (F0 m 29 ls []) := by
  have hx := C.1
  have hb := C.2.1
  unfold fX0_takes_29 at h
  refine lv_iconst (v := 1) hx hb dX0_takes_29 (by decide) ?_
  refine lv_goto (tgt := 34) hx hb dX0_takes_30 (by decide) ?_
  exact wX0_takes_34 C hk11 h hG hS (lv_sub hl [0, 1, 2, 3, 4, 5] rfl)
def fX0_takes_11_b (x0 : Nat) (x1 : Int32) (x2 : Int32) (x3 : Int32) (x4 : Int32) (x5 : Int32) (u : gM) (k11 : Nat → Int32 → Int32 → Int32 → Int32 → Int32 → gM → Option (Int32 × gM)) : Option (Int32 × gM) :=
  if x4 < x5 then (
    some ((0 : Int32), u)
  ) else (
    if x5 = 0 then (
      fX0_takes_29 x0 x1 x2 x3 x4 x5 u k11
    ) else (
      if (x3 &&& (1 : Int32)) = 0 then (
        fX0_takes_34 x0 x1 x2 x3 x4 x5 (0 : Int32) u k11
      ) else (
        fX0_takes_29 x0 x1 x2 x3 x4 x5 u k11
      )
    )
  )
set_option maxHeartbeats 4000000 in
set_option maxRecDepth 20000 in
theorem wX0_takes_11_b  (C : gC p s m args meth c cX0_takes 8 (some .boolean) RX0 "takes" Γ){x0 : Nat} {x1 : Int32} {x2 : Int32} {x3 : Int32} {x4 : Int32} {x5 : Int32} {u : gM} {res : Int32 × gM} {k11 : Nat → Int32 → Int32 → Int32 → Int32 → Int32 → gM → Option (Int32 × gM)} (hk11 : ∀ (x0 : Nat) (x1 : Int32) (x2 : Int32) (x3 : Int32) (x4 : Int32) (x5 : Int32) (u : gM) (H : Heap) (locs : List Loc) (ls : Array Slot), k11 x0 x1 x2 x3 x4 x5 u = some res → gAg Γ u N H → va_S Γ.2.2.1 s.heap H locs → lv_has ls 8 [(0, va_rf (some x0)), (1, .int x1), (2, .int x2), (3, .int x3), (4, .int x4), (5, .int x5)] → W p l e rmX0_takes s m args below meth c H locs 0 0 (MQ below (gQ Γ (some (.int res.1)) res.2 N) args s 0 0 Γ.2.2.1) (F0 m 11 ls [])) (h : fX0_takes_11_b x0 x1 x2 x3 x4 x5 u k11 = some res) {H : Heap} {locs : List Loc} (hG : gAg Γ u N H) (hS : va_S Γ.2.2.1 s.heap H locs) {ls : Array Slot} (hl : lv_has ls 8 [(0, va_rf (some x0)), (1, .int x1), (2, .int x2), (3, .int x3), (4, .int x4), (5, .int x5)]) : W p l e rmX0_takes s m args below meth c H locs 0 0 (MQ below (gQ Γ (some (.int res.1)) res.2 N) args s 0 0 Γ.2.2.1) (F0 m 11 ls []) := by
  have hx := C.1
  have hb := C.2.1
  unfold fX0_takes_11_b at h
  refine lv_iload hx hb dX0_takes_11 (lv_at hl 5 rfl) ?_
  refine lv_iload hx hb dX0_takes_13 (lv_at hl 4 rfl) ?_
  refine lv_icmp_gt (tgt := 85) hx hb dX0_takes_15 (by decide) (fun hc => ?_) (fun hc => ?_)
  · replace h := it_pos hc h
    refine lv_iconst (v := 0) hx hb dX0_takes_85 (by decide) ?_
    cases Option.some.inj h
    exact gx_retz C (Or.inl rfl) hG hS dX0_takes_86
  · replace h := it_neg hc h
    refine lv_iload hx hb dX0_takes_18 (lv_at hl 5 rfl) ?_
    refine lv_if_eq (tgt := 29) hx hb dX0_takes_20 (by decide) (fun hc => ?_) (fun hc => ?_)
    · replace h := it_pos hc h
      exact wX0_takes_29 C hk11 h hG hS (lv_sub hl [0, 1, 2, 3, 4, 5] rfl)
    · replace h := it_neg hc h
      refine lv_iload_n hx hb dX0_takes_23 rfl (lv_at hl 3 rfl) ?_
      refine lv_iconst (v := 1) hx hb dX0_takes_24 (by decide) ?_
      refine lv_iand hx hb dX0_takes_25 ?_
      refine lv_if_eq (tgt := 33) hx hb dX0_takes_26 (by decide) (fun hc => ?_) (fun hc => ?_)
      · replace h := it_pos hc h
        refine lv_iconst (v := 0) hx hb dX0_takes_33 (by decide) ?_
        exact wX0_takes_34 C hk11 h hG hS (lv_sub hl [0, 1, 2, 3, 4, 5] rfl)
      · replace h := it_neg hc h
        exact wX0_takes_29 C hk11 h hG hS (lv_sub hl [0, 1, 2, 3, 4, 5] rfl)
def fX0_takes_11 : Nat → Nat → Int32 → Int32 → Int32 → Int32 → Int32 → gM → Option (Int32 × gM)
  | 0 => fun _ _ _ _ _ _ _ => none
  | n + 1 => fun x0 x1 x2 x3 x4 x5 u => fX0_takes_11_b x0 x1 x2 x3 x4 x5 u (fX0_takes_11 n) 
theorem wX0_takes_11 (C : gC p s m args meth c cX0_takes 8 (some .boolean) RX0 "takes" Γ) {res : Int32 × gM} (n : Nat) : ∀ {x0 : Nat} {x1 : Int32} {x2 : Int32} {x3 : Int32} {x4 : Int32} {x5 : Int32} {u : gM} {H : Heap} {locs : List Loc} {ls : Array Slot}, fX0_takes_11 n x0 x1 x2 x3 x4 x5 u = some res → gAg Γ u N H → va_S Γ.2.2.1 s.heap H locs → lv_has ls 8 [(0, va_rf (some x0)), (1, .int x1), (2, .int x2), (3, .int x3), (4, .int x4), (5, .int x5)] → W p l e rmX0_takes s m args below meth c H locs 0 0 (MQ below (gQ Γ (some (.int res.1)) res.2 N) args s 0 0 Γ.2.2.1) (F0 m 11 ls []) := by
  induction n with
  | zero => intro _ _ _ _ _ _ _ _ _ _ h _ _ _; cases (show (none : Option (Int32 × gM)) = some res from h)
  | succ n ih => intro _ _ _ _ _ _ _ _ _ _ h hG hS hl; exact wX0_takes_11_b C (fun _ _ _ _ _ _ _ _ _ _ h hG hS hl => ih h hG hS hl) h hG hS hl
def fX0_takes (x0 : Nat) (x1 : Int32) (x2 : Int32) (x3 : Int32) (u : gM) : Option (Int32 × gM) :=
  (gI [1] 1 u x0).bind fun v1 =>
  fX0_takes_11  FU x0 x1 x2 x3 (v1 - x2) (0 : Int32) u
set_option maxHeartbeats 4000000 in
set_option maxRecDepth 20000 in
theorem wX0_takes  (C : gC p s m args meth c cX0_takes 8 (some .boolean) RX0 "takes" Γ){x0 : Nat} {x1 : Int32} {x2 : Int32} {x3 : Int32} {u : gM} {res : Int32 × gM} (h : fX0_takes x0 x1 x2 x3 u = some res) {H : Heap} {locs : List Loc} (hG : gAg Γ u N H) (hS : va_S Γ.2.2.1 s.heap H locs) {ls : Array Slot} (hl : lv_has ls 8 [(0, va_rf (some x0)), (1, .int x1), (2, .int x2), (3, .int x3)]) : W p l e rmX0_takes s m args below meth c H locs 0 0 (MQ below (gQ Γ (some (.int res.1)) res.2 N) args s 0 0 Γ.2.2.1) (F0 m 0 ls []) := by
  have hx := C.1
  have hb := C.2.1
  unfold fX0_takes at h
  refine gx_aload_n (r := (some x0)) hx hb dX0_takes_0 rfl (lv_at hl 0 rfl) ?_
  obtain ⟨v1, e1, h⟩ := ob h
  refine gx_getI C hG rfl e1 fgX0_13 dX0_takes_1 ?_
  refine lv_iload_n hx hb dX0_takes_4 rfl (lv_at hl 2 rfl) ?_
  refine lv_isub hx hb dX0_takes_5 ?_
  refine lv_istore (i := 4) (lv' := [(4, .int (v1 - x2)), (0, va_rf (some x0)), (1, .int x1), (2, .int x2), (3, .int x3)]) hx hb dX0_takes_6 hl (by decide) rfl (fun ls hl => ?_)
  refine lv_iconst (v := 0) hx hb dX0_takes_8 (by decide) ?_
  refine lv_istore (i := 5) (lv' := [(5, .int (0 : Int32)), (4, .int (v1 - x2)), (0, va_rf (some x0)), (1, .int x1), (2, .int x2), (3, .int x3)]) hx hb dX0_takes_9 hl (by decide) rfl (fun ls hl => ?_)
  exact wX0_takes_11 C  FU h hG hS (lv_sub hl [2, 3, 4, 5, 1, 0] rfl)
theorem tX0_takes {Γ : gEnv} {N : Nat} {x0 : Nat} {x1 : Int32} {x2 : Int32} {x3 : Int32} {u v : gM} {r : Int32} (h : fX0_takes x0 x1 x2 x3 u = some (r, v)) : Met l yX0_takes (Cond.code yX0_takes cX0_takes 8 (some .boolean) :: gW) rmX0_takes (va_Pc [va_rf (some x0), .int x1, .int x2, .int x3] (gPre Γ u N)) (gQ Γ (some (.int r)) v N) 0 0 Γ.2.2.1 :=
  gx_met (nm := "takes") ⟨by decide +kernel, rfl, rfl⟩ (Nat.le_of_ble_eq_true rfl) (fun p e s m below meth c ls C hG hl => wX0_takes C h hG va_S.rf hl)
abbrev rmX1_init : Room := { frames := 1, cells := 0, slots := 0, locals := 12 }
def fX1_init (x0 : Nat) (x1 : Int32) (x2 : Int32) (x3 : Option Nat) (u : gM) : Option (gM) :=
  (pV [2] 0 (.int x1) u x0).bind fun u6 =>
  (pV [2] 2 (.int x2) u6 x0).bind fun u11 =>
  (pV [2] 1 (va_rf x3) u11 x0).bind fun u16 =>
  some u16
set_option maxHeartbeats 4000000 in
set_option maxRecDepth 20000 in
theorem wX1_init  (C : gC p s m args meth c cX1_init 4 none RX1 "<init>" Γ){x0 : Nat} {x1 : Int32} {x2 : Int32} {x3 : Option Nat} {u : gM} {res : gM} (h : fX1_init x0 x1 x2 x3 u = some res) {H : Heap} {locs : List Loc} (hG : gAg Γ u N H) (hS : va_S Γ.2.2.1 s.heap H locs) {ls : Array Slot} (hl : lv_has ls 4 [(0, va_rf (some x0)), (1, .int x1), (2, .int x2), (3, va_rf x3)]) : W p l e rmX1_init s m args below meth c H locs 0 0 (MQ below (gQ Γ none res N) args s 0 0 Γ.2.2.1) (F0 m 0 ls []) := by
  have hx := C.1
  have hb := C.2.1
  unfold fX1_init at h
  refine gx_aload_n (r := (some x0)) hx hb dX1_init_0 rfl (lv_at hl 0 rfl) ?_
  refine gx_obj C rfl qcX1_1 hl.1 ⟨Nat.le_of_ble_eq_true rfl, Nat.le_of_ble_eq_true rfl⟩ dX1_init_1 ?_
  refine gx_aload_n (r := (some x0)) hx hb dX1_init_4 rfl (lv_at hl 0 rfl) ?_
  refine lv_iload_n hx hb dX1_init_5 rfl (lv_at hl 1 rfl) ?_
  obtain ⟨u6, e6, h⟩ := ob h
  refine gx_put C hG hS rfl e6 fgX1_7 fpX1_7 (fun _ => rfl) rfl rfl dX1_init_6 (fun H locs hG hS => ?_)
  refine gx_aload_n (r := (some x0)) hx hb dX1_init_9 rfl (lv_at hl 0 rfl) ?_
  refine lv_iload_n hx hb dX1_init_10 rfl (lv_at hl 2 rfl) ?_
  obtain ⟨u11, e11, h⟩ := ob h
  refine gx_put C hG hS rfl e11 fgX1_13 fpX1_13 (fun q => by cases q) rfl rfl dX1_init_11 (fun H locs hG hS => ?_)
  refine gx_aload_n (r := (some x0)) hx hb dX1_init_14 rfl (lv_at hl 0 rfl) ?_
  refine gx_aload_n (r := x3) hx hb dX1_init_15 rfl (lv_at hl 3 rfl) ?_
  obtain ⟨u16, e16, h⟩ := ob h
  refine gx_put C hG hS rfl e16 fgX1_16 fpX1_16 (fun _ => rfl) (gx_rfn _ _ (Or.inl ⟨_, rfl⟩)).1 (gx_rfn _ _ (Or.inl ⟨_, rfl⟩)).2 dX1_init_16 (fun H locs hG hS => ?_)
  cases Option.some.inj h
  exact gx_retv C hG hS dX1_init_19
theorem tX1_init {Γ : gEnv} {N : Nat} {x0 : Nat} {x1 : Int32} {x2 : Int32} {x3 : Option Nat} {u v : gM} (h : fX1_init x0 x1 x2 x3 u = some v) : Met l yX1_init (Cond.code yX1_init cX1_init 4 none :: gW) rmX1_init (va_Pc [va_rf (some x0), .int x1, .int x2, va_rf x3] (gPre Γ u N)) (gQ Γ none v N) 0 0 Γ.2.2.1 :=
  gx_met (nm := "<init>") ⟨by decide +kernel, rfl, rfl⟩ (by simp [lg_sl, gx_cat, gx_catI, gx_catJ]) (fun p e s m below meth c ls C hG hl => wX1_init C h hG va_S.rf (by simpa [lv_args, gx_cat, gx_catI, gx_catJ] using hl))
abbrev rmX2_init (a b : Nat) : Room := { frames := 1, cells := a, slots := b, locals := 12 }
def fX2_init_9 (x0 : Nat) (s1 : Option Nat) (u : gN) : Option (gN) :=
  (wN (pV [3] 0 (va_rf s1) u.1 x0) u).bind fun u9 =>
  some u9
set_option maxRecDepth 20000 in
theorem moX2_init_9 {x0 : Nat} {s1 : Option Nat} {u : gN} {res : gN} (h : fX2_init_9 x0 s1 u = some res) : gLe u res := by
  unfold fX2_init_9 at h
  obtain ⟨u9, e9, h⟩ := ob h
  refine gLe.tr (wN_le e9) ?_
  cases Option.some.inj h
  exact gLe.rf _
set_option maxHeartbeats 4000000 in
set_option maxRecDepth 20000 in
theorem wX2_init_9  (C : gC p s m args meth c cX2_init 1 none RX2 "<init>" Γ){x0 : Nat} {s1 : Option Nat} {u : gN} {res : gN} (h : fX2_init_9 x0 s1 u = some res) {H : Heap} {locs : List Loc} (hG : gAn Γ sB u H) (hS : va_S Γ.2.2.1 s.heap H locs) {ls : Array Slot} (hl : lv_has ls 1 []) : W p l e (rmX2_init (res.2.1 - s.heap.size) (res.2.2 - sB)) s m args below meth c H locs (u.2.1 - s.heap.size) (u.2.2 - sB) (MQ below (gQ Γ none res.1 res.2.1) args s (res.2.1 - s.heap.size) (res.2.2 - sB) Γ.2.2.1) (F0 m 9 ls [va_rf s1, va_rf (some x0)]) := by
  have hx := C.1
  have hb := C.2.1
  have hm := moX2_init_9 h
  unfold fX2_init_9 at h
  obtain ⟨u9, e9, h⟩ := ob h
  obtain ⟨g9, eg9, ev9⟩ := wN_inv e9
  replace hm : gLe u9 res := by rw [ev9]; exact hm
  refine gx_put C hG.1 hS rfl eg9 fgX2_9 fpX2_9 (fun _ => rfl) (gx_rfn _ _ (Or.inr ⟨_, rfl⟩)).1 (gx_rfn _ _ (Or.inr ⟨_, rfl⟩)).2 dX2_init_9 (fun H locs hg hS => gy_w hG ev9 hg (fun hG => ?_))
  cases Option.some.inj h
  exact gx_retv C hG.1 hS dX2_init_12
def fX2_init (x0 : Nat) (u : gN) : Option (gN) :=
  bI (nwI (14 : Int32) u) fun q7 u7 =>
  fX2_init_9 x0 (some q7) u7 
set_option maxRecDepth 20000 in
theorem moX2_init {x0 : Nat} {u : gN} {res : gN} (h : fX2_init x0 u = some res) : gLe u res := by
  unfold fX2_init at h
  obtain ⟨q7, u7, e7, h⟩ := obI h
  refine gLe.tr (nwI_le e7) ?_
  exact moX2_init_9  h
set_option maxHeartbeats 4000000 in
set_option maxRecDepth 20000 in
theorem wX2_init  (C : gC p s m args meth c cX2_init 1 none RX2 "<init>" Γ){x0 : Nat} {u : gN} {res : gN} (h : fX2_init x0 u = some res) {H : Heap} {locs : List Loc} (hG : gAn Γ sB u H) (hS : va_S Γ.2.2.1 s.heap H locs) {ls : Array Slot} (hl : lv_has ls 1 [(0, va_rf (some x0))]) : W p l e (rmX2_init (res.2.1 - s.heap.size) (res.2.2 - sB)) s m args below meth c H locs (u.2.1 - s.heap.size) (u.2.2 - sB) (MQ below (gQ Γ none res.1 res.2.1) args s (res.2.1 - s.heap.size) (res.2.2 - sB) Γ.2.2.1) (F0 m 0 ls []) := by
  have hx := C.1
  have hb := C.2.1
  have hm := moX2_init h
  unfold fX2_init at h
  refine gx_aload_n (r := (some x0)) hx hb dX2_init_0 rfl (lv_at hl 0 rfl) ?_
  refine gx_obj C rfl qcX2_3 hl.1 ⟨Nat.le_of_ble_eq_true rfl, Nat.le_of_ble_eq_true rfl⟩ dX2_init_1 ?_
  refine gx_aload_n (r := (some x0)) hx hb dX2_init_4 rfl (lv_at hl 0 rfl) ?_
  refine lv_bipush (v := 14) hx hb dX2_init_5 (by decide) ?_
  obtain ⟨q7, u7, e7, h⟩ := obI h
  have hm2 : gLe u7 res := by
    exact moX2_init_9  h
  refine gy_newI C hG hS e7 ⟨Nat.sub_le_sub_right hm2.1 _, Nat.sub_le_sub_right hm2.2 _⟩ dX2_init_7 (fun H hG hS => ?_)
  exact wX2_init_9 C  h hG hS (lv_sub hl [] rfl)
theorem tX2_init {Γ : gEnv} {x0 : Nat} {u v : gN} (h : fX2_init x0 u = some v) : Met l yX2_init (Cond.code yX2_init cX2_init 1 none :: gW) (rmX2_init (v.2.1 - u.2.1) (v.2.2 - u.2.2)) (va_Pc [va_rf (some x0)] (gPre Γ u.1 u.2.1)) (gQ Γ none v.1 v.2.1) (v.2.1 - u.2.1) (v.2.2 - u.2.2) Γ.2.2.1 := by
  refine gx_met (nm := "<init>") ⟨by decide +kernel, rfl, rfl⟩ (Nat.le_of_ble_eq_true rfl) (fun p e s m below meth c ls C hG hl => ?_)
  have hN : s.heap.size = u.2.1 := hG.1
  have K := wX2_init (l := l) (e := e) (below := below) (sB := u.2.2) C h ⟨hG, Nat.le_refl _⟩ va_S.rf hl
  rw [hN, Nat.sub_self, Nat.sub_self] at K
  exact K
abbrev rmJ6_bitCount_0f7a4 : Room := { frames := 0, cells := 0, slots := 0, locals := 0 }
def fJ6_bitCount_0f7a4 (x0 : Int32) (u : gM) : Option (Int32 × gM) :=
  pU (x0 - (((x0.toUInt32 >>> ((1 : Int32).toUInt32 &&& Int32.toUInt32 31)).toInt32) &&& (1431655765 : Int32))) fun z9 =>
  pU ((z9 &&& (858993459 : Int32)) + (((z9.toUInt32 >>> ((2 : Int32).toUInt32 &&& Int32.toUInt32 31)).toInt32) &&& (858993459 : Int32))) fun z23 =>
  pU ((z23 + ((z23.toUInt32 >>> ((4 : Int32).toUInt32 &&& Int32.toUInt32 31)).toInt32)) &&& (252645135 : Int32)) fun z33 =>
  pU (z33 + ((z33.toUInt32 >>> ((8 : Int32).toUInt32 &&& Int32.toUInt32 31)).toInt32)) fun z40 =>
  pU (z40 + ((z40.toUInt32 >>> ((16 : Int32).toUInt32 &&& Int32.toUInt32 31)).toInt32)) fun z47 =>
  some (z47 &&& (63 : Int32), u)
set_option maxHeartbeats 4000000 in
set_option maxRecDepth 20000 in
theorem wJ6_bitCount_0f7a4  (C : gC p s m args meth c cJ6_bitCount_0f7a4 1 (some .int) RJ6 "bitCount" Γ){x0 : Int32} {u : gM} {res : Int32 × gM} (h : fJ6_bitCount_0f7a4 x0 u = some res) {H : Heap} {locs : List Loc} (hG : gAg Γ u N H) (hS : va_S Γ.2.2.1 s.heap H locs) {ls : Array Slot} (hl : lv_has ls 1 [(0, .int x0)]) : W p l e rmJ6_bitCount_0f7a4 s m args below meth c H locs 0 0 (MQ below (gQ Γ (some (.int res.1)) res.2 N) args s 0 0 Γ.2.2.1) (F0 m 0 ls []) := by
  have hx := C.1
  have hb := C.2.1
  unfold fJ6_bitCount_0f7a4 at h
  refine lv_iload_n hx hb dJ6_bitCount_0f7a4_0 rfl (lv_at hl 0 rfl) ?_
  refine lv_iload_n hx hb dJ6_bitCount_0f7a4_1 rfl (lv_at hl 0 rfl) ?_
  refine lv_iconst (v := 1) hx hb dJ6_bitCount_0f7a4_2 (by decide) ?_
  refine lv_iushr hx hb dJ6_bitCount_0f7a4_3 rfl ?_
  refine lv_ldcw (v := 1431655765) hx hb C.2.2.2.1 (C.2.2.2.2.1 _ (gW_mem kcJ6_265)) dJ6_bitCount_0f7a4_4 ?_
  refine lv_iand hx hb dJ6_bitCount_0f7a4_7 ?_
  refine lv_isub hx hb dJ6_bitCount_0f7a4_8 ?_
  obtain ⟨z9, ez9, h⟩ := op h
  refine gx_topI ez9 ?_
  refine lv_istore_n (i := 0) (lv' := [(0, .int z9)]) hx hb dJ6_bitCount_0f7a4_9 rfl hl (by decide) rfl (fun ls hl => ?_)
  refine lv_iload_n hx hb dJ6_bitCount_0f7a4_10 rfl (lv_at hl 0 rfl) ?_
  refine lv_ldcw (v := 858993459) hx hb C.2.2.2.1 (C.2.2.2.2.1 _ (gW_mem kcJ6_266)) dJ6_bitCount_0f7a4_11 ?_
  refine lv_iand hx hb dJ6_bitCount_0f7a4_14 ?_
  refine lv_iload_n hx hb dJ6_bitCount_0f7a4_15 rfl (lv_at hl 0 rfl) ?_
  refine lv_iconst (v := 2) hx hb dJ6_bitCount_0f7a4_16 (by decide) ?_
  refine lv_iushr hx hb dJ6_bitCount_0f7a4_17 rfl ?_
  refine lv_ldcw (v := 858993459) hx hb C.2.2.2.1 (C.2.2.2.2.1 _ (gW_mem kcJ6_266)) dJ6_bitCount_0f7a4_18 ?_
  refine lv_iand hx hb dJ6_bitCount_0f7a4_21 ?_
  refine lv_iadd hx hb dJ6_bitCount_0f7a4_22 ?_
  obtain ⟨z23, ez23, h⟩ := op h
  refine gx_topI ez23 ?_
  refine lv_istore_n (i := 0) (lv' := [(0, .int z23)]) hx hb dJ6_bitCount_0f7a4_23 rfl hl (by decide) rfl (fun ls hl => ?_)
  refine lv_iload_n hx hb dJ6_bitCount_0f7a4_24 rfl (lv_at hl 0 rfl) ?_
  refine lv_iload_n hx hb dJ6_bitCount_0f7a4_25 rfl (lv_at hl 0 rfl) ?_
  refine lv_iconst (v := 4) hx hb dJ6_bitCount_0f7a4_26 (by decide) ?_
  refine lv_iushr hx hb dJ6_bitCount_0f7a4_27 rfl ?_
  refine lv_iadd hx hb dJ6_bitCount_0f7a4_28 ?_
  refine lv_ldcw (v := 252645135) hx hb C.2.2.2.1 (C.2.2.2.2.1 _ (gW_mem kcJ6_267)) dJ6_bitCount_0f7a4_29 ?_
  refine lv_iand hx hb dJ6_bitCount_0f7a4_32 ?_
  obtain ⟨z33, ez33, h⟩ := op h
  refine gx_topI ez33 ?_
  refine lv_istore_n (i := 0) (lv' := [(0, .int z33)]) hx hb dJ6_bitCount_0f7a4_33 rfl hl (by decide) rfl (fun ls hl => ?_)
  refine lv_iload_n hx hb dJ6_bitCount_0f7a4_34 rfl (lv_at hl 0 rfl) ?_
  refine lv_iload_n hx hb dJ6_bitCount_0f7a4_35 rfl (lv_at hl 0 rfl) ?_
  refine lv_bipush (v := 8) hx hb dJ6_bitCount_0f7a4_36 (by decide) ?_
  refine lv_iushr hx hb dJ6_bitCount_0f7a4_38 rfl ?_
  refine lv_iadd hx hb dJ6_bitCount_0f7a4_39 ?_
  obtain ⟨z40, ez40, h⟩ := op h
  refine gx_topI ez40 ?_
  refine lv_istore_n (i := 0) (lv' := [(0, .int z40)]) hx hb dJ6_bitCount_0f7a4_40 rfl hl (by decide) rfl (fun ls hl => ?_)
  refine lv_iload_n hx hb dJ6_bitCount_0f7a4_41 rfl (lv_at hl 0 rfl) ?_
  refine lv_iload_n hx hb dJ6_bitCount_0f7a4_42 rfl (lv_at hl 0 rfl) ?_
  refine lv_bipush (v := 16) hx hb dJ6_bitCount_0f7a4_43 (by decide) ?_
  refine lv_iushr hx hb dJ6_bitCount_0f7a4_45 rfl ?_
  refine lv_iadd hx hb dJ6_bitCount_0f7a4_46 ?_
  obtain ⟨z47, ez47, h⟩ := op h
  refine gx_topI ez47 ?_
  refine lv_istore_n (i := 0) (lv' := [(0, .int z47)]) hx hb dJ6_bitCount_0f7a4_47 rfl hl (by decide) rfl (fun ls hl => ?_)
  refine lv_iload_n hx hb dJ6_bitCount_0f7a4_48 rfl (lv_at hl 0 rfl) ?_
  refine lv_bipush (v := 63) hx hb dJ6_bitCount_0f7a4_49 (by decide) ?_
  refine lv_iand hx hb dJ6_bitCount_0f7a4_51 ?_
  cases Option.some.inj h
  exact gx_reti C hG hS dJ6_bitCount_0f7a4_52
theorem tJ6_bitCount_0f7a4 {Γ : gEnv} {N : Nat} {x0 : Int32} {u v : gM} {r : Int32} (h : fJ6_bitCount_0f7a4 x0 u = some (r, v)) : Met l yJ6_bitCount_0f7a4 (Cond.code yJ6_bitCount_0f7a4 cJ6_bitCount_0f7a4 1 (some .int) :: gW) rmJ6_bitCount_0f7a4 (va_Pc [.int x0] (gPre Γ u N)) (gQ Γ (some (.int r)) v N) 0 0 Γ.2.2.1 :=
  gx_met (nm := "bitCount") ⟨by decide +kernel, rfl, rfl⟩ (Nat.le_of_ble_eq_true rfl) (fun p e s m below meth c ls C hG hl => wJ6_bitCount_0f7a4 C h hG va_S.rf hl)
abbrev rmJ6_numberOfTrailingZeros_0f7a4 : Room := { frames := 0, cells := 0, slots := 0, locals := 0 }
def fJ6_numberOfTrailingZeros_0f7a4_62 (x0 : Int32) (x1 : Int32) (u : gM) : Option (Int32 × gM) :=
  if x0 ≤ (4 : Int32) then (
    some (x1 + ((x0.toUInt32 >>> ((1 : Int32).toUInt32 &&& Int32.toUInt32 31)).toInt32), u)
  ) else (
    pU ((x0.toUInt32 >>> ((2 : Int32).toUInt32 &&& Int32.toUInt32 31)).toInt32) fun z73 =>
    some ((x1 + (2 : Int32)) + ((z73.toUInt32 >>> ((1 : Int32).toUInt32 &&& Int32.toUInt32 31)).toInt32), u)
  )
set_option maxHeartbeats 4000000 in
set_option maxRecDepth 20000 in
theorem wJ6_numberOfTrailingZeros_0f7a4_62  (C : gC p s m args meth c cJ6_numberOfTrailingZeros_0f7a4 2 (some .int) RJ6 "numberOfTrailingZeros" Γ){x0 : Int32} {x1 : Int32} {u : gM} {res : Int32 × gM} (h : fJ6_numberOfTrailingZeros_0f7a4_62 x0 x1 u = some res) {H : Heap} {locs : List Loc} (hG : gAg Γ u N H) (hS : va_S Γ.2.2.1 s.heap H locs) {ls : Array Slot} (hl : lv_has ls 2 [(0, .int x0), (1, .int x1)]) : W p l e rmJ6_numberOfTrailingZeros_0f7a4 s m args below meth c H locs 0 0 (MQ below (gQ Γ (some (.int res.1)) res.2 N) args s 0 0 Γ.2.2.1) (F0 m 62 ls []) := by
  have hx := C.1
  have hb := C.2.1
  unfold fJ6_numberOfTrailingZeros_0f7a4_62 at h
  refine lv_iload_n hx hb dJ6_numberOfTrailingZeros_0f7a4_62 rfl (lv_at hl 0 rfl) ?_
  refine lv_iconst (v := 4) hx hb dJ6_numberOfTrailingZeros_0f7a4_63 (by decide) ?_
  refine lv_icmp_le (tgt := 74) hx hb dJ6_numberOfTrailingZeros_0f7a4_64 (by decide) (fun hc => ?_) (fun hc => ?_)
  · replace h := it_pos hc h
    refine lv_iload_n hx hb dJ6_numberOfTrailingZeros_0f7a4_74 rfl (lv_at hl 1 rfl) ?_
    refine lv_iload_n hx hb dJ6_numberOfTrailingZeros_0f7a4_75 rfl (lv_at hl 0 rfl) ?_
    refine lv_iconst (v := 1) hx hb dJ6_numberOfTrailingZeros_0f7a4_76 (by decide) ?_
    refine lv_iushr hx hb dJ6_numberOfTrailingZeros_0f7a4_77 rfl ?_
    refine lv_iadd hx hb dJ6_numberOfTrailingZeros_0f7a4_78 ?_
    cases Option.some.inj h
    exact gx_reti C hG hS dJ6_numberOfTrailingZeros_0f7a4_79
  · replace h := it_neg hc h
    refine lv_iinc (v := x1 + (2 : Int32)) (lv' := [(1, .int (x1 + (2 : Int32))), (0, .int x0)]) hx hb dJ6_numberOfTrailingZeros_0f7a4_67 hl (k := 1) rfl rfl (by decide) rfl (fun ls hl => ?_)
    refine lv_iload_n hx hb dJ6_numberOfTrailingZeros_0f7a4_70 rfl (lv_at hl 1 rfl) ?_
    refine lv_iconst (v := 2) hx hb dJ6_numberOfTrailingZeros_0f7a4_71 (by decide) ?_
    refine lv_iushr hx hb dJ6_numberOfTrailingZeros_0f7a4_72 rfl ?_
    obtain ⟨z73, ez73, h⟩ := op h
    refine gx_topI ez73 ?_
    refine lv_istore_n (i := 0) (lv' := [(0, .int z73), (1, .int (x1 + (2 : Int32)))]) hx hb dJ6_numberOfTrailingZeros_0f7a4_73 rfl hl (by decide) rfl (fun ls hl => ?_)
    refine lv_iload_n hx hb dJ6_numberOfTrailingZeros_0f7a4_74 rfl (lv_at hl 1 rfl) ?_
    refine lv_iload_n hx hb dJ6_numberOfTrailingZeros_0f7a4_75 rfl (lv_at hl 0 rfl) ?_
    refine lv_iconst (v := 1) hx hb dJ6_numberOfTrailingZeros_0f7a4_76 (by decide) ?_
    refine lv_iushr hx hb dJ6_numberOfTrailingZeros_0f7a4_77 rfl ?_
    refine lv_iadd hx hb dJ6_numberOfTrailingZeros_0f7a4_78 ?_
    cases Option.some.inj h
    exact gx_reti C hG hS dJ6_numberOfTrailingZeros_0f7a4_79
def fJ6_numberOfTrailingZeros_0f7a4_49 (x0 : Int32) (x1 : Int32) (u : gM) : Option (Int32 × gM) :=
  if x0 ≤ (16 : Int32) then (
    fJ6_numberOfTrailingZeros_0f7a4_62 x0 x1 u 
  ) else (
    pU ((x0.toUInt32 >>> ((4 : Int32).toUInt32 &&& Int32.toUInt32 31)).toInt32) fun z61 =>
    fJ6_numberOfTrailingZeros_0f7a4_62 z61 (x1 + (4 : Int32)) u 
  )
set_option maxHeartbeats 4000000 in
set_option maxRecDepth 20000 in
theorem wJ6_numberOfTrailingZeros_0f7a4_49  (C : gC p s m args meth c cJ6_numberOfTrailingZeros_0f7a4 2 (some .int) RJ6 "numberOfTrailingZeros" Γ){x0 : Int32} {x1 : Int32} {u : gM} {res : Int32 × gM} (h : fJ6_numberOfTrailingZeros_0f7a4_49 x0 x1 u = some res) {H : Heap} {locs : List Loc} (hG : gAg Γ u N H) (hS : va_S Γ.2.2.1 s.heap H locs) {ls : Array Slot} (hl : lv_has ls 2 [(0, .int x0), (1, .int x1)]) : W p l e rmJ6_numberOfTrailingZeros_0f7a4 s m args below meth c H locs 0 0 (MQ below (gQ Γ (some (.int res.1)) res.2 N) args s 0 0 Γ.2.2.1) (F0 m 49 ls []) := by
  have hx := C.1
  have hb := C.2.1
  unfold fJ6_numberOfTrailingZeros_0f7a4_49 at h
  refine lv_iload_n hx hb dJ6_numberOfTrailingZeros_0f7a4_49 rfl (lv_at hl 0 rfl) ?_
  refine lv_bipush (v := 16) hx hb dJ6_numberOfTrailingZeros_0f7a4_50 (by decide) ?_
  refine lv_icmp_le (tgt := 62) hx hb dJ6_numberOfTrailingZeros_0f7a4_52 (by decide) (fun hc => ?_) (fun hc => ?_)
  · replace h := it_pos hc h
    exact wJ6_numberOfTrailingZeros_0f7a4_62 C  h hG hS (lv_sub hl [0, 1] rfl)
  · replace h := it_neg hc h
    refine lv_iinc (v := x1 + (4 : Int32)) (lv' := [(1, .int (x1 + (4 : Int32))), (0, .int x0)]) hx hb dJ6_numberOfTrailingZeros_0f7a4_55 hl (k := 1) rfl rfl (by decide) rfl (fun ls hl => ?_)
    refine lv_iload_n hx hb dJ6_numberOfTrailingZeros_0f7a4_58 rfl (lv_at hl 1 rfl) ?_
    refine lv_iconst (v := 4) hx hb dJ6_numberOfTrailingZeros_0f7a4_59 (by decide) ?_
    refine lv_iushr hx hb dJ6_numberOfTrailingZeros_0f7a4_60 rfl ?_
    obtain ⟨z61, ez61, h⟩ := op h
    refine gx_topI ez61 ?_
    refine lv_istore_n (i := 0) (lv' := [(0, .int z61), (1, .int (x1 + (4 : Int32)))]) hx hb dJ6_numberOfTrailingZeros_0f7a4_61 rfl hl (by decide) rfl (fun ls hl => ?_)
    exact wJ6_numberOfTrailingZeros_0f7a4_62 C  h hG hS (lv_sub hl [0, 1] rfl)
def fJ6_numberOfTrailingZeros_0f7a4_34 (x0 : Int32) (x1 : Int32) (u : gM) : Option (Int32 × gM) :=
  if x0 ≤ (256 : Int32) then (
    fJ6_numberOfTrailingZeros_0f7a4_49 x0 x1 u 
  ) else (
    pU ((x0.toUInt32 >>> ((8 : Int32).toUInt32 &&& Int32.toUInt32 31)).toInt32) fun z48 =>
    fJ6_numberOfTrailingZeros_0f7a4_49 z48 (x1 + (8 : Int32)) u 
  )
set_option maxHeartbeats 4000000 in
set_option maxRecDepth 20000 in
theorem wJ6_numberOfTrailingZeros_0f7a4_34  (C : gC p s m args meth c cJ6_numberOfTrailingZeros_0f7a4 2 (some .int) RJ6 "numberOfTrailingZeros" Γ){x0 : Int32} {x1 : Int32} {u : gM} {res : Int32 × gM} (h : fJ6_numberOfTrailingZeros_0f7a4_34 x0 x1 u = some res) {H : Heap} {locs : List Loc} (hG : gAg Γ u N H) (hS : va_S Γ.2.2.1 s.heap H locs) {ls : Array Slot} (hl : lv_has ls 2 [(0, .int x0), (1, .int x1)]) : W p l e rmJ6_numberOfTrailingZeros_0f7a4 s m args below meth c H locs 0 0 (MQ below (gQ Γ (some (.int res.1)) res.2 N) args s 0 0 Γ.2.2.1) (F0 m 34 ls []) := by
  have hx := C.1
  have hb := C.2.1
  unfold fJ6_numberOfTrailingZeros_0f7a4_34 at h
  refine lv_iload_n hx hb dJ6_numberOfTrailingZeros_0f7a4_34 rfl (lv_at hl 0 rfl) ?_
  refine lv_sipush (v := 256) hx hb dJ6_numberOfTrailingZeros_0f7a4_35 (by decide) ?_
  refine lv_icmp_le (tgt := 49) hx hb dJ6_numberOfTrailingZeros_0f7a4_38 (by decide) (fun hc => ?_) (fun hc => ?_)
  · replace h := it_pos hc h
    exact wJ6_numberOfTrailingZeros_0f7a4_49 C  h hG hS (lv_sub hl [0, 1] rfl)
  · replace h := it_neg hc h
    refine lv_iinc (v := x1 + (8 : Int32)) (lv' := [(1, .int (x1 + (8 : Int32))), (0, .int x0)]) hx hb dJ6_numberOfTrailingZeros_0f7a4_41 hl (k := 1) rfl rfl (by decide) rfl (fun ls hl => ?_)
    refine lv_iload_n hx hb dJ6_numberOfTrailingZeros_0f7a4_44 rfl (lv_at hl 1 rfl) ?_
    refine lv_bipush (v := 8) hx hb dJ6_numberOfTrailingZeros_0f7a4_45 (by decide) ?_
    refine lv_iushr hx hb dJ6_numberOfTrailingZeros_0f7a4_47 rfl ?_
    obtain ⟨z48, ez48, h⟩ := op h
    refine gx_topI ez48 ?_
    refine lv_istore_n (i := 0) (lv' := [(0, .int z48), (1, .int (x1 + (8 : Int32)))]) hx hb dJ6_numberOfTrailingZeros_0f7a4_48 rfl hl (by decide) rfl (fun ls hl => ?_)
    exact wJ6_numberOfTrailingZeros_0f7a4_49 C  h hG hS (lv_sub hl [0, 1] rfl)
def fJ6_numberOfTrailingZeros_0f7a4 (x0 : Int32) (u : gM) : Option (Int32 × gM) :=
  pU ((x0 ^^^ (-1 : Int32)) &&& (x0 - (1 : Int32))) fun z7 =>
  if 0 < z7 then (
    if z7 ≤ (65536 : Int32) then (
      fJ6_numberOfTrailingZeros_0f7a4_34 z7 (1 : Int32) u 
    ) else (
      pU ((z7.toUInt32 >>> ((16 : Int32).toUInt32 &&& Int32.toUInt32 31)).toInt32) fun z33 =>
      fJ6_numberOfTrailingZeros_0f7a4_34 z33 ((1 : Int32) + (16 : Int32)) u 
    )
  ) else (
    some (z7 &&& (32 : Int32), u)
  )
set_option maxHeartbeats 4000000 in
set_option maxRecDepth 20000 in
theorem wJ6_numberOfTrailingZeros_0f7a4  (C : gC p s m args meth c cJ6_numberOfTrailingZeros_0f7a4 2 (some .int) RJ6 "numberOfTrailingZeros" Γ){x0 : Int32} {u : gM} {res : Int32 × gM} (h : fJ6_numberOfTrailingZeros_0f7a4 x0 u = some res) {H : Heap} {locs : List Loc} (hG : gAg Γ u N H) (hS : va_S Γ.2.2.1 s.heap H locs) {ls : Array Slot} (hl : lv_has ls 2 [(0, .int x0)]) : W p l e rmJ6_numberOfTrailingZeros_0f7a4 s m args below meth c H locs 0 0 (MQ below (gQ Γ (some (.int res.1)) res.2 N) args s 0 0 Γ.2.2.1) (F0 m 0 ls []) := by
  have hx := C.1
  have hb := C.2.1
  unfold fJ6_numberOfTrailingZeros_0f7a4 at h
  refine lv_iload_n hx hb dJ6_numberOfTrailingZeros_0f7a4_0 rfl (lv_at hl 0 rfl) ?_
  refine lv_iconst (v := -1) hx hb dJ6_numberOfTrailingZeros_0f7a4_1 (by decide) ?_
  refine lv_ixor hx hb dJ6_numberOfTrailingZeros_0f7a4_2 ?_
  refine lv_iload_n hx hb dJ6_numberOfTrailingZeros_0f7a4_3 rfl (lv_at hl 0 rfl) ?_
  refine lv_iconst (v := 1) hx hb dJ6_numberOfTrailingZeros_0f7a4_4 (by decide) ?_
  refine lv_isub hx hb dJ6_numberOfTrailingZeros_0f7a4_5 ?_
  refine lv_iand hx hb dJ6_numberOfTrailingZeros_0f7a4_6 ?_
  obtain ⟨z7, ez7, h⟩ := op h
  refine gx_topI ez7 ?_
  refine lv_istore_n (i := 0) (lv' := [(0, .int z7)]) hx hb dJ6_numberOfTrailingZeros_0f7a4_7 rfl hl (by decide) rfl (fun ls hl => ?_)
  refine lv_iload_n hx hb dJ6_numberOfTrailingZeros_0f7a4_8 rfl (lv_at hl 0 rfl) ?_
  refine lv_if_gt (tgt := 17) hx hb dJ6_numberOfTrailingZeros_0f7a4_9 (by decide) (fun hc => ?_) (fun hc => ?_)
  · replace h := it_pos hc h
    refine lv_iconst (v := 1) hx hb dJ6_numberOfTrailingZeros_0f7a4_17 (by decide) ?_
    refine lv_istore_n (i := 1) (lv' := [(1, .int (1 : Int32)), (0, .int z7)]) hx hb dJ6_numberOfTrailingZeros_0f7a4_18 rfl hl (by decide) rfl (fun ls hl => ?_)
    refine lv_iload_n hx hb dJ6_numberOfTrailingZeros_0f7a4_19 rfl (lv_at hl 1 rfl) ?_
    refine lv_ldcw (v := 65536) hx hb C.2.2.2.1 (C.2.2.2.2.1 _ (gW_mem kcJ6_264)) dJ6_numberOfTrailingZeros_0f7a4_20 ?_
    refine lv_icmp_le (tgt := 34) hx hb dJ6_numberOfTrailingZeros_0f7a4_23 (by decide) (fun hc => ?_) (fun hc => ?_)
    · replace h := it_pos hc h
      exact wJ6_numberOfTrailingZeros_0f7a4_34 C  h hG hS (lv_sub hl [1, 0] rfl)
    · replace h := it_neg hc h
      refine lv_iinc (v := (1 : Int32) + (16 : Int32)) (lv' := [(1, .int ((1 : Int32) + (16 : Int32))), (0, .int z7)]) hx hb dJ6_numberOfTrailingZeros_0f7a4_26 hl (k := 0) rfl rfl (by decide) rfl (fun ls hl => ?_)
      refine lv_iload_n hx hb dJ6_numberOfTrailingZeros_0f7a4_29 rfl (lv_at hl 1 rfl) ?_
      refine lv_bipush (v := 16) hx hb dJ6_numberOfTrailingZeros_0f7a4_30 (by decide) ?_
      refine lv_iushr hx hb dJ6_numberOfTrailingZeros_0f7a4_32 rfl ?_
      obtain ⟨z33, ez33, h⟩ := op h
      refine gx_topI ez33 ?_
      refine lv_istore_n (i := 0) (lv' := [(0, .int z33), (1, .int ((1 : Int32) + (16 : Int32)))]) hx hb dJ6_numberOfTrailingZeros_0f7a4_33 rfl hl (by decide) rfl (fun ls hl => ?_)
      exact wJ6_numberOfTrailingZeros_0f7a4_34 C  h hG hS (lv_sub hl [0, 1] rfl)
  · replace h := it_neg hc h
    refine lv_iload_n hx hb dJ6_numberOfTrailingZeros_0f7a4_12 rfl (lv_at hl 0 rfl) ?_
    refine lv_bipush (v := 32) hx hb dJ6_numberOfTrailingZeros_0f7a4_13 (by decide) ?_
    refine lv_iand hx hb dJ6_numberOfTrailingZeros_0f7a4_15 ?_
    cases Option.some.inj h
    exact gx_reti C hG hS dJ6_numberOfTrailingZeros_0f7a4_16
theorem tJ6_numberOfTrailingZeros_0f7a4 {Γ : gEnv} {N : Nat} {x0 : Int32} {u v : gM} {r : Int32} (h : fJ6_numberOfTrailingZeros_0f7a4 x0 u = some (r, v)) : Met l yJ6_numberOfTrailingZeros_0f7a4 (Cond.code yJ6_numberOfTrailingZeros_0f7a4 cJ6_numberOfTrailingZeros_0f7a4 2 (some .int) :: gW) rmJ6_numberOfTrailingZeros_0f7a4 (va_Pc [.int x0] (gPre Γ u N)) (gQ Γ (some (.int r)) v N) 0 0 Γ.2.2.1 :=
  gx_met (nm := "numberOfTrailingZeros") ⟨by decide +kernel, rfl, rfl⟩ (Nat.le_of_ble_eq_true rfl) (fun p e s m below meth c ls C hG hl => wJ6_numberOfTrailingZeros_0f7a4 C h hG va_S.rf hl)
abbrev rmJ3_checkIndex_8e157 : Room := { frames := 0, cells := 0, slots := 0, locals := 0 }
def fJ3_checkIndex_8e157 (x0 : Int32) (x1 : Int32) (x2 : Option Nat) (u : gM) : Option (Int32 × gM) :=
  if x0 < 0 then (
    none
  ) else (
    if x0 < x1 then (
      some (x0, u)
    ) else (
      none
    )
  )
set_option maxHeartbeats 4000000 in
set_option maxRecDepth 20000 in
theorem wJ3_checkIndex_8e157  (C : gC p s m args meth c cJ3_checkIndex_8e157 3 (some .int) RJ3 "checkIndex" Γ){x0 : Int32} {x1 : Int32} {x2 : Option Nat} {u : gM} {res : Int32 × gM} (h : fJ3_checkIndex_8e157 x0 x1 x2 u = some res) {H : Heap} {locs : List Loc} (hG : gAg Γ u N H) (hS : va_S Γ.2.2.1 s.heap H locs) {ls : Array Slot} (hl : lv_has ls 3 [(0, .int x0), (1, .int x1), (2, va_rf x2)]) : W p l e rmJ3_checkIndex_8e157 s m args below meth c H locs 0 0 (MQ below (gQ Γ (some (.int res.1)) res.2 N) args s 0 0 Γ.2.2.1) (F0 m 0 ls []) := by
  have hx := C.1
  have hb := C.2.1
  unfold fJ3_checkIndex_8e157 at h
  refine lv_iload_n hx hb dJ3_checkIndex_8e157_0 rfl (lv_at hl 0 rfl) ?_
  refine lv_if_lt (tgt := 9) hx hb dJ3_checkIndex_8e157_1 (by decide) (fun hc => ?_) (fun hc => ?_)
  · replace h := it_pos hc h
    refine gx_aload_n (r := x2) hx hb dJ3_checkIndex_8e157_9 rfl (lv_at hl 2 rfl) ?_
    refine lv_iload_n hx hb dJ3_checkIndex_8e157_10 rfl (lv_at hl 0 rfl) ?_
    refine lv_iload_n hx hb dJ3_checkIndex_8e157_11 rfl (lv_at hl 1 rfl) ?_
    cases h
  · replace h := it_neg hc h
    refine lv_iload_n hx hb dJ3_checkIndex_8e157_4 rfl (lv_at hl 0 rfl) ?_
    refine lv_iload_n hx hb dJ3_checkIndex_8e157_5 rfl (lv_at hl 1 rfl) ?_
    refine lv_icmp_lt (tgt := 16) hx hb dJ3_checkIndex_8e157_6 (by decide) (fun hc => ?_) (fun hc => ?_)
    · replace h := it_pos hc h
      refine lv_iload_n hx hb dJ3_checkIndex_8e157_16 rfl (lv_at hl 0 rfl) ?_
      cases Option.some.inj h
      exact gx_reti C hG hS dJ3_checkIndex_8e157_17
    · replace h := it_neg hc h
      refine gx_aload_n (r := x2) hx hb dJ3_checkIndex_8e157_9 rfl (lv_at hl 2 rfl) ?_
      refine lv_iload_n hx hb dJ3_checkIndex_8e157_10 rfl (lv_at hl 0 rfl) ?_
      refine lv_iload_n hx hb dJ3_checkIndex_8e157_11 rfl (lv_at hl 1 rfl) ?_
      cases h
theorem tJ3_checkIndex_8e157 {Γ : gEnv} {N : Nat} {x0 : Int32} {x1 : Int32} {x2 : Option Nat} {u v : gM} {r : Int32} (h : fJ3_checkIndex_8e157 x0 x1 x2 u = some (r, v)) : Met l yJ3_checkIndex_8e157 (Cond.code yJ3_checkIndex_8e157 cJ3_checkIndex_8e157 3 (some .int) :: gW) rmJ3_checkIndex_8e157 (va_Pc [.int x0, .int x1, va_rf x2] (gPre Γ u N)) (gQ Γ (some (.int r)) v N) 0 0 Γ.2.2.1 :=
  gx_met (nm := "checkIndex") ⟨by decide +kernel, rfl, rfl⟩ (by simp [lg_sl, gx_cat, gx_catI, gx_catJ]) (fun p e s m below meth c ls C hG hl => wJ3_checkIndex_8e157 C h hG va_S.rf (by simpa [lv_args, gx_cat, gx_catI, gx_catJ] using hl))
abbrev rmJ15_checkIndex_7cf53 : Room := { frames := 1, cells := 0, slots := 0, locals := 22 }
def fJ15_checkIndex_7cf53 (x0 : Int32) (x1 : Int32) (u : gM) : Option (Int32 × gM) :=
  bI (fJ3_checkIndex_8e157 x0 x1 none u) fun r3 u3 =>
  some (r3, u3)
set_option maxHeartbeats 4000000 in
set_option maxRecDepth 20000 in
theorem wJ15_checkIndex_7cf53  (C : gC p s m args meth c cJ15_checkIndex_7cf53 2 (some .int) RJ15 "checkIndex" Γ){x0 : Int32} {x1 : Int32} {u : gM} {res : Int32 × gM} (h : fJ15_checkIndex_7cf53 x0 x1 u = some res) {H : Heap} {locs : List Loc} (hG : gAg Γ u N H) (hS : va_S Γ.2.2.1 s.heap H locs) {ls : Array Slot} (hl : lv_has ls 2 [(0, .int x0), (1, .int x1)]) : W p l e rmJ15_checkIndex_7cf53 s m args below meth c H locs 0 0 (MQ below (gQ Γ (some (.int res.1)) res.2 N) args s 0 0 Γ.2.2.1) (F0 m 0 ls []) := by
  have hx := C.1
  have hb := C.2.1
  unfold fJ15_checkIndex_7cf53 at h
  refine lv_iload_n hx hb dJ15_checkIndex_7cf53_0 rfl (lv_at hl 0 rfl) ?_
  refine lv_iload_n hx hb dJ15_checkIndex_7cf53_1 rfl (lv_at hl 1 rfl) ?_
  refine gx_null hx hb dJ15_checkIndex_7cf53_2 ?_
  obtain ⟨r3, u3, e3, h⟩ := obI h
  refine gx_cS C hG hS [.int x0, .int x1, va_rf none] (tJ3_checkIndex_8e157 e3) qcJ15_105 ⟨rfl, rfl, Nat.le_of_ble_eq_true rfl, Nat.le_of_ble_eq_true rfl⟩ ⟨Nat.zero_le _, Nat.zero_le _⟩ rfl hl.1 rfl (Nat.le_of_ble_eq_true rfl) (st1 := [.int r3]) rfl dJ15_checkIndex_7cf53_3 (fun H locs hG hS => ?_)
  cases Option.some.inj h
  exact gx_reti C hG hS dJ15_checkIndex_7cf53_6
theorem tJ15_checkIndex_7cf53 {Γ : gEnv} {N : Nat} {x0 : Int32} {x1 : Int32} {u v : gM} {r : Int32} (h : fJ15_checkIndex_7cf53 x0 x1 u = some (r, v)) : Met l yJ15_checkIndex_7cf53 (Cond.code yJ15_checkIndex_7cf53 cJ15_checkIndex_7cf53 2 (some .int) :: gW) rmJ15_checkIndex_7cf53 (va_Pc [.int x0, .int x1] (gPre Γ u N)) (gQ Γ (some (.int r)) v N) 0 0 Γ.2.2.1 :=
  gx_met (nm := "checkIndex") ⟨by decide +kernel, rfl, rfl⟩ (Nat.le_of_ble_eq_true rfl) (fun p e s m below meth c ls C hG hl => wJ15_checkIndex_7cf53 C h hG va_S.rf hl)
abbrev rmJx4a65c_elementData_915e3 : Room := { frames := 0, cells := 0, slots := 0, locals := 0 }
def fJx4a65c_elementData_915e3 (x0 : Nat) (x1 : Int32) (u : gM) : Option (Option Nat × gM) :=
  (gR [0] 1 u x0).bind fun v1 =>
  (v1).bind fun a5 =>
  (aQ u a5 x1).bind fun v5 =>
  some (v5, u)
set_option maxHeartbeats 4000000 in
set_option maxRecDepth 20000 in
theorem wJx4a65c_elementData_915e3  (C : gC p s m args meth c cJx4a65c_elementData_915e3 2 (some (.object "java/lang/Object")) RJx4a65c "elementData" Γ){x0 : Nat} {x1 : Int32} {u : gM} {res : Option Nat × gM} (h : fJx4a65c_elementData_915e3 x0 x1 u = some res) {H : Heap} {locs : List Loc} (hG : gAg Γ u N H) (hS : va_S Γ.2.2.1 s.heap H locs) {ls : Array Slot} (hl : lv_has ls 2 [(0, va_rf (some x0)), (1, .int x1)]) : W p l e rmJx4a65c_elementData_915e3 s m args below meth c H locs 0 0 (MQ below (gQ Γ (some (va_rf res.1)) res.2 N) args s 0 0 Γ.2.2.1) (F0 m 0 ls []) := by
  have hx := C.1
  have hb := C.2.1
  unfold fJx4a65c_elementData_915e3 at h
  refine gx_aload_n (r := (some x0)) hx hb dJx4a65c_elementData_915e3_0 rfl (lv_at hl 0 rfl) ?_
  obtain ⟨v1, e1, h⟩ := ob h
  refine gx_getR C hG rfl e1 fgJx4a65c_9 dJx4a65c_elementData_915e3_1 ?_
  refine lv_iload_n hx hb dJx4a65c_elementData_915e3_4 rfl (lv_at hl 1 rfl) ?_
  obtain ⟨a5, na5, h⟩ := ob h
  obtain ⟨v5, e5, h⟩ := ob h
  refine gx_aald C hG na5 e5 dJx4a65c_elementData_915e3_5 ?_
  cases Option.some.inj h
  exact gx_reta C (Or.inl ⟨_, rfl⟩) hG hS dJx4a65c_elementData_915e3_6
theorem tJx4a65c_elementData_915e3 {Γ : gEnv} {N : Nat} {x0 : Nat} {x1 : Int32} {u v : gM} {r : Option Nat} (h : fJx4a65c_elementData_915e3 x0 x1 u = some (r, v)) : Met l yJx4a65c_elementData_915e3 (Cond.code yJx4a65c_elementData_915e3 cJx4a65c_elementData_915e3 2 (some (.object "java/lang/Object")) :: gW) rmJx4a65c_elementData_915e3 (va_Pc [va_rf (some x0), .int x1] (gPre Γ u N)) (gQ Γ (some (va_rf r)) v N) 0 0 Γ.2.2.1 :=
  gx_met (nm := "elementData") ⟨by decide +kernel, rfl, rfl⟩ (Nat.le_of_ble_eq_true rfl) (fun p e s m below meth c ls C hG hl => wJx4a65c_elementData_915e3 C h hG va_S.rf hl)
abbrev rmJx4a65c_get_915e3 : Room := { frames := 2, cells := 0, slots := 0, locals := 43 }
def fJx4a65c_get_915e3 (x0 : Nat) (x1 : Int32) (u : gM) : Option (Option Nat × gM) :=
  (gI [0] 2 u x0).bind fun v2 =>
  bI (fJ15_checkIndex_7cf53 x1 v2 u) fun r5 u5 =>
  (gO [0] u5 x0).bind fun _ =>
  bI (fJx4a65c_elementData_915e3 x0 x1 u5) fun r11 u11 =>
  some (r11, u11)
set_option maxHeartbeats 4000000 in
set_option maxRecDepth 20000 in
theorem wJx4a65c_get_915e3  (C : gC p s m args meth c cJx4a65c_get_915e3 2 (some (.object "java/lang/Object")) RJx4a65c "get" Γ){x0 : Nat} {x1 : Int32} {u : gM} {res : Option Nat × gM} (h : fJx4a65c_get_915e3 x0 x1 u = some res) {H : Heap} {locs : List Loc} (hG : gAg Γ u N H) (hS : va_S Γ.2.2.1 s.heap H locs) {ls : Array Slot} (hl : lv_has ls 2 [(0, va_rf (some x0)), (1, .int x1)]) : W p l e rmJx4a65c_get_915e3 s m args below meth c H locs 0 0 (MQ below (gQ Γ (some (va_rf res.1)) res.2 N) args s 0 0 Γ.2.2.1) (F0 m 0 ls []) := by
  have hx := C.1
  have hb := C.2.1
  unfold fJx4a65c_get_915e3 at h
  refine lv_iload_n hx hb dJx4a65c_get_915e3_0 rfl (lv_at hl 1 rfl) ?_
  refine gx_aload_n (r := (some x0)) hx hb dJx4a65c_get_915e3_1 rfl (lv_at hl 0 rfl) ?_
  obtain ⟨v2, e2, h⟩ := ob h
  refine gx_getI C hG rfl e2 fgJx4a65c_48 dJx4a65c_get_915e3_2 ?_
  obtain ⟨r5, u5, e5, h⟩ := obI h
  refine gx_cS C hG hS [.int x1, .int v2] (tJ15_checkIndex_7cf53 e5) qcJx4a65c_118 ⟨rfl, rfl, Nat.le_of_ble_eq_true rfl, Nat.le_of_ble_eq_true rfl⟩ ⟨Nat.zero_le _, Nat.zero_le _⟩ rfl hl.1 rfl (Nat.le_of_ble_eq_true rfl) (st1 := [.int r5]) rfl dJx4a65c_get_915e3_5 (fun H locs hG hS => ?_)
  refine lv_pop hx hb dJx4a65c_get_915e3_8 (by first | rfl | exact gx_cat _) ?_
  refine gx_aload_n (r := (some x0)) hx hb dJx4a65c_get_915e3_9 rfl (lv_at hl 0 rfl) ?_
  refine lv_iload_n hx hb dJx4a65c_get_915e3_10 rfl (lv_at hl 1 rfl) ?_
  obtain ⟨_, eo11, h⟩ := ob h
  obtain ⟨r11, u11, e11, h⟩ := obI h
  refine gx_cV C hG hS [.int x1] rfl eo11 (tJx4a65c_elementData_915e3 e11) qcJx4a65c_123 ⟨rfl, rfl, Nat.le_of_ble_eq_true rfl, Nat.le_of_ble_eq_true rfl⟩ ⟨Nat.zero_le _, Nat.zero_le _⟩ rfl hl.1 rfl (Nat.le_of_ble_eq_true rfl) (st1 := [va_rf r11]) rfl dJx4a65c_get_915e3_11 (fun H locs hG hS => ?_)
  cases Option.some.inj h
  exact gx_reta C (Or.inl ⟨_, rfl⟩) hG hS dJx4a65c_get_915e3_14
theorem tJx4a65c_get_915e3 {Γ : gEnv} {N : Nat} {x0 : Nat} {x1 : Int32} {u v : gM} {r : Option Nat} (h : fJx4a65c_get_915e3 x0 x1 u = some (r, v)) : Met l yJx4a65c_get_915e3 (Cond.code yJx4a65c_get_915e3 cJx4a65c_get_915e3 2 (some (.object "java/lang/Object")) :: gW) rmJx4a65c_get_915e3 (va_Pc [va_rf (some x0), .int x1] (gPre Γ u N)) (gQ Γ (some (va_rf r)) v N) 0 0 Γ.2.2.1 :=
  gx_met (nm := "get") ⟨by decide +kernel, rfl, rfl⟩ (Nat.le_of_ble_eq_true rfl) (fun p e s m below meth c ls C hG hl => wJx4a65c_get_915e3 C h hG va_S.rf hl)
abbrev rmJx4a65c_size_8abf5 : Room := { frames := 0, cells := 0, slots := 0, locals := 0 }
def fJx4a65c_size_8abf5 (x0 : Nat) (u : gM) : Option (Int32 × gM) :=
  (gI [0] 2 u x0).bind fun v1 =>
  some (v1, u)
set_option maxHeartbeats 4000000 in
set_option maxRecDepth 20000 in
theorem wJx4a65c_size_8abf5  (C : gC p s m args meth c cJx4a65c_size_8abf5 1 (some .int) RJx4a65c "size" Γ){x0 : Nat} {u : gM} {res : Int32 × gM} (h : fJx4a65c_size_8abf5 x0 u = some res) {H : Heap} {locs : List Loc} (hG : gAg Γ u N H) (hS : va_S Γ.2.2.1 s.heap H locs) {ls : Array Slot} (hl : lv_has ls 1 [(0, va_rf (some x0))]) : W p l e rmJx4a65c_size_8abf5 s m args below meth c H locs 0 0 (MQ below (gQ Γ (some (.int res.1)) res.2 N) args s 0 0 Γ.2.2.1) (F0 m 0 ls []) := by
  have hx := C.1
  have hb := C.2.1
  unfold fJx4a65c_size_8abf5 at h
  refine gx_aload_n (r := (some x0)) hx hb dJx4a65c_size_8abf5_0 rfl (lv_at hl 0 rfl) ?_
  obtain ⟨v1, e1, h⟩ := ob h
  refine gx_getI C hG rfl e1 fgJx4a65c_48 dJx4a65c_size_8abf5_1 ?_
  cases Option.some.inj h
  exact gx_reti C hG hS dJx4a65c_size_8abf5_4
theorem tJx4a65c_size_8abf5 {Γ : gEnv} {N : Nat} {x0 : Nat} {u v : gM} {r : Int32} (h : fJx4a65c_size_8abf5 x0 u = some (r, v)) : Met l yJx4a65c_size_8abf5 (Cond.code yJx4a65c_size_8abf5 cJx4a65c_size_8abf5 1 (some .int) :: gW) rmJx4a65c_size_8abf5 (va_Pc [va_rf (some x0)] (gPre Γ u N)) (gQ Γ (some (.int r)) v N) 0 0 Γ.2.2.1 :=
  gx_met (nm := "size") ⟨by decide +kernel, rfl, rfl⟩ (Nat.le_of_ble_eq_true rfl) (fun p e s m below meth c ls C hG hl => wJx4a65c_size_8abf5 C h hG va_S.rf hl)
abbrev rmX2_nearest : Room := { frames := 3, cells := 0, slots := 0, locals := 64 }
def fX2_nearest_17_b (x0 : Nat) (x1 : Option Nat) (x2 : Int32) (x3 : Int32) (x4 : Int32) (x5 : Int32) (x6 : Int32) (u : gM) (k17 : Nat → Option Nat → Int32 → Int32 → Int32 → Int32 → Int32 → gM → Option (Int32 × gM)) (k56 : Nat → Option Nat → Int32 → Int32 → Int32 → gM → Option (Int32 × gM)) : Option (Int32 × gM) :=
  if x4 ≤ x6 then (
    k56 x0 x1 x2 x3 x4 u
  ) else (
    (gR [3] 0 u x0).bind fun v25 =>
    (v25).bind fun a32 =>
    (uI u a32 x6 x5).bind fun u32 =>
    (x1).bind fun a38 =>
    (gO [0] u32 a38).bind fun _ =>
    bI (fJx4a65c_get_915e3 a38 x6 u32) fun r38 u38 =>
    (kC [9, 6] u38 r38).bind fun _ =>
    (r38).bind fun a44 =>
    (gI [9, 6] 2 u38 a44).bind fun v44 =>
    k17 x0 x1 x2 x3 x4 (x5 + v44) (x6 + (1 : Int32)) u38
  )
set_option maxHeartbeats 4000000 in
set_option maxRecDepth 20000 in
theorem wX2_nearest_17_b  (C : gC p s m args meth c cX2_nearest 12 (some .int) RX2 "nearest" Γ){x0 : Nat} {x1 : Option Nat} {x2 : Int32} {x3 : Int32} {x4 : Int32} {x5 : Int32} {x6 : Int32} {u : gM} {res : Int32 × gM} {k17 : Nat → Option Nat → Int32 → Int32 → Int32 → Int32 → Int32 → gM → Option (Int32 × gM)} {k56 : Nat → Option Nat → Int32 → Int32 → Int32 → gM → Option (Int32 × gM)} (hk17 : ∀ (x0 : Nat) (x1 : Option Nat) (x2 : Int32) (x3 : Int32) (x4 : Int32) (x5 : Int32) (x6 : Int32) (u : gM) (H : Heap) (locs : List Loc) (ls : Array Slot), k17 x0 x1 x2 x3 x4 x5 x6 u = some res → gAg Γ u N H → va_S Γ.2.2.1 s.heap H locs → lv_has ls 12 [(0, va_rf (some x0)), (1, va_rf x1), (2, .int x2), (3, .int x3), (4, .int x4), (5, .int x5), (6, .int x6)] → W p l e rmX2_nearest s m args below meth c H locs 0 0 (MQ below (gQ Γ (some (.int res.1)) res.2 N) args s 0 0 Γ.2.2.1) (F0 m 17 ls [])) (hk56 : ∀ (x0 : Nat) (x1 : Option Nat) (x2 : Int32) (x3 : Int32) (x4 : Int32) (u : gM) (H : Heap) (locs : List Loc) (ls : Array Slot), k56 x0 x1 x2 x3 x4 u = some res → gAg Γ u N H → va_S Γ.2.2.1 s.heap H locs → lv_has ls 12 [(0, va_rf (some x0)), (1, va_rf x1), (2, .int x2), (3, .int x3), (4, .int x4)] → W p l e rmX2_nearest s m args below meth c H locs 0 0 (MQ below (gQ Γ (some (.int res.1)) res.2 N) args s 0 0 Γ.2.2.1) (F0 m 56 ls [])) (h : fX2_nearest_17_b x0 x1 x2 x3 x4 x5 x6 u k17 k56 = some res) {H : Heap} {locs : List Loc} (hG : gAg Γ u N H) (hS : va_S Γ.2.2.1 s.heap H locs) {ls : Array Slot} (hl : lv_has ls 12 [(0, va_rf (some x0)), (1, va_rf x1), (2, .int x2), (3, .int x3), (4, .int x4), (5, .int x5), (6, .int x6)]) : W p l e rmX2_nearest s m args below meth c H locs 0 0 (MQ below (gQ Γ (some (.int res.1)) res.2 N) args s 0 0 Γ.2.2.1) (F0 m 17 ls []) := by
  have hx := C.1
  have hb := C.2.1
  unfold fX2_nearest_17_b at h
  refine lv_iload hx hb dX2_nearest_17 (lv_at hl 6 rfl) ?_
  refine lv_iload hx hb dX2_nearest_19 (lv_at hl 4 rfl) ?_
  refine lv_icmp_ge (tgt := 56) hx hb dX2_nearest_21 (by decide) (fun hc => ?_) (fun hc => ?_)
  · replace h := it_pos hc h
    exact hk56 _ _ _ _ _ _ _ _ _ h hG hS (lv_sub hl [0, 1, 2, 3, 4] rfl)
  · replace h := it_neg hc h
    refine gx_aload_n (r := (some x0)) hx hb dX2_nearest_24 rfl (lv_at hl 0 rfl) ?_
    obtain ⟨v25, e25, h⟩ := ob h
    refine gx_getR C hG rfl e25 fgX2_9 dX2_nearest_25 ?_
    refine lv_iload hx hb dX2_nearest_28 (lv_at hl 6 rfl) ?_
    refine lv_iload hx hb dX2_nearest_30 (lv_at hl 5 rfl) ?_
    obtain ⟨a32, na32, h⟩ := ob h
    obtain ⟨u32, e32, h⟩ := ob h
    refine gx_iast C hG hS na32 e32 dX2_nearest_32 (fun H locs hG hS => ?_)
    refine lv_iload hx hb dX2_nearest_33 (lv_at hl 5 rfl) ?_
    refine gx_aload_n (r := x1) hx hb dX2_nearest_35 rfl (lv_at hl 1 rfl) ?_
    refine lv_iload hx hb dX2_nearest_36 (lv_at hl 6 rfl) ?_
    obtain ⟨a38, na38, h⟩ := ob h
    obtain ⟨_, eo38, h⟩ := ob h
    obtain ⟨r38, u38, e38, h⟩ := obI h
    refine gx_cV C hG hS [.int x6] na38 eo38 (tJx4a65c_get_915e3 e38) qcX2_27 ⟨rfl, rfl, Nat.le_of_ble_eq_true rfl, Nat.le_of_ble_eq_true rfl⟩ ⟨Nat.zero_le _, Nat.zero_le _⟩ rfl hl.1 rfl (Nat.le_of_ble_eq_true rfl) (st1 := [va_rf r38, .int x5]) rfl dX2_nearest_38 (fun H locs hG hS => ?_)
    obtain ⟨_, e41, h⟩ := ob h
    refine gx_cast C hG e41 ckX2_31 dX2_nearest_41 ?_
    obtain ⟨a44, na44, h⟩ := ob h
    obtain ⟨v44, e44, h⟩ := ob h
    refine gx_getI C hG na44 e44 fgX2_33 dX2_nearest_44 ?_
    refine lv_iadd hx hb dX2_nearest_47 ?_
    refine lv_istore (i := 5) (lv' := [(5, .int (x5 + v44)), (0, va_rf (some x0)), (1, va_rf x1), (2, .int x2), (3, .int x3), (4, .int x4), (6, .int x6)]) hx hb dX2_nearest_48 hl (by decide) rfl (fun ls hl => ?_)
    refine lv_iinc (v := x6 + (1 : Int32)) (lv' := [(6, .int (x6 + (1 : Int32))), (5, .int (x5 + v44)), (0, va_rf (some x0)), (1, va_rf x1), (2, .int x2), (3, .int x3), (4, .int x4)]) hx hb dX2_nearest_50 hl (k := 6) rfl rfl (by decide) rfl (fun ls hl => ?_)
    refine lv_goto (tgt := 17) hx hb dX2_nearest_53 (by decide) ?_
    exact hk17 _ _ _ _ _ _ _ _ _ _ _ h hG hS (lv_sub hl [2, 3, 4, 5, 6, 1, 0] rfl)
def fX2_nearest_17 (k56 : Nat → Option Nat → Int32 → Int32 → Int32 → gM → Option (Int32 × gM)) : Nat → Nat → Option Nat → Int32 → Int32 → Int32 → Int32 → Int32 → gM → Option (Int32 × gM)
  | 0 => fun _ _ _ _ _ _ _ _ => none
  | n + 1 => fun x0 x1 x2 x3 x4 x5 x6 u => fX2_nearest_17_b x0 x1 x2 x3 x4 x5 x6 u (fX2_nearest_17 k56 n) k56 
theorem wX2_nearest_17 (C : gC p s m args meth c cX2_nearest 12 (some .int) RX2 "nearest" Γ) {res : Int32 × gM} {k56 : Nat → Option Nat → Int32 → Int32 → Int32 → gM → Option (Int32 × gM)} (hk56 : ∀ (x0 : Nat) (x1 : Option Nat) (x2 : Int32) (x3 : Int32) (x4 : Int32) (u : gM) (H : Heap) (locs : List Loc) (ls : Array Slot), k56 x0 x1 x2 x3 x4 u = some res → gAg Γ u N H → va_S Γ.2.2.1 s.heap H locs → lv_has ls 12 [(0, va_rf (some x0)), (1, va_rf x1), (2, .int x2), (3, .int x3), (4, .int x4)] → W p l e rmX2_nearest s m args below meth c H locs 0 0 (MQ below (gQ Γ (some (.int res.1)) res.2 N) args s 0 0 Γ.2.2.1) (F0 m 56 ls [])) (n : Nat) : ∀ {x0 : Nat} {x1 : Option Nat} {x2 : Int32} {x3 : Int32} {x4 : Int32} {x5 : Int32} {x6 : Int32} {u : gM} {H : Heap} {locs : List Loc} {ls : Array Slot}, fX2_nearest_17 k56 n x0 x1 x2 x3 x4 x5 x6 u = some res → gAg Γ u N H → va_S Γ.2.2.1 s.heap H locs → lv_has ls 12 [(0, va_rf (some x0)), (1, va_rf x1), (2, .int x2), (3, .int x3), (4, .int x4), (5, .int x5), (6, .int x6)] → W p l e rmX2_nearest s m args below meth c H locs 0 0 (MQ below (gQ Γ (some (.int res.1)) res.2 N) args s 0 0 Γ.2.2.1) (F0 m 17 ls []) := by
  induction n with
  | zero => intro _ _ _ _ _ _ _ _ _ _ _ h _ _ _; cases (show (none : Option (Int32 × gM)) = some res from h)
  | succ n ih => intro _ _ _ _ _ _ _ _ _ _ _ h hG hS hl; exact wX2_nearest_17_b C (fun _ _ _ _ _ _ _ _ _ _ _ h hG hS hl => ih h hG hS hl) hk56 h hG hS hl
def fX2_nearest_155 (x0 : Nat) (x1 : Option Nat) (x2 : Int32) (x4 : Int32) (x6 : Int32) (x7 : Int32) (x8 : Int32) (x9 : Int32) (u : gM) (k70 : Nat → Option Nat → Int32 → Int32 → Int32 → Int32 → Int32 → Int32 → gM → Option (Int32 × gM)) : Option (Int32 × gM) :=
  k70 x0 x1 x2 x4 x6 x7 x8 (x9 + (1 : Int32)) u
set_option maxHeartbeats 4000000 in
set_option maxRecDepth 20000 in
theorem wX2_nearest_155  (C : gC p s m args meth c cX2_nearest 12 (some .int) RX2 "nearest" Γ){x0 : Nat} {x1 : Option Nat} {x2 : Int32} {x4 : Int32} {x6 : Int32} {x7 : Int32} {x8 : Int32} {x9 : Int32} {u : gM} {res : Int32 × gM} {k70 : Nat → Option Nat → Int32 → Int32 → Int32 → Int32 → Int32 → Int32 → gM → Option (Int32 × gM)} (hk70 : ∀ (x0 : Nat) (x1 : Option Nat) (x2 : Int32) (x4 : Int32) (x6 : Int32) (x7 : Int32) (x8 : Int32) (x9 : Int32) (u : gM) (H : Heap) (locs : List Loc) (ls : Array Slot), k70 x0 x1 x2 x4 x6 x7 x8 x9 u = some res → gAg Γ u N H → va_S Γ.2.2.1 s.heap H locs → lv_has ls 12 [(0, va_rf (some x0)), (1, va_rf x1), (2, .int x2), (4, .int x4), (6, .int x6), (7, .int x7), (8, .int x8), (9, .int x9)] → W p l e rmX2_nearest s m args below meth c H locs 0 0 (MQ below (gQ Γ (some (.int res.1)) res.2 N) args s 0 0 Γ.2.2.1) (F0 m 70 ls [])) (h : fX2_nearest_155 x0 x1 x2 x4 x6 x7 x8 x9 u k70 = some res) {H : Heap} {locs : List Loc} (hG : gAg Γ u N H) (hS : va_S Γ.2.2.1 s.heap H locs) {ls : Array Slot} (hl : lv_has ls 12 [(0, va_rf (some x0)), (1, va_rf x1), (2, .int x2), (4, .int x4), (6, .int x6), (7, .int x7), (8, .int x8), (9, .int x9)]) : W p l e rmX2_nearest s m args below meth c H locs 0 0 (MQ below (gQ Γ (some (.int res.1)) res.2 N) args s 0 0 Γ.2.2.1) (F0 m 155 ls []) := by
  have hx := C.1
  have hb := C.2.1
  unfold fX2_nearest_155 at h
  refine lv_iinc (v := x9 + (1 : Int32)) (lv' := [(9, .int (x9 + (1 : Int32))), (0, va_rf (some x0)), (1, va_rf x1), (2, .int x2), (4, .int x4), (6, .int x6), (7, .int x7), (8, .int x8)]) hx hb dX2_nearest_155 hl (k := 7) rfl rfl (by decide) rfl (fun ls hl => ?_)
  refine lv_goto (tgt := 70) hx hb dX2_nearest_158 (by decide) ?_
  exact hk70 _ _ _ _ _ _ _ _ _ _ _ _ h hG hS (lv_sub hl [1, 2, 3, 4, 5, 6, 7, 0] rfl)
def fX2_nearest_147 (x0 : Nat) (x1 : Option Nat) (x2 : Int32) (x4 : Int32) (x8 : Int32) (x9 : Int32) (x11 : Int32) (u : gM) (k70 : Nat → Option Nat → Int32 → Int32 → Int32 → Int32 → Int32 → Int32 → gM → Option (Int32 × gM)) : Option (Int32 × gM) :=
  fX2_nearest_155 x0 x1 x2 x4 x9 x11 x8 x9 u k70
set_option maxHeartbeats 4000000 in
set_option maxRecDepth 20000 in
theorem wX2_nearest_147  (C : gC p s m args meth c cX2_nearest 12 (some .int) RX2 "nearest" Γ){x0 : Nat} {x1 : Option Nat} {x2 : Int32} {x4 : Int32} {x8 : Int32} {x9 : Int32} {x11 : Int32} {u : gM} {res : Int32 × gM} {k70 : Nat → Option Nat → Int32 → Int32 → Int32 → Int32 → Int32 → Int32 → gM → Option (Int32 × gM)} (hk70 : ∀ (x0 : Nat) (x1 : Option Nat) (x2 : Int32) (x4 : Int32) (x6 : Int32) (x7 : Int32) (x8 : Int32) (x9 : Int32) (u : gM) (H : Heap) (locs : List Loc) (ls : Array Slot), k70 x0 x1 x2 x4 x6 x7 x8 x9 u = some res → gAg Γ u N H → va_S Γ.2.2.1 s.heap H locs → lv_has ls 12 [(0, va_rf (some x0)), (1, va_rf x1), (2, .int x2), (4, .int x4), (6, .int x6), (7, .int x7), (8, .int x8), (9, .int x9)] → W p l e rmX2_nearest s m args below meth c H locs 0 0 (MQ below (gQ Γ (some (.int res.1)) res.2 N) args s 0 0 Γ.2.2.1) (F0 m 70 ls [])) (h : fX2_nearest_147 x0 x1 x2 x4 x8 x9 x11 u k70 = some res) {H : Heap} {locs : List Loc} (hG : gAg Γ u N H) (hS : va_S Γ.2.2.1 s.heap H locs) {ls : Array Slot} (hl : lv_has ls 12 [(0, va_rf (some x0)), (1, va_rf x1), (2, .int x2), (4, .int x4), (8, .int x8), (9, .int x9), (11, .int x11)]) : W p l e rmX2_nearest s m args below meth c H locs 0 0 (MQ below (gQ Γ (some (.int res.1)) res.2 N) args s 0 0 Γ.2.2.1) (F0 m 147 ls []) := by
  have hx := C.1
  have hb := C.2.1
  unfold fX2_nearest_147 at h
  refine lv_iload hx hb dX2_nearest_147 (lv_at hl 5 rfl) ?_
  refine lv_istore (i := 6) (lv' := [(6, .int x9), (0, va_rf (some x0)), (1, va_rf x1), (2, .int x2), (4, .int x4), (8, .int x8), (9, .int x9), (11, .int x11)]) hx hb dX2_nearest_149 hl (by decide) rfl (fun ls hl => ?_)
  refine lv_iload hx hb dX2_nearest_151 (lv_at hl 7 rfl) ?_
  refine lv_istore (i := 7) (lv' := [(7, .int x11), (6, .int x9), (0, va_rf (some x0)), (1, va_rf x1), (2, .int x2), (4, .int x4), (8, .int x8), (9, .int x9), (11, .int x11)]) hx hb dX2_nearest_153 hl (by decide) rfl (fun ls hl => ?_)
  exact wX2_nearest_155 C hk70 h hG hS (lv_sub hl [2, 3, 4, 5, 1, 0, 6, 7] rfl)
def fX2_nearest_70_b (x0 : Nat) (x1 : Option Nat) (x2 : Int32) (x4 : Int32) (x6 : Int32) (x7 : Int32) (x8 : Int32) (x9 : Int32) (u : gM) (k70 : Nat → Option Nat → Int32 → Int32 → Int32 → Int32 → Int32 → Int32 → gM → Option (Int32 × gM)) : Option (Int32 × gM) :=
  if ((1 : Int32) <<< (x4 &&& 31)) ≤ x9 then (
    some (x6, u)
  ) else (
    bI (fJ6_numberOfTrailingZeros_0f7a4 x9 u) fun r81 u81 =>
    (x1).bind fun a91 =>
    (gO [0] u81 a91).bind fun _ =>
    bI (fJx4a65c_get_915e3 a91 r81 u81) fun r91 u91 =>
    (kC [9, 6] u91 r91).bind fun _ =>
    (r91).bind fun a97 =>
    (gI [9, 6] 2 u91 a97).bind fun v97 =>
    (gR [3] 0 u91 x0).bind fun v101 =>
    (v101).bind fun a106 =>
    (aI u91 a106 r81).bind fun v106 =>
    pU (if 0 ≤ ((x8 + (v97 - v106)) - x2) then ((x8 + (v97 - v106)) - x2) else 0 - ((x8 + (v97 - v106)) - x2)) fun y115 =>
    if y115 < x7 then (
      fX2_nearest_147 x0 x1 x2 x4 (x8 + (v97 - v106)) x9 y115 u91 k70
    ) else (
      if y115 = x7 then (
        bI (fJ6_bitCount_0f7a4 x9 u91) fun r136 u136 =>
        bI (fJ6_bitCount_0f7a4 x6 u136) fun r141 u141 =>
        if r141 ≤ r136 then (
          fX2_nearest_155 x0 x1 x2 x4 x6 x7 (x8 + (v97 - v106)) x9 u141 k70
        ) else (
          fX2_nearest_147 x0 x1 x2 x4 (x8 + (v97 - v106)) x9 y115 u141 k70
        )
      ) else (
        fX2_nearest_155 x0 x1 x2 x4 x6 x7 (x8 + (v97 - v106)) x9 u91 k70
      )
    )
  )
set_option maxHeartbeats 4000000 in
set_option maxRecDepth 20000 in
theorem wX2_nearest_70_b  (C : gC p s m args meth c cX2_nearest 12 (some .int) RX2 "nearest" Γ){x0 : Nat} {x1 : Option Nat} {x2 : Int32} {x4 : Int32} {x6 : Int32} {x7 : Int32} {x8 : Int32} {x9 : Int32} {u : gM} {res : Int32 × gM} {k70 : Nat → Option Nat → Int32 → Int32 → Int32 → Int32 → Int32 → Int32 → gM → Option (Int32 × gM)} (hk70 : ∀ (x0 : Nat) (x1 : Option Nat) (x2 : Int32) (x4 : Int32) (x6 : Int32) (x7 : Int32) (x8 : Int32) (x9 : Int32) (u : gM) (H : Heap) (locs : List Loc) (ls : Array Slot), k70 x0 x1 x2 x4 x6 x7 x8 x9 u = some res → gAg Γ u N H → va_S Γ.2.2.1 s.heap H locs → lv_has ls 12 [(0, va_rf (some x0)), (1, va_rf x1), (2, .int x2), (4, .int x4), (6, .int x6), (7, .int x7), (8, .int x8), (9, .int x9)] → W p l e rmX2_nearest s m args below meth c H locs 0 0 (MQ below (gQ Γ (some (.int res.1)) res.2 N) args s 0 0 Γ.2.2.1) (F0 m 70 ls [])) (h : fX2_nearest_70_b x0 x1 x2 x4 x6 x7 x8 x9 u k70 = some res) {H : Heap} {locs : List Loc} (hG : gAg Γ u N H) (hS : va_S Γ.2.2.1 s.heap H locs) {ls : Array Slot} (hl : lv_has ls 12 [(0, va_rf (some x0)), (1, va_rf x1), (2, .int x2), (4, .int x4), (6, .int x6), (7, .int x7), (8, .int x8), (9, .int x9)]) : W p l e rmX2_nearest s m args below meth c H locs 0 0 (MQ below (gQ Γ (some (.int res.1)) res.2 N) args s 0 0 Γ.2.2.1) (F0 m 70 ls []) := by
  have hx := C.1
  have hb := C.2.1
  unfold fX2_nearest_70_b at h
  refine lv_iload hx hb dX2_nearest_70 (lv_at hl 7 rfl) ?_
  refine lv_iconst (v := 1) hx hb dX2_nearest_72 (by decide) ?_
  refine lv_iload hx hb dX2_nearest_73 (lv_at hl 3 rfl) ?_
  refine lv_ishl hx hb dX2_nearest_75 ?_
  refine lv_icmp_ge (tgt := 161) hx hb dX2_nearest_76 (by decide) (fun hc => ?_) (fun hc => ?_)
  · replace h := it_pos hc h
    refine lv_iload hx hb dX2_nearest_161 (lv_at hl 4 rfl) ?_
    cases Option.some.inj h
    exact gx_reti C hG hS dX2_nearest_163
  · replace h := it_neg hc h
    refine lv_iload hx hb dX2_nearest_79 (lv_at hl 7 rfl) ?_
    obtain ⟨r81, u81, e81, h⟩ := obI h
    refine gx_cS C hG hS [.int x9] (tJ6_numberOfTrailingZeros_0f7a4 e81) qcX2_37 ⟨rfl, rfl, Nat.le_of_ble_eq_true rfl, Nat.le_of_ble_eq_true rfl⟩ ⟨Nat.zero_le _, Nat.zero_le _⟩ rfl hl.1 rfl (Nat.le_of_ble_eq_true rfl) (st1 := [.int r81]) rfl dX2_nearest_81 (fun H locs hG hS => ?_)
    refine lv_istore (i := 10) (lv' := [(10, .int r81), (0, va_rf (some x0)), (1, va_rf x1), (2, .int x2), (4, .int x4), (6, .int x6), (7, .int x7), (8, .int x8), (9, .int x9)]) hx hb dX2_nearest_84 hl (by decide) rfl (fun ls hl => ?_)
    refine lv_iload hx hb dX2_nearest_86 (lv_at hl 7 rfl) ?_
    refine gx_aload_n (r := x1) hx hb dX2_nearest_88 rfl (lv_at hl 2 rfl) ?_
    refine lv_iload hx hb dX2_nearest_89 (lv_at hl 0 rfl) ?_
    obtain ⟨a91, na91, h⟩ := ob h
    obtain ⟨_, eo91, h⟩ := ob h
    obtain ⟨r91, u91, e91, h⟩ := obI h
    refine gx_cV C hG hS [.int r81] na91 eo91 (tJx4a65c_get_915e3 e91) qcX2_27 ⟨rfl, rfl, Nat.le_of_ble_eq_true rfl, Nat.le_of_ble_eq_true rfl⟩ ⟨Nat.zero_le _, Nat.zero_le _⟩ rfl hl.1 rfl (Nat.le_of_ble_eq_true rfl) (st1 := [va_rf r91, .int x8]) rfl dX2_nearest_91 (fun H locs hG hS => ?_)
    obtain ⟨_, e94, h⟩ := ob h
    refine gx_cast C hG e94 ckX2_31 dX2_nearest_94 ?_
    obtain ⟨a97, na97, h⟩ := ob h
    obtain ⟨v97, e97, h⟩ := ob h
    refine gx_getI C hG na97 e97 fgX2_33 dX2_nearest_97 ?_
    refine gx_aload_n (r := (some x0)) hx hb dX2_nearest_100 rfl (lv_at hl 1 rfl) ?_
    obtain ⟨v101, e101, h⟩ := ob h
    refine gx_getR C hG rfl e101 fgX2_9 dX2_nearest_101 ?_
    refine lv_iload hx hb dX2_nearest_104 (lv_at hl 0 rfl) ?_
    obtain ⟨a106, na106, h⟩ := ob h
    obtain ⟨v106, e106, h⟩ := ob h
    refine gx_iald C hG na106 e106 dX2_nearest_106 ?_
    refine lv_isub hx hb dX2_nearest_107 ?_
    refine lv_iadd hx hb dX2_nearest_108 ?_
    refine lv_istore (i := 8) (lv' := [(8, .int (x8 + (v97 - v106))), (10, .int r81), (0, va_rf (some x0)), (1, va_rf x1), (2, .int x2), (4, .int x4), (6, .int x6), (7, .int x7), (9, .int x9)]) hx hb dX2_nearest_109 hl (by decide) rfl (fun ls hl => ?_)
    refine lv_iload hx hb dX2_nearest_111 (lv_at hl 0 rfl) ?_
    refine lv_iload_n hx hb dX2_nearest_113 rfl (lv_at hl 4 rfl) ?_
    refine lv_isub hx hb dX2_nearest_114 ?_
    refine gx_mabs C qcX2_43 hl.1 ⟨Nat.le_of_ble_eq_true rfl, (Nat.le_of_ble_eq_true rfl)⟩ ⟨Nat.zero_le _, Nat.zero_le _⟩ dX2_nearest_115 ?_
    obtain ⟨y115, ey115, h⟩ := op h
    refine gx_topI ey115 ?_
    refine lv_istore (i := 11) (lv' := [(11, .int y115), (8, .int (x8 + (v97 - v106))), (10, .int r81), (0, va_rf (some x0)), (1, va_rf x1), (2, .int x2), (4, .int x4), (6, .int x6), (7, .int x7), (9, .int x9)]) hx hb dX2_nearest_118 hl (by decide) rfl (fun ls hl => ?_)
    refine lv_iload hx hb dX2_nearest_120 (lv_at hl 0 rfl) ?_
    refine lv_iload hx hb dX2_nearest_122 (lv_at hl 8 rfl) ?_
    refine lv_icmp_lt (tgt := 147) hx hb dX2_nearest_124 (by decide) (fun hc => ?_) (fun hc => ?_)
    · replace h := it_pos hc h
      exact wX2_nearest_147 C hk70 h hG hS (lv_sub hl [3, 4, 5, 6, 1, 9, 0] rfl)
    · replace h := it_neg hc h
      refine lv_iload hx hb dX2_nearest_127 (lv_at hl 0 rfl) ?_
      refine lv_iload hx hb dX2_nearest_129 (lv_at hl 8 rfl) ?_
      refine lv_icmp_ne (tgt := 155) hx hb dX2_nearest_131 (by decide) (fun hc => ?_) (fun hc => ?_)
      · replace h := it_neg hc h
        exact wX2_nearest_155 C hk70 h hG hS (lv_sub hl [3, 4, 5, 6, 7, 8, 1, 9] rfl)
      · replace h := it_pos hc h
        refine lv_iload hx hb dX2_nearest_134 (lv_at hl 9 rfl) ?_
        obtain ⟨r136, u136, e136, h⟩ := obI h
        refine gx_cS C hG hS [.int x9] (tJ6_bitCount_0f7a4 e136) qcX2_46 ⟨rfl, rfl, Nat.le_of_ble_eq_true rfl, Nat.le_of_ble_eq_true rfl⟩ ⟨Nat.zero_le _, Nat.zero_le _⟩ rfl hl.1 rfl (Nat.le_of_ble_eq_true rfl) (st1 := [.int r136]) rfl dX2_nearest_136 (fun H locs hG hS => ?_)
        refine lv_iload hx hb dX2_nearest_139 (lv_at hl 7 rfl) ?_
        obtain ⟨r141, u141, e141, h⟩ := obI h
        refine gx_cS C hG hS [.int x6] (tJ6_bitCount_0f7a4 e141) qcX2_46 ⟨rfl, rfl, Nat.le_of_ble_eq_true rfl, Nat.le_of_ble_eq_true rfl⟩ ⟨Nat.zero_le _, Nat.zero_le _⟩ rfl hl.1 rfl (Nat.le_of_ble_eq_true rfl) (st1 := [.int r141, .int r136]) rfl dX2_nearest_141 (fun H locs hG hS => ?_)
        refine lv_icmp_ge (tgt := 155) hx hb dX2_nearest_144 (by decide) (fun hc => ?_) (fun hc => ?_)
        · replace h := it_pos hc h
          exact wX2_nearest_155 C hk70 h hG hS (lv_sub hl [3, 4, 5, 6, 7, 8, 1, 9] rfl)
        · replace h := it_neg hc h
          exact wX2_nearest_147 C hk70 h hG hS (lv_sub hl [3, 4, 5, 6, 1, 9, 0] rfl)
def fX2_nearest_70 : Nat → Nat → Option Nat → Int32 → Int32 → Int32 → Int32 → Int32 → Int32 → gM → Option (Int32 × gM)
  | 0 => fun _ _ _ _ _ _ _ _ _ => none
  | n + 1 => fun x0 x1 x2 x4 x6 x7 x8 x9 u => fX2_nearest_70_b x0 x1 x2 x4 x6 x7 x8 x9 u (fX2_nearest_70 n) 
theorem wX2_nearest_70 (C : gC p s m args meth c cX2_nearest 12 (some .int) RX2 "nearest" Γ) {res : Int32 × gM} (n : Nat) : ∀ {x0 : Nat} {x1 : Option Nat} {x2 : Int32} {x4 : Int32} {x6 : Int32} {x7 : Int32} {x8 : Int32} {x9 : Int32} {u : gM} {H : Heap} {locs : List Loc} {ls : Array Slot}, fX2_nearest_70 n x0 x1 x2 x4 x6 x7 x8 x9 u = some res → gAg Γ u N H → va_S Γ.2.2.1 s.heap H locs → lv_has ls 12 [(0, va_rf (some x0)), (1, va_rf x1), (2, .int x2), (4, .int x4), (6, .int x6), (7, .int x7), (8, .int x8), (9, .int x9)] → W p l e rmX2_nearest s m args below meth c H locs 0 0 (MQ below (gQ Γ (some (.int res.1)) res.2 N) args s 0 0 Γ.2.2.1) (F0 m 70 ls []) := by
  induction n with
  | zero => intro _ _ _ _ _ _ _ _ _ _ _ _ h _ _ _; cases (show (none : Option (Int32 × gM)) = some res from h)
  | succ n ih => intro _ _ _ _ _ _ _ _ _ _ _ _ h hG hS hl; exact wX2_nearest_70_b C (fun _ _ _ _ _ _ _ _ _ _ _ _ h hG hS hl => ih h hG hS hl) h hG hS hl
def fX2_nearest (x0 : Nat) (x1 : Option Nat) (x2 : Int32) (x3 : Int32) (u : gM) : Option (Int32 × gM) :=
  (x1).bind fun a1 =>
  (gO [0] u a1).bind fun _ =>
  bI (fJx4a65c_size_8abf5 a1 u) fun r1 u1 =>
  pU (if (14 : Int32) < r1 then (14 : Int32) else r1) fun y6 =>
  fX2_nearest_17 (fun x0 x1 x2 x3 x4 u =>
        fX2_nearest_70  FU x0 x1 x2 x4 (0 : Int32) (x3 + (1 : Int32)) (0 : Int32) (1 : Int32) u) FU x0 x1 x2 x3 y6 (0 : Int32) (0 : Int32) u1
set_option maxHeartbeats 4000000 in
set_option maxRecDepth 20000 in
theorem wX2_nearest  (C : gC p s m args meth c cX2_nearest 12 (some .int) RX2 "nearest" Γ){x0 : Nat} {x1 : Option Nat} {x2 : Int32} {x3 : Int32} {u : gM} {res : Int32 × gM} (h : fX2_nearest x0 x1 x2 x3 u = some res) {H : Heap} {locs : List Loc} (hG : gAg Γ u N H) (hS : va_S Γ.2.2.1 s.heap H locs) {ls : Array Slot} (hl : lv_has ls 12 [(0, va_rf (some x0)), (1, va_rf x1), (2, .int x2), (3, .int x3)]) : W p l e rmX2_nearest s m args below meth c H locs 0 0 (MQ below (gQ Γ (some (.int res.1)) res.2 N) args s 0 0 Γ.2.2.1) (F0 m 0 ls []) := by
  have hx := C.1
  have hb := C.2.1
  unfold fX2_nearest at h
  refine gx_aload_n (r := x1) hx hb dX2_nearest_0 rfl (lv_at hl 1 rfl) ?_
  obtain ⟨a1, na1, h⟩ := ob h
  obtain ⟨_, eo1, h⟩ := ob h
  obtain ⟨r1, u1, e1, h⟩ := obI h
  refine gx_cV C hG hS [] na1 eo1 (tJx4a65c_size_8abf5 e1) qcX2_15 ⟨rfl, rfl, Nat.le_of_ble_eq_true rfl, Nat.le_of_ble_eq_true rfl⟩ ⟨Nat.zero_le _, Nat.zero_le _⟩ rfl hl.1 rfl (Nat.le_of_ble_eq_true rfl) (st1 := [.int r1]) rfl dX2_nearest_1 (fun H locs hG hS => ?_)
  refine lv_bipush (v := 14) hx hb dX2_nearest_4 (by decide) ?_
  refine gx_mmin C qcX2_21 hl.1 ⟨Nat.le_of_ble_eq_true rfl, (Nat.le_of_ble_eq_true rfl)⟩ ⟨Nat.zero_le _, Nat.zero_le _⟩ dX2_nearest_6 ?_
  obtain ⟨y6, ey6, h⟩ := op h
  refine gx_topI ey6 ?_
  refine lv_istore (i := 4) (lv' := [(4, .int y6), (0, va_rf (some x0)), (1, va_rf x1), (2, .int x2), (3, .int x3)]) hx hb dX2_nearest_9 hl (by decide) rfl (fun ls hl => ?_)
  refine lv_iconst (v := 0) hx hb dX2_nearest_11 (by decide) ?_
  refine lv_istore (i := 5) (lv' := [(5, .int (0 : Int32)), (4, .int y6), (0, va_rf (some x0)), (1, va_rf x1), (2, .int x2), (3, .int x3)]) hx hb dX2_nearest_12 hl (by decide) rfl (fun ls hl => ?_)
  refine lv_iconst (v := 0) hx hb dX2_nearest_14 (by decide) ?_
  refine lv_istore (i := 6) (lv' := [(6, .int (0 : Int32)), (5, .int (0 : Int32)), (4, .int y6), (0, va_rf (some x0)), (1, va_rf x1), (2, .int x2), (3, .int x3)]) hx hb dX2_nearest_15 hl (by decide) rfl (fun ls hl => ?_)
  refine wX2_nearest_17 C ?_ FU h hG hS (lv_sub hl [3, 4, 5, 6, 2, 1, 0] rfl)
  · intro x0 x1 x2 x3 x4 u H locs ls h hG hS hl
    refine lv_iconst (v := 0) hx hb dX2_nearest_56 (by decide) ?_
    refine lv_istore (i := 6) (lv' := [(6, .int (0 : Int32)), (0, va_rf (some x0)), (1, va_rf x1), (2, .int x2), (3, .int x3), (4, .int x4)]) hx hb dX2_nearest_57 hl (by decide) rfl (fun ls hl => ?_)
    refine lv_iload_n hx hb dX2_nearest_59 rfl (lv_at hl 4 rfl) ?_
    refine lv_iconst (v := 1) hx hb dX2_nearest_60 (by decide) ?_
    refine lv_iadd hx hb dX2_nearest_61 ?_
    refine lv_istore (i := 7) (lv' := [(7, .int (x3 + (1 : Int32))), (6, .int (0 : Int32)), (0, va_rf (some x0)), (1, va_rf x1), (2, .int x2), (3, .int x3), (4, .int x4)]) hx hb dX2_nearest_62 hl (by decide) rfl (fun ls hl => ?_)
    refine lv_iconst (v := 0) hx hb dX2_nearest_64 (by decide) ?_
    refine lv_istore (i := 8) (lv' := [(8, .int (0 : Int32)), (7, .int (x3 + (1 : Int32))), (6, .int (0 : Int32)), (0, va_rf (some x0)), (1, va_rf x1), (2, .int x2), (3, .int x3), (4, .int x4)]) hx hb dX2_nearest_65 hl (by decide) rfl (fun ls hl => ?_)
    refine lv_iconst (v := 1) hx hb dX2_nearest_67 (by decide) ?_
    refine lv_istore (i := 9) (lv' := [(9, .int (1 : Int32)), (8, .int (0 : Int32)), (7, .int (x3 + (1 : Int32))), (6, .int (0 : Int32)), (0, va_rf (some x0)), (1, va_rf x1), (2, .int x2), (3, .int x3), (4, .int x4)]) hx hb dX2_nearest_68 hl (by decide) rfl (fun ls hl => ?_)
    exact wX2_nearest_70 C  FU h hG hS (lv_sub hl [4, 5, 6, 8, 3, 2, 1, 0] rfl)
theorem tX2_nearest {Γ : gEnv} {N : Nat} {x0 : Nat} {x1 : Option Nat} {x2 : Int32} {x3 : Int32} {u v : gM} {r : Int32} (h : fX2_nearest x0 x1 x2 x3 u = some (r, v)) : Met l yX2_nearest (Cond.code yX2_nearest cX2_nearest 12 (some .int) :: gW) rmX2_nearest (va_Pc [va_rf (some x0), va_rf x1, .int x2, .int x3] (gPre Γ u N)) (gQ Γ (some (.int r)) v N) 0 0 Γ.2.2.1 :=
  gx_met (nm := "nearest") ⟨by decide +kernel, rfl, rfl⟩ (by simp [lg_sl, gx_cat, gx_catI, gx_catJ]) (fun p e s m below meth c ls C hG hl => wX2_nearest C h hG va_S.rf (by simpa [lv_args, gx_cat, gx_catI, gx_catJ] using hl))
end
