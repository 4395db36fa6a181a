section
variable {p : Program} {l : Launch} {e : Env} {s : State} {m : MethodId} {args : Array Value} {below : List Frame} {meth : Method} {c : Code} {Γ : gEnv} {N sB : Nat}
abbrev rmX3_init (a b : Nat) : Room := { frames := 1, cells := a, slots := b, locals := 12 }
def fX3_init_18 (x0 : Nat) (s1 : Option Nat) (u : gN) : Option (gN) :=
  (wN (pV [4] 1 (va_rf s1) u.1 x0) u).bind fun u18 =>
  (wN (pV [4] 2 (.int (0 : Int32)) u18.1 x0) u18).bind fun u23 =>
  some u23
set_option maxRecDepth 20000 in
theorem moX3_init_18 {x0 : Nat} {s1 : Option Nat} {u : gN} {res : gN} (h : fX3_init_18 x0 s1 u = some res) : gLe u res := by
  unfold fX3_init_18 at h
  obtain ⟨u18, e18, h⟩ := ob h
  refine gLe.tr (wN_le e18) ?_
  obtain ⟨u23, e23, h⟩ := ob h
  refine gLe.tr (wN_le e23) ?_
  cases Option.some.inj h
  exact gLe.rf _
set_option maxHeartbeats 4000000 in
set_option maxRecDepth 20000 in
theorem wX3_init_18  (C : gC p s m args meth c cX3_init 1 none RX3 "<init>" Γ){x0 : Nat} {s1 : Option Nat} {u : gN} {res : gN} (h : fX3_init_18 x0 s1 u = some res) {H : Heap} {locs : List Loc} (hG : gAn Γ sB u H) (hS : va_S Γ.2.2.1 s.heap H locs) {ls : Array Slot} (hl : lv_has ls 1 [(0, va_rf (some x0))]) : W p l e (rmX3_init (res.2.1 - s.heap.size) (res.2.2 - sB)) s m args below meth c H locs (u.2.1 - s.heap.size) (u.2.2 - sB) (MQ below (gQ Γ none res.1 res.2.1) args s (res.2.1 - s.heap.size) (res.2.2 - sB) Γ.2.2.1) (F0 m 18 ls [va_rf s1, va_rf (some x0)]) := by
  have hx := C.1
  have hb := C.2.1
  have hm := moX3_init_18 h
  unfold fX3_init_18 at h
  obtain ⟨u18, e18, h⟩ := ob h
  obtain ⟨g18, eg18, ev18⟩ := wN_inv e18
  replace hm : gLe u18 res := by rw [ev18]; exact hm
  refine gx_put C hG.1 hS rfl eg18 fgX3_15 fpX3_15 (fun _ => rfl) (gx_rfn _ _ (Or.inr ⟨_, rfl⟩)).1 (gx_rfn _ _ (Or.inr ⟨_, rfl⟩)).2 dX3_init_18 (fun H locs hg hS => gy_w hG ev18 hg (fun hG => ?_))
  refine gx_aload_n (r := (some x0)) hx hb dX3_init_21 rfl (lv_at hl 0 rfl) ?_
  refine lv_iconst (v := 0) hx hb dX3_init_22 (by decide) ?_
  obtain ⟨u23, e23, h⟩ := ob h
  obtain ⟨g23, eg23, ev23⟩ := wN_inv e23
  replace hm : gLe u23 res := by rw [ev23]; exact hm
  refine gx_put C hG.1 hS rfl eg23 fgX3_18 fpX3_18 (fun q => by cases q) rfl rfl dX3_init_23 (fun H locs hg hS => gy_w hG ev23 hg (fun hG => ?_))
  cases Option.some.inj h
  exact gx_retv C hG.1 hS dX3_init_26
def fX3_init_10 (x0 : Nat) (s1 : Option Nat) (u : gN) : Option (gN) :=
  (wN (pV [4] 0 (va_rf s1) u.1 x0) u).bind fun u10 =>
  bI (nwJ (8 : Int32) u10) fun q16 u16 =>
  fX3_init_18 x0 (some q16) u16 
set_option maxRecDepth 20000 in
theorem moX3_init_10 {x0 : Nat} {s1 : Option Nat} {u : gN} {res : gN} (h : fX3_init_10 x0 s1 u = some res) : gLe u res := by
  unfold fX3_init_10 at h
  obtain ⟨u10, e10, h⟩ := ob h
  refine gLe.tr (wN_le e10) ?_
  obtain ⟨q16, u16, e16, h⟩ := obI h
  refine gLe.tr (nwJ_le e16) ?_
  exact moX3_init_18  h
set_option maxHeartbeats 4000000 in
set_option maxRecDepth 20000 in
theorem wX3_init_10  (C : gC p s m args meth c cX3_init 1 none RX3 "<init>" Γ){x0 : Nat} {s1 : Option Nat} {u : gN} {res : gN} (h : fX3_init_10 x0 s1 u = some res) {H : Heap} {locs : List Loc} (hG : gAn Γ sB u H) (hS : va_S Γ.2.2.1 s.heap H locs) {ls : Array Slot} (hl : lv_has ls 1 [(0, va_rf (some x0))]) : W p l e (rmX3_init (res.2.1 - s.heap.size) (res.2.2 - sB)) s m args below meth c H locs (u.2.1 - s.heap.size) (u.2.2 - sB) (MQ below (gQ Γ none res.1 res.2.1) args s (res.2.1 - s.heap.size) (res.2.2 - sB) Γ.2.2.1) (F0 m 10 ls [va_rf s1, va_rf (some x0)]) := by
  have hx := C.1
  have hb := C.2.1
  have hm := moX3_init_10 h
  unfold fX3_init_10 at h
  obtain ⟨u10, e10, h⟩ := ob h
  obtain ⟨g10, eg10, ev10⟩ := wN_inv e10
  replace hm : gLe u10 res := by rw [ev10]; exact hm
  refine gx_put C hG.1 hS rfl eg10 fgX3_9 fpX3_9 (fun _ => rfl) (gx_rfn _ _ (Or.inr ⟨_, rfl⟩)).1 (gx_rfn _ _ (Or.inr ⟨_, rfl⟩)).2 dX3_init_10 (fun H locs hg hS => gy_w hG ev10 hg (fun hG => ?_))
  refine gx_aload_n (r := (some x0)) hx hb dX3_init_13 rfl (lv_at hl 0 rfl) ?_
  refine lv_bipush (v := 8) hx hb dX3_init_14 (by decide) ?_
  obtain ⟨q16, u16, e16, h⟩ := obI h
  have hm2 : gLe u16 res := by
    exact moX3_init_18  h
  refine gy_newJ C hG hS e16 ⟨Nat.sub_le_sub_right hm2.1 _, Nat.sub_le_sub_right hm2.2 _⟩ dX3_init_16 (fun H hG hS => ?_)
  exact wX3_init_18 C  h hG hS (lv_sub hl [0] rfl)
def fX3_init (x0 : Nat) (u : gN) : Option (gN) :=
  bI (nwJ (256 : Int32) u) fun q8 u8 =>
  fX3_init_10 x0 (some q8) u8 
set_option maxRecDepth 20000 in
theorem moX3_init {x0 : Nat} {u : gN} {res : gN} (h : fX3_init x0 u = some res) : gLe u res := by
  unfold fX3_init at h
  obtain ⟨q8, u8, e8, h⟩ := obI h
  refine gLe.tr (nwJ_le e8) ?_
  exact moX3_init_10  h
set_option maxHeartbeats 4000000 in
set_option maxRecDepth 20000 in
theorem wX3_init  (C : gC p s m args meth c cX3_init 1 none RX3 "<init>" Γ){x0 : Nat} {u : gN} {res : gN} (h : fX3_init x0 u = some res) {H : Heap} {locs : List Loc} (hG : gAn Γ sB u H) (hS : va_S Γ.2.2.1 s.heap H locs) {ls : Array Slot} (hl : lv_has ls 1 [(0, va_rf (some x0))]) : W p l e (rmX3_init (res.2.1 - s.heap.size) (res.2.2 - sB)) s m args below meth c H locs (u.2.1 - s.heap.size) (u.2.2 - sB) (MQ below (gQ Γ none res.1 res.2.1) args s (res.2.1 - s.heap.size) (res.2.2 - sB) Γ.2.2.1) (F0 m 0 ls []) := by
  have hx := C.1
  have hb := C.2.1
  have hm := moX3_init h
  unfold fX3_init at h
  refine gx_aload_n (r := (some x0)) hx hb dX3_init_0 rfl (lv_at hl 0 rfl) ?_
  refine gx_obj C rfl qcX3_3 hl.1 ⟨Nat.le_of_ble_eq_true rfl, Nat.le_of_ble_eq_true rfl⟩ dX3_init_1 ?_
  refine gx_aload_n (r := (some x0)) hx hb dX3_init_4 rfl (lv_at hl 0 rfl) ?_
  refine lv_sipush (v := 256) hx hb dX3_init_5 (by decide) ?_
  obtain ⟨q8, u8, e8, h⟩ := obI h
  have hm2 : gLe u8 res := by
    exact moX3_init_10  h
  refine gy_newJ C hG hS e8 ⟨Nat.sub_le_sub_right hm2.1 _, Nat.sub_le_sub_right hm2.2 _⟩ dX3_init_8 (fun H hG hS => ?_)
  exact wX3_init_10 C  h hG hS (lv_sub hl [0] rfl)
theorem tX3_init {Γ : gEnv} {x0 : Nat} {u v : gN} (h : fX3_init x0 u = some v) : Met l yX3_init (Cond.code yX3_init cX3_init 1 none :: gW) (rmX3_init (v.2.1 - u.2.1) (v.2.2 - u.2.2)) (va_Pc [va_rf (some x0)] (gPre Γ u.1 u.2.1)) (gQ Γ none v.1 v.2.1) (v.2.1 - u.2.1) (v.2.2 - u.2.2) Γ.2.2.1 := by
  refine gx_met (nm := "<init>") ⟨by decide +kernel, rfl, rfl⟩ (Nat.le_of_ble_eq_true rfl) (fun p e s m below meth c ls C hG hl => ?_)
  have hN : s.heap.size = u.2.1 := hG.1
  have K := wX3_init (l := l) (e := e) (below := below) (sB := u.2.2) C h ⟨hG, Nat.le_refl _⟩ va_S.rf hl
  rw [hN, Nat.sub_self, Nat.sub_self] at K
  exact K
abbrev rmX3_likenessesIn : Room := { frames := 0, cells := 0, slots := 0, locals := 0 }
def fX3_likenessesIn (x0 : Int64) (u : gM) : Option (Int32 × gM) :=
  some ((x0 / (37822859361 : Int64)).toInt32, u)
set_option maxHeartbeats 4000000 in
set_option maxRecDepth 20000 in
theorem wX3_likenessesIn  (C : gC p s m args meth c cX3_likenessesIn 2 (some .int) RX3 "likenessesIn" Γ){x0 : Int64} {u : gM} {res : Int32 × gM} (h : fX3_likenessesIn x0 u = some res) {H : Heap} {locs : List Loc} (hG : gAg Γ u N H) (hS : va_S Γ.2.2.1 s.heap H locs) {ls : Array Slot} (hl : lv_has ls 2 [(0, .long x0)]) : W p l e rmX3_likenessesIn s m args below meth c H locs 0 0 (MQ below (gQ Γ (some (.int res.1)) res.2 N) args s 0 0 Γ.2.2.1) (F0 m 0 ls []) := by
  have hx := C.1
  have hb := C.2.1
  unfold fX3_likenessesIn at h
  refine lv_lload_n hx hb dX3_likenessesIn_0 rfl (lv_at hl 0 rfl) ?_
  refine lv_ldc2 (v := 37822859361) hx hb C.2.2.2.1 (C.2.2.2.2.1 _ (gW_mem kcX3_22)) dX3_likenessesIn_1 ?_
  refine lv_ldiv hx hb dX3_likenessesIn_4 (by decide) ?_
  refine lv_l2i hx hb dX3_likenessesIn_5 rfl ?_
  cases Option.some.inj h
  exact gx_reti C hG hS dX3_likenessesIn_6
theorem tX3_likenessesIn {Γ : gEnv} {N : Nat} {x0 : Int64} {u v : gM} {r : Int32} (h : fX3_likenessesIn x0 u = some (r, v)) : Met l yX3_likenessesIn (Cond.code yX3_likenessesIn cX3_likenessesIn 2 (some .int) :: gW) rmX3_likenessesIn (va_Pc [.long x0] (gPre Γ u N)) (gQ Γ (some (.int r)) v N) 0 0 Γ.2.2.1 :=
  gx_met (nm := "likenessesIn") ⟨by decide +kernel, rfl, rfl⟩ (Nat.le_of_ble_eq_true rfl) (fun p e s m below meth c ls C hG hl => wX3_likenessesIn C h hG va_S.rf hl)
abbrev rmX3_thingIn : Room := { frames := 0, cells := 0, slots := 0, locals := 0 }
def fX3_thingIn (x0 : Int64) (x2 : Int32) (u : gM) : Option (Int32 × gM) :=
  (plE x2).bind fun v5 =>
  if v5 = 0 then none else
  pU (((x0 / v5) - (x0 / v5) / (21 : Int64) * (21 : Int64)).toInt32) fun z12 =>
  if z12 = 0 then (
    some ((-1 : Int32), u)
  ) else (
    some ((20 : Int32) - z12, u)
  )
set_option maxHeartbeats 4000000 in
set_option maxRecDepth 20000 in
theorem wX3_thingIn  (C : gC p s m args meth c cX3_thingIn 4 (some .int) RX3 "thingIn" Γ){x0 : Int64} {x2 : Int32} {u : gM} {res : Int32 × gM} (h : fX3_thingIn x0 x2 u = some res) {H : Heap} {locs : List Loc} (hG : gAg Γ u N H) (hS : va_S Γ.2.2.1 s.heap H locs) {ls : Array Slot} (hl : lv_has ls 4 [(0, .long x0), (2, .int x2)]) : W p l e rmX3_thingIn s m args below meth c H locs 0 0 (MQ below (gQ Γ (some (.int res.1)) res.2 N) args s 0 0 Γ.2.2.1) (F0 m 0 ls []) := by
  have hx := C.1
  have hb := C.2.1
  unfold fX3_thingIn at h
  refine lv_lload_n hx hb dX3_thingIn_0 rfl (lv_at hl 0 rfl) ?_
  refine gx_gets C hS C.2.2.2.2.2.2.1.2.2.1.1 ksX3_24 dX3_thingIn_1 ?_
  refine lv_iload_n hx hb dX3_thingIn_4 rfl (lv_at hl 1 rfl) ?_
  obtain ⟨v5, e5, h⟩ := ob h
  refine gx_pla C hS e5 dX3_thingIn_5 ?_
  have n6 : ¬ v5 = 0 := fun q => by rw [if_pos q] at h; cases h
  replace h := it_neg n6 h
  refine lv_ldiv hx hb dX3_thingIn_6 n6 ?_
  refine lv_ldc2 (v := 21) hx hb C.2.2.2.1 (C.2.2.2.2.1 _ (gW_mem kcX3_27)) dX3_thingIn_7 ?_
  refine lv_lrem hx hb dX3_thingIn_10 (by decide) ?_
  refine lv_l2i hx hb dX3_thingIn_11 rfl ?_
  obtain ⟨z12, ez12, h⟩ := op h
  refine gx_topI ez12 ?_
  refine lv_istore_n (i := 3) (lv' := [(3, .int z12), (0, .long x0), (2, .int x2)]) hx hb dX3_thingIn_12 rfl hl (by decide) rfl (fun ls hl => ?_)
  refine lv_iload_n hx hb dX3_thingIn_13 rfl (lv_at hl 0 rfl) ?_
  refine lv_if_ne (tgt := 21) hx hb dX3_thingIn_14 (by decide) (fun hc => ?_) (fun hc => ?_)
  · replace h := it_neg hc h
    refine lv_bipush (v := 20) hx hb dX3_thingIn_21 (by decide) ?_
    refine lv_iload_n hx hb dX3_thingIn_23 rfl (lv_at hl 0 rfl) ?_
    refine lv_isub hx hb dX3_thingIn_24 ?_
    cases Option.some.inj h
    exact gx_reti C hG hS dX3_thingIn_25
  · replace h := it_pos hc h
    refine lv_iconst (v := -1) hx hb dX3_thingIn_17 (by decide) ?_
    refine lv_goto (tgt := 25) hx hb dX3_thingIn_18 (by decide) ?_
    cases Option.some.inj h
    exact gx_reti C hG hS dX3_thingIn_25
theorem tX3_thingIn {Γ : gEnv} {N : Nat} {x0 : Int64} {x2 : Int32} {u v : gM} {r : Int32} (h : fX3_thingIn x0 x2 u = some (r, v)) : Met l yX3_thingIn (Cond.code yX3_thingIn cX3_thingIn 4 (some .int) :: gW) rmX3_thingIn (va_Pc [.long x0, .int x2] (gPre Γ u N)) (gQ Γ (some (.int r)) v N) 0 0 Γ.2.2.1 :=
  gx_met (nm := "thingIn") ⟨by decide +kernel, rfl, rfl⟩ (Nat.le_of_ble_eq_true rfl) (fun p e s m below meth c ls C hG hl => wX3_thingIn C h hG va_S.rf hl)
abbrev rmJ7_fill_d0a16 : Room := { frames := 0, cells := 0, slots := 0, locals := 0 }
def fJ7_fill_d0a16_6_b (x0 : Option Nat) (x1 : Int64) (x3 : Int32) (x4 : Int32) (u : gM) (k6 : Option Nat → Int64 → Int32 → Int32 → gM → Option (gM)) : Option (gM) :=
  if x4 ≤ x3 then (
    some u
  ) else (
    (x0).bind fun a15 =>
    (uJ u a15 x3 x1).bind fun u15 =>
    k6 x0 x1 (x3 + (1 : Int32)) x4 u15
  )
set_option maxHeartbeats 4000000 in
set_option maxRecDepth 20000 in
theorem wJ7_fill_d0a16_6_b  (C : gC p s m args meth c cJ7_fill_d0a16 5 none RJ7 "fill" Γ){x0 : Option Nat} {x1 : Int64} {x3 : Int32} {x4 : Int32} {u : gM} {res : gM} {k6 : Option Nat → Int64 → Int32 → Int32 → gM → Option (gM)} (hk6 : ∀ (x0 : Option Nat) (x1 : Int64) (x3 : Int32) (x4 : Int32) (u : gM) (H : Heap) (locs : List Loc) (ls : Array Slot), k6 x0 x1 x3 x4 u = some res → gAg Γ u N H → va_S Γ.2.2.1 s.heap H locs → lv_has ls 5 [(0, va_rf x0), (1, .long x1), (3, .int x3), (4, .int x4)] → W p l e rmJ7_fill_d0a16 s m args below meth c H locs 0 0 (MQ below (gQ Γ none res N) args s 0 0 Γ.2.2.1) (F0 m 6 ls [])) (h : fJ7_fill_d0a16_6_b x0 x1 x3 x4 u k6 = some res) {H : Heap} {locs : List Loc} (hG : gAg Γ u N H) (hS : va_S Γ.2.2.1 s.heap H locs) {ls : Array Slot} (hl : lv_has ls 5 [(0, va_rf x0), (1, .long x1), (3, .int x3), (4, .int x4)]) : W p l e rmJ7_fill_d0a16 s m args below meth c H locs 0 0 (MQ below (gQ Γ none res N) args s 0 0 Γ.2.2.1) (F0 m 6 ls []) := by
  have hx := C.1
  have hb := C.2.1
  unfold fJ7_fill_d0a16_6_b at h
  refine lv_iload_n hx hb dJ7_fill_d0a16_6 rfl (lv_at hl 2 rfl) ?_
  refine lv_iload hx hb dJ7_fill_d0a16_7 (lv_at hl 3 rfl) ?_
  refine lv_icmp_ge (tgt := 22) hx hb dJ7_fill_d0a16_9 (by decide) (fun hc => ?_) (fun hc => ?_)
  · replace h := it_pos hc h
    cases Option.some.inj h
    exact gx_retv C hG hS dJ7_fill_d0a16_22
  · replace h := it_neg hc h
    refine gx_aload_n (r := x0) hx hb dJ7_fill_d0a16_12 rfl (lv_at hl 0 rfl) ?_
    refine lv_iload_n hx hb dJ7_fill_d0a16_13 rfl (lv_at hl 2 rfl) ?_
    refine lv_lload_n hx hb dJ7_fill_d0a16_14 rfl (lv_at hl 1 rfl) ?_
    obtain ⟨a15, na15, h⟩ := ob h
    obtain ⟨u15, e15, h⟩ := ob h
    refine gx_last C hG hS na15 e15 dJ7_fill_d0a16_15 (fun H locs hG hS => ?_)
    refine lv_iinc (v := x3 + (1 : Int32)) (lv' := [(3, .int (x3 + (1 : Int32))), (0, va_rf x0), (1, .long x1), (4, .int x4)]) hx hb dJ7_fill_d0a16_16 hl (k := 2) rfl rfl (by decide) rfl (fun ls hl => ?_)
    refine lv_goto (tgt := 6) hx hb dJ7_fill_d0a16_19 (by decide) ?_
    exact hk6 _ _ _ _ _ _ _ _ h hG hS (lv_sub hl [1, 2, 0, 3] rfl)
def fJ7_fill_d0a16_6 : Nat → Option Nat → Int64 → Int32 → Int32 → gM → Option (gM)
  | 0 => fun _ _ _ _ _ => none
  | n + 1 => fun x0 x1 x3 x4 u => fJ7_fill_d0a16_6_b x0 x1 x3 x4 u (fJ7_fill_d0a16_6 n) 
theorem wJ7_fill_d0a16_6 (C : gC p s m args meth c cJ7_fill_d0a16 5 none RJ7 "fill" Γ) {res : gM} (n : Nat) : ∀ {x0 : Option Nat} {x1 : Int64} {x3 : Int32} {x4 : Int32} {u : gM} {H : Heap} {locs : List Loc} {ls : Array Slot}, fJ7_fill_d0a16_6 n x0 x1 x3 x4 u = some res → gAg Γ u N H → va_S Γ.2.2.1 s.heap H locs → lv_has ls 5 [(0, va_rf x0), (1, .long x1), (3, .int x3), (4, .int x4)] → W p l e rmJ7_fill_d0a16 s m args below meth c H locs 0 0 (MQ below (gQ Γ none res N) args s 0 0 Γ.2.2.1) (F0 m 6 ls []) := by
  induction n with
  | zero => intro _ _ _ _ _ _ _ _ h _ _ _; cases (show (none : Option (gM)) = some res from h)
  | succ n ih => intro _ _ _ _ _ _ _ _ h hG hS hl; exact wJ7_fill_d0a16_6_b C (fun _ _ _ _ _ _ _ _ h hG hS hl => ih h hG hS hl) h hG hS hl
def fJ7_fill_d0a16 (x0 : Option Nat) (x1 : Int64) (u : gM) : Option (gM) :=
  (x0).bind fun a3 =>
  (aN u a3).bind fun v3 =>
  fJ7_fill_d0a16_6  FU x0 x1 (0 : Int32) v3 u
set_option maxHeartbeats 4000000 in
set_option maxRecDepth 20000 in
theorem wJ7_fill_d0a16  (C : gC p s m args meth c cJ7_fill_d0a16 5 none RJ7 "fill" Γ){x0 : Option Nat} {x1 : Int64} {u : gM} {res : gM} (h : fJ7_fill_d0a16 x0 x1 u = some res) {H : Heap} {locs : List Loc} (hG : gAg Γ u N H) (hS : va_S Γ.2.2.1 s.heap H locs) {ls : Array Slot} (hl : lv_has ls 5 [(0, va_rf x0), (1, .long x1)]) : W p l e rmJ7_fill_d0a16 s m args below meth c H locs 0 0 (MQ below (gQ Γ none res N) args s 0 0 Γ.2.2.1) (F0 m 0 ls []) := by
  have hx := C.1
  have hb := C.2.1
  unfold fJ7_fill_d0a16 at h
  refine lv_iconst (v := 0) hx hb dJ7_fill_d0a16_0 (by decide) ?_
  refine lv_istore_n (i := 3) (lv' := [(3, .int (0 : Int32)), (0, va_rf x0), (1, .long x1)]) hx hb dJ7_fill_d0a16_1 rfl hl (by decide) rfl (fun ls hl => ?_)
  refine gx_aload_n (r := x0) hx hb dJ7_fill_d0a16_2 rfl (lv_at hl 1 rfl) ?_
  obtain ⟨a3, na3, h⟩ := ob h
  obtain ⟨v3, e3, h⟩ := ob h
  refine gx_alen C hG na3 e3 dJ7_fill_d0a16_3 ?_
  refine lv_istore (i := 4) (lv' := [(4, .int v3), (3, .int (0 : Int32)), (0, va_rf x0), (1, .long x1)]) hx hb dJ7_fill_d0a16_4 hl (by decide) rfl (fun ls hl => ?_)
  exact wJ7_fill_d0a16_6 C  FU h hG hS (lv_sub hl [2, 3, 1, 0] rfl)
theorem tJ7_fill_d0a16 {Γ : gEnv} {N : Nat} {x0 : Option Nat} {x1 : Int64} {u v : gM} (h : fJ7_fill_d0a16 x0 x1 u = some v) : Met l yJ7_fill_d0a16 (Cond.code yJ7_fill_d0a16 cJ7_fill_d0a16 5 none :: gW) rmJ7_fill_d0a16 (va_Pc [va_rf x0, .long x1] (gPre Γ u N)) (gQ Γ none v N) 0 0 Γ.2.2.1 :=
  gx_met (nm := "fill") ⟨by decide +kernel, rfl, rfl⟩ (by simp [lg_sl, gx_cat, gx_catI, gx_catJ]) (fun p e s m below meth c ls C hG hl => wJ7_fill_d0a16 C h hG va_S.rf (by simpa [lv_args, gx_cat, gx_catI, gx_catJ] using hl))
abbrev rmX3_begin : Room := { frames := 1, cells := 0, slots := 0, locals := 24 }
def fX3_begin (x0 : Nat) (x1 : Int32) (u : gM) : Option (gM) :=
  (pV [4] 2 (.int x1) u x0).bind fun u2 =>
  (gR [4] 0 u2 x0).bind fun v6 =>
  (fJ7_fill_d0a16 v6 (0 : Int64) u2).bind fun u10 =>
  some u10
set_option maxHeartbeats 4000000 in
set_option maxRecDepth 20000 in
theorem wX3_begin  (C : gC p s m args meth c cX3_begin 2 none RX3 "begin" Γ){x0 : Nat} {x1 : Int32} {u : gM} {res : gM} (h : fX3_begin x0 x1 u = some res) {H : Heap} {locs : List Loc} (hG : gAg Γ u N H) (hS : va_S Γ.2.2.1 s.heap H locs) {ls : Array Slot} (hl : lv_has ls 2 [(0, va_rf (some x0)), (1, .int x1)]) : W p l e rmX3_begin s m args below meth c H locs 0 0 (MQ below (gQ Γ none res N) args s 0 0 Γ.2.2.1) (F0 m 0 ls []) := by
  have hx := C.1
  have hb := C.2.1
  unfold fX3_begin at h
  refine gx_aload_n (r := (some x0)) hx hb dX3_begin_0 rfl (lv_at hl 0 rfl) ?_
  refine lv_iload_n hx hb dX3_begin_1 rfl (lv_at hl 1 rfl) ?_
  obtain ⟨u2, e2, h⟩ := ob h
  refine gx_put C hG hS rfl e2 fgX3_18 fpX3_18 (fun q => by cases q) rfl rfl dX3_begin_2 (fun H locs hG hS => ?_)
  refine gx_aload_n (r := (some x0)) hx hb dX3_begin_5 rfl (lv_at hl 0 rfl) ?_
  obtain ⟨v6, e6, h⟩ := ob h
  refine gx_getR C hG rfl e6 fgX3_9 dX3_begin_6 ?_
  refine lv_lconst (v := 0) hx hb dX3_begin_9 (by decide) ?_
  obtain ⟨u10, e10, h⟩ := ob h
  refine gx_cS C hG hS [va_rf v6, .long (0 : Int64)] (tJ7_fill_d0a16 e10) qcX3_29 ⟨rfl, rfl, Nat.le_of_ble_eq_true rfl, Nat.le_of_ble_eq_true rfl⟩ ⟨Nat.zero_le _, Nat.zero_le _⟩ rfl hl.1 rfl (Nat.le_of_ble_eq_true rfl) (st1 := []) rfl dX3_begin_10 (fun H locs hG hS => ?_)
  cases Option.some.inj h
  exact gx_retv C hG hS dX3_begin_13
theorem tX3_begin {Γ : gEnv} {N : Nat} {x0 : Nat} {x1 : Int32} {u v : gM} (h : fX3_begin x0 x1 u = some v) : Met l yX3_begin (Cond.code yX3_begin cX3_begin 2 none :: gW) rmX3_begin (va_Pc [va_rf (some x0), .int x1] (gPre Γ u N)) (gQ Γ none v N) 0 0 Γ.2.2.1 :=
  gx_met (nm := "begin") ⟨by decide +kernel, rfl, rfl⟩ (Nat.le_of_ble_eq_true rfl) (fun p e s m below meth c ls C hG hl => wX3_begin C h hG va_S.rf hl)
abbrev rmX3_weigh : Room := { frames := 0, cells := 0, slots := 0, locals := 0 }
def fX3_weigh (x0 : Nat) (x1 : Int32) (x2 : Int32) (x3 : Int32) (u : gM) : Option (gM) :=
  (gR [4] 1 u x0).bind fun v1 =>
  if x3 = 0 then (
    (v1).bind fun a31 =>
    (uJ u a31 x1 (0 : Int64)).bind fun u31 =>
    some u31
  ) else (
    (plE x1).bind fun v28 =>
    (v1).bind fun a31 =>
    (uJ u a31 x1 ((x3.toInt64 * (37822859361 : Int64)) + ((((20 : Int32) - x2).toInt64) * v28))).bind fun u31 =>
    some u31
  )
set_option maxHeartbeats 4000000 in
set_option maxRecDepth 20000 in
theorem wX3_weigh  (C : gC p s m args meth c cX3_weigh 4 none RX3 "weigh" Γ){x0 : Nat} {x1 : Int32} {x2 : Int32} {x3 : Int32} {u : gM} {res : gM} (h : fX3_weigh x0 x1 x2 x3 u = some res) {H : Heap} {locs : List Loc} (hG : gAg Γ u N H) (hS : va_S Γ.2.2.1 s.heap H locs) {ls : Array Slot} (hl : lv_has ls 4 [(0, va_rf (some x0)), (1, .int x1), (2, .int x2), (3, .int x3)]) : W p l e rmX3_weigh s m args below meth c H locs 0 0 (MQ below (gQ Γ none res N) args s 0 0 Γ.2.2.1) (F0 m 0 ls []) := by
  have hx := C.1
  have hb := C.2.1
  unfold fX3_weigh at h
  refine gx_aload_n (r := (some x0)) hx hb dX3_weigh_0 rfl (lv_at hl 0 rfl) ?_
  obtain ⟨v1, e1, h⟩ := ob h
  refine gx_getR C hG rfl e1 fgX3_15 dX3_weigh_1 ?_
  refine lv_iload_n hx hb dX3_weigh_4 rfl (lv_at hl 1 rfl) ?_
  refine lv_iload_n hx hb dX3_weigh_5 rfl (lv_at hl 3 rfl) ?_
  refine lv_if_ne (tgt := 13) hx hb dX3_weigh_6 (by decide) (fun hc => ?_) (fun hc => ?_)
  · replace h := it_neg hc h
    refine lv_iload_n hx hb dX3_weigh_13 rfl (lv_at hl 3 rfl) ?_
    refine lv_i2l hx hb dX3_weigh_14 rfl ?_
    refine lv_ldc2 (v := 37822859361) hx hb C.2.2.2.1 (C.2.2.2.2.1 _ (gW_mem kcX3_22)) dX3_weigh_15 ?_
    refine lv_lmul hx hb dX3_weigh_18 ?_
    refine lv_bipush (v := 20) hx hb dX3_weigh_19 (by decide) ?_
    refine lv_iload_n hx hb dX3_weigh_21 rfl (lv_at hl 2 rfl) ?_
    refine lv_isub hx hb dX3_weigh_22 ?_
    refine lv_i2l hx hb dX3_weigh_23 rfl ?_
    refine gx_gets C hS C.2.2.2.2.2.2.1.2.2.1.1 ksX3_24 dX3_weigh_24 ?_
    refine lv_iload_n hx hb dX3_weigh_27 rfl (lv_at hl 1 rfl) ?_
    obtain ⟨v28, e28, h⟩ := ob h
    refine gx_pla C hS e28 dX3_weigh_28 ?_
    refine lv_lmul hx hb dX3_weigh_29 ?_
    refine lv_ladd hx hb dX3_weigh_30 ?_
    obtain ⟨a31, na31, h⟩ := ob h
    obtain ⟨u31, e31, h⟩ := ob h
    refine gx_last C hG hS na31 e31 dX3_weigh_31 (fun H locs hG hS => ?_)
    cases Option.some.inj h
    exact gx_retv C hG hS dX3_weigh_32
  · replace h := it_pos hc h
    refine lv_lconst (v := 0) hx hb dX3_weigh_9 (by decide) ?_
    refine lv_goto (tgt := 31) hx hb dX3_weigh_10 (by decide) ?_
    obtain ⟨a31, na31, h⟩ := ob h
    obtain ⟨u31, e31, h⟩ := ob h
    refine gx_last C hG hS na31 e31 dX3_weigh_31 (fun H locs hG hS => ?_)
    cases Option.some.inj h
    exact gx_retv C hG hS dX3_weigh_32
theorem tX3_weigh {Γ : gEnv} {N : Nat} {x0 : Nat} {x1 : Int32} {x2 : Int32} {x3 : Int32} {u v : gM} (h : fX3_weigh x0 x1 x2 x3 u = some v) : Met l yX3_weigh (Cond.code yX3_weigh cX3_weigh 4 none :: gW) rmX3_weigh (va_Pc [va_rf (some x0), .int x1, .int x2, .int x3] (gPre Γ u N)) (gQ Γ none v N) 0 0 Γ.2.2.1 :=
  gx_met (nm := "weigh") ⟨by decide +kernel, rfl, rfl⟩ (Nat.le_of_ble_eq_true rfl) (fun p e s m below meth c ls C hG hl => wX3_weigh C h hG va_S.rf hl)
abbrev rmX9_hasBit : Room := { frames := 0, cells := 0, slots := 0, locals := 0 }
def fX9_hasBit (x0 : Int32) (x1 : Int32) (u : gM) : Option (Int32 × gM) :=
  if ((x0 >>> (x1 &&& 31)) &&& (1 : Int32)) = (1 : Int32) then (
    some ((1 : Int32), u)
  ) else (
    some ((0 : Int32), u)
  )
set_option maxHeartbeats 4000000 in
set_option maxRecDepth 20000 in
theorem wX9_hasBit  (C : gC p s m args meth c cX9_hasBit 2 (some .boolean) RX9 "hasBit" Γ){x0 : Int32} {x1 : Int32} {u : gM} {res : Int32 × gM} (h : fX9_hasBit x0 x1 u = some res) {H : Heap} {locs : List Loc} (hG : gAg Γ u N H) (hS : va_S Γ.2.2.1 s.heap H locs) {ls : Array Slot} (hl : lv_has ls 2 [(0, .int x0), (1, .int x1)]) : W p l e rmX9_hasBit s m args below meth c H locs 0 0 (MQ below (gQ Γ (some (.int res.1)) res.2 N) args s 0 0 Γ.2.2.1) (F0 m 0 ls []) := by
  have hx := C.1
  have hb := C.2.1
  unfold fX9_hasBit at h
  refine lv_iload_n hx hb dX9_hasBit_0 rfl (lv_at hl 0 rfl) ?_
  refine lv_iload_n hx hb dX9_hasBit_1 rfl (lv_at hl 1 rfl) ?_
  refine lv_ishr hx hb dX9_hasBit_2 ?_
  refine lv_iconst (v := 1) hx hb dX9_hasBit_3 (by decide) ?_
  refine lv_iand hx hb dX9_hasBit_4 ?_
  refine lv_iconst (v := 1) hx hb dX9_hasBit_5 (by decide) ?_
  refine lv_icmp_ne (tgt := 13) hx hb dX9_hasBit_6 (by decide) (fun hc => ?_) (fun hc => ?_)
  · replace h := it_neg hc h
    refine lv_iconst (v := 0) hx hb dX9_hasBit_13 (by decide) ?_
    cases Option.some.inj h
    exact gx_retz C (Or.inl rfl) hG hS dX9_hasBit_14
  · replace h := it_pos hc h
    refine lv_iconst (v := 1) hx hb dX9_hasBit_9 (by decide) ?_
    refine lv_goto (tgt := 14) hx hb dX9_hasBit_10 (by decide) ?_
    cases Option.some.inj h
    exact gx_retz C (Or.inr rfl) hG hS dX9_hasBit_14
theorem tX9_hasBit {Γ : gEnv} {N : Nat} {x0 : Int32} {x1 : Int32} {u v : gM} {r : Int32} (h : fX9_hasBit x0 x1 u = some (r, v)) : Met l yX9_hasBit (Cond.code yX9_hasBit cX9_hasBit 2 (some .boolean) :: gW) rmX9_hasBit (va_Pc [.int x0, .int x1] (gPre Γ u N)) (gQ Γ (some (.int r)) v N) 0 0 Γ.2.2.1 :=
  gx_met (nm := "hasBit") ⟨by decide +kernel, rfl, rfl⟩ (Nat.le_of_ble_eq_true rfl) (fun p e s m below meth c ls C hG hl => wX9_hasBit C h hG va_S.rf hl)
abbrev rmX3_offer : Room := { frames := 1, cells := 0, slots := 0, locals := 21 }
def fX3_offer_74 (x0 : Nat) (x1 : Int32) (x2 : Int32) (u : gM) (k15 : Nat → Int32 → Int32 → gM → Option (gM)) : Option (gM) :=
  k15 x0 x1 (x2 + (1 : Int32)) u
set_option maxHeartbeats 4000000 in
set_option maxRecDepth 20000 in
theorem wX3_offer_74  (C : gC p s m args meth c cX3_offer 3 none RX3 "offer" Γ){x0 : Nat} {x1 : Int32} {x2 : Int32} {u : gM} {res : gM} {k15 : Nat → Int32 → Int32 → gM → Option (gM)} (hk15 : ∀ (x0 : Nat) (x1 : Int32) (x2 : Int32) (u : gM) (H : Heap) (locs : List Loc) (ls : Array Slot), k15 x0 x1 x2 u = some res → gAg Γ u N H → va_S Γ.2.2.1 s.heap H locs → lv_has ls 3 [(0, va_rf (some x0)), (1, .int x1), (2, .int x2)] → W p l e rmX3_offer s m args below meth c H locs 0 0 (MQ below (gQ Γ none res N) args s 0 0 Γ.2.2.1) (F0 m 15 ls [])) (h : fX3_offer_74 x0 x1 x2 u k15 = some res) {H : Heap} {locs : List Loc} (hG : gAg Γ u N H) (hS : va_S Γ.2.2.1 s.heap H locs) {ls : Array Slot} (hl : lv_has ls 3 [(0, va_rf (some x0)), (1, .int x1), (2, .int x2)]) : W p l e rmX3_offer s m args below meth c H locs 0 0 (MQ below (gQ Γ none res N) args s 0 0 Γ.2.2.1) (F0 m 74 ls []) := by
  have hx := C.1
  have hb := C.2.1
  unfold fX3_offer_74 at h
  refine lv_iinc (v := x2 + (1 : Int32)) (lv' := [(2, .int (x2 + (1 : Int32))), (0, va_rf (some x0)), (1, .int x1)]) hx hb dX3_offer_74 hl (k := 2) rfl rfl (by decide) rfl (fun ls hl => ?_)
  refine lv_goto (tgt := 15) hx hb dX3_offer_77 (by decide) ?_
  exact hk15 _ _ _ _ _ _ _ h hG hS (lv_sub hl [1, 2, 0] rfl)
def fX3_offer_15_b (x0 : Nat) (x1 : Int32) (x2 : Int32) (u : gM) (k15 : Nat → Int32 → Int32 → gM → Option (gM)) (k80 : Nat → Int32 → gM → Option (gM)) : Option (gM) :=
  (gI [4] 2 u x0).bind fun v17 =>
  if v17 ≤ x2 then (
    k80 x0 x1 u
  ) else (
    bI (fX9_hasBit x1 x2 u) fun r25 u25 =>
    if r25 = 0 then (
      fX3_offer_74 x0 x1 x2 u25 k15
    ) else (
      (gR [4] 1 u25 x0).bind fun v32 =>
      (v32).bind fun a36 =>
      (aJ u25 a36 x2).bind fun v36 =>
      if (lg_cmp v36 (0 : Int64)) ≤ 0 then (
        fX3_offer_74 x0 x1 x2 u25 k15
      ) else (
        (gR [4] 0 u25 x0).bind fun v43 =>
        (gR [4] 0 u25 x0).bind fun v48 =>
        (v48).bind fun a52 =>
        (aJ u25 a52 x1).bind fun v52 =>
        (gR [4] 0 u25 x0).bind fun v54 =>
        (v54).bind fun a62 =>
        (aJ u25 a62 (x1 ^^^ ((1 : Int32) <<< (x2 &&& 31)))).bind fun v62 =>
        (gR [4] 1 u25 x0).bind fun v64 =>
        (v64).bind fun a68 =>
        (aJ u25 a68 x2).bind fun v68 =>
        pU (if (v62 + v68) < v52 then v52 else (v62 + v68)) fun y70 =>
        (v43).bind fun a73 =>
        (uJ u25 a73 x1 y70).bind fun u73 =>
        fX3_offer_74 x0 x1 x2 u73 k15
      )
    )
  )
set_option maxHeartbeats 4000000 in
set_option maxRecDepth 20000 in
theorem wX3_offer_15_b  (C : gC p s m args meth c cX3_offer 3 none RX3 "offer" Γ){x0 : Nat} {x1 : Int32} {x2 : Int32} {u : gM} {res : gM} {k15 : Nat → Int32 → Int32 → gM → Option (gM)} {k80 : Nat → Int32 → gM → Option (gM)} (hk15 : ∀ (x0 : Nat) (x1 : Int32) (x2 : Int32) (u : gM) (H : Heap) (locs : List Loc) (ls : Array Slot), k15 x0 x1 x2 u = some res → gAg Γ u N H → va_S Γ.2.2.1 s.heap H locs → lv_has ls 3 [(0, va_rf (some x0)), (1, .int x1), (2, .int x2)] → W p l e rmX3_offer s m args below meth c H locs 0 0 (MQ below (gQ Γ none res N) args s 0 0 Γ.2.2.1) (F0 m 15 ls [])) (hk80 : ∀ (x0 : Nat) (x1 : Int32) (u : gM) (H : Heap) (locs : List Loc) (ls : Array Slot), k80 x0 x1 u = some res → gAg Γ u N H → va_S Γ.2.2.1 s.heap H locs → lv_has ls 3 [(0, va_rf (some x0)), (1, .int x1)] → W p l e rmX3_offer s m args below meth c H locs 0 0 (MQ below (gQ Γ none res N) args s 0 0 Γ.2.2.1) (F0 m 80 ls [])) (h : fX3_offer_15_b x0 x1 x2 u k15 k80 = some res) {H : Heap} {locs : List Loc} (hG : gAg Γ u N H) (hS : va_S Γ.2.2.1 s.heap H locs) {ls : Array Slot} (hl : lv_has ls 3 [(0, va_rf (some x0)), (1, .int x1), (2, .int x2)]) : W p l e rmX3_offer s m args below meth c H locs 0 0 (MQ below (gQ Γ none res N) args s 0 0 Γ.2.2.1) (F0 m 15 ls []) := by
  have hx := C.1
  have hb := C.2.1
  unfold fX3_offer_15_b at h
  refine lv_iload_n hx hb dX3_offer_15 rfl (lv_at hl 2 rfl) ?_
  refine gx_aload_n (r := (some x0)) hx hb dX3_offer_16 rfl (lv_at hl 0 rfl) ?_
  obtain ⟨v17, e17, h⟩ := ob h
  refine gx_getI C hG rfl e17 fgX3_18 dX3_offer_17 ?_
  refine lv_icmp_ge (tgt := 80) hx hb dX3_offer_20 (by decide) (fun hc => ?_) (fun hc => ?_)
  · replace h := it_pos hc h
    exact hk80 _ _ _ _ _ _ h hG hS (lv_sub hl [0, 1] rfl)
  · replace h := it_neg hc h
    refine lv_iload_n hx hb dX3_offer_23 rfl (lv_at hl 1 rfl) ?_
    refine lv_iload_n hx hb dX3_offer_24 rfl (lv_at hl 2 rfl) ?_
    obtain ⟨r25, u25, e25, h⟩ := obI h
    refine gx_cSN C hG hS [.int x1, .int x2] (tX9_hasBit e25) qcX3_35 ⟨rfl, rfl, Nat.le_of_ble_eq_true rfl, Nat.le_of_ble_eq_true rfl⟩ ⟨Nat.zero_le _, Nat.zero_le _⟩ rfl hl.1 rfl (Nat.le_of_ble_eq_true rfl) (st1 := [.int r25]) rfl dX3_offer_25 (fun H locs hG hS => ?_)
    refine lv_if_eq (tgt := 74) hx hb dX3_offer_28 (by decide) (fun hc => ?_) (fun hc => ?_)
    · replace h := it_pos hc h
      exact wX3_offer_74 C hk15 h hG hS (lv_sub hl [0, 1, 2] rfl)
    · replace h := it_neg hc h
      refine gx_aload_n (r := (some x0)) hx hb dX3_offer_31 rfl (lv_at hl 0 rfl) ?_
      obtain ⟨v32, e32, h⟩ := ob h
      refine gx_getR C hG rfl e32 fgX3_15 dX3_offer_32 ?_
      refine lv_iload_n hx hb dX3_offer_35 rfl (lv_at hl 2 rfl) ?_
      obtain ⟨a36, na36, h⟩ := ob h
      obtain ⟨v36, e36, h⟩ := ob h
      refine gx_lald C hG na36 e36 dX3_offer_36 ?_
      refine lv_lconst (v := 0) hx hb dX3_offer_37 (by decide) ?_
      refine W.lcmp hx hb dX3_offer_38 ?_
      refine lv_if_le (tgt := 74) hx hb dX3_offer_39 (by decide) (fun hc => ?_) (fun hc => ?_)
      · replace h := it_pos hc h
        exact wX3_offer_74 C hk15 h hG hS (lv_sub hl [0, 1, 2] rfl)
      · replace h := it_neg hc h
        refine gx_aload_n (r := (some x0)) hx hb dX3_offer_42 rfl (lv_at hl 0 rfl) ?_
        obtain ⟨v43, e43, h⟩ := ob h
        refine gx_getR C hG rfl e43 fgX3_9 dX3_offer_43 ?_
        refine lv_iload_n hx hb dX3_offer_46 rfl (lv_at hl 1 rfl) ?_
        refine gx_aload_n (r := (some x0)) hx hb dX3_offer_47 rfl (lv_at hl 0 rfl) ?_
        obtain ⟨v48, e48, h⟩ := ob h
        refine gx_getR C hG rfl e48 fgX3_9 dX3_offer_48 ?_
        refine lv_iload_n hx hb dX3_offer_51 rfl (lv_at hl 1 rfl) ?_
        obtain ⟨a52, na52, h⟩ := ob h
        obtain ⟨v52, e52, h⟩ := ob h
        refine gx_lald C hG na52 e52 dX3_offer_52 ?_
        refine gx_aload_n (r := (some x0)) hx hb dX3_offer_53 rfl (lv_at hl 0 rfl) ?_
        obtain ⟨v54, e54, h⟩ := ob h
        refine gx_getR C hG rfl e54 fgX3_9 dX3_offer_54 ?_
        refine lv_iload_n hx hb dX3_offer_57 rfl (lv_at hl 1 rfl) ?_
        refine lv_iconst (v := 1) hx hb dX3_offer_58 (by decide) ?_
        refine lv_iload_n hx hb dX3_offer_59 rfl (lv_at hl 2 rfl) ?_
        refine lv_ishl hx hb dX3_offer_60 ?_
        refine lv_ixor hx hb dX3_offer_61 ?_
        obtain ⟨a62, na62, h⟩ := ob h
        obtain ⟨v62, e62, h⟩ := ob h
        refine gx_lald C hG na62 e62 dX3_offer_62 ?_
        refine gx_aload_n (r := (some x0)) hx hb dX3_offer_63 rfl (lv_at hl 0 rfl) ?_
        obtain ⟨v64, e64, h⟩ := ob h
        refine gx_getR C hG rfl e64 fgX3_15 dX3_offer_64 ?_
        refine lv_iload_n hx hb dX3_offer_67 rfl (lv_at hl 2 rfl) ?_
        obtain ⟨a68, na68, h⟩ := ob h
        obtain ⟨v68, e68, h⟩ := ob h
        refine gx_lald C hG na68 e68 dX3_offer_68 ?_
        refine lv_ladd hx hb dX3_offer_69 ?_
        refine gx_mmaxl C qcX3_39 hl.1 ⟨Nat.le_of_ble_eq_true rfl, (by simp [gx_cat, gx_catI, gx_catJ])⟩ ⟨Nat.zero_le _, Nat.zero_le _⟩ dX3_offer_70 ?_
        obtain ⟨y70, ey70, h⟩ := op h
        refine gx_topJ ey70 ?_
        obtain ⟨a73, na73, h⟩ := ob h
        obtain ⟨u73, e73, h⟩ := ob h
        refine gx_last C hG hS na73 e73 dX3_offer_73 (fun H locs hG hS => ?_)
        exact wX3_offer_74 C hk15 h hG hS (lv_sub hl [0, 1, 2] rfl)
def fX3_offer_15 (k80 : Nat → Int32 → gM → Option (gM)) : Nat → Nat → Int32 → Int32 → gM → Option (gM)
  | 0 => fun _ _ _ _ => none
  | n + 1 => fun x0 x1 x2 u => fX3_offer_15_b x0 x1 x2 u (fX3_offer_15 k80 n) k80 
theorem wX3_offer_15 (C : gC p s m args meth c cX3_offer 3 none RX3 "offer" Γ) {res : gM} {k80 : Nat → Int32 → gM → Option (gM)} (hk80 : ∀ (x0 : Nat) (x1 : Int32) (u : gM) (H : Heap) (locs : List Loc) (ls : Array Slot), k80 x0 x1 u = some res → gAg Γ u N H → va_S Γ.2.2.1 s.heap H locs → lv_has ls 3 [(0, va_rf (some x0)), (1, .int x1)] → W p l e rmX3_offer s m args below meth c H locs 0 0 (MQ below (gQ Γ none res N) args s 0 0 Γ.2.2.1) (F0 m 80 ls [])) (n : Nat) : ∀ {x0 : Nat} {x1 : Int32} {x2 : Int32} {u : gM} {H : Heap} {locs : List Loc} {ls : Array Slot}, fX3_offer_15 k80 n x0 x1 x2 u = some res → gAg Γ u N H → va_S Γ.2.2.1 s.heap H locs → lv_has ls 3 [(0, va_rf (some x0)), (1, .int x1), (2, .int x2)] → W p l e rmX3_offer s m args below meth c H locs 0 0 (MQ below (gQ Γ none res N) args s 0 0 Γ.2.2.1) (F0 m 15 ls []) := by
  induction n with
  | zero => intro _ _ _ _ _ _ _ h _ _ _; cases (show (none : Option (gM)) = some res from h)
  | succ n ih => intro _ _ _ _ _ _ _ h hG hS hl; exact wX3_offer_15_b C (fun _ _ _ _ _ _ _ h hG hS hl => ih h hG hS hl) hk80 h hG hS hl
def fX3_offer_9_b (x0 : Nat) (x1 : Int32) (u : gM) (k9 : Nat → Int32 → gM → Option (gM)) : Option (gM) :=
  if x1 ≤ 0 then (
    some u
  ) else (
    fX3_offer_15 (fun x0 x1 u =>
          k9 x0 (x1 + (-1 : Int32)) u) FU x0 x1 (0 : Int32) u
  )
set_option maxHeartbeats 4000000 in
set_option maxRecDepth 20000 in
theorem wX3_offer_9_b  (C : gC p s m args meth c cX3_offer 3 none RX3 "offer" Γ){x0 : Nat} {x1 : Int32} {u : gM} {res : gM} {k9 : Nat → Int32 → gM → Option (gM)} (hk9 : ∀ (x0 : Nat) (x1 : Int32) (u : gM) (H : Heap) (locs : List Loc) (ls : Array Slot), k9 x0 x1 u = some res → gAg Γ u N H → va_S Γ.2.2.1 s.heap H locs → lv_has ls 3 [(0, va_rf (some x0)), (1, .int x1)] → W p l e rmX3_offer s m args below meth c H locs 0 0 (MQ below (gQ Γ none res N) args s 0 0 Γ.2.2.1) (F0 m 9 ls [])) (h : fX3_offer_9_b x0 x1 u k9 = some res) {H : Heap} {locs : List Loc} (hG : gAg Γ u N H) (hS : va_S Γ.2.2.1 s.heap H locs) {ls : Array Slot} (hl : lv_has ls 3 [(0, va_rf (some x0)), (1, .int x1)]) : W p l e rmX3_offer s m args below meth c H locs 0 0 (MQ below (gQ Γ none res N) args s 0 0 Γ.2.2.1) (F0 m 9 ls []) := by
  have hx := C.1
  have hb := C.2.1
  unfold fX3_offer_9_b at h
  refine lv_iload_n hx hb dX3_offer_9 rfl (lv_at hl 1 rfl) ?_
  refine lv_if_le (tgt := 86) hx hb dX3_offer_10 (by decide) (fun hc => ?_) (fun hc => ?_)
  · replace h := it_pos hc h
    cases Option.some.inj h
    exact gx_retv C hG hS dX3_offer_86
  · replace h := it_neg hc h
    refine lv_iconst (v := 0) hx hb dX3_offer_13 (by decide) ?_
    refine lv_istore_n (i := 2) (lv' := [(2, .int (0 : Int32)), (0, va_rf (some x0)), (1, .int x1)]) hx hb dX3_offer_14 rfl hl (by decide) rfl (fun ls hl => ?_)
    refine wX3_offer_15 C ?_ FU h hG hS (lv_sub hl [1, 2, 0] rfl)
    · intro x0 x1 u H locs ls h hG hS hl
      refine lv_iinc (v := x1 + (-1 : Int32)) (lv' := [(1, .int (x1 + (-1 : Int32))), (0, va_rf (some x0))]) hx hb dX3_offer_80 hl (k := 1) rfl rfl (by decide) rfl (fun ls hl => ?_)
      refine lv_goto (tgt := 9) hx hb dX3_offer_83 (by decide) ?_
      exact hk9 _ _ _ _ _ _ h hG hS (lv_sub hl [1, 0] rfl)
def fX3_offer_9 : Nat → Nat → Int32 → gM → Option (gM)
  | 0 => fun _ _ _ => none
  | n + 1 => fun x0 x1 u => fX3_offer_9_b x0 x1 u (fX3_offer_9 n) 
theorem wX3_offer_9 (C : gC p s m args meth c cX3_offer 3 none RX3 "offer" Γ) {res : gM} (n : Nat) : ∀ {x0 : Nat} {x1 : Int32} {u : gM} {H : Heap} {locs : List Loc} {ls : Array Slot}, fX3_offer_9 n x0 x1 u = some res → gAg Γ u N H → va_S Γ.2.2.1 s.heap H locs → lv_has ls 3 [(0, va_rf (some x0)), (1, .int x1)] → W p l e rmX3_offer s m args below meth c H locs 0 0 (MQ below (gQ Γ none res N) args s 0 0 Γ.2.2.1) (F0 m 9 ls []) := by
  induction n with
  | zero => intro _ _ _ _ _ _ h _ _ _; cases (show (none : Option (gM)) = some res from h)
  | succ n ih => intro _ _ _ _ _ _ h hG hS hl; exact wX3_offer_9_b C (fun _ _ _ _ _ _ h hG hS hl => ih h hG hS hl) h hG hS hl
def fX3_offer (x0 : Nat) (u : gM) : Option (gM) :=
  (gI [4] 2 u x0).bind fun v2 =>
  pU (((1 : Int32) <<< (v2 &&& 31)) - (1 : Int32)) fun z8 =>
  fX3_offer_9  FU x0 z8 u
set_option maxHeartbeats 4000000 in
set_option maxRecDepth 20000 in
theorem wX3_offer  (C : gC p s m args meth c cX3_offer 3 none RX3 "offer" Γ){x0 : Nat} {u : gM} {res : gM} (h : fX3_offer x0 u = some res) {H : Heap} {locs : List Loc} (hG : gAg Γ u N H) (hS : va_S Γ.2.2.1 s.heap H locs) {ls : Array Slot} (hl : lv_has ls 3 [(0, va_rf (some x0))]) : W p l e rmX3_offer s m args below meth c H locs 0 0 (MQ below (gQ Γ none res N) args s 0 0 Γ.2.2.1) (F0 m 0 ls []) := by
  have hx := C.1
  have hb := C.2.1
  unfold fX3_offer at h
  refine lv_iconst (v := 1) hx hb dX3_offer_0 (by decide) ?_
  refine gx_aload_n (r := (some x0)) hx hb dX3_offer_1 rfl (lv_at hl 0 rfl) ?_
  obtain ⟨v2, e2, h⟩ := ob h
  refine gx_getI C hG rfl e2 fgX3_18 dX3_offer_2 ?_
  refine lv_ishl hx hb dX3_offer_5 ?_
  refine lv_iconst (v := 1) hx hb dX3_offer_6 (by decide) ?_
  refine lv_isub hx hb dX3_offer_7 ?_
  obtain ⟨z8, ez8, h⟩ := op h
  refine gx_topI ez8 ?_
  refine lv_istore_n (i := 1) (lv' := [(1, .int z8), (0, va_rf (some x0))]) hx hb dX3_offer_8 rfl hl (by decide) rfl (fun ls hl => ?_)
  exact wX3_offer_9 C  FU h hG hS (lv_sub hl [1, 0] rfl)
theorem tX3_offer {Γ : gEnv} {N : Nat} {x0 : Nat} {u v : gM} (h : fX3_offer x0 u = some v) : Met l yX3_offer (Cond.code yX3_offer cX3_offer 3 none :: gW) rmX3_offer (va_Pc [va_rf (some x0)] (gPre Γ u N)) (gQ Γ none v N) 0 0 Γ.2.2.1 :=
  gx_met (nm := "offer") ⟨by decide +kernel, rfl, rfl⟩ (Nat.le_of_ble_eq_true rfl) (fun p e s m below meth c ls C hG hl => wX3_offer C h hG va_S.rf hl)
abbrev rmX3_best : Room := { frames := 0, cells := 0, slots := 0, locals := 0 }
def fX3_best (x0 : Nat) (u : gM) : Option (Int64 × gM) :=
  (gR [4] 0 u x0).bind fun v1 =>
  (gI [4] 2 u x0).bind fun v6 =>
  (v1).bind fun a12 =>
  (aJ u a12 (((1 : Int32) <<< (v6 &&& 31)) - (1 : Int32))).bind fun v12 =>
  some (v12, u)
set_option maxHeartbeats 4000000 in
set_option maxRecDepth 20000 in
theorem wX3_best  (C : gC p s m args meth c cX3_best 1 (some .long) RX3 "best" Γ){x0 : Nat} {u : gM} {res : Int64 × gM} (h : fX3_best x0 u = some res) {H : Heap} {locs : List Loc} (hG : gAg Γ u N H) (hS : va_S Γ.2.2.1 s.heap H locs) {ls : Array Slot} (hl : lv_has ls 1 [(0, va_rf (some x0))]) : W p l e rmX3_best s m args below meth c H locs 0 0 (MQ below (gQ Γ (some (.long res.1)) res.2 N) args s 0 0 Γ.2.2.1) (F0 m 0 ls []) := by
  have hx := C.1
  have hb := C.2.1
  unfold fX3_best at h
  refine gx_aload_n (r := (some x0)) hx hb dX3_best_0 rfl (lv_at hl 0 rfl) ?_
  obtain ⟨v1, e1, h⟩ := ob h
  refine gx_getR C hG rfl e1 fgX3_9 dX3_best_1 ?_
  refine lv_iconst (v := 1) hx hb dX3_best_4 (by decide) ?_
  refine gx_aload_n (r := (some x0)) hx hb dX3_best_5 rfl (lv_at hl 0 rfl) ?_
  obtain ⟨v6, e6, h⟩ := ob h
  refine gx_getI C hG rfl e6 fgX3_18 dX3_best_6 ?_
  refine lv_ishl hx hb dX3_best_9 ?_
  refine lv_iconst (v := 1) hx hb dX3_best_10 (by decide) ?_
  refine lv_isub hx hb dX3_best_11 ?_
  obtain ⟨a12, na12, h⟩ := ob h
  obtain ⟨v12, e12, h⟩ := ob h
  refine gx_lald C hG na12 e12 dX3_best_12 ?_
  cases Option.some.inj h
  exact gx_retl C hG hS dX3_best_13
theorem tX3_best {Γ : gEnv} {N : Nat} {x0 : Nat} {u v : gM} {r : Int64} (h : fX3_best x0 u = some (r, v)) : Met l yX3_best (Cond.code yX3_best cX3_best 1 (some .long) :: gW) rmX3_best (va_Pc [va_rf (some x0)] (gPre Γ u N)) (gQ Γ (some (.long r)) v N) 0 0 Γ.2.2.1 :=
  gx_met (nm := "best") ⟨by decide +kernel, rfl, rfl⟩ (Nat.le_of_ble_eq_true rfl) (fun p e s m below meth c ls C hG hl => wX3_best C h hG va_S.rf hl)
abbrev rmX4_init (a b : Nat) : Room := { frames := 1, cells := a, slots := b, locals := 12 }
def fX4_init_19 (x0 : Nat) (s1 : Option Nat) (u : gN) : Option (gN) :=
  (wN (pV [5] 1 (va_rf s1) u.1 x0) u).bind fun u19 =>
  (wN (pV [5] 2 (.int (0 : Int32)) u19.1 x0) u19).bind fun u24 =>
  (wN (pV [5] 3 (.int (0 : Int32)) u24.1 x0) u24).bind fun u29 =>
  (wN (pV [5] 4 (.int (0 : Int32)) u29.1 x0) u29).bind fun u34 =>
  some u34
set_option maxRecDepth 20000 in
theorem moX4_init_19 {x0 : Nat} {s1 : Option Nat} {u : gN} {res : gN} (h : fX4_init_19 x0 s1 u = some res) : gLe u res := by
  unfold fX4_init_19 at h
  obtain ⟨u19, e19, h⟩ := ob h
  refine gLe.tr (wN_le e19) ?_
  obtain ⟨u24, e24, h⟩ := ob h
  refine gLe.tr (wN_le e24) ?_
  obtain ⟨u29, e29, h⟩ := ob h
  refine gLe.tr (wN_le e29) ?_
  obtain ⟨u34, e34, h⟩ := ob h
  refine gLe.tr (wN_le e34) ?_
  cases Option.some.inj h
  exact gLe.rf _
set_option maxHeartbeats 4000000 in
set_option maxRecDepth 20000 in
theorem wX4_init_19  (C : gC p s m args meth c cX4_init 1 none RX4 "<init>" Γ){x0 : Nat} {s1 : Option Nat} {u : gN} {res : gN} (h : fX4_init_19 x0 s1 u = some res) {H : Heap} {locs : List Loc} (hG : gAn Γ sB u H) (hS : va_S Γ.2.2.1 s.heap H locs) {ls : Array Slot} (hl : lv_has ls 1 [(0, va_rf (some x0))]) : W p l e (rmX4_init (res.2.1 - s.heap.size) (res.2.2 - sB)) s m args below meth c H locs (u.2.1 - s.heap.size) (u.2.2 - sB) (MQ below (gQ Γ none res.1 res.2.1) args s (res.2.1 - s.heap.size) (res.2.2 - sB) Γ.2.2.1) (F0 m 19 ls [va_rf s1, va_rf (some x0)]) := by
  have hx := C.1
  have hb := C.2.1
  have hm := moX4_init_19 h
  unfold fX4_init_19 at h
  obtain ⟨u19, e19, h⟩ := ob h
  obtain ⟨g19, eg19, ev19⟩ := wN_inv e19
  replace hm : gLe u19 res := by rw [ev19]; exact hm
  refine gx_put C hG.1 hS rfl eg19 fgX4_15 fpX4_15 (fun _ => rfl) (gx_rfn _ _ (Or.inr ⟨_, rfl⟩)).1 (gx_rfn _ _ (Or.inr ⟨_, rfl⟩)).2 dX4_init_19 (fun H locs hg hS => gy_w hG ev19 hg (fun hG => ?_))
  refine gx_aload_n (r := (some x0)) hx hb dX4_init_22 rfl (lv_at hl 0 rfl) ?_
  refine lv_iconst (v := 0) hx hb dX4_init_23 (by decide) ?_
  obtain ⟨u24, e24, h⟩ := ob h
  obtain ⟨g24, eg24, ev24⟩ := wN_inv e24
  replace hm : gLe u24 res := by rw [ev24]; exact hm
  refine gx_put C hG.1 hS rfl eg24 fgX4_18 fpX4_18 (fun q => by cases q) rfl rfl dX4_init_24 (fun H locs hg hS => gy_w hG ev24 hg (fun hG => ?_))
  refine gx_aload_n (r := (some x0)) hx hb dX4_init_27 rfl (lv_at hl 0 rfl) ?_
  refine lv_iconst (v := 0) hx hb dX4_init_28 (by decide) ?_
  obtain ⟨u29, e29, h⟩ := ob h
  obtain ⟨g29, eg29, ev29⟩ := wN_inv e29
  replace hm : gLe u29 res := by rw [ev29]; exact hm
  refine gx_put C hG.1 hS rfl eg29 fgX4_22 fpX4_22 (fun q => by cases q) rfl rfl dX4_init_29 (fun H locs hg hS => gy_w hG ev29 hg (fun hG => ?_))
  refine gx_aload_n (r := (some x0)) hx hb dX4_init_32 rfl (lv_at hl 0 rfl) ?_
  refine lv_iconst (v := 0) hx hb dX4_init_33 (by decide) ?_
  obtain ⟨u34, e34, h⟩ := ob h
  obtain ⟨g34, eg34, ev34⟩ := wN_inv e34
  replace hm : gLe u34 res := by rw [ev34]; exact hm
  refine gx_put C hG.1 hS rfl eg34 fgX4_25 fpX4_25 (fun q => by cases q) rfl rfl dX4_init_34 (fun H locs hg hS => gy_w hG ev34 hg (fun hG => ?_))
  cases Option.some.inj h
  exact gx_retv C hG.1 hS dX4_init_37
def fX4_init_10 (x0 : Nat) (s1 : Option Nat) (u : gN) : Option (gN) :=
  (wN (pV [5] 0 (va_rf s1) u.1 x0) u).bind fun u10 =>
  bI (nwI (1024 : Int32) u10) fun q17 u17 =>
  fX4_init_19 x0 (some q17) u17 
set_option maxRecDepth 20000 in
theorem moX4_init_10 {x0 : Nat} {s1 : Option Nat} {u : gN} {res : gN} (h : fX4_init_10 x0 s1 u = some res) : gLe u res := by
  unfold fX4_init_10 at h
  obtain ⟨u10, e10, h⟩ := ob h
  refine gLe.tr (wN_le e10) ?_
  obtain ⟨q17, u17, e17, h⟩ := obI h
  refine gLe.tr (nwI_le e17) ?_
  exact moX4_init_19  h
set_option maxHeartbeats 4000000 in
set_option maxRecDepth 20000 in
theorem wX4_init_10  (C : gC p s m args meth c cX4_init 1 none RX4 "<init>" Γ){x0 : Nat} {s1 : Option Nat} {u : gN} {res : gN} (h : fX4_init_10 x0 s1 u = some res) {H : Heap} {locs : List Loc} (hG : gAn Γ sB u H) (hS : va_S Γ.2.2.1 s.heap H locs) {ls : Array Slot} (hl : lv_has ls 1 [(0, va_rf (some x0))]) : W p l e (rmX4_init (res.2.1 - s.heap.size) (res.2.2 - sB)) s m args below meth c H locs (u.2.1 - s.heap.size) (u.2.2 - sB) (MQ below (gQ Γ none res.1 res.2.1) args s (res.2.1 - s.heap.size) (res.2.2 - sB) Γ.2.2.1) (F0 m 10 ls [va_rf s1, va_rf (some x0)]) := by
  have hx := C.1
  have hb := C.2.1
  have hm := moX4_init_10 h
  unfold fX4_init_10 at h
  obtain ⟨u10, e10, h⟩ := ob h
  obtain ⟨g10, eg10, ev10⟩ := wN_inv e10
  replace hm : gLe u10 res := by rw [ev10]; exact hm
  refine gx_put C hG.1 hS rfl eg10 fgX4_9 fpX4_9 (fun _ => rfl) (gx_rfn _ _ (Or.inr ⟨_, rfl⟩)).1 (gx_rfn _ _ (Or.inr ⟨_, rfl⟩)).2 dX4_init_10 (fun H locs hg hS => gy_w hG ev10 hg (fun hG => ?_))
  refine gx_aload_n (r := (some x0)) hx hb dX4_init_13 rfl (lv_at hl 0 rfl) ?_
  refine lv_sipush (v := 1024) hx hb dX4_init_14 (by decide) ?_
  obtain ⟨q17, u17, e17, h⟩ := obI h
  have hm2 : gLe u17 res := by
    exact moX4_init_19  h
  refine gy_newI C hG hS e17 ⟨Nat.sub_le_sub_right hm2.1 _, Nat.sub_le_sub_right hm2.2 _⟩ dX4_init_17 (fun H hG hS => ?_)
  exact wX4_init_19 C  h hG hS (lv_sub hl [0] rfl)
def fX4_init (x0 : Nat) (u : gN) : Option (gN) :=
  bI (nwI (1024 : Int32) u) fun q8 u8 =>
  fX4_init_10 x0 (some q8) u8 
set_option maxRecDepth 20000 in
theorem moX4_init {x0 : Nat} {u : gN} {res : gN} (h : fX4_init x0 u = some res) : gLe u res := by
  unfold fX4_init at h
  obtain ⟨q8, u8, e8, h⟩ := obI h
  refine gLe.tr (nwI_le e8) ?_
  exact moX4_init_10  h
set_option maxHeartbeats 4000000 in
set_option maxRecDepth 20000 in
theorem wX4_init  (C : gC p s m args meth c cX4_init 1 none RX4 "<init>" Γ){x0 : Nat} {u : gN} {res : gN} (h : fX4_init x0 u = some res) {H : Heap} {locs : List Loc} (hG : gAn Γ sB u H) (hS : va_S Γ.2.2.1 s.heap H locs) {ls : Array Slot} (hl : lv_has ls 1 [(0, va_rf (some x0))]) : W p l e (rmX4_init (res.2.1 - s.heap.size) (res.2.2 - sB)) s m args below meth c H locs (u.2.1 - s.heap.size) (u.2.2 - sB) (MQ below (gQ Γ none res.1 res.2.1) args s (res.2.1 - s.heap.size) (res.2.2 - sB) Γ.2.2.1) (F0 m 0 ls []) := by
  have hx := C.1
  have hb := C.2.1
  have hm := moX4_init h
  unfold fX4_init at h
  refine gx_aload_n (r := (some x0)) hx hb dX4_init_0 rfl (lv_at hl 0 rfl) ?_
  refine gx_obj C rfl qcX4_3 hl.1 ⟨Nat.le_of_ble_eq_true rfl, Nat.le_of_ble_eq_true rfl⟩ dX4_init_1 ?_
  refine gx_aload_n (r := (some x0)) hx hb dX4_init_4 rfl (lv_at hl 0 rfl) ?_
  refine lv_sipush (v := 1024) hx hb dX4_init_5 (by decide) ?_
  obtain ⟨q8, u8, e8, h⟩ := obI h
  have hm2 : gLe u8 res := by
    exact moX4_init_10  h
  refine gy_newI C hG hS e8 ⟨Nat.sub_le_sub_right hm2.1 _, Nat.sub_le_sub_right hm2.2 _⟩ dX4_init_8 (fun H hG hS => ?_)
  exact wX4_init_10 C  h hG hS (lv_sub hl [0] rfl)
theorem tX4_init {Γ : gEnv} {x0 : Nat} {u v : gN} (h : fX4_init x0 u = some v) : Met l yX4_init (Cond.code yX4_init cX4_init 1 none :: gW) (rmX4_init (v.2.1 - u.2.1) (v.2.2 - u.2.2)) (va_Pc [va_rf (some x0)] (gPre Γ u.1 u.2.1)) (gQ Γ none v.1 v.2.1) (v.2.1 - u.2.1) (v.2.2 - u.2.2) Γ.2.2.1 := by
  refine gx_met (nm := "<init>") ⟨by decide +kernel, rfl, rfl⟩ (Nat.le_of_ble_eq_true rfl) (fun p e s m below meth c ls C hG hl => ?_)
  have hN : s.heap.size = u.2.1 := hG.1
  have K := wX4_init (l := l) (e := e) (below := below) (sB := u.2.2) C h ⟨hG, Nat.le_refl _⟩ va_S.rf hl
  rw [hN, Nat.sub_self, Nat.sub_self] at K
  exact K
abbrev rmX9_within : Room := { frames := 0, cells := 0, slots := 0, locals := 0 }
def fX9_within (x0 : Int32) (x1 : Int32) (x2 : Int32) (u : gM) : Option (Int32 × gM) :=
  if x0 < x1 then (
    some ((0 : Int32), u)
  ) else (
    if x2 < x0 then (
      some ((0 : Int32), u)
    ) else (
      some ((1 : Int32), u)
    )
  )
set_option maxHeartbeats 4000000 in
set_option maxRecDepth 20000 in
theorem wX9_within  (C : gC p s m args meth c cX9_within 3 (some .boolean) RX9 "within" Γ){x0 : Int32} {x1 : Int32} {x2 : Int32} {u : gM} {res : Int32 × gM} (h : fX9_within x0 x1 x2 u = some res) {H : Heap} {locs : List Loc} (hG : gAg Γ u N H) (hS : va_S Γ.2.2.1 s.heap H locs) {ls : Array Slot} (hl : lv_has ls 3 [(0, .int x0), (1, .int x1), (2, .int x2)]) : W p l e rmX9_within s m args below meth c H locs 0 0 (MQ below (gQ Γ (some (.int res.1)) res.2 N) args s 0 0 Γ.2.2.1) (F0 m 0 ls []) := by
  have hx := C.1
  have hb := C.2.1
  unfold fX9_within at h
  refine lv_iload_n hx hb dX9_within_0 rfl (lv_at hl 0 rfl) ?_
  refine lv_iload_n hx hb dX9_within_1 rfl (lv_at hl 1 rfl) ?_
  refine lv_icmp_lt (tgt := 14) hx hb dX9_within_2 (by decide) (fun hc => ?_) (fun hc => ?_)
  · replace h := it_pos hc h
    refine lv_iconst (v := 0) hx hb dX9_within_14 (by decide) ?_
    cases Option.some.inj h
    exact gx_retz C (Or.inl rfl) hG hS dX9_within_15
  · replace h := it_neg hc h
    refine lv_iload_n hx hb dX9_within_5 rfl (lv_at hl 0 rfl) ?_
    refine lv_iload_n hx hb dX9_within_6 rfl (lv_at hl 2 rfl) ?_
    refine lv_icmp_gt (tgt := 14) hx hb dX9_within_7 (by decide) (fun hc => ?_) (fun hc => ?_)
    · replace h := it_pos hc h
      refine lv_iconst (v := 0) hx hb dX9_within_14 (by decide) ?_
      cases Option.some.inj h
      exact gx_retz C (Or.inl rfl) hG hS dX9_within_15
    · replace h := it_neg hc h
      refine lv_iconst (v := 1) hx hb dX9_within_10 (by decide) ?_
      refine lv_goto (tgt := 15) hx hb dX9_within_11 (by decide) ?_
      cases Option.some.inj h
      exact gx_retz C (Or.inr rfl) hG hS dX9_within_15
theorem tX9_within {Γ : gEnv} {N : Nat} {x0 : Int32} {x1 : Int32} {x2 : Int32} {u v : gM} {r : Int32} (h : fX9_within x0 x1 x2 u = some (r, v)) : Met l yX9_within (Cond.code yX9_within cX9_within 3 (some .boolean) :: gW) rmX9_within (va_Pc [.int x0, .int x1, .int x2] (gPre Γ u N)) (gQ Γ (some (.int r)) v N) 0 0 Γ.2.2.1 :=
  gx_met (nm := "within") ⟨by decide +kernel, rfl, rfl⟩ (Nat.le_of_ble_eq_true rfl) (fun p e s m below meth c ls C hG hl => wX9_within C h hG va_S.rf hl)
abbrev rmX4_bestLot : Room := { frames := 1, cells := 0, slots := 0, locals := 22 }
def fX4_bestLot_93 (x0 : Nat) (x1 : Int32) (x2 : Int32) (x3 : Int32) (x4 : Int32) (x5 : Int32) (x6 : Int32) (x7 : Int32) (x8 : Int32) (u : gM) (k30 : Nat → Int32 → Int32 → Int32 → Int32 → Int32 → Int32 → Int32 → Int32 → gM → Option (Int32 × gM)) : Option (Int32 × gM) :=
  k30 x0 x1 x2 x3 x4 x5 x6 ((x7 - x3) &&& x3) (x8 + (1 : Int32)) u
set_option maxHeartbeats 4000000 in
set_option maxRecDepth 20000 in
theorem wX4_bestLot_93  (C : gC p s m args meth c cX4_bestLot 10 (some .int) RX4 "bestLot" Γ){x0 : Nat} {x1 : Int32} {x2 : Int32} {x3 : Int32} {x4 : Int32} {x5 : Int32} {x6 : Int32} {x7 : Int32} {x8 : Int32} {u : gM} {res : Int32 × gM} {k30 : Nat → Int32 → Int32 → Int32 → Int32 → Int32 → Int32 → Int32 → Int32 → gM → Option (Int32 × gM)} (hk30 : ∀ (x0 : Nat) (x1 : Int32) (x2 : Int32) (x3 : Int32) (x4 : Int32) (x5 : Int32) (x6 : Int32) (x7 : Int32) (x8 : Int32) (u : gM) (H : Heap) (locs : List Loc) (ls : Array Slot), k30 x0 x1 x2 x3 x4 x5 x6 x7 x8 u = some res → gAg Γ u N H → va_S Γ.2.2.1 s.heap H locs → lv_has ls 10 [(0, va_rf (some x0)), (1, .int x1), (2, .int x2), (3, .int x3), (4, .int x4), (5, .int x5), (6, .int x6), (7, .int x7), (8, .int x8)] → W p l e rmX4_bestLot s m args below meth c H locs 0 0 (MQ below (gQ Γ (some (.int res.1)) res.2 N) args s 0 0 Γ.2.2.1) (F0 m 30 ls [])) (h : fX4_bestLot_93 x0 x1 x2 x3 x4 x5 x6 x7 x8 u k30 = some res) {H : Heap} {locs : List Loc} (hG : gAg Γ u N H) (hS : va_S Γ.2.2.1 s.heap H locs) {ls : Array Slot} (hl : lv_has ls 10 [(0, va_rf (some x0)), (1, .int x1), (2, .int x2), (3, .int x3), (4, .int x4), (5, .int x5), (6, .int x6), (7, .int x7), (8, .int x8)]) : W p l e rmX4_bestLot s m args below meth c H locs 0 0 (MQ below (gQ Γ (some (.int res.1)) res.2 N) args s 0 0 Γ.2.2.1) (F0 m 93 ls []) := by
  have hx := C.1
  have hb := C.2.1
  unfold fX4_bestLot_93 at h
  refine lv_iload hx hb dX4_bestLot_93 (lv_at hl 7 rfl) ?_
  refine lv_iload_n hx hb dX4_bestLot_95 rfl (lv_at hl 3 rfl) ?_
  refine lv_isub hx hb dX4_bestLot_96 ?_
  refine lv_iload_n hx hb dX4_bestLot_97 rfl (lv_at hl 3 rfl) ?_
  refine lv_iand hx hb dX4_bestLot_98 ?_
  refine lv_istore (i := 7) (lv' := [(7, .int ((x7 - x3) &&& x3)), (0, va_rf (some x0)), (1, .int x1), (2, .int x2), (3, .int x3), (4, .int x4), (5, .int x5), (6, .int x6), (8, .int x8)]) hx hb dX4_bestLot_99 hl (by decide) rfl (fun ls hl => ?_)
  refine lv_iinc (v := x8 + (1 : Int32)) (lv' := [(8, .int (x8 + (1 : Int32))), (7, .int ((x7 - x3) &&& x3)), (0, va_rf (some x0)), (1, .int x1), (2, .int x2), (3, .int x3), (4, .int x4), (5, .int x5), (6, .int x6)]) hx hb dX4_bestLot_101 hl (k := 8) rfl rfl (by decide) rfl (fun ls hl => ?_)
  refine lv_goto (tgt := 30) hx hb dX4_bestLot_104 (by decide) ?_
  exact hk30 _ _ _ _ _ _ _ _ _ _ _ _ _ h hG hS (lv_sub hl [2, 3, 4, 5, 6, 7, 8, 1, 0] rfl)
def fX4_bestLot_30_b (x0 : Nat) (x1 : Int32) (x2 : Int32) (x3 : Int32) (x4 : Int32) (x5 : Int32) (x6 : Int32) (x7 : Int32) (x8 : Int32) (u : gM) (k30 : Nat → Int32 → Int32 → Int32 → Int32 → Int32 → Int32 → Int32 → Int32 → gM → Option (Int32 × gM)) : Option (Int32 × gM) :=
  if x4 ≤ x8 then (
    some (x5, u)
  ) else (
    (gR [5] 0 u x0).bind fun v44 =>
    (v44).bind fun a49 =>
    (aI u a49 (x2 ||| x7)).bind fun v49 =>
    (gI [5] 2 u x0).bind fun v51 =>
    (gI [5] 3 u x0).bind fun v55 =>
    bI (fX9_within v49 v51 v55 u) fun r58 u58 =>
    if r58 = 0 then (
      fX4_bestLot_93 x0 x1 x2 x3 x4 x5 x6 x7 x8 u58 k30
    ) else (
      (gR [5] 1 u58 x0).bind fun v65 =>
      (v65).bind fun a72 =>
      (aI u58 a72 (x1 ^^^ (x2 ||| x7))).bind fun v72 =>
      if x6 ≤ v72 then (
        fX4_bestLot_93 x0 x1 x2 x3 x4 x5 x6 x7 x8 u58 k30
      ) else (
        (gR [5] 1 u58 x0).bind fun v83 =>
        (v83).bind fun a90 =>
        (aI u58 a90 (x1 ^^^ (x2 ||| x7))).bind fun v90 =>
        fX4_bestLot_93 x0 x1 x2 x3 x4 (x2 ||| x7) v90 x7 x8 u58 k30
      )
    )
  )
set_option maxHeartbeats 4000000 in
set_option maxRecDepth 20000 in
theorem wX4_bestLot_30_b  (C : gC p s m args meth c cX4_bestLot 10 (some .int) RX4 "bestLot" Γ){x0 : Nat} {x1 : Int32} {x2 : Int32} {x3 : Int32} {x4 : Int32} {x5 : Int32} {x6 : Int32} {x7 : Int32} {x8 : Int32} {u : gM} {res : Int32 × gM} {k30 : Nat → Int32 → Int32 → Int32 → Int32 → Int32 → Int32 → Int32 → Int32 → gM → Option (Int32 × gM)} (hk30 : ∀ (x0 : Nat) (x1 : Int32) (x2 : Int32) (x3 : Int32) (x4 : Int32) (x5 : Int32) (x6 : Int32) (x7 : Int32) (x8 : Int32) (u : gM) (H : Heap) (locs : List Loc) (ls : Array Slot), k30 x0 x1 x2 x3 x4 x5 x6 x7 x8 u = some res → gAg Γ u N H → va_S Γ.2.2.1 s.heap H locs → lv_has ls 10 [(0, va_rf (some x0)), (1, .int x1), (2, .int x2), (3, .int x3), (4, .int x4), (5, .int x5), (6, .int x6), (7, .int x7), (8, .int x8)] → W p l e rmX4_bestLot s m args below meth c H locs 0 0 (MQ below (gQ Γ (some (.int res.1)) res.2 N) args s 0 0 Γ.2.2.1) (F0 m 30 ls [])) (h : fX4_bestLot_30_b x0 x1 x2 x3 x4 x5 x6 x7 x8 u k30 = some res) {H : Heap} {locs : List Loc} (hG : gAg Γ u N H) (hS : va_S Γ.2.2.1 s.heap H locs) {ls : Array Slot} (hl : lv_has ls 10 [(0, va_rf (some x0)), (1, .int x1), (2, .int x2), (3, .int x3), (4, .int x4), (5, .int x5), (6, .int x6), (7, .int x7), (8, .int x8)]) : W p l e rmX4_bestLot s m args below meth c H locs 0 0 (MQ below (gQ Γ (some (.int res.1)) res.2 N) args s 0 0 Γ.2.2.1) (F0 m 30 ls []) := by
  have hx := C.1
  have hb := C.2.1
  unfold fX4_bestLot_30_b at h
  refine lv_iload hx hb dX4_bestLot_30 (lv_at hl 8 rfl) ?_
  refine lv_iload hx hb dX4_bestLot_32 (lv_at hl 4 rfl) ?_
  refine lv_icmp_ge (tgt := 107) hx hb dX4_bestLot_34 (by decide) (fun hc => ?_) (fun hc => ?_)
  · replace h := it_pos hc h
    refine lv_iload hx hb dX4_bestLot_107 (lv_at hl 5 rfl) ?_
    cases Option.some.inj h
    exact gx_reti C hG hS dX4_bestLot_109
  · replace h := it_neg hc h
    refine lv_iload_n hx hb dX4_bestLot_37 rfl (lv_at hl 2 rfl) ?_
    refine lv_iload hx hb dX4_bestLot_38 (lv_at hl 7 rfl) ?_
    refine lv_ior hx hb dX4_bestLot_40 ?_
    refine lv_istore (i := 9) (lv' := [(9, .int (x2 ||| x7)), (0, va_rf (some x0)), (1, .int x1), (2, .int x2), (3, .int x3), (4, .int x4), (5, .int x5), (6, .int x6), (7, .int x7), (8, .int x8)]) hx hb dX4_bestLot_41 hl (by decide) rfl (fun ls hl => ?_)
    refine gx_aload_n (r := (some x0)) hx hb dX4_bestLot_43 rfl (lv_at hl 1 rfl) ?_
    obtain ⟨v44, e44, h⟩ := ob h
    refine gx_getR C hG rfl e44 fgX4_9 dX4_bestLot_44 ?_
    refine lv_iload hx hb dX4_bestLot_47 (lv_at hl 0 rfl) ?_
    obtain ⟨a49, na49, h⟩ := ob h
    obtain ⟨v49, e49, h⟩ := ob h
    refine gx_iald C hG na49 e49 dX4_bestLot_49 ?_
    refine gx_aload_n (r := (some x0)) hx hb dX4_bestLot_50 rfl (lv_at hl 1 rfl) ?_
    obtain ⟨v51, e51, h⟩ := ob h
    refine gx_getI C hG rfl e51 fgX4_18 dX4_bestLot_51 ?_
    refine gx_aload_n (r := (some x0)) hx hb dX4_bestLot_54 rfl (lv_at hl 1 rfl) ?_
    obtain ⟨v55, e55, h⟩ := ob h
    refine gx_getI C hG rfl e55 fgX4_22 dX4_bestLot_55 ?_
    obtain ⟨r58, u58, e58, h⟩ := obI h
    refine gx_cSN C hG hS [.int v49, .int v51, .int v55] (tX9_within e58) qcX4_58 ⟨rfl, rfl, Nat.le_of_ble_eq_true rfl, Nat.le_of_ble_eq_true rfl⟩ ⟨Nat.zero_le _, Nat.zero_le _⟩ rfl hl.1 rfl (Nat.le_of_ble_eq_true rfl) (st1 := [.int r58]) rfl dX4_bestLot_58 (fun H locs hG hS => ?_)
    refine lv_if_eq (tgt := 93) hx hb dX4_bestLot_61 (by decide) (fun hc => ?_) (fun hc => ?_)
    · replace h := it_pos hc h
      exact wX4_bestLot_93 C hk30 h hG hS (lv_sub hl [1, 2, 3, 4, 5, 6, 7, 8, 9] rfl)
    · replace h := it_neg hc h
      refine gx_aload_n (r := (some x0)) hx hb dX4_bestLot_64 rfl (lv_at hl 1 rfl) ?_
      obtain ⟨v65, e65, h⟩ := ob h
      refine gx_getR C hG rfl e65 fgX4_15 dX4_bestLot_65 ?_
      refine lv_iload_n hx hb dX4_bestLot_68 rfl (lv_at hl 2 rfl) ?_
      refine lv_iload hx hb dX4_bestLot_69 (lv_at hl 0 rfl) ?_
      refine lv_ixor hx hb dX4_bestLot_71 ?_
      obtain ⟨a72, na72, h⟩ := ob h
      obtain ⟨v72, e72, h⟩ := ob h
      refine gx_iald C hG na72 e72 dX4_bestLot_72 ?_
      refine lv_iload hx hb dX4_bestLot_73 (lv_at hl 7 rfl) ?_
      refine lv_icmp_ge (tgt := 93) hx hb dX4_bestLot_75 (by decide) (fun hc => ?_) (fun hc => ?_)
      · replace h := it_pos hc h
        exact wX4_bestLot_93 C hk30 h hG hS (lv_sub hl [1, 2, 3, 4, 5, 6, 7, 8, 9] rfl)
      · replace h := it_neg hc h
        refine lv_iload hx hb dX4_bestLot_78 (lv_at hl 0 rfl) ?_
        refine lv_istore (i := 5) (lv' := [(5, .int (x2 ||| x7)), (9, .int (x2 ||| x7)), (0, va_rf (some x0)), (1, .int x1), (2, .int x2), (3, .int x3), (4, .int x4), (6, .int x6), (7, .int x7), (8, .int x8)]) hx hb dX4_bestLot_80 hl (by decide) rfl (fun ls hl => ?_)
        refine gx_aload_n (r := (some x0)) hx hb dX4_bestLot_82 rfl (lv_at hl 2 rfl) ?_
        obtain ⟨v83, e83, h⟩ := ob h
        refine gx_getR C hG rfl e83 fgX4_15 dX4_bestLot_83 ?_
        refine lv_iload_n hx hb dX4_bestLot_86 rfl (lv_at hl 3 rfl) ?_
        refine lv_iload hx hb dX4_bestLot_87 (lv_at hl 1 rfl) ?_
        refine lv_ixor hx hb dX4_bestLot_89 ?_
        obtain ⟨a90, na90, h⟩ := ob h
        obtain ⟨v90, e90, h⟩ := ob h
        refine gx_iald C hG na90 e90 dX4_bestLot_90 ?_
        refine lv_istore (i := 6) (lv' := [(6, .int v90), (5, .int (x2 ||| x7)), (9, .int (x2 ||| x7)), (0, va_rf (some x0)), (1, .int x1), (2, .int x2), (3, .int x3), (4, .int x4), (7, .int x7), (8, .int x8)]) hx hb dX4_bestLot_91 hl (by decide) rfl (fun ls hl => ?_)
        exact wX4_bestLot_93 C hk30 h hG hS (lv_sub hl [3, 4, 5, 6, 7, 1, 0, 8, 9] rfl)
def fX4_bestLot_30 : Nat → Nat → Int32 → Int32 → Int32 → Int32 → Int32 → Int32 → Int32 → Int32 → gM → Option (Int32 × gM)
  | 0 => fun _ _ _ _ _ _ _ _ _ _ => none
  | n + 1 => fun x0 x1 x2 x3 x4 x5 x6 x7 x8 u => fX4_bestLot_30_b x0 x1 x2 x3 x4 x5 x6 x7 x8 u (fX4_bestLot_30 n) 
theorem wX4_bestLot_30 (C : gC p s m args meth c cX4_bestLot 10 (some .int) RX4 "bestLot" Γ) {res : Int32 × gM} (n : Nat) : ∀ {x0 : Nat} {x1 : Int32} {x2 : Int32} {x3 : Int32} {x4 : Int32} {x5 : Int32} {x6 : Int32} {x7 : Int32} {x8 : Int32} {u : gM} {H : Heap} {locs : List Loc} {ls : Array Slot}, fX4_bestLot_30 n x0 x1 x2 x3 x4 x5 x6 x7 x8 u = some res → gAg Γ u N H → va_S Γ.2.2.1 s.heap H locs → lv_has ls 10 [(0, va_rf (some x0)), (1, .int x1), (2, .int x2), (3, .int x3), (4, .int x4), (5, .int x5), (6, .int x6), (7, .int x7), (8, .int x8)] → W p l e rmX4_bestLot s m args below meth c H locs 0 0 (MQ below (gQ Γ (some (.int res.1)) res.2 N) args s 0 0 Γ.2.2.1) (F0 m 30 ls []) := by
  induction n with
  | zero => intro _ _ _ _ _ _ _ _ _ _ _ _ _ h _ _ _; cases (show (none : Option (Int32 × gM)) = some res from h)
  | succ n ih => intro _ _ _ _ _ _ _ _ _ _ _ _ _ h hG hS hl; exact wX4_bestLot_30_b C (fun _ _ _ _ _ _ _ _ _ _ _ _ _ h hG hS hl => ih h hG hS hl) h hG hS hl
def fX4_bestLot (x0 : Nat) (x1 : Int32) (u : gM) : Option (Int32 × gM) :=
  bI (fJ6_bitCount_0f7a4 (x1 ^^^ (x1 &&& (-x1))) u) fun r11 u11 =>
  pU ((1 : Int32) <<< (r11 &&& 31)) fun z15 =>
  fX4_bestLot_30  FU x0 x1 (x1 &&& (-x1)) (x1 ^^^ (x1 &&& (-x1))) z15 (0 : Int32) (11 : Int32) (0 : Int32) (0 : Int32) u11
set_option maxHeartbeats 4000000 in
set_option maxRecDepth 20000 in
theorem wX4_bestLot  (C : gC p s m args meth c cX4_bestLot 10 (some .int) RX4 "bestLot" Γ){x0 : Nat} {x1 : Int32} {u : gM} {res : Int32 × gM} (h : fX4_bestLot x0 x1 u = some res) {H : Heap} {locs : List Loc} (hG : gAg Γ u N H) (hS : va_S Γ.2.2.1 s.heap H locs) {ls : Array Slot} (hl : lv_has ls 10 [(0, va_rf (some x0)), (1, .int x1)]) : W p l e rmX4_bestLot s m args below meth c H locs 0 0 (MQ below (gQ Γ (some (.int res.1)) res.2 N) args s 0 0 Γ.2.2.1) (F0 m 0 ls []) := by
  have hx := C.1
  have hb := C.2.1
  unfold fX4_bestLot at h
  refine lv_iload_n hx hb dX4_bestLot_0 rfl (lv_at hl 1 rfl) ?_
  refine lv_iload_n hx hb dX4_bestLot_1 rfl (lv_at hl 1 rfl) ?_
  refine lv_ineg hx hb dX4_bestLot_2 ?_
  refine lv_iand hx hb dX4_bestLot_3 ?_
  refine lv_istore_n (i := 2) (lv' := [(2, .int (x1 &&& (-x1))), (0, va_rf (some x0)), (1, .int x1)]) hx hb dX4_bestLot_4 rfl hl (by decide) rfl (fun ls hl => ?_)
  refine lv_iload_n hx hb dX4_bestLot_5 rfl (lv_at hl 2 rfl) ?_
  refine lv_iload_n hx hb dX4_bestLot_6 rfl (lv_at hl 0 rfl) ?_
  refine lv_ixor hx hb dX4_bestLot_7 ?_
  refine lv_istore_n (i := 3) (lv' := [(3, .int (x1 ^^^ (x1 &&& (-x1)))), (2, .int (x1 &&& (-x1))), (0, va_rf (some x0)), (1, .int x1)]) hx hb dX4_bestLot_8 rfl hl (by decide) rfl (fun ls hl => ?_)
  refine lv_iconst (v := 1) hx hb dX4_bestLot_9 (by decide) ?_
  refine lv_iload_n hx hb dX4_bestLot_10 rfl (lv_at hl 0 rfl) ?_
  obtain ⟨r11, u11, e11, h⟩ := obI h
  refine gx_cS C hG hS [.int (x1 ^^^ (x1 &&& (-x1)))] (tJ6_bitCount_0f7a4 e11) qcX4_53 ⟨rfl, rfl, Nat.le_of_ble_eq_true rfl, Nat.le_of_ble_eq_true rfl⟩ ⟨Nat.zero_le _, Nat.zero_le _⟩ rfl hl.1 rfl (Nat.le_of_ble_eq_true rfl) (st1 := [.int r11, .int (1 : Int32)]) rfl dX4_bestLot_11 (fun H locs hG hS => ?_)
  refine lv_ishl hx hb dX4_bestLot_14 ?_
  obtain ⟨z15, ez15, h⟩ := op h
  refine gx_topI ez15 ?_
  refine lv_istore (i := 4) (lv' := [(4, .int z15), (3, .int (x1 ^^^ (x1 &&& (-x1)))), (2, .int (x1 &&& (-x1))), (0, va_rf (some x0)), (1, .int x1)]) hx hb dX4_bestLot_15 hl (by decide) rfl (fun ls hl => ?_)
  refine lv_iconst (v := 0) hx hb dX4_bestLot_17 (by decide) ?_
  refine lv_istore (i := 5) (lv' := [(5, .int (0 : Int32)), (4, .int z15), (3, .int (x1 ^^^ (x1 &&& (-x1)))), (2, .int (x1 &&& (-x1))), (0, va_rf (some x0)), (1, .int x1)]) hx hb dX4_bestLot_18 hl (by decide) rfl (fun ls hl => ?_)
  refine lv_bipush (v := 11) hx hb dX4_bestLot_20 (by decide) ?_
  refine lv_istore (i := 6) (lv' := [(6, .int (11 : Int32)), (5, .int (0 : Int32)), (4, .int z15), (3, .int (x1 ^^^ (x1 &&& (-x1)))), (2, .int (x1 &&& (-x1))), (0, va_rf (some x0)), (1, .int x1)]) hx hb dX4_bestLot_22 hl (by decide) rfl (fun ls hl => ?_)
  refine lv_iconst (v := 0) hx hb dX4_bestLot_24 (by decide) ?_
  refine lv_istore (i := 7) (lv' := [(7, .int (0 : Int32)), (6, .int (11 : Int32)), (5, .int (0 : Int32)), (4, .int z15), (3, .int (x1 ^^^ (x1 &&& (-x1)))), (2, .int (x1 &&& (-x1))), (0, va_rf (some x0)), (1, .int x1)]) hx hb dX4_bestLot_25 hl (by decide) rfl (fun ls hl => ?_)
  refine lv_iconst (v := 0) hx hb dX4_bestLot_27 (by decide) ?_
  refine lv_istore (i := 8) (lv' := [(8, .int (0 : Int32)), (7, .int (0 : Int32)), (6, .int (11 : Int32)), (5, .int (0 : Int32)), (4, .int z15), (3, .int (x1 ^^^ (x1 &&& (-x1)))), (2, .int (x1 &&& (-x1))), (0, va_rf (some x0)), (1, .int x1)]) hx hb dX4_bestLot_28 hl (by decide) rfl (fun ls hl => ?_)
  exact wX4_bestLot_30 C  FU h hG hS (lv_sub hl [7, 8, 6, 5, 4, 3, 2, 1, 0] rfl)
theorem tX4_bestLot {Γ : gEnv} {N : Nat} {x0 : Nat} {x1 : Int32} {u v : gM} {r : Int32} (h : fX4_bestLot x0 x1 u = some (r, v)) : Met l yX4_bestLot (Cond.code yX4_bestLot cX4_bestLot 10 (some .int) :: gW) rmX4_bestLot (va_Pc [va_rf (some x0), .int x1] (gPre Γ u N)) (gQ Γ (some (.int r)) v N) 0 0 Γ.2.2.1 :=
  gx_met (nm := "bestLot") ⟨by decide +kernel, rfl, rfl⟩ (Nat.le_of_ble_eq_true rfl) (fun p e s m below meth c ls C hG hl => wX4_bestLot C h hG va_S.rf hl)
abbrev rmX4_part : Room := { frames := 3, cells := 0, slots := 0, locals := 64 }
def fX4_part_44_b (x0 : Nat) (x1 : Option Nat) (x4 : Int32) (x5 : Int32) (x6 : Int32) (u : gM) (k44 : Nat → Option Nat → Int32 → Int32 → Int32 → gM → Option (gM)) (k91 : Nat → Option Nat → Int32 → Int32 → gM → Option (gM)) : Option (gM) :=
  if ((1 : Int32) <<< (x5 &&& 31)) ≤ x6 then (
    k91 x0 x1 x4 x5 u
  ) else (
    (gR [5] 0 u x0).bind fun v54 =>
    (gR [5] 0 u x0).bind fun v65 =>
    (v65).bind fun a70 =>
    (aI u a70 x6).bind fun v70 =>
    (x1).bind fun a74 =>
    (gO [0] u a74).bind fun _ =>
    bI (fJx4a65c_get_915e3 a74 x5 u) fun r74 u74 =>
    (kC [9, 6] u74 r74).bind fun _ =>
    (r74).bind fun a80 =>
    (gI [9, 6] 3 u74 a80).bind fun v80 =>
    (v54).bind fun a84 =>
    (uI u74 a84 (x6 ||| ((1 : Int32) <<< (x5 &&& 31))) (v70 + v80)).bind fun u84 =>
    k44 x0 x1 x4 x5 (x6 + (1 : Int32)) u84
  )
set_option maxHeartbeats 4000000 in
set_option maxRecDepth 20000 in
theorem wX4_part_44_b  (C : gC p s m args meth c cX4_part 7 none RX4 "part" Γ){x0 : Nat} {x1 : Option Nat} {x4 : Int32} {x5 : Int32} {x6 : Int32} {u : gM} {res : gM} {k44 : Nat → Option Nat → Int32 → Int32 → Int32 → gM → Option (gM)} {k91 : Nat → Option Nat → Int32 → Int32 → gM → Option (gM)} (hk44 : ∀ (x0 : Nat) (x1 : Option Nat) (x4 : Int32) (x5 : Int32) (x6 : Int32) (u : gM) (H : Heap) (locs : List Loc) (ls : Array Slot), k44 x0 x1 x4 x5 x6 u = some res → gAg Γ u N H → va_S Γ.2.2.1 s.heap H locs → lv_has ls 7 [(0, va_rf (some x0)), (1, va_rf x1), (4, .int x4), (5, .int x5), (6, .int x6)] → W p l e rmX4_part s m args below meth c H locs 0 0 (MQ below (gQ Γ none res N) args s 0 0 Γ.2.2.1) (F0 m 44 ls [])) (hk91 : ∀ (x0 : Nat) (x1 : Option Nat) (x4 : Int32) (x5 : Int32) (u : gM) (H : Heap) (locs : List Loc) (ls : Array Slot), k91 x0 x1 x4 x5 u = some res → gAg Γ u N H → va_S Γ.2.2.1 s.heap H locs → lv_has ls 7 [(0, va_rf (some x0)), (1, va_rf x1), (4, .int x4), (5, .int x5)] → W p l e rmX4_part s m args below meth c H locs 0 0 (MQ below (gQ Γ none res N) args s 0 0 Γ.2.2.1) (F0 m 91 ls [])) (h : fX4_part_44_b x0 x1 x4 x5 x6 u k44 k91 = some res) {H : Heap} {locs : List Loc} (hG : gAg Γ u N H) (hS : va_S Γ.2.2.1 s.heap H locs) {ls : Array Slot} (hl : lv_has ls 7 [(0, va_rf (some x0)), (1, va_rf x1), (4, .int x4), (5, .int x5), (6, .int x6)]) : W p l e rmX4_part s m args below meth c H locs 0 0 (MQ below (gQ Γ none res N) args s 0 0 Γ.2.2.1) (F0 m 44 ls []) := by
  have hx := C.1
  have hb := C.2.1
  unfold fX4_part_44_b at h
  refine lv_iload hx hb dX4_part_44 (lv_at hl 4 rfl) ?_
  refine lv_iconst (v := 1) hx hb dX4_part_46 (by decide) ?_
  refine lv_iload hx hb dX4_part_47 (lv_at hl 3 rfl) ?_
  refine lv_ishl hx hb dX4_part_49 ?_
  refine lv_icmp_ge (tgt := 91) hx hb dX4_part_50 (by decide) (fun hc => ?_) (fun hc => ?_)
  · replace h := it_pos hc h
    exact hk91 _ _ _ _ _ _ _ _ h hG hS (lv_sub hl [0, 1, 2, 3] rfl)
  · replace h := it_neg hc h
    refine gx_aload_n (r := (some x0)) hx hb dX4_part_53 rfl (lv_at hl 0 rfl) ?_
    obtain ⟨v54, e54, h⟩ := ob h
    refine gx_getR C hG rfl e54 fgX4_9 dX4_part_54 ?_
    refine lv_iload hx hb dX4_part_57 (lv_at hl 4 rfl) ?_
    refine lv_iconst (v := 1) hx hb dX4_part_59 (by decide) ?_
    refine lv_iload hx hb dX4_part_60 (lv_at hl 3 rfl) ?_
    refine lv_ishl hx hb dX4_part_62 ?_
    refine lv_ior hx hb dX4_part_63 ?_
    refine gx_aload_n (r := (some x0)) hx hb dX4_part_64 rfl (lv_at hl 0 rfl) ?_
    obtain ⟨v65, e65, h⟩ := ob h
    refine gx_getR C hG rfl e65 fgX4_9 dX4_part_65 ?_
    refine lv_iload hx hb dX4_part_68 (lv_at hl 4 rfl) ?_
    obtain ⟨a70, na70, h⟩ := ob h
    obtain ⟨v70, e70, h⟩ := ob h
    refine gx_iald C hG na70 e70 dX4_part_70 ?_
    refine gx_aload_n (r := x1) hx hb dX4_part_71 rfl (lv_at hl 1 rfl) ?_
    refine lv_iload hx hb dX4_part_72 (lv_at hl 3 rfl) ?_
    obtain ⟨a74, na74, h⟩ := ob h
    obtain ⟨_, eo74, h⟩ := ob h
    obtain ⟨r74, u74, e74, h⟩ := obI h
    refine gx_cV C hG hS [.int x5] na74 eo74 (tJx4a65c_get_915e3 e74) qcX4_40 ⟨rfl, rfl, Nat.le_of_ble_eq_true rfl, Nat.le_of_ble_eq_true rfl⟩ ⟨Nat.zero_le _, Nat.zero_le _⟩ rfl hl.1 rfl (by simp [gx_cat, gx_catI, gx_catJ]) (st1 := [va_rf r74, .int v70, .int (x6 ||| ((1 : Int32) <<< (x5 &&& 31))), va_rf v54]) rfl dX4_part_74 (fun H locs hG hS => ?_)
    obtain ⟨_, e77, h⟩ := ob h
    refine gx_cast C hG e77 ckX4_44 dX4_part_77 ?_
    obtain ⟨a80, na80, h⟩ := ob h
    obtain ⟨v80, e80, h⟩ := ob h
    refine gx_getI C hG na80 e80 fgX4_46 dX4_part_80 ?_
    refine lv_iadd hx hb dX4_part_83 ?_
    obtain ⟨a84, na84, h⟩ := ob h
    obtain ⟨u84, e84, h⟩ := ob h
    refine gx_iast C hG hS na84 e84 dX4_part_84 (fun H locs hG hS => ?_)
    refine lv_iinc (v := x6 + (1 : Int32)) (lv' := [(6, .int (x6 + (1 : Int32))), (0, va_rf (some x0)), (1, va_rf x1), (4, .int x4), (5, .int x5)]) hx hb dX4_part_85 hl (k := 4) rfl rfl (by decide) rfl (fun ls hl => ?_)
    refine lv_goto (tgt := 44) hx hb dX4_part_88 (by decide) ?_
    exact hk44 _ _ _ _ _ _ _ _ _ h hG hS (lv_sub hl [1, 2, 3, 4, 0] rfl)
def fX4_part_44 (k91 : Nat → Option Nat → Int32 → Int32 → gM → Option (gM)) : Nat → Nat → Option Nat → Int32 → Int32 → Int32 → gM → Option (gM)
  | 0 => fun _ _ _ _ _ _ => none
  | n + 1 => fun x0 x1 x4 x5 x6 u => fX4_part_44_b x0 x1 x4 x5 x6 u (fX4_part_44 k91 n) k91 
theorem wX4_part_44 (C : gC p s m args meth c cX4_part 7 none RX4 "part" Γ) {res : gM} {k91 : Nat → Option Nat → Int32 → Int32 → gM → Option (gM)} (hk91 : ∀ (x0 : Nat) (x1 : Option Nat) (x4 : Int32) (x5 : Int32) (u : gM) (H : Heap) (locs : List Loc) (ls : Array Slot), k91 x0 x1 x4 x5 u = some res → gAg Γ u N H → va_S Γ.2.2.1 s.heap H locs → lv_has ls 7 [(0, va_rf (some x0)), (1, va_rf x1), (4, .int x4), (5, .int x5)] → W p l e rmX4_part s m args below meth c H locs 0 0 (MQ below (gQ Γ none res N) args s 0 0 Γ.2.2.1) (F0 m 91 ls [])) (n : Nat) : ∀ {x0 : Nat} {x1 : Option Nat} {x4 : Int32} {x5 : Int32} {x6 : Int32} {u : gM} {H : Heap} {locs : List Loc} {ls : Array Slot}, fX4_part_44 k91 n x0 x1 x4 x5 x6 u = some res → gAg Γ u N H → va_S Γ.2.2.1 s.heap H locs → lv_has ls 7 [(0, va_rf (some x0)), (1, va_rf x1), (4, .int x4), (5, .int x5), (6, .int x6)] → W p l e rmX4_part s m args below meth c H locs 0 0 (MQ below (gQ Γ none res N) args s 0 0 Γ.2.2.1) (F0 m 44 ls []) := by
  induction n with
  | zero => intro _ _ _ _ _ _ _ _ _ h _ _ _; cases (show (none : Option (gM)) = some res from h)
  | succ n ih => intro _ _ _ _ _ _ _ _ _ h hG hS hl; exact wX4_part_44_b C (fun _ _ _ _ _ _ _ _ _ h hG hS hl => ih h hG hS hl) hk91 h hG hS hl
def fX4_part_34_b (x0 : Nat) (x1 : Option Nat) (x4 : Int32) (x5 : Int32) (u : gM) (k34 : Nat → Option Nat → Int32 → Int32 → gM → Option (gM)) (k97 : Nat → gM → Option (gM)) : Option (gM) :=
  if x4 ≤ x5 then (
    k97 x0 u
  ) else (
    fX4_part_44 (fun x0 x1 x4 x5 u =>
          k34 x0 x1 x4 (x5 + (1 : Int32)) u) FU x0 x1 x4 x5 (0 : Int32) u
  )
set_option maxHeartbeats 4000000 in
set_option maxRecDepth 20000 in
theorem wX4_part_34_b  (C : gC p s m args meth c cX4_part 7 none RX4 "part" Γ){x0 : Nat} {x1 : Option Nat} {x4 : Int32} {x5 : Int32} {u : gM} {res : gM} {k34 : Nat → Option Nat → Int32 → Int32 → gM → Option (gM)} {k97 : Nat → gM → Option (gM)} (hk34 : ∀ (x0 : Nat) (x1 : Option Nat) (x4 : Int32) (x5 : Int32) (u : gM) (H : Heap) (locs : List Loc) (ls : Array Slot), k34 x0 x1 x4 x5 u = some res → gAg Γ u N H → va_S Γ.2.2.1 s.heap H locs → lv_has ls 7 [(0, va_rf (some x0)), (1, va_rf x1), (4, .int x4), (5, .int x5)] → W p l e rmX4_part s m args below meth c H locs 0 0 (MQ below (gQ Γ none res N) args s 0 0 Γ.2.2.1) (F0 m 34 ls [])) (hk97 : ∀ (x0 : Nat) (u : gM) (H : Heap) (locs : List Loc) (ls : Array Slot), k97 x0 u = some res → gAg Γ u N H → va_S Γ.2.2.1 s.heap H locs → lv_has ls 7 [(0, va_rf (some x0))] → W p l e rmX4_part s m args below meth c H locs 0 0 (MQ below (gQ Γ none res N) args s 0 0 Γ.2.2.1) (F0 m 97 ls [])) (h : fX4_part_34_b x0 x1 x4 x5 u k34 k97 = some res) {H : Heap} {locs : List Loc} (hG : gAg Γ u N H) (hS : va_S Γ.2.2.1 s.heap H locs) {ls : Array Slot} (hl : lv_has ls 7 [(0, va_rf (some x0)), (1, va_rf x1), (4, .int x4), (5, .int x5)]) : W p l e rmX4_part s m args below meth c H locs 0 0 (MQ below (gQ Γ none res N) args s 0 0 Γ.2.2.1) (F0 m 34 ls []) := by
  have hx := C.1
  have hb := C.2.1
  unfold fX4_part_34_b at h
  refine lv_iload hx hb dX4_part_34 (lv_at hl 3 rfl) ?_
  refine lv_iload hx hb dX4_part_36 (lv_at hl 2 rfl) ?_
  refine lv_icmp_ge (tgt := 97) hx hb dX4_part_38 (by decide) (fun hc => ?_) (fun hc => ?_)
  · replace h := it_pos hc h
    exact hk97 _ _ _ _ _ h hG hS (lv_sub hl [0] rfl)
  · replace h := it_neg hc h
    refine lv_iconst (v := 0) hx hb dX4_part_41 (by decide) ?_
    refine lv_istore (i := 6) (lv' := [(6, .int (0 : Int32)), (0, va_rf (some x0)), (1, va_rf x1), (4, .int x4), (5, .int x5)]) hx hb dX4_part_42 hl (by decide) rfl (fun ls hl => ?_)
    refine wX4_part_44 C ?_ FU h hG hS (lv_sub hl [1, 2, 3, 4, 0] rfl)
    · intro x0 x1 x4 x5 u H locs ls h hG hS hl
      refine lv_iinc (v := x5 + (1 : Int32)) (lv' := [(5, .int (x5 + (1 : Int32))), (0, va_rf (some x0)), (1, va_rf x1), (4, .int x4)]) hx hb dX4_part_91 hl (k := 3) rfl rfl (by decide) rfl (fun ls hl => ?_)
      refine lv_goto (tgt := 34) hx hb dX4_part_94 (by decide) ?_
      exact hk34 _ _ _ _ _ _ _ _ h hG hS (lv_sub hl [1, 2, 3, 0] rfl)
def fX4_part_34 (k97 : Nat → gM → Option (gM)) : Nat → Nat → Option Nat → Int32 → Int32 → gM → Option (gM)
  | 0 => fun _ _ _ _ _ => none
  | n + 1 => fun x0 x1 x4 x5 u => fX4_part_34_b x0 x1 x4 x5 u (fX4_part_34 k97 n) k97 
theorem wX4_part_34 (C : gC p s m args meth c cX4_part 7 none RX4 "part" Γ) {res : gM} {k97 : Nat → gM → Option (gM)} (hk97 : ∀ (x0 : Nat) (u : gM) (H : Heap) (locs : List Loc) (ls : Array Slot), k97 x0 u = some res → gAg Γ u N H → va_S Γ.2.2.1 s.heap H locs → lv_has ls 7 [(0, va_rf (some x0))] → W p l e rmX4_part s m args below meth c H locs 0 0 (MQ below (gQ Γ none res N) args s 0 0 Γ.2.2.1) (F0 m 97 ls [])) (n : Nat) : ∀ {x0 : Nat} {x1 : Option Nat} {x4 : Int32} {x5 : Int32} {u : gM} {H : Heap} {locs : List Loc} {ls : Array Slot}, fX4_part_34 k97 n x0 x1 x4 x5 u = some res → gAg Γ u N H → va_S Γ.2.2.1 s.heap H locs → lv_has ls 7 [(0, va_rf (some x0)), (1, va_rf x1), (4, .int x4), (5, .int x5)] → W p l e rmX4_part s m args below meth c H locs 0 0 (MQ below (gQ Γ none res N) args s 0 0 Γ.2.2.1) (F0 m 34 ls []) := by
  induction n with
  | zero => intro _ _ _ _ _ _ _ _ h _ _ _; cases (show (none : Option (gM)) = some res from h)
  | succ n ih => intro _ _ _ _ _ _ _ _ h hG hS hl; exact wX4_part_34_b C (fun _ _ _ _ _ _ _ _ h hG hS hl => ih h hG hS hl) hk97 h hG hS hl
def fX4_part_145 (x0 : Nat) (x5 : Int32) (s0 : Option Nat) (s1 : Int32) (s2 : Int32) (u : gM) (k100 : Nat → Int32 → gM → Option (gM)) : Option (gM) :=
  (s0).bind fun a145 =>
  (uI u a145 s1 s2).bind fun u145 =>
  k100 x0 (x5 + (1 : Int32)) u145
set_option maxHeartbeats 4000000 in
set_option maxRecDepth 20000 in
theorem wX4_part_145  (C : gC p s m args meth c cX4_part 7 none RX4 "part" Γ){x0 : Nat} {x5 : Int32} {s0 : Option Nat} {s1 : Int32} {s2 : Int32} {u : gM} {res : gM} {k100 : Nat → Int32 → gM → Option (gM)} (hk100 : ∀ (x0 : Nat) (x5 : Int32) (u : gM) (H : Heap) (locs : List Loc) (ls : Array Slot), k100 x0 x5 u = some res → gAg Γ u N H → va_S Γ.2.2.1 s.heap H locs → lv_has ls 7 [(0, va_rf (some x0)), (5, .int x5)] → W p l e rmX4_part s m args below meth c H locs 0 0 (MQ below (gQ Γ none res N) args s 0 0 Γ.2.2.1) (F0 m 100 ls [])) (h : fX4_part_145 x0 x5 s0 s1 s2 u k100 = some res) {H : Heap} {locs : List Loc} (hG : gAg Γ u N H) (hS : va_S Γ.2.2.1 s.heap H locs) {ls : Array Slot} (hl : lv_has ls 7 [(0, va_rf (some x0)), (5, .int x5)]) : W p l e rmX4_part s m args below meth c H locs 0 0 (MQ below (gQ Γ none res N) args s 0 0 Γ.2.2.1) (F0 m 145 ls [.int s2, .int s1, va_rf s0]) := by
  have hx := C.1
  have hb := C.2.1
  unfold fX4_part_145 at h
  obtain ⟨a145, na145, h⟩ := ob h
  obtain ⟨u145, e145, h⟩ := ob h
  refine gx_iast C hG hS na145 e145 dX4_part_145 (fun H locs hG hS => ?_)
  refine lv_iinc (v := x5 + (1 : Int32)) (lv' := [(5, .int (x5 + (1 : Int32))), (0, va_rf (some x0))]) hx hb dX4_part_146 hl (k := 1) rfl rfl (by decide) rfl (fun ls hl => ?_)
  refine lv_goto (tgt := 100) hx hb dX4_part_149 (by decide) ?_
  exact hk100 _ _ _ _ _ _ h hG hS (lv_sub hl [1, 0] rfl)
def fX4_part_100_b (x0 : Nat) (x5 : Int32) (u : gM) (k100 : Nat → Int32 → gM → Option (gM)) : Option (gM) :=
  (gI [5] 4 u x0).bind fun v103 =>
  if v103 < x5 then (
    some u
  ) else (
    (gO [5] u x0).bind fun _ =>
    bI (fX4_bestLot x0 x5 u) fun r112 u112 =>
    (gR [5] 1 u112 x0).bind fun v118 =>
    if r112 = 0 then (
      fX4_part_145 x0 x5 v118 x5 (11 : Int32) u112 k100
    ) else (
      (gR [5] 1 u112 x0).bind fun v135 =>
      (v135).bind fun a143 =>
      (aI u112 a143 (x5 ^^^ r112)).bind fun v143 =>
      fX4_part_145 x0 x5 v118 x5 ((1 : Int32) + v143) u112 k100
    )
  )
set_option maxHeartbeats 4000000 in
set_option maxRecDepth 20000 in
theorem wX4_part_100_b  (C : gC p s m args meth c cX4_part 7 none RX4 "part" Γ){x0 : Nat} {x5 : Int32} {u : gM} {res : gM} {k100 : Nat → Int32 → gM → Option (gM)} (hk100 : ∀ (x0 : Nat) (x5 : Int32) (u : gM) (H : Heap) (locs : List Loc) (ls : Array Slot), k100 x0 x5 u = some res → gAg Γ u N H → va_S Γ.2.2.1 s.heap H locs → lv_has ls 7 [(0, va_rf (some x0)), (5, .int x5)] → W p l e rmX4_part s m args below meth c H locs 0 0 (MQ below (gQ Γ none res N) args s 0 0 Γ.2.2.1) (F0 m 100 ls [])) (h : fX4_part_100_b x0 x5 u k100 = some res) {H : Heap} {locs : List Loc} (hG : gAg Γ u N H) (hS : va_S Γ.2.2.1 s.heap H locs) {ls : Array Slot} (hl : lv_has ls 7 [(0, va_rf (some x0)), (5, .int x5)]) : W p l e rmX4_part s m args below meth c H locs 0 0 (MQ below (gQ Γ none res N) args s 0 0 Γ.2.2.1) (F0 m 100 ls []) := by
  have hx := C.1
  have hb := C.2.1
  unfold fX4_part_100_b at h
  refine lv_iload hx hb dX4_part_100 (lv_at hl 1 rfl) ?_
  refine gx_aload_n (r := (some x0)) hx hb dX4_part_102 rfl (lv_at hl 0 rfl) ?_
  obtain ⟨v103, e103, h⟩ := ob h
  refine gx_getI C hG rfl e103 fgX4_25 dX4_part_103 ?_
  refine lv_icmp_gt (tgt := 152) hx hb dX4_part_106 (by decide) (fun hc => ?_) (fun hc => ?_)
  · replace h := it_pos hc h
    cases Option.some.inj h
    exact gx_retv C hG hS dX4_part_152
  · replace h := it_neg hc h
    refine gx_aload_n (r := (some x0)) hx hb dX4_part_109 rfl (lv_at hl 0 rfl) ?_
    refine lv_iload hx hb dX4_part_110 (lv_at hl 1 rfl) ?_
    obtain ⟨_, eo112, h⟩ := ob h
    obtain ⟨r112, u112, e112, h⟩ := obI h
    refine gx_cV C hG hS [.int x5] rfl eo112 (tX4_bestLot e112) qcX4_49 ⟨rfl, rfl, Nat.le_of_ble_eq_true rfl, Nat.le_of_ble_eq_true rfl⟩ ⟨Nat.zero_le _, Nat.zero_le _⟩ rfl hl.1 rfl (Nat.le_of_ble_eq_true rfl) (st1 := [.int r112]) rfl dX4_part_112 (fun H locs hG hS => ?_)
    refine lv_istore (i := 6) (lv' := [(6, .int r112), (0, va_rf (some x0)), (5, .int x5)]) hx hb dX4_part_115 hl (by decide) rfl (fun ls hl => ?_)
    refine gx_aload_n (r := (some x0)) hx hb dX4_part_117 rfl (lv_at hl 1 rfl) ?_
    obtain ⟨v118, e118, h⟩ := ob h
    refine gx_getR C hG rfl e118 fgX4_15 dX4_part_118 ?_
    refine lv_iload hx hb dX4_part_121 (lv_at hl 2 rfl) ?_
    refine lv_iload hx hb dX4_part_123 (lv_at hl 0 rfl) ?_
    refine lv_if_ne (tgt := 133) hx hb dX4_part_125 (by decide) (fun hc => ?_) (fun hc => ?_)
    · replace h := it_neg hc h
      refine lv_iconst (v := 1) hx hb dX4_part_133 (by decide) ?_
      refine gx_aload_n (r := (some x0)) hx hb dX4_part_134 rfl (lv_at hl 1 rfl) ?_
      obtain ⟨v135, e135, h⟩ := ob h
      refine gx_getR C hG rfl e135 fgX4_15 dX4_part_135 ?_
      refine lv_iload hx hb dX4_part_138 (lv_at hl 2 rfl) ?_
      refine lv_iload hx hb dX4_part_140 (lv_at hl 0 rfl) ?_
      refine lv_ixor hx hb dX4_part_142 ?_
      obtain ⟨a143, na143, h⟩ := ob h
      obtain ⟨v143, e143, h⟩ := ob h
      refine gx_iald C hG na143 e143 dX4_part_143 ?_
      refine lv_iadd hx hb dX4_part_144 ?_
      exact wX4_part_145 C hk100 h hG hS (lv_sub hl [1, 2] rfl)
    · replace h := it_pos hc h
      refine lv_bipush (v := 11) hx hb dX4_part_128 (by decide) ?_
      refine lv_goto (tgt := 145) hx hb dX4_part_130 (by decide) ?_
      exact wX4_part_145 C hk100 h hG hS (lv_sub hl [1, 2] rfl)
def fX4_part_100 : Nat → Nat → Int32 → gM → Option (gM)
  | 0 => fun _ _ _ => none
  | n + 1 => fun x0 x5 u => fX4_part_100_b x0 x5 u (fX4_part_100 n) 
theorem wX4_part_100 (C : gC p s m args meth c cX4_part 7 none RX4 "part" Γ) {res : gM} (n : Nat) : ∀ {x0 : Nat} {x5 : Int32} {u : gM} {H : Heap} {locs : List Loc} {ls : Array Slot}, fX4_part_100 n x0 x5 u = some res → gAg Γ u N H → va_S Γ.2.2.1 s.heap H locs → lv_has ls 7 [(0, va_rf (some x0)), (5, .int x5)] → W p l e rmX4_part s m args below meth c H locs 0 0 (MQ below (gQ Γ none res N) args s 0 0 Γ.2.2.1) (F0 m 100 ls []) := by
  induction n with
  | zero => intro _ _ _ _ _ _ h _ _ _; cases (show (none : Option (gM)) = some res from h)
  | succ n ih => intro _ _ _ _ _ _ h hG hS hl; exact wX4_part_100_b C (fun _ _ _ _ _ _ h hG hS hl => ih h hG hS hl) h hG hS hl
def fX4_part (x0 : Nat) (x1 : Option Nat) (x2 : Int32) (x3 : Int32) (u : gM) : Option (gM) :=
  (pV [5] 2 (.int x2) u x0).bind fun u2 =>
  (pV [5] 3 (.int x3) u2 x0).bind fun u7 =>
  (x1).bind fun a11 =>
  (gO [0] u7 a11).bind fun _ =>
  bI (fJx4a65c_size_8abf5 a11 u7) fun r11 u11 =>
  pU (if (10 : Int32) < r11 then (10 : Int32) else r11) fun y16 =>
  (pV [5] 4 (.int (((1 : Int32) <<< (y16 &&& 31)) - (1 : Int32))) u11 x0).bind fun u28 =>
  fX4_part_34 (fun x0 u =>
        fX4_part_100  FU x0 (1 : Int32) u) FU x0 x1 y16 (0 : Int32) u28
set_option maxHeartbeats 4000000 in
set_option maxRecDepth 20000 in
theorem wX4_part  (C : gC p s m args meth c cX4_part 7 none RX4 "part" Γ){x0 : Nat} {x1 : Option Nat} {x2 : Int32} {x3 : Int32} {u : gM} {res : gM} (h : fX4_part x0 x1 x2 x3 u = some res) {H : Heap} {locs : List Loc} (hG : gAg Γ u N H) (hS : va_S Γ.2.2.1 s.heap H locs) {ls : Array Slot} (hl : lv_has ls 7 [(0, va_rf (some x0)), (1, va_rf x1), (2, .int x2), (3, .int x3)]) : W p l e rmX4_part s m args below meth c H locs 0 0 (MQ below (gQ Γ none res N) args s 0 0 Γ.2.2.1) (F0 m 0 ls []) := by
  have hx := C.1
  have hb := C.2.1
  unfold fX4_part at h
  refine gx_aload_n (r := (some x0)) hx hb dX4_part_0 rfl (lv_at hl 0 rfl) ?_
  refine lv_iload_n hx hb dX4_part_1 rfl (lv_at hl 2 rfl) ?_
  obtain ⟨u2, e2, h⟩ := ob h
  refine gx_put C hG hS rfl e2 fgX4_18 fpX4_18 (fun q => by cases q) rfl rfl dX4_part_2 (fun H locs hG hS => ?_)
  refine gx_aload_n (r := (some x0)) hx hb dX4_part_5 rfl (lv_at hl 0 rfl) ?_
  refine lv_iload_n hx hb dX4_part_6 rfl (lv_at hl 3 rfl) ?_
  obtain ⟨u7, e7, h⟩ := ob h
  refine gx_put C hG hS rfl e7 fgX4_22 fpX4_22 (fun q => by cases q) rfl rfl dX4_part_7 (fun H locs hG hS => ?_)
  refine gx_aload_n (r := x1) hx hb dX4_part_10 rfl (lv_at hl 1 rfl) ?_
  obtain ⟨a11, na11, h⟩ := ob h
  obtain ⟨_, eo11, h⟩ := ob h
  obtain ⟨r11, u11, e11, h⟩ := obI h
  refine gx_cV C hG hS [] na11 eo11 (tJx4a65c_size_8abf5 e11) qcX4_28 ⟨rfl, rfl, Nat.le_of_ble_eq_true rfl, Nat.le_of_ble_eq_true rfl⟩ ⟨Nat.zero_le _, Nat.zero_le _⟩ rfl hl.1 rfl (Nat.le_of_ble_eq_true rfl) (st1 := [.int r11]) rfl dX4_part_11 (fun H locs hG hS => ?_)
  refine lv_bipush (v := 10) hx hb dX4_part_14 (by decide) ?_
  refine gx_mmin C qcX4_34 hl.1 ⟨Nat.le_of_ble_eq_true rfl, (Nat.le_of_ble_eq_true rfl)⟩ ⟨Nat.zero_le _, Nat.zero_le _⟩ dX4_part_16 ?_
  obtain ⟨y16, ey16, h⟩ := op h
  refine gx_topI ey16 ?_
  refine lv_istore (i := 4) (lv' := [(4, .int y16), (0, va_rf (some x0)), (1, va_rf x1), (2, .int x2), (3, .int x3)]) hx hb dX4_part_19 hl (by decide) rfl (fun ls hl => ?_)
  refine gx_aload_n (r := (some x0)) hx hb dX4_part_21 rfl (lv_at hl 1 rfl) ?_
  refine lv_iconst (v := 1) hx hb dX4_part_22 (by decide) ?_
  refine lv_iload hx hb dX4_part_23 (lv_at hl 0 rfl) ?_
  refine lv_ishl hx hb dX4_part_25 ?_
  refine lv_iconst (v := 1) hx hb dX4_part_26 (by decide) ?_
  refine lv_isub hx hb dX4_part_27 ?_
  obtain ⟨u28, e28, h⟩ := ob h
  refine gx_put C hG hS rfl e28 fgX4_25 fpX4_25 (fun q => by cases q) rfl rfl dX4_part_28 (fun H locs hG hS => ?_)
  refine lv_iconst (v := 0) hx hb dX4_part_31 (by decide) ?_
  refine lv_istore (i := 5) (lv' := [(5, .int (0 : Int32)), (4, .int y16), (0, va_rf (some x0)), (1, va_rf x1), (2, .int x2), (3, .int x3)]) hx hb dX4_part_32 hl (by decide) rfl (fun ls hl => ?_)
  refine wX4_part_34 C ?_ FU h hG hS (lv_sub hl [2, 3, 1, 0] rfl)
  · intro x0 u H locs ls h hG hS hl
    refine lv_iconst (v := 1) hx hb dX4_part_97 (by decide) ?_
    refine lv_istore (i := 5) (lv' := [(5, .int (1 : Int32)), (0, va_rf (some x0))]) hx hb dX4_part_98 hl (by decide) rfl (fun ls hl => ?_)
    exact wX4_part_100 C  FU h hG hS (lv_sub hl [1, 0] rfl)
theorem tX4_part {Γ : gEnv} {N : Nat} {x0 : Nat} {x1 : Option Nat} {x2 : Int32} {x3 : Int32} {u v : gM} (h : fX4_part x0 x1 x2 x3 u = some v) : Met l yX4_part (Cond.code yX4_part cX4_part 7 none :: gW) rmX4_part (va_Pc [va_rf (some x0), va_rf x1, .int x2, .int x3] (gPre Γ u N)) (gQ Γ none v N) 0 0 Γ.2.2.1 :=
  gx_met (nm := "part") ⟨by decide +kernel, rfl, rfl⟩ (by simp [lg_sl, gx_cat, gx_catI, gx_catJ]) (fun p e s m below meth c ls C hG hl => wX4_part C h hG va_S.rf (by simpa [lv_args, gx_cat, gx_catI, gx_catJ] using hl))
abbrev rmX4_fewestLots : Room := { frames := 0, cells := 0, slots := 0, locals := 0 }
def fX4_fewestLots (x0 : Nat) (u : gM) : Option (Int32 × gM) :=
  (gR [5] 1 u x0).bind fun v1 =>
  (gI [5] 4 u x0).bind fun v5 =>
  (v1).bind fun a8 =>
  (aI u a8 v5).bind fun v8 =>
  if v8 = (11 : Int32) then (
    some ((0 : Int32), u)
  ) else (
    (gR [5] 1 u x0).bind fun v19 =>
    (gI [5] 4 u x0).bind fun v23 =>
    (v19).bind fun a26 =>
    (aI u a26 v23).bind fun v26 =>
    some (v26, u)
  )
set_option maxHeartbeats 4000000 in
set_option maxRecDepth 20000 in
theorem wX4_fewestLots  (C : gC p s m args meth c cX4_fewestLots 1 (some .int) RX4 "fewestLots" Γ){x0 : Nat} {u : gM} {res : Int32 × gM} (h : fX4_fewestLots x0 u = some res) {H : Heap} {locs : List Loc} (hG : gAg Γ u N H) (hS : va_S Γ.2.2.1 s.heap H locs) {ls : Array Slot} (hl : lv_has ls 1 [(0, va_rf (some x0))]) : W p l e rmX4_fewestLots s m args below meth c H locs 0 0 (MQ below (gQ Γ (some (.int res.1)) res.2 N) args s 0 0 Γ.2.2.1) (F0 m 0 ls []) := by
  have hx := C.1
  have hb := C.2.1
  unfold fX4_fewestLots at h
  refine gx_aload_n (r := (some x0)) hx hb dX4_fewestLots_0 rfl (lv_at hl 0 rfl) ?_
  obtain ⟨v1, e1, h⟩ := ob h
  refine gx_getR C hG rfl e1 fgX4_15 dX4_fewestLots_1 ?_
  refine gx_aload_n (r := (some x0)) hx hb dX4_fewestLots_4 rfl (lv_at hl 0 rfl) ?_
  obtain ⟨v5, e5, h⟩ := ob h
  refine gx_getI C hG rfl e5 fgX4_25 dX4_fewestLots_5 ?_
  obtain ⟨a8, na8, h⟩ := ob h
  obtain ⟨v8, e8, h⟩ := ob h
  refine gx_iald C hG na8 e8 dX4_fewestLots_8 ?_
  refine lv_bipush (v := 11) hx hb dX4_fewestLots_9 (by decide) ?_
  refine lv_icmp_ne (tgt := 18) hx hb dX4_fewestLots_11 (by decide) (fun hc => ?_) (fun hc => ?_)
  · replace h := it_neg hc h
    refine gx_aload_n (r := (some x0)) hx hb dX4_fewestLots_18 rfl (lv_at hl 0 rfl) ?_
    obtain ⟨v19, e19, h⟩ := ob h
    refine gx_getR C hG rfl e19 fgX4_15 dX4_fewestLots_19 ?_
    refine gx_aload_n (r := (some x0)) hx hb dX4_fewestLots_22 rfl (lv_at hl 0 rfl) ?_
    obtain ⟨v23, e23, h⟩ := ob h
    refine gx_getI C hG rfl e23 fgX4_25 dX4_fewestLots_23 ?_
    obtain ⟨a26, na26, h⟩ := ob h
    obtain ⟨v26, e26, h⟩ := ob h
    refine gx_iald C hG na26 e26 dX4_fewestLots_26 ?_
    cases Option.some.inj h
    exact gx_reti C hG hS dX4_fewestLots_27
  · replace h := it_pos hc h
    refine lv_iconst (v := 0) hx hb dX4_fewestLots_14 (by decide) ?_
    refine lv_goto (tgt := 27) hx hb dX4_fewestLots_15 (by decide) ?_
    cases Option.some.inj h
    exact gx_reti C hG hS dX4_fewestLots_27
theorem tX4_fewestLots {Γ : gEnv} {N : Nat} {x0 : Nat} {u v : gM} {r : Int32} (h : fX4_fewestLots x0 u = some (r, v)) : Met l yX4_fewestLots (Cond.code yX4_fewestLots cX4_fewestLots 1 (some .int) :: gW) rmX4_fewestLots (va_Pc [va_rf (some x0)] (gPre Γ u N)) (gQ Γ (some (.int r)) v N) 0 0 Γ.2.2.1 :=
  gx_met (nm := "fewestLots") ⟨by decide +kernel, rfl, rfl⟩ (Nat.le_of_ble_eq_true rfl) (fun p e s m below meth c ls C hG hl => wX4_fewestLots C h hG va_S.rf hl)
abbrev rmX4_lotAt : Room := { frames := 2, cells := 0, slots := 0, locals := 51 }
def fX4_lotAt_7_b (x0 : Nat) (x1 : Int32) (x2 : Int32) (x3 : Int32) (u : gM) (k7 : Nat → Int32 → Int32 → Int32 → gM → Option (Int32 × gM)) : Option (Int32 × gM) :=
  if x1 ≤ x3 then (
    (gO [5] u x0).bind fun _ =>
    bI (fX4_bestLot x0 x2 u) fun r28 u28 =>
    some (r28, u28)
  ) else (
    (gO [5] u x0).bind fun _ =>
    bI (fX4_bestLot x0 x2 u) fun r15 u15 =>
    k7 x0 x1 (x2 ^^^ r15) (x3 + (1 : Int32)) u15
  )
set_option maxHeartbeats 4000000 in
set_option maxRecDepth 20000 in
theorem wX4_lotAt_7_b  (C : gC p s m args meth c cX4_lotAt 4 (some .int) RX4 "lotAt" Γ){x0 : Nat} {x1 : Int32} {x2 : Int32} {x3 : Int32} {u : gM} {res : Int32 × gM} {k7 : Nat → Int32 → Int32 → Int32 → gM → Option (Int32 × gM)} (hk7 : ∀ (x0 : Nat) (x1 : Int32) (x2 : Int32) (x3 : Int32) (u : gM) (H : Heap) (locs : List Loc) (ls : Array Slot), k7 x0 x1 x2 x3 u = some res → gAg Γ u N H → va_S Γ.2.2.1 s.heap H locs → lv_has ls 4 [(0, va_rf (some x0)), (1, .int x1), (2, .int x2), (3, .int x3)] → W p l e rmX4_lotAt s m args below meth c H locs 0 0 (MQ below (gQ Γ (some (.int res.1)) res.2 N) args s 0 0 Γ.2.2.1) (F0 m 7 ls [])) (h : fX4_lotAt_7_b x0 x1 x2 x3 u k7 = some res) {H : Heap} {locs : List Loc} (hG : gAg Γ u N H) (hS : va_S Γ.2.2.1 s.heap H locs) {ls : Array Slot} (hl : lv_has ls 4 [(0, va_rf (some x0)), (1, .int x1), (2, .int x2), (3, .int x3)]) : W p l e rmX4_lotAt s m args below meth c H locs 0 0 (MQ below (gQ Γ (some (.int res.1)) res.2 N) args s 0 0 Γ.2.2.1) (F0 m 7 ls []) := by
  have hx := C.1
  have hb := C.2.1
  unfold fX4_lotAt_7_b at h
  refine lv_iload_n hx hb dX4_lotAt_7 rfl (lv_at hl 3 rfl) ?_
  refine lv_iload_n hx hb dX4_lotAt_8 rfl (lv_at hl 1 rfl) ?_
  refine lv_icmp_ge (tgt := 26) hx hb dX4_lotAt_9 (by decide) (fun hc => ?_) (fun hc => ?_)
  · replace h := it_pos hc h
    refine gx_aload_n (r := (some x0)) hx hb dX4_lotAt_26 rfl (lv_at hl 0 rfl) ?_
    refine lv_iload_n hx hb dX4_lotAt_27 rfl (lv_at hl 2 rfl) ?_
    obtain ⟨_, eo28, h⟩ := ob h
    obtain ⟨r28, u28, e28, h⟩ := obI h
    refine gx_cV C hG hS [.int x2] rfl eo28 (tX4_bestLot e28) qcX4_49 ⟨rfl, rfl, Nat.le_of_ble_eq_true rfl, Nat.le_of_ble_eq_true rfl⟩ ⟨Nat.zero_le _, Nat.zero_le _⟩ rfl hl.1 rfl (Nat.le_of_ble_eq_true rfl) (st1 := [.int r28]) rfl dX4_lotAt_28 (fun H locs hG hS => ?_)
    cases Option.some.inj h
    exact gx_reti C hG hS dX4_lotAt_31
  · replace h := it_neg hc h
    refine lv_iload_n hx hb dX4_lotAt_12 rfl (lv_at hl 2 rfl) ?_
    refine gx_aload_n (r := (some x0)) hx hb dX4_lotAt_13 rfl (lv_at hl 0 rfl) ?_
    refine lv_iload_n hx hb dX4_lotAt_14 rfl (lv_at hl 2 rfl) ?_
    obtain ⟨_, eo15, h⟩ := ob h
    obtain ⟨r15, u15, e15, h⟩ := obI h
    refine gx_cV C hG hS [.int x2] rfl eo15 (tX4_bestLot e15) qcX4_49 ⟨rfl, rfl, Nat.le_of_ble_eq_true rfl, Nat.le_of_ble_eq_true rfl⟩ ⟨Nat.zero_le _, Nat.zero_le _⟩ rfl hl.1 rfl (Nat.le_of_ble_eq_true rfl) (st1 := [.int r15, .int x2]) rfl dX4_lotAt_15 (fun H locs hG hS => ?_)
    refine lv_ixor hx hb dX4_lotAt_18 ?_
    refine lv_istore_n (i := 2) (lv' := [(2, .int (x2 ^^^ r15)), (0, va_rf (some x0)), (1, .int x1), (3, .int x3)]) hx hb dX4_lotAt_19 rfl hl (by decide) rfl (fun ls hl => ?_)
    refine lv_iinc (v := x3 + (1 : Int32)) (lv' := [(3, .int (x3 + (1 : Int32))), (2, .int (x2 ^^^ r15)), (0, va_rf (some x0)), (1, .int x1)]) hx hb dX4_lotAt_20 hl (k := 3) rfl rfl (by decide) rfl (fun ls hl => ?_)
    refine lv_goto (tgt := 7) hx hb dX4_lotAt_23 (by decide) ?_
    exact hk7 _ _ _ _ _ _ _ _ h hG hS (lv_sub hl [2, 3, 1, 0] rfl)
def fX4_lotAt_7 : Nat → Nat → Int32 → Int32 → Int32 → gM → Option (Int32 × gM)
  | 0 => fun _ _ _ _ _ => none
  | n + 1 => fun x0 x1 x2 x3 u => fX4_lotAt_7_b x0 x1 x2 x3 u (fX4_lotAt_7 n) 
theorem wX4_lotAt_7 (C : gC p s m args meth c cX4_lotAt 4 (some .int) RX4 "lotAt" Γ) {res : Int32 × gM} (n : Nat) : ∀ {x0 : Nat} {x1 : Int32} {x2 : Int32} {x3 : Int32} {u : gM} {H : Heap} {locs : List Loc} {ls : Array Slot}, fX4_lotAt_7 n x0 x1 x2 x3 u = some res → gAg Γ u N H → va_S Γ.2.2.1 s.heap H locs → lv_has ls 4 [(0, va_rf (some x0)), (1, .int x1), (2, .int x2), (3, .int x3)] → W p l e rmX4_lotAt s m args below meth c H locs 0 0 (MQ below (gQ Γ (some (.int res.1)) res.2 N) args s 0 0 Γ.2.2.1) (F0 m 7 ls []) := by
  induction n with
  | zero => intro _ _ _ _ _ _ _ _ h _ _ _; cases (show (none : Option (Int32 × gM)) = some res from h)
  | succ n ih => intro _ _ _ _ _ _ _ _ h hG hS hl; exact wX4_lotAt_7_b C (fun _ _ _ _ _ _ _ _ h hG hS hl => ih h hG hS hl) h hG hS hl
def fX4_lotAt (x0 : Nat) (x1 : Int32) (u : gM) : Option (Int32 × gM) :=
  (gI [5] 4 u x0).bind fun v1 =>
  fX4_lotAt_7  FU x0 x1 v1 (0 : Int32) u
set_option maxHeartbeats 4000000 in
set_option maxRecDepth 20000 in
theorem wX4_lotAt  (C : gC p s m args meth c cX4_lotAt 4 (some .int) RX4 "lotAt" Γ){x0 : Nat} {x1 : Int32} {u : gM} {res : Int32 × gM} (h : fX4_lotAt x0 x1 u = some res) {H : Heap} {locs : List Loc} (hG : gAg Γ u N H) (hS : va_S Γ.2.2.1 s.heap H locs) {ls : Array Slot} (hl : lv_has ls 4 [(0, va_rf (some x0)), (1, .int x1)]) : W p l e rmX4_lotAt s m args below meth c H locs 0 0 (MQ below (gQ Γ (some (.int res.1)) res.2 N) args s 0 0 Γ.2.2.1) (F0 m 0 ls []) := by
  have hx := C.1
  have hb := C.2.1
  unfold fX4_lotAt at h
  refine gx_aload_n (r := (some x0)) hx hb dX4_lotAt_0 rfl (lv_at hl 0 rfl) ?_
  obtain ⟨v1, e1, h⟩ := ob h
  refine gx_getI C hG rfl e1 fgX4_25 dX4_lotAt_1 ?_
  refine lv_istore_n (i := 2) (lv' := [(2, .int v1), (0, va_rf (some x0)), (1, .int x1)]) hx hb dX4_lotAt_4 rfl hl (by decide) rfl (fun ls hl => ?_)
  refine lv_iconst (v := 0) hx hb dX4_lotAt_5 (by decide) ?_
  refine lv_istore_n (i := 3) (lv' := [(3, .int (0 : Int32)), (2, .int v1), (0, va_rf (some x0)), (1, .int x1)]) hx hb dX4_lotAt_6 rfl hl (by decide) rfl (fun ls hl => ?_)
  exact wX4_lotAt_7 C  FU h hG hS (lv_sub hl [2, 3, 1, 0] rfl)
theorem tX4_lotAt {Γ : gEnv} {N : Nat} {x0 : Nat} {x1 : Int32} {u v : gM} {r : Int32} (h : fX4_lotAt x0 x1 u = some (r, v)) : Met l yX4_lotAt (Cond.code yX4_lotAt cX4_lotAt 4 (some .int) :: gW) rmX4_lotAt (va_Pc [va_rf (some x0), .int x1] (gPre Γ u N)) (gQ Γ (some (.int r)) v N) 0 0 Γ.2.2.1 :=
  gx_met (nm := "lotAt") ⟨by decide +kernel, rfl, rfl⟩ (Nat.le_of_ble_eq_true rfl) (fun p e s m below meth c ls C hG hl => wX4_lotAt C h hG va_S.rf hl)
end
