section
variable {p : Program} {l : Launch} {e : Env} {s : State} {m : MethodId} {args : Array Value} {below : List Frame} {meth : Method} {c : Code} {Γ : gEnv} {N sB : Nat}
abbrev rmX8_stateBy : Room := { frames := 0, cells := 0, slots := 0, locals := 0 }
def fX8_stateBy_5_b (x1 : Int32) (x2 : Option Nat) (u : gM) (k5 : Int32 → Option Nat → gM → Option (Int32 × gM)) : Option (Int32 × gM) :=
  if x2 = none then (
    some ((-1 : Int32), u)
  ) else (
    (x2).bind fun a10 =>
    (gI [2] 0 u a10).bind fun v10 =>
    if x1 < v10 then (
      (x2).bind fun a23 =>
      (gR [2] 1 u a23).bind fun v23 =>
      k5 x1 v23 u
    ) else (
      (x2).bind fun a18 =>
      (gI [2] 2 u a18).bind fun v18 =>
      some (v18, u)
    )
  )
set_option maxHeartbeats 4000000 in
set_option maxRecDepth 20000 in
theorem wX8_stateBy_5_b  (C : gC p s m args meth c cX8_stateBy 3 (some .int) RX8 "stateBy" Γ){x1 : Int32} {x2 : Option Nat} {u : gM} {res : Int32 × gM} {k5 : Int32 → Option Nat → gM → Option (Int32 × gM)} (hk5 : ∀ (x1 : Int32) (x2 : Option Nat) (u : gM) (H : Heap) (locs : List Loc) (ls : Array Slot), k5 x1 x2 u = some res → gAg Γ u N H → va_S Γ.2.2.1 s.heap H locs → lv_has ls 3 [(1, .int x1), (2, va_rf x2)] → W p l e rmX8_stateBy s m args below meth c H locs 0 0 (MQ below (gQ Γ (some (.int res.1)) res.2 N) args s 0 0 Γ.2.2.1) (F0 m 5 ls [])) (h : fX8_stateBy_5_b x1 x2 u k5 = some res) {H : Heap} {locs : List Loc} (hG : gAg Γ u N H) (hS : va_S Γ.2.2.1 s.heap H locs) {ls : Array Slot} (hl : lv_has ls 3 [(1, .int x1), (2, va_rf x2)]) : W p l e rmX8_stateBy s m args below meth c H locs 0 0 (MQ below (gQ Γ (some (.int res.1)) res.2 N) args s 0 0 Γ.2.2.1) (F0 m 5 ls []) := by
  have hx := C.1
  have hb := C.2.1
  unfold fX8_stateBy_5_b at h
  refine gx_aload_n (r := x2) hx hb dX8_stateBy_5 rfl (lv_at hl 1 rfl) ?_
  refine gx_ifnull (tgt := 30) hx hb dX8_stateBy_6 (by decide) (fun hc => ?_) (fun hc => ?_)
  · replace h := it_pos hc h
    refine lv_iconst (v := -1) hx hb dX8_stateBy_30 (by decide) ?_
    cases Option.some.inj h
    exact gx_reti C hG hS dX8_stateBy_31
  · replace h := it_neg hc h
    refine gx_aload_n (r := x2) hx hb dX8_stateBy_9 rfl (lv_at hl 1 rfl) ?_
    obtain ⟨a10, na10, h⟩ := ob h
    obtain ⟨v10, e10, h⟩ := ob h
    refine gx_getI C hG na10 e10 fgX8_51 dX8_stateBy_10 ?_
    refine lv_iload_n hx hb dX8_stateBy_13 rfl (lv_at hl 0 rfl) ?_
    refine lv_icmp_gt (tgt := 22) hx hb dX8_stateBy_14 (by decide) (fun hc => ?_) (fun hc => ?_)
    · replace h := it_pos hc h
      refine gx_aload_n (r := x2) hx hb dX8_stateBy_22 rfl (lv_at hl 1 rfl) ?_
      obtain ⟨a23, na23, h⟩ := ob h
      obtain ⟨v23, e23, h⟩ := ob h
      refine gx_getR C hG na23 e23 fgX8_60 dX8_stateBy_23 ?_
      refine gx_astore_n (r := v23) (i := 2) (lv' := [(2, va_rf v23), (1, .int x1)]) hx hb dX8_stateBy_26 rfl hl (by decide) rfl (fun ls hl => ?_)
      refine lv_goto (tgt := 5) hx hb dX8_stateBy_27 (by decide) ?_
      exact hk5 _ _ _ _ _ _ h hG hS (lv_sub hl [1, 0] rfl)
    · replace h := it_neg hc h
      refine gx_aload_n (r := x2) hx hb dX8_stateBy_17 rfl (lv_at hl 1 rfl) ?_
      obtain ⟨a18, na18, h⟩ := ob h
      obtain ⟨v18, e18, h⟩ := ob h
      refine gx_getI C hG na18 e18 fgX8_56 dX8_stateBy_18 ?_
      cases Option.some.inj h
      exact gx_reti C hG hS dX8_stateBy_21
def fX8_stateBy_5 : Nat → Int32 → Option Nat → gM → Option (Int32 × gM)
  | 0 => fun _ _ _ => none
  | n + 1 => fun x1 x2 u => fX8_stateBy_5_b x1 x2 u (fX8_stateBy_5 n) 
theorem wX8_stateBy_5 (C : gC p s m args meth c cX8_stateBy 3 (some .int) RX8 "stateBy" Γ) {res : Int32 × gM} (n : Nat) : ∀ {x1 : Int32} {x2 : Option Nat} {u : gM} {H : Heap} {locs : List Loc} {ls : Array Slot}, fX8_stateBy_5 n x1 x2 u = some res → gAg Γ u N H → va_S Γ.2.2.1 s.heap H locs → lv_has ls 3 [(1, .int x1), (2, va_rf x2)] → W p l e rmX8_stateBy s m args below meth c H locs 0 0 (MQ below (gQ Γ (some (.int res.1)) res.2 N) args s 0 0 Γ.2.2.1) (F0 m 5 ls []) := by
  induction n with
  | zero => intro _ _ _ _ _ _ h _ _ _; cases (show (none : Option (Int32 × gM)) = some res from h)
  | succ n ih => intro _ _ _ _ _ _ h hG hS hl; exact wX8_stateBy_5_b C (fun _ _ _ _ _ _ h hG hS hl => ih h hG hS hl) h hG hS hl
def fX8_stateBy (x0 : Nat) (x1 : Int32) (u : gM) : Option (Int32 × gM) :=
  (gR [9, 6] 11 u x0).bind fun v1 =>
  fX8_stateBy_5  FU x1 v1 u
set_option maxHeartbeats 4000000 in
set_option maxRecDepth 20000 in
theorem wX8_stateBy  (C : gC p s m args meth c cX8_stateBy 3 (some .int) RX8 "stateBy" Γ){x0 : Nat} {x1 : Int32} {u : gM} {res : Int32 × gM} (h : fX8_stateBy x0 x1 u = some res) {H : Heap} {locs : List Loc} (hG : gAg Γ u N H) (hS : va_S Γ.2.2.1 s.heap H locs) {ls : Array Slot} (hl : lv_has ls 3 [(0, va_rf (some x0)), (1, .int x1)]) : W p l e rmX8_stateBy s m args below meth c H locs 0 0 (MQ below (gQ Γ (some (.int res.1)) res.2 N) args s 0 0 Γ.2.2.1) (F0 m 0 ls []) := by
  have hx := C.1
  have hb := C.2.1
  unfold fX8_stateBy at h
  refine gx_aload_n (r := (some x0)) hx hb dX8_stateBy_0 rfl (lv_at hl 0 rfl) ?_
  obtain ⟨v1, e1, h⟩ := ob h
  refine gx_getR C hG rfl e1 fgX8_32 dX8_stateBy_1 ?_
  refine gx_astore_n (r := v1) (i := 2) (lv' := [(2, va_rf v1), (0, va_rf (some x0)), (1, .int x1)]) hx hb dX8_stateBy_4 rfl hl (by decide) rfl (fun ls hl => ?_)
  exact wX8_stateBy_5 C  FU h hG hS (lv_sub hl [2, 0] rfl)
theorem tX8_stateBy {Γ : gEnv} {N : Nat} {x0 : Nat} {x1 : Int32} {u v : gM} {r : Int32} (h : fX8_stateBy x0 x1 u = some (r, v)) : Met l yX8_stateBy (Cond.code yX8_stateBy cX8_stateBy 3 (some .int) :: gW) rmX8_stateBy (va_Pc [va_rf (some x0), .int x1] (gPre Γ u N)) (gQ Γ (some (.int r)) v N) 0 0 Γ.2.2.1 :=
  gx_met (nm := "stateBy") ⟨by decide +kernel, rfl, rfl⟩ (Nat.le_of_ble_eq_true rfl) (fun p e s m below meth c ls C hG hl => wX8_stateBy C h hG va_S.rf hl)
abbrev rmJxa1e45_init_da8c8 : Room := { frames := 1, cells := 0, slots := 0, locals := 12 }
def fJxa1e45_init_da8c8 (x0 : Nat) (u : gM) : Option (gM) :=
  some u
set_option maxHeartbeats 4000000 in
set_option maxRecDepth 20000 in
theorem wJxa1e45_init_da8c8  (C : gC p s m args meth c cJxa1e45_init_da8c8 1 none RJxa1e45 "<init>" Γ){x0 : Nat} {u : gM} {res : gM} (h : fJxa1e45_init_da8c8 x0 u = some res) {H : Heap} {locs : List Loc} (hG : gAg Γ u N H) (hS : va_S Γ.2.2.1 s.heap H locs) {ls : Array Slot} (hl : lv_has ls 1 [(0, va_rf (some x0))]) : W p l e rmJxa1e45_init_da8c8 s m args below meth c H locs 0 0 (MQ below (gQ Γ none res N) args s 0 0 Γ.2.2.1) (F0 m 0 ls []) := by
  have hx := C.1
  have hb := C.2.1
  unfold fJxa1e45_init_da8c8 at h
  refine gx_aload_n (r := (some x0)) hx hb dJxa1e45_init_da8c8_0 rfl (lv_at hl 0 rfl) ?_
  refine gx_obj C rfl qcJxa1e45_1 hl.1 ⟨Nat.le_of_ble_eq_true rfl, Nat.le_of_ble_eq_true rfl⟩ dJxa1e45_init_da8c8_1 ?_
  cases Option.some.inj h
  exact gx_retv C hG hS dJxa1e45_init_da8c8_4
theorem tJxa1e45_init_da8c8 {Γ : gEnv} {N : Nat} {x0 : Nat} {u v : gM} (h : fJxa1e45_init_da8c8 x0 u = some v) : Met l yJxa1e45_init_da8c8 (Cond.code yJxa1e45_init_da8c8 cJxa1e45_init_da8c8 1 none :: gW) rmJxa1e45_init_da8c8 (va_Pc [va_rf (some x0)] (gPre Γ u N)) (gQ Γ none v N) 0 0 Γ.2.2.1 :=
  gx_met (nm := "<init>") ⟨by decide +kernel, rfl, rfl⟩ (Nat.le_of_ble_eq_true rfl) (fun p e s m below meth c ls C hG hl => wJxa1e45_init_da8c8 C h hG va_S.rf hl)
abbrev rmJxc12de_init_da8c8 : Room := { frames := 2, cells := 0, slots := 0, locals := 32 }
def fJxc12de_init_da8c8 (x0 : Nat) (u : gM) : Option (gM) :=
  (fJxa1e45_init_da8c8 x0 u).bind fun u1 =>
  (pV [0] 0 (.int (0 : Int32)) u1 x0).bind fun u6 =>
  some u6
set_option maxHeartbeats 4000000 in
set_option maxRecDepth 20000 in
theorem wJxc12de_init_da8c8  (C : gC p s m args meth c cJxc12de_init_da8c8 1 none RJxc12de "<init>" Γ){x0 : Nat} {u : gM} {res : gM} (h : fJxc12de_init_da8c8 x0 u = some res) {H : Heap} {locs : List Loc} (hG : gAg Γ u N H) (hS : va_S Γ.2.2.1 s.heap H locs) {ls : Array Slot} (hl : lv_has ls 1 [(0, va_rf (some x0))]) : W p l e rmJxc12de_init_da8c8 s m args below meth c H locs 0 0 (MQ below (gQ Γ none res N) args s 0 0 Γ.2.2.1) (F0 m 0 ls []) := by
  have hx := C.1
  have hb := C.2.1
  unfold fJxc12de_init_da8c8 at h
  refine gx_aload_n (r := (some x0)) hx hb dJxc12de_init_da8c8_0 rfl (lv_at hl 0 rfl) ?_
  obtain ⟨u1, e1, h⟩ := ob h
  refine gx_cI C hG hS [] rfl (tJxa1e45_init_da8c8 e1) qcJxc12de_1 ⟨rfl, rfl, Nat.le_of_ble_eq_true rfl, Nat.le_of_ble_eq_true rfl⟩ ⟨Nat.zero_le _, Nat.zero_le _⟩ rfl hl.1 rfl (Nat.le_of_ble_eq_true rfl) dJxc12de_init_da8c8_1 (fun H locs hG hS => ?_)
  refine gx_aload_n (r := (some x0)) hx hb dJxc12de_init_da8c8_4 rfl (lv_at hl 0 rfl) ?_
  refine lv_iconst (v := 0) hx hb dJxc12de_init_da8c8_5 (by decide) ?_
  obtain ⟨u6, e6, h⟩ := ob h
  refine gx_put C hG hS rfl e6 fgJxc12de_7 fpJxc12de_7 (fun q => by cases q) rfl rfl dJxc12de_init_da8c8_6 (fun H locs hG hS => ?_)
  cases Option.some.inj h
  exact gx_retv C hG hS dJxc12de_init_da8c8_9
theorem tJxc12de_init_da8c8 {Γ : gEnv} {N : Nat} {x0 : Nat} {u v : gM} (h : fJxc12de_init_da8c8 x0 u = some v) : Met l yJxc12de_init_da8c8 (Cond.code yJxc12de_init_da8c8 cJxc12de_init_da8c8 1 none :: gW) rmJxc12de_init_da8c8 (va_Pc [va_rf (some x0)] (gPre Γ u N)) (gQ Γ none v N) 0 0 Γ.2.2.1 :=
  gx_met (nm := "<init>") ⟨by decide +kernel, rfl, rfl⟩ (Nat.le_of_ble_eq_true rfl) (fun p e s m below meth c ls C hG hl => wJxc12de_init_da8c8 C h hG va_S.rf hl)
abbrev rmJx4a65c_init_da8c8 : Room := { frames := 3, cells := 0, slots := 0, locals := 52 }
def fJx4a65c_init_da8c8 (z : Nat → Nat) (x0 : Nat) (u : gM) : Option (gM) :=
  (fJxc12de_init_da8c8 x0 u).bind fun u1 =>
  (pV [0] 1 (va_rf (some (z 0))) u1 x0).bind fun u8 =>
  some u8
set_option maxHeartbeats 4000000 in
set_option maxRecDepth 20000 in
theorem wJx4a65c_init_da8c8 {z : Nat → Nat}  (C : gC p s m args meth c cJx4a65c_init_da8c8 1 none RJx4a65c "<init>" Γ)(hz : Γ.2.2.2 = z) {x0 : Nat} {u : gM} {res : gM} (h : fJx4a65c_init_da8c8 z x0 u = some res) {H : Heap} {locs : List Loc} (hG : gAg Γ u N H) (hS : va_S Γ.2.2.1 s.heap H locs) {ls : Array Slot} (hl : lv_has ls 1 [(0, va_rf (some x0))]) : W p l e rmJx4a65c_init_da8c8 s m args below meth c H locs 0 0 (MQ below (gQ Γ none res N) args s 0 0 Γ.2.2.1) (F0 m 0 ls []) := by
  have hx := C.1
  have hb := C.2.1
  unfold fJx4a65c_init_da8c8 at h
  refine gx_aload_n (r := (some x0)) hx hb dJx4a65c_init_da8c8_0 rfl (lv_at hl 0 rfl) ?_
  obtain ⟨u1, e1, h⟩ := ob h
  refine gx_cI C hG hS [] rfl (tJxc12de_init_da8c8 e1) qcJx4a65c_1 ⟨rfl, rfl, Nat.le_of_ble_eq_true rfl, Nat.le_of_ble_eq_true rfl⟩ ⟨Nat.zero_le _, Nat.zero_le _⟩ rfl hl.1 rfl (Nat.le_of_ble_eq_true rfl) dJx4a65c_init_da8c8_1 (fun H locs hG hS => ?_)
  refine gx_aload_n (r := (some x0)) hx hb dJx4a65c_init_da8c8_4 rfl (lv_at hl 0 rfl) ?_
  refine gz_gets C hz hS ksJx4a65c_39 dJx4a65c_init_da8c8_5 ?_
  obtain ⟨u8, e8, h⟩ := ob h
  refine gx_put C hG hS rfl e8 fgJx4a65c_9 fpJx4a65c_9 (fun q => by cases q) (gx_rfn _ _ (Or.inr ⟨_, rfl⟩)).1 (gx_rfn _ _ (Or.inr ⟨_, rfl⟩)).2 dJx4a65c_init_da8c8_8 (fun H locs hG hS => ?_)
  cases Option.some.inj h
  exact gx_retv C hG hS dJx4a65c_init_da8c8_11
theorem tJx4a65c_init_da8c8 {Γ : gEnv} {N : Nat} {z : Nat → Nat} (hz : Γ.2.2.2 = z) {x0 : Nat} {u v : gM} (h : fJx4a65c_init_da8c8 z x0 u = some v) : Met l yJx4a65c_init_da8c8 (Cond.code yJx4a65c_init_da8c8 cJx4a65c_init_da8c8 1 none :: gW) rmJx4a65c_init_da8c8 (va_Pc [va_rf (some x0)] (gPre Γ u N)) (gQ Γ none v N) 0 0 Γ.2.2.1 :=
  gx_met (nm := "<init>") ⟨by decide +kernel, rfl, rfl⟩ (Nat.le_of_ble_eq_true rfl) (fun p e s m below meth c ls C hG hl => wJx4a65c_init_da8c8 C hz h hG va_S.rf hl)
abbrev rmX9_init (a b : Nat) : Room := { frames := 4, cells := a, slots := b, locals := 72 }
def fX9_init_119 (z : Nat → Nat) (x0 : Nat) (s1 : Option Nat) (u : gN) : Option (gN) :=
  (wN (pV [10] 11 (va_rf s1) u.1 x0) u).bind fun u119 =>
  (wN (pV [10] 12 (.int (0 : Int32)) u119.1 x0) u119).bind fun u124 =>
  (wN (pV [10] 13 (.int (0 : Int32)) u124.1 x0) u124).bind fun u129 =>
  (wN (pV [10] 14 (.int (3 : Int32)) u129.1 x0) u129).bind fun u134 =>
  (wN (pV [10] 15 (.int (0 : Int32)) u134.1 x0) u134).bind fun u139 =>
  (gR [10] 3 u139.1 x0).bind fun v143 =>
  (wN (fJ7_fill_53178 v143 (4 : Int32) u139.1) u139).bind fun u147 =>
  (gR [10] 4 u147.1 x0).bind fun v151 =>
  (wN (fJ7_fill_53178 v151 (12 : Int32) u147.1) u147).bind fun u156 =>
  some u156
set_option maxRecDepth 20000 in
theorem moX9_init_119 {z : Nat → Nat} {x0 : Nat} {s1 : Option Nat} {u : gN} {res : gN} (h : fX9_init_119 z x0 s1 u = some res) : gLe u res := by
  unfold fX9_init_119 at h
  obtain ⟨u119, e119, h⟩ := ob h
  refine gLe.tr (wN_le e119) ?_
  obtain ⟨u124, e124, h⟩ := ob h
  refine gLe.tr (wN_le e124) ?_
  obtain ⟨u129, e129, h⟩ := ob h
  refine gLe.tr (wN_le e129) ?_
  obtain ⟨u134, e134, h⟩ := ob h
  refine gLe.tr (wN_le e134) ?_
  obtain ⟨u139, e139, h⟩ := ob h
  refine gLe.tr (wN_le e139) ?_
  obtain ⟨v143, e143, h⟩ := ob h
  obtain ⟨u147, e147, h⟩ := ob h
  refine gLe.tr (wN_le e147) ?_
  obtain ⟨v151, e151, h⟩ := ob h
  obtain ⟨u156, e156, h⟩ := ob h
  refine gLe.tr (wN_le e156) ?_
  cases Option.some.inj h
  exact gLe.rf _
set_option maxHeartbeats 4000000 in
set_option maxRecDepth 20000 in
theorem wX9_init_119 {z : Nat → Nat}  (C : gC p s m args meth c cX9_init 1 none RX9 "<init>" Γ)(hz : Γ.2.2.2 = z) {x0 : Nat} {s1 : Option Nat} {u : gN} {res : gN} (h : fX9_init_119 z x0 s1 u = some res) {H : Heap} {locs : List Loc} (hG : gAn Γ sB u H) (hS : va_S Γ.2.2.1 s.heap H locs) {ls : Array Slot} (hl : lv_has ls 1 [(0, va_rf (some x0))]) : W p l e (rmX9_init (res.2.1 - s.heap.size) (res.2.2 - sB)) s m args below meth c H locs (u.2.1 - s.heap.size) (u.2.2 - sB) (MQ below (gQ Γ none res.1 res.2.1) args s (res.2.1 - s.heap.size) (res.2.2 - sB) Γ.2.2.1) (F0 m 119 ls [va_rf s1, va_rf (some x0)]) := by
  have hx := C.1
  have hb := C.2.1
  have hm := moX9_init_119 h
  unfold fX9_init_119 at h
  obtain ⟨u119, e119, h⟩ := ob h
  obtain ⟨g119, eg119, ev119⟩ := wN_inv e119
  replace hm : gLe u119 res := by rw [ev119]; exact hm
  refine gx_put C hG.1 hS rfl eg119 fgX9_62 fpX9_62 (fun _ => rfl) (gx_rfn _ _ (Or.inl ⟨_, rfl⟩)).1 (gx_rfn _ _ (Or.inl ⟨_, rfl⟩)).2 dX9_init_119 (fun H locs hg hS => gy_w hG ev119 hg (fun hG => ?_))
  refine gx_aload_n (r := (some x0)) hx hb dX9_init_122 rfl (lv_at hl 0 rfl) ?_
  refine lv_iconst (v := 0) hx hb dX9_init_123 (by decide) ?_
  obtain ⟨u124, e124, h⟩ := ob h
  obtain ⟨g124, eg124, ev124⟩ := wN_inv e124
  replace hm : gLe u124 res := by rw [ev124]; exact hm
  refine gx_put C hG.1 hS rfl eg124 fgX9_66 fpX9_66 (fun q => by cases q) rfl rfl dX9_init_124 (fun H locs hg hS => gy_w hG ev124 hg (fun hG => ?_))
  refine gx_aload_n (r := (some x0)) hx hb dX9_init_127 rfl (lv_at hl 0 rfl) ?_
  refine lv_iconst (v := 0) hx hb dX9_init_128 (by decide) ?_
  obtain ⟨u129, e129, h⟩ := ob h
  obtain ⟨g129, eg129, ev129⟩ := wN_inv e129
  replace hm : gLe u129 res := by rw [ev129]; exact hm
  refine gx_put C hG.1 hS rfl eg129 fgX9_70 fpX9_70 (fun q => by cases q) rfl rfl dX9_init_129 (fun H locs hg hS => gy_w hG ev129 hg (fun hG => ?_))
  refine gx_aload_n (r := (some x0)) hx hb dX9_init_132 rfl (lv_at hl 0 rfl) ?_
  refine lv_iconst (v := 3) hx hb dX9_init_133 (by decide) ?_
  obtain ⟨u134, e134, h⟩ := ob h
  obtain ⟨g134, eg134, ev134⟩ := wN_inv e134
  replace hm : gLe u134 res := by rw [ev134]; exact hm
  refine gx_put C hG.1 hS rfl eg134 fgX9_73 fpX9_73 (fun q => by cases q) rfl rfl dX9_init_134 (fun H locs hg hS => gy_w hG ev134 hg (fun hG => ?_))
  refine gx_aload_n (r := (some x0)) hx hb dX9_init_137 rfl (lv_at hl 0 rfl) ?_
  refine lv_iconst (v := 0) hx hb dX9_init_138 (by decide) ?_
  obtain ⟨u139, e139, h⟩ := ob h
  obtain ⟨g139, eg139, ev139⟩ := wN_inv e139
  replace hm : gLe u139 res := by rw [ev139]; exact hm
  refine gx_put C hG.1 hS rfl eg139 fgX9_76 fpX9_76 (fun q => by cases q) rfl rfl dX9_init_139 (fun H locs hg hS => gy_w hG ev139 hg (fun hG => ?_))
  refine gx_aload_n (r := (some x0)) hx hb dX9_init_142 rfl (lv_at hl 0 rfl) ?_
  obtain ⟨v143, e143, h⟩ := ob h
  refine gx_getR C hG.1 rfl e143 fgX9_22 dX9_init_143 ?_
  refine lv_iconst (v := 4) hx hb dX9_init_146 (by decide) ?_
  obtain ⟨u147, e147, h⟩ := ob h
  obtain ⟨g147, eg147, ev147⟩ := wN_inv e147
  refine gx_cS C hG.1 hS [va_rf v143, .int (4 : Int32)] (tJ7_fill_53178 eg147) qcX9_79 ⟨rfl, rfl, Nat.le_of_ble_eq_true rfl, Nat.le_of_ble_eq_true rfl⟩ ⟨Nat.sub_le_sub_right hm.1 _, Nat.sub_le_sub_right hm.2 _⟩ rfl hl.1 rfl (Nat.le_of_ble_eq_true rfl) (st1 := []) rfl dX9_init_147 (fun H locs hg hS2 => gy_w (H0 := _) hG ev147 hg (fun hG => ?_))
  replace hS := hS2
  replace hm : gLe u147 res := by rw [ev147]; exact hm
  refine gx_aload_n (r := (some x0)) hx hb dX9_init_150 rfl (lv_at hl 0 rfl) ?_
  obtain ⟨v151, e151, h⟩ := ob h
  refine gx_getR C hG.1 rfl e151 fgX9_26 dX9_init_151 ?_
  refine lv_bipush (v := 12) hx hb dX9_init_154 (by decide) ?_
  obtain ⟨u156, e156, h⟩ := ob h
  obtain ⟨g156, eg156, ev156⟩ := wN_inv e156
  refine gx_cS C hG.1 hS [va_rf v151, .int (12 : Int32)] (tJ7_fill_53178 eg156) qcX9_79 ⟨rfl, rfl, Nat.le_of_ble_eq_true rfl, Nat.le_of_ble_eq_true rfl⟩ ⟨Nat.sub_le_sub_right hm.1 _, Nat.sub_le_sub_right hm.2 _⟩ rfl hl.1 rfl (Nat.le_of_ble_eq_true rfl) (st1 := []) rfl dX9_init_156 (fun H locs hg hS2 => gy_w (H0 := _) hG ev156 hg (fun hG => ?_))
  replace hS := hS2
  replace hm : gLe u156 res := by rw [ev156]; exact hm
  cases Option.some.inj h
  exact gx_retv C hG.1 hS dX9_init_159
def fX9_init_115 (z : Nat → Nat) (x0 : Nat) (s1 : Option Nat) (u : gN) : Option (gN) :=
  (s1).bind fun a116 =>
  (fX6_init a116 u).bind fun u116 =>
  fX9_init_119 z x0 s1 u116 
set_option maxRecDepth 20000 in
theorem moX9_init_115 {z : Nat → Nat} {x0 : Nat} {s1 : Option Nat} {u : gN} {res : gN} (h : fX9_init_115 z x0 s1 u = some res) : gLe u res := by
  unfold fX9_init_115 at h
  obtain ⟨a116, na116, h⟩ := ob h
  obtain ⟨u116, e116, h⟩ := ob h
  refine gLe.tr (moX6_init e116) ?_
  exact moX9_init_119  h
set_option maxHeartbeats 4000000 in
set_option maxRecDepth 20000 in
theorem wX9_init_115 {z : Nat → Nat}  (C : gC p s m args meth c cX9_init 1 none RX9 "<init>" Γ)(hz : Γ.2.2.2 = z) {x0 : Nat} {s1 : Option Nat} {u : gN} {res : gN} (h : fX9_init_115 z x0 s1 u = some res) {H : Heap} {locs : List Loc} (hG : gAn Γ sB u H) (hS : va_S Γ.2.2.1 s.heap H locs) {ls : Array Slot} (hl : lv_has ls 1 [(0, va_rf (some x0))]) : W p l e (rmX9_init (res.2.1 - s.heap.size) (res.2.2 - sB)) s m args below meth c H locs (u.2.1 - s.heap.size) (u.2.2 - sB) (MQ below (gQ Γ none res.1 res.2.1) args s (res.2.1 - s.heap.size) (res.2.2 - sB) Γ.2.2.1) (F0 m 115 ls [va_rf s1, va_rf (some x0)]) := by
  have hx := C.1
  have hb := C.2.1
  have hm := moX9_init_115 h
  unfold fX9_init_115 at h
  refine lv_dup hx hb dX9_init_115 (by first | rfl | exact gx_cat _) ?_
  obtain ⟨a116, na116, h⟩ := ob h
  obtain ⟨u116, e116, h⟩ := ob h
  have hle := moX6_init e116
  have hm2 : gLe u116 res := by
    exact moX9_init_119  h
  refine gx_cIN C hG.1 hS [] na116 (tX6_init e116) qcX9_61 ⟨rfl, rfl, Nat.le_of_ble_eq_true rfl, Nat.le_of_ble_eq_true rfl⟩ (gy_room hG hS hle ⟨Nat.sub_le_sub_right hm2.1 _, Nat.sub_le_sub_right hm2.2 _⟩) rfl hl.1 rfl (by simp [gx_cat, gx_catI, gx_catJ]) dX9_init_116 (fun H locs hg hS2 => gy_ret hG hS hle hg (fun hG => ?_))
  replace hS := hS2
  exact wX9_init_119 C hz  h hG hS (lv_sub hl [0] rfl)
def fX9_init_108 (z : Nat → Nat) (x0 : Nat) (s1 : Option Nat) (u : gN) : Option (gN) :=
  (wN (pV [10] 10 (va_rf s1) u.1 x0) u).bind fun u108 =>
  bI (nwO 7 [.null, .null, .int 0, .int 0] u108) fun q112 u112 =>
  fX9_init_115 z x0 (some q112) u112 
set_option maxRecDepth 20000 in
theorem moX9_init_108 {z : Nat → Nat} {x0 : Nat} {s1 : Option Nat} {u : gN} {res : gN} (h : fX9_init_108 z x0 s1 u = some res) : gLe u res := by
  unfold fX9_init_108 at h
  obtain ⟨u108, e108, h⟩ := ob h
  refine gLe.tr (wN_le e108) ?_
  obtain ⟨q112, u112, e112, h⟩ := obI h
  refine gLe.tr (nwO_le e112) ?_
  exact moX9_init_115  h
set_option maxHeartbeats 4000000 in
set_option maxRecDepth 20000 in
theorem wX9_init_108 {z : Nat → Nat}  (C : gC p s m args meth c cX9_init 1 none RX9 "<init>" Γ)(hz : Γ.2.2.2 = z) {x0 : Nat} {s1 : Option Nat} {u : gN} {res : gN} (h : fX9_init_108 z x0 s1 u = some res) {H : Heap} {locs : List Loc} (hG : gAn Γ sB u H) (hS : va_S Γ.2.2.1 s.heap H locs) {ls : Array Slot} (hl : lv_has ls 1 [(0, va_rf (some x0))]) : W p l e (rmX9_init (res.2.1 - s.heap.size) (res.2.2 - sB)) s m args below meth c H locs (u.2.1 - s.heap.size) (u.2.2 - sB) (MQ below (gQ Γ none res.1 res.2.1) args s (res.2.1 - s.heap.size) (res.2.2 - sB) Γ.2.2.1) (F0 m 108 ls [va_rf s1, va_rf (some x0)]) := by
  have hx := C.1
  have hb := C.2.1
  have hm := moX9_init_108 h
  unfold fX9_init_108 at h
  obtain ⟨u108, e108, h⟩ := ob h
  obtain ⟨g108, eg108, ev108⟩ := wN_inv e108
  replace hm : gLe u108 res := by rw [ev108]; exact hm
  refine gx_put C hG.1 hS rfl eg108 fgX9_55 fpX9_55 (fun _ => rfl) (gx_rfn _ _ (Or.inl ⟨_, rfl⟩)).1 (gx_rfn _ _ (Or.inl ⟨_, rfl⟩)).2 dX9_init_108 (fun H locs hg hS => gy_w hG ev108 hg (fun hG => ?_))
  refine gx_aload_n (r := (some x0)) hx hb dX9_init_111 rfl (lv_at hl 0 rfl) ?_
  obtain ⟨q112, u112, e112, h⟩ := obI h
  have hm2 : gLe u112 res := by
    exact moX9_init_115  h
  refine gy_new C hG hS e112 kwX9_59 ⟨Nat.sub_le_sub_right hm2.1 _, Nat.sub_le_sub_right hm2.2 _⟩ dX9_init_112 (fun H hG hS => ?_)
  exact wX9_init_115 C hz  h hG hS (lv_sub hl [0] rfl)
def fX9_init_104 (z : Nat → Nat) (x0 : Nat) (s1 : Option Nat) (u : gN) : Option (gN) :=
  (s1).bind fun a105 =>
  (fX2_init a105 u).bind fun u105 =>
  fX9_init_108 z x0 s1 u105 
set_option maxRecDepth 20000 in
theorem moX9_init_104 {z : Nat → Nat} {x0 : Nat} {s1 : Option Nat} {u : gN} {res : gN} (h : fX9_init_104 z x0 s1 u = some res) : gLe u res := by
  unfold fX9_init_104 at h
  obtain ⟨a105, na105, h⟩ := ob h
  obtain ⟨u105, e105, h⟩ := ob h
  refine gLe.tr (moX2_init e105) ?_
  exact moX9_init_108  h
set_option maxHeartbeats 4000000 in
set_option maxRecDepth 20000 in
theorem wX9_init_104 {z : Nat → Nat}  (C : gC p s m args meth c cX9_init 1 none RX9 "<init>" Γ)(hz : Γ.2.2.2 = z) {x0 : Nat} {s1 : Option Nat} {u : gN} {res : gN} (h : fX9_init_104 z x0 s1 u = some res) {H : Heap} {locs : List Loc} (hG : gAn Γ sB u H) (hS : va_S Γ.2.2.1 s.heap H locs) {ls : Array Slot} (hl : lv_has ls 1 [(0, va_rf (some x0))]) : W p l e (rmX9_init (res.2.1 - s.heap.size) (res.2.2 - sB)) s m args below meth c H locs (u.2.1 - s.heap.size) (u.2.2 - sB) (MQ below (gQ Γ none res.1 res.2.1) args s (res.2.1 - s.heap.size) (res.2.2 - sB) Γ.2.2.1) (F0 m 104 ls [va_rf s1, va_rf (some x0)]) := by
  have hx := C.1
  have hb := C.2.1
  have hm := moX9_init_104 h
  unfold fX9_init_104 at h
  refine lv_dup hx hb dX9_init_104 (by first | rfl | exact gx_cat _) ?_
  obtain ⟨a105, na105, h⟩ := ob h
  obtain ⟨u105, e105, h⟩ := ob h
  have hle := moX2_init e105
  have hm2 : gLe u105 res := by
    exact moX9_init_108  h
  refine gx_cIN C hG.1 hS [] na105 (tX2_init e105) qcX9_54 ⟨rfl, rfl, Nat.le_of_ble_eq_true rfl, Nat.le_of_ble_eq_true rfl⟩ (gy_room hG hS hle ⟨Nat.sub_le_sub_right hm2.1 _, Nat.sub_le_sub_right hm2.2 _⟩) rfl hl.1 rfl (by simp [gx_cat, gx_catI, gx_catJ]) dX9_init_105 (fun H locs hg hS2 => gy_ret hG hS hle hg (fun hG => ?_))
  replace hS := hS2
  exact wX9_init_108 C hz  h hG hS (lv_sub hl [0] rfl)
def fX9_init_97 (z : Nat → Nat) (x0 : Nat) (s1 : Option Nat) (u : gN) : Option (gN) :=
  (wN (pV [10] 9 (va_rf s1) u.1 x0) u).bind fun u97 =>
  bI (nwO 3 [.null] u97) fun q101 u101 =>
  fX9_init_104 z x0 (some q101) u101 
set_option maxRecDepth 20000 in
theorem moX9_init_97 {z : Nat → Nat} {x0 : Nat} {s1 : Option Nat} {u : gN} {res : gN} (h : fX9_init_97 z x0 s1 u = some res) : gLe u res := by
  unfold fX9_init_97 at h
  obtain ⟨u97, e97, h⟩ := ob h
  refine gLe.tr (wN_le e97) ?_
  obtain ⟨q101, u101, e101, h⟩ := obI h
  refine gLe.tr (nwO_le e101) ?_
  exact moX9_init_104  h
set_option maxHeartbeats 4000000 in
set_option maxRecDepth 20000 in
theorem wX9_init_97 {z : Nat → Nat}  (C : gC p s m args meth c cX9_init 1 none RX9 "<init>" Γ)(hz : Γ.2.2.2 = z) {x0 : Nat} {s1 : Option Nat} {u : gN} {res : gN} (h : fX9_init_97 z x0 s1 u = some res) {H : Heap} {locs : List Loc} (hG : gAn Γ sB u H) (hS : va_S Γ.2.2.1 s.heap H locs) {ls : Array Slot} (hl : lv_has ls 1 [(0, va_rf (some x0))]) : W p l e (rmX9_init (res.2.1 - s.heap.size) (res.2.2 - sB)) s m args below meth c H locs (u.2.1 - s.heap.size) (u.2.2 - sB) (MQ below (gQ Γ none res.1 res.2.1) args s (res.2.1 - s.heap.size) (res.2.2 - sB) Γ.2.2.1) (F0 m 97 ls [va_rf s1, va_rf (some x0)]) := by
  have hx := C.1
  have hb := C.2.1
  have hm := moX9_init_97 h
  unfold fX9_init_97 at h
  obtain ⟨u97, e97, h⟩ := ob h
  obtain ⟨g97, eg97, ev97⟩ := wN_inv e97
  replace hm : gLe u97 res := by rw [ev97]; exact hm
  refine gx_put C hG.1 hS rfl eg97 fgX9_48 fpX9_48 (fun _ => rfl) (gx_rfn _ _ (Or.inl ⟨_, rfl⟩)).1 (gx_rfn _ _ (Or.inl ⟨_, rfl⟩)).2 dX9_init_97 (fun H locs hg hS => gy_w hG ev97 hg (fun hG => ?_))
  refine gx_aload_n (r := (some x0)) hx hb dX9_init_100 rfl (lv_at hl 0 rfl) ?_
  obtain ⟨q101, u101, e101, h⟩ := obI h
  have hm2 : gLe u101 res := by
    exact moX9_init_104  h
  refine gy_new C hG hS e101 kwX9_52 ⟨Nat.sub_le_sub_right hm2.1 _, Nat.sub_le_sub_right hm2.2 _⟩ dX9_init_101 (fun H hG hS => ?_)
  exact wX9_init_104 C hz  h hG hS (lv_sub hl [0] rfl)
def fX9_init_93 (z : Nat → Nat) (x0 : Nat) (s1 : Option Nat) (u : gN) : Option (gN) :=
  (s1).bind fun a94 =>
  (fX4_init a94 u).bind fun u94 =>
  fX9_init_97 z x0 s1 u94 
set_option maxRecDepth 20000 in
theorem moX9_init_93 {z : Nat → Nat} {x0 : Nat} {s1 : Option Nat} {u : gN} {res : gN} (h : fX9_init_93 z x0 s1 u = some res) : gLe u res := by
  unfold fX9_init_93 at h
  obtain ⟨a94, na94, h⟩ := ob h
  obtain ⟨u94, e94, h⟩ := ob h
  refine gLe.tr (moX4_init e94) ?_
  exact moX9_init_97  h
set_option maxHeartbeats 4000000 in
set_option maxRecDepth 20000 in
theorem wX9_init_93 {z : Nat → Nat}  (C : gC p s m args meth c cX9_init 1 none RX9 "<init>" Γ)(hz : Γ.2.2.2 = z) {x0 : Nat} {s1 : Option Nat} {u : gN} {res : gN} (h : fX9_init_93 z x0 s1 u = some res) {H : Heap} {locs : List Loc} (hG : gAn Γ sB u H) (hS : va_S Γ.2.2.1 s.heap H locs) {ls : Array Slot} (hl : lv_has ls 1 [(0, va_rf (some x0))]) : W p l e (rmX9_init (res.2.1 - s.heap.size) (res.2.2 - sB)) s m args below meth c H locs (u.2.1 - s.heap.size) (u.2.2 - sB) (MQ below (gQ Γ none res.1 res.2.1) args s (res.2.1 - s.heap.size) (res.2.2 - sB) Γ.2.2.1) (F0 m 93 ls [va_rf s1, va_rf (some x0)]) := by
  have hx := C.1
  have hb := C.2.1
  have hm := moX9_init_93 h
  unfold fX9_init_93 at h
  refine lv_dup hx hb dX9_init_93 (by first | rfl | exact gx_cat _) ?_
  obtain ⟨a94, na94, h⟩ := ob h
  obtain ⟨u94, e94, h⟩ := ob h
  have hle := moX4_init e94
  have hm2 : gLe u94 res := by
    exact moX9_init_97  h
  refine gx_cIN C hG.1 hS [] na94 (tX4_init e94) qcX9_47 ⟨rfl, rfl, Nat.le_of_ble_eq_true rfl, Nat.le_of_ble_eq_true rfl⟩ (gy_room hG hS hle ⟨Nat.sub_le_sub_right hm2.1 _, Nat.sub_le_sub_right hm2.2 _⟩) rfl hl.1 rfl (by simp [gx_cat, gx_catI, gx_catJ]) dX9_init_94 (fun H locs hg hS2 => gy_ret hG hS hle hg (fun hG => ?_))
  replace hS := hS2
  exact wX9_init_97 C hz  h hG hS (lv_sub hl [0] rfl)
def fX9_init_86 (z : Nat → Nat) (x0 : Nat) (s1 : Option Nat) (u : gN) : Option (gN) :=
  (wN (pV [10] 8 (va_rf s1) u.1 x0) u).bind fun u86 =>
  bI (nwO 5 [.null, .null, .int 0, .int 0, .int 0] u86) fun q90 u90 =>
  fX9_init_93 z x0 (some q90) u90 
set_option maxRecDepth 20000 in
theorem moX9_init_86 {z : Nat → Nat} {x0 : Nat} {s1 : Option Nat} {u : gN} {res : gN} (h : fX9_init_86 z x0 s1 u = some res) : gLe u res := by
  unfold fX9_init_86 at h
  obtain ⟨u86, e86, h⟩ := ob h
  refine gLe.tr (wN_le e86) ?_
  obtain ⟨q90, u90, e90, h⟩ := obI h
  refine gLe.tr (nwO_le e90) ?_
  exact moX9_init_93  h
set_option maxHeartbeats 4000000 in
set_option maxRecDepth 20000 in
theorem wX9_init_86 {z : Nat → Nat}  (C : gC p s m args meth c cX9_init 1 none RX9 "<init>" Γ)(hz : Γ.2.2.2 = z) {x0 : Nat} {s1 : Option Nat} {u : gN} {res : gN} (h : fX9_init_86 z x0 s1 u = some res) {H : Heap} {locs : List Loc} (hG : gAn Γ sB u H) (hS : va_S Γ.2.2.1 s.heap H locs) {ls : Array Slot} (hl : lv_has ls 1 [(0, va_rf (some x0))]) : W p l e (rmX9_init (res.2.1 - s.heap.size) (res.2.2 - sB)) s m args below meth c H locs (u.2.1 - s.heap.size) (u.2.2 - sB) (MQ below (gQ Γ none res.1 res.2.1) args s (res.2.1 - s.heap.size) (res.2.2 - sB) Γ.2.2.1) (F0 m 86 ls [va_rf s1, va_rf (some x0)]) := by
  have hx := C.1
  have hb := C.2.1
  have hm := moX9_init_86 h
  unfold fX9_init_86 at h
  obtain ⟨u86, e86, h⟩ := ob h
  obtain ⟨g86, eg86, ev86⟩ := wN_inv e86
  replace hm : gLe u86 res := by rw [ev86]; exact hm
  refine gx_put C hG.1 hS rfl eg86 fgX9_41 fpX9_41 (fun _ => rfl) (gx_rfn _ _ (Or.inl ⟨_, rfl⟩)).1 (gx_rfn _ _ (Or.inl ⟨_, rfl⟩)).2 dX9_init_86 (fun H locs hg hS => gy_w hG ev86 hg (fun hG => ?_))
  refine gx_aload_n (r := (some x0)) hx hb dX9_init_89 rfl (lv_at hl 0 rfl) ?_
  obtain ⟨q90, u90, e90, h⟩ := obI h
  have hm2 : gLe u90 res := by
    exact moX9_init_93  h
  refine gy_new C hG hS e90 kwX9_45 ⟨Nat.sub_le_sub_right hm2.1 _, Nat.sub_le_sub_right hm2.2 _⟩ dX9_init_90 (fun H hG hS => ?_)
  exact wX9_init_93 C hz  h hG hS (lv_sub hl [0] rfl)
def fX9_init_82 (z : Nat → Nat) (x0 : Nat) (s1 : Option Nat) (u : gN) : Option (gN) :=
  (s1).bind fun a83 =>
  (fX3_init a83 u).bind fun u83 =>
  fX9_init_86 z x0 s1 u83 
set_option maxRecDepth 20000 in
theorem moX9_init_82 {z : Nat → Nat} {x0 : Nat} {s1 : Option Nat} {u : gN} {res : gN} (h : fX9_init_82 z x0 s1 u = some res) : gLe u res := by
  unfold fX9_init_82 at h
  obtain ⟨a83, na83, h⟩ := ob h
  obtain ⟨u83, e83, h⟩ := ob h
  refine gLe.tr (moX3_init e83) ?_
  exact moX9_init_86  h
set_option maxHeartbeats 4000000 in
set_option maxRecDepth 20000 in
theorem wX9_init_82 {z : Nat → Nat}  (C : gC p s m args meth c cX9_init 1 none RX9 "<init>" Γ)(hz : Γ.2.2.2 = z) {x0 : Nat} {s1 : Option Nat} {u : gN} {res : gN} (h : fX9_init_82 z x0 s1 u = some res) {H : Heap} {locs : List Loc} (hG : gAn Γ sB u H) (hS : va_S Γ.2.2.1 s.heap H locs) {ls : Array Slot} (hl : lv_has ls 1 [(0, va_rf (some x0))]) : W p l e (rmX9_init (res.2.1 - s.heap.size) (res.2.2 - sB)) s m args below meth c H locs (u.2.1 - s.heap.size) (u.2.2 - sB) (MQ below (gQ Γ none res.1 res.2.1) args s (res.2.1 - s.heap.size) (res.2.2 - sB) Γ.2.2.1) (F0 m 82 ls [va_rf s1, va_rf (some x0)]) := by
  have hx := C.1
  have hb := C.2.1
  have hm := moX9_init_82 h
  unfold fX9_init_82 at h
  refine lv_dup hx hb dX9_init_82 (by first | rfl | exact gx_cat _) ?_
  obtain ⟨a83, na83, h⟩ := ob h
  obtain ⟨u83, e83, h⟩ := ob h
  have hle := moX3_init e83
  have hm2 : gLe u83 res := by
    exact moX9_init_86  h
  refine gx_cIN C hG.1 hS [] na83 (tX3_init e83) qcX9_40 ⟨rfl, rfl, Nat.le_of_ble_eq_true rfl, Nat.le_of_ble_eq_true rfl⟩ (gy_room hG hS hle ⟨Nat.sub_le_sub_right hm2.1 _, Nat.sub_le_sub_right hm2.2 _⟩) rfl hl.1 rfl (by simp [gx_cat, gx_catI, gx_catJ]) dX9_init_83 (fun H locs hg hS2 => gy_ret hG hS hle hg (fun hG => ?_))
  replace hS := hS2
  exact wX9_init_86 C hz  h hG hS (lv_sub hl [0] rfl)
def fX9_init_71 (z : Nat → Nat) (x0 : Nat) (s1 : Option Nat) (u : gN) : Option (gN) :=
  (s1).bind fun a72 =>
  (wN (fJx4a65c_init_da8c8 z a72 u.1) u).bind fun u72 =>
  (wN (pV [10] 7 (va_rf s1) u72.1 x0) u72).bind fun u75 =>
  bI (nwO 4 [.null, .null, .int 0] u75) fun q79 u79 =>
  fX9_init_82 z x0 (some q79) u79 
set_option maxRecDepth 20000 in
theorem moX9_init_71 {z : Nat → Nat} {x0 : Nat} {s1 : Option Nat} {u : gN} {res : gN} (h : fX9_init_71 z x0 s1 u = some res) : gLe u res := by
  unfold fX9_init_71 at h
  obtain ⟨a72, na72, h⟩ := ob h
  obtain ⟨u72, e72, h⟩ := ob h
  refine gLe.tr (wN_le e72) ?_
  obtain ⟨u75, e75, h⟩ := ob h
  refine gLe.tr (wN_le e75) ?_
  obtain ⟨q79, u79, e79, h⟩ := obI h
  refine gLe.tr (nwO_le e79) ?_
  exact moX9_init_82  h
set_option maxHeartbeats 4000000 in
set_option maxRecDepth 20000 in
theorem wX9_init_71 {z : Nat → Nat}  (C : gC p s m args meth c cX9_init 1 none RX9 "<init>" Γ)(hz : Γ.2.2.2 = z) {x0 : Nat} {s1 : Option Nat} {u : gN} {res : gN} (h : fX9_init_71 z x0 s1 u = some res) {H : Heap} {locs : List Loc} (hG : gAn Γ sB u H) (hS : va_S Γ.2.2.1 s.heap H locs) {ls : Array Slot} (hl : lv_has ls 1 [(0, va_rf (some x0))]) : W p l e (rmX9_init (res.2.1 - s.heap.size) (res.2.2 - sB)) s m args below meth c H locs (u.2.1 - s.heap.size) (u.2.2 - sB) (MQ below (gQ Γ none res.1 res.2.1) args s (res.2.1 - s.heap.size) (res.2.2 - sB) Γ.2.2.1) (F0 m 71 ls [va_rf s1, va_rf (some x0)]) := by
  have hx := C.1
  have hb := C.2.1
  have hm := moX9_init_71 h
  unfold fX9_init_71 at h
  refine lv_dup hx hb dX9_init_71 (by first | rfl | exact gx_cat _) ?_
  obtain ⟨a72, na72, h⟩ := ob h
  obtain ⟨u72, e72, h⟩ := ob h
  obtain ⟨g72, eg72, ev72⟩ := wN_inv e72
  refine gx_cI C hG.1 hS [] na72 (tJx4a65c_init_da8c8 hz eg72) qcX9_9 ⟨rfl, rfl, Nat.le_of_ble_eq_true rfl, Nat.le_of_ble_eq_true rfl⟩ ⟨Nat.sub_le_sub_right hm.1 _, Nat.sub_le_sub_right hm.2 _⟩ rfl hl.1 rfl (by simp [gx_cat, gx_catI, gx_catJ]) dX9_init_72 (fun H locs hg hS2 => gy_w (H0 := _) hG ev72 hg (fun hG => ?_))
  replace hS := hS2
  replace hm : gLe u72 res := by rw [ev72]; exact hm
  obtain ⟨u75, e75, h⟩ := ob h
  obtain ⟨g75, eg75, ev75⟩ := wN_inv e75
  replace hm : gLe u75 res := by rw [ev75]; exact hm
  refine gx_put C hG.1 hS rfl eg75 fgX9_35 fpX9_35 (fun _ => rfl) (gx_rfn _ _ (Or.inl ⟨_, rfl⟩)).1 (gx_rfn _ _ (Or.inl ⟨_, rfl⟩)).2 dX9_init_75 (fun H locs hg hS => gy_w hG ev75 hg (fun hG => ?_))
  refine gx_aload_n (r := (some x0)) hx hb dX9_init_78 rfl (lv_at hl 0 rfl) ?_
  obtain ⟨q79, u79, e79, h⟩ := obI h
  have hm2 : gLe u79 res := by
    exact moX9_init_82  h
  refine gy_new C hG hS e79 kwX9_38 ⟨Nat.sub_le_sub_right hm2.1 _, Nat.sub_le_sub_right hm2.2 _⟩ dX9_init_79 (fun H hG hS => ?_)
  exact wX9_init_82 C hz  h hG hS (lv_sub hl [0] rfl)
def fX9_init_64 (z : Nat → Nat) (x0 : Nat) (s1 : Option Nat) (u : gN) : Option (gN) :=
  (wN (pV [10] 6 (va_rf s1) u.1 x0) u).bind fun u64 =>
  bI (nwO 0 [.int 0, .null, .int 0] u64) fun q68 u68 =>
  fX9_init_71 z x0 (some q68) u68 
set_option maxRecDepth 20000 in
theorem moX9_init_64 {z : Nat → Nat} {x0 : Nat} {s1 : Option Nat} {u : gN} {res : gN} (h : fX9_init_64 z x0 s1 u = some res) : gLe u res := by
  unfold fX9_init_64 at h
  obtain ⟨u64, e64, h⟩ := ob h
  refine gLe.tr (wN_le e64) ?_
  obtain ⟨q68, u68, e68, h⟩ := obI h
  refine gLe.tr (nwO_le e68) ?_
  exact moX9_init_71  h
set_option maxHeartbeats 4000000 in
set_option maxRecDepth 20000 in
theorem wX9_init_64 {z : Nat → Nat}  (C : gC p s m args meth c cX9_init 1 none RX9 "<init>" Γ)(hz : Γ.2.2.2 = z) {x0 : Nat} {s1 : Option Nat} {u : gN} {res : gN} (h : fX9_init_64 z x0 s1 u = some res) {H : Heap} {locs : List Loc} (hG : gAn Γ sB u H) (hS : va_S Γ.2.2.1 s.heap H locs) {ls : Array Slot} (hl : lv_has ls 1 [(0, va_rf (some x0))]) : W p l e (rmX9_init (res.2.1 - s.heap.size) (res.2.2 - sB)) s m args below meth c H locs (u.2.1 - s.heap.size) (u.2.2 - sB) (MQ below (gQ Γ none res.1 res.2.1) args s (res.2.1 - s.heap.size) (res.2.2 - sB) Γ.2.2.1) (F0 m 64 ls [va_rf s1, va_rf (some x0)]) := by
  have hx := C.1
  have hb := C.2.1
  have hm := moX9_init_64 h
  unfold fX9_init_64 at h
  obtain ⟨u64, e64, h⟩ := ob h
  obtain ⟨g64, eg64, ev64⟩ := wN_inv e64
  replace hm : gLe u64 res := by rw [ev64]; exact hm
  refine gx_put C hG.1 hS rfl eg64 fgX9_32 fpX9_32 (fun _ => rfl) (gx_rfn _ _ (Or.inr ⟨_, rfl⟩)).1 (gx_rfn _ _ (Or.inr ⟨_, rfl⟩)).2 dX9_init_64 (fun H locs hg hS => gy_w hG ev64 hg (fun hG => ?_))
  refine gx_aload_n (r := (some x0)) hx hb dX9_init_67 rfl (lv_at hl 0 rfl) ?_
  obtain ⟨q68, u68, e68, h⟩ := obI h
  have hm2 : gLe u68 res := by
    exact moX9_init_71  h
  refine gy_new C hG hS e68 kwX9_7 ⟨Nat.sub_le_sub_right hm2.1 _, Nat.sub_le_sub_right hm2.2 _⟩ dX9_init_68 (fun H hG hS => ?_)
  exact wX9_init_71 C hz  h hG hS (lv_sub hl [0] rfl)
def fX9_init_56 (z : Nat → Nat) (x0 : Nat) (s1 : Option Nat) (u : gN) : Option (gN) :=
  (wN (pV [10] 5 (va_rf s1) u.1 x0) u).bind fun u56 =>
  bI (nwI (20 : Int32) u56) fun q62 u62 =>
  fX9_init_64 z x0 (some q62) u62 
set_option maxRecDepth 20000 in
theorem moX9_init_56 {z : Nat → Nat} {x0 : Nat} {s1 : Option Nat} {u : gN} {res : gN} (h : fX9_init_56 z x0 s1 u = some res) : gLe u res := by
  unfold fX9_init_56 at h
  obtain ⟨u56, e56, h⟩ := ob h
  refine gLe.tr (wN_le e56) ?_
  obtain ⟨q62, u62, e62, h⟩ := obI h
  refine gLe.tr (nwI_le e62) ?_
  exact moX9_init_64  h
set_option maxHeartbeats 4000000 in
set_option maxRecDepth 20000 in
theorem wX9_init_56 {z : Nat → Nat}  (C : gC p s m args meth c cX9_init 1 none RX9 "<init>" Γ)(hz : Γ.2.2.2 = z) {x0 : Nat} {s1 : Option Nat} {u : gN} {res : gN} (h : fX9_init_56 z x0 s1 u = some res) {H : Heap} {locs : List Loc} (hG : gAn Γ sB u H) (hS : va_S Γ.2.2.1 s.heap H locs) {ls : Array Slot} (hl : lv_has ls 1 [(0, va_rf (some x0))]) : W p l e (rmX9_init (res.2.1 - s.heap.size) (res.2.2 - sB)) s m args below meth c H locs (u.2.1 - s.heap.size) (u.2.2 - sB) (MQ below (gQ Γ none res.1 res.2.1) args s (res.2.1 - s.heap.size) (res.2.2 - sB) Γ.2.2.1) (F0 m 56 ls [va_rf s1, va_rf (some x0)]) := by
  have hx := C.1
  have hb := C.2.1
  have hm := moX9_init_56 h
  unfold fX9_init_56 at h
  obtain ⟨u56, e56, h⟩ := ob h
  obtain ⟨g56, eg56, ev56⟩ := wN_inv e56
  replace hm : gLe u56 res := by rw [ev56]; exact hm
  refine gx_put C hG.1 hS rfl eg56 fgX9_29 fpX9_29 (fun _ => rfl) (gx_rfn _ _ (Or.inr ⟨_, rfl⟩)).1 (gx_rfn _ _ (Or.inr ⟨_, rfl⟩)).2 dX9_init_56 (fun H locs hg hS => gy_w hG ev56 hg (fun hG => ?_))
  refine gx_aload_n (r := (some x0)) hx hb dX9_init_59 rfl (lv_at hl 0 rfl) ?_
  refine lv_bipush (v := 20) hx hb dX9_init_60 (by decide) ?_
  obtain ⟨q62, u62, e62, h⟩ := obI h
  have hm2 : gLe u62 res := by
    exact moX9_init_64  h
  refine gy_newI C hG hS e62 ⟨Nat.sub_le_sub_right hm2.1 _, Nat.sub_le_sub_right hm2.2 _⟩ dX9_init_62 (fun H hG hS => ?_)
  exact wX9_init_64 C hz  h hG hS (lv_sub hl [0] rfl)
def fX9_init_48 (z : Nat → Nat) (x0 : Nat) (s1 : Option Nat) (u : gN) : Option (gN) :=
  (wN (pV [10] 4 (va_rf s1) u.1 x0) u).bind fun u48 =>
  bI (nwI (6 : Int32) u48) fun q54 u54 =>
  fX9_init_56 z x0 (some q54) u54 
set_option maxRecDepth 20000 in
theorem moX9_init_48 {z : Nat → Nat} {x0 : Nat} {s1 : Option Nat} {u : gN} {res : gN} (h : fX9_init_48 z x0 s1 u = some res) : gLe u res := by
  unfold fX9_init_48 at h
  obtain ⟨u48, e48, h⟩ := ob h
  refine gLe.tr (wN_le e48) ?_
  obtain ⟨q54, u54, e54, h⟩ := obI h
  refine gLe.tr (nwI_le e54) ?_
  exact moX9_init_56  h
set_option maxHeartbeats 4000000 in
set_option maxRecDepth 20000 in
theorem wX9_init_48 {z : Nat → Nat}  (C : gC p s m args meth c cX9_init 1 none RX9 "<init>" Γ)(hz : Γ.2.2.2 = z) {x0 : Nat} {s1 : Option Nat} {u : gN} {res : gN} (h : fX9_init_48 z x0 s1 u = some res) {H : Heap} {locs : List Loc} (hG : gAn Γ sB u H) (hS : va_S Γ.2.2.1 s.heap H locs) {ls : Array Slot} (hl : lv_has ls 1 [(0, va_rf (some x0))]) : W p l e (rmX9_init (res.2.1 - s.heap.size) (res.2.2 - sB)) s m args below meth c H locs (u.2.1 - s.heap.size) (u.2.2 - sB) (MQ below (gQ Γ none res.1 res.2.1) args s (res.2.1 - s.heap.size) (res.2.2 - sB) Γ.2.2.1) (F0 m 48 ls [va_rf s1, va_rf (some x0)]) := by
  have hx := C.1
  have hb := C.2.1
  have hm := moX9_init_48 h
  unfold fX9_init_48 at h
  obtain ⟨u48, e48, h⟩ := ob h
  obtain ⟨g48, eg48, ev48⟩ := wN_inv e48
  replace hm : gLe u48 res := by rw [ev48]; exact hm
  refine gx_put C hG.1 hS rfl eg48 fgX9_26 fpX9_26 (fun _ => rfl) (gx_rfn _ _ (Or.inr ⟨_, rfl⟩)).1 (gx_rfn _ _ (Or.inr ⟨_, rfl⟩)).2 dX9_init_48 (fun H locs hg hS => gy_w hG ev48 hg (fun hG => ?_))
  refine gx_aload_n (r := (some x0)) hx hb dX9_init_51 rfl (lv_at hl 0 rfl) ?_
  refine lv_bipush (v := 6) hx hb dX9_init_52 (by decide) ?_
  obtain ⟨q54, u54, e54, h⟩ := obI h
  have hm2 : gLe u54 res := by
    exact moX9_init_56  h
  refine gy_newI C hG hS e54 ⟨Nat.sub_le_sub_right hm2.1 _, Nat.sub_le_sub_right hm2.2 _⟩ dX9_init_54 (fun H hG hS => ?_)
  exact wX9_init_56 C hz  h hG hS (lv_sub hl [0] rfl)
def fX9_init_41 (z : Nat → Nat) (x0 : Nat) (s1 : Option Nat) (u : gN) : Option (gN) :=
  (wN (pV [10] 3 (va_rf s1) u.1 x0) u).bind fun u41 =>
  bI (nwI (4 : Int32) u41) fun q46 u46 =>
  fX9_init_48 z x0 (some q46) u46 
set_option maxRecDepth 20000 in
theorem moX9_init_41 {z : Nat → Nat} {x0 : Nat} {s1 : Option Nat} {u : gN} {res : gN} (h : fX9_init_41 z x0 s1 u = some res) : gLe u res := by
  unfold fX9_init_41 at h
  obtain ⟨u41, e41, h⟩ := ob h
  refine gLe.tr (wN_le e41) ?_
  obtain ⟨q46, u46, e46, h⟩ := obI h
  refine gLe.tr (nwI_le e46) ?_
  exact moX9_init_48  h
set_option maxHeartbeats 4000000 in
set_option maxRecDepth 20000 in
theorem wX9_init_41 {z : Nat → Nat}  (C : gC p s m args meth c cX9_init 1 none RX9 "<init>" Γ)(hz : Γ.2.2.2 = z) {x0 : Nat} {s1 : Option Nat} {u : gN} {res : gN} (h : fX9_init_41 z x0 s1 u = some res) {H : Heap} {locs : List Loc} (hG : gAn Γ sB u H) (hS : va_S Γ.2.2.1 s.heap H locs) {ls : Array Slot} (hl : lv_has ls 1 [(0, va_rf (some x0))]) : W p l e (rmX9_init (res.2.1 - s.heap.size) (res.2.2 - sB)) s m args below meth c H locs (u.2.1 - s.heap.size) (u.2.2 - sB) (MQ below (gQ Γ none res.1 res.2.1) args s (res.2.1 - s.heap.size) (res.2.2 - sB) Γ.2.2.1) (F0 m 41 ls [va_rf s1, va_rf (some x0)]) := by
  have hx := C.1
  have hb := C.2.1
  have hm := moX9_init_41 h
  unfold fX9_init_41 at h
  obtain ⟨u41, e41, h⟩ := ob h
  obtain ⟨g41, eg41, ev41⟩ := wN_inv e41
  replace hm : gLe u41 res := by rw [ev41]; exact hm
  refine gx_put C hG.1 hS rfl eg41 fgX9_22 fpX9_22 (fun _ => rfl) (gx_rfn _ _ (Or.inr ⟨_, rfl⟩)).1 (gx_rfn _ _ (Or.inr ⟨_, rfl⟩)).2 dX9_init_41 (fun H locs hg hS => gy_w hG ev41 hg (fun hG => ?_))
  refine gx_aload_n (r := (some x0)) hx hb dX9_init_44 rfl (lv_at hl 0 rfl) ?_
  refine lv_iconst (v := 4) hx hb dX9_init_45 (by decide) ?_
  obtain ⟨q46, u46, e46, h⟩ := obI h
  have hm2 : gLe u46 res := by
    exact moX9_init_48  h
  refine gy_newI C hG hS e46 ⟨Nat.sub_le_sub_right hm2.1 _, Nat.sub_le_sub_right hm2.2 _⟩ dX9_init_46 (fun H hG hS => ?_)
  exact wX9_init_48 C hz  h hG hS (lv_sub hl [0] rfl)
def fX9_init_30 (z : Nat → Nat) (x0 : Nat) (s1 : Option Nat) (u : gN) : Option (gN) :=
  (s1).bind fun a31 =>
  (wN (fJx4a65c_init_da8c8 z a31 u.1) u).bind fun u31 =>
  (wN (pV [10] 2 (va_rf s1) u31.1 x0) u31).bind fun u34 =>
  bI (nwI (5 : Int32) u34) fun q39 u39 =>
  fX9_init_41 z x0 (some q39) u39 
set_option maxRecDepth 20000 in
theorem moX9_init_30 {z : Nat → Nat} {x0 : Nat} {s1 : Option Nat} {u : gN} {res : gN} (h : fX9_init_30 z x0 s1 u = some res) : gLe u res := by
  unfold fX9_init_30 at h
  obtain ⟨a31, na31, h⟩ := ob h
  obtain ⟨u31, e31, h⟩ := ob h
  refine gLe.tr (wN_le e31) ?_
  obtain ⟨u34, e34, h⟩ := ob h
  refine gLe.tr (wN_le e34) ?_
  obtain ⟨q39, u39, e39, h⟩ := obI h
  refine gLe.tr (nwI_le e39) ?_
  exact moX9_init_41  h
set_option maxHeartbeats 4000000 in
set_option maxRecDepth 20000 in
theorem wX9_init_30 {z : Nat → Nat}  (C : gC p s m args meth c cX9_init 1 none RX9 "<init>" Γ)(hz : Γ.2.2.2 = z) {x0 : Nat} {s1 : Option Nat} {u : gN} {res : gN} (h : fX9_init_30 z x0 s1 u = some res) {H : Heap} {locs : List Loc} (hG : gAn Γ sB u H) (hS : va_S Γ.2.2.1 s.heap H locs) {ls : Array Slot} (hl : lv_has ls 1 [(0, va_rf (some x0))]) : W p l e (rmX9_init (res.2.1 - s.heap.size) (res.2.2 - sB)) s m args below meth c H locs (u.2.1 - s.heap.size) (u.2.2 - sB) (MQ below (gQ Γ none res.1 res.2.1) args s (res.2.1 - s.heap.size) (res.2.2 - sB) Γ.2.2.1) (F0 m 30 ls [va_rf s1, va_rf (some x0)]) := by
  have hx := C.1
  have hb := C.2.1
  have hm := moX9_init_30 h
  unfold fX9_init_30 at h
  refine lv_dup hx hb dX9_init_30 (by first | rfl | exact gx_cat _) ?_
  obtain ⟨a31, na31, h⟩ := ob h
  obtain ⟨u31, e31, h⟩ := ob h
  obtain ⟨g31, eg31, ev31⟩ := wN_inv e31
  refine gx_cI C hG.1 hS [] na31 (tJx4a65c_init_da8c8 hz eg31) qcX9_9 ⟨rfl, rfl, Nat.le_of_ble_eq_true rfl, Nat.le_of_ble_eq_true rfl⟩ ⟨Nat.sub_le_sub_right hm.1 _, Nat.sub_le_sub_right hm.2 _⟩ rfl hl.1 rfl (by simp [gx_cat, gx_catI, gx_catJ]) dX9_init_31 (fun H locs hg hS2 => gy_w (H0 := _) hG ev31 hg (fun hG => ?_))
  replace hS := hS2
  replace hm : gLe u31 res := by rw [ev31]; exact hm
  obtain ⟨u34, e34, h⟩ := ob h
  obtain ⟨g34, eg34, ev34⟩ := wN_inv e34
  replace hm : gLe u34 res := by rw [ev34]; exact hm
  refine gx_put C hG.1 hS rfl eg34 fgX9_19 fpX9_19 (fun _ => rfl) (gx_rfn _ _ (Or.inl ⟨_, rfl⟩)).1 (gx_rfn _ _ (Or.inl ⟨_, rfl⟩)).2 dX9_init_34 (fun H locs hg hS => gy_w hG ev34 hg (fun hG => ?_))
  refine gx_aload_n (r := (some x0)) hx hb dX9_init_37 rfl (lv_at hl 0 rfl) ?_
  refine lv_iconst (v := 5) hx hb dX9_init_38 (by decide) ?_
  obtain ⟨q39, u39, e39, h⟩ := obI h
  have hm2 : gLe u39 res := by
    exact moX9_init_41  h
  refine gy_newI C hG hS e39 ⟨Nat.sub_le_sub_right hm2.1 _, Nat.sub_le_sub_right hm2.2 _⟩ dX9_init_39 (fun H hG hS => ?_)
  exact wX9_init_41 C hz  h hG hS (lv_sub hl [0] rfl)
def fX9_init_19 (z : Nat → Nat) (x0 : Nat) (s1 : Option Nat) (u : gN) : Option (gN) :=
  (s1).bind fun a20 =>
  (wN (fJx4a65c_init_da8c8 z a20 u.1) u).bind fun u20 =>
  (wN (pV [10] 1 (va_rf s1) u20.1 x0) u20).bind fun u23 =>
  bI (nwO 0 [.int 0, .null, .int 0] u23) fun q27 u27 =>
  fX9_init_30 z x0 (some q27) u27 
set_option maxRecDepth 20000 in
theorem moX9_init_19 {z : Nat → Nat} {x0 : Nat} {s1 : Option Nat} {u : gN} {res : gN} (h : fX9_init_19 z x0 s1 u = some res) : gLe u res := by
  unfold fX9_init_19 at h
  obtain ⟨a20, na20, h⟩ := ob h
  obtain ⟨u20, e20, h⟩ := ob h
  refine gLe.tr (wN_le e20) ?_
  obtain ⟨u23, e23, h⟩ := ob h
  refine gLe.tr (wN_le e23) ?_
  obtain ⟨q27, u27, e27, h⟩ := obI h
  refine gLe.tr (nwO_le e27) ?_
  exact moX9_init_30  h
set_option maxHeartbeats 4000000 in
set_option maxRecDepth 20000 in
theorem wX9_init_19 {z : Nat → Nat}  (C : gC p s m args meth c cX9_init 1 none RX9 "<init>" Γ)(hz : Γ.2.2.2 = z) {x0 : Nat} {s1 : Option Nat} {u : gN} {res : gN} (h : fX9_init_19 z x0 s1 u = some res) {H : Heap} {locs : List Loc} (hG : gAn Γ sB u H) (hS : va_S Γ.2.2.1 s.heap H locs) {ls : Array Slot} (hl : lv_has ls 1 [(0, va_rf (some x0))]) : W p l e (rmX9_init (res.2.1 - s.heap.size) (res.2.2 - sB)) s m args below meth c H locs (u.2.1 - s.heap.size) (u.2.2 - sB) (MQ below (gQ Γ none res.1 res.2.1) args s (res.2.1 - s.heap.size) (res.2.2 - sB) Γ.2.2.1) (F0 m 19 ls [va_rf s1, va_rf (some x0)]) := by
  have hx := C.1
  have hb := C.2.1
  have hm := moX9_init_19 h
  unfold fX9_init_19 at h
  refine lv_dup hx hb dX9_init_19 (by first | rfl | exact gx_cat _) ?_
  obtain ⟨a20, na20, h⟩ := ob h
  obtain ⟨u20, e20, h⟩ := ob h
  obtain ⟨g20, eg20, ev20⟩ := wN_inv e20
  refine gx_cI C hG.1 hS [] na20 (tJx4a65c_init_da8c8 hz eg20) qcX9_9 ⟨rfl, rfl, Nat.le_of_ble_eq_true rfl, Nat.le_of_ble_eq_true rfl⟩ ⟨Nat.sub_le_sub_right hm.1 _, Nat.sub_le_sub_right hm.2 _⟩ rfl hl.1 rfl (by simp [gx_cat, gx_catI, gx_catJ]) dX9_init_20 (fun H locs hg hS2 => gy_w (H0 := _) hG ev20 hg (fun hG => ?_))
  replace hS := hS2
  replace hm : gLe u20 res := by rw [ev20]; exact hm
  obtain ⟨u23, e23, h⟩ := ob h
  obtain ⟨g23, eg23, ev23⟩ := wN_inv e23
  replace hm : gLe u23 res := by rw [ev23]; exact hm
  refine gx_put C hG.1 hS rfl eg23 fgX9_16 fpX9_16 (fun _ => rfl) (gx_rfn _ _ (Or.inl ⟨_, rfl⟩)).1 (gx_rfn _ _ (Or.inl ⟨_, rfl⟩)).2 dX9_init_23 (fun H locs hg hS => gy_w hG ev23 hg (fun hG => ?_))
  refine gx_aload_n (r := (some x0)) hx hb dX9_init_26 rfl (lv_at hl 0 rfl) ?_
  obtain ⟨q27, u27, e27, h⟩ := obI h
  have hm2 : gLe u27 res := by
    exact moX9_init_30  h
  refine gy_new C hG hS e27 kwX9_7 ⟨Nat.sub_le_sub_right hm2.1 _, Nat.sub_le_sub_right hm2.2 _⟩ dX9_init_27 (fun H hG hS => ?_)
  exact wX9_init_30 C hz  h hG hS (lv_sub hl [0] rfl)
def fX9_init_8 (z : Nat → Nat) (x0 : Nat) (s1 : Option Nat) (u : gN) : Option (gN) :=
  (s1).bind fun a9 =>
  (wN (fJx4a65c_init_da8c8 z a9 u.1) u).bind fun u9 =>
  (wN (pV [10] 0 (va_rf s1) u9.1 x0) u9).bind fun u12 =>
  bI (nwO 0 [.int 0, .null, .int 0] u12) fun q16 u16 =>
  fX9_init_19 z x0 (some q16) u16 
set_option maxRecDepth 20000 in
theorem moX9_init_8 {z : Nat → Nat} {x0 : Nat} {s1 : Option Nat} {u : gN} {res : gN} (h : fX9_init_8 z x0 s1 u = some res) : gLe u res := by
  unfold fX9_init_8 at h
  obtain ⟨a9, na9, h⟩ := ob h
  obtain ⟨u9, e9, h⟩ := ob h
  refine gLe.tr (wN_le e9) ?_
  obtain ⟨u12, e12, h⟩ := ob h
  refine gLe.tr (wN_le e12) ?_
  obtain ⟨q16, u16, e16, h⟩ := obI h
  refine gLe.tr (nwO_le e16) ?_
  exact moX9_init_19  h
set_option maxHeartbeats 4000000 in
set_option maxRecDepth 20000 in
theorem wX9_init_8 {z : Nat → Nat}  (C : gC p s m args meth c cX9_init 1 none RX9 "<init>" Γ)(hz : Γ.2.2.2 = z) {x0 : Nat} {s1 : Option Nat} {u : gN} {res : gN} (h : fX9_init_8 z x0 s1 u = some res) {H : Heap} {locs : List Loc} (hG : gAn Γ sB u H) (hS : va_S Γ.2.2.1 s.heap H locs) {ls : Array Slot} (hl : lv_has ls 1 [(0, va_rf (some x0))]) : W p l e (rmX9_init (res.2.1 - s.heap.size) (res.2.2 - sB)) s m args below meth c H locs (u.2.1 - s.heap.size) (u.2.2 - sB) (MQ below (gQ Γ none res.1 res.2.1) args s (res.2.1 - s.heap.size) (res.2.2 - sB) Γ.2.2.1) (F0 m 8 ls [va_rf s1, va_rf (some x0)]) := by
  have hx := C.1
  have hb := C.2.1
  have hm := moX9_init_8 h
  unfold fX9_init_8 at h
  refine lv_dup hx hb dX9_init_8 (by first | rfl | exact gx_cat _) ?_
  obtain ⟨a9, na9, h⟩ := ob h
  obtain ⟨u9, e9, h⟩ := ob h
  obtain ⟨g9, eg9, ev9⟩ := wN_inv e9
  refine gx_cI C hG.1 hS [] na9 (tJx4a65c_init_da8c8 hz eg9) qcX9_9 ⟨rfl, rfl, Nat.le_of_ble_eq_true rfl, Nat.le_of_ble_eq_true rfl⟩ ⟨Nat.sub_le_sub_right hm.1 _, Nat.sub_le_sub_right hm.2 _⟩ rfl hl.1 rfl (by simp [gx_cat, gx_catI, gx_catJ]) dX9_init_9 (fun H locs hg hS2 => gy_w (H0 := _) hG ev9 hg (fun hG => ?_))
  replace hS := hS2
  replace hm : gLe u9 res := by rw [ev9]; exact hm
  obtain ⟨u12, e12, h⟩ := ob h
  obtain ⟨g12, eg12, ev12⟩ := wN_inv e12
  replace hm : gLe u12 res := by rw [ev12]; exact hm
  refine gx_put C hG.1 hS rfl eg12 fgX9_10 fpX9_10 (fun _ => rfl) (gx_rfn _ _ (Or.inl ⟨_, rfl⟩)).1 (gx_rfn _ _ (Or.inl ⟨_, rfl⟩)).2 dX9_init_12 (fun H locs hg hS => gy_w hG ev12 hg (fun hG => ?_))
  refine gx_aload_n (r := (some x0)) hx hb dX9_init_15 rfl (lv_at hl 0 rfl) ?_
  obtain ⟨q16, u16, e16, h⟩ := obI h
  have hm2 : gLe u16 res := by
    exact moX9_init_19  h
  refine gy_new C hG hS e16 kwX9_7 ⟨Nat.sub_le_sub_right hm2.1 _, Nat.sub_le_sub_right hm2.2 _⟩ dX9_init_16 (fun H hG hS => ?_)
  exact wX9_init_19 C hz  h hG hS (lv_sub hl [0] rfl)
def fX9_init (z : Nat → Nat) (x0 : Nat) (u : gN) : Option (gN) :=
  bI (nwO 0 [.int 0, .null, .int 0] u) fun q5 u5 =>
  fX9_init_8 z x0 (some q5) u5 
set_option maxRecDepth 20000 in
theorem moX9_init {z : Nat → Nat} {x0 : Nat} {u : gN} {res : gN} (h : fX9_init z x0 u = some res) : gLe u res := by
  unfold fX9_init at h
  obtain ⟨q5, u5, e5, h⟩ := obI h
  refine gLe.tr (nwO_le e5) ?_
  exact moX9_init_8  h
set_option maxHeartbeats 4000000 in
set_option maxRecDepth 20000 in
theorem wX9_init {z : Nat → Nat}  (C : gC p s m args meth c cX9_init 1 none RX9 "<init>" Γ)(hz : Γ.2.2.2 = z) {x0 : Nat} {u : gN} {res : gN} (h : fX9_init z x0 u = some res) {H : Heap} {locs : List Loc} (hG : gAn Γ sB u H) (hS : va_S Γ.2.2.1 s.heap H locs) {ls : Array Slot} (hl : lv_has ls 1 [(0, va_rf (some x0))]) : W p l e (rmX9_init (res.2.1 - s.heap.size) (res.2.2 - sB)) s m args below meth c H locs (u.2.1 - s.heap.size) (u.2.2 - sB) (MQ below (gQ Γ none res.1 res.2.1) args s (res.2.1 - s.heap.size) (res.2.2 - sB) Γ.2.2.1) (F0 m 0 ls []) := by
  have hx := C.1
  have hb := C.2.1
  have hm := moX9_init h
  unfold fX9_init at h
  refine gx_aload_n (r := (some x0)) hx hb dX9_init_0 rfl (lv_at hl 0 rfl) ?_
  refine gx_obj C rfl qcX9_1 hl.1 ⟨Nat.le_of_ble_eq_true rfl, Nat.le_of_ble_eq_true rfl⟩ dX9_init_1 ?_
  refine gx_aload_n (r := (some x0)) hx hb dX9_init_4 rfl (lv_at hl 0 rfl) ?_
  obtain ⟨q5, u5, e5, h⟩ := obI h
  have hm2 : gLe u5 res := by
    exact moX9_init_8  h
  refine gy_new C hG hS e5 kwX9_7 ⟨Nat.sub_le_sub_right hm2.1 _, Nat.sub_le_sub_right hm2.2 _⟩ dX9_init_5 (fun H hG hS => ?_)
  exact wX9_init_8 C hz  h hG hS (lv_sub hl [0] rfl)
theorem tX9_init {Γ : gEnv} {z : Nat → Nat} (hz : Γ.2.2.2 = z) {x0 : Nat} {u v : gN} (h : fX9_init z x0 u = some v) : Met l yX9_init (Cond.code yX9_init cX9_init 1 none :: gW) (rmX9_init (v.2.1 - u.2.1) (v.2.2 - u.2.2)) (va_Pc [va_rf (some x0)] (gPre Γ u.1 u.2.1)) (gQ Γ none v.1 v.2.1) (v.2.1 - u.2.1) (v.2.2 - u.2.2) Γ.2.2.1 := by
  refine gx_met (nm := "<init>") ⟨by decide +kernel, rfl, rfl⟩ (Nat.le_of_ble_eq_true rfl) (fun p e s m below meth c ls C hG hl => ?_)
  have hN : s.heap.size = u.2.1 := hG.1
  have K := wX9_init (l := l) (e := e) (below := below) (sB := u.2.2) C hz h ⟨hG, Nat.le_refl _⟩ va_S.rf hl
  rw [hN, Nat.sub_self, Nat.sub_self] at K
  exact K
abbrev rmJ7_copyOf_6403c (a b : Nat) : Room := { frames := 1, cells := a, slots := b, locals := 40 }
def fJ7_copyOf_6403c_10 (z : Nat → Nat) (x0 : Option Nat) (x1 : Int32) (s0 : Option Nat) (u : gN) : Option (Option Nat × gN) :=
  (x0).bind fun a30 =>
  (aNz z u.1 a30).bind fun v30 =>
  pU (if x1 < v30 then x1 else v30) fun y32 =>
  (x0).bind fun a35 =>
  (s0).bind fun a35_1 =>
  (wN (cpQ u.1 a35 (0 : Int32) a35_1 (0 : Int32) y32) u).bind fun u35 =>
  some (s0, u35)
set_option maxRecDepth 20000 in
theorem moJ7_copyOf_6403c_10 {z : Nat → Nat} {x0 : Option Nat} {x1 : Int32} {s0 : Option Nat} {u : gN} {res : Option Nat × gN} (h : fJ7_copyOf_6403c_10 z x0 x1 s0 u = some res) : gLe u res.2 := by
  unfold fJ7_copyOf_6403c_10 at h
  obtain ⟨a30, na30, h⟩ := ob h
  obtain ⟨v30, e30, h⟩ := ob h
  obtain ⟨y32, ey32, h⟩ := op h
  obtain ⟨a35, na35, h⟩ := ob h
  obtain ⟨a35_1, na35_1, h⟩ := ob h
  obtain ⟨u35, e35, h⟩ := ob h
  refine gLe.tr (wN_le e35) ?_
  cases Option.some.inj h
  exact gLe.rf _
set_option maxHeartbeats 4000000 in
set_option maxRecDepth 20000 in
theorem wJ7_copyOf_6403c_10 {z : Nat → Nat}  (C : gC p s m args meth c cJ7_copyOf_6403c 4 (some (.array (.object "java/lang/Object"))) RJ7 "copyOf" Γ)(hz : Γ.2.2.2 = z) {x0 : Option Nat} {x1 : Int32} {s0 : Option Nat} {u : gN} {res : Option Nat × gN} (h : fJ7_copyOf_6403c_10 z x0 x1 s0 u = some res) {H : Heap} {locs : List Loc} (hG : gAn Γ sB u H) (hS : va_S Γ.2.2.1 s.heap H locs) {ls : Array Slot} (hl : lv_has ls 4 [(0, va_rf x0), (1, .int x1)]) : W p l e (rmJ7_copyOf_6403c (res.2.2.1 - s.heap.size) (res.2.2.2 - sB)) s m args below meth c H locs (u.2.1 - s.heap.size) (u.2.2 - sB) (MQ below (gQ Γ (some (va_rf res.1)) res.2.1 res.2.2.1) args s (res.2.2.1 - s.heap.size) (res.2.2.2 - sB) Γ.2.2.1) (F0 m 10 ls [va_rf s0]) := by
  have hx := C.1
  have hb := C.2.1
  have hm := moJ7_copyOf_6403c_10 h
  unfold fJ7_copyOf_6403c_10 at h
  refine lv_goto (tgt := 24) hx hb dJ7_copyOf_6403c_10 (by decide) ?_
  refine gx_astore_n (r := s0) (i := 3) (lv' := [(3, va_rf s0), (0, va_rf x0), (1, .int x1)]) hx hb dJ7_copyOf_6403c_24 rfl hl (by decide) rfl (fun ls hl => ?_)
  refine gx_aload_n (r := x0) hx hb dJ7_copyOf_6403c_25 rfl (lv_at hl 1 rfl) ?_
  refine lv_iconst (v := 0) hx hb dJ7_copyOf_6403c_26 (by decide) ?_
  refine gx_aload_n (r := s0) hx hb dJ7_copyOf_6403c_27 rfl (lv_at hl 0 rfl) ?_
  refine lv_iconst (v := 0) hx hb dJ7_copyOf_6403c_28 (by decide) ?_
  refine gx_aload_n (r := x0) hx hb dJ7_copyOf_6403c_29 rfl (lv_at hl 1 rfl) ?_
  obtain ⟨a30, na30, h⟩ := ob h
  obtain ⟨v30, e30, h⟩ := ob h
  refine gz_alen C hz hG.1 hS na30 e30 dJ7_copyOf_6403c_30 ?_
  refine lv_iload_n hx hb dJ7_copyOf_6403c_31 rfl (lv_at hl 2 rfl) ?_
  refine gx_mmin C qcJ7_304 hl.1 ⟨Nat.le_of_ble_eq_true rfl, (by simp [gx_cat, gx_catI, gx_catJ])⟩ ⟨Nat.sub_le_sub_right hm.1 _, Nat.sub_le_sub_right hm.2 _⟩ dJ7_copyOf_6403c_32 ?_
  obtain ⟨y32, ey32, h⟩ := op h
  refine gx_topI ey32 ?_
  obtain ⟨a35, na35, h⟩ := ob h
  obtain ⟨a35_1, na35_1, h⟩ := ob h
  obtain ⟨u35, e35, h⟩ := ob h
  obtain ⟨g35, eg35, ev35⟩ := wN_inv e35
  replace hm : gLe u35 res.2 := by rw [ev35]; exact hm
  refine gx_copy C hG.1 hS na35 na35_1 eg35 qcJ7_150 hl.1 ⟨Nat.le_of_ble_eq_true rfl, Nat.le_of_ble_eq_true rfl⟩ dJ7_copyOf_6403c_35 (fun H locs hg hS => gy_w hG ev35 hg (fun hG => ?_))
  refine gx_aload_n (r := s0) hx hb dJ7_copyOf_6403c_38 rfl (lv_at hl 0 rfl) ?_
  cases Option.some.inj h
  exact gx_reta C (Or.inr ⟨_, rfl⟩) hG.1 hS dJ7_copyOf_6403c_39
def fJ7_copyOf_6403c (z : Nat → Nat) (x0 : Option Nat) (x1 : Int32) (x2 : Option Nat) (u : gN) : Option (Option Nat × gN) :=
  if x2 = (some (z 3)) then (
    bI (nwQ x1 u) fun q7 u7 =>
    fJ7_copyOf_6403c_10 z x0 x1 (some q7) u7 
  ) else (
    none
  )
set_option maxRecDepth 20000 in
theorem moJ7_copyOf_6403c {z : Nat → Nat} {x0 : Option Nat} {x1 : Int32} {x2 : Option Nat} {u : gN} {res : Option Nat × gN} (h : fJ7_copyOf_6403c z x0 x1 x2 u = some res) : gLe u res.2 := by
  unfold fJ7_copyOf_6403c at h
  by_cases hc : x2 = (some (z 3))
  · replace h := it_pos hc h
    obtain ⟨q7, u7, e7, h⟩ := obI h
    refine gLe.tr (nwQ_le e7) ?_
    exact moJ7_copyOf_6403c_10  h
  · replace h := it_neg hc h
    cases h
set_option maxHeartbeats 4000000 in
set_option maxRecDepth 20000 in
theorem wJ7_copyOf_6403c {z : Nat → Nat}  (C : gC p s m args meth c cJ7_copyOf_6403c 4 (some (.array (.object "java/lang/Object"))) RJ7 "copyOf" Γ)(hz : Γ.2.2.2 = z) {x0 : Option Nat} {x1 : Int32} {x2 : Option Nat} {u : gN} {res : Option Nat × gN} (h : fJ7_copyOf_6403c z x0 x1 x2 u = some res) {H : Heap} {locs : List Loc} (hG : gAn Γ sB u H) (hS : va_S Γ.2.2.1 s.heap H locs) {ls : Array Slot} (hl : lv_has ls 4 [(0, va_rf x0), (1, .int x1), (2, va_rf x2)]) : W p l e (rmJ7_copyOf_6403c (res.2.2.1 - s.heap.size) (res.2.2.2 - sB)) s m args below meth c H locs (u.2.1 - s.heap.size) (u.2.2 - sB) (MQ below (gQ Γ (some (va_rf res.1)) res.2.1 res.2.2.1) args s (res.2.2.1 - s.heap.size) (res.2.2.2 - sB) Γ.2.2.1) (F0 m 0 ls []) := by
  have hx := C.1
  have hb := C.2.1
  have hm := moJ7_copyOf_6403c h
  unfold fJ7_copyOf_6403c at h
  refine gx_aload_n (r := x2) hx hb dJ7_copyOf_6403c_0 rfl (lv_at hl 2 rfl) ?_
  refine gz_ldcM C hz klJ7_110 dJ7_copyOf_6403c_1 ?_
  refine lv_acmp_ne (tgt := 13) hx hb dJ7_copyOf_6403c_3 (by decide) (fun hc => ?_) (fun hc => ?_)
  · replace h := it_neg hc h
    refine gx_aload_n (r := x2) hx hb dJ7_copyOf_6403c_13 rfl (lv_at hl 2 rfl) ?_
    cases h
  · replace h := it_pos hc h
    refine lv_iload_n hx hb dJ7_copyOf_6403c_6 rfl (lv_at hl 1 rfl) ?_
    obtain ⟨q7, u7, e7, h⟩ := obI h
    have hm2 : gLe u7 res.2 := by
      exact moJ7_copyOf_6403c_10  h
    refine gy_newQ C hG hS e7 klJ7_2 ⟨Nat.sub_le_sub_right hm2.1 _, Nat.sub_le_sub_right hm2.2 _⟩ dJ7_copyOf_6403c_7 (fun H hG hS => ?_)
    exact wJ7_copyOf_6403c_10 C hz  h hG hS (lv_sub hl [0, 1] rfl)
theorem tJ7_copyOf_6403c {Γ : gEnv} {z : Nat → Nat} (hz : Γ.2.2.2 = z) {x0 : Option Nat} {x1 : Int32} {x2 : Option Nat} {u v : gN} {r : Option Nat} (h : fJ7_copyOf_6403c z x0 x1 x2 u = some (r, v)) : Met l yJ7_copyOf_6403c (Cond.code yJ7_copyOf_6403c cJ7_copyOf_6403c 4 (some (.array (.object "java/lang/Object"))) :: gW) (rmJ7_copyOf_6403c (v.2.1 - u.2.1) (v.2.2 - u.2.2)) (va_Pc [va_rf x0, .int x1, va_rf x2] (gPre Γ u.1 u.2.1)) (gQ Γ (some (va_rf r)) v.1 v.2.1) (v.2.1 - u.2.1) (v.2.2 - u.2.2) Γ.2.2.1 := by
  refine gx_met (nm := "copyOf") ⟨by decide +kernel, rfl, rfl⟩ (by simp [lg_sl, gx_cat, gx_catI, gx_catJ]) (fun p e s m below meth c ls C hG hl => ?_)
  have hN : s.heap.size = u.2.1 := hG.1
  have K := wJ7_copyOf_6403c (l := l) (e := e) (below := below) (sB := u.2.2) C hz h ⟨hG, Nat.le_refl _⟩ va_S.rf (by simpa [lv_args, gx_cat, gx_catI, gx_catJ] using hl)
  rw [hN, Nat.sub_self, Nat.sub_self] at K
  exact K
abbrev rmJ7_copyOf_1904c (a b : Nat) : Room := { frames := 2, cells := a, slots := b, locals := 63 }
def fJ7_copyOf_1904c_9 (z : Nat → Nat) (s0 : Option Nat) (u : gN) : Option (Option Nat × gN) :=
  some (s0, u)
set_option maxRecDepth 20000 in
theorem moJ7_copyOf_1904c_9 {z : Nat → Nat} {s0 : Option Nat} {u : gN} {res : Option Nat × gN} (h : fJ7_copyOf_1904c_9 z s0 u = some res) : gLe u res.2 := by
  unfold fJ7_copyOf_1904c_9 at h
  cases Option.some.inj h
  exact gLe.rf _
set_option maxHeartbeats 4000000 in
set_option maxRecDepth 20000 in
theorem wJ7_copyOf_1904c_9 {z : Nat → Nat}  (C : gC p s m args meth c cJ7_copyOf_1904c 2 (some (.array (.object "java/lang/Object"))) RJ7 "copyOf" Γ)(hz : Γ.2.2.2 = z) {s0 : Option Nat} {u : gN} {res : Option Nat × gN} (h : fJ7_copyOf_1904c_9 z s0 u = some res) {H : Heap} {locs : List Loc} (hG : gAn Γ sB u H) (hS : va_S Γ.2.2.1 s.heap H locs) {ls : Array Slot} (hl : lv_has ls 2 []) : W p l e (rmJ7_copyOf_1904c (res.2.2.1 - s.heap.size) (res.2.2.2 - sB)) s m args below meth c H locs (u.2.1 - s.heap.size) (u.2.2 - sB) (MQ below (gQ Γ (some (va_rf res.1)) res.2.1 res.2.2.1) args s (res.2.2.1 - s.heap.size) (res.2.2.2 - sB) Γ.2.2.1) (F0 m 9 ls [va_rf s0]) := by
  have hx := C.1
  have hb := C.2.1
  have hm := moJ7_copyOf_1904c_9 h
  unfold fJ7_copyOf_1904c_9 at h
  cases Option.some.inj h
  exact gx_reta C (Or.inr ⟨_, rfl⟩) hG.1 hS dJ7_copyOf_1904c_9
def fJ7_copyOf_1904c (z : Nat → Nat) (x0 : Option Nat) (x1 : Int32) (u : gN) : Option (Option Nat × gN) :=
  (x0).bind fun a3 =>
  (isQ u.1 a3).bind fun _ =>
  bI (fJ7_copyOf_6403c z x0 x1 (some (z 3)) u) fun r6 u6 =>
  fJ7_copyOf_1904c_9 z r6 u6 
set_option maxRecDepth 20000 in
theorem moJ7_copyOf_1904c {z : Nat → Nat} {x0 : Option Nat} {x1 : Int32} {u : gN} {res : Option Nat × gN} (h : fJ7_copyOf_1904c z x0 x1 u = some res) : gLe u res.2 := by
  unfold fJ7_copyOf_1904c at h
  obtain ⟨a3, na3, h⟩ := ob h
  obtain ⟨_, e3, h⟩ := ob h
  obtain ⟨r6, u6, e6, h⟩ := obI h
  refine gLe.tr (moJ7_copyOf_6403c e6) ?_
  exact moJ7_copyOf_1904c_9  h
set_option maxHeartbeats 4000000 in
set_option maxRecDepth 20000 in
theorem wJ7_copyOf_1904c {z : Nat → Nat}  (C : gC p s m args meth c cJ7_copyOf_1904c 2 (some (.array (.object "java/lang/Object"))) RJ7 "copyOf" Γ)(hz : Γ.2.2.2 = z) {x0 : Option Nat} {x1 : Int32} {u : gN} {res : Option Nat × gN} (h : fJ7_copyOf_1904c z x0 x1 u = some res) {H : Heap} {locs : List Loc} (hG : gAn Γ sB u H) (hS : va_S Γ.2.2.1 s.heap H locs) {ls : Array Slot} (hl : lv_has ls 2 [(0, va_rf x0), (1, .int x1)]) : W p l e (rmJ7_copyOf_1904c (res.2.2.1 - s.heap.size) (res.2.2.2 - sB)) s m args below meth c H locs (u.2.1 - s.heap.size) (u.2.2 - sB) (MQ below (gQ Γ (some (va_rf res.1)) res.2.1 res.2.2.1) args s (res.2.2.1 - s.heap.size) (res.2.2.2 - sB) Γ.2.2.1) (F0 m 0 ls []) := by
  have hx := C.1
  have hb := C.2.1
  have hm := moJ7_copyOf_1904c h
  unfold fJ7_copyOf_1904c at h
  refine gx_aload_n (r := x0) hx hb dJ7_copyOf_1904c_0 rfl (lv_at hl 0 rfl) ?_
  refine lv_iload_n hx hb dJ7_copyOf_1904c_1 rfl (lv_at hl 1 rfl) ?_
  refine gx_aload_n (r := x0) hx hb dJ7_copyOf_1904c_2 rfl (lv_at hl 0 rfl) ?_
  obtain ⟨a3, na3, h⟩ := ob h
  obtain ⟨_, e3, h⟩ := ob h
  refine gz_getC C hz hG.1 na3 e3 qcJ7_86 hl.1 ⟨Nat.le_of_ble_eq_true rfl, (by simp [gx_cat, gx_catI, gx_catJ])⟩ dJ7_copyOf_1904c_3 ?_
  obtain ⟨r6, u6, e6, h⟩ := obI h
  have hle := moJ7_copyOf_6403c e6
  have hm2 : gLe u6 res.2 := by
    exact moJ7_copyOf_1904c_9  h
  refine gx_cS C hG.1 hS [va_rf x0, .int x1, va_rf (some (z 3))] (tJ7_copyOf_6403c hz e6) qcJ7_300 ⟨rfl, rfl, Nat.le_of_ble_eq_true rfl, Nat.le_of_ble_eq_true rfl⟩ (gy_room hG hS hle ⟨Nat.sub_le_sub_right hm2.1 _, Nat.sub_le_sub_right hm2.2 _⟩) rfl hl.1 rfl (Nat.le_of_ble_eq_true rfl) (st1 := [va_rf r6]) rfl dJ7_copyOf_1904c_6 (fun H locs hg hS2 => gy_ret hG hS hle hg (fun hG => ?_))
  replace hS := hS2
  exact wJ7_copyOf_1904c_9 C hz  h hG hS (lv_sub hl [] rfl)
theorem tJ7_copyOf_1904c {Γ : gEnv} {z : Nat → Nat} (hz : Γ.2.2.2 = z) {x0 : Option Nat} {x1 : Int32} {u v : gN} {r : Option Nat} (h : fJ7_copyOf_1904c z x0 x1 u = some (r, v)) : Met l yJ7_copyOf_1904c (Cond.code yJ7_copyOf_1904c cJ7_copyOf_1904c 2 (some (.array (.object "java/lang/Object"))) :: gW) (rmJ7_copyOf_1904c (v.2.1 - u.2.1) (v.2.2 - u.2.2)) (va_Pc [va_rf x0, .int x1] (gPre Γ u.1 u.2.1)) (gQ Γ (some (va_rf r)) v.1 v.2.1) (v.2.1 - u.2.1) (v.2.2 - u.2.2) Γ.2.2.1 := by
  refine gx_met (nm := "copyOf") ⟨by decide +kernel, rfl, rfl⟩ (by simp [lg_sl, gx_cat, gx_catI, gx_catJ]) (fun p e s m below meth c ls C hG hl => ?_)
  have hN : s.heap.size = u.2.1 := hG.1
  have K := wJ7_copyOf_1904c (l := l) (e := e) (below := below) (sB := u.2.2) C hz h ⟨hG, Nat.le_refl _⟩ va_S.rf (by simpa [lv_args, gx_cat, gx_catI, gx_catJ] using hl)
  rw [hN, Nat.sub_self, Nat.sub_self] at K
  exact K
abbrev rmJ8_newLength_cabcc : Room := { frames := 1, cells := 0, slots := 0, locals := 14 }
def fJ8_newLength_cabcc (x0 : Int32) (x1 : Int32) (x2 : Int32) (u : gM) : Option (Int32 × gM) :=
  pU (if x1 < x2 then x2 else x1) fun y3 =>
  if (x0 + y3) ≤ (0 : Int32) then (
    none
  ) else (
    if (2147483639 : Int32) < (x0 + y3) then (
      none
    ) else (
      some (x0 + y3, u)
    )
  )
set_option maxHeartbeats 4000000 in
set_option maxRecDepth 20000 in
theorem wJ8_newLength_cabcc  (C : gC p s m args meth c cJ8_newLength_cabcc 4 (some .int) RJ8 "newLength" Γ){x0 : Int32} {x1 : Int32} {x2 : Int32} {u : gM} {res : Int32 × gM} (h : fJ8_newLength_cabcc x0 x1 x2 u = some res) {H : Heap} {locs : List Loc} (hG : gAg Γ u N H) (hS : va_S Γ.2.2.1 s.heap H locs) {ls : Array Slot} (hl : lv_has ls 4 [(0, .int x0), (1, .int x1), (2, .int x2)]) : W p l e rmJ8_newLength_cabcc s m args below meth c H locs 0 0 (MQ below (gQ Γ (some (.int res.1)) res.2 N) args s 0 0 Γ.2.2.1) (F0 m 0 ls []) := by
  have hx := C.1
  have hb := C.2.1
  unfold fJ8_newLength_cabcc at h
  refine lv_iload_n hx hb dJ8_newLength_cabcc_0 rfl (lv_at hl 0 rfl) ?_
  refine lv_iload_n hx hb dJ8_newLength_cabcc_1 rfl (lv_at hl 1 rfl) ?_
  refine lv_iload_n hx hb dJ8_newLength_cabcc_2 rfl (lv_at hl 2 rfl) ?_
  refine gx_mmax C qcJ8_194 hl.1 ⟨Nat.le_of_ble_eq_true rfl, (Nat.le_of_ble_eq_true rfl)⟩ ⟨Nat.zero_le _, Nat.zero_le _⟩ dJ8_newLength_cabcc_3 ?_
  obtain ⟨y3, ey3, h⟩ := op h
  refine gx_topI ey3 ?_
  refine lv_iadd hx hb dJ8_newLength_cabcc_6 ?_
  refine lv_istore_n (i := 3) (lv' := [(3, .int (x0 + y3)), (0, .int x0), (1, .int x1), (2, .int x2)]) hx hb dJ8_newLength_cabcc_7 rfl hl (by decide) rfl (fun ls hl => ?_)
  refine lv_iconst (v := 0) hx hb dJ8_newLength_cabcc_8 (by decide) ?_
  refine lv_iload_n hx hb dJ8_newLength_cabcc_9 rfl (lv_at hl 0 rfl) ?_
  refine lv_icmp_ge (tgt := 21) hx hb dJ8_newLength_cabcc_10 (by decide) (fun hc => ?_) (fun hc => ?_)
  · replace h := it_pos hc h
    refine lv_iload_n hx hb dJ8_newLength_cabcc_21 rfl (lv_at hl 1 rfl) ?_
    refine lv_iload_n hx hb dJ8_newLength_cabcc_22 rfl (lv_at hl 2 rfl) ?_
    cases h
  · replace h := it_neg hc h
    refine lv_iload_n hx hb dJ8_newLength_cabcc_13 rfl (lv_at hl 0 rfl) ?_
    refine lv_ldc (v := 2147483639) hx hb C.2.2.2.1 (C.2.2.2.2.1 _ (gW_mem kcJ8_200)) dJ8_newLength_cabcc_14 ?_
    refine lv_icmp_gt (tgt := 21) hx hb dJ8_newLength_cabcc_16 (by decide) (fun hc => ?_) (fun hc => ?_)
    · replace h := it_pos hc h
      refine lv_iload_n hx hb dJ8_newLength_cabcc_21 rfl (lv_at hl 1 rfl) ?_
      refine lv_iload_n hx hb dJ8_newLength_cabcc_22 rfl (lv_at hl 2 rfl) ?_
      cases h
    · replace h := it_neg hc h
      refine lv_iload_n hx hb dJ8_newLength_cabcc_19 rfl (lv_at hl 0 rfl) ?_
      cases Option.some.inj h
      exact gx_reti C hG hS dJ8_newLength_cabcc_20
theorem tJ8_newLength_cabcc {Γ : gEnv} {N : Nat} {x0 : Int32} {x1 : Int32} {x2 : Int32} {u v : gM} {r : Int32} (h : fJ8_newLength_cabcc x0 x1 x2 u = some (r, v)) : Met l yJ8_newLength_cabcc (Cond.code yJ8_newLength_cabcc cJ8_newLength_cabcc 4 (some .int) :: gW) rmJ8_newLength_cabcc (va_Pc [.int x0, .int x1, .int x2] (gPre Γ u N)) (gQ Γ (some (.int r)) v N) 0 0 Γ.2.2.1 :=
  gx_met (nm := "newLength") ⟨by decide +kernel, rfl, rfl⟩ (Nat.le_of_ble_eq_true rfl) (fun p e s m below meth c ls C hG hl => wJ8_newLength_cabcc C h hG va_S.rf hl)
abbrev rmJx4a65c_grow_92f84 (a b : Nat) : Room := { frames := 3, cells := a, slots := b, locals := 84 }
def fJx4a65c_grow_92f84_40 (z : Nat → Nat) (x0 : Nat) (s1 : Option Nat) (u : gN) : Option (Option Nat × gN) :=
  (wN (pV [0] 1 (va_rf s1) u.1 x0) u).bind fun u41 =>
  some (s1, u41)
set_option maxRecDepth 20000 in
theorem moJx4a65c_grow_92f84_40 {z : Nat → Nat} {x0 : Nat} {s1 : Option Nat} {u : gN} {res : Option Nat × gN} (h : fJx4a65c_grow_92f84_40 z x0 s1 u = some res) : gLe u res.2 := by
  unfold fJx4a65c_grow_92f84_40 at h
  obtain ⟨u41, e41, h⟩ := ob h
  refine gLe.tr (wN_le e41) ?_
  cases Option.some.inj h
  exact gLe.rf _
set_option maxHeartbeats 4000000 in
set_option maxRecDepth 20000 in
theorem wJx4a65c_grow_92f84_40 {z : Nat → Nat}  (C : gC p s m args meth c cJx4a65c_grow_92f84 4 (some (.array (.object "java/lang/Object"))) RJx4a65c "grow" Γ)(hz : Γ.2.2.2 = z) {x0 : Nat} {s1 : Option Nat} {u : gN} {res : Option Nat × gN} (h : fJx4a65c_grow_92f84_40 z x0 s1 u = some res) {H : Heap} {locs : List Loc} (hG : gAn Γ sB u H) (hS : va_S Γ.2.2.1 s.heap H locs) {ls : Array Slot} (hl : lv_has ls 4 []) : W p l e (rmJx4a65c_grow_92f84 (res.2.2.1 - s.heap.size) (res.2.2.2 - sB)) s m args below meth c H locs (u.2.1 - s.heap.size) (u.2.2 - sB) (MQ below (gQ Γ (some (va_rf res.1)) res.2.1 res.2.2.1) args s (res.2.2.1 - s.heap.size) (res.2.2.2 - sB) Γ.2.2.1) (F0 m 40 ls [va_rf s1, va_rf (some x0)]) := by
  have hx := C.1
  have hb := C.2.1
  have hm := moJx4a65c_grow_92f84_40 h
  unfold fJx4a65c_grow_92f84_40 at h
  refine lv_dup_x1 hx hb dJx4a65c_grow_92f84_40 (by first | rfl | exact gx_cat _) (by first | rfl | exact gx_cat _) ?_
  obtain ⟨u41, e41, h⟩ := ob h
  obtain ⟨g41, eg41, ev41⟩ := wN_inv e41
  replace hm : gLe u41 res.2 := by rw [ev41]; exact hm
  refine gx_put C hG.1 hS rfl eg41 fgJx4a65c_9 fpJx4a65c_9 (fun q => by cases q) (gx_rfn _ _ (Or.inr ⟨_, rfl⟩)).1 (gx_rfn _ _ (Or.inr ⟨_, rfl⟩)).2 dJx4a65c_grow_92f84_41 (fun H locs hg hS => gy_w hG ev41 hg (fun hG => ?_))
  cases Option.some.inj h
  exact gx_reta C (Or.inr ⟨_, rfl⟩) hG.1 hS dJx4a65c_grow_92f84_44
def fJx4a65c_grow_92f84_20 (z : Nat → Nat) (x0 : Nat) (x1 : Int32) (x2 : Int32) (u : gN) : Option (Option Nat × gN) :=
  bI (cN (fJ8_newLength_cabcc x2 (x1 - x2) (x2 >>> ((1 : Int32) &&& 31)) u.1) u) fun r27 u27 =>
  (gR [0] 1 u27.1 x0).bind fun v33 =>
  bI (fJ7_copyOf_1904c z v33 r27 u27) fun r37 u37 =>
  fJx4a65c_grow_92f84_40 z x0 r37 u37 
set_option maxRecDepth 20000 in
theorem moJx4a65c_grow_92f84_20 {z : Nat → Nat} {x0 : Nat} {x1 : Int32} {x2 : Int32} {u : gN} {res : Option Nat × gN} (h : fJx4a65c_grow_92f84_20 z x0 x1 x2 u = some res) : gLe u res.2 := by
  unfold fJx4a65c_grow_92f84_20 at h
  obtain ⟨r27, u27, e27, h⟩ := obI h
  refine gLe.tr (cN_le e27) ?_
  obtain ⟨v33, e33, h⟩ := ob h
  obtain ⟨r37, u37, e37, h⟩ := obI h
  refine gLe.tr (moJ7_copyOf_1904c e37) ?_
  exact moJx4a65c_grow_92f84_40  h
set_option maxHeartbeats 4000000 in
set_option maxRecDepth 20000 in
theorem wJx4a65c_grow_92f84_20 {z : Nat → Nat}  (C : gC p s m args meth c cJx4a65c_grow_92f84 4 (some (.array (.object "java/lang/Object"))) RJx4a65c "grow" Γ)(hz : Γ.2.2.2 = z) {x0 : Nat} {x1 : Int32} {x2 : Int32} {u : gN} {res : Option Nat × gN} (h : fJx4a65c_grow_92f84_20 z x0 x1 x2 u = some res) {H : Heap} {locs : List Loc} (hG : gAn Γ sB u H) (hS : va_S Γ.2.2.1 s.heap H locs) {ls : Array Slot} (hl : lv_has ls 4 [(0, va_rf (some x0)), (1, .int x1), (2, .int x2)]) : W p l e (rmJx4a65c_grow_92f84 (res.2.2.1 - s.heap.size) (res.2.2.2 - sB)) s m args below meth c H locs (u.2.1 - s.heap.size) (u.2.2 - sB) (MQ below (gQ Γ (some (va_rf res.1)) res.2.1 res.2.2.1) args s (res.2.2.1 - s.heap.size) (res.2.2.2 - sB) Γ.2.2.1) (F0 m 20 ls []) := by
  have hx := C.1
  have hb := C.2.1
  have hm := moJx4a65c_grow_92f84_20 h
  unfold fJx4a65c_grow_92f84_20 at h
  refine lv_iload_n hx hb dJx4a65c_grow_92f84_20 rfl (lv_at hl 2 rfl) ?_
  refine lv_iload_n hx hb dJx4a65c_grow_92f84_21 rfl (lv_at hl 1 rfl) ?_
  refine lv_iload_n hx hb dJx4a65c_grow_92f84_22 rfl (lv_at hl 2 rfl) ?_
  refine lv_isub hx hb dJx4a65c_grow_92f84_23 ?_
  refine lv_iload_n hx hb dJx4a65c_grow_92f84_24 rfl (lv_at hl 2 rfl) ?_
  refine lv_iconst (v := 1) hx hb dJx4a65c_grow_92f84_25 (by decide) ?_
  refine lv_ishr hx hb dJx4a65c_grow_92f84_26 ?_
  obtain ⟨r27, u27, e27, h⟩ := obI h
  obtain ⟨g27, eg27, ev27⟩ := cN_inv e27
  refine gx_cS C hG.1 hS [.int x2, .int (x1 - x2), .int (x2 >>> ((1 : Int32) &&& 31))] (tJ8_newLength_cabcc eg27) qcJx4a65c_73 ⟨rfl, rfl, Nat.le_of_ble_eq_true rfl, Nat.le_of_ble_eq_true rfl⟩ ⟨Nat.sub_le_sub_right hm.1 _, Nat.sub_le_sub_right hm.2 _⟩ rfl hl.1 rfl (Nat.le_of_ble_eq_true rfl) (st1 := [.int r27]) rfl dJx4a65c_grow_92f84_27 (fun H locs hg hS2 => gy_w (H0 := _) hG ev27 hg (fun hG => ?_))
  replace hS := hS2
  replace hm : gLe u27 res.2 := by rw [ev27]; exact hm
  refine lv_istore_n (i := 3) (lv' := [(3, .int r27), (0, va_rf (some x0)), (1, .int x1), (2, .int x2)]) hx hb dJx4a65c_grow_92f84_30 rfl hl (by decide) rfl (fun ls hl => ?_)
  refine gx_aload_n (r := (some x0)) hx hb dJx4a65c_grow_92f84_31 rfl (lv_at hl 1 rfl) ?_
  refine gx_aload_n (r := (some x0)) hx hb dJx4a65c_grow_92f84_32 rfl (lv_at hl 1 rfl) ?_
  obtain ⟨v33, e33, h⟩ := ob h
  refine gx_getR C hG.1 rfl e33 fgJx4a65c_9 dJx4a65c_grow_92f84_33 ?_
  refine lv_iload_n hx hb dJx4a65c_grow_92f84_36 rfl (lv_at hl 0 rfl) ?_
  obtain ⟨r37, u37, e37, h⟩ := obI h
  have hle := moJ7_copyOf_1904c e37
  have hm2 : gLe u37 res.2 := by
    exact moJx4a65c_grow_92f84_40  h
  refine gx_cS C hG.1 hS [va_rf v33, .int r27] (tJ7_copyOf_1904c hz e37) qcJx4a65c_66 ⟨rfl, rfl, Nat.le_of_ble_eq_true rfl, Nat.le_of_ble_eq_true rfl⟩ (gy_room hG hS hle ⟨Nat.sub_le_sub_right hm2.1 _, Nat.sub_le_sub_right hm2.2 _⟩) rfl hl.1 rfl (Nat.le_of_ble_eq_true rfl) (st1 := [va_rf r37, va_rf (some x0)]) rfl dJx4a65c_grow_92f84_37 (fun H locs hg hS2 => gy_ret hG hS hle hg (fun hG => ?_))
  replace hS := hS2
  exact wJx4a65c_grow_92f84_40 C hz  h hG hS (lv_sub hl [] rfl)
def fJx4a65c_grow_92f84_55 (z : Nat → Nat) (x0 : Nat) (s1 : Option Nat) (u : gN) : Option (Option Nat × gN) :=
  (wN (pV [0] 1 (va_rf s1) u.1 x0) u).bind fun u56 =>
  some (s1, u56)
set_option maxRecDepth 20000 in
theorem moJx4a65c_grow_92f84_55 {z : Nat → Nat} {x0 : Nat} {s1 : Option Nat} {u : gN} {res : Option Nat × gN} (h : fJx4a65c_grow_92f84_55 z x0 s1 u = some res) : gLe u res.2 := by
  unfold fJx4a65c_grow_92f84_55 at h
  obtain ⟨u56, e56, h⟩ := ob h
  refine gLe.tr (wN_le e56) ?_
  cases Option.some.inj h
  exact gLe.rf _
set_option maxHeartbeats 4000000 in
set_option maxRecDepth 20000 in
theorem wJx4a65c_grow_92f84_55 {z : Nat → Nat}  (C : gC p s m args meth c cJx4a65c_grow_92f84 4 (some (.array (.object "java/lang/Object"))) RJx4a65c "grow" Γ)(hz : Γ.2.2.2 = z) {x0 : Nat} {s1 : Option Nat} {u : gN} {res : Option Nat × gN} (h : fJx4a65c_grow_92f84_55 z x0 s1 u = some res) {H : Heap} {locs : List Loc} (hG : gAn Γ sB u H) (hS : va_S Γ.2.2.1 s.heap H locs) {ls : Array Slot} (hl : lv_has ls 4 []) : W p l e (rmJx4a65c_grow_92f84 (res.2.2.1 - s.heap.size) (res.2.2.2 - sB)) s m args below meth c H locs (u.2.1 - s.heap.size) (u.2.2 - sB) (MQ below (gQ Γ (some (va_rf res.1)) res.2.1 res.2.2.1) args s (res.2.2.1 - s.heap.size) (res.2.2.2 - sB) Γ.2.2.1) (F0 m 55 ls [va_rf s1, va_rf (some x0)]) := by
  have hx := C.1
  have hb := C.2.1
  have hm := moJx4a65c_grow_92f84_55 h
  unfold fJx4a65c_grow_92f84_55 at h
  refine lv_dup_x1 hx hb dJx4a65c_grow_92f84_55 (by first | rfl | exact gx_cat _) (by first | rfl | exact gx_cat _) ?_
  obtain ⟨u56, e56, h⟩ := ob h
  obtain ⟨g56, eg56, ev56⟩ := wN_inv e56
  replace hm : gLe u56 res.2 := by rw [ev56]; exact hm
  refine gx_put C hG.1 hS rfl eg56 fgJx4a65c_9 fpJx4a65c_9 (fun q => by cases q) (gx_rfn _ _ (Or.inr ⟨_, rfl⟩)).1 (gx_rfn _ _ (Or.inr ⟨_, rfl⟩)).2 dJx4a65c_grow_92f84_56 (fun H locs hg hS => gy_w hG ev56 hg (fun hG => ?_))
  cases Option.some.inj h
  exact gx_reta C (Or.inr ⟨_, rfl⟩) hG.1 hS dJx4a65c_grow_92f84_59
def fJx4a65c_grow_92f84 (z : Nat → Nat) (x0 : Nat) (x1 : Int32) (u : gN) : Option (Option Nat × gN) :=
  (gR [0] 1 u.1 x0).bind fun v1 =>
  (v1).bind fun a4 =>
  (aNz z u.1 a4).bind fun v4 =>
  if 0 < v4 then (
    fJx4a65c_grow_92f84_20 z x0 x1 v4 u 
  ) else (
    (gR [0] 1 u.1 x0).bind fun v11 =>
    if v11 = (some (z 0)) then (
      pU (if (10 : Int32) < x1 then x1 else (10 : Int32)) fun y49 =>
      bI (nwQ y49 u) fun q52 u52 =>
      fJx4a65c_grow_92f84_55 z x0 (some q52) u52 
    ) else (
      fJx4a65c_grow_92f84_20 z x0 x1 v4 u 
    )
  )
set_option maxRecDepth 20000 in
theorem moJx4a65c_grow_92f84 {z : Nat → Nat} {x0 : Nat} {x1 : Int32} {u : gN} {res : Option Nat × gN} (h : fJx4a65c_grow_92f84 z x0 x1 u = some res) : gLe u res.2 := by
  unfold fJx4a65c_grow_92f84 at h
  obtain ⟨v1, e1, h⟩ := ob h
  obtain ⟨a4, na4, h⟩ := ob h
  obtain ⟨v4, e4, h⟩ := ob h
  by_cases hc : 0 < v4
  · replace h := it_pos hc h
    exact moJx4a65c_grow_92f84_20  h
  · replace h := it_neg hc h
    obtain ⟨v11, e11, h⟩ := ob h
    by_cases hc : v11 = (some (z 0))
    · replace h := it_pos hc h
      obtain ⟨y49, ey49, h⟩ := op h
      obtain ⟨q52, u52, e52, h⟩ := obI h
      refine gLe.tr (nwQ_le e52) ?_
      exact moJx4a65c_grow_92f84_55  h
    · replace h := it_neg hc h
      exact moJx4a65c_grow_92f84_20  h
set_option maxHeartbeats 4000000 in
set_option maxRecDepth 20000 in
theorem wJx4a65c_grow_92f84 {z : Nat → Nat}  (C : gC p s m args meth c cJx4a65c_grow_92f84 4 (some (.array (.object "java/lang/Object"))) RJx4a65c "grow" Γ)(hz : Γ.2.2.2 = z) {x0 : Nat} {x1 : Int32} {u : gN} {res : Option Nat × gN} (h : fJx4a65c_grow_92f84 z x0 x1 u = some res) {H : Heap} {locs : List Loc} (hG : gAn Γ sB u H) (hS : va_S Γ.2.2.1 s.heap H locs) {ls : Array Slot} (hl : lv_has ls 4 [(0, va_rf (some x0)), (1, .int x1)]) : W p l e (rmJx4a65c_grow_92f84 (res.2.2.1 - s.heap.size) (res.2.2.2 - sB)) s m args below meth c H locs (u.2.1 - s.heap.size) (u.2.2 - sB) (MQ below (gQ Γ (some (va_rf res.1)) res.2.1 res.2.2.1) args s (res.2.2.1 - s.heap.size) (res.2.2.2 - sB) Γ.2.2.1) (F0 m 0 ls []) := by
  have hx := C.1
  have hb := C.2.1
  have hm := moJx4a65c_grow_92f84 h
  unfold fJx4a65c_grow_92f84 at h
  refine gx_aload_n (r := (some x0)) hx hb dJx4a65c_grow_92f84_0 rfl (lv_at hl 0 rfl) ?_
  obtain ⟨v1, e1, h⟩ := ob h
  refine gx_getR C hG.1 rfl e1 fgJx4a65c_9 dJx4a65c_grow_92f84_1 ?_
  obtain ⟨a4, na4, h⟩ := ob h
  obtain ⟨v4, e4, h⟩ := ob h
  refine gz_alen C hz hG.1 hS na4 e4 dJx4a65c_grow_92f84_4 ?_
  refine lv_istore_n (i := 2) (lv' := [(2, .int v4), (0, va_rf (some x0)), (1, .int x1)]) hx hb dJx4a65c_grow_92f84_5 rfl hl (by decide) rfl (fun ls hl => ?_)
  refine lv_iload_n hx hb dJx4a65c_grow_92f84_6 rfl (lv_at hl 0 rfl) ?_
  refine lv_if_gt (tgt := 20) hx hb dJx4a65c_grow_92f84_7 (by decide) (fun hc => ?_) (fun hc => ?_)
  · replace h := it_pos hc h
    exact wJx4a65c_grow_92f84_20 C hz  h hG hS (lv_sub hl [1, 2, 0] rfl)
  · replace h := it_neg hc h
    refine gx_aload_n (r := (some x0)) hx hb dJx4a65c_grow_92f84_10 rfl (lv_at hl 1 rfl) ?_
    obtain ⟨v11, e11, h⟩ := ob h
    refine gx_getR C hG.1 rfl e11 fgJx4a65c_9 dJx4a65c_grow_92f84_11 ?_
    refine gz_gets C hz hS ksJx4a65c_39 dJx4a65c_grow_92f84_14 ?_
    refine lv_acmp_eq (tgt := 45) hx hb dJx4a65c_grow_92f84_17 (by decide) (fun hc => ?_) (fun hc => ?_)
    · replace h := it_pos hc h
      refine gx_aload_n (r := (some x0)) hx hb dJx4a65c_grow_92f84_45 rfl (lv_at hl 1 rfl) ?_
      refine lv_bipush (v := 10) hx hb dJx4a65c_grow_92f84_46 (by decide) ?_
      refine lv_iload_n hx hb dJx4a65c_grow_92f84_48 rfl (lv_at hl 2 rfl) ?_
      refine gx_mmax C qcJx4a65c_79 hl.1 ⟨Nat.le_of_ble_eq_true rfl, (Nat.le_of_ble_eq_true rfl)⟩ ⟨Nat.sub_le_sub_right hm.1 _, Nat.sub_le_sub_right hm.2 _⟩ dJx4a65c_grow_92f84_49 ?_
      obtain ⟨y49, ey49, h⟩ := op h
      refine gx_topI ey49 ?_
      obtain ⟨q52, u52, e52, h⟩ := obI h
      have hm2 : gLe u52 res.2 := by
        exact moJx4a65c_grow_92f84_55  h
      refine gy_newQ C hG hS e52 klJx4a65c_7 ⟨Nat.sub_le_sub_right hm2.1 _, Nat.sub_le_sub_right hm2.2 _⟩ dJx4a65c_grow_92f84_52 (fun H hG hS => ?_)
      exact wJx4a65c_grow_92f84_55 C hz  h hG hS (lv_sub hl [] rfl)
    · replace h := it_neg hc h
      exact wJx4a65c_grow_92f84_20 C hz  h hG hS (lv_sub hl [1, 2, 0] rfl)
theorem tJx4a65c_grow_92f84 {Γ : gEnv} {z : Nat → Nat} (hz : Γ.2.2.2 = z) {x0 : Nat} {x1 : Int32} {u v : gN} {r : Option Nat} (h : fJx4a65c_grow_92f84 z x0 x1 u = some (r, v)) : Met l yJx4a65c_grow_92f84 (Cond.code yJx4a65c_grow_92f84 cJx4a65c_grow_92f84 4 (some (.array (.object "java/lang/Object"))) :: gW) (rmJx4a65c_grow_92f84 (v.2.1 - u.2.1) (v.2.2 - u.2.2)) (va_Pc [va_rf (some x0), .int x1] (gPre Γ u.1 u.2.1)) (gQ Γ (some (va_rf r)) v.1 v.2.1) (v.2.1 - u.2.1) (v.2.2 - u.2.2) Γ.2.2.1 := by
  refine gx_met (nm := "grow") ⟨by decide +kernel, rfl, rfl⟩ (Nat.le_of_ble_eq_true rfl) (fun p e s m below meth c ls C hG hl => ?_)
  have hN : s.heap.size = u.2.1 := hG.1
  have K := wJx4a65c_grow_92f84 (l := l) (e := e) (below := below) (sB := u.2.2) C hz h ⟨hG, Nat.le_refl _⟩ va_S.rf hl
  rw [hN, Nat.sub_self, Nat.sub_self] at K
  exact K
abbrev rmJx4a65c_grow_d5877 (a b : Nat) : Room := { frames := 4, cells := a, slots := b, locals := 107 }
def fJx4a65c_grow_d5877_10 (z : Nat → Nat) (s0 : Option Nat) (u : gN) : Option (Option Nat × gN) :=
  some (s0, u)
set_option maxRecDepth 20000 in
theorem moJx4a65c_grow_d5877_10 {z : Nat → Nat} {s0 : Option Nat} {u : gN} {res : Option Nat × gN} (h : fJx4a65c_grow_d5877_10 z s0 u = some res) : gLe u res.2 := by
  unfold fJx4a65c_grow_d5877_10 at h
  cases Option.some.inj h
  exact gLe.rf _
set_option maxHeartbeats 4000000 in
set_option maxRecDepth 20000 in
theorem wJx4a65c_grow_d5877_10 {z : Nat → Nat}  (C : gC p s m args meth c cJx4a65c_grow_d5877 1 (some (.array (.object "java/lang/Object"))) RJx4a65c "grow" Γ)(hz : Γ.2.2.2 = z) {s0 : Option Nat} {u : gN} {res : Option Nat × gN} (h : fJx4a65c_grow_d5877_10 z s0 u = some res) {H : Heap} {locs : List Loc} (hG : gAn Γ sB u H) (hS : va_S Γ.2.2.1 s.heap H locs) {ls : Array Slot} (hl : lv_has ls 1 []) : W p l e (rmJx4a65c_grow_d5877 (res.2.2.1 - s.heap.size) (res.2.2.2 - sB)) s m args below meth c H locs (u.2.1 - s.heap.size) (u.2.2 - sB) (MQ below (gQ Γ (some (va_rf res.1)) res.2.1 res.2.2.1) args s (res.2.2.1 - s.heap.size) (res.2.2.2 - sB) Γ.2.2.1) (F0 m 10 ls [va_rf s0]) := by
  have hx := C.1
  have hb := C.2.1
  have hm := moJx4a65c_grow_d5877_10 h
  unfold fJx4a65c_grow_d5877_10 at h
  cases Option.some.inj h
  exact gx_reta C (Or.inr ⟨_, rfl⟩) hG.1 hS dJx4a65c_grow_d5877_10
def fJx4a65c_grow_d5877 (z : Nat → Nat) (x0 : Nat) (u : gN) : Option (Option Nat × gN) :=
  (gI [0] 2 u.1 x0).bind fun v2 =>
  (gO [0] u.1 x0).bind fun _ =>
  bI (fJx4a65c_grow_92f84 z x0 (v2 + (1 : Int32)) u) fun r7 u7 =>
  fJx4a65c_grow_d5877_10 z r7 u7 
set_option maxRecDepth 20000 in
theorem moJx4a65c_grow_d5877 {z : Nat → Nat} {x0 : Nat} {u : gN} {res : Option Nat × gN} (h : fJx4a65c_grow_d5877 z x0 u = some res) : gLe u res.2 := by
  unfold fJx4a65c_grow_d5877 at h
  obtain ⟨v2, e2, h⟩ := ob h
  obtain ⟨_, eo7, h⟩ := ob h
  obtain ⟨r7, u7, e7, h⟩ := obI h
  refine gLe.tr (moJx4a65c_grow_92f84 e7) ?_
  exact moJx4a65c_grow_d5877_10  h
set_option maxHeartbeats 4000000 in
set_option maxRecDepth 20000 in
theorem wJx4a65c_grow_d5877 {z : Nat → Nat}  (C : gC p s m args meth c cJx4a65c_grow_d5877 1 (some (.array (.object "java/lang/Object"))) RJx4a65c "grow" Γ)(hz : Γ.2.2.2 = z) {x0 : Nat} {u : gN} {res : Option Nat × gN} (h : fJx4a65c_grow_d5877 z x0 u = some res) {H : Heap} {locs : List Loc} (hG : gAn Γ sB u H) (hS : va_S Γ.2.2.1 s.heap H locs) {ls : Array Slot} (hl : lv_has ls 1 [(0, va_rf (some x0))]) : W p l e (rmJx4a65c_grow_d5877 (res.2.2.1 - s.heap.size) (res.2.2.2 - sB)) s m args below meth c H locs (u.2.1 - s.heap.size) (u.2.2 - sB) (MQ below (gQ Γ (some (va_rf res.1)) res.2.1 res.2.2.1) args s (res.2.2.1 - s.heap.size) (res.2.2.2 - sB) Γ.2.2.1) (F0 m 0 ls []) := by
  have hx := C.1
  have hb := C.2.1
  have hm := moJx4a65c_grow_d5877 h
  unfold fJx4a65c_grow_d5877 at h
  refine gx_aload_n (r := (some x0)) hx hb dJx4a65c_grow_d5877_0 rfl (lv_at hl 0 rfl) ?_
  refine gx_aload_n (r := (some x0)) hx hb dJx4a65c_grow_d5877_1 rfl (lv_at hl 0 rfl) ?_
  obtain ⟨v2, e2, h⟩ := ob h
  refine gx_getI C hG.1 rfl e2 fgJx4a65c_48 dJx4a65c_grow_d5877_2 ?_
  refine lv_iconst (v := 1) hx hb dJx4a65c_grow_d5877_5 (by decide) ?_
  refine lv_iadd hx hb dJx4a65c_grow_d5877_6 ?_
  obtain ⟨_, eo7, h⟩ := ob h
  obtain ⟨r7, u7, e7, h⟩ := obI h
  have hle := moJx4a65c_grow_92f84 e7
  have hm2 : gLe u7 res.2 := by
    exact moJx4a65c_grow_d5877_10  h
  refine gx_cV C hG.1 hS [.int (v2 + (1 : Int32))] rfl eo7 (tJx4a65c_grow_92f84 hz e7) qcJx4a65c_69 ⟨rfl, rfl, Nat.le_of_ble_eq_true rfl, Nat.le_of_ble_eq_true rfl⟩ (gy_room hG hS hle ⟨Nat.sub_le_sub_right hm2.1 _, Nat.sub_le_sub_right hm2.2 _⟩) rfl hl.1 rfl (Nat.le_of_ble_eq_true rfl) (st1 := [va_rf r7]) rfl dJx4a65c_grow_d5877_7 (fun H locs hg hS2 => gy_ret hG hS hle hg (fun hG => ?_))
  replace hS := hS2
  exact wJx4a65c_grow_d5877_10 C hz  h hG hS (lv_sub hl [] rfl)
theorem tJx4a65c_grow_d5877 {Γ : gEnv} {z : Nat → Nat} (hz : Γ.2.2.2 = z) {x0 : Nat} {u v : gN} {r : Option Nat} (h : fJx4a65c_grow_d5877 z x0 u = some (r, v)) : Met l yJx4a65c_grow_d5877 (Cond.code yJx4a65c_grow_d5877 cJx4a65c_grow_d5877 1 (some (.array (.object "java/lang/Object"))) :: gW) (rmJx4a65c_grow_d5877 (v.2.1 - u.2.1) (v.2.2 - u.2.2)) (va_Pc [va_rf (some x0)] (gPre Γ u.1 u.2.1)) (gQ Γ (some (va_rf r)) v.1 v.2.1) (v.2.1 - u.2.1) (v.2.2 - u.2.2) Γ.2.2.1 := by
  refine gx_met (nm := "grow") ⟨by decide +kernel, rfl, rfl⟩ (Nat.le_of_ble_eq_true rfl) (fun p e s m below meth c ls C hG hl => ?_)
  have hN : s.heap.size = u.2.1 := hG.1
  have K := wJx4a65c_grow_d5877 (l := l) (e := e) (below := below) (sB := u.2.2) C hz h ⟨hG, Nat.le_refl _⟩ va_S.rf hl
  rw [hN, Nat.sub_self, Nat.sub_self] at K
  exact K
abbrev rmJx4a65c_add_72be8 (a b : Nat) : Room := { frames := 5, cells := a, slots := b, locals := 127 }
def fJx4a65c_add_72be8_11 (z : Nat → Nat) (x0 : Nat) (x1 : Option Nat) (x2 : Option Nat) (x3 : Int32) (u : gN) : Option (gN) :=
  (x2).bind fun a14 =>
  (wN (uQ u.1 a14 x3 x1) u).bind fun u14 =>
  (wN (pV [0] 2 (.int (x3 + (1 : Int32))) u14.1 x0) u14).bind fun u19 =>
  some u19
set_option maxRecDepth 20000 in
theorem moJx4a65c_add_72be8_11 {z : Nat → Nat} {x0 : Nat} {x1 : Option Nat} {x2 : Option Nat} {x3 : Int32} {u : gN} {res : gN} (h : fJx4a65c_add_72be8_11 z x0 x1 x2 x3 u = some res) : gLe u res := by
  unfold fJx4a65c_add_72be8_11 at h
  obtain ⟨a14, na14, h⟩ := ob h
  obtain ⟨u14, e14, h⟩ := ob h
  refine gLe.tr (wN_le e14) ?_
  obtain ⟨u19, e19, h⟩ := ob h
  refine gLe.tr (wN_le e19) ?_
  cases Option.some.inj h
  exact gLe.rf _
set_option maxHeartbeats 4000000 in
set_option maxRecDepth 20000 in
theorem wJx4a65c_add_72be8_11 {z : Nat → Nat}  (C : gC p s m args meth c cJx4a65c_add_72be8 4 none RJx4a65c "add" Γ)(hz : Γ.2.2.2 = z) {x0 : Nat} {x1 : Option Nat} {x2 : Option Nat} {x3 : Int32} {u : gN} {res : gN} (h : fJx4a65c_add_72be8_11 z x0 x1 x2 x3 u = some res) {H : Heap} {locs : List Loc} (hG : gAn Γ sB u H) (hS : va_S Γ.2.2.1 s.heap H locs) {ls : Array Slot} (hl : lv_has ls 4 [(0, va_rf (some x0)), (1, va_rf x1), (2, va_rf x2), (3, .int x3)]) : W p l e (rmJx4a65c_add_72be8 (res.2.1 - s.heap.size) (res.2.2 - sB)) s m args below meth c H locs (u.2.1 - s.heap.size) (u.2.2 - sB) (MQ below (gQ Γ none res.1 res.2.1) args s (res.2.1 - s.heap.size) (res.2.2 - sB) Γ.2.2.1) (F0 m 11 ls []) := by
  have hx := C.1
  have hb := C.2.1
  have hm := moJx4a65c_add_72be8_11 h
  unfold fJx4a65c_add_72be8_11 at h
  refine gx_aload_n (r := x2) hx hb dJx4a65c_add_72be8_11 rfl (lv_at hl 2 rfl) ?_
  refine lv_iload_n hx hb dJx4a65c_add_72be8_12 rfl (lv_at hl 3 rfl) ?_
  refine gx_aload_n (r := x1) hx hb dJx4a65c_add_72be8_13 rfl (lv_at hl 1 rfl) ?_
  obtain ⟨a14, na14, h⟩ := ob h
  obtain ⟨u14, e14, h⟩ := ob h
  obtain ⟨g14, eg14, ev14⟩ := wN_inv e14
  replace hm : gLe u14 res := by rw [ev14]; exact hm
  refine gx_aast C hG.1 hS na14 eg14 dJx4a65c_add_72be8_14 (fun H locs hg hS => gy_w hG ev14 hg (fun hG => ?_))
  refine gx_aload_n (r := (some x0)) hx hb dJx4a65c_add_72be8_15 rfl (lv_at hl 0 rfl) ?_
  refine lv_iload_n hx hb dJx4a65c_add_72be8_16 rfl (lv_at hl 3 rfl) ?_
  refine lv_iconst (v := 1) hx hb dJx4a65c_add_72be8_17 (by decide) ?_
  refine lv_iadd hx hb dJx4a65c_add_72be8_18 ?_
  obtain ⟨u19, e19, h⟩ := ob h
  obtain ⟨g19, eg19, ev19⟩ := wN_inv e19
  replace hm : gLe u19 res := by rw [ev19]; exact hm
  refine gx_put C hG.1 hS rfl eg19 fgJx4a65c_48 fpJx4a65c_48 (fun q => by cases q) rfl rfl dJx4a65c_add_72be8_19 (fun H locs hg hS => gy_w hG ev19 hg (fun hG => ?_))
  cases Option.some.inj h
  exact gx_retv C hG.1 hS dJx4a65c_add_72be8_22
def fJx4a65c_add_72be8_10 (z : Nat → Nat) (x0 : Nat) (x1 : Option Nat) (x3 : Int32) (s0 : Option Nat) (u : gN) : Option (gN) :=
  fJx4a65c_add_72be8_11 z x0 x1 s0 x3 u 
set_option maxRecDepth 20000 in
theorem moJx4a65c_add_72be8_10 {z : Nat → Nat} {x0 : Nat} {x1 : Option Nat} {x3 : Int32} {s0 : Option Nat} {u : gN} {res : gN} (h : fJx4a65c_add_72be8_10 z x0 x1 x3 s0 u = some res) : gLe u res := by
  unfold fJx4a65c_add_72be8_10 at h
  exact moJx4a65c_add_72be8_11  h
set_option maxHeartbeats 4000000 in
set_option maxRecDepth 20000 in
theorem wJx4a65c_add_72be8_10 {z : Nat → Nat}  (C : gC p s m args meth c cJx4a65c_add_72be8 4 none RJx4a65c "add" Γ)(hz : Γ.2.2.2 = z) {x0 : Nat} {x1 : Option Nat} {x3 : Int32} {s0 : Option Nat} {u : gN} {res : gN} (h : fJx4a65c_add_72be8_10 z x0 x1 x3 s0 u = some res) {H : Heap} {locs : List Loc} (hG : gAn Γ sB u H) (hS : va_S Γ.2.2.1 s.heap H locs) {ls : Array Slot} (hl : lv_has ls 4 [(0, va_rf (some x0)), (1, va_rf x1), (3, .int x3)]) : W p l e (rmJx4a65c_add_72be8 (res.2.1 - s.heap.size) (res.2.2 - sB)) s m args below meth c H locs (u.2.1 - s.heap.size) (u.2.2 - sB) (MQ below (gQ Γ none res.1 res.2.1) args s (res.2.1 - s.heap.size) (res.2.2 - sB) Γ.2.2.1) (F0 m 10 ls [va_rf s0]) := by
  have hx := C.1
  have hb := C.2.1
  have hm := moJx4a65c_add_72be8_10 h
  unfold fJx4a65c_add_72be8_10 at h
  refine gx_astore_n (r := s0) (i := 2) (lv' := [(2, va_rf s0), (0, va_rf (some x0)), (1, va_rf x1), (3, .int x3)]) hx hb dJx4a65c_add_72be8_10 rfl hl (by decide) (by simp [gx_cat, gx_catI, gx_catJ]) (fun ls hl => ?_)
  exact wJx4a65c_add_72be8_11 C hz  h hG hS (lv_sub hl [1, 2, 0, 3] rfl)
def fJx4a65c_add_72be8 (z : Nat → Nat) (x0 : Nat) (x1 : Option Nat) (x2 : Option Nat) (x3 : Int32) (u : gN) : Option (gN) :=
  (x2).bind fun a2 =>
  (aNz z u.1 a2).bind fun v2 =>
  if x3 = v2 then (
    (gO [0] u.1 x0).bind fun _ =>
    bI (fJx4a65c_grow_d5877 z x0 u) fun r7 u7 =>
    fJx4a65c_add_72be8_10 z x0 x1 x3 r7 u7 
  ) else (
    fJx4a65c_add_72be8_11 z x0 x1 x2 x3 u 
  )
set_option maxRecDepth 20000 in
theorem moJx4a65c_add_72be8 {z : Nat → Nat} {x0 : Nat} {x1 : Option Nat} {x2 : Option Nat} {x3 : Int32} {u : gN} {res : gN} (h : fJx4a65c_add_72be8 z x0 x1 x2 x3 u = some res) : gLe u res := by
  unfold fJx4a65c_add_72be8 at h
  obtain ⟨a2, na2, h⟩ := ob h
  obtain ⟨v2, e2, h⟩ := ob h
  by_cases hc : x3 = v2
  · replace h := it_pos hc h
    obtain ⟨_, eo7, h⟩ := ob h
    obtain ⟨r7, u7, e7, h⟩ := obI h
    refine gLe.tr (moJx4a65c_grow_d5877 e7) ?_
    exact moJx4a65c_add_72be8_10  h
  · replace h := it_neg hc h
    exact moJx4a65c_add_72be8_11  h
set_option maxHeartbeats 4000000 in
set_option maxRecDepth 20000 in
theorem wJx4a65c_add_72be8 {z : Nat → Nat}  (C : gC p s m args meth c cJx4a65c_add_72be8 4 none RJx4a65c "add" Γ)(hz : Γ.2.2.2 = z) {x0 : Nat} {x1 : Option Nat} {x2 : Option Nat} {x3 : Int32} {u : gN} {res : gN} (h : fJx4a65c_add_72be8 z x0 x1 x2 x3 u = some res) {H : Heap} {locs : List Loc} (hG : gAn Γ sB u H) (hS : va_S Γ.2.2.1 s.heap H locs) {ls : Array Slot} (hl : lv_has ls 4 [(0, va_rf (some x0)), (1, va_rf x1), (2, va_rf x2), (3, .int x3)]) : W p l e (rmJx4a65c_add_72be8 (res.2.1 - s.heap.size) (res.2.2 - sB)) s m args below meth c H locs (u.2.1 - s.heap.size) (u.2.2 - sB) (MQ below (gQ Γ none res.1 res.2.1) args s (res.2.1 - s.heap.size) (res.2.2 - sB) Γ.2.2.1) (F0 m 0 ls []) := by
  have hx := C.1
  have hb := C.2.1
  have hm := moJx4a65c_add_72be8 h
  unfold fJx4a65c_add_72be8 at h
  refine lv_iload_n hx hb dJx4a65c_add_72be8_0 rfl (lv_at hl 3 rfl) ?_
  refine gx_aload_n (r := x2) hx hb dJx4a65c_add_72be8_1 rfl (lv_at hl 2 rfl) ?_
  obtain ⟨a2, na2, h⟩ := ob h
  obtain ⟨v2, e2, h⟩ := ob h
  refine gz_alen C hz hG.1 hS na2 e2 dJx4a65c_add_72be8_2 ?_
  refine lv_icmp_ne (tgt := 11) hx hb dJx4a65c_add_72be8_3 (by decide) (fun hc => ?_) (fun hc => ?_)
  · replace h := it_neg hc h
    exact wJx4a65c_add_72be8_11 C hz  h hG hS (lv_sub hl [0, 1, 2, 3] rfl)
  · replace h := it_pos hc h
    refine gx_aload_n (r := (some x0)) hx hb dJx4a65c_add_72be8_6 rfl (lv_at hl 0 rfl) ?_
    obtain ⟨_, eo7, h⟩ := ob h
    obtain ⟨r7, u7, e7, h⟩ := obI h
    have hle := moJx4a65c_grow_d5877 e7
    have hm2 : gLe u7 res := by
      exact moJx4a65c_add_72be8_10  h
    refine gx_cV C hG.1 hS [] rfl eo7 (tJx4a65c_grow_d5877 hz e7) qcJx4a65c_129 ⟨rfl, rfl, Nat.le_of_ble_eq_true rfl, Nat.le_of_ble_eq_true rfl⟩ (gy_room hG hS hle ⟨Nat.sub_le_sub_right hm2.1 _, Nat.sub_le_sub_right hm2.2 _⟩) rfl hl.1 rfl (Nat.le_of_ble_eq_true rfl) (st1 := [va_rf r7]) rfl dJx4a65c_add_72be8_7 (fun H locs hg hS2 => gy_ret hG hS hle hg (fun hG => ?_))
    replace hS := hS2
    exact wJx4a65c_add_72be8_10 C hz  h hG hS (lv_sub hl [0, 1, 3] rfl)
theorem tJx4a65c_add_72be8 {Γ : gEnv} {z : Nat → Nat} (hz : Γ.2.2.2 = z) {x0 : Nat} {x1 : Option Nat} {x2 : Option Nat} {x3 : Int32} {u v : gN} (h : fJx4a65c_add_72be8 z x0 x1 x2 x3 u = some v) : Met l yJx4a65c_add_72be8 (Cond.code yJx4a65c_add_72be8 cJx4a65c_add_72be8 4 none :: gW) (rmJx4a65c_add_72be8 (v.2.1 - u.2.1) (v.2.2 - u.2.2)) (va_Pc [va_rf (some x0), va_rf x1, va_rf x2, .int x3] (gPre Γ u.1 u.2.1)) (gQ Γ none v.1 v.2.1) (v.2.1 - u.2.1) (v.2.2 - u.2.2) Γ.2.2.1 := by
  refine gx_met (nm := "add") ⟨by decide +kernel, rfl, rfl⟩ (by simp [lg_sl, gx_cat, gx_catI, gx_catJ]) (fun p e s m below meth c ls C hG hl => ?_)
  have hN : s.heap.size = u.2.1 := hG.1
  have K := wJx4a65c_add_72be8 (l := l) (e := e) (below := below) (sB := u.2.2) C hz h ⟨hG, Nat.le_refl _⟩ va_S.rf (by simpa [lv_args, gx_cat, gx_catI, gx_catJ] using hl)
  rw [hN, Nat.sub_self, Nat.sub_self] at K
  exact K
end
