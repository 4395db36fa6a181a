section
variable {p : Program} {l : Launch} {e : Env} {s : State} {m : MethodId} {args : Array Value} {below : List Frame} {meth : Method} {c : Code} {Γ : gEnv} {N sB : Nat}
abbrev rmJ7_fill_53178 : Room := { frames := 0, cells := 0, slots := 0, locals := 0 }
def fJ7_fill_53178_5_b (x0 : Option Nat) (x1 : Int32) (x2 : Int32) (x3 : Int32) (u : gM) (k5 : Option Nat → Int32 → Int32 → Int32 → gM → Option (gM)) : Option (gM) :=
  if x3 ≤ x2 then (
    some u
  ) else (
    (x0).bind fun a13 =>
    (uI u a13 x2 x1).bind fun u13 =>
    k5 x0 x1 (x2 + (1 : Int32)) x3 u13
  )
set_option maxHeartbeats 4000000 in
set_option maxRecDepth 20000 in
theorem wJ7_fill_53178_5_b  (C : gC p s m args meth c cJ7_fill_53178 4 none RJ7 "fill" Γ){x0 : Option Nat} {x1 : Int32} {x2 : Int32} {x3 : Int32} {u : gM} {res : gM} {k5 : Option Nat → Int32 → Int32 → Int32 → gM → Option (gM)} (hk5 : ∀ (x0 : Option Nat) (x1 : Int32) (x2 : Int32) (x3 : Int32) (u : gM) (H : Heap) (locs : List Loc) (ls : Array Slot), k5 x0 x1 x2 x3 u = some res → gAg Γ u N H → va_S Γ.2.2.1 s.heap H locs → lv_has ls 4 [(0, va_rf x0), (1, .int x1), (2, .int x2), (3, .int x3)] → W p l e rmJ7_fill_53178 s m args below meth c H locs 0 0 (MQ below (gQ Γ none res N) args s 0 0 Γ.2.2.1) (F0 m 5 ls [])) (h : fJ7_fill_53178_5_b x0 x1 x2 x3 u k5 = some res) {H : Heap} {locs : List Loc} (hG : gAg Γ u N H) (hS : va_S Γ.2.2.1 s.heap H locs) {ls : Array Slot} (hl : lv_has ls 4 [(0, va_rf x0), (1, .int x1), (2, .int x2), (3, .int x3)]) : W p l e rmJ7_fill_53178 s m args below meth c H locs 0 0 (MQ below (gQ Γ none res N) args s 0 0 Γ.2.2.1) (F0 m 5 ls []) := by
  have hx := C.1
  have hb := C.2.1
  unfold fJ7_fill_53178_5_b at h
  refine lv_iload_n hx hb dJ7_fill_53178_5 rfl (lv_at hl 2 rfl) ?_
  refine lv_iload_n hx hb dJ7_fill_53178_6 rfl (lv_at hl 3 rfl) ?_
  refine lv_icmp_ge (tgt := 20) hx hb dJ7_fill_53178_7 (by decide) (fun hc => ?_) (fun hc => ?_)
  · replace h := it_pos hc h
    cases Option.some.inj h
    exact gx_retv C hG hS dJ7_fill_53178_20
  · replace h := it_neg hc h
    refine gx_aload_n (r := x0) hx hb dJ7_fill_53178_10 rfl (lv_at hl 0 rfl) ?_
    refine lv_iload_n hx hb dJ7_fill_53178_11 rfl (lv_at hl 2 rfl) ?_
    refine lv_iload_n hx hb dJ7_fill_53178_12 rfl (lv_at hl 1 rfl) ?_
    obtain ⟨a13, na13, h⟩ := ob h
    obtain ⟨u13, e13, h⟩ := ob h
    refine gx_iast C hG hS na13 e13 dJ7_fill_53178_13 (fun H locs hG hS => ?_)
    refine lv_iinc (v := x2 + (1 : Int32)) (lv' := [(2, .int (x2 + (1 : Int32))), (0, va_rf x0), (1, .int x1), (3, .int x3)]) hx hb dJ7_fill_53178_14 hl (k := 2) rfl rfl (by decide) rfl (fun ls hl => ?_)
    refine lv_goto (tgt := 5) hx hb dJ7_fill_53178_17 (by decide) ?_
    exact hk5 _ _ _ _ _ _ _ _ h hG hS (lv_sub hl [1, 2, 0, 3] rfl)
def fJ7_fill_53178_5 : Nat → Option Nat → Int32 → Int32 → Int32 → gM → Option (gM)
  | 0 => fun _ _ _ _ _ => none
  | n + 1 => fun x0 x1 x2 x3 u => fJ7_fill_53178_5_b x0 x1 x2 x3 u (fJ7_fill_53178_5 n) 
theorem wJ7_fill_53178_5 (C : gC p s m args meth c cJ7_fill_53178 4 none RJ7 "fill" Γ) {res : gM} (n : Nat) : ∀ {x0 : Option Nat} {x1 : Int32} {x2 : Int32} {x3 : Int32} {u : gM} {H : Heap} {locs : List Loc} {ls : Array Slot}, fJ7_fill_53178_5 n x0 x1 x2 x3 u = some res → gAg Γ u N H → va_S Γ.2.2.1 s.heap H locs → lv_has ls 4 [(0, va_rf x0), (1, .int x1), (2, .int x2), (3, .int x3)] → W p l e rmJ7_fill_53178 s m args below meth c H locs 0 0 (MQ below (gQ Γ none res N) args s 0 0 Γ.2.2.1) (F0 m 5 ls []) := by
  induction n with
  | zero => intro _ _ _ _ _ _ _ _ h _ _ _; cases (show (none : Option (gM)) = some res from h)
  | succ n ih => intro _ _ _ _ _ _ _ _ h hG hS hl; exact wJ7_fill_53178_5_b C (fun _ _ _ _ _ _ _ _ h hG hS hl => ih h hG hS hl) h hG hS hl
def fJ7_fill_53178 (x0 : Option Nat) (x1 : Int32) (u : gM) : Option (gM) :=
  (x0).bind fun a3 =>
  (aN u a3).bind fun v3 =>
  fJ7_fill_53178_5  FU x0 x1 (0 : Int32) v3 u
set_option maxHeartbeats 4000000 in
set_option maxRecDepth 20000 in
theorem wJ7_fill_53178  (C : gC p s m args meth c cJ7_fill_53178 4 none RJ7 "fill" Γ){x0 : Option Nat} {x1 : Int32} {u : gM} {res : gM} (h : fJ7_fill_53178 x0 x1 u = some res) {H : Heap} {locs : List Loc} (hG : gAg Γ u N H) (hS : va_S Γ.2.2.1 s.heap H locs) {ls : Array Slot} (hl : lv_has ls 4 [(0, va_rf x0), (1, .int x1)]) : W p l e rmJ7_fill_53178 s m args below meth c H locs 0 0 (MQ below (gQ Γ none res N) args s 0 0 Γ.2.2.1) (F0 m 0 ls []) := by
  have hx := C.1
  have hb := C.2.1
  unfold fJ7_fill_53178 at h
  refine lv_iconst (v := 0) hx hb dJ7_fill_53178_0 (by decide) ?_
  refine lv_istore_n (i := 2) (lv' := [(2, .int (0 : Int32)), (0, va_rf x0), (1, .int x1)]) hx hb dJ7_fill_53178_1 rfl hl (by decide) rfl (fun ls hl => ?_)
  refine gx_aload_n (r := x0) hx hb dJ7_fill_53178_2 rfl (lv_at hl 1 rfl) ?_
  obtain ⟨a3, na3, h⟩ := ob h
  obtain ⟨v3, e3, h⟩ := ob h
  refine gx_alen C hG na3 e3 dJ7_fill_53178_3 ?_
  refine lv_istore_n (i := 3) (lv' := [(3, .int v3), (2, .int (0 : Int32)), (0, va_rf x0), (1, .int x1)]) hx hb dJ7_fill_53178_4 rfl hl (by decide) rfl (fun ls hl => ?_)
  exact wJ7_fill_53178_5 C  FU h hG hS (lv_sub hl [2, 3, 1, 0] rfl)
theorem tJ7_fill_53178 {Γ : gEnv} {N : Nat} {x0 : Option Nat} {x1 : Int32} {u v : gM} (h : fJ7_fill_53178 x0 x1 u = some v) : Met l yJ7_fill_53178 (Cond.code yJ7_fill_53178 cJ7_fill_53178 4 none :: gW) rmJ7_fill_53178 (va_Pc [va_rf x0, .int x1] (gPre Γ u N)) (gQ Γ none v N) 0 0 Γ.2.2.1 :=
  gx_met (nm := "fill") ⟨by decide +kernel, rfl, rfl⟩ (by simp [lg_sl, gx_cat, gx_catI, gx_catJ]) (fun p e s m below meth c ls C hG hl => wJ7_fill_53178 C h hG va_S.rf (by simpa [lv_args, gx_cat, gx_catI, gx_catJ] using hl))
abbrev rmX8_init (a b : Nat) : Room := { frames := 1, cells := a, slots := b, locals := 12 }
def fX8_init_8 (x0 : Nat) (x1 : Int32) (x2 : Int32) (x3 : Int32) (x4 : Int32) (x5 : Int32) (s1 : Option Nat) (u : gN) : Option (gN) :=
  (wN (pV [9, 6] 5 (va_rf s1) u.1 x0) u).bind fun u8 =>
  (wN (pV [9, 6] 6 (.int (0 : Int32)) u8.1 x0) u8).bind fun u13 =>
  (wN (pV [9, 6] 7 (.int (-1 : Int32)) u13.1 x0) u13).bind fun u18 =>
  (wN (pV [9, 6] 8 (.int (0 : Int32)) u18.1 x0) u18).bind fun u23 =>
  (wN (pV [9, 6] 9 (.int (0 : Int32)) u23.1 x0) u23).bind fun u28 =>
  (wN (pV [9, 6] 10 (.int (0 : Int32)) u28.1 x0) u28).bind fun u33 =>
  (wN (pV [9, 6] 11 (va_rf none) u33.1 x0) u33).bind fun u38 =>
  (wN (pV [9, 6] 0 (.int x1) u38.1 x0) u38).bind fun u43 =>
  (wN (pV [9, 6] 1 (.int x2) u43.1 x0) u43).bind fun u48 =>
  (wN (pV [9, 6] 2 (.int x3) u48.1 x0) u48).bind fun u53 =>
  (wN (pV [9, 6] 3 (.int x4) u53.1 x0) u53).bind fun u59 =>
  (wN (pV [9, 6] 4 (.int x5) u59.1 x0) u59).bind fun u65 =>
  some u65
set_option maxRecDepth 20000 in
theorem moX8_init_8 {x0 : Nat} {x1 : Int32} {x2 : Int32} {x3 : Int32} {x4 : Int32} {x5 : Int32} {s1 : Option Nat} {u : gN} {res : gN} (h : fX8_init_8 x0 x1 x2 x3 x4 x5 s1 u = some res) : gLe u res := by
  unfold fX8_init_8 at h
  obtain ⟨u8, e8, h⟩ := ob h
  refine gLe.tr (wN_le e8) ?_
  obtain ⟨u13, e13, h⟩ := ob h
  refine gLe.tr (wN_le e13) ?_
  obtain ⟨u18, e18, h⟩ := ob h
  refine gLe.tr (wN_le e18) ?_
  obtain ⟨u23, e23, h⟩ := ob h
  refine gLe.tr (wN_le e23) ?_
  obtain ⟨u28, e28, h⟩ := ob h
  refine gLe.tr (wN_le e28) ?_
  obtain ⟨u33, e33, h⟩ := ob h
  refine gLe.tr (wN_le e33) ?_
  obtain ⟨u38, e38, h⟩ := ob h
  refine gLe.tr (wN_le e38) ?_
  obtain ⟨u43, e43, h⟩ := ob h
  refine gLe.tr (wN_le e43) ?_
  obtain ⟨u48, e48, h⟩ := ob h
  refine gLe.tr (wN_le e48) ?_
  obtain ⟨u53, e53, h⟩ := ob h
  refine gLe.tr (wN_le e53) ?_
  obtain ⟨u59, e59, h⟩ := ob h
  refine gLe.tr (wN_le e59) ?_
  obtain ⟨u65, e65, h⟩ := ob h
  refine gLe.tr (wN_le e65) ?_
  cases Option.some.inj h
  exact gLe.rf _
set_option maxHeartbeats 4000000 in
set_option maxRecDepth 20000 in
theorem wX8_init_8  (C : gC p s m args meth c cX8_init 6 none RX8 "<init>" Γ){x0 : Nat} {x1 : Int32} {x2 : Int32} {x3 : Int32} {x4 : Int32} {x5 : Int32} {s1 : Option Nat} {u : gN} {res : gN} (h : fX8_init_8 x0 x1 x2 x3 x4 x5 s1 u = some res) {H : Heap} {locs : List Loc} (hG : gAn Γ sB u H) (hS : va_S Γ.2.2.1 s.heap H locs) {ls : Array Slot} (hl : lv_has ls 6 [(0, va_rf (some x0)), (1, .int x1), (2, .int x2), (3, .int x3), (4, .int x4), (5, .int x5)]) : W p l e (rmX8_init (res.2.1 - s.heap.size) (res.2.2 - sB)) s m args below meth c H locs (u.2.1 - s.heap.size) (u.2.2 - sB) (MQ below (gQ Γ none res.1 res.2.1) args s (res.2.1 - s.heap.size) (res.2.2 - sB) Γ.2.2.1) (F0 m 8 ls [va_rf s1, va_rf (some x0)]) := by
  have hx := C.1
  have hb := C.2.1
  have hm := moX8_init_8 h
  unfold fX8_init_8 at h
  obtain ⟨u8, e8, h⟩ := ob h
  obtain ⟨g8, eg8, ev8⟩ := wN_inv e8
  replace hm : gLe u8 res := by rw [ev8]; exact hm
  refine gx_put C hG.1 hS rfl eg8 fgX8_9 fpX8_9 (fun _ => rfl) (gx_rfn _ _ (Or.inr ⟨_, rfl⟩)).1 (gx_rfn _ _ (Or.inr ⟨_, rfl⟩)).2 dX8_init_8 (fun H locs hg hS => gy_w hG ev8 hg (fun hG => ?_))
  refine gx_aload_n (r := (some x0)) hx hb dX8_init_11 rfl (lv_at hl 0 rfl) ?_
  refine lv_iconst (v := 0) hx hb dX8_init_12 (by decide) ?_
  obtain ⟨u13, e13, h⟩ := ob h
  obtain ⟨g13, eg13, ev13⟩ := wN_inv e13
  replace hm : gLe u13 res := by rw [ev13]; exact hm
  refine gx_put C hG.1 hS rfl eg13 fgX8_15 fpX8_15 (fun q => by cases q) rfl rfl dX8_init_13 (fun H locs hg hS => gy_w hG ev13 hg (fun hG => ?_))
  refine gx_aload_n (r := (some x0)) hx hb dX8_init_16 rfl (lv_at hl 0 rfl) ?_
  refine lv_iconst (v := -1) hx hb dX8_init_17 (by decide) ?_
  obtain ⟨u18, e18, h⟩ := ob h
  obtain ⟨g18, eg18, ev18⟩ := wN_inv e18
  replace hm : gLe u18 res := by rw [ev18]; exact hm
  refine gx_put C hG.1 hS rfl eg18 fgX8_19 fpX8_19 (fun q => by cases q) rfl rfl dX8_init_18 (fun H locs hg hS => gy_w hG ev18 hg (fun hG => ?_))
  refine gx_aload_n (r := (some x0)) hx hb dX8_init_21 rfl (lv_at hl 0 rfl) ?_
  refine lv_iconst (v := 0) hx hb dX8_init_22 (by decide) ?_
  obtain ⟨u23, e23, h⟩ := ob h
  obtain ⟨g23, eg23, ev23⟩ := wN_inv e23
  replace hm : gLe u23 res := by rw [ev23]; exact hm
  refine gx_put C hG.1 hS rfl eg23 fgX8_22 fpX8_22 (fun q => by cases q) rfl rfl dX8_init_23 (fun H locs hg hS => gy_w hG ev23 hg (fun hG => ?_))
  refine gx_aload_n (r := (some x0)) hx hb dX8_init_26 rfl (lv_at hl 0 rfl) ?_
  refine lv_iconst (v := 0) hx hb dX8_init_27 (by decide) ?_
  obtain ⟨u28, e28, h⟩ := ob h
  obtain ⟨g28, eg28, ev28⟩ := wN_inv e28
  replace hm : gLe u28 res := by rw [ev28]; exact hm
  refine gx_put C hG.1 hS rfl eg28 fgX8_25 fpX8_25 (fun q => by cases q) rfl rfl dX8_init_28 (fun H locs hg hS => gy_w hG ev28 hg (fun hG => ?_))
  refine gx_aload_n (r := (some x0)) hx hb dX8_init_31 rfl (lv_at hl 0 rfl) ?_
  refine lv_iconst (v := 0) hx hb dX8_init_32 (by decide) ?_
  obtain ⟨u33, e33, h⟩ := ob h
  obtain ⟨g33, eg33, ev33⟩ := wN_inv e33
  replace hm : gLe u33 res := by rw [ev33]; exact hm
  refine gx_put C hG.1 hS rfl eg33 fgX8_28 fpX8_28 (fun q => by cases q) (by rfl) (by rfl) dX8_init_33 (fun H locs hg hS => gy_w hG ev33 hg (fun hG => ?_))
  refine gx_aload_n (r := (some x0)) hx hb dX8_init_36 rfl (lv_at hl 0 rfl) ?_
  refine gx_null hx hb dX8_init_37 ?_
  obtain ⟨u38, e38, h⟩ := ob h
  obtain ⟨g38, eg38, ev38⟩ := wN_inv e38
  replace hm : gLe u38 res := by rw [ev38]; exact hm
  refine gx_put C hG.1 hS rfl eg38 fgX8_32 fpX8_32 (fun q => by cases q) (gx_rfn _ _ (Or.inl ⟨_, rfl⟩)).1 (gx_rfn _ _ (Or.inl ⟨_, rfl⟩)).2 dX8_init_38 (fun H locs hg hS => gy_w hG ev38 hg (fun hG => ?_))
  refine gx_aload_n (r := (some x0)) hx hb dX8_init_41 rfl (lv_at hl 0 rfl) ?_
  refine lv_iload_n hx hb dX8_init_42 rfl (lv_at hl 1 rfl) ?_
  obtain ⟨u43, e43, h⟩ := ob h
  obtain ⟨g43, eg43, ev43⟩ := wN_inv e43
  replace hm : gLe u43 res := by rw [ev43]; exact hm
  refine gx_put C hG.1 hS rfl eg43 fgX8_36 fpX8_36 (fun _ => rfl) rfl rfl dX8_init_43 (fun H locs hg hS => gy_w hG ev43 hg (fun hG => ?_))
  refine gx_aload_n (r := (some x0)) hx hb dX8_init_46 rfl (lv_at hl 0 rfl) ?_
  refine lv_iload_n hx hb dX8_init_47 rfl (lv_at hl 2 rfl) ?_
  obtain ⟨u48, e48, h⟩ := ob h
  obtain ⟨g48, eg48, ev48⟩ := wN_inv e48
  replace hm : gLe u48 res := by rw [ev48]; exact hm
  refine gx_put C hG.1 hS rfl eg48 fgX8_39 fpX8_39 (fun _ => rfl) rfl rfl dX8_init_48 (fun H locs hg hS => gy_w hG ev48 hg (fun hG => ?_))
  refine gx_aload_n (r := (some x0)) hx hb dX8_init_51 rfl (lv_at hl 0 rfl) ?_
  refine lv_iload_n hx hb dX8_init_52 rfl (lv_at hl 3 rfl) ?_
  obtain ⟨u53, e53, h⟩ := ob h
  obtain ⟨g53, eg53, ev53⟩ := wN_inv e53
  replace hm : gLe u53 res := by rw [ev53]; exact hm
  refine gx_put C hG.1 hS rfl eg53 fgX8_42 fpX8_42 (fun _ => rfl) rfl rfl dX8_init_53 (fun H locs hg hS => gy_w hG ev53 hg (fun hG => ?_))
  refine gx_aload_n (r := (some x0)) hx hb dX8_init_56 rfl (lv_at hl 0 rfl) ?_
  refine lv_iload hx hb dX8_init_57 (lv_at hl 4 rfl) ?_
  obtain ⟨u59, e59, h⟩ := ob h
  obtain ⟨g59, eg59, ev59⟩ := wN_inv e59
  replace hm : gLe u59 res := by rw [ev59]; exact hm
  refine gx_put C hG.1 hS rfl eg59 fgX8_45 fpX8_45 (fun _ => rfl) rfl rfl dX8_init_59 (fun H locs hg hS => gy_w hG ev59 hg (fun hG => ?_))
  refine gx_aload_n (r := (some x0)) hx hb dX8_init_62 rfl (lv_at hl 0 rfl) ?_
  refine lv_iload hx hb dX8_init_63 (lv_at hl 5 rfl) ?_
  obtain ⟨u65, e65, h⟩ := ob h
  obtain ⟨g65, eg65, ev65⟩ := wN_inv e65
  replace hm : gLe u65 res := by rw [ev65]; exact hm
  refine gx_put C hG.1 hS rfl eg65 fgX8_48 fpX8_48 (fun _ => rfl) rfl rfl dX8_init_65 (fun H locs hg hS => gy_w hG ev65 hg (fun hG => ?_))
  cases Option.some.inj h
  exact gx_retv C hG.1 hS dX8_init_68
def fX8_init (x0 : Nat) (x1 : Int32) (x2 : Int32) (x3 : Int32) (x4 : Int32) (x5 : Int32) (u : gN) : Option (gN) :=
  bI (nwI (5 : Int32) u) fun q6 u6 =>
  fX8_init_8 x0 x1 x2 x3 x4 x5 (some q6) u6 
set_option maxRecDepth 20000 in
theorem moX8_init {x0 : Nat} {x1 : Int32} {x2 : Int32} {x3 : Int32} {x4 : Int32} {x5 : Int32} {u : gN} {res : gN} (h : fX8_init x0 x1 x2 x3 x4 x5 u = some res) : gLe u res := by
  unfold fX8_init at h
  obtain ⟨q6, u6, e6, h⟩ := obI h
  refine gLe.tr (nwI_le e6) ?_
  exact moX8_init_8  h
set_option maxHeartbeats 4000000 in
set_option maxRecDepth 20000 in
theorem wX8_init  (C : gC p s m args meth c cX8_init 6 none RX8 "<init>" Γ){x0 : Nat} {x1 : Int32} {x2 : Int32} {x3 : Int32} {x4 : Int32} {x5 : Int32} {u : gN} {res : gN} (h : fX8_init x0 x1 x2 x3 x4 x5 u = some res) {H : Heap} {locs : List Loc} (hG : gAn Γ sB u H) (hS : va_S Γ.2.2.1 s.heap H locs) {ls : Array Slot} (hl : lv_has ls 6 [(0, va_rf (some x0)), (1, .int x1), (2, .int x2), (3, .int x3), (4, .int x4), (5, .int x5)]) : W p l e (rmX8_init (res.2.1 - s.heap.size) (res.2.2 - sB)) s m args below meth c H locs (u.2.1 - s.heap.size) (u.2.2 - sB) (MQ below (gQ Γ none res.1 res.2.1) args s (res.2.1 - s.heap.size) (res.2.2 - sB) Γ.2.2.1) (F0 m 0 ls []) := by
  have hx := C.1
  have hb := C.2.1
  have hm := moX8_init h
  unfold fX8_init at h
  refine gx_aload_n (r := (some x0)) hx hb dX8_init_0 rfl (lv_at hl 0 rfl) ?_
  refine gx_obj C rfl qcX8_3 hl.1 ⟨Nat.le_of_ble_eq_true rfl, Nat.le_of_ble_eq_true rfl⟩ dX8_init_1 ?_
  refine gx_aload_n (r := (some x0)) hx hb dX8_init_4 rfl (lv_at hl 0 rfl) ?_
  refine lv_iconst (v := 5) hx hb dX8_init_5 (by decide) ?_
  obtain ⟨q6, u6, e6, h⟩ := obI h
  have hm2 : gLe u6 res := by
    exact moX8_init_8  h
  refine gy_newI C hG hS e6 ⟨Nat.sub_le_sub_right hm2.1 _, Nat.sub_le_sub_right hm2.2 _⟩ dX8_init_6 (fun H hG hS => ?_)
  exact wX8_init_8 C  h hG hS (lv_sub hl [0, 1, 2, 3, 4, 5] rfl)
theorem tX8_init {Γ : gEnv} {x0 : Nat} {x1 : Int32} {x2 : Int32} {x3 : Int32} {x4 : Int32} {x5 : Int32} {u v : gN} (h : fX8_init x0 x1 x2 x3 x4 x5 u = some v) : Met l yX8_init (Cond.code yX8_init cX8_init 6 none :: gW) (rmX8_init (v.2.1 - u.2.1) (v.2.2 - u.2.2)) (va_Pc [va_rf (some x0), .int x1, .int x2, .int x3, .int x4, .int x5] (gPre Γ u.1 u.2.1)) (gQ Γ none v.1 v.2.1) (v.2.1 - u.2.1) (v.2.2 - u.2.2) Γ.2.2.1 := by
  refine gx_met (nm := "<init>") ⟨by decide +kernel, rfl, rfl⟩ (Nat.le_of_ble_eq_true rfl) (fun p e s m below meth c ls C hG hl => ?_)
  have hN : s.heap.size = u.2.1 := hG.1
  have K := wX8_init (l := l) (e := e) (below := below) (sB := u.2.2) C h ⟨hG, Nat.le_refl _⟩ va_S.rf hl
  rw [hN, Nat.sub_self, Nat.sub_self] at K
  exact K
abbrev rmX5_init (a b : Nat) : Room := { frames := 2, cells := a, slots := b, locals := 37 }
def fX5_init_14 (x0 : Nat) (s1 : Option Nat) (u : gN) : Option (gN) :=
  (wN (pV [6] 12 (va_rf s1) u.1 x0) u).bind fun u14 =>
  (gR [6] 12 u14.1 x0).bind fun v18 =>
  (wN (fJ7_fill_53178 v18 (-1 : Int32) u14.1) u14).bind fun u22 =>
  some u22
set_option maxRecDepth 20000 in
theorem moX5_init_14 {x0 : Nat} {s1 : Option Nat} {u : gN} {res : gN} (h : fX5_init_14 x0 s1 u = some res) : gLe u res := by
  unfold fX5_init_14 at h
  obtain ⟨u14, e14, h⟩ := ob h
  refine gLe.tr (wN_le e14) ?_
  obtain ⟨v18, e18, h⟩ := ob h
  obtain ⟨u22, e22, h⟩ := ob h
  refine gLe.tr (wN_le e22) ?_
  cases Option.some.inj h
  exact gLe.rf _
set_option maxHeartbeats 4000000 in
set_option maxRecDepth 20000 in
theorem wX5_init_14  (C : gC p s m args meth c cX5_init 5 none RX5 "<init>" Γ){x0 : Nat} {s1 : Option Nat} {u : gN} {res : gN} (h : fX5_init_14 x0 s1 u = some res) {H : Heap} {locs : List Loc} (hG : gAn Γ sB u H) (hS : va_S Γ.2.2.1 s.heap H locs) {ls : Array Slot} (hl : lv_has ls 5 [(0, va_rf (some x0))]) : W p l e (rmX5_init (res.2.1 - s.heap.size) (res.2.2 - sB)) s m args below meth c H locs (u.2.1 - s.heap.size) (u.2.2 - sB) (MQ below (gQ Γ none res.1 res.2.1) args s (res.2.1 - s.heap.size) (res.2.2 - sB) Γ.2.2.1) (F0 m 14 ls [va_rf s1, va_rf (some x0)]) := by
  have hx := C.1
  have hb := C.2.1
  have hm := moX5_init_14 h
  unfold fX5_init_14 at h
  obtain ⟨u14, e14, h⟩ := ob h
  obtain ⟨g14, eg14, ev14⟩ := wN_inv e14
  replace hm : gLe u14 res := by rw [ev14]; exact hm
  refine gx_put C hG.1 hS rfl eg14 fgX5_9 fpX5_9 (fun _ => rfl) (gx_rfn _ _ (Or.inr ⟨_, rfl⟩)).1 (gx_rfn _ _ (Or.inr ⟨_, rfl⟩)).2 dX5_init_14 (fun H locs hg hS => gy_w hG ev14 hg (fun hG => ?_))
  refine gx_aload_n (r := (some x0)) hx hb dX5_init_17 rfl (lv_at hl 0 rfl) ?_
  obtain ⟨v18, e18, h⟩ := ob h
  refine gx_getR C hG.1 rfl e18 fgX5_9 dX5_init_18 ?_
  refine lv_iconst (v := -1) hx hb dX5_init_21 (by decide) ?_
  obtain ⟨u22, e22, h⟩ := ob h
  obtain ⟨g22, eg22, ev22⟩ := wN_inv e22
  refine gx_cS C hG.1 hS [va_rf v18, .int (-1 : Int32)] (tJ7_fill_53178 eg22) qcX5_15 ⟨rfl, rfl, Nat.le_of_ble_eq_true rfl, Nat.le_of_ble_eq_true rfl⟩ ⟨Nat.sub_le_sub_right hm.1 _, Nat.sub_le_sub_right hm.2 _⟩ rfl hl.1 rfl (Nat.le_of_ble_eq_true rfl) (st1 := []) rfl dX5_init_22 (fun H locs hg hS2 => gy_w (H0 := _) hG ev22 hg (fun hG => ?_))
  replace hS := hS2
  replace hm : gLe u22 res := by rw [ev22]; exact hm
  cases Option.some.inj h
  exact gx_retv C hG.1 hS dX5_init_25
def fX5_init_10 (x0 : Nat) (u : gN) : Option (gN) :=
  bI (nwI (4 : Int32) u) fun q12 u12 =>
  fX5_init_14 x0 (some q12) u12 
set_option maxRecDepth 20000 in
theorem moX5_init_10 {x0 : Nat} {u : gN} {res : gN} (h : fX5_init_10 x0 u = some res) : gLe u res := by
  unfold fX5_init_10 at h
  obtain ⟨q12, u12, e12, h⟩ := obI h
  refine gLe.tr (nwI_le e12) ?_
  exact moX5_init_14  h
set_option maxHeartbeats 4000000 in
set_option maxRecDepth 20000 in
theorem wX5_init_10  (C : gC p s m args meth c cX5_init 5 none RX5 "<init>" Γ){x0 : Nat} {u : gN} {res : gN} (h : fX5_init_10 x0 u = some res) {H : Heap} {locs : List Loc} (hG : gAn Γ sB u H) (hS : va_S Γ.2.2.1 s.heap H locs) {ls : Array Slot} (hl : lv_has ls 5 [(0, va_rf (some x0))]) : W p l e (rmX5_init (res.2.1 - s.heap.size) (res.2.2 - sB)) s m args below meth c H locs (u.2.1 - s.heap.size) (u.2.2 - sB) (MQ below (gQ Γ none res.1 res.2.1) args s (res.2.1 - s.heap.size) (res.2.2 - sB) Γ.2.2.1) (F0 m 10 ls []) := by
  have hx := C.1
  have hb := C.2.1
  have hm := moX5_init_10 h
  unfold fX5_init_10 at h
  refine gx_aload_n (r := (some x0)) hx hb dX5_init_10 rfl (lv_at hl 0 rfl) ?_
  refine lv_iconst (v := 4) hx hb dX5_init_11 (by decide) ?_
  obtain ⟨q12, u12, e12, h⟩ := obI h
  have hm2 : gLe u12 res := by
    exact moX5_init_14  h
  refine gy_newI C hG hS e12 ⟨Nat.sub_le_sub_right hm2.1 _, Nat.sub_le_sub_right hm2.2 _⟩ dX5_init_12 (fun H hG hS => ?_)
  exact wX5_init_14 C  h hG hS (lv_sub hl [0] rfl)
def fX5_init (x0 : Nat) (x1 : Int32) (x2 : Int32) (x3 : Int32) (x4 : Int32) (u : gN) : Option (gN) :=
  (fX8_init x0 (3 : Int32) x1 x2 x3 x4 u).bind fun u7 =>
  fX5_init_10 x0 u7 
set_option maxRecDepth 20000 in
theorem moX5_init {x0 : Nat} {x1 : Int32} {x2 : Int32} {x3 : Int32} {x4 : Int32} {u : gN} {res : gN} (h : fX5_init x0 x1 x2 x3 x4 u = some res) : gLe u res := by
  unfold fX5_init at h
  obtain ⟨u7, e7, h⟩ := ob h
  refine gLe.tr (moX8_init e7) ?_
  exact moX5_init_10  h
set_option maxHeartbeats 4000000 in
set_option maxRecDepth 20000 in
theorem wX5_init  (C : gC p s m args meth c cX5_init 5 none RX5 "<init>" Γ){x0 : Nat} {x1 : Int32} {x2 : Int32} {x3 : Int32} {x4 : Int32} {u : gN} {res : gN} (h : fX5_init x0 x1 x2 x3 x4 u = some res) {H : Heap} {locs : List Loc} (hG : gAn Γ sB u H) (hS : va_S Γ.2.2.1 s.heap H locs) {ls : Array Slot} (hl : lv_has ls 5 [(0, va_rf (some x0)), (1, .int x1), (2, .int x2), (3, .int x3), (4, .int x4)]) : W p l e (rmX5_init (res.2.1 - s.heap.size) (res.2.2 - sB)) s m args below meth c H locs (u.2.1 - s.heap.size) (u.2.2 - sB) (MQ below (gQ Γ none res.1 res.2.1) args s (res.2.1 - s.heap.size) (res.2.2 - sB) Γ.2.2.1) (F0 m 0 ls []) := by
  have hx := C.1
  have hb := C.2.1
  have hm := moX5_init h
  unfold fX5_init at h
  refine gx_aload_n (r := (some x0)) hx hb dX5_init_0 rfl (lv_at hl 0 rfl) ?_
  refine lv_iconst (v := 3) hx hb dX5_init_1 (by decide) ?_
  refine lv_iload_n hx hb dX5_init_2 rfl (lv_at hl 1 rfl) ?_
  refine lv_iload_n hx hb dX5_init_3 rfl (lv_at hl 2 rfl) ?_
  refine lv_iload_n hx hb dX5_init_4 rfl (lv_at hl 3 rfl) ?_
  refine lv_iload hx hb dX5_init_5 (lv_at hl 4 rfl) ?_
  obtain ⟨u7, e7, h⟩ := ob h
  have hle := moX8_init e7
  have hm2 : gLe u7 res := by
    exact moX5_init_10  h
  refine gx_cI C hG.1 hS [.int (3 : Int32), .int x1, .int x2, .int x3, .int x4] rfl (tX8_init e7) qcX5_3 ⟨rfl, rfl, Nat.le_of_ble_eq_true rfl, Nat.le_of_ble_eq_true rfl⟩ (gy_room hG hS hle ⟨Nat.sub_le_sub_right hm2.1 _, Nat.sub_le_sub_right hm2.2 _⟩) rfl hl.1 rfl (Nat.le_of_ble_eq_true rfl) dX5_init_7 (fun H locs hg hS2 => gy_ret hG hS hle hg (fun hG => ?_))
  replace hS := hS2
  exact wX5_init_10 C  h hG hS (lv_sub hl [0] rfl)
theorem tX5_init {Γ : gEnv} {x0 : Nat} {x1 : Int32} {x2 : Int32} {x3 : Int32} {x4 : Int32} {u v : gN} (h : fX5_init x0 x1 x2 x3 x4 u = some v) : Met l yX5_init (Cond.code yX5_init cX5_init 5 none :: gW) (rmX5_init (v.2.1 - u.2.1) (v.2.2 - u.2.2)) (va_Pc [va_rf (some x0), .int x1, .int x2, .int x3, .int x4] (gPre Γ u.1 u.2.1)) (gQ Γ none v.1 v.2.1) (v.2.1 - u.2.1) (v.2.2 - u.2.2) Γ.2.2.1 := by
  refine gx_met (nm := "<init>") ⟨by decide +kernel, rfl, rfl⟩ (Nat.le_of_ble_eq_true rfl) (fun p e s m below meth c ls C hG hl => ?_)
  have hN : s.heap.size = u.2.1 := hG.1
  have K := wX5_init (l := l) (e := e) (below := below) (sB := u.2.2) C h ⟨hG, Nat.le_refl _⟩ va_S.rf hl
  rw [hN, Nat.sub_self, Nat.sub_self] at K
  exact K
abbrev rmX5_handsWith : Room := { frames := 0, cells := 0, slots := 0, locals := 0 }
def fX5_handsWith_22 (x0 : Nat) (x1 : Int32) (x2 : Int32) (x3 : Int32) (u : gM) (k4 : Nat → Int32 → Int32 → Int32 → gM → Option (Int32 × gM)) : Option (Int32 × gM) :=
  k4 x0 x1 x2 (x3 + (1 : Int32)) u
set_option maxHeartbeats 4000000 in
set_option maxRecDepth 20000 in
theorem wX5_handsWith_22  (C : gC p s m args meth c cX5_handsWith 4 (some .int) RX5 "handsWith" Γ){x0 : Nat} {x1 : Int32} {x2 : Int32} {x3 : Int32} {u : gM} {res : Int32 × gM} {k4 : Nat → Int32 → Int32 → Int32 → gM → Option (Int32 × gM)} (hk4 : ∀ (x0 : Nat) (x1 : Int32) (x2 : Int32) (x3 : Int32) (u : gM) (H : Heap) (locs : List Loc) (ls : Array Slot), k4 x0 x1 x2 x3 u = some res → gAg Γ u N H → va_S Γ.2.2.1 s.heap H locs → lv_has ls 4 [(0, va_rf (some x0)), (1, .int x1), (2, .int x2), (3, .int x3)] → W p l e rmX5_handsWith s m args below meth c H locs 0 0 (MQ below (gQ Γ (some (.int res.1)) res.2 N) args s 0 0 Γ.2.2.1) (F0 m 4 ls [])) (h : fX5_handsWith_22 x0 x1 x2 x3 u k4 = some res) {H : Heap} {locs : List Loc} (hG : gAg Γ u N H) (hS : va_S Γ.2.2.1 s.heap H locs) {ls : Array Slot} (hl : lv_has ls 4 [(0, va_rf (some x0)), (1, .int x1), (2, .int x2), (3, .int x3)]) : W p l e rmX5_handsWith s m args below meth c H locs 0 0 (MQ below (gQ Γ (some (.int res.1)) res.2 N) args s 0 0 Γ.2.2.1) (F0 m 22 ls []) := by
  have hx := C.1
  have hb := C.2.1
  unfold fX5_handsWith_22 at h
  refine lv_iinc (v := x3 + (1 : Int32)) (lv' := [(3, .int (x3 + (1 : Int32))), (0, va_rf (some x0)), (1, .int x1), (2, .int x2)]) hx hb dX5_handsWith_22 hl (k := 3) rfl rfl (by decide) rfl (fun ls hl => ?_)
  refine lv_goto (tgt := 4) hx hb dX5_handsWith_25 (by decide) ?_
  exact hk4 _ _ _ _ _ _ _ _ h hG hS (lv_sub hl [1, 2, 3, 0] rfl)
def fX5_handsWith_4_b (x0 : Nat) (x1 : Int32) (x2 : Int32) (x3 : Int32) (u : gM) (k4 : Nat → Int32 → Int32 → Int32 → gM → Option (Int32 × gM)) : Option (Int32 × gM) :=
  if (4 : Int32) ≤ x3 then (
    some (x2, u)
  ) else (
    (gR [6] 12 u x0).bind fun v10 =>
    (v10).bind fun a14 =>
    (aI u a14 x3).bind fun v14 =>
    if v14 = x1 then (
      fX5_handsWith_22 x0 x1 (x2 + (1 : Int32)) x3 u k4
    ) else (
      fX5_handsWith_22 x0 x1 x2 x3 u k4
    )
  )
set_option maxHeartbeats 4000000 in
set_option maxRecDepth 20000 in
theorem wX5_handsWith_4_b  (C : gC p s m args meth c cX5_handsWith 4 (some .int) RX5 "handsWith" Γ){x0 : Nat} {x1 : Int32} {x2 : Int32} {x3 : Int32} {u : gM} {res : Int32 × gM} {k4 : Nat → Int32 → Int32 → Int32 → gM → Option (Int32 × gM)} (hk4 : ∀ (x0 : Nat) (x1 : Int32) (x2 : Int32) (x3 : Int32) (u : gM) (H : Heap) (locs : List Loc) (ls : Array Slot), k4 x0 x1 x2 x3 u = some res → gAg Γ u N H → va_S Γ.2.2.1 s.heap H locs → lv_has ls 4 [(0, va_rf (some x0)), (1, .int x1), (2, .int x2), (3, .int x3)] → W p l e rmX5_handsWith s m args below meth c H locs 0 0 (MQ below (gQ Γ (some (.int res.1)) res.2 N) args s 0 0 Γ.2.2.1) (F0 m 4 ls [])) (h : fX5_handsWith_4_b x0 x1 x2 x3 u k4 = some res) {H : Heap} {locs : List Loc} (hG : gAg Γ u N H) (hS : va_S Γ.2.2.1 s.heap H locs) {ls : Array Slot} (hl : lv_has ls 4 [(0, va_rf (some x0)), (1, .int x1), (2, .int x2), (3, .int x3)]) : W p l e rmX5_handsWith s m args below meth c H locs 0 0 (MQ below (gQ Γ (some (.int res.1)) res.2 N) args s 0 0 Γ.2.2.1) (F0 m 4 ls []) := by
  have hx := C.1
  have hb := C.2.1
  unfold fX5_handsWith_4_b at h
  refine lv_iload_n hx hb dX5_handsWith_4 rfl (lv_at hl 3 rfl) ?_
  refine lv_iconst (v := 4) hx hb dX5_handsWith_5 (by decide) ?_
  refine lv_icmp_ge (tgt := 28) hx hb dX5_handsWith_6 (by decide) (fun hc => ?_) (fun hc => ?_)
  · replace h := it_pos hc h
    refine lv_iload_n hx hb dX5_handsWith_28 rfl (lv_at hl 2 rfl) ?_
    cases Option.some.inj h
    exact gx_reti C hG hS dX5_handsWith_29
  · replace h := it_neg hc h
    refine gx_aload_n (r := (some x0)) hx hb dX5_handsWith_9 rfl (lv_at hl 0 rfl) ?_
    obtain ⟨v10, e10, h⟩ := ob h
    refine gx_getR C hG rfl e10 fgX5_9 dX5_handsWith_10 ?_
    refine lv_iload_n hx hb dX5_handsWith_13 rfl (lv_at hl 3 rfl) ?_
    obtain ⟨a14, na14, h⟩ := ob h
    obtain ⟨v14, e14, h⟩ := ob h
    refine gx_iald C hG na14 e14 dX5_handsWith_14 ?_
    refine lv_iload_n hx hb dX5_handsWith_15 rfl (lv_at hl 1 rfl) ?_
    refine lv_icmp_ne (tgt := 22) hx hb dX5_handsWith_16 (by decide) (fun hc => ?_) (fun hc => ?_)
    · replace h := it_neg hc h
      exact wX5_handsWith_22 C hk4 h hG hS (lv_sub hl [0, 1, 2, 3] rfl)
    · replace h := it_pos hc h
      refine lv_iinc (v := x2 + (1 : Int32)) (lv' := [(2, .int (x2 + (1 : Int32))), (0, va_rf (some x0)), (1, .int x1), (3, .int x3)]) hx hb dX5_handsWith_19 hl (k := 2) rfl rfl (by decide) rfl (fun ls hl => ?_)
      exact wX5_handsWith_22 C hk4 h hG hS (lv_sub hl [1, 2, 0, 3] rfl)
def fX5_handsWith_4 : Nat → Nat → Int32 → Int32 → Int32 → gM → Option (Int32 × gM)
  | 0 => fun _ _ _ _ _ => none
  | n + 1 => fun x0 x1 x2 x3 u => fX5_handsWith_4_b x0 x1 x2 x3 u (fX5_handsWith_4 n) 
theorem wX5_handsWith_4 (C : gC p s m args meth c cX5_handsWith 4 (some .int) RX5 "handsWith" Γ) {res : Int32 × gM} (n : Nat) : ∀ {x0 : Nat} {x1 : Int32} {x2 : Int32} {x3 : Int32} {u : gM} {H : Heap} {locs : List Loc} {ls : Array Slot}, fX5_handsWith_4 n x0 x1 x2 x3 u = some res → gAg Γ u N H → va_S Γ.2.2.1 s.heap H locs → lv_has ls 4 [(0, va_rf (some x0)), (1, .int x1), (2, .int x2), (3, .int x3)] → W p l e rmX5_handsWith s m args below meth c H locs 0 0 (MQ below (gQ Γ (some (.int res.1)) res.2 N) args s 0 0 Γ.2.2.1) (F0 m 4 ls []) := by
  induction n with
  | zero => intro _ _ _ _ _ _ _ _ h _ _ _; cases (show (none : Option (Int32 × gM)) = some res from h)
  | succ n ih => intro _ _ _ _ _ _ _ _ h hG hS hl; exact wX5_handsWith_4_b C (fun _ _ _ _ _ _ _ _ h hG hS hl => ih h hG hS hl) h hG hS hl
def fX5_handsWith (x0 : Nat) (x1 : Int32) (u : gM) : Option (Int32 × gM) :=
  fX5_handsWith_4  FU x0 x1 (0 : Int32) (0 : Int32) u
set_option maxHeartbeats 4000000 in
set_option maxRecDepth 20000 in
theorem wX5_handsWith  (C : gC p s m args meth c cX5_handsWith 4 (some .int) RX5 "handsWith" Γ){x0 : Nat} {x1 : Int32} {u : gM} {res : Int32 × gM} (h : fX5_handsWith x0 x1 u = some res) {H : Heap} {locs : List Loc} (hG : gAg Γ u N H) (hS : va_S Γ.2.2.1 s.heap H locs) {ls : Array Slot} (hl : lv_has ls 4 [(0, va_rf (some x0)), (1, .int x1)]) : W p l e rmX5_handsWith s m args below meth c H locs 0 0 (MQ below (gQ Γ (some (.int res.1)) res.2 N) args s 0 0 Γ.2.2.1) (F0 m 0 ls []) := by
  have hx := C.1
  have hb := C.2.1
  unfold fX5_handsWith at h
  refine lv_iconst (v := 0) hx hb dX5_handsWith_0 (by decide) ?_
  refine lv_istore_n (i := 2) (lv' := [(2, .int (0 : Int32)), (0, va_rf (some x0)), (1, .int x1)]) hx hb dX5_handsWith_1 rfl hl (by decide) rfl (fun ls hl => ?_)
  refine lv_iconst (v := 0) hx hb dX5_handsWith_2 (by decide) ?_
  refine lv_istore_n (i := 3) (lv' := [(3, .int (0 : Int32)), (2, .int (0 : Int32)), (0, va_rf (some x0)), (1, .int x1)]) hx hb dX5_handsWith_3 rfl hl (by decide) rfl (fun ls hl => ?_)
  exact wX5_handsWith_4 C  FU h hG hS (lv_sub hl [2, 3, 1, 0] rfl)
theorem tX5_handsWith {Γ : gEnv} {N : Nat} {x0 : Nat} {x1 : Int32} {u v : gM} {r : Int32} (h : fX5_handsWith x0 x1 u = some (r, v)) : Met l yX5_handsWith (Cond.code yX5_handsWith cX5_handsWith 4 (some .int) :: gW) rmX5_handsWith (va_Pc [va_rf (some x0), .int x1] (gPre Γ u N)) (gQ Γ (some (.int r)) v N) 0 0 Γ.2.2.1 :=
  gx_met (nm := "handsWith") ⟨by decide +kernel, rfl, rfl⟩ (Nat.le_of_ble_eq_true rfl) (fun p e s m below meth c ls C hG hl => wX5_handsWith C h hG va_S.rf hl)
abbrev rmX5_handsThatCounted : Room := { frames := 1, cells := 0, slots := 0, locals := 23 }
def fX5_handsThatCounted (x0 : Nat) (u : gM) : Option (Int32 × gM) :=
  (gO [6] u x0).bind fun _ =>
  bI (fX5_handsWith x0 (-1 : Int32) u) fun r3 u3 =>
  some ((4 : Int32) - r3, u3)
set_option maxHeartbeats 4000000 in
set_option maxRecDepth 20000 in
theorem wX5_handsThatCounted  (C : gC p s m args meth c cX5_handsThatCounted 1 (some .int) RX5 "handsThatCounted" Γ){x0 : Nat} {u : gM} {res : Int32 × gM} (h : fX5_handsThatCounted x0 u = some res) {H : Heap} {locs : List Loc} (hG : gAg Γ u N H) (hS : va_S Γ.2.2.1 s.heap H locs) {ls : Array Slot} (hl : lv_has ls 1 [(0, va_rf (some x0))]) : W p l e rmX5_handsThatCounted s m args below meth c H locs 0 0 (MQ below (gQ Γ (some (.int res.1)) res.2 N) args s 0 0 Γ.2.2.1) (F0 m 0 ls []) := by
  have hx := C.1
  have hb := C.2.1
  unfold fX5_handsThatCounted at h
  refine lv_iconst (v := 4) hx hb dX5_handsThatCounted_0 (by decide) ?_
  refine gx_aload_n (r := (some x0)) hx hb dX5_handsThatCounted_1 rfl (lv_at hl 0 rfl) ?_
  refine lv_iconst (v := -1) hx hb dX5_handsThatCounted_2 (by decide) ?_
  obtain ⟨_, eo3, h⟩ := ob h
  obtain ⟨r3, u3, e3, h⟩ := obI h
  refine gx_cV C hG hS [.int (-1 : Int32)] rfl eo3 (tX5_handsWith e3) qcX5_21 ⟨rfl, rfl, Nat.le_of_ble_eq_true rfl, Nat.le_of_ble_eq_true rfl⟩ ⟨Nat.zero_le _, Nat.zero_le _⟩ rfl hl.1 rfl (Nat.le_of_ble_eq_true rfl) (st1 := [.int r3, .int (4 : Int32)]) rfl dX5_handsThatCounted_3 (fun H locs hG hS => ?_)
  refine lv_isub hx hb dX5_handsThatCounted_6 ?_
  cases Option.some.inj h
  exact gx_reti C hG hS dX5_handsThatCounted_7
theorem tX5_handsThatCounted {Γ : gEnv} {N : Nat} {x0 : Nat} {u v : gM} {r : Int32} (h : fX5_handsThatCounted x0 u = some (r, v)) : Met l yX5_handsThatCounted (Cond.code yX5_handsThatCounted cX5_handsThatCounted 1 (some .int) :: gW) rmX5_handsThatCounted (va_Pc [va_rf (some x0)] (gPre Γ u N)) (gQ Γ (some (.int r)) v N) 0 0 Γ.2.2.1 :=
  gx_met (nm := "handsThatCounted") ⟨by decide +kernel, rfl, rfl⟩ (Nat.le_of_ble_eq_true rfl) (fun p e s m below meth c ls C hG hl => wX5_handsThatCounted C h hG va_S.rf hl)
abbrev rmX5_agreedCount : Room := { frames := 1, cells := 0, slots := 0, locals := 23 }
def fX5_agreedCount_60 (x0 : Nat) (x1 : Int32) (x2 : Int32) (u : gM) (k4 : Nat → Int32 → Int32 → gM → Option (Int32 × gM)) : Option (Int32 × gM) :=
  k4 x0 x1 (x2 + (1 : Int32)) u
set_option maxHeartbeats 4000000 in
set_option maxRecDepth 20000 in
theorem wX5_agreedCount_60  (C : gC p s m args meth c cX5_agreedCount 3 (some .int) RX5 "agreedCount" Γ){x0 : Nat} {x1 : Int32} {x2 : Int32} {u : gM} {res : Int32 × gM} {k4 : Nat → Int32 → Int32 → gM → Option (Int32 × gM)} (hk4 : ∀ (x0 : Nat) (x1 : Int32) (x2 : Int32) (u : gM) (H : Heap) (locs : List Loc) (ls : Array Slot), k4 x0 x1 x2 u = some res → gAg Γ u N H → va_S Γ.2.2.1 s.heap H locs → lv_has ls 3 [(0, va_rf (some x0)), (1, .int x1), (2, .int x2)] → W p l e rmX5_agreedCount s m args below meth c H locs 0 0 (MQ below (gQ Γ (some (.int res.1)) res.2 N) args s 0 0 Γ.2.2.1) (F0 m 4 ls [])) (h : fX5_agreedCount_60 x0 x1 x2 u k4 = some res) {H : Heap} {locs : List Loc} (hG : gAg Γ u N H) (hS : va_S Γ.2.2.1 s.heap H locs) {ls : Array Slot} (hl : lv_has ls 3 [(0, va_rf (some x0)), (1, .int x1), (2, .int x2)]) : W p l e rmX5_agreedCount s m args below meth c H locs 0 0 (MQ below (gQ Γ (some (.int res.1)) res.2 N) args s 0 0 Γ.2.2.1) (F0 m 60 ls []) := by
  have hx := C.1
  have hb := C.2.1
  unfold fX5_agreedCount_60 at h
  refine lv_iinc (v := x2 + (1 : Int32)) (lv' := [(2, .int (x2 + (1 : Int32))), (0, va_rf (some x0)), (1, .int x1)]) hx hb dX5_agreedCount_60 hl (k := 2) rfl rfl (by decide) rfl (fun ls hl => ?_)
  refine lv_goto (tgt := 4) hx hb dX5_agreedCount_63 (by decide) ?_
  exact hk4 _ _ _ _ _ _ _ h hG hS (lv_sub hl [1, 2, 0] rfl)
def fX5_agreedCount_4_b (x0 : Nat) (x1 : Int32) (x2 : Int32) (u : gM) (k4 : Nat → Int32 → Int32 → gM → Option (Int32 × gM)) : Option (Int32 × gM) :=
  if (4 : Int32) ≤ x2 then (
    some (x1, u)
  ) else (
    (gR [6] 12 u x0).bind fun v10 =>
    (v10).bind fun a14 =>
    (aI u a14 x2).bind fun v14 =>
    if v14 = (-1 : Int32) then (
      fX5_agreedCount_60 x0 x1 x2 u k4
    ) else (
      (gR [6] 12 u x0).bind fun v20 =>
      (v20).bind fun a24 =>
      (aI u a24 x2).bind fun v24 =>
      if v24 = x1 then (
        fX5_agreedCount_60 x0 x1 x2 u k4
      ) else (
        (gR [6] 12 u x0).bind fun v31 =>
        (v31).bind fun a35 =>
        (aI u a35 x2).bind fun v35 =>
        (gO [6] u x0).bind fun _ =>
        bI (fX5_handsWith x0 v35 u) fun r36 u36 =>
        if (2 : Int32) ≤ r36 then (
          if x1 = (-1 : Int32) then (
            (gR [6] 12 u36 x0).bind fun v54 =>
            (v54).bind fun a58 =>
            (aI u36 a58 x2).bind fun v58 =>
            fX5_agreedCount_60 x0 v58 x2 u36 k4
          ) else (
            some ((-1 : Int32), u36)
          )
        ) else (
          fX5_agreedCount_60 x0 x1 x2 u36 k4
        )
      )
    )
  )
set_option maxHeartbeats 4000000 in
set_option maxRecDepth 20000 in
theorem wX5_agreedCount_4_b  (C : gC p s m args meth c cX5_agreedCount 3 (some .int) RX5 "agreedCount" Γ){x0 : Nat} {x1 : Int32} {x2 : Int32} {u : gM} {res : Int32 × gM} {k4 : Nat → Int32 → Int32 → gM → Option (Int32 × gM)} (hk4 : ∀ (x0 : Nat) (x1 : Int32) (x2 : Int32) (u : gM) (H : Heap) (locs : List Loc) (ls : Array Slot), k4 x0 x1 x2 u = some res → gAg Γ u N H → va_S Γ.2.2.1 s.heap H locs → lv_has ls 3 [(0, va_rf (some x0)), (1, .int x1), (2, .int x2)] → W p l e rmX5_agreedCount s m args below meth c H locs 0 0 (MQ below (gQ Γ (some (.int res.1)) res.2 N) args s 0 0 Γ.2.2.1) (F0 m 4 ls [])) (h : fX5_agreedCount_4_b x0 x1 x2 u k4 = some res) {H : Heap} {locs : List Loc} (hG : gAg Γ u N H) (hS : va_S Γ.2.2.1 s.heap H locs) {ls : Array Slot} (hl : lv_has ls 3 [(0, va_rf (some x0)), (1, .int x1), (2, .int x2)]) : W p l e rmX5_agreedCount s m args below meth c H locs 0 0 (MQ below (gQ Γ (some (.int res.1)) res.2 N) args s 0 0 Γ.2.2.1) (F0 m 4 ls []) := by
  have hx := C.1
  have hb := C.2.1
  unfold fX5_agreedCount_4_b at h
  refine lv_iload_n hx hb dX5_agreedCount_4 rfl (lv_at hl 2 rfl) ?_
  refine lv_iconst (v := 4) hx hb dX5_agreedCount_5 (by decide) ?_
  refine lv_icmp_ge (tgt := 66) hx hb dX5_agreedCount_6 (by decide) (fun hc => ?_) (fun hc => ?_)
  · replace h := it_pos hc h
    refine lv_iload_n hx hb dX5_agreedCount_66 rfl (lv_at hl 1 rfl) ?_
    cases Option.some.inj h
    exact gx_reti C hG hS dX5_agreedCount_67
  · replace h := it_neg hc h
    refine gx_aload_n (r := (some x0)) hx hb dX5_agreedCount_9 rfl (lv_at hl 0 rfl) ?_
    obtain ⟨v10, e10, h⟩ := ob h
    refine gx_getR C hG rfl e10 fgX5_9 dX5_agreedCount_10 ?_
    refine lv_iload_n hx hb dX5_agreedCount_13 rfl (lv_at hl 2 rfl) ?_
    obtain ⟨a14, na14, h⟩ := ob h
    obtain ⟨v14, e14, h⟩ := ob h
    refine gx_iald C hG na14 e14 dX5_agreedCount_14 ?_
    refine lv_iconst (v := -1) hx hb dX5_agreedCount_15 (by decide) ?_
    refine lv_icmp_eq (tgt := 60) hx hb dX5_agreedCount_16 (by decide) (fun hc => ?_) (fun hc => ?_)
    · replace h := it_pos hc h
      exact wX5_agreedCount_60 C hk4 h hG hS (lv_sub hl [0, 1, 2] rfl)
    · replace h := it_neg hc h
      refine gx_aload_n (r := (some x0)) hx hb dX5_agreedCount_19 rfl (lv_at hl 0 rfl) ?_
      obtain ⟨v20, e20, h⟩ := ob h
      refine gx_getR C hG rfl e20 fgX5_9 dX5_agreedCount_20 ?_
      refine lv_iload_n hx hb dX5_agreedCount_23 rfl (lv_at hl 2 rfl) ?_
      obtain ⟨a24, na24, h⟩ := ob h
      obtain ⟨v24, e24, h⟩ := ob h
      refine gx_iald C hG na24 e24 dX5_agreedCount_24 ?_
      refine lv_iload_n hx hb dX5_agreedCount_25 rfl (lv_at hl 1 rfl) ?_
      refine lv_icmp_eq (tgt := 60) hx hb dX5_agreedCount_26 (by decide) (fun hc => ?_) (fun hc => ?_)
      · replace h := it_pos hc h
        exact wX5_agreedCount_60 C hk4 h hG hS (lv_sub hl [0, 1, 2] rfl)
      · replace h := it_neg hc h
        refine gx_aload_n (r := (some x0)) hx hb dX5_agreedCount_29 rfl (lv_at hl 0 rfl) ?_
        refine gx_aload_n (r := (some x0)) hx hb dX5_agreedCount_30 rfl (lv_at hl 0 rfl) ?_
        obtain ⟨v31, e31, h⟩ := ob h
        refine gx_getR C hG rfl e31 fgX5_9 dX5_agreedCount_31 ?_
        refine lv_iload_n hx hb dX5_agreedCount_34 rfl (lv_at hl 2 rfl) ?_
        obtain ⟨a35, na35, h⟩ := ob h
        obtain ⟨v35, e35, h⟩ := ob h
        refine gx_iald C hG na35 e35 dX5_agreedCount_35 ?_
        obtain ⟨_, eo36, h⟩ := ob h
        obtain ⟨r36, u36, e36, h⟩ := obI h
        refine gx_cV C hG hS [.int v35] rfl eo36 (tX5_handsWith e36) qcX5_21 ⟨rfl, rfl, Nat.le_of_ble_eq_true rfl, Nat.le_of_ble_eq_true rfl⟩ ⟨Nat.zero_le _, Nat.zero_le _⟩ rfl hl.1 rfl (Nat.le_of_ble_eq_true rfl) (st1 := [.int r36]) rfl dX5_agreedCount_36 (fun H locs hG hS => ?_)
        refine lv_iconst (v := 2) hx hb dX5_agreedCount_39 (by decide) ?_
        refine lv_icmp_ge (tgt := 46) hx hb dX5_agreedCount_40 (by decide) (fun hc => ?_) (fun hc => ?_)
        · replace h := it_pos hc h
          refine lv_iload_n hx hb dX5_agreedCount_46 rfl (lv_at hl 1 rfl) ?_
          refine lv_iconst (v := -1) hx hb dX5_agreedCount_47 (by decide) ?_
          refine lv_icmp_eq (tgt := 53) hx hb dX5_agreedCount_48 (by decide) (fun hc => ?_) (fun hc => ?_)
          · replace h := it_pos hc h
            refine gx_aload_n (r := (some x0)) hx hb dX5_agreedCount_53 rfl (lv_at hl 0 rfl) ?_
            obtain ⟨v54, e54, h⟩ := ob h
            refine gx_getR C hG rfl e54 fgX5_9 dX5_agreedCount_54 ?_
            refine lv_iload_n hx hb dX5_agreedCount_57 rfl (lv_at hl 2 rfl) ?_
            obtain ⟨a58, na58, h⟩ := ob h
            obtain ⟨v58, e58, h⟩ := ob h
            refine gx_iald C hG na58 e58 dX5_agreedCount_58 ?_
            refine lv_istore_n (i := 1) (lv' := [(1, .int v58), (0, va_rf (some x0)), (2, .int x2)]) hx hb dX5_agreedCount_59 rfl hl (by decide) rfl (fun ls hl => ?_)
            exact wX5_agreedCount_60 C hk4 h hG hS (lv_sub hl [1, 0, 2] rfl)
          · replace h := it_neg hc h
            refine lv_iconst (v := -1) hx hb dX5_agreedCount_51 (by decide) ?_
            cases Option.some.inj h
            exact gx_reti C hG hS dX5_agreedCount_52
        · replace h := it_neg hc h
          refine lv_goto (tgt := 60) hx hb dX5_agreedCount_43 (by decide) ?_
          exact wX5_agreedCount_60 C hk4 h hG hS (lv_sub hl [0, 1, 2] rfl)
def fX5_agreedCount_4 : Nat → Nat → Int32 → Int32 → gM → Option (Int32 × gM)
  | 0 => fun _ _ _ _ => none
  | n + 1 => fun x0 x1 x2 u => fX5_agreedCount_4_b x0 x1 x2 u (fX5_agreedCount_4 n) 
theorem wX5_agreedCount_4 (C : gC p s m args meth c cX5_agreedCount 3 (some .int) RX5 "agreedCount" Γ) {res : Int32 × gM} (n : Nat) : ∀ {x0 : Nat} {x1 : Int32} {x2 : Int32} {u : gM} {H : Heap} {locs : List Loc} {ls : Array Slot}, fX5_agreedCount_4 n x0 x1 x2 u = some res → gAg Γ u N H → va_S Γ.2.2.1 s.heap H locs → lv_has ls 3 [(0, va_rf (some x0)), (1, .int x1), (2, .int x2)] → W p l e rmX5_agreedCount s m args below meth c H locs 0 0 (MQ below (gQ Γ (some (.int res.1)) res.2 N) args s 0 0 Γ.2.2.1) (F0 m 4 ls []) := by
  induction n with
  | zero => intro _ _ _ _ _ _ _ h _ _ _; cases (show (none : Option (Int32 × gM)) = some res from h)
  | succ n ih => intro _ _ _ _ _ _ _ h hG hS hl; exact wX5_agreedCount_4_b C (fun _ _ _ _ _ _ _ h hG hS hl => ih h hG hS hl) h hG hS hl
def fX5_agreedCount (x0 : Nat) (u : gM) : Option (Int32 × gM) :=
  fX5_agreedCount_4  FU x0 (-1 : Int32) (0 : Int32) u
set_option maxHeartbeats 4000000 in
set_option maxRecDepth 20000 in
theorem wX5_agreedCount  (C : gC p s m args meth c cX5_agreedCount 3 (some .int) RX5 "agreedCount" Γ){x0 : Nat} {u : gM} {res : Int32 × gM} (h : fX5_agreedCount x0 u = some res) {H : Heap} {locs : List Loc} (hG : gAg Γ u N H) (hS : va_S Γ.2.2.1 s.heap H locs) {ls : Array Slot} (hl : lv_has ls 3 [(0, va_rf (some x0))]) : W p l e rmX5_agreedCount s m args below meth c H locs 0 0 (MQ below (gQ Γ (some (.int res.1)) res.2 N) args s 0 0 Γ.2.2.1) (F0 m 0 ls []) := by
  have hx := C.1
  have hb := C.2.1
  unfold fX5_agreedCount at h
  refine lv_iconst (v := -1) hx hb dX5_agreedCount_0 (by decide) ?_
  refine lv_istore_n (i := 1) (lv' := [(1, .int (-1 : Int32)), (0, va_rf (some x0))]) hx hb dX5_agreedCount_1 rfl hl (by decide) rfl (fun ls hl => ?_)
  refine lv_iconst (v := 0) hx hb dX5_agreedCount_2 (by decide) ?_
  refine lv_istore_n (i := 2) (lv' := [(2, .int (0 : Int32)), (1, .int (-1 : Int32)), (0, va_rf (some x0))]) hx hb dX5_agreedCount_3 rfl hl (by decide) rfl (fun ls hl => ?_)
  exact wX5_agreedCount_4 C  FU h hG hS (lv_sub hl [2, 1, 0] rfl)
theorem tX5_agreedCount {Γ : gEnv} {N : Nat} {x0 : Nat} {u v : gM} {r : Int32} (h : fX5_agreedCount x0 u = some (r, v)) : Met l yX5_agreedCount (Cond.code yX5_agreedCount cX5_agreedCount 3 (some .int) :: gW) rmX5_agreedCount (va_Pc [va_rf (some x0)] (gPre Γ u N)) (gQ Γ (some (.int r)) v N) 0 0 Γ.2.2.1 :=
  gx_met (nm := "agreedCount") ⟨by decide +kernel, rfl, rfl⟩ (Nat.le_of_ble_eq_true rfl) (fun p e s m below meth c ls C hG hl => wX5_agreedCount C h hG va_S.rf hl)
abbrev rmX6_init (a b : Nat) : Room := { frames := 1, cells := a, slots := b, locals := 12 }
def fX6_init_17 (x0 : Nat) (s1 : Option Nat) (u : gN) : Option (gN) :=
  (wN (pV [7] 1 (va_rf s1) u.1 x0) u).bind fun u17 =>
  (wN (pV [7] 2 (.int (0 : Int32)) u17.1 x0) u17).bind fun u22 =>
  (wN (pV [7] 3 (.int (0 : Int32)) u22.1 x0) u22).bind fun u27 =>
  some u27
set_option maxRecDepth 20000 in
theorem moX6_init_17 {x0 : Nat} {s1 : Option Nat} {u : gN} {res : gN} (h : fX6_init_17 x0 s1 u = some res) : gLe u res := by
  unfold fX6_init_17 at h
  obtain ⟨u17, e17, h⟩ := ob h
  refine gLe.tr (wN_le e17) ?_
  obtain ⟨u22, e22, h⟩ := ob h
  refine gLe.tr (wN_le e22) ?_
  obtain ⟨u27, e27, h⟩ := ob h
  refine gLe.tr (wN_le e27) ?_
  cases Option.some.inj h
  exact gLe.rf _
set_option maxHeartbeats 4000000 in
set_option maxRecDepth 20000 in
theorem wX6_init_17  (C : gC p s m args meth c cX6_init 1 none RX6 "<init>" Γ){x0 : Nat} {s1 : Option Nat} {u : gN} {res : gN} (h : fX6_init_17 x0 s1 u = some res) {H : Heap} {locs : List Loc} (hG : gAn Γ sB u H) (hS : va_S Γ.2.2.1 s.heap H locs) {ls : Array Slot} (hl : lv_has ls 1 [(0, va_rf (some x0))]) : W p l e (rmX6_init (res.2.1 - s.heap.size) (res.2.2 - sB)) s m args below meth c H locs (u.2.1 - s.heap.size) (u.2.2 - sB) (MQ below (gQ Γ none res.1 res.2.1) args s (res.2.1 - s.heap.size) (res.2.2 - sB) Γ.2.2.1) (F0 m 17 ls [va_rf s1, va_rf (some x0)]) := by
  have hx := C.1
  have hb := C.2.1
  have hm := moX6_init_17 h
  unfold fX6_init_17 at h
  obtain ⟨u17, e17, h⟩ := ob h
  obtain ⟨g17, eg17, ev17⟩ := wN_inv e17
  replace hm : gLe u17 res := by rw [ev17]; exact hm
  refine gx_put C hG.1 hS rfl eg17 fgX6_15 fpX6_15 (fun _ => rfl) (gx_rfn _ _ (Or.inr ⟨_, rfl⟩)).1 (gx_rfn _ _ (Or.inr ⟨_, rfl⟩)).2 dX6_init_17 (fun H locs hg hS => gy_w hG ev17 hg (fun hG => ?_))
  refine gx_aload_n (r := (some x0)) hx hb dX6_init_20 rfl (lv_at hl 0 rfl) ?_
  refine lv_iconst (v := 0) hx hb dX6_init_21 (by decide) ?_
  obtain ⟨u22, e22, h⟩ := ob h
  obtain ⟨g22, eg22, ev22⟩ := wN_inv e22
  replace hm : gLe u22 res := by rw [ev22]; exact hm
  refine gx_put C hG.1 hS rfl eg22 fgX6_18 fpX6_18 (fun q => by cases q) rfl rfl dX6_init_22 (fun H locs hg hS => gy_w hG ev22 hg (fun hG => ?_))
  refine gx_aload_n (r := (some x0)) hx hb dX6_init_25 rfl (lv_at hl 0 rfl) ?_
  refine lv_iconst (v := 0) hx hb dX6_init_26 (by decide) ?_
  obtain ⟨u27, e27, h⟩ := ob h
  obtain ⟨g27, eg27, ev27⟩ := wN_inv e27
  replace hm : gLe u27 res := by rw [ev27]; exact hm
  refine gx_put C hG.1 hS rfl eg27 fgX6_22 fpX6_22 (fun q => by cases q) rfl rfl dX6_init_27 (fun H locs hg hS => gy_w hG ev27 hg (fun hG => ?_))
  cases Option.some.inj h
  exact gx_retv C hG.1 hS dX6_init_30
def fX6_init_9 (x0 : Nat) (s1 : Option Nat) (u : gN) : Option (gN) :=
  (wN (pV [7] 0 (va_rf s1) u.1 x0) u).bind fun u9 =>
  bI (nwI (6 : Int32) u9) fun q15 u15 =>
  fX6_init_17 x0 (some q15) u15 
set_option maxRecDepth 20000 in
theorem moX6_init_9 {x0 : Nat} {s1 : Option Nat} {u : gN} {res : gN} (h : fX6_init_9 x0 s1 u = some res) : gLe u res := by
  unfold fX6_init_9 at h
  obtain ⟨u9, e9, h⟩ := ob h
  refine gLe.tr (wN_le e9) ?_
  obtain ⟨q15, u15, e15, h⟩ := obI h
  refine gLe.tr (nwI_le e15) ?_
  exact moX6_init_17  h
set_option maxHeartbeats 4000000 in
set_option maxRecDepth 20000 in
theorem wX6_init_9  (C : gC p s m args meth c cX6_init 1 none RX6 "<init>" Γ){x0 : Nat} {s1 : Option Nat} {u : gN} {res : gN} (h : fX6_init_9 x0 s1 u = some res) {H : Heap} {locs : List Loc} (hG : gAn Γ sB u H) (hS : va_S Γ.2.2.1 s.heap H locs) {ls : Array Slot} (hl : lv_has ls 1 [(0, va_rf (some x0))]) : W p l e (rmX6_init (res.2.1 - s.heap.size) (res.2.2 - sB)) s m args below meth c H locs (u.2.1 - s.heap.size) (u.2.2 - sB) (MQ below (gQ Γ none res.1 res.2.1) args s (res.2.1 - s.heap.size) (res.2.2 - sB) Γ.2.2.1) (F0 m 9 ls [va_rf s1, va_rf (some x0)]) := by
  have hx := C.1
  have hb := C.2.1
  have hm := moX6_init_9 h
  unfold fX6_init_9 at h
  obtain ⟨u9, e9, h⟩ := ob h
  obtain ⟨g9, eg9, ev9⟩ := wN_inv e9
  replace hm : gLe u9 res := by rw [ev9]; exact hm
  refine gx_put C hG.1 hS rfl eg9 fgX6_9 fpX6_9 (fun _ => rfl) (gx_rfn _ _ (Or.inr ⟨_, rfl⟩)).1 (gx_rfn _ _ (Or.inr ⟨_, rfl⟩)).2 dX6_init_9 (fun H locs hg hS => gy_w hG ev9 hg (fun hG => ?_))
  refine gx_aload_n (r := (some x0)) hx hb dX6_init_12 rfl (lv_at hl 0 rfl) ?_
  refine lv_bipush (v := 6) hx hb dX6_init_13 (by decide) ?_
  obtain ⟨q15, u15, e15, h⟩ := obI h
  have hm2 : gLe u15 res := by
    exact moX6_init_17  h
  refine gy_newI C hG hS e15 ⟨Nat.sub_le_sub_right hm2.1 _, Nat.sub_le_sub_right hm2.2 _⟩ dX6_init_15 (fun H hG hS => ?_)
  exact wX6_init_17 C  h hG hS (lv_sub hl [0] rfl)
def fX6_init (x0 : Nat) (u : gN) : Option (gN) :=
  bI (nwI (6 : Int32) u) fun q7 u7 =>
  fX6_init_9 x0 (some q7) u7 
set_option maxRecDepth 20000 in
theorem moX6_init {x0 : Nat} {u : gN} {res : gN} (h : fX6_init x0 u = some res) : gLe u res := by
  unfold fX6_init at h
  obtain ⟨q7, u7, e7, h⟩ := obI h
  refine gLe.tr (nwI_le e7) ?_
  exact moX6_init_9  h
set_option maxHeartbeats 4000000 in
set_option maxRecDepth 20000 in
theorem wX6_init  (C : gC p s m args meth c cX6_init 1 none RX6 "<init>" Γ){x0 : Nat} {u : gN} {res : gN} (h : fX6_init x0 u = some res) {H : Heap} {locs : List Loc} (hG : gAn Γ sB u H) (hS : va_S Γ.2.2.1 s.heap H locs) {ls : Array Slot} (hl : lv_has ls 1 [(0, va_rf (some x0))]) : W p l e (rmX6_init (res.2.1 - s.heap.size) (res.2.2 - sB)) s m args below meth c H locs (u.2.1 - s.heap.size) (u.2.2 - sB) (MQ below (gQ Γ none res.1 res.2.1) args s (res.2.1 - s.heap.size) (res.2.2 - sB) Γ.2.2.1) (F0 m 0 ls []) := by
  have hx := C.1
  have hb := C.2.1
  have hm := moX6_init h
  unfold fX6_init at h
  refine gx_aload_n (r := (some x0)) hx hb dX6_init_0 rfl (lv_at hl 0 rfl) ?_
  refine gx_obj C rfl qcX6_3 hl.1 ⟨Nat.le_of_ble_eq_true rfl, Nat.le_of_ble_eq_true rfl⟩ dX6_init_1 ?_
  refine gx_aload_n (r := (some x0)) hx hb dX6_init_4 rfl (lv_at hl 0 rfl) ?_
  refine lv_bipush (v := 6) hx hb dX6_init_5 (by decide) ?_
  obtain ⟨q7, u7, e7, h⟩ := obI h
  have hm2 : gLe u7 res := by
    exact moX6_init_9  h
  refine gy_newI C hG hS e7 ⟨Nat.sub_le_sub_right hm2.1 _, Nat.sub_le_sub_right hm2.2 _⟩ dX6_init_7 (fun H hG hS => ?_)
  exact wX6_init_9 C  h hG hS (lv_sub hl [0] rfl)
theorem tX6_init {Γ : gEnv} {x0 : Nat} {u v : gN} (h : fX6_init x0 u = some v) : Met l yX6_init (Cond.code yX6_init cX6_init 1 none :: gW) (rmX6_init (v.2.1 - u.2.1) (v.2.2 - u.2.2)) (va_Pc [va_rf (some x0)] (gPre Γ u.1 u.2.1)) (gQ Γ none v.1 v.2.1) (v.2.1 - u.2.1) (v.2.2 - u.2.2) Γ.2.2.1 := by
  refine gx_met (nm := "<init>") ⟨by decide +kernel, rfl, rfl⟩ (Nat.le_of_ble_eq_true rfl) (fun p e s m below meth c ls C hG hl => ?_)
  have hN : s.heap.size = u.2.1 := hG.1
  have K := wX6_init (l := l) (e := e) (below := below) (sB := u.2.2) C h ⟨hG, Nat.le_refl _⟩ va_S.rf hl
  rw [hN, Nat.sub_self, Nat.sub_self] at K
  exact K
abbrev rmX6_add : Room := { frames := 0, cells := 0, slots := 0, locals := 0 }
def fX6_add (x0 : Nat) (x1 : Int32) (x2 : Int32) (u : gM) : Option (gM) :=
  (gR [7] 0 u x0).bind fun v1 =>
  (v1).bind fun a6 =>
  (aI u a6 x1).bind fun v6 =>
  (v1).bind fun a9 =>
  (uI u a9 x1 (v6 + (1 : Int32))).bind fun u9 =>
  (gR [7] 1 u9 x0).bind fun v11 =>
  (v11).bind fun a16 =>
  (aI u9 a16 x1).bind fun v16 =>
  (v11).bind fun a19 =>
  (uI u9 a19 x1 (v16 + x2)).bind fun u19 =>
  (gI [7] 2 u19 x0).bind fun v22 =>
  (pV [7] 2 (.int (v22 + (1 : Int32))) u19 x0).bind fun u27 =>
  (gI [7] 3 u27 x0).bind fun v32 =>
  (pV [7] 3 (.int (v32 + x2)) u27 x0).bind fun u37 =>
  some u37
set_option maxHeartbeats 4000000 in
set_option maxRecDepth 20000 in
theorem wX6_add  (C : gC p s m args meth c cX6_add 3 none RX6 "add" Γ){x0 : Nat} {x1 : Int32} {x2 : Int32} {u : gM} {res : gM} (h : fX6_add x0 x1 x2 u = some res) {H : Heap} {locs : List Loc} (hG : gAg Γ u N H) (hS : va_S Γ.2.2.1 s.heap H locs) {ls : Array Slot} (hl : lv_has ls 3 [(0, va_rf (some x0)), (1, .int x1), (2, .int x2)]) : W p l e rmX6_add s m args below meth c H locs 0 0 (MQ below (gQ Γ none res N) args s 0 0 Γ.2.2.1) (F0 m 0 ls []) := by
  have hx := C.1
  have hb := C.2.1
  unfold fX6_add at h
  refine gx_aload_n (r := (some x0)) hx hb dX6_add_0 rfl (lv_at hl 0 rfl) ?_
  obtain ⟨v1, e1, h⟩ := ob h
  refine gx_getR C hG rfl e1 fgX6_9 dX6_add_1 ?_
  refine lv_iload_n hx hb dX6_add_4 rfl (lv_at hl 1 rfl) ?_
  refine lv_dup2_11 hx hb dX6_add_5 (by first | rfl | exact gx_cat _) (by first | rfl | exact gx_cat _) ?_
  obtain ⟨a6, na6, h⟩ := ob h
  obtain ⟨v6, e6, h⟩ := ob h
  refine gx_iald C hG na6 e6 dX6_add_6 ?_
  refine lv_iconst (v := 1) hx hb dX6_add_7 (by decide) ?_
  refine lv_iadd hx hb dX6_add_8 ?_
  obtain ⟨a9, na9, h⟩ := ob h
  obtain ⟨u9, e9, h⟩ := ob h
  refine gx_iast C hG hS na9 e9 dX6_add_9 (fun H locs hG hS => ?_)
  refine gx_aload_n (r := (some x0)) hx hb dX6_add_10 rfl (lv_at hl 0 rfl) ?_
  obtain ⟨v11, e11, h⟩ := ob h
  refine gx_getR C hG rfl e11 fgX6_15 dX6_add_11 ?_
  refine lv_iload_n hx hb dX6_add_14 rfl (lv_at hl 1 rfl) ?_
  refine lv_dup2_11 hx hb dX6_add_15 (by first | rfl | exact gx_cat _) (by first | rfl | exact gx_cat _) ?_
  obtain ⟨a16, na16, h⟩ := ob h
  obtain ⟨v16, e16, h⟩ := ob h
  refine gx_iald C hG na16 e16 dX6_add_16 ?_
  refine lv_iload_n hx hb dX6_add_17 rfl (lv_at hl 2 rfl) ?_
  refine lv_iadd hx hb dX6_add_18 ?_
  obtain ⟨a19, na19, h⟩ := ob h
  obtain ⟨u19, e19, h⟩ := ob h
  refine gx_iast C hG hS na19 e19 dX6_add_19 (fun H locs hG hS => ?_)
  refine gx_aload_n (r := (some x0)) hx hb dX6_add_20 rfl (lv_at hl 0 rfl) ?_
  refine lv_dup hx hb dX6_add_21 (by first | rfl | exact gx_cat _) ?_
  obtain ⟨v22, e22, h⟩ := ob h
  refine gx_getI C hG rfl e22 fgX6_18 dX6_add_22 ?_
  refine lv_iconst (v := 1) hx hb dX6_add_25 (by decide) ?_
  refine lv_iadd hx hb dX6_add_26 ?_
  obtain ⟨u27, e27, h⟩ := ob h
  refine gx_put C hG hS rfl e27 fgX6_18 fpX6_18 (fun q => by cases q) rfl rfl dX6_add_27 (fun H locs hG hS => ?_)
  refine gx_aload_n (r := (some x0)) hx hb dX6_add_30 rfl (lv_at hl 0 rfl) ?_
  refine lv_dup hx hb dX6_add_31 (by first | rfl | exact gx_cat _) ?_
  obtain ⟨v32, e32, h⟩ := ob h
  refine gx_getI C hG rfl e32 fgX6_22 dX6_add_32 ?_
  refine lv_iload_n hx hb dX6_add_35 rfl (lv_at hl 2 rfl) ?_
  refine lv_iadd hx hb dX6_add_36 ?_
  obtain ⟨u37, e37, h⟩ := ob h
  refine gx_put C hG hS rfl e37 fgX6_22 fpX6_22 (fun q => by cases q) rfl rfl dX6_add_37 (fun H locs hG hS => ?_)
  cases Option.some.inj h
  exact gx_retv C hG hS dX6_add_40
theorem tX6_add {Γ : gEnv} {N : Nat} {x0 : Nat} {x1 : Int32} {x2 : Int32} {u v : gM} (h : fX6_add x0 x1 x2 u = some v) : Met l yX6_add (Cond.code yX6_add cX6_add 3 none :: gW) rmX6_add (va_Pc [va_rf (some x0), .int x1, .int x2] (gPre Γ u N)) (gQ Γ none v N) 0 0 Γ.2.2.1 :=
  gx_met (nm := "add") ⟨by decide +kernel, rfl, rfl⟩ (Nat.le_of_ble_eq_true rfl) (fun p e s m below meth c ls C hG hl => wX6_add C h hG va_S.rf hl)
abbrev rmX6_waysToChoose : Room := { frames := 0, cells := 0, slots := 0, locals := 0 }
def fX6_waysToChoose_12_b (x0 : Int32) (x1 : Int32) (x2 : Int64) (x4 : Int32) (u : gM) (k12 : Int32 → Int32 → Int64 → Int32 → gM → Option (Int64 × gM)) : Option (Int64 × gM) :=
  if x0 ≤ x4 then (
    some (x2, u)
  ) else (
    if ((x4 + (1 : Int32)).toInt64) = 0 then none else
    pU ((x2 * ((x1 - x4).toInt64)) / ((x4 + (1 : Int32)).toInt64)) fun z31 =>
    k12 x0 x1 z31 (x4 + (1 : Int32)) u
  )
set_option maxHeartbeats 4000000 in
set_option maxRecDepth 20000 in
theorem wX6_waysToChoose_12_b  (C : gC p s m args meth c cX6_waysToChoose 5 (some .long) RX6 "waysToChoose" Γ){x0 : Int32} {x1 : Int32} {x2 : Int64} {x4 : Int32} {u : gM} {res : Int64 × gM} {k12 : Int32 → Int32 → Int64 → Int32 → gM → Option (Int64 × gM)} (hk12 : ∀ (x0 : Int32) (x1 : Int32) (x2 : Int64) (x4 : Int32) (u : gM) (H : Heap) (locs : List Loc) (ls : Array Slot), k12 x0 x1 x2 x4 u = some res → gAg Γ u N H → va_S Γ.2.2.1 s.heap H locs → lv_has ls 5 [(0, .int x0), (1, .int x1), (2, .long x2), (4, .int x4)] → W p l e rmX6_waysToChoose s m args below meth c H locs 0 0 (MQ below (gQ Γ (some (.long res.1)) res.2 N) args s 0 0 Γ.2.2.1) (F0 m 12 ls [])) (h : fX6_waysToChoose_12_b x0 x1 x2 x4 u k12 = some res) {H : Heap} {locs : List Loc} (hG : gAg Γ u N H) (hS : va_S Γ.2.2.1 s.heap H locs) {ls : Array Slot} (hl : lv_has ls 5 [(0, .int x0), (1, .int x1), (2, .long x2), (4, .int x4)]) : W p l e rmX6_waysToChoose s m args below meth c H locs 0 0 (MQ below (gQ Γ (some (.long res.1)) res.2 N) args s 0 0 Γ.2.2.1) (F0 m 12 ls []) := by
  have hx := C.1
  have hb := C.2.1
  unfold fX6_waysToChoose_12_b at h
  refine lv_iload hx hb dX6_waysToChoose_12 (lv_at hl 3 rfl) ?_
  refine lv_iload_n hx hb dX6_waysToChoose_14 rfl (lv_at hl 0 rfl) ?_
  refine lv_icmp_ge (tgt := 38) hx hb dX6_waysToChoose_15 (by decide) (fun hc => ?_) (fun hc => ?_)
  · replace h := it_pos hc h
    refine lv_lload_n hx hb dX6_waysToChoose_38 rfl (lv_at hl 2 rfl) ?_
    cases Option.some.inj h
    exact gx_retl C hG hS dX6_waysToChoose_39
  · replace h := it_neg hc h
    refine lv_lload_n hx hb dX6_waysToChoose_18 rfl (lv_at hl 2 rfl) ?_
    refine lv_iload_n hx hb dX6_waysToChoose_19 rfl (lv_at hl 1 rfl) ?_
    refine lv_iload hx hb dX6_waysToChoose_20 (lv_at hl 3 rfl) ?_
    refine lv_isub hx hb dX6_waysToChoose_22 ?_
    refine lv_i2l hx hb dX6_waysToChoose_23 rfl ?_
    refine lv_lmul hx hb dX6_waysToChoose_24 ?_
    refine lv_iload hx hb dX6_waysToChoose_25 (lv_at hl 3 rfl) ?_
    refine lv_iconst (v := 1) hx hb dX6_waysToChoose_27 (by decide) ?_
    refine lv_iadd hx hb dX6_waysToChoose_28 ?_
    refine lv_i2l hx hb dX6_waysToChoose_29 rfl ?_
    have n30 : ¬ ((x4 + (1 : Int32)).toInt64) = 0 := fun q => by rw [if_pos q] at h; cases h
    replace h := it_neg n30 h
    refine lv_ldiv hx hb dX6_waysToChoose_30 n30 ?_
    obtain ⟨z31, ez31, h⟩ := op h
    refine gx_topJ ez31 ?_
    refine lv_lstore_n (i := 2) (lv' := [(2, .long z31), (0, .int x0), (1, .int x1), (4, .int x4)]) hx hb dX6_waysToChoose_31 rfl hl (by decide) rfl (fun ls hl => ?_)
    refine lv_iinc (v := x4 + (1 : Int32)) (lv' := [(4, .int (x4 + (1 : Int32))), (2, .long z31), (0, .int x0), (1, .int x1)]) hx hb dX6_waysToChoose_32 hl (k := 3) rfl rfl (by decide) rfl (fun ls hl => ?_)
    refine lv_goto (tgt := 12) hx hb dX6_waysToChoose_35 (by decide) ?_
    exact hk12 _ _ _ _ _ _ _ _ h hG hS (lv_sub hl [2, 3, 1, 0] rfl)
def fX6_waysToChoose_12 : Nat → Int32 → Int32 → Int64 → Int32 → gM → Option (Int64 × gM)
  | 0 => fun _ _ _ _ _ => none
  | n + 1 => fun x0 x1 x2 x4 u => fX6_waysToChoose_12_b x0 x1 x2 x4 u (fX6_waysToChoose_12 n) 
theorem wX6_waysToChoose_12 (C : gC p s m args meth c cX6_waysToChoose 5 (some .long) RX6 "waysToChoose" Γ) {res : Int64 × gM} (n : Nat) : ∀ {x0 : Int32} {x1 : Int32} {x2 : Int64} {x4 : Int32} {u : gM} {H : Heap} {locs : List Loc} {ls : Array Slot}, fX6_waysToChoose_12 n x0 x1 x2 x4 u = some res → gAg Γ u N H → va_S Γ.2.2.1 s.heap H locs → lv_has ls 5 [(0, .int x0), (1, .int x1), (2, .long x2), (4, .int x4)] → W p l e rmX6_waysToChoose s m args below meth c H locs 0 0 (MQ below (gQ Γ (some (.long res.1)) res.2 N) args s 0 0 Γ.2.2.1) (F0 m 12 ls []) := by
  induction n with
  | zero => intro _ _ _ _ _ _ _ _ h _ _ _; cases (show (none : Option (Int64 × gM)) = some res from h)
  | succ n ih => intro _ _ _ _ _ _ _ _ h hG hS hl; exact wX6_waysToChoose_12_b C (fun _ _ _ _ _ _ _ _ h hG hS hl => ih h hG hS hl) h hG hS hl
def fX6_waysToChoose (x0 : Int32) (x1 : Int32) (u : gM) : Option (Int64 × gM) :=
  if x0 ≤ x1 then (
    fX6_waysToChoose_12  FU x0 x1 (1 : Int64) (0 : Int32) u
  ) else (
    some ((0 : Int64), u)
  )
set_option maxHeartbeats 4000000 in
set_option maxRecDepth 20000 in
theorem wX6_waysToChoose  (C : gC p s m args meth c cX6_waysToChoose 5 (some .long) RX6 "waysToChoose" Γ){x0 : Int32} {x1 : Int32} {u : gM} {res : Int64 × gM} (h : fX6_waysToChoose x0 x1 u = some res) {H : Heap} {locs : List Loc} (hG : gAg Γ u N H) (hS : va_S Γ.2.2.1 s.heap H locs) {ls : Array Slot} (hl : lv_has ls 5 [(0, .int x0), (1, .int x1)]) : W p l e rmX6_waysToChoose s m args below meth c H locs 0 0 (MQ below (gQ Γ (some (.long res.1)) res.2 N) args s 0 0 Γ.2.2.1) (F0 m 0 ls []) := by
  have hx := C.1
  have hb := C.2.1
  unfold fX6_waysToChoose at h
  refine lv_iload_n hx hb dX6_waysToChoose_0 rfl (lv_at hl 0 rfl) ?_
  refine lv_iload_n hx hb dX6_waysToChoose_1 rfl (lv_at hl 1 rfl) ?_
  refine lv_icmp_le (tgt := 7) hx hb dX6_waysToChoose_2 (by decide) (fun hc => ?_) (fun hc => ?_)
  · replace h := it_pos hc h
    refine lv_lconst (v := 1) hx hb dX6_waysToChoose_7 (by decide) ?_
    refine lv_lstore_n (i := 2) (lv' := [(2, .long (1 : Int64)), (0, .int x0), (1, .int x1)]) hx hb dX6_waysToChoose_8 rfl hl (by decide) rfl (fun ls hl => ?_)
    refine lv_iconst (v := 0) hx hb dX6_waysToChoose_9 (by decide) ?_
    refine lv_istore (i := 4) (lv' := [(4, .int (0 : Int32)), (2, .long (1 : Int64)), (0, .int x0), (1, .int x1)]) hx hb dX6_waysToChoose_10 hl (by decide) rfl (fun ls hl => ?_)
    exact wX6_waysToChoose_12 C  FU h hG hS (lv_sub hl [2, 3, 1, 0] rfl)
  · replace h := it_neg hc h
    refine lv_lconst (v := 0) hx hb dX6_waysToChoose_5 (by decide) ?_
    cases Option.some.inj h
    exact gx_retl C hG hS dX6_waysToChoose_6
theorem tX6_waysToChoose {Γ : gEnv} {N : Nat} {x0 : Int32} {x1 : Int32} {u v : gM} {r : Int64} (h : fX6_waysToChoose x0 x1 u = some (r, v)) : Met l yX6_waysToChoose (Cond.code yX6_waysToChoose cX6_waysToChoose 5 (some .long) :: gW) rmX6_waysToChoose (va_Pc [.int x0, .int x1] (gPre Γ u N)) (gQ Γ (some (.long r)) v N) 0 0 Γ.2.2.1 :=
  gx_met (nm := "waysToChoose") ⟨by decide +kernel, rfl, rfl⟩ (Nat.le_of_ble_eq_true rfl) (fun p e s m below meth c ls C hG hl => wX6_waysToChoose C h hG va_S.rf hl)
abbrev rmX6_isBeyondChance : Room := { frames := 1, cells := 0, slots := 0, locals := 24 }
def fX6_isBeyondChance_20_b (x0 : Nat) (x2 : Int32) (x3 : Int32) (x4 : Int64) (x6 : Int32) (u : gM) (k20 : Nat → Int32 → Int32 → Int64 → Int32 → gM → Option (Int32 × gM)) (k63 : Nat → Int32 → Int32 → Int64 → gM → Option (Int32 × gM)) : Option (Int32 × gM) :=
  if x2 < x6 then (
    k63 x0 x2 x3 x4 u
  ) else (
    (gI [7] 3 u x0).bind fun v31 =>
    bI (fX6_waysToChoose x6 v31 u) fun r34 u34 =>
    (gI [7] 2 u34 x0).bind fun v42 =>
    (gI [7] 3 u34 x0).bind fun v46 =>
    bI (fX6_waysToChoose (x2 - x6) (v42 - v46) u34) fun r50 u50 =>
    k20 x0 x2 x3 (x4 + (r34 * r50)) (x6 + (1 : Int32)) u50
  )
set_option maxHeartbeats 4000000 in
set_option maxRecDepth 20000 in
theorem wX6_isBeyondChance_20_b  (C : gC p s m args meth c cX6_isBeyondChance 7 (some .boolean) RX6 "isBeyondChance" Γ){x0 : Nat} {x2 : Int32} {x3 : Int32} {x4 : Int64} {x6 : Int32} {u : gM} {res : Int32 × gM} {k20 : Nat → Int32 → Int32 → Int64 → Int32 → gM → Option (Int32 × gM)} {k63 : Nat → Int32 → Int32 → Int64 → gM → Option (Int32 × gM)} (hk20 : ∀ (x0 : Nat) (x2 : Int32) (x3 : Int32) (x4 : Int64) (x6 : Int32) (u : gM) (H : Heap) (locs : List Loc) (ls : Array Slot), k20 x0 x2 x3 x4 x6 u = some res → gAg Γ u N H → va_S Γ.2.2.1 s.heap H locs → lv_has ls 7 [(0, va_rf (some x0)), (2, .int x2), (3, .int x3), (4, .long x4), (6, .int x6)] → W p l e rmX6_isBeyondChance s m args below meth c H locs 0 0 (MQ below (gQ Γ (some (.int res.1)) res.2 N) args s 0 0 Γ.2.2.1) (F0 m 20 ls [])) (hk63 : ∀ (x0 : Nat) (x2 : Int32) (x3 : Int32) (x4 : Int64) (u : gM) (H : Heap) (locs : List Loc) (ls : Array Slot), k63 x0 x2 x3 x4 u = some res → gAg Γ u N H → va_S Γ.2.2.1 s.heap H locs → lv_has ls 7 [(0, va_rf (some x0)), (2, .int x2), (3, .int x3), (4, .long x4)] → W p l e rmX6_isBeyondChance s m args below meth c H locs 0 0 (MQ below (gQ Γ (some (.int res.1)) res.2 N) args s 0 0 Γ.2.2.1) (F0 m 63 ls [])) (h : fX6_isBeyondChance_20_b x0 x2 x3 x4 x6 u k20 k63 = some res) {H : Heap} {locs : List Loc} (hG : gAg Γ u N H) (hS : va_S Γ.2.2.1 s.heap H locs) {ls : Array Slot} (hl : lv_has ls 7 [(0, va_rf (some x0)), (2, .int x2), (3, .int x3), (4, .long x4), (6, .int x6)]) : W p l e rmX6_isBeyondChance s m args below meth c H locs 0 0 (MQ below (gQ Γ (some (.int res.1)) res.2 N) args s 0 0 Γ.2.2.1) (F0 m 20 ls []) := by
  have hx := C.1
  have hb := C.2.1
  unfold fX6_isBeyondChance_20_b at h
  refine lv_iload hx hb dX6_isBeyondChance_20 (lv_at hl 4 rfl) ?_
  refine lv_iload_n hx hb dX6_isBeyondChance_22 rfl (lv_at hl 1 rfl) ?_
  refine lv_icmp_gt (tgt := 63) hx hb dX6_isBeyondChance_23 (by decide) (fun hc => ?_) (fun hc => ?_)
  · replace h := it_pos hc h
    exact hk63 _ _ _ _ _ _ _ _ h hG hS (lv_sub hl [0, 1, 2, 3] rfl)
  · replace h := it_neg hc h
    refine lv_lload hx hb dX6_isBeyondChance_26 (lv_at hl 3 rfl) ?_
    refine lv_iload hx hb dX6_isBeyondChance_28 (lv_at hl 4 rfl) ?_
    refine gx_aload_n (r := (some x0)) hx hb dX6_isBeyondChance_30 rfl (lv_at hl 0 rfl) ?_
    obtain ⟨v31, e31, h⟩ := ob h
    refine gx_getI C hG rfl e31 fgX6_22 dX6_isBeyondChance_31 ?_
    obtain ⟨r34, u34, e34, h⟩ := obI h
    refine gx_cS C hG hS [.int x6, .int v31] (tX6_waysToChoose e34) qcX6_25 ⟨rfl, rfl, Nat.le_of_ble_eq_true rfl, Nat.le_of_ble_eq_true rfl⟩ ⟨Nat.zero_le _, Nat.zero_le _⟩ rfl hl.1 rfl (Nat.le_of_ble_eq_true rfl) (st1 := [.long r34, .long x4]) rfl dX6_isBeyondChance_34 (fun H locs hG hS => ?_)
    refine lv_iload_n hx hb dX6_isBeyondChance_37 rfl (lv_at hl 1 rfl) ?_
    refine lv_iload hx hb dX6_isBeyondChance_38 (lv_at hl 4 rfl) ?_
    refine lv_isub hx hb dX6_isBeyondChance_40 ?_
    refine gx_aload_n (r := (some x0)) hx hb dX6_isBeyondChance_41 rfl (lv_at hl 0 rfl) ?_
    obtain ⟨v42, e42, h⟩ := ob h
    refine gx_getI C hG rfl e42 fgX6_18 dX6_isBeyondChance_42 ?_
    refine gx_aload_n (r := (some x0)) hx hb dX6_isBeyondChance_45 rfl (lv_at hl 0 rfl) ?_
    obtain ⟨v46, e46, h⟩ := ob h
    refine gx_getI C hG rfl e46 fgX6_22 dX6_isBeyondChance_46 ?_
    refine lv_isub hx hb dX6_isBeyondChance_49 ?_
    obtain ⟨r50, u50, e50, h⟩ := obI h
    refine gx_cS C hG hS [.int (x2 - x6), .int (v42 - v46)] (tX6_waysToChoose e50) qcX6_25 ⟨rfl, rfl, Nat.le_of_ble_eq_true rfl, Nat.le_of_ble_eq_true rfl⟩ ⟨Nat.zero_le _, Nat.zero_le _⟩ rfl hl.1 rfl (Nat.le_of_ble_eq_true rfl) (st1 := [.long r50, .long r34, .long x4]) rfl dX6_isBeyondChance_50 (fun H locs hG hS => ?_)
    refine lv_lmul hx hb dX6_isBeyondChance_53 ?_
    refine lv_ladd hx hb dX6_isBeyondChance_54 ?_
    refine lv_lstore (i := 4) (lv' := [(4, .long (x4 + (r34 * r50))), (0, va_rf (some x0)), (2, .int x2), (3, .int x3), (6, .int x6)]) hx hb dX6_isBeyondChance_55 hl (by decide) rfl (fun ls hl => ?_)
    refine lv_iinc (v := x6 + (1 : Int32)) (lv' := [(6, .int (x6 + (1 : Int32))), (4, .long (x4 + (r34 * r50))), (0, va_rf (some x0)), (2, .int x2), (3, .int x3)]) hx hb dX6_isBeyondChance_57 hl (k := 4) rfl rfl (by decide) rfl (fun ls hl => ?_)
    refine lv_goto (tgt := 20) hx hb dX6_isBeyondChance_60 (by decide) ?_
    exact hk20 _ _ _ _ _ _ _ _ _ h hG hS (lv_sub hl [2, 3, 4, 1, 0] rfl)
def fX6_isBeyondChance_20 (k63 : Nat → Int32 → Int32 → Int64 → gM → Option (Int32 × gM)) : Nat → Nat → Int32 → Int32 → Int64 → Int32 → gM → Option (Int32 × gM)
  | 0 => fun _ _ _ _ _ _ => none
  | n + 1 => fun x0 x2 x3 x4 x6 u => fX6_isBeyondChance_20_b x0 x2 x3 x4 x6 u (fX6_isBeyondChance_20 k63 n) k63 
theorem wX6_isBeyondChance_20 (C : gC p s m args meth c cX6_isBeyondChance 7 (some .boolean) RX6 "isBeyondChance" Γ) {res : Int32 × gM} {k63 : Nat → Int32 → Int32 → Int64 → gM → Option (Int32 × gM)} (hk63 : ∀ (x0 : Nat) (x2 : Int32) (x3 : Int32) (x4 : Int64) (u : gM) (H : Heap) (locs : List Loc) (ls : Array Slot), k63 x0 x2 x3 x4 u = some res → gAg Γ u N H → va_S Γ.2.2.1 s.heap H locs → lv_has ls 7 [(0, va_rf (some x0)), (2, .int x2), (3, .int x3), (4, .long x4)] → W p l e rmX6_isBeyondChance s m args below meth c H locs 0 0 (MQ below (gQ Γ (some (.int res.1)) res.2 N) args s 0 0 Γ.2.2.1) (F0 m 63 ls [])) (n : Nat) : ∀ {x0 : Nat} {x2 : Int32} {x3 : Int32} {x4 : Int64} {x6 : Int32} {u : gM} {H : Heap} {locs : List Loc} {ls : Array Slot}, fX6_isBeyondChance_20 k63 n x0 x2 x3 x4 x6 u = some res → gAg Γ u N H → va_S Γ.2.2.1 s.heap H locs → lv_has ls 7 [(0, va_rf (some x0)), (2, .int x2), (3, .int x3), (4, .long x4), (6, .int x6)] → W p l e rmX6_isBeyondChance s m args below meth c H locs 0 0 (MQ below (gQ Γ (some (.int res.1)) res.2 N) args s 0 0 Γ.2.2.1) (F0 m 20 ls []) := by
  induction n with
  | zero => intro _ _ _ _ _ _ _ _ _ h _ _ _; cases (show (none : Option (Int32 × gM)) = some res from h)
  | succ n ih => intro _ _ _ _ _ _ _ _ _ h hG hS hl; exact wX6_isBeyondChance_20_b C (fun _ _ _ _ _ _ _ _ _ h hG hS hl => ih h hG hS hl) hk63 h hG hS hl
def fX6_isBeyondChance (x0 : Nat) (x1 : Int32) (u : gM) : Option (Int32 × gM) :=
  (gR [7] 0 u x0).bind fun v1 =>
  (v1).bind fun a5 =>
  (aI u a5 x1).bind fun v5 =>
  (gR [7] 1 u x0).bind fun v8 =>
  (v8).bind fun a12 =>
  (aI u a12 x1).bind fun v12 =>
  fX6_isBeyondChance_20 (fun x0 x2 x3 x4 u =>
        if x3 ≤ 0 then (
          some ((0 : Int32), u)
        ) else (
          (gI [7] 2 u x0).bind fun v75 =>
          bI (fX6_waysToChoose x2 v75 u) fun r78 u78 =>
          if 0 < (lg_cmp ((20 : Int64) * x4) r78) then (
            some ((0 : Int32), u78)
          ) else (
            some ((1 : Int32), u78)
          )
        )) FU x0 v5 v12 (0 : Int64) v12 u
set_option maxHeartbeats 4000000 in
set_option maxRecDepth 20000 in
theorem wX6_isBeyondChance  (C : gC p s m args meth c cX6_isBeyondChance 7 (some .boolean) RX6 "isBeyondChance" Γ){x0 : Nat} {x1 : Int32} {u : gM} {res : Int32 × gM} (h : fX6_isBeyondChance x0 x1 u = some res) {H : Heap} {locs : List Loc} (hG : gAg Γ u N H) (hS : va_S Γ.2.2.1 s.heap H locs) {ls : Array Slot} (hl : lv_has ls 7 [(0, va_rf (some x0)), (1, .int x1)]) : W p l e rmX6_isBeyondChance s m args below meth c H locs 0 0 (MQ below (gQ Γ (some (.int res.1)) res.2 N) args s 0 0 Γ.2.2.1) (F0 m 0 ls []) := by
  have hx := C.1
  have hb := C.2.1
  unfold fX6_isBeyondChance at h
  refine gx_aload_n (r := (some x0)) hx hb dX6_isBeyondChance_0 rfl (lv_at hl 0 rfl) ?_
  obtain ⟨v1, e1, h⟩ := ob h
  refine gx_getR C hG rfl e1 fgX6_9 dX6_isBeyondChance_1 ?_
  refine lv_iload_n hx hb dX6_isBeyondChance_4 rfl (lv_at hl 1 rfl) ?_
  obtain ⟨a5, na5, h⟩ := ob h
  obtain ⟨v5, e5, h⟩ := ob h
  refine gx_iald C hG na5 e5 dX6_isBeyondChance_5 ?_
  refine lv_istore_n (i := 2) (lv' := [(2, .int v5), (0, va_rf (some x0)), (1, .int x1)]) hx hb dX6_isBeyondChance_6 rfl hl (by decide) rfl (fun ls hl => ?_)
  refine gx_aload_n (r := (some x0)) hx hb dX6_isBeyondChance_7 rfl (lv_at hl 1 rfl) ?_
  obtain ⟨v8, e8, h⟩ := ob h
  refine gx_getR C hG rfl e8 fgX6_15 dX6_isBeyondChance_8 ?_
  refine lv_iload_n hx hb dX6_isBeyondChance_11 rfl (lv_at hl 2 rfl) ?_
  obtain ⟨a12, na12, h⟩ := ob h
  obtain ⟨v12, e12, h⟩ := ob h
  refine gx_iald C hG na12 e12 dX6_isBeyondChance_12 ?_
  refine lv_istore_n (i := 3) (lv' := [(3, .int v12), (2, .int v5), (0, va_rf (some x0)), (1, .int x1)]) hx hb dX6_isBeyondChance_13 rfl hl (by decide) rfl (fun ls hl => ?_)
  refine lv_lconst (v := 0) hx hb dX6_isBeyondChance_14 (by decide) ?_
  refine lv_lstore (i := 4) (lv' := [(4, .long (0 : Int64)), (3, .int v12), (2, .int v5), (0, va_rf (some x0)), (1, .int x1)]) hx hb dX6_isBeyondChance_15 hl (by decide) rfl (fun ls hl => ?_)
  refine lv_iload_n hx hb dX6_isBeyondChance_17 rfl (lv_at hl 1 rfl) ?_
  refine lv_istore (i := 6) (lv' := [(6, .int v12), (4, .long (0 : Int64)), (3, .int v12), (2, .int v5), (0, va_rf (some x0)), (1, .int x1)]) hx hb dX6_isBeyondChance_18 hl (by decide) rfl (fun ls hl => ?_)
  refine wX6_isBeyondChance_20 C ?_ FU h hG hS (lv_sub hl [4, 3, 2, 1, 0] rfl)
  · intro x0 x2 x3 x4 u H locs ls h hG hS hl
    refine lv_iload_n hx hb dX6_isBeyondChance_63 rfl (lv_at hl 2 rfl) ?_
    refine lv_if_le (tgt := 89) hx hb dX6_isBeyondChance_64 (by decide) (fun hc => ?_) (fun hc => ?_)
    · replace h := it_pos hc h
      refine lv_iconst (v := 0) hx hb dX6_isBeyondChance_89 (by decide) ?_
      cases Option.some.inj h
      exact gx_retz C (Or.inl rfl) hG hS dX6_isBeyondChance_90
    · replace h := it_neg hc h
      refine lv_ldc2 (v := 20) hx hb C.2.2.2.1 (C.2.2.2.2.1 _ (gW_mem kcX6_29)) dX6_isBeyondChance_67 ?_
      refine lv_lload hx hb dX6_isBeyondChance_70 (lv_at hl 3 rfl) ?_
      refine lv_lmul hx hb dX6_isBeyondChance_72 ?_
      refine lv_iload_n hx hb dX6_isBeyondChance_73 rfl (lv_at hl 1 rfl) ?_
      refine gx_aload_n (r := (some x0)) hx hb dX6_isBeyondChance_74 rfl (lv_at hl 0 rfl) ?_
      obtain ⟨v75, e75, h⟩ := ob h
      refine gx_getI C hG rfl e75 fgX6_18 dX6_isBeyondChance_75 ?_
      obtain ⟨r78, u78, e78, h⟩ := obI h
      refine gx_cS C hG hS [.int x2, .int v75] (tX6_waysToChoose e78) qcX6_25 ⟨rfl, rfl, Nat.le_of_ble_eq_true rfl, Nat.le_of_ble_eq_true rfl⟩ ⟨Nat.zero_le _, Nat.zero_le _⟩ rfl hl.1 rfl (Nat.le_of_ble_eq_true rfl) (st1 := [.long r78, .long ((20 : Int64) * x4)]) rfl dX6_isBeyondChance_78 (fun H locs hG hS => ?_)
      refine W.lcmp hx hb dX6_isBeyondChance_81 ?_
      refine lv_if_gt (tgt := 89) hx hb dX6_isBeyondChance_82 (by decide) (fun hc => ?_) (fun hc => ?_)
      · replace h := it_pos hc h
        refine lv_iconst (v := 0) hx hb dX6_isBeyondChance_89 (by decide) ?_
        cases Option.some.inj h
        exact gx_retz C (Or.inl rfl) hG hS dX6_isBeyondChance_90
      · replace h := it_neg hc h
        refine lv_iconst (v := 1) hx hb dX6_isBeyondChance_85 (by decide) ?_
        refine lv_goto (tgt := 90) hx hb dX6_isBeyondChance_86 (by decide) ?_
        cases Option.some.inj h
        exact gx_retz C (Or.inr rfl) hG hS dX6_isBeyondChance_90
theorem tX6_isBeyondChance {Γ : gEnv} {N : Nat} {x0 : Nat} {x1 : Int32} {u v : gM} {r : Int32} (h : fX6_isBeyondChance x0 x1 u = some (r, v)) : Met l yX6_isBeyondChance (Cond.code yX6_isBeyondChance cX6_isBeyondChance 7 (some .boolean) :: gW) rmX6_isBeyondChance (va_Pc [va_rf (some x0), .int x1] (gPre Γ u N)) (gQ Γ (some (.int r)) v N) 0 0 Γ.2.2.1 :=
  gx_met (nm := "isBeyondChance") ⟨by decide +kernel, rfl, rfl⟩ (Nat.le_of_ble_eq_true rfl) (fun p e s m below meth c ls C hG hl => wX6_isBeyondChance C h hG va_S.rf hl)
abbrev rmX7_init (a b : Nat) : Room := { frames := 1, cells := a, slots := b, locals := 23 }
def fX7_init_8 (x0 : Nat) (x1 : Int32) (s1 : Option Nat) (u : gN) : Option (gN) :=
  (wN (pV [8] 1 (va_rf s1) u.1 x0) u).bind fun u8 =>
  (wN (pV [8] 2 (.int (1 : Int32)) u8.1 x0) u8).bind fun u13 =>
  (wN (pV [8] 3 (.int (5000 : Int32)) u13.1 x0) u13).bind fun u20 =>
  (wN (pV [8] 4 (.int (0 : Int32)) u20.1 x0) u20).bind fun u25 =>
  (wN (pV [8] 0 (.int x1) u25.1 x0) u25).bind fun u30 =>
  (gR [8] 1 u30.1 x0).bind fun v34 =>
  (wN (fJ7_fill_53178 v34 (-1 : Int32) u30.1) u30).bind fun u38 =>
  some u38
set_option maxRecDepth 20000 in
theorem moX7_init_8 {x0 : Nat} {x1 : Int32} {s1 : Option Nat} {u : gN} {res : gN} (h : fX7_init_8 x0 x1 s1 u = some res) : gLe u res := by
  unfold fX7_init_8 at h
  obtain ⟨u8, e8, h⟩ := ob h
  refine gLe.tr (wN_le e8) ?_
  obtain ⟨u13, e13, h⟩ := ob h
  refine gLe.tr (wN_le e13) ?_
  obtain ⟨u20, e20, h⟩ := ob h
  refine gLe.tr (wN_le e20) ?_
  obtain ⟨u25, e25, h⟩ := ob h
  refine gLe.tr (wN_le e25) ?_
  obtain ⟨u30, e30, h⟩ := ob h
  refine gLe.tr (wN_le e30) ?_
  obtain ⟨v34, e34, h⟩ := ob h
  obtain ⟨u38, e38, h⟩ := ob h
  refine gLe.tr (wN_le e38) ?_
  cases Option.some.inj h
  exact gLe.rf _
set_option maxHeartbeats 4000000 in
set_option maxRecDepth 20000 in
theorem wX7_init_8  (C : gC p s m args meth c cX7_init 2 none RX7 "<init>" Γ){x0 : Nat} {x1 : Int32} {s1 : Option Nat} {u : gN} {res : gN} (h : fX7_init_8 x0 x1 s1 u = some res) {H : Heap} {locs : List Loc} (hG : gAn Γ sB u H) (hS : va_S Γ.2.2.1 s.heap H locs) {ls : Array Slot} (hl : lv_has ls 2 [(0, va_rf (some x0)), (1, .int x1)]) : W p l e (rmX7_init (res.2.1 - s.heap.size) (res.2.2 - sB)) s m args below meth c H locs (u.2.1 - s.heap.size) (u.2.2 - sB) (MQ below (gQ Γ none res.1 res.2.1) args s (res.2.1 - s.heap.size) (res.2.2 - sB) Γ.2.2.1) (F0 m 8 ls [va_rf s1, va_rf (some x0)]) := by
  have hx := C.1
  have hb := C.2.1
  have hm := moX7_init_8 h
  unfold fX7_init_8 at h
  obtain ⟨u8, e8, h⟩ := ob h
  obtain ⟨g8, eg8, ev8⟩ := wN_inv e8
  replace hm : gLe u8 res := by rw [ev8]; exact hm
  refine gx_put C hG.1 hS rfl eg8 fgX7_9 fpX7_9 (fun _ => rfl) (gx_rfn _ _ (Or.inr ⟨_, rfl⟩)).1 (gx_rfn _ _ (Or.inr ⟨_, rfl⟩)).2 dX7_init_8 (fun H locs hg hS => gy_w hG ev8 hg (fun hG => ?_))
  refine gx_aload_n (r := (some x0)) hx hb dX7_init_11 rfl (lv_at hl 0 rfl) ?_
  refine lv_iconst (v := 1) hx hb dX7_init_12 (by decide) ?_
  obtain ⟨u13, e13, h⟩ := ob h
  obtain ⟨g13, eg13, ev13⟩ := wN_inv e13
  replace hm : gLe u13 res := by rw [ev13]; exact hm
  refine gx_put C hG.1 hS rfl eg13 fgX7_15 fpX7_15 (fun q => by cases q) rfl rfl dX7_init_13 (fun H locs hg hS => gy_w hG ev13 hg (fun hG => ?_))
  refine gx_aload_n (r := (some x0)) hx hb dX7_init_16 rfl (lv_at hl 0 rfl) ?_
  refine lv_sipush (v := 5000) hx hb dX7_init_17 (by decide) ?_
  obtain ⟨u20, e20, h⟩ := ob h
  obtain ⟨g20, eg20, ev20⟩ := wN_inv e20
  replace hm : gLe u20 res := by rw [ev20]; exact hm
  refine gx_put C hG.1 hS rfl eg20 fgX7_19 fpX7_19 (fun q => by cases q) rfl rfl dX7_init_20 (fun H locs hg hS => gy_w hG ev20 hg (fun hG => ?_))
  refine gx_aload_n (r := (some x0)) hx hb dX7_init_23 rfl (lv_at hl 0 rfl) ?_
  refine lv_iconst (v := 0) hx hb dX7_init_24 (by decide) ?_
  obtain ⟨u25, e25, h⟩ := ob h
  obtain ⟨g25, eg25, ev25⟩ := wN_inv e25
  replace hm : gLe u25 res := by rw [ev25]; exact hm
  refine gx_put C hG.1 hS rfl eg25 fgX7_22 fpX7_22 (fun q => by cases q) rfl rfl dX7_init_25 (fun H locs hg hS => gy_w hG ev25 hg (fun hG => ?_))
  refine gx_aload_n (r := (some x0)) hx hb dX7_init_28 rfl (lv_at hl 0 rfl) ?_
  refine lv_iload_n hx hb dX7_init_29 rfl (lv_at hl 1 rfl) ?_
  obtain ⟨u30, e30, h⟩ := ob h
  obtain ⟨g30, eg30, ev30⟩ := wN_inv e30
  replace hm : gLe u30 res := by rw [ev30]; exact hm
  refine gx_put C hG.1 hS rfl eg30 fgX7_25 fpX7_25 (fun _ => rfl) rfl rfl dX7_init_30 (fun H locs hg hS => gy_w hG ev30 hg (fun hG => ?_))
  refine gx_aload_n (r := (some x0)) hx hb dX7_init_33 rfl (lv_at hl 0 rfl) ?_
  obtain ⟨v34, e34, h⟩ := ob h
  refine gx_getR C hG.1 rfl e34 fgX7_9 dX7_init_34 ?_
  refine lv_iconst (v := -1) hx hb dX7_init_37 (by decide) ?_
  obtain ⟨u38, e38, h⟩ := ob h
  obtain ⟨g38, eg38, ev38⟩ := wN_inv e38
  refine gx_cS C hG.1 hS [va_rf v34, .int (-1 : Int32)] (tJ7_fill_53178 eg38) qcX7_28 ⟨rfl, rfl, Nat.le_of_ble_eq_true rfl, Nat.le_of_ble_eq_true rfl⟩ ⟨Nat.sub_le_sub_right hm.1 _, Nat.sub_le_sub_right hm.2 _⟩ rfl hl.1 rfl (Nat.le_of_ble_eq_true rfl) (st1 := []) rfl dX7_init_38 (fun H locs hg hS2 => gy_w (H0 := _) hG ev38 hg (fun hG => ?_))
  replace hS := hS2
  replace hm : gLe u38 res := by rw [ev38]; exact hm
  cases Option.some.inj h
  exact gx_retv C hG.1 hS dX7_init_41
def fX7_init (x0 : Nat) (x1 : Int32) (u : gN) : Option (gN) :=
  bI (nwI (5 : Int32) u) fun q6 u6 =>
  fX7_init_8 x0 x1 (some q6) u6 
set_option maxRecDepth 20000 in
theorem moX7_init {x0 : Nat} {x1 : Int32} {u : gN} {res : gN} (h : fX7_init x0 x1 u = some res) : gLe u res := by
  unfold fX7_init at h
  obtain ⟨q6, u6, e6, h⟩ := obI h
  refine gLe.tr (nwI_le e6) ?_
  exact moX7_init_8  h
set_option maxHeartbeats 4000000 in
set_option maxRecDepth 20000 in
theorem wX7_init  (C : gC p s m args meth c cX7_init 2 none RX7 "<init>" Γ){x0 : Nat} {x1 : Int32} {u : gN} {res : gN} (h : fX7_init x0 x1 u = some res) {H : Heap} {locs : List Loc} (hG : gAn Γ sB u H) (hS : va_S Γ.2.2.1 s.heap H locs) {ls : Array Slot} (hl : lv_has ls 2 [(0, va_rf (some x0)), (1, .int x1)]) : W p l e (rmX7_init (res.2.1 - s.heap.size) (res.2.2 - sB)) s m args below meth c H locs (u.2.1 - s.heap.size) (u.2.2 - sB) (MQ below (gQ Γ none res.1 res.2.1) args s (res.2.1 - s.heap.size) (res.2.2 - sB) Γ.2.2.1) (F0 m 0 ls []) := by
  have hx := C.1
  have hb := C.2.1
  have hm := moX7_init h
  unfold fX7_init at h
  refine gx_aload_n (r := (some x0)) hx hb dX7_init_0 rfl (lv_at hl 0 rfl) ?_
  refine gx_obj C rfl qcX7_3 hl.1 ⟨Nat.le_of_ble_eq_true rfl, Nat.le_of_ble_eq_true rfl⟩ dX7_init_1 ?_
  refine gx_aload_n (r := (some x0)) hx hb dX7_init_4 rfl (lv_at hl 0 rfl) ?_
  refine lv_iconst (v := 5) hx hb dX7_init_5 (by decide) ?_
  obtain ⟨q6, u6, e6, h⟩ := obI h
  have hm2 : gLe u6 res := by
    exact moX7_init_8  h
  refine gy_newI C hG hS e6 ⟨Nat.sub_le_sub_right hm2.1 _, Nat.sub_le_sub_right hm2.2 _⟩ dX7_init_6 (fun H hG hS => ?_)
  exact wX7_init_8 C  h hG hS (lv_sub hl [0, 1] rfl)
theorem tX7_init {Γ : gEnv} {x0 : Nat} {x1 : Int32} {u v : gN} (h : fX7_init x0 x1 u = some v) : Met l yX7_init (Cond.code yX7_init cX7_init 2 none :: gW) (rmX7_init (v.2.1 - u.2.1) (v.2.2 - u.2.2)) (va_Pc [va_rf (some x0), .int x1] (gPre Γ u.1 u.2.1)) (gQ Γ none v.1 v.2.1) (v.2.1 - u.2.1) (v.2.2 - u.2.2) Γ.2.2.1 := by
  refine gx_met (nm := "<init>") ⟨by decide +kernel, rfl, rfl⟩ (Nat.le_of_ble_eq_true rfl) (fun p e s m below meth c ls C hG hl => ?_)
  have hN : s.heap.size = u.2.1 := hG.1
  have K := wX7_init (l := l) (e := e) (below := below) (sB := u.2.2) C h ⟨hG, Nat.le_refl _⟩ va_S.rf hl
  rw [hN, Nat.sub_self, Nat.sub_self] at K
  exact K
abbrev rmX7_isBarred : Room := { frames := 0, cells := 0, slots := 0, locals := 0 }
def fX7_isBarred (x0 : Nat) (u : gM) : Option (Int32 × gM) :=
  (gI [8] 4 u x0).bind fun v1 =>
  if v1 < (3 : Int32) then (
    some ((0 : Int32), u)
  ) else (
    some ((1 : Int32), u)
  )
set_option maxHeartbeats 4000000 in
set_option maxRecDepth 20000 in
theorem wX7_isBarred  (C : gC p s m args meth c cX7_isBarred 1 (some .boolean) RX7 "isBarred" Γ){x0 : Nat} {u : gM} {res : Int32 × gM} (h : fX7_isBarred x0 u = some res) {H : Heap} {locs : List Loc} (hG : gAg Γ u N H) (hS : va_S Γ.2.2.1 s.heap H locs) {ls : Array Slot} (hl : lv_has ls 1 [(0, va_rf (some x0))]) : W p l e rmX7_isBarred s m args below meth c H locs 0 0 (MQ below (gQ Γ (some (.int res.1)) res.2 N) args s 0 0 Γ.2.2.1) (F0 m 0 ls []) := by
  have hx := C.1
  have hb := C.2.1
  unfold fX7_isBarred at h
  refine gx_aload_n (r := (some x0)) hx hb dX7_isBarred_0 rfl (lv_at hl 0 rfl) ?_
  obtain ⟨v1, e1, h⟩ := ob h
  refine gx_getI C hG rfl e1 fgX7_22 dX7_isBarred_1 ?_
  refine lv_iconst (v := 3) hx hb dX7_isBarred_4 (by decide) ?_
  refine lv_icmp_lt (tgt := 12) hx hb dX7_isBarred_5 (by decide) (fun hc => ?_) (fun hc => ?_)
  · replace h := it_pos hc h
    refine lv_iconst (v := 0) hx hb dX7_isBarred_12 (by decide) ?_
    cases Option.some.inj h
    exact gx_retz C (Or.inl rfl) hG hS dX7_isBarred_13
  · replace h := it_neg hc h
    refine lv_iconst (v := 1) hx hb dX7_isBarred_8 (by decide) ?_
    refine lv_goto (tgt := 13) hx hb dX7_isBarred_9 (by decide) ?_
    cases Option.some.inj h
    exact gx_retz C (Or.inr rfl) hG hS dX7_isBarred_13
theorem tX7_isBarred {Γ : gEnv} {N : Nat} {x0 : Nat} {u v : gM} {r : Int32} (h : fX7_isBarred x0 u = some (r, v)) : Met l yX7_isBarred (Cond.code yX7_isBarred cX7_isBarred 1 (some .boolean) :: gW) rmX7_isBarred (va_Pc [va_rf (some x0)] (gPre Γ u N)) (gQ Γ (some (.int r)) v N) 0 0 Γ.2.2.1 :=
  gx_met (nm := "isBarred") ⟨by decide +kernel, rfl, rfl⟩ (Nat.le_of_ble_eq_true rfl) (fun p e s m below meth c ls C hG hl => wX7_isBarred C h hG va_S.rf hl)
abbrev rmX8_become (a b : Nat) : Room := { frames := 2, cells := a, slots := b, locals := 35 }
def fX8_become_38 (x0 : Nat) (x1 : Int32) (x2 : Int32) (s1 : Option Nat) (u : gN) : Option (gN) :=
  (gR [9, 6] 11 u.1 x0).bind fun v42 =>
  (s1).bind fun a45 =>
  (wN (fX1_init a45 x2 x1 v42 u.1) u).bind fun u45 =>
  (wN (pV [9, 6] 11 (va_rf s1) u45.1 x0) u45).bind fun u48 =>
  some u48
set_option maxRecDepth 20000 in
theorem moX8_become_38 {x0 : Nat} {x1 : Int32} {x2 : Int32} {s1 : Option Nat} {u : gN} {res : gN} (h : fX8_become_38 x0 x1 x2 s1 u = some res) : gLe u res := by
  unfold fX8_become_38 at h
  obtain ⟨v42, e42, h⟩ := ob h
  obtain ⟨a45, na45, h⟩ := ob h
  obtain ⟨u45, e45, h⟩ := ob h
  refine gLe.tr (wN_le e45) ?_
  obtain ⟨u48, e48, h⟩ := ob h
  refine gLe.tr (wN_le e48) ?_
  cases Option.some.inj h
  exact gLe.rf _
set_option maxHeartbeats 4000000 in
set_option maxRecDepth 20000 in
theorem wX8_become_38  (C : gC p s m args meth c cX8_become 3 none RX8 "become" Γ){x0 : Nat} {x1 : Int32} {x2 : Int32} {s1 : Option Nat} {u : gN} {res : gN} (h : fX8_become_38 x0 x1 x2 s1 u = some res) {H : Heap} {locs : List Loc} (hG : gAn Γ sB u H) (hS : va_S Γ.2.2.1 s.heap H locs) {ls : Array Slot} (hl : lv_has ls 3 [(0, va_rf (some x0)), (1, .int x1), (2, .int x2)]) : W p l e (rmX8_become (res.2.1 - s.heap.size) (res.2.2 - sB)) s m args below meth c H locs (u.2.1 - s.heap.size) (u.2.2 - sB) (MQ below (gQ Γ none res.1 res.2.1) args s (res.2.1 - s.heap.size) (res.2.2 - sB) Γ.2.2.1) (F0 m 38 ls [va_rf s1, va_rf (some x0)]) := by
  have hx := C.1
  have hb := C.2.1
  have hm := moX8_become_38 h
  unfold fX8_become_38 at h
  refine lv_dup hx hb dX8_become_38 (by first | rfl | exact gx_cat _) ?_
  refine lv_iload_n hx hb dX8_become_39 rfl (lv_at hl 2 rfl) ?_
  refine lv_iload_n hx hb dX8_become_40 rfl (lv_at hl 1 rfl) ?_
  refine gx_aload_n (r := (some x0)) hx hb dX8_become_41 rfl (lv_at hl 0 rfl) ?_
  obtain ⟨v42, e42, h⟩ := ob h
  refine gx_getR C hG.1 rfl e42 fgX8_32 dX8_become_42 ?_
  obtain ⟨a45, na45, h⟩ := ob h
  obtain ⟨u45, e45, h⟩ := ob h
  obtain ⟨g45, eg45, ev45⟩ := wN_inv e45
  refine gx_cI C hG.1 hS [.int x2, .int x1, va_rf v42] na45 (tX1_init eg45) qcX8_57 ⟨rfl, rfl, Nat.le_of_ble_eq_true rfl, Nat.le_of_ble_eq_true rfl⟩ ⟨Nat.sub_le_sub_right hm.1 _, Nat.sub_le_sub_right hm.2 _⟩ rfl hl.1 rfl (by simp [gx_cat, gx_catI, gx_catJ]) dX8_become_45 (fun H locs hg hS2 => gy_w (H0 := _) hG ev45 hg (fun hG => ?_))
  replace hS := hS2
  replace hm : gLe u45 res := by rw [ev45]; exact hm
  obtain ⟨u48, e48, h⟩ := ob h
  obtain ⟨g48, eg48, ev48⟩ := wN_inv e48
  replace hm : gLe u48 res := by rw [ev48]; exact hm
  refine gx_put C hG.1 hS rfl eg48 fgX8_32 fpX8_32 (fun q => by cases q) (gx_rfn _ _ (Or.inl ⟨_, rfl⟩)).1 (gx_rfn _ _ (Or.inl ⟨_, rfl⟩)).2 dX8_become_48 (fun H locs hg hS => gy_w hG ev48 hg (fun hG => ?_))
  cases Option.some.inj h
  exact gx_retv C hG.1 hS dX8_become_51
def fX8_become_34 (x0 : Nat) (x1 : Int32) (x2 : Int32) (u : gN) : Option (gN) :=
  bI (nwO 2 [.int 0, .null, .int 0] u) fun q35 u35 =>
  fX8_become_38 x0 x1 x2 (some q35) u35 
set_option maxRecDepth 20000 in
theorem moX8_become_34 {x0 : Nat} {x1 : Int32} {x2 : Int32} {u : gN} {res : gN} (h : fX8_become_34 x0 x1 x2 u = some res) : gLe u res := by
  unfold fX8_become_34 at h
  obtain ⟨q35, u35, e35, h⟩ := obI h
  refine gLe.tr (nwO_le e35) ?_
  exact moX8_become_38  h
set_option maxHeartbeats 4000000 in
set_option maxRecDepth 20000 in
theorem wX8_become_34  (C : gC p s m args meth c cX8_become 3 none RX8 "become" Γ){x0 : Nat} {x1 : Int32} {x2 : Int32} {u : gN} {res : gN} (h : fX8_become_34 x0 x1 x2 u = some res) {H : Heap} {locs : List Loc} (hG : gAn Γ sB u H) (hS : va_S Γ.2.2.1 s.heap H locs) {ls : Array Slot} (hl : lv_has ls 3 [(0, va_rf (some x0)), (1, .int x1), (2, .int x2)]) : W p l e (rmX8_become (res.2.1 - s.heap.size) (res.2.2 - sB)) s m args below meth c H locs (u.2.1 - s.heap.size) (u.2.2 - sB) (MQ below (gQ Γ none res.1 res.2.1) args s (res.2.1 - s.heap.size) (res.2.2 - sB) Γ.2.2.1) (F0 m 34 ls []) := by
  have hx := C.1
  have hb := C.2.1
  have hm := moX8_become_34 h
  unfold fX8_become_34 at h
  refine gx_aload_n (r := (some x0)) hx hb dX8_become_34 rfl (lv_at hl 0 rfl) ?_
  obtain ⟨q35, u35, e35, h⟩ := obI h
  have hm2 : gLe u35 res := by
    exact moX8_become_38  h
  refine gy_new C hG hS e35 kwX8_52 ⟨Nat.sub_le_sub_right hm2.1 _, Nat.sub_le_sub_right hm2.2 _⟩ dX8_become_35 (fun H hG hS => ?_)
  exact wX8_become_38 C  h hG hS (lv_sub hl [0, 1, 2] rfl)
def fX8_become (x0 : Nat) (x1 : Int32) (x2 : Int32) (u : gN) : Option (gN) :=
  (wN (pV [9, 6] 6 (.int x1) u.1 x0) u).bind fun u2 =>
  (gR [9, 6] 11 u2.1 x0).bind fun v6 =>
  if v6 = none then (
    fX8_become_34 x0 x1 x2 u2 
  ) else (
    (gR [9, 6] 11 u2.1 x0).bind fun v13 =>
    (v13).bind fun a16 =>
    (gI [2] 0 u2.1 a16).bind fun v16 =>
    if v16 = x2 then (
      (gR [9, 6] 11 u2.1 x0).bind fun v24 =>
      (v24).bind fun a28 =>
      (wN (pV [2] 2 (.int x1) u2.1 a28) u2).bind fun u28 =>
      some u28
    ) else (
      fX8_become_34 x0 x1 x2 u2 
    )
  )
set_option maxRecDepth 20000 in
theorem moX8_become {x0 : Nat} {x1 : Int32} {x2 : Int32} {u : gN} {res : gN} (h : fX8_become x0 x1 x2 u = some res) : gLe u res := by
  unfold fX8_become at h
  obtain ⟨u2, e2, h⟩ := ob h
  refine gLe.tr (wN_le e2) ?_
  obtain ⟨v6, e6, h⟩ := ob h
  by_cases hc : v6 = none
  · replace h := it_pos hc h
    exact moX8_become_34  h
  · replace h := it_neg hc h
    obtain ⟨v13, e13, h⟩ := ob h
    obtain ⟨a16, na16, h⟩ := ob h
    obtain ⟨v16, e16, h⟩ := ob h
    by_cases hc : v16 = x2
    · replace h := it_pos hc h
      obtain ⟨v24, e24, h⟩ := ob h
      obtain ⟨a28, na28, h⟩ := ob h
      obtain ⟨u28, e28, h⟩ := ob h
      refine gLe.tr (wN_le e28) ?_
      cases Option.some.inj h
      exact gLe.rf _
    · replace h := it_neg hc h
      exact moX8_become_34  h
set_option maxHeartbeats 4000000 in
set_option maxRecDepth 20000 in
theorem wX8_become  (C : gC p s m args meth c cX8_become 3 none RX8 "become" Γ){x0 : Nat} {x1 : Int32} {x2 : Int32} {u : gN} {res : gN} (h : fX8_become x0 x1 x2 u = some res) {H : Heap} {locs : List Loc} (hG : gAn Γ sB u H) (hS : va_S Γ.2.2.1 s.heap H locs) {ls : Array Slot} (hl : lv_has ls 3 [(0, va_rf (some x0)), (1, .int x1), (2, .int x2)]) : W p l e (rmX8_become (res.2.1 - s.heap.size) (res.2.2 - sB)) s m args below meth c H locs (u.2.1 - s.heap.size) (u.2.2 - sB) (MQ below (gQ Γ none res.1 res.2.1) args s (res.2.1 - s.heap.size) (res.2.2 - sB) Γ.2.2.1) (F0 m 0 ls []) := by
  have hx := C.1
  have hb := C.2.1
  have hm := moX8_become h
  unfold fX8_become at h
  refine gx_aload_n (r := (some x0)) hx hb dX8_become_0 rfl (lv_at hl 0 rfl) ?_
  refine lv_iload_n hx hb dX8_become_1 rfl (lv_at hl 1 rfl) ?_
  obtain ⟨u2, e2, h⟩ := ob h
  obtain ⟨g2, eg2, ev2⟩ := wN_inv e2
  replace hm : gLe u2 res := by rw [ev2]; exact hm
  refine gx_put C hG.1 hS rfl eg2 fgX8_15 fpX8_15 (fun q => by cases q) rfl rfl dX8_become_2 (fun H locs hg hS => gy_w hG ev2 hg (fun hG => ?_))
  refine gx_aload_n (r := (some x0)) hx hb dX8_become_5 rfl (lv_at hl 0 rfl) ?_
  obtain ⟨v6, e6, h⟩ := ob h
  refine gx_getR C hG.1 rfl e6 fgX8_32 dX8_become_6 ?_
  refine gx_ifnull (tgt := 34) hx hb dX8_become_9 (by decide) (fun hc => ?_) (fun hc => ?_)
  · replace h := it_pos hc h
    exact wX8_become_34 C  h hG hS (lv_sub hl [0, 1, 2] rfl)
  · replace h := it_neg hc h
    refine gx_aload_n (r := (some x0)) hx hb dX8_become_12 rfl (lv_at hl 0 rfl) ?_
    obtain ⟨v13, e13, h⟩ := ob h
    refine gx_getR C hG.1 rfl e13 fgX8_32 dX8_become_13 ?_
    obtain ⟨a16, na16, h⟩ := ob h
    obtain ⟨v16, e16, h⟩ := ob h
    refine gx_getI C hG.1 na16 e16 fgX8_51 dX8_become_16 ?_
    refine lv_iload_n hx hb dX8_become_19 rfl (lv_at hl 2 rfl) ?_
    refine lv_icmp_ne (tgt := 34) hx hb dX8_become_20 (by decide) (fun hc => ?_) (fun hc => ?_)
    · replace h := it_neg hc h
      exact wX8_become_34 C  h hG hS (lv_sub hl [0, 1, 2] rfl)
    · replace h := it_pos hc h
      refine gx_aload_n (r := (some x0)) hx hb dX8_become_23 rfl (lv_at hl 0 rfl) ?_
      obtain ⟨v24, e24, h⟩ := ob h
      refine gx_getR C hG.1 rfl e24 fgX8_32 dX8_become_24 ?_
      refine lv_iload_n hx hb dX8_become_27 rfl (lv_at hl 1 rfl) ?_
      obtain ⟨a28, na28, h⟩ := ob h
      obtain ⟨u28, e28, h⟩ := ob h
      obtain ⟨g28, eg28, ev28⟩ := wN_inv e28
      replace hm : gLe u28 res := by rw [ev28]; exact hm
      refine gx_put C hG.1 hS na28 eg28 fgX8_56 fpX8_56 (fun q => by cases q) rfl rfl dX8_become_28 (fun H locs hg hS => gy_w hG ev28 hg (fun hG => ?_))
      refine lv_goto (tgt := 51) hx hb dX8_become_31 (by decide) ?_
      cases Option.some.inj h
      exact gx_retv C hG.1 hS dX8_become_51
theorem tX8_become {Γ : gEnv} {x0 : Nat} {x1 : Int32} {x2 : Int32} {u v : gN} (h : fX8_become x0 x1 x2 u = some v) : Met l yX8_become (Cond.code yX8_become cX8_become 3 none :: gW) (rmX8_become (v.2.1 - u.2.1) (v.2.2 - u.2.2)) (va_Pc [va_rf (some x0), .int x1, .int x2] (gPre Γ u.1 u.2.1)) (gQ Γ none v.1 v.2.1) (v.2.1 - u.2.1) (v.2.2 - u.2.2) Γ.2.2.1 := by
  refine gx_met (nm := "become") ⟨by decide +kernel, rfl, rfl⟩ (Nat.le_of_ble_eq_true rfl) (fun p e s m below meth c ls C hG hl => ?_)
  have hN : s.heap.size = u.2.1 := hG.1
  have K := wX8_become (l := l) (e := e) (below := below) (sB := u.2.2) C h ⟨hG, Nat.le_refl _⟩ va_S.rf hl
  rw [hN, Nat.sub_self, Nat.sub_self] at K
  exact K
end
