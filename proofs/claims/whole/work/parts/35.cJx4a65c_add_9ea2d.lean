section
variable {p : Program} {l : Launch} {e : Env} {s : State} {m : MethodId} {args : Array Value} {below : List Frame} {meth : Method} {c : Code} {Γ : gEnv} {N sB : Nat}
abbrev rmJx4a65c_add_9ea2d (a b : Nat) : Room := { frames := 6, cells := a, slots := b, locals := 150 }
def fJx4a65c_add_9ea2d_23 (z : Nat → Nat) (u : gN) : Option (Int32 × gN) :=
  some ((1 : Int32), u)
set_option maxRecDepth 20000 in
theorem moJx4a65c_add_9ea2d_23 {z : Nat → Nat} {u : gN} {res : Int32 × gN} (h : fJx4a65c_add_9ea2d_23 z u = some res) : gLe u res.2 := by
  unfold fJx4a65c_add_9ea2d_23 at h
  cases Option.some.inj h
  exact gLe.rf _
set_option maxHeartbeats 4000000 in
set_option maxRecDepth 20000 in
theorem wJx4a65c_add_9ea2d_23 {z : Nat → Nat}  (C : gC p s m args meth c cJx4a65c_add_9ea2d 2 (some .boolean) RJx4a65c "add" Γ)(hz : Γ.2.2.2 = z) {u : gN} {res : Int32 × gN} (h : fJx4a65c_add_9ea2d_23 z u = some res) {H : Heap} {locs : List Loc} (hG : gAn Γ sB u H) (hS : va_S Γ.2.2.1 s.heap H locs) {ls : Array Slot} (hl : lv_has ls 2 []) : W p l e (rmJx4a65c_add_9ea2d (res.2.2.1 - s.heap.size) (res.2.2.2 - sB)) s m args below meth c H locs (u.2.1 - s.heap.size) (u.2.2 - sB) (MQ below (gQ Γ (some (.int res.1)) res.2.1 res.2.2.1) args s (res.2.2.1 - s.heap.size) (res.2.2.2 - sB) Γ.2.2.1) (F0 m 23 ls []) := by
  have hx := C.1
  have hb := C.2.1
  have hm := moJx4a65c_add_9ea2d_23 h
  unfold fJx4a65c_add_9ea2d_23 at h
  refine lv_iconst (v := 1) hx hb dJx4a65c_add_9ea2d_23 (by decide) ?_
  cases Option.some.inj h
  exact gx_retz C (Or.inr rfl) hG.1 hS dJx4a65c_add_9ea2d_24
def fJx4a65c_add_9ea2d (z : Nat → Nat) (x0 : Nat) (x1 : Option Nat) (u : gN) : Option (Int32 × gN) :=
  (gI [0] 0 u.1 x0).bind fun v2 =>
  (wN (pV [0] 0 (.int (v2 + (1 : Int32))) u.1 x0) u).bind fun u7 =>
  (gR [0] 1 u7.1 x0).bind fun v13 =>
  (gI [0] 2 u7.1 x0).bind fun v17 =>
  (gO [0] u7.1 x0).bind fun _ =>
  (fJx4a65c_add_72be8 z x0 x1 v13 v17 u7).bind fun u20 =>
  fJx4a65c_add_9ea2d_23 z  u20 
set_option maxRecDepth 20000 in
theorem moJx4a65c_add_9ea2d {z : Nat → Nat} {x0 : Nat} {x1 : Option Nat} {u : gN} {res : Int32 × gN} (h : fJx4a65c_add_9ea2d z x0 x1 u = some res) : gLe u res.2 := by
  unfold fJx4a65c_add_9ea2d at h
  obtain ⟨v2, e2, h⟩ := ob h
  obtain ⟨u7, e7, h⟩ := ob h
  refine gLe.tr (wN_le e7) ?_
  obtain ⟨v13, e13, h⟩ := ob h
  obtain ⟨v17, e17, h⟩ := ob h
  obtain ⟨_, eo20, h⟩ := ob h
  obtain ⟨u20, e20, h⟩ := ob h
  refine gLe.tr (moJx4a65c_add_72be8 e20) ?_
  exact moJx4a65c_add_9ea2d_23  h
set_option maxHeartbeats 4000000 in
set_option maxRecDepth 20000 in
theorem wJx4a65c_add_9ea2d {z : Nat → Nat}  (C : gC p s m args meth c cJx4a65c_add_9ea2d 2 (some .boolean) RJx4a65c "add" Γ)(hz : Γ.2.2.2 = z) {x0 : Nat} {x1 : Option Nat} {u : gN} {res : Int32 × gN} (h : fJx4a65c_add_9ea2d z x0 x1 u = some res) {H : Heap} {locs : List Loc} (hG : gAn Γ sB u H) (hS : va_S Γ.2.2.1 s.heap H locs) {ls : Array Slot} (hl : lv_has ls 2 [(0, va_rf (some x0)), (1, va_rf x1)]) : W p l e (rmJx4a65c_add_9ea2d (res.2.2.1 - s.heap.size) (res.2.2.2 - sB)) s m args below meth c H locs (u.2.1 - s.heap.size) (u.2.2 - sB) (MQ below (gQ Γ (some (.int res.1)) res.2.1 res.2.2.1) args s (res.2.2.1 - s.heap.size) (res.2.2.2 - sB) Γ.2.2.1) (F0 m 0 ls []) := by
  have hx := C.1
  have hb := C.2.1
  have hm := moJx4a65c_add_9ea2d h
  unfold fJx4a65c_add_9ea2d at h
  refine gx_aload_n (r := (some x0)) hx hb dJx4a65c_add_9ea2d_0 rfl (lv_at hl 0 rfl) ?_
  refine lv_dup hx hb dJx4a65c_add_9ea2d_1 (by first | rfl | exact gx_cat _) ?_
  obtain ⟨v2, e2, h⟩ := ob h
  refine gx_getI C hG.1 rfl e2 fgJx4a65c_63 dJx4a65c_add_9ea2d_2 ?_
  refine lv_iconst (v := 1) hx hb dJx4a65c_add_9ea2d_5 (by decide) ?_
  refine lv_iadd hx hb dJx4a65c_add_9ea2d_6 ?_
  obtain ⟨u7, e7, h⟩ := ob h
  obtain ⟨g7, eg7, ev7⟩ := wN_inv e7
  replace hm : gLe u7 res.2 := by rw [ev7]; exact hm
  refine gx_put C hG.1 hS rfl eg7 fgJx4a65c_63 fpJx4a65c_63 (fun q => by cases q) rfl rfl dJx4a65c_add_9ea2d_7 (fun H locs hg hS => gy_w hG ev7 hg (fun hG => ?_))
  refine gx_aload_n (r := (some x0)) hx hb dJx4a65c_add_9ea2d_10 rfl (lv_at hl 0 rfl) ?_
  refine gx_aload_n (r := x1) hx hb dJx4a65c_add_9ea2d_11 rfl (lv_at hl 1 rfl) ?_
  refine gx_aload_n (r := (some x0)) hx hb dJx4a65c_add_9ea2d_12 rfl (lv_at hl 0 rfl) ?_
  obtain ⟨v13, e13, h⟩ := ob h
  refine gx_getR C hG.1 rfl e13 fgJx4a65c_9 dJx4a65c_add_9ea2d_13 ?_
  refine gx_aload_n (r := (some x0)) hx hb dJx4a65c_add_9ea2d_16 rfl (lv_at hl 0 rfl) ?_
  obtain ⟨v17, e17, h⟩ := ob h
  refine gx_getI C hG.1 rfl e17 fgJx4a65c_48 dJx4a65c_add_9ea2d_17 ?_
  obtain ⟨_, eo20, h⟩ := ob h
  obtain ⟨u20, e20, h⟩ := ob h
  have hle := moJx4a65c_add_72be8 e20
  have hm2 : gLe u20 res.2 := by
    exact moJx4a65c_add_9ea2d_23  h
  refine gx_cV C hG.1 hS [va_rf x1, va_rf v13, .int v17] rfl eo20 (tJx4a65c_add_72be8 hz e20) qcJx4a65c_131 ⟨rfl, rfl, Nat.le_of_ble_eq_true rfl, Nat.le_of_ble_eq_true rfl⟩ (gy_room hG hS hle ⟨Nat.sub_le_sub_right hm2.1 _, Nat.sub_le_sub_right hm2.2 _⟩) rfl hl.1 rfl (Nat.le_of_ble_eq_true rfl) (st1 := []) rfl dJx4a65c_add_9ea2d_20 (fun H locs hg hS2 => gy_ret hG hS hle hg (fun hG => ?_))
  replace hS := hS2
  exact wJx4a65c_add_9ea2d_23 C hz  h hG hS (lv_sub hl [] rfl)
theorem tJx4a65c_add_9ea2d {Γ : gEnv} {z : Nat → Nat} (hz : Γ.2.2.2 = z) {x0 : Nat} {x1 : Option Nat} {u v : gN} {r : Int32} (h : fJx4a65c_add_9ea2d z x0 x1 u = some (r, v)) : Met l yJx4a65c_add_9ea2d (Cond.code yJx4a65c_add_9ea2d cJx4a65c_add_9ea2d 2 (some .boolean) :: gW) (rmJx4a65c_add_9ea2d (v.2.1 - u.2.1) (v.2.2 - u.2.2)) (va_Pc [va_rf (some x0), va_rf x1] (gPre Γ u.1 u.2.1)) (gQ Γ (some (.int r)) v.1 v.2.1) (v.2.1 - u.2.1) (v.2.2 - u.2.2) Γ.2.2.1 := by
  refine gx_met (nm := "add") ⟨by decide +kernel, rfl, rfl⟩ (by simp [lg_sl, gx_cat, gx_catI, gx_catJ]) (fun p e s m below meth c ls C hG hl => ?_)
  have hN : s.heap.size = u.2.1 := hG.1
  have K := wJx4a65c_add_9ea2d (l := l) (e := e) (below := below) (sB := u.2.2) C hz h ⟨hG, Nat.le_refl _⟩ va_S.rf (by simpa [lv_args, gx_cat, gx_catI, gx_catJ] using hl)
  rw [hN, Nat.sub_self, Nat.sub_self] at K
  exact K
abbrev rmX9_finding : Room := { frames := 0, cells := 0, slots := 0, locals := 0 }
def fX9_finding (x0 : Nat) (x1 : Int32) (u : gM) : Option (Int32 × gM) :=
  (gR [10] 5 u x0).bind fun v1 =>
  (v1).bind fun a6 =>
  (aI u a6 x1).bind fun v6 =>
  (v1).bind fun a9 =>
  (uI u a9 x1 (v6 + (1 : Int32))).bind fun u9 =>
  some ((-1000000 : Int32) - x1, u9)
set_option maxHeartbeats 4000000 in
set_option maxRecDepth 20000 in
theorem wX9_finding  (C : gC p s m args meth c cX9_finding 2 (some .int) RX9 "finding" Γ){x0 : Nat} {x1 : Int32} {u : gM} {res : Int32 × gM} (h : fX9_finding x0 x1 u = some res) {H : Heap} {locs : List Loc} (hG : gAg Γ u N H) (hS : va_S Γ.2.2.1 s.heap H locs) {ls : Array Slot} (hl : lv_has ls 2 [(0, va_rf (some x0)), (1, .int x1)]) : W p l e rmX9_finding s m args below meth c H locs 0 0 (MQ below (gQ Γ (some (.int res.1)) res.2 N) args s 0 0 Γ.2.2.1) (F0 m 0 ls []) := by
  have hx := C.1
  have hb := C.2.1
  unfold fX9_finding at h
  refine gx_aload_n (r := (some x0)) hx hb dX9_finding_0 rfl (lv_at hl 0 rfl) ?_
  obtain ⟨v1, e1, h⟩ := ob h
  refine gx_getR C hG rfl e1 fgX9_29 dX9_finding_1 ?_
  refine lv_iload_n hx hb dX9_finding_4 rfl (lv_at hl 1 rfl) ?_
  refine lv_dup2_11 hx hb dX9_finding_5 (by first | rfl | exact gx_cat _) (by first | rfl | exact gx_cat _) ?_
  obtain ⟨a6, na6, h⟩ := ob h
  obtain ⟨v6, e6, h⟩ := ob h
  refine gx_iald C hG na6 e6 dX9_finding_6 ?_
  refine lv_iconst (v := 1) hx hb dX9_finding_7 (by decide) ?_
  refine lv_iadd hx hb dX9_finding_8 ?_
  obtain ⟨a9, na9, h⟩ := ob h
  obtain ⟨u9, e9, h⟩ := ob h
  refine gx_iast C hG hS na9 e9 dX9_finding_9 (fun H locs hG hS => ?_)
  refine lv_ldcw (v := -1000000) hx hb C.2.2.2.1 (C.2.2.2.2.1 _ (gW_mem kcX9_316)) dX9_finding_10 ?_
  refine lv_iload_n hx hb dX9_finding_13 rfl (lv_at hl 1 rfl) ?_
  refine lv_isub hx hb dX9_finding_14 ?_
  cases Option.some.inj h
  exact gx_reti C hG hS dX9_finding_15
theorem tX9_finding {Γ : gEnv} {N : Nat} {x0 : Nat} {x1 : Int32} {u v : gM} {r : Int32} (h : fX9_finding x0 x1 u = some (r, v)) : Met l yX9_finding (Cond.code yX9_finding cX9_finding 2 (some .int) :: gW) rmX9_finding (va_Pc [va_rf (some x0), .int x1] (gPre Γ u N)) (gQ Γ (some (.int r)) v N) 0 0 Γ.2.2.1 :=
  gx_met (nm := "finding") ⟨by decide +kernel, rfl, rfl⟩ (Nat.le_of_ble_eq_true rfl) (fun p e s m below meth c ls C hG hl => wX9_finding C h hG va_S.rf hl)
abbrev rmX9_spoilIfOld (a b : Nat) : Room := { frames := 3, cells := a, slots := b, locals := 57 }
def fX9_spoilIfOld_42 (u : gN) : Option (Int32 × gN) :=
  some ((1 : Int32), u)
set_option maxRecDepth 20000 in
theorem moX9_spoilIfOld_42 {u : gN} {res : Int32 × gN} (h : fX9_spoilIfOld_42 u = some res) : gLe u res.2 := by
  unfold fX9_spoilIfOld_42 at h
  cases Option.some.inj h
  exact gLe.rf _
set_option maxHeartbeats 4000000 in
set_option maxRecDepth 20000 in
theorem wX9_spoilIfOld_42  (C : gC p s m args meth c cX9_spoilIfOld 2 (some .boolean) RX9 "spoilIfOld" Γ){u : gN} {res : Int32 × gN} (h : fX9_spoilIfOld_42 u = some res) {H : Heap} {locs : List Loc} (hG : gAn Γ sB u H) (hS : va_S Γ.2.2.1 s.heap H locs) {ls : Array Slot} (hl : lv_has ls 2 []) : W p l e (rmX9_spoilIfOld (res.2.2.1 - s.heap.size) (res.2.2.2 - sB)) s m args below meth c H locs (u.2.1 - s.heap.size) (u.2.2 - sB) (MQ below (gQ Γ (some (.int res.1)) res.2.1 res.2.2.1) args s (res.2.2.1 - s.heap.size) (res.2.2.2 - sB) Γ.2.2.1) (F0 m 42 ls []) := by
  have hx := C.1
  have hb := C.2.1
  have hm := moX9_spoilIfOld_42 h
  unfold fX9_spoilIfOld_42 at h
  refine lv_iconst (v := 1) hx hb dX9_spoilIfOld_42 (by decide) ?_
  cases Option.some.inj h
  exact gx_retz C (Or.inr rfl) hG.1 hS dX9_spoilIfOld_43
def fX9_spoilIfOld (x0 : Nat) (x1 : Option Nat) (u : gN) : Option (Int32 × gN) :=
  (x1).bind fun a1 =>
  (gI [9, 6] 0 u.1 a1).bind fun v1 =>
  if v1 = (2 : Int32) then (
    (x1).bind fun a9 =>
    (gI [9, 6] 6 u.1 a9).bind fun v9 =>
    if v9 = 0 then (
      (gI [10] 13 u.1 x0).bind fun v16 =>
      (x1).bind fun a20 =>
      (gI [9, 6] 1 u.1 a20).bind fun v20 =>
      (gI [10] 14 u.1 x0).bind fun v25 =>
      if v25 ≤ (v16 - v20) then (
        (gI [10] 13 u.1 x0).bind fun v36 =>
        (x1).bind fun a39 =>
        (gO [6, 9] u.1 a39).bind fun _ =>
        (fX8_become a39 (3 : Int32) v36 u).bind fun u39 =>
        fX9_spoilIfOld_42  u39 
      ) else (
        some ((0 : Int32), u)
      )
    ) else (
      some ((0 : Int32), u)
    )
  ) else (
    some ((0 : Int32), u)
  )
set_option maxRecDepth 20000 in
theorem moX9_spoilIfOld {x0 : Nat} {x1 : Option Nat} {u : gN} {res : Int32 × gN} (h : fX9_spoilIfOld x0 x1 u = some res) : gLe u res.2 := by
  unfold fX9_spoilIfOld at h
  obtain ⟨a1, na1, h⟩ := ob h
  obtain ⟨v1, e1, h⟩ := ob h
  by_cases hc : v1 = (2 : Int32)
  · replace h := it_pos hc h
    obtain ⟨a9, na9, h⟩ := ob h
    obtain ⟨v9, e9, h⟩ := ob h
    by_cases hc : v9 = 0
    · replace h := it_pos hc h
      obtain ⟨v16, e16, h⟩ := ob h
      obtain ⟨a20, na20, h⟩ := ob h
      obtain ⟨v20, e20, h⟩ := ob h
      obtain ⟨v25, e25, h⟩ := ob h
      by_cases hc : v25 ≤ (v16 - v20)
      · replace h := it_pos hc h
        obtain ⟨v36, e36, h⟩ := ob h
        obtain ⟨a39, na39, h⟩ := ob h
        obtain ⟨_, eo39, h⟩ := ob h
        obtain ⟨u39, e39, h⟩ := ob h
        refine gLe.tr (moX8_become e39) ?_
        exact moX9_spoilIfOld_42  h
      · replace h := it_neg hc h
        cases Option.some.inj h
        exact gLe.rf _
    · replace h := it_neg hc h
      cases Option.some.inj h
      exact gLe.rf _
  · replace h := it_neg hc h
    cases Option.some.inj h
    exact gLe.rf _
set_option maxHeartbeats 4000000 in
set_option maxRecDepth 20000 in
theorem wX9_spoilIfOld  (C : gC p s m args meth c cX9_spoilIfOld 2 (some .boolean) RX9 "spoilIfOld" Γ){x0 : Nat} {x1 : Option Nat} {u : gN} {res : Int32 × gN} (h : fX9_spoilIfOld x0 x1 u = some res) {H : Heap} {locs : List Loc} (hG : gAn Γ sB u H) (hS : va_S Γ.2.2.1 s.heap H locs) {ls : Array Slot} (hl : lv_has ls 2 [(0, va_rf (some x0)), (1, va_rf x1)]) : W p l e (rmX9_spoilIfOld (res.2.2.1 - s.heap.size) (res.2.2.2 - sB)) s m args below meth c H locs (u.2.1 - s.heap.size) (u.2.2 - sB) (MQ below (gQ Γ (some (.int res.1)) res.2.1 res.2.2.1) args s (res.2.2.1 - s.heap.size) (res.2.2.2 - sB) Γ.2.2.1) (F0 m 0 ls []) := by
  have hx := C.1
  have hb := C.2.1
  have hm := moX9_spoilIfOld h
  unfold fX9_spoilIfOld at h
  refine gx_aload_n (r := x1) hx hb dX9_spoilIfOld_0 rfl (lv_at hl 1 rfl) ?_
  obtain ⟨a1, na1, h⟩ := ob h
  obtain ⟨v1, e1, h⟩ := ob h
  refine gx_getI C hG.1 na1 e1 fgX9_123 dX9_spoilIfOld_1 ?_
  refine lv_iconst (v := 2) hx hb dX9_spoilIfOld_4 (by decide) ?_
  refine lv_icmp_ne (tgt := 31) hx hb dX9_spoilIfOld_5 (by decide) (fun hc => ?_) (fun hc => ?_)
  · replace h := it_neg hc h
    refine lv_iconst (v := 0) hx hb dX9_spoilIfOld_31 (by decide) ?_
    cases Option.some.inj h
    exact gx_retz C (Or.inl rfl) hG.1 hS dX9_spoilIfOld_32
  · replace h := it_pos hc h
    refine gx_aload_n (r := x1) hx hb dX9_spoilIfOld_8 rfl (lv_at hl 1 rfl) ?_
    obtain ⟨a9, na9, h⟩ := ob h
    obtain ⟨v9, e9, h⟩ := ob h
    refine gx_getI C hG.1 na9 e9 fgX9_138 dX9_spoilIfOld_9 ?_
    refine lv_if_ne (tgt := 31) hx hb dX9_spoilIfOld_12 (by decide) (fun hc => ?_) (fun hc => ?_)
    · replace h := it_neg hc h
      refine lv_iconst (v := 0) hx hb dX9_spoilIfOld_31 (by decide) ?_
      cases Option.some.inj h
      exact gx_retz C (Or.inl rfl) hG.1 hS dX9_spoilIfOld_32
    · replace h := it_pos hc h
      refine gx_aload_n (r := (some x0)) hx hb dX9_spoilIfOld_15 rfl (lv_at hl 0 rfl) ?_
      obtain ⟨v16, e16, h⟩ := ob h
      refine gx_getI C hG.1 rfl e16 fgX9_70 dX9_spoilIfOld_16 ?_
      refine gx_aload_n (r := x1) hx hb dX9_spoilIfOld_19 rfl (lv_at hl 1 rfl) ?_
      obtain ⟨a20, na20, h⟩ := ob h
      obtain ⟨v20, e20, h⟩ := ob h
      refine gx_getI C hG.1 na20 e20 fgX9_132 dX9_spoilIfOld_20 ?_
      refine lv_isub hx hb dX9_spoilIfOld_23 ?_
      refine gx_aload_n (r := (some x0)) hx hb dX9_spoilIfOld_24 rfl (lv_at hl 0 rfl) ?_
      obtain ⟨v25, e25, h⟩ := ob h
      refine gx_getI C hG.1 rfl e25 fgX9_73 dX9_spoilIfOld_25 ?_
      refine lv_icmp_ge (tgt := 33) hx hb dX9_spoilIfOld_28 (by decide) (fun hc => ?_) (fun hc => ?_)
      · replace h := it_pos hc h
        refine gx_aload_n (r := x1) hx hb dX9_spoilIfOld_33 rfl (lv_at hl 1 rfl) ?_
        refine lv_iconst (v := 3) hx hb dX9_spoilIfOld_34 (by decide) ?_
        refine gx_aload_n (r := (some x0)) hx hb dX9_spoilIfOld_35 rfl (lv_at hl 0 rfl) ?_
        obtain ⟨v36, e36, h⟩ := ob h
        refine gx_getI C hG.1 rfl e36 fgX9_70 dX9_spoilIfOld_36 ?_
        obtain ⟨a39, na39, h⟩ := ob h
        obtain ⟨_, eo39, h⟩ := ob h
        obtain ⟨u39, e39, h⟩ := ob h
        have hle := moX8_become e39
        have hm2 : gLe u39 res.2 := by
          exact moX9_spoilIfOld_42  h
        refine gx_cU C hG.1 hS [.int (3 : Int32), .int v36] na39 eo39 (tX8_become e39) qcX9_107 ⟨rfl, rfl, Nat.le_of_ble_eq_true rfl, Nat.le_of_ble_eq_true rfl⟩ (gy_room hG hS hle ⟨Nat.sub_le_sub_right hm2.1 _, Nat.sub_le_sub_right hm2.2 _⟩) rfl hl.1 rfl (Nat.le_of_ble_eq_true rfl) (st1 := []) rfl dX9_spoilIfOld_39 (fun H locs hg hS2 => gy_ret hG hS hle hg (fun hG => ?_))
        replace hS := hS2
        exact wX9_spoilIfOld_42 C  h hG hS (lv_sub hl [] rfl)
      · replace h := it_neg hc h
        refine lv_iconst (v := 0) hx hb dX9_spoilIfOld_31 (by decide) ?_
        cases Option.some.inj h
        exact gx_retz C (Or.inl rfl) hG.1 hS dX9_spoilIfOld_32
theorem tX9_spoilIfOld {Γ : gEnv} {x0 : Nat} {x1 : Option Nat} {u v : gN} {r : Int32} (h : fX9_spoilIfOld x0 x1 u = some (r, v)) : Met l yX9_spoilIfOld (Cond.code yX9_spoilIfOld cX9_spoilIfOld 2 (some .boolean) :: gW) (rmX9_spoilIfOld (v.2.1 - u.2.1) (v.2.2 - u.2.2)) (va_Pc [va_rf (some x0), va_rf x1] (gPre Γ u.1 u.2.1)) (gQ Γ (some (.int r)) v.1 v.2.1) (v.2.1 - u.2.1) (v.2.2 - u.2.2) Γ.2.2.1 := by
  refine gx_met (nm := "spoilIfOld") ⟨by decide +kernel, rfl, rfl⟩ (by simp [lg_sl, gx_cat, gx_catI, gx_catJ]) (fun p e s m below meth c ls C hG hl => ?_)
  have hN : s.heap.size = u.2.1 := hG.1
  have K := wX9_spoilIfOld (l := l) (e := e) (below := below) (sB := u.2.2) C h ⟨hG, Nat.le_refl _⟩ va_S.rf (by simpa [lv_args, gx_cat, gx_catI, gx_catJ] using hl)
  rw [hN, Nat.sub_self, Nat.sub_self] at K
  exact K
abbrev rmX9_thing (a b : Nat) : Room := { frames := 7, cells := a, slots := b, locals := 171 }
def fX9_thing_143 (z : Nat → Nat) (x0 : Nat) (s0 : Int32) (u : gN) : Option (Int32 × gN) :=
  (gR [10] 0 u.1 x0).bind fun v145 =>
  (v145).bind fun a148 =>
  (gO [0] u.1 a148).bind fun _ =>
  bI (cN (fJx4a65c_size_8abf5 a148 u.1) u) fun r148 u148 =>
  some (r148 - (1 : Int32), u148)
set_option maxRecDepth 20000 in
theorem moX9_thing_143 {z : Nat → Nat} {x0 : Nat} {s0 : Int32} {u : gN} {res : Int32 × gN} (h : fX9_thing_143 z x0 s0 u = some res) : gLe u res.2 := by
  unfold fX9_thing_143 at h
  obtain ⟨v145, e145, h⟩ := ob h
  obtain ⟨a148, na148, h⟩ := ob h
  obtain ⟨_, eo148, h⟩ := ob h
  obtain ⟨r148, u148, e148, h⟩ := obI h
  refine gLe.tr (cN_le e148) ?_
  cases Option.some.inj h
  exact gLe.rf _
set_option maxHeartbeats 4000000 in
set_option maxRecDepth 20000 in
theorem wX9_thing_143 {z : Nat → Nat}  (C : gC p s m args meth c cX9_thing 7 (some .int) RX9 "thing" Γ)(hz : Γ.2.2.2 = z) {x0 : Nat} {s0 : Int32} {u : gN} {res : Int32 × gN} (h : fX9_thing_143 z x0 s0 u = some res) {H : Heap} {locs : List Loc} (hG : gAn Γ sB u H) (hS : va_S Γ.2.2.1 s.heap H locs) {ls : Array Slot} (hl : lv_has ls 7 [(0, va_rf (some x0))]) : W p l e (rmX9_thing (res.2.2.1 - s.heap.size) (res.2.2.2 - sB)) s m args below meth c H locs (u.2.1 - s.heap.size) (u.2.2 - sB) (MQ below (gQ Γ (some (.int res.1)) res.2.1 res.2.2.1) args s (res.2.2.1 - s.heap.size) (res.2.2.2 - sB) Γ.2.2.1) (F0 m 143 ls [.int s0]) := by
  have hx := C.1
  have hb := C.2.1
  have hm := moX9_thing_143 h
  unfold fX9_thing_143 at h
  refine lv_pop hx hb dX9_thing_143 (by first | rfl | exact gx_cat _) ?_
  refine gx_aload_n (r := (some x0)) hx hb dX9_thing_144 rfl (lv_at hl 0 rfl) ?_
  obtain ⟨v145, e145, h⟩ := ob h
  refine gx_getR C hG.1 rfl e145 fgX9_10 dX9_thing_145 ?_
  obtain ⟨a148, na148, h⟩ := ob h
  obtain ⟨_, eo148, h⟩ := ob h
  obtain ⟨r148, u148, e148, h⟩ := obI h
  obtain ⟨g148, eg148, ev148⟩ := cN_inv e148
  refine gx_cV C hG.1 hS [] na148 eo148 (tJx4a65c_size_8abf5 eg148) qcX9_93 ⟨rfl, rfl, Nat.le_of_ble_eq_true rfl, Nat.le_of_ble_eq_true rfl⟩ ⟨Nat.sub_le_sub_right hm.1 _, Nat.sub_le_sub_right hm.2 _⟩ rfl hl.1 rfl (Nat.le_of_ble_eq_true rfl) (st1 := [.int r148]) rfl dX9_thing_148 (fun H locs hg hS2 => gy_w (H0 := _) hG ev148 hg (fun hG => ?_))
  replace hS := hS2
  replace hm : gLe u148 res.2 := by rw [ev148]; exact hm
  refine lv_iconst (v := 1) hx hb dX9_thing_151 (by decide) ?_
  refine lv_isub hx hb dX9_thing_152 ?_
  cases Option.some.inj h
  exact gx_reti C hG.1 hS dX9_thing_153
def fX9_thing_133 (z : Nat → Nat) (x0 : Nat) (x6 : Option Nat) (s0 : Int32) (u : gN) : Option (Int32 × gN) :=
  (gR [10] 0 u.1 x0).bind fun v135 =>
  (v135).bind fun a140 =>
  (gO [0] u.1 a140).bind fun _ =>
  bI (fJx4a65c_add_9ea2d z a140 x6 u) fun r140 u140 =>
  fX9_thing_143 z x0 r140 u140 
set_option maxRecDepth 20000 in
theorem moX9_thing_133 {z : Nat → Nat} {x0 : Nat} {x6 : Option Nat} {s0 : Int32} {u : gN} {res : Int32 × gN} (h : fX9_thing_133 z x0 x6 s0 u = some res) : gLe u res.2 := by
  unfold fX9_thing_133 at h
  obtain ⟨v135, e135, h⟩ := ob h
  obtain ⟨a140, na140, h⟩ := ob h
  obtain ⟨_, eo140, h⟩ := ob h
  obtain ⟨r140, u140, e140, h⟩ := obI h
  refine gLe.tr (moJx4a65c_add_9ea2d e140) ?_
  exact moX9_thing_143  h
set_option maxHeartbeats 4000000 in
set_option maxRecDepth 20000 in
theorem wX9_thing_133 {z : Nat → Nat}  (C : gC p s m args meth c cX9_thing 7 (some .int) RX9 "thing" Γ)(hz : Γ.2.2.2 = z) {x0 : Nat} {x6 : Option Nat} {s0 : Int32} {u : gN} {res : Int32 × gN} (h : fX9_thing_133 z x0 x6 s0 u = some res) {H : Heap} {locs : List Loc} (hG : gAn Γ sB u H) (hS : va_S Γ.2.2.1 s.heap H locs) {ls : Array Slot} (hl : lv_has ls 7 [(0, va_rf (some x0)), (6, va_rf x6)]) : W p l e (rmX9_thing (res.2.2.1 - s.heap.size) (res.2.2.2 - sB)) s m args below meth c H locs (u.2.1 - s.heap.size) (u.2.2 - sB) (MQ below (gQ Γ (some (.int res.1)) res.2.1 res.2.2.1) args s (res.2.2.1 - s.heap.size) (res.2.2.2 - sB) Γ.2.2.1) (F0 m 133 ls [.int s0]) := by
  have hx := C.1
  have hb := C.2.1
  have hm := moX9_thing_133 h
  unfold fX9_thing_133 at h
  refine lv_pop hx hb dX9_thing_133 (by first | rfl | exact gx_cat _) ?_
  refine gx_aload_n (r := (some x0)) hx hb dX9_thing_134 rfl (lv_at hl 0 rfl) ?_
  obtain ⟨v135, e135, h⟩ := ob h
  refine gx_getR C hG.1 rfl e135 fgX9_10 dX9_thing_135 ?_
  refine gx_aload (r := x6) hx hb dX9_thing_138 (lv_at hl 1 rfl) ?_
  obtain ⟨a140, na140, h⟩ := ob h
  obtain ⟨_, eo140, h⟩ := ob h
  obtain ⟨r140, u140, e140, h⟩ := obI h
  have hle := moJx4a65c_add_9ea2d e140
  have hm2 : gLe u140 res.2 := by
    exact moX9_thing_143  h
  refine gx_cV C hG.1 hS [va_rf x6] na140 eo140 (tJx4a65c_add_9ea2d hz e140) qcX9_115 ⟨rfl, rfl, Nat.le_of_ble_eq_true rfl, Nat.le_of_ble_eq_true rfl⟩ (gy_room hG hS hle ⟨Nat.sub_le_sub_right hm2.1 _, Nat.sub_le_sub_right hm2.2 _⟩) rfl hl.1 rfl (Nat.le_of_ble_eq_true rfl) (st1 := [.int r140]) rfl dX9_thing_140 (fun H locs hg hS2 => gy_ret hG hS hle hg (fun hG => ?_))
  replace hS := hS2
  exact wX9_thing_143 C hz  h hG hS (lv_sub hl [0] rfl)
def fX9_thing_127 (z : Nat → Nat) (x0 : Nat) (x6 : Option Nat) (u : gN) : Option (Int32 × gN) :=
  (gO [10] u.1 x0).bind fun _ =>
  bI (fX9_spoilIfOld x0 x6 u) fun r130 u130 =>
  fX9_thing_133 z x0 x6 r130 u130 
set_option maxRecDepth 20000 in
theorem moX9_thing_127 {z : Nat → Nat} {x0 : Nat} {x6 : Option Nat} {u : gN} {res : Int32 × gN} (h : fX9_thing_127 z x0 x6 u = some res) : gLe u res.2 := by
  unfold fX9_thing_127 at h
  obtain ⟨_, eo130, h⟩ := ob h
  obtain ⟨r130, u130, e130, h⟩ := obI h
  refine gLe.tr (moX9_spoilIfOld e130) ?_
  exact moX9_thing_133  h
set_option maxHeartbeats 4000000 in
set_option maxRecDepth 20000 in
theorem wX9_thing_127 {z : Nat → Nat}  (C : gC p s m args meth c cX9_thing 7 (some .int) RX9 "thing" Γ)(hz : Γ.2.2.2 = z) {x0 : Nat} {x6 : Option Nat} {u : gN} {res : Int32 × gN} (h : fX9_thing_127 z x0 x6 u = some res) {H : Heap} {locs : List Loc} (hG : gAn Γ sB u H) (hS : va_S Γ.2.2.1 s.heap H locs) {ls : Array Slot} (hl : lv_has ls 7 [(0, va_rf (some x0)), (6, va_rf x6)]) : W p l e (rmX9_thing (res.2.2.1 - s.heap.size) (res.2.2.2 - sB)) s m args below meth c H locs (u.2.1 - s.heap.size) (u.2.2 - sB) (MQ below (gQ Γ (some (.int res.1)) res.2.1 res.2.2.1) args s (res.2.2.1 - s.heap.size) (res.2.2.2 - sB) Γ.2.2.1) (F0 m 127 ls []) := by
  have hx := C.1
  have hb := C.2.1
  have hm := moX9_thing_127 h
  unfold fX9_thing_127 at h
  refine gx_aload_n (r := (some x0)) hx hb dX9_thing_127 rfl (lv_at hl 0 rfl) ?_
  refine gx_aload (r := x6) hx hb dX9_thing_128 (lv_at hl 1 rfl) ?_
  obtain ⟨_, eo130, h⟩ := ob h
  obtain ⟨r130, u130, e130, h⟩ := obI h
  have hle := moX9_spoilIfOld e130
  have hm2 : gLe u130 res.2 := by
    exact moX9_thing_133  h
  refine gx_cV C hG.1 hS [va_rf x6] rfl eo130 (tX9_spoilIfOld e130) qcX9_111 ⟨rfl, rfl, Nat.le_of_ble_eq_true rfl, Nat.le_of_ble_eq_true rfl⟩ (gy_room hG hS hle ⟨Nat.sub_le_sub_right hm2.1 _, Nat.sub_le_sub_right hm2.2 _⟩) rfl hl.1 rfl (Nat.le_of_ble_eq_true rfl) (st1 := [.int r130]) rfl dX9_thing_130 (fun H locs hg hS2 => gy_ret hG hS hle hg (fun hG => ?_))
  replace hS := hS2
  exact wX9_thing_133 C hz  h hG hS (lv_sub hl [0, 1] rfl)
def fX9_thing_115 (z : Nat → Nat) (x0 : Nat) (s0 : Option Nat) (u : gN) : Option (Int32 × gN) :=
  (gI [10] 13 u.1 x0).bind fun v121 =>
  (s0).bind fun a124 =>
  (gO [6, 9] u.1 a124).bind fun _ =>
  (fX8_become a124 (0 : Int32) v121 u).bind fun u124 =>
  fX9_thing_127 z x0 s0 u124 
set_option maxRecDepth 20000 in
theorem moX9_thing_115 {z : Nat → Nat} {x0 : Nat} {s0 : Option Nat} {u : gN} {res : Int32 × gN} (h : fX9_thing_115 z x0 s0 u = some res) : gLe u res.2 := by
  unfold fX9_thing_115 at h
  obtain ⟨v121, e121, h⟩ := ob h
  obtain ⟨a124, na124, h⟩ := ob h
  obtain ⟨_, eo124, h⟩ := ob h
  obtain ⟨u124, e124, h⟩ := ob h
  refine gLe.tr (moX8_become e124) ?_
  exact moX9_thing_127  h
set_option maxHeartbeats 4000000 in
set_option maxRecDepth 20000 in
theorem wX9_thing_115 {z : Nat → Nat}  (C : gC p s m args meth c cX9_thing 7 (some .int) RX9 "thing" Γ)(hz : Γ.2.2.2 = z) {x0 : Nat} {s0 : Option Nat} {u : gN} {res : Int32 × gN} (h : fX9_thing_115 z x0 s0 u = some res) {H : Heap} {locs : List Loc} (hG : gAn Γ sB u H) (hS : va_S Γ.2.2.1 s.heap H locs) {ls : Array Slot} (hl : lv_has ls 7 [(0, va_rf (some x0))]) : W p l e (rmX9_thing (res.2.2.1 - s.heap.size) (res.2.2.2 - sB)) s m args below meth c H locs (u.2.1 - s.heap.size) (u.2.2 - sB) (MQ below (gQ Γ (some (.int res.1)) res.2.1 res.2.2.1) args s (res.2.2.1 - s.heap.size) (res.2.2.2 - sB) Γ.2.2.1) (F0 m 115 ls [va_rf s0]) := by
  have hx := C.1
  have hb := C.2.1
  have hm := moX9_thing_115 h
  unfold fX9_thing_115 at h
  refine gx_astore (r := s0) (i := 6) (lv' := [(6, va_rf s0), (0, va_rf (some x0))]) hx hb dX9_thing_115 hl (by decide) rfl (fun ls hl => ?_)
  refine gx_aload (r := s0) hx hb dX9_thing_117 (lv_at hl 0 rfl) ?_
  refine lv_iconst (v := 0) hx hb dX9_thing_119 (by decide) ?_
  refine gx_aload_n (r := (some x0)) hx hb dX9_thing_120 rfl (lv_at hl 1 rfl) ?_
  obtain ⟨v121, e121, h⟩ := ob h
  refine gx_getI C hG.1 rfl e121 fgX9_70 dX9_thing_121 ?_
  obtain ⟨a124, na124, h⟩ := ob h
  obtain ⟨_, eo124, h⟩ := ob h
  obtain ⟨u124, e124, h⟩ := ob h
  have hle := moX8_become e124
  have hm2 : gLe u124 res.2 := by
    exact moX9_thing_127  h
  refine gx_cU C hG.1 hS [.int (0 : Int32), .int v121] na124 eo124 (tX8_become e124) qcX9_107 ⟨rfl, rfl, Nat.le_of_ble_eq_true rfl, Nat.le_of_ble_eq_true rfl⟩ (gy_room hG hS hle ⟨Nat.sub_le_sub_right hm2.1 _, Nat.sub_le_sub_right hm2.2 _⟩) rfl hl.1 rfl (Nat.le_of_ble_eq_true rfl) (st1 := []) rfl dX9_thing_124 (fun H locs hg hS2 => gy_ret hG hS hle hg (fun hG => ?_))
  replace hS := hS2
  exact wX9_thing_127 C hz  h hG hS (lv_sub hl [1, 0] rfl)
def fX9_thing_104 (z : Nat → Nat) (x0 : Nat) (x1 : Int32) (x2 : Int32) (x3 : Int32) (x4 : Int32) (x5 : Int32) (s0 : Option Nat) (u : gN) : Option (Int32 × gN) :=
  (s0).bind fun a112 =>
  (fX8_init a112 x1 x2 x3 x4 x5 u).bind fun u112 =>
  fX9_thing_115 z x0 s0 u112 
set_option maxRecDepth 20000 in
theorem moX9_thing_104 {z : Nat → Nat} {x0 : Nat} {x1 : Int32} {x2 : Int32} {x3 : Int32} {x4 : Int32} {x5 : Int32} {s0 : Option Nat} {u : gN} {res : Int32 × gN} (h : fX9_thing_104 z x0 x1 x2 x3 x4 x5 s0 u = some res) : gLe u res.2 := by
  unfold fX9_thing_104 at h
  obtain ⟨a112, na112, h⟩ := ob h
  obtain ⟨u112, e112, h⟩ := ob h
  refine gLe.tr (moX8_init e112) ?_
  exact moX9_thing_115  h
set_option maxHeartbeats 4000000 in
set_option maxRecDepth 20000 in
theorem wX9_thing_104 {z : Nat → Nat}  (C : gC p s m args meth c cX9_thing 7 (some .int) RX9 "thing" Γ)(hz : Γ.2.2.2 = z) {x0 : Nat} {x1 : Int32} {x2 : Int32} {x3 : Int32} {x4 : Int32} {x5 : Int32} {s0 : Option Nat} {u : gN} {res : Int32 × gN} (h : fX9_thing_104 z x0 x1 x2 x3 x4 x5 s0 u = some res) {H : Heap} {locs : List Loc} (hG : gAn Γ sB u H) (hS : va_S Γ.2.2.1 s.heap H locs) {ls : Array Slot} (hl : lv_has ls 7 [(0, va_rf (some x0)), (1, .int x1), (2, .int x2), (3, .int x3), (4, .int x4), (5, .int x5)]) : W p l e (rmX9_thing (res.2.2.1 - s.heap.size) (res.2.2.2 - sB)) s m args below meth c H locs (u.2.1 - s.heap.size) (u.2.2 - sB) (MQ below (gQ Γ (some (.int res.1)) res.2.1 res.2.2.1) args s (res.2.2.1 - s.heap.size) (res.2.2.2 - sB) Γ.2.2.1) (F0 m 104 ls [va_rf s0]) := by
  have hx := C.1
  have hb := C.2.1
  have hm := moX9_thing_104 h
  unfold fX9_thing_104 at h
  refine lv_dup hx hb dX9_thing_104 (by first | rfl | exact gx_cat _) ?_
  refine lv_iload_n hx hb dX9_thing_105 rfl (lv_at hl 1 rfl) ?_
  refine lv_iload_n hx hb dX9_thing_106 rfl (lv_at hl 2 rfl) ?_
  refine lv_iload_n hx hb dX9_thing_107 rfl (lv_at hl 3 rfl) ?_
  refine lv_iload hx hb dX9_thing_108 (lv_at hl 4 rfl) ?_
  refine lv_iload hx hb dX9_thing_110 (lv_at hl 5 rfl) ?_
  obtain ⟨a112, na112, h⟩ := ob h
  obtain ⟨u112, e112, h⟩ := ob h
  have hle := moX8_init e112
  have hm2 : gLe u112 res.2 := by
    exact moX9_thing_115  h
  refine gx_cI C hG.1 hS [.int x1, .int x2, .int x3, .int x4, .int x5] na112 (tX8_init e112) qcX9_104 ⟨rfl, rfl, Nat.le_of_ble_eq_true rfl, Nat.le_of_ble_eq_true rfl⟩ (gy_room hG hS hle ⟨Nat.sub_le_sub_right hm2.1 _, Nat.sub_le_sub_right hm2.2 _⟩) rfl hl.1 rfl (by simp [gx_cat, gx_catI, gx_catJ]) dX9_thing_112 (fun H locs hg hS2 => gy_ret hG hS hle hg (fun hG => ?_))
  replace hS := hS2
  exact wX9_thing_115 C hz  h hG hS (lv_sub hl [0] rfl)
def fX9_thing_98 (z : Nat → Nat) (x0 : Nat) (s0 : Option Nat) (u : gN) : Option (Int32 × gN) :=
  fX9_thing_115 z x0 s0 u 
set_option maxRecDepth 20000 in
theorem moX9_thing_98 {z : Nat → Nat} {x0 : Nat} {s0 : Option Nat} {u : gN} {res : Int32 × gN} (h : fX9_thing_98 z x0 s0 u = some res) : gLe u res.2 := by
  unfold fX9_thing_98 at h
  exact moX9_thing_115  h
set_option maxHeartbeats 4000000 in
set_option maxRecDepth 20000 in
theorem wX9_thing_98 {z : Nat → Nat}  (C : gC p s m args meth c cX9_thing 7 (some .int) RX9 "thing" Γ)(hz : Γ.2.2.2 = z) {x0 : Nat} {s0 : Option Nat} {u : gN} {res : Int32 × gN} (h : fX9_thing_98 z x0 s0 u = some res) {H : Heap} {locs : List Loc} (hG : gAn Γ sB u H) (hS : va_S Γ.2.2.1 s.heap H locs) {ls : Array Slot} (hl : lv_has ls 7 [(0, va_rf (some x0))]) : W p l e (rmX9_thing (res.2.2.1 - s.heap.size) (res.2.2.2 - sB)) s m args below meth c H locs (u.2.1 - s.heap.size) (u.2.2 - sB) (MQ below (gQ Γ (some (.int res.1)) res.2.1 res.2.2.1) args s (res.2.2.1 - s.heap.size) (res.2.2.2 - sB) Γ.2.2.1) (F0 m 98 ls [va_rf s0]) := by
  have hx := C.1
  have hb := C.2.1
  have hm := moX9_thing_98 h
  unfold fX9_thing_98 at h
  refine lv_goto (tgt := 115) hx hb dX9_thing_98 (by decide) ?_
  exact wX9_thing_115 C hz  h hG hS (lv_sub hl [0] rfl)
def fX9_thing_88 (z : Nat → Nat) (x0 : Nat) (x2 : Int32) (x3 : Int32) (x4 : Int32) (x5 : Int32) (s0 : Option Nat) (u : gN) : Option (Int32 × gN) :=
  (s0).bind fun a95 =>
  (fX5_init a95 x2 x3 x4 x5 u).bind fun u95 =>
  fX9_thing_98 z x0 s0 u95 
set_option maxRecDepth 20000 in
theorem moX9_thing_88 {z : Nat → Nat} {x0 : Nat} {x2 : Int32} {x3 : Int32} {x4 : Int32} {x5 : Int32} {s0 : Option Nat} {u : gN} {res : Int32 × gN} (h : fX9_thing_88 z x0 x2 x3 x4 x5 s0 u = some res) : gLe u res.2 := by
  unfold fX9_thing_88 at h
  obtain ⟨a95, na95, h⟩ := ob h
  obtain ⟨u95, e95, h⟩ := ob h
  refine gLe.tr (moX5_init e95) ?_
  exact moX9_thing_98  h
set_option maxHeartbeats 4000000 in
set_option maxRecDepth 20000 in
theorem wX9_thing_88 {z : Nat → Nat}  (C : gC p s m args meth c cX9_thing 7 (some .int) RX9 "thing" Γ)(hz : Γ.2.2.2 = z) {x0 : Nat} {x2 : Int32} {x3 : Int32} {x4 : Int32} {x5 : Int32} {s0 : Option Nat} {u : gN} {res : Int32 × gN} (h : fX9_thing_88 z x0 x2 x3 x4 x5 s0 u = some res) {H : Heap} {locs : List Loc} (hG : gAn Γ sB u H) (hS : va_S Γ.2.2.1 s.heap H locs) {ls : Array Slot} (hl : lv_has ls 7 [(0, va_rf (some x0)), (2, .int x2), (3, .int x3), (4, .int x4), (5, .int x5)]) : W p l e (rmX9_thing (res.2.2.1 - s.heap.size) (res.2.2.2 - sB)) s m args below meth c H locs (u.2.1 - s.heap.size) (u.2.2 - sB) (MQ below (gQ Γ (some (.int res.1)) res.2.1 res.2.2.1) args s (res.2.2.1 - s.heap.size) (res.2.2.2 - sB) Γ.2.2.1) (F0 m 88 ls [va_rf s0]) := by
  have hx := C.1
  have hb := C.2.1
  have hm := moX9_thing_88 h
  unfold fX9_thing_88 at h
  refine lv_dup hx hb dX9_thing_88 (by first | rfl | exact gx_cat _) ?_
  refine lv_iload_n hx hb dX9_thing_89 rfl (lv_at hl 1 rfl) ?_
  refine lv_iload_n hx hb dX9_thing_90 rfl (lv_at hl 2 rfl) ?_
  refine lv_iload hx hb dX9_thing_91 (lv_at hl 3 rfl) ?_
  refine lv_iload hx hb dX9_thing_93 (lv_at hl 4 rfl) ?_
  obtain ⟨a95, na95, h⟩ := ob h
  obtain ⟨u95, e95, h⟩ := ob h
  have hle := moX5_init e95
  have hm2 : gLe u95 res.2 := by
    exact moX9_thing_98  h
  refine gx_cI C hG.1 hS [.int x2, .int x3, .int x4, .int x5] na95 (tX5_init e95) qcX9_99 ⟨rfl, rfl, Nat.le_of_ble_eq_true rfl, Nat.le_of_ble_eq_true rfl⟩ (gy_room hG hS hle ⟨Nat.sub_le_sub_right hm2.1 _, Nat.sub_le_sub_right hm2.2 _⟩) rfl hl.1 rfl (by simp [gx_cat, gx_catI, gx_catJ]) dX9_thing_95 (fun H locs hg hS2 => gy_ret hG hS hle hg (fun hG => ?_))
  replace hS := hS2
  exact wX9_thing_98 C hz  h hG hS (lv_sub hl [0] rfl)
def fX9_thing (z : Nat → Nat) (x0 : Nat) (x1 : Int32) (x2 : Int32) (x3 : Int32) (x4 : Int32) (x5 : Int32) (u : gN) : Option (Int32 × gN) :=
  bI (cN (fX9_within x1 (0 : Int32) (3 : Int32) u.1) u) fun r3 u3 =>
  if r3 = 0 then (
    (gO [10] u3.1 x0).bind fun _ =>
    bI (cN (fX9_finding x0 (1 : Int32) u3.1) u3) fun r58 u58 =>
    some (r58, u58)
  ) else (
    (gI [10] 13 u3.1 x0).bind fun v12 =>
    bI (cN (fX9_within x2 (0 : Int32) v12 u3.1) u3) fun r15 u15 =>
    if r15 = 0 then (
      (gO [10] u15.1 x0).bind fun _ =>
      bI (cN (fX9_finding x0 (1 : Int32) u15.1) u15) fun r58 u58 =>
      some (r58, u58)
    ) else (
      bI (cN (fX9_within x3 (1 : Int32) (5000 : Int32) u15.1) u15) fun r26 u26 =>
      if r26 = 0 then (
        (gO [10] u26.1 x0).bind fun _ =>
        bI (cN (fX9_finding x0 (1 : Int32) u26.1) u26) fun r58 u58 =>
        some (r58, u58)
      ) else (
        bI (cN (fX9_within x4 (0 : Int32) (10000 : Int32) u26.1) u26) fun r38 u38 =>
        if r38 = 0 then (
          (gO [10] u38.1 x0).bind fun _ =>
          bI (cN (fX9_finding x0 (1 : Int32) u38.1) u38) fun r58 u58 =>
          some (r58, u58)
        ) else (
          bI (cN (fX9_within x5 (1 : Int32) (9999 : Int32) u38.1) u38) fun r50 u50 =>
          if r50 = 0 then (
            (gO [10] u50.1 x0).bind fun _ =>
            bI (cN (fX9_finding x0 (1 : Int32) u50.1) u50) fun r58 u58 =>
            some (r58, u58)
          ) else (
            (gR [10] 0 u50.1 x0).bind fun v63 =>
            (v63).bind fun a66 =>
            (gO [0] u50.1 a66).bind fun _ =>
            bI (cN (fJx4a65c_size_8abf5 a66 u50.1) u50) fun r66 u66 =>
            if r66 < (20 : Int32) then (
              if x1 = (3 : Int32) then (
                bI (nwO 6 [.int 0, .int 0, .int 0, .int 0, .int 0, .null, .int 0, .int 0, .int 0, .int 0, .int 0, .null, .null] u66) fun q85 u85 =>
                fX9_thing_88 z x0 x2 x3 x4 x5 (some q85) u85 
              ) else (
                bI (nwO 9 [.int 0, .int 0, .int 0, .int 0, .int 0, .null, .int 0, .int 0, .int 0, .int 0, .int 0, .null] u66) fun q101 u101 =>
                fX9_thing_104 z x0 x1 x2 x3 x4 x5 (some q101) u101 
              )
            ) else (
              (gO [10] u66.1 x0).bind fun _ =>
              bI (cN (fX9_finding x0 (4 : Int32) u66.1) u66) fun r76 u76 =>
              some (r76, u76)
            )
          )
        )
      )
    )
  )
set_option maxRecDepth 20000 in
theorem moX9_thing {z : Nat → Nat} {x0 : Nat} {x1 : Int32} {x2 : Int32} {x3 : Int32} {x4 : Int32} {x5 : Int32} {u : gN} {res : Int32 × gN} (h : fX9_thing z x0 x1 x2 x3 x4 x5 u = some res) : gLe u res.2 := by
  unfold fX9_thing at h
  obtain ⟨r3, u3, e3, h⟩ := obI h
  refine gLe.tr (cN_le e3) ?_
  by_cases hc : r3 = 0
  · replace h := it_pos hc h
    obtain ⟨_, eo58, h⟩ := ob h
    obtain ⟨r58, u58, e58, h⟩ := obI h
    refine gLe.tr (cN_le e58) ?_
    cases Option.some.inj h
    exact gLe.rf _
  · replace h := it_neg hc h
    obtain ⟨v12, e12, h⟩ := ob h
    obtain ⟨r15, u15, e15, h⟩ := obI h
    refine gLe.tr (cN_le e15) ?_
    by_cases hc : r15 = 0
    · replace h := it_pos hc h
      obtain ⟨_, eo58, h⟩ := ob h
      obtain ⟨r58, u58, e58, h⟩ := obI h
      refine gLe.tr (cN_le e58) ?_
      cases Option.some.inj h
      exact gLe.rf _
    · replace h := it_neg hc h
      obtain ⟨r26, u26, e26, h⟩ := obI h
      refine gLe.tr (cN_le e26) ?_
      by_cases hc : r26 = 0
      · replace h := it_pos hc h
        obtain ⟨_, eo58, h⟩ := ob h
        obtain ⟨r58, u58, e58, h⟩ := obI h
        refine gLe.tr (cN_le e58) ?_
        cases Option.some.inj h
        exact gLe.rf _
      · replace h := it_neg hc h
        obtain ⟨r38, u38, e38, h⟩ := obI h
        refine gLe.tr (cN_le e38) ?_
        by_cases hc : r38 = 0
        · replace h := it_pos hc h
          obtain ⟨_, eo58, h⟩ := ob h
          obtain ⟨r58, u58, e58, h⟩ := obI h
          refine gLe.tr (cN_le e58) ?_
          cases Option.some.inj h
          exact gLe.rf _
        · replace h := it_neg hc h
          obtain ⟨r50, u50, e50, h⟩ := obI h
          refine gLe.tr (cN_le e50) ?_
          by_cases hc : r50 = 0
          · replace h := it_pos hc h
            obtain ⟨_, eo58, h⟩ := ob h
            obtain ⟨r58, u58, e58, h⟩ := obI h
            refine gLe.tr (cN_le e58) ?_
            cases Option.some.inj h
            exact gLe.rf _
          · replace h := it_neg hc h
            obtain ⟨v63, e63, h⟩ := ob h
            obtain ⟨a66, na66, h⟩ := ob h
            obtain ⟨_, eo66, h⟩ := ob h
            obtain ⟨r66, u66, e66, h⟩ := obI h
            refine gLe.tr (cN_le e66) ?_
            by_cases hc : r66 < (20 : Int32)
            · replace h := it_pos hc h
              by_cases hc : x1 = (3 : Int32)
              · replace h := it_pos hc h
                obtain ⟨q85, u85, e85, h⟩ := obI h
                refine gLe.tr (nwO_le e85) ?_
                exact moX9_thing_88  h
              · replace h := it_neg hc h
                obtain ⟨q101, u101, e101, h⟩ := obI h
                refine gLe.tr (nwO_le e101) ?_
                exact moX9_thing_104  h
            · replace h := it_neg hc h
              obtain ⟨_, eo76, h⟩ := ob h
              obtain ⟨r76, u76, e76, h⟩ := obI h
              refine gLe.tr (cN_le e76) ?_
              cases Option.some.inj h
              exact gLe.rf _
set_option maxHeartbeats 4000000 in
set_option maxRecDepth 20000 in
theorem wX9_thing {z : Nat → Nat}  (C : gC p s m args meth c cX9_thing 7 (some .int) RX9 "thing" Γ)(hz : Γ.2.2.2 = z) {x0 : Nat} {x1 : Int32} {x2 : Int32} {x3 : Int32} {x4 : Int32} {x5 : Int32} {u : gN} {res : Int32 × gN} (h : fX9_thing z x0 x1 x2 x3 x4 x5 u = some res) {H : Heap} {locs : List Loc} (hG : gAn Γ sB u H) (hS : va_S Γ.2.2.1 s.heap H locs) {ls : Array Slot} (hl : lv_has ls 7 [(0, va_rf (some x0)), (1, .int x1), (2, .int x2), (3, .int x3), (4, .int x4), (5, .int x5)]) : W p l e (rmX9_thing (res.2.2.1 - s.heap.size) (res.2.2.2 - sB)) s m args below meth c H locs (u.2.1 - s.heap.size) (u.2.2 - sB) (MQ below (gQ Γ (some (.int res.1)) res.2.1 res.2.2.1) args s (res.2.2.1 - s.heap.size) (res.2.2.2 - sB) Γ.2.2.1) (F0 m 0 ls []) := by
  have hx := C.1
  have hb := C.2.1
  have hm := moX9_thing h
  unfold fX9_thing at h
  refine lv_iload_n hx hb dX9_thing_0 rfl (lv_at hl 1 rfl) ?_
  refine lv_iconst (v := 0) hx hb dX9_thing_1 (by decide) ?_
  refine lv_iconst (v := 3) hx hb dX9_thing_2 (by decide) ?_
  obtain ⟨r3, u3, e3, h⟩ := obI h
  obtain ⟨g3, eg3, ev3⟩ := cN_inv e3
  refine gx_cS C hG.1 hS [.int x1, .int (0 : Int32), .int (3 : Int32)] (tX9_within eg3) qcX9_85 ⟨rfl, rfl, Nat.le_of_ble_eq_true rfl, Nat.le_of_ble_eq_true rfl⟩ ⟨Nat.sub_le_sub_right hm.1 _, Nat.sub_le_sub_right hm.2 _⟩ rfl hl.1 rfl (Nat.le_of_ble_eq_true rfl) (st1 := [.int r3]) rfl dX9_thing_3 (fun H locs hg hS2 => gy_w (H0 := _) hG ev3 hg (fun hG => ?_))
  replace hS := hS2
  replace hm : gLe u3 res.2 := by rw [ev3]; exact hm
  refine lv_if_eq (tgt := 56) hx hb dX9_thing_6 (by decide) (fun hc => ?_) (fun hc => ?_)
  · replace h := it_pos hc h
    refine gx_aload_n (r := (some x0)) hx hb dX9_thing_56 rfl (lv_at hl 0 rfl) ?_
    refine lv_iconst (v := 1) hx hb dX9_thing_57 (by decide) ?_
    obtain ⟨_, eo58, h⟩ := ob h
    obtain ⟨r58, u58, e58, h⟩ := obI h
    obtain ⟨g58, eg58, ev58⟩ := cN_inv e58
    refine gx_cV C hG.1 hS [.int (1 : Int32)] rfl eo58 (tX9_finding eg58) qcX9_89 ⟨rfl, rfl, Nat.le_of_ble_eq_true rfl, Nat.le_of_ble_eq_true rfl⟩ ⟨Nat.sub_le_sub_right hm.1 _, Nat.sub_le_sub_right hm.2 _⟩ rfl hl.1 rfl (Nat.le_of_ble_eq_true rfl) (st1 := [.int r58]) rfl dX9_thing_58 (fun H locs hg hS2 => gy_w (H0 := _) hG ev58 hg (fun hG => ?_))
    replace hS := hS2
    replace hm : gLe u58 res.2 := by rw [ev58]; exact hm
    cases Option.some.inj h
    exact gx_reti C hG.1 hS dX9_thing_61
  · replace h := it_neg hc h
    refine lv_iload_n hx hb dX9_thing_9 rfl (lv_at hl 2 rfl) ?_
    refine lv_iconst (v := 0) hx hb dX9_thing_10 (by decide) ?_
    refine gx_aload_n (r := (some x0)) hx hb dX9_thing_11 rfl (lv_at hl 0 rfl) ?_
    obtain ⟨v12, e12, h⟩ := ob h
    refine gx_getI C hG.1 rfl e12 fgX9_70 dX9_thing_12 ?_
    obtain ⟨r15, u15, e15, h⟩ := obI h
    obtain ⟨g15, eg15, ev15⟩ := cN_inv e15
    refine gx_cS C hG.1 hS [.int x2, .int (0 : Int32), .int v12] (tX9_within eg15) qcX9_85 ⟨rfl, rfl, Nat.le_of_ble_eq_true rfl, Nat.le_of_ble_eq_true rfl⟩ ⟨Nat.sub_le_sub_right hm.1 _, Nat.sub_le_sub_right hm.2 _⟩ rfl hl.1 rfl (Nat.le_of_ble_eq_true rfl) (st1 := [.int r15]) rfl dX9_thing_15 (fun H locs hg hS2 => gy_w (H0 := _) hG ev15 hg (fun hG => ?_))
    replace hS := hS2
    replace hm : gLe u15 res.2 := by rw [ev15]; exact hm
    refine lv_if_eq (tgt := 56) hx hb dX9_thing_18 (by decide) (fun hc => ?_) (fun hc => ?_)
    · replace h := it_pos hc h
      refine gx_aload_n (r := (some x0)) hx hb dX9_thing_56 rfl (lv_at hl 0 rfl) ?_
      refine lv_iconst (v := 1) hx hb dX9_thing_57 (by decide) ?_
      obtain ⟨_, eo58, h⟩ := ob h
      obtain ⟨r58, u58, e58, h⟩ := obI h
      obtain ⟨g58, eg58, ev58⟩ := cN_inv e58
      refine gx_cV C hG.1 hS [.int (1 : Int32)] rfl eo58 (tX9_finding eg58) qcX9_89 ⟨rfl, rfl, Nat.le_of_ble_eq_true rfl, Nat.le_of_ble_eq_true rfl⟩ ⟨Nat.sub_le_sub_right hm.1 _, Nat.sub_le_sub_right hm.2 _⟩ rfl hl.1 rfl (Nat.le_of_ble_eq_true rfl) (st1 := [.int r58]) rfl dX9_thing_58 (fun H locs hg hS2 => gy_w (H0 := _) hG ev58 hg (fun hG => ?_))
      replace hS := hS2
      replace hm : gLe u58 res.2 := by rw [ev58]; exact hm
      cases Option.some.inj h
      exact gx_reti C hG.1 hS dX9_thing_61
    · replace h := it_neg hc h
      refine lv_iload_n hx hb dX9_thing_21 rfl (lv_at hl 3 rfl) ?_
      refine lv_iconst (v := 1) hx hb dX9_thing_22 (by decide) ?_
      refine lv_sipush (v := 5000) hx hb dX9_thing_23 (by decide) ?_
      obtain ⟨r26, u26, e26, h⟩ := obI h
      obtain ⟨g26, eg26, ev26⟩ := cN_inv e26
      refine gx_cS C hG.1 hS [.int x3, .int (1 : Int32), .int (5000 : Int32)] (tX9_within eg26) qcX9_85 ⟨rfl, rfl, Nat.le_of_ble_eq_true rfl, Nat.le_of_ble_eq_true rfl⟩ ⟨Nat.sub_le_sub_right hm.1 _, Nat.sub_le_sub_right hm.2 _⟩ rfl hl.1 rfl (Nat.le_of_ble_eq_true rfl) (st1 := [.int r26]) rfl dX9_thing_26 (fun H locs hg hS2 => gy_w (H0 := _) hG ev26 hg (fun hG => ?_))
      replace hS := hS2
      replace hm : gLe u26 res.2 := by rw [ev26]; exact hm
      refine lv_if_eq (tgt := 56) hx hb dX9_thing_29 (by decide) (fun hc => ?_) (fun hc => ?_)
      · replace h := it_pos hc h
        refine gx_aload_n (r := (some x0)) hx hb dX9_thing_56 rfl (lv_at hl 0 rfl) ?_
        refine lv_iconst (v := 1) hx hb dX9_thing_57 (by decide) ?_
        obtain ⟨_, eo58, h⟩ := ob h
        obtain ⟨r58, u58, e58, h⟩ := obI h
        obtain ⟨g58, eg58, ev58⟩ := cN_inv e58
        refine gx_cV C hG.1 hS [.int (1 : Int32)] rfl eo58 (tX9_finding eg58) qcX9_89 ⟨rfl, rfl, Nat.le_of_ble_eq_true rfl, Nat.le_of_ble_eq_true rfl⟩ ⟨Nat.sub_le_sub_right hm.1 _, Nat.sub_le_sub_right hm.2 _⟩ rfl hl.1 rfl (Nat.le_of_ble_eq_true rfl) (st1 := [.int r58]) rfl dX9_thing_58 (fun H locs hg hS2 => gy_w (H0 := _) hG ev58 hg (fun hG => ?_))
        replace hS := hS2
        replace hm : gLe u58 res.2 := by rw [ev58]; exact hm
        cases Option.some.inj h
        exact gx_reti C hG.1 hS dX9_thing_61
      · replace h := it_neg hc h
        refine lv_iload hx hb dX9_thing_32 (lv_at hl 4 rfl) ?_
        refine lv_iconst (v := 0) hx hb dX9_thing_34 (by decide) ?_
        refine lv_sipush (v := 10000) hx hb dX9_thing_35 (by decide) ?_
        obtain ⟨r38, u38, e38, h⟩ := obI h
        obtain ⟨g38, eg38, ev38⟩ := cN_inv e38
        refine gx_cS C hG.1 hS [.int x4, .int (0 : Int32), .int (10000 : Int32)] (tX9_within eg38) qcX9_85 ⟨rfl, rfl, Nat.le_of_ble_eq_true rfl, Nat.le_of_ble_eq_true rfl⟩ ⟨Nat.sub_le_sub_right hm.1 _, Nat.sub_le_sub_right hm.2 _⟩ rfl hl.1 rfl (Nat.le_of_ble_eq_true rfl) (st1 := [.int r38]) rfl dX9_thing_38 (fun H locs hg hS2 => gy_w (H0 := _) hG ev38 hg (fun hG => ?_))
        replace hS := hS2
        replace hm : gLe u38 res.2 := by rw [ev38]; exact hm
        refine lv_if_eq (tgt := 56) hx hb dX9_thing_41 (by decide) (fun hc => ?_) (fun hc => ?_)
        · replace h := it_pos hc h
          refine gx_aload_n (r := (some x0)) hx hb dX9_thing_56 rfl (lv_at hl 0 rfl) ?_
          refine lv_iconst (v := 1) hx hb dX9_thing_57 (by decide) ?_
          obtain ⟨_, eo58, h⟩ := ob h
          obtain ⟨r58, u58, e58, h⟩ := obI h
          obtain ⟨g58, eg58, ev58⟩ := cN_inv e58
          refine gx_cV C hG.1 hS [.int (1 : Int32)] rfl eo58 (tX9_finding eg58) qcX9_89 ⟨rfl, rfl, Nat.le_of_ble_eq_true rfl, Nat.le_of_ble_eq_true rfl⟩ ⟨Nat.sub_le_sub_right hm.1 _, Nat.sub_le_sub_right hm.2 _⟩ rfl hl.1 rfl (Nat.le_of_ble_eq_true rfl) (st1 := [.int r58]) rfl dX9_thing_58 (fun H locs hg hS2 => gy_w (H0 := _) hG ev58 hg (fun hG => ?_))
          replace hS := hS2
          replace hm : gLe u58 res.2 := by rw [ev58]; exact hm
          cases Option.some.inj h
          exact gx_reti C hG.1 hS dX9_thing_61
        · replace h := it_neg hc h
          refine lv_iload hx hb dX9_thing_44 (lv_at hl 5 rfl) ?_
          refine lv_iconst (v := 1) hx hb dX9_thing_46 (by decide) ?_
          refine lv_sipush (v := 9999) hx hb dX9_thing_47 (by decide) ?_
          obtain ⟨r50, u50, e50, h⟩ := obI h
          obtain ⟨g50, eg50, ev50⟩ := cN_inv e50
          refine gx_cS C hG.1 hS [.int x5, .int (1 : Int32), .int (9999 : Int32)] (tX9_within eg50) qcX9_85 ⟨rfl, rfl, Nat.le_of_ble_eq_true rfl, Nat.le_of_ble_eq_true rfl⟩ ⟨Nat.sub_le_sub_right hm.1 _, Nat.sub_le_sub_right hm.2 _⟩ rfl hl.1 rfl (Nat.le_of_ble_eq_true rfl) (st1 := [.int r50]) rfl dX9_thing_50 (fun H locs hg hS2 => gy_w (H0 := _) hG ev50 hg (fun hG => ?_))
          replace hS := hS2
          replace hm : gLe u50 res.2 := by rw [ev50]; exact hm
          refine lv_if_ne (tgt := 62) hx hb dX9_thing_53 (by decide) (fun hc => ?_) (fun hc => ?_)
          · replace h := it_neg hc h
            refine gx_aload_n (r := (some x0)) hx hb dX9_thing_62 rfl (lv_at hl 0 rfl) ?_
            obtain ⟨v63, e63, h⟩ := ob h
            refine gx_getR C hG.1 rfl e63 fgX9_10 dX9_thing_63 ?_
            obtain ⟨a66, na66, h⟩ := ob h
            obtain ⟨_, eo66, h⟩ := ob h
            obtain ⟨r66, u66, e66, h⟩ := obI h
            obtain ⟨g66, eg66, ev66⟩ := cN_inv e66
            refine gx_cV C hG.1 hS [] na66 eo66 (tJx4a65c_size_8abf5 eg66) qcX9_93 ⟨rfl, rfl, Nat.le_of_ble_eq_true rfl, Nat.le_of_ble_eq_true rfl⟩ ⟨Nat.sub_le_sub_right hm.1 _, Nat.sub_le_sub_right hm.2 _⟩ rfl hl.1 rfl (Nat.le_of_ble_eq_true rfl) (st1 := [.int r66]) rfl dX9_thing_66 (fun H locs hg hS2 => gy_w (H0 := _) hG ev66 hg (fun hG => ?_))
            replace hS := hS2
            replace hm : gLe u66 res.2 := by rw [ev66]; exact hm
            refine lv_bipush (v := 20) hx hb dX9_thing_69 (by decide) ?_
            refine lv_icmp_lt (tgt := 80) hx hb dX9_thing_71 (by decide) (fun hc => ?_) (fun hc => ?_)
            · replace h := it_pos hc h
              refine lv_iload_n hx hb dX9_thing_80 rfl (lv_at hl 1 rfl) ?_
              refine lv_iconst (v := 3) hx hb dX9_thing_81 (by decide) ?_
              refine lv_icmp_ne (tgt := 101) hx hb dX9_thing_82 (by decide) (fun hc => ?_) (fun hc => ?_)
              · replace h := it_neg hc h
                obtain ⟨q101, u101, e101, h⟩ := obI h
                have hm2 : gLe u101 res.2 := by
                  exact moX9_thing_104  h
                refine gy_new C hG hS e101 kwX9_102 ⟨Nat.sub_le_sub_right hm2.1 _, Nat.sub_le_sub_right hm2.2 _⟩ dX9_thing_101 (fun H hG hS => ?_)
                exact wX9_thing_104 C hz  h hG hS (lv_sub hl [0, 1, 2, 3, 4, 5] rfl)
              · replace h := it_pos hc h
                obtain ⟨q85, u85, e85, h⟩ := obI h
                have hm2 : gLe u85 res.2 := by
                  exact moX9_thing_88  h
                refine gy_new C hG hS e85 kwX9_97 ⟨Nat.sub_le_sub_right hm2.1 _, Nat.sub_le_sub_right hm2.2 _⟩ dX9_thing_85 (fun H hG hS => ?_)
                exact wX9_thing_88 C hz  h hG hS (lv_sub hl [0, 2, 3, 4, 5] rfl)
            · replace h := it_neg hc h
              refine gx_aload_n (r := (some x0)) hx hb dX9_thing_74 rfl (lv_at hl 0 rfl) ?_
              refine lv_iconst (v := 4) hx hb dX9_thing_75 (by decide) ?_
              obtain ⟨_, eo76, h⟩ := ob h
              obtain ⟨r76, u76, e76, h⟩ := obI h
              obtain ⟨g76, eg76, ev76⟩ := cN_inv e76
              refine gx_cV C hG.1 hS [.int (4 : Int32)] rfl eo76 (tX9_finding eg76) qcX9_89 ⟨rfl, rfl, Nat.le_of_ble_eq_true rfl, Nat.le_of_ble_eq_true rfl⟩ ⟨Nat.sub_le_sub_right hm.1 _, Nat.sub_le_sub_right hm.2 _⟩ rfl hl.1 rfl (Nat.le_of_ble_eq_true rfl) (st1 := [.int r76]) rfl dX9_thing_76 (fun H locs hg hS2 => gy_w (H0 := _) hG ev76 hg (fun hG => ?_))
              replace hS := hS2
              replace hm : gLe u76 res.2 := by rw [ev76]; exact hm
              cases Option.some.inj h
              exact gx_reti C hG.1 hS dX9_thing_79
          · replace h := it_pos hc h
            refine gx_aload_n (r := (some x0)) hx hb dX9_thing_56 rfl (lv_at hl 0 rfl) ?_
            refine lv_iconst (v := 1) hx hb dX9_thing_57 (by decide) ?_
            obtain ⟨_, eo58, h⟩ := ob h
            obtain ⟨r58, u58, e58, h⟩ := obI h
            obtain ⟨g58, eg58, ev58⟩ := cN_inv e58
            refine gx_cV C hG.1 hS [.int (1 : Int32)] rfl eo58 (tX9_finding eg58) qcX9_89 ⟨rfl, rfl, Nat.le_of_ble_eq_true rfl, Nat.le_of_ble_eq_true rfl⟩ ⟨Nat.sub_le_sub_right hm.1 _, Nat.sub_le_sub_right hm.2 _⟩ rfl hl.1 rfl (Nat.le_of_ble_eq_true rfl) (st1 := [.int r58]) rfl dX9_thing_58 (fun H locs hg hS2 => gy_w (H0 := _) hG ev58 hg (fun hG => ?_))
            replace hS := hS2
            replace hm : gLe u58 res.2 := by rw [ev58]; exact hm
            cases Option.some.inj h
            exact gx_reti C hG.1 hS dX9_thing_61
theorem tX9_thing {Γ : gEnv} {z : Nat → Nat} (hz : Γ.2.2.2 = z) {x0 : Nat} {x1 : Int32} {x2 : Int32} {x3 : Int32} {x4 : Int32} {x5 : Int32} {u v : gN} {r : Int32} (h : fX9_thing z x0 x1 x2 x3 x4 x5 u = some (r, v)) : Met l yX9_thing (Cond.code yX9_thing cX9_thing 7 (some .int) :: gW) (rmX9_thing (v.2.1 - u.2.1) (v.2.2 - u.2.2)) (va_Pc [va_rf (some x0), .int x1, .int x2, .int x3, .int x4, .int x5] (gPre Γ u.1 u.2.1)) (gQ Γ (some (.int r)) v.1 v.2.1) (v.2.1 - u.2.1) (v.2.2 - u.2.2) Γ.2.2.1 := by
  refine gx_met (nm := "thing") ⟨by decide +kernel, rfl, rfl⟩ (Nat.le_of_ble_eq_true rfl) (fun p e s m below meth c ls C hG hl => ?_)
  have hN : s.heap.size = u.2.1 := hG.1
  have K := wX9_thing (l := l) (e := e) (below := below) (sB := u.2.2) C hz h ⟨hG, Nat.le_refl _⟩ va_S.rf hl
  rw [hN, Nat.sub_self, Nat.sub_self] at K
  exact K
abbrev rmX9_thingOf : Room := { frames := 3, cells := 0, slots := 0, locals := 64 }
def fX9_thingOf (x0 : Nat) (x1 : Int32) (u : gM) : Option (Option Nat × gM) :=
  (gR [10] 0 u x0).bind fun v3 =>
  (v3).bind fun a6 =>
  (gO [0] u a6).bind fun _ =>
  bI (fJx4a65c_size_8abf5 a6 u) fun r6 u6 =>
  bI (fX9_within x1 (0 : Int32) (r6 - (1 : Int32)) u6) fun r11 u11 =>
  if r11 = 0 then (
    some (none, u11)
  ) else (
    (gR [10] 0 u11 x0).bind fun v18 =>
    (v18).bind fun a22 =>
    (gO [0] u11 a22).bind fun _ =>
    bI (fJx4a65c_get_915e3 a22 x1 u11) fun r22 u22 =>
    (kC [9, 6] u22 r22).bind fun _ =>
    some (r22, u22)
  )
set_option maxHeartbeats 4000000 in
set_option maxRecDepth 20000 in
theorem wX9_thingOf  (C : gC p s m args meth c cX9_thingOf 2 (some (.object "LostParcels$Thing")) RX9 "thingOf" Γ){x0 : Nat} {x1 : Int32} {u : gM} {res : Option Nat × gM} (h : fX9_thingOf x0 x1 u = some res) {H : Heap} {locs : List Loc} (hG : gAg Γ u N H) (hS : va_S Γ.2.2.1 s.heap H locs) {ls : Array Slot} (hl : lv_has ls 2 [(0, va_rf (some x0)), (1, .int x1)]) : W p l e rmX9_thingOf s m args below meth c H locs 0 0 (MQ below (gQ Γ (some (va_rf res.1)) res.2 N) args s 0 0 Γ.2.2.1) (F0 m 0 ls []) := by
  have hx := C.1
  have hb := C.2.1
  unfold fX9_thingOf at h
  refine lv_iload_n hx hb dX9_thingOf_0 rfl (lv_at hl 1 rfl) ?_
  refine lv_iconst (v := 0) hx hb dX9_thingOf_1 (by decide) ?_
  refine gx_aload_n (r := (some x0)) hx hb dX9_thingOf_2 rfl (lv_at hl 0 rfl) ?_
  obtain ⟨v3, e3, h⟩ := ob h
  refine gx_getR C hG rfl e3 fgX9_10 dX9_thingOf_3 ?_
  obtain ⟨a6, na6, h⟩ := ob h
  obtain ⟨_, eo6, h⟩ := ob h
  obtain ⟨r6, u6, e6, h⟩ := obI h
  refine gx_cV C hG hS [] na6 eo6 (tJx4a65c_size_8abf5 e6) qcX9_93 ⟨rfl, rfl, Nat.le_of_ble_eq_true rfl, Nat.le_of_ble_eq_true rfl⟩ ⟨Nat.zero_le _, Nat.zero_le _⟩ rfl hl.1 rfl (Nat.le_of_ble_eq_true rfl) (st1 := [.int r6, .int (0 : Int32), .int x1]) rfl dX9_thingOf_6 (fun H locs hG hS => ?_)
  refine lv_iconst (v := 1) hx hb dX9_thingOf_9 (by decide) ?_
  refine lv_isub hx hb dX9_thingOf_10 ?_
  obtain ⟨r11, u11, e11, h⟩ := obI h
  refine gx_cS C hG hS [.int x1, .int (0 : Int32), .int (r6 - (1 : Int32))] (tX9_within e11) qcX9_85 ⟨rfl, rfl, Nat.le_of_ble_eq_true rfl, Nat.le_of_ble_eq_true rfl⟩ ⟨Nat.zero_le _, Nat.zero_le _⟩ rfl hl.1 rfl (Nat.le_of_ble_eq_true rfl) (st1 := [.int r11]) rfl dX9_thingOf_11 (fun H locs hG hS => ?_)
  refine lv_if_eq (tgt := 31) hx hb dX9_thingOf_14 (by decide) (fun hc => ?_) (fun hc => ?_)
  · replace h := it_pos hc h
    refine gx_null hx hb dX9_thingOf_31 ?_
    cases Option.some.inj h
    exact gx_reta C (Or.inl ⟨_, rfl⟩) hG hS dX9_thingOf_32
  · replace h := it_neg hc h
    refine gx_aload_n (r := (some x0)) hx hb dX9_thingOf_17 rfl (lv_at hl 0 rfl) ?_
    obtain ⟨v18, e18, h⟩ := ob h
    refine gx_getR C hG rfl e18 fgX9_10 dX9_thingOf_18 ?_
    refine lv_iload_n hx hb dX9_thingOf_21 rfl (lv_at hl 1 rfl) ?_
    obtain ⟨a22, na22, h⟩ := ob h
    obtain ⟨_, eo22, h⟩ := ob h
    obtain ⟨r22, u22, e22, h⟩ := obI h
    refine gx_cV C hG hS [.int x1] na22 eo22 (tJx4a65c_get_915e3 e22) qcX9_144 ⟨rfl, rfl, Nat.le_of_ble_eq_true rfl, Nat.le_of_ble_eq_true rfl⟩ ⟨Nat.zero_le _, Nat.zero_le _⟩ rfl hl.1 rfl (Nat.le_of_ble_eq_true rfl) (st1 := [va_rf r22]) rfl dX9_thingOf_22 (fun H locs hG hS => ?_)
    obtain ⟨_, e25, h⟩ := ob h
    refine gx_cast C hG e25 ckX9_102 dX9_thingOf_25 ?_
    refine lv_goto (tgt := 32) hx hb dX9_thingOf_28 (by decide) ?_
    cases Option.some.inj h
    exact gx_reta C (Or.inl ⟨_, rfl⟩) hG hS dX9_thingOf_32
theorem tX9_thingOf {Γ : gEnv} {N : Nat} {x0 : Nat} {x1 : Int32} {u v : gM} {r : Option Nat} (h : fX9_thingOf x0 x1 u = some (r, v)) : Met l yX9_thingOf (Cond.code yX9_thingOf cX9_thingOf 2 (some (.object "LostParcels$Thing")) :: gW) rmX9_thingOf (va_Pc [va_rf (some x0), .int x1] (gPre Γ u N)) (gQ Γ (some (va_rf r)) v N) 0 0 Γ.2.2.1 :=
  gx_met (nm := "thingOf") ⟨by decide +kernel, rfl, rfl⟩ (Nat.le_of_ble_eq_true rfl) (fun p e s m below meth c ls C hG hl => wX9_thingOf C h hG va_S.rf hl)
abbrev rmX9_as : Room := { frames := 4, cells := 0, slots := 0, locals := 85 }
def fX9_as (x0 : Nat) (x1 : Int32) (x2 : Int32) (u : gM) : Option (Int32 × gM) :=
  (gO [10] u x0).bind fun _ =>
  bI (fX9_thingOf x0 x1 u) fun r2 u2 =>
  if r2 = none then (
    (gO [10] u2 x0).bind fun _ =>
    bI (fX9_finding x0 (1 : Int32) u2) fun r21 u21 =>
    some (r21, u21)
  ) else (
    bI (fX9_within x2 (0 : Int32) (3 : Int32) u2) fun r13 u13 =>
    if r13 = 0 then (
      (gO [10] u13 x0).bind fun _ =>
      bI (fX9_finding x0 (1 : Int32) u13) fun r21 u21 =>
      some (r21, u21)
    ) else (
      if x2 = 0 then (
        (r2).bind fun a44 =>
        (gI [9, 6] 2 u13 a44).bind fun v44 =>
        some (v44, u13)
      ) else (
        (r2).bind fun a31 =>
        (gI [9, 6] 0 u13 a31).bind fun v31 =>
        if x2 = v31 then (
          (r2).bind fun a44 =>
          (gI [9, 6] 2 u13 a44).bind fun v44 =>
          some (v44, u13)
        ) else (
          (gO [10] u13 x0).bind fun _ =>
          bI (fX9_finding x0 (5 : Int32) u13) fun r39 u39 =>
          some (r39, u39)
        )
      )
    )
  )
set_option maxHeartbeats 4000000 in
set_option maxRecDepth 20000 in
theorem wX9_as  (C : gC p s m args meth c cX9_as 4 (some .int) RX9 "as" Γ){x0 : Nat} {x1 : Int32} {x2 : Int32} {u : gM} {res : Int32 × gM} (h : fX9_as x0 x1 x2 u = some res) {H : Heap} {locs : List Loc} (hG : gAg Γ u N H) (hS : va_S Γ.2.2.1 s.heap H locs) {ls : Array Slot} (hl : lv_has ls 4 [(0, va_rf (some x0)), (1, .int x1), (2, .int x2)]) : W p l e rmX9_as s m args below meth c H locs 0 0 (MQ below (gQ Γ (some (.int res.1)) res.2 N) args s 0 0 Γ.2.2.1) (F0 m 0 ls []) := by
  have hx := C.1
  have hb := C.2.1
  unfold fX9_as at h
  refine gx_aload_n (r := (some x0)) hx hb dX9_as_0 rfl (lv_at hl 0 rfl) ?_
  refine lv_iload_n hx hb dX9_as_1 rfl (lv_at hl 1 rfl) ?_
  obtain ⟨_, eo2, h⟩ := ob h
  obtain ⟨r2, u2, e2, h⟩ := obI h
  refine gx_cV C hG hS [.int x1] rfl eo2 (tX9_thingOf e2) qcX9_119 ⟨rfl, rfl, Nat.le_of_ble_eq_true rfl, Nat.le_of_ble_eq_true rfl⟩ ⟨Nat.zero_le _, Nat.zero_le _⟩ rfl hl.1 rfl (Nat.le_of_ble_eq_true rfl) (st1 := [va_rf r2]) rfl dX9_as_2 (fun H locs hG hS => ?_)
  refine gx_astore_n (r := r2) (i := 3) (lv' := [(3, va_rf r2), (0, va_rf (some x0)), (1, .int x1), (2, .int x2)]) hx hb dX9_as_5 rfl hl (by decide) rfl (fun ls hl => ?_)
  refine gx_aload_n (r := r2) hx hb dX9_as_6 rfl (lv_at hl 0 rfl) ?_
  refine gx_ifnull (tgt := 19) hx hb dX9_as_7 (by decide) (fun hc => ?_) (fun hc => ?_)
  · replace h := it_pos hc h
    refine gx_aload_n (r := (some x0)) hx hb dX9_as_19 rfl (lv_at hl 1 rfl) ?_
    refine lv_iconst (v := 1) hx hb dX9_as_20 (by decide) ?_
    obtain ⟨_, eo21, h⟩ := ob h
    obtain ⟨r21, u21, e21, h⟩ := obI h
    refine gx_cV C hG hS [.int (1 : Int32)] rfl eo21 (tX9_finding e21) qcX9_89 ⟨rfl, rfl, Nat.le_of_ble_eq_true rfl, Nat.le_of_ble_eq_true rfl⟩ ⟨Nat.zero_le _, Nat.zero_le _⟩ rfl hl.1 rfl (Nat.le_of_ble_eq_true rfl) (st1 := [.int r21]) rfl dX9_as_21 (fun H locs hG hS => ?_)
    cases Option.some.inj h
    exact gx_reti C hG hS dX9_as_24
  · replace h := it_neg hc h
    refine lv_iload_n hx hb dX9_as_10 rfl (lv_at hl 3 rfl) ?_
    refine lv_iconst (v := 0) hx hb dX9_as_11 (by decide) ?_
    refine lv_iconst (v := 3) hx hb dX9_as_12 (by decide) ?_
    obtain ⟨r13, u13, e13, h⟩ := obI h
    refine gx_cS C hG hS [.int x2, .int (0 : Int32), .int (3 : Int32)] (tX9_within e13) qcX9_85 ⟨rfl, rfl, Nat.le_of_ble_eq_true rfl, Nat.le_of_ble_eq_true rfl⟩ ⟨Nat.zero_le _, Nat.zero_le _⟩ rfl hl.1 rfl (Nat.le_of_ble_eq_true rfl) (st1 := [.int r13]) rfl dX9_as_13 (fun H locs hG hS => ?_)
    refine lv_if_ne (tgt := 25) hx hb dX9_as_16 (by decide) (fun hc => ?_) (fun hc => ?_)
    · replace h := it_neg hc h
      refine lv_iload_n hx hb dX9_as_25 rfl (lv_at hl 3 rfl) ?_
      refine lv_if_eq (tgt := 43) hx hb dX9_as_26 (by decide) (fun hc => ?_) (fun hc => ?_)
      · replace h := it_pos hc h
        refine gx_aload_n (r := r2) hx hb dX9_as_43 rfl (lv_at hl 0 rfl) ?_
        obtain ⟨a44, na44, h⟩ := ob h
        obtain ⟨v44, e44, h⟩ := ob h
        refine gx_getI C hG na44 e44 fgX9_126 dX9_as_44 ?_
        cases Option.some.inj h
        exact gx_reti C hG hS dX9_as_47
      · replace h := it_neg hc h
        refine lv_iload_n hx hb dX9_as_29 rfl (lv_at hl 3 rfl) ?_
        refine gx_aload_n (r := r2) hx hb dX9_as_30 rfl (lv_at hl 0 rfl) ?_
        obtain ⟨a31, na31, h⟩ := ob h
        obtain ⟨v31, e31, h⟩ := ob h
        refine gx_getI C hG na31 e31 fgX9_123 dX9_as_31 ?_
        refine lv_icmp_eq (tgt := 43) hx hb dX9_as_34 (by decide) (fun hc => ?_) (fun hc => ?_)
        · replace h := it_pos hc h
          refine gx_aload_n (r := r2) hx hb dX9_as_43 rfl (lv_at hl 0 rfl) ?_
          obtain ⟨a44, na44, h⟩ := ob h
          obtain ⟨v44, e44, h⟩ := ob h
          refine gx_getI C hG na44 e44 fgX9_126 dX9_as_44 ?_
          cases Option.some.inj h
          exact gx_reti C hG hS dX9_as_47
        · replace h := it_neg hc h
          refine gx_aload_n (r := (some x0)) hx hb dX9_as_37 rfl (lv_at hl 1 rfl) ?_
          refine lv_iconst (v := 5) hx hb dX9_as_38 (by decide) ?_
          obtain ⟨_, eo39, h⟩ := ob h
          obtain ⟨r39, u39, e39, h⟩ := obI h
          refine gx_cV C hG hS [.int (5 : Int32)] rfl eo39 (tX9_finding e39) qcX9_89 ⟨rfl, rfl, Nat.le_of_ble_eq_true rfl, Nat.le_of_ble_eq_true rfl⟩ ⟨Nat.zero_le _, Nat.zero_le _⟩ rfl hl.1 rfl (Nat.le_of_ble_eq_true rfl) (st1 := [.int r39]) rfl dX9_as_39 (fun H locs hG hS => ?_)
          cases Option.some.inj h
          exact gx_reti C hG hS dX9_as_42
    · replace h := it_pos hc h
      refine gx_aload_n (r := (some x0)) hx hb dX9_as_19 rfl (lv_at hl 1 rfl) ?_
      refine lv_iconst (v := 1) hx hb dX9_as_20 (by decide) ?_
      obtain ⟨_, eo21, h⟩ := ob h
      obtain ⟨r21, u21, e21, h⟩ := obI h
      refine gx_cV C hG hS [.int (1 : Int32)] rfl eo21 (tX9_finding e21) qcX9_89 ⟨rfl, rfl, Nat.le_of_ble_eq_true rfl, Nat.le_of_ble_eq_true rfl⟩ ⟨Nat.zero_le _, Nat.zero_le _⟩ rfl hl.1 rfl (Nat.le_of_ble_eq_true rfl) (st1 := [.int r21]) rfl dX9_as_21 (fun H locs hG hS => ?_)
      cases Option.some.inj h
      exact gx_reti C hG hS dX9_as_24
theorem tX9_as {Γ : gEnv} {N : Nat} {x0 : Nat} {x1 : Int32} {x2 : Int32} {u v : gM} {r : Int32} (h : fX9_as x0 x1 x2 u = some (r, v)) : Met l yX9_as (Cond.code yX9_as cX9_as 4 (some .int) :: gW) rmX9_as (va_Pc [va_rf (some x0), .int x1, .int x2] (gPre Γ u N)) (gQ Γ (some (.int r)) v N) 0 0 Γ.2.2.1 :=
  gx_met (nm := "as") ⟨by decide +kernel, rfl, rfl⟩ (Nat.le_of_ble_eq_true rfl) (fun p e s m below meth c ls C hG hl => wX9_as C h hG va_S.rf hl)
abbrev rmX9_trait : Room := { frames := 4, cells := 0, slots := 0, locals := 85 }
def fX9_trait (x0 : Nat) (x1 : Int32) (x2 : Int32) (x3 : Int32) (u : gM) : Option (Int32 × gM) :=
  (gO [10] u x0).bind fun _ =>
  bI (fX9_thingOf x0 x1 u) fun r2 u2 =>
  if r2 = none then (
    (gO [10] u2 x0).bind fun _ =>
    bI (fX9_finding x0 (1 : Int32) u2) fun r33 u33 =>
    some (r33, u33)
  ) else (
    bI (fX9_within x2 (0 : Int32) (4 : Int32) u2) fun r15 u15 =>
    if r15 = 0 then (
      (gO [10] u15 x0).bind fun _ =>
      bI (fX9_finding x0 (1 : Int32) u15) fun r33 u33 =>
      some (r33, u33)
    ) else (
      bI (fX9_within x3 (0 : Int32) (15 : Int32) u15) fun r25 u25 =>
      if r25 = 0 then (
        (gO [10] u25 x0).bind fun _ =>
        bI (fX9_finding x0 (1 : Int32) u25) fun r33 u33 =>
        some (r33, u33)
      ) else (
        (r2).bind fun a39 =>
        (gR [9, 6] 5 u25 a39).bind fun v39 =>
        (v39).bind fun a43 =>
        (aI u25 a43 x2).bind fun v43 =>
        (r2).bind fun a48 =>
        (gR [9, 6] 5 u25 a48).bind fun v48 =>
        (v48).bind fun a53 =>
        (uI u25 a53 x2 x3).bind fun u53 =>
        some (v43, u53)
      )
    )
  )
set_option maxHeartbeats 4000000 in
set_option maxRecDepth 20000 in
theorem wX9_trait  (C : gC p s m args meth c cX9_trait 6 (some .int) RX9 "trait" Γ){x0 : Nat} {x1 : Int32} {x2 : Int32} {x3 : Int32} {u : gM} {res : Int32 × gM} (h : fX9_trait x0 x1 x2 x3 u = some res) {H : Heap} {locs : List Loc} (hG : gAg Γ u N H) (hS : va_S Γ.2.2.1 s.heap H locs) {ls : Array Slot} (hl : lv_has ls 6 [(0, va_rf (some x0)), (1, .int x1), (2, .int x2), (3, .int x3)]) : W p l e rmX9_trait s m args below meth c H locs 0 0 (MQ below (gQ Γ (some (.int res.1)) res.2 N) args s 0 0 Γ.2.2.1) (F0 m 0 ls []) := by
  have hx := C.1
  have hb := C.2.1
  unfold fX9_trait at h
  refine gx_aload_n (r := (some x0)) hx hb dX9_trait_0 rfl (lv_at hl 0 rfl) ?_
  refine lv_iload_n hx hb dX9_trait_1 rfl (lv_at hl 1 rfl) ?_
  obtain ⟨_, eo2, h⟩ := ob h
  obtain ⟨r2, u2, e2, h⟩ := obI h
  refine gx_cV C hG hS [.int x1] rfl eo2 (tX9_thingOf e2) qcX9_119 ⟨rfl, rfl, Nat.le_of_ble_eq_true rfl, Nat.le_of_ble_eq_true rfl⟩ ⟨Nat.zero_le _, Nat.zero_le _⟩ rfl hl.1 rfl (Nat.le_of_ble_eq_true rfl) (st1 := [va_rf r2]) rfl dX9_trait_2 (fun H locs hG hS => ?_)
  refine gx_astore (r := r2) (i := 4) (lv' := [(4, va_rf r2), (0, va_rf (some x0)), (1, .int x1), (2, .int x2), (3, .int x3)]) hx hb dX9_trait_5 hl (by decide) rfl (fun ls hl => ?_)
  refine gx_aload (r := r2) hx hb dX9_trait_7 (lv_at hl 0 rfl) ?_
  refine gx_ifnull (tgt := 31) hx hb dX9_trait_9 (by decide) (fun hc => ?_) (fun hc => ?_)
  · replace h := it_pos hc h
    refine gx_aload_n (r := (some x0)) hx hb dX9_trait_31 rfl (lv_at hl 1 rfl) ?_
    refine lv_iconst (v := 1) hx hb dX9_trait_32 (by decide) ?_
    obtain ⟨_, eo33, h⟩ := ob h
    obtain ⟨r33, u33, e33, h⟩ := obI h
    refine gx_cV C hG hS [.int (1 : Int32)] rfl eo33 (tX9_finding e33) qcX9_89 ⟨rfl, rfl, Nat.le_of_ble_eq_true rfl, Nat.le_of_ble_eq_true rfl⟩ ⟨Nat.zero_le _, Nat.zero_le _⟩ rfl hl.1 rfl (Nat.le_of_ble_eq_true rfl) (st1 := [.int r33]) rfl dX9_trait_33 (fun H locs hG hS => ?_)
    cases Option.some.inj h
    exact gx_reti C hG hS dX9_trait_36
  · replace h := it_neg hc h
    refine lv_iload_n hx hb dX9_trait_12 rfl (lv_at hl 3 rfl) ?_
    refine lv_iconst (v := 0) hx hb dX9_trait_13 (by decide) ?_
    refine lv_iconst (v := 4) hx hb dX9_trait_14 (by decide) ?_
    obtain ⟨r15, u15, e15, h⟩ := obI h
    refine gx_cS C hG hS [.int x2, .int (0 : Int32), .int (4 : Int32)] (tX9_within e15) qcX9_85 ⟨rfl, rfl, Nat.le_of_ble_eq_true rfl, Nat.le_of_ble_eq_true rfl⟩ ⟨Nat.zero_le _, Nat.zero_le _⟩ rfl hl.1 rfl (Nat.le_of_ble_eq_true rfl) (st1 := [.int r15]) rfl dX9_trait_15 (fun H locs hG hS => ?_)
    refine lv_if_eq (tgt := 31) hx hb dX9_trait_18 (by decide) (fun hc => ?_) (fun hc => ?_)
    · replace h := it_pos hc h
      refine gx_aload_n (r := (some x0)) hx hb dX9_trait_31 rfl (lv_at hl 1 rfl) ?_
      refine lv_iconst (v := 1) hx hb dX9_trait_32 (by decide) ?_
      obtain ⟨_, eo33, h⟩ := ob h
      obtain ⟨r33, u33, e33, h⟩ := obI h
      refine gx_cV C hG hS [.int (1 : Int32)] rfl eo33 (tX9_finding e33) qcX9_89 ⟨rfl, rfl, Nat.le_of_ble_eq_true rfl, Nat.le_of_ble_eq_true rfl⟩ ⟨Nat.zero_le _, Nat.zero_le _⟩ rfl hl.1 rfl (Nat.le_of_ble_eq_true rfl) (st1 := [.int r33]) rfl dX9_trait_33 (fun H locs hG hS => ?_)
      cases Option.some.inj h
      exact gx_reti C hG hS dX9_trait_36
    · replace h := it_neg hc h
      refine lv_iload_n hx hb dX9_trait_21 rfl (lv_at hl 4 rfl) ?_
      refine lv_iconst (v := 0) hx hb dX9_trait_22 (by decide) ?_
      refine lv_bipush (v := 15) hx hb dX9_trait_23 (by decide) ?_
      obtain ⟨r25, u25, e25, h⟩ := obI h
      refine gx_cS C hG hS [.int x3, .int (0 : Int32), .int (15 : Int32)] (tX9_within e25) qcX9_85 ⟨rfl, rfl, Nat.le_of_ble_eq_true rfl, Nat.le_of_ble_eq_true rfl⟩ ⟨Nat.zero_le _, Nat.zero_le _⟩ rfl hl.1 rfl (Nat.le_of_ble_eq_true rfl) (st1 := [.int r25]) rfl dX9_trait_25 (fun H locs hG hS => ?_)
      refine lv_if_ne (tgt := 37) hx hb dX9_trait_28 (by decide) (fun hc => ?_) (fun hc => ?_)
      · replace h := it_neg hc h
        refine gx_aload (r := r2) hx hb dX9_trait_37 (lv_at hl 0 rfl) ?_
        obtain ⟨a39, na39, h⟩ := ob h
        obtain ⟨v39, e39, h⟩ := ob h
        refine gx_getR C hG na39 e39 fgX9_129 dX9_trait_39 ?_
        refine lv_iload_n hx hb dX9_trait_42 rfl (lv_at hl 3 rfl) ?_
        obtain ⟨a43, na43, h⟩ := ob h
        obtain ⟨v43, e43, h⟩ := ob h
        refine gx_iald C hG na43 e43 dX9_trait_43 ?_
        refine lv_istore (i := 5) (lv' := [(5, .int v43), (4, va_rf r2), (0, va_rf (some x0)), (1, .int x1), (2, .int x2), (3, .int x3)]) hx hb dX9_trait_44 hl (by decide) (by simp [gx_cat, gx_catI, gx_catJ]) (fun ls hl => ?_)
        refine gx_aload (r := r2) hx hb dX9_trait_46 (lv_at hl 1 rfl) ?_
        obtain ⟨a48, na48, h⟩ := ob h
        obtain ⟨v48, e48, h⟩ := ob h
        refine gx_getR C hG na48 e48 fgX9_129 dX9_trait_48 ?_
        refine lv_iload_n hx hb dX9_trait_51 rfl (lv_at hl 4 rfl) ?_
        refine lv_iload_n hx hb dX9_trait_52 rfl (lv_at hl 5 rfl) ?_
        obtain ⟨a53, na53, h⟩ := ob h
        obtain ⟨u53, e53, h⟩ := ob h
        refine gx_iast C hG hS na53 e53 dX9_trait_53 (fun H locs hG hS => ?_)
        refine lv_iload hx hb dX9_trait_54 (lv_at hl 0 rfl) ?_
        cases Option.some.inj h
        exact gx_reti C hG hS dX9_trait_56
      · replace h := it_pos hc h
        refine gx_aload_n (r := (some x0)) hx hb dX9_trait_31 rfl (lv_at hl 1 rfl) ?_
        refine lv_iconst (v := 1) hx hb dX9_trait_32 (by decide) ?_
        obtain ⟨_, eo33, h⟩ := ob h
        obtain ⟨r33, u33, e33, h⟩ := obI h
        refine gx_cV C hG hS [.int (1 : Int32)] rfl eo33 (tX9_finding e33) qcX9_89 ⟨rfl, rfl, Nat.le_of_ble_eq_true rfl, Nat.le_of_ble_eq_true rfl⟩ ⟨Nat.zero_le _, Nat.zero_le _⟩ rfl hl.1 rfl (Nat.le_of_ble_eq_true rfl) (st1 := [.int r33]) rfl dX9_trait_33 (fun H locs hG hS => ?_)
        cases Option.some.inj h
        exact gx_reti C hG hS dX9_trait_36
theorem tX9_trait {Γ : gEnv} {N : Nat} {x0 : Nat} {x1 : Int32} {x2 : Int32} {x3 : Int32} {u v : gM} {r : Int32} (h : fX9_trait x0 x1 x2 x3 u = some (r, v)) : Met l yX9_trait (Cond.code yX9_trait cX9_trait 6 (some .int) :: gW) rmX9_trait (va_Pc [va_rf (some x0), .int x1, .int x2, .int x3] (gPre Γ u N)) (gQ Γ (some (.int r)) v N) 0 0 Γ.2.2.1 :=
  gx_met (nm := "trait") ⟨by decide +kernel, rfl, rfl⟩ (Nat.le_of_ble_eq_true rfl) (fun p e s m below meth c ls C hG hl => wX9_trait C h hG va_S.rf hl)
abbrev rmX9_about : Room := { frames := 4, cells := 0, slots := 0, locals := 85 }
def fX9_about (x0 : Nat) (x1 : Int32) (x2 : Int32) (u : gM) : Option (Int32 × gM) :=
  (gO [10] u x0).bind fun _ =>
  bI (fX9_thingOf x0 x1 u) fun r2 u2 =>
  if r2 = none then (
    (gO [10] u2 x0).bind fun _ =>
    bI (fX9_finding x0 (1 : Int32) u2) fun r22 u22 =>
    some (r22, u22)
  ) else (
    bI (fX9_within x2 (0 : Int32) (10 : Int32) u2) fun r14 u14 =>
    if r14 = 0 then (
      (gO [10] u14 x0).bind fun _ =>
      bI (fX9_finding x0 (1 : Int32) u14) fun r22 u22 =>
      some (r22, u22)
    ) else (
      if x2 = 0 then (
        (r2).bind fun a65 =>
        (gI [9, 6] 0 u14 a65).bind fun v65 =>
        some (v65, u14)
      ) else (
      if x2 = 1 then (
        (r2).bind fun a70 =>
        (gI [9, 6] 1 u14 a70).bind fun v70 =>
        some (v70, u14)
      ) else (
      if x2 = 2 then (
        (r2).bind fun a75 =>
        (gI [9, 6] 2 u14 a75).bind fun v75 =>
        some (v75, u14)
      ) else (
      if x2 = 3 then (
        (r2).bind fun a80 =>
        (gI [9, 6] 3 u14 a80).bind fun v80 =>
        some (v80, u14)
      ) else (
      if x2 = 4 then (
        (r2).bind fun a85 =>
        (gI [9, 6] 6 u14 a85).bind fun v85 =>
        some (v85, u14)
      ) else (
      if x2 = 5 then (
        (r2).bind fun a90 =>
        (gI [9, 6] 7 u14 a90).bind fun v90 =>
        some (v90, u14)
      ) else (
        (r2).bind fun a95 =>
        (gR [9, 6] 5 u14 a95).bind fun v95 =>
        (v95).bind fun a102 =>
        (aI u14 a102 (x2 - (6 : Int32))).bind fun v102 =>
        some (v102, u14)
      ))))))
    )
  )
set_option maxHeartbeats 4000000 in
set_option maxRecDepth 20000 in
theorem wX9_about  (C : gC p s m args meth c cX9_about 4 (some .int) RX9 "about" Γ){x0 : Nat} {x1 : Int32} {x2 : Int32} {u : gM} {res : Int32 × gM} (h : fX9_about x0 x1 x2 u = some res) {H : Heap} {locs : List Loc} (hG : gAg Γ u N H) (hS : va_S Γ.2.2.1 s.heap H locs) {ls : Array Slot} (hl : lv_has ls 4 [(0, va_rf (some x0)), (1, .int x1), (2, .int x2)]) : W p l e rmX9_about s m args below meth c H locs 0 0 (MQ below (gQ Γ (some (.int res.1)) res.2 N) args s 0 0 Γ.2.2.1) (F0 m 0 ls []) := by
  have hx := C.1
  have hb := C.2.1
  unfold fX9_about at h
  refine gx_aload_n (r := (some x0)) hx hb dX9_about_0 rfl (lv_at hl 0 rfl) ?_
  refine lv_iload_n hx hb dX9_about_1 rfl (lv_at hl 1 rfl) ?_
  obtain ⟨_, eo2, h⟩ := ob h
  obtain ⟨r2, u2, e2, h⟩ := obI h
  refine gx_cV C hG hS [.int x1] rfl eo2 (tX9_thingOf e2) qcX9_119 ⟨rfl, rfl, Nat.le_of_ble_eq_true rfl, Nat.le_of_ble_eq_true rfl⟩ ⟨Nat.zero_le _, Nat.zero_le _⟩ rfl hl.1 rfl (Nat.le_of_ble_eq_true rfl) (st1 := [va_rf r2]) rfl dX9_about_2 (fun H locs hG hS => ?_)
  refine gx_astore_n (r := r2) (i := 3) (lv' := [(3, va_rf r2), (0, va_rf (some x0)), (1, .int x1), (2, .int x2)]) hx hb dX9_about_5 rfl hl (by decide) rfl (fun ls hl => ?_)
  refine gx_aload_n (r := r2) hx hb dX9_about_6 rfl (lv_at hl 0 rfl) ?_
  refine gx_ifnull (tgt := 20) hx hb dX9_about_7 (by decide) (fun hc => ?_) (fun hc => ?_)
  · replace h := it_pos hc h
    refine gx_aload_n (r := (some x0)) hx hb dX9_about_20 rfl (lv_at hl 1 rfl) ?_
    refine lv_iconst (v := 1) hx hb dX9_about_21 (by decide) ?_
    obtain ⟨_, eo22, h⟩ := ob h
    obtain ⟨r22, u22, e22, h⟩ := obI h
    refine gx_cV C hG hS [.int (1 : Int32)] rfl eo22 (tX9_finding e22) qcX9_89 ⟨rfl, rfl, Nat.le_of_ble_eq_true rfl, Nat.le_of_ble_eq_true rfl⟩ ⟨Nat.zero_le _, Nat.zero_le _⟩ rfl hl.1 rfl (Nat.le_of_ble_eq_true rfl) (st1 := [.int r22]) rfl dX9_about_22 (fun H locs hG hS => ?_)
    cases Option.some.inj h
    exact gx_reti C hG hS dX9_about_25
  · replace h := it_neg hc h
    refine lv_iload_n hx hb dX9_about_10 rfl (lv_at hl 3 rfl) ?_
    refine lv_iconst (v := 0) hx hb dX9_about_11 (by decide) ?_
    refine lv_bipush (v := 10) hx hb dX9_about_12 (by decide) ?_
    obtain ⟨r14, u14, e14, h⟩ := obI h
    refine gx_cS C hG hS [.int x2, .int (0 : Int32), .int (10 : Int32)] (tX9_within e14) qcX9_85 ⟨rfl, rfl, Nat.le_of_ble_eq_true rfl, Nat.le_of_ble_eq_true rfl⟩ ⟨Nat.zero_le _, Nat.zero_le _⟩ rfl hl.1 rfl (Nat.le_of_ble_eq_true rfl) (st1 := [.int r14]) rfl dX9_about_14 (fun H locs hG hS => ?_)
    refine lv_if_ne (tgt := 26) hx hb dX9_about_17 (by decide) (fun hc => ?_) (fun hc => ?_)
    · replace h := it_neg hc h
      refine lv_iload_n hx hb dX9_about_26 rfl (lv_at hl 3 rfl) ?_
      by_cases hc0 : x2 = 0
      · replace h := it_pos hc0 h
        refine lv_tableIn (tgt := 64) (off := 37) hx hb dX9_about_27 (by rw [hc0]; decide) (by rw [hc0]; decide) (by rw [hc0]; rfl) (by decide) ?_
        refine gx_aload_n (r := r2) hx hb dX9_about_64 rfl (lv_at hl 0 rfl) ?_
        obtain ⟨a65, na65, h⟩ := ob h
        obtain ⟨v65, e65, h⟩ := ob h
        refine gx_getI C hG na65 e65 fgX9_123 dX9_about_65 ?_
        cases Option.some.inj h
        exact gx_reti C hG hS dX9_about_68
      replace h := it_neg hc0 h
      by_cases hc1 : x2 = 1
      · replace h := it_pos hc1 h
        refine lv_tableIn (tgt := 69) (off := 42) hx hb dX9_about_27 (by rw [hc1]; decide) (by rw [hc1]; decide) (by rw [hc1]; rfl) (by decide) ?_
        refine gx_aload_n (r := r2) hx hb dX9_about_69 rfl (lv_at hl 0 rfl) ?_
        obtain ⟨a70, na70, h⟩ := ob h
        obtain ⟨v70, e70, h⟩ := ob h
        refine gx_getI C hG na70 e70 fgX9_132 dX9_about_70 ?_
        cases Option.some.inj h
        exact gx_reti C hG hS dX9_about_73
      replace h := it_neg hc1 h
      by_cases hc2 : x2 = 2
      · replace h := it_pos hc2 h
        refine lv_tableIn (tgt := 74) (off := 47) hx hb dX9_about_27 (by rw [hc2]; decide) (by rw [hc2]; decide) (by rw [hc2]; rfl) (by decide) ?_
        refine gx_aload_n (r := r2) hx hb dX9_about_74 rfl (lv_at hl 0 rfl) ?_
        obtain ⟨a75, na75, h⟩ := ob h
        obtain ⟨v75, e75, h⟩ := ob h
        refine gx_getI C hG na75 e75 fgX9_126 dX9_about_75 ?_
        cases Option.some.inj h
        exact gx_reti C hG hS dX9_about_78
      replace h := it_neg hc2 h
      by_cases hc3 : x2 = 3
      · replace h := it_pos hc3 h
        refine lv_tableIn (tgt := 79) (off := 52) hx hb dX9_about_27 (by rw [hc3]; decide) (by rw [hc3]; decide) (by rw [hc3]; rfl) (by decide) ?_
        refine gx_aload_n (r := r2) hx hb dX9_about_79 rfl (lv_at hl 0 rfl) ?_
        obtain ⟨a80, na80, h⟩ := ob h
        obtain ⟨v80, e80, h⟩ := ob h
        refine gx_getI C hG na80 e80 fgX9_135 dX9_about_80 ?_
        cases Option.some.inj h
        exact gx_reti C hG hS dX9_about_83
      replace h := it_neg hc3 h
      by_cases hc4 : x2 = 4
      · replace h := it_pos hc4 h
        refine lv_tableIn (tgt := 84) (off := 57) hx hb dX9_about_27 (by rw [hc4]; decide) (by rw [hc4]; decide) (by rw [hc4]; rfl) (by decide) ?_
        refine gx_aload_n (r := r2) hx hb dX9_about_84 rfl (lv_at hl 0 rfl) ?_
        obtain ⟨a85, na85, h⟩ := ob h
        obtain ⟨v85, e85, h⟩ := ob h
        refine gx_getI C hG na85 e85 fgX9_138 dX9_about_85 ?_
        cases Option.some.inj h
        exact gx_reti C hG hS dX9_about_88
      replace h := it_neg hc4 h
      by_cases hc5 : x2 = 5
      · replace h := it_pos hc5 h
        refine lv_tableIn (tgt := 89) (off := 62) hx hb dX9_about_27 (by rw [hc5]; decide) (by rw [hc5]; decide) (by rw [hc5]; rfl) (by decide) ?_
        refine gx_aload_n (r := r2) hx hb dX9_about_89 rfl (lv_at hl 0 rfl) ?_
        obtain ⟨a90, na90, h⟩ := ob h
        obtain ⟨v90, e90, h⟩ := ob h
        refine gx_getI C hG na90 e90 fgX9_141 dX9_about_90 ?_
        cases Option.some.inj h
        exact gx_reti C hG hS dX9_about_93
      replace h := it_neg hc5 h
      have hn0 := lv_neT hc0 (show (0 : Int32).toInt = 0 by decide)
      have hn1 := lv_neT hc1 (show (1 : Int32).toInt = 1 by decide)
      have hn2 := lv_neT hc2 (show (2 : Int32).toInt = 2 by decide)
      have hn3 := lv_neT hc3 (show (3 : Int32).toInt = 3 by decide)
      have hn4 := lv_neT hc4 (show (4 : Int32).toInt = 4 by decide)
      have hn5 := lv_neT hc5 (show (5 : Int32).toInt = 5 by decide)
      refine lv_tableOut (tgt := 94) hx hb dX9_about_27 (by omega) (by decide) ?_
      refine gx_aload_n (r := r2) hx hb dX9_about_94 rfl (lv_at hl 0 rfl) ?_
      obtain ⟨a95, na95, h⟩ := ob h
      obtain ⟨v95, e95, h⟩ := ob h
      refine gx_getR C hG na95 e95 fgX9_129 dX9_about_95 ?_
      refine lv_iload_n hx hb dX9_about_98 rfl (lv_at hl 3 rfl) ?_
      refine lv_bipush (v := 6) hx hb dX9_about_99 (by decide) ?_
      refine lv_isub hx hb dX9_about_101 ?_
      obtain ⟨a102, na102, h⟩ := ob h
      obtain ⟨v102, e102, h⟩ := ob h
      refine gx_iald C hG na102 e102 dX9_about_102 ?_
      cases Option.some.inj h
      exact gx_reti C hG hS dX9_about_103
    · replace h := it_pos hc h
      refine gx_aload_n (r := (some x0)) hx hb dX9_about_20 rfl (lv_at hl 1 rfl) ?_
      refine lv_iconst (v := 1) hx hb dX9_about_21 (by decide) ?_
      obtain ⟨_, eo22, h⟩ := ob h
      obtain ⟨r22, u22, e22, h⟩ := obI h
      refine gx_cV C hG hS [.int (1 : Int32)] rfl eo22 (tX9_finding e22) qcX9_89 ⟨rfl, rfl, Nat.le_of_ble_eq_true rfl, Nat.le_of_ble_eq_true rfl⟩ ⟨Nat.zero_le _, Nat.zero_le _⟩ rfl hl.1 rfl (Nat.le_of_ble_eq_true rfl) (st1 := [.int r22]) rfl dX9_about_22 (fun H locs hG hS => ?_)
      cases Option.some.inj h
      exact gx_reti C hG hS dX9_about_25
theorem tX9_about {Γ : gEnv} {N : Nat} {x0 : Nat} {x1 : Int32} {x2 : Int32} {u v : gM} {r : Int32} (h : fX9_about x0 x1 x2 u = some (r, v)) : Met l yX9_about (Cond.code yX9_about cX9_about 4 (some .int) :: gW) rmX9_about (va_Pc [va_rf (some x0), .int x1, .int x2] (gPre Γ u N)) (gQ Γ (some (.int r)) v N) 0 0 Γ.2.2.1 :=
  gx_met (nm := "about") ⟨by decide +kernel, rfl, rfl⟩ (Nat.le_of_ble_eq_true rfl) (fun p e s m below meth c ls C hG hl => wX9_about C h hG va_S.rf hl)
abbrev rmX9_day (a b : Nat) : Room := { frames := 4, cells := a, slots := b, locals := 78 }
def fX9_day_61 (x0 : Nat) (x2 : Int32) (x3 : Int32) (u : gN) (k29 : Nat → Int32 → Int32 → gN → Option (Int32 × gN)) : Option (Int32 × gN) :=
  k29 x0 x2 (x3 + (1 : Int32)) u
set_option maxRecDepth 20000 in
theorem moX9_day_61 {x0 : Nat} {x2 : Int32} {x3 : Int32} {u : gN} {res : Int32 × gN} {k29 : Nat → Int32 → Int32 → gN → Option (Int32 × gN)} (hm29 : ∀ (x0 : Nat) (x2 : Int32) (x3 : Int32) (u : gN), k29 x0 x2 x3 u = some res → gLe u res.2) (h : fX9_day_61 x0 x2 x3 u k29 = some res) : gLe u res.2 := by
  unfold fX9_day_61 at h
  exact hm29 _ _ _ _ h
set_option maxHeartbeats 4000000 in
set_option maxRecDepth 20000 in
theorem wX9_day_61  (C : gC p s m args meth c cX9_day 4 (some .int) RX9 "day" Γ){x0 : Nat} {x2 : Int32} {x3 : Int32} {u : gN} {res : Int32 × gN} {k29 : Nat → Int32 → Int32 → gN → Option (Int32 × gN)} (hk29 : ∀ (x0 : Nat) (x2 : Int32) (x3 : Int32) (u : gN) (H : Heap) (locs : List Loc) (ls : Array Slot), k29 x0 x2 x3 u = some res → gAn Γ sB u H → va_S Γ.2.2.1 s.heap H locs → lv_has ls 4 [(0, va_rf (some x0)), (2, .int x2), (3, .int x3)] → W p l e (rmX9_day (res.2.2.1 - s.heap.size) (res.2.2.2 - sB)) s m args below meth c H locs (u.2.1 - s.heap.size) (u.2.2 - sB) (MQ below (gQ Γ (some (.int res.1)) res.2.1 res.2.2.1) args s (res.2.2.1 - s.heap.size) (res.2.2.2 - sB) Γ.2.2.1) (F0 m 29 ls [])) (hm29 : ∀ (x0 : Nat) (x2 : Int32) (x3 : Int32) (u : gN), k29 x0 x2 x3 u = some res → gLe u res.2) (h : fX9_day_61 x0 x2 x3 u k29 = some res) {H : Heap} {locs : List Loc} (hG : gAn Γ sB u H) (hS : va_S Γ.2.2.1 s.heap H locs) {ls : Array Slot} (hl : lv_has ls 4 [(0, va_rf (some x0)), (2, .int x2), (3, .int x3)]) : W p l e (rmX9_day (res.2.2.1 - s.heap.size) (res.2.2.2 - sB)) s m args below meth c H locs (u.2.1 - s.heap.size) (u.2.2 - sB) (MQ below (gQ Γ (some (.int res.1)) res.2.1 res.2.2.1) args s (res.2.2.1 - s.heap.size) (res.2.2.2 - sB) Γ.2.2.1) (F0 m 61 ls []) := by
  have hx := C.1
  have hb := C.2.1
  have hm := moX9_day_61 hm29 h
  unfold fX9_day_61 at h
  refine lv_iinc (v := x3 + (1 : Int32)) (lv' := [(3, .int (x3 + (1 : Int32))), (0, va_rf (some x0)), (2, .int x2)]) hx hb dX9_day_61 hl (k := 2) rfl rfl (by decide) rfl (fun ls hl => ?_)
  refine lv_goto (tgt := 29) hx hb dX9_day_64 (by decide) ?_
  exact hk29 _ _ _ _ _ _ _ h hG hS (lv_sub hl [1, 2, 0] rfl)
def fX9_day_55 (x0 : Nat) (x2 : Int32) (x3 : Int32) (s0 : Int32) (u : gN) (k29 : Nat → Int32 → Int32 → gN → Option (Int32 × gN)) : Option (Int32 × gN) :=
  if s0 = 0 then (
    fX9_day_61 x0 x2 x3 u k29
  ) else (
    fX9_day_61 x0 (x2 + (1 : Int32)) x3 u k29
  )
set_option maxRecDepth 20000 in
theorem moX9_day_55 {x0 : Nat} {x2 : Int32} {x3 : Int32} {s0 : Int32} {u : gN} {res : Int32 × gN} {k29 : Nat → Int32 → Int32 → gN → Option (Int32 × gN)} (hm29 : ∀ (x0 : Nat) (x2 : Int32) (x3 : Int32) (u : gN), k29 x0 x2 x3 u = some res → gLe u res.2) (h : fX9_day_55 x0 x2 x3 s0 u k29 = some res) : gLe u res.2 := by
  unfold fX9_day_55 at h
  by_cases hc : s0 = 0
  · replace h := it_pos hc h
    exact moX9_day_61 hm29 h
  · replace h := it_neg hc h
    exact moX9_day_61 hm29 h
set_option maxHeartbeats 4000000 in
set_option maxRecDepth 20000 in
theorem wX9_day_55  (C : gC p s m args meth c cX9_day 4 (some .int) RX9 "day" Γ){x0 : Nat} {x2 : Int32} {x3 : Int32} {s0 : Int32} {u : gN} {res : Int32 × gN} {k29 : Nat → Int32 → Int32 → gN → Option (Int32 × gN)} (hk29 : ∀ (x0 : Nat) (x2 : Int32) (x3 : Int32) (u : gN) (H : Heap) (locs : List Loc) (ls : Array Slot), k29 x0 x2 x3 u = some res → gAn Γ sB u H → va_S Γ.2.2.1 s.heap H locs → lv_has ls 4 [(0, va_rf (some x0)), (2, .int x2), (3, .int x3)] → W p l e (rmX9_day (res.2.2.1 - s.heap.size) (res.2.2.2 - sB)) s m args below meth c H locs (u.2.1 - s.heap.size) (u.2.2 - sB) (MQ below (gQ Γ (some (.int res.1)) res.2.1 res.2.2.1) args s (res.2.2.1 - s.heap.size) (res.2.2.2 - sB) Γ.2.2.1) (F0 m 29 ls [])) (hm29 : ∀ (x0 : Nat) (x2 : Int32) (x3 : Int32) (u : gN), k29 x0 x2 x3 u = some res → gLe u res.2) (h : fX9_day_55 x0 x2 x3 s0 u k29 = some res) {H : Heap} {locs : List Loc} (hG : gAn Γ sB u H) (hS : va_S Γ.2.2.1 s.heap H locs) {ls : Array Slot} (hl : lv_has ls 4 [(0, va_rf (some x0)), (2, .int x2), (3, .int x3)]) : W p l e (rmX9_day (res.2.2.1 - s.heap.size) (res.2.2.2 - sB)) s m args below meth c H locs (u.2.1 - s.heap.size) (u.2.2 - sB) (MQ below (gQ Γ (some (.int res.1)) res.2.1 res.2.2.1) args s (res.2.2.1 - s.heap.size) (res.2.2.2 - sB) Γ.2.2.1) (F0 m 55 ls [.int s0]) := by
  have hx := C.1
  have hb := C.2.1
  have hm := moX9_day_55 hm29 h
  unfold fX9_day_55 at h
  refine lv_if_eq (tgt := 61) hx hb dX9_day_55 (by decide) (fun hc => ?_) (fun hc => ?_)
  · replace h := it_pos hc h
    exact wX9_day_61 C hk29 hm29 h hG hS (lv_sub hl [0, 1, 2] rfl)
  · replace h := it_neg hc h
    refine lv_iinc (v := x2 + (1 : Int32)) (lv' := [(2, .int (x2 + (1 : Int32))), (0, va_rf (some x0)), (3, .int x3)]) hx hb dX9_day_58 hl (k := 1) rfl rfl (by decide) rfl (fun ls hl => ?_)
    exact wX9_day_61 C hk29 hm29 h hG hS (lv_sub hl [1, 0, 2] rfl)
def fX9_day_29_b (x0 : Nat) (x2 : Int32) (x3 : Int32) (u : gN) (k29 : Nat → Int32 → Int32 → gN → Option (Int32 × gN)) : Option (Int32 × gN) :=
  (gR [10] 0 u.1 x0).bind fun v31 =>
  (v31).bind fun a34 =>
  (gO [0] u.1 a34).bind fun _ =>
  bI (cN (fJx4a65c_size_8abf5 a34 u.1) u) fun r34 u34 =>
  if r34 ≤ x3 then (
    some (x2, u34)
  ) else (
    (gR [10] 0 u34.1 x0).bind fun v42 =>
    (v42).bind fun a46 =>
    (gO [0] u34.1 a46).bind fun _ =>
    bI (cN (fJx4a65c_get_915e3 a46 x3 u34.1) u34) fun r46 u46 =>
    (kC [9, 6] u46.1 r46).bind fun _ =>
    (gO [10] u46.1 x0).bind fun _ =>
    bI (fX9_spoilIfOld x0 r46 u46) fun r52 u52 =>
    fX9_day_55 x0 x2 x3 r52 u52 k29
  )
set_option maxRecDepth 20000 in
theorem moX9_day_29_b {x0 : Nat} {x2 : Int32} {x3 : Int32} {u : gN} {res : Int32 × gN} {k29 : Nat → Int32 → Int32 → gN → Option (Int32 × gN)} (hm29 : ∀ (x0 : Nat) (x2 : Int32) (x3 : Int32) (u : gN), k29 x0 x2 x3 u = some res → gLe u res.2) (h : fX9_day_29_b x0 x2 x3 u k29 = some res) : gLe u res.2 := by
  unfold fX9_day_29_b at h
  obtain ⟨v31, e31, h⟩ := ob h
  obtain ⟨a34, na34, h⟩ := ob h
  obtain ⟨_, eo34, h⟩ := ob h
  obtain ⟨r34, u34, e34, h⟩ := obI h
  refine gLe.tr (cN_le e34) ?_
  by_cases hc : r34 ≤ x3
  · replace h := it_pos hc h
    cases Option.some.inj h
    exact gLe.rf _
  · replace h := it_neg hc h
    obtain ⟨v42, e42, h⟩ := ob h
    obtain ⟨a46, na46, h⟩ := ob h
    obtain ⟨_, eo46, h⟩ := ob h
    obtain ⟨r46, u46, e46, h⟩ := obI h
    refine gLe.tr (cN_le e46) ?_
    obtain ⟨_, e49, h⟩ := ob h
    obtain ⟨_, eo52, h⟩ := ob h
    obtain ⟨r52, u52, e52, h⟩ := obI h
    refine gLe.tr (moX9_spoilIfOld e52) ?_
    exact moX9_day_55 hm29 h
set_option maxHeartbeats 4000000 in
set_option maxRecDepth 20000 in
theorem wX9_day_29_b  (C : gC p s m args meth c cX9_day 4 (some .int) RX9 "day" Γ){x0 : Nat} {x2 : Int32} {x3 : Int32} {u : gN} {res : Int32 × gN} {k29 : Nat → Int32 → Int32 → gN → Option (Int32 × gN)} (hk29 : ∀ (x0 : Nat) (x2 : Int32) (x3 : Int32) (u : gN) (H : Heap) (locs : List Loc) (ls : Array Slot), k29 x0 x2 x3 u = some res → gAn Γ sB u H → va_S Γ.2.2.1 s.heap H locs → lv_has ls 4 [(0, va_rf (some x0)), (2, .int x2), (3, .int x3)] → W p l e (rmX9_day (res.2.2.1 - s.heap.size) (res.2.2.2 - sB)) s m args below meth c H locs (u.2.1 - s.heap.size) (u.2.2 - sB) (MQ below (gQ Γ (some (.int res.1)) res.2.1 res.2.2.1) args s (res.2.2.1 - s.heap.size) (res.2.2.2 - sB) Γ.2.2.1) (F0 m 29 ls [])) (hm29 : ∀ (x0 : Nat) (x2 : Int32) (x3 : Int32) (u : gN), k29 x0 x2 x3 u = some res → gLe u res.2) (h : fX9_day_29_b x0 x2 x3 u k29 = some res) {H : Heap} {locs : List Loc} (hG : gAn Γ sB u H) (hS : va_S Γ.2.2.1 s.heap H locs) {ls : Array Slot} (hl : lv_has ls 4 [(0, va_rf (some x0)), (2, .int x2), (3, .int x3)]) : W p l e (rmX9_day (res.2.2.1 - s.heap.size) (res.2.2.2 - sB)) s m args below meth c H locs (u.2.1 - s.heap.size) (u.2.2 - sB) (MQ below (gQ Γ (some (.int res.1)) res.2.1 res.2.2.1) args s (res.2.2.1 - s.heap.size) (res.2.2.2 - sB) Γ.2.2.1) (F0 m 29 ls []) := by
  have hx := C.1
  have hb := C.2.1
  have hm := moX9_day_29_b hm29 h
  unfold fX9_day_29_b at h
  refine lv_iload_n hx hb dX9_day_29 rfl (lv_at hl 2 rfl) ?_
  refine gx_aload_n (r := (some x0)) hx hb dX9_day_30 rfl (lv_at hl 0 rfl) ?_
  obtain ⟨v31, e31, h⟩ := ob h
  refine gx_getR C hG.1 rfl e31 fgX9_10 dX9_day_31 ?_
  obtain ⟨a34, na34, h⟩ := ob h
  obtain ⟨_, eo34, h⟩ := ob h
  obtain ⟨r34, u34, e34, h⟩ := obI h
  obtain ⟨g34, eg34, ev34⟩ := cN_inv e34
  refine gx_cV C hG.1 hS [] na34 eo34 (tJx4a65c_size_8abf5 eg34) qcX9_93 ⟨rfl, rfl, Nat.le_of_ble_eq_true rfl, Nat.le_of_ble_eq_true rfl⟩ ⟨Nat.sub_le_sub_right hm.1 _, Nat.sub_le_sub_right hm.2 _⟩ rfl hl.1 rfl (Nat.le_of_ble_eq_true rfl) (st1 := [.int r34, .int x3]) rfl dX9_day_34 (fun H locs hg hS2 => gy_w (H0 := _) hG ev34 hg (fun hG => ?_))
  replace hS := hS2
  replace hm : gLe u34 res.2 := by rw [ev34]; exact hm
  refine lv_icmp_ge (tgt := 67) hx hb dX9_day_37 (by decide) (fun hc => ?_) (fun hc => ?_)
  · replace h := it_pos hc h
    refine lv_iload_n hx hb dX9_day_67 rfl (lv_at hl 1 rfl) ?_
    cases Option.some.inj h
    exact gx_reti C hG.1 hS dX9_day_68
  · replace h := it_neg hc h
    refine gx_aload_n (r := (some x0)) hx hb dX9_day_40 rfl (lv_at hl 0 rfl) ?_
    refine gx_aload_n (r := (some x0)) hx hb dX9_day_41 rfl (lv_at hl 0 rfl) ?_
    obtain ⟨v42, e42, h⟩ := ob h
    refine gx_getR C hG.1 rfl e42 fgX9_10 dX9_day_42 ?_
    refine lv_iload_n hx hb dX9_day_45 rfl (lv_at hl 2 rfl) ?_
    obtain ⟨a46, na46, h⟩ := ob h
    obtain ⟨_, eo46, h⟩ := ob h
    obtain ⟨r46, u46, e46, h⟩ := obI h
    obtain ⟨g46, eg46, ev46⟩ := cN_inv e46
    refine gx_cV C hG.1 hS [.int x3] na46 eo46 (tJx4a65c_get_915e3 eg46) qcX9_144 ⟨rfl, rfl, Nat.le_of_ble_eq_true rfl, Nat.le_of_ble_eq_true rfl⟩ ⟨Nat.sub_le_sub_right hm.1 _, Nat.sub_le_sub_right hm.2 _⟩ rfl hl.1 rfl (Nat.le_of_ble_eq_true rfl) (st1 := [va_rf r46, va_rf (some x0)]) rfl dX9_day_46 (fun H locs hg hS2 => gy_w (H0 := _) hG ev46 hg (fun hG => ?_))
    replace hS := hS2
    replace hm : gLe u46 res.2 := by rw [ev46]; exact hm
    obtain ⟨_, e49, h⟩ := ob h
    refine gx_cast C hG.1 e49 ckX9_102 dX9_day_49 ?_
    obtain ⟨_, eo52, h⟩ := ob h
    obtain ⟨r52, u52, e52, h⟩ := obI h
    have hle := moX9_spoilIfOld e52
    have hm2 : gLe u52 res.2 := by
      exact moX9_day_55 hm29 h
    refine gx_cV C hG.1 hS [va_rf r46] rfl eo52 (tX9_spoilIfOld e52) qcX9_111 ⟨rfl, rfl, Nat.le_of_ble_eq_true rfl, Nat.le_of_ble_eq_true rfl⟩ (gy_room hG hS hle ⟨Nat.sub_le_sub_right hm2.1 _, Nat.sub_le_sub_right hm2.2 _⟩) rfl hl.1 rfl (Nat.le_of_ble_eq_true rfl) (st1 := [.int r52]) rfl dX9_day_52 (fun H locs hg hS2 => gy_ret hG hS hle hg (fun hG => ?_))
    replace hS := hS2
    exact wX9_day_55 C hk29 hm29 h hG hS (lv_sub hl [0, 1, 2] rfl)
def fX9_day_29 : Nat → Nat → Int32 → Int32 → gN → Option (Int32 × gN)
  | 0 => fun _ _ _ _ => none
  | n + 1 => fun x0 x2 x3 u => fX9_day_29_b x0 x2 x3 u (fX9_day_29 n) 
theorem moX9_day_29 {res : Int32 × gN} (n : Nat) : ∀ {x0 : Nat} {x2 : Int32} {x3 : Int32} {u : gN}, fX9_day_29 n x0 x2 x3 u = some res → gLe u res.2 := by
  induction n with
  | zero => intro _ _ _ _ h; cases (show (none : Option (Int32 × gN)) = some res from h)
  | succ n ih => intro _ _ _ _ h; exact moX9_day_29_b (fun _ _ _ _ h => ih h) h
theorem wX9_day_29 (C : gC p s m args meth c cX9_day 4 (some .int) RX9 "day" Γ) {res : Int32 × gN} (n : Nat) : ∀ {x0 : Nat} {x2 : Int32} {x3 : Int32} {u : gN} {H : Heap} {locs : List Loc} {ls : Array Slot}, fX9_day_29 n x0 x2 x3 u = some res → gAn Γ sB u H → va_S Γ.2.2.1 s.heap H locs → lv_has ls 4 [(0, va_rf (some x0)), (2, .int x2), (3, .int x3)] → W p l e (rmX9_day (res.2.2.1 - s.heap.size) (res.2.2.2 - sB)) s m args below meth c H locs (u.2.1 - s.heap.size) (u.2.2 - sB) (MQ below (gQ Γ (some (.int res.1)) res.2.1 res.2.2.1) args s (res.2.2.1 - s.heap.size) (res.2.2.2 - sB) Γ.2.2.1) (F0 m 29 ls []) := by
  induction n with
  | zero => intro _ _ _ _ _ _ _ h _ _ _; cases (show (none : Option (Int32 × gN)) = some res from h)
  | succ n ih => intro _ _ _ _ _ _ _ h hG hS hl; exact wX9_day_29_b C (fun _ _ _ _ _ _ _ h hG hS hl => ih h hG hS hl) (fun _ _ _ _ h => moX9_day_29 n h) h hG hS hl
def fX9_day (x0 : Nat) (x1 : Int32) (u : gN) : Option (Int32 × gN) :=
  (gI [10] 13 u.1 x0).bind fun v2 =>
  bI (cN (fX9_within x1 v2 (9999 : Int32) u.1) u) fun r8 u8 =>
  if r8 = 0 then (
    (gO [10] u8.1 x0).bind fun _ =>
    bI (cN (fX9_finding x0 (1 : Int32) u8.1) u8) fun r16 u16 =>
    some (r16, u16)
  ) else (
    (wN (pV [10] 13 (.int x1) u8.1 x0) u8).bind fun u22 =>
    fX9_day_29  FU x0 (0 : Int32) (0 : Int32) u22
  )
set_option maxRecDepth 20000 in
theorem moX9_day {x0 : Nat} {x1 : Int32} {u : gN} {res : Int32 × gN} (h : fX9_day x0 x1 u = some res) : gLe u res.2 := by
  unfold fX9_day at h
  obtain ⟨v2, e2, h⟩ := ob h
  obtain ⟨r8, u8, e8, h⟩ := obI h
  refine gLe.tr (cN_le e8) ?_
  by_cases hc : r8 = 0
  · replace h := it_pos hc h
    obtain ⟨_, eo16, h⟩ := ob h
    obtain ⟨r16, u16, e16, h⟩ := obI h
    refine gLe.tr (cN_le e16) ?_
    cases Option.some.inj h
    exact gLe.rf _
  · replace h := it_neg hc h
    obtain ⟨u22, e22, h⟩ := ob h
    refine gLe.tr (wN_le e22) ?_
    exact moX9_day_29  FU h
set_option maxHeartbeats 4000000 in
set_option maxRecDepth 20000 in
theorem wX9_day  (C : gC p s m args meth c cX9_day 4 (some .int) RX9 "day" Γ){x0 : Nat} {x1 : Int32} {u : gN} {res : Int32 × gN} (h : fX9_day x0 x1 u = some res) {H : Heap} {locs : List Loc} (hG : gAn Γ sB u H) (hS : va_S Γ.2.2.1 s.heap H locs) {ls : Array Slot} (hl : lv_has ls 4 [(0, va_rf (some x0)), (1, .int x1)]) : W p l e (rmX9_day (res.2.2.1 - s.heap.size) (res.2.2.2 - sB)) s m args below meth c H locs (u.2.1 - s.heap.size) (u.2.2 - sB) (MQ below (gQ Γ (some (.int res.1)) res.2.1 res.2.2.1) args s (res.2.2.1 - s.heap.size) (res.2.2.2 - sB) Γ.2.2.1) (F0 m 0 ls []) := by
  have hx := C.1
  have hb := C.2.1
  have hm := moX9_day h
  unfold fX9_day at h
  refine lv_iload_n hx hb dX9_day_0 rfl (lv_at hl 1 rfl) ?_
  refine gx_aload_n (r := (some x0)) hx hb dX9_day_1 rfl (lv_at hl 0 rfl) ?_
  obtain ⟨v2, e2, h⟩ := ob h
  refine gx_getI C hG.1 rfl e2 fgX9_70 dX9_day_2 ?_
  refine lv_sipush (v := 9999) hx hb dX9_day_5 (by decide) ?_
  obtain ⟨r8, u8, e8, h⟩ := obI h
  obtain ⟨g8, eg8, ev8⟩ := cN_inv e8
  refine gx_cS C hG.1 hS [.int x1, .int v2, .int (9999 : Int32)] (tX9_within eg8) qcX9_85 ⟨rfl, rfl, Nat.le_of_ble_eq_true rfl, Nat.le_of_ble_eq_true rfl⟩ ⟨Nat.sub_le_sub_right hm.1 _, Nat.sub_le_sub_right hm.2 _⟩ rfl hl.1 rfl (Nat.le_of_ble_eq_true rfl) (st1 := [.int r8]) rfl dX9_day_8 (fun H locs hg hS2 => gy_w (H0 := _) hG ev8 hg (fun hG => ?_))
  replace hS := hS2
  replace hm : gLe u8 res.2 := by rw [ev8]; exact hm
  refine lv_if_ne (tgt := 20) hx hb dX9_day_11 (by decide) (fun hc => ?_) (fun hc => ?_)
  · replace h := it_neg hc h
    refine gx_aload_n (r := (some x0)) hx hb dX9_day_20 rfl (lv_at hl 0 rfl) ?_
    refine lv_iload_n hx hb dX9_day_21 rfl (lv_at hl 1 rfl) ?_
    obtain ⟨u22, e22, h⟩ := ob h
    obtain ⟨g22, eg22, ev22⟩ := wN_inv e22
    replace hm : gLe u22 res.2 := by rw [ev22]; exact hm
    refine gx_put C hG.1 hS rfl eg22 fgX9_70 fpX9_70 (fun q => by cases q) rfl rfl dX9_day_22 (fun H locs hg hS => gy_w hG ev22 hg (fun hG => ?_))
    refine lv_iconst (v := 0) hx hb dX9_day_25 (by decide) ?_
    refine lv_istore_n (i := 2) (lv' := [(2, .int (0 : Int32)), (0, va_rf (some x0)), (1, .int x1)]) hx hb dX9_day_26 rfl hl (by decide) rfl (fun ls hl => ?_)
    refine lv_iconst (v := 0) hx hb dX9_day_27 (by decide) ?_
    refine lv_istore_n (i := 3) (lv' := [(3, .int (0 : Int32)), (2, .int (0 : Int32)), (0, va_rf (some x0)), (1, .int x1)]) hx hb dX9_day_28 rfl hl (by decide) rfl (fun ls hl => ?_)
    exact wX9_day_29 C  FU h hG hS (lv_sub hl [2, 1, 0] rfl)
  · replace h := it_pos hc h
    refine gx_aload_n (r := (some x0)) hx hb dX9_day_14 rfl (lv_at hl 0 rfl) ?_
    refine lv_iconst (v := 1) hx hb dX9_day_15 (by decide) ?_
    obtain ⟨_, eo16, h⟩ := ob h
    obtain ⟨r16, u16, e16, h⟩ := obI h
    obtain ⟨g16, eg16, ev16⟩ := cN_inv e16
    refine gx_cV C hG.1 hS [.int (1 : Int32)] rfl eo16 (tX9_finding eg16) qcX9_89 ⟨rfl, rfl, Nat.le_of_ble_eq_true rfl, Nat.le_of_ble_eq_true rfl⟩ ⟨Nat.sub_le_sub_right hm.1 _, Nat.sub_le_sub_right hm.2 _⟩ rfl hl.1 rfl (Nat.le_of_ble_eq_true rfl) (st1 := [.int r16]) rfl dX9_day_16 (fun H locs hg hS2 => gy_w (H0 := _) hG ev16 hg (fun hG => ?_))
    replace hS := hS2
    replace hm : gLe u16 res.2 := by rw [ev16]; exact hm
    cases Option.some.inj h
    exact gx_reti C hG.1 hS dX9_day_19
theorem tX9_day {Γ : gEnv} {x0 : Nat} {x1 : Int32} {u v : gN} {r : Int32} (h : fX9_day x0 x1 u = some (r, v)) : Met l yX9_day (Cond.code yX9_day cX9_day 4 (some .int) :: gW) (rmX9_day (v.2.1 - u.2.1) (v.2.2 - u.2.2)) (va_Pc [va_rf (some x0), .int x1] (gPre Γ u.1 u.2.1)) (gQ Γ (some (.int r)) v.1 v.2.1) (v.2.1 - u.2.1) (v.2.2 - u.2.2) Γ.2.2.1 := by
  refine gx_met (nm := "day") ⟨by decide +kernel, rfl, rfl⟩ (Nat.le_of_ble_eq_true rfl) (fun p e s m below meth c ls C hG hl => ?_)
  have hN : s.heap.size = u.2.1 := hG.1
  have K := wX9_day (l := l) (e := e) (below := below) (sB := u.2.2) C h ⟨hG, Nat.le_refl _⟩ va_S.rf hl
  rw [hN, Nat.sub_self, Nat.sub_self] at K
  exact K
end
