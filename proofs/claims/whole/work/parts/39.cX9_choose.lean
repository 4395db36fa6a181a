section
variable {p : Program} {l : Launch} {e : Env} {s : State} {m : MethodId} {args : Array Value} {below : List Frame} {meth : Method} {c : Code} {Γ : gEnv} {N sB : Nat}
abbrev rmX9_choose (a b : Nat) : Room := { frames := 7, cells := a, slots := b, locals := 171 }
def fX9_choose_47 (z : Nat → Nat) (x0 : Nat) (x1 : Int32) (x2 : Int32) (u : gN) (k9 : Nat → Int32 → Int32 → gN → Option (gN)) : Option (gN) :=
  k9 x0 x1 (x2 + (1 : Int32)) u
set_option maxRecDepth 20000 in
theorem moX9_choose_47 {z : Nat → Nat} {x0 : Nat} {x1 : Int32} {x2 : Int32} {u : gN} {res : gN} {k9 : Nat → Int32 → Int32 → gN → Option (gN)} (hm9 : ∀ (x0 : Nat) (x1 : Int32) (x2 : Int32) (u : gN), k9 x0 x1 x2 u = some res → gLe u res) (h : fX9_choose_47 z x0 x1 x2 u k9 = some res) : gLe u res := by
  unfold fX9_choose_47 at h
  exact hm9 _ _ _ _ h
set_option maxHeartbeats 4000000 in
set_option maxRecDepth 20000 in
theorem wX9_choose_47 {z : Nat → Nat}  (C : gC p s m args meth c cX9_choose 3 none RX9 "choose" Γ)(hz : Γ.2.2.2 = z) {x0 : Nat} {x1 : Int32} {x2 : Int32} {u : gN} {res : gN} {k9 : Nat → Int32 → Int32 → gN → Option (gN)} (hk9 : ∀ (x0 : Nat) (x1 : Int32) (x2 : Int32) (u : gN) (H : Heap) (locs : List Loc) (ls : Array Slot), k9 x0 x1 x2 u = some res → gAn Γ sB u H → va_S Γ.2.2.1 s.heap H locs → lv_has ls 3 [(0, va_rf (some x0)), (1, .int x1), (2, .int x2)] → W p l e (rmX9_choose (res.2.1 - s.heap.size) (res.2.2 - sB)) s m args below meth c H locs (u.2.1 - s.heap.size) (u.2.2 - sB) (MQ below (gQ Γ none res.1 res.2.1) args s (res.2.1 - s.heap.size) (res.2.2 - sB) Γ.2.2.1) (F0 m 9 ls [])) (hm9 : ∀ (x0 : Nat) (x1 : Int32) (x2 : Int32) (u : gN), k9 x0 x1 x2 u = some res → gLe u res) (h : fX9_choose_47 z x0 x1 x2 u k9 = some res) {H : Heap} {locs : List Loc} (hG : gAn Γ sB u H) (hS : va_S Γ.2.2.1 s.heap H locs) {ls : Array Slot} (hl : lv_has ls 3 [(0, va_rf (some x0)), (1, .int x1), (2, .int x2)]) : W p l e (rmX9_choose (res.2.1 - s.heap.size) (res.2.2 - sB)) s m args below meth c H locs (u.2.1 - s.heap.size) (u.2.2 - sB) (MQ below (gQ Γ none res.1 res.2.1) args s (res.2.1 - s.heap.size) (res.2.2 - sB) Γ.2.2.1) (F0 m 47 ls []) := by
  have hx := C.1
  have hb := C.2.1
  have hm := moX9_choose_47 hm9 h
  unfold fX9_choose_47 at h
  refine lv_iinc (v := x2 + (1 : Int32)) (lv' := [(2, .int (x2 + (1 : Int32))), (0, va_rf (some x0)), (1, .int x1)]) hx hb dX9_choose_47 hl (k := 2) rfl rfl (by decide) rfl (fun ls hl => ?_)
  refine lv_goto (tgt := 9) hx hb dX9_choose_50 (by decide) ?_
  exact hk9 _ _ _ _ _ _ _ h hG hS (lv_sub hl [1, 2, 0] rfl)
def fX9_choose_46 (z : Nat → Nat) (x0 : Nat) (x1 : Int32) (x2 : Int32) (s0 : Int32) (u : gN) (k9 : Nat → Int32 → Int32 → gN → Option (gN)) : Option (gN) :=
  fX9_choose_47 z x0 x1 x2 u k9
set_option maxRecDepth 20000 in
theorem moX9_choose_46 {z : Nat → Nat} {x0 : Nat} {x1 : Int32} {x2 : Int32} {s0 : Int32} {u : gN} {res : gN} {k9 : Nat → Int32 → Int32 → gN → Option (gN)} (hm9 : ∀ (x0 : Nat) (x1 : Int32) (x2 : Int32) (u : gN), k9 x0 x1 x2 u = some res → gLe u res) (h : fX9_choose_46 z x0 x1 x2 s0 u k9 = some res) : gLe u res := by
  unfold fX9_choose_46 at h
  exact moX9_choose_47 hm9 h
set_option maxHeartbeats 4000000 in
set_option maxRecDepth 20000 in
theorem wX9_choose_46 {z : Nat → Nat}  (C : gC p s m args meth c cX9_choose 3 none RX9 "choose" Γ)(hz : Γ.2.2.2 = z) {x0 : Nat} {x1 : Int32} {x2 : Int32} {s0 : Int32} {u : gN} {res : gN} {k9 : Nat → Int32 → Int32 → gN → Option (gN)} (hk9 : ∀ (x0 : Nat) (x1 : Int32) (x2 : Int32) (u : gN) (H : Heap) (locs : List Loc) (ls : Array Slot), k9 x0 x1 x2 u = some res → gAn Γ sB u H → va_S Γ.2.2.1 s.heap H locs → lv_has ls 3 [(0, va_rf (some x0)), (1, .int x1), (2, .int x2)] → W p l e (rmX9_choose (res.2.1 - s.heap.size) (res.2.2 - sB)) s m args below meth c H locs (u.2.1 - s.heap.size) (u.2.2 - sB) (MQ below (gQ Γ none res.1 res.2.1) args s (res.2.1 - s.heap.size) (res.2.2 - sB) Γ.2.2.1) (F0 m 9 ls [])) (hm9 : ∀ (x0 : Nat) (x1 : Int32) (x2 : Int32) (u : gN), k9 x0 x1 x2 u = some res → gLe u res) (h : fX9_choose_46 z x0 x1 x2 s0 u k9 = some res) {H : Heap} {locs : List Loc} (hG : gAn Γ sB u H) (hS : va_S Γ.2.2.1 s.heap H locs) {ls : Array Slot} (hl : lv_has ls 3 [(0, va_rf (some x0)), (1, .int x1), (2, .int x2)]) : W p l e (rmX9_choose (res.2.1 - s.heap.size) (res.2.2 - sB)) s m args below meth c H locs (u.2.1 - s.heap.size) (u.2.2 - sB) (MQ below (gQ Γ none res.1 res.2.1) args s (res.2.1 - s.heap.size) (res.2.2 - sB) Γ.2.2.1) (F0 m 46 ls [.int s0]) := by
  have hx := C.1
  have hb := C.2.1
  have hm := moX9_choose_46 hm9 h
  unfold fX9_choose_46 at h
  refine lv_pop hx hb dX9_choose_46 (by first | rfl | exact gx_cat _) ?_
  exact wX9_choose_47 C hz hk9 hm9 h hG hS (lv_sub hl [0, 1, 2] rfl)
def fX9_choose_9_b (z : Nat → Nat) (x0 : Nat) (x1 : Int32) (x2 : Int32) (u : gN) (k9 : Nat → Int32 → Int32 → gN → Option (gN)) : Option (gN) :=
  (gR [10] 0 u.1 x0).bind fun v11 =>
  (v11).bind fun a14 =>
  (gO [0] u.1 a14).bind fun _ =>
  bI (cN (fJx4a65c_size_8abf5 a14 u.1) u) fun r14 u14 =>
  if r14 ≤ x2 then (
    some u14
  ) else (
    bI (cN (fX9_hasBit x1 x2 u14.1) u14) fun r22 u22 =>
    if r22 = 0 then (
      fX9_choose_47 z x0 x1 x2 u22 k9
    ) else (
      (gR [10] 7 u22.1 x0).bind fun v29 =>
      (gR [10] 0 u22.1 x0).bind fun v33 =>
      (v33).bind fun a37 =>
      (gO [0] u22.1 a37).bind fun _ =>
      bI (cN (fJx4a65c_get_915e3 a37 x2 u22.1) u22) fun r37 u37 =>
      (kC [9, 6] u37.1 r37).bind fun _ =>
      (v29).bind fun a43 =>
      (gO [0] u37.1 a43).bind fun _ =>
      bI (fJx4a65c_add_9ea2d z a43 r37 u37) fun r43 u43 =>
      fX9_choose_46 z x0 x1 x2 r43 u43 k9
    )
  )
set_option maxRecDepth 20000 in
theorem moX9_choose_9_b {z : Nat → Nat} {x0 : Nat} {x1 : Int32} {x2 : Int32} {u : gN} {res : gN} {k9 : Nat → Int32 → Int32 → gN → Option (gN)} (hm9 : ∀ (x0 : Nat) (x1 : Int32) (x2 : Int32) (u : gN), k9 x0 x1 x2 u = some res → gLe u res) (h : fX9_choose_9_b z x0 x1 x2 u k9 = some res) : gLe u res := by
  unfold fX9_choose_9_b at h
  obtain ⟨v11, e11, h⟩ := ob h
  obtain ⟨a14, na14, h⟩ := ob h
  obtain ⟨_, eo14, h⟩ := ob h
  obtain ⟨r14, u14, e14, h⟩ := obI h
  refine gLe.tr (cN_le e14) ?_
  by_cases hc : r14 ≤ x2
  · replace h := it_pos hc h
    cases Option.some.inj h
    exact gLe.rf _
  · replace h := it_neg hc h
    obtain ⟨r22, u22, e22, h⟩ := obI h
    refine gLe.tr (cN_le e22) ?_
    by_cases hc : r22 = 0
    · replace h := it_pos hc h
      exact moX9_choose_47 hm9 h
    · replace h := it_neg hc h
      obtain ⟨v29, e29, h⟩ := ob h
      obtain ⟨v33, e33, h⟩ := ob h
      obtain ⟨a37, na37, h⟩ := ob h
      obtain ⟨_, eo37, h⟩ := ob h
      obtain ⟨r37, u37, e37, h⟩ := obI h
      refine gLe.tr (cN_le e37) ?_
      obtain ⟨_, e40, h⟩ := ob h
      obtain ⟨a43, na43, h⟩ := ob h
      obtain ⟨_, eo43, h⟩ := ob h
      obtain ⟨r43, u43, e43, h⟩ := obI h
      refine gLe.tr (moJx4a65c_add_9ea2d e43) ?_
      exact moX9_choose_46 hm9 h
set_option maxHeartbeats 4000000 in
set_option maxRecDepth 20000 in
theorem wX9_choose_9_b {z : Nat → Nat}  (C : gC p s m args meth c cX9_choose 3 none RX9 "choose" Γ)(hz : Γ.2.2.2 = z) {x0 : Nat} {x1 : Int32} {x2 : Int32} {u : gN} {res : gN} {k9 : Nat → Int32 → Int32 → gN → Option (gN)} (hk9 : ∀ (x0 : Nat) (x1 : Int32) (x2 : Int32) (u : gN) (H : Heap) (locs : List Loc) (ls : Array Slot), k9 x0 x1 x2 u = some res → gAn Γ sB u H → va_S Γ.2.2.1 s.heap H locs → lv_has ls 3 [(0, va_rf (some x0)), (1, .int x1), (2, .int x2)] → W p l e (rmX9_choose (res.2.1 - s.heap.size) (res.2.2 - sB)) s m args below meth c H locs (u.2.1 - s.heap.size) (u.2.2 - sB) (MQ below (gQ Γ none res.1 res.2.1) args s (res.2.1 - s.heap.size) (res.2.2 - sB) Γ.2.2.1) (F0 m 9 ls [])) (hm9 : ∀ (x0 : Nat) (x1 : Int32) (x2 : Int32) (u : gN), k9 x0 x1 x2 u = some res → gLe u res) (h : fX9_choose_9_b z x0 x1 x2 u k9 = some res) {H : Heap} {locs : List Loc} (hG : gAn Γ sB u H) (hS : va_S Γ.2.2.1 s.heap H locs) {ls : Array Slot} (hl : lv_has ls 3 [(0, va_rf (some x0)), (1, .int x1), (2, .int x2)]) : W p l e (rmX9_choose (res.2.1 - s.heap.size) (res.2.2 - sB)) s m args below meth c H locs (u.2.1 - s.heap.size) (u.2.2 - sB) (MQ below (gQ Γ none res.1 res.2.1) args s (res.2.1 - s.heap.size) (res.2.2 - sB) Γ.2.2.1) (F0 m 9 ls []) := by
  have hx := C.1
  have hb := C.2.1
  have hm := moX9_choose_9_b hm9 h
  unfold fX9_choose_9_b at h
  refine lv_iload_n hx hb dX9_choose_9 rfl (lv_at hl 2 rfl) ?_
  refine gx_aload_n (r := (some x0)) hx hb dX9_choose_10 rfl (lv_at hl 0 rfl) ?_
  obtain ⟨v11, e11, h⟩ := ob h
  refine gx_getR C hG.1 rfl e11 fgX9_10 dX9_choose_11 ?_
  obtain ⟨a14, na14, h⟩ := ob h
  obtain ⟨_, eo14, h⟩ := ob h
  obtain ⟨r14, u14, e14, h⟩ := obI h
  obtain ⟨g14, eg14, ev14⟩ := cN_inv e14
  refine gx_cV C hG.1 hS [] na14 eo14 (tJx4a65c_size_8abf5 eg14) qcX9_93 ⟨rfl, rfl, Nat.le_of_ble_eq_true rfl, Nat.le_of_ble_eq_true rfl⟩ ⟨Nat.sub_le_sub_right hm.1 _, Nat.sub_le_sub_right hm.2 _⟩ rfl hl.1 rfl (Nat.le_of_ble_eq_true rfl) (st1 := [.int r14, .int x2]) rfl dX9_choose_14 (fun H locs hg hS2 => gy_w (H0 := _) hG ev14 hg (fun hG => ?_))
  replace hS := hS2
  replace hm : gLe u14 res := by rw [ev14]; exact hm
  refine lv_icmp_ge (tgt := 53) hx hb dX9_choose_17 (by decide) (fun hc => ?_) (fun hc => ?_)
  · replace h := it_pos hc h
    cases Option.some.inj h
    exact gx_retv C hG.1 hS dX9_choose_53
  · replace h := it_neg hc h
    refine lv_iload_n hx hb dX9_choose_20 rfl (lv_at hl 1 rfl) ?_
    refine lv_iload_n hx hb dX9_choose_21 rfl (lv_at hl 2 rfl) ?_
    obtain ⟨r22, u22, e22, h⟩ := obI h
    obtain ⟨g22, eg22, ev22⟩ := cN_inv e22
    refine gx_cS C hG.1 hS [.int x1, .int x2] (tX9_hasBit eg22) qcX9_237 ⟨rfl, rfl, Nat.le_of_ble_eq_true rfl, Nat.le_of_ble_eq_true rfl⟩ ⟨Nat.sub_le_sub_right hm.1 _, Nat.sub_le_sub_right hm.2 _⟩ rfl hl.1 rfl (Nat.le_of_ble_eq_true rfl) (st1 := [.int r22]) rfl dX9_choose_22 (fun H locs hg hS2 => gy_w (H0 := _) hG ev22 hg (fun hG => ?_))
    replace hS := hS2
    replace hm : gLe u22 res := by rw [ev22]; exact hm
    refine lv_if_eq (tgt := 47) hx hb dX9_choose_25 (by decide) (fun hc => ?_) (fun hc => ?_)
    · replace h := it_pos hc h
      exact wX9_choose_47 C hz hk9 hm9 h hG hS (lv_sub hl [0, 1, 2] rfl)
    · replace h := it_neg hc h
      refine gx_aload_n (r := (some x0)) hx hb dX9_choose_28 rfl (lv_at hl 0 rfl) ?_
      obtain ⟨v29, e29, h⟩ := ob h
      refine gx_getR C hG.1 rfl e29 fgX9_35 dX9_choose_29 ?_
      refine gx_aload_n (r := (some x0)) hx hb dX9_choose_32 rfl (lv_at hl 0 rfl) ?_
      obtain ⟨v33, e33, h⟩ := ob h
      refine gx_getR C hG.1 rfl e33 fgX9_10 dX9_choose_33 ?_
      refine lv_iload_n hx hb dX9_choose_36 rfl (lv_at hl 2 rfl) ?_
      obtain ⟨a37, na37, h⟩ := ob h
      obtain ⟨_, eo37, h⟩ := ob h
      obtain ⟨r37, u37, e37, h⟩ := obI h
      obtain ⟨g37, eg37, ev37⟩ := cN_inv e37
      refine gx_cV C hG.1 hS [.int x2] na37 eo37 (tJx4a65c_get_915e3 eg37) qcX9_144 ⟨rfl, rfl, Nat.le_of_ble_eq_true rfl, Nat.le_of_ble_eq_true rfl⟩ ⟨Nat.sub_le_sub_right hm.1 _, Nat.sub_le_sub_right hm.2 _⟩ rfl hl.1 rfl (by simp [gx_cat, gx_catI, gx_catJ]) (st1 := [va_rf r37, va_rf v29]) rfl dX9_choose_37 (fun H locs hg hS2 => gy_w (H0 := _) hG ev37 hg (fun hG => ?_))
      replace hS := hS2
      replace hm : gLe u37 res := by rw [ev37]; exact hm
      obtain ⟨_, e40, h⟩ := ob h
      refine gx_cast C hG.1 e40 ckX9_102 dX9_choose_40 ?_
      obtain ⟨a43, na43, h⟩ := ob h
      obtain ⟨_, eo43, h⟩ := ob h
      obtain ⟨r43, u43, e43, h⟩ := obI h
      have hle := moJx4a65c_add_9ea2d e43
      have hm2 : gLe u43 res := by
        exact moX9_choose_46 hm9 h
      refine gx_cV C hG.1 hS [va_rf r37] na43 eo43 (tJx4a65c_add_9ea2d hz e43) qcX9_115 ⟨rfl, rfl, Nat.le_of_ble_eq_true rfl, Nat.le_of_ble_eq_true rfl⟩ (gy_room hG hS hle ⟨Nat.sub_le_sub_right hm2.1 _, Nat.sub_le_sub_right hm2.2 _⟩) rfl hl.1 rfl (Nat.le_of_ble_eq_true rfl) (st1 := [.int r43]) rfl dX9_choose_43 (fun H locs hg hS2 => gy_ret hG hS hle hg (fun hG => ?_))
      replace hS := hS2
      exact wX9_choose_46 C hz hk9 hm9 h hG hS (lv_sub hl [0, 1, 2] rfl)
def fX9_choose_9 (z : Nat → Nat) : Nat → Nat → Int32 → Int32 → gN → Option (gN)
  | 0 => fun _ _ _ _ => none
  | n + 1 => fun x0 x1 x2 u => fX9_choose_9_b z x0 x1 x2 u (fX9_choose_9 z n) 
theorem moX9_choose_9 {z : Nat → Nat} {res : gN} (n : Nat) : ∀ {x0 : Nat} {x1 : Int32} {x2 : Int32} {u : gN}, fX9_choose_9 z n x0 x1 x2 u = some res → gLe u res := by
  induction n with
  | zero => intro _ _ _ _ h; cases (show (none : Option (gN)) = some res from h)
  | succ n ih => intro _ _ _ _ h; exact moX9_choose_9_b (z := z) (fun _ _ _ _ h => ih h) h
theorem wX9_choose_9 {z : Nat → Nat} (C : gC p s m args meth c cX9_choose 3 none RX9 "choose" Γ) (hz : Γ.2.2.2 = z) {res : gN} (n : Nat) : ∀ {x0 : Nat} {x1 : Int32} {x2 : Int32} {u : gN} {H : Heap} {locs : List Loc} {ls : Array Slot}, fX9_choose_9 z n x0 x1 x2 u = some res → gAn Γ sB u H → va_S Γ.2.2.1 s.heap H locs → lv_has ls 3 [(0, va_rf (some x0)), (1, .int x1), (2, .int x2)] → W p l e (rmX9_choose (res.2.1 - s.heap.size) (res.2.2 - sB)) s m args below meth c H locs (u.2.1 - s.heap.size) (u.2.2 - sB) (MQ below (gQ Γ none res.1 res.2.1) args s (res.2.1 - s.heap.size) (res.2.2 - sB) Γ.2.2.1) (F0 m 9 ls []) := by
  induction n with
  | zero => intro _ _ _ _ _ _ _ h _ _ _; cases (show (none : Option (gN)) = some res from h)
  | succ n ih => intro _ _ _ _ _ _ _ h hG hS hl; exact wX9_choose_9_b C hz (fun _ _ _ _ _ _ _ h hG hS hl => ih h hG hS hl) (fun _ _ _ _ h => moX9_choose_9 n h) h hG hS hl
def fX9_choose (z : Nat → Nat) (x0 : Nat) (x1 : Int32) (u : gN) : Option (gN) :=
  (gR [10] 7 u.1 x0).bind fun v1 =>
  (v1).bind fun a4 =>
  (gO [0] u.1 a4).bind fun _ =>
  (wN (fJx4a65c_clear_da8c8 a4 u.1) u).bind fun u4 =>
  fX9_choose_9 z  FU x0 x1 (0 : Int32) u4
set_option maxRecDepth 20000 in
theorem moX9_choose {z : Nat → Nat} {x0 : Nat} {x1 : Int32} {u : gN} {res : gN} (h : fX9_choose z x0 x1 u = some res) : gLe u res := by
  unfold fX9_choose at h
  obtain ⟨v1, e1, h⟩ := ob h
  obtain ⟨a4, na4, h⟩ := ob h
  obtain ⟨_, eo4, h⟩ := ob h
  obtain ⟨u4, e4, h⟩ := ob h
  refine gLe.tr (wN_le e4) ?_
  exact moX9_choose_9  FU h
set_option maxHeartbeats 4000000 in
set_option maxRecDepth 20000 in
theorem wX9_choose {z : Nat → Nat}  (C : gC p s m args meth c cX9_choose 3 none RX9 "choose" Γ)(hz : Γ.2.2.2 = z) {x0 : Nat} {x1 : Int32} {u : gN} {res : gN} (h : fX9_choose z x0 x1 u = some res) {H : Heap} {locs : List Loc} (hG : gAn Γ sB u H) (hS : va_S Γ.2.2.1 s.heap H locs) {ls : Array Slot} (hl : lv_has ls 3 [(0, va_rf (some x0)), (1, .int x1)]) : W p l e (rmX9_choose (res.2.1 - s.heap.size) (res.2.2 - sB)) s m args below meth c H locs (u.2.1 - s.heap.size) (u.2.2 - sB) (MQ below (gQ Γ none res.1 res.2.1) args s (res.2.1 - s.heap.size) (res.2.2 - sB) Γ.2.2.1) (F0 m 0 ls []) := by
  have hx := C.1
  have hb := C.2.1
  have hm := moX9_choose h
  unfold fX9_choose at h
  refine gx_aload_n (r := (some x0)) hx hb dX9_choose_0 rfl (lv_at hl 0 rfl) ?_
  obtain ⟨v1, e1, h⟩ := ob h
  refine gx_getR C hG.1 rfl e1 fgX9_35 dX9_choose_1 ?_
  obtain ⟨a4, na4, h⟩ := ob h
  obtain ⟨_, eo4, h⟩ := ob h
  obtain ⟨u4, e4, h⟩ := ob h
  obtain ⟨g4, eg4, ev4⟩ := wN_inv e4
  refine gx_cV C hG.1 hS [] na4 eo4 (tJx4a65c_clear_da8c8 eg4) qcX9_338 ⟨rfl, rfl, Nat.le_of_ble_eq_true rfl, Nat.le_of_ble_eq_true rfl⟩ ⟨Nat.sub_le_sub_right hm.1 _, Nat.sub_le_sub_right hm.2 _⟩ rfl hl.1 rfl (Nat.le_of_ble_eq_true rfl) (st1 := []) rfl dX9_choose_4 (fun H locs hg hS2 => gy_w (H0 := _) hG ev4 hg (fun hG => ?_))
  replace hS := hS2
  replace hm : gLe u4 res := by rw [ev4]; exact hm
  refine lv_iconst (v := 0) hx hb dX9_choose_7 (by decide) ?_
  refine lv_istore_n (i := 2) (lv' := [(2, .int (0 : Int32)), (0, va_rf (some x0)), (1, .int x1)]) hx hb dX9_choose_8 rfl hl (by decide) rfl (fun ls hl => ?_)
  exact wX9_choose_9 C hz  FU h hG hS (lv_sub hl [1, 2, 0] rfl)
theorem tX9_choose {Γ : gEnv} {z : Nat → Nat} (hz : Γ.2.2.2 = z) {x0 : Nat} {x1 : Int32} {u v : gN} (h : fX9_choose z x0 x1 u = some v) : Met l yX9_choose (Cond.code yX9_choose cX9_choose 3 none :: gW) (rmX9_choose (v.2.1 - u.2.1) (v.2.2 - u.2.2)) (va_Pc [va_rf (some x0), .int x1] (gPre Γ u.1 u.2.1)) (gQ Γ none v.1 v.2.1) (v.2.1 - u.2.1) (v.2.2 - u.2.2) Γ.2.2.1 := by
  refine gx_met (nm := "choose") ⟨by decide +kernel, rfl, rfl⟩ (Nat.le_of_ble_eq_true rfl) (fun p e s m below meth c ls C hG hl => ?_)
  have hN : s.heap.size = u.2.1 := hG.1
  have K := wX9_choose (l := l) (e := e) (below := below) (sB := u.2.2) C hz h ⟨hG, Nat.le_refl _⟩ va_S.rf hl
  rw [hN, Nat.sub_self, Nat.sub_self] at K
  exact K
abbrev rmX9_chosenMayBeSold : Room := { frames := 3, cells := 0, slots := 0, locals := 64 }
def fX9_chosenMayBeSold_2_b (x0 : Nat) (x1 : Int32) (u : gM) (k2 : Nat → Int32 → gM → Option (Int32 × gM)) : Option (Int32 × gM) :=
  (gR [10] 7 u x0).bind fun v4 =>
  (v4).bind fun a7 =>
  (gO [0] u a7).bind fun _ =>
  bI (fJx4a65c_size_8abf5 a7 u) fun r7 u7 =>
  if r7 ≤ x1 then (
    some ((1 : Int32), u7)
  ) else (
    (gR [10] 7 u7 x0).bind fun v15 =>
    (v15).bind fun a19 =>
    (gO [0] u7 a19).bind fun _ =>
    bI (fJx4a65c_get_915e3 a19 x1 u7) fun r19 u19 =>
    (kC [9, 6] u19 r19).bind fun _ =>
    (gO [10] u19 x0).bind fun _ =>
    bI (fX9_mayBeSold x0 r19 u19) fun r25 u25 =>
    if r25 = 0 then (
      some ((0 : Int32), u25)
    ) else (
      k2 x0 (x1 + (1 : Int32)) u25
    )
  )
set_option maxHeartbeats 4000000 in
set_option maxRecDepth 20000 in
theorem wX9_chosenMayBeSold_2_b  (C : gC p s m args meth c cX9_chosenMayBeSold 2 (some .boolean) RX9 "chosenMayBeSold" Γ){x0 : Nat} {x1 : Int32} {u : gM} {res : Int32 × gM} {k2 : Nat → Int32 → gM → Option (Int32 × gM)} (hk2 : ∀ (x0 : Nat) (x1 : Int32) (u : gM) (H : Heap) (locs : List Loc) (ls : Array Slot), k2 x0 x1 u = some res → gAg Γ u N H → va_S Γ.2.2.1 s.heap H locs → lv_has ls 2 [(0, va_rf (some x0)), (1, .int x1)] → W p l e rmX9_chosenMayBeSold s m args below meth c H locs 0 0 (MQ below (gQ Γ (some (.int res.1)) res.2 N) args s 0 0 Γ.2.2.1) (F0 m 2 ls [])) (h : fX9_chosenMayBeSold_2_b x0 x1 u k2 = some res) {H : Heap} {locs : List Loc} (hG : gAg Γ u N H) (hS : va_S Γ.2.2.1 s.heap H locs) {ls : Array Slot} (hl : lv_has ls 2 [(0, va_rf (some x0)), (1, .int x1)]) : W p l e rmX9_chosenMayBeSold s m args below meth c H locs 0 0 (MQ below (gQ Γ (some (.int res.1)) res.2 N) args s 0 0 Γ.2.2.1) (F0 m 2 ls []) := by
  have hx := C.1
  have hb := C.2.1
  unfold fX9_chosenMayBeSold_2_b at h
  refine lv_iload_n hx hb dX9_chosenMayBeSold_2 rfl (lv_at hl 1 rfl) ?_
  refine gx_aload_n (r := (some x0)) hx hb dX9_chosenMayBeSold_3 rfl (lv_at hl 0 rfl) ?_
  obtain ⟨v4, e4, h⟩ := ob h
  refine gx_getR C hG rfl e4 fgX9_35 dX9_chosenMayBeSold_4 ?_
  obtain ⟨a7, na7, h⟩ := ob h
  obtain ⟨_, eo7, h⟩ := ob h
  obtain ⟨r7, u7, e7, h⟩ := obI h
  refine gx_cV C hG hS [] na7 eo7 (tJx4a65c_size_8abf5 e7) qcX9_93 ⟨rfl, rfl, Nat.le_of_ble_eq_true rfl, Nat.le_of_ble_eq_true rfl⟩ ⟨Nat.zero_le _, Nat.zero_le _⟩ rfl hl.1 rfl (Nat.le_of_ble_eq_true rfl) (st1 := [.int r7, .int x1]) rfl dX9_chosenMayBeSold_7 (fun H locs hG hS => ?_)
  refine lv_icmp_ge (tgt := 39) hx hb dX9_chosenMayBeSold_10 (by decide) (fun hc => ?_) (fun hc => ?_)
  · replace h := it_pos hc h
    refine lv_iconst (v := 1) hx hb dX9_chosenMayBeSold_39 (by decide) ?_
    cases Option.some.inj h
    exact gx_retz C (Or.inr rfl) hG hS dX9_chosenMayBeSold_40
  · replace h := it_neg hc h
    refine gx_aload_n (r := (some x0)) hx hb dX9_chosenMayBeSold_13 rfl (lv_at hl 0 rfl) ?_
    refine gx_aload_n (r := (some x0)) hx hb dX9_chosenMayBeSold_14 rfl (lv_at hl 0 rfl) ?_
    obtain ⟨v15, e15, h⟩ := ob h
    refine gx_getR C hG rfl e15 fgX9_35 dX9_chosenMayBeSold_15 ?_
    refine lv_iload_n hx hb dX9_chosenMayBeSold_18 rfl (lv_at hl 1 rfl) ?_
    obtain ⟨a19, na19, h⟩ := ob h
    obtain ⟨_, eo19, h⟩ := ob h
    obtain ⟨r19, u19, e19, h⟩ := obI h
    refine gx_cV C hG hS [.int x1] na19 eo19 (tJx4a65c_get_915e3 e19) qcX9_144 ⟨rfl, rfl, Nat.le_of_ble_eq_true rfl, Nat.le_of_ble_eq_true rfl⟩ ⟨Nat.zero_le _, Nat.zero_le _⟩ rfl hl.1 rfl (Nat.le_of_ble_eq_true rfl) (st1 := [va_rf r19, va_rf (some x0)]) rfl dX9_chosenMayBeSold_19 (fun H locs hG hS => ?_)
    obtain ⟨_, e22, h⟩ := ob h
    refine gx_cast C hG e22 ckX9_102 dX9_chosenMayBeSold_22 ?_
    obtain ⟨_, eo25, h⟩ := ob h
    obtain ⟨r25, u25, e25, h⟩ := obI h
    refine gx_cV C hG hS [va_rf r19] rfl eo25 (tX9_mayBeSold e25) qcX9_243 ⟨rfl, rfl, Nat.le_of_ble_eq_true rfl, Nat.le_of_ble_eq_true rfl⟩ ⟨Nat.zero_le _, Nat.zero_le _⟩ rfl hl.1 rfl (Nat.le_of_ble_eq_true rfl) (st1 := [.int r25]) rfl dX9_chosenMayBeSold_25 (fun H locs hG hS => ?_)
    refine lv_if_ne (tgt := 33) hx hb dX9_chosenMayBeSold_28 (by decide) (fun hc => ?_) (fun hc => ?_)
    · replace h := it_neg hc h
      refine lv_iinc (v := x1 + (1 : Int32)) (lv' := [(1, .int (x1 + (1 : Int32))), (0, va_rf (some x0))]) hx hb dX9_chosenMayBeSold_33 hl (k := 1) rfl rfl (by decide) rfl (fun ls hl => ?_)
      refine lv_goto (tgt := 2) hx hb dX9_chosenMayBeSold_36 (by decide) ?_
      exact hk2 _ _ _ _ _ _ h hG hS (lv_sub hl [1, 0] rfl)
    · replace h := it_pos hc h
      refine lv_iconst (v := 0) hx hb dX9_chosenMayBeSold_31 (by decide) ?_
      cases Option.some.inj h
      exact gx_retz C (Or.inl rfl) hG hS dX9_chosenMayBeSold_32
def fX9_chosenMayBeSold_2 : Nat → Nat → Int32 → gM → Option (Int32 × gM)
  | 0 => fun _ _ _ => none
  | n + 1 => fun x0 x1 u => fX9_chosenMayBeSold_2_b x0 x1 u (fX9_chosenMayBeSold_2 n) 
theorem wX9_chosenMayBeSold_2 (C : gC p s m args meth c cX9_chosenMayBeSold 2 (some .boolean) RX9 "chosenMayBeSold" Γ) {res : Int32 × gM} (n : Nat) : ∀ {x0 : Nat} {x1 : Int32} {u : gM} {H : Heap} {locs : List Loc} {ls : Array Slot}, fX9_chosenMayBeSold_2 n x0 x1 u = some res → gAg Γ u N H → va_S Γ.2.2.1 s.heap H locs → lv_has ls 2 [(0, va_rf (some x0)), (1, .int x1)] → W p l e rmX9_chosenMayBeSold s m args below meth c H locs 0 0 (MQ below (gQ Γ (some (.int res.1)) res.2 N) args s 0 0 Γ.2.2.1) (F0 m 2 ls []) := by
  induction n with
  | zero => intro _ _ _ _ _ _ h _ _ _; cases (show (none : Option (Int32 × gM)) = some res from h)
  | succ n ih => intro _ _ _ _ _ _ h hG hS hl; exact wX9_chosenMayBeSold_2_b C (fun _ _ _ _ _ _ h hG hS hl => ih h hG hS hl) h hG hS hl
def fX9_chosenMayBeSold (x0 : Nat) (u : gM) : Option (Int32 × gM) :=
  fX9_chosenMayBeSold_2  FU x0 (0 : Int32) u
set_option maxHeartbeats 4000000 in
set_option maxRecDepth 20000 in
theorem wX9_chosenMayBeSold  (C : gC p s m args meth c cX9_chosenMayBeSold 2 (some .boolean) RX9 "chosenMayBeSold" Γ){x0 : Nat} {u : gM} {res : Int32 × gM} (h : fX9_chosenMayBeSold x0 u = some res) {H : Heap} {locs : List Loc} (hG : gAg Γ u N H) (hS : va_S Γ.2.2.1 s.heap H locs) {ls : Array Slot} (hl : lv_has ls 2 [(0, va_rf (some x0))]) : W p l e rmX9_chosenMayBeSold s m args below meth c H locs 0 0 (MQ below (gQ Γ (some (.int res.1)) res.2 N) args s 0 0 Γ.2.2.1) (F0 m 0 ls []) := by
  have hx := C.1
  have hb := C.2.1
  unfold fX9_chosenMayBeSold at h
  refine lv_iconst (v := 0) hx hb dX9_chosenMayBeSold_0 (by decide) ?_
  refine lv_istore_n (i := 1) (lv' := [(1, .int (0 : Int32)), (0, va_rf (some x0))]) hx hb dX9_chosenMayBeSold_1 rfl hl (by decide) rfl (fun ls hl => ?_)
  exact wX9_chosenMayBeSold_2 C  FU h hG hS (lv_sub hl [1, 0] rfl)
theorem tX9_chosenMayBeSold {Γ : gEnv} {N : Nat} {x0 : Nat} {u v : gM} {r : Int32} (h : fX9_chosenMayBeSold x0 u = some (r, v)) : Met l yX9_chosenMayBeSold (Cond.code yX9_chosenMayBeSold cX9_chosenMayBeSold 2 (some .boolean) :: gW) rmX9_chosenMayBeSold (va_Pc [va_rf (some x0)] (gPre Γ u N)) (gQ Γ (some (.int r)) v N) 0 0 Γ.2.2.1 :=
  gx_met (nm := "chosenMayBeSold") ⟨by decide +kernel, rfl, rfl⟩ (Nat.le_of_ble_eq_true rfl) (fun p e s m below meth c ls C hG hl => wX9_chosenMayBeSold C h hG va_S.rf hl)
abbrev rmX9_chosenWorths : Room := { frames := 3, cells := 0, slots := 0, locals := 64 }
def fX9_chosenWorths_4_b (x0 : Nat) (x1 : Int32) (x2 : Int32) (u : gM) (k4 : Nat → Int32 → Int32 → gM → Option (Int32 × gM)) : Option (Int32 × gM) :=
  (gR [10] 7 u x0).bind fun v6 =>
  (v6).bind fun a9 =>
  (gO [0] u a9).bind fun _ =>
  bI (fJx4a65c_size_8abf5 a9 u) fun r9 u9 =>
  if r9 ≤ x2 then (
    some (x1, u9)
  ) else (
    (gR [10] 7 u9 x0).bind fun v17 =>
    (v17).bind fun a21 =>
    (gO [0] u9 a21).bind fun _ =>
    bI (fJx4a65c_get_915e3 a21 x2 u9) fun r21 u21 =>
    (kC [9, 6] u21 r21).bind fun _ =>
    (r21).bind fun a27 =>
    (gI [9, 6] 3 u21 a27).bind fun v27 =>
    k4 x0 (x1 + v27) (x2 + (1 : Int32)) u21
  )
set_option maxHeartbeats 4000000 in
set_option maxRecDepth 20000 in
theorem wX9_chosenWorths_4_b  (C : gC p s m args meth c cX9_chosenWorths 3 (some .int) RX9 "chosenWorths" Γ){x0 : Nat} {x1 : Int32} {x2 : Int32} {u : gM} {res : Int32 × gM} {k4 : Nat → Int32 → Int32 → gM → Option (Int32 × gM)} (hk4 : ∀ (x0 : Nat) (x1 : Int32) (x2 : Int32) (u : gM) (H : Heap) (locs : List Loc) (ls : Array Slot), k4 x0 x1 x2 u = some res → gAg Γ u N H → va_S Γ.2.2.1 s.heap H locs → lv_has ls 3 [(0, va_rf (some x0)), (1, .int x1), (2, .int x2)] → W p l e rmX9_chosenWorths s m args below meth c H locs 0 0 (MQ below (gQ Γ (some (.int res.1)) res.2 N) args s 0 0 Γ.2.2.1) (F0 m 4 ls [])) (h : fX9_chosenWorths_4_b x0 x1 x2 u k4 = some res) {H : Heap} {locs : List Loc} (hG : gAg Γ u N H) (hS : va_S Γ.2.2.1 s.heap H locs) {ls : Array Slot} (hl : lv_has ls 3 [(0, va_rf (some x0)), (1, .int x1), (2, .int x2)]) : W p l e rmX9_chosenWorths s m args below meth c H locs 0 0 (MQ below (gQ Γ (some (.int res.1)) res.2 N) args s 0 0 Γ.2.2.1) (F0 m 4 ls []) := by
  have hx := C.1
  have hb := C.2.1
  unfold fX9_chosenWorths_4_b at h
  refine lv_iload_n hx hb dX9_chosenWorths_4 rfl (lv_at hl 2 rfl) ?_
  refine gx_aload_n (r := (some x0)) hx hb dX9_chosenWorths_5 rfl (lv_at hl 0 rfl) ?_
  obtain ⟨v6, e6, h⟩ := ob h
  refine gx_getR C hG rfl e6 fgX9_35 dX9_chosenWorths_6 ?_
  obtain ⟨a9, na9, h⟩ := ob h
  obtain ⟨_, eo9, h⟩ := ob h
  obtain ⟨r9, u9, e9, h⟩ := obI h
  refine gx_cV C hG hS [] na9 eo9 (tJx4a65c_size_8abf5 e9) qcX9_93 ⟨rfl, rfl, Nat.le_of_ble_eq_true rfl, Nat.le_of_ble_eq_true rfl⟩ ⟨Nat.zero_le _, Nat.zero_le _⟩ rfl hl.1 rfl (Nat.le_of_ble_eq_true rfl) (st1 := [.int r9, .int x2]) rfl dX9_chosenWorths_9 (fun H locs hG hS => ?_)
  refine lv_icmp_ge (tgt := 38) hx hb dX9_chosenWorths_12 (by decide) (fun hc => ?_) (fun hc => ?_)
  · replace h := it_pos hc h
    refine lv_iload_n hx hb dX9_chosenWorths_38 rfl (lv_at hl 1 rfl) ?_
    cases Option.some.inj h
    exact gx_reti C hG hS dX9_chosenWorths_39
  · replace h := it_neg hc h
    refine lv_iload_n hx hb dX9_chosenWorths_15 rfl (lv_at hl 1 rfl) ?_
    refine gx_aload_n (r := (some x0)) hx hb dX9_chosenWorths_16 rfl (lv_at hl 0 rfl) ?_
    obtain ⟨v17, e17, h⟩ := ob h
    refine gx_getR C hG rfl e17 fgX9_35 dX9_chosenWorths_17 ?_
    refine lv_iload_n hx hb dX9_chosenWorths_20 rfl (lv_at hl 2 rfl) ?_
    obtain ⟨a21, na21, h⟩ := ob h
    obtain ⟨_, eo21, h⟩ := ob h
    obtain ⟨r21, u21, e21, h⟩ := obI h
    refine gx_cV C hG hS [.int x2] na21 eo21 (tJx4a65c_get_915e3 e21) qcX9_144 ⟨rfl, rfl, Nat.le_of_ble_eq_true rfl, Nat.le_of_ble_eq_true rfl⟩ ⟨Nat.zero_le _, Nat.zero_le _⟩ rfl hl.1 rfl (Nat.le_of_ble_eq_true rfl) (st1 := [va_rf r21, .int x1]) rfl dX9_chosenWorths_21 (fun H locs hG hS => ?_)
    obtain ⟨_, e24, h⟩ := ob h
    refine gx_cast C hG e24 ckX9_102 dX9_chosenWorths_24 ?_
    obtain ⟨a27, na27, h⟩ := ob h
    obtain ⟨v27, e27, h⟩ := ob h
    refine gx_getI C hG na27 e27 fgX9_135 dX9_chosenWorths_27 ?_
    refine lv_iadd hx hb dX9_chosenWorths_30 ?_
    refine lv_istore_n (i := 1) (lv' := [(1, .int (x1 + v27)), (0, va_rf (some x0)), (2, .int x2)]) hx hb dX9_chosenWorths_31 rfl hl (by decide) rfl (fun ls hl => ?_)
    refine lv_iinc (v := x2 + (1 : Int32)) (lv' := [(2, .int (x2 + (1 : Int32))), (1, .int (x1 + v27)), (0, va_rf (some x0))]) hx hb dX9_chosenWorths_32 hl (k := 2) rfl rfl (by decide) rfl (fun ls hl => ?_)
    refine lv_goto (tgt := 4) hx hb dX9_chosenWorths_35 (by decide) ?_
    exact hk4 _ _ _ _ _ _ _ h hG hS (lv_sub hl [2, 1, 0] rfl)
def fX9_chosenWorths_4 : Nat → Nat → Int32 → Int32 → gM → Option (Int32 × gM)
  | 0 => fun _ _ _ _ => none
  | n + 1 => fun x0 x1 x2 u => fX9_chosenWorths_4_b x0 x1 x2 u (fX9_chosenWorths_4 n) 
theorem wX9_chosenWorths_4 (C : gC p s m args meth c cX9_chosenWorths 3 (some .int) RX9 "chosenWorths" Γ) {res : Int32 × gM} (n : Nat) : ∀ {x0 : Nat} {x1 : Int32} {x2 : Int32} {u : gM} {H : Heap} {locs : List Loc} {ls : Array Slot}, fX9_chosenWorths_4 n x0 x1 x2 u = some res → gAg Γ u N H → va_S Γ.2.2.1 s.heap H locs → lv_has ls 3 [(0, va_rf (some x0)), (1, .int x1), (2, .int x2)] → W p l e rmX9_chosenWorths s m args below meth c H locs 0 0 (MQ below (gQ Γ (some (.int res.1)) res.2 N) args s 0 0 Γ.2.2.1) (F0 m 4 ls []) := by
  induction n with
  | zero => intro _ _ _ _ _ _ _ h _ _ _; cases (show (none : Option (Int32 × gM)) = some res from h)
  | succ n ih => intro _ _ _ _ _ _ _ h hG hS hl; exact wX9_chosenWorths_4_b C (fun _ _ _ _ _ _ _ h hG hS hl => ih h hG hS hl) h hG hS hl
def fX9_chosenWorths (x0 : Nat) (u : gM) : Option (Int32 × gM) :=
  fX9_chosenWorths_4  FU x0 (0 : Int32) (0 : Int32) u
set_option maxHeartbeats 4000000 in
set_option maxRecDepth 20000 in
theorem wX9_chosenWorths  (C : gC p s m args meth c cX9_chosenWorths 3 (some .int) RX9 "chosenWorths" Γ){x0 : Nat} {u : gM} {res : Int32 × gM} (h : fX9_chosenWorths x0 u = some res) {H : Heap} {locs : List Loc} (hG : gAg Γ u N H) (hS : va_S Γ.2.2.1 s.heap H locs) {ls : Array Slot} (hl : lv_has ls 3 [(0, va_rf (some x0))]) : W p l e rmX9_chosenWorths s m args below meth c H locs 0 0 (MQ below (gQ Γ (some (.int res.1)) res.2 N) args s 0 0 Γ.2.2.1) (F0 m 0 ls []) := by
  have hx := C.1
  have hb := C.2.1
  unfold fX9_chosenWorths at h
  refine lv_iconst (v := 0) hx hb dX9_chosenWorths_0 (by decide) ?_
  refine lv_istore_n (i := 1) (lv' := [(1, .int (0 : Int32)), (0, va_rf (some x0))]) hx hb dX9_chosenWorths_1 rfl hl (by decide) rfl (fun ls hl => ?_)
  refine lv_iconst (v := 0) hx hb dX9_chosenWorths_2 (by decide) ?_
  refine lv_istore_n (i := 2) (lv' := [(2, .int (0 : Int32)), (1, .int (0 : Int32)), (0, va_rf (some x0))]) hx hb dX9_chosenWorths_3 rfl hl (by decide) rfl (fun ls hl => ?_)
  exact wX9_chosenWorths_4 C  FU h hG hS (lv_sub hl [2, 1, 0] rfl)
theorem tX9_chosenWorths {Γ : gEnv} {N : Nat} {x0 : Nat} {u v : gM} {r : Int32} (h : fX9_chosenWorths x0 u = some (r, v)) : Met l yX9_chosenWorths (Cond.code yX9_chosenWorths cX9_chosenWorths 3 (some .int) :: gW) rmX9_chosenWorths (va_Pc [va_rf (some x0)] (gPre Γ u N)) (gQ Γ (some (.int r)) v N) 0 0 Γ.2.2.1 :=
  gx_met (nm := "chosenWorths") ⟨by decide +kernel, rfl, rfl⟩ (Nat.le_of_ble_eq_true rfl) (fun p e s m below meth c ls C hG hl => wX9_chosenWorths C h hG va_S.rf hl)
abbrev rmX9_hasBitOfNoThing : Room := { frames := 1, cells := 0, slots := 0, locals := 20 }
def fX9_hasBitOfNoThing (x0 : Nat) (x1 : Int32) (u : gM) : Option (Int32 × gM) :=
  (gR [10] 0 u x0).bind fun v2 =>
  (v2).bind fun a5 =>
  (gO [0] u a5).bind fun _ =>
  bI (fJx4a65c_size_8abf5 a5 u) fun r5 u5 =>
  if ((x1.toUInt32 >>> (r5.toUInt32 &&& Int32.toUInt32 31)).toInt32) = 0 then (
    some ((0 : Int32), u5)
  ) else (
    some ((1 : Int32), u5)
  )
set_option maxHeartbeats 4000000 in
set_option maxRecDepth 20000 in
theorem wX9_hasBitOfNoThing  (C : gC p s m args meth c cX9_hasBitOfNoThing 2 (some .boolean) RX9 "hasBitOfNoThing" Γ){x0 : Nat} {x1 : Int32} {u : gM} {res : Int32 × gM} (h : fX9_hasBitOfNoThing x0 x1 u = some res) {H : Heap} {locs : List Loc} (hG : gAg Γ u N H) (hS : va_S Γ.2.2.1 s.heap H locs) {ls : Array Slot} (hl : lv_has ls 2 [(0, va_rf (some x0)), (1, .int x1)]) : W p l e rmX9_hasBitOfNoThing s m args below meth c H locs 0 0 (MQ below (gQ Γ (some (.int res.1)) res.2 N) args s 0 0 Γ.2.2.1) (F0 m 0 ls []) := by
  have hx := C.1
  have hb := C.2.1
  unfold fX9_hasBitOfNoThing at h
  refine lv_iload_n hx hb dX9_hasBitOfNoThing_0 rfl (lv_at hl 1 rfl) ?_
  refine gx_aload_n (r := (some x0)) hx hb dX9_hasBitOfNoThing_1 rfl (lv_at hl 0 rfl) ?_
  obtain ⟨v2, e2, h⟩ := ob h
  refine gx_getR C hG rfl e2 fgX9_10 dX9_hasBitOfNoThing_2 ?_
  obtain ⟨a5, na5, h⟩ := ob h
  obtain ⟨_, eo5, h⟩ := ob h
  obtain ⟨r5, u5, e5, h⟩ := obI h
  refine gx_cV C hG hS [] na5 eo5 (tJx4a65c_size_8abf5 e5) qcX9_93 ⟨rfl, rfl, Nat.le_of_ble_eq_true rfl, Nat.le_of_ble_eq_true rfl⟩ ⟨Nat.zero_le _, Nat.zero_le _⟩ rfl hl.1 rfl (Nat.le_of_ble_eq_true rfl) (st1 := [.int r5, .int x1]) rfl dX9_hasBitOfNoThing_5 (fun H locs hG hS => ?_)
  refine lv_iushr hx hb dX9_hasBitOfNoThing_8 rfl ?_
  refine lv_if_eq (tgt := 16) hx hb dX9_hasBitOfNoThing_9 (by decide) (fun hc => ?_) (fun hc => ?_)
  · replace h := it_pos hc h
    refine lv_iconst (v := 0) hx hb dX9_hasBitOfNoThing_16 (by decide) ?_
    cases Option.some.inj h
    exact gx_retz C (Or.inl rfl) hG hS dX9_hasBitOfNoThing_17
  · replace h := it_neg hc h
    refine lv_iconst (v := 1) hx hb dX9_hasBitOfNoThing_12 (by decide) ?_
    refine lv_goto (tgt := 17) hx hb dX9_hasBitOfNoThing_13 (by decide) ?_
    cases Option.some.inj h
    exact gx_retz C (Or.inr rfl) hG hS dX9_hasBitOfNoThing_17
theorem tX9_hasBitOfNoThing {Γ : gEnv} {N : Nat} {x0 : Nat} {x1 : Int32} {u v : gM} {r : Int32} (h : fX9_hasBitOfNoThing x0 x1 u = some (r, v)) : Met l yX9_hasBitOfNoThing (Cond.code yX9_hasBitOfNoThing cX9_hasBitOfNoThing 2 (some .boolean) :: gW) rmX9_hasBitOfNoThing (va_Pc [va_rf (some x0), .int x1] (gPre Γ u N)) (gQ Γ (some (.int r)) v N) 0 0 Γ.2.2.1 :=
  gx_met (nm := "hasBitOfNoThing") ⟨by decide +kernel, rfl, rfl⟩ (Nat.le_of_ble_eq_true rfl) (fun p e s m below meth c ls C hG hl => wX9_hasBitOfNoThing C h hG va_S.rf hl)
abbrev rmX9_sell (a b : Nat) : Room := { frames := 8, cells := a, slots := b, locals := 193 }
def fX9_sell_129 (z : Nat → Nat) (x0 : Nat) (x2 : Int32) (x3 : Int32) (x4 : Int32) (x5 : Int32) (x6 : Option Nat) (s0 : Option Nat) (s1 : Int32) (u : gN) (k57 : Nat → Int32 → Int32 → Int32 → Int32 → gN → Option (Int32 × gN)) : Option (Int32 × gN) :=
  (s0).bind fun a129 =>
  (wN (pV [9, 6] 9 (.int s1) u.1 a129) u).bind fun u129 =>
  (x6).bind fun a136 =>
  (gI [9, 6] 9 u129.1 a136).bind fun v136 =>
  k57 x0 x2 x3 (x4 - v136) (x5 + (1 : Int32)) u129
set_option maxRecDepth 20000 in
theorem moX9_sell_129 {z : Nat → Nat} {x0 : Nat} {x2 : Int32} {x3 : Int32} {x4 : Int32} {x5 : Int32} {x6 : Option Nat} {s0 : Option Nat} {s1 : Int32} {u : gN} {res : Int32 × gN} {k57 : Nat → Int32 → Int32 → Int32 → Int32 → gN → Option (Int32 × gN)} (hm57 : ∀ (x0 : Nat) (x2 : Int32) (x3 : Int32) (x4 : Int32) (x5 : Int32) (u : gN), k57 x0 x2 x3 x4 x5 u = some res → gLe u res.2) (h : fX9_sell_129 z x0 x2 x3 x4 x5 x6 s0 s1 u k57 = some res) : gLe u res.2 := by
  unfold fX9_sell_129 at h
  obtain ⟨a129, na129, h⟩ := ob h
  obtain ⟨u129, e129, h⟩ := ob h
  refine gLe.tr (wN_le e129) ?_
  obtain ⟨a136, na136, h⟩ := ob h
  obtain ⟨v136, e136, h⟩ := ob h
  exact hm57 _ _ _ _ _ _ h
set_option maxHeartbeats 4000000 in
set_option maxRecDepth 20000 in
theorem wX9_sell_129 {z : Nat → Nat}  (C : gC p s m args meth c cX9_sell 7 (some .int) RX9 "sell" Γ)(hz : Γ.2.2.2 = z) {x0 : Nat} {x2 : Int32} {x3 : Int32} {x4 : Int32} {x5 : Int32} {x6 : Option Nat} {s0 : Option Nat} {s1 : Int32} {u : gN} {res : Int32 × gN} {k57 : Nat → Int32 → Int32 → Int32 → Int32 → gN → Option (Int32 × gN)} (hk57 : ∀ (x0 : Nat) (x2 : Int32) (x3 : Int32) (x4 : Int32) (x5 : Int32) (u : gN) (H : Heap) (locs : List Loc) (ls : Array Slot), k57 x0 x2 x3 x4 x5 u = some res → gAn Γ sB u H → va_S Γ.2.2.1 s.heap H locs → lv_has ls 7 [(0, va_rf (some x0)), (2, .int x2), (3, .int x3), (4, .int x4), (5, .int x5)] → W p l e (rmX9_sell (res.2.2.1 - s.heap.size) (res.2.2.2 - sB)) s m args below meth c H locs (u.2.1 - s.heap.size) (u.2.2 - sB) (MQ below (gQ Γ (some (.int res.1)) res.2.1 res.2.2.1) args s (res.2.2.1 - s.heap.size) (res.2.2.2 - sB) Γ.2.2.1) (F0 m 57 ls [])) (hm57 : ∀ (x0 : Nat) (x2 : Int32) (x3 : Int32) (x4 : Int32) (x5 : Int32) (u : gN), k57 x0 x2 x3 x4 x5 u = some res → gLe u res.2) (h : fX9_sell_129 z x0 x2 x3 x4 x5 x6 s0 s1 u k57 = some res) {H : Heap} {locs : List Loc} (hG : gAn Γ sB u H) (hS : va_S Γ.2.2.1 s.heap H locs) {ls : Array Slot} (hl : lv_has ls 7 [(0, va_rf (some x0)), (2, .int x2), (3, .int x3), (4, .int x4), (5, .int x5), (6, va_rf x6)]) : W p l e (rmX9_sell (res.2.2.1 - s.heap.size) (res.2.2.2 - sB)) s m args below meth c H locs (u.2.1 - s.heap.size) (u.2.2 - sB) (MQ below (gQ Γ (some (.int res.1)) res.2.1 res.2.2.1) args s (res.2.2.1 - s.heap.size) (res.2.2.2 - sB) Γ.2.2.1) (F0 m 129 ls [.int s1, va_rf s0]) := by
  have hx := C.1
  have hb := C.2.1
  have hm := moX9_sell_129 hm57 h
  unfold fX9_sell_129 at h
  obtain ⟨a129, na129, h⟩ := ob h
  obtain ⟨u129, e129, h⟩ := ob h
  obtain ⟨g129, eg129, ev129⟩ := wN_inv e129
  replace hm : gLe u129 res.2 := by rw [ev129]; exact hm
  refine gx_put C hG.1 hS na129 eg129 fgX9_259 fpX9_259 (fun q => by cases q) rfl rfl dX9_sell_129 (fun H locs hg hS => gy_w hG ev129 hg (fun hG => ?_))
  refine lv_iload hx hb dX9_sell_132 (lv_at hl 3 rfl) ?_
  refine gx_aload (r := x6) hx hb dX9_sell_134 (lv_at hl 5 rfl) ?_
  obtain ⟨a136, na136, h⟩ := ob h
  obtain ⟨v136, e136, h⟩ := ob h
  refine gx_getI C hG.1 na136 e136 fgX9_259 dX9_sell_136 ?_
  refine lv_isub hx hb dX9_sell_139 ?_
  refine lv_istore (i := 4) (lv' := [(4, .int (x4 - v136)), (0, va_rf (some x0)), (2, .int x2), (3, .int x3), (5, .int x5), (6, va_rf x6)]) hx hb dX9_sell_140 hl (by decide) rfl (fun ls hl => ?_)
  refine lv_iinc (v := x5 + (1 : Int32)) (lv' := [(5, .int (x5 + (1 : Int32))), (4, .int (x4 - v136)), (0, va_rf (some x0)), (2, .int x2), (3, .int x3), (6, va_rf x6)]) hx hb dX9_sell_142 hl (k := 4) rfl rfl (by decide) rfl (fun ls hl => ?_)
  refine lv_goto (tgt := 57) hx hb dX9_sell_145 (by decide) ?_
  exact hk57 _ _ _ _ _ _ _ _ _ h hG hS (lv_sub hl [2, 3, 4, 1, 0] rfl)
def fX9_sell_93 (z : Nat → Nat) (x0 : Nat) (x2 : Int32) (x3 : Int32) (x4 : Int32) (x5 : Int32) (x6 : Option Nat) (u : gN) (k57 : Nat → Int32 → Int32 → Int32 → Int32 → gN → Option (Int32 × gN)) : Option (Int32 × gN) :=
  (gI [10] 13 u.1 x0).bind fun v96 =>
  (x6).bind fun a99 =>
  (wN (pV [9, 6] 8 (.int v96) u.1 a99) u).bind fun u99 =>
  if x3 = 0 then (
    (gR [10] 7 u99.1 x0).bind fun v110 =>
    (v110).bind fun a113 =>
    (gO [0] u99.1 a113).bind fun _ =>
    bI (cN (fJx4a65c_size_8abf5 a113 u99.1) u99) fun r113 u113 =>
    if r113 = 0 then none else
    fX9_sell_129 z x0 x2 x3 x4 x5 x6 x6 (x2 / r113) u113 k57
  ) else (
    (x6).bind fun a123 =>
    (gI [9, 6] 3 u99.1 a123).bind fun v123 =>
    if x3 = 0 then none else
    fX9_sell_129 z x0 x2 x3 x4 x5 x6 x6 ((x2 * v123) / x3) u99 k57
  )
set_option maxRecDepth 20000 in
theorem moX9_sell_93 {z : Nat → Nat} {x0 : Nat} {x2 : Int32} {x3 : Int32} {x4 : Int32} {x5 : Int32} {x6 : Option Nat} {u : gN} {res : Int32 × gN} {k57 : Nat → Int32 → Int32 → Int32 → Int32 → gN → Option (Int32 × gN)} (hm57 : ∀ (x0 : Nat) (x2 : Int32) (x3 : Int32) (x4 : Int32) (x5 : Int32) (u : gN), k57 x0 x2 x3 x4 x5 u = some res → gLe u res.2) (h : fX9_sell_93 z x0 x2 x3 x4 x5 x6 u k57 = some res) : gLe u res.2 := by
  unfold fX9_sell_93 at h
  obtain ⟨v96, e96, h⟩ := ob h
  obtain ⟨a99, na99, h⟩ := ob h
  obtain ⟨u99, e99, h⟩ := ob h
  refine gLe.tr (wN_le e99) ?_
  by_cases hc : x3 = 0
  · replace h := it_pos hc h
    obtain ⟨v110, e110, h⟩ := ob h
    obtain ⟨a113, na113, h⟩ := ob h
    obtain ⟨_, eo113, h⟩ := ob h
    obtain ⟨r113, u113, e113, h⟩ := obI h
    refine gLe.tr (cN_le e113) ?_
    have n116 : ¬ r113 = 0 := fun q => by rw [if_pos q] at h; cases h
    replace h := it_neg n116 h
    exact moX9_sell_129 hm57 h
  · replace h := it_neg hc h
    obtain ⟨a123, na123, h⟩ := ob h
    obtain ⟨v123, e123, h⟩ := ob h
    have n128 : ¬ x3 = 0 := fun q => by rw [if_pos q] at h; cases h
    replace h := it_neg n128 h
    exact moX9_sell_129 hm57 h
set_option maxHeartbeats 4000000 in
set_option maxRecDepth 20000 in
theorem wX9_sell_93 {z : Nat → Nat}  (C : gC p s m args meth c cX9_sell 7 (some .int) RX9 "sell" Γ)(hz : Γ.2.2.2 = z) {x0 : Nat} {x2 : Int32} {x3 : Int32} {x4 : Int32} {x5 : Int32} {x6 : Option Nat} {u : gN} {res : Int32 × gN} {k57 : Nat → Int32 → Int32 → Int32 → Int32 → gN → Option (Int32 × gN)} (hk57 : ∀ (x0 : Nat) (x2 : Int32) (x3 : Int32) (x4 : Int32) (x5 : Int32) (u : gN) (H : Heap) (locs : List Loc) (ls : Array Slot), k57 x0 x2 x3 x4 x5 u = some res → gAn Γ sB u H → va_S Γ.2.2.1 s.heap H locs → lv_has ls 7 [(0, va_rf (some x0)), (2, .int x2), (3, .int x3), (4, .int x4), (5, .int x5)] → W p l e (rmX9_sell (res.2.2.1 - s.heap.size) (res.2.2.2 - sB)) s m args below meth c H locs (u.2.1 - s.heap.size) (u.2.2 - sB) (MQ below (gQ Γ (some (.int res.1)) res.2.1 res.2.2.1) args s (res.2.2.1 - s.heap.size) (res.2.2.2 - sB) Γ.2.2.1) (F0 m 57 ls [])) (hm57 : ∀ (x0 : Nat) (x2 : Int32) (x3 : Int32) (x4 : Int32) (x5 : Int32) (u : gN), k57 x0 x2 x3 x4 x5 u = some res → gLe u res.2) (h : fX9_sell_93 z x0 x2 x3 x4 x5 x6 u k57 = some res) {H : Heap} {locs : List Loc} (hG : gAn Γ sB u H) (hS : va_S Γ.2.2.1 s.heap H locs) {ls : Array Slot} (hl : lv_has ls 7 [(0, va_rf (some x0)), (2, .int x2), (3, .int x3), (4, .int x4), (5, .int x5), (6, va_rf x6)]) : W p l e (rmX9_sell (res.2.2.1 - s.heap.size) (res.2.2.2 - sB)) s m args below meth c H locs (u.2.1 - s.heap.size) (u.2.2 - sB) (MQ below (gQ Γ (some (.int res.1)) res.2.1 res.2.2.1) args s (res.2.2.1 - s.heap.size) (res.2.2.2 - sB) Γ.2.2.1) (F0 m 93 ls []) := by
  have hx := C.1
  have hb := C.2.1
  have hm := moX9_sell_93 hm57 h
  unfold fX9_sell_93 at h
  refine gx_aload (r := x6) hx hb dX9_sell_93 (lv_at hl 5 rfl) ?_
  refine gx_aload_n (r := (some x0)) hx hb dX9_sell_95 rfl (lv_at hl 0 rfl) ?_
  obtain ⟨v96, e96, h⟩ := ob h
  refine gx_getI C hG.1 rfl e96 fgX9_70 dX9_sell_96 ?_
  obtain ⟨a99, na99, h⟩ := ob h
  obtain ⟨u99, e99, h⟩ := ob h
  obtain ⟨g99, eg99, ev99⟩ := wN_inv e99
  replace hm : gLe u99 res.2 := by rw [ev99]; exact hm
  refine gx_put C hG.1 hS na99 eg99 fgX9_205 fpX9_205 (fun q => by cases q) rfl rfl dX9_sell_99 (fun H locs hg hS => gy_w hG ev99 hg (fun hG => ?_))
  refine gx_aload (r := x6) hx hb dX9_sell_102 (lv_at hl 5 rfl) ?_
  refine lv_iload_n hx hb dX9_sell_104 rfl (lv_at hl 2 rfl) ?_
  refine lv_if_ne (tgt := 120) hx hb dX9_sell_105 (by decide) (fun hc => ?_) (fun hc => ?_)
  · replace h := it_neg hc h
    refine lv_iload_n hx hb dX9_sell_120 rfl (lv_at hl 1 rfl) ?_
    refine gx_aload (r := x6) hx hb dX9_sell_121 (lv_at hl 5 rfl) ?_
    obtain ⟨a123, na123, h⟩ := ob h
    obtain ⟨v123, e123, h⟩ := ob h
    refine gx_getI C hG.1 na123 e123 fgX9_135 dX9_sell_123 ?_
    refine lv_imul hx hb dX9_sell_126 ?_
    refine lv_iload_n hx hb dX9_sell_127 rfl (lv_at hl 2 rfl) ?_
    have n128 : ¬ x3 = 0 := fun q => by rw [if_pos q] at h; cases h
    replace h := it_neg n128 h
    refine lv_idiv hx hb dX9_sell_128 n128 ?_
    exact wX9_sell_129 C hz hk57 hm57 h hG hS (lv_sub hl [0, 1, 2, 3, 4, 5] rfl)
  · replace h := it_pos hc h
    refine lv_iload_n hx hb dX9_sell_108 rfl (lv_at hl 1 rfl) ?_
    refine gx_aload_n (r := (some x0)) hx hb dX9_sell_109 rfl (lv_at hl 0 rfl) ?_
    obtain ⟨v110, e110, h⟩ := ob h
    refine gx_getR C hG.1 rfl e110 fgX9_35 dX9_sell_110 ?_
    obtain ⟨a113, na113, h⟩ := ob h
    obtain ⟨_, eo113, h⟩ := ob h
    obtain ⟨r113, u113, e113, h⟩ := obI h
    obtain ⟨g113, eg113, ev113⟩ := cN_inv e113
    refine gx_cV C hG.1 hS [] na113 eo113 (tJx4a65c_size_8abf5 eg113) qcX9_93 ⟨rfl, rfl, Nat.le_of_ble_eq_true rfl, Nat.le_of_ble_eq_true rfl⟩ ⟨Nat.sub_le_sub_right hm.1 _, Nat.sub_le_sub_right hm.2 _⟩ rfl hl.1 rfl (by simp [gx_cat, gx_catI, gx_catJ]) (st1 := [.int r113, .int x2, va_rf x6]) rfl dX9_sell_113 (fun H locs hg hS2 => gy_w (H0 := _) hG ev113 hg (fun hG => ?_))
    replace hS := hS2
    replace hm : gLe u113 res.2 := by rw [ev113]; exact hm
    have n116 : ¬ r113 = 0 := fun q => by rw [if_pos q] at h; cases h
    replace h := it_neg n116 h
    refine lv_idiv hx hb dX9_sell_116 n116 ?_
    refine lv_goto (tgt := 129) hx hb dX9_sell_117 (by decide) ?_
    exact wX9_sell_129 C hz hk57 hm57 h hG hS (lv_sub hl [0, 1, 2, 3, 4, 5] rfl)
def fX9_sell_57_b (z : Nat → Nat) (x0 : Nat) (x2 : Int32) (x3 : Int32) (x4 : Int32) (x5 : Int32) (u : gN) (k57 : Nat → Int32 → Int32 → Int32 → Int32 → gN → Option (Int32 × gN)) (k148 : Nat → Int32 → gN → Option (Int32 × gN)) : Option (Int32 × gN) :=
  (gR [10] 7 u.1 x0).bind fun v60 =>
  (v60).bind fun a63 =>
  (gO [0] u.1 a63).bind fun _ =>
  bI (cN (fJx4a65c_size_8abf5 a63 u.1) u) fun r63 u63 =>
  if r63 ≤ x5 then (
    k148 x0 x4 u63
  ) else (
    (gR [10] 7 u63.1 x0).bind fun v70 =>
    (v70).bind fun a75 =>
    (gO [0] u63.1 a75).bind fun _ =>
    bI (cN (fJx4a65c_get_915e3 a75 x5 u63.1) u63) fun r75 u75 =>
    (kC [9, 6] u75.1 r75).bind fun _ =>
    (gI [10] 13 u75.1 x0).bind fun v87 =>
    (r75).bind fun a90 =>
    (gO [6, 9] u75.1 a90).bind fun _ =>
    (fX8_become a90 (2 : Int32) v87 u75).bind fun u90 =>
    fX9_sell_93 z x0 x2 x3 x4 x5 r75 u90 k57
  )
set_option maxRecDepth 20000 in
theorem moX9_sell_57_b {z : Nat → Nat} {x0 : Nat} {x2 : Int32} {x3 : Int32} {x4 : Int32} {x5 : Int32} {u : gN} {res : Int32 × gN} {k57 : Nat → Int32 → Int32 → Int32 → Int32 → gN → Option (Int32 × gN)} {k148 : Nat → Int32 → gN → Option (Int32 × gN)} (hm57 : ∀ (x0 : Nat) (x2 : Int32) (x3 : Int32) (x4 : Int32) (x5 : Int32) (u : gN), k57 x0 x2 x3 x4 x5 u = some res → gLe u res.2) (hm148 : ∀ (x0 : Nat) (x4 : Int32) (u : gN), k148 x0 x4 u = some res → gLe u res.2) (h : fX9_sell_57_b z x0 x2 x3 x4 x5 u k57 k148 = some res) : gLe u res.2 := by
  unfold fX9_sell_57_b at h
  obtain ⟨v60, e60, h⟩ := ob h
  obtain ⟨a63, na63, h⟩ := ob h
  obtain ⟨_, eo63, h⟩ := ob h
  obtain ⟨r63, u63, e63, h⟩ := obI h
  refine gLe.tr (cN_le e63) ?_
  by_cases hc : r63 ≤ x5
  · replace h := it_pos hc h
    exact hm148 _ _ _ h
  · replace h := it_neg hc h
    obtain ⟨v70, e70, h⟩ := ob h
    obtain ⟨a75, na75, h⟩ := ob h
    obtain ⟨_, eo75, h⟩ := ob h
    obtain ⟨r75, u75, e75, h⟩ := obI h
    refine gLe.tr (cN_le e75) ?_
    obtain ⟨_, e78, h⟩ := ob h
    obtain ⟨v87, e87, h⟩ := ob h
    obtain ⟨a90, na90, h⟩ := ob h
    obtain ⟨_, eo90, h⟩ := ob h
    obtain ⟨u90, e90, h⟩ := ob h
    refine gLe.tr (moX8_become e90) ?_
    exact moX9_sell_93 hm57 h
set_option maxHeartbeats 4000000 in
set_option maxRecDepth 20000 in
theorem wX9_sell_57_b {z : Nat → Nat}  (C : gC p s m args meth c cX9_sell 7 (some .int) RX9 "sell" Γ)(hz : Γ.2.2.2 = z) {x0 : Nat} {x2 : Int32} {x3 : Int32} {x4 : Int32} {x5 : Int32} {u : gN} {res : Int32 × gN} {k57 : Nat → Int32 → Int32 → Int32 → Int32 → gN → Option (Int32 × gN)} {k148 : Nat → Int32 → gN → Option (Int32 × gN)} (hk57 : ∀ (x0 : Nat) (x2 : Int32) (x3 : Int32) (x4 : Int32) (x5 : Int32) (u : gN) (H : Heap) (locs : List Loc) (ls : Array Slot), k57 x0 x2 x3 x4 x5 u = some res → gAn Γ sB u H → va_S Γ.2.2.1 s.heap H locs → lv_has ls 7 [(0, va_rf (some x0)), (2, .int x2), (3, .int x3), (4, .int x4), (5, .int x5)] → W p l e (rmX9_sell (res.2.2.1 - s.heap.size) (res.2.2.2 - sB)) s m args below meth c H locs (u.2.1 - s.heap.size) (u.2.2 - sB) (MQ below (gQ Γ (some (.int res.1)) res.2.1 res.2.2.1) args s (res.2.2.1 - s.heap.size) (res.2.2.2 - sB) Γ.2.2.1) (F0 m 57 ls [])) (hm57 : ∀ (x0 : Nat) (x2 : Int32) (x3 : Int32) (x4 : Int32) (x5 : Int32) (u : gN), k57 x0 x2 x3 x4 x5 u = some res → gLe u res.2) (hk148 : ∀ (x0 : Nat) (x4 : Int32) (u : gN) (H : Heap) (locs : List Loc) (ls : Array Slot), k148 x0 x4 u = some res → gAn Γ sB u H → va_S Γ.2.2.1 s.heap H locs → lv_has ls 7 [(0, va_rf (some x0)), (4, .int x4)] → W p l e (rmX9_sell (res.2.2.1 - s.heap.size) (res.2.2.2 - sB)) s m args below meth c H locs (u.2.1 - s.heap.size) (u.2.2 - sB) (MQ below (gQ Γ (some (.int res.1)) res.2.1 res.2.2.1) args s (res.2.2.1 - s.heap.size) (res.2.2.2 - sB) Γ.2.2.1) (F0 m 148 ls [])) (hm148 : ∀ (x0 : Nat) (x4 : Int32) (u : gN), k148 x0 x4 u = some res → gLe u res.2) (h : fX9_sell_57_b z x0 x2 x3 x4 x5 u k57 k148 = some res) {H : Heap} {locs : List Loc} (hG : gAn Γ sB u H) (hS : va_S Γ.2.2.1 s.heap H locs) {ls : Array Slot} (hl : lv_has ls 7 [(0, va_rf (some x0)), (2, .int x2), (3, .int x3), (4, .int x4), (5, .int x5)]) : W p l e (rmX9_sell (res.2.2.1 - s.heap.size) (res.2.2.2 - sB)) s m args below meth c H locs (u.2.1 - s.heap.size) (u.2.2 - sB) (MQ below (gQ Γ (some (.int res.1)) res.2.1 res.2.2.1) args s (res.2.2.1 - s.heap.size) (res.2.2.2 - sB) Γ.2.2.1) (F0 m 57 ls []) := by
  have hx := C.1
  have hb := C.2.1
  have hm := moX9_sell_57_b hm57 hm148 h
  unfold fX9_sell_57_b at h
  refine lv_iload hx hb dX9_sell_57 (lv_at hl 4 rfl) ?_
  refine gx_aload_n (r := (some x0)) hx hb dX9_sell_59 rfl (lv_at hl 0 rfl) ?_
  obtain ⟨v60, e60, h⟩ := ob h
  refine gx_getR C hG.1 rfl e60 fgX9_35 dX9_sell_60 ?_
  obtain ⟨a63, na63, h⟩ := ob h
  obtain ⟨_, eo63, h⟩ := ob h
  obtain ⟨r63, u63, e63, h⟩ := obI h
  obtain ⟨g63, eg63, ev63⟩ := cN_inv e63
  refine gx_cV C hG.1 hS [] na63 eo63 (tJx4a65c_size_8abf5 eg63) qcX9_93 ⟨rfl, rfl, Nat.le_of_ble_eq_true rfl, Nat.le_of_ble_eq_true rfl⟩ ⟨Nat.sub_le_sub_right hm.1 _, Nat.sub_le_sub_right hm.2 _⟩ rfl hl.1 rfl (Nat.le_of_ble_eq_true rfl) (st1 := [.int r63, .int x5]) rfl dX9_sell_63 (fun H locs hg hS2 => gy_w (H0 := _) hG ev63 hg (fun hG => ?_))
  replace hS := hS2
  replace hm : gLe u63 res.2 := by rw [ev63]; exact hm
  refine lv_icmp_ge (tgt := 148) hx hb dX9_sell_66 (by decide) (fun hc => ?_) (fun hc => ?_)
  · replace h := it_pos hc h
    exact hk148 _ _ _ _ _ _ h hG hS (lv_sub hl [0, 3] rfl)
  · replace h := it_neg hc h
    refine gx_aload_n (r := (some x0)) hx hb dX9_sell_69 rfl (lv_at hl 0 rfl) ?_
    obtain ⟨v70, e70, h⟩ := ob h
    refine gx_getR C hG.1 rfl e70 fgX9_35 dX9_sell_70 ?_
    refine lv_iload hx hb dX9_sell_73 (lv_at hl 4 rfl) ?_
    obtain ⟨a75, na75, h⟩ := ob h
    obtain ⟨_, eo75, h⟩ := ob h
    obtain ⟨r75, u75, e75, h⟩ := obI h
    obtain ⟨g75, eg75, ev75⟩ := cN_inv e75
    refine gx_cV C hG.1 hS [.int x5] na75 eo75 (tJx4a65c_get_915e3 eg75) qcX9_144 ⟨rfl, rfl, Nat.le_of_ble_eq_true rfl, Nat.le_of_ble_eq_true rfl⟩ ⟨Nat.sub_le_sub_right hm.1 _, Nat.sub_le_sub_right hm.2 _⟩ rfl hl.1 rfl (Nat.le_of_ble_eq_true rfl) (st1 := [va_rf r75]) rfl dX9_sell_75 (fun H locs hg hS2 => gy_w (H0 := _) hG ev75 hg (fun hG => ?_))
    replace hS := hS2
    replace hm : gLe u75 res.2 := by rw [ev75]; exact hm
    obtain ⟨_, e78, h⟩ := ob h
    refine gx_cast C hG.1 e78 ckX9_102 dX9_sell_78 ?_
    refine gx_astore (r := r75) (i := 6) (lv' := [(6, va_rf r75), (0, va_rf (some x0)), (2, .int x2), (3, .int x3), (4, .int x4), (5, .int x5)]) hx hb dX9_sell_81 hl (by decide) rfl (fun ls hl => ?_)
    refine gx_aload (r := r75) hx hb dX9_sell_83 (lv_at hl 0 rfl) ?_
    refine lv_iconst (v := 2) hx hb dX9_sell_85 (by decide) ?_
    refine gx_aload_n (r := (some x0)) hx hb dX9_sell_86 rfl (lv_at hl 1 rfl) ?_
    obtain ⟨v87, e87, h⟩ := ob h
    refine gx_getI C hG.1 rfl e87 fgX9_70 dX9_sell_87 ?_
    obtain ⟨a90, na90, h⟩ := ob h
    obtain ⟨_, eo90, h⟩ := ob h
    obtain ⟨u90, e90, h⟩ := ob h
    have hle := moX8_become e90
    have hm2 : gLe u90 res.2 := by
      exact moX9_sell_93 hm57 h
    refine gx_cU C hG.1 hS [.int (2 : Int32), .int v87] na90 eo90 (tX8_become e90) qcX9_107 ⟨rfl, rfl, Nat.le_of_ble_eq_true rfl, Nat.le_of_ble_eq_true rfl⟩ (gy_room hG hS hle ⟨Nat.sub_le_sub_right hm2.1 _, Nat.sub_le_sub_right hm2.2 _⟩) rfl hl.1 rfl (Nat.le_of_ble_eq_true rfl) (st1 := []) rfl dX9_sell_90 (fun H locs hg hS2 => gy_ret hG hS hle hg (fun hG => ?_))
    replace hS := hS2
    exact wX9_sell_93 C hz hk57 hm57 h hG hS (lv_sub hl [1, 2, 3, 4, 5, 0] rfl)
def fX9_sell_57 (z : Nat → Nat) (k148 : Nat → Int32 → gN → Option (Int32 × gN)) : Nat → Nat → Int32 → Int32 → Int32 → Int32 → gN → Option (Int32 × gN)
  | 0 => fun _ _ _ _ _ _ => none
  | n + 1 => fun x0 x2 x3 x4 x5 u => fX9_sell_57_b z x0 x2 x3 x4 x5 u (fX9_sell_57 z k148 n) k148 
theorem moX9_sell_57 {z : Nat → Nat} {res : Int32 × gN} {k148 : Nat → Int32 → gN → Option (Int32 × gN)} (hm148 : ∀ (x0 : Nat) (x4 : Int32) (u : gN), k148 x0 x4 u = some res → gLe u res.2) (n : Nat) : ∀ {x0 : Nat} {x2 : Int32} {x3 : Int32} {x4 : Int32} {x5 : Int32} {u : gN}, fX9_sell_57 z k148 n x0 x2 x3 x4 x5 u = some res → gLe u res.2 := by
  induction n with
  | zero => intro _ _ _ _ _ _ h; cases (show (none : Option (Int32 × gN)) = some res from h)
  | succ n ih => intro _ _ _ _ _ _ h; exact moX9_sell_57_b (z := z) (fun _ _ _ _ _ _ h => ih h) hm148 h
theorem wX9_sell_57 {z : Nat → Nat} (C : gC p s m args meth c cX9_sell 7 (some .int) RX9 "sell" Γ) (hz : Γ.2.2.2 = z) {res : Int32 × gN} {k148 : Nat → Int32 → gN → Option (Int32 × gN)} (hk148 : ∀ (x0 : Nat) (x4 : Int32) (u : gN) (H : Heap) (locs : List Loc) (ls : Array Slot), k148 x0 x4 u = some res → gAn Γ sB u H → va_S Γ.2.2.1 s.heap H locs → lv_has ls 7 [(0, va_rf (some x0)), (4, .int x4)] → W p l e (rmX9_sell (res.2.2.1 - s.heap.size) (res.2.2.2 - sB)) s m args below meth c H locs (u.2.1 - s.heap.size) (u.2.2 - sB) (MQ below (gQ Γ (some (.int res.1)) res.2.1 res.2.2.1) args s (res.2.2.1 - s.heap.size) (res.2.2.2 - sB) Γ.2.2.1) (F0 m 148 ls [])) (hm148 : ∀ (x0 : Nat) (x4 : Int32) (u : gN), k148 x0 x4 u = some res → gLe u res.2) (n : Nat) : ∀ {x0 : Nat} {x2 : Int32} {x3 : Int32} {x4 : Int32} {x5 : Int32} {u : gN} {H : Heap} {locs : List Loc} {ls : Array Slot}, fX9_sell_57 z k148 n x0 x2 x3 x4 x5 u = some res → gAn Γ sB u H → va_S Γ.2.2.1 s.heap H locs → lv_has ls 7 [(0, va_rf (some x0)), (2, .int x2), (3, .int x3), (4, .int x4), (5, .int x5)] → W p l e (rmX9_sell (res.2.2.1 - s.heap.size) (res.2.2.2 - sB)) s m args below meth c H locs (u.2.1 - s.heap.size) (u.2.2 - sB) (MQ below (gQ Γ (some (.int res.1)) res.2.1 res.2.2.1) args s (res.2.2.1 - s.heap.size) (res.2.2.2 - sB) Γ.2.2.1) (F0 m 57 ls []) := by
  induction n with
  | zero => intro _ _ _ _ _ _ _ _ _ h _ _ _; cases (show (none : Option (Int32 × gN)) = some res from h)
  | succ n ih => intro _ _ _ _ _ _ _ _ _ h hG hS hl; exact wX9_sell_57_b C hz (fun _ _ _ _ _ _ _ _ _ h hG hS hl => ih h hG hS hl) (fun _ _ _ _ _ _ h => moX9_sell_57 hm148 n h) hk148 hm148 h hG hS hl
def fX9_sell_151_b (z : Nat → Nat) (x0 : Nat) (x4 : Int32) (x5 : Int32) (u : gN) (k151 : Nat → Int32 → Int32 → gN → Option (Int32 × gN)) : Option (Int32 × gN) :=
  (gR [10] 7 u.1 x0).bind fun v154 =>
  (v154).bind fun a157 =>
  (gO [0] u.1 a157).bind fun _ =>
  bI (cN (fJx4a65c_size_8abf5 a157 u.1) u) fun r157 u157 =>
  if r157 ≤ x5 then (
    some (x4, u157)
  ) else (
    if x4 ≤ x5 then (
      some (x4, u157)
    ) else (
      (gR [10] 7 u157.1 x0).bind fun v171 =>
      (v171).bind fun a176 =>
      (gO [0] u157.1 a176).bind fun _ =>
      bI (cN (fJx4a65c_get_915e3 a176 x5 u157.1) u157) fun r176 u176 =>
      (kC [9, 6] u176.1 r176).bind fun _ =>
      (r176).bind fun a183 =>
      (gI [9, 6] 9 u176.1 a183).bind fun v183 =>
      (r176).bind fun a188 =>
      (wN (pV [9, 6] 9 (.int (v183 + (1 : Int32))) u176.1 a188) u176).bind fun u188 =>
      k151 x0 x4 (x5 + (1 : Int32)) u188
    )
  )
set_option maxRecDepth 20000 in
theorem moX9_sell_151_b {z : Nat → Nat} {x0 : Nat} {x4 : Int32} {x5 : Int32} {u : gN} {res : Int32 × gN} {k151 : Nat → Int32 → Int32 → gN → Option (Int32 × gN)} (hm151 : ∀ (x0 : Nat) (x4 : Int32) (x5 : Int32) (u : gN), k151 x0 x4 x5 u = some res → gLe u res.2) (h : fX9_sell_151_b z x0 x4 x5 u k151 = some res) : gLe u res.2 := by
  unfold fX9_sell_151_b at h
  obtain ⟨v154, e154, h⟩ := ob h
  obtain ⟨a157, na157, h⟩ := ob h
  obtain ⟨_, eo157, h⟩ := ob h
  obtain ⟨r157, u157, e157, h⟩ := obI h
  refine gLe.tr (cN_le e157) ?_
  by_cases hc : r157 ≤ x5
  · replace h := it_pos hc h
    cases Option.some.inj h
    exact gLe.rf _
  · replace h := it_neg hc h
    by_cases hc : x4 ≤ x5
    · replace h := it_pos hc h
      cases Option.some.inj h
      exact gLe.rf _
    · replace h := it_neg hc h
      obtain ⟨v171, e171, h⟩ := ob h
      obtain ⟨a176, na176, h⟩ := ob h
      obtain ⟨_, eo176, h⟩ := ob h
      obtain ⟨r176, u176, e176, h⟩ := obI h
      refine gLe.tr (cN_le e176) ?_
      obtain ⟨_, e179, h⟩ := ob h
      obtain ⟨a183, na183, h⟩ := ob h
      obtain ⟨v183, e183, h⟩ := ob h
      obtain ⟨a188, na188, h⟩ := ob h
      obtain ⟨u188, e188, h⟩ := ob h
      refine gLe.tr (wN_le e188) ?_
      exact hm151 _ _ _ _ h
set_option maxHeartbeats 4000000 in
set_option maxRecDepth 20000 in
theorem wX9_sell_151_b {z : Nat → Nat}  (C : gC p s m args meth c cX9_sell 7 (some .int) RX9 "sell" Γ)(hz : Γ.2.2.2 = z) {x0 : Nat} {x4 : Int32} {x5 : Int32} {u : gN} {res : Int32 × gN} {k151 : Nat → Int32 → Int32 → gN → Option (Int32 × gN)} (hk151 : ∀ (x0 : Nat) (x4 : Int32) (x5 : Int32) (u : gN) (H : Heap) (locs : List Loc) (ls : Array Slot), k151 x0 x4 x5 u = some res → gAn Γ sB u H → va_S Γ.2.2.1 s.heap H locs → lv_has ls 7 [(0, va_rf (some x0)), (4, .int x4), (5, .int x5)] → W p l e (rmX9_sell (res.2.2.1 - s.heap.size) (res.2.2.2 - sB)) s m args below meth c H locs (u.2.1 - s.heap.size) (u.2.2 - sB) (MQ below (gQ Γ (some (.int res.1)) res.2.1 res.2.2.1) args s (res.2.2.1 - s.heap.size) (res.2.2.2 - sB) Γ.2.2.1) (F0 m 151 ls [])) (hm151 : ∀ (x0 : Nat) (x4 : Int32) (x5 : Int32) (u : gN), k151 x0 x4 x5 u = some res → gLe u res.2) (h : fX9_sell_151_b z x0 x4 x5 u k151 = some res) {H : Heap} {locs : List Loc} (hG : gAn Γ sB u H) (hS : va_S Γ.2.2.1 s.heap H locs) {ls : Array Slot} (hl : lv_has ls 7 [(0, va_rf (some x0)), (4, .int x4), (5, .int x5)]) : W p l e (rmX9_sell (res.2.2.1 - s.heap.size) (res.2.2.2 - sB)) s m args below meth c H locs (u.2.1 - s.heap.size) (u.2.2 - sB) (MQ below (gQ Γ (some (.int res.1)) res.2.1 res.2.2.1) args s (res.2.2.1 - s.heap.size) (res.2.2.2 - sB) Γ.2.2.1) (F0 m 151 ls []) := by
  have hx := C.1
  have hb := C.2.1
  have hm := moX9_sell_151_b hm151 h
  unfold fX9_sell_151_b at h
  refine lv_iload hx hb dX9_sell_151 (lv_at hl 2 rfl) ?_
  refine gx_aload_n (r := (some x0)) hx hb dX9_sell_153 rfl (lv_at hl 0 rfl) ?_
  obtain ⟨v154, e154, h⟩ := ob h
  refine gx_getR C hG.1 rfl e154 fgX9_35 dX9_sell_154 ?_
  obtain ⟨a157, na157, h⟩ := ob h
  obtain ⟨_, eo157, h⟩ := ob h
  obtain ⟨r157, u157, e157, h⟩ := obI h
  obtain ⟨g157, eg157, ev157⟩ := cN_inv e157
  refine gx_cV C hG.1 hS [] na157 eo157 (tJx4a65c_size_8abf5 eg157) qcX9_93 ⟨rfl, rfl, Nat.le_of_ble_eq_true rfl, Nat.le_of_ble_eq_true rfl⟩ ⟨Nat.sub_le_sub_right hm.1 _, Nat.sub_le_sub_right hm.2 _⟩ rfl hl.1 rfl (Nat.le_of_ble_eq_true rfl) (st1 := [.int r157, .int x5]) rfl dX9_sell_157 (fun H locs hg hS2 => gy_w (H0 := _) hG ev157 hg (fun hG => ?_))
  replace hS := hS2
  replace hm : gLe u157 res.2 := by rw [ev157]; exact hm
  refine lv_icmp_ge (tgt := 197) hx hb dX9_sell_160 (by decide) (fun hc => ?_) (fun hc => ?_)
  · replace h := it_pos hc h
    refine lv_iload hx hb dX9_sell_197 (lv_at hl 1 rfl) ?_
    cases Option.some.inj h
    exact gx_reti C hG.1 hS dX9_sell_199
  · replace h := it_neg hc h
    refine lv_iload hx hb dX9_sell_163 (lv_at hl 2 rfl) ?_
    refine lv_iload hx hb dX9_sell_165 (lv_at hl 1 rfl) ?_
    refine lv_icmp_ge (tgt := 197) hx hb dX9_sell_167 (by decide) (fun hc => ?_) (fun hc => ?_)
    · replace h := it_pos hc h
      refine lv_iload hx hb dX9_sell_197 (lv_at hl 1 rfl) ?_
      cases Option.some.inj h
      exact gx_reti C hG.1 hS dX9_sell_199
    · replace h := it_neg hc h
      refine gx_aload_n (r := (some x0)) hx hb dX9_sell_170 rfl (lv_at hl 0 rfl) ?_
      obtain ⟨v171, e171, h⟩ := ob h
      refine gx_getR C hG.1 rfl e171 fgX9_35 dX9_sell_171 ?_
      refine lv_iload hx hb dX9_sell_174 (lv_at hl 2 rfl) ?_
      obtain ⟨a176, na176, h⟩ := ob h
      obtain ⟨_, eo176, h⟩ := ob h
      obtain ⟨r176, u176, e176, h⟩ := obI h
      obtain ⟨g176, eg176, ev176⟩ := cN_inv e176
      refine gx_cV C hG.1 hS [.int x5] na176 eo176 (tJx4a65c_get_915e3 eg176) qcX9_144 ⟨rfl, rfl, Nat.le_of_ble_eq_true rfl, Nat.le_of_ble_eq_true rfl⟩ ⟨Nat.sub_le_sub_right hm.1 _, Nat.sub_le_sub_right hm.2 _⟩ rfl hl.1 rfl (Nat.le_of_ble_eq_true rfl) (st1 := [va_rf r176]) rfl dX9_sell_176 (fun H locs hg hS2 => gy_w (H0 := _) hG ev176 hg (fun hG => ?_))
      replace hS := hS2
      replace hm : gLe u176 res.2 := by rw [ev176]; exact hm
      obtain ⟨_, e179, h⟩ := ob h
      refine gx_cast C hG.1 e179 ckX9_102 dX9_sell_179 ?_
      refine lv_dup hx hb dX9_sell_182 (by first | rfl | exact gx_cat _) ?_
      obtain ⟨a183, na183, h⟩ := ob h
      obtain ⟨v183, e183, h⟩ := ob h
      refine gx_getI C hG.1 na183 e183 fgX9_259 dX9_sell_183 ?_
      refine lv_iconst (v := 1) hx hb dX9_sell_186 (by decide) ?_
      refine lv_iadd hx hb dX9_sell_187 ?_
      obtain ⟨a188, na188, h⟩ := ob h
      obtain ⟨u188, e188, h⟩ := ob h
      obtain ⟨g188, eg188, ev188⟩ := wN_inv e188
      replace hm : gLe u188 res.2 := by rw [ev188]; exact hm
      refine gx_put C hG.1 hS na188 eg188 fgX9_259 fpX9_259 (fun q => by cases q) rfl rfl dX9_sell_188 (fun H locs hg hS => gy_w hG ev188 hg (fun hG => ?_))
      refine lv_iinc (v := x5 + (1 : Int32)) (lv' := [(5, .int (x5 + (1 : Int32))), (0, va_rf (some x0)), (4, .int x4)]) hx hb dX9_sell_191 hl (k := 2) rfl rfl (by decide) rfl (fun ls hl => ?_)
      refine lv_goto (tgt := 151) hx hb dX9_sell_194 (by decide) ?_
      exact hk151 _ _ _ _ _ _ _ h hG hS (lv_sub hl [1, 2, 0] rfl)
def fX9_sell_151 (z : Nat → Nat) : Nat → Nat → Int32 → Int32 → gN → Option (Int32 × gN)
  | 0 => fun _ _ _ _ => none
  | n + 1 => fun x0 x4 x5 u => fX9_sell_151_b z x0 x4 x5 u (fX9_sell_151 z n) 
theorem moX9_sell_151 {z : Nat → Nat} {res : Int32 × gN} (n : Nat) : ∀ {x0 : Nat} {x4 : Int32} {x5 : Int32} {u : gN}, fX9_sell_151 z n x0 x4 x5 u = some res → gLe u res.2 := by
  induction n with
  | zero => intro _ _ _ _ h; cases (show (none : Option (Int32 × gN)) = some res from h)
  | succ n ih => intro _ _ _ _ h; exact moX9_sell_151_b (z := z) (fun _ _ _ _ h => ih h) h
theorem wX9_sell_151 {z : Nat → Nat} (C : gC p s m args meth c cX9_sell 7 (some .int) RX9 "sell" Γ) (hz : Γ.2.2.2 = z) {res : Int32 × gN} (n : Nat) : ∀ {x0 : Nat} {x4 : Int32} {x5 : Int32} {u : gN} {H : Heap} {locs : List Loc} {ls : Array Slot}, fX9_sell_151 z n x0 x4 x5 u = some res → gAn Γ sB u H → va_S Γ.2.2.1 s.heap H locs → lv_has ls 7 [(0, va_rf (some x0)), (4, .int x4), (5, .int x5)] → W p l e (rmX9_sell (res.2.2.1 - s.heap.size) (res.2.2.2 - sB)) s m args below meth c H locs (u.2.1 - s.heap.size) (u.2.2 - sB) (MQ below (gQ Γ (some (.int res.1)) res.2.1 res.2.2.1) args s (res.2.2.1 - s.heap.size) (res.2.2.2 - sB) Γ.2.2.1) (F0 m 151 ls []) := by
  induction n with
  | zero => intro _ _ _ _ _ _ _ h _ _ _; cases (show (none : Option (Int32 × gN)) = some res from h)
  | succ n ih => intro _ _ _ _ _ _ _ h hG hS hl; exact wX9_sell_151_b C hz (fun _ _ _ _ _ _ _ h hG hS hl => ih h hG hS hl) (fun _ _ _ _ h => moX9_sell_151 n h) h hG hS hl
def fX9_sell_33 (z : Nat → Nat) (x0 : Nat) (x2 : Int32) (u : gN) : Option (Int32 × gN) :=
  (gO [10] u.1 x0).bind fun _ =>
  bI (cN (fX9_chosenMayBeSold x0 u.1) u) fun r34 u34 =>
  if r34 = 0 then (
    (gO [10] u34.1 x0).bind fun _ =>
    bI (cN (fX9_finding x0 (3 : Int32) u34.1) u34) fun r42 u42 =>
    some (r42, u42)
  ) else (
    (gO [10] u34.1 x0).bind fun _ =>
    bI (cN (fX9_chosenWorths x0 u34.1) u34) fun r47 u47 =>
    fX9_sell_57 z (fun x0 x4 u =>
          fX9_sell_151 z  FU x0 x4 (0 : Int32) u) FU x0 x2 r47 x2 (0 : Int32) u47
  )
set_option maxRecDepth 20000 in
theorem moX9_sell_33 {z : Nat → Nat} {x0 : Nat} {x2 : Int32} {u : gN} {res : Int32 × gN} (h : fX9_sell_33 z x0 x2 u = some res) : gLe u res.2 := by
  unfold fX9_sell_33 at h
  obtain ⟨_, eo34, h⟩ := ob h
  obtain ⟨r34, u34, e34, h⟩ := obI h
  refine gLe.tr (cN_le e34) ?_
  by_cases hc : r34 = 0
  · replace h := it_pos hc h
    obtain ⟨_, eo42, h⟩ := ob h
    obtain ⟨r42, u42, e42, h⟩ := obI h
    refine gLe.tr (cN_le e42) ?_
    cases Option.some.inj h
    exact gLe.rf _
  · replace h := it_neg hc h
    obtain ⟨_, eo47, h⟩ := ob h
    obtain ⟨r47, u47, e47, h⟩ := obI h
    refine gLe.tr (cN_le e47) ?_
    refine moX9_sell_57 ?_ FU h
    · intro x0 x4 u h
      exact moX9_sell_151  FU h
set_option maxHeartbeats 4000000 in
set_option maxRecDepth 20000 in
theorem wX9_sell_33 {z : Nat → Nat}  (C : gC p s m args meth c cX9_sell 7 (some .int) RX9 "sell" Γ)(hz : Γ.2.2.2 = z) {x0 : Nat} {x2 : Int32} {u : gN} {res : Int32 × gN} (h : fX9_sell_33 z x0 x2 u = some res) {H : Heap} {locs : List Loc} (hG : gAn Γ sB u H) (hS : va_S Γ.2.2.1 s.heap H locs) {ls : Array Slot} (hl : lv_has ls 7 [(0, va_rf (some x0)), (2, .int x2)]) : W p l e (rmX9_sell (res.2.2.1 - s.heap.size) (res.2.2.2 - sB)) s m args below meth c H locs (u.2.1 - s.heap.size) (u.2.2 - sB) (MQ below (gQ Γ (some (.int res.1)) res.2.1 res.2.2.1) args s (res.2.2.1 - s.heap.size) (res.2.2.2 - sB) Γ.2.2.1) (F0 m 33 ls []) := by
  have hx := C.1
  have hb := C.2.1
  have hm := moX9_sell_33 h
  unfold fX9_sell_33 at h
  refine gx_aload_n (r := (some x0)) hx hb dX9_sell_33 rfl (lv_at hl 0 rfl) ?_
  obtain ⟨_, eo34, h⟩ := ob h
  obtain ⟨r34, u34, e34, h⟩ := obI h
  obtain ⟨g34, eg34, ev34⟩ := cN_inv e34
  refine gx_cV C hG.1 hS [] rfl eo34 (tX9_chosenMayBeSold eg34) qcX9_253 ⟨rfl, rfl, Nat.le_of_ble_eq_true rfl, Nat.le_of_ble_eq_true rfl⟩ ⟨Nat.sub_le_sub_right hm.1 _, Nat.sub_le_sub_right hm.2 _⟩ rfl hl.1 rfl (Nat.le_of_ble_eq_true rfl) (st1 := [.int r34]) rfl dX9_sell_34 (fun H locs hg hS2 => gy_w (H0 := _) hG ev34 hg (fun hG => ?_))
  replace hS := hS2
  replace hm : gLe u34 res.2 := by rw [ev34]; exact hm
  refine lv_if_ne (tgt := 46) hx hb dX9_sell_37 (by decide) (fun hc => ?_) (fun hc => ?_)
  · replace h := it_neg hc h
    refine gx_aload_n (r := (some x0)) hx hb dX9_sell_46 rfl (lv_at hl 0 rfl) ?_
    obtain ⟨_, eo47, h⟩ := ob h
    obtain ⟨r47, u47, e47, h⟩ := obI h
    obtain ⟨g47, eg47, ev47⟩ := cN_inv e47
    refine gx_cV C hG.1 hS [] rfl eo47 (tX9_chosenWorths eg47) qcX9_256 ⟨rfl, rfl, Nat.le_of_ble_eq_true rfl, Nat.le_of_ble_eq_true rfl⟩ ⟨Nat.sub_le_sub_right hm.1 _, Nat.sub_le_sub_right hm.2 _⟩ rfl hl.1 rfl (Nat.le_of_ble_eq_true rfl) (st1 := [.int r47]) rfl dX9_sell_47 (fun H locs hg hS2 => gy_w (H0 := _) hG ev47 hg (fun hG => ?_))
    replace hS := hS2
    replace hm : gLe u47 res.2 := by rw [ev47]; exact hm
    refine lv_istore_n (i := 3) (lv' := [(3, .int r47), (0, va_rf (some x0)), (2, .int x2)]) hx hb dX9_sell_50 rfl hl (by decide) rfl (fun ls hl => ?_)
    refine lv_iload_n hx hb dX9_sell_51 rfl (lv_at hl 2 rfl) ?_
    refine lv_istore (i := 4) (lv' := [(4, .int x2), (3, .int r47), (0, va_rf (some x0)), (2, .int x2)]) hx hb dX9_sell_52 hl (by decide) rfl (fun ls hl => ?_)
    refine lv_iconst (v := 0) hx hb dX9_sell_54 (by decide) ?_
    refine lv_istore (i := 5) (lv' := [(5, .int (0 : Int32)), (4, .int x2), (3, .int r47), (0, va_rf (some x0)), (2, .int x2)]) hx hb dX9_sell_55 hl (by decide) rfl (fun ls hl => ?_)
    refine wX9_sell_57 C hz ?_ ?_ FU h hG hS (lv_sub hl [3, 4, 2, 1, 0] rfl)
    · intro x0 x4 u H locs ls h hG hS hl
      have hm : gLe u res.2 := by
        exact moX9_sell_151  FU h
      refine lv_iconst (v := 0) hx hb dX9_sell_148 (by decide) ?_
      refine lv_istore (i := 5) (lv' := [(5, .int (0 : Int32)), (0, va_rf (some x0)), (4, .int x4)]) hx hb dX9_sell_149 hl (by decide) rfl (fun ls hl => ?_)
      exact wX9_sell_151 C hz  FU h hG hS (lv_sub hl [1, 2, 0] rfl)
    · intro x0 x4 u h
      exact moX9_sell_151  FU h
  · replace h := it_pos hc h
    refine gx_aload_n (r := (some x0)) hx hb dX9_sell_40 rfl (lv_at hl 0 rfl) ?_
    refine lv_iconst (v := 3) hx hb dX9_sell_41 (by decide) ?_
    obtain ⟨_, eo42, h⟩ := ob h
    obtain ⟨r42, u42, e42, h⟩ := obI h
    obtain ⟨g42, eg42, ev42⟩ := cN_inv e42
    refine gx_cV C hG.1 hS [.int (3 : Int32)] rfl eo42 (tX9_finding eg42) qcX9_89 ⟨rfl, rfl, Nat.le_of_ble_eq_true rfl, Nat.le_of_ble_eq_true rfl⟩ ⟨Nat.sub_le_sub_right hm.1 _, Nat.sub_le_sub_right hm.2 _⟩ rfl hl.1 rfl (Nat.le_of_ble_eq_true rfl) (st1 := [.int r42]) rfl dX9_sell_42 (fun H locs hg hS2 => gy_w (H0 := _) hG ev42 hg (fun hG => ?_))
    replace hS := hS2
    replace hm : gLe u42 res.2 := by rw [ev42]; exact hm
    cases Option.some.inj h
    exact gx_reti C hG.1 hS dX9_sell_45
def fX9_sell (z : Nat → Nat) (x0 : Nat) (x1 : Int32) (x2 : Int32) (u : gN) : Option (Int32 × gN) :=
  if x1 = 0 then (
    (gO [10] u.1 x0).bind fun _ =>
    bI (cN (fX9_finding x0 (1 : Int32) u.1) u) fun r24 u24 =>
    some (r24, u24)
  ) else (
    (gO [10] u.1 x0).bind fun _ =>
    bI (cN (fX9_hasBitOfNoThing x0 x1 u.1) u) fun r6 u6 =>
    if r6 = 0 then (
      bI (cN (fX9_within x2 (0 : Int32) (100000 : Int32) u6.1) u6) fun r16 u16 =>
      if r16 = 0 then (
        (gO [10] u16.1 x0).bind fun _ =>
        bI (cN (fX9_finding x0 (1 : Int32) u16.1) u16) fun r24 u24 =>
        some (r24, u24)
      ) else (
        (gO [10] u16.1 x0).bind fun _ =>
        (fX9_choose z x0 x1 u16).bind fun u30 =>
        fX9_sell_33 z x0 x2 u30 
      )
    ) else (
      (gO [10] u6.1 x0).bind fun _ =>
      bI (cN (fX9_finding x0 (1 : Int32) u6.1) u6) fun r24 u24 =>
      some (r24, u24)
    )
  )
set_option maxRecDepth 20000 in
theorem moX9_sell {z : Nat → Nat} {x0 : Nat} {x1 : Int32} {x2 : Int32} {u : gN} {res : Int32 × gN} (h : fX9_sell z x0 x1 x2 u = some res) : gLe u res.2 := by
  unfold fX9_sell at h
  by_cases hc : x1 = 0
  · replace h := it_pos hc h
    obtain ⟨_, eo24, h⟩ := ob h
    obtain ⟨r24, u24, e24, h⟩ := obI h
    refine gLe.tr (cN_le e24) ?_
    cases Option.some.inj h
    exact gLe.rf _
  · replace h := it_neg hc h
    obtain ⟨_, eo6, h⟩ := ob h
    obtain ⟨r6, u6, e6, h⟩ := obI h
    refine gLe.tr (cN_le e6) ?_
    by_cases hc : r6 = 0
    · replace h := it_pos hc h
      obtain ⟨r16, u16, e16, h⟩ := obI h
      refine gLe.tr (cN_le e16) ?_
      by_cases hc : r16 = 0
      · replace h := it_pos hc h
        obtain ⟨_, eo24, h⟩ := ob h
        obtain ⟨r24, u24, e24, h⟩ := obI h
        refine gLe.tr (cN_le e24) ?_
        cases Option.some.inj h
        exact gLe.rf _
      · replace h := it_neg hc h
        obtain ⟨_, eo30, h⟩ := ob h
        obtain ⟨u30, e30, h⟩ := ob h
        refine gLe.tr (moX9_choose e30) ?_
        exact moX9_sell_33  h
    · replace h := it_neg hc h
      obtain ⟨_, eo24, h⟩ := ob h
      obtain ⟨r24, u24, e24, h⟩ := obI h
      refine gLe.tr (cN_le e24) ?_
      cases Option.some.inj h
      exact gLe.rf _
set_option maxHeartbeats 4000000 in
set_option maxRecDepth 20000 in
theorem wX9_sell {z : Nat → Nat}  (C : gC p s m args meth c cX9_sell 7 (some .int) RX9 "sell" Γ)(hz : Γ.2.2.2 = z) {x0 : Nat} {x1 : Int32} {x2 : Int32} {u : gN} {res : Int32 × gN} (h : fX9_sell z x0 x1 x2 u = some res) {H : Heap} {locs : List Loc} (hG : gAn Γ sB u H) (hS : va_S Γ.2.2.1 s.heap H locs) {ls : Array Slot} (hl : lv_has ls 7 [(0, va_rf (some x0)), (1, .int x1), (2, .int x2)]) : W p l e (rmX9_sell (res.2.2.1 - s.heap.size) (res.2.2.2 - sB)) s m args below meth c H locs (u.2.1 - s.heap.size) (u.2.2 - sB) (MQ below (gQ Γ (some (.int res.1)) res.2.1 res.2.2.1) args s (res.2.2.1 - s.heap.size) (res.2.2.2 - sB) Γ.2.2.1) (F0 m 0 ls []) := by
  have hx := C.1
  have hb := C.2.1
  have hm := moX9_sell h
  unfold fX9_sell at h
  refine lv_iload_n hx hb dX9_sell_0 rfl (lv_at hl 1 rfl) ?_
  refine lv_if_eq (tgt := 22) hx hb dX9_sell_1 (by decide) (fun hc => ?_) (fun hc => ?_)
  · replace h := it_pos hc h
    refine gx_aload_n (r := (some x0)) hx hb dX9_sell_22 rfl (lv_at hl 0 rfl) ?_
    refine lv_iconst (v := 1) hx hb dX9_sell_23 (by decide) ?_
    obtain ⟨_, eo24, h⟩ := ob h
    obtain ⟨r24, u24, e24, h⟩ := obI h
    obtain ⟨g24, eg24, ev24⟩ := cN_inv e24
    refine gx_cV C hG.1 hS [.int (1 : Int32)] rfl eo24 (tX9_finding eg24) qcX9_89 ⟨rfl, rfl, Nat.le_of_ble_eq_true rfl, Nat.le_of_ble_eq_true rfl⟩ ⟨Nat.sub_le_sub_right hm.1 _, Nat.sub_le_sub_right hm.2 _⟩ rfl hl.1 rfl (Nat.le_of_ble_eq_true rfl) (st1 := [.int r24]) rfl dX9_sell_24 (fun H locs hg hS2 => gy_w (H0 := _) hG ev24 hg (fun hG => ?_))
    replace hS := hS2
    replace hm : gLe u24 res.2 := by rw [ev24]; exact hm
    cases Option.some.inj h
    exact gx_reti C hG.1 hS dX9_sell_27
  · replace h := it_neg hc h
    refine gx_aload_n (r := (some x0)) hx hb dX9_sell_4 rfl (lv_at hl 0 rfl) ?_
    refine lv_iload_n hx hb dX9_sell_5 rfl (lv_at hl 1 rfl) ?_
    obtain ⟨_, eo6, h⟩ := ob h
    obtain ⟨r6, u6, e6, h⟩ := obI h
    obtain ⟨g6, eg6, ev6⟩ := cN_inv e6
    refine gx_cV C hG.1 hS [.int x1] rfl eo6 (tX9_hasBitOfNoThing eg6) qcX9_246 ⟨rfl, rfl, Nat.le_of_ble_eq_true rfl, Nat.le_of_ble_eq_true rfl⟩ ⟨Nat.sub_le_sub_right hm.1 _, Nat.sub_le_sub_right hm.2 _⟩ rfl hl.1 rfl (Nat.le_of_ble_eq_true rfl) (st1 := [.int r6]) rfl dX9_sell_6 (fun H locs hg hS2 => gy_w (H0 := _) hG ev6 hg (fun hG => ?_))
    replace hS := hS2
    replace hm : gLe u6 res.2 := by rw [ev6]; exact hm
    refine lv_if_ne (tgt := 22) hx hb dX9_sell_9 (by decide) (fun hc => ?_) (fun hc => ?_)
    · replace h := it_neg hc h
      refine gx_aload_n (r := (some x0)) hx hb dX9_sell_22 rfl (lv_at hl 0 rfl) ?_
      refine lv_iconst (v := 1) hx hb dX9_sell_23 (by decide) ?_
      obtain ⟨_, eo24, h⟩ := ob h
      obtain ⟨r24, u24, e24, h⟩ := obI h
      obtain ⟨g24, eg24, ev24⟩ := cN_inv e24
      refine gx_cV C hG.1 hS [.int (1 : Int32)] rfl eo24 (tX9_finding eg24) qcX9_89 ⟨rfl, rfl, Nat.le_of_ble_eq_true rfl, Nat.le_of_ble_eq_true rfl⟩ ⟨Nat.sub_le_sub_right hm.1 _, Nat.sub_le_sub_right hm.2 _⟩ rfl hl.1 rfl (Nat.le_of_ble_eq_true rfl) (st1 := [.int r24]) rfl dX9_sell_24 (fun H locs hg hS2 => gy_w (H0 := _) hG ev24 hg (fun hG => ?_))
      replace hS := hS2
      replace hm : gLe u24 res.2 := by rw [ev24]; exact hm
      cases Option.some.inj h
      exact gx_reti C hG.1 hS dX9_sell_27
    · replace h := it_pos hc h
      refine lv_iload_n hx hb dX9_sell_12 rfl (lv_at hl 2 rfl) ?_
      refine lv_iconst (v := 0) hx hb dX9_sell_13 (by decide) ?_
      refine lv_ldc (v := 100000) hx hb C.2.2.2.1 (C.2.2.2.2.1 _ (gW_mem kcX9_249)) dX9_sell_14 ?_
      obtain ⟨r16, u16, e16, h⟩ := obI h
      obtain ⟨g16, eg16, ev16⟩ := cN_inv e16
      refine gx_cS C hG.1 hS [.int x2, .int (0 : Int32), .int (100000 : Int32)] (tX9_within eg16) qcX9_85 ⟨rfl, rfl, Nat.le_of_ble_eq_true rfl, Nat.le_of_ble_eq_true rfl⟩ ⟨Nat.sub_le_sub_right hm.1 _, Nat.sub_le_sub_right hm.2 _⟩ rfl hl.1 rfl (Nat.le_of_ble_eq_true rfl) (st1 := [.int r16]) rfl dX9_sell_16 (fun H locs hg hS2 => gy_w (H0 := _) hG ev16 hg (fun hG => ?_))
      replace hS := hS2
      replace hm : gLe u16 res.2 := by rw [ev16]; exact hm
      refine lv_if_ne (tgt := 28) hx hb dX9_sell_19 (by decide) (fun hc => ?_) (fun hc => ?_)
      · replace h := it_neg hc h
        refine gx_aload_n (r := (some x0)) hx hb dX9_sell_28 rfl (lv_at hl 0 rfl) ?_
        refine lv_iload_n hx hb dX9_sell_29 rfl (lv_at hl 1 rfl) ?_
        obtain ⟨_, eo30, h⟩ := ob h
        obtain ⟨u30, e30, h⟩ := ob h
        have hle := moX9_choose e30
        have hm2 : gLe u30 res.2 := by
          exact moX9_sell_33  h
        refine gx_cV C hG.1 hS [.int x1] rfl eo30 (tX9_choose hz e30) qcX9_250 ⟨rfl, rfl, Nat.le_of_ble_eq_true rfl, Nat.le_of_ble_eq_true rfl⟩ (gy_room hG hS hle ⟨Nat.sub_le_sub_right hm2.1 _, Nat.sub_le_sub_right hm2.2 _⟩) rfl hl.1 rfl (Nat.le_of_ble_eq_true rfl) (st1 := []) rfl dX9_sell_30 (fun H locs hg hS2 => gy_ret hG hS hle hg (fun hG => ?_))
        replace hS := hS2
        exact wX9_sell_33 C hz  h hG hS (lv_sub hl [0, 2] rfl)
      · replace h := it_pos hc h
        refine gx_aload_n (r := (some x0)) hx hb dX9_sell_22 rfl (lv_at hl 0 rfl) ?_
        refine lv_iconst (v := 1) hx hb dX9_sell_23 (by decide) ?_
        obtain ⟨_, eo24, h⟩ := ob h
        obtain ⟨r24, u24, e24, h⟩ := obI h
        obtain ⟨g24, eg24, ev24⟩ := cN_inv e24
        refine gx_cV C hG.1 hS [.int (1 : Int32)] rfl eo24 (tX9_finding eg24) qcX9_89 ⟨rfl, rfl, Nat.le_of_ble_eq_true rfl, Nat.le_of_ble_eq_true rfl⟩ ⟨Nat.sub_le_sub_right hm.1 _, Nat.sub_le_sub_right hm.2 _⟩ rfl hl.1 rfl (Nat.le_of_ble_eq_true rfl) (st1 := [.int r24]) rfl dX9_sell_24 (fun H locs hg hS2 => gy_w (H0 := _) hG ev24 hg (fun hG => ?_))
        replace hS := hS2
        replace hm : gLe u24 res.2 := by rw [ev24]; exact hm
        cases Option.some.inj h
        exact gx_reti C hG.1 hS dX9_sell_27
theorem tX9_sell {Γ : gEnv} {z : Nat → Nat} (hz : Γ.2.2.2 = z) {x0 : Nat} {x1 : Int32} {x2 : Int32} {u v : gN} {r : Int32} (h : fX9_sell z x0 x1 x2 u = some (r, v)) : Met l yX9_sell (Cond.code yX9_sell cX9_sell 7 (some .int) :: gW) (rmX9_sell (v.2.1 - u.2.1) (v.2.2 - u.2.2)) (va_Pc [va_rf (some x0), .int x1, .int x2] (gPre Γ u.1 u.2.1)) (gQ Γ (some (.int r)) v.1 v.2.1) (v.2.1 - u.2.1) (v.2.2 - u.2.2) Γ.2.2.1 := by
  refine gx_met (nm := "sell") ⟨by decide +kernel, rfl, rfl⟩ (Nat.le_of_ble_eq_true rfl) (fun p e s m below meth c ls C hG hl => ?_)
  have hN : s.heap.size = u.2.1 := hG.1
  have K := wX9_sell (l := l) (e := e) (below := below) (sB := u.2.2) C hz h ⟨hG, Nat.le_refl _⟩ va_S.rf hl
  rw [hN, Nat.sub_self, Nat.sub_self] at K
  exact K
abbrev rmX9_sold : Room := { frames := 4, cells := 0, slots := 0, locals := 85 }
def fX9_sold (x0 : Nat) (x1 : Int32) (u : gM) : Option (Int32 × gM) :=
  (gO [10] u x0).bind fun _ =>
  bI (fX9_thingOf x0 x1 u) fun r2 u2 =>
  if r2 = none then (
    (gO [10] u2 x0).bind fun _ =>
    bI (fX9_finding x0 (1 : Int32) u2) fun r12 u12 =>
    some (r12, u12)
  ) else (
    (r2).bind fun a17 =>
    (gI [9, 6] 6 u2 a17).bind fun v17 =>
    if v17 = (2 : Int32) then (
      (r2).bind fun a25 =>
      (gI [9, 6] 9 u2 a25).bind fun v25 =>
      some (v25, u2)
    ) else (
      (gO [10] u2 x0).bind fun _ =>
      bI (fX9_finding x0 (3 : Int32) u2) fun r33 u33 =>
      some (r33, u33)
    )
  )
set_option maxHeartbeats 4000000 in
set_option maxRecDepth 20000 in
theorem wX9_sold  (C : gC p s m args meth c cX9_sold 3 (some .int) RX9 "sold" Γ){x0 : Nat} {x1 : Int32} {u : gM} {res : Int32 × gM} (h : fX9_sold x0 x1 u = some res) {H : Heap} {locs : List Loc} (hG : gAg Γ u N H) (hS : va_S Γ.2.2.1 s.heap H locs) {ls : Array Slot} (hl : lv_has ls 3 [(0, va_rf (some x0)), (1, .int x1)]) : W p l e rmX9_sold s m args below meth c H locs 0 0 (MQ below (gQ Γ (some (.int res.1)) res.2 N) args s 0 0 Γ.2.2.1) (F0 m 0 ls []) := by
  have hx := C.1
  have hb := C.2.1
  unfold fX9_sold at h
  refine gx_aload_n (r := (some x0)) hx hb dX9_sold_0 rfl (lv_at hl 0 rfl) ?_
  refine lv_iload_n hx hb dX9_sold_1 rfl (lv_at hl 1 rfl) ?_
  obtain ⟨_, eo2, h⟩ := ob h
  obtain ⟨r2, u2, e2, h⟩ := obI h
  refine gx_cV C hG hS [.int x1] rfl eo2 (tX9_thingOf e2) qcX9_119 ⟨rfl, rfl, Nat.le_of_ble_eq_true rfl, Nat.le_of_ble_eq_true rfl⟩ ⟨Nat.zero_le _, Nat.zero_le _⟩ rfl hl.1 rfl (Nat.le_of_ble_eq_true rfl) (st1 := [va_rf r2]) rfl dX9_sold_2 (fun H locs hG hS => ?_)
  refine gx_astore_n (r := r2) (i := 2) (lv' := [(2, va_rf r2), (0, va_rf (some x0)), (1, .int x1)]) hx hb dX9_sold_5 rfl hl (by decide) rfl (fun ls hl => ?_)
  refine gx_aload_n (r := r2) hx hb dX9_sold_6 rfl (lv_at hl 0 rfl) ?_
  refine gx_ifnonnull (tgt := 16) hx hb dX9_sold_7 (by decide) (fun hc => ?_) (fun hc => ?_)
  · replace h := it_neg hc h
    refine gx_aload_n (r := r2) hx hb dX9_sold_16 rfl (lv_at hl 0 rfl) ?_
    obtain ⟨a17, na17, h⟩ := ob h
    obtain ⟨v17, e17, h⟩ := ob h
    refine gx_getI C hG na17 e17 fgX9_138 dX9_sold_17 ?_
    refine lv_iconst (v := 2) hx hb dX9_sold_20 (by decide) ?_
    refine lv_icmp_ne (tgt := 31) hx hb dX9_sold_21 (by decide) (fun hc => ?_) (fun hc => ?_)
    · replace h := it_neg hc h
      refine gx_aload_n (r := (some x0)) hx hb dX9_sold_31 rfl (lv_at hl 1 rfl) ?_
      refine lv_iconst (v := 3) hx hb dX9_sold_32 (by decide) ?_
      obtain ⟨_, eo33, h⟩ := ob h
      obtain ⟨r33, u33, e33, h⟩ := obI h
      refine gx_cV C hG hS [.int (3 : Int32)] rfl eo33 (tX9_finding e33) qcX9_89 ⟨rfl, rfl, Nat.le_of_ble_eq_true rfl, Nat.le_of_ble_eq_true rfl⟩ ⟨Nat.zero_le _, Nat.zero_le _⟩ rfl hl.1 rfl (Nat.le_of_ble_eq_true rfl) (st1 := [.int r33]) rfl dX9_sold_33 (fun H locs hG hS => ?_)
      cases Option.some.inj h
      exact gx_reti C hG hS dX9_sold_36
    · replace h := it_pos hc h
      refine gx_aload_n (r := r2) hx hb dX9_sold_24 rfl (lv_at hl 0 rfl) ?_
      obtain ⟨a25, na25, h⟩ := ob h
      obtain ⟨v25, e25, h⟩ := ob h
      refine gx_getI C hG na25 e25 fgX9_259 dX9_sold_25 ?_
      refine lv_goto (tgt := 36) hx hb dX9_sold_28 (by decide) ?_
      cases Option.some.inj h
      exact gx_reti C hG hS dX9_sold_36
  · replace h := it_pos hc h
    refine gx_aload_n (r := (some x0)) hx hb dX9_sold_10 rfl (lv_at hl 1 rfl) ?_
    refine lv_iconst (v := 1) hx hb dX9_sold_11 (by decide) ?_
    obtain ⟨_, eo12, h⟩ := ob h
    obtain ⟨r12, u12, e12, h⟩ := obI h
    refine gx_cV C hG hS [.int (1 : Int32)] rfl eo12 (tX9_finding e12) qcX9_89 ⟨rfl, rfl, Nat.le_of_ble_eq_true rfl, Nat.le_of_ble_eq_true rfl⟩ ⟨Nat.zero_le _, Nat.zero_le _⟩ rfl hl.1 rfl (Nat.le_of_ble_eq_true rfl) (st1 := [.int r12]) rfl dX9_sold_12 (fun H locs hG hS => ?_)
    cases Option.some.inj h
    exact gx_reti C hG hS dX9_sold_15
theorem tX9_sold {Γ : gEnv} {N : Nat} {x0 : Nat} {x1 : Int32} {u v : gM} {r : Int32} (h : fX9_sold x0 x1 u = some (r, v)) : Met l yX9_sold (Cond.code yX9_sold cX9_sold 3 (some .int) :: gW) rmX9_sold (va_Pc [va_rf (some x0), .int x1] (gPre Γ u N)) (gQ Γ (some (.int r)) v N) 0 0 Γ.2.2.1 :=
  gx_met (nm := "sold") ⟨by decide +kernel, rfl, rfl⟩ (Nat.le_of_ble_eq_true rfl) (fun p e s m below meth c ls C hG hl => wX9_sold C h hG va_S.rf hl)
abbrev rmX9_owed : Room := { frames := 4, cells := 0, slots := 0, locals := 85 }
def fX9_owed (x0 : Nat) (x1 : Int32) (x2 : Int32) (x3 : Int32) (u : gM) : Option (Int32 × gM) :=
  (gO [10] u x0).bind fun _ =>
  bI (fX9_seekerOf x0 x1 u) fun r2 u2 =>
  (gO [10] u2 x0).bind fun _ =>
  bI (fX9_thingOf x0 x2 u2) fun r9 u9 =>
  if r2 = none then (
    (gO [10] u9 x0).bind fun _ =>
    bI (fX9_finding x0 (1 : Int32) u9) fun r37 u37 =>
    some (r37, u37)
  ) else (
    if r9 = none then (
      (gO [10] u9 x0).bind fun _ =>
      bI (fX9_finding x0 (1 : Int32) u9) fun r37 u37 =>
      some (r37, u37)
    ) else (
      bI (fX9_within x3 (1 : Int32) (9999 : Int32) u9) fun r29 u29 =>
      if r29 = 0 then (
        (gO [10] u29 x0).bind fun _ =>
        bI (fX9_finding x0 (1 : Int32) u29) fun r37 u37 =>
        some (r37, u37)
      ) else (
        (r9).bind fun a43 =>
        (gI [9, 6] 6 u29 a43).bind fun v43 =>
        if v43 = (2 : Int32) then (
          (r9).bind fun a52 =>
          (gI [9, 6] 10 u29 a52).bind fun v52 =>
          if v52 = 0 then (
            (gI [10] 13 u29 x0).bind fun v59 =>
            (r9).bind fun a64 =>
            (gI [9, 6] 8 u29 a64).bind fun v64 =>
            if (1095 : Int32) < (v59 - v64) then (
              (gO [10] u29 x0).bind fun _ =>
              bI (fX9_finding x0 (3 : Int32) u29) fun r84 u84 =>
              some (r84, u84)
            ) else (
              (r2).bind fun a76 =>
              (gO [8] u29 a76).bind fun _ =>
              bI (fX7_isBarred a76 u29) fun r76 u76 =>
              if r76 = 0 then (
                (r9).bind fun a91 =>
                (gI [9, 6] 4 u76 a91).bind fun v91 =>
                if x3 = v91 then (
                  (r9).bind fun a116 =>
                  (gI [9, 6] 9 u76 a116).bind fun v116 =>
                  (r9).bind fun a121 =>
                  (gI [9, 6] 9 u76 a121).bind fun v121 =>
                  pU (v116 - (v121 / (10 : Int32))) fun z128 =>
                  (r9).bind fun a133 =>
                  (pV [9, 6] 10 (.int (1 : Int32)) u76 a133).bind fun u133 =>
                  (gI [10] 15 u133 x0).bind fun v138 =>
                  (pV [10] 15 (.int (v138 + z128)) u133 x0).bind fun u144 =>
                  some (z128, u144)
                ) else (
                  (r2).bind fun a100 =>
                  (gI [8] 4 u76 a100).bind fun v100 =>
                  (r2).bind fun a105 =>
                  (pV [8] 4 (.int (v100 + (1 : Int32))) u76 a105).bind fun u105 =>
                  (gO [10] u105 x0).bind fun _ =>
                  bI (fX9_finding x0 (2 : Int32) u105) fun r110 u110 =>
                  some (r110, u110)
                )
              ) else (
                (gO [10] u76 x0).bind fun _ =>
                bI (fX9_finding x0 (3 : Int32) u76) fun r84 u84 =>
                some (r84, u84)
              )
            )
          ) else (
            (gO [10] u29 x0).bind fun _ =>
            bI (fX9_finding x0 (3 : Int32) u29) fun r84 u84 =>
            some (r84, u84)
          )
        ) else (
          (gO [10] u29 x0).bind fun _ =>
          bI (fX9_finding x0 (3 : Int32) u29) fun r84 u84 =>
          some (r84, u84)
        )
      )
    )
  )
set_option maxHeartbeats 4000000 in
set_option maxRecDepth 20000 in
theorem wX9_owed  (C : gC p s m args meth c cX9_owed 7 (some .int) RX9 "owed" Γ){x0 : Nat} {x1 : Int32} {x2 : Int32} {x3 : Int32} {u : gM} {res : Int32 × gM} (h : fX9_owed x0 x1 x2 x3 u = some res) {H : Heap} {locs : List Loc} (hG : gAg Γ u N H) (hS : va_S Γ.2.2.1 s.heap H locs) {ls : Array Slot} (hl : lv_has ls 7 [(0, va_rf (some x0)), (1, .int x1), (2, .int x2), (3, .int x3)]) : W p l e rmX9_owed s m args below meth c H locs 0 0 (MQ below (gQ Γ (some (.int res.1)) res.2 N) args s 0 0 Γ.2.2.1) (F0 m 0 ls []) := by
  have hx := C.1
  have hb := C.2.1
  unfold fX9_owed at h
  refine gx_aload_n (r := (some x0)) hx hb dX9_owed_0 rfl (lv_at hl 0 rfl) ?_
  refine lv_iload_n hx hb dX9_owed_1 rfl (lv_at hl 1 rfl) ?_
  obtain ⟨_, eo2, h⟩ := ob h
  obtain ⟨r2, u2, e2, h⟩ := obI h
  refine gx_cV C hG hS [.int x1] rfl eo2 (tX9_seekerOf e2) qcX9_160 ⟨rfl, rfl, Nat.le_of_ble_eq_true rfl, Nat.le_of_ble_eq_true rfl⟩ ⟨Nat.zero_le _, Nat.zero_le _⟩ rfl hl.1 rfl (Nat.le_of_ble_eq_true rfl) (st1 := [va_rf r2]) rfl dX9_owed_2 (fun H locs hG hS => ?_)
  refine gx_astore (r := r2) (i := 4) (lv' := [(4, va_rf r2), (0, va_rf (some x0)), (1, .int x1), (2, .int x2), (3, .int x3)]) hx hb dX9_owed_5 hl (by decide) rfl (fun ls hl => ?_)
  refine gx_aload_n (r := (some x0)) hx hb dX9_owed_7 rfl (lv_at hl 1 rfl) ?_
  refine lv_iload_n hx hb dX9_owed_8 rfl (lv_at hl 3 rfl) ?_
  obtain ⟨_, eo9, h⟩ := ob h
  obtain ⟨r9, u9, e9, h⟩ := obI h
  refine gx_cV C hG hS [.int x2] rfl eo9 (tX9_thingOf e9) qcX9_119 ⟨rfl, rfl, Nat.le_of_ble_eq_true rfl, Nat.le_of_ble_eq_true rfl⟩ ⟨Nat.zero_le _, Nat.zero_le _⟩ rfl hl.1 rfl (Nat.le_of_ble_eq_true rfl) (st1 := [va_rf r9]) rfl dX9_owed_9 (fun H locs hG hS => ?_)
  refine gx_astore (r := r9) (i := 5) (lv' := [(5, va_rf r9), (4, va_rf r2), (0, va_rf (some x0)), (1, .int x1), (2, .int x2), (3, .int x3)]) hx hb dX9_owed_12 hl (by decide) (by simp [gx_cat, gx_catI, gx_catJ]) (fun ls hl => ?_)
  refine gx_aload (r := r2) hx hb dX9_owed_14 (lv_at hl 1 rfl) ?_
  refine gx_ifnull (tgt := 35) hx hb dX9_owed_16 (by decide) (fun hc => ?_) (fun hc => ?_)
  · replace h := it_pos hc h
    refine gx_aload_n (r := (some x0)) hx hb dX9_owed_35 rfl (lv_at hl 2 rfl) ?_
    refine lv_iconst (v := 1) hx hb dX9_owed_36 (by decide) ?_
    obtain ⟨_, eo37, h⟩ := ob h
    obtain ⟨r37, u37, e37, h⟩ := obI h
    refine gx_cV C hG hS [.int (1 : Int32)] rfl eo37 (tX9_finding e37) qcX9_89 ⟨rfl, rfl, Nat.le_of_ble_eq_true rfl, Nat.le_of_ble_eq_true rfl⟩ ⟨Nat.zero_le _, Nat.zero_le _⟩ rfl hl.1 rfl (Nat.le_of_ble_eq_true rfl) (st1 := [.int r37]) rfl dX9_owed_37 (fun H locs hG hS => ?_)
    cases Option.some.inj h
    exact gx_reti C hG hS dX9_owed_40
  · replace h := it_neg hc h
    refine gx_aload (r := r9) hx hb dX9_owed_19 (lv_at hl 0 rfl) ?_
    refine gx_ifnull (tgt := 35) hx hb dX9_owed_21 (by decide) (fun hc => ?_) (fun hc => ?_)
    · replace h := it_pos hc h
      refine gx_aload_n (r := (some x0)) hx hb dX9_owed_35 rfl (lv_at hl 2 rfl) ?_
      refine lv_iconst (v := 1) hx hb dX9_owed_36 (by decide) ?_
      obtain ⟨_, eo37, h⟩ := ob h
      obtain ⟨r37, u37, e37, h⟩ := obI h
      refine gx_cV C hG hS [.int (1 : Int32)] rfl eo37 (tX9_finding e37) qcX9_89 ⟨rfl, rfl, Nat.le_of_ble_eq_true rfl, Nat.le_of_ble_eq_true rfl⟩ ⟨Nat.zero_le _, Nat.zero_le _⟩ rfl hl.1 rfl (Nat.le_of_ble_eq_true rfl) (st1 := [.int r37]) rfl dX9_owed_37 (fun H locs hG hS => ?_)
      cases Option.some.inj h
      exact gx_reti C hG hS dX9_owed_40
    · replace h := it_neg hc h
      refine lv_iload_n hx hb dX9_owed_24 rfl (lv_at hl 5 rfl) ?_
      refine lv_iconst (v := 1) hx hb dX9_owed_25 (by decide) ?_
      refine lv_sipush (v := 9999) hx hb dX9_owed_26 (by decide) ?_
      obtain ⟨r29, u29, e29, h⟩ := obI h
      refine gx_cS C hG hS [.int x3, .int (1 : Int32), .int (9999 : Int32)] (tX9_within e29) qcX9_85 ⟨rfl, rfl, Nat.le_of_ble_eq_true rfl, Nat.le_of_ble_eq_true rfl⟩ ⟨Nat.zero_le _, Nat.zero_le _⟩ rfl hl.1 rfl (Nat.le_of_ble_eq_true rfl) (st1 := [.int r29]) rfl dX9_owed_29 (fun H locs hG hS => ?_)
      refine lv_if_ne (tgt := 41) hx hb dX9_owed_32 (by decide) (fun hc => ?_) (fun hc => ?_)
      · replace h := it_neg hc h
        refine gx_aload (r := r9) hx hb dX9_owed_41 (lv_at hl 0 rfl) ?_
        obtain ⟨a43, na43, h⟩ := ob h
        obtain ⟨v43, e43, h⟩ := ob h
        refine gx_getI C hG na43 e43 fgX9_138 dX9_owed_43 ?_
        refine lv_iconst (v := 2) hx hb dX9_owed_46 (by decide) ?_
        refine lv_icmp_ne (tgt := 82) hx hb dX9_owed_47 (by decide) (fun hc => ?_) (fun hc => ?_)
        · replace h := it_neg hc h
          refine gx_aload_n (r := (some x0)) hx hb dX9_owed_82 rfl (lv_at hl 2 rfl) ?_
          refine lv_iconst (v := 3) hx hb dX9_owed_83 (by decide) ?_
          obtain ⟨_, eo84, h⟩ := ob h
          obtain ⟨r84, u84, e84, h⟩ := obI h
          refine gx_cV C hG hS [.int (3 : Int32)] rfl eo84 (tX9_finding e84) qcX9_89 ⟨rfl, rfl, Nat.le_of_ble_eq_true rfl, Nat.le_of_ble_eq_true rfl⟩ ⟨Nat.zero_le _, Nat.zero_le _⟩ rfl hl.1 rfl (Nat.le_of_ble_eq_true rfl) (st1 := [.int r84]) rfl dX9_owed_84 (fun H locs hG hS => ?_)
          cases Option.some.inj h
          exact gx_reti C hG hS dX9_owed_87
        · replace h := it_pos hc h
          refine gx_aload (r := r9) hx hb dX9_owed_50 (lv_at hl 0 rfl) ?_
          obtain ⟨a52, na52, h⟩ := ob h
          obtain ⟨v52, e52, h⟩ := ob h
          refine gx_getI C hG na52 e52 fgX9_262 dX9_owed_52 ?_
          refine lv_if_ne (tgt := 82) hx hb dX9_owed_55 (by decide) (fun hc => ?_) (fun hc => ?_)
          · replace h := it_neg hc h
            refine gx_aload_n (r := (some x0)) hx hb dX9_owed_82 rfl (lv_at hl 2 rfl) ?_
            refine lv_iconst (v := 3) hx hb dX9_owed_83 (by decide) ?_
            obtain ⟨_, eo84, h⟩ := ob h
            obtain ⟨r84, u84, e84, h⟩ := obI h
            refine gx_cV C hG hS [.int (3 : Int32)] rfl eo84 (tX9_finding e84) qcX9_89 ⟨rfl, rfl, Nat.le_of_ble_eq_true rfl, Nat.le_of_ble_eq_true rfl⟩ ⟨Nat.zero_le _, Nat.zero_le _⟩ rfl hl.1 rfl (Nat.le_of_ble_eq_true rfl) (st1 := [.int r84]) rfl dX9_owed_84 (fun H locs hG hS => ?_)
            cases Option.some.inj h
            exact gx_reti C hG hS dX9_owed_87
          · replace h := it_pos hc h
            refine gx_aload_n (r := (some x0)) hx hb dX9_owed_58 rfl (lv_at hl 2 rfl) ?_
            obtain ⟨v59, e59, h⟩ := ob h
            refine gx_getI C hG rfl e59 fgX9_70 dX9_owed_59 ?_
            refine gx_aload (r := r9) hx hb dX9_owed_62 (lv_at hl 0 rfl) ?_
            obtain ⟨a64, na64, h⟩ := ob h
            obtain ⟨v64, e64, h⟩ := ob h
            refine gx_getI C hG na64 e64 fgX9_205 dX9_owed_64 ?_
            refine lv_isub hx hb dX9_owed_67 ?_
            refine lv_sipush (v := 1095) hx hb dX9_owed_68 (by decide) ?_
            refine lv_icmp_gt (tgt := 82) hx hb dX9_owed_71 (by decide) (fun hc => ?_) (fun hc => ?_)
            · replace h := it_pos hc h
              refine gx_aload_n (r := (some x0)) hx hb dX9_owed_82 rfl (lv_at hl 2 rfl) ?_
              refine lv_iconst (v := 3) hx hb dX9_owed_83 (by decide) ?_
              obtain ⟨_, eo84, h⟩ := ob h
              obtain ⟨r84, u84, e84, h⟩ := obI h
              refine gx_cV C hG hS [.int (3 : Int32)] rfl eo84 (tX9_finding e84) qcX9_89 ⟨rfl, rfl, Nat.le_of_ble_eq_true rfl, Nat.le_of_ble_eq_true rfl⟩ ⟨Nat.zero_le _, Nat.zero_le _⟩ rfl hl.1 rfl (Nat.le_of_ble_eq_true rfl) (st1 := [.int r84]) rfl dX9_owed_84 (fun H locs hG hS => ?_)
              cases Option.some.inj h
              exact gx_reti C hG hS dX9_owed_87
            · replace h := it_neg hc h
              refine gx_aload (r := r2) hx hb dX9_owed_74 (lv_at hl 1 rfl) ?_
              obtain ⟨a76, na76, h⟩ := ob h
              obtain ⟨_, eo76, h⟩ := ob h
              obtain ⟨r76, u76, e76, h⟩ := obI h
              refine gx_cV C hG hS [] na76 eo76 (tX7_isBarred e76) qcX9_195 ⟨rfl, rfl, Nat.le_of_ble_eq_true rfl, Nat.le_of_ble_eq_true rfl⟩ ⟨Nat.zero_le _, Nat.zero_le _⟩ rfl hl.1 rfl (Nat.le_of_ble_eq_true rfl) (st1 := [.int r76]) rfl dX9_owed_76 (fun H locs hG hS => ?_)
              refine lv_if_eq (tgt := 88) hx hb dX9_owed_79 (by decide) (fun hc => ?_) (fun hc => ?_)
              · replace h := it_pos hc h
                refine lv_iload_n hx hb dX9_owed_88 rfl (lv_at hl 5 rfl) ?_
                refine gx_aload (r := r9) hx hb dX9_owed_89 (lv_at hl 0 rfl) ?_
                obtain ⟨a91, na91, h⟩ := ob h
                obtain ⟨v91, e91, h⟩ := ob h
                refine gx_getI C hG na91 e91 fgX9_202 dX9_owed_91 ?_
                refine lv_icmp_eq (tgt := 114) hx hb dX9_owed_94 (by decide) (fun hc => ?_) (fun hc => ?_)
                · replace h := it_pos hc h
                  refine gx_aload (r := r9) hx hb dX9_owed_114 (lv_at hl 0 rfl) ?_
                  obtain ⟨a116, na116, h⟩ := ob h
                  obtain ⟨v116, e116, h⟩ := ob h
                  refine gx_getI C hG na116 e116 fgX9_259 dX9_owed_116 ?_
                  refine gx_aload (r := r9) hx hb dX9_owed_119 (lv_at hl 0 rfl) ?_
                  obtain ⟨a121, na121, h⟩ := ob h
                  obtain ⟨v121, e121, h⟩ := ob h
                  refine gx_getI C hG na121 e121 fgX9_259 dX9_owed_121 ?_
                  refine lv_bipush (v := 10) hx hb dX9_owed_124 (by decide) ?_
                  refine lv_idiv hx hb dX9_owed_126 (by decide) ?_
                  refine lv_isub hx hb dX9_owed_127 ?_
                  obtain ⟨z128, ez128, h⟩ := op h
                  refine gx_topI ez128 ?_
                  refine lv_istore (i := 6) (lv' := [(6, .int z128), (5, va_rf r9), (4, va_rf r2), (0, va_rf (some x0)), (1, .int x1), (2, .int x2), (3, .int x3)]) hx hb dX9_owed_128 hl (by decide) (by simp [gx_cat, gx_catI, gx_catJ]) (fun ls hl => ?_)
                  refine gx_aload (r := r9) hx hb dX9_owed_130 (lv_at hl 1 rfl) ?_
                  refine lv_iconst (v := 1) hx hb dX9_owed_132 (by decide) ?_
                  obtain ⟨a133, na133, h⟩ := ob h
                  obtain ⟨u133, e133, h⟩ := ob h
                  refine gx_put C hG hS na133 e133 fgX9_262 fpX9_262 (fun q => by cases q) (by rfl) (by rfl) dX9_owed_133 (fun H locs hG hS => ?_)
                  refine gx_aload_n (r := (some x0)) hx hb dX9_owed_136 rfl (lv_at hl 3 rfl) ?_
                  refine lv_dup hx hb dX9_owed_137 (by first | rfl | exact gx_cat _) ?_
                  obtain ⟨v138, e138, h⟩ := ob h
                  refine gx_getI C hG rfl e138 fgX9_76 dX9_owed_138 ?_
                  refine lv_iload hx hb dX9_owed_141 (lv_at hl 0 rfl) ?_
                  refine lv_iadd hx hb dX9_owed_143 ?_
                  obtain ⟨u144, e144, h⟩ := ob h
                  refine gx_put C hG hS rfl e144 fgX9_76 fpX9_76 (fun q => by cases q) rfl rfl dX9_owed_144 (fun H locs hG hS => ?_)
                  refine lv_iload hx hb dX9_owed_147 (lv_at hl 0 rfl) ?_
                  cases Option.some.inj h
                  exact gx_reti C hG hS dX9_owed_149
                · replace h := it_neg hc h
                  refine gx_aload (r := r2) hx hb dX9_owed_97 (lv_at hl 1 rfl) ?_
                  refine lv_dup hx hb dX9_owed_99 (by first | rfl | exact gx_cat _) ?_
                  obtain ⟨a100, na100, h⟩ := ob h
                  obtain ⟨v100, e100, h⟩ := ob h
                  refine gx_getI C hG na100 e100 fgX9_192 dX9_owed_100 ?_
                  refine lv_iconst (v := 1) hx hb dX9_owed_103 (by decide) ?_
                  refine lv_iadd hx hb dX9_owed_104 ?_
                  obtain ⟨a105, na105, h⟩ := ob h
                  obtain ⟨u105, e105, h⟩ := ob h
                  refine gx_put C hG hS na105 e105 fgX9_192 fpX9_192 (fun q => by cases q) rfl rfl dX9_owed_105 (fun H locs hG hS => ?_)
                  refine gx_aload_n (r := (some x0)) hx hb dX9_owed_108 rfl (lv_at hl 2 rfl) ?_
                  refine lv_iconst (v := 2) hx hb dX9_owed_109 (by decide) ?_
                  obtain ⟨_, eo110, h⟩ := ob h
                  obtain ⟨r110, u110, e110, h⟩ := obI h
                  refine gx_cV C hG hS [.int (2 : Int32)] rfl eo110 (tX9_finding e110) qcX9_89 ⟨rfl, rfl, Nat.le_of_ble_eq_true rfl, Nat.le_of_ble_eq_true rfl⟩ ⟨Nat.zero_le _, Nat.zero_le _⟩ rfl hl.1 rfl (Nat.le_of_ble_eq_true rfl) (st1 := [.int r110]) rfl dX9_owed_110 (fun H locs hG hS => ?_)
                  cases Option.some.inj h
                  exact gx_reti C hG hS dX9_owed_113
              · replace h := it_neg hc h
                refine gx_aload_n (r := (some x0)) hx hb dX9_owed_82 rfl (lv_at hl 2 rfl) ?_
                refine lv_iconst (v := 3) hx hb dX9_owed_83 (by decide) ?_
                obtain ⟨_, eo84, h⟩ := ob h
                obtain ⟨r84, u84, e84, h⟩ := obI h
                refine gx_cV C hG hS [.int (3 : Int32)] rfl eo84 (tX9_finding e84) qcX9_89 ⟨rfl, rfl, Nat.le_of_ble_eq_true rfl, Nat.le_of_ble_eq_true rfl⟩ ⟨Nat.zero_le _, Nat.zero_le _⟩ rfl hl.1 rfl (Nat.le_of_ble_eq_true rfl) (st1 := [.int r84]) rfl dX9_owed_84 (fun H locs hG hS => ?_)
                cases Option.some.inj h
                exact gx_reti C hG hS dX9_owed_87
      · replace h := it_pos hc h
        refine gx_aload_n (r := (some x0)) hx hb dX9_owed_35 rfl (lv_at hl 2 rfl) ?_
        refine lv_iconst (v := 1) hx hb dX9_owed_36 (by decide) ?_
        obtain ⟨_, eo37, h⟩ := ob h
        obtain ⟨r37, u37, e37, h⟩ := obI h
        refine gx_cV C hG hS [.int (1 : Int32)] rfl eo37 (tX9_finding e37) qcX9_89 ⟨rfl, rfl, Nat.le_of_ble_eq_true rfl, Nat.le_of_ble_eq_true rfl⟩ ⟨Nat.zero_le _, Nat.zero_le _⟩ rfl hl.1 rfl (Nat.le_of_ble_eq_true rfl) (st1 := [.int r37]) rfl dX9_owed_37 (fun H locs hG hS => ?_)
        cases Option.some.inj h
        exact gx_reti C hG hS dX9_owed_40
theorem tX9_owed {Γ : gEnv} {N : Nat} {x0 : Nat} {x1 : Int32} {x2 : Int32} {x3 : Int32} {u v : gM} {r : Int32} (h : fX9_owed x0 x1 x2 x3 u = some (r, v)) : Met l yX9_owed (Cond.code yX9_owed cX9_owed 7 (some .int) :: gW) rmX9_owed (va_Pc [va_rf (some x0), .int x1, .int x2, .int x3] (gPre Γ u N)) (gQ Γ (some (.int r)) v N) 0 0 Γ.2.2.1 :=
  gx_met (nm := "owed") ⟨by decide +kernel, rfl, rfl⟩ (Nat.le_of_ble_eq_true rfl) (fun p e s m below meth c ls C hG hl => wX9_owed C h hG va_S.rf hl)
end
