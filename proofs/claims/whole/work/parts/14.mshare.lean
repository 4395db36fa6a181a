section
variable {p : Program} {l : Launch} {e : Env} {s : State} {m : MethodId} {args : Array Value} {below : List Frame} {meth : Method} {c : Code} {D : va_G} {cI cZ cJ : ClassId} {o : Nat} {ad : Nat → Nat} {A : Nat → Prop}
abbrev rmX10_share : Room := { frames := 3, cells := 0, slots := 0, locals := 76 }
def fX10_share_61 (x1 : Int32) (x2 : Int32) (x3 : Int32) (x5 : Int32) (s0 : Int32) (s1 : Int32) (u : mS) (k28 : Int32 → Int32 → Int32 → Int32 → Int32 → mS → Option (Int32 × mS)) : Option (Int32 × mS) :=
  k28 x1 x2 x3 (s0 + s1) (x5 + (1 : Int32)) u
set_option maxHeartbeats 4000000 in
set_option maxRecDepth 20000 in
theorem wX10_share_61 (C : mC p s m args meth c cX10_share 6 (some .int) D cI cZ cJ o ad A) {x1 : Int32} {x2 : Int32} {x3 : Int32} {x5 : Int32} {s0 : Int32} {s1 : Int32} {u : mS} {res : Int32 × mS} {k28 : Int32 → Int32 → Int32 → Int32 → Int32 → mS → Option (Int32 × mS)} (hk28 : ∀ (x1 : Int32) (x2 : Int32) (x3 : Int32) (x4 : Int32) (x5 : Int32) (u : mS) (H : Heap) (locs : List Loc) (ls : Array Slot), k28 x1 x2 x3 x4 x5 u = some res → va_P D vwCl (mW cI cZ cJ o ad u) H → va_S A s.heap H locs → lv_has ls 6 [(0, .ref o), (1, .int x1), (2, .int x2), (3, .int x3), (4, .int x4), (5, .int x5)] → W p l e rmX10_share s m args below meth c H locs 0 0 (MQ below (mQi D cI cZ cJ o ad A res) args s 0 0 A) (F0 m 28 ls [])) (h : fX10_share_61 x1 x2 x3 x5 s0 s1 u k28 = some res) {H : Heap} {locs : List Loc} (hP : va_P D vwCl (mW cI cZ cJ o ad u) H) (hS : va_S A s.heap H locs) {ls : Array Slot} (hl : lv_has ls 6 [(0, .ref o), (1, .int x1), (2, .int x2), (3, .int x3), (5, .int x5)]) : W p l e rmX10_share s m args below meth c H locs 0 0 (MQ below (mQi D cI cZ cJ o ad A res) args s 0 0 A) (F0 m 61 ls [.int s1, .int s0]) := by
  have hx := C.1
  have hb := C.2.1
  unfold fX10_share_61 at h
  refine lv_iadd hx hb dX10_share_61 ?_
  refine lv_istore (lv' := [(4, .int (s0 + s1)), (0, .ref o), (1, .int x1), (2, .int x2), (3, .int x3), (5, .int x5)]) hx hb dX10_share_62 hl (by decide) rfl (fun ls hl => ?_)
  refine lv_iinc (v := x5 + (1 : Int32)) (lv' := [(5, .int (x5 + (1 : Int32))), (4, .int (s0 + s1)), (0, .ref o), (1, .int x1), (2, .int x2), (3, .int x3)]) hx hb dX10_share_64 hl (k := 5) rfl rfl (by decide) rfl (fun ls hl => ?_)
  refine lv_goto (tgt := 28) hx hb dX10_share_67 (by decide) ?_
  exact hk28 _ _ _ _ _ _ _ _ _ h hP hS (lv_sub hl [2, 3, 4, 5, 1, 0] rfl)
def fX10_share_28_b (x1 : Int32) (x2 : Int32) (x3 : Int32) (x4 : Int32) (x5 : Int32) (u : mS) (k28 : Int32 → Int32 → Int32 → Int32 → Int32 → mS → Option (Int32 × mS)) (k70 : Int32 → Int32 → Int32 → Int32 → mS → Option (Int32 × mS)) : Option (Int32 × mS) :=
  if (u.1 25) ≤ x5 then (
    k70 x1 x2 x3 x4 u
  ) else (
    bI (fX10_isFit x5 x2 x3 u) fun r44 u44 =>
    if r44 = 0 then (
      fX10_share_61 x1 x2 x3 x5 x4 (0 : Int32) u44 k28
    ) else (
      (mR u44 27 16 x5).bind fun v56 =>
      fX10_share_61 x1 x2 x3 x5 x4 v56 u44 k28
    )
  )
set_option maxHeartbeats 4000000 in
set_option maxRecDepth 20000 in
theorem wX10_share_28_b (C : mC p s m args meth c cX10_share 6 (some .int) D cI cZ cJ o ad A) {x1 : Int32} {x2 : Int32} {x3 : Int32} {x4 : Int32} {x5 : Int32} {u : mS} {res : Int32 × mS} {k28 : Int32 → Int32 → Int32 → Int32 → Int32 → mS → Option (Int32 × mS)} {k70 : Int32 → Int32 → Int32 → Int32 → mS → Option (Int32 × mS)} (hk28 : ∀ (x1 : Int32) (x2 : Int32) (x3 : Int32) (x4 : Int32) (x5 : Int32) (u : mS) (H : Heap) (locs : List Loc) (ls : Array Slot), k28 x1 x2 x3 x4 x5 u = some res → va_P D vwCl (mW cI cZ cJ o ad u) H → va_S A s.heap H locs → lv_has ls 6 [(0, .ref o), (1, .int x1), (2, .int x2), (3, .int x3), (4, .int x4), (5, .int x5)] → W p l e rmX10_share s m args below meth c H locs 0 0 (MQ below (mQi D cI cZ cJ o ad A res) args s 0 0 A) (F0 m 28 ls [])) (hk70 : ∀ (x1 : Int32) (x2 : Int32) (x3 : Int32) (x4 : Int32) (u : mS) (H : Heap) (locs : List Loc) (ls : Array Slot), k70 x1 x2 x3 x4 u = some res → va_P D vwCl (mW cI cZ cJ o ad u) H → va_S A s.heap H locs → lv_has ls 6 [(0, .ref o), (1, .int x1), (2, .int x2), (3, .int x3), (4, .int x4)] → W p l e rmX10_share s m args below meth c H locs 0 0 (MQ below (mQi D cI cZ cJ o ad A res) args s 0 0 A) (F0 m 70 ls [])) (h : fX10_share_28_b x1 x2 x3 x4 x5 u k28 k70 = some res) {H : Heap} {locs : List Loc} (hP : va_P D vwCl (mW cI cZ cJ o ad u) H) (hS : va_S A s.heap H locs) {ls : Array Slot} (hl : lv_has ls 6 [(0, .ref o), (1, .int x1), (2, .int x2), (3, .int x3), (4, .int x4), (5, .int x5)]) : W p l e rmX10_share s m args below meth c H locs 0 0 (MQ below (mQi D cI cZ cJ o ad A res) args s 0 0 A) (F0 m 28 ls []) := by
  have hx := C.1
  have hb := C.2.1
  unfold fX10_share_28_b at h
  refine lv_iload hx hb dX10_share_28 (lv_at hl 5 rfl) ?_
  refine lv_aload_n hx hb dX10_share_30 rfl (lv_at hl 0 rfl) ?_
  refine mg_addresses C hP dX10_share_31 ?_
  refine lv_icmp_ge (tgt := 70) hx hb dX10_share_34 (by decide) (fun hc => ?_) (fun hc => ?_)
  · replace h := it_pos hc h
    exact hk70 _ _ _ _ _ _ _ _ h hP hS (lv_sub hl [0, 1, 2, 3, 4] rfl)
  · replace h := it_neg hc h
    refine lv_iload hx hb dX10_share_37 (lv_at hl 4 rfl) ?_
    refine lv_aload_n hx hb dX10_share_39 rfl (lv_at hl 0 rfl) ?_
    refine lv_iload hx hb dX10_share_40 (lv_at hl 5 rfl) ?_
    refine lv_iload_n hx hb dX10_share_42 rfl (lv_at hl 2 rfl) ?_
    refine lv_iload_n hx hb dX10_share_43 rfl (lv_at hl 3 rfl) ?_
    obtain ⟨r44, u44, e44, h⟩ := obI h
    refine mx_cVi C hP hS [.int x5, .int x2, .int x3] (tX10_isFit e44) qX10_195 ⟨rfl, rfl, Nat.le_of_ble_eq_true rfl, Nat.le_of_ble_eq_true rfl⟩ rfl hl.1 rfl (Nat.le_of_ble_eq_true rfl) dX10_share_44 (fun H locs hP hS => ?_)
    refine lv_if_eq (tgt := 60) hx hb dX10_share_47 (by decide) (fun hc => ?_) (fun hc => ?_)
    · replace h := it_pos hc h
      refine lv_iconst (v := 0) hx hb dX10_share_60 (by decide) ?_
      exact wX10_share_61 C hk28 h hP hS (lv_sub hl [0, 1, 2, 3, 5] rfl)
    · replace h := it_neg hc h
      refine lv_aload_n hx hb dX10_share_50 rfl (lv_at hl 0 rfl) ?_
      refine mg_post C hP dX10_share_51 ?_
      refine lv_iload hx hb dX10_share_54 (lv_at hl 5 rfl) ?_
      obtain ⟨v56, e56, h⟩ := ob h
      refine ml_post C hP e56 dX10_share_56 ?_
      refine lv_goto (tgt := 61) hx hb dX10_share_57 (by decide) ?_
      exact wX10_share_61 C hk28 h hP hS (lv_sub hl [0, 1, 2, 3, 5] rfl)
def fX10_share_28 (k70 : Int32 → Int32 → Int32 → Int32 → mS → Option (Int32 × mS)) : Nat → Int32 → Int32 → Int32 → Int32 → Int32 → mS → Option (Int32 × mS)
  | 0 => fun _ _ _ _ _ _ => none
  | n + 1 => fun x1 x2 x3 x4 x5 u => fX10_share_28_b x1 x2 x3 x4 x5 u (fX10_share_28 k70 n) k70 
theorem wX10_share_28 (C : mC p s m args meth c cX10_share 6 (some .int) D cI cZ cJ o ad A) {res : Int32 × mS} {k70 : Int32 → Int32 → Int32 → Int32 → mS → Option (Int32 × mS)} (hk70 : ∀ (x1 : Int32) (x2 : Int32) (x3 : Int32) (x4 : Int32) (u : mS) (H : Heap) (locs : List Loc) (ls : Array Slot), k70 x1 x2 x3 x4 u = some res → va_P D vwCl (mW cI cZ cJ o ad u) H → va_S A s.heap H locs → lv_has ls 6 [(0, .ref o), (1, .int x1), (2, .int x2), (3, .int x3), (4, .int x4)] → W p l e rmX10_share s m args below meth c H locs 0 0 (MQ below (mQi D cI cZ cJ o ad A res) args s 0 0 A) (F0 m 70 ls [])) (n : Nat) : ∀ {x1 : Int32} {x2 : Int32} {x3 : Int32} {x4 : Int32} {x5 : Int32} {u : mS} {H : Heap} {locs : List Loc} {ls : Array Slot}, fX10_share_28 k70 n x1 x2 x3 x4 x5 u = some res → va_P D vwCl (mW cI cZ cJ o ad u) H → va_S A s.heap H locs → lv_has ls 6 [(0, .ref o), (1, .int x1), (2, .int x2), (3, .int x3), (4, .int x4), (5, .int x5)] → W p l e rmX10_share s m args below meth c H locs 0 0 (MQ below (mQi D cI cZ cJ o ad A res) args s 0 0 A) (F0 m 28 ls []) := by
  induction n with
  | zero => intro _ _ _ _ _ _ _ _ _ h _ _ _; cases (show (none : Option (Int32 × mS)) = some res from h)
  | succ n ih => intro _ _ _ _ _ _ _ _ _ h hP hS hl; exact wX10_share_28_b C (fun _ _ _ _ _ _ _ _ _ h hP hS hl => ih h hP hS hl) hk70 h hP hS hl
def fX10_share (x1 : Int32) (x2 : Int32) (x3 : Int32) (u : mS) : Option (Int32 × mS) :=
  bI (fX10_isAddress x1 u) fun r2 u2 =>
  if r2 = 0 then (
    bI (fX10_finding (1 : Int32) u2) fun r18 u18 =>
    some (r18, u18)
  ) else (
    bI (fX10_isLabel x2 x3 u2) fun r10 u10 =>
    if r10 = 0 then (
      bI (fX10_finding (1 : Int32) u10) fun r18 u18 =>
      some (r18, u18)
    ) else (
      fX10_share_28 (fun x1 x2 x3 x4 u =>
            bI (fX10_isFit x1 x2 x3 u) fun r74 u74 =>
            if r74 = 0 then (
              bI (fX10_finding (2 : Int32) u74) fun r87 u87 =>
              some (r87, u87)
            ) else (
              if x4 = 0 then (
                bI (fX10_finding (2 : Int32) u74) fun r87 u87 =>
                some (r87, u87)
              ) else (
                (mR u74 27 16 x1).bind fun v98 =>
                if x4 = 0 then none else
                some ((v98 * (1000 : Int32)) / x4, u74)
              )
            )) FU x1 x2 x3 (0 : Int32) (0 : Int32) u10
    )
  )
set_option maxHeartbeats 4000000 in
set_option maxRecDepth 20000 in
theorem wX10_share (C : mC p s m args meth c cX10_share 6 (some .int) D cI cZ cJ o ad A) {x1 : Int32} {x2 : Int32} {x3 : Int32} {u : mS} {res : Int32 × mS} (h : fX10_share x1 x2 x3 u = some res) {H : Heap} {locs : List Loc} (hP : va_P D vwCl (mW cI cZ cJ o ad u) H) (hS : va_S A s.heap H locs) {ls : Array Slot} (hl : lv_has ls 6 [(0, .ref o), (1, .int x1), (2, .int x2), (3, .int x3)]) : W p l e rmX10_share s m args below meth c H locs 0 0 (MQ below (mQi D cI cZ cJ o ad A res) args s 0 0 A) (F0 m 0 ls []) := by
  have hx := C.1
  have hb := C.2.1
  unfold fX10_share at h
  refine lv_aload_n hx hb dX10_share_0 rfl (lv_at hl 0 rfl) ?_
  refine lv_iload_n hx hb dX10_share_1 rfl (lv_at hl 1 rfl) ?_
  obtain ⟨r2, u2, e2, h⟩ := obI h
  refine mx_cVi C hP hS [.int x1] (tX10_isAddress e2) qX10_184 ⟨rfl, rfl, Nat.le_of_ble_eq_true rfl, Nat.le_of_ble_eq_true rfl⟩ rfl hl.1 rfl (Nat.le_of_ble_eq_true rfl) dX10_share_2 (fun H locs hP hS => ?_)
  refine lv_if_eq (tgt := 16) hx hb dX10_share_5 (by decide) (fun hc => ?_) (fun hc => ?_)
  · replace h := it_pos hc h
    refine lv_aload_n hx hb dX10_share_16 rfl (lv_at hl 0 rfl) ?_
    refine lv_iconst (v := 1) hx hb dX10_share_17 (by decide) ?_
    obtain ⟨r18, u18, e18, h⟩ := obI h
    refine mx_cVi C hP hS [.int (1 : Int32)] (tX10_finding e18) qX10_138 ⟨rfl, rfl, Nat.le_of_ble_eq_true rfl, Nat.le_of_ble_eq_true rfl⟩ rfl hl.1 rfl (Nat.le_of_ble_eq_true rfl) dX10_share_18 (fun H locs hP hS => ?_)
    exact mx_reti C h hP hS dX10_share_21
  · replace h := it_neg hc h
    refine lv_iload_n hx hb dX10_share_8 rfl (lv_at hl 2 rfl) ?_
    refine lv_iload_n hx hb dX10_share_9 rfl (lv_at hl 3 rfl) ?_
    obtain ⟨r10, u10, e10, h⟩ := obI h
    refine mx_cSi C hP hS [.int x2, .int x3] (tX10_isLabel e10) qX10_191 ⟨rfl, rfl, Nat.le_of_ble_eq_true rfl, Nat.le_of_ble_eq_true rfl⟩ rfl hl.1 rfl (Nat.le_of_ble_eq_true rfl) dX10_share_10 (fun H locs hP hS => ?_)
    refine lv_if_ne (tgt := 22) hx hb dX10_share_13 (by decide) (fun hc => ?_) (fun hc => ?_)
    · replace h := it_neg hc h
      refine lv_iconst (v := 0) hx hb dX10_share_22 (by decide) ?_
      refine lv_istore (lv' := [(4, .int (0 : Int32)), (0, .ref o), (1, .int x1), (2, .int x2), (3, .int x3)]) hx hb dX10_share_23 hl (by decide) rfl (fun ls hl => ?_)
      refine lv_iconst (v := 0) hx hb dX10_share_25 (by decide) ?_
      refine lv_istore (lv' := [(5, .int (0 : Int32)), (4, .int (0 : Int32)), (0, .ref o), (1, .int x1), (2, .int x2), (3, .int x3)]) hx hb dX10_share_26 hl (by decide) rfl (fun ls hl => ?_)
      refine wX10_share_28 C ?_ FU h hP hS (lv_sub hl [2, 3, 4, 5, 1, 0] rfl)
      · intro x1 x2 x3 x4 u H locs ls h hP hS hl
        refine lv_aload_n hx hb dX10_share_70 rfl (lv_at hl 0 rfl) ?_
        refine lv_iload_n hx hb dX10_share_71 rfl (lv_at hl 1 rfl) ?_
        refine lv_iload_n hx hb dX10_share_72 rfl (lv_at hl 2 rfl) ?_
        refine lv_iload_n hx hb dX10_share_73 rfl (lv_at hl 3 rfl) ?_
        obtain ⟨r74, u74, e74, h⟩ := obI h
        refine mx_cVi C hP hS [.int x1, .int x2, .int x3] (tX10_isFit e74) qX10_195 ⟨rfl, rfl, Nat.le_of_ble_eq_true rfl, Nat.le_of_ble_eq_true rfl⟩ rfl hl.1 rfl (Nat.le_of_ble_eq_true rfl) dX10_share_74 (fun H locs hP hS => ?_)
        refine lv_if_eq (tgt := 85) hx hb dX10_share_77 (by decide) (fun hc => ?_) (fun hc => ?_)
        · replace h := it_pos hc h
          refine lv_aload_n hx hb dX10_share_85 rfl (lv_at hl 0 rfl) ?_
          refine lv_iconst (v := 2) hx hb dX10_share_86 (by decide) ?_
          obtain ⟨r87, u87, e87, h⟩ := obI h
          refine mx_cVi C hP hS [.int (2 : Int32)] (tX10_finding e87) qX10_138 ⟨rfl, rfl, Nat.le_of_ble_eq_true rfl, Nat.le_of_ble_eq_true rfl⟩ rfl hl.1 rfl (Nat.le_of_ble_eq_true rfl) dX10_share_87 (fun H locs hP hS => ?_)
          refine lv_goto (tgt := 106) hx hb dX10_share_90 (by decide) ?_
          exact mx_reti C h hP hS dX10_share_106
        · replace h := it_neg hc h
          refine lv_iload hx hb dX10_share_80 (lv_at hl 4 rfl) ?_
          refine lv_if_ne (tgt := 93) hx hb dX10_share_82 (by decide) (fun hc => ?_) (fun hc => ?_)
          · replace h := it_neg hc h
            refine lv_aload_n hx hb dX10_share_93 rfl (lv_at hl 0 rfl) ?_
            refine mg_post C hP dX10_share_94 ?_
            refine lv_iload_n hx hb dX10_share_97 rfl (lv_at hl 1 rfl) ?_
            obtain ⟨v98, e98, h⟩ := ob h
            refine ml_post C hP e98 dX10_share_98 ?_
            refine lv_sipush (v := 1000) hx hb dX10_share_99 (by decide) ?_
            refine lv_imul hx hb dX10_share_102 ?_
            refine lv_iload hx hb dX10_share_103 (lv_at hl 4 rfl) ?_
            have n105 : ¬ x4 = 0 := fun q => by rw [if_pos q] at h; cases h
            replace h := it_neg n105 h
            refine lv_idiv hx hb dX10_share_105 n105 ?_
            exact mx_reti C h hP hS dX10_share_106
          · replace h := it_pos hc h
            refine lv_aload_n hx hb dX10_share_85 rfl (lv_at hl 0 rfl) ?_
            refine lv_iconst (v := 2) hx hb dX10_share_86 (by decide) ?_
            obtain ⟨r87, u87, e87, h⟩ := obI h
            refine mx_cVi C hP hS [.int (2 : Int32)] (tX10_finding e87) qX10_138 ⟨rfl, rfl, Nat.le_of_ble_eq_true rfl, Nat.le_of_ble_eq_true rfl⟩ rfl hl.1 rfl (Nat.le_of_ble_eq_true rfl) dX10_share_87 (fun H locs hP hS => ?_)
            refine lv_goto (tgt := 106) hx hb dX10_share_90 (by decide) ?_
            exact mx_reti C h hP hS dX10_share_106
    · replace h := it_pos hc h
      refine lv_aload_n hx hb dX10_share_16 rfl (lv_at hl 0 rfl) ?_
      refine lv_iconst (v := 1) hx hb dX10_share_17 (by decide) ?_
      obtain ⟨r18, u18, e18, h⟩ := obI h
      refine mx_cVi C hP hS [.int (1 : Int32)] (tX10_finding e18) qX10_138 ⟨rfl, rfl, Nat.le_of_ble_eq_true rfl, Nat.le_of_ble_eq_true rfl⟩ rfl hl.1 rfl (Nat.le_of_ble_eq_true rfl) dX10_share_18 (fun H locs hP hS => ?_)
      exact mx_reti C h hP hS dX10_share_21
theorem tX10_share {D : va_G} {cI cZ cJ : ClassId} {o : Nat} {ad : Nat → Nat} {A : Nat → Prop} {x1 : Int32} {x2 : Int32} {x3 : Int32} {u : mS} {res : Int32 × mS} (h : fX10_share x1 x2 x3 u = some res) : Met l yX10_share (Cond.code yX10_share cX10_share 6 (some .int) :: gW) rmX10_share (va_Pc [.ref o, .int x1, .int x2, .int x3] (mPre D cI cZ cJ o ad A u)) (mQi D cI cZ cJ o ad A res) 0 0 A :=
  mx_met ⟨by decide +kernel, rfl⟩ (Nat.le_of_ble_eq_true rfl) (fun p e s m below meth c ls C hP hl => wX10_share C h hP va_S.rf hl)
abbrev rmX10_law : Room := { frames := 1, cells := 0, slots := 0, locals := 22 }
def fX10_law (x1 : Int32) (x2 : Int32) (u : mS) : Option (Int32 × mS) :=
  bI (fX10_isIn x1 (0 : Int32) (3 : Int32) u) fun r3 u3 =>
  if r3 = 0 then (
    bI (fX10_finding (1 : Int32) u3) fun r21 u21 =>
    some (r21, u21)
  ) else (
    bI (fX10_isIn x2 (0 : Int32) (60 : Int32) u3) fun r13 u13 =>
    if r13 = 0 then (
      bI (fX10_finding (1 : Int32) u13) fun r21 u21 =>
      some (r21, u21)
    ) else (
      (mR u13 28 4 x1).bind fun v30 =>
      (mU u13 28 4 x1 x2).bind fun u38 =>
      some (v30, u38)
    )
  )
set_option maxHeartbeats 4000000 in
set_option maxRecDepth 20000 in
theorem wX10_law (C : mC p s m args meth c cX10_law 4 (some .int) D cI cZ cJ o ad A) {x1 : Int32} {x2 : Int32} {u : mS} {res : Int32 × mS} (h : fX10_law x1 x2 u = some res) {H : Heap} {locs : List Loc} (hP : va_P D vwCl (mW cI cZ cJ o ad u) H) (hS : va_S A s.heap H locs) {ls : Array Slot} (hl : lv_has ls 4 [(0, .ref o), (1, .int x1), (2, .int x2)]) : W p l e rmX10_law s m args below meth c H locs 0 0 (MQ below (mQi D cI cZ cJ o ad A res) args s 0 0 A) (F0 m 0 ls []) := by
  have hx := C.1
  have hb := C.2.1
  unfold fX10_law at h
  refine lv_iload_n hx hb dX10_law_0 rfl (lv_at hl 1 rfl) ?_
  refine lv_iconst (v := 0) hx hb dX10_law_1 (by decide) ?_
  refine lv_iconst (v := 3) hx hb dX10_law_2 (by decide) ?_
  obtain ⟨r3, u3, e3, h⟩ := obI h
  refine mx_cSi C hP hS [.int x1, .int (0 : Int32), .int (3 : Int32)] (tX10_isIn e3) qX10_131 ⟨rfl, rfl, Nat.le_of_ble_eq_true rfl, Nat.le_of_ble_eq_true rfl⟩ rfl hl.1 rfl (Nat.le_of_ble_eq_true rfl) dX10_law_3 (fun H locs hP hS => ?_)
  refine lv_if_eq (tgt := 19) hx hb dX10_law_6 (by decide) (fun hc => ?_) (fun hc => ?_)
  · replace h := it_pos hc h
    refine lv_aload_n hx hb dX10_law_19 rfl (lv_at hl 0 rfl) ?_
    refine lv_iconst (v := 1) hx hb dX10_law_20 (by decide) ?_
    obtain ⟨r21, u21, e21, h⟩ := obI h
    refine mx_cVi C hP hS [.int (1 : Int32)] (tX10_finding e21) qX10_138 ⟨rfl, rfl, Nat.le_of_ble_eq_true rfl, Nat.le_of_ble_eq_true rfl⟩ rfl hl.1 rfl (Nat.le_of_ble_eq_true rfl) dX10_law_21 (fun H locs hP hS => ?_)
    exact mx_reti C h hP hS dX10_law_24
  · replace h := it_neg hc h
    refine lv_iload_n hx hb dX10_law_9 rfl (lv_at hl 2 rfl) ?_
    refine lv_iconst (v := 0) hx hb dX10_law_10 (by decide) ?_
    refine lv_bipush (v := 60) hx hb dX10_law_11 (by decide) ?_
    obtain ⟨r13, u13, e13, h⟩ := obI h
    refine mx_cSi C hP hS [.int x2, .int (0 : Int32), .int (60 : Int32)] (tX10_isIn e13) qX10_131 ⟨rfl, rfl, Nat.le_of_ble_eq_true rfl, Nat.le_of_ble_eq_true rfl⟩ rfl hl.1 rfl (Nat.le_of_ble_eq_true rfl) dX10_law_13 (fun H locs hP hS => ?_)
    refine lv_if_ne (tgt := 25) hx hb dX10_law_16 (by decide) (fun hc => ?_) (fun hc => ?_)
    · replace h := it_neg hc h
      refine lv_aload_n hx hb dX10_law_25 rfl (lv_at hl 0 rfl) ?_
      refine mg_months C hP dX10_law_26 ?_
      refine lv_iload_n hx hb dX10_law_29 rfl (lv_at hl 1 rfl) ?_
      obtain ⟨v30, e30, h⟩ := ob h
      refine ml_months C hP e30 dX10_law_30 ?_
      refine lv_istore_n (lv' := [(3, .int v30), (0, .ref o), (1, .int x1), (2, .int x2)]) hx hb dX10_law_31 rfl hl (by decide) rfl (fun ls hl => ?_)
      refine lv_aload_n hx hb dX10_law_32 rfl (lv_at hl 1 rfl) ?_
      refine mg_months C hP dX10_law_33 ?_
      refine lv_iload_n hx hb dX10_law_36 rfl (lv_at hl 2 rfl) ?_
      refine lv_iload_n hx hb dX10_law_37 rfl (lv_at hl 3 rfl) ?_
      obtain ⟨u38, e38, h⟩ := ob h
      refine ms_months C hP hS e38 dX10_law_38 (fun H locs hP hS => ?_)
      refine lv_iload_n hx hb dX10_law_39 rfl (lv_at hl 0 rfl) ?_
      exact mx_reti C h hP hS dX10_law_40
    · replace h := it_pos hc h
      refine lv_aload_n hx hb dX10_law_19 rfl (lv_at hl 0 rfl) ?_
      refine lv_iconst (v := 1) hx hb dX10_law_20 (by decide) ?_
      obtain ⟨r21, u21, e21, h⟩ := obI h
      refine mx_cVi C hP hS [.int (1 : Int32)] (tX10_finding e21) qX10_138 ⟨rfl, rfl, Nat.le_of_ble_eq_true rfl, Nat.le_of_ble_eq_true rfl⟩ rfl hl.1 rfl (Nat.le_of_ble_eq_true rfl) dX10_law_21 (fun H locs hP hS => ?_)
      exact mx_reti C h hP hS dX10_law_24
theorem tX10_law {D : va_G} {cI cZ cJ : ClassId} {o : Nat} {ad : Nat → Nat} {A : Nat → Prop} {x1 : Int32} {x2 : Int32} {u : mS} {res : Int32 × mS} (h : fX10_law x1 x2 u = some res) : Met l yX10_law (Cond.code yX10_law cX10_law 4 (some .int) :: gW) rmX10_law (va_Pc [.ref o, .int x1, .int x2] (mPre D cI cZ cJ o ad A u)) (mQi D cI cZ cJ o ad A res) 0 0 A :=
  mx_met ⟨by decide +kernel, rfl⟩ (Nat.le_of_ble_eq_true rfl) (fun p e s m below meth c ls C hP hl => wX10_law C h hP va_S.rf hl)
abbrev rmX10_maySell : Room := { frames := 0, cells := 0, slots := 0, locals := 0 }
def fX10_maySell (x1 : Int32) (u : mS) : Option (Int32 × mS) :=
  (mR u 9 20 x1).bind fun v5 =>
  if v5 = 0 then (
    (mR u 3 20 x1).bind fun v14 =>
    if v14 = (1 : Int32) then (
      some ((0 : Int32), u)
    ) else (
      (mR u 4 20 x1).bind fun v28 =>
      (mR u 3 20 x1).bind fun v40 =>
      (mR u 28 4 v40).bind fun v41 =>
      if (u.1 0) < (v28 + ((30 : Int32) * v41)) then (
        some ((0 : Int32), u)
      ) else (
        some ((1 : Int32), u)
      )
    )
  ) else (
    some ((0 : Int32), u)
  )
set_option maxHeartbeats 4000000 in
set_option maxRecDepth 20000 in
theorem wX10_maySell (C : mC p s m args meth c cX10_maySell 2 (some .boolean) D cI cZ cJ o ad A) {x1 : Int32} {u : mS} {res : Int32 × mS} (h : fX10_maySell x1 u = some res) {H : Heap} {locs : List Loc} (hP : va_P D vwCl (mW cI cZ cJ o ad u) H) (hS : va_S A s.heap H locs) {ls : Array Slot} (hl : lv_has ls 2 [(0, .ref o), (1, .int x1)]) : W p l e rmX10_maySell s m args below meth c H locs 0 0 (MQ below (mQi D cI cZ cJ o ad A res) args s 0 0 A) (F0 m 0 ls []) := by
  have hx := C.1
  have hb := C.2.1
  unfold fX10_maySell at h
  refine lv_aload_n hx hb dX10_maySell_0 rfl (lv_at hl 0 rfl) ?_
  refine mg_is C hP dX10_maySell_1 ?_
  refine lv_iload_n hx hb dX10_maySell_4 rfl (lv_at hl 1 rfl) ?_
  obtain ⟨v5, e5, h⟩ := ob h
  refine ml_is C hP e5 dX10_maySell_5 ?_
  refine lv_if_ne (tgt := 51) hx hb dX10_maySell_6 (by decide) (fun hc => ?_) (fun hc => ?_)
  · replace h := it_neg hc h
    refine lv_iconst (v := 0) hx hb dX10_maySell_51 (by decide) ?_
    exact mx_retz C (by decide) h hP hS dX10_maySell_52
  · replace h := it_pos hc h
    refine lv_aload_n hx hb dX10_maySell_9 rfl (lv_at hl 0 rfl) ?_
    refine mg_kind C hP dX10_maySell_10 ?_
    refine lv_iload_n hx hb dX10_maySell_13 rfl (lv_at hl 1 rfl) ?_
    obtain ⟨v14, e14, h⟩ := ob h
    refine ml_kind C hP e14 dX10_maySell_14 ?_
    refine lv_iconst (v := 1) hx hb dX10_maySell_15 (by decide) ?_
    refine lv_icmp_eq (tgt := 51) hx hb dX10_maySell_16 (by decide) (fun hc => ?_) (fun hc => ?_)
    · replace h := it_pos hc h
      refine lv_iconst (v := 0) hx hb dX10_maySell_51 (by decide) ?_
      exact mx_retz C (by decide) h hP hS dX10_maySell_52
    · replace h := it_neg hc h
      refine lv_aload_n hx hb dX10_maySell_19 rfl (lv_at hl 0 rfl) ?_
      refine mg_today C hP dX10_maySell_20 ?_
      refine lv_aload_n hx hb dX10_maySell_23 rfl (lv_at hl 0 rfl) ?_
      refine mg_foundOn C hP dX10_maySell_24 ?_
      refine lv_iload_n hx hb dX10_maySell_27 rfl (lv_at hl 1 rfl) ?_
      obtain ⟨v28, e28, h⟩ := ob h
      refine ml_foundOn C hP e28 dX10_maySell_28 ?_
      refine lv_bipush (v := 30) hx hb dX10_maySell_29 (by decide) ?_
      refine lv_aload_n hx hb dX10_maySell_31 rfl (lv_at hl 0 rfl) ?_
      refine mg_months C hP dX10_maySell_32 ?_
      refine lv_aload_n hx hb dX10_maySell_35 rfl (lv_at hl 0 rfl) ?_
      refine mg_kind C hP dX10_maySell_36 ?_
      refine lv_iload_n hx hb dX10_maySell_39 rfl (lv_at hl 1 rfl) ?_
      obtain ⟨v40, e40, h⟩ := ob h
      refine ml_kind C hP e40 dX10_maySell_40 ?_
      obtain ⟨v41, e41, h⟩ := ob h
      refine ml_months C hP e41 dX10_maySell_41 ?_
      refine lv_imul hx hb dX10_maySell_42 ?_
      refine lv_iadd hx hb dX10_maySell_43 ?_
      refine lv_icmp_lt (tgt := 51) hx hb dX10_maySell_44 (by decide) (fun hc => ?_) (fun hc => ?_)
      · replace h := it_pos hc h
        refine lv_iconst (v := 0) hx hb dX10_maySell_51 (by decide) ?_
        exact mx_retz C (by decide) h hP hS dX10_maySell_52
      · replace h := it_neg hc h
        refine lv_iconst (v := 1) hx hb dX10_maySell_47 (by decide) ?_
        refine lv_goto (tgt := 52) hx hb dX10_maySell_48 (by decide) ?_
        exact mx_retz C (by decide) h hP hS dX10_maySell_52
theorem tX10_maySell {D : va_G} {cI cZ cJ : ClassId} {o : Nat} {ad : Nat → Nat} {A : Nat → Prop} {x1 : Int32} {u : mS} {res : Int32 × mS} (h : fX10_maySell x1 u = some res) : Met l yX10_maySell (Cond.code yX10_maySell cX10_maySell 2 (some .boolean) :: gW) rmX10_maySell (va_Pc [.ref o, .int x1] (mPre D cI cZ cJ o ad A u)) (mQi D cI cZ cJ o ad A res) 0 0 A :=
  mx_met ⟨by decide +kernel, rfl⟩ (Nat.le_of_ble_eq_true rfl) (fun p e s m below meth c ls C hP hl => wX10_maySell C h hP va_S.rf hl)
abbrev rmX10_allSellable : Room := { frames := 1, cells := 0, slots := 0, locals := 21 }
def fX10_allSellable_28 (x2 : Int32) (s0 : Int32) (s1 : Int32) (u : mS) (k4 : Int32 → Int32 → mS → Option (Int32 × mS)) : Option (Int32 × mS) :=
  k4 (s0 ||| s1) (x2 + (1 : Int32)) u
set_option maxHeartbeats 4000000 in
set_option maxRecDepth 20000 in
theorem wX10_allSellable_28 (C : mC p s m args meth c cX10_allSellable 3 (some .int) D cI cZ cJ o ad A) {x2 : Int32} {s0 : Int32} {s1 : Int32} {u : mS} {res : Int32 × mS} {k4 : Int32 → Int32 → mS → Option (Int32 × mS)} (hk4 : ∀ (x1 : Int32) (x2 : Int32) (u : mS) (H : Heap) (locs : List Loc) (ls : Array Slot), k4 x1 x2 u = some res → va_P D vwCl (mW cI cZ cJ o ad u) H → va_S A s.heap H locs → lv_has ls 3 [(0, .ref o), (1, .int x1), (2, .int x2)] → W p l e rmX10_allSellable s m args below meth c H locs 0 0 (MQ below (mQi D cI cZ cJ o ad A res) args s 0 0 A) (F0 m 4 ls [])) (h : fX10_allSellable_28 x2 s0 s1 u k4 = some res) {H : Heap} {locs : List Loc} (hP : va_P D vwCl (mW cI cZ cJ o ad u) H) (hS : va_S A s.heap H locs) {ls : Array Slot} (hl : lv_has ls 3 [(0, .ref o), (2, .int x2)]) : W p l e rmX10_allSellable s m args below meth c H locs 0 0 (MQ below (mQi D cI cZ cJ o ad A res) args s 0 0 A) (F0 m 28 ls [.int s1, .int s0]) := by
  have hx := C.1
  have hb := C.2.1
  unfold fX10_allSellable_28 at h
  refine lv_ior hx hb dX10_allSellable_28 ?_
  refine lv_istore_n (lv' := [(1, .int (s0 ||| s1)), (0, .ref o), (2, .int x2)]) hx hb dX10_allSellable_29 rfl hl (by decide) rfl (fun ls hl => ?_)
  refine lv_iinc (v := x2 + (1 : Int32)) (lv' := [(2, .int (x2 + (1 : Int32))), (1, .int (s0 ||| s1)), (0, .ref o)]) hx hb dX10_allSellable_30 hl (k := 2) rfl rfl (by decide) rfl (fun ls hl => ?_)
  refine lv_goto (tgt := 4) hx hb dX10_allSellable_33 (by decide) ?_
  exact hk4 _ _ _ _ _ _ h hP hS (lv_sub hl [2, 1, 0] rfl)
def fX10_allSellable_4_b (x1 : Int32) (x2 : Int32) (u : mS) (k4 : Int32 → Int32 → mS → Option (Int32 × mS)) : Option (Int32 × mS) :=
  if (u.1 2) ≤ x2 then (
    some (x1, u)
  ) else (
    bI (fX10_maySell x2 u) fun r15 u15 =>
    if r15 = 0 then (
      fX10_allSellable_28 x2 x1 (0 : Int32) u15 k4
    ) else (
      fX10_allSellable_28 x2 x1 ((1 : Int32) <<< (x2 &&& 31)) u15 k4
    )
  )
set_option maxHeartbeats 4000000 in
set_option maxRecDepth 20000 in
theorem wX10_allSellable_4_b (C : mC p s m args meth c cX10_allSellable 3 (some .int) D cI cZ cJ o ad A) {x1 : Int32} {x2 : Int32} {u : mS} {res : Int32 × mS} {k4 : Int32 → Int32 → mS → Option (Int32 × mS)} (hk4 : ∀ (x1 : Int32) (x2 : Int32) (u : mS) (H : Heap) (locs : List Loc) (ls : Array Slot), k4 x1 x2 u = some res → va_P D vwCl (mW cI cZ cJ o ad u) H → va_S A s.heap H locs → lv_has ls 3 [(0, .ref o), (1, .int x1), (2, .int x2)] → W p l e rmX10_allSellable s m args below meth c H locs 0 0 (MQ below (mQi D cI cZ cJ o ad A res) args s 0 0 A) (F0 m 4 ls [])) (h : fX10_allSellable_4_b x1 x2 u k4 = some res) {H : Heap} {locs : List Loc} (hP : va_P D vwCl (mW cI cZ cJ o ad u) H) (hS : va_S A s.heap H locs) {ls : Array Slot} (hl : lv_has ls 3 [(0, .ref o), (1, .int x1), (2, .int x2)]) : W p l e rmX10_allSellable s m args below meth c H locs 0 0 (MQ below (mQi D cI cZ cJ o ad A res) args s 0 0 A) (F0 m 4 ls []) := by
  have hx := C.1
  have hb := C.2.1
  unfold fX10_allSellable_4_b at h
  refine lv_iload_n hx hb dX10_allSellable_4 rfl (lv_at hl 2 rfl) ?_
  refine lv_aload_n hx hb dX10_allSellable_5 rfl (lv_at hl 0 rfl) ?_
  refine mg_things C hP dX10_allSellable_6 ?_
  refine lv_icmp_ge (tgt := 36) hx hb dX10_allSellable_9 (by decide) (fun hc => ?_) (fun hc => ?_)
  · replace h := it_pos hc h
    refine lv_iload_n hx hb dX10_allSellable_36 rfl (lv_at hl 1 rfl) ?_
    exact mx_reti C h hP hS dX10_allSellable_37
  · replace h := it_neg hc h
    refine lv_iload_n hx hb dX10_allSellable_12 rfl (lv_at hl 1 rfl) ?_
    refine lv_aload_n hx hb dX10_allSellable_13 rfl (lv_at hl 0 rfl) ?_
    refine lv_iload_n hx hb dX10_allSellable_14 rfl (lv_at hl 2 rfl) ?_
    obtain ⟨r15, u15, e15, h⟩ := obI h
    refine mx_cVi C hP hS [.int x2] (tX10_maySell e15) qX10_198 ⟨rfl, rfl, Nat.le_of_ble_eq_true rfl, Nat.le_of_ble_eq_true rfl⟩ rfl hl.1 rfl (Nat.le_of_ble_eq_true rfl) dX10_allSellable_15 (fun H locs hP hS => ?_)
    refine lv_if_eq (tgt := 27) hx hb dX10_allSellable_18 (by decide) (fun hc => ?_) (fun hc => ?_)
    · replace h := it_pos hc h
      refine lv_iconst (v := 0) hx hb dX10_allSellable_27 (by decide) ?_
      exact wX10_allSellable_28 C hk4 h hP hS (lv_sub hl [0, 2] rfl)
    · replace h := it_neg hc h
      refine lv_iconst (v := 1) hx hb dX10_allSellable_21 (by decide) ?_
      refine lv_iload_n hx hb dX10_allSellable_22 rfl (lv_at hl 2 rfl) ?_
      refine lv_ishl hx hb dX10_allSellable_23 ?_
      refine lv_goto (tgt := 28) hx hb dX10_allSellable_24 (by decide) ?_
      exact wX10_allSellable_28 C hk4 h hP hS (lv_sub hl [0, 2] rfl)
def fX10_allSellable_4 : Nat → Int32 → Int32 → mS → Option (Int32 × mS)
  | 0 => fun _ _ _ => none
  | n + 1 => fun x1 x2 u => fX10_allSellable_4_b x1 x2 u (fX10_allSellable_4 n) 
theorem wX10_allSellable_4 (C : mC p s m args meth c cX10_allSellable 3 (some .int) D cI cZ cJ o ad A) {res : Int32 × mS} (n : Nat) : ∀ {x1 : Int32} {x2 : Int32} {u : mS} {H : Heap} {locs : List Loc} {ls : Array Slot}, fX10_allSellable_4 n x1 x2 u = some res → va_P D vwCl (mW cI cZ cJ o ad u) H → va_S A s.heap H locs → lv_has ls 3 [(0, .ref o), (1, .int x1), (2, .int x2)] → W p l e rmX10_allSellable s m args below meth c H locs 0 0 (MQ below (mQi D cI cZ cJ o ad A res) args s 0 0 A) (F0 m 4 ls []) := by
  induction n with
  | zero => intro _ _ _ _ _ _ h _ _ _; cases (show (none : Option (Int32 × mS)) = some res from h)
  | succ n ih => intro _ _ _ _ _ _ h hP hS hl; exact wX10_allSellable_4_b C (fun _ _ _ _ _ _ h hP hS hl => ih h hP hS hl) h hP hS hl
def fX10_allSellable (u : mS) : Option (Int32 × mS) :=
  fX10_allSellable_4  FU (0 : Int32) (0 : Int32) u
set_option maxHeartbeats 4000000 in
set_option maxRecDepth 20000 in
theorem wX10_allSellable (C : mC p s m args meth c cX10_allSellable 3 (some .int) D cI cZ cJ o ad A) {u : mS} {res : Int32 × mS} (h : fX10_allSellable u = some res) {H : Heap} {locs : List Loc} (hP : va_P D vwCl (mW cI cZ cJ o ad u) H) (hS : va_S A s.heap H locs) {ls : Array Slot} (hl : lv_has ls 3 [(0, .ref o)]) : W p l e rmX10_allSellable s m args below meth c H locs 0 0 (MQ below (mQi D cI cZ cJ o ad A res) args s 0 0 A) (F0 m 0 ls []) := by
  have hx := C.1
  have hb := C.2.1
  unfold fX10_allSellable at h
  refine lv_iconst (v := 0) hx hb dX10_allSellable_0 (by decide) ?_
  refine lv_istore_n (lv' := [(1, .int (0 : Int32)), (0, .ref o)]) hx hb dX10_allSellable_1 rfl hl (by decide) rfl (fun ls hl => ?_)
  refine lv_iconst (v := 0) hx hb dX10_allSellable_2 (by decide) ?_
  refine lv_istore_n (lv' := [(2, .int (0 : Int32)), (1, .int (0 : Int32)), (0, .ref o)]) hx hb dX10_allSellable_3 rfl hl (by decide) rfl (fun ls hl => ?_)
  exact wX10_allSellable_4 C  FU h hP hS (lv_sub hl [2, 1, 0] rfl)
theorem tX10_allSellable {D : va_G} {cI cZ cJ : ClassId} {o : Nat} {ad : Nat → Nat} {A : Nat → Prop} {u : mS} {res : Int32 × mS} (h : fX10_allSellable u = some res) : Met l yX10_allSellable (Cond.code yX10_allSellable cX10_allSellable 3 (some .int) :: gW) rmX10_allSellable (va_Pc [.ref o] (mPre D cI cZ cJ o ad A u)) (mQi D cI cZ cJ o ad A res) 0 0 A :=
  mx_met ⟨by decide +kernel, rfl⟩ (Nat.le_of_ble_eq_true rfl) (fun p e s m below meth c ls C hP hl => wX10_allSellable C h hP va_S.rf hl)
abbrev rmX10_sellable : Room := { frames := 2, cells := 0, slots := 0, locals := 43 }
def fX10_sellable (u : mS) : Option (Int32 × mS) :=
  bI (fX10_allSellable u) fun r1 u1 =>
  some (r1, u1)
set_option maxHeartbeats 4000000 in
set_option maxRecDepth 20000 in
theorem wX10_sellable (C : mC p s m args meth c cX10_sellable 1 (some .int) D cI cZ cJ o ad A) {u : mS} {res : Int32 × mS} (h : fX10_sellable u = some res) {H : Heap} {locs : List Loc} (hP : va_P D vwCl (mW cI cZ cJ o ad u) H) (hS : va_S A s.heap H locs) {ls : Array Slot} (hl : lv_has ls 1 [(0, .ref o)]) : W p l e rmX10_sellable s m args below meth c H locs 0 0 (MQ below (mQi D cI cZ cJ o ad A res) args s 0 0 A) (F0 m 0 ls []) := by
  have hx := C.1
  have hb := C.2.1
  unfold fX10_sellable at h
  refine lv_aload_n hx hb dX10_sellable_0 rfl (lv_at hl 0 rfl) ?_
  obtain ⟨r1, u1, e1, h⟩ := obI h
  refine mx_cVi C hP hS [] (tX10_allSellable e1) qX10_201 ⟨rfl, rfl, Nat.le_of_ble_eq_true rfl, Nat.le_of_ble_eq_true rfl⟩ rfl hl.1 rfl (Nat.le_of_ble_eq_true rfl) dX10_sellable_1 (fun H locs hP hS => ?_)
  exact mx_reti C h hP hS dX10_sellable_4
theorem tX10_sellable {D : va_G} {cI cZ cJ : ClassId} {o : Nat} {ad : Nat → Nat} {A : Nat → Prop} {u : mS} {res : Int32 × mS} (h : fX10_sellable u = some res) : Met l yX10_sellable (Cond.code yX10_sellable cX10_sellable 1 (some .int) :: gW) rmX10_sellable (va_Pc [.ref o] (mPre D cI cZ cJ o ad A u)) (mQi D cI cZ cJ o ad A res) 0 0 A :=
  mx_met ⟨by decide +kernel, rfl⟩ (Nat.le_of_ble_eq_true rfl) (fun p e s m below meth c ls C hP hl => wX10_sellable C h hP va_S.rf hl)
abbrev rmX10_ones : Room := { frames := 0, cells := 0, slots := 0, locals := 0 }
def fX10_ones_4_b (x0 : Int32) (x1 : Int32) (x2 : Int32) (u : mS) (k4 : Int32 → Int32 → Int32 → mS → Option (Int32 × mS)) : Option (Int32 × mS) :=
  if (20 : Int32) ≤ x2 then (
    some (x1, u)
  ) else (
    pU (x1 + ((x0 >>> (x2 &&& 31)) &&& (1 : Int32))) fun z17 =>
    k4 x0 z17 (x2 + (1 : Int32)) u
  )
set_option maxHeartbeats 4000000 in
set_option maxRecDepth 20000 in
theorem wX10_ones_4_b (C : mC p s m args meth c cX10_ones 3 (some .int) D cI cZ cJ o ad A) {x0 : Int32} {x1 : Int32} {x2 : Int32} {u : mS} {res : Int32 × mS} {k4 : Int32 → Int32 → Int32 → mS → Option (Int32 × mS)} (hk4 : ∀ (x0 : Int32) (x1 : Int32) (x2 : Int32) (u : mS) (H : Heap) (locs : List Loc) (ls : Array Slot), k4 x0 x1 x2 u = some res → va_P D vwCl (mW cI cZ cJ o ad u) H → va_S A s.heap H locs → lv_has ls 3 [(0, .int x0), (1, .int x1), (2, .int x2)] → W p l e rmX10_ones s m args below meth c H locs 0 0 (MQ below (mQi D cI cZ cJ o ad A res) args s 0 0 A) (F0 m 4 ls [])) (h : fX10_ones_4_b x0 x1 x2 u k4 = some res) {H : Heap} {locs : List Loc} (hP : va_P D vwCl (mW cI cZ cJ o ad u) H) (hS : va_S A s.heap H locs) {ls : Array Slot} (hl : lv_has ls 3 [(0, .int x0), (1, .int x1), (2, .int x2)]) : W p l e rmX10_ones s m args below meth c H locs 0 0 (MQ below (mQi D cI cZ cJ o ad A res) args s 0 0 A) (F0 m 4 ls []) := by
  have hx := C.1
  have hb := C.2.1
  unfold fX10_ones_4_b at h
  refine lv_iload_n hx hb dX10_ones_4 rfl (lv_at hl 2 rfl) ?_
  refine lv_bipush (v := 20) hx hb dX10_ones_5 (by decide) ?_
  refine lv_icmp_ge (tgt := 24) hx hb dX10_ones_7 (by decide) (fun hc => ?_) (fun hc => ?_)
  · replace h := it_pos hc h
    refine lv_iload_n hx hb dX10_ones_24 rfl (lv_at hl 1 rfl) ?_
    exact mx_reti C h hP hS dX10_ones_25
  · replace h := it_neg hc h
    refine lv_iload_n hx hb dX10_ones_10 rfl (lv_at hl 1 rfl) ?_
    refine lv_iload_n hx hb dX10_ones_11 rfl (lv_at hl 0 rfl) ?_
    refine lv_iload_n hx hb dX10_ones_12 rfl (lv_at hl 2 rfl) ?_
    refine lv_ishr hx hb dX10_ones_13 ?_
    refine lv_iconst (v := 1) hx hb dX10_ones_14 (by decide) ?_
    refine lv_iand hx hb dX10_ones_15 ?_
    refine lv_iadd hx hb dX10_ones_16 ?_
    obtain ⟨z17, ez17, h⟩ := op h
    refine mx_topI ez17 ?_
    refine lv_istore_n (lv' := [(1, .int z17), (0, .int x0), (2, .int x2)]) hx hb dX10_ones_17 rfl hl (by decide) rfl (fun ls hl => ?_)
    refine lv_iinc (v := x2 + (1 : Int32)) (lv' := [(2, .int (x2 + (1 : Int32))), (1, .int z17), (0, .int x0)]) hx hb dX10_ones_18 hl (k := 2) rfl rfl (by decide) rfl (fun ls hl => ?_)
    refine lv_goto (tgt := 4) hx hb dX10_ones_21 (by decide) ?_
    exact hk4 _ _ _ _ _ _ _ h hP hS (lv_sub hl [2, 1, 0] rfl)
def fX10_ones_4 : Nat → Int32 → Int32 → Int32 → mS → Option (Int32 × mS)
  | 0 => fun _ _ _ _ => none
  | n + 1 => fun x0 x1 x2 u => fX10_ones_4_b x0 x1 x2 u (fX10_ones_4 n) 
theorem wX10_ones_4 (C : mC p s m args meth c cX10_ones 3 (some .int) D cI cZ cJ o ad A) {res : Int32 × mS} (n : Nat) : ∀ {x0 : Int32} {x1 : Int32} {x2 : Int32} {u : mS} {H : Heap} {locs : List Loc} {ls : Array Slot}, fX10_ones_4 n x0 x1 x2 u = some res → va_P D vwCl (mW cI cZ cJ o ad u) H → va_S A s.heap H locs → lv_has ls 3 [(0, .int x0), (1, .int x1), (2, .int x2)] → W p l e rmX10_ones s m args below meth c H locs 0 0 (MQ below (mQi D cI cZ cJ o ad A res) args s 0 0 A) (F0 m 4 ls []) := by
  induction n with
  | zero => intro _ _ _ _ _ _ _ h _ _ _; cases (show (none : Option (Int32 × mS)) = some res from h)
  | succ n ih => intro _ _ _ _ _ _ _ h hP hS hl; exact wX10_ones_4_b C (fun _ _ _ _ _ _ _ h hP hS hl => ih h hP hS hl) h hP hS hl
def fX10_ones (x0 : Int32) (u : mS) : Option (Int32 × mS) :=
  fX10_ones_4  FU x0 (0 : Int32) (0 : Int32) u
set_option maxHeartbeats 4000000 in
set_option maxRecDepth 20000 in
theorem wX10_ones (C : mC p s m args meth c cX10_ones 3 (some .int) D cI cZ cJ o ad A) {x0 : Int32} {u : mS} {res : Int32 × mS} (h : fX10_ones x0 u = some res) {H : Heap} {locs : List Loc} (hP : va_P D vwCl (mW cI cZ cJ o ad u) H) (hS : va_S A s.heap H locs) {ls : Array Slot} (hl : lv_has ls 3 [(0, .int x0)]) : W p l e rmX10_ones s m args below meth c H locs 0 0 (MQ below (mQi D cI cZ cJ o ad A res) args s 0 0 A) (F0 m 0 ls []) := by
  have hx := C.1
  have hb := C.2.1
  unfold fX10_ones at h
  refine lv_iconst (v := 0) hx hb dX10_ones_0 (by decide) ?_
  refine lv_istore_n (lv' := [(1, .int (0 : Int32)), (0, .int x0)]) hx hb dX10_ones_1 rfl hl (by decide) rfl (fun ls hl => ?_)
  refine lv_iconst (v := 0) hx hb dX10_ones_2 (by decide) ?_
  refine lv_istore_n (lv' := [(2, .int (0 : Int32)), (1, .int (0 : Int32)), (0, .int x0)]) hx hb dX10_ones_3 rfl hl (by decide) rfl (fun ls hl => ?_)
  exact wX10_ones_4 C  FU h hP hS (lv_sub hl [2, 1, 0] rfl)
theorem tX10_ones {D : va_G} {cI cZ cJ : ClassId} {o : Nat} {ad : Nat → Nat} {A : Nat → Prop} {x0 : Int32} {u : mS} {res : Int32 × mS} (h : fX10_ones x0 u = some res) : Met l yX10_ones (Cond.code yX10_ones cX10_ones 3 (some .int) :: gW) rmX10_ones (va_Pc [.int x0] (mPre D cI cZ cJ o ad A u)) (mQi D cI cZ cJ o ad A res) 0 0 A :=
  mx_met ⟨by decide +kernel, rfl⟩ (Nat.le_of_ble_eq_true rfl) (fun p e s m below meth c ls C hP hl => wX10_ones C h hP va_S.rf hl)
abbrev rmX10_isSet : Room := { frames := 1, cells := 0, slots := 0, locals := 22 }
def fX10_isSet (x1 : Int32) (u : mS) : Option (Int32 × mS) :=
  bI (fX10_isIn x1 (0 : Int32) (((1 : Int32) <<< ((u.1 2) &&& 31)) - (1 : Int32)) u) fun r10 u10 =>
  if (r10 = 0 ∨ r10 = 1) then some (r10, u10) else none
set_option maxHeartbeats 4000000 in
set_option maxRecDepth 20000 in
theorem wX10_isSet (C : mC p s m args meth c cX10_isSet 2 (some .boolean) D cI cZ cJ o ad A) {x1 : Int32} {u : mS} {res : Int32 × mS} (h : fX10_isSet x1 u = some res) {H : Heap} {locs : List Loc} (hP : va_P D vwCl (mW cI cZ cJ o ad u) H) (hS : va_S A s.heap H locs) {ls : Array Slot} (hl : lv_has ls 2 [(0, .ref o), (1, .int x1)]) : W p l e rmX10_isSet s m args below meth c H locs 0 0 (MQ below (mQi D cI cZ cJ o ad A res) args s 0 0 A) (F0 m 0 ls []) := by
  have hx := C.1
  have hb := C.2.1
  unfold fX10_isSet at h
  refine lv_iload_n hx hb dX10_isSet_0 rfl (lv_at hl 1 rfl) ?_
  refine lv_iconst (v := 0) hx hb dX10_isSet_1 (by decide) ?_
  refine lv_iconst (v := 1) hx hb dX10_isSet_2 (by decide) ?_
  refine lv_aload_n hx hb dX10_isSet_3 rfl (lv_at hl 0 rfl) ?_
  refine mg_things C hP dX10_isSet_4 ?_
  refine lv_ishl hx hb dX10_isSet_7 ?_
  refine lv_iconst (v := 1) hx hb dX10_isSet_8 (by decide) ?_
  refine lv_isub hx hb dX10_isSet_9 ?_
  obtain ⟨r10, u10, e10, h⟩ := obI h
  refine mx_cSi C hP hS [.int x1, .int (0 : Int32), .int (((1 : Int32) <<< ((u.1 2) &&& 31)) - (1 : Int32))] (tX10_isIn e10) qX10_131 ⟨rfl, rfl, Nat.le_of_ble_eq_true rfl, Nat.le_of_ble_eq_true rfl⟩ rfl hl.1 rfl (Nat.le_of_ble_eq_true rfl) dX10_isSet_10 (fun H locs hP hS => ?_)
  obtain ⟨hz, h⟩ := if_so h
  exact mx_retz C hz (congrArg some h) hP hS dX10_isSet_13
theorem tX10_isSet {D : va_G} {cI cZ cJ : ClassId} {o : Nat} {ad : Nat → Nat} {A : Nat → Prop} {x1 : Int32} {u : mS} {res : Int32 × mS} (h : fX10_isSet x1 u = some res) : Met l yX10_isSet (Cond.code yX10_isSet cX10_isSet 2 (some .boolean) :: gW) rmX10_isSet (va_Pc [.ref o, .int x1] (mPre D cI cZ cJ o ad A u)) (mQi D cI cZ cJ o ad A res) 0 0 A :=
  mx_met ⟨by decide +kernel, rfl⟩ (Nat.le_of_ble_eq_true rfl) (fun p e s m below meth c ls C hP hl => wX10_isSet C h hP va_S.rf hl)
abbrev rmX10_sell : Room := { frames := 2, cells := 0, slots := 0, locals := 43 }
def fX10_sell_81 (x1 : Int32) (x2 : Int32) (x4 : Int32) (s0 : Int32) (s1 : Int32) (u : mS) (k50 : Int32 → Int32 → Int32 → Int32 → mS → Option (Int32 × mS)) : Option (Int32 × mS) :=
  k50 x1 x2 (s0 + s1) (x4 + (1 : Int32)) u
set_option maxHeartbeats 4000000 in
set_option maxRecDepth 20000 in
theorem wX10_sell_81 (C : mC p s m args meth c cX10_sell 7 (some .int) D cI cZ cJ o ad A) {x1 : Int32} {x2 : Int32} {x4 : Int32} {s0 : Int32} {s1 : Int32} {u : mS} {res : Int32 × mS} {k50 : Int32 → Int32 → Int32 → Int32 → mS → Option (Int32 × mS)} (hk50 : ∀ (x1 : Int32) (x2 : Int32) (x3 : Int32) (x4 : Int32) (u : mS) (H : Heap) (locs : List Loc) (ls : Array Slot), k50 x1 x2 x3 x4 u = some res → va_P D vwCl (mW cI cZ cJ o ad u) H → va_S A s.heap H locs → lv_has ls 7 [(0, .ref o), (1, .int x1), (2, .int x2), (3, .int x3), (4, .int x4)] → W p l e rmX10_sell s m args below meth c H locs 0 0 (MQ below (mQi D cI cZ cJ o ad A res) args s 0 0 A) (F0 m 50 ls [])) (h : fX10_sell_81 x1 x2 x4 s0 s1 u k50 = some res) {H : Heap} {locs : List Loc} (hP : va_P D vwCl (mW cI cZ cJ o ad u) H) (hS : va_S A s.heap H locs) {ls : Array Slot} (hl : lv_has ls 7 [(0, .ref o), (1, .int x1), (2, .int x2), (4, .int x4)]) : W p l e rmX10_sell s m args below meth c H locs 0 0 (MQ below (mQi D cI cZ cJ o ad A res) args s 0 0 A) (F0 m 81 ls [.int s1, .int s0]) := by
  have hx := C.1
  have hb := C.2.1
  unfold fX10_sell_81 at h
  refine lv_iadd hx hb dX10_sell_81 ?_
  refine lv_istore_n (lv' := [(3, .int (s0 + s1)), (0, .ref o), (1, .int x1), (2, .int x2), (4, .int x4)]) hx hb dX10_sell_82 rfl hl (by decide) rfl (fun ls hl => ?_)
  refine lv_iinc (v := x4 + (1 : Int32)) (lv' := [(4, .int (x4 + (1 : Int32))), (3, .int (s0 + s1)), (0, .ref o), (1, .int x1), (2, .int x2)]) hx hb dX10_sell_83 hl (k := 4) rfl rfl (by decide) rfl (fun ls hl => ?_)
  refine lv_goto (tgt := 50) hx hb dX10_sell_86 (by decide) ?_
  exact hk50 _ _ _ _ _ _ _ _ h hP hS (lv_sub hl [2, 3, 4, 1, 0] rfl)
def fX10_sell_50_b (x1 : Int32) (x2 : Int32) (x3 : Int32) (x4 : Int32) (u : mS) (k50 : Int32 → Int32 → Int32 → Int32 → mS → Option (Int32 × mS)) (k89 : Int32 → Int32 → Int32 → mS → Option (Int32 × mS)) : Option (Int32 × mS) :=
  if (u.1 2) ≤ x4 then (
    k89 x1 x2 x3 u
  ) else (
    if ((x1 >>> (x4 &&& 31)) &&& (1 : Int32)) = (1 : Int32) then (
      (mR u 7 20 x4).bind fun v76 =>
      fX10_sell_81 x1 x2 x4 x3 v76 u k50
    ) else (
      fX10_sell_81 x1 x2 x4 x3 (0 : Int32) u k50
    )
  )
set_option maxHeartbeats 4000000 in
set_option maxRecDepth 20000 in
theorem wX10_sell_50_b (C : mC p s m args meth c cX10_sell 7 (some .int) D cI cZ cJ o ad A) {x1 : Int32} {x2 : Int32} {x3 : Int32} {x4 : Int32} {u : mS} {res : Int32 × mS} {k50 : Int32 → Int32 → Int32 → Int32 → mS → Option (Int32 × mS)} {k89 : Int32 → Int32 → Int32 → mS → Option (Int32 × mS)} (hk50 : ∀ (x1 : Int32) (x2 : Int32) (x3 : Int32) (x4 : Int32) (u : mS) (H : Heap) (locs : List Loc) (ls : Array Slot), k50 x1 x2 x3 x4 u = some res → va_P D vwCl (mW cI cZ cJ o ad u) H → va_S A s.heap H locs → lv_has ls 7 [(0, .ref o), (1, .int x1), (2, .int x2), (3, .int x3), (4, .int x4)] → W p l e rmX10_sell s m args below meth c H locs 0 0 (MQ below (mQi D cI cZ cJ o ad A res) args s 0 0 A) (F0 m 50 ls [])) (hk89 : ∀ (x1 : Int32) (x2 : Int32) (x3 : Int32) (u : mS) (H : Heap) (locs : List Loc) (ls : Array Slot), k89 x1 x2 x3 u = some res → va_P D vwCl (mW cI cZ cJ o ad u) H → va_S A s.heap H locs → lv_has ls 7 [(0, .ref o), (1, .int x1), (2, .int x2), (3, .int x3)] → W p l e rmX10_sell s m args below meth c H locs 0 0 (MQ below (mQi D cI cZ cJ o ad A res) args s 0 0 A) (F0 m 89 ls [])) (h : fX10_sell_50_b x1 x2 x3 x4 u k50 k89 = some res) {H : Heap} {locs : List Loc} (hP : va_P D vwCl (mW cI cZ cJ o ad u) H) (hS : va_S A s.heap H locs) {ls : Array Slot} (hl : lv_has ls 7 [(0, .ref o), (1, .int x1), (2, .int x2), (3, .int x3), (4, .int x4)]) : W p l e rmX10_sell s m args below meth c H locs 0 0 (MQ below (mQi D cI cZ cJ o ad A res) args s 0 0 A) (F0 m 50 ls []) := by
  have hx := C.1
  have hb := C.2.1
  unfold fX10_sell_50_b at h
  refine lv_iload hx hb dX10_sell_50 (lv_at hl 4 rfl) ?_
  refine lv_aload_n hx hb dX10_sell_52 rfl (lv_at hl 0 rfl) ?_
  refine mg_things C hP dX10_sell_53 ?_
  refine lv_icmp_ge (tgt := 89) hx hb dX10_sell_56 (by decide) (fun hc => ?_) (fun hc => ?_)
  · replace h := it_pos hc h
    exact hk89 _ _ _ _ _ _ _ h hP hS (lv_sub hl [0, 1, 2, 3] rfl)
  · replace h := it_neg hc h
    refine lv_iload_n hx hb dX10_sell_59 rfl (lv_at hl 3 rfl) ?_
    refine lv_iload_n hx hb dX10_sell_60 rfl (lv_at hl 1 rfl) ?_
    refine lv_iload hx hb dX10_sell_61 (lv_at hl 4 rfl) ?_
    refine lv_ishr hx hb dX10_sell_63 ?_
    refine lv_iconst (v := 1) hx hb dX10_sell_64 (by decide) ?_
    refine lv_iand hx hb dX10_sell_65 ?_
    refine lv_iconst (v := 1) hx hb dX10_sell_66 (by decide) ?_
    refine lv_icmp_ne (tgt := 80) hx hb dX10_sell_67 (by decide) (fun hc => ?_) (fun hc => ?_)
    · replace h := it_neg hc h
      refine lv_iconst (v := 0) hx hb dX10_sell_80 (by decide) ?_
      exact wX10_sell_81 C hk50 h hP hS (lv_sub hl [0, 1, 2, 4] rfl)
    · replace h := it_pos hc h
      refine lv_aload_n hx hb dX10_sell_70 rfl (lv_at hl 0 rfl) ?_
      refine mg_worth C hP dX10_sell_71 ?_
      refine lv_iload hx hb dX10_sell_74 (lv_at hl 4 rfl) ?_
      obtain ⟨v76, e76, h⟩ := ob h
      refine ml_worth C hP e76 dX10_sell_76 ?_
      refine lv_goto (tgt := 81) hx hb dX10_sell_77 (by decide) ?_
      exact wX10_sell_81 C hk50 h hP hS (lv_sub hl [0, 1, 2, 4] rfl)
def fX10_sell_50 (k89 : Int32 → Int32 → Int32 → mS → Option (Int32 × mS)) : Nat → Int32 → Int32 → Int32 → Int32 → mS → Option (Int32 × mS)
  | 0 => fun _ _ _ _ _ => none
  | n + 1 => fun x1 x2 x3 x4 u => fX10_sell_50_b x1 x2 x3 x4 u (fX10_sell_50 k89 n) k89 
theorem wX10_sell_50 (C : mC p s m args meth c cX10_sell 7 (some .int) D cI cZ cJ o ad A) {res : Int32 × mS} {k89 : Int32 → Int32 → Int32 → mS → Option (Int32 × mS)} (hk89 : ∀ (x1 : Int32) (x2 : Int32) (x3 : Int32) (u : mS) (H : Heap) (locs : List Loc) (ls : Array Slot), k89 x1 x2 x3 u = some res → va_P D vwCl (mW cI cZ cJ o ad u) H → va_S A s.heap H locs → lv_has ls 7 [(0, .ref o), (1, .int x1), (2, .int x2), (3, .int x3)] → W p l e rmX10_sell s m args below meth c H locs 0 0 (MQ below (mQi D cI cZ cJ o ad A res) args s 0 0 A) (F0 m 89 ls [])) (n : Nat) : ∀ {x1 : Int32} {x2 : Int32} {x3 : Int32} {x4 : Int32} {u : mS} {H : Heap} {locs : List Loc} {ls : Array Slot}, fX10_sell_50 k89 n x1 x2 x3 x4 u = some res → va_P D vwCl (mW cI cZ cJ o ad u) H → va_S A s.heap H locs → lv_has ls 7 [(0, .ref o), (1, .int x1), (2, .int x2), (3, .int x3), (4, .int x4)] → W p l e rmX10_sell s m args below meth c H locs 0 0 (MQ below (mQi D cI cZ cJ o ad A res) args s 0 0 A) (F0 m 50 ls []) := by
  induction n with
  | zero => intro _ _ _ _ _ _ _ _ h _ _ _; cases (show (none : Option (Int32 × mS)) = some res from h)
  | succ n ih => intro _ _ _ _ _ _ _ _ h hP hS hl; exact wX10_sell_50_b C (fun _ _ _ _ _ _ _ _ h hP hS hl => ih h hP hS hl) hk89 h hP hS hl
def fX10_sell_176 (x1 : Int32) (x2 : Int32) (x3 : Int32) (x4 : Int32) (x5 : Int32) (u : mS) (k95 : Int32 → Int32 → Int32 → Int32 → Int32 → mS → Option (Int32 × mS)) : Option (Int32 × mS) :=
  k95 x1 x2 x3 x4 (x5 + (1 : Int32)) u
set_option maxHeartbeats 4000000 in
set_option maxRecDepth 20000 in
theorem wX10_sell_176 (C : mC p s m args meth c cX10_sell 7 (some .int) D cI cZ cJ o ad A) {x1 : Int32} {x2 : Int32} {x3 : Int32} {x4 : Int32} {x5 : Int32} {u : mS} {res : Int32 × mS} {k95 : Int32 → Int32 → Int32 → Int32 → Int32 → mS → Option (Int32 × mS)} (hk95 : ∀ (x1 : Int32) (x2 : Int32) (x3 : Int32) (x4 : Int32) (x5 : Int32) (u : mS) (H : Heap) (locs : List Loc) (ls : Array Slot), k95 x1 x2 x3 x4 x5 u = some res → va_P D vwCl (mW cI cZ cJ o ad u) H → va_S A s.heap H locs → lv_has ls 7 [(0, .ref o), (1, .int x1), (2, .int x2), (3, .int x3), (4, .int x4), (5, .int x5)] → W p l e rmX10_sell s m args below meth c H locs 0 0 (MQ below (mQi D cI cZ cJ o ad A res) args s 0 0 A) (F0 m 95 ls [])) (h : fX10_sell_176 x1 x2 x3 x4 x5 u k95 = some res) {H : Heap} {locs : List Loc} (hP : va_P D vwCl (mW cI cZ cJ o ad u) H) (hS : va_S A s.heap H locs) {ls : Array Slot} (hl : lv_has ls 7 [(0, .ref o), (1, .int x1), (2, .int x2), (3, .int x3), (4, .int x4), (5, .int x5)]) : W p l e rmX10_sell s m args below meth c H locs 0 0 (MQ below (mQi D cI cZ cJ o ad A res) args s 0 0 A) (F0 m 176 ls []) := by
  have hx := C.1
  have hb := C.2.1
  unfold fX10_sell_176 at h
  refine lv_iinc (v := x5 + (1 : Int32)) (lv' := [(5, .int (x5 + (1 : Int32))), (0, .ref o), (1, .int x1), (2, .int x2), (3, .int x3), (4, .int x4)]) hx hb dX10_sell_176 hl (k := 5) rfl rfl (by decide) rfl (fun ls hl => ?_)
  refine lv_goto (tgt := 95) hx hb dX10_sell_179 (by decide) ?_
  exact hk95 _ _ _ _ _ _ _ _ _ h hP hS (lv_sub hl [1, 2, 3, 4, 5, 0] rfl)
def fX10_sell_148 (x1 : Int32) (x2 : Int32) (x3 : Int32) (x4 : Int32) (x5 : Int32) (s1 : Int32) (s2 : Int32) (u : mS) (k95 : Int32 → Int32 → Int32 → Int32 → Int32 → mS → Option (Int32 × mS)) : Option (Int32 × mS) :=
  (mU u 12 20 s1 s2).bind fun u148 =>
  (mR u148 12 20 x5).bind fun v157 =>
  (mU u148 13 20 x5 (vp_nar .boolean (0 : Int32))).bind fun u168 =>
  (fX10_becomes x5 (2 : Int32) u168).bind fun u173 =>
  fX10_sell_176 x1 x2 x3 (x4 - v157) x5 u173 k95
set_option maxHeartbeats 4000000 in
set_option maxRecDepth 20000 in
theorem wX10_sell_148 (C : mC p s m args meth c cX10_sell 7 (some .int) D cI cZ cJ o ad A) {x1 : Int32} {x2 : Int32} {x3 : Int32} {x4 : Int32} {x5 : Int32} {s1 : Int32} {s2 : Int32} {u : mS} {res : Int32 × mS} {k95 : Int32 → Int32 → Int32 → Int32 → Int32 → mS → Option (Int32 × mS)} (hk95 : ∀ (x1 : Int32) (x2 : Int32) (x3 : Int32) (x4 : Int32) (x5 : Int32) (u : mS) (H : Heap) (locs : List Loc) (ls : Array Slot), k95 x1 x2 x3 x4 x5 u = some res → va_P D vwCl (mW cI cZ cJ o ad u) H → va_S A s.heap H locs → lv_has ls 7 [(0, .ref o), (1, .int x1), (2, .int x2), (3, .int x3), (4, .int x4), (5, .int x5)] → W p l e rmX10_sell s m args below meth c H locs 0 0 (MQ below (mQi D cI cZ cJ o ad A res) args s 0 0 A) (F0 m 95 ls [])) (h : fX10_sell_148 x1 x2 x3 x4 x5 s1 s2 u k95 = some res) {H : Heap} {locs : List Loc} (hP : va_P D vwCl (mW cI cZ cJ o ad u) H) (hS : va_S A s.heap H locs) {ls : Array Slot} (hl : lv_has ls 7 [(0, .ref o), (1, .int x1), (2, .int x2), (3, .int x3), (4, .int x4), (5, .int x5)]) : W p l e rmX10_sell s m args below meth c H locs 0 0 (MQ below (mQi D cI cZ cJ o ad A res) args s 0 0 A) (F0 m 148 ls [.int s2, .int s1, .ref (ad 12)]) := by
  have hx := C.1
  have hb := C.2.1
  unfold fX10_sell_148 at h
  obtain ⟨u148, e148, h⟩ := ob h
  refine ms_shareOf C hP hS e148 dX10_sell_148 (fun H locs hP hS => ?_)
  refine lv_iload hx hb dX10_sell_149 (lv_at hl 4 rfl) ?_
  refine lv_aload_n hx hb dX10_sell_151 rfl (lv_at hl 0 rfl) ?_
  refine mg_shareOf C hP dX10_sell_152 ?_
  refine lv_iload hx hb dX10_sell_155 (lv_at hl 5 rfl) ?_
  obtain ⟨v157, e157, h⟩ := ob h
  refine ml_shareOf C hP e157 dX10_sell_157 ?_
  refine lv_isub hx hb dX10_sell_158 ?_
  refine lv_istore (lv' := [(4, .int (x4 - v157)), (0, .ref o), (1, .int x1), (2, .int x2), (3, .int x3), (5, .int x5)]) hx hb dX10_sell_159 hl (by decide) rfl (fun ls hl => ?_)
  refine lv_aload_n hx hb dX10_sell_161 rfl (lv_at hl 1 rfl) ?_
  refine mg_isPaid C hP dX10_sell_162 ?_
  refine lv_iload hx hb dX10_sell_165 (lv_at hl 5 rfl) ?_
  refine lv_iconst (v := 0) hx hb dX10_sell_167 (by decide) ?_
  obtain ⟨u168, e168, h⟩ := ob h
  refine ms_isPaid C hP hS e168 dX10_sell_168 (fun H locs hP hS => ?_)
  refine lv_aload_n hx hb dX10_sell_169 rfl (lv_at hl 1 rfl) ?_
  refine lv_iload hx hb dX10_sell_170 (lv_at hl 5 rfl) ?_
  refine lv_iconst (v := 2) hx hb dX10_sell_172 (by decide) ?_
  obtain ⟨u173, e173, h⟩ := ob h
  refine mx_cVv C hP hS [.int x5, .int (2 : Int32)] (tX10_becomes e173) qX10_142 ⟨rfl, rfl, Nat.le_of_ble_eq_true rfl, Nat.le_of_ble_eq_true rfl⟩ rfl hl.1 rfl (Nat.le_of_ble_eq_true rfl) dX10_sell_173 (fun H locs hP hS => ?_)
  exact wX10_sell_176 C hk95 h hP hS (lv_sub hl [1, 2, 3, 4, 0, 5] rfl)
def fX10_sell_95_b (x1 : Int32) (x2 : Int32) (x3 : Int32) (x4 : Int32) (x5 : Int32) (u : mS) (k95 : Int32 → Int32 → Int32 → Int32 → Int32 → mS → Option (Int32 × mS)) (k182 : Int32 → Int32 → mS → Option (Int32 × mS)) : Option (Int32 × mS) :=
  if (u.1 2) ≤ x5 then (
    k182 x1 x4 u
  ) else (
    if ((x1 >>> (x5 &&& 31)) &&& (1 : Int32)) = (1 : Int32) then (
      if x3 = 0 then (
        bI (fX10_ones x1 u) fun r126 u126 =>
        if r126 = 0 then none else
        fX10_sell_148 x1 x2 x3 x4 x5 x5 (x2 / r126) u126 k95
      ) else (
        (mR u 7 20 x5).bind fun v141 =>
        if x3.toInt64 = 0 then none else
        fX10_sell_148 x1 x2 x3 x4 x5 x5 (((x2.toInt64 * v141.toInt64) / x3.toInt64).toInt32) u k95
      )
    ) else (
      fX10_sell_176 x1 x2 x3 x4 x5 u k95
    )
  )
set_option maxHeartbeats 4000000 in
set_option maxRecDepth 20000 in
theorem wX10_sell_95_b (C : mC p s m args meth c cX10_sell 7 (some .int) D cI cZ cJ o ad A) {x1 : Int32} {x2 : Int32} {x3 : Int32} {x4 : Int32} {x5 : Int32} {u : mS} {res : Int32 × mS} {k95 : Int32 → Int32 → Int32 → Int32 → Int32 → mS → Option (Int32 × mS)} {k182 : Int32 → Int32 → mS → Option (Int32 × mS)} (hk95 : ∀ (x1 : Int32) (x2 : Int32) (x3 : Int32) (x4 : Int32) (x5 : Int32) (u : mS) (H : Heap) (locs : List Loc) (ls : Array Slot), k95 x1 x2 x3 x4 x5 u = some res → va_P D vwCl (mW cI cZ cJ o ad u) H → va_S A s.heap H locs → lv_has ls 7 [(0, .ref o), (1, .int x1), (2, .int x2), (3, .int x3), (4, .int x4), (5, .int x5)] → W p l e rmX10_sell s m args below meth c H locs 0 0 (MQ below (mQi D cI cZ cJ o ad A res) args s 0 0 A) (F0 m 95 ls [])) (hk182 : ∀ (x1 : Int32) (x4 : Int32) (u : mS) (H : Heap) (locs : List Loc) (ls : Array Slot), k182 x1 x4 u = some res → va_P D vwCl (mW cI cZ cJ o ad u) H → va_S A s.heap H locs → lv_has ls 7 [(0, .ref o), (1, .int x1), (4, .int x4)] → W p l e rmX10_sell s m args below meth c H locs 0 0 (MQ below (mQi D cI cZ cJ o ad A res) args s 0 0 A) (F0 m 182 ls [])) (h : fX10_sell_95_b x1 x2 x3 x4 x5 u k95 k182 = some res) {H : Heap} {locs : List Loc} (hP : va_P D vwCl (mW cI cZ cJ o ad u) H) (hS : va_S A s.heap H locs) {ls : Array Slot} (hl : lv_has ls 7 [(0, .ref o), (1, .int x1), (2, .int x2), (3, .int x3), (4, .int x4), (5, .int x5)]) : W p l e rmX10_sell s m args below meth c H locs 0 0 (MQ below (mQi D cI cZ cJ o ad A res) args s 0 0 A) (F0 m 95 ls []) := by
  have hx := C.1
  have hb := C.2.1
  unfold fX10_sell_95_b at h
  refine lv_iload hx hb dX10_sell_95 (lv_at hl 5 rfl) ?_
  refine lv_aload_n hx hb dX10_sell_97 rfl (lv_at hl 0 rfl) ?_
  refine mg_things C hP dX10_sell_98 ?_
  refine lv_icmp_ge (tgt := 182) hx hb dX10_sell_101 (by decide) (fun hc => ?_) (fun hc => ?_)
  · replace h := it_pos hc h
    exact hk182 _ _ _ _ _ _ h hP hS (lv_sub hl [0, 1, 4] rfl)
  · replace h := it_neg hc h
    refine lv_iload_n hx hb dX10_sell_104 rfl (lv_at hl 1 rfl) ?_
    refine lv_iload hx hb dX10_sell_105 (lv_at hl 5 rfl) ?_
    refine lv_ishr hx hb dX10_sell_107 ?_
    refine lv_iconst (v := 1) hx hb dX10_sell_108 (by decide) ?_
    refine lv_iand hx hb dX10_sell_109 ?_
    refine lv_iconst (v := 1) hx hb dX10_sell_110 (by decide) ?_
    refine lv_icmp_ne (tgt := 176) hx hb dX10_sell_111 (by decide) (fun hc => ?_) (fun hc => ?_)
    · replace h := it_neg hc h
      exact wX10_sell_176 C hk95 h hP hS (lv_sub hl [0, 1, 2, 3, 4, 5] rfl)
    · replace h := it_pos hc h
      refine lv_aload_n hx hb dX10_sell_114 rfl (lv_at hl 0 rfl) ?_
      refine mg_shareOf C hP dX10_sell_115 ?_
      refine lv_iload hx hb dX10_sell_118 (lv_at hl 5 rfl) ?_
      refine lv_iload_n hx hb dX10_sell_120 rfl (lv_at hl 3 rfl) ?_
      refine lv_if_ne (tgt := 133) hx hb dX10_sell_121 (by decide) (fun hc => ?_) (fun hc => ?_)
      · replace h := it_neg hc h
        refine lv_iload_n hx hb dX10_sell_133 rfl (lv_at hl 2 rfl) ?_
        refine lv_i2l hx hb dX10_sell_134 rfl ?_
        refine lv_aload_n hx hb dX10_sell_135 rfl (lv_at hl 0 rfl) ?_
        refine mg_worth C hP dX10_sell_136 ?_
        refine lv_iload hx hb dX10_sell_139 (lv_at hl 5 rfl) ?_
        obtain ⟨v141, e141, h⟩ := ob h
        refine ml_worth C hP e141 dX10_sell_141 ?_
        refine lv_i2l hx hb dX10_sell_142 rfl ?_
        refine lv_lmul hx hb dX10_sell_143 ?_
        refine lv_iload_n hx hb dX10_sell_144 rfl (lv_at hl 3 rfl) ?_
        refine lv_i2l hx hb dX10_sell_145 rfl ?_
        have n146 : ¬ x3.toInt64 = 0 := fun q => by rw [if_pos q] at h; cases h
        replace h := it_neg n146 h
        refine lv_ldiv hx hb dX10_sell_146 n146 ?_
        refine lv_l2i hx hb dX10_sell_147 rfl ?_
        exact wX10_sell_148 C hk95 h hP hS (lv_sub hl [0, 1, 2, 3, 4, 5] rfl)
      · replace h := it_pos hc h
        refine lv_iload_n hx hb dX10_sell_124 rfl (lv_at hl 2 rfl) ?_
        refine lv_iload_n hx hb dX10_sell_125 rfl (lv_at hl 1 rfl) ?_
        obtain ⟨r126, u126, e126, h⟩ := obI h
        refine mx_cSi C hP hS [.int x1] (tX10_ones e126) qX10_208 ⟨rfl, rfl, Nat.le_of_ble_eq_true rfl, Nat.le_of_ble_eq_true rfl⟩ rfl hl.1 rfl (Nat.le_of_ble_eq_true rfl) dX10_sell_126 (fun H locs hP hS => ?_)
        have n129 : ¬ r126 = 0 := fun q => by rw [if_pos q] at h; cases h
        replace h := it_neg n129 h
        refine lv_idiv hx hb dX10_sell_129 n129 ?_
        refine lv_goto (tgt := 148) hx hb dX10_sell_130 (by decide) ?_
        exact wX10_sell_148 C hk95 h hP hS (lv_sub hl [0, 1, 2, 3, 4, 5] rfl)
def fX10_sell_95 (k182 : Int32 → Int32 → mS → Option (Int32 × mS)) : Nat → Int32 → Int32 → Int32 → Int32 → Int32 → mS → Option (Int32 × mS)
  | 0 => fun _ _ _ _ _ _ => none
  | n + 1 => fun x1 x2 x3 x4 x5 u => fX10_sell_95_b x1 x2 x3 x4 x5 u (fX10_sell_95 k182 n) k182 
theorem wX10_sell_95 (C : mC p s m args meth c cX10_sell 7 (some .int) D cI cZ cJ o ad A) {res : Int32 × mS} {k182 : Int32 → Int32 → mS → Option (Int32 × mS)} (hk182 : ∀ (x1 : Int32) (x4 : Int32) (u : mS) (H : Heap) (locs : List Loc) (ls : Array Slot), k182 x1 x4 u = some res → va_P D vwCl (mW cI cZ cJ o ad u) H → va_S A s.heap H locs → lv_has ls 7 [(0, .ref o), (1, .int x1), (4, .int x4)] → W p l e rmX10_sell s m args below meth c H locs 0 0 (MQ below (mQi D cI cZ cJ o ad A res) args s 0 0 A) (F0 m 182 ls [])) (n : Nat) : ∀ {x1 : Int32} {x2 : Int32} {x3 : Int32} {x4 : Int32} {x5 : Int32} {u : mS} {H : Heap} {locs : List Loc} {ls : Array Slot}, fX10_sell_95 k182 n x1 x2 x3 x4 x5 u = some res → va_P D vwCl (mW cI cZ cJ o ad u) H → va_S A s.heap H locs → lv_has ls 7 [(0, .ref o), (1, .int x1), (2, .int x2), (3, .int x3), (4, .int x4), (5, .int x5)] → W p l e rmX10_sell s m args below meth c H locs 0 0 (MQ below (mQi D cI cZ cJ o ad A res) args s 0 0 A) (F0 m 95 ls []) := by
  induction n with
  | zero => intro _ _ _ _ _ _ _ _ _ h _ _ _; cases (show (none : Option (Int32 × mS)) = some res from h)
  | succ n ih => intro _ _ _ _ _ _ _ _ _ h hP hS hl; exact wX10_sell_95_b C (fun _ _ _ _ _ _ _ _ _ h hP hS hl => ih h hP hS hl) hk182 h hP hS hl
def fX10_sell_227 (x1 : Int32) (x4 : Int32) (x5 : Int32) (x6 : Int32) (u : mS) (k189 : Int32 → Int32 → Int32 → Int32 → mS → Option (Int32 × mS)) : Option (Int32 × mS) :=
  k189 x1 x4 x5 (x6 + (1 : Int32)) u
set_option maxHeartbeats 4000000 in
set_option maxRecDepth 20000 in
theorem wX10_sell_227 (C : mC p s m args meth c cX10_sell 7 (some .int) D cI cZ cJ o ad A) {x1 : Int32} {x4 : Int32} {x5 : Int32} {x6 : Int32} {u : mS} {res : Int32 × mS} {k189 : Int32 → Int32 → Int32 → Int32 → mS → Option (Int32 × mS)} (hk189 : ∀ (x1 : Int32) (x4 : Int32) (x5 : Int32) (x6 : Int32) (u : mS) (H : Heap) (locs : List Loc) (ls : Array Slot), k189 x1 x4 x5 x6 u = some res → va_P D vwCl (mW cI cZ cJ o ad u) H → va_S A s.heap H locs → lv_has ls 7 [(0, .ref o), (1, .int x1), (4, .int x4), (5, .int x5), (6, .int x6)] → W p l e rmX10_sell s m args below meth c H locs 0 0 (MQ below (mQi D cI cZ cJ o ad A res) args s 0 0 A) (F0 m 189 ls [])) (h : fX10_sell_227 x1 x4 x5 x6 u k189 = some res) {H : Heap} {locs : List Loc} (hP : va_P D vwCl (mW cI cZ cJ o ad u) H) (hS : va_S A s.heap H locs) {ls : Array Slot} (hl : lv_has ls 7 [(0, .ref o), (1, .int x1), (4, .int x4), (5, .int x5), (6, .int x6)]) : W p l e rmX10_sell s m args below meth c H locs 0 0 (MQ below (mQi D cI cZ cJ o ad A res) args s 0 0 A) (F0 m 227 ls []) := by
  have hx := C.1
  have hb := C.2.1
  unfold fX10_sell_227 at h
  refine lv_iinc (v := x6 + (1 : Int32)) (lv' := [(6, .int (x6 + (1 : Int32))), (0, .ref o), (1, .int x1), (4, .int x4), (5, .int x5)]) hx hb dX10_sell_227 hl (k := 4) rfl rfl (by decide) rfl (fun ls hl => ?_)
  refine lv_goto (tgt := 189) hx hb dX10_sell_230 (by decide) ?_
  exact hk189 _ _ _ _ _ _ _ _ h hP hS (lv_sub hl [1, 2, 3, 4, 0] rfl)
def fX10_sell_189_b (x1 : Int32) (x4 : Int32) (x5 : Int32) (x6 : Int32) (u : mS) (k189 : Int32 → Int32 → Int32 → Int32 → mS → Option (Int32 × mS)) : Option (Int32 × mS) :=
  if (u.1 2) ≤ x6 then (
    some (x5, u)
  ) else (
    if x4 ≤ 0 then (
      some (x5, u)
    ) else (
      if ((x1 >>> (x6 &&& 31)) &&& (1 : Int32)) = (1 : Int32) then (
        (mR u 12 20 x6).bind fun v220 =>
        (mU u 12 20 x6 (v220 + (1 : Int32))).bind fun u223 =>
        fX10_sell_227 x1 (x4 + (-1 : Int32)) x5 x6 u223 k189
      ) else (
        fX10_sell_227 x1 x4 x5 x6 u k189
      )
    )
  )
set_option maxHeartbeats 4000000 in
set_option maxRecDepth 20000 in
theorem wX10_sell_189_b (C : mC p s m args meth c cX10_sell 7 (some .int) D cI cZ cJ o ad A) {x1 : Int32} {x4 : Int32} {x5 : Int32} {x6 : Int32} {u : mS} {res : Int32 × mS} {k189 : Int32 → Int32 → Int32 → Int32 → mS → Option (Int32 × mS)} (hk189 : ∀ (x1 : Int32) (x4 : Int32) (x5 : Int32) (x6 : Int32) (u : mS) (H : Heap) (locs : List Loc) (ls : Array Slot), k189 x1 x4 x5 x6 u = some res → va_P D vwCl (mW cI cZ cJ o ad u) H → va_S A s.heap H locs → lv_has ls 7 [(0, .ref o), (1, .int x1), (4, .int x4), (5, .int x5), (6, .int x6)] → W p l e rmX10_sell s m args below meth c H locs 0 0 (MQ below (mQi D cI cZ cJ o ad A res) args s 0 0 A) (F0 m 189 ls [])) (h : fX10_sell_189_b x1 x4 x5 x6 u k189 = some res) {H : Heap} {locs : List Loc} (hP : va_P D vwCl (mW cI cZ cJ o ad u) H) (hS : va_S A s.heap H locs) {ls : Array Slot} (hl : lv_has ls 7 [(0, .ref o), (1, .int x1), (4, .int x4), (5, .int x5), (6, .int x6)]) : W p l e rmX10_sell s m args below meth c H locs 0 0 (MQ below (mQi D cI cZ cJ o ad A res) args s 0 0 A) (F0 m 189 ls []) := by
  have hx := C.1
  have hb := C.2.1
  unfold fX10_sell_189_b at h
  refine lv_iload hx hb dX10_sell_189 (lv_at hl 4 rfl) ?_
  refine lv_aload_n hx hb dX10_sell_191 rfl (lv_at hl 0 rfl) ?_
  refine mg_things C hP dX10_sell_192 ?_
  refine lv_icmp_ge (tgt := 233) hx hb dX10_sell_195 (by decide) (fun hc => ?_) (fun hc => ?_)
  · replace h := it_pos hc h
    refine lv_iload hx hb dX10_sell_233 (lv_at hl 3 rfl) ?_
    exact mx_reti C h hP hS dX10_sell_235
  · replace h := it_neg hc h
    refine lv_iload hx hb dX10_sell_198 (lv_at hl 2 rfl) ?_
    refine lv_if_le (tgt := 233) hx hb dX10_sell_200 (by decide) (fun hc => ?_) (fun hc => ?_)
    · replace h := it_pos hc h
      refine lv_iload hx hb dX10_sell_233 (lv_at hl 3 rfl) ?_
      exact mx_reti C h hP hS dX10_sell_235
    · replace h := it_neg hc h
      refine lv_iload_n hx hb dX10_sell_203 rfl (lv_at hl 1 rfl) ?_
      refine lv_iload hx hb dX10_sell_204 (lv_at hl 4 rfl) ?_
      refine lv_ishr hx hb dX10_sell_206 ?_
      refine lv_iconst (v := 1) hx hb dX10_sell_207 (by decide) ?_
      refine lv_iand hx hb dX10_sell_208 ?_
      refine lv_iconst (v := 1) hx hb dX10_sell_209 (by decide) ?_
      refine lv_icmp_ne (tgt := 227) hx hb dX10_sell_210 (by decide) (fun hc => ?_) (fun hc => ?_)
      · replace h := it_neg hc h
        exact wX10_sell_227 C hk189 h hP hS (lv_sub hl [0, 1, 2, 3, 4] rfl)
      · replace h := it_pos hc h
        refine lv_aload_n hx hb dX10_sell_213 rfl (lv_at hl 0 rfl) ?_
        refine mg_shareOf C hP dX10_sell_214 ?_
        refine lv_iload hx hb dX10_sell_217 (lv_at hl 4 rfl) ?_
        refine lv_dup2_11 hx hb dX10_sell_219 rfl rfl ?_
        obtain ⟨v220, e220, h⟩ := ob h
        refine ml_shareOf C hP e220 dX10_sell_220 ?_
        refine lv_iconst (v := 1) hx hb dX10_sell_221 (by decide) ?_
        refine lv_iadd hx hb dX10_sell_222 ?_
        obtain ⟨u223, e223, h⟩ := ob h
        refine ms_shareOf C hP hS e223 dX10_sell_223 (fun H locs hP hS => ?_)
        refine lv_iinc (v := x4 + (-1 : Int32)) (lv' := [(4, .int (x4 + (-1 : Int32))), (0, .ref o), (1, .int x1), (5, .int x5), (6, .int x6)]) hx hb dX10_sell_224 hl (k := 2) rfl rfl (by decide) rfl (fun ls hl => ?_)
        exact wX10_sell_227 C hk189 h hP hS (lv_sub hl [1, 2, 0, 3, 4] rfl)
def fX10_sell_189 : Nat → Int32 → Int32 → Int32 → Int32 → mS → Option (Int32 × mS)
  | 0 => fun _ _ _ _ _ => none
  | n + 1 => fun x1 x4 x5 x6 u => fX10_sell_189_b x1 x4 x5 x6 u (fX10_sell_189 n) 
theorem wX10_sell_189 (C : mC p s m args meth c cX10_sell 7 (some .int) D cI cZ cJ o ad A) {res : Int32 × mS} (n : Nat) : ∀ {x1 : Int32} {x4 : Int32} {x5 : Int32} {x6 : Int32} {u : mS} {H : Heap} {locs : List Loc} {ls : Array Slot}, fX10_sell_189 n x1 x4 x5 x6 u = some res → va_P D vwCl (mW cI cZ cJ o ad u) H → va_S A s.heap H locs → lv_has ls 7 [(0, .ref o), (1, .int x1), (4, .int x4), (5, .int x5), (6, .int x6)] → W p l e rmX10_sell s m args below meth c H locs 0 0 (MQ below (mQi D cI cZ cJ o ad A res) args s 0 0 A) (F0 m 189 ls []) := by
  induction n with
  | zero => intro _ _ _ _ _ _ _ _ h _ _ _; cases (show (none : Option (Int32 × mS)) = some res from h)
  | succ n ih => intro _ _ _ _ _ _ _ _ h hP hS hl; exact wX10_sell_189_b C (fun _ _ _ _ _ _ _ _ h hP hS hl => ih h hP hS hl) h hP hS hl
def fX10_sell (x1 : Int32) (x2 : Int32) (u : mS) : Option (Int32 × mS) :=
  bI (fX10_isSet x1 u) fun r2 u2 =>
  if r2 = 0 then (
    bI (fX10_finding (1 : Int32) u2) fun r24 u24 =>
    some (r24, u24)
  ) else (
    if x1 = 0 then (
      bI (fX10_finding (1 : Int32) u2) fun r24 u24 =>
      some (r24, u24)
    ) else (
      bI (fX10_isIn x2 (0 : Int32) (100000 : Int32) u2) fun r16 u16 =>
      if r16 = 0 then (
        bI (fX10_finding (1 : Int32) u16) fun r24 u24 =>
        some (r24, u24)
      ) else (
        bI (fX10_allSellable u16) fun r30 u30 =>
        if (x1 &&& (r30 ^^^ (-1 : Int32))) = 0 then (
          fX10_sell_50 (fun x1 x2 x3 u =>
                fX10_sell_95 (fun x1 x4 u =>
                      fX10_sell_189  FU x1 x4 x4 (0 : Int32) u) FU x1 x2 x3 x2 (0 : Int32) u) FU x1 x2 (0 : Int32) (0 : Int32) u30
        ) else (
          bI (fX10_finding (3 : Int32) u30) fun r41 u41 =>
          some (r41, u41)
        )
      )
    )
  )
set_option maxHeartbeats 4000000 in
set_option maxRecDepth 20000 in
theorem wX10_sell (C : mC p s m args meth c cX10_sell 7 (some .int) D cI cZ cJ o ad A) {x1 : Int32} {x2 : Int32} {u : mS} {res : Int32 × mS} (h : fX10_sell x1 x2 u = some res) {H : Heap} {locs : List Loc} (hP : va_P D vwCl (mW cI cZ cJ o ad u) H) (hS : va_S A s.heap H locs) {ls : Array Slot} (hl : lv_has ls 7 [(0, .ref o), (1, .int x1), (2, .int x2)]) : W p l e rmX10_sell s m args below meth c H locs 0 0 (MQ below (mQi D cI cZ cJ o ad A res) args s 0 0 A) (F0 m 0 ls []) := by
  have hx := C.1
  have hb := C.2.1
  unfold fX10_sell at h
  refine lv_aload_n hx hb dX10_sell_0 rfl (lv_at hl 0 rfl) ?_
  refine lv_iload_n hx hb dX10_sell_1 rfl (lv_at hl 1 rfl) ?_
  obtain ⟨r2, u2, e2, h⟩ := obI h
  refine mx_cVi C hP hS [.int x1] (tX10_isSet e2) qX10_204 ⟨rfl, rfl, Nat.le_of_ble_eq_true rfl, Nat.le_of_ble_eq_true rfl⟩ rfl hl.1 rfl (Nat.le_of_ble_eq_true rfl) dX10_sell_2 (fun H locs hP hS => ?_)
  refine lv_if_eq (tgt := 22) hx hb dX10_sell_5 (by decide) (fun hc => ?_) (fun hc => ?_)
  · replace h := it_pos hc h
    refine lv_aload_n hx hb dX10_sell_22 rfl (lv_at hl 0 rfl) ?_
    refine lv_iconst (v := 1) hx hb dX10_sell_23 (by decide) ?_
    obtain ⟨r24, u24, e24, h⟩ := obI h
    refine mx_cVi C hP hS [.int (1 : Int32)] (tX10_finding e24) qX10_138 ⟨rfl, rfl, Nat.le_of_ble_eq_true rfl, Nat.le_of_ble_eq_true rfl⟩ rfl hl.1 rfl (Nat.le_of_ble_eq_true rfl) dX10_sell_24 (fun H locs hP hS => ?_)
    exact mx_reti C h hP hS dX10_sell_27
  · replace h := it_neg hc h
    refine lv_iload_n hx hb dX10_sell_8 rfl (lv_at hl 1 rfl) ?_
    refine lv_if_eq (tgt := 22) hx hb dX10_sell_9 (by decide) (fun hc => ?_) (fun hc => ?_)
    · replace h := it_pos hc h
      refine lv_aload_n hx hb dX10_sell_22 rfl (lv_at hl 0 rfl) ?_
      refine lv_iconst (v := 1) hx hb dX10_sell_23 (by decide) ?_
      obtain ⟨r24, u24, e24, h⟩ := obI h
      refine mx_cVi C hP hS [.int (1 : Int32)] (tX10_finding e24) qX10_138 ⟨rfl, rfl, Nat.le_of_ble_eq_true rfl, Nat.le_of_ble_eq_true rfl⟩ rfl hl.1 rfl (Nat.le_of_ble_eq_true rfl) dX10_sell_24 (fun H locs hP hS => ?_)
      exact mx_reti C h hP hS dX10_sell_27
    · replace h := it_neg hc h
      refine lv_iload_n hx hb dX10_sell_12 rfl (lv_at hl 2 rfl) ?_
      refine lv_iconst (v := 0) hx hb dX10_sell_13 (by decide) ?_
      refine lv_ldc (v := 100000) hx hb C.2.2.2.1 (C.2.2.2.2.1 _ kcX10_207) dX10_sell_14 ?_
      obtain ⟨r16, u16, e16, h⟩ := obI h
      refine mx_cSi C hP hS [.int x2, .int (0 : Int32), .int (100000 : Int32)] (tX10_isIn e16) qX10_131 ⟨rfl, rfl, Nat.le_of_ble_eq_true rfl, Nat.le_of_ble_eq_true rfl⟩ rfl hl.1 rfl (Nat.le_of_ble_eq_true rfl) dX10_sell_16 (fun H locs hP hS => ?_)
      refine lv_if_ne (tgt := 28) hx hb dX10_sell_19 (by decide) (fun hc => ?_) (fun hc => ?_)
      · replace h := it_neg hc h
        refine lv_iload_n hx hb dX10_sell_28 rfl (lv_at hl 1 rfl) ?_
        refine lv_aload_n hx hb dX10_sell_29 rfl (lv_at hl 0 rfl) ?_
        obtain ⟨r30, u30, e30, h⟩ := obI h
        refine mx_cVi C hP hS [] (tX10_allSellable e30) qX10_201 ⟨rfl, rfl, Nat.le_of_ble_eq_true rfl, Nat.le_of_ble_eq_true rfl⟩ rfl hl.1 rfl (Nat.le_of_ble_eq_true rfl) dX10_sell_30 (fun H locs hP hS => ?_)
        refine lv_iconst (v := -1) hx hb dX10_sell_33 (by decide) ?_
        refine lv_ixor hx hb dX10_sell_34 ?_
        refine lv_iand hx hb dX10_sell_35 ?_
        refine lv_if_eq (tgt := 45) hx hb dX10_sell_36 (by decide) (fun hc => ?_) (fun hc => ?_)
        · replace h := it_pos hc h
          refine lv_iconst (v := 0) hx hb dX10_sell_45 (by decide) ?_
          refine lv_istore_n (lv' := [(3, .int (0 : Int32)), (0, .ref o), (1, .int x1), (2, .int x2)]) hx hb dX10_sell_46 rfl hl (by decide) rfl (fun ls hl => ?_)
          refine lv_iconst (v := 0) hx hb dX10_sell_47 (by decide) ?_
          refine lv_istore (lv' := [(4, .int (0 : Int32)), (3, .int (0 : Int32)), (0, .ref o), (1, .int x1), (2, .int x2)]) hx hb dX10_sell_48 hl (by decide) rfl (fun ls hl => ?_)
          refine wX10_sell_50 C ?_ FU h hP hS (lv_sub hl [2, 3, 4, 1, 0] rfl)
          · intro x1 x2 x3 u H locs ls h hP hS hl
            refine lv_iload_n hx hb dX10_sell_89 rfl (lv_at hl 2 rfl) ?_
            refine lv_istore (lv' := [(4, .int x2), (0, .ref o), (1, .int x1), (2, .int x2), (3, .int x3)]) hx hb dX10_sell_90 hl (by decide) rfl (fun ls hl => ?_)
            refine lv_iconst (v := 0) hx hb dX10_sell_92 (by decide) ?_
            refine lv_istore (lv' := [(5, .int (0 : Int32)), (4, .int x2), (0, .ref o), (1, .int x1), (2, .int x2), (3, .int x3)]) hx hb dX10_sell_93 hl (by decide) rfl (fun ls hl => ?_)
            refine wX10_sell_95 C ?_ FU h hP hS (lv_sub hl [2, 3, 4, 5, 1, 0] rfl)
            · intro x1 x4 u H locs ls h hP hS hl
              refine lv_iload hx hb dX10_sell_182 (lv_at hl 2 rfl) ?_
              refine lv_istore (lv' := [(5, .int x4), (0, .ref o), (1, .int x1), (4, .int x4)]) hx hb dX10_sell_184 hl (by decide) rfl (fun ls hl => ?_)
              refine lv_iconst (v := 0) hx hb dX10_sell_186 (by decide) ?_
              refine lv_istore (lv' := [(6, .int (0 : Int32)), (5, .int x4), (0, .ref o), (1, .int x1), (4, .int x4)]) hx hb dX10_sell_187 hl (by decide) rfl (fun ls hl => ?_)
              exact wX10_sell_189 C  FU h hP hS (lv_sub hl [2, 3, 4, 1, 0] rfl)
        · replace h := it_neg hc h
          refine lv_aload_n hx hb dX10_sell_39 rfl (lv_at hl 0 rfl) ?_
          refine lv_iconst (v := 3) hx hb dX10_sell_40 (by decide) ?_
          obtain ⟨r41, u41, e41, h⟩ := obI h
          refine mx_cVi C hP hS [.int (3 : Int32)] (tX10_finding e41) qX10_138 ⟨rfl, rfl, Nat.le_of_ble_eq_true rfl, Nat.le_of_ble_eq_true rfl⟩ rfl hl.1 rfl (Nat.le_of_ble_eq_true rfl) dX10_sell_41 (fun H locs hP hS => ?_)
          exact mx_reti C h hP hS dX10_sell_44
      · replace h := it_pos hc h
        refine lv_aload_n hx hb dX10_sell_22 rfl (lv_at hl 0 rfl) ?_
        refine lv_iconst (v := 1) hx hb dX10_sell_23 (by decide) ?_
        obtain ⟨r24, u24, e24, h⟩ := obI h
        refine mx_cVi C hP hS [.int (1 : Int32)] (tX10_finding e24) qX10_138 ⟨rfl, rfl, Nat.le_of_ble_eq_true rfl, Nat.le_of_ble_eq_true rfl⟩ rfl hl.1 rfl (Nat.le_of_ble_eq_true rfl) dX10_sell_24 (fun H locs hP hS => ?_)
        exact mx_reti C h hP hS dX10_sell_27
theorem tX10_sell {D : va_G} {cI cZ cJ : ClassId} {o : Nat} {ad : Nat → Nat} {A : Nat → Prop} {x1 : Int32} {x2 : Int32} {u : mS} {res : Int32 × mS} (h : fX10_sell x1 x2 u = some res) : Met l yX10_sell (Cond.code yX10_sell cX10_sell 7 (some .int) :: gW) rmX10_sell (va_Pc [.ref o, .int x1, .int x2] (mPre D cI cZ cJ o ad A u)) (mQi D cI cZ cJ o ad A res) 0 0 A :=
  mx_met ⟨by decide +kernel, rfl⟩ (Nat.le_of_ble_eq_true rfl) (fun p e s m below meth c ls C hP hl => wX10_sell C h hP va_S.rf hl)
abbrev rmX10_sold : Room := { frames := 1, cells := 0, slots := 0, locals := 21 }
def fX10_sold (x1 : Int32) (u : mS) : Option (Int32 × mS) :=
  bI (fX10_isThing x1 u) fun r2 u2 =>
  if r2 = 0 then (
    bI (fX10_finding (1 : Int32) u2) fun r10 u10 =>
    some (r10, u10)
  ) else (
    (mR u2 9 20 x1).bind fun v19 =>
    if v19 = (2 : Int32) then (
      (mR u2 12 20 x1).bind fun v29 =>
      some (v29, u2)
    ) else (
      bI (fX10_finding (3 : Int32) u2) fun r35 u35 =>
      some (r35, u35)
    )
  )
set_option maxHeartbeats 4000000 in
set_option maxRecDepth 20000 in
theorem wX10_sold (C : mC p s m args meth c cX10_sold 2 (some .int) D cI cZ cJ o ad A) {x1 : Int32} {u : mS} {res : Int32 × mS} (h : fX10_sold x1 u = some res) {H : Heap} {locs : List Loc} (hP : va_P D vwCl (mW cI cZ cJ o ad u) H) (hS : va_S A s.heap H locs) {ls : Array Slot} (hl : lv_has ls 2 [(0, .ref o), (1, .int x1)]) : W p l e rmX10_sold s m args below meth c H locs 0 0 (MQ below (mQi D cI cZ cJ o ad A res) args s 0 0 A) (F0 m 0 ls []) := by
  have hx := C.1
  have hb := C.2.1
  unfold fX10_sold at h
  refine lv_aload_n hx hb dX10_sold_0 rfl (lv_at hl 0 rfl) ?_
  refine lv_iload_n hx hb dX10_sold_1 rfl (lv_at hl 1 rfl) ?_
  obtain ⟨r2, u2, e2, h⟩ := obI h
  refine mx_cVi C hP hS [.int x1] (tX10_isThing e2) qX10_150 ⟨rfl, rfl, Nat.le_of_ble_eq_true rfl, Nat.le_of_ble_eq_true rfl⟩ rfl hl.1 rfl (Nat.le_of_ble_eq_true rfl) dX10_sold_2 (fun H locs hP hS => ?_)
  refine lv_if_ne (tgt := 14) hx hb dX10_sold_5 (by decide) (fun hc => ?_) (fun hc => ?_)
  · replace h := it_neg hc h
    refine lv_aload_n hx hb dX10_sold_14 rfl (lv_at hl 0 rfl) ?_
    refine mg_is C hP dX10_sold_15 ?_
    refine lv_iload_n hx hb dX10_sold_18 rfl (lv_at hl 1 rfl) ?_
    obtain ⟨v19, e19, h⟩ := ob h
    refine ml_is C hP e19 dX10_sold_19 ?_
    refine lv_iconst (v := 2) hx hb dX10_sold_20 (by decide) ?_
    refine lv_icmp_ne (tgt := 33) hx hb dX10_sold_21 (by decide) (fun hc => ?_) (fun hc => ?_)
    · replace h := it_neg hc h
      refine lv_aload_n hx hb dX10_sold_33 rfl (lv_at hl 0 rfl) ?_
      refine lv_iconst (v := 3) hx hb dX10_sold_34 (by decide) ?_
      obtain ⟨r35, u35, e35, h⟩ := obI h
      refine mx_cVi C hP hS [.int (3 : Int32)] (tX10_finding e35) qX10_138 ⟨rfl, rfl, Nat.le_of_ble_eq_true rfl, Nat.le_of_ble_eq_true rfl⟩ rfl hl.1 rfl (Nat.le_of_ble_eq_true rfl) dX10_sold_35 (fun H locs hP hS => ?_)
      exact mx_reti C h hP hS dX10_sold_38
    · replace h := it_pos hc h
      refine lv_aload_n hx hb dX10_sold_24 rfl (lv_at hl 0 rfl) ?_
      refine mg_shareOf C hP dX10_sold_25 ?_
      refine lv_iload_n hx hb dX10_sold_28 rfl (lv_at hl 1 rfl) ?_
      obtain ⟨v29, e29, h⟩ := ob h
      refine ml_shareOf C hP e29 dX10_sold_29 ?_
      refine lv_goto (tgt := 38) hx hb dX10_sold_30 (by decide) ?_
      exact mx_reti C h hP hS dX10_sold_38
  · replace h := it_pos hc h
    refine lv_aload_n hx hb dX10_sold_8 rfl (lv_at hl 0 rfl) ?_
    refine lv_iconst (v := 1) hx hb dX10_sold_9 (by decide) ?_
    obtain ⟨r10, u10, e10, h⟩ := obI h
    refine mx_cVi C hP hS [.int (1 : Int32)] (tX10_finding e10) qX10_138 ⟨rfl, rfl, Nat.le_of_ble_eq_true rfl, Nat.le_of_ble_eq_true rfl⟩ rfl hl.1 rfl (Nat.le_of_ble_eq_true rfl) dX10_sold_10 (fun H locs hP hS => ?_)
    exact mx_reti C h hP hS dX10_sold_13
theorem tX10_sold {D : va_G} {cI cZ cJ : ClassId} {o : Nat} {ad : Nat → Nat} {A : Nat → Prop} {x1 : Int32} {u : mS} {res : Int32 × mS} (h : fX10_sold x1 u = some res) : Met l yX10_sold (Cond.code yX10_sold cX10_sold 2 (some .int) :: gW) rmX10_sold (va_Pc [.ref o, .int x1] (mPre D cI cZ cJ o ad A u)) (mQi D cI cZ cJ o ad A res) 0 0 A :=
  mx_met ⟨by decide +kernel, rfl⟩ (Nat.le_of_ble_eq_true rfl) (fun p e s m below meth c ls C hP hl => wX10_sold C h hP va_S.rf hl)
end
