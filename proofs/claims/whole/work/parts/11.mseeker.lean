section
variable {p : Program} {l : Launch} {e : Env} {s : State} {m : MethodId} {args : Array Value} {below : List Frame} {meth : Method} {c : Code} {D : va_G} {cI cZ cJ : ClassId} {o : Nat} {ad : Nat → Nat} {A : Nat → Prop}
abbrev rmX10_seeker : Room := { frames := 1, cells := 0, slots := 0, locals := 22 }
def fX10_seeker_66_b (x2 : Int32) (u : mS) (k66 : Int32 → mS → Option (Int32 × mS)) : Option (Int32 × mS) :=
  if (5 : Int32) ≤ x2 then (
    pU (mF u 17 ((u.1 17) + (1 : Int32))) fun u98 =>
    some ((u98.1 17) - (1 : Int32), u98)
  ) else (
    (mU u 19 40 (((5 : Int32) * (u.1 17)) + x2) (-1 : Int32)).bind fun u84 =>
    k66 (x2 + (1 : Int32)) u84
  )
set_option maxHeartbeats 4000000 in
set_option maxRecDepth 20000 in
theorem wX10_seeker_66_b (C : mC p s m args meth c cX10_seeker 3 (some .int) D cI cZ cJ o ad A) {x2 : Int32} {u : mS} {res : Int32 × mS} {k66 : Int32 → mS → Option (Int32 × mS)} (hk66 : ∀ (x2 : Int32) (u : mS) (H : Heap) (locs : List Loc) (ls : Array Slot), k66 x2 u = some res → va_P D vwCl (mW cI cZ cJ o ad u) H → va_S A s.heap H locs → lv_has ls 3 [(0, .ref o), (2, .int x2)] → W p l e rmX10_seeker s m args below meth c H locs 0 0 (MQ below (mQi D cI cZ cJ o ad A res) args s 0 0 A) (F0 m 66 ls [])) (h : fX10_seeker_66_b x2 u k66 = some res) {H : Heap} {locs : List Loc} (hP : va_P D vwCl (mW cI cZ cJ o ad u) H) (hS : va_S A s.heap H locs) {ls : Array Slot} (hl : lv_has ls 3 [(0, .ref o), (2, .int x2)]) : W p l e rmX10_seeker s m args below meth c H locs 0 0 (MQ below (mQi D cI cZ cJ o ad A res) args s 0 0 A) (F0 m 66 ls []) := by
  have hx := C.1
  have hb := C.2.1
  unfold fX10_seeker_66_b at h
  refine lv_iload_n hx hb dX10_seeker_66 rfl (lv_at hl 1 rfl) ?_
  refine lv_iconst (v := 5) hx hb dX10_seeker_67 (by decide) ?_
  refine lv_icmp_ge (tgt := 91) hx hb dX10_seeker_68 (by decide) (fun hc => ?_) (fun hc => ?_)
  · replace h := it_pos hc h
    refine lv_aload_n hx hb dX10_seeker_91 rfl (lv_at hl 0 rfl) ?_
    refine lv_dup hx hb dX10_seeker_92 rfl ?_
    refine mg_seekers C hP dX10_seeker_93 ?_
    refine lv_iconst (v := 1) hx hb dX10_seeker_96 (by decide) ?_
    refine lv_iadd hx hb dX10_seeker_97 ?_
    obtain ⟨u98, e98, h⟩ := op h
    refine mp_seekers C hP hS e98 dX10_seeker_98 (fun H locs hP hS => ?_)
    refine lv_aload_n hx hb dX10_seeker_101 rfl (lv_at hl 0 rfl) ?_
    refine mg_seekers C hP dX10_seeker_102 ?_
    refine lv_iconst (v := 1) hx hb dX10_seeker_105 (by decide) ?_
    refine lv_isub hx hb dX10_seeker_106 ?_
    exact mx_reti C h hP hS dX10_seeker_107
  · replace h := it_neg hc h
    refine lv_aload_n hx hb dX10_seeker_71 rfl (lv_at hl 0 rfl) ?_
    refine mg_word C hP dX10_seeker_72 ?_
    refine lv_iconst (v := 5) hx hb dX10_seeker_75 (by decide) ?_
    refine lv_aload_n hx hb dX10_seeker_76 rfl (lv_at hl 0 rfl) ?_
    refine mg_seekers C hP dX10_seeker_77 ?_
    refine lv_imul hx hb dX10_seeker_80 ?_
    refine lv_iload_n hx hb dX10_seeker_81 rfl (lv_at hl 1 rfl) ?_
    refine lv_iadd hx hb dX10_seeker_82 ?_
    refine lv_iconst (v := -1) hx hb dX10_seeker_83 (by decide) ?_
    obtain ⟨u84, e84, h⟩ := ob h
    refine ms_word C hP hS e84 dX10_seeker_84 (fun H locs hP hS => ?_)
    refine lv_iinc (v := x2 + (1 : Int32)) (lv' := [(2, .int (x2 + (1 : Int32))), (0, .ref o)]) hx hb dX10_seeker_85 hl (k := 1) rfl rfl (by decide) rfl (fun ls hl => ?_)
    refine lv_goto (tgt := 66) hx hb dX10_seeker_88 (by decide) ?_
    exact hk66 _ _ _ _ _ h hP hS (lv_sub hl [1, 0] rfl)
def fX10_seeker_66 : Nat → Int32 → mS → Option (Int32 × mS)
  | 0 => fun _ _ => none
  | n + 1 => fun x2 u => fX10_seeker_66_b x2 u (fX10_seeker_66 n) 
theorem wX10_seeker_66 (C : mC p s m args meth c cX10_seeker 3 (some .int) D cI cZ cJ o ad A) {res : Int32 × mS} (n : Nat) : ∀ {x2 : Int32} {u : mS} {H : Heap} {locs : List Loc} {ls : Array Slot}, fX10_seeker_66 n x2 u = some res → va_P D vwCl (mW cI cZ cJ o ad u) H → va_S A s.heap H locs → lv_has ls 3 [(0, .ref o), (2, .int x2)] → W p l e rmX10_seeker s m args below meth c H locs 0 0 (MQ below (mQi D cI cZ cJ o ad A res) args s 0 0 A) (F0 m 66 ls []) := by
  induction n with
  | zero => intro _ _ _ _ _ h _ _ _; cases (show (none : Option (Int32 × mS)) = some res from h)
  | succ n ih => intro _ _ _ _ _ h hP hS hl; exact wX10_seeker_66_b C (fun _ _ _ _ _ h hP hS hl => ih h hP hS hl) h hP hS hl
def fX10_seeker (x1 : Int32) (u : mS) : Option (Int32 × mS) :=
  bI (fX10_isIn x1 (0 : Int32) (9999 : Int32) u) fun r5 u5 =>
  if r5 = 0 then (
    bI (fX10_finding (1 : Int32) u5) fun r13 u13 =>
    some (r13, u13)
  ) else (
    if (u5.1 17) = (8 : Int32) then (
      bI (fX10_finding (4 : Int32) u5) fun r28 u28 =>
      some (r28, u28)
    ) else (
      (mU u5 18 8 (u5.1 17) x1).bind fun u41 =>
      (mU u41 20 8 (u41.1 17) (1 : Int32)).bind fun u51 =>
      (mU u51 21 8 (u51.1 17) (5000 : Int32)).bind fun u63 =>
      fX10_seeker_66  FU (0 : Int32) u63
    )
  )
set_option maxHeartbeats 4000000 in
set_option maxRecDepth 20000 in
theorem wX10_seeker (C : mC p s m args meth c cX10_seeker 3 (some .int) D cI cZ cJ o ad A) {x1 : Int32} {u : mS} {res : Int32 × mS} (h : fX10_seeker x1 u = some res) {H : Heap} {locs : List Loc} (hP : va_P D vwCl (mW cI cZ cJ o ad u) H) (hS : va_S A s.heap H locs) {ls : Array Slot} (hl : lv_has ls 3 [(0, .ref o), (1, .int x1)]) : W p l e rmX10_seeker s m args below meth c H locs 0 0 (MQ below (mQi D cI cZ cJ o ad A res) args s 0 0 A) (F0 m 0 ls []) := by
  have hx := C.1
  have hb := C.2.1
  unfold fX10_seeker at h
  refine lv_iload_n hx hb dX10_seeker_0 rfl (lv_at hl 1 rfl) ?_
  refine lv_iconst (v := 0) hx hb dX10_seeker_1 (by decide) ?_
  refine lv_sipush (v := 9999) hx hb dX10_seeker_2 (by decide) ?_
  obtain ⟨r5, u5, e5, h⟩ := obI h
  refine mx_cSi C hP hS [.int x1, .int (0 : Int32), .int (9999 : Int32)] (tX10_isIn e5) qX10_131 ⟨rfl, rfl, Nat.le_of_ble_eq_true rfl, Nat.le_of_ble_eq_true rfl⟩ rfl hl.1 rfl (Nat.le_of_ble_eq_true rfl) dX10_seeker_5 (fun H locs hP hS => ?_)
  refine lv_if_ne (tgt := 17) hx hb dX10_seeker_8 (by decide) (fun hc => ?_) (fun hc => ?_)
  · replace h := it_neg hc h
    refine lv_aload_n hx hb dX10_seeker_17 rfl (lv_at hl 0 rfl) ?_
    refine mg_seekers C hP dX10_seeker_18 ?_
    refine lv_bipush (v := 8) hx hb dX10_seeker_21 (by decide) ?_
    refine lv_icmp_ne (tgt := 32) hx hb dX10_seeker_23 (by decide) (fun hc => ?_) (fun hc => ?_)
    · replace h := it_neg hc h
      refine lv_aload_n hx hb dX10_seeker_32 rfl (lv_at hl 0 rfl) ?_
      refine mg_lostOn C hP dX10_seeker_33 ?_
      refine lv_aload_n hx hb dX10_seeker_36 rfl (lv_at hl 0 rfl) ?_
      refine mg_seekers C hP dX10_seeker_37 ?_
      refine lv_iload_n hx hb dX10_seeker_40 rfl (lv_at hl 1 rfl) ?_
      obtain ⟨u41, e41, h⟩ := ob h
      refine ms_lostOn C hP hS e41 dX10_seeker_41 (fun H locs hP hS => ?_)
      refine lv_aload_n hx hb dX10_seeker_42 rfl (lv_at hl 0 rfl) ?_
      refine mg_spanLow C hP dX10_seeker_43 ?_
      refine lv_aload_n hx hb dX10_seeker_46 rfl (lv_at hl 0 rfl) ?_
      refine mg_seekers C hP dX10_seeker_47 ?_
      refine lv_iconst (v := 1) hx hb dX10_seeker_50 (by decide) ?_
      obtain ⟨u51, e51, h⟩ := ob h
      refine ms_spanLow C hP hS e51 dX10_seeker_51 (fun H locs hP hS => ?_)
      refine lv_aload_n hx hb dX10_seeker_52 rfl (lv_at hl 0 rfl) ?_
      refine mg_spanHigh C hP dX10_seeker_53 ?_
      refine lv_aload_n hx hb dX10_seeker_56 rfl (lv_at hl 0 rfl) ?_
      refine mg_seekers C hP dX10_seeker_57 ?_
      refine lv_sipush (v := 5000) hx hb dX10_seeker_60 (by decide) ?_
      obtain ⟨u63, e63, h⟩ := ob h
      refine ms_spanHigh C hP hS e63 dX10_seeker_63 (fun H locs hP hS => ?_)
      refine lv_iconst (v := 0) hx hb dX10_seeker_64 (by decide) ?_
      refine lv_istore_n (lv' := [(2, .int (0 : Int32)), (0, .ref o), (1, .int x1)]) hx hb dX10_seeker_65 rfl hl (by decide) rfl (fun ls hl => ?_)
      exact wX10_seeker_66 C  FU h hP hS (lv_sub hl [1, 0] rfl)
    · replace h := it_pos hc h
      refine lv_aload_n hx hb dX10_seeker_26 rfl (lv_at hl 0 rfl) ?_
      refine lv_iconst (v := 4) hx hb dX10_seeker_27 (by decide) ?_
      obtain ⟨r28, u28, e28, h⟩ := obI h
      refine mx_cVi C hP hS [.int (4 : Int32)] (tX10_finding e28) qX10_138 ⟨rfl, rfl, Nat.le_of_ble_eq_true rfl, Nat.le_of_ble_eq_true rfl⟩ rfl hl.1 rfl (Nat.le_of_ble_eq_true rfl) dX10_seeker_28 (fun H locs hP hS => ?_)
      exact mx_reti C h hP hS dX10_seeker_31
  · replace h := it_pos hc h
    refine lv_aload_n hx hb dX10_seeker_11 rfl (lv_at hl 0 rfl) ?_
    refine lv_iconst (v := 1) hx hb dX10_seeker_12 (by decide) ?_
    obtain ⟨r13, u13, e13, h⟩ := obI h
    refine mx_cVi C hP hS [.int (1 : Int32)] (tX10_finding e13) qX10_138 ⟨rfl, rfl, Nat.le_of_ble_eq_true rfl, Nat.le_of_ble_eq_true rfl⟩ rfl hl.1 rfl (Nat.le_of_ble_eq_true rfl) dX10_seeker_13 (fun H locs hP hS => ?_)
    exact mx_reti C h hP hS dX10_seeker_16
theorem tX10_seeker {D : va_G} {cI cZ cJ : ClassId} {o : Nat} {ad : Nat → Nat} {A : Nat → Prop} {x1 : Int32} {u : mS} {res : Int32 × mS} (h : fX10_seeker x1 u = some res) : Met l yX10_seeker (Cond.code yX10_seeker cX10_seeker 3 (some .int) :: gW) rmX10_seeker (va_Pc [.ref o, .int x1] (mPre D cI cZ cJ o ad A u)) (mQi D cI cZ cJ o ad A res) 0 0 A :=
  mx_met ⟨by decide +kernel, rfl⟩ (Nat.le_of_ble_eq_true rfl) (fun p e s m below meth c ls C hP hl => wX10_seeker C h hP va_S.rf hl)
abbrev rmX10_word : Room := { frames := 2, cells := 0, slots := 0, locals := 42 }
def fX10_word (x1 : Int32) (x2 : Int32) (x3 : Int32) (u : mS) : Option (Int32 × mS) :=
  bI (fX10_isSeeker x1 u) fun r2 u2 =>
  if r2 = 0 then (
    bI (fX10_finding (1 : Int32) u2) fun r27 u27 =>
    some (r27, u27)
  ) else (
    bI (fX10_isTrait x2 u2) fun r9 u9 =>
    if r9 = 0 then (
      bI (fX10_finding (1 : Int32) u9) fun r27 u27 =>
      some (r27, u27)
    ) else (
      bI (fX10_isIn x3 (-1 : Int32) (15 : Int32) u9) fun r19 u19 =>
      if r19 = 0 then (
        bI (fX10_finding (1 : Int32) u19) fun r27 u27 =>
        some (r27, u27)
      ) else (
        (mR u19 19 40 (((5 : Int32) * x1) + x2)).bind fun v40 =>
        (mU u19 19 40 (((5 : Int32) * x1) + x2) x3).bind fun u53 =>
        some (v40, u53)
      )
    )
  )
set_option maxHeartbeats 4000000 in
set_option maxRecDepth 20000 in
theorem wX10_word (C : mC p s m args meth c cX10_word 5 (some .int) D cI cZ cJ o ad A) {x1 : Int32} {x2 : Int32} {x3 : Int32} {u : mS} {res : Int32 × mS} (h : fX10_word x1 x2 x3 u = some res) {H : Heap} {locs : List Loc} (hP : va_P D vwCl (mW cI cZ cJ o ad u) H) (hS : va_S A s.heap H locs) {ls : Array Slot} (hl : lv_has ls 5 [(0, .ref o), (1, .int x1), (2, .int x2), (3, .int x3)]) : W p l e rmX10_word s m args below meth c H locs 0 0 (MQ below (mQi D cI cZ cJ o ad A res) args s 0 0 A) (F0 m 0 ls []) := by
  have hx := C.1
  have hb := C.2.1
  unfold fX10_word at h
  refine lv_aload_n hx hb dX10_word_0 rfl (lv_at hl 0 rfl) ?_
  refine lv_iload_n hx hb dX10_word_1 rfl (lv_at hl 1 rfl) ?_
  obtain ⟨r2, u2, e2, h⟩ := obI h
  refine mx_cVi C hP hS [.int x1] (tX10_isSeeker e2) qX10_156 ⟨rfl, rfl, Nat.le_of_ble_eq_true rfl, Nat.le_of_ble_eq_true rfl⟩ rfl hl.1 rfl (Nat.le_of_ble_eq_true rfl) dX10_word_2 (fun H locs hP hS => ?_)
  refine lv_if_eq (tgt := 25) hx hb dX10_word_5 (by decide) (fun hc => ?_) (fun hc => ?_)
  · replace h := it_pos hc h
    refine lv_aload_n hx hb dX10_word_25 rfl (lv_at hl 0 rfl) ?_
    refine lv_iconst (v := 1) hx hb dX10_word_26 (by decide) ?_
    obtain ⟨r27, u27, e27, h⟩ := obI h
    refine mx_cVi C hP hS [.int (1 : Int32)] (tX10_finding e27) qX10_138 ⟨rfl, rfl, Nat.le_of_ble_eq_true rfl, Nat.le_of_ble_eq_true rfl⟩ rfl hl.1 rfl (Nat.le_of_ble_eq_true rfl) dX10_word_27 (fun H locs hP hS => ?_)
    exact mx_reti C h hP hS dX10_word_30
  · replace h := it_neg hc h
    refine lv_iload_n hx hb dX10_word_8 rfl (lv_at hl 2 rfl) ?_
    obtain ⟨r9, u9, e9, h⟩ := obI h
    refine mx_cSi C hP hS [.int x2] (tX10_isTrait e9) qX10_153 ⟨rfl, rfl, Nat.le_of_ble_eq_true rfl, Nat.le_of_ble_eq_true rfl⟩ rfl hl.1 rfl (Nat.le_of_ble_eq_true rfl) dX10_word_9 (fun H locs hP hS => ?_)
    refine lv_if_eq (tgt := 25) hx hb dX10_word_12 (by decide) (fun hc => ?_) (fun hc => ?_)
    · replace h := it_pos hc h
      refine lv_aload_n hx hb dX10_word_25 rfl (lv_at hl 0 rfl) ?_
      refine lv_iconst (v := 1) hx hb dX10_word_26 (by decide) ?_
      obtain ⟨r27, u27, e27, h⟩ := obI h
      refine mx_cVi C hP hS [.int (1 : Int32)] (tX10_finding e27) qX10_138 ⟨rfl, rfl, Nat.le_of_ble_eq_true rfl, Nat.le_of_ble_eq_true rfl⟩ rfl hl.1 rfl (Nat.le_of_ble_eq_true rfl) dX10_word_27 (fun H locs hP hS => ?_)
      exact mx_reti C h hP hS dX10_word_30
    · replace h := it_neg hc h
      refine lv_iload_n hx hb dX10_word_15 rfl (lv_at hl 3 rfl) ?_
      refine lv_iconst (v := -1) hx hb dX10_word_16 (by decide) ?_
      refine lv_bipush (v := 15) hx hb dX10_word_17 (by decide) ?_
      obtain ⟨r19, u19, e19, h⟩ := obI h
      refine mx_cSi C hP hS [.int x3, .int (-1 : Int32), .int (15 : Int32)] (tX10_isIn e19) qX10_131 ⟨rfl, rfl, Nat.le_of_ble_eq_true rfl, Nat.le_of_ble_eq_true rfl⟩ rfl hl.1 rfl (Nat.le_of_ble_eq_true rfl) dX10_word_19 (fun H locs hP hS => ?_)
      refine lv_if_ne (tgt := 31) hx hb dX10_word_22 (by decide) (fun hc => ?_) (fun hc => ?_)
      · replace h := it_neg hc h
        refine lv_aload_n hx hb dX10_word_31 rfl (lv_at hl 0 rfl) ?_
        refine mg_word C hP dX10_word_32 ?_
        refine lv_iconst (v := 5) hx hb dX10_word_35 (by decide) ?_
        refine lv_iload_n hx hb dX10_word_36 rfl (lv_at hl 1 rfl) ?_
        refine lv_imul hx hb dX10_word_37 ?_
        refine lv_iload_n hx hb dX10_word_38 rfl (lv_at hl 2 rfl) ?_
        refine lv_iadd hx hb dX10_word_39 ?_
        obtain ⟨v40, e40, h⟩ := ob h
        refine ml_word C hP e40 dX10_word_40 ?_
        refine lv_istore (lv' := [(4, .int v40), (0, .ref o), (1, .int x1), (2, .int x2), (3, .int x3)]) hx hb dX10_word_41 hl (by decide) rfl (fun ls hl => ?_)
        refine lv_aload_n hx hb dX10_word_43 rfl (lv_at hl 1 rfl) ?_
        refine mg_word C hP dX10_word_44 ?_
        refine lv_iconst (v := 5) hx hb dX10_word_47 (by decide) ?_
        refine lv_iload_n hx hb dX10_word_48 rfl (lv_at hl 2 rfl) ?_
        refine lv_imul hx hb dX10_word_49 ?_
        refine lv_iload_n hx hb dX10_word_50 rfl (lv_at hl 3 rfl) ?_
        refine lv_iadd hx hb dX10_word_51 ?_
        refine lv_iload_n hx hb dX10_word_52 rfl (lv_at hl 4 rfl) ?_
        obtain ⟨u53, e53, h⟩ := ob h
        refine ms_word C hP hS e53 dX10_word_53 (fun H locs hP hS => ?_)
        refine lv_iload hx hb dX10_word_54 (lv_at hl 0 rfl) ?_
        exact mx_reti C h hP hS dX10_word_56
      · replace h := it_pos hc h
        refine lv_aload_n hx hb dX10_word_25 rfl (lv_at hl 0 rfl) ?_
        refine lv_iconst (v := 1) hx hb dX10_word_26 (by decide) ?_
        obtain ⟨r27, u27, e27, h⟩ := obI h
        refine mx_cVi C hP hS [.int (1 : Int32)] (tX10_finding e27) qX10_138 ⟨rfl, rfl, Nat.le_of_ble_eq_true rfl, Nat.le_of_ble_eq_true rfl⟩ rfl hl.1 rfl (Nat.le_of_ble_eq_true rfl) dX10_word_27 (fun H locs hP hS => ?_)
        exact mx_reti C h hP hS dX10_word_30
theorem tX10_word {D : va_G} {cI cZ cJ : ClassId} {o : Nat} {ad : Nat → Nat} {A : Nat → Prop} {x1 : Int32} {x2 : Int32} {x3 : Int32} {u : mS} {res : Int32 × mS} (h : fX10_word x1 x2 x3 u = some res) : Met l yX10_word (Cond.code yX10_word cX10_word 5 (some .int) :: gW) rmX10_word (va_Pc [.ref o, .int x1, .int x2, .int x3] (mPre D cI cZ cJ o ad A u)) (mQi D cI cZ cJ o ad A res) 0 0 A :=
  mx_met ⟨by decide +kernel, rfl⟩ (Nat.le_of_ble_eq_true rfl) (fun p e s m below meth c ls C hP hl => wX10_word C h hP va_S.rf hl)
abbrev rmX10_span : Room := { frames := 1, cells := 0, slots := 0, locals := 22 }
def fX10_span (x1 : Int32) (x2 : Int32) (x3 : Int32) (u : mS) : Option (Int32 × mS) :=
  bI (fX10_isSeeker x1 u) fun r2 u2 =>
  if r2 = 0 then (
    bI (fX10_finding (1 : Int32) u2) fun r32 u32 =>
    some (r32, u32)
  ) else (
    bI (fX10_isIn x2 (1 : Int32) (5000 : Int32) u2) fun r13 u13 =>
    if r13 = 0 then (
      bI (fX10_finding (1 : Int32) u13) fun r32 u32 =>
      some (r32, u32)
    ) else (
      bI (fX10_isIn x3 x2 (5000 : Int32) u13) fun r24 u24 =>
      if r24 = 0 then (
        bI (fX10_finding (1 : Int32) u24) fun r32 u32 =>
        some (r32, u32)
      ) else (
        (mU u24 20 8 x1 x2).bind fun u42 =>
        (mU u42 21 8 x1 x3).bind fun u49 =>
        some ((1 : Int32), u49)
      )
    )
  )
set_option maxHeartbeats 4000000 in
set_option maxRecDepth 20000 in
theorem wX10_span (C : mC p s m args meth c cX10_span 4 (some .int) D cI cZ cJ o ad A) {x1 : Int32} {x2 : Int32} {x3 : Int32} {u : mS} {res : Int32 × mS} (h : fX10_span x1 x2 x3 u = some res) {H : Heap} {locs : List Loc} (hP : va_P D vwCl (mW cI cZ cJ o ad u) H) (hS : va_S A s.heap H locs) {ls : Array Slot} (hl : lv_has ls 4 [(0, .ref o), (1, .int x1), (2, .int x2), (3, .int x3)]) : W p l e rmX10_span s m args below meth c H locs 0 0 (MQ below (mQi D cI cZ cJ o ad A res) args s 0 0 A) (F0 m 0 ls []) := by
  have hx := C.1
  have hb := C.2.1
  unfold fX10_span at h
  refine lv_aload_n hx hb dX10_span_0 rfl (lv_at hl 0 rfl) ?_
  refine lv_iload_n hx hb dX10_span_1 rfl (lv_at hl 1 rfl) ?_
  obtain ⟨r2, u2, e2, h⟩ := obI h
  refine mx_cVi C hP hS [.int x1] (tX10_isSeeker e2) qX10_156 ⟨rfl, rfl, Nat.le_of_ble_eq_true rfl, Nat.le_of_ble_eq_true rfl⟩ rfl hl.1 rfl (Nat.le_of_ble_eq_true rfl) dX10_span_2 (fun H locs hP hS => ?_)
  refine lv_if_eq (tgt := 30) hx hb dX10_span_5 (by decide) (fun hc => ?_) (fun hc => ?_)
  · replace h := it_pos hc h
    refine lv_aload_n hx hb dX10_span_30 rfl (lv_at hl 0 rfl) ?_
    refine lv_iconst (v := 1) hx hb dX10_span_31 (by decide) ?_
    obtain ⟨r32, u32, e32, h⟩ := obI h
    refine mx_cVi C hP hS [.int (1 : Int32)] (tX10_finding e32) qX10_138 ⟨rfl, rfl, Nat.le_of_ble_eq_true rfl, Nat.le_of_ble_eq_true rfl⟩ rfl hl.1 rfl (Nat.le_of_ble_eq_true rfl) dX10_span_32 (fun H locs hP hS => ?_)
    exact mx_reti C h hP hS dX10_span_35
  · replace h := it_neg hc h
    refine lv_iload_n hx hb dX10_span_8 rfl (lv_at hl 2 rfl) ?_
    refine lv_iconst (v := 1) hx hb dX10_span_9 (by decide) ?_
    refine lv_sipush (v := 5000) hx hb dX10_span_10 (by decide) ?_
    obtain ⟨r13, u13, e13, h⟩ := obI h
    refine mx_cSi C hP hS [.int x2, .int (1 : Int32), .int (5000 : Int32)] (tX10_isIn e13) qX10_131 ⟨rfl, rfl, Nat.le_of_ble_eq_true rfl, Nat.le_of_ble_eq_true rfl⟩ rfl hl.1 rfl (Nat.le_of_ble_eq_true rfl) dX10_span_13 (fun H locs hP hS => ?_)
    refine lv_if_eq (tgt := 30) hx hb dX10_span_16 (by decide) (fun hc => ?_) (fun hc => ?_)
    · replace h := it_pos hc h
      refine lv_aload_n hx hb dX10_span_30 rfl (lv_at hl 0 rfl) ?_
      refine lv_iconst (v := 1) hx hb dX10_span_31 (by decide) ?_
      obtain ⟨r32, u32, e32, h⟩ := obI h
      refine mx_cVi C hP hS [.int (1 : Int32)] (tX10_finding e32) qX10_138 ⟨rfl, rfl, Nat.le_of_ble_eq_true rfl, Nat.le_of_ble_eq_true rfl⟩ rfl hl.1 rfl (Nat.le_of_ble_eq_true rfl) dX10_span_32 (fun H locs hP hS => ?_)
      exact mx_reti C h hP hS dX10_span_35
    · replace h := it_neg hc h
      refine lv_iload_n hx hb dX10_span_19 rfl (lv_at hl 3 rfl) ?_
      refine lv_iload_n hx hb dX10_span_20 rfl (lv_at hl 2 rfl) ?_
      refine lv_sipush (v := 5000) hx hb dX10_span_21 (by decide) ?_
      obtain ⟨r24, u24, e24, h⟩ := obI h
      refine mx_cSi C hP hS [.int x3, .int x2, .int (5000 : Int32)] (tX10_isIn e24) qX10_131 ⟨rfl, rfl, Nat.le_of_ble_eq_true rfl, Nat.le_of_ble_eq_true rfl⟩ rfl hl.1 rfl (Nat.le_of_ble_eq_true rfl) dX10_span_24 (fun H locs hP hS => ?_)
      refine lv_if_ne (tgt := 36) hx hb dX10_span_27 (by decide) (fun hc => ?_) (fun hc => ?_)
      · replace h := it_neg hc h
        refine lv_aload_n hx hb dX10_span_36 rfl (lv_at hl 0 rfl) ?_
        refine mg_spanLow C hP dX10_span_37 ?_
        refine lv_iload_n hx hb dX10_span_40 rfl (lv_at hl 1 rfl) ?_
        refine lv_iload_n hx hb dX10_span_41 rfl (lv_at hl 2 rfl) ?_
        obtain ⟨u42, e42, h⟩ := ob h
        refine ms_spanLow C hP hS e42 dX10_span_42 (fun H locs hP hS => ?_)
        refine lv_aload_n hx hb dX10_span_43 rfl (lv_at hl 0 rfl) ?_
        refine mg_spanHigh C hP dX10_span_44 ?_
        refine lv_iload_n hx hb dX10_span_47 rfl (lv_at hl 1 rfl) ?_
        refine lv_iload_n hx hb dX10_span_48 rfl (lv_at hl 3 rfl) ?_
        obtain ⟨u49, e49, h⟩ := ob h
        refine ms_spanHigh C hP hS e49 dX10_span_49 (fun H locs hP hS => ?_)
        refine lv_iconst (v := 1) hx hb dX10_span_50 (by decide) ?_
        exact mx_reti C h hP hS dX10_span_51
      · replace h := it_pos hc h
        refine lv_aload_n hx hb dX10_span_30 rfl (lv_at hl 0 rfl) ?_
        refine lv_iconst (v := 1) hx hb dX10_span_31 (by decide) ?_
        obtain ⟨r32, u32, e32, h⟩ := obI h
        refine mx_cVi C hP hS [.int (1 : Int32)] (tX10_finding e32) qX10_138 ⟨rfl, rfl, Nat.le_of_ble_eq_true rfl, Nat.le_of_ble_eq_true rfl⟩ rfl hl.1 rfl (Nat.le_of_ble_eq_true rfl) dX10_span_32 (fun H locs hP hS => ?_)
        exact mx_reti C h hP hS dX10_span_35
theorem tX10_span {D : va_G} {cI cZ cJ : ClassId} {o : Nat} {ad : Nat → Nat} {A : Nat → Prop} {x1 : Int32} {x2 : Int32} {x3 : Int32} {u : mS} {res : Int32 × mS} (h : fX10_span x1 x2 x3 u = some res) : Met l yX10_span (Cond.code yX10_span cX10_span 4 (some .int) :: gW) rmX10_span (va_Pc [.ref o, .int x1, .int x2, .int x3] (mPre D cI cZ cJ o ad A u)) (mQi D cI cZ cJ o ad A res) 0 0 A :=
  mx_met ⟨by decide +kernel, rfl⟩ (Nat.le_of_ble_eq_true rfl) (fun p e s m below meth c ls C hP hl => wX10_span C h hP va_S.rf hl)
abbrev rmX10_points : Room := { frames := 2, cells := 0, slots := 0, locals := 42 }
def fX10_points (x1 : Int32) (x2 : Int32) (u : mS) : Option (Int32 × mS) :=
  bI (fX10_isTrait x1 u) fun r1 u1 =>
  if r1 = 0 then (
    bI (fX10_finding (1 : Int32) u1) fun r19 u19 =>
    some (r19, u19)
  ) else (
    bI (fX10_isIn x2 (0 : Int32) (20 : Int32) u1) fun r11 u11 =>
    if r11 = 0 then (
      bI (fX10_finding (1 : Int32) u11) fun r19 u19 =>
      some (r19, u19)
    ) else (
      (mR u11 24 5 x1).bind fun v28 =>
      (mU u11 24 5 x1 x2).bind fun u36 =>
      some (v28, u36)
    )
  )
set_option maxHeartbeats 4000000 in
set_option maxRecDepth 20000 in
theorem wX10_points (C : mC p s m args meth c cX10_points 4 (some .int) D cI cZ cJ o ad A) {x1 : Int32} {x2 : Int32} {u : mS} {res : Int32 × mS} (h : fX10_points x1 x2 u = some res) {H : Heap} {locs : List Loc} (hP : va_P D vwCl (mW cI cZ cJ o ad u) H) (hS : va_S A s.heap H locs) {ls : Array Slot} (hl : lv_has ls 4 [(0, .ref o), (1, .int x1), (2, .int x2)]) : W p l e rmX10_points s m args below meth c H locs 0 0 (MQ below (mQi D cI cZ cJ o ad A res) args s 0 0 A) (F0 m 0 ls []) := by
  have hx := C.1
  have hb := C.2.1
  unfold fX10_points at h
  refine lv_iload_n hx hb dX10_points_0 rfl (lv_at hl 1 rfl) ?_
  obtain ⟨r1, u1, e1, h⟩ := obI h
  refine mx_cSi C hP hS [.int x1] (tX10_isTrait e1) qX10_153 ⟨rfl, rfl, Nat.le_of_ble_eq_true rfl, Nat.le_of_ble_eq_true rfl⟩ rfl hl.1 rfl (Nat.le_of_ble_eq_true rfl) dX10_points_1 (fun H locs hP hS => ?_)
  refine lv_if_eq (tgt := 17) hx hb dX10_points_4 (by decide) (fun hc => ?_) (fun hc => ?_)
  · replace h := it_pos hc h
    refine lv_aload_n hx hb dX10_points_17 rfl (lv_at hl 0 rfl) ?_
    refine lv_iconst (v := 1) hx hb dX10_points_18 (by decide) ?_
    obtain ⟨r19, u19, e19, h⟩ := obI h
    refine mx_cVi C hP hS [.int (1 : Int32)] (tX10_finding e19) qX10_138 ⟨rfl, rfl, Nat.le_of_ble_eq_true rfl, Nat.le_of_ble_eq_true rfl⟩ rfl hl.1 rfl (Nat.le_of_ble_eq_true rfl) dX10_points_19 (fun H locs hP hS => ?_)
    exact mx_reti C h hP hS dX10_points_22
  · replace h := it_neg hc h
    refine lv_iload_n hx hb dX10_points_7 rfl (lv_at hl 2 rfl) ?_
    refine lv_iconst (v := 0) hx hb dX10_points_8 (by decide) ?_
    refine lv_bipush (v := 20) hx hb dX10_points_9 (by decide) ?_
    obtain ⟨r11, u11, e11, h⟩ := obI h
    refine mx_cSi C hP hS [.int x2, .int (0 : Int32), .int (20 : Int32)] (tX10_isIn e11) qX10_131 ⟨rfl, rfl, Nat.le_of_ble_eq_true rfl, Nat.le_of_ble_eq_true rfl⟩ rfl hl.1 rfl (Nat.le_of_ble_eq_true rfl) dX10_points_11 (fun H locs hP hS => ?_)
    refine lv_if_ne (tgt := 23) hx hb dX10_points_14 (by decide) (fun hc => ?_) (fun hc => ?_)
    · replace h := it_neg hc h
      refine lv_aload_n hx hb dX10_points_23 rfl (lv_at hl 0 rfl) ?_
      refine mg_points C hP dX10_points_24 ?_
      refine lv_iload_n hx hb dX10_points_27 rfl (lv_at hl 1 rfl) ?_
      obtain ⟨v28, e28, h⟩ := ob h
      refine ml_points C hP e28 dX10_points_28 ?_
      refine lv_istore_n (lv' := [(3, .int v28), (0, .ref o), (1, .int x1), (2, .int x2)]) hx hb dX10_points_29 rfl hl (by decide) rfl (fun ls hl => ?_)
      refine lv_aload_n hx hb dX10_points_30 rfl (lv_at hl 1 rfl) ?_
      refine mg_points C hP dX10_points_31 ?_
      refine lv_iload_n hx hb dX10_points_34 rfl (lv_at hl 2 rfl) ?_
      refine lv_iload_n hx hb dX10_points_35 rfl (lv_at hl 3 rfl) ?_
      obtain ⟨u36, e36, h⟩ := ob h
      refine ms_points C hP hS e36 dX10_points_36 (fun H locs hP hS => ?_)
      refine lv_iload_n hx hb dX10_points_37 rfl (lv_at hl 0 rfl) ?_
      exact mx_reti C h hP hS dX10_points_38
    · replace h := it_pos hc h
      refine lv_aload_n hx hb dX10_points_17 rfl (lv_at hl 0 rfl) ?_
      refine lv_iconst (v := 1) hx hb dX10_points_18 (by decide) ?_
      obtain ⟨r19, u19, e19, h⟩ := obI h
      refine mx_cVi C hP hS [.int (1 : Int32)] (tX10_finding e19) qX10_138 ⟨rfl, rfl, Nat.le_of_ble_eq_true rfl, Nat.le_of_ble_eq_true rfl⟩ rfl hl.1 rfl (Nat.le_of_ble_eq_true rfl) dX10_points_19 (fun H locs hP hS => ?_)
      exact mx_reti C h hP hS dX10_points_22
theorem tX10_points {D : va_G} {cI cZ cJ : ClassId} {o : Nat} {ad : Nat → Nat} {A : Nat → Prop} {x1 : Int32} {x2 : Int32} {u : mS} {res : Int32 × mS} (h : fX10_points x1 x2 u = some res) : Met l yX10_points (Cond.code yX10_points cX10_points 4 (some .int) :: gW) rmX10_points (va_Pc [.ref o, .int x1, .int x2] (mPre D cI cZ cJ o ad A u)) (mQi D cI cZ cJ o ad A res) 0 0 A :=
  mx_met ⟨by decide +kernel, rfl⟩ (Nat.le_of_ble_eq_true rfl) (fun p e s m below meth c ls C hP hl => wX10_points C h hP va_S.rf hl)
abbrev rmX10_like : Room := { frames := 1, cells := 0, slots := 0, locals := 22 }
def fX10_like_132 (x1 : Int32) (x2 : Int32) (x3 : Int32) (x4 : Int32) (u : mS) (k69 : Int32 → Int32 → Int32 → Int32 → mS → Option (Int32 × mS)) : Option (Int32 × mS) :=
  k69 x1 x2 x3 (x4 + (1 : Int32)) u
set_option maxHeartbeats 4000000 in
set_option maxRecDepth 20000 in
theorem wX10_like_132 (C : mC p s m args meth c cX10_like 6 (some .int) D cI cZ cJ o ad A) {x1 : Int32} {x2 : Int32} {x3 : Int32} {x4 : Int32} {u : mS} {res : Int32 × mS} {k69 : Int32 → Int32 → Int32 → Int32 → mS → Option (Int32 × mS)} (hk69 : ∀ (x1 : Int32) (x2 : Int32) (x3 : Int32) (x4 : Int32) (u : mS) (H : Heap) (locs : List Loc) (ls : Array Slot), k69 x1 x2 x3 x4 u = some res → va_P D vwCl (mW cI cZ cJ o ad u) H → va_S A s.heap H locs → lv_has ls 6 [(0, .ref o), (1, .int x1), (2, .int x2), (3, .int x3), (4, .int x4)] → W p l e rmX10_like s m args below meth c H locs 0 0 (MQ below (mQi D cI cZ cJ o ad A res) args s 0 0 A) (F0 m 69 ls [])) (h : fX10_like_132 x1 x2 x3 x4 u k69 = some res) {H : Heap} {locs : List Loc} (hP : va_P D vwCl (mW cI cZ cJ o ad u) H) (hS : va_S A s.heap H locs) {ls : Array Slot} (hl : lv_has ls 6 [(0, .ref o), (1, .int x1), (2, .int x2), (3, .int x3), (4, .int x4)]) : W p l e rmX10_like s m args below meth c H locs 0 0 (MQ below (mQi D cI cZ cJ o ad A res) args s 0 0 A) (F0 m 132 ls []) := by
  have hx := C.1
  have hb := C.2.1
  unfold fX10_like_132 at h
  refine lv_iinc (v := x4 + (1 : Int32)) (lv' := [(4, .int (x4 + (1 : Int32))), (0, .ref o), (1, .int x1), (2, .int x2), (3, .int x3)]) hx hb dX10_like_132 hl (k := 4) rfl rfl (by decide) rfl (fun ls hl => ?_)
  refine lv_goto (tgt := 69) hx hb dX10_like_135 (by decide) ?_
  exact hk69 _ _ _ _ _ _ _ _ h hP hS (lv_sub hl [1, 2, 3, 4, 0] rfl)
def fX10_like_130 (x1 : Int32) (x2 : Int32) (x4 : Int32) (s0 : Int32) (s1 : Int32) (u : mS) (k69 : Int32 → Int32 → Int32 → Int32 → mS → Option (Int32 × mS)) : Option (Int32 × mS) :=
  fX10_like_132 x1 x2 (s0 + s1) x4 u k69
set_option maxHeartbeats 4000000 in
set_option maxRecDepth 20000 in
theorem wX10_like_130 (C : mC p s m args meth c cX10_like 6 (some .int) D cI cZ cJ o ad A) {x1 : Int32} {x2 : Int32} {x4 : Int32} {s0 : Int32} {s1 : Int32} {u : mS} {res : Int32 × mS} {k69 : Int32 → Int32 → Int32 → Int32 → mS → Option (Int32 × mS)} (hk69 : ∀ (x1 : Int32) (x2 : Int32) (x3 : Int32) (x4 : Int32) (u : mS) (H : Heap) (locs : List Loc) (ls : Array Slot), k69 x1 x2 x3 x4 u = some res → va_P D vwCl (mW cI cZ cJ o ad u) H → va_S A s.heap H locs → lv_has ls 6 [(0, .ref o), (1, .int x1), (2, .int x2), (3, .int x3), (4, .int x4)] → W p l e rmX10_like s m args below meth c H locs 0 0 (MQ below (mQi D cI cZ cJ o ad A res) args s 0 0 A) (F0 m 69 ls [])) (h : fX10_like_130 x1 x2 x4 s0 s1 u k69 = some res) {H : Heap} {locs : List Loc} (hP : va_P D vwCl (mW cI cZ cJ o ad u) H) (hS : va_S A s.heap H locs) {ls : Array Slot} (hl : lv_has ls 6 [(0, .ref o), (1, .int x1), (2, .int x2), (4, .int x4)]) : W p l e rmX10_like s m args below meth c H locs 0 0 (MQ below (mQi D cI cZ cJ o ad A res) args s 0 0 A) (F0 m 130 ls [.int s1, .int s0]) := by
  have hx := C.1
  have hb := C.2.1
  unfold fX10_like_130 at h
  refine lv_iadd hx hb dX10_like_130 ?_
  refine lv_istore_n (lv' := [(3, .int (s0 + s1)), (0, .ref o), (1, .int x1), (2, .int x2), (4, .int x4)]) hx hb dX10_like_131 rfl hl (by decide) rfl (fun ls hl => ?_)
  exact wX10_like_132 C hk69 h hP hS (lv_sub hl [1, 2, 3, 0, 4] rfl)
def fX10_like_69_b (x1 : Int32) (x2 : Int32) (x3 : Int32) (x4 : Int32) (u : mS) (k69 : Int32 → Int32 → Int32 → Int32 → mS → Option (Int32 × mS)) : Option (Int32 × mS) :=
  if (5 : Int32) ≤ x4 then (
    if 0 ≤ x3 then (
      some (x3, u)
    ) else (
      some ((0 : Int32), u)
    )
  ) else (
    (mR u 19 40 (((5 : Int32) * x1) + x4)).bind fun v85 =>
    if v85 < 0 then (
      fX10_like_132 x1 x2 x3 x4 u k69
    ) else (
      (mR u 5 100 (((5 : Int32) * x2) + x4)).bind fun v106 =>
      if v85 = v106 then (
        (mR u 24 5 x4).bind fun v116 =>
        fX10_like_130 x1 x2 x4 x3 v116 u k69
      ) else (
        (mR u 24 5 x4).bind fun v126 =>
        fX10_like_130 x1 x2 x4 x3 (-(v126 / (2 : Int32))) u k69
      )
    )
  )
set_option maxHeartbeats 4000000 in
set_option maxRecDepth 20000 in
theorem wX10_like_69_b (C : mC p s m args meth c cX10_like 6 (some .int) D cI cZ cJ o ad A) {x1 : Int32} {x2 : Int32} {x3 : Int32} {x4 : Int32} {u : mS} {res : Int32 × mS} {k69 : Int32 → Int32 → Int32 → Int32 → mS → Option (Int32 × mS)} (hk69 : ∀ (x1 : Int32) (x2 : Int32) (x3 : Int32) (x4 : Int32) (u : mS) (H : Heap) (locs : List Loc) (ls : Array Slot), k69 x1 x2 x3 x4 u = some res → va_P D vwCl (mW cI cZ cJ o ad u) H → va_S A s.heap H locs → lv_has ls 6 [(0, .ref o), (1, .int x1), (2, .int x2), (3, .int x3), (4, .int x4)] → W p l e rmX10_like s m args below meth c H locs 0 0 (MQ below (mQi D cI cZ cJ o ad A res) args s 0 0 A) (F0 m 69 ls [])) (h : fX10_like_69_b x1 x2 x3 x4 u k69 = some res) {H : Heap} {locs : List Loc} (hP : va_P D vwCl (mW cI cZ cJ o ad u) H) (hS : va_S A s.heap H locs) {ls : Array Slot} (hl : lv_has ls 6 [(0, .ref o), (1, .int x1), (2, .int x2), (3, .int x3), (4, .int x4)]) : W p l e rmX10_like s m args below meth c H locs 0 0 (MQ below (mQi D cI cZ cJ o ad A res) args s 0 0 A) (F0 m 69 ls []) := by
  have hx := C.1
  have hb := C.2.1
  unfold fX10_like_69_b at h
  refine lv_iload hx hb dX10_like_69 (lv_at hl 4 rfl) ?_
  refine lv_iconst (v := 5) hx hb dX10_like_71 (by decide) ?_
  refine lv_icmp_ge (tgt := 138) hx hb dX10_like_72 (by decide) (fun hc => ?_) (fun hc => ?_)
  · replace h := it_pos hc h
    refine lv_iload_n hx hb dX10_like_138 rfl (lv_at hl 3 rfl) ?_
    refine lv_if_ge (tgt := 146) hx hb dX10_like_139 (by decide) (fun hc => ?_) (fun hc => ?_)
    · replace h := it_pos hc h
      refine lv_iload_n hx hb dX10_like_146 rfl (lv_at hl 3 rfl) ?_
      exact mx_reti C h hP hS dX10_like_147
    · replace h := it_neg hc h
      refine lv_iconst (v := 0) hx hb dX10_like_142 (by decide) ?_
      refine lv_goto (tgt := 147) hx hb dX10_like_143 (by decide) ?_
      exact mx_reti C h hP hS dX10_like_147
  · replace h := it_neg hc h
    refine lv_aload_n hx hb dX10_like_75 rfl (lv_at hl 0 rfl) ?_
    refine mg_word C hP dX10_like_76 ?_
    refine lv_iconst (v := 5) hx hb dX10_like_79 (by decide) ?_
    refine lv_iload_n hx hb dX10_like_80 rfl (lv_at hl 1 rfl) ?_
    refine lv_imul hx hb dX10_like_81 ?_
    refine lv_iload hx hb dX10_like_82 (lv_at hl 4 rfl) ?_
    refine lv_iadd hx hb dX10_like_84 ?_
    obtain ⟨v85, e85, h⟩ := ob h
    refine ml_word C hP e85 dX10_like_85 ?_
    refine lv_istore (lv' := [(5, .int v85), (0, .ref o), (1, .int x1), (2, .int x2), (3, .int x3), (4, .int x4)]) hx hb dX10_like_86 hl (by decide) rfl (fun ls hl => ?_)
    refine lv_iload hx hb dX10_like_88 (lv_at hl 0 rfl) ?_
    refine lv_if_lt (tgt := 132) hx hb dX10_like_90 (by decide) (fun hc => ?_) (fun hc => ?_)
    · replace h := it_pos hc h
      exact wX10_like_132 C hk69 h hP hS (lv_sub hl [1, 2, 3, 4, 5] rfl)
    · replace h := it_neg hc h
      refine lv_iload_n hx hb dX10_like_93 rfl (lv_at hl 4 rfl) ?_
      refine lv_iload hx hb dX10_like_94 (lv_at hl 0 rfl) ?_
      refine lv_aload_n hx hb dX10_like_96 rfl (lv_at hl 1 rfl) ?_
      refine mg_trait C hP dX10_like_97 ?_
      refine lv_iconst (v := 5) hx hb dX10_like_100 (by decide) ?_
      refine lv_iload_n hx hb dX10_like_101 rfl (lv_at hl 3 rfl) ?_
      refine lv_imul hx hb dX10_like_102 ?_
      refine lv_iload hx hb dX10_like_103 (lv_at hl 5 rfl) ?_
      refine lv_iadd hx hb dX10_like_105 ?_
      obtain ⟨v106, e106, h⟩ := ob h
      refine ml_trait C hP e106 dX10_like_106 ?_
      refine lv_icmp_ne (tgt := 120) hx hb dX10_like_107 (by decide) (fun hc => ?_) (fun hc => ?_)
      · replace h := it_neg hc h
        refine lv_aload_n hx hb dX10_like_120 rfl (lv_at hl 1 rfl) ?_
        refine mg_points C hP dX10_like_121 ?_
        refine lv_iload hx hb dX10_like_124 (lv_at hl 5 rfl) ?_
        obtain ⟨v126, e126, h⟩ := ob h
        refine ml_points C hP e126 dX10_like_126 ?_
        refine lv_iconst (v := 2) hx hb dX10_like_127 (by decide) ?_
        refine lv_idiv hx hb dX10_like_128 (by decide) ?_
        refine lv_ineg hx hb dX10_like_129 ?_
        exact wX10_like_130 C hk69 h hP hS (lv_sub hl [1, 2, 3, 5] rfl)
      · replace h := it_pos hc h
        refine lv_aload_n hx hb dX10_like_110 rfl (lv_at hl 1 rfl) ?_
        refine mg_points C hP dX10_like_111 ?_
        refine lv_iload hx hb dX10_like_114 (lv_at hl 5 rfl) ?_
        obtain ⟨v116, e116, h⟩ := ob h
        refine ml_points C hP e116 dX10_like_116 ?_
        refine lv_goto (tgt := 130) hx hb dX10_like_117 (by decide) ?_
        exact wX10_like_130 C hk69 h hP hS (lv_sub hl [1, 2, 3, 5] rfl)
def fX10_like_69 : Nat → Int32 → Int32 → Int32 → Int32 → mS → Option (Int32 × mS)
  | 0 => fun _ _ _ _ _ => none
  | n + 1 => fun x1 x2 x3 x4 u => fX10_like_69_b x1 x2 x3 x4 u (fX10_like_69 n) 
theorem wX10_like_69 (C : mC p s m args meth c cX10_like 6 (some .int) D cI cZ cJ o ad A) {res : Int32 × mS} (n : Nat) : ∀ {x1 : Int32} {x2 : Int32} {x3 : Int32} {x4 : Int32} {u : mS} {H : Heap} {locs : List Loc} {ls : Array Slot}, fX10_like_69 n x1 x2 x3 x4 u = some res → va_P D vwCl (mW cI cZ cJ o ad u) H → va_S A s.heap H locs → lv_has ls 6 [(0, .ref o), (1, .int x1), (2, .int x2), (3, .int x3), (4, .int x4)] → W p l e rmX10_like s m args below meth c H locs 0 0 (MQ below (mQi D cI cZ cJ o ad A res) args s 0 0 A) (F0 m 69 ls []) := by
  induction n with
  | zero => intro _ _ _ _ _ _ _ _ h _ _ _; cases (show (none : Option (Int32 × mS)) = some res from h)
  | succ n ih => intro _ _ _ _ _ _ _ _ h hP hS hl; exact wX10_like_69_b C (fun _ _ _ _ _ _ _ _ h hP hS hl => ih h hP hS hl) h hP hS hl
def fX10_like_65 (x1 : Int32) (x2 : Int32) (s0 : Int32) (u : mS) : Option (Int32 × mS) :=
  fX10_like_69  FU x1 x2 s0 (0 : Int32) u
set_option maxHeartbeats 4000000 in
set_option maxRecDepth 20000 in
theorem wX10_like_65 (C : mC p s m args meth c cX10_like 6 (some .int) D cI cZ cJ o ad A) {x1 : Int32} {x2 : Int32} {s0 : Int32} {u : mS} {res : Int32 × mS} (h : fX10_like_65 x1 x2 s0 u = some res) {H : Heap} {locs : List Loc} (hP : va_P D vwCl (mW cI cZ cJ o ad u) H) (hS : va_S A s.heap H locs) {ls : Array Slot} (hl : lv_has ls 6 [(0, .ref o), (1, .int x1), (2, .int x2)]) : W p l e rmX10_like s m args below meth c H locs 0 0 (MQ below (mQi D cI cZ cJ o ad A res) args s 0 0 A) (F0 m 65 ls [.int s0]) := by
  have hx := C.1
  have hb := C.2.1
  unfold fX10_like_65 at h
  refine lv_istore_n (lv' := [(3, .int s0), (0, .ref o), (1, .int x1), (2, .int x2)]) hx hb dX10_like_65 rfl hl (by decide) rfl (fun ls hl => ?_)
  refine lv_iconst (v := 0) hx hb dX10_like_66 (by decide) ?_
  refine lv_istore (lv' := [(4, .int (0 : Int32)), (3, .int s0), (0, .ref o), (1, .int x1), (2, .int x2)]) hx hb dX10_like_67 hl (by decide) rfl (fun ls hl => ?_)
  exact wX10_like_69 C  FU h hP hS (lv_sub hl [2, 3, 4, 1, 0] rfl)
def fX10_like (x1 : Int32) (x2 : Int32) (u : mS) : Option (Int32 × mS) :=
  (mR u 23 8 x1).bind fun v5 =>
  if v5 = 0 then (
    (mR u 9 20 x2).bind fun v14 =>
    if v14 = 0 then (
      (mR u 4 20 x2).bind fun v23 =>
      (mR u 18 8 x1).bind fun v29 =>
      if v29 ≤ v23 then (
        (mR u 6 20 x2).bind fun v40 =>
        (mR u 20 8 x1).bind fun v46 =>
        (mR u 21 8 x1).bind fun v52 =>
        bI (fX10_isIn v40 v46 v52 u) fun r53 u53 =>
        if r53 = 0 then (
          fX10_like_65 x1 x2 (-3 : Int32) u53 
        ) else (
          fX10_like_65 x1 x2 (3 : Int32) u53 
        )
      ) else (
        some ((0 : Int32), u)
      )
    ) else (
      some ((0 : Int32), u)
    )
  ) else (
    some ((0 : Int32), u)
  )
set_option maxHeartbeats 4000000 in
set_option maxRecDepth 20000 in
theorem wX10_like (C : mC p s m args meth c cX10_like 6 (some .int) D cI cZ cJ o ad A) {x1 : Int32} {x2 : Int32} {u : mS} {res : Int32 × mS} (h : fX10_like x1 x2 u = some res) {H : Heap} {locs : List Loc} (hP : va_P D vwCl (mW cI cZ cJ o ad u) H) (hS : va_S A s.heap H locs) {ls : Array Slot} (hl : lv_has ls 6 [(0, .ref o), (1, .int x1), (2, .int x2)]) : W p l e rmX10_like s m args below meth c H locs 0 0 (MQ below (mQi D cI cZ cJ o ad A res) args s 0 0 A) (F0 m 0 ls []) := by
  have hx := C.1
  have hb := C.2.1
  unfold fX10_like at h
  refine lv_aload_n hx hb dX10_like_0 rfl (lv_at hl 0 rfl) ?_
  refine mg_isBarred C hP dX10_like_1 ?_
  refine lv_iload_n hx hb dX10_like_4 rfl (lv_at hl 1 rfl) ?_
  obtain ⟨v5, e5, h⟩ := ob h
  refine ml_isBarred C hP e5 dX10_like_5 ?_
  refine lv_if_ne (tgt := 33) hx hb dX10_like_6 (by decide) (fun hc => ?_) (fun hc => ?_)
  · replace h := it_neg hc h
    refine lv_iconst (v := 0) hx hb dX10_like_33 (by decide) ?_
    exact mx_reti C h hP hS dX10_like_34
  · replace h := it_pos hc h
    refine lv_aload_n hx hb dX10_like_9 rfl (lv_at hl 0 rfl) ?_
    refine mg_is C hP dX10_like_10 ?_
    refine lv_iload_n hx hb dX10_like_13 rfl (lv_at hl 2 rfl) ?_
    obtain ⟨v14, e14, h⟩ := ob h
    refine ml_is C hP e14 dX10_like_14 ?_
    refine lv_if_ne (tgt := 33) hx hb dX10_like_15 (by decide) (fun hc => ?_) (fun hc => ?_)
    · replace h := it_neg hc h
      refine lv_iconst (v := 0) hx hb dX10_like_33 (by decide) ?_
      exact mx_reti C h hP hS dX10_like_34
    · replace h := it_pos hc h
      refine lv_aload_n hx hb dX10_like_18 rfl (lv_at hl 0 rfl) ?_
      refine mg_foundOn C hP dX10_like_19 ?_
      refine lv_iload_n hx hb dX10_like_22 rfl (lv_at hl 2 rfl) ?_
      obtain ⟨v23, e23, h⟩ := ob h
      refine ml_foundOn C hP e23 dX10_like_23 ?_
      refine lv_aload_n hx hb dX10_like_24 rfl (lv_at hl 0 rfl) ?_
      refine mg_lostOn C hP dX10_like_25 ?_
      refine lv_iload_n hx hb dX10_like_28 rfl (lv_at hl 1 rfl) ?_
      obtain ⟨v29, e29, h⟩ := ob h
      refine ml_lostOn C hP e29 dX10_like_29 ?_
      refine lv_icmp_ge (tgt := 35) hx hb dX10_like_30 (by decide) (fun hc => ?_) (fun hc => ?_)
      · replace h := it_pos hc h
        refine lv_aload_n hx hb dX10_like_35 rfl (lv_at hl 0 rfl) ?_
        refine mg_weight C hP dX10_like_36 ?_
        refine lv_iload_n hx hb dX10_like_39 rfl (lv_at hl 2 rfl) ?_
        obtain ⟨v40, e40, h⟩ := ob h
        refine ml_weight C hP e40 dX10_like_40 ?_
        refine lv_aload_n hx hb dX10_like_41 rfl (lv_at hl 0 rfl) ?_
        refine mg_spanLow C hP dX10_like_42 ?_
        refine lv_iload_n hx hb dX10_like_45 rfl (lv_at hl 1 rfl) ?_
        obtain ⟨v46, e46, h⟩ := ob h
        refine ml_spanLow C hP e46 dX10_like_46 ?_
        refine lv_aload_n hx hb dX10_like_47 rfl (lv_at hl 0 rfl) ?_
        refine mg_spanHigh C hP dX10_like_48 ?_
        refine lv_iload_n hx hb dX10_like_51 rfl (lv_at hl 1 rfl) ?_
        obtain ⟨v52, e52, h⟩ := ob h
        refine ml_spanHigh C hP e52 dX10_like_52 ?_
        obtain ⟨r53, u53, e53, h⟩ := obI h
        refine mx_cSi C hP hS [.int v40, .int v46, .int v52] (tX10_isIn e53) qX10_131 ⟨rfl, rfl, Nat.le_of_ble_eq_true rfl, Nat.le_of_ble_eq_true rfl⟩ rfl hl.1 rfl (Nat.le_of_ble_eq_true rfl) dX10_like_53 (fun H locs hP hS => ?_)
        refine lv_if_eq (tgt := 63) hx hb dX10_like_56 (by decide) (fun hc => ?_) (fun hc => ?_)
        · replace h := it_pos hc h
          refine lv_bipush (v := -3) hx hb dX10_like_63 (by decide) ?_
          exact wX10_like_65 C  h hP hS (lv_sub hl [0, 1, 2] rfl)
        · replace h := it_neg hc h
          refine lv_iconst (v := 3) hx hb dX10_like_59 (by decide) ?_
          refine lv_goto (tgt := 65) hx hb dX10_like_60 (by decide) ?_
          exact wX10_like_65 C  h hP hS (lv_sub hl [0, 1, 2] rfl)
      · replace h := it_neg hc h
        refine lv_iconst (v := 0) hx hb dX10_like_33 (by decide) ?_
        exact mx_reti C h hP hS dX10_like_34
theorem tX10_like {D : va_G} {cI cZ cJ : ClassId} {o : Nat} {ad : Nat → Nat} {A : Nat → Prop} {x1 : Int32} {x2 : Int32} {u : mS} {res : Int32 × mS} (h : fX10_like x1 x2 u = some res) : Met l yX10_like (Cond.code yX10_like cX10_like 6 (some .int) :: gW) rmX10_like (va_Pc [.ref o, .int x1, .int x2] (mPre D cI cZ cJ o ad A u)) (mQi D cI cZ cJ o ad A res) 0 0 A :=
  mx_met ⟨by decide +kernel, rfl⟩ (Nat.le_of_ble_eq_true rfl) (fun p e s m below meth c ls C hP hl => wX10_like C h hP va_S.rf hl)
abbrev rmX10_likeness : Room := { frames := 2, cells := 0, slots := 0, locals := 47 }
def fX10_likeness (x1 : Int32) (x2 : Int32) (u : mS) : Option (Int32 × mS) :=
  bI (fX10_isSeeker x1 u) fun r2 u2 =>
  if r2 = 0 then (
    bI (fX10_finding (1 : Int32) u2) fun r27 u27 =>
    some (r27, u27)
  ) else (
    bI (fX10_isThing x2 u2) fun r10 u10 =>
    if r10 = 0 then (
      bI (fX10_finding (1 : Int32) u10) fun r27 u27 =>
      some (r27, u27)
    ) else (
      bI (fX10_like x1 x2 u10) fun r19 u19 =>
      some (r19, u19)
    )
  )
set_option maxHeartbeats 4000000 in
set_option maxRecDepth 20000 in
theorem wX10_likeness (C : mC p s m args meth c cX10_likeness 3 (some .int) D cI cZ cJ o ad A) {x1 : Int32} {x2 : Int32} {u : mS} {res : Int32 × mS} (h : fX10_likeness x1 x2 u = some res) {H : Heap} {locs : List Loc} (hP : va_P D vwCl (mW cI cZ cJ o ad u) H) (hS : va_S A s.heap H locs) {ls : Array Slot} (hl : lv_has ls 3 [(0, .ref o), (1, .int x1), (2, .int x2)]) : W p l e rmX10_likeness s m args below meth c H locs 0 0 (MQ below (mQi D cI cZ cJ o ad A res) args s 0 0 A) (F0 m 0 ls []) := by
  have hx := C.1
  have hb := C.2.1
  unfold fX10_likeness at h
  refine lv_aload_n hx hb dX10_likeness_0 rfl (lv_at hl 0 rfl) ?_
  refine lv_iload_n hx hb dX10_likeness_1 rfl (lv_at hl 1 rfl) ?_
  obtain ⟨r2, u2, e2, h⟩ := obI h
  refine mx_cVi C hP hS [.int x1] (tX10_isSeeker e2) qX10_156 ⟨rfl, rfl, Nat.le_of_ble_eq_true rfl, Nat.le_of_ble_eq_true rfl⟩ rfl hl.1 rfl (Nat.le_of_ble_eq_true rfl) dX10_likeness_2 (fun H locs hP hS => ?_)
  refine lv_if_eq (tgt := 25) hx hb dX10_likeness_5 (by decide) (fun hc => ?_) (fun hc => ?_)
  · replace h := it_pos hc h
    refine lv_aload_n hx hb dX10_likeness_25 rfl (lv_at hl 0 rfl) ?_
    refine lv_iconst (v := 1) hx hb dX10_likeness_26 (by decide) ?_
    obtain ⟨r27, u27, e27, h⟩ := obI h
    refine mx_cVi C hP hS [.int (1 : Int32)] (tX10_finding e27) qX10_138 ⟨rfl, rfl, Nat.le_of_ble_eq_true rfl, Nat.le_of_ble_eq_true rfl⟩ rfl hl.1 rfl (Nat.le_of_ble_eq_true rfl) dX10_likeness_27 (fun H locs hP hS => ?_)
    exact mx_reti C h hP hS dX10_likeness_30
  · replace h := it_neg hc h
    refine lv_aload_n hx hb dX10_likeness_8 rfl (lv_at hl 0 rfl) ?_
    refine lv_iload_n hx hb dX10_likeness_9 rfl (lv_at hl 2 rfl) ?_
    obtain ⟨r10, u10, e10, h⟩ := obI h
    refine mx_cVi C hP hS [.int x2] (tX10_isThing e10) qX10_150 ⟨rfl, rfl, Nat.le_of_ble_eq_true rfl, Nat.le_of_ble_eq_true rfl⟩ rfl hl.1 rfl (Nat.le_of_ble_eq_true rfl) dX10_likeness_10 (fun H locs hP hS => ?_)
    refine lv_if_eq (tgt := 25) hx hb dX10_likeness_13 (by decide) (fun hc => ?_) (fun hc => ?_)
    · replace h := it_pos hc h
      refine lv_aload_n hx hb dX10_likeness_25 rfl (lv_at hl 0 rfl) ?_
      refine lv_iconst (v := 1) hx hb dX10_likeness_26 (by decide) ?_
      obtain ⟨r27, u27, e27, h⟩ := obI h
      refine mx_cVi C hP hS [.int (1 : Int32)] (tX10_finding e27) qX10_138 ⟨rfl, rfl, Nat.le_of_ble_eq_true rfl, Nat.le_of_ble_eq_true rfl⟩ rfl hl.1 rfl (Nat.le_of_ble_eq_true rfl) dX10_likeness_27 (fun H locs hP hS => ?_)
      exact mx_reti C h hP hS dX10_likeness_30
    · replace h := it_neg hc h
      refine lv_aload_n hx hb dX10_likeness_16 rfl (lv_at hl 0 rfl) ?_
      refine lv_iload_n hx hb dX10_likeness_17 rfl (lv_at hl 1 rfl) ?_
      refine lv_iload_n hx hb dX10_likeness_18 rfl (lv_at hl 2 rfl) ?_
      obtain ⟨r19, u19, e19, h⟩ := obI h
      refine mx_cVi C hP hS [.int x1, .int x2] (tX10_like e19) qX10_159 ⟨rfl, rfl, Nat.le_of_ble_eq_true rfl, Nat.le_of_ble_eq_true rfl⟩ rfl hl.1 rfl (Nat.le_of_ble_eq_true rfl) dX10_likeness_19 (fun H locs hP hS => ?_)
      refine lv_goto (tgt := 30) hx hb dX10_likeness_22 (by decide) ?_
      exact mx_reti C h hP hS dX10_likeness_30
theorem tX10_likeness {D : va_G} {cI cZ cJ : ClassId} {o : Nat} {ad : Nat → Nat} {A : Nat → Prop} {x1 : Int32} {x2 : Int32} {u : mS} {res : Int32 × mS} (h : fX10_likeness x1 x2 u = some res) : Met l yX10_likeness (Cond.code yX10_likeness cX10_likeness 3 (some .int) :: gW) rmX10_likeness (va_Pc [.ref o, .int x1, .int x2] (mPre D cI cZ cJ o ad A u)) (mQi D cI cZ cJ o ad A res) 0 0 A :=
  mx_met ⟨by decide +kernel, rfl⟩ (Nat.le_of_ble_eq_true rfl) (fun p e s m below meth c ls C hP hl => wX10_likeness C h hP va_S.rf hl)
abbrev rmX10_chance : Room := { frames := 2, cells := 0, slots := 0, locals := 47 }
def fX10_chance_27_b (x1 : Int32) (x2 : Int32) (x3 : Int32) (x4 : Int32) (u : mS) (k27 : Int32 → Int32 → Int32 → Int32 → mS → Option (Int32 × mS)) (k60 : Int32 → Int32 → Int32 → mS → Option (Int32 × mS)) : Option (Int32 × mS) :=
  if (u.1 17) ≤ x4 then (
    k60 x1 x2 x3 u
  ) else (
    bI (fX10_like x4 x2 u) fun r41 u41 =>
    bI (fX10_like x4 x2 u41) fun r48 u48 =>
    k27 x1 x2 (x3 + (r41 * r48)) (x4 + (1 : Int32)) u48
  )
set_option maxHeartbeats 4000000 in
set_option maxRecDepth 20000 in
theorem wX10_chance_27_b (C : mC p s m args meth c cX10_chance 5 (some .int) D cI cZ cJ o ad A) {x1 : Int32} {x2 : Int32} {x3 : Int32} {x4 : Int32} {u : mS} {res : Int32 × mS} {k27 : Int32 → Int32 → Int32 → Int32 → mS → Option (Int32 × mS)} {k60 : Int32 → Int32 → Int32 → mS → Option (Int32 × mS)} (hk27 : ∀ (x1 : Int32) (x2 : Int32) (x3 : Int32) (x4 : Int32) (u : mS) (H : Heap) (locs : List Loc) (ls : Array Slot), k27 x1 x2 x3 x4 u = some res → va_P D vwCl (mW cI cZ cJ o ad u) H → va_S A s.heap H locs → lv_has ls 5 [(0, .ref o), (1, .int x1), (2, .int x2), (3, .int x3), (4, .int x4)] → W p l e rmX10_chance s m args below meth c H locs 0 0 (MQ below (mQi D cI cZ cJ o ad A res) args s 0 0 A) (F0 m 27 ls [])) (hk60 : ∀ (x1 : Int32) (x2 : Int32) (x3 : Int32) (u : mS) (H : Heap) (locs : List Loc) (ls : Array Slot), k60 x1 x2 x3 u = some res → va_P D vwCl (mW cI cZ cJ o ad u) H → va_S A s.heap H locs → lv_has ls 5 [(0, .ref o), (1, .int x1), (2, .int x2), (3, .int x3)] → W p l e rmX10_chance s m args below meth c H locs 0 0 (MQ below (mQi D cI cZ cJ o ad A res) args s 0 0 A) (F0 m 60 ls [])) (h : fX10_chance_27_b x1 x2 x3 x4 u k27 k60 = some res) {H : Heap} {locs : List Loc} (hP : va_P D vwCl (mW cI cZ cJ o ad u) H) (hS : va_S A s.heap H locs) {ls : Array Slot} (hl : lv_has ls 5 [(0, .ref o), (1, .int x1), (2, .int x2), (3, .int x3), (4, .int x4)]) : W p l e rmX10_chance s m args below meth c H locs 0 0 (MQ below (mQi D cI cZ cJ o ad A res) args s 0 0 A) (F0 m 27 ls []) := by
  have hx := C.1
  have hb := C.2.1
  unfold fX10_chance_27_b at h
  refine lv_iload hx hb dX10_chance_27 (lv_at hl 4 rfl) ?_
  refine lv_aload_n hx hb dX10_chance_29 rfl (lv_at hl 0 rfl) ?_
  refine mg_seekers C hP dX10_chance_30 ?_
  refine lv_icmp_ge (tgt := 60) hx hb dX10_chance_33 (by decide) (fun hc => ?_) (fun hc => ?_)
  · replace h := it_pos hc h
    exact hk60 _ _ _ _ _ _ _ h hP hS (lv_sub hl [0, 1, 2, 3] rfl)
  · replace h := it_neg hc h
    refine lv_iload_n hx hb dX10_chance_36 rfl (lv_at hl 3 rfl) ?_
    refine lv_aload_n hx hb dX10_chance_37 rfl (lv_at hl 0 rfl) ?_
    refine lv_iload hx hb dX10_chance_38 (lv_at hl 4 rfl) ?_
    refine lv_iload_n hx hb dX10_chance_40 rfl (lv_at hl 2 rfl) ?_
    obtain ⟨r41, u41, e41, h⟩ := obI h
    refine mx_cVi C hP hS [.int x4, .int x2] (tX10_like e41) qX10_159 ⟨rfl, rfl, Nat.le_of_ble_eq_true rfl, Nat.le_of_ble_eq_true rfl⟩ rfl hl.1 rfl (Nat.le_of_ble_eq_true rfl) dX10_chance_41 (fun H locs hP hS => ?_)
    refine lv_aload_n hx hb dX10_chance_44 rfl (lv_at hl 0 rfl) ?_
    refine lv_iload hx hb dX10_chance_45 (lv_at hl 4 rfl) ?_
    refine lv_iload_n hx hb dX10_chance_47 rfl (lv_at hl 2 rfl) ?_
    obtain ⟨r48, u48, e48, h⟩ := obI h
    refine mx_cVi C hP hS [.int x4, .int x2] (tX10_like e48) qX10_159 ⟨rfl, rfl, Nat.le_of_ble_eq_true rfl, Nat.le_of_ble_eq_true rfl⟩ rfl hl.1 rfl (Nat.le_of_ble_eq_true rfl) dX10_chance_48 (fun H locs hP hS => ?_)
    refine lv_imul hx hb dX10_chance_51 ?_
    refine lv_iadd hx hb dX10_chance_52 ?_
    refine lv_istore_n (lv' := [(3, .int (x3 + (r41 * r48))), (0, .ref o), (1, .int x1), (2, .int x2), (4, .int x4)]) hx hb dX10_chance_53 rfl hl (by decide) rfl (fun ls hl => ?_)
    refine lv_iinc (v := x4 + (1 : Int32)) (lv' := [(4, .int (x4 + (1 : Int32))), (3, .int (x3 + (r41 * r48))), (0, .ref o), (1, .int x1), (2, .int x2)]) hx hb dX10_chance_54 hl (k := 4) rfl rfl (by decide) rfl (fun ls hl => ?_)
    refine lv_goto (tgt := 27) hx hb dX10_chance_57 (by decide) ?_
    exact hk27 _ _ _ _ _ _ _ _ h hP hS (lv_sub hl [2, 3, 4, 1, 0] rfl)
def fX10_chance_27 (k60 : Int32 → Int32 → Int32 → mS → Option (Int32 × mS)) : Nat → Int32 → Int32 → Int32 → Int32 → mS → Option (Int32 × mS)
  | 0 => fun _ _ _ _ _ => none
  | n + 1 => fun x1 x2 x3 x4 u => fX10_chance_27_b x1 x2 x3 x4 u (fX10_chance_27 k60 n) k60 
theorem wX10_chance_27 (C : mC p s m args meth c cX10_chance 5 (some .int) D cI cZ cJ o ad A) {res : Int32 × mS} {k60 : Int32 → Int32 → Int32 → mS → Option (Int32 × mS)} (hk60 : ∀ (x1 : Int32) (x2 : Int32) (x3 : Int32) (u : mS) (H : Heap) (locs : List Loc) (ls : Array Slot), k60 x1 x2 x3 u = some res → va_P D vwCl (mW cI cZ cJ o ad u) H → va_S A s.heap H locs → lv_has ls 5 [(0, .ref o), (1, .int x1), (2, .int x2), (3, .int x3)] → W p l e rmX10_chance s m args below meth c H locs 0 0 (MQ below (mQi D cI cZ cJ o ad A res) args s 0 0 A) (F0 m 60 ls [])) (n : Nat) : ∀ {x1 : Int32} {x2 : Int32} {x3 : Int32} {x4 : Int32} {u : mS} {H : Heap} {locs : List Loc} {ls : Array Slot}, fX10_chance_27 k60 n x1 x2 x3 x4 u = some res → va_P D vwCl (mW cI cZ cJ o ad u) H → va_S A s.heap H locs → lv_has ls 5 [(0, .ref o), (1, .int x1), (2, .int x2), (3, .int x3), (4, .int x4)] → W p l e rmX10_chance s m args below meth c H locs 0 0 (MQ below (mQi D cI cZ cJ o ad A res) args s 0 0 A) (F0 m 27 ls []) := by
  induction n with
  | zero => intro _ _ _ _ _ _ _ _ h _ _ _; cases (show (none : Option (Int32 × mS)) = some res from h)
  | succ n ih => intro _ _ _ _ _ _ _ _ h hP hS hl; exact wX10_chance_27_b C (fun _ _ _ _ _ _ _ _ h hP hS hl => ih h hP hS hl) hk60 h hP hS hl
def fX10_chance (x1 : Int32) (x2 : Int32) (u : mS) : Option (Int32 × mS) :=
  bI (fX10_isSeeker x1 u) fun r2 u2 =>
  if r2 = 0 then (
    bI (fX10_finding (1 : Int32) u2) fun r18 u18 =>
    some (r18, u18)
  ) else (
    bI (fX10_isThing x2 u2) fun r10 u10 =>
    if r10 = 0 then (
      bI (fX10_finding (1 : Int32) u10) fun r18 u18 =>
      some (r18, u18)
    ) else (
      fX10_chance_27 (fun x1 x2 x3 u =>
            if x3 = 0 then (
              some ((0 : Int32), u)
            ) else (
              bI (fX10_like x1 x2 u) fun r74 u74 =>
              bI (fX10_like x1 x2 u74) fun r81 u81 =>
              if x3 = 0 then none else
              some ((((1000 : Int32) * r74) * r81) / x3, u81)
            )) FU x1 x2 (0 : Int32) (0 : Int32) u10
    )
  )
set_option maxHeartbeats 4000000 in
set_option maxRecDepth 20000 in
theorem wX10_chance (C : mC p s m args meth c cX10_chance 5 (some .int) D cI cZ cJ o ad A) {x1 : Int32} {x2 : Int32} {u : mS} {res : Int32 × mS} (h : fX10_chance x1 x2 u = some res) {H : Heap} {locs : List Loc} (hP : va_P D vwCl (mW cI cZ cJ o ad u) H) (hS : va_S A s.heap H locs) {ls : Array Slot} (hl : lv_has ls 5 [(0, .ref o), (1, .int x1), (2, .int x2)]) : W p l e rmX10_chance s m args below meth c H locs 0 0 (MQ below (mQi D cI cZ cJ o ad A res) args s 0 0 A) (F0 m 0 ls []) := by
  have hx := C.1
  have hb := C.2.1
  unfold fX10_chance at h
  refine lv_aload_n hx hb dX10_chance_0 rfl (lv_at hl 0 rfl) ?_
  refine lv_iload_n hx hb dX10_chance_1 rfl (lv_at hl 1 rfl) ?_
  obtain ⟨r2, u2, e2, h⟩ := obI h
  refine mx_cVi C hP hS [.int x1] (tX10_isSeeker e2) qX10_156 ⟨rfl, rfl, Nat.le_of_ble_eq_true rfl, Nat.le_of_ble_eq_true rfl⟩ rfl hl.1 rfl (Nat.le_of_ble_eq_true rfl) dX10_chance_2 (fun H locs hP hS => ?_)
  refine lv_if_eq (tgt := 16) hx hb dX10_chance_5 (by decide) (fun hc => ?_) (fun hc => ?_)
  · replace h := it_pos hc h
    refine lv_aload_n hx hb dX10_chance_16 rfl (lv_at hl 0 rfl) ?_
    refine lv_iconst (v := 1) hx hb dX10_chance_17 (by decide) ?_
    obtain ⟨r18, u18, e18, h⟩ := obI h
    refine mx_cVi C hP hS [.int (1 : Int32)] (tX10_finding e18) qX10_138 ⟨rfl, rfl, Nat.le_of_ble_eq_true rfl, Nat.le_of_ble_eq_true rfl⟩ rfl hl.1 rfl (Nat.le_of_ble_eq_true rfl) dX10_chance_18 (fun H locs hP hS => ?_)
    exact mx_reti C h hP hS dX10_chance_21
  · replace h := it_neg hc h
    refine lv_aload_n hx hb dX10_chance_8 rfl (lv_at hl 0 rfl) ?_
    refine lv_iload_n hx hb dX10_chance_9 rfl (lv_at hl 2 rfl) ?_
    obtain ⟨r10, u10, e10, h⟩ := obI h
    refine mx_cVi C hP hS [.int x2] (tX10_isThing e10) qX10_150 ⟨rfl, rfl, Nat.le_of_ble_eq_true rfl, Nat.le_of_ble_eq_true rfl⟩ rfl hl.1 rfl (Nat.le_of_ble_eq_true rfl) dX10_chance_10 (fun H locs hP hS => ?_)
    refine lv_if_ne (tgt := 22) hx hb dX10_chance_13 (by decide) (fun hc => ?_) (fun hc => ?_)
    · replace h := it_neg hc h
      refine lv_iconst (v := 0) hx hb dX10_chance_22 (by decide) ?_
      refine lv_istore_n (lv' := [(3, .int (0 : Int32)), (0, .ref o), (1, .int x1), (2, .int x2)]) hx hb dX10_chance_23 rfl hl (by decide) rfl (fun ls hl => ?_)
      refine lv_iconst (v := 0) hx hb dX10_chance_24 (by decide) ?_
      refine lv_istore (lv' := [(4, .int (0 : Int32)), (3, .int (0 : Int32)), (0, .ref o), (1, .int x1), (2, .int x2)]) hx hb dX10_chance_25 hl (by decide) rfl (fun ls hl => ?_)
      refine wX10_chance_27 C ?_ FU h hP hS (lv_sub hl [2, 3, 4, 1, 0] rfl)
      · intro x1 x2 x3 u H locs ls h hP hS hl
        refine lv_iload_n hx hb dX10_chance_60 rfl (lv_at hl 3 rfl) ?_
        refine lv_if_ne (tgt := 68) hx hb dX10_chance_61 (by decide) (fun hc => ?_) (fun hc => ?_)
        · replace h := it_neg hc h
          refine lv_sipush (v := 1000) hx hb dX10_chance_68 (by decide) ?_
          refine lv_aload_n hx hb dX10_chance_71 rfl (lv_at hl 0 rfl) ?_
          refine lv_iload_n hx hb dX10_chance_72 rfl (lv_at hl 1 rfl) ?_
          refine lv_iload_n hx hb dX10_chance_73 rfl (lv_at hl 2 rfl) ?_
          obtain ⟨r74, u74, e74, h⟩ := obI h
          refine mx_cVi C hP hS [.int x1, .int x2] (tX10_like e74) qX10_159 ⟨rfl, rfl, Nat.le_of_ble_eq_true rfl, Nat.le_of_ble_eq_true rfl⟩ rfl hl.1 rfl (Nat.le_of_ble_eq_true rfl) dX10_chance_74 (fun H locs hP hS => ?_)
          refine lv_imul hx hb dX10_chance_77 ?_
          refine lv_aload_n hx hb dX10_chance_78 rfl (lv_at hl 0 rfl) ?_
          refine lv_iload_n hx hb dX10_chance_79 rfl (lv_at hl 1 rfl) ?_
          refine lv_iload_n hx hb dX10_chance_80 rfl (lv_at hl 2 rfl) ?_
          obtain ⟨r81, u81, e81, h⟩ := obI h
          refine mx_cVi C hP hS [.int x1, .int x2] (tX10_like e81) qX10_159 ⟨rfl, rfl, Nat.le_of_ble_eq_true rfl, Nat.le_of_ble_eq_true rfl⟩ rfl hl.1 rfl (Nat.le_of_ble_eq_true rfl) dX10_chance_81 (fun H locs hP hS => ?_)
          refine lv_imul hx hb dX10_chance_84 ?_
          refine lv_iload_n hx hb dX10_chance_85 rfl (lv_at hl 3 rfl) ?_
          have n86 : ¬ x3 = 0 := fun q => by rw [if_pos q] at h; cases h
          replace h := it_neg n86 h
          refine lv_idiv hx hb dX10_chance_86 n86 ?_
          exact mx_reti C h hP hS dX10_chance_87
        · replace h := it_pos hc h
          refine lv_iconst (v := 0) hx hb dX10_chance_64 (by decide) ?_
          refine lv_goto (tgt := 87) hx hb dX10_chance_65 (by decide) ?_
          exact mx_reti C h hP hS dX10_chance_87
    · replace h := it_pos hc h
      refine lv_aload_n hx hb dX10_chance_16 rfl (lv_at hl 0 rfl) ?_
      refine lv_iconst (v := 1) hx hb dX10_chance_17 (by decide) ?_
      obtain ⟨r18, u18, e18, h⟩ := obI h
      refine mx_cVi C hP hS [.int (1 : Int32)] (tX10_finding e18) qX10_138 ⟨rfl, rfl, Nat.le_of_ble_eq_true rfl, Nat.le_of_ble_eq_true rfl⟩ rfl hl.1 rfl (Nat.le_of_ble_eq_true rfl) dX10_chance_18 (fun H locs hP hS => ?_)
      exact mx_reti C h hP hS dX10_chance_21
theorem tX10_chance {D : va_G} {cI cZ cJ : ClassId} {o : Nat} {ad : Nat → Nat} {A : Nat → Prop} {x1 : Int32} {x2 : Int32} {u : mS} {res : Int32 × mS} (h : fX10_chance x1 x2 u = some res) : Met l yX10_chance (Cond.code yX10_chance cX10_chance 5 (some .int) :: gW) rmX10_chance (va_Pc [.ref o, .int x1, .int x2] (mPre D cI cZ cJ o ad A u)) (mQi D cI cZ cJ o ad A res) 0 0 A :=
  mx_met ⟨by decide +kernel, rfl⟩ (Nat.le_of_ble_eq_true rfl) (fun p e s m below meth c ls C hP hl => wX10_chance C h hP va_S.rf hl)
abbrev rmX10_mostOf : Room := { frames := 0, cells := 0, slots := 0, locals := 0 }
def fX10_mostOf_2_b (x1 : Int32) (x2 : Int32) (x3 : Int32) (u : mS) (k2 : Int32 → Int32 → Int32 → mS → Option (Int32 × mS)) (k22 : Int32 → Int32 → mS → Option (Int32 × mS)) : Option (Int32 × mS) :=
  if (256 : Int32) ≤ x3 then (
    k22 x1 x2 u
  ) else (
    (mU u 37 256 x3 (0 : Int32)).bind fun u15 =>
    k2 x1 x2 (x3 + (1 : Int32)) u15
  )
set_option maxHeartbeats 4000000 in
set_option maxRecDepth 20000 in
theorem wX10_mostOf_2_b (C : mC p s m args meth c cX10_mostOf 7 (some .int) D cI cZ cJ o ad A) {x1 : Int32} {x2 : Int32} {x3 : Int32} {u : mS} {res : Int32 × mS} {k2 : Int32 → Int32 → Int32 → mS → Option (Int32 × mS)} {k22 : Int32 → Int32 → mS → Option (Int32 × mS)} (hk2 : ∀ (x1 : Int32) (x2 : Int32) (x3 : Int32) (u : mS) (H : Heap) (locs : List Loc) (ls : Array Slot), k2 x1 x2 x3 u = some res → va_P D vwCl (mW cI cZ cJ o ad u) H → va_S A s.heap H locs → lv_has ls 7 [(0, .ref o), (1, .int x1), (2, .int x2), (3, .int x3)] → W p l e rmX10_mostOf s m args below meth c H locs 0 0 (MQ below (mQi D cI cZ cJ o ad A res) args s 0 0 A) (F0 m 2 ls [])) (hk22 : ∀ (x1 : Int32) (x2 : Int32) (u : mS) (H : Heap) (locs : List Loc) (ls : Array Slot), k22 x1 x2 u = some res → va_P D vwCl (mW cI cZ cJ o ad u) H → va_S A s.heap H locs → lv_has ls 7 [(0, .ref o), (1, .int x1), (2, .int x2)] → W p l e rmX10_mostOf s m args below meth c H locs 0 0 (MQ below (mQi D cI cZ cJ o ad A res) args s 0 0 A) (F0 m 22 ls [])) (h : fX10_mostOf_2_b x1 x2 x3 u k2 k22 = some res) {H : Heap} {locs : List Loc} (hP : va_P D vwCl (mW cI cZ cJ o ad u) H) (hS : va_S A s.heap H locs) {ls : Array Slot} (hl : lv_has ls 7 [(0, .ref o), (1, .int x1), (2, .int x2), (3, .int x3)]) : W p l e rmX10_mostOf s m args below meth c H locs 0 0 (MQ below (mQi D cI cZ cJ o ad A res) args s 0 0 A) (F0 m 2 ls []) := by
  have hx := C.1
  have hb := C.2.1
  unfold fX10_mostOf_2_b at h
  refine lv_iload_n hx hb dX10_mostOf_2 rfl (lv_at hl 3 rfl) ?_
  refine lv_sipush (v := 256) hx hb dX10_mostOf_3 (by decide) ?_
  refine lv_icmp_ge (tgt := 22) hx hb dX10_mostOf_6 (by decide) (fun hc => ?_) (fun hc => ?_)
  · replace h := it_pos hc h
    exact hk22 _ _ _ _ _ _ h hP hS (lv_sub hl [0, 1, 2] rfl)
  · replace h := it_neg hc h
    refine lv_aload_n hx hb dX10_mostOf_9 rfl (lv_at hl 0 rfl) ?_
    refine mg_most C hP dX10_mostOf_10 ?_
    refine lv_iload_n hx hb dX10_mostOf_13 rfl (lv_at hl 3 rfl) ?_
    refine lv_iconst (v := 0) hx hb dX10_mostOf_14 (by decide) ?_
    obtain ⟨u15, e15, h⟩ := ob h
    refine ms_most C hP hS e15 dX10_mostOf_15 (fun H locs hP hS => ?_)
    refine lv_iinc (v := x3 + (1 : Int32)) (lv' := [(3, .int (x3 + (1 : Int32))), (0, .ref o), (1, .int x1), (2, .int x2)]) hx hb dX10_mostOf_16 hl (k := 3) rfl rfl (by decide) rfl (fun ls hl => ?_)
    refine lv_goto (tgt := 2) hx hb dX10_mostOf_19 (by decide) ?_
    exact hk2 _ _ _ _ _ _ _ h hP hS (lv_sub hl [1, 2, 3, 0] rfl)
def fX10_mostOf_2 (k22 : Int32 → Int32 → mS → Option (Int32 × mS)) : Nat → Int32 → Int32 → Int32 → mS → Option (Int32 × mS)
  | 0 => fun _ _ _ _ => none
  | n + 1 => fun x1 x2 x3 u => fX10_mostOf_2_b x1 x2 x3 u (fX10_mostOf_2 k22 n) k22 
theorem wX10_mostOf_2 (C : mC p s m args meth c cX10_mostOf 7 (some .int) D cI cZ cJ o ad A) {res : Int32 × mS} {k22 : Int32 → Int32 → mS → Option (Int32 × mS)} (hk22 : ∀ (x1 : Int32) (x2 : Int32) (u : mS) (H : Heap) (locs : List Loc) (ls : Array Slot), k22 x1 x2 u = some res → va_P D vwCl (mW cI cZ cJ o ad u) H → va_S A s.heap H locs → lv_has ls 7 [(0, .ref o), (1, .int x1), (2, .int x2)] → W p l e rmX10_mostOf s m args below meth c H locs 0 0 (MQ below (mQi D cI cZ cJ o ad A res) args s 0 0 A) (F0 m 22 ls [])) (n : Nat) : ∀ {x1 : Int32} {x2 : Int32} {x3 : Int32} {u : mS} {H : Heap} {locs : List Loc} {ls : Array Slot}, fX10_mostOf_2 k22 n x1 x2 x3 u = some res → va_P D vwCl (mW cI cZ cJ o ad u) H → va_S A s.heap H locs → lv_has ls 7 [(0, .ref o), (1, .int x1), (2, .int x2), (3, .int x3)] → W p l e rmX10_mostOf s m args below meth c H locs 0 0 (MQ below (mQi D cI cZ cJ o ad A res) args s 0 0 A) (F0 m 2 ls []) := by
  induction n with
  | zero => intro _ _ _ _ _ _ _ h _ _ _; cases (show (none : Option (Int32 × mS)) = some res from h)
  | succ n ih => intro _ _ _ _ _ _ _ h hP hS hl; exact wX10_mostOf_2_b C (fun _ _ _ _ _ _ _ h hP hS hl => ih h hP hS hl) hk22 h hP hS hl
def fX10_mostOf_152 (x1 : Int32) (x2 : Int32) (x3 : Int32) (x4 : Int32) (x5 : Int32) (s1 : Int32) (s2 : Int32) (u : mS) (k71 : Int32 → Int32 → Int32 → Int32 → Int32 → mS → Option (Int32 × mS)) : Option (Int32 × mS) :=
  (mU u 38 256 s1 s2).bind fun u152 =>
  k71 x1 x2 x3 x4 (x5 + (1 : Int32)) u152
set_option maxHeartbeats 4000000 in
set_option maxRecDepth 20000 in
theorem wX10_mostOf_152 (C : mC p s m args meth c cX10_mostOf 7 (some .int) D cI cZ cJ o ad A) {x1 : Int32} {x2 : Int32} {x3 : Int32} {x4 : Int32} {x5 : Int32} {s1 : Int32} {s2 : Int32} {u : mS} {res : Int32 × mS} {k71 : Int32 → Int32 → Int32 → Int32 → Int32 → mS → Option (Int32 × mS)} (hk71 : ∀ (x1 : Int32) (x2 : Int32) (x3 : Int32) (x4 : Int32) (x5 : Int32) (u : mS) (H : Heap) (locs : List Loc) (ls : Array Slot), k71 x1 x2 x3 x4 x5 u = some res → va_P D vwCl (mW cI cZ cJ o ad u) H → va_S A s.heap H locs → lv_has ls 7 [(0, .ref o), (1, .int x1), (2, .int x2), (3, .int x3), (4, .int x4), (5, .int x5)] → W p l e rmX10_mostOf s m args below meth c H locs 0 0 (MQ below (mQi D cI cZ cJ o ad A res) args s 0 0 A) (F0 m 71 ls [])) (h : fX10_mostOf_152 x1 x2 x3 x4 x5 s1 s2 u k71 = some res) {H : Heap} {locs : List Loc} (hP : va_P D vwCl (mW cI cZ cJ o ad u) H) (hS : va_S A s.heap H locs) {ls : Array Slot} (hl : lv_has ls 7 [(0, .ref o), (1, .int x1), (2, .int x2), (3, .int x3), (4, .int x4), (5, .int x5)]) : W p l e rmX10_mostOf s m args below meth c H locs 0 0 (MQ below (mQi D cI cZ cJ o ad A res) args s 0 0 A) (F0 m 152 ls [.int s2, .int s1, .ref (ad 38)]) := by
  have hx := C.1
  have hb := C.2.1
  unfold fX10_mostOf_152 at h
  obtain ⟨u152, e152, h⟩ := ob h
  refine ms_next C hP hS e152 dX10_mostOf_152 (fun H locs hP hS => ?_)
  refine lv_iinc (v := x5 + (1 : Int32)) (lv' := [(5, .int (x5 + (1 : Int32))), (0, .ref o), (1, .int x1), (2, .int x2), (3, .int x3), (4, .int x4)]) hx hb dX10_mostOf_153 hl (k := 5) rfl rfl (by decide) rfl (fun ls hl => ?_)
  refine lv_goto (tgt := 71) hx hb dX10_mostOf_156 (by decide) ?_
  exact hk71 _ _ _ _ _ _ _ _ _ h hP hS (lv_sub hl [1, 2, 3, 4, 5, 0] rfl)
def fX10_mostOf_120 (x1 : Int32) (x2 : Int32) (x3 : Int32) (x4 : Int32) (x5 : Int32) (s0 : Int32) (u : mS) (k71 : Int32 → Int32 → Int32 → Int32 → Int32 → mS → Option (Int32 × mS)) : Option (Int32 × mS) :=
  (mR u 38 256 x4).bind fun v136 =>
  if s0 ≤ v136 then (
    (mR u 38 256 x4).bind fun v151 =>
    fX10_mostOf_152 x1 x2 x3 x4 x5 x4 v151 u k71
  ) else (
    fX10_mostOf_152 x1 x2 x3 x4 x5 x4 s0 u k71
  )
set_option maxHeartbeats 4000000 in
set_option maxRecDepth 20000 in
theorem wX10_mostOf_120 (C : mC p s m args meth c cX10_mostOf 7 (some .int) D cI cZ cJ o ad A) {x1 : Int32} {x2 : Int32} {x3 : Int32} {x4 : Int32} {x5 : Int32} {s0 : Int32} {u : mS} {res : Int32 × mS} {k71 : Int32 → Int32 → Int32 → Int32 → Int32 → mS → Option (Int32 × mS)} (hk71 : ∀ (x1 : Int32) (x2 : Int32) (x3 : Int32) (x4 : Int32) (x5 : Int32) (u : mS) (H : Heap) (locs : List Loc) (ls : Array Slot), k71 x1 x2 x3 x4 x5 u = some res → va_P D vwCl (mW cI cZ cJ o ad u) H → va_S A s.heap H locs → lv_has ls 7 [(0, .ref o), (1, .int x1), (2, .int x2), (3, .int x3), (4, .int x4), (5, .int x5)] → W p l e rmX10_mostOf s m args below meth c H locs 0 0 (MQ below (mQi D cI cZ cJ o ad A res) args s 0 0 A) (F0 m 71 ls [])) (h : fX10_mostOf_120 x1 x2 x3 x4 x5 s0 u k71 = some res) {H : Heap} {locs : List Loc} (hP : va_P D vwCl (mW cI cZ cJ o ad u) H) (hS : va_S A s.heap H locs) {ls : Array Slot} (hl : lv_has ls 7 [(0, .ref o), (1, .int x1), (2, .int x2), (3, .int x3), (4, .int x4), (5, .int x5)]) : W p l e rmX10_mostOf s m args below meth c H locs 0 0 (MQ below (mQi D cI cZ cJ o ad A res) args s 0 0 A) (F0 m 120 ls [.int s0]) := by
  have hx := C.1
  have hb := C.2.1
  unfold fX10_mostOf_120 at h
  refine lv_istore (lv' := [(6, .int s0), (0, .ref o), (1, .int x1), (2, .int x2), (3, .int x3), (4, .int x4), (5, .int x5)]) hx hb dX10_mostOf_120 hl (by decide) rfl (fun ls hl => ?_)
  refine lv_aload_n hx hb dX10_mostOf_122 rfl (lv_at hl 1 rfl) ?_
  refine mg_next C hP dX10_mostOf_123 ?_
  refine lv_iload hx hb dX10_mostOf_126 (lv_at hl 5 rfl) ?_
  refine lv_iload hx hb dX10_mostOf_128 (lv_at hl 0 rfl) ?_
  refine lv_aload_n hx hb dX10_mostOf_130 rfl (lv_at hl 1 rfl) ?_
  refine mg_next C hP dX10_mostOf_131 ?_
  refine lv_iload hx hb dX10_mostOf_134 (lv_at hl 5 rfl) ?_
  obtain ⟨v136, e136, h⟩ := ob h
  refine ml_next C hP e136 dX10_mostOf_136 ?_
  refine lv_icmp_le (tgt := 145) hx hb dX10_mostOf_137 (by decide) (fun hc => ?_) (fun hc => ?_)
  · replace h := it_pos hc h
    refine lv_aload_n hx hb dX10_mostOf_145 rfl (lv_at hl 1 rfl) ?_
    refine mg_next C hP dX10_mostOf_146 ?_
    refine lv_iload hx hb dX10_mostOf_149 (lv_at hl 5 rfl) ?_
    obtain ⟨v151, e151, h⟩ := ob h
    refine ml_next C hP e151 dX10_mostOf_151 ?_
    exact wX10_mostOf_152 C hk71 h hP hS (lv_sub hl [1, 2, 3, 4, 5, 6] rfl)
  · replace h := it_neg hc h
    refine lv_iload hx hb dX10_mostOf_140 (lv_at hl 0 rfl) ?_
    refine lv_goto (tgt := 152) hx hb dX10_mostOf_142 (by decide) ?_
    exact wX10_mostOf_152 C hk71 h hP hS (lv_sub hl [1, 2, 3, 4, 5, 6] rfl)
def fX10_mostOf_71_b (x1 : Int32) (x2 : Int32) (x3 : Int32) (x4 : Int32) (x5 : Int32) (u : mS) (k71 : Int32 → Int32 → Int32 → Int32 → Int32 → mS → Option (Int32 × mS)) (k159 : Int32 → Int32 → Int32 → Int32 → mS → Option (Int32 × mS)) : Option (Int32 × mS) :=
  if (u.1 17) ≤ x5 then (
    k159 x1 x2 x3 x4 u
  ) else (
    if ((x4 >>> (x5 &&& 31)) &&& (1 : Int32)) = (1 : Int32) then (
      (mR u 39 160 (((20 : Int32) * x5) + x3)).bind fun v102 =>
      (mR u 37 256 (x4 ^^^ ((1 : Int32) <<< (x5 &&& 31)))).bind fun v114 =>
      fX10_mostOf_120 x1 x2 x3 x4 x5 (v102 + v114) u k71
    ) else (
      fX10_mostOf_120 x1 x2 x3 x4 x5 (0 : Int32) u k71
    )
  )
set_option maxHeartbeats 4000000 in
set_option maxRecDepth 20000 in
theorem wX10_mostOf_71_b (C : mC p s m args meth c cX10_mostOf 7 (some .int) D cI cZ cJ o ad A) {x1 : Int32} {x2 : Int32} {x3 : Int32} {x4 : Int32} {x5 : Int32} {u : mS} {res : Int32 × mS} {k71 : Int32 → Int32 → Int32 → Int32 → Int32 → mS → Option (Int32 × mS)} {k159 : Int32 → Int32 → Int32 → Int32 → mS → Option (Int32 × mS)} (hk71 : ∀ (x1 : Int32) (x2 : Int32) (x3 : Int32) (x4 : Int32) (x5 : Int32) (u : mS) (H : Heap) (locs : List Loc) (ls : Array Slot), k71 x1 x2 x3 x4 x5 u = some res → va_P D vwCl (mW cI cZ cJ o ad u) H → va_S A s.heap H locs → lv_has ls 7 [(0, .ref o), (1, .int x1), (2, .int x2), (3, .int x3), (4, .int x4), (5, .int x5)] → W p l e rmX10_mostOf s m args below meth c H locs 0 0 (MQ below (mQi D cI cZ cJ o ad A res) args s 0 0 A) (F0 m 71 ls [])) (hk159 : ∀ (x1 : Int32) (x2 : Int32) (x3 : Int32) (x4 : Int32) (u : mS) (H : Heap) (locs : List Loc) (ls : Array Slot), k159 x1 x2 x3 x4 u = some res → va_P D vwCl (mW cI cZ cJ o ad u) H → va_S A s.heap H locs → lv_has ls 7 [(0, .ref o), (1, .int x1), (2, .int x2), (3, .int x3), (4, .int x4)] → W p l e rmX10_mostOf s m args below meth c H locs 0 0 (MQ below (mQi D cI cZ cJ o ad A res) args s 0 0 A) (F0 m 159 ls [])) (h : fX10_mostOf_71_b x1 x2 x3 x4 x5 u k71 k159 = some res) {H : Heap} {locs : List Loc} (hP : va_P D vwCl (mW cI cZ cJ o ad u) H) (hS : va_S A s.heap H locs) {ls : Array Slot} (hl : lv_has ls 7 [(0, .ref o), (1, .int x1), (2, .int x2), (3, .int x3), (4, .int x4), (5, .int x5)]) : W p l e rmX10_mostOf s m args below meth c H locs 0 0 (MQ below (mQi D cI cZ cJ o ad A res) args s 0 0 A) (F0 m 71 ls []) := by
  have hx := C.1
  have hb := C.2.1
  unfold fX10_mostOf_71_b at h
  refine lv_iload hx hb dX10_mostOf_71 (lv_at hl 5 rfl) ?_
  refine lv_aload_n hx hb dX10_mostOf_73 rfl (lv_at hl 0 rfl) ?_
  refine mg_seekers C hP dX10_mostOf_74 ?_
  refine lv_icmp_ge (tgt := 159) hx hb dX10_mostOf_77 (by decide) (fun hc => ?_) (fun hc => ?_)
  · replace h := it_pos hc h
    exact hk159 _ _ _ _ _ _ _ _ h hP hS (lv_sub hl [0, 1, 2, 3, 4] rfl)
  · replace h := it_neg hc h
    refine lv_iload hx hb dX10_mostOf_80 (lv_at hl 4 rfl) ?_
    refine lv_iload hx hb dX10_mostOf_82 (lv_at hl 5 rfl) ?_
    refine lv_ishr hx hb dX10_mostOf_84 ?_
    refine lv_iconst (v := 1) hx hb dX10_mostOf_85 (by decide) ?_
    refine lv_iand hx hb dX10_mostOf_86 ?_
    refine lv_iconst (v := 1) hx hb dX10_mostOf_87 (by decide) ?_
    refine lv_icmp_ne (tgt := 119) hx hb dX10_mostOf_88 (by decide) (fun hc => ?_) (fun hc => ?_)
    · replace h := it_neg hc h
      refine lv_iconst (v := 0) hx hb dX10_mostOf_119 (by decide) ?_
      exact wX10_mostOf_120 C hk71 h hP hS (lv_sub hl [0, 1, 2, 3, 4, 5] rfl)
    · replace h := it_pos hc h
      refine lv_aload_n hx hb dX10_mostOf_91 rfl (lv_at hl 0 rfl) ?_
      refine mg_likes C hP dX10_mostOf_92 ?_
      refine lv_bipush (v := 20) hx hb dX10_mostOf_95 (by decide) ?_
      refine lv_iload hx hb dX10_mostOf_97 (lv_at hl 5 rfl) ?_
      refine lv_imul hx hb dX10_mostOf_99 ?_
      refine lv_iload_n hx hb dX10_mostOf_100 rfl (lv_at hl 3 rfl) ?_
      refine lv_iadd hx hb dX10_mostOf_101 ?_
      obtain ⟨v102, e102, h⟩ := ob h
      refine ml_likes C hP e102 dX10_mostOf_102 ?_
      refine lv_aload_n hx hb dX10_mostOf_103 rfl (lv_at hl 0 rfl) ?_
      refine mg_most C hP dX10_mostOf_104 ?_
      refine lv_iload hx hb dX10_mostOf_107 (lv_at hl 4 rfl) ?_
      refine lv_iconst (v := 1) hx hb dX10_mostOf_109 (by decide) ?_
      refine lv_iload hx hb dX10_mostOf_110 (lv_at hl 5 rfl) ?_
      refine lv_ishl hx hb dX10_mostOf_112 ?_
      refine lv_ixor hx hb dX10_mostOf_113 ?_
      obtain ⟨v114, e114, h⟩ := ob h
      refine ml_most C hP e114 dX10_mostOf_114 ?_
      refine lv_iadd hx hb dX10_mostOf_115 ?_
      refine lv_goto (tgt := 120) hx hb dX10_mostOf_116 (by decide) ?_
      exact wX10_mostOf_120 C hk71 h hP hS (lv_sub hl [0, 1, 2, 3, 4, 5] rfl)
def fX10_mostOf_71 (k159 : Int32 → Int32 → Int32 → Int32 → mS → Option (Int32 × mS)) : Nat → Int32 → Int32 → Int32 → Int32 → Int32 → mS → Option (Int32 × mS)
  | 0 => fun _ _ _ _ _ _ => none
  | n + 1 => fun x1 x2 x3 x4 x5 u => fX10_mostOf_71_b x1 x2 x3 x4 x5 u (fX10_mostOf_71 k159 n) k159 
theorem wX10_mostOf_71 (C : mC p s m args meth c cX10_mostOf 7 (some .int) D cI cZ cJ o ad A) {res : Int32 × mS} {k159 : Int32 → Int32 → Int32 → Int32 → mS → Option (Int32 × mS)} (hk159 : ∀ (x1 : Int32) (x2 : Int32) (x3 : Int32) (x4 : Int32) (u : mS) (H : Heap) (locs : List Loc) (ls : Array Slot), k159 x1 x2 x3 x4 u = some res → va_P D vwCl (mW cI cZ cJ o ad u) H → va_S A s.heap H locs → lv_has ls 7 [(0, .ref o), (1, .int x1), (2, .int x2), (3, .int x3), (4, .int x4)] → W p l e rmX10_mostOf s m args below meth c H locs 0 0 (MQ below (mQi D cI cZ cJ o ad A res) args s 0 0 A) (F0 m 159 ls [])) (n : Nat) : ∀ {x1 : Int32} {x2 : Int32} {x3 : Int32} {x4 : Int32} {x5 : Int32} {u : mS} {H : Heap} {locs : List Loc} {ls : Array Slot}, fX10_mostOf_71 k159 n x1 x2 x3 x4 x5 u = some res → va_P D vwCl (mW cI cZ cJ o ad u) H → va_S A s.heap H locs → lv_has ls 7 [(0, .ref o), (1, .int x1), (2, .int x2), (3, .int x3), (4, .int x4), (5, .int x5)] → W p l e rmX10_mostOf s m args below meth c H locs 0 0 (MQ below (mQi D cI cZ cJ o ad A res) args s 0 0 A) (F0 m 71 ls []) := by
  induction n with
  | zero => intro _ _ _ _ _ _ _ _ _ h _ _ _; cases (show (none : Option (Int32 × mS)) = some res from h)
  | succ n ih => intro _ _ _ _ _ _ _ _ _ h hP hS hl; exact wX10_mostOf_71_b C (fun _ _ _ _ _ _ _ _ _ h hP hS hl => ih h hP hS hl) hk159 h hP hS hl
def fX10_mostOf_35_b (x1 : Int32) (x2 : Int32) (x3 : Int32) (x4 : Int32) (u : mS) (k35 : Int32 → Int32 → Int32 → Int32 → mS → Option (Int32 × mS)) (k165 : Int32 → Int32 → Int32 → mS → Option (Int32 × mS)) : Option (Int32 × mS) :=
  if ((1 : Int32) <<< ((u.1 17) &&& 31)) ≤ x4 then (
    k165 x1 x2 x3 u
  ) else (
    if ((x2 >>> (x3 &&& 31)) &&& (1 : Int32)) = 0 then (
      (mR u 37 256 x4).bind fun v66 =>
      (mU u 38 256 x4 v66).bind fun u67 =>
      fX10_mostOf_71 (fun x1 x2 x3 x4 u =>
            k35 x1 x2 x3 (x4 + (1 : Int32)) u) FU x1 x2 x3 x4 (0 : Int32) u67
    ) else (
      k165 x1 x2 x3 u
    )
  )
set_option maxHeartbeats 4000000 in
set_option maxRecDepth 20000 in
theorem wX10_mostOf_35_b (C : mC p s m args meth c cX10_mostOf 7 (some .int) D cI cZ cJ o ad A) {x1 : Int32} {x2 : Int32} {x3 : Int32} {x4 : Int32} {u : mS} {res : Int32 × mS} {k35 : Int32 → Int32 → Int32 → Int32 → mS → Option (Int32 × mS)} {k165 : Int32 → Int32 → Int32 → mS → Option (Int32 × mS)} (hk35 : ∀ (x1 : Int32) (x2 : Int32) (x3 : Int32) (x4 : Int32) (u : mS) (H : Heap) (locs : List Loc) (ls : Array Slot), k35 x1 x2 x3 x4 u = some res → va_P D vwCl (mW cI cZ cJ o ad u) H → va_S A s.heap H locs → lv_has ls 7 [(0, .ref o), (1, .int x1), (2, .int x2), (3, .int x3), (4, .int x4)] → W p l e rmX10_mostOf s m args below meth c H locs 0 0 (MQ below (mQi D cI cZ cJ o ad A res) args s 0 0 A) (F0 m 35 ls [])) (hk165 : ∀ (x1 : Int32) (x2 : Int32) (x3 : Int32) (u : mS) (H : Heap) (locs : List Loc) (ls : Array Slot), k165 x1 x2 x3 u = some res → va_P D vwCl (mW cI cZ cJ o ad u) H → va_S A s.heap H locs → lv_has ls 7 [(0, .ref o), (1, .int x1), (2, .int x2), (3, .int x3)] → W p l e rmX10_mostOf s m args below meth c H locs 0 0 (MQ below (mQi D cI cZ cJ o ad A res) args s 0 0 A) (F0 m 165 ls [])) (h : fX10_mostOf_35_b x1 x2 x3 x4 u k35 k165 = some res) {H : Heap} {locs : List Loc} (hP : va_P D vwCl (mW cI cZ cJ o ad u) H) (hS : va_S A s.heap H locs) {ls : Array Slot} (hl : lv_has ls 7 [(0, .ref o), (1, .int x1), (2, .int x2), (3, .int x3), (4, .int x4)]) : W p l e rmX10_mostOf s m args below meth c H locs 0 0 (MQ below (mQi D cI cZ cJ o ad A res) args s 0 0 A) (F0 m 35 ls []) := by
  have hx := C.1
  have hb := C.2.1
  unfold fX10_mostOf_35_b at h
  refine lv_iload hx hb dX10_mostOf_35 (lv_at hl 4 rfl) ?_
  refine lv_iconst (v := 1) hx hb dX10_mostOf_37 (by decide) ?_
  refine lv_aload_n hx hb dX10_mostOf_38 rfl (lv_at hl 0 rfl) ?_
  refine mg_seekers C hP dX10_mostOf_39 ?_
  refine lv_ishl hx hb dX10_mostOf_42 ?_
  refine lv_icmp_ge (tgt := 165) hx hb dX10_mostOf_43 (by decide) (fun hc => ?_) (fun hc => ?_)
  · replace h := it_pos hc h
    exact hk165 _ _ _ _ _ _ _ h hP hS (lv_sub hl [0, 1, 2, 3] rfl)
  · replace h := it_neg hc h
    refine lv_iload_n hx hb dX10_mostOf_46 rfl (lv_at hl 2 rfl) ?_
    refine lv_iload_n hx hb dX10_mostOf_47 rfl (lv_at hl 3 rfl) ?_
    refine lv_ishr hx hb dX10_mostOf_48 ?_
    refine lv_iconst (v := 1) hx hb dX10_mostOf_49 (by decide) ?_
    refine lv_iand hx hb dX10_mostOf_50 ?_
    refine lv_if_ne (tgt := 165) hx hb dX10_mostOf_51 (by decide) (fun hc => ?_) (fun hc => ?_)
    · replace h := it_neg hc h
      exact hk165 _ _ _ _ _ _ _ h hP hS (lv_sub hl [0, 1, 2, 3] rfl)
    · replace h := it_pos hc h
      refine lv_aload_n hx hb dX10_mostOf_54 rfl (lv_at hl 0 rfl) ?_
      refine mg_next C hP dX10_mostOf_55 ?_
      refine lv_iload hx hb dX10_mostOf_58 (lv_at hl 4 rfl) ?_
      refine lv_aload_n hx hb dX10_mostOf_60 rfl (lv_at hl 0 rfl) ?_
      refine mg_most C hP dX10_mostOf_61 ?_
      refine lv_iload hx hb dX10_mostOf_64 (lv_at hl 4 rfl) ?_
      obtain ⟨v66, e66, h⟩ := ob h
      refine ml_most C hP e66 dX10_mostOf_66 ?_
      obtain ⟨u67, e67, h⟩ := ob h
      refine ms_next C hP hS e67 dX10_mostOf_67 (fun H locs hP hS => ?_)
      refine lv_iconst (v := 0) hx hb dX10_mostOf_68 (by decide) ?_
      refine lv_istore (lv' := [(5, .int (0 : Int32)), (0, .ref o), (1, .int x1), (2, .int x2), (3, .int x3), (4, .int x4)]) hx hb dX10_mostOf_69 hl (by decide) rfl (fun ls hl => ?_)
      refine wX10_mostOf_71 C ?_ FU h hP hS (lv_sub hl [1, 2, 3, 4, 5, 0] rfl)
      · intro x1 x2 x3 x4 u H locs ls h hP hS hl
        refine lv_iinc (v := x4 + (1 : Int32)) (lv' := [(4, .int (x4 + (1 : Int32))), (0, .ref o), (1, .int x1), (2, .int x2), (3, .int x3)]) hx hb dX10_mostOf_159 hl (k := 4) rfl rfl (by decide) rfl (fun ls hl => ?_)
        refine lv_goto (tgt := 35) hx hb dX10_mostOf_162 (by decide) ?_
        exact hk35 _ _ _ _ _ _ _ _ h hP hS (lv_sub hl [1, 2, 3, 4, 0] rfl)
def fX10_mostOf_35 (k165 : Int32 → Int32 → Int32 → mS → Option (Int32 × mS)) : Nat → Int32 → Int32 → Int32 → Int32 → mS → Option (Int32 × mS)
  | 0 => fun _ _ _ _ _ => none
  | n + 1 => fun x1 x2 x3 x4 u => fX10_mostOf_35_b x1 x2 x3 x4 u (fX10_mostOf_35 k165 n) k165 
theorem wX10_mostOf_35 (C : mC p s m args meth c cX10_mostOf 7 (some .int) D cI cZ cJ o ad A) {res : Int32 × mS} {k165 : Int32 → Int32 → Int32 → mS → Option (Int32 × mS)} (hk165 : ∀ (x1 : Int32) (x2 : Int32) (x3 : Int32) (u : mS) (H : Heap) (locs : List Loc) (ls : Array Slot), k165 x1 x2 x3 u = some res → va_P D vwCl (mW cI cZ cJ o ad u) H → va_S A s.heap H locs → lv_has ls 7 [(0, .ref o), (1, .int x1), (2, .int x2), (3, .int x3)] → W p l e rmX10_mostOf s m args below meth c H locs 0 0 (MQ below (mQi D cI cZ cJ o ad A res) args s 0 0 A) (F0 m 165 ls [])) (n : Nat) : ∀ {x1 : Int32} {x2 : Int32} {x3 : Int32} {x4 : Int32} {u : mS} {H : Heap} {locs : List Loc} {ls : Array Slot}, fX10_mostOf_35 k165 n x1 x2 x3 x4 u = some res → va_P D vwCl (mW cI cZ cJ o ad u) H → va_S A s.heap H locs → lv_has ls 7 [(0, .ref o), (1, .int x1), (2, .int x2), (3, .int x3), (4, .int x4)] → W p l e rmX10_mostOf s m args below meth c H locs 0 0 (MQ below (mQi D cI cZ cJ o ad A res) args s 0 0 A) (F0 m 35 ls []) := by
  induction n with
  | zero => intro _ _ _ _ _ _ _ _ h _ _ _; cases (show (none : Option (Int32 × mS)) = some res from h)
  | succ n ih => intro _ _ _ _ _ _ _ _ h hP hS hl; exact wX10_mostOf_35_b C (fun _ _ _ _ _ _ _ _ h hP hS hl => ih h hP hS hl) hk165 h hP hS hl
def fX10_mostOf_168_b (x1 : Int32) (x2 : Int32) (x3 : Int32) (x4 : Int32) (u : mS) (k168 : Int32 → Int32 → Int32 → Int32 → mS → Option (Int32 × mS)) (k207 : Int32 → Int32 → Int32 → mS → Option (Int32 × mS)) : Option (Int32 × mS) :=
  if ((1 : Int32) <<< ((u.1 17) &&& 31)) ≤ x4 then (
    k207 x1 x2 x3 u
  ) else (
    if ((x2 >>> (x3 &&& 31)) &&& (1 : Int32)) = 0 then (
      (mR u 38 256 x4).bind fun v199 =>
      (mU u 37 256 x4 v199).bind fun u200 =>
      k168 x1 x2 x3 (x4 + (1 : Int32)) u200
    ) else (
      k207 x1 x2 x3 u
    )
  )
set_option maxHeartbeats 4000000 in
set_option maxRecDepth 20000 in
theorem wX10_mostOf_168_b (C : mC p s m args meth c cX10_mostOf 7 (some .int) D cI cZ cJ o ad A) {x1 : Int32} {x2 : Int32} {x3 : Int32} {x4 : Int32} {u : mS} {res : Int32 × mS} {k168 : Int32 → Int32 → Int32 → Int32 → mS → Option (Int32 × mS)} {k207 : Int32 → Int32 → Int32 → mS → Option (Int32 × mS)} (hk168 : ∀ (x1 : Int32) (x2 : Int32) (x3 : Int32) (x4 : Int32) (u : mS) (H : Heap) (locs : List Loc) (ls : Array Slot), k168 x1 x2 x3 x4 u = some res → va_P D vwCl (mW cI cZ cJ o ad u) H → va_S A s.heap H locs → lv_has ls 7 [(0, .ref o), (1, .int x1), (2, .int x2), (3, .int x3), (4, .int x4)] → W p l e rmX10_mostOf s m args below meth c H locs 0 0 (MQ below (mQi D cI cZ cJ o ad A res) args s 0 0 A) (F0 m 168 ls [])) (hk207 : ∀ (x1 : Int32) (x2 : Int32) (x3 : Int32) (u : mS) (H : Heap) (locs : List Loc) (ls : Array Slot), k207 x1 x2 x3 u = some res → va_P D vwCl (mW cI cZ cJ o ad u) H → va_S A s.heap H locs → lv_has ls 7 [(0, .ref o), (1, .int x1), (2, .int x2), (3, .int x3)] → W p l e rmX10_mostOf s m args below meth c H locs 0 0 (MQ below (mQi D cI cZ cJ o ad A res) args s 0 0 A) (F0 m 207 ls [])) (h : fX10_mostOf_168_b x1 x2 x3 x4 u k168 k207 = some res) {H : Heap} {locs : List Loc} (hP : va_P D vwCl (mW cI cZ cJ o ad u) H) (hS : va_S A s.heap H locs) {ls : Array Slot} (hl : lv_has ls 7 [(0, .ref o), (1, .int x1), (2, .int x2), (3, .int x3), (4, .int x4)]) : W p l e rmX10_mostOf s m args below meth c H locs 0 0 (MQ below (mQi D cI cZ cJ o ad A res) args s 0 0 A) (F0 m 168 ls []) := by
  have hx := C.1
  have hb := C.2.1
  unfold fX10_mostOf_168_b at h
  refine lv_iload hx hb dX10_mostOf_168 (lv_at hl 4 rfl) ?_
  refine lv_iconst (v := 1) hx hb dX10_mostOf_170 (by decide) ?_
  refine lv_aload_n hx hb dX10_mostOf_171 rfl (lv_at hl 0 rfl) ?_
  refine mg_seekers C hP dX10_mostOf_172 ?_
  refine lv_ishl hx hb dX10_mostOf_175 ?_
  refine lv_icmp_ge (tgt := 207) hx hb dX10_mostOf_176 (by decide) (fun hc => ?_) (fun hc => ?_)
  · replace h := it_pos hc h
    exact hk207 _ _ _ _ _ _ _ h hP hS (lv_sub hl [0, 1, 2, 3] rfl)
  · replace h := it_neg hc h
    refine lv_iload_n hx hb dX10_mostOf_179 rfl (lv_at hl 2 rfl) ?_
    refine lv_iload_n hx hb dX10_mostOf_180 rfl (lv_at hl 3 rfl) ?_
    refine lv_ishr hx hb dX10_mostOf_181 ?_
    refine lv_iconst (v := 1) hx hb dX10_mostOf_182 (by decide) ?_
    refine lv_iand hx hb dX10_mostOf_183 ?_
    refine lv_if_ne (tgt := 207) hx hb dX10_mostOf_184 (by decide) (fun hc => ?_) (fun hc => ?_)
    · replace h := it_neg hc h
      exact hk207 _ _ _ _ _ _ _ h hP hS (lv_sub hl [0, 1, 2, 3] rfl)
    · replace h := it_pos hc h
      refine lv_aload_n hx hb dX10_mostOf_187 rfl (lv_at hl 0 rfl) ?_
      refine mg_most C hP dX10_mostOf_188 ?_
      refine lv_iload hx hb dX10_mostOf_191 (lv_at hl 4 rfl) ?_
      refine lv_aload_n hx hb dX10_mostOf_193 rfl (lv_at hl 0 rfl) ?_
      refine mg_next C hP dX10_mostOf_194 ?_
      refine lv_iload hx hb dX10_mostOf_197 (lv_at hl 4 rfl) ?_
      obtain ⟨v199, e199, h⟩ := ob h
      refine ml_next C hP e199 dX10_mostOf_199 ?_
      obtain ⟨u200, e200, h⟩ := ob h
      refine ms_most C hP hS e200 dX10_mostOf_200 (fun H locs hP hS => ?_)
      refine lv_iinc (v := x4 + (1 : Int32)) (lv' := [(4, .int (x4 + (1 : Int32))), (0, .ref o), (1, .int x1), (2, .int x2), (3, .int x3)]) hx hb dX10_mostOf_201 hl (k := 4) rfl rfl (by decide) rfl (fun ls hl => ?_)
      refine lv_goto (tgt := 168) hx hb dX10_mostOf_204 (by decide) ?_
      exact hk168 _ _ _ _ _ _ _ _ h hP hS (lv_sub hl [1, 2, 3, 4, 0] rfl)
def fX10_mostOf_168 (k207 : Int32 → Int32 → Int32 → mS → Option (Int32 × mS)) : Nat → Int32 → Int32 → Int32 → Int32 → mS → Option (Int32 × mS)
  | 0 => fun _ _ _ _ _ => none
  | n + 1 => fun x1 x2 x3 x4 u => fX10_mostOf_168_b x1 x2 x3 x4 u (fX10_mostOf_168 k207 n) k207 
theorem wX10_mostOf_168 (C : mC p s m args meth c cX10_mostOf 7 (some .int) D cI cZ cJ o ad A) {res : Int32 × mS} {k207 : Int32 → Int32 → Int32 → mS → Option (Int32 × mS)} (hk207 : ∀ (x1 : Int32) (x2 : Int32) (x3 : Int32) (u : mS) (H : Heap) (locs : List Loc) (ls : Array Slot), k207 x1 x2 x3 u = some res → va_P D vwCl (mW cI cZ cJ o ad u) H → va_S A s.heap H locs → lv_has ls 7 [(0, .ref o), (1, .int x1), (2, .int x2), (3, .int x3)] → W p l e rmX10_mostOf s m args below meth c H locs 0 0 (MQ below (mQi D cI cZ cJ o ad A res) args s 0 0 A) (F0 m 207 ls [])) (n : Nat) : ∀ {x1 : Int32} {x2 : Int32} {x3 : Int32} {x4 : Int32} {u : mS} {H : Heap} {locs : List Loc} {ls : Array Slot}, fX10_mostOf_168 k207 n x1 x2 x3 x4 u = some res → va_P D vwCl (mW cI cZ cJ o ad u) H → va_S A s.heap H locs → lv_has ls 7 [(0, .ref o), (1, .int x1), (2, .int x2), (3, .int x3), (4, .int x4)] → W p l e rmX10_mostOf s m args below meth c H locs 0 0 (MQ below (mQi D cI cZ cJ o ad A res) args s 0 0 A) (F0 m 168 ls []) := by
  induction n with
  | zero => intro _ _ _ _ _ _ _ _ h _ _ _; cases (show (none : Option (Int32 × mS)) = some res from h)
  | succ n ih => intro _ _ _ _ _ _ _ _ h hP hS hl; exact wX10_mostOf_168_b C (fun _ _ _ _ _ _ _ _ h hP hS hl => ih h hP hS hl) hk207 h hP hS hl
def fX10_mostOf_207 (x1 : Int32) (x2 : Int32) (x3 : Int32) (u : mS) (k24 : Int32 → Int32 → Int32 → mS → Option (Int32 × mS)) : Option (Int32 × mS) :=
  k24 x1 x2 (x3 + (1 : Int32)) u
set_option maxHeartbeats 4000000 in
set_option maxRecDepth 20000 in
theorem wX10_mostOf_207 (C : mC p s m args meth c cX10_mostOf 7 (some .int) D cI cZ cJ o ad A) {x1 : Int32} {x2 : Int32} {x3 : Int32} {u : mS} {res : Int32 × mS} {k24 : Int32 → Int32 → Int32 → mS → Option (Int32 × mS)} (hk24 : ∀ (x1 : Int32) (x2 : Int32) (x3 : Int32) (u : mS) (H : Heap) (locs : List Loc) (ls : Array Slot), k24 x1 x2 x3 u = some res → va_P D vwCl (mW cI cZ cJ o ad u) H → va_S A s.heap H locs → lv_has ls 7 [(0, .ref o), (1, .int x1), (2, .int x2), (3, .int x3)] → W p l e rmX10_mostOf s m args below meth c H locs 0 0 (MQ below (mQi D cI cZ cJ o ad A res) args s 0 0 A) (F0 m 24 ls [])) (h : fX10_mostOf_207 x1 x2 x3 u k24 = some res) {H : Heap} {locs : List Loc} (hP : va_P D vwCl (mW cI cZ cJ o ad u) H) (hS : va_S A s.heap H locs) {ls : Array Slot} (hl : lv_has ls 7 [(0, .ref o), (1, .int x1), (2, .int x2), (3, .int x3)]) : W p l e rmX10_mostOf s m args below meth c H locs 0 0 (MQ below (mQi D cI cZ cJ o ad A res) args s 0 0 A) (F0 m 207 ls []) := by
  have hx := C.1
  have hb := C.2.1
  unfold fX10_mostOf_207 at h
  refine lv_iinc (v := x3 + (1 : Int32)) (lv' := [(3, .int (x3 + (1 : Int32))), (0, .ref o), (1, .int x1), (2, .int x2)]) hx hb dX10_mostOf_207 hl (k := 3) rfl rfl (by decide) rfl (fun ls hl => ?_)
  refine lv_goto (tgt := 24) hx hb dX10_mostOf_210 (by decide) ?_
  exact hk24 _ _ _ _ _ _ _ h hP hS (lv_sub hl [1, 2, 3, 0] rfl)
def fX10_mostOf_165 (x1 : Int32) (x2 : Int32) (x3 : Int32) (u : mS) (k24 : Int32 → Int32 → Int32 → mS → Option (Int32 × mS)) : Option (Int32 × mS) :=
  fX10_mostOf_168 (fun x1 x2 x3 u =>
        fX10_mostOf_207 x1 x2 x3 u k24) FU x1 x2 x3 (0 : Int32) u
set_option maxHeartbeats 4000000 in
set_option maxRecDepth 20000 in
theorem wX10_mostOf_165 (C : mC p s m args meth c cX10_mostOf 7 (some .int) D cI cZ cJ o ad A) {x1 : Int32} {x2 : Int32} {x3 : Int32} {u : mS} {res : Int32 × mS} {k24 : Int32 → Int32 → Int32 → mS → Option (Int32 × mS)} (hk24 : ∀ (x1 : Int32) (x2 : Int32) (x3 : Int32) (u : mS) (H : Heap) (locs : List Loc) (ls : Array Slot), k24 x1 x2 x3 u = some res → va_P D vwCl (mW cI cZ cJ o ad u) H → va_S A s.heap H locs → lv_has ls 7 [(0, .ref o), (1, .int x1), (2, .int x2), (3, .int x3)] → W p l e rmX10_mostOf s m args below meth c H locs 0 0 (MQ below (mQi D cI cZ cJ o ad A res) args s 0 0 A) (F0 m 24 ls [])) (h : fX10_mostOf_165 x1 x2 x3 u k24 = some res) {H : Heap} {locs : List Loc} (hP : va_P D vwCl (mW cI cZ cJ o ad u) H) (hS : va_S A s.heap H locs) {ls : Array Slot} (hl : lv_has ls 7 [(0, .ref o), (1, .int x1), (2, .int x2), (3, .int x3)]) : W p l e rmX10_mostOf s m args below meth c H locs 0 0 (MQ below (mQi D cI cZ cJ o ad A res) args s 0 0 A) (F0 m 165 ls []) := by
  have hx := C.1
  have hb := C.2.1
  unfold fX10_mostOf_165 at h
  refine lv_iconst (v := 0) hx hb dX10_mostOf_165 (by decide) ?_
  refine lv_istore (lv' := [(4, .int (0 : Int32)), (0, .ref o), (1, .int x1), (2, .int x2), (3, .int x3)]) hx hb dX10_mostOf_166 hl (by decide) rfl (fun ls hl => ?_)
  refine wX10_mostOf_168 C ?_ FU h hP hS (lv_sub hl [1, 2, 3, 4, 0] rfl)
  · intro x1 x2 x3 u H locs ls h hP hS hl
    exact wX10_mostOf_207 C hk24 h hP hS (lv_sub hl [0, 1, 2, 3] rfl)
def fX10_mostOf_24_b (x1 : Int32) (x2 : Int32) (x3 : Int32) (u : mS) (k24 : Int32 → Int32 → Int32 → mS → Option (Int32 × mS)) : Option (Int32 × mS) :=
  if (u.1 2) ≤ x3 then (
    (mR u 37 256 x1).bind fun v218 =>
    some (v218, u)
  ) else (
    fX10_mostOf_35 (fun x1 x2 x3 u =>
          fX10_mostOf_165 x1 x2 x3 u k24) FU x1 x2 x3 (0 : Int32) u
  )
set_option maxHeartbeats 4000000 in
set_option maxRecDepth 20000 in
theorem wX10_mostOf_24_b (C : mC p s m args meth c cX10_mostOf 7 (some .int) D cI cZ cJ o ad A) {x1 : Int32} {x2 : Int32} {x3 : Int32} {u : mS} {res : Int32 × mS} {k24 : Int32 → Int32 → Int32 → mS → Option (Int32 × mS)} (hk24 : ∀ (x1 : Int32) (x2 : Int32) (x3 : Int32) (u : mS) (H : Heap) (locs : List Loc) (ls : Array Slot), k24 x1 x2 x3 u = some res → va_P D vwCl (mW cI cZ cJ o ad u) H → va_S A s.heap H locs → lv_has ls 7 [(0, .ref o), (1, .int x1), (2, .int x2), (3, .int x3)] → W p l e rmX10_mostOf s m args below meth c H locs 0 0 (MQ below (mQi D cI cZ cJ o ad A res) args s 0 0 A) (F0 m 24 ls [])) (h : fX10_mostOf_24_b x1 x2 x3 u k24 = some res) {H : Heap} {locs : List Loc} (hP : va_P D vwCl (mW cI cZ cJ o ad u) H) (hS : va_S A s.heap H locs) {ls : Array Slot} (hl : lv_has ls 7 [(0, .ref o), (1, .int x1), (2, .int x2), (3, .int x3)]) : W p l e rmX10_mostOf s m args below meth c H locs 0 0 (MQ below (mQi D cI cZ cJ o ad A res) args s 0 0 A) (F0 m 24 ls []) := by
  have hx := C.1
  have hb := C.2.1
  unfold fX10_mostOf_24_b at h
  refine lv_iload_n hx hb dX10_mostOf_24 rfl (lv_at hl 3 rfl) ?_
  refine lv_aload_n hx hb dX10_mostOf_25 rfl (lv_at hl 0 rfl) ?_
  refine mg_things C hP dX10_mostOf_26 ?_
  refine lv_icmp_ge (tgt := 213) hx hb dX10_mostOf_29 (by decide) (fun hc => ?_) (fun hc => ?_)
  · replace h := it_pos hc h
    refine lv_aload_n hx hb dX10_mostOf_213 rfl (lv_at hl 0 rfl) ?_
    refine mg_most C hP dX10_mostOf_214 ?_
    refine lv_iload_n hx hb dX10_mostOf_217 rfl (lv_at hl 1 rfl) ?_
    obtain ⟨v218, e218, h⟩ := ob h
    refine ml_most C hP e218 dX10_mostOf_218 ?_
    exact mx_reti C h hP hS dX10_mostOf_219
  · replace h := it_neg hc h
    refine lv_iconst (v := 0) hx hb dX10_mostOf_32 (by decide) ?_
    refine lv_istore (lv' := [(4, .int (0 : Int32)), (0, .ref o), (1, .int x1), (2, .int x2), (3, .int x3)]) hx hb dX10_mostOf_33 hl (by decide) rfl (fun ls hl => ?_)
    refine wX10_mostOf_35 C ?_ FU h hP hS (lv_sub hl [1, 2, 3, 4, 0] rfl)
    · intro x1 x2 x3 u H locs ls h hP hS hl
      exact wX10_mostOf_165 C hk24 h hP hS (lv_sub hl [0, 1, 2, 3] rfl)
def fX10_mostOf_24 : Nat → Int32 → Int32 → Int32 → mS → Option (Int32 × mS)
  | 0 => fun _ _ _ _ => none
  | n + 1 => fun x1 x2 x3 u => fX10_mostOf_24_b x1 x2 x3 u (fX10_mostOf_24 n) 
theorem wX10_mostOf_24 (C : mC p s m args meth c cX10_mostOf 7 (some .int) D cI cZ cJ o ad A) {res : Int32 × mS} (n : Nat) : ∀ {x1 : Int32} {x2 : Int32} {x3 : Int32} {u : mS} {H : Heap} {locs : List Loc} {ls : Array Slot}, fX10_mostOf_24 n x1 x2 x3 u = some res → va_P D vwCl (mW cI cZ cJ o ad u) H → va_S A s.heap H locs → lv_has ls 7 [(0, .ref o), (1, .int x1), (2, .int x2), (3, .int x3)] → W p l e rmX10_mostOf s m args below meth c H locs 0 0 (MQ below (mQi D cI cZ cJ o ad A res) args s 0 0 A) (F0 m 24 ls []) := by
  induction n with
  | zero => intro _ _ _ _ _ _ _ h _ _ _; cases (show (none : Option (Int32 × mS)) = some res from h)
  | succ n ih => intro _ _ _ _ _ _ _ h hP hS hl; exact wX10_mostOf_24_b C (fun _ _ _ _ _ _ _ h hP hS hl => ih h hP hS hl) h hP hS hl
def fX10_mostOf (x1 : Int32) (x2 : Int32) (u : mS) : Option (Int32 × mS) :=
  fX10_mostOf_2 (fun x1 x2 u =>
        fX10_mostOf_24  FU x1 x2 (0 : Int32) u) FU x1 x2 (0 : Int32) u
set_option maxHeartbeats 4000000 in
set_option maxRecDepth 20000 in
theorem wX10_mostOf (C : mC p s m args meth c cX10_mostOf 7 (some .int) D cI cZ cJ o ad A) {x1 : Int32} {x2 : Int32} {u : mS} {res : Int32 × mS} (h : fX10_mostOf x1 x2 u = some res) {H : Heap} {locs : List Loc} (hP : va_P D vwCl (mW cI cZ cJ o ad u) H) (hS : va_S A s.heap H locs) {ls : Array Slot} (hl : lv_has ls 7 [(0, .ref o), (1, .int x1), (2, .int x2)]) : W p l e rmX10_mostOf s m args below meth c H locs 0 0 (MQ below (mQi D cI cZ cJ o ad A res) args s 0 0 A) (F0 m 0 ls []) := by
  have hx := C.1
  have hb := C.2.1
  unfold fX10_mostOf at h
  refine lv_iconst (v := 0) hx hb dX10_mostOf_0 (by decide) ?_
  refine lv_istore_n (lv' := [(3, .int (0 : Int32)), (0, .ref o), (1, .int x1), (2, .int x2)]) hx hb dX10_mostOf_1 rfl hl (by decide) rfl (fun ls hl => ?_)
  refine wX10_mostOf_2 C ?_ FU h hP hS (lv_sub hl [1, 2, 3, 0] rfl)
  · intro x1 x2 u H locs ls h hP hS hl
    refine lv_iconst (v := 0) hx hb dX10_mostOf_22 (by decide) ?_
    refine lv_istore_n (lv' := [(3, .int (0 : Int32)), (0, .ref o), (1, .int x1), (2, .int x2)]) hx hb dX10_mostOf_23 rfl hl (by decide) rfl (fun ls hl => ?_)
    exact wX10_mostOf_24 C  FU h hP hS (lv_sub hl [1, 2, 3, 0] rfl)
theorem tX10_mostOf {D : va_G} {cI cZ cJ : ClassId} {o : Nat} {ad : Nat → Nat} {A : Nat → Prop} {x1 : Int32} {x2 : Int32} {u : mS} {res : Int32 × mS} (h : fX10_mostOf x1 x2 u = some res) : Met l yX10_mostOf (Cond.code yX10_mostOf cX10_mostOf 7 (some .int) :: gW) rmX10_mostOf (va_Pc [.ref o, .int x1, .int x2] (mPre D cI cZ cJ o ad A u)) (mQi D cI cZ cJ o ad A res) 0 0 A :=
  mx_met ⟨by decide +kernel, rfl⟩ (Nat.le_of_ble_eq_true rfl) (fun p e s m below meth c ls C hP hl => wX10_mostOf C h hP va_S.rf hl)
end
