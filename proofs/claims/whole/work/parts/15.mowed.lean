section
variable {p : Program} {l : Launch} {e : Env} {s : State} {m : MethodId} {args : Array Value} {below : List Frame} {meth : Method} {c : Code} {D : va_G} {cI cZ cJ : ClassId} {o : Nat} {ad : Nat → Nat} {A : Nat → Prop}
abbrev rmX10_owed : Room := { frames := 1, cells := 0, slots := 0, locals := 22 }
def fX10_owed (x1 : Int32) (x2 : Int32) (x3 : Int32) (u : mS) : Option (Int32 × mS) :=
  bI (fX10_isSeeker x1 u) fun r2 u2 =>
  if r2 = 0 then (
    bI (fX10_finding (1 : Int32) u2) fun r29 u29 =>
    some (r29, u29)
  ) else (
    bI (fX10_isThing x2 u2) fun r10 u10 =>
    if r10 = 0 then (
      bI (fX10_finding (1 : Int32) u10) fun r29 u29 =>
      some (r29, u29)
    ) else (
      bI (fX10_isIn x3 (1 : Int32) (9999 : Int32) u10) fun r21 u21 =>
      if r21 = 0 then (
        bI (fX10_finding (1 : Int32) u21) fun r29 u29 =>
        some (r29, u29)
      ) else (
        (mR u21 9 20 x2).bind fun v38 =>
        if v38 = (2 : Int32) then (
          (mR u21 13 20 x2).bind fun v48 =>
          if v48 = 0 then (
            (mR u21 11 20 x2).bind fun v61 =>
            if (1095 : Int32) < ((u21.1 0) - v61) then (
              bI (fX10_finding (3 : Int32) u21) fun r80 u80 =>
              some (r80, u80)
            ) else (
              (mR u21 23 8 x1).bind fun v74 =>
              if v74 = 0 then (
                (mR u21 8 20 x2).bind fun v90 =>
                if x3 = v90 then (
                  (mU u21 13 20 x2 (vp_nar .boolean (1 : Int32))).bind fun u111 =>
                  (mR u111 12 20 x2).bind fun v117 =>
                  (mR u111 12 20 x2).bind fun v123 =>
                  pU (v117 - (v123 / (10 : Int32))) fun z128 =>
                  pU (mF u111 34 ((u111.1 34) + z128)) fun u138 =>
                  some (z128, u138)
                ) else (
                  (fX10_tellsFalse x1 u21).bind fun u96 =>
                  bI (fX10_finding (2 : Int32) u96) fun r101 u101 =>
                  some (r101, u101)
                )
              ) else (
                bI (fX10_finding (3 : Int32) u21) fun r80 u80 =>
                some (r80, u80)
              )
            )
          ) else (
            bI (fX10_finding (3 : Int32) u21) fun r80 u80 =>
            some (r80, u80)
          )
        ) else (
          bI (fX10_finding (3 : Int32) u21) fun r80 u80 =>
          some (r80, u80)
        )
      )
    )
  )
set_option maxHeartbeats 4000000 in
set_option maxRecDepth 20000 in
theorem wX10_owed (C : mC p s m args meth c cX10_owed 5 (some .int) D cI cZ cJ o ad A) {x1 : Int32} {x2 : Int32} {x3 : Int32} {u : mS} {res : Int32 × mS} (h : fX10_owed x1 x2 x3 u = some res) {H : Heap} {locs : List Loc} (hP : va_P D vwCl (mW cI cZ cJ o ad u) H) (hS : va_S A s.heap H locs) {ls : Array Slot} (hl : lv_has ls 5 [(0, .ref o), (1, .int x1), (2, .int x2), (3, .int x3)]) : W p l e rmX10_owed s m args below meth c H locs 0 0 (MQ below (mQi D cI cZ cJ o ad A res) args s 0 0 A) (F0 m 0 ls []) := by
  have hx := C.1
  have hb := C.2.1
  unfold fX10_owed at h
  refine lv_aload_n hx hb dX10_owed_0 rfl (lv_at hl 0 rfl) ?_
  refine lv_iload_n hx hb dX10_owed_1 rfl (lv_at hl 1 rfl) ?_
  obtain ⟨r2, u2, e2, h⟩ := obI h
  refine mx_cVi C hP hS [.int x1] (tX10_isSeeker e2) qX10_156 ⟨rfl, rfl, Nat.le_of_ble_eq_true rfl, Nat.le_of_ble_eq_true rfl⟩ rfl hl.1 rfl (Nat.le_of_ble_eq_true rfl) dX10_owed_2 (fun H locs hP hS => ?_)
  refine lv_if_eq (tgt := 27) hx hb dX10_owed_5 (by decide) (fun hc => ?_) (fun hc => ?_)
  · replace h := it_pos hc h
    refine lv_aload_n hx hb dX10_owed_27 rfl (lv_at hl 0 rfl) ?_
    refine lv_iconst (v := 1) hx hb dX10_owed_28 (by decide) ?_
    obtain ⟨r29, u29, e29, h⟩ := obI h
    refine mx_cVi C hP hS [.int (1 : Int32)] (tX10_finding e29) qX10_138 ⟨rfl, rfl, Nat.le_of_ble_eq_true rfl, Nat.le_of_ble_eq_true rfl⟩ rfl hl.1 rfl (Nat.le_of_ble_eq_true rfl) dX10_owed_29 (fun H locs hP hS => ?_)
    exact mx_reti C h hP hS dX10_owed_32
  · replace h := it_neg hc h
    refine lv_aload_n hx hb dX10_owed_8 rfl (lv_at hl 0 rfl) ?_
    refine lv_iload_n hx hb dX10_owed_9 rfl (lv_at hl 2 rfl) ?_
    obtain ⟨r10, u10, e10, h⟩ := obI h
    refine mx_cVi C hP hS [.int x2] (tX10_isThing e10) qX10_150 ⟨rfl, rfl, Nat.le_of_ble_eq_true rfl, Nat.le_of_ble_eq_true rfl⟩ rfl hl.1 rfl (Nat.le_of_ble_eq_true rfl) dX10_owed_10 (fun H locs hP hS => ?_)
    refine lv_if_eq (tgt := 27) hx hb dX10_owed_13 (by decide) (fun hc => ?_) (fun hc => ?_)
    · replace h := it_pos hc h
      refine lv_aload_n hx hb dX10_owed_27 rfl (lv_at hl 0 rfl) ?_
      refine lv_iconst (v := 1) hx hb dX10_owed_28 (by decide) ?_
      obtain ⟨r29, u29, e29, h⟩ := obI h
      refine mx_cVi C hP hS [.int (1 : Int32)] (tX10_finding e29) qX10_138 ⟨rfl, rfl, Nat.le_of_ble_eq_true rfl, Nat.le_of_ble_eq_true rfl⟩ rfl hl.1 rfl (Nat.le_of_ble_eq_true rfl) dX10_owed_29 (fun H locs hP hS => ?_)
      exact mx_reti C h hP hS dX10_owed_32
    · replace h := it_neg hc h
      refine lv_iload_n hx hb dX10_owed_16 rfl (lv_at hl 3 rfl) ?_
      refine lv_iconst (v := 1) hx hb dX10_owed_17 (by decide) ?_
      refine lv_sipush (v := 9999) hx hb dX10_owed_18 (by decide) ?_
      obtain ⟨r21, u21, e21, h⟩ := obI h
      refine mx_cSi C hP hS [.int x3, .int (1 : Int32), .int (9999 : Int32)] (tX10_isIn e21) qX10_131 ⟨rfl, rfl, Nat.le_of_ble_eq_true rfl, Nat.le_of_ble_eq_true rfl⟩ rfl hl.1 rfl (Nat.le_of_ble_eq_true rfl) dX10_owed_21 (fun H locs hP hS => ?_)
      refine lv_if_ne (tgt := 33) hx hb dX10_owed_24 (by decide) (fun hc => ?_) (fun hc => ?_)
      · replace h := it_neg hc h
        refine lv_aload_n hx hb dX10_owed_33 rfl (lv_at hl 0 rfl) ?_
        refine mg_is C hP dX10_owed_34 ?_
        refine lv_iload_n hx hb dX10_owed_37 rfl (lv_at hl 2 rfl) ?_
        obtain ⟨v38, e38, h⟩ := ob h
        refine ml_is C hP e38 dX10_owed_38 ?_
        refine lv_iconst (v := 2) hx hb dX10_owed_39 (by decide) ?_
        refine lv_icmp_ne (tgt := 78) hx hb dX10_owed_40 (by decide) (fun hc => ?_) (fun hc => ?_)
        · replace h := it_neg hc h
          refine lv_aload_n hx hb dX10_owed_78 rfl (lv_at hl 0 rfl) ?_
          refine lv_iconst (v := 3) hx hb dX10_owed_79 (by decide) ?_
          obtain ⟨r80, u80, e80, h⟩ := obI h
          refine mx_cVi C hP hS [.int (3 : Int32)] (tX10_finding e80) qX10_138 ⟨rfl, rfl, Nat.le_of_ble_eq_true rfl, Nat.le_of_ble_eq_true rfl⟩ rfl hl.1 rfl (Nat.le_of_ble_eq_true rfl) dX10_owed_80 (fun H locs hP hS => ?_)
          exact mx_reti C h hP hS dX10_owed_83
        · replace h := it_pos hc h
          refine lv_aload_n hx hb dX10_owed_43 rfl (lv_at hl 0 rfl) ?_
          refine mg_isPaid C hP dX10_owed_44 ?_
          refine lv_iload_n hx hb dX10_owed_47 rfl (lv_at hl 2 rfl) ?_
          obtain ⟨v48, e48, h⟩ := ob h
          refine ml_isPaid C hP e48 dX10_owed_48 ?_
          refine lv_if_ne (tgt := 78) hx hb dX10_owed_49 (by decide) (fun hc => ?_) (fun hc => ?_)
          · replace h := it_neg hc h
            refine lv_aload_n hx hb dX10_owed_78 rfl (lv_at hl 0 rfl) ?_
            refine lv_iconst (v := 3) hx hb dX10_owed_79 (by decide) ?_
            obtain ⟨r80, u80, e80, h⟩ := obI h
            refine mx_cVi C hP hS [.int (3 : Int32)] (tX10_finding e80) qX10_138 ⟨rfl, rfl, Nat.le_of_ble_eq_true rfl, Nat.le_of_ble_eq_true rfl⟩ rfl hl.1 rfl (Nat.le_of_ble_eq_true rfl) dX10_owed_80 (fun H locs hP hS => ?_)
            exact mx_reti C h hP hS dX10_owed_83
          · replace h := it_pos hc h
            refine lv_aload_n hx hb dX10_owed_52 rfl (lv_at hl 0 rfl) ?_
            refine mg_today C hP dX10_owed_53 ?_
            refine lv_aload_n hx hb dX10_owed_56 rfl (lv_at hl 0 rfl) ?_
            refine mg_since C hP dX10_owed_57 ?_
            refine lv_iload_n hx hb dX10_owed_60 rfl (lv_at hl 2 rfl) ?_
            obtain ⟨v61, e61, h⟩ := ob h
            refine ml_since C hP e61 dX10_owed_61 ?_
            refine lv_isub hx hb dX10_owed_62 ?_
            refine lv_sipush (v := 1095) hx hb dX10_owed_63 (by decide) ?_
            refine lv_icmp_gt (tgt := 78) hx hb dX10_owed_66 (by decide) (fun hc => ?_) (fun hc => ?_)
            · replace h := it_pos hc h
              refine lv_aload_n hx hb dX10_owed_78 rfl (lv_at hl 0 rfl) ?_
              refine lv_iconst (v := 3) hx hb dX10_owed_79 (by decide) ?_
              obtain ⟨r80, u80, e80, h⟩ := obI h
              refine mx_cVi C hP hS [.int (3 : Int32)] (tX10_finding e80) qX10_138 ⟨rfl, rfl, Nat.le_of_ble_eq_true rfl, Nat.le_of_ble_eq_true rfl⟩ rfl hl.1 rfl (Nat.le_of_ble_eq_true rfl) dX10_owed_80 (fun H locs hP hS => ?_)
              exact mx_reti C h hP hS dX10_owed_83
            · replace h := it_neg hc h
              refine lv_aload_n hx hb dX10_owed_69 rfl (lv_at hl 0 rfl) ?_
              refine mg_isBarred C hP dX10_owed_70 ?_
              refine lv_iload_n hx hb dX10_owed_73 rfl (lv_at hl 1 rfl) ?_
              obtain ⟨v74, e74, h⟩ := ob h
              refine ml_isBarred C hP e74 dX10_owed_74 ?_
              refine lv_if_eq (tgt := 84) hx hb dX10_owed_75 (by decide) (fun hc => ?_) (fun hc => ?_)
              · replace h := it_pos hc h
                refine lv_iload_n hx hb dX10_owed_84 rfl (lv_at hl 3 rfl) ?_
                refine lv_aload_n hx hb dX10_owed_85 rfl (lv_at hl 0 rfl) ?_
                refine mg_secret C hP dX10_owed_86 ?_
                refine lv_iload_n hx hb dX10_owed_89 rfl (lv_at hl 2 rfl) ?_
                obtain ⟨v90, e90, h⟩ := ob h
                refine ml_secret C hP e90 dX10_owed_90 ?_
                refine lv_icmp_eq (tgt := 105) hx hb dX10_owed_91 (by decide) (fun hc => ?_) (fun hc => ?_)
                · replace h := it_pos hc h
                  refine lv_aload_n hx hb dX10_owed_105 rfl (lv_at hl 0 rfl) ?_
                  refine mg_isPaid C hP dX10_owed_106 ?_
                  refine lv_iload_n hx hb dX10_owed_109 rfl (lv_at hl 2 rfl) ?_
                  refine lv_iconst (v := 1) hx hb dX10_owed_110 (by decide) ?_
                  obtain ⟨u111, e111, h⟩ := ob h
                  refine ms_isPaid C hP hS e111 dX10_owed_111 (fun H locs hP hS => ?_)
                  refine lv_aload_n hx hb dX10_owed_112 rfl (lv_at hl 0 rfl) ?_
                  refine mg_shareOf C hP dX10_owed_113 ?_
                  refine lv_iload_n hx hb dX10_owed_116 rfl (lv_at hl 2 rfl) ?_
                  obtain ⟨v117, e117, h⟩ := ob h
                  refine ml_shareOf C hP e117 dX10_owed_117 ?_
                  refine lv_aload_n hx hb dX10_owed_118 rfl (lv_at hl 0 rfl) ?_
                  refine mg_shareOf C hP dX10_owed_119 ?_
                  refine lv_iload_n hx hb dX10_owed_122 rfl (lv_at hl 2 rfl) ?_
                  obtain ⟨v123, e123, h⟩ := ob h
                  refine ml_shareOf C hP e123 dX10_owed_123 ?_
                  refine lv_bipush (v := 10) hx hb dX10_owed_124 (by decide) ?_
                  refine lv_idiv hx hb dX10_owed_126 (by decide) ?_
                  refine lv_isub hx hb dX10_owed_127 ?_
                  obtain ⟨z128, ez128, h⟩ := op h
                  refine mx_topI ez128 ?_
                  refine lv_istore (lv' := [(4, .int z128), (0, .ref o), (1, .int x1), (2, .int x2), (3, .int x3)]) hx hb dX10_owed_128 hl (by decide) rfl (fun ls hl => ?_)
                  refine lv_aload_n hx hb dX10_owed_130 rfl (lv_at hl 1 rfl) ?_
                  refine lv_dup hx hb dX10_owed_131 rfl ?_
                  refine mg_paid C hP dX10_owed_132 ?_
                  refine lv_iload hx hb dX10_owed_135 (lv_at hl 0 rfl) ?_
                  refine lv_iadd hx hb dX10_owed_137 ?_
                  obtain ⟨u138, e138, h⟩ := op h
                  refine mp_paid C hP hS e138 dX10_owed_138 (fun H locs hP hS => ?_)
                  refine lv_iload hx hb dX10_owed_141 (lv_at hl 0 rfl) ?_
                  exact mx_reti C h hP hS dX10_owed_143
                · replace h := it_neg hc h
                  refine lv_aload_n hx hb dX10_owed_94 rfl (lv_at hl 0 rfl) ?_
                  refine lv_iload_n hx hb dX10_owed_95 rfl (lv_at hl 1 rfl) ?_
                  obtain ⟨u96, e96, h⟩ := ob h
                  refine mx_cVv C hP hS [.int x1] (tX10_tellsFalse e96) qX10_170 ⟨rfl, rfl, Nat.le_of_ble_eq_true rfl, Nat.le_of_ble_eq_true rfl⟩ rfl hl.1 rfl (Nat.le_of_ble_eq_true rfl) dX10_owed_96 (fun H locs hP hS => ?_)
                  refine lv_aload_n hx hb dX10_owed_99 rfl (lv_at hl 0 rfl) ?_
                  refine lv_iconst (v := 2) hx hb dX10_owed_100 (by decide) ?_
                  obtain ⟨r101, u101, e101, h⟩ := obI h
                  refine mx_cVi C hP hS [.int (2 : Int32)] (tX10_finding e101) qX10_138 ⟨rfl, rfl, Nat.le_of_ble_eq_true rfl, Nat.le_of_ble_eq_true rfl⟩ rfl hl.1 rfl (Nat.le_of_ble_eq_true rfl) dX10_owed_101 (fun H locs hP hS => ?_)
                  exact mx_reti C h hP hS dX10_owed_104
              · replace h := it_neg hc h
                refine lv_aload_n hx hb dX10_owed_78 rfl (lv_at hl 0 rfl) ?_
                refine lv_iconst (v := 3) hx hb dX10_owed_79 (by decide) ?_
                obtain ⟨r80, u80, e80, h⟩ := obI h
                refine mx_cVi C hP hS [.int (3 : Int32)] (tX10_finding e80) qX10_138 ⟨rfl, rfl, Nat.le_of_ble_eq_true rfl, Nat.le_of_ble_eq_true rfl⟩ rfl hl.1 rfl (Nat.le_of_ble_eq_true rfl) dX10_owed_80 (fun H locs hP hS => ?_)
                exact mx_reti C h hP hS dX10_owed_83
      · replace h := it_pos hc h
        refine lv_aload_n hx hb dX10_owed_27 rfl (lv_at hl 0 rfl) ?_
        refine lv_iconst (v := 1) hx hb dX10_owed_28 (by decide) ?_
        obtain ⟨r29, u29, e29, h⟩ := obI h
        refine mx_cVi C hP hS [.int (1 : Int32)] (tX10_finding e29) qX10_138 ⟨rfl, rfl, Nat.le_of_ble_eq_true rfl, Nat.le_of_ble_eq_true rfl⟩ rfl hl.1 rfl (Nat.le_of_ble_eq_true rfl) dX10_owed_29 (fun H locs hP hS => ?_)
        exact mx_reti C h hP hS dX10_owed_32
theorem tX10_owed {D : va_G} {cI cZ cJ : ClassId} {o : Nat} {ad : Nat → Nat} {A : Nat → Prop} {x1 : Int32} {x2 : Int32} {x3 : Int32} {u : mS} {res : Int32 × mS} (h : fX10_owed x1 x2 x3 u = some res) : Met l yX10_owed (Cond.code yX10_owed cX10_owed 5 (some .int) :: gW) rmX10_owed (va_Pc [.ref o, .int x1, .int x2, .int x3] (mPre D cI cZ cJ o ad A u)) (mQi D cI cZ cJ o ad A res) 0 0 A :=
  mx_met ⟨by decide +kernel, rfl⟩ (Nat.le_of_ble_eq_true rfl) (fun p e s m below meth c ls C hP hl => wX10_owed C h hP va_S.rf hl)
abbrev rmX10_tellLots : Room := { frames := 1, cells := 0, slots := 0, locals := 22 }
def fX10_tellLots_55 (x1 : Int32) (x2 : Int32) (x3 : Int32) (x5 : Int32) (s0 : Int32) (s1 : Int32) (u : mS) (k18 : Int32 → Int32 → Int32 → Int32 → Int32 → mS → Option (mS)) : Option (mS) :=
  k18 x1 x2 x3 (s0 + s1) (x5 + (1 : Int32)) u
set_option maxHeartbeats 4000000 in
set_option maxRecDepth 20000 in
theorem wX10_tellLots_55 (C : mC p s m args meth c cX10_tellLots 6 none D cI cZ cJ o ad A) {x1 : Int32} {x2 : Int32} {x3 : Int32} {x5 : Int32} {s0 : Int32} {s1 : Int32} {u : mS} {res : mS} {k18 : Int32 → Int32 → Int32 → Int32 → Int32 → mS → Option (mS)} (hk18 : ∀ (x1 : Int32) (x2 : Int32) (x3 : Int32) (x4 : Int32) (x5 : Int32) (u : mS) (H : Heap) (locs : List Loc) (ls : Array Slot), k18 x1 x2 x3 x4 x5 u = some res → va_P D vwCl (mW cI cZ cJ o ad u) H → va_S A s.heap H locs → lv_has ls 6 [(0, .ref o), (1, .int x1), (2, .int x2), (3, .int x3), (4, .int x4), (5, .int x5)] → W p l e rmX10_tellLots s m args below meth c H locs 0 0 (MQ below (mQv D cI cZ cJ o ad A res) args s 0 0 A) (F0 m 18 ls [])) (h : fX10_tellLots_55 x1 x2 x3 x5 s0 s1 u k18 = some res) {H : Heap} {locs : List Loc} (hP : va_P D vwCl (mW cI cZ cJ o ad u) H) (hS : va_S A s.heap H locs) {ls : Array Slot} (hl : lv_has ls 6 [(0, .ref o), (1, .int x1), (2, .int x2), (3, .int x3), (5, .int x5)]) : W p l e rmX10_tellLots s m args below meth c H locs 0 0 (MQ below (mQv D cI cZ cJ o ad A res) args s 0 0 A) (F0 m 55 ls [.int s1, .int s0]) := by
  have hx := C.1
  have hb := C.2.1
  unfold fX10_tellLots_55 at h
  refine lv_iadd hx hb dX10_tellLots_55 ?_
  refine lv_istore (lv' := [(4, .int (s0 + s1)), (0, .ref o), (1, .int x1), (2, .int x2), (3, .int x3), (5, .int x5)]) hx hb dX10_tellLots_56 hl (by decide) rfl (fun ls hl => ?_)
  refine lv_iinc (v := x5 + (1 : Int32)) (lv' := [(5, .int (x5 + (1 : Int32))), (4, .int (s0 + s1)), (0, .ref o), (1, .int x1), (2, .int x2), (3, .int x3)]) hx hb dX10_tellLots_58 hl (k := 5) rfl rfl (by decide) rfl (fun ls hl => ?_)
  refine lv_goto (tgt := 18) hx hb dX10_tellLots_61 (by decide) ?_
  exact hk18 _ _ _ _ _ _ _ _ _ h hP hS (lv_sub hl [2, 3, 4, 5, 1, 0] rfl)
def fX10_tellLots_18_b (x1 : Int32) (x2 : Int32) (x3 : Int32) (x4 : Int32) (x5 : Int32) (u : mS) (k18 : Int32 → Int32 → Int32 → Int32 → Int32 → mS → Option (mS)) (k64 : Int32 → Int32 → Int32 → Int32 → mS → Option (mS)) : Option (mS) :=
  if (u.1 41) ≤ x5 then (
    k64 x1 x2 x3 x4 u
  ) else (
    if ((x3 >>> (x5 &&& 31)) &&& (1 : Int32)) = (1 : Int32) then (
      (mR u 40 10 x5).bind fun v49 =>
      (mR u 7 20 v49).bind fun v50 =>
      fX10_tellLots_55 x1 x2 x3 x5 x4 v50 u k18
    ) else (
      fX10_tellLots_55 x1 x2 x3 x5 x4 (0 : Int32) u k18
    )
  )
set_option maxHeartbeats 4000000 in
set_option maxRecDepth 20000 in
theorem wX10_tellLots_18_b (C : mC p s m args meth c cX10_tellLots 6 none D cI cZ cJ o ad A) {x1 : Int32} {x2 : Int32} {x3 : Int32} {x4 : Int32} {x5 : Int32} {u : mS} {res : mS} {k18 : Int32 → Int32 → Int32 → Int32 → Int32 → mS → Option (mS)} {k64 : Int32 → Int32 → Int32 → Int32 → mS → Option (mS)} (hk18 : ∀ (x1 : Int32) (x2 : Int32) (x3 : Int32) (x4 : Int32) (x5 : Int32) (u : mS) (H : Heap) (locs : List Loc) (ls : Array Slot), k18 x1 x2 x3 x4 x5 u = some res → va_P D vwCl (mW cI cZ cJ o ad u) H → va_S A s.heap H locs → lv_has ls 6 [(0, .ref o), (1, .int x1), (2, .int x2), (3, .int x3), (4, .int x4), (5, .int x5)] → W p l e rmX10_tellLots s m args below meth c H locs 0 0 (MQ below (mQv D cI cZ cJ o ad A res) args s 0 0 A) (F0 m 18 ls [])) (hk64 : ∀ (x1 : Int32) (x2 : Int32) (x3 : Int32) (x4 : Int32) (u : mS) (H : Heap) (locs : List Loc) (ls : Array Slot), k64 x1 x2 x3 x4 u = some res → va_P D vwCl (mW cI cZ cJ o ad u) H → va_S A s.heap H locs → lv_has ls 6 [(0, .ref o), (1, .int x1), (2, .int x2), (3, .int x3), (4, .int x4)] → W p l e rmX10_tellLots s m args below meth c H locs 0 0 (MQ below (mQv D cI cZ cJ o ad A res) args s 0 0 A) (F0 m 64 ls [])) (h : fX10_tellLots_18_b x1 x2 x3 x4 x5 u k18 k64 = some res) {H : Heap} {locs : List Loc} (hP : va_P D vwCl (mW cI cZ cJ o ad u) H) (hS : va_S A s.heap H locs) {ls : Array Slot} (hl : lv_has ls 6 [(0, .ref o), (1, .int x1), (2, .int x2), (3, .int x3), (4, .int x4), (5, .int x5)]) : W p l e rmX10_tellLots s m args below meth c H locs 0 0 (MQ below (mQv D cI cZ cJ o ad A res) args s 0 0 A) (F0 m 18 ls []) := by
  have hx := C.1
  have hb := C.2.1
  unfold fX10_tellLots_18_b at h
  refine lv_iload hx hb dX10_tellLots_18 (lv_at hl 5 rfl) ?_
  refine lv_aload_n hx hb dX10_tellLots_20 rfl (lv_at hl 0 rfl) ?_
  refine mg_members C hP dX10_tellLots_21 ?_
  refine lv_icmp_ge (tgt := 64) hx hb dX10_tellLots_24 (by decide) (fun hc => ?_) (fun hc => ?_)
  · replace h := it_pos hc h
    exact hk64 _ _ _ _ _ _ _ _ h hP hS (lv_sub hl [0, 1, 2, 3, 4] rfl)
  · replace h := it_neg hc h
    refine lv_iload hx hb dX10_tellLots_27 (lv_at hl 4 rfl) ?_
    refine lv_iload_n hx hb dX10_tellLots_29 rfl (lv_at hl 3 rfl) ?_
    refine lv_iload hx hb dX10_tellLots_30 (lv_at hl 5 rfl) ?_
    refine lv_ishr hx hb dX10_tellLots_32 ?_
    refine lv_iconst (v := 1) hx hb dX10_tellLots_33 (by decide) ?_
    refine lv_iand hx hb dX10_tellLots_34 ?_
    refine lv_iconst (v := 1) hx hb dX10_tellLots_35 (by decide) ?_
    refine lv_icmp_ne (tgt := 54) hx hb dX10_tellLots_36 (by decide) (fun hc => ?_) (fun hc => ?_)
    · replace h := it_neg hc h
      refine lv_iconst (v := 0) hx hb dX10_tellLots_54 (by decide) ?_
      exact wX10_tellLots_55 C hk18 h hP hS (lv_sub hl [0, 1, 2, 3, 5] rfl)
    · replace h := it_pos hc h
      refine lv_aload_n hx hb dX10_tellLots_39 rfl (lv_at hl 0 rfl) ?_
      refine mg_worth C hP dX10_tellLots_40 ?_
      refine lv_aload_n hx hb dX10_tellLots_43 rfl (lv_at hl 0 rfl) ?_
      refine mg_member C hP dX10_tellLots_44 ?_
      refine lv_iload hx hb dX10_tellLots_47 (lv_at hl 5 rfl) ?_
      obtain ⟨v49, e49, h⟩ := ob h
      refine ml_member C hP e49 dX10_tellLots_49 ?_
      obtain ⟨v50, e50, h⟩ := ob h
      refine ml_worth C hP e50 dX10_tellLots_50 ?_
      refine lv_goto (tgt := 55) hx hb dX10_tellLots_51 (by decide) ?_
      exact wX10_tellLots_55 C hk18 h hP hS (lv_sub hl [0, 1, 2, 3, 5] rfl)
def fX10_tellLots_18 (k64 : Int32 → Int32 → Int32 → Int32 → mS → Option (mS)) : Nat → Int32 → Int32 → Int32 → Int32 → Int32 → mS → Option (mS)
  | 0 => fun _ _ _ _ _ _ => none
  | n + 1 => fun x1 x2 x3 x4 x5 u => fX10_tellLots_18_b x1 x2 x3 x4 x5 u (fX10_tellLots_18 k64 n) k64 
theorem wX10_tellLots_18 (C : mC p s m args meth c cX10_tellLots 6 none D cI cZ cJ o ad A) {res : mS} {k64 : Int32 → Int32 → Int32 → Int32 → mS → Option (mS)} (hk64 : ∀ (x1 : Int32) (x2 : Int32) (x3 : Int32) (x4 : Int32) (u : mS) (H : Heap) (locs : List Loc) (ls : Array Slot), k64 x1 x2 x3 x4 u = some res → va_P D vwCl (mW cI cZ cJ o ad u) H → va_S A s.heap H locs → lv_has ls 6 [(0, .ref o), (1, .int x1), (2, .int x2), (3, .int x3), (4, .int x4)] → W p l e rmX10_tellLots s m args below meth c H locs 0 0 (MQ below (mQv D cI cZ cJ o ad A res) args s 0 0 A) (F0 m 64 ls [])) (n : Nat) : ∀ {x1 : Int32} {x2 : Int32} {x3 : Int32} {x4 : Int32} {x5 : Int32} {u : mS} {H : Heap} {locs : List Loc} {ls : Array Slot}, fX10_tellLots_18 k64 n x1 x2 x3 x4 x5 u = some res → va_P D vwCl (mW cI cZ cJ o ad u) H → va_S A s.heap H locs → lv_has ls 6 [(0, .ref o), (1, .int x1), (2, .int x2), (3, .int x3), (4, .int x4), (5, .int x5)] → W p l e rmX10_tellLots s m args below meth c H locs 0 0 (MQ below (mQv D cI cZ cJ o ad A res) args s 0 0 A) (F0 m 18 ls []) := by
  induction n with
  | zero => intro _ _ _ _ _ _ _ _ _ h _ _ _; cases (show (none : Option (mS)) = some res from h)
  | succ n ih => intro _ _ _ _ _ _ _ _ _ h hP hS hl; exact wX10_tellLots_18_b C (fun _ _ _ _ _ _ _ _ _ h hP hS hl => ih h hP hS hl) hk64 h hP hS hl
def fX10_tellLots_2_b (x1 : Int32) (x2 : Int32) (x3 : Int32) (u : mS) (k2 : Int32 → Int32 → Int32 → mS → Option (mS)) (k83 : mS → Option (mS)) : Option (mS) :=
  if ((1 : Int32) <<< ((u.1 41) &&& 31)) ≤ x3 then (
    k83  u
  ) else (
    fX10_tellLots_18 (fun x1 x2 x3 x4 u =>
          bI (fX10_isIn x4 x1 x2 u) fun r73 u73 =>
          (mU u73 43 1024 x3 (vp_nar .boolean r73)).bind fun u76 =>
          k2 x1 x2 (x3 + (1 : Int32)) u76) FU x1 x2 x3 (0 : Int32) (0 : Int32) u
  )
set_option maxHeartbeats 4000000 in
set_option maxRecDepth 20000 in
theorem wX10_tellLots_2_b (C : mC p s m args meth c cX10_tellLots 6 none D cI cZ cJ o ad A) {x1 : Int32} {x2 : Int32} {x3 : Int32} {u : mS} {res : mS} {k2 : Int32 → Int32 → Int32 → mS → Option (mS)} {k83 : mS → Option (mS)} (hk2 : ∀ (x1 : Int32) (x2 : Int32) (x3 : Int32) (u : mS) (H : Heap) (locs : List Loc) (ls : Array Slot), k2 x1 x2 x3 u = some res → va_P D vwCl (mW cI cZ cJ o ad u) H → va_S A s.heap H locs → lv_has ls 6 [(0, .ref o), (1, .int x1), (2, .int x2), (3, .int x3)] → W p l e rmX10_tellLots s m args below meth c H locs 0 0 (MQ below (mQv D cI cZ cJ o ad A res) args s 0 0 A) (F0 m 2 ls [])) (hk83 : ∀ (u : mS) (H : Heap) (locs : List Loc) (ls : Array Slot), k83 u = some res → va_P D vwCl (mW cI cZ cJ o ad u) H → va_S A s.heap H locs → lv_has ls 6 [(0, .ref o)] → W p l e rmX10_tellLots s m args below meth c H locs 0 0 (MQ below (mQv D cI cZ cJ o ad A res) args s 0 0 A) (F0 m 83 ls [])) (h : fX10_tellLots_2_b x1 x2 x3 u k2 k83 = some res) {H : Heap} {locs : List Loc} (hP : va_P D vwCl (mW cI cZ cJ o ad u) H) (hS : va_S A s.heap H locs) {ls : Array Slot} (hl : lv_has ls 6 [(0, .ref o), (1, .int x1), (2, .int x2), (3, .int x3)]) : W p l e rmX10_tellLots s m args below meth c H locs 0 0 (MQ below (mQv D cI cZ cJ o ad A res) args s 0 0 A) (F0 m 2 ls []) := by
  have hx := C.1
  have hb := C.2.1
  unfold fX10_tellLots_2_b at h
  refine lv_iload_n hx hb dX10_tellLots_2 rfl (lv_at hl 3 rfl) ?_
  refine lv_iconst (v := 1) hx hb dX10_tellLots_3 (by decide) ?_
  refine lv_aload_n hx hb dX10_tellLots_4 rfl (lv_at hl 0 rfl) ?_
  refine mg_members C hP dX10_tellLots_5 ?_
  refine lv_ishl hx hb dX10_tellLots_8 ?_
  refine lv_icmp_ge (tgt := 83) hx hb dX10_tellLots_9 (by decide) (fun hc => ?_) (fun hc => ?_)
  · replace h := it_pos hc h
    exact hk83  _ _ _ _ h hP hS (lv_sub hl [0] rfl)
  · replace h := it_neg hc h
    refine lv_iconst (v := 0) hx hb dX10_tellLots_12 (by decide) ?_
    refine lv_istore (lv' := [(4, .int (0 : Int32)), (0, .ref o), (1, .int x1), (2, .int x2), (3, .int x3)]) hx hb dX10_tellLots_13 hl (by decide) rfl (fun ls hl => ?_)
    refine lv_iconst (v := 0) hx hb dX10_tellLots_15 (by decide) ?_
    refine lv_istore (lv' := [(5, .int (0 : Int32)), (4, .int (0 : Int32)), (0, .ref o), (1, .int x1), (2, .int x2), (3, .int x3)]) hx hb dX10_tellLots_16 hl (by decide) rfl (fun ls hl => ?_)
    refine wX10_tellLots_18 C ?_ FU h hP hS (lv_sub hl [2, 3, 4, 5, 1, 0] rfl)
    · intro x1 x2 x3 x4 u H locs ls h hP hS hl
      refine lv_aload_n hx hb dX10_tellLots_64 rfl (lv_at hl 0 rfl) ?_
      refine mg_isLot C hP dX10_tellLots_65 ?_
      refine lv_iload_n hx hb dX10_tellLots_68 rfl (lv_at hl 3 rfl) ?_
      refine lv_iload hx hb dX10_tellLots_69 (lv_at hl 4 rfl) ?_
      refine lv_iload_n hx hb dX10_tellLots_71 rfl (lv_at hl 1 rfl) ?_
      refine lv_iload_n hx hb dX10_tellLots_72 rfl (lv_at hl 2 rfl) ?_
      obtain ⟨r73, u73, e73, h⟩ := obI h
      refine mx_cSi C hP hS [.int x4, .int x1, .int x2] (tX10_isIn e73) qX10_131 ⟨rfl, rfl, Nat.le_of_ble_eq_true rfl, Nat.le_of_ble_eq_true rfl⟩ rfl hl.1 rfl (Nat.le_of_ble_eq_true rfl) dX10_tellLots_73 (fun H locs hP hS => ?_)
      obtain ⟨u76, e76, h⟩ := ob h
      refine ms_isLot C hP hS e76 dX10_tellLots_76 (fun H locs hP hS => ?_)
      refine lv_iinc (v := x3 + (1 : Int32)) (lv' := [(3, .int (x3 + (1 : Int32))), (0, .ref o), (1, .int x1), (2, .int x2), (4, .int x4)]) hx hb dX10_tellLots_77 hl (k := 3) rfl rfl (by decide) rfl (fun ls hl => ?_)
      refine lv_goto (tgt := 2) hx hb dX10_tellLots_80 (by decide) ?_
      exact hk2 _ _ _ _ _ _ _ h hP hS (lv_sub hl [1, 2, 3, 0] rfl)
def fX10_tellLots_2 (k83 : mS → Option (mS)) : Nat → Int32 → Int32 → Int32 → mS → Option (mS)
  | 0 => fun _ _ _ _ => none
  | n + 1 => fun x1 x2 x3 u => fX10_tellLots_2_b x1 x2 x3 u (fX10_tellLots_2 k83 n) k83 
theorem wX10_tellLots_2 (C : mC p s m args meth c cX10_tellLots 6 none D cI cZ cJ o ad A) {res : mS} {k83 : mS → Option (mS)} (hk83 : ∀ (u : mS) (H : Heap) (locs : List Loc) (ls : Array Slot), k83 u = some res → va_P D vwCl (mW cI cZ cJ o ad u) H → va_S A s.heap H locs → lv_has ls 6 [(0, .ref o)] → W p l e rmX10_tellLots s m args below meth c H locs 0 0 (MQ below (mQv D cI cZ cJ o ad A res) args s 0 0 A) (F0 m 83 ls [])) (n : Nat) : ∀ {x1 : Int32} {x2 : Int32} {x3 : Int32} {u : mS} {H : Heap} {locs : List Loc} {ls : Array Slot}, fX10_tellLots_2 k83 n x1 x2 x3 u = some res → va_P D vwCl (mW cI cZ cJ o ad u) H → va_S A s.heap H locs → lv_has ls 6 [(0, .ref o), (1, .int x1), (2, .int x2), (3, .int x3)] → W p l e rmX10_tellLots s m args below meth c H locs 0 0 (MQ below (mQv D cI cZ cJ o ad A res) args s 0 0 A) (F0 m 2 ls []) := by
  induction n with
  | zero => intro _ _ _ _ _ _ _ h _ _ _; cases (show (none : Option (mS)) = some res from h)
  | succ n ih => intro _ _ _ _ _ _ _ h hP hS hl; exact wX10_tellLots_2_b C (fun _ _ _ _ _ _ _ h hP hS hl => ih h hP hS hl) hk83 h hP hS hl
def fX10_tellLots_191 (x3 : Int32) (x4 : Int32) (x5 : Int32) (u : mS) (k121 : Int32 → Int32 → Int32 → mS → Option (mS)) : Option (mS) :=
  k121 x3 x4 (x5 + (1 : Int32)) u
set_option maxHeartbeats 4000000 in
set_option maxRecDepth 20000 in
theorem wX10_tellLots_191 (C : mC p s m args meth c cX10_tellLots 6 none D cI cZ cJ o ad A) {x3 : Int32} {x4 : Int32} {x5 : Int32} {u : mS} {res : mS} {k121 : Int32 → Int32 → Int32 → mS → Option (mS)} (hk121 : ∀ (x3 : Int32) (x4 : Int32) (x5 : Int32) (u : mS) (H : Heap) (locs : List Loc) (ls : Array Slot), k121 x3 x4 x5 u = some res → va_P D vwCl (mW cI cZ cJ o ad u) H → va_S A s.heap H locs → lv_has ls 6 [(0, .ref o), (3, .int x3), (4, .int x4), (5, .int x5)] → W p l e rmX10_tellLots s m args below meth c H locs 0 0 (MQ below (mQv D cI cZ cJ o ad A res) args s 0 0 A) (F0 m 121 ls [])) (h : fX10_tellLots_191 x3 x4 x5 u k121 = some res) {H : Heap} {locs : List Loc} (hP : va_P D vwCl (mW cI cZ cJ o ad u) H) (hS : va_S A s.heap H locs) {ls : Array Slot} (hl : lv_has ls 6 [(0, .ref o), (3, .int x3), (4, .int x4), (5, .int x5)]) : W p l e rmX10_tellLots s m args below meth c H locs 0 0 (MQ below (mQv D cI cZ cJ o ad A res) args s 0 0 A) (F0 m 191 ls []) := by
  have hx := C.1
  have hb := C.2.1
  unfold fX10_tellLots_191 at h
  refine lv_iinc (v := x5 + (1 : Int32)) (lv' := [(5, .int (x5 + (1 : Int32))), (0, .ref o), (3, .int x3), (4, .int x4)]) hx hb dX10_tellLots_191 hl (k := 3) rfl rfl (by decide) rfl (fun ls hl => ?_)
  refine lv_goto (tgt := 121) hx hb dX10_tellLots_194 (by decide) ?_
  exact hk121 _ _ _ _ _ _ _ h hP hS (lv_sub hl [1, 2, 3, 0] rfl)
def fX10_tellLots_121_b (x3 : Int32) (x4 : Int32) (x5 : Int32) (u : mS) (k121 : Int32 → Int32 → Int32 → mS → Option (mS)) (k197 : Int32 → mS → Option (mS)) : Option (mS) :=
  if x3 < x5 then (
    k197 x3 u
  ) else (
    if (x5 &&& (x3 ^^^ (-1 : Int32))) = 0 then (
      if (x5 &&& x4) = 0 then (
        fX10_tellLots_191 x3 x4 x5 u k121
      ) else (
        (mR u 43 1024 x5).bind fun v150 =>
        if v150 = 0 then (
          fX10_tellLots_191 x3 x4 x5 u k121
        ) else (
          (mR u 42 1024 (x3 ^^^ x5)).bind fun v163 =>
          (mR u 42 1024 x3).bind fun v170 =>
          if v170 ≤ ((1 : Int32) + v163) then (
            fX10_tellLots_191 x3 x4 x5 u k121
          ) else (
            (mR u 42 1024 (x3 ^^^ x5)).bind fun v188 =>
            (mU u 42 1024 x3 ((1 : Int32) + v188)).bind fun u190 =>
            fX10_tellLots_191 x3 x4 x5 u190 k121
          )
        )
      )
    ) else (
      fX10_tellLots_191 x3 x4 x5 u k121
    )
  )
set_option maxHeartbeats 4000000 in
set_option maxRecDepth 20000 in
theorem wX10_tellLots_121_b (C : mC p s m args meth c cX10_tellLots 6 none D cI cZ cJ o ad A) {x3 : Int32} {x4 : Int32} {x5 : Int32} {u : mS} {res : mS} {k121 : Int32 → Int32 → Int32 → mS → Option (mS)} {k197 : Int32 → mS → Option (mS)} (hk121 : ∀ (x3 : Int32) (x4 : Int32) (x5 : Int32) (u : mS) (H : Heap) (locs : List Loc) (ls : Array Slot), k121 x3 x4 x5 u = some res → va_P D vwCl (mW cI cZ cJ o ad u) H → va_S A s.heap H locs → lv_has ls 6 [(0, .ref o), (3, .int x3), (4, .int x4), (5, .int x5)] → W p l e rmX10_tellLots s m args below meth c H locs 0 0 (MQ below (mQv D cI cZ cJ o ad A res) args s 0 0 A) (F0 m 121 ls [])) (hk197 : ∀ (x3 : Int32) (u : mS) (H : Heap) (locs : List Loc) (ls : Array Slot), k197 x3 u = some res → va_P D vwCl (mW cI cZ cJ o ad u) H → va_S A s.heap H locs → lv_has ls 6 [(0, .ref o), (3, .int x3)] → W p l e rmX10_tellLots s m args below meth c H locs 0 0 (MQ below (mQv D cI cZ cJ o ad A res) args s 0 0 A) (F0 m 197 ls [])) (h : fX10_tellLots_121_b x3 x4 x5 u k121 k197 = some res) {H : Heap} {locs : List Loc} (hP : va_P D vwCl (mW cI cZ cJ o ad u) H) (hS : va_S A s.heap H locs) {ls : Array Slot} (hl : lv_has ls 6 [(0, .ref o), (3, .int x3), (4, .int x4), (5, .int x5)]) : W p l e rmX10_tellLots s m args below meth c H locs 0 0 (MQ below (mQv D cI cZ cJ o ad A res) args s 0 0 A) (F0 m 121 ls []) := by
  have hx := C.1
  have hb := C.2.1
  unfold fX10_tellLots_121_b at h
  refine lv_iload hx hb dX10_tellLots_121 (lv_at hl 3 rfl) ?_
  refine lv_iload_n hx hb dX10_tellLots_123 rfl (lv_at hl 1 rfl) ?_
  refine lv_icmp_gt (tgt := 197) hx hb dX10_tellLots_124 (by decide) (fun hc => ?_) (fun hc => ?_)
  · replace h := it_pos hc h
    exact hk197 _ _ _ _ _ h hP hS (lv_sub hl [0, 1] rfl)
  · replace h := it_neg hc h
    refine lv_iload hx hb dX10_tellLots_127 (lv_at hl 3 rfl) ?_
    refine lv_iload_n hx hb dX10_tellLots_129 rfl (lv_at hl 1 rfl) ?_
    refine lv_iconst (v := -1) hx hb dX10_tellLots_130 (by decide) ?_
    refine lv_ixor hx hb dX10_tellLots_131 ?_
    refine lv_iand hx hb dX10_tellLots_132 ?_
    refine lv_if_ne (tgt := 191) hx hb dX10_tellLots_133 (by decide) (fun hc => ?_) (fun hc => ?_)
    · replace h := it_neg hc h
      exact wX10_tellLots_191 C hk121 h hP hS (lv_sub hl [0, 1, 2, 3] rfl)
    · replace h := it_pos hc h
      refine lv_iload hx hb dX10_tellLots_136 (lv_at hl 3 rfl) ?_
      refine lv_iload hx hb dX10_tellLots_138 (lv_at hl 2 rfl) ?_
      refine lv_iand hx hb dX10_tellLots_140 ?_
      refine lv_if_eq (tgt := 191) hx hb dX10_tellLots_141 (by decide) (fun hc => ?_) (fun hc => ?_)
      · replace h := it_pos hc h
        exact wX10_tellLots_191 C hk121 h hP hS (lv_sub hl [0, 1, 2, 3] rfl)
      · replace h := it_neg hc h
        refine lv_aload_n hx hb dX10_tellLots_144 rfl (lv_at hl 0 rfl) ?_
        refine mg_isLot C hP dX10_tellLots_145 ?_
        refine lv_iload hx hb dX10_tellLots_148 (lv_at hl 3 rfl) ?_
        obtain ⟨v150, e150, h⟩ := ob h
        refine ml_isLot C hP e150 dX10_tellLots_150 ?_
        refine lv_if_eq (tgt := 191) hx hb dX10_tellLots_151 (by decide) (fun hc => ?_) (fun hc => ?_)
        · replace h := it_pos hc h
          exact wX10_tellLots_191 C hk121 h hP hS (lv_sub hl [0, 1, 2, 3] rfl)
        · replace h := it_neg hc h
          refine lv_iconst (v := 1) hx hb dX10_tellLots_154 (by decide) ?_
          refine lv_aload_n hx hb dX10_tellLots_155 rfl (lv_at hl 0 rfl) ?_
          refine mg_fewest C hP dX10_tellLots_156 ?_
          refine lv_iload_n hx hb dX10_tellLots_159 rfl (lv_at hl 1 rfl) ?_
          refine lv_iload hx hb dX10_tellLots_160 (lv_at hl 3 rfl) ?_
          refine lv_ixor hx hb dX10_tellLots_162 ?_
          obtain ⟨v163, e163, h⟩ := ob h
          refine ml_fewest C hP e163 dX10_tellLots_163 ?_
          refine lv_iadd hx hb dX10_tellLots_164 ?_
          refine lv_aload_n hx hb dX10_tellLots_165 rfl (lv_at hl 0 rfl) ?_
          refine mg_fewest C hP dX10_tellLots_166 ?_
          refine lv_iload_n hx hb dX10_tellLots_169 rfl (lv_at hl 1 rfl) ?_
          obtain ⟨v170, e170, h⟩ := ob h
          refine ml_fewest C hP e170 dX10_tellLots_170 ?_
          refine lv_icmp_ge (tgt := 191) hx hb dX10_tellLots_171 (by decide) (fun hc => ?_) (fun hc => ?_)
          · replace h := it_pos hc h
            exact wX10_tellLots_191 C hk121 h hP hS (lv_sub hl [0, 1, 2, 3] rfl)
          · replace h := it_neg hc h
            refine lv_aload_n hx hb dX10_tellLots_174 rfl (lv_at hl 0 rfl) ?_
            refine mg_fewest C hP dX10_tellLots_175 ?_
            refine lv_iload_n hx hb dX10_tellLots_178 rfl (lv_at hl 1 rfl) ?_
            refine lv_iconst (v := 1) hx hb dX10_tellLots_179 (by decide) ?_
            refine lv_aload_n hx hb dX10_tellLots_180 rfl (lv_at hl 0 rfl) ?_
            refine mg_fewest C hP dX10_tellLots_181 ?_
            refine lv_iload_n hx hb dX10_tellLots_184 rfl (lv_at hl 1 rfl) ?_
            refine lv_iload hx hb dX10_tellLots_185 (lv_at hl 3 rfl) ?_
            refine lv_ixor hx hb dX10_tellLots_187 ?_
            obtain ⟨v188, e188, h⟩ := ob h
            refine ml_fewest C hP e188 dX10_tellLots_188 ?_
            refine lv_iadd hx hb dX10_tellLots_189 ?_
            obtain ⟨u190, e190, h⟩ := ob h
            refine ms_fewest C hP hS e190 dX10_tellLots_190 (fun H locs hP hS => ?_)
            exact wX10_tellLots_191 C hk121 h hP hS (lv_sub hl [0, 1, 2, 3] rfl)
def fX10_tellLots_121 (k197 : Int32 → mS → Option (mS)) : Nat → Int32 → Int32 → Int32 → mS → Option (mS)
  | 0 => fun _ _ _ _ => none
  | n + 1 => fun x3 x4 x5 u => fX10_tellLots_121_b x3 x4 x5 u (fX10_tellLots_121 k197 n) k197 
theorem wX10_tellLots_121 (C : mC p s m args meth c cX10_tellLots 6 none D cI cZ cJ o ad A) {res : mS} {k197 : Int32 → mS → Option (mS)} (hk197 : ∀ (x3 : Int32) (u : mS) (H : Heap) (locs : List Loc) (ls : Array Slot), k197 x3 u = some res → va_P D vwCl (mW cI cZ cJ o ad u) H → va_S A s.heap H locs → lv_has ls 6 [(0, .ref o), (3, .int x3)] → W p l e rmX10_tellLots s m args below meth c H locs 0 0 (MQ below (mQv D cI cZ cJ o ad A res) args s 0 0 A) (F0 m 197 ls [])) (n : Nat) : ∀ {x3 : Int32} {x4 : Int32} {x5 : Int32} {u : mS} {H : Heap} {locs : List Loc} {ls : Array Slot}, fX10_tellLots_121 k197 n x3 x4 x5 u = some res → va_P D vwCl (mW cI cZ cJ o ad u) H → va_S A s.heap H locs → lv_has ls 6 [(0, .ref o), (3, .int x3), (4, .int x4), (5, .int x5)] → W p l e rmX10_tellLots s m args below meth c H locs 0 0 (MQ below (mQv D cI cZ cJ o ad A res) args s 0 0 A) (F0 m 121 ls []) := by
  induction n with
  | zero => intro _ _ _ _ _ _ _ h _ _ _; cases (show (none : Option (mS)) = some res from h)
  | succ n ih => intro _ _ _ _ _ _ _ h hP hS hl; exact wX10_tellLots_121_b C (fun _ _ _ _ _ _ _ h hP hS hl => ih h hP hS hl) hk197 h hP hS hl
def fX10_tellLots_92_b (x3 : Int32) (u : mS) (k92 : Int32 → mS → Option (mS)) : Option (mS) :=
  if ((1 : Int32) <<< ((u.1 41) &&& 31)) ≤ x3 then (
    some u
  ) else (
    (mU u 42 1024 x3 (1000 : Int32)).bind fun u116 =>
    fX10_tellLots_121 (fun x3 u =>
          k92 (x3 + (1 : Int32)) u) FU x3 (x3 &&& (-x3)) (x3 &&& (-x3)) u116
  )
set_option maxHeartbeats 4000000 in
set_option maxRecDepth 20000 in
theorem wX10_tellLots_92_b (C : mC p s m args meth c cX10_tellLots 6 none D cI cZ cJ o ad A) {x3 : Int32} {u : mS} {res : mS} {k92 : Int32 → mS → Option (mS)} (hk92 : ∀ (x3 : Int32) (u : mS) (H : Heap) (locs : List Loc) (ls : Array Slot), k92 x3 u = some res → va_P D vwCl (mW cI cZ cJ o ad u) H → va_S A s.heap H locs → lv_has ls 6 [(0, .ref o), (3, .int x3)] → W p l e rmX10_tellLots s m args below meth c H locs 0 0 (MQ below (mQv D cI cZ cJ o ad A res) args s 0 0 A) (F0 m 92 ls [])) (h : fX10_tellLots_92_b x3 u k92 = some res) {H : Heap} {locs : List Loc} (hP : va_P D vwCl (mW cI cZ cJ o ad u) H) (hS : va_S A s.heap H locs) {ls : Array Slot} (hl : lv_has ls 6 [(0, .ref o), (3, .int x3)]) : W p l e rmX10_tellLots s m args below meth c H locs 0 0 (MQ below (mQv D cI cZ cJ o ad A res) args s 0 0 A) (F0 m 92 ls []) := by
  have hx := C.1
  have hb := C.2.1
  unfold fX10_tellLots_92_b at h
  refine lv_iload_n hx hb dX10_tellLots_92 rfl (lv_at hl 1 rfl) ?_
  refine lv_iconst (v := 1) hx hb dX10_tellLots_93 (by decide) ?_
  refine lv_aload_n hx hb dX10_tellLots_94 rfl (lv_at hl 0 rfl) ?_
  refine mg_members C hP dX10_tellLots_95 ?_
  refine lv_ishl hx hb dX10_tellLots_98 ?_
  refine lv_icmp_ge (tgt := 203) hx hb dX10_tellLots_99 (by decide) (fun hc => ?_) (fun hc => ?_)
  · replace h := it_pos hc h
    exact mx_retv C h hP hS dX10_tellLots_203
  · replace h := it_neg hc h
    refine lv_iload_n hx hb dX10_tellLots_102 rfl (lv_at hl 1 rfl) ?_
    refine lv_iload_n hx hb dX10_tellLots_103 rfl (lv_at hl 1 rfl) ?_
    refine lv_ineg hx hb dX10_tellLots_104 ?_
    refine lv_iand hx hb dX10_tellLots_105 ?_
    refine lv_istore (lv' := [(4, .int (x3 &&& (-x3))), (0, .ref o), (3, .int x3)]) hx hb dX10_tellLots_106 hl (by decide) rfl (fun ls hl => ?_)
    refine lv_aload_n hx hb dX10_tellLots_108 rfl (lv_at hl 1 rfl) ?_
    refine mg_fewest C hP dX10_tellLots_109 ?_
    refine lv_iload_n hx hb dX10_tellLots_112 rfl (lv_at hl 2 rfl) ?_
    refine lv_sipush (v := 1000) hx hb dX10_tellLots_113 (by decide) ?_
    obtain ⟨u116, e116, h⟩ := ob h
    refine ms_fewest C hP hS e116 dX10_tellLots_116 (fun H locs hP hS => ?_)
    refine lv_iload hx hb dX10_tellLots_117 (lv_at hl 0 rfl) ?_
    refine lv_istore (lv' := [(5, .int (x3 &&& (-x3))), (4, .int (x3 &&& (-x3))), (0, .ref o), (3, .int x3)]) hx hb dX10_tellLots_119 hl (by decide) rfl (fun ls hl => ?_)
    refine wX10_tellLots_121 C ?_ FU h hP hS (lv_sub hl [2, 3, 1, 0] rfl)
    · intro x3 u H locs ls h hP hS hl
      refine lv_iinc (v := x3 + (1 : Int32)) (lv' := [(3, .int (x3 + (1 : Int32))), (0, .ref o)]) hx hb dX10_tellLots_197 hl (k := 1) rfl rfl (by decide) rfl (fun ls hl => ?_)
      refine lv_goto (tgt := 92) hx hb dX10_tellLots_200 (by decide) ?_
      exact hk92 _ _ _ _ _ h hP hS (lv_sub hl [1, 0] rfl)
def fX10_tellLots_92 : Nat → Int32 → mS → Option (mS)
  | 0 => fun _ _ => none
  | n + 1 => fun x3 u => fX10_tellLots_92_b x3 u (fX10_tellLots_92 n) 
theorem wX10_tellLots_92 (C : mC p s m args meth c cX10_tellLots 6 none D cI cZ cJ o ad A) {res : mS} (n : Nat) : ∀ {x3 : Int32} {u : mS} {H : Heap} {locs : List Loc} {ls : Array Slot}, fX10_tellLots_92 n x3 u = some res → va_P D vwCl (mW cI cZ cJ o ad u) H → va_S A s.heap H locs → lv_has ls 6 [(0, .ref o), (3, .int x3)] → W p l e rmX10_tellLots s m args below meth c H locs 0 0 (MQ below (mQv D cI cZ cJ o ad A res) args s 0 0 A) (F0 m 92 ls []) := by
  induction n with
  | zero => intro _ _ _ _ _ h _ _ _; cases (show (none : Option (mS)) = some res from h)
  | succ n ih => intro _ _ _ _ _ h hP hS hl; exact wX10_tellLots_92_b C (fun _ _ _ _ _ h hP hS hl => ih h hP hS hl) h hP hS hl
def fX10_tellLots (x1 : Int32) (x2 : Int32) (u : mS) : Option (mS) :=
  fX10_tellLots_2 (fun u =>
        (mU u 42 1024 (0 : Int32) (0 : Int32)).bind fun u89 =>
        fX10_tellLots_92  FU (1 : Int32) u89) FU x1 x2 (1 : Int32) u
set_option maxHeartbeats 4000000 in
set_option maxRecDepth 20000 in
theorem wX10_tellLots (C : mC p s m args meth c cX10_tellLots 6 none D cI cZ cJ o ad A) {x1 : Int32} {x2 : Int32} {u : mS} {res : mS} (h : fX10_tellLots x1 x2 u = some res) {H : Heap} {locs : List Loc} (hP : va_P D vwCl (mW cI cZ cJ o ad u) H) (hS : va_S A s.heap H locs) {ls : Array Slot} (hl : lv_has ls 6 [(0, .ref o), (1, .int x1), (2, .int x2)]) : W p l e rmX10_tellLots s m args below meth c H locs 0 0 (MQ below (mQv D cI cZ cJ o ad A res) args s 0 0 A) (F0 m 0 ls []) := by
  have hx := C.1
  have hb := C.2.1
  unfold fX10_tellLots at h
  refine lv_iconst (v := 1) hx hb dX10_tellLots_0 (by decide) ?_
  refine lv_istore_n (lv' := [(3, .int (1 : Int32)), (0, .ref o), (1, .int x1), (2, .int x2)]) hx hb dX10_tellLots_1 rfl hl (by decide) rfl (fun ls hl => ?_)
  refine wX10_tellLots_2 C ?_ FU h hP hS (lv_sub hl [1, 2, 3, 0] rfl)
  · intro u H locs ls h hP hS hl
    refine lv_aload_n hx hb dX10_tellLots_83 rfl (lv_at hl 0 rfl) ?_
    refine mg_fewest C hP dX10_tellLots_84 ?_
    refine lv_iconst (v := 0) hx hb dX10_tellLots_87 (by decide) ?_
    refine lv_iconst (v := 0) hx hb dX10_tellLots_88 (by decide) ?_
    obtain ⟨u89, e89, h⟩ := ob h
    refine ms_fewest C hP hS e89 dX10_tellLots_89 (fun H locs hP hS => ?_)
    refine lv_iconst (v := 1) hx hb dX10_tellLots_90 (by decide) ?_
    refine lv_istore_n (lv' := [(3, .int (1 : Int32)), (0, .ref o)]) hx hb dX10_tellLots_91 rfl hl (by decide) rfl (fun ls hl => ?_)
    exact wX10_tellLots_92 C  FU h hP hS (lv_sub hl [1, 0] rfl)
theorem tX10_tellLots {D : va_G} {cI cZ cJ : ClassId} {o : Nat} {ad : Nat → Nat} {A : Nat → Prop} {x1 : Int32} {x2 : Int32} {u : mS} {res : mS} (h : fX10_tellLots x1 x2 u = some res) : Met l yX10_tellLots (Cond.code yX10_tellLots cX10_tellLots 6 none :: gW) rmX10_tellLots (va_Pc [.ref o, .int x1, .int x2] (mPre D cI cZ cJ o ad A u)) (mQv D cI cZ cJ o ad A res) 0 0 A :=
  mx_met ⟨by decide +kernel, rfl⟩ (Nat.le_of_ble_eq_true rfl) (fun p e s m below meth c ls C hP hl => wX10_tellLots C h hP va_S.rf hl)
abbrev rmX10_firstLot : Room := { frames := 0, cells := 0, slots := 0, locals := 0 }
def fX10_firstLot_49 (x1 : Int32) (x2 : Int32) (x3 : Int32) (u : mS) (k7 : Int32 → Int32 → Int32 → mS → Option (Int32 × mS)) : Option (Int32 × mS) :=
  k7 x1 x2 (x3 + (1 : Int32)) u
set_option maxHeartbeats 4000000 in
set_option maxRecDepth 20000 in
theorem wX10_firstLot_49 (C : mC p s m args meth c cX10_firstLot 4 (some .int) D cI cZ cJ o ad A) {x1 : Int32} {x2 : Int32} {x3 : Int32} {u : mS} {res : Int32 × mS} {k7 : Int32 → Int32 → Int32 → mS → Option (Int32 × mS)} (hk7 : ∀ (x1 : Int32) (x2 : Int32) (x3 : Int32) (u : mS) (H : Heap) (locs : List Loc) (ls : Array Slot), k7 x1 x2 x3 u = some res → va_P D vwCl (mW cI cZ cJ o ad u) H → va_S A s.heap H locs → lv_has ls 4 [(0, .ref o), (1, .int x1), (2, .int x2), (3, .int x3)] → W p l e rmX10_firstLot s m args below meth c H locs 0 0 (MQ below (mQi D cI cZ cJ o ad A res) args s 0 0 A) (F0 m 7 ls [])) (h : fX10_firstLot_49 x1 x2 x3 u k7 = some res) {H : Heap} {locs : List Loc} (hP : va_P D vwCl (mW cI cZ cJ o ad u) H) (hS : va_S A s.heap H locs) {ls : Array Slot} (hl : lv_has ls 4 [(0, .ref o), (1, .int x1), (2, .int x2), (3, .int x3)]) : W p l e rmX10_firstLot s m args below meth c H locs 0 0 (MQ below (mQi D cI cZ cJ o ad A res) args s 0 0 A) (F0 m 49 ls []) := by
  have hx := C.1
  have hb := C.2.1
  unfold fX10_firstLot_49 at h
  refine lv_iinc (v := x3 + (1 : Int32)) (lv' := [(3, .int (x3 + (1 : Int32))), (0, .ref o), (1, .int x1), (2, .int x2)]) hx hb dX10_firstLot_49 hl (k := 3) rfl rfl (by decide) rfl (fun ls hl => ?_)
  refine lv_goto (tgt := 7) hx hb dX10_firstLot_52 (by decide) ?_
  exact hk7 _ _ _ _ _ _ _ h hP hS (lv_sub hl [1, 2, 3, 0] rfl)
def fX10_firstLot_7_b (x1 : Int32) (x2 : Int32) (x3 : Int32) (u : mS) (k7 : Int32 → Int32 → Int32 → mS → Option (Int32 × mS)) : Option (Int32 × mS) :=
  if (x3 &&& (x1 ^^^ (-1 : Int32))) = 0 then (
    if (x3 &&& x2) = 0 then (
      fX10_firstLot_49 x1 x2 x3 u k7
    ) else (
      (mR u 43 1024 x3).bind fun v26 =>
      if v26 = 0 then (
        fX10_firstLot_49 x1 x2 x3 u k7
      ) else (
        (mR u 42 1024 (x1 ^^^ x3)).bind fun v38 =>
        (mR u 42 1024 x1).bind fun v45 =>
        if ((1 : Int32) + v38) = v45 then (
          some (x3, u)
        ) else (
          fX10_firstLot_49 x1 x2 x3 u k7
        )
      )
    )
  ) else (
    fX10_firstLot_49 x1 x2 x3 u k7
  )
set_option maxHeartbeats 4000000 in
set_option maxRecDepth 20000 in
theorem wX10_firstLot_7_b (C : mC p s m args meth c cX10_firstLot 4 (some .int) D cI cZ cJ o ad A) {x1 : Int32} {x2 : Int32} {x3 : Int32} {u : mS} {res : Int32 × mS} {k7 : Int32 → Int32 → Int32 → mS → Option (Int32 × mS)} (hk7 : ∀ (x1 : Int32) (x2 : Int32) (x3 : Int32) (u : mS) (H : Heap) (locs : List Loc) (ls : Array Slot), k7 x1 x2 x3 u = some res → va_P D vwCl (mW cI cZ cJ o ad u) H → va_S A s.heap H locs → lv_has ls 4 [(0, .ref o), (1, .int x1), (2, .int x2), (3, .int x3)] → W p l e rmX10_firstLot s m args below meth c H locs 0 0 (MQ below (mQi D cI cZ cJ o ad A res) args s 0 0 A) (F0 m 7 ls [])) (h : fX10_firstLot_7_b x1 x2 x3 u k7 = some res) {H : Heap} {locs : List Loc} (hP : va_P D vwCl (mW cI cZ cJ o ad u) H) (hS : va_S A s.heap H locs) {ls : Array Slot} (hl : lv_has ls 4 [(0, .ref o), (1, .int x1), (2, .int x2), (3, .int x3)]) : W p l e rmX10_firstLot s m args below meth c H locs 0 0 (MQ below (mQi D cI cZ cJ o ad A res) args s 0 0 A) (F0 m 7 ls []) := by
  have hx := C.1
  have hb := C.2.1
  unfold fX10_firstLot_7_b at h
  refine lv_iload_n hx hb dX10_firstLot_7 rfl (lv_at hl 3 rfl) ?_
  refine lv_iload_n hx hb dX10_firstLot_8 rfl (lv_at hl 1 rfl) ?_
  refine lv_iconst (v := -1) hx hb dX10_firstLot_9 (by decide) ?_
  refine lv_ixor hx hb dX10_firstLot_10 ?_
  refine lv_iand hx hb dX10_firstLot_11 ?_
  refine lv_if_ne (tgt := 49) hx hb dX10_firstLot_12 (by decide) (fun hc => ?_) (fun hc => ?_)
  · replace h := it_neg hc h
    exact wX10_firstLot_49 C hk7 h hP hS (lv_sub hl [0, 1, 2, 3] rfl)
  · replace h := it_pos hc h
    refine lv_iload_n hx hb dX10_firstLot_15 rfl (lv_at hl 3 rfl) ?_
    refine lv_iload_n hx hb dX10_firstLot_16 rfl (lv_at hl 2 rfl) ?_
    refine lv_iand hx hb dX10_firstLot_17 ?_
    refine lv_if_eq (tgt := 49) hx hb dX10_firstLot_18 (by decide) (fun hc => ?_) (fun hc => ?_)
    · replace h := it_pos hc h
      exact wX10_firstLot_49 C hk7 h hP hS (lv_sub hl [0, 1, 2, 3] rfl)
    · replace h := it_neg hc h
      refine lv_aload_n hx hb dX10_firstLot_21 rfl (lv_at hl 0 rfl) ?_
      refine mg_isLot C hP dX10_firstLot_22 ?_
      refine lv_iload_n hx hb dX10_firstLot_25 rfl (lv_at hl 3 rfl) ?_
      obtain ⟨v26, e26, h⟩ := ob h
      refine ml_isLot C hP e26 dX10_firstLot_26 ?_
      refine lv_if_eq (tgt := 49) hx hb dX10_firstLot_27 (by decide) (fun hc => ?_) (fun hc => ?_)
      · replace h := it_pos hc h
        exact wX10_firstLot_49 C hk7 h hP hS (lv_sub hl [0, 1, 2, 3] rfl)
      · replace h := it_neg hc h
        refine lv_iconst (v := 1) hx hb dX10_firstLot_30 (by decide) ?_
        refine lv_aload_n hx hb dX10_firstLot_31 rfl (lv_at hl 0 rfl) ?_
        refine mg_fewest C hP dX10_firstLot_32 ?_
        refine lv_iload_n hx hb dX10_firstLot_35 rfl (lv_at hl 1 rfl) ?_
        refine lv_iload_n hx hb dX10_firstLot_36 rfl (lv_at hl 3 rfl) ?_
        refine lv_ixor hx hb dX10_firstLot_37 ?_
        obtain ⟨v38, e38, h⟩ := ob h
        refine ml_fewest C hP e38 dX10_firstLot_38 ?_
        refine lv_iadd hx hb dX10_firstLot_39 ?_
        refine lv_aload_n hx hb dX10_firstLot_40 rfl (lv_at hl 0 rfl) ?_
        refine mg_fewest C hP dX10_firstLot_41 ?_
        refine lv_iload_n hx hb dX10_firstLot_44 rfl (lv_at hl 1 rfl) ?_
        obtain ⟨v45, e45, h⟩ := ob h
        refine ml_fewest C hP e45 dX10_firstLot_45 ?_
        refine lv_icmp_eq (tgt := 55) hx hb dX10_firstLot_46 (by decide) (fun hc => ?_) (fun hc => ?_)
        · replace h := it_pos hc h
          refine lv_iload_n hx hb dX10_firstLot_55 rfl (lv_at hl 3 rfl) ?_
          exact mx_reti C h hP hS dX10_firstLot_56
        · replace h := it_neg hc h
          exact wX10_firstLot_49 C hk7 h hP hS (lv_sub hl [0, 1, 2, 3] rfl)
def fX10_firstLot_7 : Nat → Int32 → Int32 → Int32 → mS → Option (Int32 × mS)
  | 0 => fun _ _ _ _ => none
  | n + 1 => fun x1 x2 x3 u => fX10_firstLot_7_b x1 x2 x3 u (fX10_firstLot_7 n) 
theorem wX10_firstLot_7 (C : mC p s m args meth c cX10_firstLot 4 (some .int) D cI cZ cJ o ad A) {res : Int32 × mS} (n : Nat) : ∀ {x1 : Int32} {x2 : Int32} {x3 : Int32} {u : mS} {H : Heap} {locs : List Loc} {ls : Array Slot}, fX10_firstLot_7 n x1 x2 x3 u = some res → va_P D vwCl (mW cI cZ cJ o ad u) H → va_S A s.heap H locs → lv_has ls 4 [(0, .ref o), (1, .int x1), (2, .int x2), (3, .int x3)] → W p l e rmX10_firstLot s m args below meth c H locs 0 0 (MQ below (mQi D cI cZ cJ o ad A res) args s 0 0 A) (F0 m 7 ls []) := by
  induction n with
  | zero => intro _ _ _ _ _ _ _ h _ _ _; cases (show (none : Option (Int32 × mS)) = some res from h)
  | succ n ih => intro _ _ _ _ _ _ _ h hP hS hl; exact wX10_firstLot_7_b C (fun _ _ _ _ _ _ _ h hP hS hl => ih h hP hS hl) h hP hS hl
def fX10_firstLot (x1 : Int32) (u : mS) : Option (Int32 × mS) :=
  fX10_firstLot_7  FU x1 (x1 &&& (-x1)) (x1 &&& (-x1)) u
set_option maxHeartbeats 4000000 in
set_option maxRecDepth 20000 in
theorem wX10_firstLot (C : mC p s m args meth c cX10_firstLot 4 (some .int) D cI cZ cJ o ad A) {x1 : Int32} {u : mS} {res : Int32 × mS} (h : fX10_firstLot x1 u = some res) {H : Heap} {locs : List Loc} (hP : va_P D vwCl (mW cI cZ cJ o ad u) H) (hS : va_S A s.heap H locs) {ls : Array Slot} (hl : lv_has ls 4 [(0, .ref o), (1, .int x1)]) : W p l e rmX10_firstLot s m args below meth c H locs 0 0 (MQ below (mQi D cI cZ cJ o ad A res) args s 0 0 A) (F0 m 0 ls []) := by
  have hx := C.1
  have hb := C.2.1
  unfold fX10_firstLot at h
  refine lv_iload_n hx hb dX10_firstLot_0 rfl (lv_at hl 1 rfl) ?_
  refine lv_iload_n hx hb dX10_firstLot_1 rfl (lv_at hl 1 rfl) ?_
  refine lv_ineg hx hb dX10_firstLot_2 ?_
  refine lv_iand hx hb dX10_firstLot_3 ?_
  refine lv_istore_n (lv' := [(2, .int (x1 &&& (-x1))), (0, .ref o), (1, .int x1)]) hx hb dX10_firstLot_4 rfl hl (by decide) rfl (fun ls hl => ?_)
  refine lv_iload_n hx hb dX10_firstLot_5 rfl (lv_at hl 0 rfl) ?_
  refine lv_istore_n (lv' := [(3, .int (x1 &&& (-x1))), (2, .int (x1 &&& (-x1))), (0, .ref o), (1, .int x1)]) hx hb dX10_firstLot_6 rfl hl (by decide) rfl (fun ls hl => ?_)
  exact wX10_firstLot_7 C  FU h hP hS (lv_sub hl [2, 3, 1, 0] rfl)
theorem tX10_firstLot {D : va_G} {cI cZ cJ : ClassId} {o : Nat} {ad : Nat → Nat} {A : Nat → Prop} {x1 : Int32} {u : mS} {res : Int32 × mS} (h : fX10_firstLot x1 u = some res) : Met l yX10_firstLot (Cond.code yX10_firstLot cX10_firstLot 4 (some .int) :: gW) rmX10_firstLot (va_Pc [.ref o, .int x1] (mPre D cI cZ cJ o ad A u)) (mQi D cI cZ cJ o ad A res) 0 0 A :=
  mx_met ⟨by decide +kernel, rfl⟩ (Nat.le_of_ble_eq_true rfl) (fun p e s m below meth c ls C hP hl => wX10_firstLot C h hP va_S.rf hl)
abbrev rmX10_lots : Room := { frames := 2, cells := 0, slots := 0, locals := 47 }
def fX10_lots_117 (x1 : Int32) (x2 : Int32) (x3 : Int32) (x4 : Int32) (x5 : Int32) (u : mS) (k77 : Int32 → Int32 → Int32 → Int32 → Int32 → mS → Option (Int32 × mS)) : Option (Int32 × mS) :=
  k77 x1 x2 x3 x4 (x5 + (1 : Int32)) u
set_option maxHeartbeats 4000000 in
set_option maxRecDepth 20000 in
theorem wX10_lots_117 (C : mC p s m args meth c cX10_lots 9 (some .int) D cI cZ cJ o ad A) {x1 : Int32} {x2 : Int32} {x3 : Int32} {x4 : Int32} {x5 : Int32} {u : mS} {res : Int32 × mS} {k77 : Int32 → Int32 → Int32 → Int32 → Int32 → mS → Option (Int32 × mS)} (hk77 : ∀ (x1 : Int32) (x2 : Int32) (x3 : Int32) (x4 : Int32) (x5 : Int32) (u : mS) (H : Heap) (locs : List Loc) (ls : Array Slot), k77 x1 x2 x3 x4 x5 u = some res → va_P D vwCl (mW cI cZ cJ o ad u) H → va_S A s.heap H locs → lv_has ls 9 [(0, .ref o), (1, .int x1), (2, .int x2), (3, .int x3), (4, .int x4), (5, .int x5)] → W p l e rmX10_lots s m args below meth c H locs 0 0 (MQ below (mQi D cI cZ cJ o ad A res) args s 0 0 A) (F0 m 77 ls [])) (h : fX10_lots_117 x1 x2 x3 x4 x5 u k77 = some res) {H : Heap} {locs : List Loc} (hP : va_P D vwCl (mW cI cZ cJ o ad u) H) (hS : va_S A s.heap H locs) {ls : Array Slot} (hl : lv_has ls 9 [(0, .ref o), (1, .int x1), (2, .int x2), (3, .int x3), (4, .int x4), (5, .int x5)]) : W p l e rmX10_lots s m args below meth c H locs 0 0 (MQ below (mQi D cI cZ cJ o ad A res) args s 0 0 A) (F0 m 117 ls []) := by
  have hx := C.1
  have hb := C.2.1
  unfold fX10_lots_117 at h
  refine lv_iinc (v := x5 + (1 : Int32)) (lv' := [(5, .int (x5 + (1 : Int32))), (0, .ref o), (1, .int x1), (2, .int x2), (3, .int x3), (4, .int x4)]) hx hb dX10_lots_117 hl (k := 5) rfl rfl (by decide) rfl (fun ls hl => ?_)
  refine lv_goto (tgt := 77) hx hb dX10_lots_120 (by decide) ?_
  exact hk77 _ _ _ _ _ _ _ _ _ h hP hS (lv_sub hl [1, 2, 3, 4, 5, 0] rfl)
def fX10_lots_77_b (x1 : Int32) (x2 : Int32) (x3 : Int32) (x4 : Int32) (x5 : Int32) (u : mS) (k77 : Int32 → Int32 → Int32 → Int32 → Int32 → mS → Option (Int32 × mS)) (k123 : Int32 → Int32 → Int32 → mS → Option (Int32 × mS)) : Option (Int32 × mS) :=
  if (u.1 2) ≤ x5 then (
    k123 x2 x3 x4 u
  ) else (
    if ((x1 >>> (x5 &&& 31)) &&& (1 : Int32)) = (1 : Int32) then (
      (mU u 40 10 (u.1 41) x5).bind fun u106 =>
      pU (mF u106 41 ((u106.1 41) + (1 : Int32))) fun u114 =>
      fX10_lots_117 x1 x2 x3 x4 x5 u114 k77
    ) else (
      fX10_lots_117 x1 x2 x3 x4 x5 u k77
    )
  )
set_option maxHeartbeats 4000000 in
set_option maxRecDepth 20000 in
theorem wX10_lots_77_b (C : mC p s m args meth c cX10_lots 9 (some .int) D cI cZ cJ o ad A) {x1 : Int32} {x2 : Int32} {x3 : Int32} {x4 : Int32} {x5 : Int32} {u : mS} {res : Int32 × mS} {k77 : Int32 → Int32 → Int32 → Int32 → Int32 → mS → Option (Int32 × mS)} {k123 : Int32 → Int32 → Int32 → mS → Option (Int32 × mS)} (hk77 : ∀ (x1 : Int32) (x2 : Int32) (x3 : Int32) (x4 : Int32) (x5 : Int32) (u : mS) (H : Heap) (locs : List Loc) (ls : Array Slot), k77 x1 x2 x3 x4 x5 u = some res → va_P D vwCl (mW cI cZ cJ o ad u) H → va_S A s.heap H locs → lv_has ls 9 [(0, .ref o), (1, .int x1), (2, .int x2), (3, .int x3), (4, .int x4), (5, .int x5)] → W p l e rmX10_lots s m args below meth c H locs 0 0 (MQ below (mQi D cI cZ cJ o ad A res) args s 0 0 A) (F0 m 77 ls [])) (hk123 : ∀ (x2 : Int32) (x3 : Int32) (x4 : Int32) (u : mS) (H : Heap) (locs : List Loc) (ls : Array Slot), k123 x2 x3 x4 u = some res → va_P D vwCl (mW cI cZ cJ o ad u) H → va_S A s.heap H locs → lv_has ls 9 [(0, .ref o), (2, .int x2), (3, .int x3), (4, .int x4)] → W p l e rmX10_lots s m args below meth c H locs 0 0 (MQ below (mQi D cI cZ cJ o ad A res) args s 0 0 A) (F0 m 123 ls [])) (h : fX10_lots_77_b x1 x2 x3 x4 x5 u k77 k123 = some res) {H : Heap} {locs : List Loc} (hP : va_P D vwCl (mW cI cZ cJ o ad u) H) (hS : va_S A s.heap H locs) {ls : Array Slot} (hl : lv_has ls 9 [(0, .ref o), (1, .int x1), (2, .int x2), (3, .int x3), (4, .int x4), (5, .int x5)]) : W p l e rmX10_lots s m args below meth c H locs 0 0 (MQ below (mQi D cI cZ cJ o ad A res) args s 0 0 A) (F0 m 77 ls []) := by
  have hx := C.1
  have hb := C.2.1
  unfold fX10_lots_77_b at h
  refine lv_iload hx hb dX10_lots_77 (lv_at hl 5 rfl) ?_
  refine lv_aload_n hx hb dX10_lots_79 rfl (lv_at hl 0 rfl) ?_
  refine mg_things C hP dX10_lots_80 ?_
  refine lv_icmp_ge (tgt := 123) hx hb dX10_lots_83 (by decide) (fun hc => ?_) (fun hc => ?_)
  · replace h := it_pos hc h
    exact hk123 _ _ _ _ _ _ _ h hP hS (lv_sub hl [0, 2, 3, 4] rfl)
  · replace h := it_neg hc h
    refine lv_iload_n hx hb dX10_lots_86 rfl (lv_at hl 1 rfl) ?_
    refine lv_iload hx hb dX10_lots_87 (lv_at hl 5 rfl) ?_
    refine lv_ishr hx hb dX10_lots_89 ?_
    refine lv_iconst (v := 1) hx hb dX10_lots_90 (by decide) ?_
    refine lv_iand hx hb dX10_lots_91 ?_
    refine lv_iconst (v := 1) hx hb dX10_lots_92 (by decide) ?_
    refine lv_icmp_ne (tgt := 117) hx hb dX10_lots_93 (by decide) (fun hc => ?_) (fun hc => ?_)
    · replace h := it_neg hc h
      exact wX10_lots_117 C hk77 h hP hS (lv_sub hl [0, 1, 2, 3, 4, 5] rfl)
    · replace h := it_pos hc h
      refine lv_aload_n hx hb dX10_lots_96 rfl (lv_at hl 0 rfl) ?_
      refine mg_member C hP dX10_lots_97 ?_
      refine lv_aload_n hx hb dX10_lots_100 rfl (lv_at hl 0 rfl) ?_
      refine mg_members C hP dX10_lots_101 ?_
      refine lv_iload hx hb dX10_lots_104 (lv_at hl 5 rfl) ?_
      obtain ⟨u106, e106, h⟩ := ob h
      refine ms_member C hP hS e106 dX10_lots_106 (fun H locs hP hS => ?_)
      refine lv_aload_n hx hb dX10_lots_107 rfl (lv_at hl 0 rfl) ?_
      refine lv_dup hx hb dX10_lots_108 rfl ?_
      refine mg_members C hP dX10_lots_109 ?_
      refine lv_iconst (v := 1) hx hb dX10_lots_112 (by decide) ?_
      refine lv_iadd hx hb dX10_lots_113 ?_
      obtain ⟨u114, e114, h⟩ := op h
      refine mp_members C hP hS e114 dX10_lots_114 (fun H locs hP hS => ?_)
      exact wX10_lots_117 C hk77 h hP hS (lv_sub hl [0, 1, 2, 3, 4, 5] rfl)
def fX10_lots_77 (k123 : Int32 → Int32 → Int32 → mS → Option (Int32 × mS)) : Nat → Int32 → Int32 → Int32 → Int32 → Int32 → mS → Option (Int32 × mS)
  | 0 => fun _ _ _ _ _ _ => none
  | n + 1 => fun x1 x2 x3 x4 x5 u => fX10_lots_77_b x1 x2 x3 x4 x5 u (fX10_lots_77 k123 n) k123 
theorem wX10_lots_77 (C : mC p s m args meth c cX10_lots 9 (some .int) D cI cZ cJ o ad A) {res : Int32 × mS} {k123 : Int32 → Int32 → Int32 → mS → Option (Int32 × mS)} (hk123 : ∀ (x2 : Int32) (x3 : Int32) (x4 : Int32) (u : mS) (H : Heap) (locs : List Loc) (ls : Array Slot), k123 x2 x3 x4 u = some res → va_P D vwCl (mW cI cZ cJ o ad u) H → va_S A s.heap H locs → lv_has ls 9 [(0, .ref o), (2, .int x2), (3, .int x3), (4, .int x4)] → W p l e rmX10_lots s m args below meth c H locs 0 0 (MQ below (mQi D cI cZ cJ o ad A res) args s 0 0 A) (F0 m 123 ls [])) (n : Nat) : ∀ {x1 : Int32} {x2 : Int32} {x3 : Int32} {x4 : Int32} {x5 : Int32} {u : mS} {H : Heap} {locs : List Loc} {ls : Array Slot}, fX10_lots_77 k123 n x1 x2 x3 x4 x5 u = some res → va_P D vwCl (mW cI cZ cJ o ad u) H → va_S A s.heap H locs → lv_has ls 9 [(0, .ref o), (1, .int x1), (2, .int x2), (3, .int x3), (4, .int x4), (5, .int x5)] → W p l e rmX10_lots s m args below meth c H locs 0 0 (MQ below (mQi D cI cZ cJ o ad A res) args s 0 0 A) (F0 m 77 ls []) := by
  induction n with
  | zero => intro _ _ _ _ _ _ _ _ _ h _ _ _; cases (show (none : Option (Int32 × mS)) = some res from h)
  | succ n ih => intro _ _ _ _ _ _ _ _ _ h hP hS hl; exact wX10_lots_77_b C (fun _ _ _ _ _ _ _ _ _ h hP hS hl => ih h hP hS hl) hk123 h hP hS hl
def fX10_lots_189_b (x4 : Int32) (x5 : Int32) (x6 : Int32) (x7 : Int32) (u : mS) (k189 : Int32 → Int32 → Int32 → Int32 → mS → Option (Int32 × mS)) (k217 : Int32 → mS → Option (Int32 × mS)) : Option (Int32 × mS) :=
  if x4 ≤ x7 then (
    k217 x6 u
  ) else (
    bI (fX10_firstLot x5 u) fun r199 u199 =>
    k189 x4 (x5 ^^^ r199) r199 (x7 + (1 : Int32)) u199
  )
set_option maxHeartbeats 4000000 in
set_option maxRecDepth 20000 in
theorem wX10_lots_189_b (C : mC p s m args meth c cX10_lots 9 (some .int) D cI cZ cJ o ad A) {x4 : Int32} {x5 : Int32} {x6 : Int32} {x7 : Int32} {u : mS} {res : Int32 × mS} {k189 : Int32 → Int32 → Int32 → Int32 → mS → Option (Int32 × mS)} {k217 : Int32 → mS → Option (Int32 × mS)} (hk189 : ∀ (x4 : Int32) (x5 : Int32) (x6 : Int32) (x7 : Int32) (u : mS) (H : Heap) (locs : List Loc) (ls : Array Slot), k189 x4 x5 x6 x7 u = some res → va_P D vwCl (mW cI cZ cJ o ad u) H → va_S A s.heap H locs → lv_has ls 9 [(0, .ref o), (4, .int x4), (5, .int x5), (6, .int x6), (7, .int x7)] → W p l e rmX10_lots s m args below meth c H locs 0 0 (MQ below (mQi D cI cZ cJ o ad A res) args s 0 0 A) (F0 m 189 ls [])) (hk217 : ∀ (x6 : Int32) (u : mS) (H : Heap) (locs : List Loc) (ls : Array Slot), k217 x6 u = some res → va_P D vwCl (mW cI cZ cJ o ad u) H → va_S A s.heap H locs → lv_has ls 9 [(0, .ref o), (6, .int x6)] → W p l e rmX10_lots s m args below meth c H locs 0 0 (MQ below (mQi D cI cZ cJ o ad A res) args s 0 0 A) (F0 m 217 ls [])) (h : fX10_lots_189_b x4 x5 x6 x7 u k189 k217 = some res) {H : Heap} {locs : List Loc} (hP : va_P D vwCl (mW cI cZ cJ o ad u) H) (hS : va_S A s.heap H locs) {ls : Array Slot} (hl : lv_has ls 9 [(0, .ref o), (4, .int x4), (5, .int x5), (6, .int x6), (7, .int x7)]) : W p l e rmX10_lots s m args below meth c H locs 0 0 (MQ below (mQi D cI cZ cJ o ad A res) args s 0 0 A) (F0 m 189 ls []) := by
  have hx := C.1
  have hb := C.2.1
  unfold fX10_lots_189_b at h
  refine lv_iload hx hb dX10_lots_189 (lv_at hl 4 rfl) ?_
  refine lv_iload hx hb dX10_lots_191 (lv_at hl 1 rfl) ?_
  refine lv_icmp_ge (tgt := 217) hx hb dX10_lots_193 (by decide) (fun hc => ?_) (fun hc => ?_)
  · replace h := it_pos hc h
    exact hk217 _ _ _ _ _ h hP hS (lv_sub hl [0, 3] rfl)
  · replace h := it_neg hc h
    refine lv_aload_n hx hb dX10_lots_196 rfl (lv_at hl 0 rfl) ?_
    refine lv_iload hx hb dX10_lots_197 (lv_at hl 2 rfl) ?_
    obtain ⟨r199, u199, e199, h⟩ := obI h
    refine mx_cVi C hP hS [.int x5] (tX10_firstLot e199) qX10_220 ⟨rfl, rfl, Nat.le_of_ble_eq_true rfl, Nat.le_of_ble_eq_true rfl⟩ rfl hl.1 rfl (Nat.le_of_ble_eq_true rfl) dX10_lots_199 (fun H locs hP hS => ?_)
    refine lv_istore (lv' := [(6, .int r199), (0, .ref o), (4, .int x4), (5, .int x5), (7, .int x7)]) hx hb dX10_lots_202 hl (by decide) rfl (fun ls hl => ?_)
    refine lv_iload hx hb dX10_lots_204 (lv_at hl 3 rfl) ?_
    refine lv_iload hx hb dX10_lots_206 (lv_at hl 0 rfl) ?_
    refine lv_ixor hx hb dX10_lots_208 ?_
    refine lv_istore (lv' := [(5, .int (x5 ^^^ r199)), (6, .int r199), (0, .ref o), (4, .int x4), (7, .int x7)]) hx hb dX10_lots_209 hl (by decide) rfl (fun ls hl => ?_)
    refine lv_iinc (v := x7 + (1 : Int32)) (lv' := [(7, .int (x7 + (1 : Int32))), (5, .int (x5 ^^^ r199)), (6, .int r199), (0, .ref o), (4, .int x4)]) hx hb dX10_lots_211 hl (k := 4) rfl rfl (by decide) rfl (fun ls hl => ?_)
    refine lv_goto (tgt := 189) hx hb dX10_lots_214 (by decide) ?_
    exact hk189 _ _ _ _ _ _ _ _ h hP hS (lv_sub hl [3, 4, 1, 2, 0] rfl)
def fX10_lots_189 (k217 : Int32 → mS → Option (Int32 × mS)) : Nat → Int32 → Int32 → Int32 → Int32 → mS → Option (Int32 × mS)
  | 0 => fun _ _ _ _ _ => none
  | n + 1 => fun x4 x5 x6 x7 u => fX10_lots_189_b x4 x5 x6 x7 u (fX10_lots_189 k217 n) k217 
theorem wX10_lots_189 (C : mC p s m args meth c cX10_lots 9 (some .int) D cI cZ cJ o ad A) {res : Int32 × mS} {k217 : Int32 → mS → Option (Int32 × mS)} (hk217 : ∀ (x6 : Int32) (u : mS) (H : Heap) (locs : List Loc) (ls : Array Slot), k217 x6 u = some res → va_P D vwCl (mW cI cZ cJ o ad u) H → va_S A s.heap H locs → lv_has ls 9 [(0, .ref o), (6, .int x6)] → W p l e rmX10_lots s m args below meth c H locs 0 0 (MQ below (mQi D cI cZ cJ o ad A res) args s 0 0 A) (F0 m 217 ls [])) (n : Nat) : ∀ {x4 : Int32} {x5 : Int32} {x6 : Int32} {x7 : Int32} {u : mS} {H : Heap} {locs : List Loc} {ls : Array Slot}, fX10_lots_189 k217 n x4 x5 x6 x7 u = some res → va_P D vwCl (mW cI cZ cJ o ad u) H → va_S A s.heap H locs → lv_has ls 9 [(0, .ref o), (4, .int x4), (5, .int x5), (6, .int x6), (7, .int x7)] → W p l e rmX10_lots s m args below meth c H locs 0 0 (MQ below (mQi D cI cZ cJ o ad A res) args s 0 0 A) (F0 m 189 ls []) := by
  induction n with
  | zero => intro _ _ _ _ _ _ _ _ h _ _ _; cases (show (none : Option (Int32 × mS)) = some res from h)
  | succ n ih => intro _ _ _ _ _ _ _ _ h hP hS hl; exact wX10_lots_189_b C (fun _ _ _ _ _ _ _ _ h hP hS hl => ih h hP hS hl) hk217 h hP hS hl
def fX10_lots_258 (x6 : Int32) (x8 : Int32) (s0 : Int32) (s1 : Int32) (u : mS) (k223 : Int32 → Int32 → Int32 → mS → Option (Int32 × mS)) : Option (Int32 × mS) :=
  k223 x6 (s0 ||| s1) (x8 + (1 : Int32)) u
set_option maxHeartbeats 4000000 in
set_option maxRecDepth 20000 in
theorem wX10_lots_258 (C : mC p s m args meth c cX10_lots 9 (some .int) D cI cZ cJ o ad A) {x6 : Int32} {x8 : Int32} {s0 : Int32} {s1 : Int32} {u : mS} {res : Int32 × mS} {k223 : Int32 → Int32 → Int32 → mS → Option (Int32 × mS)} (hk223 : ∀ (x6 : Int32) (x7 : Int32) (x8 : Int32) (u : mS) (H : Heap) (locs : List Loc) (ls : Array Slot), k223 x6 x7 x8 u = some res → va_P D vwCl (mW cI cZ cJ o ad u) H → va_S A s.heap H locs → lv_has ls 9 [(0, .ref o), (6, .int x6), (7, .int x7), (8, .int x8)] → W p l e rmX10_lots s m args below meth c H locs 0 0 (MQ below (mQi D cI cZ cJ o ad A res) args s 0 0 A) (F0 m 223 ls [])) (h : fX10_lots_258 x6 x8 s0 s1 u k223 = some res) {H : Heap} {locs : List Loc} (hP : va_P D vwCl (mW cI cZ cJ o ad u) H) (hS : va_S A s.heap H locs) {ls : Array Slot} (hl : lv_has ls 9 [(0, .ref o), (6, .int x6), (8, .int x8)]) : W p l e rmX10_lots s m args below meth c H locs 0 0 (MQ below (mQi D cI cZ cJ o ad A res) args s 0 0 A) (F0 m 258 ls [.int s1, .int s0]) := by
  have hx := C.1
  have hb := C.2.1
  unfold fX10_lots_258 at h
  refine lv_ior hx hb dX10_lots_258 ?_
  refine lv_istore (lv' := [(7, .int (s0 ||| s1)), (0, .ref o), (6, .int x6), (8, .int x8)]) hx hb dX10_lots_259 hl (by decide) rfl (fun ls hl => ?_)
  refine lv_iinc (v := x8 + (1 : Int32)) (lv' := [(8, .int (x8 + (1 : Int32))), (7, .int (s0 ||| s1)), (0, .ref o), (6, .int x6)]) hx hb dX10_lots_261 hl (k := 3) rfl rfl (by decide) rfl (fun ls hl => ?_)
  refine lv_goto (tgt := 223) hx hb dX10_lots_264 (by decide) ?_
  exact hk223 _ _ _ _ _ _ _ h hP hS (lv_sub hl [2, 3, 1, 0] rfl)
def fX10_lots_223_b (x6 : Int32) (x7 : Int32) (x8 : Int32) (u : mS) (k223 : Int32 → Int32 → Int32 → mS → Option (Int32 × mS)) : Option (Int32 × mS) :=
  if (u.1 41) ≤ x8 then (
    some (x7, u)
  ) else (
    if ((x6 >>> (x8 &&& 31)) &&& (1 : Int32)) = (1 : Int32) then (
      (mR u 40 10 x8).bind fun v252 =>
      fX10_lots_258 x6 x8 x7 ((1 : Int32) <<< (v252 &&& 31)) u k223
    ) else (
      fX10_lots_258 x6 x8 x7 (0 : Int32) u k223
    )
  )
set_option maxHeartbeats 4000000 in
set_option maxRecDepth 20000 in
theorem wX10_lots_223_b (C : mC p s m args meth c cX10_lots 9 (some .int) D cI cZ cJ o ad A) {x6 : Int32} {x7 : Int32} {x8 : Int32} {u : mS} {res : Int32 × mS} {k223 : Int32 → Int32 → Int32 → mS → Option (Int32 × mS)} (hk223 : ∀ (x6 : Int32) (x7 : Int32) (x8 : Int32) (u : mS) (H : Heap) (locs : List Loc) (ls : Array Slot), k223 x6 x7 x8 u = some res → va_P D vwCl (mW cI cZ cJ o ad u) H → va_S A s.heap H locs → lv_has ls 9 [(0, .ref o), (6, .int x6), (7, .int x7), (8, .int x8)] → W p l e rmX10_lots s m args below meth c H locs 0 0 (MQ below (mQi D cI cZ cJ o ad A res) args s 0 0 A) (F0 m 223 ls [])) (h : fX10_lots_223_b x6 x7 x8 u k223 = some res) {H : Heap} {locs : List Loc} (hP : va_P D vwCl (mW cI cZ cJ o ad u) H) (hS : va_S A s.heap H locs) {ls : Array Slot} (hl : lv_has ls 9 [(0, .ref o), (6, .int x6), (7, .int x7), (8, .int x8)]) : W p l e rmX10_lots s m args below meth c H locs 0 0 (MQ below (mQi D cI cZ cJ o ad A res) args s 0 0 A) (F0 m 223 ls []) := by
  have hx := C.1
  have hb := C.2.1
  unfold fX10_lots_223_b at h
  refine lv_iload hx hb dX10_lots_223 (lv_at hl 3 rfl) ?_
  refine lv_aload_n hx hb dX10_lots_225 rfl (lv_at hl 0 rfl) ?_
  refine mg_members C hP dX10_lots_226 ?_
  refine lv_icmp_ge (tgt := 267) hx hb dX10_lots_229 (by decide) (fun hc => ?_) (fun hc => ?_)
  · replace h := it_pos hc h
    refine lv_iload hx hb dX10_lots_267 (lv_at hl 2 rfl) ?_
    exact mx_reti C h hP hS dX10_lots_269
  · replace h := it_neg hc h
    refine lv_iload hx hb dX10_lots_232 (lv_at hl 2 rfl) ?_
    refine lv_iload hx hb dX10_lots_234 (lv_at hl 1 rfl) ?_
    refine lv_iload hx hb dX10_lots_236 (lv_at hl 3 rfl) ?_
    refine lv_ishr hx hb dX10_lots_238 ?_
    refine lv_iconst (v := 1) hx hb dX10_lots_239 (by decide) ?_
    refine lv_iand hx hb dX10_lots_240 ?_
    refine lv_iconst (v := 1) hx hb dX10_lots_241 (by decide) ?_
    refine lv_icmp_ne (tgt := 257) hx hb dX10_lots_242 (by decide) (fun hc => ?_) (fun hc => ?_)
    · replace h := it_neg hc h
      refine lv_iconst (v := 0) hx hb dX10_lots_257 (by decide) ?_
      exact wX10_lots_258 C hk223 h hP hS (lv_sub hl [0, 1, 3] rfl)
    · replace h := it_pos hc h
      refine lv_iconst (v := 1) hx hb dX10_lots_245 (by decide) ?_
      refine lv_aload_n hx hb dX10_lots_246 rfl (lv_at hl 0 rfl) ?_
      refine mg_member C hP dX10_lots_247 ?_
      refine lv_iload hx hb dX10_lots_250 (lv_at hl 3 rfl) ?_
      obtain ⟨v252, e252, h⟩ := ob h
      refine ml_member C hP e252 dX10_lots_252 ?_
      refine lv_ishl hx hb dX10_lots_253 ?_
      refine lv_goto (tgt := 258) hx hb dX10_lots_254 (by decide) ?_
      exact wX10_lots_258 C hk223 h hP hS (lv_sub hl [0, 1, 3] rfl)
def fX10_lots_223 : Nat → Int32 → Int32 → Int32 → mS → Option (Int32 × mS)
  | 0 => fun _ _ _ _ => none
  | n + 1 => fun x6 x7 x8 u => fX10_lots_223_b x6 x7 x8 u (fX10_lots_223 n) 
theorem wX10_lots_223 (C : mC p s m args meth c cX10_lots 9 (some .int) D cI cZ cJ o ad A) {res : Int32 × mS} (n : Nat) : ∀ {x6 : Int32} {x7 : Int32} {x8 : Int32} {u : mS} {H : Heap} {locs : List Loc} {ls : Array Slot}, fX10_lots_223 n x6 x7 x8 u = some res → va_P D vwCl (mW cI cZ cJ o ad u) H → va_S A s.heap H locs → lv_has ls 9 [(0, .ref o), (6, .int x6), (7, .int x7), (8, .int x8)] → W p l e rmX10_lots s m args below meth c H locs 0 0 (MQ below (mQi D cI cZ cJ o ad A res) args s 0 0 A) (F0 m 223 ls []) := by
  induction n with
  | zero => intro _ _ _ _ _ _ _ h _ _ _; cases (show (none : Option (Int32 × mS)) = some res from h)
  | succ n ih => intro _ _ _ _ _ _ _ h hP hS hl; exact wX10_lots_223_b C (fun _ _ _ _ _ _ _ h hP hS hl => ih h hP hS hl) h hP hS hl
def fX10_lots (x1 : Int32) (x2 : Int32) (x3 : Int32) (x4 : Int32) (u : mS) : Option (Int32 × mS) :=
  bI (fX10_isSet x1 u) fun r2 u2 =>
  if r2 = 0 then (
    bI (fX10_finding (1 : Int32) u2) fun r35 u35 =>
    some (r35, u35)
  ) else (
    bI (fX10_isIn x2 (0 : Int32) (100000 : Int32) u2) fun r12 u12 =>
    if r12 = 0 then (
      bI (fX10_finding (1 : Int32) u12) fun r35 u35 =>
      some (r35, u35)
    ) else (
      bI (fX10_isIn x3 x2 (100000 : Int32) u12) fun r22 u22 =>
      if r22 = 0 then (
        bI (fX10_finding (1 : Int32) u22) fun r35 u35 =>
        some (r35, u35)
      ) else (
        if 0 ≤ x4 then (
          if x1 = 0 then (
            bI (fX10_finding (3 : Int32) u22) fun r65 u65 =>
            some (r65, u65)
          ) else (
            bI (fX10_ones x1 u22) fun r44 u44 =>
            if (10 : Int32) < r44 then (
              bI (fX10_finding (3 : Int32) u44) fun r65 u65 =>
              some (r65, u65)
            ) else (
              bI (fX10_allSellable u44) fun r54 u54 =>
              if (x1 &&& (r54 ^^^ (-1 : Int32))) = 0 then (
                pU (mF u54 41 (0 : Int32)) fun u71 =>
                fX10_lots_77 (fun x2 x3 x4 u =>
                      (fX10_tellLots x2 x3 u).bind fun u126 =>
                      pU (((1 : Int32) <<< ((u126.1 41) &&& 31)) - (1 : Int32)) fun z137 =>
                      (mR u126 42 1024 z137).bind fun v145 =>
                      if (1000 : Int32) ≤ v145 then (
                        bI (fX10_finding (2 : Int32) u126) fun r166 u166 =>
                        some (r166, u166)
                      ) else (
                        (mR u126 42 1024 z137).bind fun v160 =>
                        if x4 ≤ v160 then (
                          if x4 = 0 then (
                            (mR u126 42 1024 z137).bind fun v181 =>
                            some (v181, u126)
                          ) else (
                            fX10_lots_189 (fun x6 u =>
                                  fX10_lots_223  FU x6 (0 : Int32) (0 : Int32) u) FU x4 z137 (0 : Int32) (0 : Int32) u126
                          )
                        ) else (
                          bI (fX10_finding (2 : Int32) u126) fun r166 u166 =>
                          some (r166, u166)
                        )
                      )) FU x1 x2 x3 x4 (0 : Int32) u71
              ) else (
                bI (fX10_finding (3 : Int32) u54) fun r65 u65 =>
                some (r65, u65)
              )
            )
          )
        ) else (
          bI (fX10_finding (1 : Int32) u22) fun r35 u35 =>
          some (r35, u35)
        )
      )
    )
  )
set_option maxHeartbeats 4000000 in
set_option maxRecDepth 20000 in
theorem wX10_lots (C : mC p s m args meth c cX10_lots 9 (some .int) D cI cZ cJ o ad A) {x1 : Int32} {x2 : Int32} {x3 : Int32} {x4 : Int32} {u : mS} {res : Int32 × mS} (h : fX10_lots x1 x2 x3 x4 u = some res) {H : Heap} {locs : List Loc} (hP : va_P D vwCl (mW cI cZ cJ o ad u) H) (hS : va_S A s.heap H locs) {ls : Array Slot} (hl : lv_has ls 9 [(0, .ref o), (1, .int x1), (2, .int x2), (3, .int x3), (4, .int x4)]) : W p l e rmX10_lots s m args below meth c H locs 0 0 (MQ below (mQi D cI cZ cJ o ad A res) args s 0 0 A) (F0 m 0 ls []) := by
  have hx := C.1
  have hb := C.2.1
  unfold fX10_lots at h
  refine lv_aload_n hx hb dX10_lots_0 rfl (lv_at hl 0 rfl) ?_
  refine lv_iload_n hx hb dX10_lots_1 rfl (lv_at hl 1 rfl) ?_
  obtain ⟨r2, u2, e2, h⟩ := obI h
  refine mx_cVi C hP hS [.int x1] (tX10_isSet e2) qX10_204 ⟨rfl, rfl, Nat.le_of_ble_eq_true rfl, Nat.le_of_ble_eq_true rfl⟩ rfl hl.1 rfl (Nat.le_of_ble_eq_true rfl) dX10_lots_2 (fun H locs hP hS => ?_)
  refine lv_if_eq (tgt := 33) hx hb dX10_lots_5 (by decide) (fun hc => ?_) (fun hc => ?_)
  · replace h := it_pos hc h
    refine lv_aload_n hx hb dX10_lots_33 rfl (lv_at hl 0 rfl) ?_
    refine lv_iconst (v := 1) hx hb dX10_lots_34 (by decide) ?_
    obtain ⟨r35, u35, e35, h⟩ := obI h
    refine mx_cVi C hP hS [.int (1 : Int32)] (tX10_finding e35) qX10_138 ⟨rfl, rfl, Nat.le_of_ble_eq_true rfl, Nat.le_of_ble_eq_true rfl⟩ rfl hl.1 rfl (Nat.le_of_ble_eq_true rfl) dX10_lots_35 (fun H locs hP hS => ?_)
    exact mx_reti C h hP hS dX10_lots_38
  · replace h := it_neg hc h
    refine lv_iload_n hx hb dX10_lots_8 rfl (lv_at hl 2 rfl) ?_
    refine lv_iconst (v := 0) hx hb dX10_lots_9 (by decide) ?_
    refine lv_ldc (v := 100000) hx hb C.2.2.2.1 (C.2.2.2.2.1 _ kcX10_207) dX10_lots_10 ?_
    obtain ⟨r12, u12, e12, h⟩ := obI h
    refine mx_cSi C hP hS [.int x2, .int (0 : Int32), .int (100000 : Int32)] (tX10_isIn e12) qX10_131 ⟨rfl, rfl, Nat.le_of_ble_eq_true rfl, Nat.le_of_ble_eq_true rfl⟩ rfl hl.1 rfl (Nat.le_of_ble_eq_true rfl) dX10_lots_12 (fun H locs hP hS => ?_)
    refine lv_if_eq (tgt := 33) hx hb dX10_lots_15 (by decide) (fun hc => ?_) (fun hc => ?_)
    · replace h := it_pos hc h
      refine lv_aload_n hx hb dX10_lots_33 rfl (lv_at hl 0 rfl) ?_
      refine lv_iconst (v := 1) hx hb dX10_lots_34 (by decide) ?_
      obtain ⟨r35, u35, e35, h⟩ := obI h
      refine mx_cVi C hP hS [.int (1 : Int32)] (tX10_finding e35) qX10_138 ⟨rfl, rfl, Nat.le_of_ble_eq_true rfl, Nat.le_of_ble_eq_true rfl⟩ rfl hl.1 rfl (Nat.le_of_ble_eq_true rfl) dX10_lots_35 (fun H locs hP hS => ?_)
      exact mx_reti C h hP hS dX10_lots_38
    · replace h := it_neg hc h
      refine lv_iload_n hx hb dX10_lots_18 rfl (lv_at hl 3 rfl) ?_
      refine lv_iload_n hx hb dX10_lots_19 rfl (lv_at hl 2 rfl) ?_
      refine lv_ldc (v := 100000) hx hb C.2.2.2.1 (C.2.2.2.2.1 _ kcX10_207) dX10_lots_20 ?_
      obtain ⟨r22, u22, e22, h⟩ := obI h
      refine mx_cSi C hP hS [.int x3, .int x2, .int (100000 : Int32)] (tX10_isIn e22) qX10_131 ⟨rfl, rfl, Nat.le_of_ble_eq_true rfl, Nat.le_of_ble_eq_true rfl⟩ rfl hl.1 rfl (Nat.le_of_ble_eq_true rfl) dX10_lots_22 (fun H locs hP hS => ?_)
      refine lv_if_eq (tgt := 33) hx hb dX10_lots_25 (by decide) (fun hc => ?_) (fun hc => ?_)
      · replace h := it_pos hc h
        refine lv_aload_n hx hb dX10_lots_33 rfl (lv_at hl 0 rfl) ?_
        refine lv_iconst (v := 1) hx hb dX10_lots_34 (by decide) ?_
        obtain ⟨r35, u35, e35, h⟩ := obI h
        refine mx_cVi C hP hS [.int (1 : Int32)] (tX10_finding e35) qX10_138 ⟨rfl, rfl, Nat.le_of_ble_eq_true rfl, Nat.le_of_ble_eq_true rfl⟩ rfl hl.1 rfl (Nat.le_of_ble_eq_true rfl) dX10_lots_35 (fun H locs hP hS => ?_)
        exact mx_reti C h hP hS dX10_lots_38
      · replace h := it_neg hc h
        refine lv_iload hx hb dX10_lots_28 (lv_at hl 4 rfl) ?_
        refine lv_if_ge (tgt := 39) hx hb dX10_lots_30 (by decide) (fun hc => ?_) (fun hc => ?_)
        · replace h := it_pos hc h
          refine lv_iload_n hx hb dX10_lots_39 rfl (lv_at hl 1 rfl) ?_
          refine lv_if_eq (tgt := 63) hx hb dX10_lots_40 (by decide) (fun hc => ?_) (fun hc => ?_)
          · replace h := it_pos hc h
            refine lv_aload_n hx hb dX10_lots_63 rfl (lv_at hl 0 rfl) ?_
            refine lv_iconst (v := 3) hx hb dX10_lots_64 (by decide) ?_
            obtain ⟨r65, u65, e65, h⟩ := obI h
            refine mx_cVi C hP hS [.int (3 : Int32)] (tX10_finding e65) qX10_138 ⟨rfl, rfl, Nat.le_of_ble_eq_true rfl, Nat.le_of_ble_eq_true rfl⟩ rfl hl.1 rfl (Nat.le_of_ble_eq_true rfl) dX10_lots_65 (fun H locs hP hS => ?_)
            exact mx_reti C h hP hS dX10_lots_68
          · replace h := it_neg hc h
            refine lv_iload_n hx hb dX10_lots_43 rfl (lv_at hl 1 rfl) ?_
            obtain ⟨r44, u44, e44, h⟩ := obI h
            refine mx_cSi C hP hS [.int x1] (tX10_ones e44) qX10_208 ⟨rfl, rfl, Nat.le_of_ble_eq_true rfl, Nat.le_of_ble_eq_true rfl⟩ rfl hl.1 rfl (Nat.le_of_ble_eq_true rfl) dX10_lots_44 (fun H locs hP hS => ?_)
            refine lv_bipush (v := 10) hx hb dX10_lots_47 (by decide) ?_
            refine lv_icmp_gt (tgt := 63) hx hb dX10_lots_49 (by decide) (fun hc => ?_) (fun hc => ?_)
            · replace h := it_pos hc h
              refine lv_aload_n hx hb dX10_lots_63 rfl (lv_at hl 0 rfl) ?_
              refine lv_iconst (v := 3) hx hb dX10_lots_64 (by decide) ?_
              obtain ⟨r65, u65, e65, h⟩ := obI h
              refine mx_cVi C hP hS [.int (3 : Int32)] (tX10_finding e65) qX10_138 ⟨rfl, rfl, Nat.le_of_ble_eq_true rfl, Nat.le_of_ble_eq_true rfl⟩ rfl hl.1 rfl (Nat.le_of_ble_eq_true rfl) dX10_lots_65 (fun H locs hP hS => ?_)
              exact mx_reti C h hP hS dX10_lots_68
            · replace h := it_neg hc h
              refine lv_iload_n hx hb dX10_lots_52 rfl (lv_at hl 1 rfl) ?_
              refine lv_aload_n hx hb dX10_lots_53 rfl (lv_at hl 0 rfl) ?_
              obtain ⟨r54, u54, e54, h⟩ := obI h
              refine mx_cVi C hP hS [] (tX10_allSellable e54) qX10_201 ⟨rfl, rfl, Nat.le_of_ble_eq_true rfl, Nat.le_of_ble_eq_true rfl⟩ rfl hl.1 rfl (Nat.le_of_ble_eq_true rfl) dX10_lots_54 (fun H locs hP hS => ?_)
              refine lv_iconst (v := -1) hx hb dX10_lots_57 (by decide) ?_
              refine lv_ixor hx hb dX10_lots_58 ?_
              refine lv_iand hx hb dX10_lots_59 ?_
              refine lv_if_eq (tgt := 69) hx hb dX10_lots_60 (by decide) (fun hc => ?_) (fun hc => ?_)
              · replace h := it_pos hc h
                refine lv_aload_n hx hb dX10_lots_69 rfl (lv_at hl 0 rfl) ?_
                refine lv_iconst (v := 0) hx hb dX10_lots_70 (by decide) ?_
                obtain ⟨u71, e71, h⟩ := op h
                refine mp_members C hP hS e71 dX10_lots_71 (fun H locs hP hS => ?_)
                refine lv_iconst (v := 0) hx hb dX10_lots_74 (by decide) ?_
                refine lv_istore (lv' := [(5, .int (0 : Int32)), (0, .ref o), (1, .int x1), (2, .int x2), (3, .int x3), (4, .int x4)]) hx hb dX10_lots_75 hl (by decide) rfl (fun ls hl => ?_)
                refine wX10_lots_77 C ?_ FU h hP hS (lv_sub hl [1, 2, 3, 4, 5, 0] rfl)
                · intro x2 x3 x4 u H locs ls h hP hS hl
                  refine lv_aload_n hx hb dX10_lots_123 rfl (lv_at hl 0 rfl) ?_
                  refine lv_iload_n hx hb dX10_lots_124 rfl (lv_at hl 1 rfl) ?_
                  refine lv_iload_n hx hb dX10_lots_125 rfl (lv_at hl 2 rfl) ?_
                  obtain ⟨u126, e126, h⟩ := ob h
                  refine mx_cVv C hP hS [.int x2, .int x3] (tX10_tellLots e126) qX10_217 ⟨rfl, rfl, Nat.le_of_ble_eq_true rfl, Nat.le_of_ble_eq_true rfl⟩ rfl hl.1 rfl (Nat.le_of_ble_eq_true rfl) dX10_lots_126 (fun H locs hP hS => ?_)
                  refine lv_iconst (v := 1) hx hb dX10_lots_129 (by decide) ?_
                  refine lv_aload_n hx hb dX10_lots_130 rfl (lv_at hl 0 rfl) ?_
                  refine mg_members C hP dX10_lots_131 ?_
                  refine lv_ishl hx hb dX10_lots_134 ?_
                  refine lv_iconst (v := 1) hx hb dX10_lots_135 (by decide) ?_
                  refine lv_isub hx hb dX10_lots_136 ?_
                  obtain ⟨z137, ez137, h⟩ := op h
                  refine mx_topI ez137 ?_
                  refine lv_istore (lv' := [(5, .int z137), (0, .ref o), (2, .int x2), (3, .int x3), (4, .int x4)]) hx hb dX10_lots_137 hl (by decide) rfl (fun ls hl => ?_)
                  refine lv_aload_n hx hb dX10_lots_139 rfl (lv_at hl 1 rfl) ?_
                  refine mg_fewest C hP dX10_lots_140 ?_
                  refine lv_iload hx hb dX10_lots_143 (lv_at hl 0 rfl) ?_
                  obtain ⟨v145, e145, h⟩ := ob h
                  refine ml_fewest C hP e145 dX10_lots_145 ?_
                  refine lv_sipush (v := 1000) hx hb dX10_lots_146 (by decide) ?_
                  refine lv_icmp_ge (tgt := 164) hx hb dX10_lots_149 (by decide) (fun hc => ?_) (fun hc => ?_)
                  · replace h := it_pos hc h
                    refine lv_aload_n hx hb dX10_lots_164 rfl (lv_at hl 1 rfl) ?_
                    refine lv_iconst (v := 2) hx hb dX10_lots_165 (by decide) ?_
                    obtain ⟨r166, u166, e166, h⟩ := obI h
                    refine mx_cVi C hP hS [.int (2 : Int32)] (tX10_finding e166) qX10_138 ⟨rfl, rfl, Nat.le_of_ble_eq_true rfl, Nat.le_of_ble_eq_true rfl⟩ rfl hl.1 rfl (Nat.le_of_ble_eq_true rfl) dX10_lots_166 (fun H locs hP hS => ?_)
                    exact mx_reti C h hP hS dX10_lots_169
                  · replace h := it_neg hc h
                    refine lv_iload hx hb dX10_lots_152 (lv_at hl 4 rfl) ?_
                    refine lv_aload_n hx hb dX10_lots_154 rfl (lv_at hl 1 rfl) ?_
                    refine mg_fewest C hP dX10_lots_155 ?_
                    refine lv_iload hx hb dX10_lots_158 (lv_at hl 0 rfl) ?_
                    obtain ⟨v160, e160, h⟩ := ob h
                    refine ml_fewest C hP e160 dX10_lots_160 ?_
                    refine lv_icmp_le (tgt := 170) hx hb dX10_lots_161 (by decide) (fun hc => ?_) (fun hc => ?_)
                    · replace h := it_pos hc h
                      refine lv_iload hx hb dX10_lots_170 (lv_at hl 4 rfl) ?_
                      refine lv_if_ne (tgt := 183) hx hb dX10_lots_172 (by decide) (fun hc => ?_) (fun hc => ?_)
                      · replace h := it_neg hc h
                        refine lv_iconst (v := 0) hx hb dX10_lots_183 (by decide) ?_
                        refine lv_istore (lv' := [(6, .int (0 : Int32)), (5, .int z137), (0, .ref o), (2, .int x2), (3, .int x3), (4, .int x4)]) hx hb dX10_lots_184 hl (by decide) rfl (fun ls hl => ?_)
                        refine lv_iconst (v := 0) hx hb dX10_lots_186 (by decide) ?_
                        refine lv_istore (lv' := [(7, .int (0 : Int32)), (6, .int (0 : Int32)), (5, .int z137), (0, .ref o), (2, .int x2), (3, .int x3), (4, .int x4)]) hx hb dX10_lots_187 hl (by decide) rfl (fun ls hl => ?_)
                        refine wX10_lots_189 C ?_ FU h hP hS (lv_sub hl [3, 6, 2, 1, 0] rfl)
                        · intro x6 u H locs ls h hP hS hl
                          refine lv_iconst (v := 0) hx hb dX10_lots_217 (by decide) ?_
                          refine lv_istore (lv' := [(7, .int (0 : Int32)), (0, .ref o), (6, .int x6)]) hx hb dX10_lots_218 hl (by decide) rfl (fun ls hl => ?_)
                          refine lv_iconst (v := 0) hx hb dX10_lots_220 (by decide) ?_
                          refine lv_istore (lv' := [(8, .int (0 : Int32)), (7, .int (0 : Int32)), (0, .ref o), (6, .int x6)]) hx hb dX10_lots_221 hl (by decide) rfl (fun ls hl => ?_)
                          exact wX10_lots_223 C  FU h hP hS (lv_sub hl [2, 3, 1, 0] rfl)
                      · replace h := it_pos hc h
                        refine lv_aload_n hx hb dX10_lots_175 rfl (lv_at hl 1 rfl) ?_
                        refine mg_fewest C hP dX10_lots_176 ?_
                        refine lv_iload hx hb dX10_lots_179 (lv_at hl 0 rfl) ?_
                        obtain ⟨v181, e181, h⟩ := ob h
                        refine ml_fewest C hP e181 dX10_lots_181 ?_
                        exact mx_reti C h hP hS dX10_lots_182
                    · replace h := it_neg hc h
                      refine lv_aload_n hx hb dX10_lots_164 rfl (lv_at hl 1 rfl) ?_
                      refine lv_iconst (v := 2) hx hb dX10_lots_165 (by decide) ?_
                      obtain ⟨r166, u166, e166, h⟩ := obI h
                      refine mx_cVi C hP hS [.int (2 : Int32)] (tX10_finding e166) qX10_138 ⟨rfl, rfl, Nat.le_of_ble_eq_true rfl, Nat.le_of_ble_eq_true rfl⟩ rfl hl.1 rfl (Nat.le_of_ble_eq_true rfl) dX10_lots_166 (fun H locs hP hS => ?_)
                      exact mx_reti C h hP hS dX10_lots_169
              · replace h := it_neg hc h
                refine lv_aload_n hx hb dX10_lots_63 rfl (lv_at hl 0 rfl) ?_
                refine lv_iconst (v := 3) hx hb dX10_lots_64 (by decide) ?_
                obtain ⟨r65, u65, e65, h⟩ := obI h
                refine mx_cVi C hP hS [.int (3 : Int32)] (tX10_finding e65) qX10_138 ⟨rfl, rfl, Nat.le_of_ble_eq_true rfl, Nat.le_of_ble_eq_true rfl⟩ rfl hl.1 rfl (Nat.le_of_ble_eq_true rfl) dX10_lots_65 (fun H locs hP hS => ?_)
                exact mx_reti C h hP hS dX10_lots_68
        · replace h := it_neg hc h
          refine lv_aload_n hx hb dX10_lots_33 rfl (lv_at hl 0 rfl) ?_
          refine lv_iconst (v := 1) hx hb dX10_lots_34 (by decide) ?_
          obtain ⟨r35, u35, e35, h⟩ := obI h
          refine mx_cVi C hP hS [.int (1 : Int32)] (tX10_finding e35) qX10_138 ⟨rfl, rfl, Nat.le_of_ble_eq_true rfl, Nat.le_of_ble_eq_true rfl⟩ rfl hl.1 rfl (Nat.le_of_ble_eq_true rfl) dX10_lots_35 (fun H locs hP hS => ?_)
          exact mx_reti C h hP hS dX10_lots_38
theorem tX10_lots {D : va_G} {cI cZ cJ : ClassId} {o : Nat} {ad : Nat → Nat} {A : Nat → Prop} {x1 : Int32} {x2 : Int32} {x3 : Int32} {x4 : Int32} {u : mS} {res : Int32 × mS} (h : fX10_lots x1 x2 x3 x4 u = some res) : Met l yX10_lots (Cond.code yX10_lots cX10_lots 9 (some .int) :: gW) rmX10_lots (va_Pc [.ref o, .int x1, .int x2, .int x3, .int x4] (mPre D cI cZ cJ o ad A u)) (mQi D cI cZ cJ o ad A res) 0 0 A :=
  mx_met ⟨by decide +kernel, rfl⟩ (Nat.le_of_ble_eq_true rfl) (fun p e s m below meth c ls C hP hl => wX10_lots C h hP va_S.rf hl)
end
