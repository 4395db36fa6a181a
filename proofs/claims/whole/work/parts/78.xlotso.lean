/-! lots -/
theorem bc_pos {x n : Nat} (hx : x < 2 ^ n) (h0 : ¬ x = 0) : 0 < bc x n := by
  obtain ⟨t, q, e⟩ := odd_pt x (by omega)
  have ht : t < n := pt_lt (by rw [← e]; exact hx)
  have := bc_lt (x := x) ht (by rw [e, tb_s, if_neg (Nat.lt_irrefl t), if_pos rfl])
  omega
theorem rs_b {ok : Nat → Bool} {m : Nat} (hm : m ≤ 10) : ∀ d s, s < 2 ^ m → d + 1 ≤ tv (stR ok) s → tv (stR ok) s < 1000 → bl ok (tv (stC ok)) (rs ok d s) < 2 ^ m := by
  intro d
  induction d with
  | zero =>
    intro s hs h1 h2
    obtain ⟨r1, r2, r3, r4, r5⟩ := rs_w hm hs (by omega) h2
    show bl ok (tv (stC ok)) s < 2 ^ m
    omega
  | succ d ih =>
    intro s hs h1 h2
    obtain ⟨r1, r2, r3, r4, r5⟩ := rs_w hm hs (by omega) h2
    exact ih (s ^^^ bl ok (tv (stC ok)) s) r2 (by omega) (by omega)
section LO
variable {z : Nat → Nat} {h : Nat} {A : Nat → Nat → Nat → Nat} {M : Nat → Nat → Nat} {I : Nat → Nat → Int32} {T : Nat → Nat → Nat → Int32} {J : Nat → Nat → Int64} {rl : Nat → Nat × Nat × Nat} {G : gM} {N k : Nat} {v : mS}
theorem ie_n (R : Mem z h A M I T J rl G N) : fJx4a65c_isEmpty_aae02 (A 2 3 0) G = some (if nI (M 0 3) = 0 then 1 else 0, G) := by
  unfold fJx4a65c_isEmpty_aae02
  rw [R.l2 (show 3 < 4 by decide), ob_s]
  by_cases q : nI (M 0 3) = 0
  · rw [if_pos q, if_pos q]
  · rw [if_neg q, if_neg q]
theorem op_lots (R : Mem z h A M I T J rl G N) (E : tie k M I T v) {s0 : Nat} (a1 a2 a3 a4 : Int32) : OkN z h k N s0 (fX9_lots z h a1 a2 a3 a4 (G, N, s0)) (fX10_lots a1 a2 a3 a4 v) := by
  have hb := E.b0
  have n10 : ¬ (1 : Int32) = 0 := by decide
  rcases set_c R E a1 with ⟨e1, e2⟩ | ⟨x, hx, rfl, e1, e2⟩
  · simp only [fX9_lots, R.o10, ob_s, bI_s, cN_s, e1, i10, if_false]
    unfold fX10_lots
    rw [e2, bI_s, if_pos rfl]
    exact fdn R E 1 (by decide) rfl
  · have hp : 2 ^ M 0 0 ≤ 2 ^ 20 := pw2 hb
    rcases wc a2 0 100000 G v with ⟨e3, e4⟩ | ⟨e3, e4, h3, h4⟩
    · simp only [fX9_lots, R.o10, ob_s, bI_s, cN_s, e1, e3, if_true]
      unfold fX10_lots
      rw [e2, bI_s, if_neg n10, e4, bI_s, if_pos rfl]
      exact fdn R E 1 (by decide) rfl
    · rcases wc a3 a2 100000 G v with ⟨e5, e6⟩ | ⟨e5, e6, h5, h6⟩
      · simp only [fX9_lots, R.o10, ob_s, bI_s, cN_s, e1, e3, e5, i10, if_true, if_false]
        unfold fX10_lots
        rw [e2, bI_s, if_neg n10, e4, bI_s, if_neg n10, e6, bI_s, if_pos rfl]
        exact fdn R E 1 (by decide) rfl
      · obtain ⟨lo, hlo, rfl⟩ := rg_n (n := 100000) (by decide) ⟨h3, h4⟩
        obtain ⟨hi, hhi, rfl⟩ : rB a3 100000 := rg_w (lo := nI lo) (by decide) (by rw [nI_toInt (by omega)]; omega) h5 h6
        by_cases q0 : 0 ≤ a4
        · obtain ⟨wh, hwh, rfl⟩ := nI_of (Int32.not_lt.mpr q0)
          obtain ⟨A1, M1, I1, rl1, G1, N1, s1, f1, ⟨f2, f3⟩, R1, f4, f5, f6, C⟩ := cho_n R (x := x) (by omega) hb s0
          have E1 : tie k M1 I1 T v := tie_cho (A' := A1) f5 f6 E
          have m00 : M1 0 0 = M 0 0 := f6 0 0 (by decide) (by decide) (by decide)
          have hx31 : x < 2 ^ 31 := by omega
          have b20 : bc x 20 = bc x (M 0 0) := by rw [show 20 = M 0 0 + (20 - M 0 0) by omega, bc_hi hx]
          have hbm := bc_le x (M 0 0)
          have ie := ie_n R1
          rw [C.1] at ie
          have cl0 : fX9_lots z h (nI x) (nI lo) (nI hi) (nI wh) (G, N, s0) = fX9_lots_44 z h (nI x) (nI lo) (nI hi) (nI wh) (G1, N1, s1) := by
            simp only [fX9_lots, R.o10, ob_s, bI_s, cN_s, e1, e3, e5, i10, if_true, if_false, if_pos q0, f1]
          have rf0 : ∀ X, fX10_lots (nI x) (nI lo) (nI hi) (nI wh) v = X ↔ (if nI x = 0 then (bI (fX10_finding (3 : Int32) v) fun r65 u65 => some (r65, u65)) else (bI (fX10_ones (nI x) v) fun r44 u44 => if (10 : Int32) < r44 then (bI (fX10_finding (3 : Int32) u44) fun r65 u65 => some (r65, u65)) else (bI (fX10_allSellable u44) fun r54 u54 => if (nI x &&& (r54 ^^^ (-1 : Int32))) = 0 then (pU (mF u54 41 (0 : Int32)) fun u71 => fX10_lots_77 (fun x2 x3 x4 u => (fX10_tellLots x2 x3 u).bind fun u126 => pU (((1 : Int32) <<< ((u126.1 41) &&& 31)) - (1 : Int32)) fun z137 => (mR u126 42 1024 z137).bind fun v145 => if (1000 : Int32) ≤ v145 then (bI (fX10_finding (2 : Int32) u126) fun r166 u166 => some (r166, u166)) else ((mR u126 42 1024 z137).bind fun v160 => if x4 ≤ v160 then (if x4 = 0 then ((mR u126 42 1024 z137).bind fun v181 => some (v181, u126)) else (fX10_lots_189 (fun x6 u => fX10_lots_223 FU x6 (0 : Int32) (0 : Int32) u) FU x4 z137 (0 : Int32) (0 : Int32) u126)) else (bI (fX10_finding (2 : Int32) u126) fun r166 u166 => some (r166, u166)))) FU (nI x) (nI lo) (nI hi) (nI wh) (0 : Int32) u71) else (bI (fX10_finding (3 : Int32) u54) fun r65 u65 => some (r65, u65))))) = X := fun X => by
            unfold fX10_lots
            rw [e2, bI_s, if_neg n10, e4, bI_s, if_neg n10, e6, bI_s, if_neg n10, if_pos q0]
          by_cases q1 : x = 0
          · have z1 : nI x = 0 := by rw [q1]; rfl
            have z2 : bc x (M 0 0) = 0 := by rw [q1]; exact bc_lo _ (fun j _ => by simp)
            have hm : fX10_lots (nI x) (nI lo) (nI hi) (nI wh) v = bI (fX10_finding 3 v) fun r u => some (r, u) := by
              rw [rf0, if_pos z1]
            rw [z2, if_pos (show nI 0 = 0 from rfl)] at ie
            rw [hm, cl0]
            simp only [fX9_lots_44, R1.f7, R1.lo (show 3 < 4 by decide), ob_s, cN_s, ie, bI_s, i10, if_false, R1.o10]
            exact fdn2 R1 E1 (by omega) (by omega) 3 (by decide) rfl
          · have z1 : ¬ nI x = 0 := by rw [nI_z (by omega)]; exact q1
            have hpos := bc_pos hx q1
            have on := ones_n hx31 v
            rw [b20] at on
            rw [if_neg (nI_ne0 hpos (by omega))] at ie
            by_cases q2 : 10 < bc x (M 0 0)
            · have l1 : (10 : Int32) < nI (bc x (M 0 0)) := nI_lt (a := 10) q2 (by omega)
              have hm : fX10_lots (nI x) (nI lo) (nI hi) (nI wh) v = bI (fX10_finding 3 v) fun r u => some (r, u) := by
                rw [rf0, if_neg z1, on, bI_s, if_pos l1]
              rw [hm, cl0]
              simp only [fX9_lots_44, R1.f7, R1.lo (show 3 < 4 by decide), ob_s, cN_s, ie, bI_s, if_true, R1.o10, sz_n R1 (show 3 < 4 by decide), C.1, if_pos l1]
              exact fdn2 R1 E1 (by omega) (by omega) 3 (by decide) rfl
            · have l1 : ¬ (10 : Int32) < nI (bc x (M 0 0)) := nI_nlt (a := 10) (by omega) (by decide)
              have ok := sell_ok (I := I1) hx hb
              have am := aS_m E1
              rw [m00] at am
              have cm : fX9_chosenMayBeSold h G1 = some (if allf (fun i => decide (¬ ms I1 i = 0)) x (M 0 0) 0 = true then 1 else 0, G1) := cms_l R1 C (fun i hi => by
                obtain ⟨-, -, -, -, -, -, rk, -⟩ := E1.Th (show i < M1 0 0 by omega)
                exact rk) (M 0 0) 0 FU (by omega) (fuel (by omega))
              by_cases q3 : allf (fun i => decide (¬ ms I1 i = 0)) x (M 0 0) 0 = true
              · have ok' : nI x &&& (aS I1 (M 0 0) ^^^ (-1 : Int32)) = 0 := by rw [ok]; exact q3
                rw [if_pos q3] at cm
                generalize hmm : bc x (M 0 0) = m at *
                have C1 : M1 0 3 = m := by rw [C.1, hmm]
                have hm10 : m ≤ 10 := by omega
                have hpm : 2 ^ m ≤ 2 ^ 10 := pw2 hm10
                have hp0 := Nat.two_pow_pos m
                have hf : ∀ j, j < m → I1 13 (M1 3 j) = nI ((I1 13 (M1 3 j)).toNatClampNeg) ∧ (I1 13 (M1 3 j)).toNatClampNeg ≤ 10000 := fun j hj => by
                  have h7 : M1 3 j < M1 2 0 := R1.b.2.2.2.2 j (by rw [C1]; exact hj)
                  rw [E1.e0] at h7
                  obtain ⟨-, -, -, -, -, -, -, -, -, rv, -⟩ := E1.Th h7
                  obtain ⟨p, hp1, ep⟩ := rv
                  rw [ep, nI_clamp (by omega)]
                  exact ⟨rfl, hp1⟩
                have hcb : ∀ u, cs (fun j => (I1 13 (M1 3 j)).toNatClampNeg) u m ≤ 100000 := fun u => by
                  have h1 := cs_b2 (f := fun j => (I1 13 (M1 3 j)).toNatClampNeg) (s := u) m (fun i hi => (hf i hi).2)
                  have h2 : 10000 * m ≤ 10000 * 10 := Nat.mul_le_mul_left _ hm10
                  omega
                obtain ⟨I2, G2, pn, R2, pi, cT2⟩ := pt_n R1 (f := fun j => (I1 13 (M1 3 j)).toNatClampNeg) hm10 hlo hhi C1 (fun j hj => (hf j hj).1) hcb
                obtain ⟨v1, w1, w2, w3, w4, w5⟩ := mb_l hx31 hb (by omega) (nI lo) (nI hi) (nI wh) (M 0 0) 0 FU (mF v 41 0) (by omega) (fuel (by omega)) (by show v.1 2 = _; rw [E1.1.1.2.2.1, m00]) rfl (fun i hi => absurd hi (Nat.not_lt_zero _))
                have Bm : mbr m (fun j => M1 3 j) (fun j => (I1 13 (M1 3 j)).toNatClampNeg) v1 := by
                  refine ⟨by rw [w4, hmm], fun j hj => ?_⟩
                  obtain ⟨i, i1, i2, i3⟩ := bc_k (x := x) (k := j) (M 0 0) (by rw [hmm]; exact hj)
                  have c2 := C.2.1 i i1 i2
                  rw [i3] at c2
                  have w6 := w5 i i1 i2
                  rw [i3] at w6
                  have g7 := (E1.Th (show i < M1 0 0 by omega)).1.2.2.2.1
                  have hfj := hf j hj
                  show v1.2.1 40 j = nI (M1 3 j) ∧ M1 3 j < 20 ∧ v1.2.1 7 (M1 3 j) = nI ((I1 13 (M1 3 j)).toNatClampNeg) ∧ _
                  refine ⟨by rw [w6, c2], by rw [c2]; omega, ?_, hfj.2⟩
                  rw [← hfj.1, c2, w3 7 (by decide)]
                  exact g7
                obtain ⟨v2, t1, t2, t3, lT⟩ := tl_n hm10 hlo hhi Bm
                have r36 : ∀ r, r < 36 → v2.1 r = v.1 r := fun r hr => by
                  rw [t2, w2 r (by omega)]
                  show (if r = 41 then _ else v.1 r) = _
                  rw [if_neg (by omega)]
                have r36' : ∀ r, r < 36 → v2.2.1 r = v.2.1 r := fun r hr => by
                  rw [t3 r (by omega) (by omega), w3 r (by omega)]
                  rfl
                have E2 : tie k M1 I2 T v2 := tie_v r36 r36' (tie_I (I := I1) (fun r i _ q54 q55 _ q1 => pi r i q54 q55 q1) E1)
                have B2 : mbr m (fun j => M1 3 j) (fun j => (I1 13 (M1 3 j)).toNatClampNeg) v2 := by
                  refine ⟨by rw [t2]; exact Bm.1, fun j hj => ?_⟩
                  rw [t3 40 (by decide) (by decide), t3 7 (by decide) (by decide)]
                  exact Bm.2 j hj
                have sh : ((1 : Int32) <<< ((v2.1 41) &&& 31)) - 1 = nI (2 ^ m - 1) := by
                  rw [B2.1, shl_n (by omega)]
                  exact pk_sub (b := 1) hp0
                have rall := lT.1 (2 ^ m - 1) (by omega)
                have ral2 : mR v2 42 1024 (nI (2 ^ m - 1)) = some (nI (tv (stR (okL (fun j => (I1 13 (M1 3 j)).toNatClampNeg) m lo hi)) (2 ^ m - 1))) := by
                  rw [mRn (show 2 ^ m - 1 < 1024 by omega) (show 1024 < 2 ^ 31 by decide), rall]
                have cT2' := cT2
                obtain ⟨u1, u2, u3', u4, u5⟩ := cT2
                have p54 := p5_4 R2
                rw [u3'] at p54
                have call := p5_f R2 (u := 2 ^ m - 1) (by omega)
                rw [u5 _ (by omega)] at call
                obtain ⟨qo5, go5⟩ := p5_o R1
                obtain ⟨qo6, go6⟩ := p5_o R2
                have hall : 2 ^ m - 1 ≠ 0 := by
                  have : 2 ^ 1 ≤ 2 ^ m := pw2 (by omega)
                  omega
                have mm := lots_m (ok := okL (fun j => (I1 13 (M1 3 j)).toNatClampNeg) m lo hi) (2 ^ m - 1) (by omega)
                have bR := stR_b (ok := okL (fun j => (I1 13 (M1 3 j)).toNatClampNeg) m lo hi) (s := 2 ^ m - 1) (by omega)
                have bC := stC_b (ok := okL (fun j => (I1 13 (M1 3 j)).toNatClampNeg) m lo hi) (s := 2 ^ m - 1) (by omega)
                have hmR : fX10_lots (nI x) (nI lo) (nI hi) (nI wh) v = if (1000 : Int32) ≤ nI (tv (stR (okL (fun j => (I1 13 (M1 3 j)).toNatClampNeg) m lo hi)) (2 ^ m - 1)) then (bI (fX10_finding 2 v2) fun r u => some (r, u)) else (if nI wh ≤ nI (tv (stR (okL (fun j => (I1 13 (M1 3 j)).toNatClampNeg) m lo hi)) (2 ^ m - 1)) then (if nI wh = 0 then some (nI (tv (stR (okL (fun j => (I1 13 (M1 3 j)).toNatClampNeg) m lo hi)) (2 ^ m - 1)), v2) else fX10_lots_189 (fun x6 u => fX10_lots_223 FU x6 (0 : Int32) (0 : Int32) u) FU (nI wh) (nI (2 ^ m - 1)) (0 : Int32) (0 : Int32) v2) else (bI (fX10_finding 2 v2) fun r u => some (r, u))) := by
                  rw [rf0, if_neg z1, on, bI_s, if_neg l1, am, bI_s, if_pos ok', pU_s]
                  refine (w1 _).trans ?_
                  show (fX10_tellLots (nI lo) (nI hi) v1).bind _ = _
                  rw [t1, ob_s, sh, pU_s, ral2, ob_s, ob_s, ob_s]
                have few : fX4_fewestLots (A1 3 7 0) G2 = some (if nI (tv (stC (okL (fun j => (I1 13 (M1 3 j)).toNatClampNeg) m lo hi)) (2 ^ m - 1)) = 11 then 0 else nI (tv (stC (okL (fun j => (I1 13 (M1 3 j)).toNatClampNeg) m lo hi)) (2 ^ m - 1)), G2) := by
                  unfold fX4_fewestLots
                  rw [p5_1 R2, ob_s, p54, ob_s, ob_s, call, ob_s, ob_s, ob_s, ob_s, call, ob_s]
                  by_cases g : nI (tv (stC (okL (fun j => (I1 13 (M1 3 j)).toNatClampNeg) m lo hi)) (2 ^ m - 1)) = 11
                  · rw [if_pos g, if_pos g]
                  · rw [if_neg g, if_neg g]
                have gR9 : gR [10] 9 G2 h = some (some (A1 3 7 0)) := R2.f9
                have cl1 : fX9_lots_44 z h (nI x) (nI lo) (nI hi) (nI wh) (G1, N1, s1) = if (if nI (tv (stC (okL (fun j => (I1 13 (M1 3 j)).toNatClampNeg) m lo hi)) (2 ^ m - 1)) = 11 then (0 : Int32) else nI (tv (stC (okL (fun j => (I1 13 (M1 3 j)).toNatClampNeg) m lo hi)) (2 ^ m - 1))) = 0 then (bI (cN (fX9_finding h 2 G2) (G2, N1, s1)) fun r u => some (r, u)) else (if nI wh ≤ (if nI (tv (stC (okL (fun j => (I1 13 (M1 3 j)).toNatClampNeg) m lo hi)) (2 ^ m - 1)) = 11 then (0 : Int32) else nI (tv (stC (okL (fun j => (I1 13 (M1 3 j)).toNatClampNeg) m lo hi)) (2 ^ m - 1))) then (if nI wh = 0 then some ((if nI (tv (stC (okL (fun j => (I1 13 (M1 3 j)).toNatClampNeg) m lo hi)) (2 ^ m - 1)) = 11 then (0 : Int32) else nI (tv (stC (okL (fun j => (I1 13 (M1 3 j)).toNatClampNeg) m lo hi)) (2 ^ m - 1))), (G2, N1, s1)) else (bI (cN (fX4_lotAt (A1 3 7 0) (nI wh - 1) G2) (G2, N1, s1)) fun r137 u137 => bI (cN (fX9_spread r137 (nI x) u137.1) u137) fun r141 u141 => some (r141, u141))) else (bI (cN (fX9_finding h 2 G2) (G2, N1, s1)) fun r u => some (r, u))) := by
                  simp only [fX9_lots_44, R1.f7, R1.lo (show 3 < 4 by decide), ob_s, cN_s, wN_s, ie, bI_s, if_true, if_false, i10, R1.o10, sz_n R1 (show 3 < 4 by decide), C1, if_neg l1, cm, R1.f9, go5, pn, gR9, go6, few, R2.o10]
                have LA : ∀ d, d < 1000 → d + 1 ≤ tv (stR (okL (fun j => (I1 13 (M1 3 j)).toNatClampNeg) m lo hi)) (2 ^ m - 1) → tv (stR (okL (fun j => (I1 13 (M1 3 j)).toNatClampNeg) m lo hi)) (2 ^ m - 1) < 1000 → fX4_lotAt (A1 3 7 0) (nI d) G2 = some (nI (bl (okL (fun j => (I1 13 (M1 3 j)).toNatClampNeg) m lo hi) (tv (stC (okL (fun j => (I1 13 (M1 3 j)).toNatClampNeg) m lo hi))) (rs (okL (fun j => (I1 13 (M1 3 j)).toNatClampNeg) m lo hi) d (2 ^ m - 1))), G2) := fun d h1 h2 h3 => by
                  unfold fX4_lotAt
                  rw [p54, ob_s]
                  exact la_n R2 hm10 hlo hhi hcb cT2' h1 d 0 FU (2 ^ m - 1) (by omega) (fuel' (by omega)) (by omega) h2 h3
                rw [cl0, cl1, hmR]
                generalize okL (fun j => (I1 13 (M1 3 j)).toNatClampNeg) m lo hi = okf at *
                rcases mm with ⟨mR1, mC1⟩ | ⟨mE, mB⟩
                · have c11 : nI (tv (stC okf) (2 ^ m - 1)) = 11 := by rw [mC1]; rfl
                  have c1000 : (1000 : Int32) ≤ nI (tv (stR okf) (2 ^ m - 1)) := by rw [mR1]; decide
                  rw [if_pos c1000, if_pos c11, if_pos rfl]
                  exact fdn2 R2 E2 (by omega) (by omega) 2 (by decide) rfl
                · have b10 : bc (2 ^ m - 1) 32 ≤ 10 := by
                    rw [show 32 = 10 + 22 from rfl, bc_hi (show 2 ^ m - 1 < 2 ^ 10 by omega)]
                    exact bc_le _ 10
                  have c11 : ¬ nI (tv (stC okf) (2 ^ m - 1)) = 11 := fun g => by
                    have := (nI_eq (b := 11) (by omega) (by decide)).mp g
                    omega
                  have c1000 : ¬ (1000 : Int32) ≤ nI (tv (stR okf) (2 ^ m - 1)) := nI_ge (b := 1000) (by omega) (by decide)
                  have cpos : 1 ≤ tv (stC okf) (2 ^ m - 1) := by
                    rw [stC_s (ok := okf) (s := 2 ^ m - 1) (by omega) (by omega)]
                    unfold stC
                    split <;> omega
                  rw [if_neg c1000, if_neg c11, if_neg (nI_ne0 (by omega) (by omega)), mE]
                  by_cases q4 : wh ≤ tv (stC okf) (2 ^ m - 1)
                  · rw [if_pos (nI_le q4 (by omega)), if_pos (nI_le q4 (by omega))]
                    by_cases q5 : wh = 0
                    · have z5 : nI wh = 0 := by rw [q5]; rfl
                      rw [if_pos z5, if_pos z5]
                      exact okn_w R2 E2.up (by omega) (by omega) _
                    · have z5 : ¬ nI wh = 0 := nI_ne0 (by omega) (by omega)
                      rw [if_neg z5, if_neg z5]
                      have la : fX4_lotAt (A1 3 7 0) (nI wh - 1) G2 = some (nI (bl okf (tv (stC okf)) (rs okf (wh - 1) (2 ^ m - 1))), G2) := by
                        rw [show nI wh - 1 = nI (wh - 1) from pk_sub (b := 1) (by omega)]
                        exact LA (wh - 1) (by omega) (by omega) (by omega)
                      have ll := ll_189 (wh := wh) hm10 (by omega) lT (fun x6 u => fX10_lots_223 FU x6 (0 : Int32) (0 : Int32) u) (wh - 1) 0 FU (2 ^ m - 1) 0 (by omega) (fuel' (by omega)) (by omega) (by omega) (by omega)
                      have ll' : fX10_lots_189 (fun x6 u => fX10_lots_223 FU x6 (0 : Int32) (0 : Int32) u) FU (nI wh) (nI (2 ^ m - 1)) 0 0 v2 = fX10_lots_223 FU (nI (bl okf (tv (stC okf)) (rs okf (wh - 1) (2 ^ m - 1)))) 0 0 v2 := ll
                      have lb : bl okf (tv (stC okf)) (rs okf (wh - 1) (2 ^ m - 1)) < 2 ^ 31 := by
                        have := rs_b (ok := okf) hm10 (wh - 1) (2 ^ m - 1) (by omega) (by omega) (by omega)
                        omega
                      have lz := ll_223 (x := x) (n := M 0 0) hb hx hmm hm10 lb B2 (fun i hi hi2 => C.2.1 i hi hi2)
                      rw [ll', lz, la, cN_s, bI_s]
                      simp only []
                      rw [spr_n (show x < 2 ^ 20 by omega) lb, cN_s, bI_s]
                      exact okn_w R2 E2.up (by omega) (by omega) _
                  · rw [if_neg (nI_ge (show tv (stC okf) (2 ^ m - 1) < wh by omega) hwh), if_neg (nI_ge (show tv (stC okf) (2 ^ m - 1) < wh by omega) hwh)]
                    exact fdn2 R2 E2 (by omega) (by omega) 2 (by decide) rfl
              · have ok' : ¬ nI x &&& (aS I1 (M 0 0) ^^^ (-1 : Int32)) = 0 := by rw [ok]; exact q3
                rw [if_neg q3] at cm
                have hm : fX10_lots (nI x) (nI lo) (nI hi) (nI wh) v = bI (fX10_finding 3 v) fun r u => some (r, u) := by
                  rw [rf0, if_neg z1, on, bI_s, if_neg l1, am, bI_s, if_neg ok']
                rw [hm, cl0]
                simp only [fX9_lots_44, R1.f7, R1.lo (show 3 < 4 by decide), ob_s, cN_s, ie, bI_s, if_true, R1.o10, sz_n R1 (show 3 < 4 by decide), C.1, if_neg l1, cm]
                exact fdn2 R1 E1 (by omega) (by omega) 3 (by decide) rfl
        · simp only [fX9_lots, R.o10, ob_s, bI_s, cN_s, e1, e3, e5, i10, if_true, if_false, if_neg q0]
          unfold fX10_lots
          rw [e2, bI_s, if_neg n10, e4, bI_s, if_neg n10, e6, bI_s, if_neg n10, if_neg q0]
          exact fdn R E 1 (by decide) rfl
end LO
