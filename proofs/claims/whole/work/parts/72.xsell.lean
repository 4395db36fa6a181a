/-! sales -/
theorem fb_bmod {z : Int} (h1 : -2147483648 ≤ z) (h2 : z < 2147483648) : z.bmod (2 ^ 32) = z := by
  rw [Int.bmod_eq_of_le (by omega) (by omega)]
theorem fb_addI {x y : Int32} (h1 : -2147483648 ≤ x.toInt + y.toInt) (h2 : x.toInt + y.toInt < 2147483648) : (x + y).toInt = x.toInt + y.toInt := by
  rw [Int32.toInt_add, fb_bmod h1 h2]
theorem fb_subI {x y : Int32} (h1 : -2147483648 ≤ x.toInt - y.toInt) (h2 : x.toInt - y.toInt < 2147483648) : (x - y).toInt = x.toInt - y.toInt := by
  rw [Int32.toInt_sub, fb_bmod h1 h2]
def wsN (f : Nat → Int32) (x : Nat) : Nat → Nat
  | 0 => 0
  | n + 1 => wsN f x n + if x.testBit n = true then (f n).toNatClampNeg else 0
theorem wsN_n {f : Nat → Int32} {x b : Nat} (hb : b < 2 ^ 31) : ∀ n, (∀ i, i < n → rB (f i) b) → itN (sms f x) n 0 = nI (wsN f x n) := by
  intro n
  induction n with
  | zero => intro _; rfl
  | succ n ih =>
    intro hf
    obtain ⟨p, hp, ep⟩ := hf n (by omega)
    rw [itN_s, ih (fun i hi => hf i (by omega))]
    unfold sms
    simp only [wsN]
    by_cases q : x.testBit n = true
    · rw [if_pos q, if_pos q, ep, nI_add, nI_clamp (by omega)]
    · rw [if_neg q, if_neg q, Nat.add_zero]
theorem wsN_b {f : Nat → Int32} {x b : Nat} (hb : b < 2 ^ 31) : ∀ n, (∀ i, i < n → rB (f i) b) → wsN f x n ≤ b * n := by
  intro n
  induction n with
  | zero => intro _; exact Nat.zero_le _
  | succ n ih =>
    intro hf
    obtain ⟨p, hp, ep⟩ := hf n (by omega)
    have := ih (fun i hi => hf i (by omega))
    simp only [wsN]
    rw [ep, nI_clamp (by omega), Nat.mul_succ]
    split <;> omega
theorem wsN_m {f : Nat → Int32} {x : Nat} : ∀ n m, wsN f x n ≤ wsN f x (n + m) := by
  intro n m
  induction m with
  | zero => exact Nat.le_refl _
  | succ m ih => rw [← Nat.add_assoc]; simp only [wsN]; omega
theorem wsN_p {f : Nat → Int32} {x i n : Nat} (hi : i < n) (h : x.testBit i = true) : (f i).toNatClampNeg ≤ wsN f x n := by
  have h1 := wsN_m (f := f) (x := x) (i + 1) (n - (i + 1))
  rw [show i + 1 + (n - (i + 1)) = n by omega] at h1
  simp only [wsN, if_pos h] at h1
  omega
section SL
variable {z : Nat → Nat} {h : Nat} {A : Nat → Nat → Nat → Nat} {M : Nat → Nat → Nat} {I : Nat → Nat → Int32} {T : Nat → Nat → Nat → Int32} {J : Nat → Nat → Int64} {rl : Nat → Nat × Nat × Nat} {G : gM} {N k : Nat} {v : mS}
def shv (f : Nat → Int32) (W : Int32) (S c t : Nat) : Int32 := if W = 0 then nI S / nI c else nI S * f t / W
theorem shv_n {f : Nat → Int32} {x n S t : Nat} (hn : n ≤ 20) (hS : S ≤ 100000) (hf : ∀ i, i < n → rB (f i) 10000) (ht : t < n) (hb : x.testBit t = true) {W : Int32} (hW : W = itN (sms f x) n 0) : (∃ q, q ≤ S ∧ shv f W S (bc x n) t = nI q) ∧ ¬ nI (bc x n) = 0 ∧ (¬ W = 0 → ¬ W.toInt64 = 0 ∧ ((nI S).toInt64 * (f t).toInt64 / W.toInt64).toInt32 = nI S * f t / W) := by
  have hw := wsN_n (f := f) (x := x) (by decide) n hf
  have hwb := wsN_b (f := f) (x := x) (by decide) n hf
  have hwp := wsN_p (f := f) ht hb
  have h10 : 10000 * n ≤ 10000 * 20 := Nat.mul_le_mul_left _ hn
  have hc := bc_lt ht hb
  have hc2 := bc_le x n
  obtain ⟨p, hp, ep⟩ := hf t ht
  rw [ep, nI_clamp (by omega)] at hwp
  rw [hw] at hW
  generalize wsN f x n = w at *
  subst hW
  have hSp : S * p ≤ 100000 * 10000 := Nat.mul_le_mul hS hp
  refine ⟨?_, nI_ne0 (by omega) (by omega), fun q => ?_⟩
  · unfold shv
    by_cases q : nI w = 0
    · rw [if_pos q, pk_div (by omega) (by omega) (by omega)]
      exact ⟨_, Nat.div_le_self _ _, rfl⟩
    · have hw0 : 0 < w := by
        rcases Nat.lt_or_ge 0 w with g | g
        · exact g
        · exact absurd (by rw [show w = 0 by omega]; rfl) q
      rw [if_neg q, ep, pk_mul, pk_div (by omega) hw0 (by omega)]
      refine ⟨_, ?_, rfl⟩
      refine Nat.div_le_of_le_mul ?_
      rw [Nat.mul_comm w S]
      exact Nat.mul_le_mul_left _ hwp
  · have hw0 : 0 < w := by
      rcases Nat.lt_or_ge 0 w with g | g
      · exact g
      · exact absurd (by rw [show w = 0 by omega]; rfl) q
    rw [ep, nI_l (show w < 2 ^ 31 by omega), nI_l (show S < 2 ^ 31 by omega), nI_l (show p < 2 ^ 31 by omega), lN_mul, pk_lDiv (by omega) hw0 (by omega), lN_i, pk_mul, pk_div (by omega) hw0 (by omega)]
    exact ⟨fun g => absurd ((pk_lEQ (b := 0) (by omega) (by decide)).mp g) (by omega), rfl⟩
theorem fdn2 {A' : Nat → Nat → Nat → Nat} {M' : Nat → Nat → Nat} {I' : Nat → Nat → Int32} {T' : Nat → Nat → Nat → Int32} {J' : Nat → Nat → Int64} {rl' : Nat → Nat × Nat × Nat} {G' : gM} {N' s s' : Nat} (R : Mem z h A' M' I' T' J' rl' G' N') (E : tie k M' I' T' v) (hN : N' ≤ N + 64) (hs : s' ≤ s + 1000) {f : Int32} (n : Nat) (hn : n < 6) (hf : f = nI n) : OkN z h k N s (bI (cN (fX9_finding h f G') (G', N', s')) fun r u => some (r, u)) (bI (fX10_finding f v) fun r u => some (r, u)) := by
  obtain ⟨r, v', G', e1, e2, R', E'⟩ := fd2 R E n hn hf
  rw [e1, e2]
  exact okn_w R' E'.up hN hs r
theorem rwo_l (E : tie k M I T v) {x : Nat} (hx : x < 2 ^ 31) (S : Int32) (k89 : Int32 → Int32 → Int32 → mS → Option (Int32 × mS)) : ∀ (c j F : Nat), j + c = M 0 0 → c < F → fX10_sell_50 k89 F (nI x) S (itN (sms (I 13) x) j 0) (nI j) v = k89 (nI x) S (itN (sms (I 13) x) (M 0 0) 0) v := by
  have hb := E.b0
  have n3 := E.1.1.2.2.1
  intro c
  induction c with
  | zero =>
    intro j F hj hF
    obtain ⟨F, rfl⟩ : ∃ F', F = F' + 1 := ⟨F - 1, by omega⟩
    have : j = M 0 0 := by omega
    subst this
    simp only [fX10_sell_50, fX10_sell_50_b, n3, if_pos (Int32.le_refl _)]
  | succ c ih =>
    intro j F hj hF
    obtain ⟨F, rfl⟩ : ∃ F', F = F' + 1 := ⟨F - 1, by omega⟩
    have nx := ih (j + 1) F (by omega) (by omega)
    have hjM : j < M 0 0 := by omega
    have g7 := (E.Th hjM).1.2.2.2.1
    by_cases q : x.testBit j = true
    · rw [itN_s, sms, if_pos q] at nx
      simp only [fX10_sell_50, fX10_sell_50_b, fX10_sell_81, n3, if_neg (nI_ge hjM (show M 0 0 < 2 ^ 31 by omega)), bit_1 hx (show j < 32 by omega), if_pos q, mRn (show j < 20 by omega) (show 20 < 2 ^ 31 by decide), ob_s, g7, nI_1]
      exact nx
    · rw [itN_s, sms, if_neg q] at nx
      simp only [fX10_sell_50, fX10_sell_50_b, fX10_sell_81, n3, if_neg (nI_ge hjM (show M 0 0 < 2 ^ 31 by omega)), bit_1 hx (show j < 32 by omega), if_neg q, Int32.add_zero, nI_1]
      exact nx
theorem Chs.bec {M' : Nat → Nat → Nat} {x n : Nat} (C : Chs M x n) (hM : ∀ a, a ≠ 4 → M' a = M a) : Chs M' x n := by
  unfold Chs at C ⊢
  rw [hM 0 (by decide), hM 2 (by decide), hM 3 (by decide)]
  exact C
theorem sl_1 {x n S : Nat} {W : Int32} (hx : x < 2 ^ n) (hS : S ≤ 100000) (hk : k < 600) (f : Nat → Int32) (hW : W = itN (sms f x) n 0) (hf : ∀ i, i < n → rB (f i) 10000) : ∀ (c j F F2 : Nat) (A : Nat → Nat → Nat → Nat) (M : Nat → Nat → Nat) (I : Nat → Nat → Int32) (T : Nat → Nat → Nat → Int32) (rl : Nat → Nat × Nat × Nat) (G : gM) (N s : Nat) (v : mS) (L : Int32), Mem z h A M I T J rl G N → tie k M I T v → M 0 0 = n → Chs M x n → j + c = n → c < F → c < F2 → (∀ i, j ≤ i → i < n → x.testBit i = true → I 16 i = 0) → (∀ i, i < j → x.testBit i = true → I 16 i = 2) → I 13 = f → (-100000 * (j : Int) ≤ L.toInt ∧ L.toInt ≤ 100000) →
    ∃ A' M' I' T' rl' G' N' s' v' L', (∀ k148, fX9_sell_57 z k148 F h (nI S) W L (nI (bc x j)) (G, N, s) = k148 h L' (G', N', s')) ∧ (∀ k182, fX10_sell_95 k182 F2 (nI x) (nI S) W L (nI j) v = k182 (nI x) L' v') ∧ (N' ≤ N + c ∧ s' ≤ s + 3 * c) ∧ Mem z h A' M' I' T' J rl' G' N' ∧ tie k M' I' T' v' ∧ M' 0 0 = n ∧ Chs M' x n ∧ (∀ i, i < n → x.testBit i = true → I' 16 i = 2) ∧ (-2000000 ≤ L'.toInt ∧ L'.toInt ≤ 100000) := by
  intro c
  induction c with
  | zero =>
    intro j F F2 A M I T rl G N s v L R E h00 C hj hF hF2 hkp hsd h13 hL
    obtain ⟨F, rfl⟩ : ∃ F', F = F' + 1 := ⟨F - 1, by omega⟩
    obtain ⟨F2, rfl⟩ : ∃ F', F2 = F' + 1 := ⟨F2 - 1, by omega⟩
    have : j = n := by omega
    subst this
    have hn := C.2.2.2
    refine ⟨A, M, I, T, rl, G, N, s, v, L, fun k148 => ?_, fun k182 => ?_, ⟨by omega, by omega⟩, R, E, h00, C, hsd, by omega, hL.2⟩
    · simp only [fX9_sell_57, fX9_sell_57_b, R.f7, R.lo (show 3 < 4 by decide), sz_n R (show 3 < 4 by decide), C.1, ob_s, cN_s, bI_s, if_pos (Int32.le_refl _)]
    · simp only [fX10_sell_95, fX10_sell_95_b, E.1.1.2.2.1, h00, if_pos (Int32.le_refl _)]
  | succ c ih =>
    intro j F F2 A M I T rl G N s v L R E h00 C hj hF hF2 hkp hsd h13 hL
    obtain ⟨F2, rfl⟩ : ∃ F', F2 = F' + 1 := ⟨F2 - 1, by omega⟩
    have hn := C.2.2.2
    have hjn : j < n := by omega
    have hj2 : j < M 2 0 := by have := C.2.2.1; omega
    have hj20 : j < 20 := by omega
    have hp : 2 ^ n ≤ 2 ^ 20 := pw2 hn
    have n3 : v.1 2 = nI n := by rw [E.1.1.2.2.1, h00]
    have cj : ¬ nI n ≤ nI j := nI_ge hjn (by omega)
    by_cases q : x.testBit j = true
    · obtain ⟨F, rfl⟩ : ∃ F', F = F' + 1 := ⟨F - 1, by omega⟩
      obtain ⟨⟨sq, hq1, hq2⟩, hc0, hw0⟩ := shv_n hn hS hf hjn q hW
      have st0 := hkp j (by omega) hjn q
      have ht : j < M 0 0 := by omega
      obtain ⟨⟨g3, g4, g6, g7, g8, g9, g10⟩, gtr, gct, gsi, gso, gho, rk, rf, rw', rv, rs, rst⟩ := E.Th ht
      obtain ⟨n0, en, hn0⟩ := E.ev hk
      obtain ⟨qo, eo⟩ := R.to hj2
      obtain ⟨b1, b2⟩ := get3 R C hjn q
      obtain ⟨A1, M1, T1, rl1, G1, N1, s1, c1, ⟨c2, c3⟩, R1, B⟩ := bec R hj2 2 (I 0 13) s
      have B' := B
      obtain ⟨B1, B2, B3, B4, B5, B6⟩ := B
      have a4 : A1 4 j 0 = A 4 j 0 := by rw [B1 4 (by decide)]
      have a2 : A1 2 3 0 = A 2 3 0 := by rw [B1 2 (by decide)]
      have ht3 : j < M1 2 0 := by rw [B2 2 (by decide)]; exact hj2
      obtain ⟨G2, d1, R2⟩ := wt8 R1 ht3 (I 0 13)
      obtain ⟨G3, d2, R3⟩ := wt9 R2 ht3 (shv f W S (bc x n) j)
      have d0 : gI [10] 13 G1 h = some (I 0 13) := R1.f13
      have d3 : gR [10] 7 G2 h = some (some (A 2 3 0)) := by rw [← a2]; exact R2.f7
      have d4 : gO [0] G2 (A 2 3 0) = some (0, _) := a2 ▸ R2.lo (show 3 < 4 by decide)
      have d5 : fJx4a65c_size_8abf5 (A 2 3 0) G2 = some (nI (bc x n), G2) := by
        rw [← C.1, ← B2 0 (by decide), ← a2]; exact sz_n R2 (show 3 < 4 by decide)
      have d6 : gI [9, 6] 3 G2 (A 4 j 0) = some (f j) := by
        rw [← h13, ← a4]; exact R2.t3 ht3
      have d7 : gI [9, 6] 9 G3 (A 4 j 0) = some (shv f W S (bc x n) j) := by
        have := R3.t9 ht3
        rw [uu_s] at this
        rw [← a4]; exact this
      rw [a4] at d1 d2
      have m1 : (mA v 12 j (shv f W S (bc x n) j)).2.1 12 j = shv f W S (bc x n) j := by
        show upd _ _ _ _ = _
        rw [pk_us]
      have em : fX10_becomes (nI j) 2 (mA (mA v 12 j (shv f W S (bc x n) j)) 13 j 0) = some (vB (mA (mA v 12 j (shv f W S (bc x n) j)) 13 j 0) j 2 n0) := bec_m (v := mA (mA v 12 j (shv f W S (bc x n) j)) 13 j 0) hj20 hn0 en 2
      have E1 : tie k M1 (uu (uu (uu I 16 j 2) 18 j (I 0 13)) 19 j (shv f W S (bc x n) j)) T1 (vB (mA (mA v 12 j (shv f W S (bc x n) j)) 13 j 0) j 2 n0) := by
        refine tie_bec E ht en hn0 (by omega) B' rfl B2 rfl (fun r i hr => ?_) ?_ rfl (fun r q1 q2 q3 => ?_) (fun r i hi hr => ?_) ?_ (fun _ => ?_) (fun _ => ⟨?_, ?_⟩) (.inr ?_) ⟨2, by decide, rfl⟩ (.inl rfl) ?_
        · rw [uu_o (by omega), uu_o (by omega), uu_o (by omega)]
        · rw [uu_o (.inl (by decide)), uu_o (.inl (by decide)), uu_s]
        · simp only [vB, mF, mA, if_neg q2, if_neg q3]
        · rcases hr with rfl | rfl | rfl
          · rfl
          · show upd (v.2.1 12) j _ i = _
            rw [pk_un hi]
          · show upd (v.2.1 13) j _ i = _
            rw [pk_un hi]
        · rw [uu_o (.inl (by decide)), uu_o (.inl (by decide)), uu_o (.inl (by decide))]
          exact g10
        · rw [uu_o (.inl (by decide)), uu_s]
        · rw [uu_s]
          show upd (v.2.1 12) j _ j = _
          rw [pk_us]
        · rw [uu_o (.inl (by decide)), uu_o (.inl (by decide)), uu_o (.inl (by decide))]
          show upd (v.2.1 13) j 0 j = _
          rw [pk_us]
          exact (rst.2.resolve_left (fun g => absurd (st0.symm.trans g) (by decide))).symm
        · rw [uu_o (.inl (by decide)), uu_o (.inl (by decide)), uu_o (.inl (by decide))]
          exact gho.resolve_left (fun g => absurd (st0.symm.trans g) (by decide))
        · have z1 := nf_u (I := I) (I' := uu (uu (uu I 16 j 2) 18 j (I 0 13)) 19 j (shv f W S (bc x n) j)) (t := j) (fun i hi => by rw [uu_o (.inl (by decide)), uu_o (.inl (by decide)), uu_o (.inr hi)]) (M 0 0)
          rw [if_pos ht, if_pos ht, st0, show uu (uu (uu I 16 j 2) 18 j (I 0 13)) 19 j (shv f W S (bc x n) j) 16 j = 2 by rw [uu_o (.inl (by decide)), uu_o (.inl (by decide)), uu_s]] at z1
          have z2 : b01 0 = 1 := by decide
          have z3 : b01 2 = 0 := by decide
          omega
      have hL2 : (L - shv f W S (bc x n) j).toInt = L.toInt - sq := by
        rw [hq2]
        have := nI_toInt (n := sq) (by omega)
        rw [fb_subI (by omega) (by omega), this]
      obtain ⟨A2, M2, I2, T2, rl2, G4, N2, s2, v2, L2, p1, p2, ⟨p3, p4⟩, p5, p6, p7, p8, p9, p10⟩ := ih (j + 1) F F2 A1 M1 _ T1 rl1 G3 N1 s1 _ (L - shv f W S (bc x n) j) R3 E1 (by rw [B2 0 (by decide)]; exact h00) (C.bec B2) (by omega) (by omega) (by omega) (fun i h1 h2 h3 => by
          rw [uu_o (.inl (by decide)), uu_o (.inl (by decide)), uu_o (.inr (by omega))]
          exact hkp i (by omega) h2 h3) (fun i h1 h2 => by
          rw [uu_o (.inl (by decide)), uu_o (.inl (by decide))]
          by_cases e : i = j
          · rw [e, uu_s]
          · rw [uu_o (.inr e)]; exact hsd i (by omega) h2) (by
          rw [← h13]
          funext i
          rw [uu_o (.inl (by decide)), uu_o (.inl (by decide)), uu_o (.inl (by decide))]) (by rw [hL2]; omega)
      refine ⟨A2, M2, I2, T2, rl2, G4, N2, s2, v2, L2, fun k148 => ?_, fun k182 => ?_, ⟨by omega, by omega⟩, p5, p6, p7, p8, p9, p10⟩
      · have p1' := p1 k148
        rw [bc_t q] at p1'
        rw [← p1']
        by_cases w : W = 0
        · have e : shv f W S (bc x n) j = nI S / nI (bc x n) := if_pos w
          rw [e] at d2 d7 p1' ⊢
          simp only [fX9_sell_57, fX9_sell_57_b, fX9_sell_93, fX9_sell_129, R.f7, R.lo (show 3 < 4 by decide), sz_n R (show 3 < 4 by decide), ob_s, cN_s, wN_s, bI_s, if_neg b2, b1, R.tk hj2, R.f13, eo, c1, d0, d1, if_pos w, d3, d4, d5, if_neg hc0, d2, d7, nI_1]
        · have e : shv f W S (bc x n) j = nI S * f j / W := if_neg w
          rw [e] at d2 d7 p1' ⊢
          simp only [fX9_sell_57, fX9_sell_57_b, fX9_sell_93, fX9_sell_129, R.f7, R.lo (show 3 < 4 by decide), sz_n R (show 3 < 4 by decide), ob_s, cN_s, wN_s, bI_s, if_neg b2, b1, R.tk hj2, R.f13, eo, c1, d0, d1, if_neg w, d6, d2, d7, nI_1]
      · have p2' := p2 k182
        rw [← p2']
        have nb : vp_nar .boolean (0 : Int32) = 0 := rfl
        have h7 : v.2.1 7 j = f j := by rw [g7, h13]
        have hx31 : x < 2 ^ 31 := by omega
        have on := ones_n hx31 v
        rw [show 20 = n + (20 - n) by omega, bc_hi hx] at on
        by_cases w : W = 0
        · have e : shv f W S (bc x n) j = nI S / nI (bc x n) := if_pos w
          rw [e] at m1 em ⊢
          simp only [fX10_sell_95, fX10_sell_95_b, fX10_sell_148, fX10_sell_176, n3, if_neg cj, bit_1 hx31 (show j < 32 by omega), if_pos q, if_pos w, on, bI_s, if_neg hc0, mUn hj20 (show 20 < 2 ^ 31 by decide), mRn hj20 (show 20 < 2 ^ 31 by decide), ob_s, m1, nb, em, nI_1]
        · have e : shv f W S (bc x n) j = nI S * f j / W := if_neg w
          obtain ⟨w1, w2⟩ := hw0 w
          rw [e] at m1 em ⊢
          simp only [fX10_sell_95, fX10_sell_95_b, fX10_sell_148, fX10_sell_176, n3, if_neg cj, bit_1 hx31 (show j < 32 by omega), if_pos q, if_neg w, h7, if_neg w1, w2, mUn hj20 (show 20 < 2 ^ 31 by decide), mRn hj20 (show 20 < 2 ^ 31 by decide), ob_s, m1, nb, em, nI_1]
    · have hx31 : x < 2 ^ 31 := by omega
      obtain ⟨A2, M2, I2, T2, rl2, G4, N2, s2, v2, L2, p1, p2, ⟨p3, p4⟩, p5, p6, p7, p8, p9, p10⟩ := ih (j + 1) F F2 A M I T rl G N s v L R E h00 C (by omega) (by omega) (by omega) (fun i h1 h2 h3 => hkp i (by omega) h2 h3) (fun i h1 h2 => by
          by_cases e : i = j
          · rw [e] at h2; exact absurd h2 q
          · exact hsd i (by omega) h2) h13 (by omega)
      rw [bc_f q] at p1
      refine ⟨A2, M2, I2, T2, rl2, G4, N2, s2, v2, L2, p1, fun k182 => ?_, ⟨by omega, by omega⟩, p5, p6, p7, p8, p9, p10⟩
      have p2' := p2 k182
      rw [← p2']
      simp only [fX10_sell_95, fX10_sell_95_b, fX10_sell_176, n3, if_neg cj, bit_1 hx31 (show j < 32 by omega), if_neg q, nI_1]
theorem tie_12 (E : tie k M I T v) {t : Nat} (x : Int32) : tie k M (uu I 19 t x) T (mA v 12 t x) := by
  obtain ⟨h1, h2, h3, h4, h5, h6, h7, h8⟩ := id E
  refine ⟨h1, h2, fun t' ht' => ?_, h4, h5, h6, h7, h8⟩
  obtain ⟨g1, g2, g3, g4, g5, g6⟩ := h3 t' ht'
  refine ⟨g1, g2, g3, g4, fun q => ?_, g6⟩
  obtain ⟨g7, g8⟩ := g5 q
  refine ⟨?_, g8⟩
  show upd (v.2.1 12) t x t' = upd (I 19) t x t'
  by_cases e : t' = t
  · rw [e, pk_us, pk_us]
  · rw [pk_un e, pk_un e]; exact g7
theorem sub_1 (a b : Int32) : a - b + -1 = a - (b + 1) := by
  rw [Int32.sub_eq_add_neg, Int32.sub_eq_add_neg, Int32.neg_add, Int32.sub_eq_add_neg, Int32.add_assoc]
theorem sl_2 {x n : Nat} (hx : x < 2 ^ n) (L : Int32) (hL : -2000000 ≤ L.toInt ∧ L.toInt ≤ 100000) (s : Nat) : ∀ (c j F F2 : Nat) (I : Nat → Nat → Int32) (G : gM) (v : mS), Mem z h A M I T J rl G N → tie k M I T v → M 0 0 = n → Chs M x n → j + c = n → c < F → c < F2 → (∀ i, i < n → x.testBit i = true → I 16 i = 2) →
    ∃ I' G' v', fX9_sell_151 z F h L (nI (bc x j)) (G, N, s) = some (L, (G', N, s)) ∧ fX10_sell_189 F2 (nI x) (L - nI (bc x j)) L (nI j) v = some (L, v') ∧ Mem z h A M I' T J rl G' N ∧ tie k M I' T v' := by
  intro c
  induction c with
  | zero =>
    intro j F F2 I G v R E h00 C hj hF hF2 hsd
    obtain ⟨F, rfl⟩ : ∃ F', F = F' + 1 := ⟨F - 1, by omega⟩
    obtain ⟨F2, rfl⟩ : ∃ F', F2 = F' + 1 := ⟨F2 - 1, by omega⟩
    have : j = n := by omega
    subst this
    refine ⟨I, G, v, ?_, ?_, R, E⟩
    · simp only [fX9_sell_151, fX9_sell_151_b, R.f7, R.lo (show 3 < 4 by decide), sz_n R (show 3 < 4 by decide), C.1, ob_s, cN_s, bI_s, if_pos (Int32.le_refl _)]
    · simp only [fX10_sell_189, fX10_sell_189_b, E.1.1.2.2.1, h00, if_pos (Int32.le_refl _)]
  | succ c ih =>
    intro j F F2 I G v R E h00 C hj hF hF2 hsd
    obtain ⟨F2, rfl⟩ : ∃ F', F2 = F' + 1 := ⟨F2 - 1, by omega⟩
    have hn := C.2.2.2
    have hjn : j < n := by omega
    have hj2 : j < M 2 0 := by have := C.2.2.1; omega
    have hj20 : j < 20 := by omega
    have hp : 2 ^ n ≤ 2 ^ 20 := pw2 hn
    have hx31 : x < 2 ^ 31 := by omega
    have n3 : v.1 2 = nI n := by rw [E.1.1.2.2.1, h00]
    have cj : ¬ nI n ≤ nI j := nI_ge hjn (by omega)
    have hbc := bc_le x j
    have i1 : (nI (bc x j)).toInt = (bc x j : Int) := nI_toInt (by omega)
    have i2 : (L - nI (bc x j)).toInt = L.toInt - bc x j := by rw [fb_subI (by omega) (by omega), i1]
    have i3 : (L - nI (bc x j) ≤ 0) = (L ≤ nI (bc x j)) := by
      rw [Int32.le_iff_toInt_le, Int32.le_iff_toInt_le, i1, i2]
      have : (0 : Int32).toInt = 0 := by decide
      rw [this]
      exact propext ⟨fun g => by omega, fun g => by omega⟩
    by_cases w : L ≤ nI (bc x j)
    · obtain ⟨F, rfl⟩ : ∃ F', F = F' + 1 := ⟨F - 1, by omega⟩
      refine ⟨I, G, v, ?_, ?_, R, E⟩
      · simp only [fX9_sell_151, fX9_sell_151_b, R.f7, R.lo (show 3 < 4 by decide), sz_n R (show 3 < 4 by decide), ob_s, cN_s, bI_s, if_pos w, ite_self]
      · simp only [fX10_sell_189, fX10_sell_189_b, n3, if_neg cj, i3, if_pos w]
    · by_cases q : x.testBit j = true
      · obtain ⟨F, rfl⟩ : ∃ F', F = F' + 1 := ⟨F - 1, by omega⟩
        have ht : j < M 0 0 := by omega
        obtain ⟨-, -, -, -, gso, -⟩ := E.Th ht
        have s2 := hsd j hjn q
        have g12 := (gso s2).1
        obtain ⟨b1, b2⟩ := get3 R C hjn q
        obtain ⟨G1, d1, R1⟩ := wt9 R hj2 (I 19 j + 1)
        have E1 := tie_12 E (t := j) (I 19 j + 1)
        obtain ⟨I2, G2, v2, p1, p2, p3, p4⟩ := ih (j + 1) F F2 _ G1 _ R1 E1 h00 C (by omega) (by omega) (by omega) (fun i h1 h2 => by rw [uu_o (.inl (by decide))]; exact hsd i h1 h2)
        refine ⟨I2, G2, v2, ?_, ?_, p3, p4⟩
        · rw [bc_t q] at p1
          rw [← p1]
          simp only [fX9_sell_151, fX9_sell_151_b, R.f7, R.lo (show 3 < 4 by decide), sz_n R (show 3 < 4 by decide), ob_s, cN_s, wN_s, bI_s, if_neg b2, if_neg w, b1, R.tk hj2, R.t9 hj2, d1, nI_1]
        · rw [bc_t q, nI_succ, ← sub_1] at p2
          rw [← p2]
          simp only [fX10_sell_189, fX10_sell_189_b, fX10_sell_227, n3, if_neg cj, i3, if_neg w, bit_1 hx31 (show j < 32 by omega), if_pos q, mRn hj20 (show 20 < 2 ^ 31 by decide), g12, mUn hj20 (show 20 < 2 ^ 31 by decide), ob_s, nI_1]
      · obtain ⟨I2, G2, v2, p1, p2, p3, p4⟩ := ih (j + 1) F F2 I G v R E h00 C (by omega) (by omega) (by omega) hsd
        rw [bc_f q] at p1 p2
        refine ⟨I2, G2, v2, p1, ?_, p3, p4⟩
        rw [← p2]
        simp only [fX10_sell_189, fX10_sell_189_b, fX10_sell_227, n3, if_neg cj, i3, if_neg w, bit_1 hx31 (show j < 32 by omega), if_neg q, nI_1]
theorem op_sell (R : Mem z h A M I T J rl G N) (E : tie k M I T v) (hk : k < 512) {s0 : Nat} (a1 a2 : Int32) : OkN z h k N s0 (fX9_sell z h a1 a2 (G, N, s0)) (fX10_sell a1 a2 v) := by
  have hb := E.b0
  rcases set_c R E a1 with ⟨e1, e2⟩ | ⟨x, hx, rfl, e1, e2⟩
  · by_cases q0 : a1 = 0
    · simp only [fX9_sell, fX10_sell, R.o10, ob_s, bI_s, cN_s, if_pos q0, e2, if_true]
      exact fdn R E 1 (by decide) rfl
    · simp only [fX9_sell, fX10_sell, R.o10, ob_s, bI_s, cN_s, if_neg q0, e1, e2, i10, if_true, if_false]
      exact fdn R E 1 (by decide) rfl
  · have hp : 2 ^ M 0 0 ≤ 2 ^ 20 := pw2 hb
    by_cases q0 : nI x = 0
    · simp only [fX9_sell, fX10_sell, R.o10, ob_s, bI_s, cN_s, if_pos q0, e2, i10, if_false]
      exact fdn R E 1 (by decide) rfl
    · rcases wc a2 0 100000 G v with ⟨e3, e4⟩ | ⟨e3, e4, h3, h4⟩
      · simp only [fX9_sell, fX10_sell, R.o10, ob_s, bI_s, cN_s, if_neg q0, e1, e2, e3, e4, i10, if_true, if_false]
        exact fdn R E 1 (by decide) rfl
      · obtain ⟨S, hS, rfl⟩ := rg_n (n := 100000) (by decide) ⟨h3, h4⟩
        obtain ⟨A1, M1, I1, rl1, G1, N1, s1, f1, ⟨f2, f3⟩, R1, f4, f5, f6, C⟩ := cho_n R (x := x) (by omega) hb s0
        have E1 : tie k M1 I1 T v := tie_cho (A' := A1) f5 f6 E
        have m00 : M1 0 0 = M 0 0 := f6 0 0 (by decide) (by decide) (by decide)
        have ok := sell_ok (I := I1) hx hb
        have am := aS_m E1
        rw [m00] at am
        have cm := cms_l R1 C (fun i hi => by
          obtain ⟨-, -, -, -, -, -, rk, -⟩ := E1.Th (show i < M1 0 0 by omega)
          exact rk) (M 0 0) 0 FU (by omega) (fuel (by omega))
        have cm' : fX9_chosenMayBeSold h G1 = some (if allf (fun i => decide (¬ ms I1 i = 0)) x (M 0 0) 0 = true then 1 else 0, G1) := cm
        by_cases q1 : allf (fun i => decide (¬ ms I1 i = 0)) x (M 0 0) 0 = true
        · have wo := cwo_l R1 C (M 0 0) 0 FU (by omega) (fuel (by omega))
          have wo' : fX9_chosenWorths h G1 = some (itN (sms (I1 13) x) (M 0 0) 0, G1) := wo
          have rwo := fun k89 => rwo_l E1 (show x < 2 ^ 31 by omega) (nI S) k89 (M 0 0) 0 FU (by omega) (fuel (by omega))
          rw [m00] at rwo
          have rwo' : ∀ k89, fX10_sell_50 k89 FU (nI x) (nI S) 0 0 v = k89 (nI x) (nI S) (itN (sms (I1 13) x) (M 0 0) 0) v := rwo
          have hS2 : (nI S).toInt = (S : Int) := nI_toInt (by omega)
          obtain ⟨A2, M2, I2, T2, rl2, G2, N2, s2, v2, L2, p1, p2, ⟨p3, p4⟩, R2, E2, p7, C2, p9, p10⟩ := sl_1 (z := z) (h := h) (J := J) hx hS (show k < 600 by omega) (I1 13) rfl (fun i hi => by
            obtain ⟨-, -, -, -, -, -, -, -, -, rv, -⟩ := E1.Th (show i < M1 0 0 by omega)
            exact rv) (M 0 0) 0 FU FU A1 M1 I1 T rl1 G1 N1 s1 v (nI S) R1 E1 m00 C (by omega) (fuel (by omega)) (fuel (by omega)) (fun i _ h2 h3 => by
            have := (allf_i (M 0 0) 0).mp q1 i (by omega) (by omega) h3
            have := of_decide_eq_true this
            unfold ms at this
            by_cases g : I1 16 i = 0
            · exact g
            · rw [if_neg g] at this
              exact absurd rfl this) (fun i hi => absurd hi (Nat.not_lt_zero _)) rfl (by rw [hS2]; omega)
          obtain ⟨I3, G3, v3, u1, u2, R3, E3⟩ := sl_2 (z := z) (h := h) (x := x) (n := M 0 0) hx L2 p10 s2 (M 0 0) 0 FU FU I2 G2 v2 R2 E2 p7 C2 (by omega) (fuel (by omega)) (fuel (by omega)) p9
          have p1' : ∀ k148, fX9_sell_57 z k148 FU h (nI S) (itN (sms (I1 13) x) (M 0 0) 0) (nI S) 0 (G1, N1, s1) = k148 h L2 (G2, N2, s2) := p1
          have p2' : ∀ k182, fX10_sell_95 k182 FU (nI x) (nI S) (itN (sms (I1 13) x) (M 0 0) 0) (nI S) 0 v = k182 (nI x) L2 v2 := p2
          have u1' : fX9_sell_151 z FU h L2 0 (G2, N2, s2) = some (L2, (G3, N2, s2)) := u1
          have u2' : fX10_sell_189 FU (nI x) L2 L2 0 v2 = some (L2, v3) := by
            have : L2 - nI (bc x 0) = L2 := by
              show L2 - (0 : Int32) = L2
              exact Int32.sub_zero L2
            rw [this] at u2
            exact u2
          simp only [fX9_sell, fX9_sell_33, fX10_sell, R.o10, ob_s, bI_s, cN_s, if_neg q0, e1, e2, e3, e4, i10, if_true, if_false, f1, R1.o10, cm', am, ok, if_pos q1, wo', rwo', p1', p2', u1', u2']
          exact okn_w R3 E3.up (by omega) (by omega) _
        · simp only [fX9_sell, fX9_sell_33, fX10_sell, R.o10, ob_s, bI_s, cN_s, if_neg q0, e1, e2, e3, e4, i10, if_true, if_false, f1, R1.o10, cm', am, ok, if_neg q1]
          exact fdn2 R1 E1 (by omega) (by omega) 3 (by decide) rfl
end SL
