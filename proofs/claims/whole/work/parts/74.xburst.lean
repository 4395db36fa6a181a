/-! a burst -/
theorem cs_b2 {f : Nat → Nat} {s b : Nat} : ∀ n, (∀ i, i < n → f i ≤ b) → cs f s n ≤ b * n := by
  intro n
  induction n with
  | zero => intro _; exact Nat.zero_le _
  | succ n ih =>
    intro hf
    have h1 := hf n (by omega)
    have h2 := ih (fun i hi => hf i (by omega))
    simp only [cs]
    rw [Nat.mul_succ]
    split <;> omega
theorem pf_b {f : Nat → Nat} {b : Nat} : ∀ n, (∀ i, i < n → f i ≤ b) → pf f n ≤ b * n := by
  intro n
  induction n with
  | zero => intro _; exact Nat.zero_le _
  | succ n ih =>
    intro hf
    have h1 := hf n (by omega)
    have h2 := ih (fun i hi => hf i (by omega))
    simp only [pf]
    rw [Nat.mul_succ]
    omega
theorem ws_cs {W : Nat → Int32} {f : Nat → Nat} {x s n : Nat} (hn : n ≤ 32) (hf : ∀ i, i < n → x.testBit i = true → (W i).toNatClampNeg = f (bc x i)) : ∀ j, j ≤ n → wsN W (dp 32 x s) j = cs f s (bc x j) := by
  intro j
  induction j with
  | zero => intro _; rfl
  | succ j ih =>
    intro hj
    have i1 := ih (by omega)
    have e : (dp 32 x s).testBit j = (x.testBit j && s.testBit (bc x j)) := by
      rw [dp_tb]
      simp [show j < 32 by omega]
    by_cases q : x.testBit j = true
    · rw [bc_t q]
      simp only [wsN, cs]
      rw [e, q, Bool.true_and, i1, hf j (by omega) q]
    · rw [bc_f q]
      simp only [wsN]
      rw [e, i1]
      simp [q]
def ad (a b : Nat) : Nat := if b ≤ a then a - b else b - a
theorem adc_n {a b : Nat} (ha : a < 2 ^ 30) (hb : b < 2 ^ 30) : (if 0 ≤ nI a - nI b then nI a - nI b else 0 - (nI a - nI b)) = nI (ad a b) := by
  unfold ad
  by_cases q : b ≤ a
  · rw [if_pos q, pk_sub q, if_pos (Int32.not_lt.mp (nI_pos (by omega)))]
  · have := pk_sneg (b := b) hb (show a < b by omega)
    rw [if_neg q, if_neg (Int32.not_le.mpr this), Int32.zero_sub, Int32.neg_sub, pk_sub (by omega)]
section BU
variable {z : Nat → Nat} {h : Nat} {A : Nat → Nat → Nat → Nat} {M : Nat → Nat → Nat} {I : Nat → Nat → Int32} {T : Nat → Nat → Nat → Int32} {J : Nat → Nat → Int64} {rl : Nat → Nat × Nat × Nat} {G : gM} {N k : Nat} {v : mS}
theorem spr_n {x s : Nat} (hx : x < 2 ^ 20) (hs : s < 2 ^ 31) (G : gM) : fX9_spread (nI s) (nI x) G = some (nI (dp 32 x s), G) := by
  have hd : dp 32 x s = fbs (fun i => x.testBit i && s.testBit (bc x i)) 20 := by
    apply Nat.eq_of_testBit_eq
    intro i
    rw [dp_tb, fbs_tb]
    by_cases q : i < 20
    · simp [q, show i < 32 by omega]
    · have := tb_hi hx (show 20 ≤ i by omega)
      simp [this]
  have L : ∀ (c i F : Nat), i + c = 20 → c < F → fX9_spread_7 F (nI s) (nI x) (nI (fbs (fun i => x.testBit i && s.testBit (bc x i)) i)) (nI (bc x i)) (nI i) G = some (nI (fbs (fun i => x.testBit i && s.testBit (bc x i)) 20), G) := by
    intro c
    induction c with
    | zero =>
      intro i F hi hF
      obtain ⟨F, rfl⟩ : ∃ F', F = F' + 1 := ⟨F - 1, by omega⟩
      have : i = 20 := by omega
      subst this
      simp only [fX9_spread_7, fX9_spread_7_b, if_pos (show (20 : Int32) ≤ nI 20 by decide)]
    | succ c ih =>
      intro i F hi hF
      obtain ⟨F, rfl⟩ : ∃ F', F = F' + 1 := ⟨F - 1, by omega⟩
      have nx := ih (i + 1) F (by omega) (by omega)
      have e : ¬ (20 : Int32) ≤ nI i := nI_ge (b := 20) (by omega) (by decide)
      have hb := bc_le x i
      by_cases q : x.testBit i = true
      · by_cases q2 : s.testBit (bc x i) = true
        · have e2 : fbs (fun i => x.testBit i && s.testBit (bc x i)) (i + 1) = fbs (fun i => x.testBit i && s.testBit (bc x i)) i ||| 2 ^ i := by
            rw [fbs, if_pos (by rw [q, q2]; rfl)]
          rw [bc_t q, e2] at nx
          simp only [fX9_spread_7, fX9_spread_7_b, fX9_spread_38, fX9_spread_41, if_neg e, hB_n (show x < 2 ^ 31 by omega) (show i < 32 by omega), hB_n hs (show bc x i < 32 by omega), if_pos q, if_pos q2, bI_s, i10, if_false, pU_s, shl_n (show i < 32 by omega), or_n, nI_1]
          exact nx
        · have e2 : fbs (fun i => x.testBit i && s.testBit (bc x i)) (i + 1) = fbs (fun i => x.testBit i && s.testBit (bc x i)) i := by
            rw [fbs, if_neg (by simp [q2])]
          rw [bc_t q, e2] at nx
          simp only [fX9_spread_7, fX9_spread_7_b, fX9_spread_38, fX9_spread_41, if_neg e, hB_n (show x < 2 ^ 31 by omega) (show i < 32 by omega), hB_n hs (show bc x i < 32 by omega), if_pos q, if_neg q2, bI_s, i10, if_false, if_true, nI_1]
          exact nx
      · have e2 : fbs (fun i => x.testBit i && s.testBit (bc x i)) (i + 1) = fbs (fun i => x.testBit i && s.testBit (bc x i)) i := by
          rw [fbs, if_neg (by simp [q])]
        rw [bc_f q, e2] at nx
        simp only [fX9_spread_7, fX9_spread_7_b, fX9_spread_41, if_neg e, hB_n (show x < 2 ^ 31 by omega) (show i < 32 by omega), if_neg q, bI_s, if_true, nI_1]
        exact nx
  rw [hd]
  exact L 20 0 FU rfl (fuel (by decide))
theorem nr_1 {m : Nat} {W : Nat → Int32} {f : Nat → Nat} (hm : m ≤ 14) (x2 x3 : Int32) (hf : ∀ j, j < m → W (M 3 j) = nI (f j)) : ∀ (c i F : Nat) (I : Nat → Nat → Int32) (G : gM), Mem z h A M I T J rl G N → M 0 3 = m → I 12 = W → (∀ j, j < i → I 56 j = nI (pf f j)) → i + c = m → c < F → ∃ I' G', (∀ k56, fX2_nearest_17 k56 F (A 3 10 0) (some (A 2 3 0)) x2 x3 (nI m) (nI (pf f i)) (nI i) G = k56 (A 3 10 0) (some (A 2 3 0)) x2 x3 (nI m) G') ∧ Mem z h A M I' T J rl G' N ∧ (∀ r, r ≠ 56 → I' r = I r) ∧ ∀ j, j < m → I' 56 j = nI (pf f j) := by
  intro c
  induction c with
  | zero =>
    intro i F I G R h03 hW h56 hi hF
    obtain ⟨F, rfl⟩ : ∃ F', F = F' + 1 := ⟨F - 1, by omega⟩
    have : i = m := by omega
    subst this
    refine ⟨I, G, fun k56 => ?_, R, fun _ _ => rfl, h56⟩
    simp only [fX2_nearest_17, fX2_nearest_17_b, if_pos (Int32.le_refl (nI i))]
  | succ c ih =>
    intro i F I G R h03 hW h56 hi hF
    obtain ⟨F, rfl⟩ : ∃ F', F = F' + 1 := ⟨F - 1, by omega⟩
    have him : i < m := by omega
    obtain ⟨G1, e1, R1⟩ := w56 R (show i < 14 by omega) (nI (pf f i))
    have hi2 : M 3 i < M 2 0 := R.b.2.2.2.2 i (by omega)
    have g1 : gR [3] 0 G (A 3 10 0) = some (some (A 3 11 0)) := gR_n (R.c 3 10 0 ⟨by decide, rfl⟩) rfl rfl
    have g2 := get_n R1 (q := 3) (k := i) (by decide) (by omega)
    have g3 : gI [9, 6] 2 G1 (A 4 (M 3 i) 0) = some (nI (f i)) := by
      rw [← hf i him, ← hW]
      exact R1.t2 hi2
    have nx := ih (i + 1) F (uu I 56 i (nI (pf f i))) G1 R1 h03 (by rw [← hW]; funext j; rw [uu_o (.inl (by decide))]) (fun j hj => by
      by_cases e : j = i
      · rw [e, uu_s]
      · rw [uu_o (.inr e)]; exact h56 j (by omega)) (by omega) (by omega)
    obtain ⟨I', G', p1, p2, p3, p4⟩ := nx
    refine ⟨I', G', fun k56 => ?_, p2, fun r hr => by rw [p3 r hr]; simp [uu, hr], p4⟩
    rw [← p1 k56]
    have pe : nI (pf f i) + nI (f i) = nI (pf f (i + 1)) := nI_add _ _
    simp only [fX2_nearest_17, fX2_nearest_17_b, if_neg (nI_ge him (show m < 2 ^ 31 by omega)), g1, ob_s, e1, R1.lo (show 3 < 4 by decide), g2, bI_s, eA, R1.tk hi2, g3, pe, nI_1]
theorem rb_l (E : tie k M I T v) {y : Nat} (hy : y < 2 ^ 31) (x1 x2 x3 x5 x6 : Int32) (k170 : Int32 → Int32 → Int32 → Int32 → Int32 → Int32 → Int32 → mS → Option (Int32 × mS)) : ∀ (c j F : Nat), j + c = M 0 0 → c < F → fX10_burst_128 k170 F x1 x2 x3 x5 x6 (nI y) (itN (sms (I 12) y) j 0) (nI j) v = k170 x1 x2 x3 x5 x6 (nI y) (itN (sms (I 12) y) (M 0 0) 0) v := by
  have hb := E.b0
  have n3 := E.1.1.2.2.1
  intro c
  induction c with
  | zero =>
    intro j F hj hF
    obtain ⟨F, rfl⟩ : ∃ F', F = F' + 1 := ⟨F - 1, by omega⟩
    have : j = M 0 0 := by omega
    subst this
    simp only [fX10_burst_128, fX10_burst_128_b, n3, if_pos (Int32.le_refl _)]
  | succ c ih =>
    intro j F hj hF
    obtain ⟨F, rfl⟩ : ∃ F', F = F' + 1 := ⟨F - 1, by omega⟩
    have nx := ih (j + 1) F (by omega) (by omega)
    have hjM : j < M 0 0 := by omega
    have g6 := (E.Th hjM).1.2.2.1
    by_cases q : y.testBit j = true
    · rw [itN_s, sms, if_pos q] at nx
      simp only [fX10_burst_128, fX10_burst_128_b, fX10_burst_161, n3, if_neg (nI_ge hjM (show M 0 0 < 2 ^ 31 by omega)), bit_1 hy (show j < 32 by omega), if_pos q, mRn (show j < 20 by omega) (show 20 < 2 ^ 31 by decide), ob_s, g6, nI_1]
      exact nx
    · rw [itN_s, sms, if_neg q] at nx
      simp only [fX10_burst_128, fX10_burst_128_b, fX10_burst_161, n3, if_neg (nI_ge hjM (show M 0 0 < 2 ^ 31 by omega)), bit_1 hy (show j < 32 by omega), if_neg q, Int32.add_zero, nI_1]
      exact nx
theorem rk_l (E : tie k M I T v) {x : Nat} (hx : x < 2 ^ 31) (x2 x3 : Int32) (k85 : Int32 → Int32 → Int32 → Int32 → mS → Option (Int32 × mS)) : ∀ (c j F : Nat) (acc : Bool), j + c = M 0 0 → c < F → fX10_burst_41 k85 F (nI x) x2 x3 (if acc = true then 1 else 0) (nI j) v = k85 (nI x) x2 x3 (if (acc && allf (fun i => decide (I 16 i = 0)) x c j) = true then 1 else 0) v := by
  have hb := E.b0
  have n3 := E.1.1.2.2.1
  intro c
  induction c with
  | zero =>
    intro j F acc hj hF
    obtain ⟨F, rfl⟩ : ∃ F', F = F' + 1 := ⟨F - 1, by omega⟩
    have : j = M 0 0 := by omega
    subst this
    simp only [fX10_burst_41, fX10_burst_41_b, n3, if_pos (Int32.le_refl _), allf, Bool.and_true]
  | succ c ih =>
    intro j F acc hj hF
    obtain ⟨F, rfl⟩ : ∃ F', F = F' + 1 := ⟨F - 1, by omega⟩
    have hjM : j < M 0 0 := by omega
    have g9 := (E.Th hjM).1.2.2.2.2.2.1
    have b0 : (((nI x >>> (nI j &&& 31)) &&& 1) = 0) = (¬ x.testBit j = true) := by
      rw [bit_n hx (by omega)]
      by_cases q : x.testBit j = true
      · simp [q]
      · simp [q]
    have a1 : (if acc = true then (1 : Int32) else 0) &&& 1 = if acc = true then 1 else 0 := by cases acc <;> rfl
    have a0 : (if acc = true then (1 : Int32) else 0) &&& 0 = if false = true then 1 else 0 := by cases acc <;> rfl
    by_cases q : x.testBit j = true
    · by_cases p : I 16 j = 0
      · have nx := ih (j + 1) F acc (by omega) (by omega)
        simp only [fX10_burst_41, fX10_burst_41_b, fX10_burst_71, fX10_burst_76, n3, if_neg (nI_ge hjM (show M 0 0 < 2 ^ 31 by omega)), b0, if_neg (fun g : ¬ x.testBit j = true => g q), mRn (show j < 20 by omega) (show 20 < 2 ^ 31 by decide), ob_s, g9, if_pos p, a1, nI_1, nx]
        simp [allf, p]
      · have nx := ih (j + 1) F false (by omega) (by omega)
        simp only [fX10_burst_41, fX10_burst_41_b, fX10_burst_71, fX10_burst_76, n3, if_neg (nI_ge hjM (show M 0 0 < 2 ^ 31 by omega)), b0, if_neg (fun g : ¬ x.testBit j = true => g q), mRn (show j < 20 by omega) (show 20 < 2 ^ 31 by decide), ob_s, g9, if_neg p, a0, nI_1]
        rw [nx]
        simp [allf, p, q]
    · have nx := ih (j + 1) F acc (by omega) (by omega)
      simp only [fX10_burst_41, fX10_burst_41_b, fX10_burst_71, fX10_burst_76, n3, if_neg (nI_ge hjM (show M 0 0 < 2 ^ 31 by omega)), b0, if_pos q, a1, nI_1, nx]
      simp [allf, q]
theorem nr_2 {x n m w mo : Nat} {f : Nat → Nat} (R : Mem z h A M I T J rl G N) (E : tie k M I T v) (h00 : M 0 0 = n) (C : Chs M x n) (hx : x < 2 ^ n) (hm : bc x n = m) (hm14 : m ≤ 14) (hw : w ≤ 100000) (hmo : mo ≤ 1000) (hf : ∀ j, j < m → I 12 (M 3 j) = nI (f j) ∧ f j ≤ 5000) (h56 : ∀ j, j < m → I 56 j = nI (pf f j)) :
    ∀ (c s F F2 b g : Nat) (near : Int32), s + c = 2 ^ m → 1 ≤ s → c < F → c < F2 → b < 2 ^ m → ((b = 0 ∧ g = mo + 1) ∨ (0 < b ∧ g ≤ mo ∧ near = nI g)) → ∃ b', b' < 2 ^ m ∧ fX2_nearest_70 F (A 3 10 0) (some (A 2 3 0)) (nI w) (nI m) (nI b) (nI g) (nI (cs f (s - 1) m)) (nI s) G = some (nI b', G) ∧ fX10_burst_117 F2 (nI x) (nI w) (nI mo) (nI (dp 32 x b)) near (nI (dp 32 x s)) v = if b' = 0 then bI (fX10_finding 2 v) fun r u => some (r, u) else some (nI (dp 32 x b'), v) := by
  have hn := C.2.2.2
  have hb0 := E.b0
  have hp : 2 ^ n ≤ 2 ^ 20 := pw2 hn
  have hpm : 2 ^ m ≤ 2 ^ 14 := pw2 hm14
  have hx31 : x < 2 ^ 31 := by omega
  have hx32 : x < 2 ^ 32 := by omega
  have b32 : bc x 32 = m := by rw [show 32 = n + (32 - n) by omega, bc_hi hx, hm]
  have b20 : bc x 20 = m := by rw [show 20 = n + (20 - n) by omega, bc_hi hx, hm]
  have dlt : ∀ s, dp 32 x s < 2 ^ 20 := fun s => by
    have := (dp_cm 32 x s hx32).1
    omega
  have dz : ∀ s, s < 2 ^ m → ((nI (dp 32 x s) = 0) = (s = 0)) := fun s hs => by
    have d1 := dlt s
    rw [nI_z (by omega)]
    refine propext ⟨fun g => dp_i 32 x s (by rw [b32]; exact hs) g, fun g => by rw [g, dp_z]⟩
  have on : ∀ s, fX10_ones (nI (dp 32 x s)) v = some (nI (bc s m), v) := fun s => by
    have d1 := dlt s
    rw [ones_n (by omega), dp_bc 20 (by decide), b20]
  have bct : ∀ s, s < 2 ^ m → fJ6_bitCount_0f7a4 (nI s) G = some (nI (bc s m), G) := fun s hs => by
    rw [bit_ct (by omega)]
    rw [show bc s 14 = bc s (m + (14 - m)) by rw [show m + (14 - m) = 14 by omega], bc_hi hs]
  have cb : ∀ s, cs f s m ≤ 70000 := fun s => by
    have h1 := cs_b2 (s := s) m (fun i hi => (hf i hi).2)
    have h2 : 5000 * m ≤ 5000 * 14 := Nat.mul_le_mul_left _ hm14
    omega
  have bb : ∀ s, bc s m ≤ 14 := fun s => by
    have := bc_le s m
    omega
  intro c
  induction c with
  | zero =>
    intro s F F2 b g near hs h1 hF hF2 hb hbg
    obtain ⟨F, rfl⟩ : ∃ F', F = F' + 1 := ⟨F - 1, by omega⟩
    obtain ⟨F2, rfl⟩ : ∃ F', F2 = F' + 1 := ⟨F2 - 1, by omega⟩
    have : s = 2 ^ m := by omega
    subst this
    have d0 : nI (dp 32 x (2 ^ m)) = 0 := by
      have := dp_e 32 x
      rw [b32] at this
      rw [this]; rfl
    refine ⟨b, hb, ?_, ?_⟩
    · simp only [fX2_nearest_70, fX2_nearest_70_b, shl_n (show m < 32 by omega), if_pos (Int32.le_refl _)]
    · show fX10_burst_117_b (nI x) (nI w) (nI mo) (nI (dp 32 x b)) near (nI (dp 32 x (2 ^ m))) v (fX10_burst_117 F2) = _
      unfold fX10_burst_117_b
      rw [if_pos d0]
      by_cases q : b = 0
      · rw [if_pos q, if_pos (by rw [dz b hb]; exact q)]
      · rw [if_neg q, if_neg (by rw [dz b hb]; exact q)]
  | succ c ih =>
    intro s F F2 b g near hs h1 hF hF2 hb hbg
    obtain ⟨F, rfl⟩ : ∃ F', F = F' + 1 := ⟨F - 1, by omega⟩
    obtain ⟨F2, rfl⟩ : ∃ F', F2 = F' + 1 := ⟨F2 - 1, by omega⟩
    have hsm : s < 2 ^ m := by omega
    obtain ⟨t, q, e⟩ := odd_pt s (by omega)
    have htm : t < m := by
      rcases Nat.lt_or_ge t m with g | g
      · exact g
      · have h2 : 2 ^ m ≤ 2 ^ t := pw2 g
        have h3 : 2 ^ t * 1 ≤ 2 ^ t * (2 * q + 1) := Nat.mul_le_mul_left _ (by omega)
        omega
    have h03 : M 0 3 = m := by rw [C.1, hm]
    have ht2 : M 3 t < M 2 0 := R.b.2.2.2.2 t (by omega)
    have tz := tz_n (t := t) (q := q) (by rw [← e]; omega) (by omega) G
    rw [← e] at tz
    have st := cs_st (f := f) (t := t) (q := q) m
    rw [← e, if_pos htm, Nat.min_eq_right (by omega)] at st
    have sum : nI (cs f (s - 1) m) + (nI (f t) - nI (pf f t)) = nI (cs f s m) := by
      rw [Int32.sub_eq_add_neg, ← Int32.add_assoc, ← Int32.sub_eq_add_neg, nI_add, pk_sub (by omega)]
      congr 1
      omega
    have g2 : fJx4a65c_get_915e3 (A 2 3 0) (nI t) G = some (some (A 4 (M 3 t) 0), G) := get_n R (q := 3) (k := t) (by decide) (by omega)
    have g3 : gI [9, 6] 2 G (A 4 (M 3 t) 0) = some (nI (f t)) := by
      rw [← (hf t htm).1]; exact R.t2 ht2
    have g4 : gR [3] 0 G (A 3 10 0) = some (some (A 3 11 0)) := gR_n (R.c 3 10 0 ⟨by decide, rfl⟩) rfl rfl
    have g5 : aI G (A 3 11 0) (nI t) = some (nI (pf f t)) := by
      rw [← h56 t htm]
      exact aI_n (R.c 3 11 0 ⟨by decide, rfl⟩) (by decide) (by omega)
    have cbs := cb s
    have ab := adc_n (a := cs f s m) (b := w) (by omega) (by omega)
    have adb : ad (cs f s m) w ≤ 100000 := by unfold ad; split <;> omega
    have e1 : ¬ nI (2 ^ m) ≤ nI s := nI_ge hsm (by omega)
    have hgb : g ≤ 1001 := by omega
    have cstep : fX2_nearest_70 (F + 1) (A 3 10 0) (some (A 2 3 0)) (nI w) (nI m) (nI b) (nI g) (nI (cs f (s - 1) m)) (nI s) G = if ad (cs f s m) w < g ∨ (ad (cs f s m) w = g ∧ bc s m < bc b m) then fX2_nearest_70 F (A 3 10 0) (some (A 2 3 0)) (nI w) (nI m) (nI s) (nI (ad (cs f s m) w)) (nI (cs f s m)) (nI (s + 1)) G else fX2_nearest_70 F (A 3 10 0) (some (A 2 3 0)) (nI w) (nI m) (nI b) (nI g) (nI (cs f s m)) (nI (s + 1)) G := by
      have l1 : (nI (ad (cs f s m) w) < nI g) = (ad (cs f s m) w < g) := propext (nI_ltI (by omega) (by omega))
      have l2 : (nI (ad (cs f s m) w) = nI g) = (ad (cs f s m) w = g) := propext (nI_eq (by omega) (by omega))
      have l3 : (nI (bc b m) ≤ nI (bc s m)) = (bc b m ≤ bc s m) := propext (nI_leI (by have := bb b; omega) (by have := bb s; omega))
      show fX2_nearest_70_b (A 3 10 0) (some (A 2 3 0)) (nI w) (nI m) (nI b) (nI g) (nI (cs f (s - 1) m)) (nI s) G (fX2_nearest_70 F) = _
      unfold fX2_nearest_70_b
      rw [shl_n (show m < 32 by omega), if_neg e1, tz, bI_s, ob_s, R.lo (show 3 < 4 by decide), ob_s, g2, bI_s, R.tk ht2, ob_s, ob_s, g3, ob_s, g4, ob_s, ob_s, g5, ob_s, sum, ab, pU_s, bct s hsm, bI_s, bct b hb, bI_s]
      unfold fX2_nearest_147 fX2_nearest_155
      rw [nI_1]
      by_cases c1 : ad (cs f s m) w < g
      · rw [if_pos (by rw [l1]; exact c1), if_pos (.inl c1)]
      · rw [if_neg (by rw [l1]; exact c1)]
        by_cases c2 : ad (cs f s m) w = g
        · rw [if_pos (by rw [l2]; exact c2)]
          by_cases c3 : bc b m ≤ bc s m
          · rw [if_pos (by rw [l3]; exact c3), if_neg (fun q => q.elim c1 (fun q => by omega))]
          · rw [if_neg (by rw [l3]; exact c3), if_pos (.inr ⟨c2, by omega⟩)]
        · rw [if_neg (by rw [l2]; exact c2), if_neg (fun q => q.elim c1 (fun q => c2 q.1))]
    have wsum : itN (sms (I 12) (dp 32 x s)) (M 0 0) 0 = nI (cs f s m) := by
      rw [wsN_n (b := 5000) (by decide) (M 0 0) (fun i hi => by
        obtain ⟨-, -, -, -, -, -, -, -, rw', -⟩ := E.Th hi
        exact rw'), h00, ws_cs (f := f) (show n ≤ 32 by omega) (fun i hi hb => by
        have h2 : bc x i < m := by rw [← hm]; exact bc_lt hi hb
        have h3 := (hf (bc x i) h2).1
        rw [C.2.1 i hi hb] at h3
        rw [h3, nI_clamp (by have := (hf (bc x i) h2).2; omega)]) n (Nat.le_refl n), hm]
    have d0 : ¬ nI (dp 32 x s) = 0 := by rw [dz s hsm]; omega
    have rb := fun k170 => rb_l E (y := dp 32 x s) (by have := dlt s; omega) (nI x) (nI w) (nI mo) (nI (dp 32 x b)) near k170 (M 0 0) 0 FU (by omega) (fuel (by omega))
    rw [wsum] at rb
    have rb' : ∀ k170, fX10_burst_128 k170 FU (nI x) (nI w) (nI mo) (nI (dp 32 x b)) near (nI (dp 32 x s)) 0 0 v = k170 (nI x) (nI w) (nI mo) (nI (dp 32 x b)) near (nI (dp 32 x s)) (nI (cs f s m)) v := rb
    have rst : fX10_burst_117 (F2 + 1) (nI x) (nI w) (nI mo) (nI (dp 32 x b)) near (nI (dp 32 x s)) v = fX10_burst_187 (nI x) (nI w) (nI mo) (nI (dp 32 x b)) near (nI (dp 32 x s)) (nI (ad (cs f s m) w)) v (fX10_burst_117 F2) := by
      show fX10_burst_117_b (nI x) (nI w) (nI mo) (nI (dp 32 x b)) near (nI (dp 32 x s)) v (fX10_burst_117 F2) = _
      unfold fX10_burst_117_b
      rw [if_neg d0, rb']
      unfold ad
      by_cases q : w ≤ cs f s m
      · rw [if_pos (nI_le q (by omega)), if_pos q, pk_sub q]
      · rw [if_neg (nI_ge (show cs f s m < w by omega) (by omega)), if_neg q, pk_sub (by omega)]
    have rip := rip_n (x := x) (s := s) hx31
    have r1 : (nI mo < nI (ad (cs f s m) w)) = (mo < ad (cs f s m) w) := propext (nI_ltI (by omega) (by omega))
    have r3 : (nI (bc b m) ≤ nI (bc s m)) = (bc b m ≤ bc s m) := propext (nI_leI (by have := bb b; omega) (by have := bb s; omega))
    rw [cstep, rst]
    generalize ad (cs f s m) w = a at *
    rcases hbg with ⟨rfl, rfl⟩ | ⟨hb1, hg, rfl⟩
    · by_cases c1 : a ≤ mo
      · obtain ⟨b', p1, p2, p3⟩ := ih (s + 1) F F2 s a (nI a) (by omega) (by omega) (by omega) (by omega) hsm (.inr ⟨by omega, c1, rfl⟩)
        refine ⟨b', p1, ?_, ?_⟩
        · rw [if_pos (.inl (by omega))]; exact p2
        · rw [← p3]
          have d1 : nI (dp 32 x 0) = 0 := by rw [dp_z]; rfl
          unfold fX10_burst_187
          rw [if_neg (show ¬ nI mo < nI a by rw [r1]; omega), if_pos d1]
          unfold fX10_burst_227 fX10_burst_235
          rw [rip]
      · obtain ⟨b', p1, p2, p3⟩ := ih (s + 1) F F2 0 (mo + 1) near (by omega) (by omega) (by omega) (by omega) hb (.inl ⟨rfl, rfl⟩)
        refine ⟨b', p1, ?_, ?_⟩
        · have z0 : bc 0 m = 0 := by
            have : ∀ n, bc 0 n = 0 := fun n => by
              induction n with
              | zero => rfl
              | succ n ih => rw [bc_f (by simp)]; exact ih
            exact this m
          rw [if_neg (fun q => q.elim (fun q => by omega) (fun q => by omega))]; exact p2
        · rw [← p3]
          unfold fX10_burst_187
          rw [if_pos (show nI mo < nI a by rw [r1]; omega)]
          unfold fX10_burst_235
          rw [rip]
    · have d1 : ¬ nI (dp 32 x b) = 0 := by rw [dz b hb]; omega
      have r2 : (nI a < nI g) = (a < g) := propext (nI_ltI (by omega) (by omega))
      have r4 : (nI a = nI g) = (a = g) := propext (nI_eq (by omega) (by omega))
      by_cases c1 : a < g ∨ (a = g ∧ bc s m < bc b m)
      · obtain ⟨b', p1, p2, p3⟩ := ih (s + 1) F F2 s a (nI a) (by omega) (by omega) (by omega) (by omega) hsm (.inr ⟨by omega, by omega, rfl⟩)
        refine ⟨b', p1, ?_, ?_⟩
        · rw [if_pos c1]; exact p2
        · rw [← p3]
          by_cases c2 : a < g
          · unfold fX10_burst_187
            rw [if_neg (show ¬ nI mo < nI a by rw [r1]; omega), if_neg d1, if_pos (show nI a < nI g by rw [r2]; exact c2)]
            unfold fX10_burst_227 fX10_burst_235
            rw [rip]
          · unfold fX10_burst_187
            rw [if_neg (show ¬ nI mo < nI a by rw [r1]; omega), if_neg d1, if_neg (show ¬ nI a < nI g by rw [r2]; exact c2), if_pos (show nI a = nI g by rw [r4]; omega), on, bI_s, on, bI_s, if_neg (show ¬ nI (bc b m) ≤ nI (bc s m) by rw [r3]; omega)]
            unfold fX10_burst_227 fX10_burst_235
            rw [rip]
      · obtain ⟨b', p1, p2, p3⟩ := ih (s + 1) F F2 b g (nI g) (by omega) (by omega) (by omega) (by omega) hb (.inr ⟨hb1, hg, rfl⟩)
        refine ⟨b', p1, ?_, ?_⟩
        · rw [if_neg c1]; exact p2
        · rw [← p3]
          by_cases c3 : mo < a
          · unfold fX10_burst_187
            rw [if_pos (show nI mo < nI a by rw [r1]; exact c3)]
            unfold fX10_burst_235
            rw [rip]
          · by_cases c4 : a = g
            · unfold fX10_burst_187
              rw [if_neg (show ¬ nI mo < nI a by rw [r1]; exact c3), if_neg d1, if_neg (show ¬ nI a < nI g by rw [r2]; omega), if_pos (show nI a = nI g by rw [r4]; exact c4), on, bI_s, on, bI_s, if_pos (show nI (bc b m) ≤ nI (bc s m) by rw [r3]; omega)]
              unfold fX10_burst_235
              rw [rip]
            · unfold fX10_burst_187
              rw [if_neg (show ¬ nI mo < nI a by rw [r1]; exact c3), if_neg d1, if_neg (show ¬ nI a < nI g by rw [r2]; omega), if_neg (show ¬ nI a = nI g by rw [r4]; exact c4)]
              unfold fX10_burst_235
              rw [rip]
theorem op_burst (R : Mem z h A M I T J rl G N) (E : tie k M I T v) {s0 : Nat} (a1 a2 a3 : Int32) : OkN z h k N s0 (fX9_burst z h a1 a2 a3 (G, N, s0)) (fX10_burst a1 a2 a3 v) := by
  have hb := E.b0
  rcases set_c R E a1 with ⟨e1, e2⟩ | ⟨x, hx, rfl, e1, e2⟩
  · simp only [fX9_burst, fX10_burst, R.o10, ob_s, bI_s, cN_s, e1, e2, i10, if_true, if_false]
    exact fdn R E 1 (by decide) rfl
  · have hp : 2 ^ M 0 0 ≤ 2 ^ 20 := pw2 hb
    rcases wc a2 1 100000 G v with ⟨e3, e4⟩ | ⟨e3, e4, h3, h4⟩
    · simp only [fX9_burst, fX10_burst, R.o10, ob_s, bI_s, cN_s, e1, e2, e3, e4, i10, if_true, if_false]
      exact fdn R E 1 (by decide) rfl
    · rcases wc a3 0 1000 G v with ⟨e5, e6⟩ | ⟨e5, e6, h5, h6⟩
      · simp only [fX9_burst, fX10_burst, R.o10, ob_s, bI_s, cN_s, e1, e2, e3, e4, e5, e6, i10, if_true, if_false]
        exact fdn R E 1 (by decide) rfl
      · obtain ⟨w, hw, rfl⟩ : rB a2 100000 := rg_w (lo := 1) (by decide) (by decide) h3 h4
        obtain ⟨mo, hmo, rfl⟩ := rg_n (n := 1000) (by decide) ⟨h5, h6⟩
        obtain ⟨A1, M1, I1, rl1, G1, N1, s1, f1, ⟨f2, f3⟩, R1, f4, f5, f6, C⟩ := cho_n R (x := x) (by omega) hb s0
        have E1 : tie k M1 I1 T v := tie_cho (A' := A1) f5 f6 E
        have m00 : M1 0 0 = M 0 0 := f6 0 0 (by decide) (by decide) (by decide)
        have hx31 : x < 2 ^ 31 := by omega
        have b20 : bc x 20 = bc x (M 0 0) := by rw [show 20 = M 0 0 + (20 - M 0 0) by omega, bc_hi hx]
        have hbm := bc_le x (M 0 0)
        have ck : fX9_chosenAreKept h G1 = some (if allf (fun i => decide (I1 16 i = 0)) x (M 0 0) 0 = true then 1 else 0, G1) := cak_l R1 C (M 0 0) 0 FU (by omega) (fuel (by omega))
        have rk : ∀ k85, fX10_burst_41 k85 FU (nI x) (nI w) (nI mo) 1 0 v = k85 (nI x) (nI w) (nI mo) (if allf (fun i => decide (I1 16 i = 0)) x (M 0 0) 0 = true then 1 else 0) v := fun k85 => by
          have := rk_l E1 hx31 (nI w) (nI mo) k85 (M 0 0) 0 FU true (by omega) (fuel (by omega))
          rw [Bool.true_and] at this
          exact this
        have on := ones_n hx31 v
        rw [b20] at on
        have hm : fX10_burst (nI x) (nI w) (nI mo) v = if (14 : Int32) < nI (bc x (M 0 0)) then (bI (fX10_finding 3 v) fun r u => some (r, u)) else (if (if allf (fun i => decide (I1 16 i = 0)) x (M 0 0) 0 = true then (1 : Int32) else 0) = 0 then (bI (fX10_finding 3 v) fun r u => some (r, u)) else fX10_burst_117 FU (nI x) (nI w) (nI mo) 0 0 (nI (dp 32 x 1)) v) := by
          unfold fX10_burst
          rw [e2, bI_s, if_neg (show ¬ (1 : Int32) = 0 by decide), e4, bI_s, if_neg (show ¬ (1 : Int32) = 0 by decide), e6, bI_s, if_neg (show ¬ (1 : Int32) = 0 by decide), rk, on, bI_s, rip_1 hx31]
        by_cases q1 : 14 < bc x (M 0 0)
        · have l1 : (14 : Int32) < nI (bc x (M 0 0)) := nI_lt (a := 14) q1 (by omega)
          rw [hm, if_pos l1]
          simp only [fX9_burst, fX9_burst_40, R.o10, ob_s, bI_s, cN_s, e1, e3, e5, i10, if_true, if_false, f1, R1.o10, R1.f7, R1.lo (show 3 < 4 by decide), sz_n R1 (show 3 < 4 by decide), C.1, if_pos l1]
          exact fdn2 R1 E1 (by omega) (by omega) 3 (by decide) rfl
        · have l1 : ¬ (14 : Int32) < nI (bc x (M 0 0)) := nI_nlt (a := 14) (by omega) (by decide)
          by_cases q2 : allf (fun i => decide (I1 16 i = 0)) x (M 0 0) 0 = true
          · rw [if_pos q2] at hm
            rw [if_neg l1, if_neg (show ¬ (1 : Int32) = 0 by decide)] at hm
            generalize hmm : bc x (M 0 0) = m at *
            have hf : ∀ j, j < m → I1 12 (M1 3 j) = nI ((I1 12 (M1 3 j)).toNatClampNeg) ∧ (I1 12 (M1 3 j)).toNatClampNeg ≤ 5000 := fun j hj => by
              have h7 : M1 3 j < M1 2 0 := R1.b.2.2.2.2 j (by rw [C.1, hmm]; exact hj)
              rw [E1.e0] at h7
              obtain ⟨-, -, -, -, -, -, -, -, rw', -⟩ := E1.Th h7
              obtain ⟨p, hp1, ep⟩ := rw'
              rw [ep, nI_clamp (by omega)]
              exact ⟨rfl, hp1⟩
            obtain ⟨I2, G2, n1, R2, n2, n3⟩ := nr_1 (z := z) (h := h) (T := T) (J := J) (rl := rl1) (N := N1) (m := m) (W := I1 12) (f := fun j => (I1 12 (M1 3 j)).toNatClampNeg) (by omega) (nI w) (nI mo) (fun j hj => (hf j hj).1) m 0 FU I1 G1 R1 (by rw [C.1, hmm]) rfl (fun j hj => absurd hj (Nat.not_lt_zero _)) (by omega) (fuel (by omega))
            have E2 : tie k M1 I2 T v := tie_I (I := I1) (fun r i _ _ _ h56 _ => by rw [n2 r h56]) E1
            have i12 : I2 12 = I1 12 := n2 12 (by decide)
            have hp1 := Nat.two_pow_pos m
            obtain ⟨b', p1, p2, p3⟩ := nr_2 (f := fun j => (I1 12 (M1 3 j)).toNatClampNeg) R2 E2 m00 C hx hmm (by omega) hw hmo (fun j hj => by rw [i12]; exact hf j hj) n3 (2 ^ m - 1) 1 FU FU 0 (mo + 1) 0 (by omega) (by omega) (fuel' (by have : 2 ^ m ≤ 2 ^ 14 := pw2 (by omega); omega)) (fuel' (by have : 2 ^ m ≤ 2 ^ 14 := pw2 (by omega); omega)) hp1 (.inl ⟨rfl, rfl⟩)
            have hpm : 2 ^ m ≤ 2 ^ 14 := pw2 (by omega)
            rw [dp_z] at p3
            have p3' : fX10_burst_117 FU (nI x) (nI w) (nI mo) 0 0 (nI (dp 32 x 1)) v = if b' = 0 then bI (fX10_finding 2 v) fun r u => some (r, u) else some (nI (dp 32 x b'), v) := p3
            have p2' : fX2_nearest_70 FU (A1 3 10 0) (some (A1 2 3 0)) (nI w) (nI m) 0 (nI mo + 1) 0 1 G2 = some (nI b', G2) := by
              rw [nI_1]
              rw [show 1 - 1 = 0 from rfl, cs_0] at p2
              exact p2
            have nn : fX2_nearest (A1 3 10 0) (some (A1 2 3 0)) (nI w) (nI mo) G1 = some (nI b', G2) := by
              unfold fX2_nearest
              rw [ob_s, R1.lo (show 3 < 4 by decide), ob_s, sz_n R1 (show 3 < 4 by decide), bI_s, C.1, hmm, pU_s, if_neg l1]
              exact (n1 _).trans p2'
            have go3 : gO [3] G1 (A1 3 10 0) = some (3, _) := gO_n (R1.c 3 10 0 ⟨by decide, rfl⟩) rfl
            have bz : (nI b' = 0) = (b' = 0) := propext (nI_z (by omega))
            rw [hm, p3']
            by_cases q3 : b' = 0
            · simp only [fX9_burst, fX9_burst_40, R.o10, ob_s, bI_s, cN_s, e1, e3, e5, i10, if_true, if_false, f1, R1.o10, R1.f7, R1.f10, R1.lo (show 3 < 4 by decide), sz_n R1 (show 3 < 4 by decide), C.1, hmm, if_neg l1, ck, if_pos q2, go3, nn, bz, if_pos q3, R2.o10]
              exact fdn2 R2 E2 (by omega) (by omega) 2 (by decide) rfl
            · simp only [fX9_burst, fX9_burst_40, R.o10, ob_s, bI_s, cN_s, e1, e3, e5, i10, if_true, if_false, f1, R1.o10, R1.f7, R1.f10, R1.lo (show 3 < 4 by decide), sz_n R1 (show 3 < 4 by decide), C.1, hmm, if_neg l1, ck, if_pos q2, go3, nn, bz, if_neg q3, spr_n (show x < 2 ^ 20 by omega) (show b' < 2 ^ 31 by omega)]
              exact okn_w R2 E2.up (by omega) (by omega) _
          · rw [if_neg q2] at hm
            rw [if_neg l1, if_pos rfl] at hm
            rw [hm]
            simp only [fX9_burst, fX9_burst_40, R.o10, ob_s, bI_s, cN_s, e1, e3, e5, i10, if_true, if_false, f1, R1.o10, R1.f7, R1.lo (show 3 < 4 by decide), sz_n R1 (show 3 < 4 by decide), C.1, if_neg l1, ck, if_neg q2]
            exact fdn2 R1 E1 (by omega) (by omega) 3 (by decide) rfl
end BU
