/-! lots: the class' side -/
theorem cs_or {f : Nat → Nat} {r i : Nat} (hr : r < 2 ^ i) : ∀ n, cs f (r + 2 ^ i) n = cs f r n + if i < n then f i else 0 := by
  have h1 := tb_hi hr (Nat.le_refl i)
  intro n
  induction n with
  | zero => rfl
  | succ n ih =>
    have e : (r + 2 ^ i).testBit n = (decide (i = n) || r.testBit n) := by
      rw [← or_add h1, Nat.testBit_or, Nat.testBit_two_pow]
    simp only [cs]
    by_cases g : i = n
    · subst g
      rw [e, ih, if_neg (Nat.lt_irrefl i), if_pos (Nat.lt_succ_self i), if_neg h1, if_pos (by simp)]
    · have e2 : (r + 2 ^ i).testBit n = r.testBit n := by rw [e]; simp [g]
      have e3 : (if i < n + 1 then f i else 0) = if i < n then f i else 0 := by
        by_cases g2 : i < n
        · rw [if_pos g2, if_pos (by omega)]
        · rw [if_neg g2, if_neg (by omega)]
      rw [e2, ih, e3]
      omega
theorem stC_b {ok : Nat → Bool} {s : Nat} (hs : s < 2 ^ 10) : tv (stC ok) s ≤ 11 := by
  have b10 : bc s 32 ≤ 10 := by
    rw [show 32 = 10 + 22 from rfl, bc_hi hs]
    exact bc_le s 10
  have := lots_m (ok := ok) s hs
  omega
theorem xor_l {s : Nat} (h0 : 0 < s) {m : Nat} (hs : s < 2 ^ m) (hm : m ≤ 10) : s ^^^ fb s < 2 ^ m := by
  have hpm : 2 ^ m ≤ 2 ^ 10 := pw2 hm
  obtain ⟨f1, f2⟩ := fb_p (s := s) h0 (by omega)
  exact Nat.xor_lt_two_pow hs (by omega)
section LC
variable {z : Nat → Nat} {h : Nat} {A : Nat → Nat → Nat → Nat} {M : Nat → Nat → Nat} {I : Nat → Nat → Int32} {T : Nat → Nat → Nat → Int32} {J : Nat → Nat → Int64} {rl : Nat → Nat × Nat × Nat} {G : gM} {N k : Nat} {v : mS}
theorem p5_0 (R : Mem z h A M I T J rl G N) : gR [5] 0 G (A 3 7 0) = some (some (A 3 8 0)) := gR_n (R.c 3 7 0 ⟨by decide, rfl⟩) rfl rfl
theorem p5_1 (R : Mem z h A M I T J rl G N) : gR [5] 1 G (A 3 7 0) = some (some (A 3 9 0)) := gR_n (R.c 3 7 0 ⟨by decide, rfl⟩) rfl rfl
theorem p5_2 (R : Mem z h A M I T J rl G N) : gI [5] 2 G (A 3 7 0) = some (I 1 1) := gI_n (R.c 3 7 0 ⟨by decide, rfl⟩) rfl rfl
theorem p5_3 (R : Mem z h A M I T J rl G N) : gI [5] 3 G (A 3 7 0) = some (I 1 2) := gI_n (R.c 3 7 0 ⟨by decide, rfl⟩) rfl rfl
theorem p5_4 (R : Mem z h A M I T J rl G N) : gI [5] 4 G (A 3 7 0) = some (I 1 3) := gI_n (R.c 3 7 0 ⟨by decide, rfl⟩) rfl rfl
theorem p5_o (R : Mem z h A M I T J rl G N) : ∃ q, gO [5] G (A 3 7 0) = some q := ⟨_, gO_n (R.c 3 7 0 ⟨by decide, rfl⟩) rfl⟩
theorem p5_w (R : Mem z h A M I T J rl G N) {u : Nat} (hu : u < 1024) : aI G (A 3 8 0) (nI u) = some (zf (I 54) u) := aI_n (R.c 3 8 0 ⟨by decide, rfl⟩) (by decide) hu
theorem p5_f (R : Mem z h A M I T J rl G N) {u : Nat} (hu : u < 1024) : aI G (A 3 9 0) (nI u) = some (zf (I 55) u) := aI_n (R.c 3 9 0 ⟨by decide, rfl⟩) (by decide) hu
theorem bl_l (R : Mem z h A M I T J rl G N) {lo hi m s : Nat} {f c : Nat → Nat} (hm : m ≤ 10) (hlo : lo ≤ 100000) (hhi : hi ≤ 100000) (h11 : I 1 1 = nI lo) (h12 : I 1 2 = nI hi) (h54 : ∀ u, u < 2 ^ m → zf (I 54) u = nI (cs f u m)) (hcb : ∀ u, cs f u m ≤ 100000) (h55 : ∀ u, u < s → zf (I 55) u = nI (c u)) (hc : ∀ u, u < s → c u ≤ 11) (h0 : 0 < s) (hs : s < 2 ^ m) : ∀ (n i F b f' : Nat), i + n = 2 ^ bc (s ^^^ fb s) 32 → n < F → f' ≤ 11 → fX4_bestLot_30 F (A 3 7 0) (nI s) (nI (fb s)) (nI (s ^^^ fb s)) (nI (2 ^ bc (s ^^^ fb s) 32)) (nI b) (nI f') (nI (dp 32 (s ^^^ fb s) i)) (nI i) G = some (nI (blf (okL f m lo hi) c s n i b f').1, G) := by
  have hpm : 2 ^ m ≤ 2 ^ 10 := pw2 hm
  have ho := xor_l h0 hs hm
  have hbo : 2 ^ bc (s ^^^ fb s) 32 ≤ 2 ^ 10 := by
    rw [show 32 = m + (32 - m) by omega, bc_hi ho]
    exact pw2 (by have := bc_le (s ^^^ fb s) m; omega)
  obtain ⟨t, q, e⟩ := odd_pt s h0
  intro n
  induction n with
  | zero =>
    intro i F b f' hi hF hf
    obtain ⟨F, rfl⟩ : ∃ F', F = F' + 1 := ⟨F - 1, by omega⟩
    have : i = 2 ^ bc (s ^^^ fb s) 32 := by omega
    rw [this]
    simp only [fX4_bestLot_30, fX4_bestLot_30_b, if_pos (Int32.le_refl _), blf]
  | succ n ih =>
    intro i F b f' hi' hF hf
    obtain ⟨F, rfl⟩ : ∃ F', F = F' + 1 := ⟨F - 1, by omega⟩
    have ci : ¬ nI (2 ^ bc (s ^^^ fb s) 32) ≤ nI i := nI_ge (by omega) (by omega)
    obtain ⟨l1, l2⟩ := ltq_s e (by omega) i
    obtain ⟨l3, l4⟩ := sbs_le l1
    have l5 : 2 ^ t ≤ lot s i := by rw [ltq_e e (by omega)]; omega
    have hp0 := Nat.two_pow_pos t
    have eo : nI (fb s) ||| nI (dp 32 (s ^^^ fb s) i) = nI (lot s i) := or_n _ _
    have w1 := p5_w R (u := lot s i) (by omega)
    rw [h54 _ (by omega)] at w1
    have w2 := p5_f R (u := s ^^^ lot s i) (by omega)
    rw [h55 _ (by omega)] at w2
    have w3 := hc (s ^^^ lot s i) (by omega)
    have cb := hcb (lot s i)
    have wi := wi_n (a := cs f (lot s i) m) (b := lo) (c := hi) (by omega) (by omega) (by omega) G
    have rp := rip_n (x := s ^^^ fb s) (s := i) (by omega)
    have g2 := p5_2 R
    have g3 := p5_3 R
    rw [h11] at g2
    rw [h12] at g3
    by_cases k1 : lo ≤ cs f (lot s i) m ∧ cs f (lot s i) m ≤ hi
    · have hok : okL f m lo hi (lot s i) = true := decide_eq_true k1
      rw [if_pos k1] at wi
      by_cases k2 : f' ≤ c (s ^^^ lot s i)
      · have nx := ih (i + 1) F b f' (by omega) (by omega) hf
        have eb : blf (okL f m lo hi) c s (n + 1) i b f' = blf (okL f m lo hi) c s n (i + 1) b f' := by
          simp only [blf]
          rw [if_neg (fun g => by omega)]
        rw [eb]
        simp only [fX4_bestLot_30, fX4_bestLot_30_b, fX4_bestLot_93, if_neg ci, p5_0 R, p5_1 R, ob_s, eo, w1, g2, g3, wi, bI_s, i10, if_false, xor_n, w2, if_pos (nI_le k2 (by omega)), rp, nI_1]
        exact nx
      · have nx := ih (i + 1) F (lot s i) (c (s ^^^ lot s i)) (by omega) (by omega) w3
        have eb : blf (okL f m lo hi) c s (n + 1) i b f' = blf (okL f m lo hi) c s n (i + 1) (lot s i) (c (s ^^^ lot s i)) := by
          simp only [blf]
          rw [if_pos ⟨hok, by omega⟩]
        rw [eb]
        simp only [fX4_bestLot_30, fX4_bestLot_30_b, fX4_bestLot_93, if_neg ci, p5_0 R, p5_1 R, ob_s, eo, w1, g2, g3, wi, bI_s, i10, if_false, xor_n, w2, if_neg (nI_ge (show c (s ^^^ lot s i) < f' by omega) (by omega)), rp, nI_1]
        exact nx
    · have hok : ¬ okL f m lo hi (lot s i) = true := fun g => k1 (of_decide_eq_true g)
      rw [if_neg k1] at wi
      have nx := ih (i + 1) F b f' (by omega) (by omega) hf
      have eb : blf (okL f m lo hi) c s (n + 1) i b f' = blf (okL f m lo hi) c s n (i + 1) b f' := by
        simp only [blf]
        rw [if_neg (fun g => hok g.1)]
      rw [eb]
      simp only [fX4_bestLot_30, fX4_bestLot_30_b, fX4_bestLot_93, if_neg ci, p5_0 R, ob_s, eo, w1, g2, g3, wi, bI_s, if_true, rp, nI_1]
      exact nx
theorem bl_n (R : Mem z h A M I T J rl G N) {lo hi m s : Nat} {f c : Nat → Nat} (hm : m ≤ 10) (hlo : lo ≤ 100000) (hhi : hi ≤ 100000) (h11 : I 1 1 = nI lo) (h12 : I 1 2 = nI hi) (h54 : ∀ u, u < 2 ^ m → zf (I 54) u = nI (cs f u m)) (hcb : ∀ u, cs f u m ≤ 100000) (h55 : ∀ u, u < s → zf (I 55) u = nI (c u)) (hc : ∀ u, u < s → c u ≤ 11) (h0 : 0 < s) (hs : s < 2 ^ m) : fX4_bestLot (A 3 7 0) (nI s) G = some (nI (bl (okL f m lo hi) c s), G) := by
  have hpm : 2 ^ m ≤ 2 ^ 10 := pw2 hm
  have ho := xor_l h0 hs hm
  have ebc : bc (s ^^^ fb s) 14 = bc (s ^^^ fb s) 32 := by
    rw [show 32 = 14 + 18 from rfl, bc_hi (show s ^^^ fb s < 2 ^ 14 by omega)]
  have hbo : 2 ^ bc (s ^^^ fb s) 32 ≤ 2 ^ 10 := by
    rw [show 32 = m + (32 - m) by omega, bc_hi ho]
    exact pw2 (by have := bc_le (s ^^^ fb s) m; omega)
  have hb14 := bc_le (s ^^^ fb s) 14
  unfold fX4_bestLot
  rw [fst_n (show s < 2 ^ 31 by omega), xor_n, bit_ct (by omega), bI_s, shl_n (by omega), pU_s, ebc]
  have := bl_l R hm hlo hhi h11 h12 h54 hcb h55 hc h0 hs (2 ^ bc (s ^^^ fb s) 32) 0 FU 0 11 (by omega) (fuel' (by omega)) (by omega)
  rw [dp_z] at this
  exact this
theorem pt_44 {m i : Nat} {f : Nat → Nat} (hm : m ≤ 10) (him : i < m) (x4 : Int32) (k91 : Nat → Option Nat → Int32 → Int32 → gM → Option gM) : ∀ (c r F : Nat) (I : Nat → Nat → Int32) (G : gM), Mem z h A M I T J rl G N → M 0 3 = m → I 13 (M 3 i) = nI (f i) → r + c = 2 ^ i → c < F → (∀ u, u < 2 ^ i + r → zf (I 54) u = nI (cs f u m)) → ∃ I' G', fX4_part_44 k91 F (A 3 7 0) (some (A 2 3 0)) x4 (nI i) (nI r) G = k91 (A 3 7 0) (some (A 2 3 0)) x4 (nI i) G' ∧ Mem z h A M I' T J rl G' N ∧ (∀ r, r ≠ 54 → I' r = I r) ∧ ∀ u, u < 2 ^ (i + 1) → zf (I' 54) u = nI (cs f u m) := by
  have hpi : 2 ^ (i + 1) ≤ 2 ^ 10 := pw2 (by omega)
  rw [Nat.pow_succ] at hpi
  intro c
  induction c with
  | zero =>
    intro r F I G R h03 h13 hr hF hu
    obtain ⟨F, rfl⟩ : ∃ F', F = F' + 1 := ⟨F - 1, by omega⟩
    have : r = 2 ^ i := by omega
    subst this
    refine ⟨I, G, ?_, R, fun _ _ => rfl, fun u hu' => hu u (by rw [Nat.pow_succ] at hu'; omega)⟩
    simp only [fX4_part_44, fX4_part_44_b, shl_n (show i < 32 by omega), if_pos (Int32.le_refl _)]
  | succ c ih =>
    intro r F I G R h03 h13 hr hF hu
    obtain ⟨F, rfl⟩ : ∃ F', F = F' + 1 := ⟨F - 1, by omega⟩
    have hri : r < 2 ^ i := by omega
    have hi2 : M 3 i < M 2 0 := R.b.2.2.2.2 i (by omega)
    have g1 := p5_w R (u := r) (by omega)
    rw [hu r (by omega)] at g1
    have g2 := get_n R (q := 3) (k := i) (by decide) (by omega)
    have g3 : gI [9, 6] 3 G (A 4 (M 3 i) 0) = some (nI (f i)) := by rw [← h13]; exact R.t3 hi2
    have eo : nI r ||| nI (2 ^ i) = nI (r + 2 ^ i) := by
      rw [or_n, Nat.or_comm, or_add (tb_hi hri (Nat.le_refl i))]
    have es : nI (cs f r m) + nI (f i) = nI (cs f (r + 2 ^ i) m) := by rw [nI_add, cs_or hri, if_pos him]
    have hp0 := Nat.two_pow_pos i
    obtain ⟨G1, d1, R1⟩ := w54 R (show r + 2 ^ i < 1024 by omega) (by omega) (nI (cs f (r + 2 ^ i) m))
    obtain ⟨I', G', p1, p2, p3, p4⟩ := ih (r + 1) F _ G1 R1 h03 (by rw [uu_o (.inl (by decide))]; exact h13) (by omega) (by omega) (fun u hu' => by
      by_cases e : u = r + 2 ^ i
      · rw [e, zf_n (by omega), uu_s]
      · by_cases e0 : u = 0
        · rw [e0]
          have := hu 0 (by omega)
          exact this
        · have := hu u (by omega)
          rw [zf_n e0] at this ⊢
          rw [uu_o (.inr e)]
          exact this)
    refine ⟨I', G', ?_, p2, fun r' hr' => by rw [p3 r' hr']; simp [uu, hr'], p4⟩
    rw [← p1]
    simp only [fX4_part_44, fX4_part_44_b, shl_n (show i < 32 by omega), if_neg (nI_ge hri (show 2 ^ i < 2 ^ 31 by omega)), p5_0 R, ob_s, g1, R.lo (show 3 < 4 by decide), g2, bI_s, eA, R.tk hi2, g3, eo, es, d1, nI_1]
theorem pt_34 {m : Nat} {f : Nat → Nat} (hm : m ≤ 10) (k97 : Nat → gM → Option gM) : ∀ (c i F : Nat) (I : Nat → Nat → Int32) (G : gM), Mem z h A M I T J rl G N → M 0 3 = m → (∀ k, k < m → I 13 (M 3 k) = nI (f k)) → i + c = m → c < F → (∀ u, u < 2 ^ i → zf (I 54) u = nI (cs f u m)) → ∃ I' G', fX4_part_34 k97 F (A 3 7 0) (some (A 2 3 0)) (nI m) (nI i) G = k97 (A 3 7 0) G' ∧ Mem z h A M I' T J rl G' N ∧ (∀ r, r ≠ 54 → I' r = I r) ∧ ∀ u, u < 2 ^ m → zf (I' 54) u = nI (cs f u m) := by
  intro c
  induction c with
  | zero =>
    intro i F I G R h03 h13 hi hF hu
    obtain ⟨F, rfl⟩ : ∃ F', F = F' + 1 := ⟨F - 1, by omega⟩
    have : i = m := by omega
    subst this
    refine ⟨I, G, ?_, R, fun _ _ => rfl, hu⟩
    show fX4_part_34_b (A 3 7 0) (some (A 2 3 0)) (nI i) (nI i) G (fX4_part_34 k97 F) k97 = _
    unfold fX4_part_34_b
    rw [if_pos (Int32.le_refl _)]
  | succ c ih =>
    intro i F I G R h03 h13 hi hF hu
    obtain ⟨F, rfl⟩ : ∃ F', F = F' + 1 := ⟨F - 1, by omega⟩
    have him : i < m := by omega
    have hpi : 2 ^ i ≤ 2 ^ 10 := pw2 (by omega)
    obtain ⟨I1, G1, p1, R1, p3, p4⟩ := pt_44 (f := f) hm him (nI m) (fun x0 x1 x4 x5 u => fX4_part_34 k97 F x0 x1 x4 (x5 + 1) u) (2 ^ i) 0 FU I G R h03 (h13 i him) (by omega) (fuel' (by omega)) (fun u hu' => hu u (by omega))
    obtain ⟨I2, G2, r1, R2, r3, r4⟩ := ih (i + 1) F I1 G1 R1 h03 (fun k hk => by rw [p3 13 (by decide)]; exact h13 k hk) (by omega) (by omega) p4
    refine ⟨I2, G2, ?_, R2, fun r hr => by rw [r3 r hr, p3 r hr], r4⟩
    rw [← r1, ← nI_1]
    show fX4_part_34_b (A 3 7 0) (some (A 2 3 0)) (nI m) (nI i) G (fX4_part_34 k97 F) k97 = _
    unfold fX4_part_34_b
    rw [if_neg (nI_ge him (by omega))]
    exact p1
theorem pt_100 {m lo hi : Nat} {f : Nat → Nat} (hm : m ≤ 10) (hlo : lo ≤ 100000) (hhi : hi ≤ 100000) (hcb : ∀ u, cs f u m ≤ 100000) : ∀ (c s F : Nat) (I : Nat → Nat → Int32) (G : gM), Mem z h A M I T J rl G N → 1 ≤ s → s + c = 2 ^ m → c < F → I 1 1 = nI lo → I 1 2 = nI hi → I 1 3 = nI (2 ^ m - 1) → (∀ u, u < 2 ^ m → zf (I 54) u = nI (cs f u m)) → (∀ u, u < s → zf (I 55) u = nI (tv (stC (okL f m lo hi)) u)) → ∃ I' G', fX4_part_100 F (A 3 7 0) (nI s) G = some G' ∧ Mem z h A M I' T J rl G' N ∧ (∀ r, r ≠ 55 → I' r = I r) ∧ ∀ u, u < 2 ^ m → zf (I' 55) u = nI (tv (stC (okL f m lo hi)) u) := by
  have hpm : 2 ^ m ≤ 2 ^ 10 := pw2 hm
  intro c
  induction c with
  | zero =>
    intro s F I G R h1 hs hF h11 h12 h13 h54 h55
    obtain ⟨F, rfl⟩ : ∃ F', F = F' + 1 := ⟨F - 1, by omega⟩
    have : s = 2 ^ m := by omega
    subst this
    have g4 := p5_4 R
    rw [h13] at g4
    refine ⟨I, G, ?_, R, fun _ _ => rfl, h55⟩
    show fX4_part_100_b (A 3 7 0) (nI (2 ^ m)) G (fX4_part_100 F) = _
    unfold fX4_part_100_b
    rw [g4, ob_s, if_pos (nI_lt (by omega) (by omega))]
  | succ c ih =>
    intro s F I G R h1 hs hF h11 h12 h13 h54 h55
    obtain ⟨F, rfl⟩ : ∃ F', F = F' + 1 := ⟨F - 1, by omega⟩
    have g4 := p5_4 R
    rw [h13] at g4
    obtain ⟨qo, go⟩ := p5_o R
    have hsm : s < 2 ^ m := by omega
    have bln := bl_n R hm hlo hhi h11 h12 h54 hcb h55 (fun u hu => stC_b (by omega)) (by omega) hsm
    have eC := stC_s (ok := okL f m lo hi) (s := s) (by omega) (by omega)
    obtain ⟨G1, d1, R1⟩ := w55 R (show s < 1024 by omega) (by omega) (nI (tv (stC (okL f m lo hi)) s))
    obtain ⟨I', G', p1, p2, p3, p4⟩ := ih (s + 1) F _ G1 R1 (by omega) (by omega) (by omega) (by rw [uu_o (.inl (by decide))]; exact h11) (by rw [uu_o (.inl (by decide))]; exact h12) (by rw [uu_o (.inl (by decide))]; exact h13) (fun u hu => by
      have := h54 u hu
      exact this) (fun u hu => by
      by_cases e : u = s
      · rw [e, zf_n (by omega), uu_s]
      · have := h55 u (by omega)
        by_cases e0 : u = 0
        · rw [e0]; rw [e0] at this; exact this
        · rw [zf_n e0] at this ⊢
          rw [uu_o (.inr e)]
          exact this)
    refine ⟨I', G', ?_, p2, fun r hr => by rw [p3 r hr]; simp [uu, hr], p4⟩
    rw [← p1, ← nI_1]
    show fX4_part_100_b (A 3 7 0) (nI s) G (fX4_part_100 F) = _
    unfold fX4_part_100_b
    rw [g4, ob_s, if_neg (nI_nlt (show s ≤ 2 ^ m - 1 by omega) (by omega)), go, ob_s, bln, bI_s, p5_1 R, ob_s]
    by_cases g : bl (okL f m lo hi) (tv (stC (okL f m lo hi))) s = 0
    · rw [eC, stC_z g] at d1
      rw [if_pos (show nI (bl (okL f m lo hi) (tv (stC (okL f m lo hi))) s) = 0 by rw [g]; rfl)]
      unfold fX4_part_145
      have d1' : uI G (A 3 9 0) (nI s) 11 = some G1 := d1
      rw [ob_s, d1', ob_s]
    · obtain ⟨b1, b2, b3⟩ := bl_lt (ok := okL f m lo hi) (c := tv (stC (okL f m lo hi))) (s := s) (by omega) (by omega) g
      have w2 := p5_f R (u := s ^^^ bl (okL f m lo hi) (tv (stC (okL f m lo hi))) s) (by omega)
      rw [h55 _ b1] at w2
      rw [eC, stC_p rfl g] at d1
      have e1 : (1 : Int32) + nI (tv (stC (okL f m lo hi)) (s ^^^ bl (okL f m lo hi) (tv (stC (okL f m lo hi))) s)) = nI (1 + tv (stC (okL f m lo hi)) (s ^^^ bl (okL f m lo hi) (tv (stC (okL f m lo hi))) s)) := nI_add 1 _
      rw [if_neg (nI_ne0 (by omega) (by omega)), ob_s, ob_s, xor_n, w2, ob_s, e1]
      unfold fX4_part_145
      rw [ob_s, d1, ob_s]
/-- what the class' tables hold -/
def cTb (I : Nat → Nat → Int32) (f : Nat → Nat) (m lo hi : Nat) : Prop := I 1 1 = nI lo ∧ I 1 2 = nI hi ∧ I 1 3 = nI (2 ^ m - 1) ∧ (∀ u, u < 2 ^ m → zf (I 54) u = nI (cs f u m)) ∧ ∀ u, u < 2 ^ m → zf (I 55) u = nI (tv (stC (okL f m lo hi)) u)
theorem pt_n (R : Mem z h A M I T J rl G N) {m lo hi : Nat} {f : Nat → Nat} (hm : m ≤ 10) (hlo : lo ≤ 100000) (hhi : hi ≤ 100000) (h03 : M 0 3 = m) (hf : ∀ k, k < m → I 13 (M 3 k) = nI (f k)) (hcb : ∀ u, cs f u m ≤ 100000) : ∃ I' G', fX4_part (A 3 7 0) (some (A 2 3 0)) (nI lo) (nI hi) G = some G' ∧ Mem z h A M I' T J rl G' N ∧ (∀ r i, r ≠ 54 → r ≠ 55 → (r = 1 → 4 ≤ i) → I' r i = I r i) ∧ cTb I' f m lo hi := by
  have hpm : 2 ^ m ≤ 2 ^ 10 := pw2 hm
  have hp0 := Nat.two_pow_pos m
  obtain ⟨G1, d1, R1⟩ := wm1 R (nI lo)
  obtain ⟨G2, d2, R2⟩ := wm2 R1 (nI hi)
  obtain ⟨G3, d3, R3⟩ := wm3 R2 (nI (2 ^ m - 1))
  obtain ⟨I4, G4, p1, R4, p3, p4⟩ := pt_34 (z := z) (h := h) (A := A) (M := M) (T := T) (J := J) (rl := rl) (N := N) (f := f) hm (fun x0 u => fX4_part_100 FU x0 (1 : Int32) u) m 0 FU _ G3 R3 h03 (fun k hk => by rw [uu_o (.inl (by decide)), uu_o (.inl (by decide)), uu_o (.inl (by decide))]; exact hf k hk) (by omega) (fuel (by omega)) (fun u hu => by
    have : u = 0 := by rw [Nat.pow_zero] at hu; omega
    rw [this, cs_0]; rfl)
  have i1 : I4 1 = _ := p3 1 (by decide)
  obtain ⟨I5, G5, r1, R5, r3, r4⟩ := pt_100 (z := z) (h := h) (A := A) (M := M) (T := T) (J := J) (rl := rl) (N := N) (f := f) hm hlo hhi hcb (2 ^ m - 1) 1 FU I4 G4 R4 (by omega) (by omega) (fuel' (by omega)) (by rw [i1, uu_o (.inr (by decide)), uu_o (.inr (by decide)), uu_s]) (by rw [i1, uu_o (.inr (by decide)), uu_s]) (by rw [i1, uu_s]) p4 (fun u hu => by
    have : u = 0 := by omega
    rw [this, tv_0]; rfl)
  have i1' : I5 1 = I4 1 := r3 1 (by decide)
  refine ⟨I5, G5, ?_, R5, fun r i q1 q2 q3 => ?_, ?_, ?_, ?_, fun u hu => by rw [r3 54 (by decide)]; exact p4 u hu, r4⟩
  · have l10 : ¬ (10 : Int32) < nI m := nI_nlt (a := 10) (by omega) (by decide)
    have sh : ((1 : Int32) <<< (nI m &&& 31)) - 1 = nI (2 ^ m - 1) := by
      rw [shl_n (by omega)]
      exact pk_sub (b := 1) hp0
    unfold fX4_part
    rw [d1, ob_s, d2, ob_s, ob_s, R2.lo (show 3 < 4 by decide), ob_s, sz_n R2 (show 3 < 4 by decide), bI_s, h03, pU_s, if_neg l10, sh, d3, ob_s]
    exact p1.trans r1
  · rw [r3 r q2, p3 r q1]
    by_cases e : r = 1
    · have := q3 e
      rw [uu_o (.inr (by omega)), uu_o (.inr (by omega)), uu_o (.inr (by omega))]
    · rw [uu_o (.inl e), uu_o (.inl e), uu_o (.inl e)]
  · rw [i1', i1, uu_o (.inr (by decide)), uu_o (.inr (by decide)), uu_s]
  · rw [i1', i1, uu_o (.inr (by decide)), uu_s]
  · rw [i1', i1, uu_s]
theorem la_n (R : Mem z h A M I T J rl G N) {m lo hi : Nat} {f : Nat → Nat} (hm : m ≤ 10) (hlo : lo ≤ 100000) (hhi : hi ≤ 100000) (hcb : ∀ u, cs f u m ≤ 100000) (Tb : cTb I f m lo hi) {p : Nat} (hp : p < 1000) : ∀ (d i F s : Nat), i + d = p → d < F → s < 2 ^ m → d + 1 ≤ tv (stR (okL f m lo hi)) s → tv (stR (okL f m lo hi)) s < 1000 → fX4_lotAt_7 F (A 3 7 0) (nI p) (nI s) (nI i) G = some (nI (bl (okL f m lo hi) (tv (stC (okL f m lo hi))) (rs (okL f m lo hi) d s)), G) := by
  have hpm : 2 ^ m ≤ 2 ^ 10 := pw2 hm
  obtain ⟨t1, t2, t3, t4, t5⟩ := Tb
  obtain ⟨qo, go⟩ := p5_o R
  intro d
  induction d with
  | zero =>
    intro i F s hid hF hs h1 h2
    obtain ⟨F, rfl⟩ : ∃ F', F = F' + 1 := ⟨F - 1, by omega⟩
    obtain ⟨r1, r2, r3, r4, r5⟩ := rs_w hm hs (by omega) h2
    have bln := bl_n R hm hlo hhi t1 t2 t4 hcb (fun u hu => t5 u (by omega)) (fun u hu => stC_b (by omega)) r1 hs
    show fX4_lotAt_7_b (A 3 7 0) (nI p) (nI s) (nI i) G (fX4_lotAt_7 F) = _
    unfold fX4_lotAt_7_b
    rw [if_pos (nI_le (show p ≤ i by omega) (by omega)), go, ob_s, bln, bI_s]
    rfl
  | succ d ih =>
    intro i F s hid hF hs h1 h2
    obtain ⟨F, rfl⟩ : ∃ F', F = F' + 1 := ⟨F - 1, by omega⟩
    obtain ⟨r1, r2, r3, r4, r5⟩ := rs_w hm hs (by omega) h2
    have bln := bl_n R hm hlo hhi t1 t2 t4 hcb (fun u hu => t5 u (by omega)) (fun u hu => stC_b (by omega)) r1 hs
    show fX4_lotAt_7_b (A 3 7 0) (nI p) (nI s) (nI i) G (fX4_lotAt_7 F) = _
    unfold fX4_lotAt_7_b
    rw [if_neg (nI_ge (show i < p by omega) (by omega)), go, ob_s, bln, bI_s, xor_n, nI_1]
    exact ih (i + 1) F (s ^^^ bl (okL f m lo hi) (tv (stC (okL f m lo hi))) s) (by omega) (by omega) r2 (by omega) (by omega)
end LC
