/-! the match: the class' side -/
theorem plE_n {s : Nat} (hs : s < 8) : plE (nI s) = some (lN (pw s)) := by
  rw [plE, if_pos (ixb_n (by decide) hs), nI_clamp (by omega)]
  match s, hs with
  | 0, _ => rfl
  | 1, _ => rfl
  | 2, _ => rfl
  | 3, _ => rfl
  | 4, _ => rfl
  | 5, _ => rfl
  | 6, _ => rfl
  | 7, _ => rfl
theorem Wm_b {L : Nat → Nat → Nat} (hL : ∀ s t, L s t ≤ 103) (s t : Nat) : Wm L s t ≤ 104 * 21 ^ 8 := by
  unfold Wm
  have h1 := hL s t
  have h2 : pw s ≤ 21 ^ 7 := p21 (by omega)
  have h3 : L s t * 21 ^ 8 ≤ 103 * 21 ^ 8 := Nat.mul_le_mul_right _ h1
  have h4 : (20 - t) * pw s ≤ 20 * 21 ^ 7 := Nat.mul_le_mul (by omega) h2
  have h5 : 103 * 21 ^ 8 + 20 * 21 ^ 7 ≤ 104 * 21 ^ 8 := by decide
  split
  · exact Nat.zero_le _
  · exact Nat.le_trans (Nat.add_le_add h3 h4) h5
section MC
variable {z : Nat → Nat} {h : Nat} {A : Nat → Nat → Nat → Nat} {M : Nat → Nat → Nat} {I : Nat → Nat → Int32} {T : Nat → Nat → Nat → Int32} {J : Nat → Nat → Int64} {rl : Nat → Nat × Nat × Nat} {G : gM} {N k : Nat} {v : mS}
theorem m4_0 (R : Mem z h A M I T J rl G N) : gR [4] 0 G (A 3 4 0) = some (some (A 3 5 0)) := gR_n (R.c 3 4 0 ⟨by decide, rfl⟩) rfl rfl
theorem m4_1 (R : Mem z h A M I T J rl G N) : gR [4] 1 G (A 3 4 0) = some (some (A 3 6 0)) := gR_n (R.c 3 4 0 ⟨by decide, rfl⟩) rfl rfl
theorem m4_2 (R : Mem z h A M I T J rl G N) : gI [4] 2 G (A 3 4 0) = some (I 1 0) := gI_n (R.c 3 4 0 ⟨by decide, rfl⟩) rfl rfl
theorem m4_o (R : Mem z h A M I T J rl G N) : ∃ q, gO [4] G (A 3 4 0) = some q := ⟨_, gO_n (R.c 3 4 0 ⟨by decide, rfl⟩) rfl⟩
theorem m4_b (R : Mem z h A M I T J rl G N) {u : Nat} (hu : u < 256) : aJ G (A 3 5 0) (nI u) = some (J 0 u) := aJ_n (R.c 3 5 0 ⟨by decide, rfl⟩) (by decide) hu
theorem m4_w (R : Mem z h A M I T J rl G N) {u : Nat} (hu : u < 8) : aJ G (A 3 6 0) (nI u) = some (J 1 u) := aJ_n (R.c 3 6 0 ⟨by decide, rfl⟩) (by decide) hu
/-- the whole row anew -/
def uJr (J : Nat → Nat → Int64) (f : Nat → Int64) : Nat → Nat → Int64 := fun k => if k = 0 then f else J k
theorem wJr (R : Mem z h A M I T J rl G N) (f : Nat → Int64) : Mem z h A M I T (uJr J f) rl (va_up G (A 3 5 0) (some (.inl (1, 256, .inr (.inl f))))) N := by
  refine R.wr 3 5 0 ⟨by decide, rfl⟩ R.b (by simp [cl, fxC, uJr]) ?_
  intro κ' i' j' hl
  match κ', hl with
  | 0, hl => exact ⟨hl, .inr rfl⟩
  | 1, hl => exact ⟨hl, .inr rfl⟩
  | 2, hl => exact ⟨hl, .inr rfl⟩
  | 3, hl =>
    refine ⟨hl, ?_⟩
    obtain ⟨hi, hj⟩ := hl
    match i', hi with
    | 0, _ => exact .inr rfl
    | 1, _ => exact .inr rfl
    | 2, _ => exact .inr rfl
    | 3, _ => exact .inr rfl
    | 4, _ => exact .inr rfl
    | 5, _ => exact .inl (by rw [hj])
    | 6, _ => exact .inr (by simp [cl, fxC, uJr])
    | 7, _ => exact .inr rfl
    | 8, _ => exact .inr rfl
    | 9, _ => exact .inr rfl
    | 10, _ => exact .inr rfl
    | 11, _ => exact .inr rfl
    | 12, _ => exact .inr rfl
    | 13, _ => exact .inr rfl
    | 14, _ => exact .inr rfl
    | i' + 15, hi => exact absurd hi (by omega)
  | 4, hl => exact ⟨hl, .inr rfl⟩
  | 5, hl => exact ⟨hl, .inr rfl⟩
  | 6, hl => exact ⟨hl, .inr rfl⟩
  | 7, hl => exact ⟨hl, .inr rfl⟩
  | 8, hl => exact ⟨hl, .inr rfl⟩
  | 9, hl => exact ⟨hl, .inr rfl⟩
  | 10, hl => exact ⟨hl, .inr rfl⟩
  | κ' + 11, hl => exact absurd hl (by simp [lv])
theorem uj_s {k i : Nat} {x : Int64} : uj J k i x k i = x := by
  unfold uj
  rw [if_pos rfl, pk_uLs]
theorem uj_o {k' k i j : Nat} {x : Int64} (h : k' ≠ k ∨ j ≠ i) : uj J k i x k' j = J k' j := by
  unfold uj
  by_cases q : k' = k
  · rw [if_pos q]
    exact pk_uLn (by rcases h with h | h <;> first | exact absurd q h | exact h)
  · rw [if_neg q]
theorem bg_n (R : Mem z h A M I T J rl G N) (x : Int32) : ∃ J' G', fX3_begin (A 3 4 0) x G = some G' ∧ Mem z h A M (uu I 1 0 x) T J' rl G' N ∧ ∀ u, u < 256 → J' 0 u = 0 := by
  obtain ⟨G1, d1, R1⟩ := wm0 R x
  have c5 : G1 (A 3 5 0) = some (.inl (1, 256, .inr (.inl (J 0)))) := R1.c 3 5 0 ⟨by decide, rfl⟩
  have fl := fillL_n (a := A 3 5 0) (n := 256) (x := 0) (by decide) c5
  refine ⟨_, _, ?_, wJr R1 (fun j => if j < 256 then 0 else J 0 j), fun u hu => ?_⟩
  · unfold fX3_begin
    rw [d1, ob_s, m4_0 R1, ob_s, fl, ob_s]
  · show (if u < 256 then (0 : Int64) else J 0 u) = 0
    rw [if_pos hu]
theorem wg_n (R : Mem z h A M I T J rl G N) {L : Nat → Nat → Nat} {s t : Nat} (hs : s < 8) (ht : t ≤ 20) (hL : L s t ≤ 103) : ∃ G', fX3_weigh (A 3 4 0) (nI s) (nI t) (nI (L s t)) G = some G' ∧ Mem z h A M I T (uj J 1 s (lN (Wm L s t))) rl G' N := by
  obtain ⟨G1, d1, R1⟩ := wJ1 R hs (lN (Wm L s t))
  refine ⟨G1, ?_, R1⟩
  unfold fX3_weigh
  rw [m4_1 R, ob_s]
  by_cases q : L s t = 0
  · have e : Wm L s t = 0 := if_pos q
    rw [e] at d1
    have d1' : uJ G (A 3 6 0) (nI s) 0 = some G1 := d1
    rw [if_pos (show nI (L s t) = 0 by rw [q]; rfl), ob_s, d1', ob_s]
  · have e : Wm L s t = L s t * 21 ^ 8 + (20 - t) * pw s := if_neg q
    have e1 : (nI (L s t)).toInt64 * (37822859361 : Int64) + ((20 : Int32) - nI t).toInt64 * lN (pw s) = lN (Wm L s t) := by
      rw [show (20 : Int32) - nI t = nI (20 - t) from pk_sub (a := 20) ht, nI_l (by omega), nI_l (by omega), show (37822859361 : Int64) = lN (21 ^ 8) by decide, lN_mul, lN_mul, lN_add, e]
    rw [if_neg (nI_ne0 (by omega) (by omega)), plE_n hs, ob_s, ob_s, e1, d1, ob_s]
theorem of_15 {L : Nat → Nat → Nat} {S t u : Nat} (hS : S ≤ 8) (ht : t < 20) (hL : ∀ s t, L s t ≤ 103) (hu : u < 2 ^ S) {g : Nat → Bool} (k80 : Nat → Int32 → gM → Option gM) : ∀ (c j F : Nat) (J : Nat → Nat → Int64) (G : gM), Mem z h A M I T J rl G N → I 1 0 = nI S → (∀ s, s < S → J 1 s = lN (Wm L s t)) → (∀ y, y < u → J 0 y = lN (Fm (Wm L) S t g y.testBit)) → J 0 u = lN (acc (Fm (Wm L) S t g u.testBit) (fun s => if u.testBit s = true then Wm L s t + Fm (Wm L) S t g (rmv u.testBit s) else 0) j) → j + c = S → c < F → ∃ J' G', fX3_offer_15 k80 F (A 3 4 0) (nI u) (nI j) G = k80 (A 3 4 0) (nI u) G' ∧ Mem z h A M I T J' rl G' N ∧ (∀ y, y ≠ u → J' 0 y = J 0 y) ∧ J' 1 = J 1 ∧ J' 0 u = lN (acc (Fm (Wm L) S t g u.testBit) (fun s => if u.testBit s = true then Wm L s t + Fm (Wm L) S t g (rmv u.testBit s) else 0) S) := by
  have hpS : 2 ^ S ≤ 2 ^ 8 := pw2 hS
  have fb : ∀ σ, Fm (Wm L) S t g σ ≤ 104 * 21 ^ 8 * t := fun σ => Fm_ba (Wm_b hL) t g σ
  have h104 : 104 * 21 ^ 8 * t ≤ 104 * 21 ^ 8 * 20 := Nat.mul_le_mul_left _ (by omega)
  have hbig : 104 * 21 ^ 8 * 20 + 104 * 21 ^ 8 < 2 ^ 62 := by decide
  generalize hQ : 104 * 21 ^ 8 * 20 = Q at *
  have hw : ∀ s, Wm L s t ≤ 104 * 21 ^ 8 := fun s => Wm_b hL s t
  generalize hP : 104 * 21 ^ 8 = P at *
  intro c
  induction c with
  | zero =>
    intro j F J G R h10 h1 hy hu0 hj hF
    obtain ⟨F, rfl⟩ : ∃ F', F = F' + 1 := ⟨F - 1, by omega⟩
    have : j = S := by omega
    subst this
    refine ⟨J, G, ?_, R, fun _ _ => rfl, rfl, hu0⟩
    simp only [fX3_offer_15, fX3_offer_15_b, m4_2 R, h10, ob_s, if_pos (Int32.le_refl _)]
  | succ c ih =>
    intro j F J G R h10 h1 hy hu0 hj hF
    obtain ⟨F, rfl⟩ : ∃ F', F = F' + 1 := ⟨F - 1, by omega⟩
    have hjS : j < S := by omega
    have cj : ¬ nI S ≤ nI j := nI_ge hjS (by omega)
    have bmono : Fm (Wm L) S t g (rmv u.testBit j) ≤ Fm (Wm L) S t g u.testBit := Fm_rm
    generalize hf : (fun s => if u.testBit s = true then Wm L s t + Fm (Wm L) S t g (rmv u.testBit s) else 0) = f at *
    have hfj : f j = if u.testBit j = true then Wm L j t + Fm (Wm L) S t g (rmv u.testBit j) else 0 := by rw [← hf]
    generalize hb : Fm (Wm L) S t g u.testBit = b at *
    have bb : b ≤ Q := by rw [← hb]; have := fb u.testBit; omega
    have fbd : ∀ s, f s ≤ Q + P := fun s => by
      rw [← hf]
      have h1 := hw s
      have h2 := fb (rmv u.testBit s)
      show (if u.testBit s = true then Wm L s t + Fm (Wm L) S t g (rmv u.testBit s) else 0) ≤ Q + P
      split <;> omega
    have ab : acc b f j ≤ Q + P := by
      unfold acc
      have := mx_le (f := f) (b := Q + P) j (fun i _ => fbd i)
      split <;> omega
    have ba : b ≤ acc b f j := by
      unfold acc
      split <;> omega
    have skip : f j ≤ acc b f j → acc b f (j + 1) = acc b f j := fun q => by rw [acc_s, if_pos q]
    have hbn := hB_n (x := u) (i := j) (by omega) (by omega) G
    by_cases q : u.testBit j = true
    · rw [if_pos q] at hfj hbn
      have e68 := m4_w R (u := j) (by omega)
      rw [h1 j hjS] at e68
      have hwj := hw j
      by_cases z0 : Wm L j t = 0
      · have sk := skip (by rw [hfj, z0]; omega)
        obtain ⟨J', G', p1, p2⟩ := ih (j + 1) F J G R h10 h1 hy (by rw [sk]; exact hu0) (by omega) (by omega)
        refine ⟨J', G', ?_, p2⟩
        rw [← p1]
        have lg : lg_cmp (lN (Wm L j t)) 0 ≤ 0 := by rw [lg_cmp_le, z0]; decide
        simp only [fX3_offer_15, fX3_offer_15_b, fX3_offer_74, m4_2 R, h10, ob_s, if_neg cj, hbn, bI_s, i10, if_false, m4_1 R, e68, if_pos lg, nI_1]
      · have hx : u ^^^ 2 ^ j < u := by
          have sb : sbs (2 ^ j) u := fun i hi => by
            rw [Nat.testBit_two_pow, decide_eq_true_eq] at hi
            rw [← hi]; exact q
          obtain ⟨s1, s2⟩ := sbs_le sb
          have := Nat.two_pow_pos j
          omega
        have e62 := m4_b R (u := u ^^^ 2 ^ j) (by omega)
        rw [hy _ hx, tb_rm q] at e62
        have e52 := m4_b R (u := u) (by omega)
        rw [hu0] at e52
        have lg : ¬ lg_cmp (lN (Wm L j t)) 0 ≤ 0 := by
          rw [lg_cmp_le]
          intro g0
          have := (pk_lLE (a := Wm L j t) (b := 0) (by omega) (by decide)).mp g0
          omega
        have es : lN (Fm (Wm L) S t g (rmv u.testBit j)) + lN (Wm L j t) = lN (f j) := by rw [lN_add, hfj, Nat.add_comm]
        have fj := fbd j
        have em : (if lN (f j) < lN (acc b f j) then lN (acc b f j) else lN (f j)) = lN (acc b f (j + 1)) := by
          rw [acc_s]
          by_cases q2 : f j < acc b f j
          · rw [if_pos ((pk_lLT (by omega) (by omega)).mpr q2), if_pos (by omega)]
          · rw [if_neg (fun g0 => q2 ((pk_lLT (by omega) (by omega)).mp g0))]
            by_cases q3 : f j ≤ acc b f j
            · rw [if_pos q3, show f j = acc b f j by omega]
            · rw [if_neg q3]
        obtain ⟨G1, d1, R1⟩ := wJ0 R (show u < 256 by omega) (lN (acc b f (j + 1)))
        obtain ⟨J', G', p1, p2, p3, p4, p5⟩ := ih (j + 1) F _ G1 R1 h10 (fun s hs => by rw [uj_o (.inl (by decide))]; exact h1 s hs) (fun y hy' => by rw [uj_o (.inr (by omega))]; exact hy y hy') uj_s (by omega) (by omega)
        refine ⟨J', G', ?_, p2, fun y hy' => by rw [p3 y hy', uj_o (.inr hy')], by rw [p4]; funext y; rw [uj_o (.inl (by decide))], p5⟩
        rw [← p1]
        simp only [fX3_offer_15, fX3_offer_15_b, fX3_offer_74, m4_2 R, h10, ob_s, if_neg cj, hbn, bI_s, i10, if_false, m4_0 R, m4_1 R, e68, if_neg lg, e52, shl_n (show j < 32 by omega), xor_n, e62, es, em, pU_s, d1, nI_1]
    · rw [if_neg q] at hfj hbn
      have sk := skip (by rw [hfj]; omega)
      obtain ⟨J', G', p1, p2⟩ := ih (j + 1) F J G R h10 h1 hy (by rw [sk]; exact hu0) (by omega) (by omega)
      refine ⟨J', G', ?_, p2⟩
      rw [← p1]
      simp only [fX3_offer_15, fX3_offer_15_b, fX3_offer_74, m4_2 R, h10, ob_s, if_neg cj, hbn, bI_s, if_true, nI_1]
theorem of_9 {L : Nat → Nat → Nat} {S t : Nat} (hS : S ≤ 8) (ht : t < 20) (hL : ∀ s t, L s t ≤ 103) {g : Nat → Bool} (hg : ¬ g t = true) : ∀ (u F : Nat) (J : Nat → Nat → Int64) (G : gM), Mem z h A M I T J rl G N → I 1 0 = nI S → (∀ s, s < S → J 1 s = lN (Wm L s t)) → u < 2 ^ S → (∀ y, y ≤ u → J 0 y = lN (Fm (Wm L) S t g y.testBit)) → (∀ y, u < y → y < 2 ^ S → J 0 y = lN (Fm (Wm L) S (t + 1) g y.testBit)) → u < F → ∃ J' G', fX3_offer_9 F (A 3 4 0) (nI u) G = some G' ∧ Mem z h A M I T J' rl G' N ∧ ∀ y, y < 2 ^ S → J' 0 y = lN (Fm (Wm L) S (t + 1) g y.testBit) := by
  have hpS : 2 ^ S ≤ 2 ^ 8 := pw2 hS
  intro u
  induction u with
  | zero =>
    intro F J G R h10 h1 hu hl hh hF
    obtain ⟨F, rfl⟩ : ∃ F', F = F' + 1 := ⟨F - 1, by omega⟩
    have t0 : (0 : Nat).testBit = fun _ => false := by funext i; simp
    refine ⟨J, G, ?_, R, fun y hy => ?_⟩
    · show fX3_offer_9_b (A 3 4 0) (nI 0) G (fX3_offer_9 F) = _
      unfold fX3_offer_9_b
      rw [if_pos (show nI 0 ≤ 0 by decide)]
    · by_cases e : y = 0
      · subst e
        rw [hl 0 (by omega), t0, Fm_em, Fm_em]
      · exact hh y (by omega) hy
  | succ u ih =>
    intro F J G R h10 h1 hu hl hh hF
    obtain ⟨F, rfl⟩ : ∃ F', F = F' + 1 := ⟨F - 1, by omega⟩
    have a0 : acc (Fm (Wm L) S t g (u + 1).testBit) (fun s => if (u + 1).testBit s = true then Wm L s t + Fm (Wm L) S t g (rmv (u + 1).testBit s) else 0) 0 = Fm (Wm L) S t g (u + 1).testBit := by
      unfold acc mx
      rw [if_neg (by omega)]
    have aS : acc (Fm (Wm L) S t g (u + 1).testBit) (fun s => if (u + 1).testBit s = true then Wm L s t + Fm (Wm L) S t g (rmv (u + 1).testBit s) else 0) S = Fm (Wm L) S (t + 1) g (u + 1).testBit := by
      simp only [Fm]
      rw [if_neg hg]
      rfl
    obtain ⟨J1, G1, p1, R1, p3, p4, p5⟩ := of_15 (z := z) (h := h) (A := A) (M := M) (I := I) (T := T) (rl := rl) (N := N) (g := g) hS ht hL hu (fun x0 x1 u => fX3_offer_9 F x0 (x1 + (-1 : Int32)) u) S 0 FU J G R h10 h1 (fun y hy => hl y (by omega)) (by rw [a0]; exact hl (u + 1) (Nat.le_refl _)) (by omega) (fuel (by omega))
    rw [aS] at p5
    obtain ⟨J2, G2, r1, R2, r3⟩ := ih F J1 G1 R1 h10 (fun s hs => by rw [p4]; exact h1 s hs) (by omega) (fun y hy => by rw [p3 y (by omega)]; exact hl y (by omega)) (fun y h3 h4 => by
      by_cases e : y = u + 1
      · rw [e]; exact p5
      · rw [p3 y e]; exact hh y (by omega) h4) (by omega)
    refine ⟨J2, G2, ?_, R2, r3⟩
    rw [← r1, ← pk_m1 u]
    show fX3_offer_9_b (A 3 4 0) (nI (u + 1)) G (fX3_offer_9 F) = _
    unfold fX3_offer_9_b
    rw [if_neg (nI_nle (by omega) (by omega))]
    exact p1
theorem of_n {L : Nat → Nat → Nat} {S t : Nat} (hS : S ≤ 8) (ht : t < 20) (hL : ∀ s t, L s t ≤ 103) {g : Nat → Bool} (hg : ¬ g t = true) (R : Mem z h A M I T J rl G N) (h10 : I 1 0 = nI S) (h1 : ∀ s, s < S → J 1 s = lN (Wm L s t)) (h0 : ∀ y, y < 2 ^ S → J 0 y = lN (Fm (Wm L) S t g y.testBit)) : ∃ J' G', fX3_offer (A 3 4 0) G = some G' ∧ Mem z h A M I T J' rl G' N ∧ ∀ y, y < 2 ^ S → J' 0 y = lN (Fm (Wm L) S (t + 1) g y.testBit) := by
  have hpS : 2 ^ S ≤ 2 ^ 8 := pw2 hS
  have hp0 := Nat.two_pow_pos S
  obtain ⟨J1, G1, p1, p2⟩ := of_9 (z := z) (h := h) (A := A) (M := M) (I := I) (T := T) (rl := rl) (N := N) hS ht hL hg (2 ^ S - 1) FU J G R h10 h1 (by omega) (fun y hy => h0 y (by omega)) (fun y h3 h4 => by omega) (fuel' (by omega))
  refine ⟨J1, G1, ?_, p2⟩
  have sh : ((1 : Int32) <<< (nI S &&& 31)) - 1 = nI (2 ^ S - 1) := by
    rw [shl_n (by omega)]
    exact pk_sub (b := 1) hp0
  unfold fX3_offer
  rw [m4_2 R, ob_s, h10, sh, pU_s]
  exact p1
theorem bm_29 {L : Nat → Nat → Nat} {t : Nat} (hb0 : M 0 0 ≤ 20) (hb1 : M 0 1 ≤ 8) (hL : ∀ s t, L s t ≤ 103) (hlk : ∀ s t, s < M 0 1 → t < M 0 0 → lk I T s t = nI (L s t)) (ht : t < M 0 0) (k81 : Nat → Int32 → gM → Option (Int64 × gM)) : ∀ (c j F : Nat) (J : Nat → Nat → Int64) (G : gM), Mem z h A M I T J rl G N → (∀ s, s < j → J 1 s = lN (Wm L s t)) → j + c = M 0 1 → c < F → ∃ J' G', fX9_bestMatch_29 k81 F h (nI t) (nI j) G = k81 h (nI t) G' ∧ Mem z h A M I T J' rl G' N ∧ J' 0 = J 0 ∧ ∀ s, s < M 0 1 → J' 1 s = lN (Wm L s t) := by
  intro c
  induction c with
  | zero =>
    intro j F J G R h1 hj hF
    obtain ⟨F, rfl⟩ : ∃ F', F = F' + 1 := ⟨F - 1, by omega⟩
    have : j = M 0 1 := by omega
    subst this
    refine ⟨J, G, ?_, R, rfl, h1⟩
    simp only [fX9_bestMatch_29, fX9_bestMatch_29_b, R.f1, R.lo (show 1 < 4 by decide), sz_n R (show 1 < 4 by decide), ob_s, bI_s, if_pos (Int32.le_refl _)]
  | succ c ih =>
    intro j F J G R h1 hj hF
    obtain ⟨F, rfl⟩ : ∃ F', F = F' + 1 := ⟨F - 1, by omega⟩
    have hjM : j < M 0 1 := by omega
    have hj2 : j < M 2 1 := by have := R.b.2.2.1; omega
    have ht2 : t < M 2 0 := by have := R.b.2.1; omega
    have lc := lk_c R hj2 ht2
    rw [hlk j t hjM ht] at lc
    obtain ⟨qo, go⟩ := m4_o R
    obtain ⟨G1, w1, R1⟩ := wg_n R (L := L) (s := j) (t := t) (by omega) (by omega) (hL j t)
    obtain ⟨J', G', p1, p2, p3, p4⟩ := ih (j + 1) F _ G1 R1 (fun s hs => by
      by_cases e : s = j
      · rw [e, uj_s]
      · rw [uj_o (.inr e)]; exact h1 s (by omega)) (by omega) (by omega)
    refine ⟨J', G', ?_, p2, by rw [p3]; funext y; rw [uj_o (.inl (by decide))], p4⟩
    rw [← p1]
    simp only [fX9_bestMatch_29, fX9_bestMatch_29_b, R.f1, R.f0, R.f8, R.lo (show 1 < 4 by decide), R.lo (show 0 < 4 by decide), sz_n R (show 1 < 4 by decide), ob_s, bI_s, if_neg (nI_ge hjM (show M 0 1 < 2 ^ 31 by omega)), get_n R (show 1 < 4 by decide) hjM, get_n R (show 0 < 4 by decide) ht, eA, R.sk hj2, R.tk ht2, R.o10, lc, go, w1, nI_1]
theorem bm_16 {L : Nat → Nat → Nat} (hb0 : M 0 0 ≤ 20) (hb1 : M 0 1 ≤ 8) (hL : ∀ s t, L s t ≤ 103) (hlk : ∀ s t, s < M 0 1 → t < M 0 0 → lk I T s t = nI (L s t)) (h10 : I 1 0 = nI (M 0 1)) : ∀ (c t F : Nat) (J : Nat → Nat → Int64) (G : gM), Mem z h A M I T J rl G N → (∀ y, y < 2 ^ M 0 1 → J 0 y = lN (Fm (Wm L) (M 0 1) t (fun _ => false) y.testBit)) → t + c = M 0 0 → c < F → ∃ J' G', fX9_bestMatch_16 F h (nI t) G = some (lN (Fm (Wm L) (M 0 1) (M 0 0) (fun _ => false) (frm (M 0 1) 0)), G') ∧ Mem z h A M I T J' rl G' N := by
  have hpS : 2 ^ M 0 1 ≤ 2 ^ 8 := pw2 hb1
  have hp0 := Nat.two_pow_pos (M 0 1)
  intro c
  induction c with
  | zero =>
    intro t F J G R h0 ht hF
    obtain ⟨F, rfl⟩ : ∃ F', F = F' + 1 := ⟨F - 1, by omega⟩
    have : t = M 0 0 := by omega
    subst this
    obtain ⟨qo, go⟩ := m4_o R
    have sh : ((1 : Int32) <<< (nI (M 0 1) &&& 31)) - 1 = nI (2 ^ M 0 1 - 1) := by
      rw [shl_n (by omega)]
      exact pk_sub (b := 1) hp0
    have e12 := m4_b R (u := 2 ^ M 0 1 - 1) (by omega)
    rw [h0 _ (by omega), frm_0, frm_t] at e12
    rw [← frm_0] at e12
    refine ⟨J, G, ?_, R⟩
    show fX9_bestMatch_16_b h (nI (M 0 0)) G (fX9_bestMatch_16 F) = _
    unfold fX9_bestMatch_16_b
    rw [R.f0, ob_s, ob_s, R.lo (show 0 < 4 by decide), ob_s, sz_n R (show 0 < 4 by decide), bI_s, if_pos (Int32.le_refl _), R.f8, ob_s, ob_s, go, ob_s]
    unfold fX3_best
    rw [m4_0 R, ob_s, m4_2 R, ob_s, ob_s, h10, sh, e12, ob_s, bI_s]
  | succ c ih =>
    intro t F J G R h0 ht hF
    obtain ⟨F, rfl⟩ : ∃ F', F = F' + 1 := ⟨F - 1, by omega⟩
    have htM : t < M 0 0 := by omega
    obtain ⟨J1, G1, p1, R1, p3, p4⟩ := bm_29 (z := z) (h := h) (A := A) (M := M) (I := I) (T := T) (rl := rl) (N := N) hb0 hb1 hL hlk htM (fun x0 x1 u => (gR [10] 8 u x0).bind fun v82 => (v82).bind fun a85 => (gO [4] u a85).bind fun _ => (fX3_offer a85 u).bind fun u85 => fX9_bestMatch_16 F x0 (x1 + (1 : Int32)) u85) (M 0 1) 0 FU J G R (fun s hs => absurd hs (Nat.not_lt_zero _)) (by omega) (fuel (by omega))
    obtain ⟨qo, go⟩ := m4_o R1
    obtain ⟨J2, G2, r1, R2, r3⟩ := of_n (g := fun _ => false) hb1 (show t < 20 by omega) hL (by decide) R1 h10 p4 (fun y hy => by rw [p3]; exact h0 y hy)
    obtain ⟨J3, G3, s1, R3⟩ := ih (t + 1) F J2 G2 R2 r3 (by omega) (by omega)
    refine ⟨J3, G3, ?_, R3⟩
    rw [← s1, ← nI_1]
    show fX9_bestMatch_16_b h (nI t) G (fX9_bestMatch_16 F) = _
    unfold fX9_bestMatch_16_b
    rw [R.f0, ob_s, ob_s, R.lo (show 0 < 4 by decide), ob_s, sz_n R (show 0 < 4 by decide), bI_s, if_neg (nI_ge htM (by omega))]
    refine p1.trans ?_
    rw [R1.f8, ob_s, ob_s, go, ob_s, r1, ob_s]
theorem bm_n {L : Nat → Nat → Nat} (R : Mem z h A M I T J rl G N) (hb0 : M 0 0 ≤ 20) (hb1 : M 0 1 ≤ 8) (hL : ∀ s t, L s t ≤ 103) (hlk : ∀ s t, s < M 0 1 → t < M 0 0 → lk I T s t = nI (L s t)) : ∃ J' G', fX9_bestMatch h G = some (lN (Fm (Wm L) (M 0 1) (M 0 0) (fun _ => false) (frm (M 0 1) 0)), G') ∧ Mem z h A M (uu I 1 0 (nI (M 0 1))) T J' rl G' N := by
  have hpS : 2 ^ M 0 1 ≤ 2 ^ 8 := pw2 hb1
  obtain ⟨J1, G1, b1, R1, b3⟩ := bg_n R (nI (M 0 1))
  obtain ⟨qo, go⟩ := m4_o R
  obtain ⟨J2, G2, p1, R2⟩ := bm_16 (I := uu I 1 0 (nI (M 0 1))) (L := L) hb0 hb1 hL (fun s t hs ht => hlk s t hs ht) uu_s (M 0 0) 0 FU J1 G1 R1 (fun y hy => b3 y (by omega)) (by omega) (fuel (by omega))
  refine ⟨J2, G2, ?_, R2⟩
  unfold fX9_bestMatch
  rw [R.f8, ob_s, R.f1, ob_s, ob_s, R.lo (show 1 < 4 by decide), ob_s, sz_n R (show 1 < 4 by decide), bI_s, ob_s, go, ob_s, b1, ob_s]
  exact p1
end MC
