/-! the match: the reference's telling -/
def mtv : Option Nat → Int32
  | none => -1
  | some t => nI t
def gmv (γ : Nat) : Option Nat → Nat
  | none => γ
  | some t => γ ||| 2 ^ t
def rsv (L : Nat → Nat → Nat) (s r : Nat) : Option Nat → Nat
  | none => r
  | some t => r - L s t
theorem frm_t {S j : Nat} : (fbs (frm S j) S).testBit = frm S j := by
  funext i
  rw [fbs_tb]
  unfold frm
  by_cases e : i < S <;> simp [e]
theorem frm_x {S j : Nat} (hj : j < S) : fbs (frm S j) S ^^^ 2 ^ j = fbs (frm S (j + 1)) S := by
  apply Nat.eq_of_testBit_eq
  intro i
  have e1 : (fbs (frm S j) S ^^^ 2 ^ j).testBit = rmv (fbs (frm S j) S).testBit j := tb_rm (by rw [frm_t]; exact frm_j hj)
  rw [e1, frm_t, frm_t, frm_r]
theorem frm_0 {S : Nat} : 2 ^ S - 1 = fbs (frm S 0) S := by
  apply Nat.eq_of_testBit_eq
  intro i
  rw [frm_t, Nat.testBit_two_pow_sub_one]
  simp [frm]
section MT
variable {L : Nat → Nat → Nat} {S Tn : Nat}
theorem tm_d {s r : Nat} (hs : s < 8) (hr : r < 2 ^ 31) {v : mS} (h36 : v.2.1 36 s = nI r) (x1 x2 x3 x4 x6 : Int32) (k199 : Int32 → Int32 → Int32 → Int32 → Int32 → mS → Option (Int32 × mS)) (F : Nat) : fX10_tellMatch_103 k199 (F + 1) x1 x2 x3 x4 (nI s) x6 v = k199 x1 x2 x3 x4 (nI s) v := by
  show fX10_tellMatch_103_b x1 x2 x3 x4 (nI s) x6 v (fX10_tellMatch_103 k199 F) k199 = _
  unfold fX10_tellMatch_103_b
  by_cases q : v.1 2 ≤ x6
  · rw [if_pos q]
  · rw [if_neg q, mRn hs (show 8 < 2 ^ 31 by decide), ob_s, h36, if_pos (Int32.not_lt.mp (nI_pos hr))]
theorem tm_103 (hS : S ≤ 8) (hT : Tn ≤ 20) (hL : ∀ s t, L s t ≤ 103) {γ s : Nat} (hγ : γ < 2 ^ 20) (hs : s < S) (x3 : Int32) : ∀ (c t F : Nat) (v : mS), mrd L S Tn v → v.2.1 36 s = -1 → t + c = Tn → c < F → ∃ v', (∀ k199, fX10_tellMatch_103 k199 F (nI (fbs (frm S (s + 1)) S)) (nI γ) x3 (nI (Fm L S Tn γ.testBit (frm S s))) (nI s) (nI t) v = k199 (nI (fbs (frm S (s + 1)) S)) (nI (gmv γ (fst1 (fit L S Tn s γ.testBit) c t))) x3 (nI (rsv L s (Fm L S Tn γ.testBit (frm S s)) (fst1 (fit L S Tn s γ.testBit) c t))) (nI s) v') ∧ v'.1 = v.1 ∧ (∀ r, r ≠ 36 → r ≠ 37 → r ≠ 38 → v'.2.1 r = v.2.1 r) ∧ (∀ y, y ≠ s → v'.2.1 36 y = v.2.1 36 y) ∧ v'.2.1 36 s = mtv (fst1 (fit L S Tn s γ.testBit) c t) := by
  have fbd : ∀ g σ, Fm L S Tn g σ ≤ 2060 := fun g σ => by
    have h1 := Fm_ba (S := S) hL Tn g σ
    have h2 : 103 * Tn ≤ 103 * 20 := Nat.mul_le_mul_left _ hT
    omega
  intro c
  induction c with
  | zero =>
    intro t F v R h36 ht hF
    obtain ⟨F, rfl⟩ : ∃ F', F = F' + 1 := ⟨F - 1, by omega⟩
    have : t = Tn := by omega
    subst this
    refine ⟨v, fun k199 => ?_, rfl, fun _ _ _ _ => rfl, fun _ _ => rfl, h36⟩
    show fX10_tellMatch_103_b _ _ _ _ _ _ v (fX10_tellMatch_103 k199 F) k199 = _
    unfold fX10_tellMatch_103_b
    rw [R.1, if_pos (Int32.le_refl _)]
    rfl
  | succ c ih =>
    intro t F v R h36 ht hF
    obtain ⟨F, rfl⟩ : ∃ F', F = F' + 1 := ⟨F - 1, by omega⟩
    have htT : t < Tn := by omega
    have e39 := R.2.2 s t hs htT
    have n36 : ¬ (0 : Int32) ≤ v.2.1 36 s := by rw [h36]; decide
    have hLb := hL s t
    have skip : ¬ fit L S Tn s γ.testBit t = true → fst1 (fit L S Tn s γ.testBit) (c + 1) t = fst1 (fit L S Tn s γ.testBit) c (t + 1) := fun h => by
      simp only [fst1]
      rw [if_neg h]
    have head : ∀ k199, fX10_tellMatch_103 k199 (F + 1) (nI (fbs (frm S (s + 1)) S)) (nI γ) x3 (nI (Fm L S Tn γ.testBit (frm S s))) (nI s) (nI t) v = if ((nI γ >>> (nI t &&& 31)) &&& (1 : Int32)) = 0 then (if nI (L s t) ≤ 0 then fX10_tellMatch_193 (nI (fbs (frm S (s + 1)) S)) (nI γ) x3 (nI (Fm L S Tn γ.testBit (frm S s))) (nI s) (nI t) v (fX10_tellMatch_103 k199 F) else (bI (fX10_mostOf (nI (fbs (frm S (s + 1)) S)) (nI γ ||| ((1 : Int32) <<< (nI t &&& 31))) v) fun r161 u161 => if (nI (L s t) + r161) = nI (Fm L S Tn γ.testBit (frm S s)) then ((mU u161 36 8 (nI s) (nI t)).bind fun u178 => pU (nI γ ||| ((1 : Int32) <<< (nI t &&& 31))) fun z185 => fX10_tellMatch_193 (nI (fbs (frm S (s + 1)) S)) z185 x3 (nI (Fm L S Tn γ.testBit (frm S s)) - nI (L s t)) (nI s) (nI t) u178 (fX10_tellMatch_103 k199 F)) else fX10_tellMatch_193 (nI (fbs (frm S (s + 1)) S)) (nI γ) x3 (nI (Fm L S Tn γ.testBit (frm S s))) (nI s) (nI t) u161 (fX10_tellMatch_103 k199 F))) else fX10_tellMatch_193 (nI (fbs (frm S (s + 1)) S)) (nI γ) x3 (nI (Fm L S Tn γ.testBit (frm S s))) (nI s) (nI t) v (fX10_tellMatch_103 k199 F) := fun k199 => by
      show fX10_tellMatch_103_b _ _ _ _ _ _ v (fX10_tellMatch_103 k199 F) k199 = _
      unfold fX10_tellMatch_103_b
      rw [R.1, if_neg (nI_ge htT (by omega)), mRn (show s < 8 by omega) (show 8 < 2 ^ 31 by decide), ob_s, if_neg n36, i20, mRn (show 20 * s + t < 160 by omega) (show 160 < 2 ^ 31 by decide), ob_s, e39]
    by_cases hg : γ.testBit t = true
    · have nf : ¬ fit L S Tn s γ.testBit t = true := by simp [fit, hg]
      rw [skip nf]
      obtain ⟨v', p1, p2⟩ := ih (t + 1) F v R h36 (by omega) (by omega)
      refine ⟨v', fun k199 => ?_, p2⟩
      rw [← p1 k199, head, if_neg (by rw [bit_0 (by omega) (by omega)]; exact fun q => q hg), ← nI_1]
      rfl
    · have b0 : ((nI γ >>> (nI t &&& 31)) &&& 1) = 0 := by rw [bit_0 (by omega) (by omega)]; exact hg
      by_cases z : L s t = 0
      · have nf : ¬ fit L S Tn s γ.testBit t = true := by simp [fit, z]
        rw [skip nf]
        obtain ⟨v', p1, p2⟩ := ih (t + 1) F v R h36 (by omega) (by omega)
        refine ⟨v', fun k199 => ?_, p2⟩
        rw [← p1 k199, head, if_pos b0, if_pos (show nI (L s t) ≤ 0 by rw [z]; decide), ← nI_1]
        rfl
      · have sh : nI γ ||| ((1 : Int32) <<< (nI t &&& 31)) = nI (γ ||| 2 ^ t) := by rw [shl_n (by omega), or_n]
        have p2t : 2 ^ t < 2 ^ 20 := Nat.pow_lt_pow_right (by decide) (by omega)
        have hγt : γ ||| 2 ^ t < 2 ^ 20 := Nat.or_lt_two_pow hγ p2t
        have fθ := fbs_lt (frm S (s + 1)) S
        obtain ⟨v1, m1, m2, m3⟩ := mo_n hS hT hL (γ := γ ||| 2 ^ t) (θ := fbs (frm S (s + 1)) S) (by omega) fθ R
        rw [tb_ad, frm_t] at m1
        have f1 := fbd (addg γ.testBit t) (frm S (s + 1))
        have f2 := fbd γ.testBit (frm S s)
        by_cases q : L s t + Fm L S Tn (addg γ.testBit t) (frm S (s + 1)) = Fm L S Tn γ.testBit (frm S s)
        · have hf : fit L S Tn s γ.testBit t = true := by simp [fit, hg, q, show 0 < L s t by omega]
          have ef : fst1 (fit L S Tn s γ.testBit) (c + 1) t = some t := by
            simp only [fst1]
            rw [if_pos hf]
          rw [ef]
          refine ⟨mA v1 36 s (nI t), fun k199 => ?_, m2, fun r g1 g2 g3 => ?_, fun y hy => ?_, ?_⟩
          · obtain ⟨F, rfl⟩ : ∃ F', F = F' + 1 := ⟨F - 1, by omega⟩
            rw [head, if_pos b0, if_neg (nI_nle (by omega) (by omega)), sh, m1, bI_s, if_pos (by rw [nI_add, q]), mUn (show s < 8 by omega) (show 8 < 2 ^ 31 by decide), ob_s, pU_s, pk_sub (by omega)]
            unfold fX10_tellMatch_193
            rw [tm_d (show s < 8 by omega) (show t < 2 ^ 31 by omega) (by show upd (v1.2.1 36) s _ s = _; rw [pk_us])]
            rfl
          · show (if r = 36 then _ else v1.2.1 r) = _
            rw [if_neg g1, m3 r g2 g3]
          · show upd (v1.2.1 36) s _ y = _
            rw [pk_un hy, m3 36 (by decide) (by decide)]
          · show upd (v1.2.1 36) s _ s = _
            rw [pk_us]
            rfl
        · have nf : ¬ fit L S Tn s γ.testBit t = true := by simp [fit, q]
          rw [skip nf]
          obtain ⟨v', p1, p2, p3, p4, p5⟩ := ih (t + 1) F v1 (by
            unfold mrd
            rw [m2, m3 39 (by decide) (by decide)]
            exact R) (by rw [m3 36 (by decide) (by decide)]; exact h36) (by omega) (by omega)
          refine ⟨v', fun k199 => ?_, by rw [p2, m2], fun r g1 g2 g3 => by rw [p3 r g1 g2 g3, m3 r g2 g3], fun y hy => by rw [p4 y hy, m3 36 (by decide) (by decide)], p5⟩
          have ne : ¬ nI (L s t) + nI (Fm L S Tn (addg γ.testBit t) (frm S (s + 1))) = nI (Fm L S Tn γ.testBit (frm S s)) := fun g => by
            rw [nI_add] at g
            exact q ((nI_eq (by omega) (by omega)).mp g)
          rw [← p1 k199, head, if_pos b0, if_neg (nI_nle (by omega) (by omega)), sh, m1, bI_s, if_neg ne, ← nI_1]
          rfl
theorem tm_76 (hS : S ≤ 8) (hT : Tn ≤ 20) (hL : ∀ s t, L s t ≤ 103) (x3 : Int32) : ∀ (n j F γ : Nat) (v : mS), j + n = S → n < F → γ < 2 ^ 20 → mrd L S Tn v → ∃ v', fX10_tellMatch_76 F (nI (fbs (frm S j) S)) (nI γ) x3 (nI (Fm L S Tn γ.testBit (frm S j))) (nI j) v = some (x3, v') ∧ v'.1 = v.1 ∧ (∀ r, r ≠ 36 → r ≠ 37 → r ≠ 38 → v'.2.1 r = v.2.1 r) ∧ (∀ y, y < j → v'.2.1 36 y = v.2.1 36 y) ∧ ∀ y, j ≤ y → y < S → v'.2.1 36 y = mtv (mth L S Tn n j γ.testBit y) := by
  intro n
  induction n with
  | zero =>
    intro j F γ v hj hF hγ R
    obtain ⟨F, rfl⟩ : ∃ F', F = F' + 1 := ⟨F - 1, by omega⟩
    have : j = S := by omega
    subst this
    refine ⟨v, ?_, rfl, fun _ _ _ _ => rfl, fun _ _ => rfl, fun y h1 h2 => by omega⟩
    show fX10_tellMatch_76_b _ _ _ _ _ v (fX10_tellMatch_76 F) = _
    unfold fX10_tellMatch_76_b
    rw [R.2.1, if_pos (Int32.le_refl _)]
  | succ n ih =>
    intro j F γ v hj hF hγ R
    obtain ⟨F, rfl⟩ : ∃ F', F = F' + 1 := ⟨F - 1, by omega⟩
    have hjS : j < S := by omega
    obtain ⟨v1, p1, p2, p3, p4, p5⟩ := tm_103 hS hT hL hγ hjS x3 Tn 0 FU (mA v 36 j (-1)) R (by show upd (v.2.1 36) j _ j = _; rw [pk_us]) (by omega) (fuel (by omega))
    have ho : fst1 (fit L S Tn j γ.testBit) Tn 0 = chc L S Tn j γ.testBit := rfl
    rw [ho] at p5
    have p1' : ∀ k199, fX10_tellMatch_103 k199 FU (nI (fbs (frm S (j + 1)) S)) (nI γ) x3 (nI (Fm L S Tn γ.testBit (frm S j))) (nI j) 0 (mA v 36 j (-1)) = k199 (nI (fbs (frm S (j + 1)) S)) (nI (gmv γ (chc L S Tn j γ.testBit))) x3 (nI (rsv L j (Fm L S Tn γ.testBit (frm S j)) (chc L S Tn j γ.testBit))) (nI j) v1 := p1
    have hn : gmv γ (chc L S Tn j γ.testBit) < 2 ^ 20 ∧ (gmv γ (chc L S Tn j γ.testBit)).testBit = nxg γ.testBit (chc L S Tn j γ.testBit) ∧ rsv L j (Fm L S Tn γ.testBit (frm S j)) (chc L S Tn j γ.testBit) = Fm L S Tn (nxg γ.testBit (chc L S Tn j γ.testBit)) (frm S (j + 1)) := by
      cases hc : chc L S Tn j γ.testBit with
      | none => exact ⟨hγ, rfl, opt_n hjS hc⟩
      | some t =>
        obtain ⟨o1, o2, o3, o4, o5⟩ := opt_s hc
        have p2t : 2 ^ t < 2 ^ 20 := Nat.pow_lt_pow_right (by decide) (by omega)
        refine ⟨Nat.or_lt_two_pow hγ p2t, tb_ad, ?_⟩
        show Fm L S Tn γ.testBit (frm S j) - L j t = Fm L S Tn (addg γ.testBit t) (frm S (j + 1))
        omega
    obtain ⟨n1, n2, n3⟩ := hn
    rw [n3, ← n2] at p1'
    obtain ⟨v', r1, r2, r3, r4, r5⟩ := ih (j + 1) F (gmv γ (chc L S Tn j γ.testBit)) v1 (by omega) (by omega) n1 (by
      unfold mrd
      rw [p2, p3 39 (by decide) (by decide) (by decide)]
      exact R)
    refine ⟨v', ?_, by rw [r2, p2]; rfl, fun r g1 g2 g3 => by rw [r3 r g1 g2 g3, p3 r g1 g2 g3]; show (if r = 36 then _ else v.2.1 r) = _; rw [if_neg g1], fun y hy => by rw [r4 y (by omega), p4 y (by omega)]; show upd (v.2.1 36) j _ y = _; rw [pk_un (by omega)], fun y h1 h2 => ?_⟩
    · rw [← r1, ← nI_1]
      show fX10_tellMatch_76_b _ _ _ _ _ v (fX10_tellMatch_76 F) = _
      unfold fX10_tellMatch_76_b
      rw [R.2.1, if_neg (nI_ge hjS (by omega)), shl_n (show j < 32 by omega), xor_n, frm_x hjS, pU_s, mUn (show j < 8 by omega) (show 8 < 2 ^ 31 by decide), ob_s, p1']
      rfl
    · simp only [mth]
      by_cases e : y = j
      · rw [if_pos e, e, r4 j (by omega)]
        exact p5
      · rw [if_neg e, r5 y (by omega) h2, n2]
end MT
section MT2
variable {M : Nat → Nat → Nat} {I : Nat → Nat → Int32} {T : Nat → Nat → Nat → Int32} {k : Nat} {v : mS}
theorem tm_13 {L : Nat → Nat → Nat} (hlk : ∀ s t, s < M 0 1 → t < M 0 0 → lk I T s t = nI (L s t)) (x1 x2 : Int32) (k63 : Int32 → Int32 → mS → Option (Int32 × mS)) : ∀ (c i F : Nat) (v : mS), tie k M I T v → i + c = 20 * M 0 1 → c < F → (∀ s t, s < M 0 1 → t < M 0 0 → 20 * s + t < i → v.2.1 39 (20 * s + t) = nI (L s t)) → ∃ v', fX10_tellMatch_13 k63 F x1 x2 (nI i) v = k63 x1 x2 v' ∧ v'.1 = v.1 ∧ (∀ r, r ≠ 39 → v'.2.1 r = v.2.1 r) ∧ ∀ s t, s < M 0 1 → t < M 0 0 → v'.2.1 39 (20 * s + t) = nI (L s t) := by
  intro c
  induction c with
  | zero =>
    intro i F v E hi hF h39
    obtain ⟨F, rfl⟩ : ∃ F', F = F' + 1 := ⟨F - 1, by omega⟩
    have hb := E.b1
    have hb0 := E.b0
    have e17 : (20 : Int32) * v.1 17 = nI (20 * M 0 1) := by
      rw [E.1.1.2.2.2.1]
      exact pk_mul 20 _
    refine ⟨v, ?_, rfl, fun _ _ => rfl, fun s t h1 h2 => h39 s t h1 h2 (by omega)⟩
    simp only [fX10_tellMatch_13, fX10_tellMatch_13_b, e17, if_pos (nI_le (show 20 * M 0 1 ≤ i by omega) (by omega))]
  | succ c ih =>
    intro i F v E hi hF h39
    obtain ⟨F, rfl⟩ : ∃ F', F = F' + 1 := ⟨F - 1, by omega⟩
    have hb := E.b1
    have hb0 := E.b0
    have e17 : (20 : Int32) * v.1 17 = nI (20 * M 0 1) := by
      rw [E.1.1.2.2.2.1]
      exact pk_mul 20 _
    have d1 : nI i / (20 : Int32) = nI (i / 20) := pk_div (d := 20) (by omega) (by decide) (by decide)
    have d2 : nI i - nI i / (20 : Int32) * (20 : Int32) = nI (i % 20) := pk_rem (d := 20) (by omega) (by decide) (by decide)
    have d3 : nI i - nI (i / 20) * (20 : Int32) = nI (i % 20) := by rw [← d1]; exact d2
    have hdm := Nat.div_add_mod i 20
    have hmd := Nat.mod_lt i (show 0 < 20 by decide)
    have step : ∀ X : Int32, (i % 20 < M 0 0 → X = nI (L (i / 20) (i % 20))) → ∃ v', fX10_tellMatch_13 k63 F x1 x2 (nI (i + 1)) (mA v 39 i X) = k63 x1 x2 v' ∧ v'.1 = v.1 ∧ (∀ r, r ≠ 39 → v'.2.1 r = v.2.1 r) ∧ ∀ s t, s < M 0 1 → t < M 0 0 → v'.2.1 39 (20 * s + t) = nI (L s t) := fun X hX => by
      obtain ⟨v', p1, p2, p3, p4⟩ := ih (i + 1) F (mA v 39 i X) (tie_v (v := v) (v' := mA v 39 i X) (fun _ _ => rfl) (fun r hr => by show (if r = 39 then _ else v.2.1 r) = v.2.1 r; rw [if_neg (by omega)]) E) (by omega) (by omega) (fun s t h1 h2 h3 => by
        show upd (v.2.1 39) i X (20 * s + t) = _
        by_cases e : 20 * s + t = i
        · rw [e, pk_us, hX (by omega)]
          congr 2 <;> omega
        · rw [pk_un e]
          exact h39 s t h1 h2 (by omega))
      exact ⟨v', p1, p2, fun r hr => by rw [p3 r hr]; show (if r = 39 then _ else v.2.1 r) = _; rw [if_neg hr], p4⟩
    by_cases q : i % 20 < M 0 0
    · obtain ⟨v', p1, p2⟩ := step (nI (L (i / 20) (i % 20))) (fun _ => rfl)
      refine ⟨v', ?_, p2⟩
      rw [← p1]
      have lm := lk_m E (s := i / 20) (t := i % 20) (by omega) q
      rw [hlk _ _ (by omega) q] at lm
      simp only [fX10_tellMatch_13, fX10_tellMatch_13_b, fX10_tellMatch_56, e17, if_neg (nI_ge (show i < 20 * M 0 1 by omega) (by omega)), d1, d3, E.1.1.2.2.1, if_neg (nI_ge q (show M 0 0 < 2 ^ 31 by omega)), lm, bI_s, mUn (show i < 160 by omega) (show 160 < 2 ^ 31 by decide), ob_s, nI_1]
    · obtain ⟨v', p1, p2⟩ := step 0 (fun h => absurd h q)
      refine ⟨v', ?_, p2⟩
      rw [← p1]
      simp only [fX10_tellMatch_13, fX10_tellMatch_13_b, fX10_tellMatch_56, e17, if_neg (nI_ge (show i < 20 * M 0 1 by omega) (by omega)), d1, d3, E.1.1.2.2.1, if_pos (nI_le (show M 0 0 ≤ i % 20 by omega) (by omega)), mUn (show i < 160 by omega) (show 160 < 2 ^ 31 by decide), ob_s, nI_1]
theorem tm_n {L : Nat → Nat → Nat} (E : tie k M I T v) (hL : ∀ s t, L s t ≤ 103) (hlk : ∀ s t, s < M 0 1 → t < M 0 0 → lk I T s t = nI (L s t)) : ∃ v', fX10_tellMatch v = some (nI (Fm L (M 0 1) (M 0 0) (fun _ => false) (frm (M 0 1) 0)), v') ∧ v'.1 = v.1 ∧ (∀ r, r < 36 → v'.2.1 r = v.2.1 r) ∧ ∀ y, y < M 0 1 → v'.2.1 36 y = mtv (mth L (M 0 1) (M 0 0) (M 0 1) 0 (fun _ => false) y) := by
  have hb := E.b1
  have hb0 := E.b0
  have hpS : 2 ^ M 0 1 ≤ 2 ^ 8 := pw2 hb
  have hp0 := Nat.two_pow_pos (M 0 1)
  have t0 : (0 : Nat).testBit = fun _ => false := by funext i; simp
  have z8 : ((1 : Int32) <<< ((v.1 17) &&& 31)) - 1 = nI (fbs (frm (M 0 1) 0) (M 0 1)) := by
    rw [E.1.1.2.2.2.1, shl_n (by omega), ← frm_0]
    exact pk_sub (b := 1) hp0
  obtain ⟨v1, p1, p2, p3, p4⟩ := tm_13 hlk (nI (fbs (frm (M 0 1) 0) (M 0 1))) 0 (fun x1 x2 u => bI (fX10_mostOf x1 (0 : Int32) u) fun r66 u66 => fX10_tellMatch_76 FU x1 x2 r66 r66 (0 : Int32) u66) (20 * M 0 1) 0 FU v E (by omega) (fuel' (by omega)) (fun s t _ _ h => by omega)
  have R1 : mrd L (M 0 1) (M 0 0) v1 := ⟨by rw [p2]; exact E.1.1.2.2.1, by rw [p2]; exact E.1.1.2.2.2.1, p4⟩
  obtain ⟨v2, m1, m2, m3⟩ := mo_n hb hb0 hL (γ := 0) (θ := fbs (frm (M 0 1) 0) (M 0 1)) (by decide) (fbs_lt _ _) R1
  rw [frm_t, t0] at m1
  obtain ⟨v3, r1, r2, r3, r4, r5⟩ := tm_76 hb hb0 hL (nI (Fm L (M 0 1) (M 0 0) (fun _ => false) (frm (M 0 1) 0))) (M 0 1) 0 FU 0 v2 (by omega) (fuel (by omega)) (by decide) (by
    unfold mrd
    rw [m2, m3 39 (by decide) (by decide)]
    exact R1)
  rw [t0] at r1 r5
  refine ⟨v3, ?_, by rw [r2, m2, p2], fun r hr => by rw [r3 r (by omega) (by omega) (by omega), m3 r (by omega) (by omega), p3 r (by omega)], fun y hy => r5 y (by omega) hy⟩
  unfold fX10_tellMatch
  rw [z8, pU_s]
  refine p1.trans ?_
  show bI (fX10_mostOf (nI (fbs (frm (M 0 1) 0) (M 0 1))) (nI 0) v1) _ = _
  rw [m1, bI_s]
  exact r1
end MT2
