/-! digits -/
section DG
variable {z : Nat → Nat} {h : Nat} {A : Nat → Nat → Nat → Nat} {M : Nat → Nat → Nat} {I : Nat → Nat → Int32} {T : Nat → Nat → Nat → Int32} {J : Nat → Nat → Int64} {rl : Nat → Nat × Nat × Nat} {G : gM} {N k : Nat} {v : mS}
def dgt (w k : Nat) : Nat := w / 10 ^ k % 10
def dgf : Nat → Nat → Nat → Nat
  | 0, k, _ => k
  | m + 1, k, w => if w < 10 ^ k then k else dgf m (k + 1) w
def plf : Nat → Nat → Nat
  | 0, _ => 0
  | m + 1, r => if r = 0 then 0 else plf m (r / 10) + 1
theorem p10 {k m : Nat} (h : k ≤ m) : 10 ^ k ≤ 10 ^ m := Nat.pow_le_pow_right (by decide) h
theorem p10p (k : Nat) : 0 < 10 ^ k := Nat.pow_pos (by decide)
theorem p10b {k : Nat} (h : k < 9) : 10 ^ k < 2 ^ 31 := Nat.lt_of_le_of_lt (p10 (show k ≤ 8 by omega)) (by decide)
theorem dg_dgf (w : Nat) : dg w = dgf 7 1 w := by simp [dg, dgf]
theorem plf_le : ∀ (m w d : Nat), w < 10 ^ m → (plf m w ≤ d ↔ w < 10 ^ d) := by
  intro m
  induction m with
  | zero =>
    intro w d hw
    have := p10p d
    have : w = 0 := by rw [Nat.pow_zero] at hw; omega
    subst this
    simp only [plf]
    omega
  | succ m ih =>
    intro w d hw
    have := p10p d
    simp only [plf]
    by_cases e : w = 0
    · rw [if_pos e]; omega
    · rw [if_neg e]
      match d with
      | 0 => simp; omega
      | d + 1 =>
        have h1 : w / 10 < 10 ^ m := by
          rw [Nat.div_lt_iff_lt_mul (by decide)]
          rw [Nat.pow_succ] at hw; exact hw
        have h2 := ih (w / 10) d h1
        rw [Nat.div_lt_iff_lt_mul (by decide), ← Nat.pow_succ] at h2
        omega
theorem dgf_le : ∀ (m k w d : Nat), k + m = 8 → 1 ≤ k → 10 ^ (k - 1) ≤ w → w < 10 ^ 8 → (dgf m k w ≤ d ↔ w < 10 ^ d) := by
  intro m
  induction m with
  | zero =>
    intro k w d hk h1 hw h8
    have : k = 8 := by omega
    subst this
    simp only [dgf]
    constructor
    · intro g; exact Nat.lt_of_lt_of_le h8 (p10 g)
    · intro g
      rcases Nat.lt_or_ge d 8 with q | q
      · have := p10 (show d ≤ 8 - 1 by omega)
        omega
      · exact q
  | succ m ih =>
    intro k w d hk h1 hw h8
    simp only [dgf]
    by_cases e : w < 10 ^ k
    · rw [if_pos e]
      constructor
      · intro g; exact Nat.lt_of_lt_of_le e (p10 g)
      · intro g
        rcases Nat.lt_or_ge d k with q | q
        · have := p10 (show d ≤ k - 1 by omega)
          omega
        · exact q
    · rw [if_neg e]
      exact ih (k + 1) w d (by omega) (by omega) (by rw [Nat.add_sub_cancel]; omega) h8
theorem dg_plf {w : Nat} (h1 : 1 ≤ w) (h8 : w < 10 ^ 8) : plf 8 w = dg w := by
  rw [dg_dgf]
  refine Nat.le_antisymm ?_ ?_
  · rw [plf_le 8 w _ h8, ← dgf_le 7 1 w _ rfl (by decide) (by simpa using h1) h8]
    exact Nat.le_refl _
  · rw [dgf_le 7 1 w _ rfl (by decide) (by simpa using h1) h8, ← plf_le 8 w _ h8]
    exact Nat.le_refl _
theorem dg_le {w d : Nat} (h1 : 1 ≤ w) (h8 : w < 10 ^ 8) : dg w ≤ d ↔ w < 10 ^ d := by
  rw [dg_dgf]; exact dgf_le 7 1 w d rfl (by decide) (by simpa using h1) h8
theorem dg_b {w : Nat} (h1 : 1 ≤ w) (h8 : w < 10 ^ 8) : 1 ≤ dg w ∧ dg w ≤ 8 := by
  refine ⟨?_, (dg_le h1 h8).mpr h8⟩
  rcases Nat.lt_or_ge 0 (dg w) with q | q
  · exact q
  · have := (dg_le (d := 0) h1 h8).mp q
    simp at this
    omega
theorem tE_n {k : Nat} (hk : k < 9) : tE (nI k) = some (nI (10 ^ k)) := by
  rw [tE, if_pos (ixb_n (by decide) hk), nI_clamp (by omega)]
  match k, hk with
  | 0, _ => decide
  | 1, _ => decide
  | 2, _ => decide
  | 3, _ => decide
  | 4, _ => decide
  | 5, _ => decide
  | 6, _ => decide
  | 7, _ => decide
  | 8, _ => decide
theorem do_l {w : Nat} (hw : w < 2 ^ 31) : ∀ (m k F : Nat), k + m = 8 → m < F → fX9_digitsOf_2 F (nI w) (nI k) G = some (nI (dgf m k w), G) := by
  intro m
  induction m with
  | zero =>
    intro k F hk hF
    obtain ⟨F, rfl⟩ : ∃ F', F = F' + 1 := ⟨F - 1, by omega⟩
    have : k = 8 := by omega
    subst this
    have e : ((9 : Int32) - 1) ≤ nI 8 := by decide
    simp only [fX9_digitsOf_2, fX9_digitsOf_2_b, if_pos e, dgf]
  | succ m ih =>
    intro k F hk hF
    obtain ⟨F, rfl⟩ : ∃ F', F = F' + 1 := ⟨F - 1, by omega⟩
    have e : ¬ ((9 : Int32) - 1) ≤ nI k := nI_ge (b := 8) (by omega) (by decide)
    by_cases q : w < 10 ^ k
    · simp only [fX9_digitsOf_2, fX9_digitsOf_2_b, if_neg e, tE_n (show k < 9 by omega), ob_s, if_pos (nI_lt q (p10b (by omega))), dgf, if_pos q]
    · simp only [fX9_digitsOf_2, fX9_digitsOf_2_b, if_neg e, tE_n (show k < 9 by omega), ob_s, if_neg (nI_nlt (show 10 ^ k ≤ w by omega) hw), dgf, if_neg q, nI_1]
      exact ih (k + 1) F (by omega) (by omega)
theorem do_n {w : Nat} (hw : w < 2 ^ 31) (G : gM) : fX9_digitsOf (nI w) G = some (nI (dg w), G) := by
  rw [dg_dgf]
  exact do_l hw 7 1 FU rfl (fuel (by decide))
theorem pl_l : ∀ (m r c F : Nat), r < 10 ^ m → r < 2 ^ 31 → m < F → fX10_places_4 F (nI c) (nI r) v = some (nI (c + plf m r), v) := by
  intro m
  induction m with
  | zero =>
    intro r c F hr h31 hF
    obtain ⟨F, rfl⟩ : ∃ F', F = F' + 1 := ⟨F - 1, by omega⟩
    have : r = 0 := by rw [Nat.pow_zero] at hr; omega
    subst this
    simp only [fX10_places_4, fX10_places_4_b, if_pos (show nI 0 ≤ 0 by decide), plf, Nat.add_zero]
  | succ m ih =>
    intro r c F hr h31 hF
    obtain ⟨F, rfl⟩ : ∃ F', F = F' + 1 := ⟨F - 1, by omega⟩
    by_cases e : r = 0
    · subst e
      simp only [fX10_places_4, fX10_places_4_b, if_pos (show nI 0 ≤ 0 by decide), plf, if_true, Nat.add_zero]
    · have h1 : r / 10 < 10 ^ m := by
        rw [Nat.div_lt_iff_lt_mul (by decide)]
        rw [Nat.pow_succ] at hr; exact hr
      have h2 : nI r / (10 : Int32) = nI (r / 10) := pk_div (d := 10) h31 (by decide) (by decide)
      simp only [fX10_places_4, fX10_places_4_b, if_neg (nI_nle (show 0 < r by omega) h31), plf, if_neg e, nI_1, h2]
      rw [ih (r / 10) (c + 1) F h1 (by omega) (by omega)]
      congr 3
      omega
theorem pl_n {w : Nat} (hw : w < 10 ^ 8) (v : mS) : fX10_places (nI w) v = some (nI (plf 8 w), v) := by
  have := pl_l (v := v) 8 w 0 FU hw (by omega) (fuel (by decide))
  rw [Nat.zero_add] at this
  exact this
theorem dr_l {p : Nat} (hp : p < 1000) : ∀ (m r j F : Nat), j + m = p → r < 2 ^ 31 → m < F → fX10_digit_4 F (nI p) (nI r) (nI j) v = some (nI (dgt r m), v) := by
  intro m
  induction m with
  | zero =>
    intro r j F hj h31 hF
    obtain ⟨F, rfl⟩ : ∃ F', F = F' + 1 := ⟨F - 1, by omega⟩
    have : j = p := by omega
    subst this
    have h2 : nI r - nI r / (10 : Int32) * (10 : Int32) = nI (r % 10) := pk_rem (d := 10) h31 (by decide) (by decide)
    simp only [fX10_digit_4, fX10_digit_4_b, if_pos (Int32.le_refl (nI j)), h2, dgt, Nat.pow_zero, Nat.div_one]
  | succ m ih =>
    intro r j F hj h31 hF
    obtain ⟨F, rfl⟩ : ∃ F', F = F' + 1 := ⟨F - 1, by omega⟩
    have h2 : nI r / (10 : Int32) = nI (r / 10) := pk_div (d := 10) h31 (by decide) (by decide)
    simp only [fX10_digit_4, fX10_digit_4_b, if_neg (nI_ge (show j < p by omega) (by omega)), h2, nI_1]
    rw [ih (r / 10) (j + 1) F (by omega) (by omega) (by omega)]
    congr 3
    unfold dgt
    rw [Nat.div_div_eq_div_mul, Nat.pow_succ']
theorem dr_n {w p : Nat} (hw : w < 2 ^ 31) (hp : p < 1000) (v : mS) : fX10_digit (nI w) (nI p) v = some (nI (dgt w p), v) :=
  dr_l hp p w 0 FU (by omega) hw (show p < 1000000 by omega)
theorem dc_n {w k : Nat} (hw : w < 2 ^ 31) (hk : k < 9) : nI w / nI (10 ^ k) - nI w / nI (10 ^ k) / (10 : Int32) * (10 : Int32) = nI (dgt w k) := by
  rw [pk_div hw (p10p k) (p10b hk)]
  exact pk_rem (d := 10) (Nat.lt_of_le_of_lt (Nat.div_le_self _ _) hw) (by decide) (by decide)
theorem t0_n {k : Nat} (hk : k < 9) : ¬ nI (10 ^ k) = 0 := nI_ne0 (p10p k) (p10b hk)
theorem dgt_b (w k : Nat) : dgt w k < 10 := Nat.mod_lt _ (by decide)
def wf : Nat → Nat → Nat → Bool
  | 0, _, _ => true
  | m + 1, p, w => if dgt w p = 0 then false else wf m (p + 1) w
theorem wf_c {w : Nat} (h1 : 1 ≤ w) (hw : w < 10 ^ 8) : ∀ (m p F : Nat), p + m = dg w → m < F → fX9_isWord_15 F (nI w) (nI p) G = some (if wf m p w = true then 1 else 0, G) := by
  have hb := dg_b h1 hw
  have h31 : w < 2 ^ 31 := by omega
  intro m
  induction m with
  | zero =>
    intro p F hp hF
    obtain ⟨F, rfl⟩ : ∃ F', F = F' + 1 := ⟨F - 1, by omega⟩
    have : p = dg w := by omega
    subst this
    simp only [fX9_isWord_15, fX9_isWord_15_b, do_n h31, bI_s, if_pos (Int32.le_refl (nI (dg w))), wf, if_true]
  | succ m ih =>
    intro p F hp hF
    obtain ⟨F, rfl⟩ : ∃ F', F = F' + 1 := ⟨F - 1, by omega⟩
    have hp9 : p < 9 := by omega
    by_cases e : dgt w p = 0
    · simp only [fX9_isWord_15, fX9_isWord_15_b, do_n h31, bI_s, if_neg (nI_ge (show p < dg w by omega) (by omega)), tE_n hp9, ob_s, if_neg (t0_n hp9), dc_n h31 hp9, if_pos (show nI (dgt w p) = 0 by rw [e]; rfl), wf, if_pos e]
      rfl
    · have := dgt_b w p
      simp only [fX9_isWord_15, fX9_isWord_15_b, do_n h31, bI_s, if_neg (nI_ge (show p < dg w by omega) (by omega)), tE_n hp9, ob_s, if_neg (t0_n hp9), dc_n h31 hp9, if_neg (nI_ne0 (show 0 < dgt w p by omega) (by omega)), wf, if_neg e, nI_1]
      exact ih (p + 1) F (by omega) (by omega)
theorem wf_m {w : Nat} (h1 : 1 ≤ w) (hw : w < 10 ^ 8) {x2 : Int32} {k64 : Int32 → Int32 → Int32 → mS → Option (Int32 × mS)} : ∀ (m p F : Nat), p + m = dg w → m < F → fX10_address_30 k64 F (nI w) x2 1 (nI p) v = k64 (nI w) x2 (if wf m p w = true then 1 else 0) v := by
  have hb := dg_b h1 hw
  have h31 : w < 2 ^ 31 := by omega
  intro m
  induction m with
  | zero =>
    intro p F hp hF
    obtain ⟨F, rfl⟩ : ∃ F', F = F' + 1 := ⟨F - 1, by omega⟩
    have : p = dg w := by omega
    subst this
    simp only [fX10_address_30, fX10_address_30_b, i10, if_false, pl_n hw, dg_plf h1 hw, bI_s, if_pos (Int32.le_refl (nI (dg w))), wf, if_true]
  | succ m ih =>
    intro p F hp hF
    obtain ⟨F, rfl⟩ : ∃ F', F = F' + 1 := ⟨F - 1, by omega⟩
    by_cases e : dgt w p = 0
    · obtain ⟨F, rfl⟩ : ∃ F', F = F' + 1 := ⟨F - 1, by omega⟩
      simp only [fX10_address_30, fX10_address_30_b, fX10_address_57, i10, if_false, pl_n hw, dg_plf h1 hw, bI_s, if_neg (nI_ge (show p < dg w by omega) (by omega)), dr_n h31 (show p < 1000 by omega), if_pos (show nI (dgt w p) ≤ 0 by rw [e]; decide), wf, if_pos e, if_true]
      rfl
    · have := dgt_b w p
      simp only [fX10_address_30, fX10_address_30_b, fX10_address_57, i10, if_false, pl_n hw, dg_plf h1 hw, bI_s, if_neg (nI_ge (show p < dg w by omega) (by omega)), dr_n h31 (show p < 1000 by omega), if_neg (nI_nle (show 0 < dgt w p by omega) (by omega)), wf, if_neg e, nI_1]
      exact ih (p + 1) F (by omega) (by omega)
/-- a new address -/
def adI (I : Nat → Nat → Int32) (n : Nat) (x y p : Int32) : Nat → Nat → Int32 := uu (uu (uu I 40 n x) 41 n y) 42 n p
theorem adI_o {n r : Nat} {x y p : Int32} (h1 : r ≠ 40) (h2 : r ≠ 41) (h3 : r ≠ 42) : adI I n x y p r = I r := by
  unfold adI uu
  rw [if_neg h3, if_neg h2, if_neg h1]
theorem adI_p {n r i : Nat} {x y p : Int32} (h : i ≠ n) : adI I n x y p r i = I r i := by
  unfold adI
  rw [uu_o (.inr h), uu_o (.inr h), uu_o (.inr h)]
theorem ad_new (R : Mem z h A M I T J rl G N) (x y p : Int32) : ∃ G', fX0_init N x y p (va_up G N (some (.inr (1, [.int 0, .int 0, .int 0])))) = some G' ∧ Mem z h (uA A 6 (M 2 2) 0 N) (uM M 2 2 (M 2 2 + 1)) (adI I (M 2 2) x y p) T J (va_up rl N (6, M 2 2, 0)) G' (N + 1) := by
  generalize hn : M 2 2 = n
  refine ⟨va_up G N (some (.inr (1, [.int x, .int y, .int p]))), ?_, R.al 6 n 0 (by decide) ?_ (by simp [uA]) (by simp [cl, adI, uu, upd]) ?_ (by simp [uA])⟩
  · unfold fX0_init
    rw [pV_u rfl (by simp), ob_s, pV_u rfl (by simp), ob_s, pV_u rfl (by simp), ob_s]
    rfl
  · obtain ⟨y1, y2, y3, y4, y5⟩ := R.b
    refine ⟨by simpa [uM] using y1, by simpa [uM] using y2, by simpa [uM] using y3, ?_, by simpa [uM] using y5⟩
    simp only [uM]
    simp
    omega
  · intro κ' i' j' hl
    match κ', hl with
    | 0, hl => exact .inr ⟨hl, by simp [uA], by simp [cl, uA, adI_o]⟩
    | 1, hl =>
      refine .inr ⟨by simpa [lv, uM] using hl, by simp [uA], ?_⟩
      simp only [cl]
      rw [show uM M 2 2 (n + 1) 1 i' = M 1 i' by simp [uM]]
      congr 7
      funext k
      rw [show uM M 2 2 (n + 1) 0 i' = M 0 i' by simp [uM]]
      by_cases g : k < M 0 i'
      · rw [if_pos g, if_pos g]
        congr 1
        unfold eA
        match i', hl.1 with
        | 0, _ => simp [uA]
        | 1, _ => simp [uA]
        | 2, _ =>
          have : k ≠ n := by have := R.b.2.2.2.1; omega
          simp [uA, this]
        | 3, _ => simp [uA, uM]
      · rw [if_neg g, if_neg g]
    | 2, hl => exact .inr ⟨hl, by simp [uA], by simp [cl, uA, uM, adI_o]⟩
    | 3, hl =>
      refine .inr ⟨hl, by simp [uA], ?_⟩
      show fxC _ _ _ _ = fxC _ _ _ _
      unfold fxC
      simp [uA, adI_o]
    | 4, hl => exact .inr ⟨by simpa [lv, uM] using hl, by simp [uA], by simp [cl, thL, uA, uM, adI_o]⟩
    | 5, hl => exact .inr ⟨by simpa [lv, uM] using hl, by simp [uA], by simp [cl, uA, adI_o]⟩
    | 6, hl =>
      by_cases e : i' = n
      · exact .inl (by rw [e, hl.2])
      · have hl' : i' < M 2 2 ∧ j' = 0 := ⟨by have := hl.1; simp [uM] at this; omega, hl.2⟩
        refine .inr ⟨hl', by simp [uA, e], ?_⟩
        simp only [cl]
        rw [adI_p e, adI_p e, adI_p e]
    | 7, hl => exact .inr ⟨by simpa [lv, uM] using hl, by simp [uA], rfl⟩
    | 8, hl => exact .inr ⟨by simpa [lv, uM, adI_o] using hl, by simp [uA], rfl⟩
    | 9, hl => exact .inr ⟨by simpa [lv, uM] using hl, by simp [uA], rfl⟩
    | 10, hl => exact .inr ⟨by simpa [lv, uM] using hl, by simp [uA], by simp [cl, uA]⟩
    | κ' + 11, hl => exact absurd hl (by simp [lv])
theorem FU_s : ∃ F, FU = F + 1 := ⟨999999, rfl⟩
theorem op_address (R : Mem z h A M I T J rl G N) (E : tie k M I T v) {s0 : Nat} (y1 y2 : Int32) : OkN z h k N s0 (fX9_address z h y1 y2 (G, N, s0)) (fX10_address y1 y2 v) := by
  obtain ⟨⟨⟨n1, n2, n3, n4, n5, n6, n7⟩, ⟨n8, n8', n8''⟩, ⟨n9, n9', n9''⟩, n10, n11, n12⟩, ⟨r1, r2, r3, r4, r5, r6⟩, h3, h4, h5, h6, h7, n', h8, h9, h10', h11'⟩ := id E
  have F0 : ∀ x1 x2 : Int32, fX10_address_26 x1 x2 0 v = bI (fX10_finding 1 v) fun r u => some (r, u) := fun x1 x2 => by
    unfold fX10_address_26
    obtain ⟨F, hF⟩ := FU_s
    rw [hF]
    simp only [fX10_address_30, fX10_address_30_b, if_true, fX10_address_64]
  rcases wc y1 1 99999999 G v with ⟨e1, e2⟩ | ⟨e1, e2, h1, h2⟩
  · simp only [fX9_address, fX9_isWord, fX10_address, fX10_address_25, R.o10, ob_s, bI_s, pU_s, if_true, if_false, i10, reduceCtorEq, cN_s, wN_s, e1, e2, F0]
    exact fdn R E 1 (by decide) rfl
  · obtain ⟨w, hw8, rfl⟩ := nI_of2 (n := 99999999) (by decide) (fun g => h1 (by
      rw [Int32.lt_iff_toInt_lt] at g ⊢
      have : (0 : Int32).toInt = 0 := by decide
      have : (1 : Int32).toInt = 1 := by decide
      omega)) (Int32.not_lt.mp h2)
    have hw1 : 1 ≤ w := by
      rcases Nat.lt_or_ge w 1 with q | q
      · have : w = 0 := by omega
        subst this
        exact absurd (by decide : nI 0 < 1) h1
      · exact q
    have hw : w < 10 ^ 8 := by omega
    have hdb := dg_b hw1 hw
    have hw31 : w < 2 ^ 31 := by omega
    have W : fX9_isWord (nI w) G = some (if wf (dg w) 0 w = true then 1 else 0, G) := by
      unfold fX9_isWord
      rw [e1, bI_s, if_neg (show ¬ (1 : Int32) = 0 by decide)]
      exact wf_c (G := G) hw1 hw (dg w) 0 FU (by omega) (fuel (by omega))
    have W2 : ∀ x2 : Int32, fX10_address_26 (nI w) x2 1 v = fX10_address_64 (nI w) x2 (if wf (dg w) 0 w = true then 1 else 0) v := fun x2 => by
      unfold fX10_address_26
      exact wf_m (v := v) hw1 hw (x2 := x2) (dg w) 0 FU (by omega) (fuel (by omega))
    by_cases q0 : wf (dg w) 0 w = true
    · rcases wc y2 0 1000 G v with ⟨e3, e4⟩ | ⟨e3, e4, h5', h6'⟩
      · have hm : fX10_address (nI w) y2 v = bI (fX10_finding 1 v) fun r u => some (r, u) := by
          unfold fX10_address
          rw [e2, bI_s, if_neg (show ¬ (1 : Int32) = 0 by decide), e4, bI_s, if_pos rfl]
          unfold fX10_address_25
          rw [F0]
        simp only [hm, fX9_address, R.o10, ob_s, bI_s, pU_s, if_true, if_false, i10, reduceCtorEq, cN_s, wN_s, e1, e3, W, if_pos q0]
        exact fdn R E 1 (by decide) rfl
      · by_cases q1 : M 0 2 = 16
        · have c1 : ¬ nI (M 0 2) < (16 : Int32) := by rw [q1]; decide
          have c2 : nI (M 0 2) = (16 : Int32) := by rw [q1]; rfl
          have hm : fX10_address (nI w) y2 v = bI (fX10_finding 4 v) fun r u => some (r, u) := by
            unfold fX10_address
            rw [e2, bI_s, if_neg (show ¬ (1 : Int32) = 0 by decide), e4, bI_s, if_neg (show ¬ (1 : Int32) = 0 by decide), W2, if_pos q0]
            unfold fX10_address_64
            rw [if_neg (show ¬ (1 : Int32) = 0 by decide), n5, if_pos c2]
          simp only [hm, fX9_address, R.o10, ob_s, bI_s, pU_s, if_true, if_false, i10, reduceCtorEq, cN_s, wN_s, e1, e3, W, if_pos q0, R.f2, R.lo (show 2 < 4 by decide), sz_n R (show 2 < 4 by decide), if_neg c1]
          exact fdn R E 4 (by decide) rfl
        · have c1 : nI (M 0 2) < (16 : Int32) := nI_lt (b := 16) (by omega) (by decide)
          have c2 : ¬ nI (M 0 2) = (16 : Int32) := fun g => q1 ((nI_eq (b := 16) (by omega) (by decide)).mp g)
          obtain ⟨G1, f1, R1⟩ := ad_new R (nI w) (nI (dg w)) y2
          have f2 : nwO 1 [.int 0, .int 0, .int 0] ((G, N, s0) : gN) = some (N, (va_up G N (some (.inr (1, [.int 0, .int 0, .int 0]))), N + 1, s0 + 3)) := rfl
          have m01 : uM M 2 2 (M 2 2 + 1) 0 2 = M 0 2 := by simp [uM]
          have m21 : uM M 2 2 (M 2 2 + 1) 2 2 = M 2 2 + 1 := by simp [uM]
          obtain ⟨A2, M2, rl2, G2, N2, s2, f3, ⟨f4, f5⟩, R2, f6, f7⟩ := add_n R1 (q := 2) (by decide) (by omega) 0 (fun g => absurd g (by decide)) (fun g => absurd g (by decide)) (fun _ => by rw [m01, m21]; omega) (fun g => absurd g (by decide)) (s0 + 3) rfl
          rw [m01] at f7
          have f8 : uA A 6 (M 2 2) 0 N 2 2 0 = A 2 2 0 := by simp [uA]
          have f9 : eA (uA A 6 (M 2 2) 0 N) (uL (uM M 2 2 (M 2 2 + 1)) 2 (uM M 2 2 (M 2 2 + 1) 0 2) 0) 2 (uM M 2 2 (M 2 2 + 1) 0 2) = N := by
            rw [m01]
            simp [eA, uA, n8'']
          rw [f8, f9] at f3
          have f10 : gO [0] G1 (A 2 2 0) = some (0, _) := f8 ▸ R1.lo (show 2 < 4 by decide)
          have k00 : M2 0 0 = M 0 0 := by rw [f7 0 0 (by decide)]; simp [uL, uM]
          have k01 : M2 0 1 = M 0 1 := by rw [f7 0 1 (by decide)]; simp [uL, uM]
          have k02 : M2 0 2 = M 0 2 + 1 := by rw [f7 0 2 (by decide)]; simp [uL]
          have k20 : M2 2 0 = M 2 0 := by rw [f7 2 0 (by decide)]; simp [uL, uM]
          have k21 : M2 2 1 = M 2 1 := by rw [f7 2 1 (by decide)]; simp [uL, uM]
          have k22 : M2 2 2 = M 2 2 + 1 := by rw [f7 2 2 (by decide)]; simp [uL, uM]
          have k4 : ∀ t, M2 4 t = M 4 t := fun t => by rw [f7 4 t (by decide)]; simp [uL, uM]
          have hb16 : M 0 2 < 16 := by omega
          have z2 : nI (M2 0 2) - 1 = nI (M 0 2) := by rw [k02, nI_pred]
          have u1 : (mA v 26 (M 0 2) (nI w)).1 25 = nI (M 0 2) := n5
          have u2 : (mA (mA v 26 (M 0 2) (nI w)) 27 (M 0 2) y2).1 25 = nI (M 0 2) := n5
          have u3' : (mF (mA (mA v 26 (M 0 2) (nI w)) 27 (M 0 2) y2) 25 (nI (M 0 2) + 1)).1 25 - 1 = nI (M 0 2) := by
            show nI (M 0 2) + 1 - 1 = _
            rw [nI_1, nI_pred]
          have hm : fX10_address (nI w) y2 v = some (nI (M 0 2), mF (mA (mA v 26 (M 0 2) (nI w)) 27 (M 0 2) y2) 25 (nI (M 0 2) + 1)) := by
            unfold fX10_address
            rw [e2, bI_s, if_neg (show ¬ (1 : Int32) = 0 by decide), e4, bI_s, if_neg (show ¬ (1 : Int32) = 0 by decide), W2, if_pos q0]
            unfold fX10_address_64
            rw [if_neg (show ¬ (1 : Int32) = 0 by decide), n5, if_neg c2, mUn hb16 (show 16 < 2 ^ 31 by decide), ob_s, u1, mUn hb16 (show 16 < 2 ^ 31 by decide), ob_s, u2, pU_s, u3']
          have hc : fX9_address z h (nI w) y2 (G, N, s0) = some (nI (M 0 2), (G2, N2, s2)) := by
            simp only [fX9_address, fX9_address_49, fX9_address_62, ob_s, bI_s, if_false, i10, cN_s, wN_s, e3, W, if_pos q0, R.f2, R.lo (show 2 < 4 by decide), sz_n R (show 2 < 4 by decide), if_pos c1, f2, do_n hw31, f1, f10, f3, R2.f2, R2.lo (show 2 < 4 by decide), sz_n R2 (show 2 < 4 by decide), z2]
          rw [hm, hc]
          refine okn_w R2 ?_ (by omega) (by omega) _
          have hv : ∀ r, r ≠ 26 → r ≠ 27 → (mF (mA (mA v 26 (M 0 2) (nI w)) 27 (M 0 2) y2) 25 (nI (M 0 2) + 1)).2.1 r = v.2.1 r := fun r q1 q2 => by
            simp only [mF, mA, if_neg q1, if_neg q2]
          have hv1 : ∀ r, r ≠ 25 → (mF (mA (mA v 26 (M 0 2) (nI w)) 27 (M 0 2) y2) 25 (nI (M 0 2) + 1)).1 r = v.1 r := fun r q1 => by
            simp only [mF, mA, if_neg q1]
          have h26 : (mF (mA (mA v 26 (M 0 2) (nI w)) 27 (M 0 2) y2) 25 (nI (M 0 2) + 1)).2.1 26 = upd (v.2.1 26) (M 0 2) (nI w) := rfl
          have h27 : (mF (mA (mA v 26 (M 0 2) (nI w)) 27 (M 0 2) y2) 25 (nI (M 0 2) + 1)).2.1 27 = upd (v.2.1 27) (M 0 2) y2 := rfl
          have h25 : (mF (mA (mA v 26 (M 0 2) (nI w)) 27 (M 0 2) y2) 25 (nI (M 0 2) + 1)).1 25 = nI (M 0 2) + 1 := rfl
          generalize mF (mA (mA v 26 (M 0 2) (nI w)) 27 (M 0 2) y2) 25 (nI (M 0 2) + 1) = v' at *
          have hI2 : ∀ r, r ≠ 2 → uu (adI I (M 2 2) (nI w) (nI (dg w)) y2) 2 2 (adI I (M 2 2) (nI w) (nI (dg w)) y2 2 2 + 1) r = adI I (M 2 2) (nI w) (nI (dg w)) y2 r := fun r q1 => by simp [uu, q1]
          have hI : ∀ r, r ≠ 2 → r ≠ 40 → r ≠ 41 → r ≠ 42 → uu (adI I (M 2 2) (nI w) (nI (dg w)) y2) 2 2 (adI I (M 2 2) (nI w) (nI (dg w)) y2 2 2 + 1) r = I r := fun r q1 q2 q3 q4 => by
            rw [hI2 r q1, adI_o q2 q3 q4]
          generalize uu (adI I (M 2 2) (nI w) (nI (dg w)) y2) 2 2 (adI I (M 2 2) (nI w) (nI (dg w)) y2 2 2 + 1) = I' at *
          refine ⟨⟨⟨?_, ?_, ?_, ?_, ?_, ?_, ?_⟩, ⟨?_, ?_, ?_⟩, ⟨?_, ?_, ?_⟩, ?_, ?_, ?_⟩, ⟨?_, ?_, ?_, ?_, ?_, ?_⟩, fun t' ht' => ?_, ?_, fun s hs => ?_, fun a ha => ?_, ?_, n', ?_, ?_, fun t' ht' => ⟨?_, fun d => ?_⟩, fun t' ht' ht2 d => ?_⟩
          · rw [hv1 0 (by decide), hI 0 (by decide) (by decide) (by decide) (by decide)]; exact n1
          · rw [hv1 1 (by decide), hI 0 (by decide) (by decide) (by decide) (by decide)]; exact n2
          · rw [hv1 2 (by decide), k00]; exact n3
          · rw [hv1 17 (by decide), k01]; exact n4
          · rw [h25, k02, nI_1]
          · rw [hv1 32 (by decide), hI 0 (by decide) (by decide) (by decide) (by decide)]; exact n6
          · rw [hv1 34 (by decide), hI 0 (by decide) (by decide) (by decide) (by decide)]; exact n7
          · rw [k20, k00]; exact n8
          · rw [k21, k01]; exact n8'
          · rw [k22, k02, n8'']
          · rw [k00]; exact n9
          · rw [k01]; exact n9'
          · rw [k02]; omega
          · rw [hI 0 (by decide) (by decide) (by decide) (by decide)]; exact n10
          · rw [hI 0 (by decide) (by decide) (by decide) (by decide)]; exact n11
          · rw [hI 0 (by decide) (by decide) (by decide) (by decide)]; exact n12
          · rw [hv 24 (by decide) (by decide), hI 50 (by decide) (by decide) (by decide) (by decide)]; exact r1
          · rw [hv 28 (by decide) (by decide), hI 51 (by decide) (by decide) (by decide) (by decide)]; exact r2
          · rw [hv 35 (by decide) (by decide), hI 52 (by decide) (by decide) (by decide) (by decide)]; exact r3
          · rw [hv 33 (by decide) (by decide), hI 53 (by decide) (by decide) (by decide) (by decide)]; exact r4
          · rw [hI 50 (by decide) (by decide) (by decide) (by decide)]; exact r5
          · rw [hI 51 (by decide) (by decide) (by decide) (by decide)]; exact r6
          · rw [k00] at ht'
            have hE := h3 t' ht'
            unfold t1 at hE ⊢
            simp only [hv 3, hv 4, hv 5, hv 6, hv 7, hv 8, hv 9, hv 10, hv 11, hv 12, hv 13, hv 14, hI 10, hI 11, hI 12, hI 13, hI 14, hI 16, hI 17, hI 18, hI 19, hI 20, ne_eq, Nat.reduceEqDiff, not_false_eq_true]
            exact hE
          · refine ⟨fun j hj => ?_, fun s hs => ?_⟩
            · rw [hv 5 (by decide) (by decide)]
              exact h4.1 j (by rw [k00] at hj; exact hj)
            · rw [hv 22 (by decide) (by decide), hv 23 (by decide) (by decide)]
              exact h4.2 s (by rw [k01] at hs; exact hs)
          · rw [k01] at hs
            have hE := h5 s hs
            unfold s1 at hE ⊢
            simp only [hv 18, hv 19, hv 20, hv 21, hv 22, hv 23, hI 30, hI 32, hI 33, hI 34, ne_eq, Nat.reduceEqDiff, not_false_eq_true]
            exact hE
          · rw [k02] at ha
            unfold a1
            rw [h26, h27, hI2 40 (by decide), hI2 41 (by decide), hI2 42 (by decide)]
            by_cases e : a = M 0 2
            · have i40 : adI I (M 2 2) (nI w) (nI (dg w)) y2 40 (M 0 2) = nI w := by rw [n8'']; simp [adI, uu, upd]
              have i41 : adI I (M 2 2) (nI w) (nI (dg w)) y2 41 (M 0 2) = nI (dg w) := by rw [n8'']; simp [adI, uu, upd]
              have i42 : adI I (M 2 2) (nI w) (nI (dg w)) y2 42 (M 0 2) = y2 := by rw [n8'']; simp [adI, uu, upd]
              rw [e, i40, i41, i42, pk_us, pk_us]
              exact ⟨rfl, rfl, rg_n (by decide) ⟨h5', h6'⟩, w, hw1, hw8, rfl, rfl⟩
            · have hE := h6 a (by omega)
              unfold a1 at hE
              have e3 : a ≠ M 2 2 := by rw [n8'']; exact e
              rw [adI_p e3, adI_p e3, adI_p e3, pk_un e, pk_un e]
              exact hE
          · unfold tC cT cM cX at h7 ⊢
            rw [hv1 29 (by decide), hv 30 (by decide) (by decide), hv 31 (by decide) (by decide), hI 1 (by decide) (by decide) (by decide) (by decide), hI 57 (by decide) (by decide) (by decide) (by decide), hI 58 (by decide) (by decide) (by decide) (by decide)]
            exact h7
          · rw [hv1 16 (by decide)]; exact h8
          · rw [k00]
            have : nf I' (M 0 0) = nf I (M 0 0) := itN_cg (fun t _ a => by rw [hI 16 (by decide) (by decide) (by decide) (by decide)]) 0
            omega
          · rw [k00] at ht'
            rw [k4]; exact (h10' t' ht').1
          · rw [k00] at ht'
            rw [k4]
            have := (h10' t' ht').2 d
            have e1 : kn v' t' d n' = kn v t' d n' := itN_cg (fun r _ a => by rw [hv 15 (by decide) (by decide)]) (-1)
            rw [e1, this]
          · rw [k00] at ht'
            have e1 : kn v' t' d n' = kn v t' d n' := itN_cg (fun r _ a => by rw [hv 15 (by decide) (by decide)]) (-1)
            rw [e1]
            exact h11' t' ht' ht2 d
    · rcases wc y2 0 1000 G v with ⟨e3, e4⟩ | ⟨e3, e4, h5', h6'⟩
      · have hm : fX10_address (nI w) y2 v = bI (fX10_finding 1 v) fun r u => some (r, u) := by
          unfold fX10_address
          rw [e2, bI_s, if_neg (show ¬ (1 : Int32) = 0 by decide), e4, bI_s, if_pos rfl]
          unfold fX10_address_25
          rw [F0]
        simp only [hm, fX9_address, R.o10, ob_s, bI_s, pU_s, if_true, if_false, i10, reduceCtorEq, cN_s, wN_s, e1, e3, W, if_neg q0]
        exact fdn R E 1 (by decide) rfl
      · have hm : fX10_address (nI w) y2 v = bI (fX10_finding 1 v) fun r u => some (r, u) := by
          unfold fX10_address
          rw [e2, bI_s, if_neg (show ¬ (1 : Int32) = 0 by decide), e4, bI_s, if_neg (show ¬ (1 : Int32) = 0 by decide), W2, if_neg q0]
          unfold fX10_address_64
          rw [if_pos rfl]
        simp only [hm, fX9_address, R.o10, ob_s, bI_s, pU_s, if_true, if_false, i10, reduceCtorEq, cN_s, wN_s, e1, e3, W, if_neg q0]
        exact fdn R E 1 (by decide) rfl
end DG
