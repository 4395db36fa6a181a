/-! the things of a set -/
/-- bits of a number below a place -/
def bc (x : Nat) : Nat → Nat
  | 0 => 0
  | n + 1 => bc x n + if x.testBit n = true then 1 else 0
theorem bc_t {x n : Nat} (h : x.testBit n = true) : bc x (n + 1) = bc x n + 1 := by simp [bc, h]
theorem bc_f {x n : Nat} (h : ¬ x.testBit n = true) : bc x (n + 1) = bc x n := by simp [bc, h]
theorem bc_le (x : Nat) : ∀ n, bc x n ≤ n := by
  intro n
  induction n with
  | zero => exact Nat.le_refl _
  | succ n ih => simp only [bc]; split <;> omega
theorem bc_mono (x n : Nat) : ∀ m, bc x n ≤ bc x (n + m) := by
  intro m
  induction m with
  | zero => exact Nat.le_refl _
  | succ m ih => rw [← Nat.add_assoc]; simp only [bc]; omega
theorem bc_lt {x i n : Nat} (hi : i < n) (h : x.testBit i = true) : bc x i < bc x n := by
  have h1 := bc_mono x (i + 1) (n - (i + 1))
  rw [show i + 1 + (n - (i + 1)) = n by omega, bc_t h] at h1
  omega
theorem tb_hi {x n i : Nat} (hx : x < 2 ^ n) (hi : n ≤ i) : ¬ x.testBit i = true := by
  rw [Nat.testBit_lt_two_pow (Nat.lt_of_lt_of_le hx (Nat.pow_le_pow_right (by decide) hi))]
  decide
theorem bc_hi {x n : Nat} (hx : x < 2 ^ n) : ∀ m, bc x (n + m) = bc x n := by
  intro m
  induction m with
  | zero => rfl
  | succ m ih => rw [← Nat.add_assoc, bc_f (tb_hi hx (by omega)), ih]
section CH
variable {z : Nat → Nat} {h : Nat} {A : Nat → Nat → Nat → Nat} {M : Nat → Nat → Nat} {I : Nat → Nat → Int32} {T : Nat → Nat → Nat → Int32} {J : Nat → Nat → Int64} {rl : Nat → Nat × Nat × Nat} {G : gM} {N k : Nat} {v : mS}
theorem clr_l {a c n : Nat} (hc : c < 2 ^ 31) (hn : n ≤ c) : ∀ (m k F : Nat) (G : gM) (f : Nat → Option Nat), k + m = n → m < F → G a = some (.inl (2, c, .inr (.inr (.inr (.inr f))))) → fJx4a65c_clear_da8c8_27 F (some a) (nI n) (nI k) G = some (va_up G a (some (.inl (2, c, .inr (.inr (.inr (.inr fun j => if k ≤ j ∧ j < n then none else f j))))))) := by
  intro m
  induction m with
  | zero =>
    intro k F G f hk hF hG
    obtain ⟨F, rfl⟩ : ∃ F', F = F' + 1 := ⟨F - 1, by omega⟩
    have : k = n := by omega
    subst this
    have e : (fun j => if k ≤ j ∧ j < k then none else f j) = f := funext fun j => if_neg (by omega)
    simp only [fJx4a65c_clear_da8c8_27, fJx4a65c_clear_da8c8_27_b, if_pos (Int32.le_refl (nI k)), e]
    rw [up_id hG]
  | succ m ih =>
    intro k F G f hk hF hG
    obtain ⟨F, rfl⟩ : ∃ F', F = F' + 1 := ⟨F - 1, by omega⟩
    have e : (fun j => if k + 1 ≤ j ∧ j < n then none else va_up f k none j) = (fun j => if k ≤ j ∧ j < n then none else f j) := by
      funext j
      by_cases q : j = k
      · subst q; rw [up_s, if_neg (by omega), if_pos (by omega)]
      · rw [up_n q]
        by_cases e2 : k ≤ j ∧ j < n
        · rw [if_pos (by omega), if_pos e2]
        · rw [if_neg (by omega), if_neg e2]
    simp only [fJx4a65c_clear_da8c8_27, fJx4a65c_clear_da8c8_27_b, if_neg (nI_ge (show k < n by omega) (by omega)), ob_s, uQ_n hG hc (show k < c by omega) (v := none) rfl, nI_1]
    rw [ih (k + 1) F _ (va_up f k none) (by omega) (by omega) up_s, up_up, e]
theorem clr_n (R : Mem z h A M I T J rl G N) : ∃ M' G', fJx4a65c_clear_da8c8 (A 2 3 0) G = some G' ∧ Mem z h A M' (uu I 2 3 (I 2 3 + 1)) T J rl G' N ∧ M' 0 3 = 0 ∧ ∀ a b, ¬ (a = 0 ∧ b = 3) → M' a b = M a b := by
  obtain ⟨G1, e1, R1⟩ := wl0 R (q := 3) (by decide) (I 2 3 + 1)
  obtain ⟨b1, b2⟩ := R.b.1 3 (by decide)
  have hc2 := R1.c 2 3 0 ⟨by decide, rfl⟩
  have f0 := R.l0 (q := 3) (by decide)
  have f1 := R1.l1 (q := 3) (by decide)
  have f2 := R1.l2 (q := 3) (by decide)
  by_cases q0 : M 0 3 = 0
  · have e3 : pV [0] 2 (.int 0) G1 (A 2 3 0) = some G1 := by
      rw [pV_n hc2 rfl (by simp)]
      congr 1
      refine up_id ?_
      rw [hc2]
      show some (Sum.inr (0, [Value.int (uu I 2 3 (I 2 3 + 1) 2 3), Value.ref (if M 1 3 = 0 then z 0 else A 1 3 0), Value.int (nI (M 0 3))])) = some (Sum.inr (0, [Value.int (uu I 2 3 (I 2 3 + 1) 2 3), Value.ref (if M 1 3 = 0 then z 0 else A 1 3 0), Value.int 0]))
      rw [q0]
      rfl
    refine ⟨M, G1, ?_, R1, q0, fun a b _ => rfl⟩
    have e4 : ∀ (x : Option Nat), fJx4a65c_clear_da8c8_27 FU x (nI (M 0 3)) 0 G1 = some G1 := fun x => by
      obtain ⟨F, hF⟩ := FU_s
      rw [hF]
      simp only [fJx4a65c_clear_da8c8_27, fJx4a65c_clear_da8c8_27_b, if_pos (show nI (M 0 3) ≤ 0 by rw [q0]; decide)]
    simp only [fJx4a65c_clear_da8c8, f0, ob_s, e1, f1, f2, e3, e4]
  · have h1 : 0 < M 1 3 := by omega
    have hc1 := R1.c 1 3 0 ⟨by decide, rfl, h1⟩
    have l1 : lv M (uu I 2 3 (I 2 3 + 1)) 1 3 0 := ⟨by decide, rfl, h1⟩
    have l2 : lv M (uu I 2 3 (I 2 3 + 1)) 2 3 0 := ⟨by decide, rfl⟩
    have hne : A 1 3 0 ≠ A 2 3 0 := fun e => by
      have := (R1.2 2 3 0 l2).2
      rw [← e, (R1.2 1 3 0 l1).2] at this
      cases this
    have e3 : pV [0] 2 (.int 0) G1 (A 2 3 0) = some (va_up G1 (A 2 3 0) (some (.inr (0, [.int (uu I 2 3 (I 2 3 + 1) 2 3), .ref (A 1 3 0), .int 0])))) := by
      rw [pV_n hc2 rfl (by simp)]
      congr 3
      simp [show M 1 3 ≠ 0 by omega]
    have hc1' : va_up G1 (A 2 3 0) (some (.inr (0, [.int (uu I 2 3 (I 2 3 + 1) 2 3), .ref (A 1 3 0), .int 0]))) (A 1 3 0) = some (.inl (2, M 1 3, .inr (.inr (.inr (.inr fun k => if k < M 0 3 then some (eA A M 3 k) else none))))) := by rw [up_n hne]; exact hc1
    have e4 := clr_l (show M 1 3 < 2 ^ 31 by omega) b1 (M 0 3) 0 FU _ _ (by omega) (fuel (by omega)) hc1'
    rw [nI_0] at e4
    have e5 : (fun j => if 0 ≤ j ∧ j < M 0 3 then none else if j < M 0 3 then some (eA A M 3 j) else none) = fun _ => (none : Option Nat) := by
      funext j
      by_cases g : j < M 0 3
      · rw [if_pos ⟨Nat.zero_le _, g⟩]
      · rw [if_neg (fun q => g q.2), if_neg g]
    rw [e5] at e4
    refine ⟨uM M 0 3 0, _, ?_, R1.wr2 2 3 0 1 3 0 (M' := uM M 0 3 0) (c := .inr (0, [.int (uu I 2 3 (I 2 3 + 1) 2 3), .ref (A 1 3 0), .int 0])) (c2 := .inl (2, M 1 3, .inr (.inr (.inr (.inr fun _ => none))))) l2 l1 ?_ ?_ ?_ (by simp) ?_, by simp [uM], fun a b hab => by simp only [uM]; rw [if_neg hab]⟩
    · simp only [fJx4a65c_clear_da8c8, f0, ob_s, e1, f1, f2, if_neg (show ¬ M 1 3 = 0 by omega), e3, e4]
    · obtain ⟨x1, x2, x3, x4, x5⟩ := R.b
      refine ⟨fun q' hq' => ?_, by simpa [uM] using x2, by simpa [uM] using x3, by simpa [uM] using x4, fun k hk => ?_⟩
      · have e6 : uM M 0 3 0 1 q' = M 1 q' := by simp [uM]
        rw [e6]
        by_cases e : q' = 3
        · subst e
          rw [show uM M 0 3 0 0 3 = 0 by simp [uM]]
          omega
        · rw [show uM M 0 3 0 0 q' = M 0 q' by simp [uM, e]]
          exact x1 q' hq'
      · rw [show uM M 0 3 0 0 3 = 0 by simp [uM]] at hk
        omega
    · simp [cl, uM, show M 1 3 ≠ 0 by omega]
      rfl
    · simp [cl, uM]
    · intro κ' i' j' hl
      match κ', hl with
      | 0, hl => exact ⟨hl, .inr (.inr rfl)⟩
      | 1, hl =>
        refine ⟨by simpa [lv, uM] using hl, ?_⟩
        by_cases e : i' = 3
        · exact .inr (.inl (by rw [e, hl.2.1]))
        · refine .inr (.inr ?_)
          simp only [cl]
          rw [show uM M 0 3 0 1 i' = M 1 i' by simp [uM], show uM M 0 3 0 0 i' = M 0 i' by simp [uM, e]]
          rfl
      | 2, hl =>
        refine ⟨hl, ?_⟩
        by_cases e : i' = 3
        · exact .inl (by rw [e, hl.2])
        · exact .inr (.inr (by simp [cl, uM, e]))
      | 3, hl => exact ⟨hl, .inr (.inr rfl)⟩
      | 4, hl => exact ⟨by simpa [lv, uM] using hl, .inr (.inr (by simp [cl, thL, uM]))⟩
      | 5, hl => exact ⟨by simpa [lv, uM] using hl, .inr (.inr rfl)⟩
      | 6, hl => exact ⟨by simpa [lv, uM] using hl, .inr (.inr rfl)⟩
      | 7, hl => exact ⟨by simpa [lv, uM] using hl, .inr (.inr rfl)⟩
      | 8, hl => exact ⟨by simpa [lv, uM] using hl, .inr (.inr rfl)⟩
      | 9, hl => exact ⟨by simpa [lv, uM] using hl, .inr (.inr rfl)⟩
      | 10, hl => exact ⟨by simpa [lv, uM] using hl, .inr (.inr rfl)⟩
      | κ' + 11, hl => exact absurd hl (by simp [lv])
/-- the list holds the things of a set -/
def Chs (M : Nat → Nat → Nat) (x n : Nat) : Prop := M 0 3 = bc x n ∧ (∀ i, i < n → x.testBit i = true → M 3 (bc x i) = i) ∧ n ≤ M 2 0 ∧ n ≤ 20
theorem cho_l {x : Nat} (hx : x < 2 ^ 31) : ∀ (c j F : Nat) (A : Nat → Nat → Nat → Nat) (M : Nat → Nat → Nat) (I : Nat → Nat → Int32) (rl : Nat → Nat × Nat × Nat) (G : gM) (N s : Nat), Mem z h A M I T J rl G N → j + c = M 0 0 → c < F → M 0 0 ≤ 20 → M 0 3 = bc x j → (∀ i, i < j → x.testBit i = true → M 3 (bc x i) = i) → ∃ A' M' I' rl' G' N' s', fX9_choose_9 z F h (nI x) (nI j) (G, N, s) = some (G', N', s') ∧ (N' ≤ N + c ∧ s' ≤ s + 40 * c) ∧ Mem z h A' M' I' T J rl' G' N' ∧ (∀ κ, κ ≠ 1 → A' κ = A κ) ∧ (∀ r, r ≠ 2 → I' r = I r) ∧ (∀ a b, a ≠ 1 → a ≠ 3 → ¬ (a = 0 ∧ b = 3) → M' a b = M a b) ∧ Chs M' x (M 0 0) := by
  intro c
  induction c with
  | zero =>
    intro j F A M I rl G N s R hj hF hb h3 hm
    obtain ⟨F, rfl⟩ : ∃ F', F = F' + 1 := ⟨F - 1, by omega⟩
    have : j = M 0 0 := by omega
    subst this
    refine ⟨A, M, I, rl, G, N, s, ?_, ⟨by omega, by omega⟩, R, fun _ _ => rfl, fun _ _ => rfl, fun _ _ _ _ _ => rfl, h3, hm, R.b.2.1, hb⟩
    simp only [fX9_choose_9, fX9_choose_9_b, R.f0, R.lo (show 0 < 4 by decide), sz_n R (show 0 < 4 by decide), ob_s, cN_s, bI_s, if_pos (Int32.le_refl (nI (M 0 0)))]
  | succ c ih =>
    intro j F A M I rl G N s R hj hF hb h3 hm
    obtain ⟨F, rfl⟩ : ∃ F', F = F' + 1 := ⟨F - 1, by omega⟩
    have hjM : j < M 0 0 := by omega
    have hj2 : j < M 2 0 := by have := R.b.2.1; omega
    by_cases q : x.testBit j = true
    · have hbl := bc_le x j
      have he : A 4 j 0 = eA A (uL M 3 (M 0 3) j) 3 (M 0 3) := by simp [eA, uL]
      obtain ⟨A1, M1, rl1, G1, N1, s1, f1, ⟨f2, f3⟩, R1, f4, f5⟩ := add_n R (q := 3) (by decide) (by omega) j (fun g => absurd g (by decide)) (fun g => absurd g (by decide)) (fun g => absurd g (by decide)) (fun _ => hj2) s he
      have m00 : M1 0 0 = M 0 0 := by rw [f5 0 0 (by decide)]; simp [uL]
      have m03 : M1 0 3 = bc x (j + 1) := by rw [f5 0 3 (by decide), bc_t q, ← h3]; simp [uL]
      obtain ⟨A2, M2, I2, rl2, G2, N2, s2, g1, ⟨g2, g3⟩, R2, g4, g5, g6, g7⟩ := ih (j + 1) F A1 M1 _ rl1 G1 N1 s1 R1 (by omega) (by omega) (by omega) m03 (fun i hi hi2 => by
        rw [f5 3 _ (by decide)]
        by_cases e : i = j
        · subst e; rw [← h3]; simp [uL]
        · have := bc_lt (show i < j by omega) hi2
          rw [show uL M 3 (M 0 3) j 3 (bc x i) = M 3 (bc x i) by
            unfold uL
            rw [if_neg (by omega), if_neg (by omega)]]
          exact hm i (by omega) hi2)
      rw [m00] at g7
      refine ⟨A2, M2, I2, rl2, G2, N2, s2, ?_, ⟨by omega, by omega⟩, R2, fun κ hκ => by rw [g4 κ hκ, f4 κ hκ], fun r hr => by rw [g5 r hr]; simp [uu, hr], fun a b h1 h2 h4 => by
        rw [g6 a b h1 h2 h4, f5 a b h1]
        unfold uL
        rw [if_neg h4, if_neg (fun g => h2 g.1)], g7⟩
      rw [← g1]
      simp only [fX9_choose_9, fX9_choose_9_b, fX9_choose_46, fX9_choose_47, R.f0, R.f7, R.lo (show 0 < 4 by decide), R.lo (show 3 < 4 by decide), sz_n R (show 0 < 4 by decide), ob_s, cN_s, bI_s, if_neg (nI_ge hjM (show M 0 0 < 2 ^ 31 by omega)), hB_n hx (show j < 32 by omega), if_pos q, i10, if_false, get_n R (show 0 < 4 by decide) hjM, eA, R.tk hj2, f1, nI_1]
    · obtain ⟨A2, M2, I2, rl2, G2, N2, s2, g1, ⟨g2, g3⟩, R2, g4, g5, g6, g7⟩ := ih (j + 1) F A M I rl G N s R (by omega) (by omega) hb (by rw [bc_f q]; exact h3) (fun i hi hi2 => by
        by_cases e : i = j
        · subst e; exact absurd hi2 q
        · exact hm i (by omega) hi2)
      refine ⟨A2, M2, I2, rl2, G2, N2, s2, ?_, ⟨by omega, by omega⟩, R2, g4, g5, g6, g7⟩
      rw [← g1]
      simp only [fX9_choose_9, fX9_choose_9_b, fX9_choose_47, R.f0, R.lo (show 0 < 4 by decide), sz_n R (show 0 < 4 by decide), ob_s, cN_s, bI_s, if_neg (nI_ge hjM (show M 0 0 < 2 ^ 31 by omega)), hB_n hx (show j < 32 by omega), if_neg q, if_true, nI_1]
theorem cho_n (R : Mem z h A M I T J rl G N) {x : Nat} (hx : x < 2 ^ 31) (hb : M 0 0 ≤ 20) (s : Nat) : ∃ A' M' I' rl' G' N' s', fX9_choose z h (nI x) (G, N, s) = some (G', N', s') ∧ (N' ≤ N + 20 ∧ s' ≤ s + 800) ∧ Mem z h A' M' I' T J rl' G' N' ∧ (∀ κ, κ ≠ 1 → A' κ = A κ) ∧ (∀ r, r ≠ 2 → I' r = I r) ∧ (∀ a b, a ≠ 1 → a ≠ 3 → ¬ (a = 0 ∧ b = 3) → M' a b = M a b) ∧ Chs M' x (M 0 0) := by
  obtain ⟨M1, G1, e1, R1, m1, m2⟩ := clr_n R
  have m00 : M1 0 0 = M 0 0 := m2 0 0 (by decide)
  obtain ⟨A2, M2, I2, rl2, G2, N2, s2, g1, ⟨g2, g3⟩, R2, g4, g5, g6, g7⟩ := cho_l (z := z) (h := h) (T := T) (J := J) hx (M 0 0) 0 FU A M1 _ rl G1 N s R1 (by omega) (fuel (by omega)) (by omega) m1 (fun i hi => absurd hi (Nat.not_lt_zero _))
  rw [m00] at g7
  refine ⟨A2, M2, I2, rl2, G2, N2, s2, ?_, ⟨by omega, by omega⟩, R2, g4, fun r hr => by rw [g5 r hr]; simp [uu, hr], fun a b h1 h2 h4 => by rw [g6 a b h1 h2 h4, m2 a b h4], g7⟩
  rw [nI_0] at g1
  simp only [fX9_choose, R.f7, R.lo (show 3 < 4 by decide), ob_s, e1, wN_s, g1]
theorem tie_cho {A' : Nat → Nat → Nat → Nat} {M' : Nat → Nat → Nat} {I' : Nat → Nat → Int32} (hI : ∀ r, r ≠ 2 → I' r = I r) (hM : ∀ a b, a ≠ 1 → a ≠ 3 → ¬ (a = 0 ∧ b = 3) → M' a b = M a b) (E : tie k M I T v) : tie k M' I' T v := by
  refine tie_I (I := I) (fun r i h1 _ _ _ _ => by rw [hI r h1]) (tie_M (M := M) (fun a b hab => hM a b ?_ ?_ ?_) E)
  · omega
  · omega
  · omega
theorem get3 (R : Mem z h A M I T J rl G N) {x n : Nat} (C : Chs M x n) {i : Nat} (hi : i < n) (hb : x.testBit i = true) : fJx4a65c_get_915e3 (A 2 3 0) (nI (bc x i)) G = some (some (A 4 i 0), G) ∧ ¬ nI (M 0 3) ≤ nI (bc x i) := by
  obtain ⟨c1, c2, c3, c4⟩ := C
  have h1 := bc_lt hi hb
  have h2 := bc_le x n
  have h3 := get_n R (q := 3) (k := bc x i) (by decide) (by omega)
  refine ⟨?_, nI_ge (by omega) (by omega)⟩
  rw [h3]
  show some (some (A 4 (M 3 (bc x i)) 0), G) = _
  rw [c2 i hi hb]
/-- a loop over the list, told by the things -/
def allf (P : Nat → Bool) (x : Nat) : Nat → Nat → Bool
  | 0, _ => true
  | c + 1, j => (!x.testBit j || P j) && allf P x c (j + 1)
theorem allf_i {P : Nat → Bool} {x : Nat} : ∀ c j, allf P x c j = true ↔ ∀ i, j ≤ i → i < j + c → x.testBit i = true → P i = true := by
  intro c
  induction c with
  | zero => intro j; simp [allf]; intro i h1 h2; omega
  | succ c ih =>
    intro j
    simp only [allf, Bool.and_eq_true, ih (j + 1)]
    constructor
    · intro ⟨h1, h2⟩ i h3 h4 h5
      by_cases e : i = j
      · subst e
        simpa [h5] using h1
      · exact h2 i (by omega) (by omega) h5
    · intro h1
      refine ⟨?_, fun i h3 h4 h5 => h1 i (by omega) (by omega) h5⟩
      by_cases q : x.testBit j = true
      · simp [q, h1 j (by omega) (by omega) q]
      · simp [q]
theorem cms_l (R : Mem z h A M I T J rl G N) {x n : Nat} (C : Chs M x n) (hk : ∀ i, i < n → rB (I 10 i) 3) : ∀ (c j F : Nat), j + c = n → c < F → fX9_chosenMayBeSold_2 F h (nI (bc x j)) G = some (if allf (fun i => decide (¬ ms I i = 0)) x c j = true then 1 else 0, G) := by
  intro c
  induction c with
  | zero =>
    intro j F hj hF
    obtain ⟨F, rfl⟩ : ∃ F', F = F' + 1 := ⟨F - 1, by omega⟩
    have : j = n := by omega
    subst this
    simp only [fX9_chosenMayBeSold_2, fX9_chosenMayBeSold_2_b, R.f7, R.lo (show 3 < 4 by decide), sz_n R (show 3 < 4 by decide), C.1, ob_s, bI_s, if_pos (Int32.le_refl _), allf, if_true]
  | succ c ih =>
    intro j F hj hF
    by_cases q : x.testBit j = true
    · obtain ⟨F, rfl⟩ : ∃ F', F = F' + 1 := ⟨F - 1, by omega⟩
      have hjn : j < n := by omega
      have hj2 : j < M 2 0 := by have := C.2.2.1; omega
      obtain ⟨g1, g2⟩ := get3 R C hjn q
      have nx := ih (j + 1) F (by omega) (by omega)
      rw [bc_t q] at nx
      by_cases p : ms I j = 0
      · simp only [fX9_chosenMayBeSold_2, fX9_chosenMayBeSold_2_b, R.f7, R.lo (show 3 < 4 by decide), sz_n R (show 3 < 4 by decide), ob_s, bI_s, if_neg g2, g1, R.tk hj2, R.o10, ms_c R hj2 (hk j hjn), if_pos p, allf, q, p]
        rfl
      · simp only [fX9_chosenMayBeSold_2, fX9_chosenMayBeSold_2_b, R.f7, R.lo (show 3 < 4 by decide), sz_n R (show 3 < 4 by decide), ob_s, bI_s, if_neg g2, g1, R.tk hj2, R.o10, ms_c R hj2 (hk j hjn), if_neg p, allf, nI_1]
        rw [nx]
        simp [p]
    · have nx := ih (j + 1) F (by omega) (by omega)
      rw [bc_f q] at nx
      rw [nx]
      simp [allf, q]
theorem cak_l (R : Mem z h A M I T J rl G N) {x n : Nat} (C : Chs M x n) : ∀ (c j F : Nat), j + c = n → c < F → fX9_chosenAreKept_2 F h (nI (bc x j)) G = some (if allf (fun i => decide (I 16 i = 0)) x c j = true then 1 else 0, G) := by
  intro c
  induction c with
  | zero =>
    intro j F hj hF
    obtain ⟨F, rfl⟩ : ∃ F', F = F' + 1 := ⟨F - 1, by omega⟩
    have : j = n := by omega
    subst this
    simp only [fX9_chosenAreKept_2, fX9_chosenAreKept_2_b, R.f7, R.lo (show 3 < 4 by decide), sz_n R (show 3 < 4 by decide), C.1, ob_s, bI_s, if_pos (Int32.le_refl _), allf, if_true]
  | succ c ih =>
    intro j F hj hF
    by_cases q : x.testBit j = true
    · obtain ⟨F, rfl⟩ : ∃ F', F = F' + 1 := ⟨F - 1, by omega⟩
      have hjn : j < n := by omega
      have hj2 : j < M 2 0 := by have := C.2.2.1; omega
      obtain ⟨g1, g2⟩ := get3 R C hjn q
      have nx := ih (j + 1) F (by omega) (by omega)
      rw [bc_t q] at nx
      by_cases p : I 16 j = 0
      · simp only [fX9_chosenAreKept_2, fX9_chosenAreKept_2_b, R.f7, R.lo (show 3 < 4 by decide), sz_n R (show 3 < 4 by decide), ob_s, bI_s, if_neg g2, g1, R.tk hj2, R.t6 hj2, if_pos p, allf, nI_1]
        rw [nx]
        simp [p]
      · simp only [fX9_chosenAreKept_2, fX9_chosenAreKept_2_b, R.f7, R.lo (show 3 < 4 by decide), sz_n R (show 3 < 4 by decide), ob_s, bI_s, if_neg g2, g1, R.tk hj2, R.t6 hj2, if_neg p, allf, q, p]
        rfl
    · have nx := ih (j + 1) F (by omega) (by omega)
      rw [bc_f q] at nx
      rw [nx]
      simp [allf, q]
/-- sums over a set -/
def sms (f : Nat → Int32) (x i : Nat) (a : Int32) : Int32 := if x.testBit i = true then a + f i else a
theorem cwo_l (R : Mem z h A M I T J rl G N) {x n : Nat} (C : Chs M x n) : ∀ (c j F : Nat), j + c = n → c < F → fX9_chosenWorths_4 F h (itN (sms (I 13) x) j 0) (nI (bc x j)) G = some (itN (sms (I 13) x) n 0, G) := by
  intro c
  induction c with
  | zero =>
    intro j F hj hF
    obtain ⟨F, rfl⟩ : ∃ F', F = F' + 1 := ⟨F - 1, by omega⟩
    have : j = n := by omega
    subst this
    simp only [fX9_chosenWorths_4, fX9_chosenWorths_4_b, R.f7, R.lo (show 3 < 4 by decide), sz_n R (show 3 < 4 by decide), C.1, ob_s, bI_s, if_pos (Int32.le_refl _)]
  | succ c ih =>
    intro j F hj hF
    by_cases q : x.testBit j = true
    · obtain ⟨F, rfl⟩ : ∃ F', F = F' + 1 := ⟨F - 1, by omega⟩
      have hjn : j < n := by omega
      have hj2 : j < M 2 0 := by have := C.2.2.1; omega
      obtain ⟨g1, g2⟩ := get3 R C hjn q
      have nx := ih (j + 1) F (by omega) (by omega)
      rw [bc_t q, itN_s, sms, if_pos q] at nx
      simp only [fX9_chosenWorths_4, fX9_chosenWorths_4_b, R.f7, R.lo (show 3 < 4 by decide), sz_n R (show 3 < 4 by decide), ob_s, bI_s, if_neg g2, g1, R.tk hj2, R.t3 hj2, nI_1]
      exact nx
    · have nx := ih (j + 1) F (by omega) (by omega)
      rw [bc_f q, itN_s, sms, if_neg q] at nx
      exact nx
theorem of32 (x : Int32) : ∃ n, n < 2 ^ 32 ∧ x = nI n := ⟨x.toBitVec.toNat, x.toBitVec.isLt, by
  apply Int32.toBitVec_inj.mp
  show x.toBitVec = BitVec.ofNat 32 x.toBitVec.toNat
  simp⟩
theorem nI_z {a : Nat} (h : a < 2 ^ 32) : nI a = 0 ↔ a = 0 := by
  constructor
  · intro g
    have := pk_tn h
    rw [g] at this
    exact this.symm
  · rintro rfl; rfl
theorem nI_neg {a : Nat} (h1 : 2 ^ 31 ≤ a) (h2 : a < 2 ^ 32) : nI a < 0 := by
  rw [Int32.lt_iff_toInt_lt]
  have : (nI a).toInt = (nI a).toBitVec.toInt := rfl
  rw [this, BitVec.toInt_eq_toNat_cond, pk_tn h2, if_neg (by omega)]
  have : (0 : Int32).toInt = 0 := by decide
  omega
theorem su31 {n : Nat} (hn : n < 32) : (((nI n).toUInt32 &&& Int32.toUInt32 31).toBitVec % 32).toNat = n := by
  have : ∀ n : Fin 32, (((nI n.1).toUInt32 &&& Int32.toUInt32 31).toBitVec % 32).toNat = n.1 := by decide
  exact this ⟨n, hn⟩
/-- a set, asked for on both sides -/
theorem set_c (R : Mem z h A M I T J rl G N) (E : tie k M I T v) (a : Int32) : (fX9_hasBitOfNoThing h a G = some (1, G) ∧ fX10_isSet a v = some (0, v)) ∨ ∃ x, x < 2 ^ M 0 0 ∧ a = nI x ∧ fX9_hasBitOfNoThing h a G = some (0, G) ∧ fX10_isSet a v = some (1, v) := by
  have hb := E.b0
  have n3 := E.1.1.2.2.1
  have hp : 2 ^ M 0 0 ≤ 2 ^ 20 := pw2 hb
  have hp0 := Nat.two_pow_pos (M 0 0)
  obtain ⟨x, hx, rfl⟩ := of32 a
  have e1 : ((nI x).toUInt32 >>> ((nI (M 0 0)).toUInt32 &&& Int32.toUInt32 31)).toInt32 = nI (x / 2 ^ M 0 0) := pk_ushrN hx _ _ (su31 (by omega))
  have e2 : ((1 : Int32) <<< (nI (M 0 0) &&& 31)) - 1 = nI (2 ^ M 0 0 - 1) := by
    rw [shl_n (by omega)]
    exact pk_sub (b := 1) hp0
  have e3 := nI_z (a := x / 2 ^ M 0 0) (Nat.lt_of_le_of_lt (Nat.div_le_self _ _) hx)
  by_cases q : x < 2 ^ M 0 0
  · refine .inr ⟨x, q, rfl, ?_, ?_⟩
    · have : nI (x / 2 ^ M 0 0) = 0 := e3.mpr (Nat.div_eq_of_lt q)
      simp only [fX9_hasBitOfNoThing, R.f0, R.lo (show 0 < 4 by decide), sz_n R (show 0 < 4 by decide), ob_s, bI_s, e1, if_pos this]
    · have := ii_n (a := x) (b := 0) (c := 2 ^ M 0 0 - 1) (by omega) (by decide) (by omega) v
      rw [if_pos (by omega), nI_0] at this
      simp only [fX10_isSet, n3, e2, this, bI_s, or_true, if_true]
  · refine .inl ⟨?_, ?_⟩
    · have : ¬ nI (x / 2 ^ M 0 0) = 0 := fun g => by
        have := e3.mp g
        have h1 : 1 ≤ x / 2 ^ M 0 0 := (Nat.le_div_iff_mul_le hp0).mpr (by omega)
        omega
      simp only [fX9_hasBitOfNoThing, R.f0, R.lo (show 0 < 4 by decide), sz_n R (show 0 < 4 by decide), ob_s, bI_s, e1, if_neg this]
    · have : fX10_isIn (nI x) 0 (nI (2 ^ M 0 0 - 1)) v = some (0, v) := by
        rcases Nat.lt_or_ge x (2 ^ 31) with p | p
        · have := ii_n (a := x) (b := 0) (c := 2 ^ M 0 0 - 1) p (by decide) (by omega) v
          rw [if_neg (by omega), nI_0] at this
          exact this
        · unfold fX10_isIn
          rw [if_pos (nI_neg p hx)]
      simp only [fX10_isSet, n3, e2, this, bI_s, true_or, if_true]
theorem and_n (a b : Nat) : nI a &&& nI b = nI (a &&& b) := by
  show Int32.ofNat a &&& Int32.ofNat b = Int32.ofNat (a &&& b)
  apply Int32.toBitVec_inj.mp
  simp [Int32.toBitVec_and]
theorem xor_n (a b : Nat) : nI a ^^^ nI b = nI (a ^^^ b) := by
  show Int32.ofNat a ^^^ Int32.ofNat b = Int32.ofNat (a ^^^ b)
  apply Int32.toBitVec_inj.mp
  simp [Int32.toBitVec_xor]
theorem sub_b {x y : Nat} (hx : x < 2 ^ 31) : (nI x &&& (nI y ^^^ (-1 : Int32)) = 0) ↔ ∀ i, x.testBit i = true → y.testBit i = true := by
  rw [show (-1 : Int32) = nI (2 ^ 32 - 1) by decide, xor_n, and_n, nI_z (Nat.lt_of_le_of_lt Nat.and_le_left (by omega))]
  constructor
  · intro g i hi
    have := congrArg (fun n => Nat.testBit n i) g
    simp only [Nat.testBit_and, Nat.testBit_xor, Nat.testBit_two_pow_sub_one, Nat.zero_testBit, hi, Bool.true_and] at this
    have hi32 : i < 32 := by
      rcases Nat.lt_or_ge i 31 with q | q
      · omega
      · exact absurd hi (tb_hi hx q)
    simpa [hi32] using this
  · intro g
    apply Nat.eq_of_testBit_eq
    intro i
    simp only [Nat.testBit_and, Nat.testBit_xor, Nat.testBit_two_pow_sub_one, Nat.zero_testBit]
    by_cases q : x.testBit i = true
    · have hi32 : i < 32 := by
        rcases Nat.lt_or_ge i 31 with p | p
        · omega
        · exact absurd q (tb_hi hx p)
      simp [q, g i q, hi32]
    · simp [q]
theorem aS_f (I : Nat → Nat → Int32) : ∀ n, n ≤ 31 → aS I n = nI (fbs (fun i => decide (¬ ms I i = 0)) n) := by
  intro n
  induction n with
  | zero => intro _; rfl
  | succ n ih =>
    intro hn
    have e : aS I (n + 1) = if ms I n = 0 then aS I n else aS I n ||| ((1 : Int32) <<< (nI n &&& 31)) := rfl
    rw [e, ih (by omega)]
    by_cases q : ms I n = 0
    · rw [if_pos q]
      simp [fbs, q]
    · rw [if_neg q, shl_n (by omega), or_n]
      simp [fbs, q]
theorem sell_ok {x n : Nat} (hx : x < 2 ^ n) (hn : n ≤ 20) : (nI x &&& (aS I n ^^^ (-1 : Int32)) = 0) = (allf (fun i => decide (¬ ms I i = 0)) x n 0 = true) := by
  have hp : 2 ^ n ≤ 2 ^ 20 := pw2 hn
  rw [aS_f I n (by omega), sub_b (by omega)]
  refine propext ⟨fun g => ?_, fun g i hi => ?_⟩
  · rw [allf_i]
    intro i h1 h2 h3
    have := g i h3
    rw [fbs_tb] at this
    exact ((Bool.and_eq_true _ _).mp this).2
  · have hi2 : i < n := by
      rcases Nat.lt_or_ge i n with p | p
      · exact p
      · exact absurd hi (tb_hi hx p)
    rw [fbs_tb, (allf_i n 0).mp g i (by omega) (by omega) hi]
    simp [hi2]
theorem ones_n {x : Nat} (hx : x < 2 ^ 31) (v : mS) : fX10_ones (nI x) v = some (nI (bc x 20), v) := by
  have L : ∀ (c j F : Nat), j + c = 20 → c < F → fX10_ones_4 F (nI x) (nI (bc x j)) (nI j) v = some (nI (bc x 20), v) := by
    intro c
    induction c with
    | zero =>
      intro j F hj hF
      obtain ⟨F, rfl⟩ : ∃ F', F = F' + 1 := ⟨F - 1, by omega⟩
      have : j = 20 := by omega
      subst this
      simp only [fX10_ones_4, fX10_ones_4_b, if_pos (show (20 : Int32) ≤ nI 20 by decide)]
    | succ c ih =>
      intro j F hj hF
      obtain ⟨F, rfl⟩ : ∃ F', F = F' + 1 := ⟨F - 1, by omega⟩
      have nx := ih (j + 1) F (by omega) (by omega)
      have e : ¬ (20 : Int32) ≤ nI j := nI_ge (b := 20) (by omega) (by decide)
      by_cases q : x.testBit j = true
      · rw [bc_t q] at nx
        simp only [fX10_ones_4, fX10_ones_4_b, if_neg e, bit_n hx (show j < 32 by omega), if_pos q, pU_s, nI_1]
        exact nx
      · rw [bc_f q] at nx
        simp only [fX10_ones_4, fX10_ones_4_b, if_neg e, bit_n hx (show j < 32 by omega), if_neg q, pU_s, nI_1, Int32.add_zero]
        exact nx
  exact L 20 0 FU rfl (fuel (by decide))
end CH
