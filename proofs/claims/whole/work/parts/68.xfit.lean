/-! bits; labels and addresses -/
section BT
variable {z : Nat → Nat} {h : Nat} {A : Nat → Nat → Nat → Nat} {M : Nat → Nat → Nat} {I : Nat → Nat → Int32} {T : Nat → Nat → Nat → Int32} {J : Nat → Nat → Int64} {rl : Nat → Nat × Nat × Nat} {G : gM} {N k : Nat} {v : mS}
theorem sh31 {i : Nat} (hi : i < 32) : ((nI i &&& 31).toBitVec.smod 32).toNat = i := by
  have : ∀ i : Fin 32, ((nI i.1 &&& 31).toBitVec.smod 32).toNat = i.1 := by decide
  exact this ⟨i, hi⟩
theorem shl_n {i : Nat} (hi : i < 32) : (1 : Int32) <<< (nI i &&& 31) = nI (2 ^ i) := by
  have := pk_shlN (n := 1) (nI i &&& 31) i (sh31 hi) (by rw [Nat.one_mul]; exact Nat.pow_lt_pow_right (by decide) hi)
  rw [Nat.one_mul] at this
  exact this
theorem shr_n {x i : Nat} (hx : x < 2 ^ 31) (hi : i < 32) : (nI x >>> (nI i &&& 31)) &&& 1 = nI (x / 2 ^ i % 2) := by
  rw [pk_shrN hx _ i (sh31 hi)]
  exact pk_andN (Nat.lt_of_le_of_lt (Nat.div_le_self _ _) (by omega)) 1 (by decide)
theorem tb_d (x i : Nat) : x / 2 ^ i % 2 = if x.testBit i = true then 1 else 0 := by
  rw [Nat.testBit_eq_decide_div_mod_eq]
  by_cases e : x / 2 ^ i % 2 = 1
  · simp [e]
  · have : x / 2 ^ i % 2 < 2 := Nat.mod_lt _ (by decide)
    simp [e]; omega
theorem bit_n {x i : Nat} (hx : x < 2 ^ 31) (hi : i < 32) : (nI x >>> (nI i &&& 31)) &&& 1 = if x.testBit i = true then (1 : Int32) else 0 := by
  rw [shr_n hx hi, tb_d]
  split <;> rfl
theorem bit_1 {x i : Nat} (hx : x < 2 ^ 31) (hi : i < 32) : ((nI x >>> (nI i &&& 31)) &&& 1 = 1) = (x.testBit i = true) := by
  rw [bit_n hx hi]
  by_cases e : x.testBit i = true
  · simp [e]
  · simp [e]
theorem hB_n {x i : Nat} (hx : x < 2 ^ 31) (hi : i < 32) (G : gM) : fX9_hasBit (nI x) (nI i) G = some (if x.testBit i = true then 1 else 0, G) := by
  unfold fX9_hasBit
  rw [bit_n hx hi]
  by_cases e : x.testBit i = true
  · rw [if_pos e]; rfl
  · rw [if_neg e]; rfl
theorem or_n (a b : Nat) : nI a ||| nI b = nI (a ||| b) := by
  show Int32.ofNat a ||| Int32.ofNat b = Int32.ofNat (a ||| b)
  apply Int32.toBitVec_inj.mp
  simp [Int32.toBitVec_or]
theorem bool_01 {b : Bool} : (if b = true then (1 : Int32) else 0) = 0 ↔ b = false := by cases b <;> decide
theorem wi_n {a b c : Nat} (ha : a < 2 ^ 31) (hb : b < 2 ^ 31) (hc : c < 2 ^ 31) (G : gM) : fX9_within (nI a) (nI b) (nI c) G = some (if b ≤ a ∧ a ≤ c then 1 else 0, G) := by
  unfold fX9_within
  by_cases e1 : b ≤ a
  · rw [if_neg (nI_nlt e1 ha)]
    by_cases e2 : a ≤ c
    · rw [if_neg (nI_nlt e2 hc), if_pos ⟨e1, e2⟩]
    · rw [if_pos (nI_lt (by omega) ha), if_neg (fun q => e2 q.2)]
  · rw [if_pos (nI_lt (by omega) hb), if_neg (fun q => e1 q.1)]
theorem ii_n {a b c : Nat} (ha : a < 2 ^ 31) (hb : b < 2 ^ 31) (hc : c < 2 ^ 31) (v : mS) : fX10_isIn (nI a) (nI b) (nI c) v = some (if b ≤ a ∧ a ≤ c then 1 else 0, v) := by
  unfold fX10_isIn
  by_cases e1 : b ≤ a
  · rw [if_neg (nI_nlt e1 ha)]
    by_cases e2 : a ≤ c
    · rw [if_neg (nI_nlt e2 hc), if_pos ⟨e1, e2⟩]
    · rw [if_pos (nI_lt (by omega) ha), if_neg (fun q => e2 q.2)]
  · rw [if_pos (nI_lt (by omega) hb), if_neg (fun q => e1 q.1)]
theorem lab_c (x0 x1 : Int32) (G : gM) (v : mS) : (fX9_isLabel x0 x1 G = some (0, G) ∧ fX10_isLabel x0 x1 v = some (0, v)) ∨ ∃ m l, x1 = nI m ∧ x0 = nI l ∧ 10 ≤ m ∧ m ≤ 83 ∧ m % 10 ≤ 3 ∧ l < 10 ^ (m / 10) ∧ fX9_isLabel x0 x1 G = some (1, G) ∧ fX10_isLabel x0 x1 v = some (1, v) := by
  have l98 : ((9 : Int32) - 1) = nI 8 := by decide
  by_cases s1 : x1 < 0
  · have s2 : x1 < 10 := by
      rw [Int32.lt_iff_toInt_lt] at s1 ⊢
      have : (0 : Int32).toInt = 0 := by decide
      have : (10 : Int32).toInt = 10 := by decide
      omega
    exact .inl ⟨by simp only [fX9_isLabel, if_pos s1], by simp only [fX10_isLabel, fX10_isIn, if_pos s2, bI_s, if_true]⟩
  · obtain ⟨m, hm, rfl⟩ := nI_of s1
    have d1 : nI m / (10 : Int32) = nI (m / 10) := pk_div (d := 10) hm (by decide) (by decide)
    have d2 : nI m - nI m / (10 : Int32) * (10 : Int32) = nI (m % 10) := pk_rem (d := 10) hm (by decide) (by decide)
    have d3 : nI m - nI (m / 10) * (10 : Int32) = nI (m % 10) := by rw [← d1]; exact d2
    have w1 := wi_n (a := m / 10) (b := 1) (c := 8) (by omega) (by decide) (by decide) G
    have w2 := ii_n (a := m) (b := 10) (c := 83) hm (by decide) (by decide) v
    by_cases c1 : 10 ≤ m ∧ m ≤ 83
    · rw [if_pos (show 1 ≤ m / 10 ∧ m / 10 ≤ 8 by omega)] at w1
      rw [if_pos c1] at w2
      by_cases c2 : m % 10 ≤ 3
      · have c3 : ¬ (3 : Int32) < nI (m % 10) := nI_nlt (b := m % 10) (a := 3) c2 (by decide)
        have c4 : ¬ (4 : Int32) ≤ nI (m % 10) := nI_ge (b := 4) (by omega) (by decide)
        have c5 : m / 10 < 9 := by omega
        have c6 := p10b c5
        have c7 := p10p (m / 10)
        have c8 : nI (10 ^ (m / 10)) - 1 = nI (10 ^ (m / 10) - 1) := pk_sub (b := 1) c7
        have c9 : 10 ^ (m / 10) ≤ 10 ^ 8 := p10 (by omega)
        by_cases s3 : x0 < 0
        · refine .inl ⟨?_, ?_⟩
          · have e1 : fX9_within x0 0 (nI (10 ^ (m / 10) - 1)) G = some (0, G) := by simp only [fX9_within, if_pos s3]
            simp only [fX9_isLabel, if_neg s1, d1, d3, l98]
            rw [show fX9_within (nI (m / 10)) 1 (nI 8) G = some (1, G) from w1]
            simp only [bI_s, i10, if_false, if_neg c3, tE_n c5, ob_s, c8, e1, if_true]
          · have e1 : fX10_isIn x0 0 99999999 v = some (0, v) := by simp only [fX10_isIn, if_pos s3]
            simp only [fX10_isLabel, d1, d3]
            rw [show fX10_isIn (nI m) 10 83 v = some (1, v) from w2]
            simp only [bI_s, i10, if_false, if_neg c4, e1, if_true]
        · obtain ⟨l, hl, rfl⟩ := nI_of s3
          have w3 := wi_n (a := l) (b := 0) (c := 10 ^ (m / 10) - 1) hl (by decide) (by omega) G
          have w4 := ii_n (a := l) (b := 0) (c := 99999999) hl (by decide) (by decide) v
          by_cases c10 : l < 10 ^ (m / 10)
          · rw [if_pos (by omega)] at w3
            rw [if_pos (by omega)] at w4
            refine .inr ⟨m, l, rfl, rfl, c1.1, c1.2, c2, c10, ?_, ?_⟩
            · simp only [fX9_isLabel, if_neg s1, d1, d3, l98]
              rw [show fX9_within (nI (m / 10)) 1 (nI 8) G = some (1, G) from w1]
              simp only [bI_s, i10, if_false, if_neg c3, tE_n c5, ob_s, c8]
              rw [show fX9_within (nI l) 0 (nI (10 ^ (m / 10) - 1)) G = some (1, G) from w3]
              simp only [bI_s, i10, if_false]
            · have pl := pl_n (w := l) (by omega) v
              have pc : ¬ nI (m / 10) < nI (plf 8 l) := nI_nlt ((plf_le 8 l _ (by omega)).mpr c10) (by omega)
              simp only [fX10_isLabel, d1, d3]
              rw [show fX10_isIn (nI m) 10 83 v = some (1, v) from w2]
              simp only [bI_s, i10, if_false, if_neg c4]
              rw [show fX10_isIn (nI l) 0 99999999 v = some (1, v) from w4]
              simp only [bI_s, i10, if_false, pl, if_neg pc]
          · rw [if_neg (by omega)] at w3
            refine .inl ⟨?_, ?_⟩
            · simp only [fX9_isLabel, if_neg s1, d1, d3, l98]
              rw [show fX9_within (nI (m / 10)) 1 (nI 8) G = some (1, G) from w1]
              simp only [bI_s, i10, if_false, if_neg c3, tE_n c5, ob_s, c8]
              rw [show fX9_within (nI l) 0 (nI (10 ^ (m / 10) - 1)) G = some (0, G) from w3]
              simp only [bI_s, if_true]
            · simp only [fX10_isLabel, d1, d3]
              rw [show fX10_isIn (nI m) 10 83 v = some (1, v) from w2]
              simp only [bI_s, i10, if_false, if_neg c4]
              by_cases c11 : l ≤ 99999999
              · rw [if_pos (by omega)] at w4
                have pl := pl_n (w := l) (by omega) v
                have p8 : plf 8 l ≤ 8 := (plf_le 8 l _ (by omega)).mpr (by omega)
                have pc : nI (m / 10) < nI (plf 8 l) := nI_lt (by
                  rcases Nat.lt_or_ge (m / 10) (plf 8 l) with q | q
                  · exact q
                  · exact absurd ((plf_le 8 l _ (by omega)).mp q) c10) (by omega)
                rw [show fX10_isIn (nI l) 0 99999999 v = some (1, v) from w4]
                simp only [bI_s, i10, if_false, pl, if_pos pc]
              · rw [if_neg (by omega)] at w4
                rw [show fX10_isIn (nI l) 0 99999999 v = some (0, v) from w4]
                simp only [bI_s, if_true]
      · have c3 : (3 : Int32) < nI (m % 10) := nI_lt (a := 3) (by omega) (by omega)
        have c4 : (4 : Int32) ≤ nI (m % 10) := nI_le (a := 4) (by omega) (by omega)
        refine .inl ⟨?_, ?_⟩
        · simp only [fX9_isLabel, if_neg s1, d1, d3, l98]
          rw [show fX9_within (nI (m / 10)) 1 (nI 8) G = some (1, G) from w1]
          simp only [bI_s, i10, if_false, if_pos c3]
        · simp only [fX10_isLabel, d1, d3]
          rw [show fX10_isIn (nI m) 10 83 v = some (1, v) from w2]
          simp only [bI_s, i10, if_false, if_pos c4]
    · rw [if_neg c1] at w2
      refine .inl ⟨?_, ?_⟩
      · simp only [fX9_isLabel, if_neg s1, d1, d3, l98]
        by_cases c2 : 1 ≤ m / 10 ∧ m / 10 ≤ 8
        · rw [if_pos c2] at w1
          have c3 : (3 : Int32) < nI (m % 10) := nI_lt (a := 3) (by omega) (by omega)
          rw [show fX9_within (nI (m / 10)) 1 (nI 8) G = some (1, G) from w1]
          simp only [bI_s, i10, if_false, if_pos c3]
        · rw [if_neg c2] at w1
          rw [show fX9_within (nI (m / 10)) 1 (nI 8) G = some (0, G) from w1]
          simp only [bI_s, if_true]
      · simp only [fX10_isLabel]
        rw [show fX10_isIn (nI m) 10 83 v = some (0, v) from w2]
        simp only [bI_s, if_true]
/-- a label laid on a word -/
def agf (l w b : Nat) : Nat → Nat → Bool
  | 0, _ => true
  | m + 1, i => if dgt l i = 0 ∨ dgt l i = dgt w (i + b) then agf l w b m (i + 1) else false
theorem ag_cc {a l w p b : Nat} (gl : gI [1] 1 G a = some (nI (dg w))) (g0 : gI [1] 0 G a = some (nI w)) (hw1 : 1 ≤ w) (hw : w < 10 ^ 8) (hl : l < 2 ^ 31) (hb : b + p ≤ dg w) : ∀ (m i F : Nat), i + m = p → m < F → fX0_agrees_3 F a (nI l) (nI p) (nI b) (nI i) G = some (if agf l w b m i = true then 1 else 0, G) := by
  have hD := dg_b hw1 hw
  intro m
  induction m with
  | zero =>
    intro i F hi hF
    obtain ⟨F, rfl⟩ : ∃ F', F = F' + 1 := ⟨F - 1, by omega⟩
    have : i = p := by omega
    subst this
    simp only [fX0_agrees_3, fX0_agrees_3_b, if_pos (Int32.le_refl (nI i)), agf, if_true]
  | succ m ih =>
    intro i F hi hF
    obtain ⟨F, rfl⟩ : ∃ F', F = F' + 1 := ⟨F - 1, by omega⟩
    have hw31 : w < 2 ^ 31 := by omega
    have i9 : i < 9 := by omega
    have ib9 : i + b < 9 := by omega
    have d1 := dgt_b l i
    have d2 := dgt_b w (i + b)
    have e1 : ¬ nI (dg w) ≤ nI (i + b) := nI_ge (by omega) (by omega)
    have nx := ih (i + 1) F (by omega) (by omega)
    by_cases q1 : dgt l i = 0
    · simp only [fX0_agrees_3, fX0_agrees_3_b, fX0_agrees_61, if_neg (nI_ge (show i < p by omega) (by omega)), gl, ob_s, nI_add, if_neg e1, tE_n i9, if_neg (t0_n i9), pU_s, dc_n hl i9, if_pos (show nI (dgt l i) = 0 by rw [q1]; rfl), agf, if_pos (show dgt l i = 0 ∨ dgt l i = dgt w (i + b) from .inl q1), nI_1]
      exact nx
    · have q2 : ¬ nI (dgt l i) = 0 := nI_ne0 (by omega) (by omega)
      by_cases q3 : dgt l i = dgt w (i + b)
      · simp only [fX0_agrees_3, fX0_agrees_3_b, fX0_agrees_61, if_neg (nI_ge (show i < p by omega) (by omega)), gl, g0, ob_s, nI_add, if_neg e1, tE_n i9, tE_n ib9, if_neg (t0_n i9), if_neg (t0_n ib9), pU_s, dc_n hl i9, dc_n hw31 ib9, if_neg q2, if_pos (show nI (dgt l i) = nI (dgt w (i + b)) by rw [q3]), agf, if_pos (show dgt l i = 0 ∨ dgt l i = dgt w (i + b) from .inr q3), nI_1]
        exact nx
      · simp only [fX0_agrees_3, fX0_agrees_3_b, fX0_agrees_61, if_neg (nI_ge (show i < p by omega) (by omega)), gl, g0, ob_s, nI_add, if_neg e1, tE_n i9, tE_n ib9, if_neg (t0_n i9), if_neg (t0_n ib9), pU_s, dc_n hl i9, dc_n hw31 ib9, if_neg q2, if_neg (show ¬ nI (dgt l i) = nI (dgt w (i + b)) from fun g => q3 ((nI_eq (by omega) (by omega)).mp g)), agf, if_neg (show ¬ (dgt l i = 0 ∨ dgt l i = dgt w (i + b)) from fun g => g.elim q1 q3)]
        rfl
theorem ag_mm {l w p b : Nat} (hw : w < 10 ^ 8) (hl : l < 2 ^ 31) (hp : p < 100) (hb : b < 100) : ∀ (m i F : Nat), i + m = p → m < F → fX10_liesOn_3 F (nI w) (nI l) (nI p) (nI b) (nI i) v = some (if agf l w b m i = true then 1 else 0, v) := by
  intro m
  induction m with
  | zero =>
    intro i F hi hF
    obtain ⟨F, rfl⟩ : ∃ F', F = F' + 1 := ⟨F - 1, by omega⟩
    have : i = p := by omega
    subst this
    simp only [fX10_liesOn_3, fX10_liesOn_3_b, if_pos (Int32.le_refl (nI i)), agf, if_true]
  | succ m ih =>
    intro i F hi hF
    obtain ⟨F, rfl⟩ : ∃ F', F = F' + 1 := ⟨F - 1, by omega⟩
    have hw31 : w < 2 ^ 31 := by omega
    have d1 := dgt_b l i
    have d2 := dgt_b w (i + b)
    have nx := ih (i + 1) F (by omega) (by omega)
    by_cases q1 : dgt l i = 0
    · simp only [fX10_liesOn_3, fX10_liesOn_3_b, fX10_liesOn_37, if_neg (nI_ge (show i < p by omega) (by omega)), dr_n hl (show i < 1000 by omega), bI_s, if_pos (show nI (dgt l i) ≤ 0 by rw [q1]; decide), agf, if_pos (show dgt l i = 0 ∨ dgt l i = dgt w (i + b) from .inl q1), nI_1]
      exact nx
    · have q2 : ¬ nI (dgt l i) ≤ 0 := nI_nle (by omega) (by omega)
      by_cases q3 : dgt l i = dgt w (i + b)
      · simp only [fX10_liesOn_3, fX10_liesOn_3_b, fX10_liesOn_37, if_neg (nI_ge (show i < p by omega) (by omega)), dr_n hl (show i < 1000 by omega), bI_s, if_neg q2, nI_add, dr_n hw31 (show i + b < 1000 by omega), if_pos (show nI (dgt l i) = nI (dgt w (i + b)) by rw [q3]), agf, if_pos (show dgt l i = 0 ∨ dgt l i = dgt w (i + b) from .inr q3), nI_1]
        exact nx
      · simp only [fX10_liesOn_3, fX10_liesOn_3_b, fX10_liesOn_37, if_neg (nI_ge (show i < p by omega) (by omega)), dr_n hl (show i < 1000 by omega), bI_s, if_neg q2, nI_add, dr_n hw31 (show i + b < 1000 by omega), if_neg (show ¬ nI (dgt l i) = nI (dgt w (i + b)) from fun g => q3 ((nI_eq (by omega) (by omega)).mp g)), agf, if_neg (show ¬ (dgt l i = 0 ∨ dgt l i = dgt w (i + b)) from fun g => g.elim q1 q3)]
        rfl
def may (t o b : Nat) : Bool := (b == 0 || t % 2 == 1) && (b == o || decide (1 < t))
def tkf (l w p t o : Nat) : Nat → Nat → Bool
  | 0, _ => false
  | m + 1, b => if may t o b = true ∧ agf l w b p 0 = true then true else tkf l w p t o m (b + 1)
theorem may_c {t : Nat} (ht : t ≤ 3) : (nI t &&& 1 = 0 ↔ t % 2 = 0) ∧ (nI t &&& 2 = 0 ↔ t ≤ 1) := by
  match t, ht with
  | 0, _ => decide
  | 1, _ => decide
  | 2, _ => decide
  | 3, _ => decide
theorem tk_b {t o : Nat} (ht : t ≤ 3) (ho : o < 100) {b : Nat} (hb : b ≤ o) (x0 : Nat) (x1 x2 : Int32) (G : gM) (k11 : Nat → Int32 → Int32 → Int32 → Int32 → Int32 → gM → Option (Int32 × gM)) : fX0_takes_11_b x0 x1 x2 (nI t) (nI o) (nI b) G k11 = if may t o b = true then ((gO [1] G x0).bind fun _ => bI (fX0_agrees x0 x1 x2 (nI b) G) fun r71 u71 => if r71 = 0 then k11 x0 x1 x2 (nI t) (nI o) (nI b + 1) u71 else some (1, u71)) else k11 x0 x1 x2 (nI t) (nI o) (nI b + 1) G := by
  obtain ⟨m1, m2⟩ := may_c ht
  have e1 : ¬ nI o < nI b := nI_nlt hb (by omega)
  unfold may
  by_cases q1 : b = 0
  · subst q1
    by_cases q2 : 0 = o
    · subst q2
      simp [fX0_takes_11_b, fX0_takes_29, fX0_takes_34, fX0_takes_49, fX0_takes_54, fX0_takes_79, nI_0]
    · have q2' : ¬ (0 : Int32) = nI o := fun g => q2 ((nI_eq (a := 0) (by omega) (by omega)).mp g)
      by_cases q3 : t ≤ 1
      · have : ¬ 1 < t := by omega
        simp [fX0_takes_11_b, fX0_takes_29, fX0_takes_34, fX0_takes_49, fX0_takes_54, fX0_takes_79, nI_0, q2', q2, m2.mpr q3, this]
        intro g; exact absurd g (by simpa [nI_0] using e1)
      · have q4 : ¬ nI t &&& 2 = 0 := fun g => q3 (m2.mp g)
        have : 1 < t := by omega
        simp [fX0_takes_11_b, fX0_takes_29, fX0_takes_34, fX0_takes_49, fX0_takes_54, fX0_takes_79, nI_0, q2', q2, q4, this]
        intro g; exact absurd g (by simpa [nI_0] using e1)
  · have q1' : ¬ nI b = 0 := nI_ne0 (by omega) (by omega)
    by_cases q2 : b = o
    · have q2' : nI b = nI o := by rw [q2]
      by_cases q3 : t % 2 = 0
      · have q4 : ¬ t % 2 = 1 := by omega
        simp [fX0_takes_11_b, fX0_takes_29, fX0_takes_34, fX0_takes_49, fX0_takes_54, fX0_takes_79, e1, q1, q1', m1.mpr q3, q4]
      · have q4 : ¬ nI t &&& 1 = 0 := fun g => q3 (m1.mp g)
        have q5 : t % 2 = 1 := by omega
        simp [fX0_takes_11_b, fX0_takes_29, fX0_takes_34, fX0_takes_49, fX0_takes_54, fX0_takes_79, e1, q1, q1', q4, q5, q2', q2]
    · have q2' : ¬ nI b = nI o := fun g => q2 ((nI_eq (by omega) (by omega)).mp g)
      by_cases q3 : t % 2 = 0
      · have q4 : ¬ t % 2 = 1 := by omega
        by_cases q5 : t ≤ 1
        · simp [fX0_takes_11_b, fX0_takes_29, fX0_takes_34, fX0_takes_49, fX0_takes_54, fX0_takes_79, e1, q1, q1', m1.mpr q3, q4, q2', m2.mpr q5]
        · have q6 : ¬ nI t &&& 2 = 0 := fun g => q5 (m2.mp g)
          simp [fX0_takes_11_b, fX0_takes_29, fX0_takes_34, fX0_takes_49, fX0_takes_54, fX0_takes_79, e1, q1, q1', m1.mpr q3, q4, q2', q6]
      · have q4 : ¬ nI t &&& 1 = 0 := fun g => q3 (m1.mp g)
        have q4' : t % 2 = 1 := by omega
        by_cases q5 : t ≤ 1
        · have : ¬ 1 < t := by omega
          simp [fX0_takes_11_b, fX0_takes_29, fX0_takes_34, fX0_takes_49, fX0_takes_54, fX0_takes_79, e1, q1, q1', q4, q4', q2, q2', m2.mpr q5, this]
        · have q6 : ¬ nI t &&& 2 = 0 := fun g => q5 (m2.mp g)
          have : 1 < t := by omega
          simp [fX0_takes_11_b, fX0_takes_29, fX0_takes_34, fX0_takes_49, fX0_takes_54, fX0_takes_79, e1, q1, q1', q4, q4', q2', q6, this]
end BT
