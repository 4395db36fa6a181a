/-! ways to choose -/
def ch : Nat → Nat → Nat
  | _, 0 => 1
  | 0, _ + 1 => 0
  | n + 1, k + 1 => ch n k + ch n (k + 1)
theorem ch_0 (n : Nat) : ch n 0 = 1 := by cases n <;> rfl
theorem ch_s (n k : Nat) : ch (n + 1) (k + 1) = ch n k + ch n (k + 1) := rfl
theorem ch_z : ∀ (n k : Nat), n < k → ch n k = 0 := by
  intro n
  induction n with
  | zero =>
    intro k hk
    obtain ⟨k, rfl⟩ : ∃ k', k = k' + 1 := ⟨k - 1, by omega⟩
    rfl
  | succ n ih =>
    intro k hk
    obtain ⟨k, rfl⟩ : ∃ k', k = k' + 1 := ⟨k - 1, by omega⟩
    rw [ch_s, ih k (by omega), ih (k + 1) (by omega)]
theorem ch_m : ∀ (n k : Nat), ch n k * (n - k) = ch n (k + 1) * (k + 1) := by
  intro n
  induction n with
  | zero =>
    intro k
    rw [Nat.zero_sub, Nat.mul_zero, ch_z 0 (k + 1) (by omega), Nat.zero_mul]
  | succ n ih =>
    intro k
    match k with
    | 0 =>
      have h1 := ih 0
      rw [ch_0, Nat.one_mul, Nat.sub_zero, Nat.zero_add, Nat.mul_one] at h1
      rw [ch_0, Nat.one_mul, Nat.sub_zero, Nat.zero_add, Nat.mul_one, show ch (n + 1) 1 = ch n 0 + ch n 1 from rfl, ch_0, ← h1]
      omega
    | k + 1 =>
      have h1 := ih k
      have h2 := ih (k + 1)
      rw [ch_s, ch_s, show n + 1 - (k + 1) = n - k by omega, Nat.add_mul, Nat.add_mul, h1]
      rcases Nat.lt_or_ge k n with q | q
      · have e1 : n - k = (n - (k + 1)) + 1 := by omega
        have e4 : ch n (k + 1) * (n - (k + 1) + 1) = ch n (k + 1) * (n - (k + 1)) + ch n (k + 1) := Nat.mul_succ _ _
        rw [e1, e4, h2]
        have e2 : ch n (k + 1) * (k + 1 + 1) = ch n (k + 1) * (k + 1) + ch n (k + 1) := Nat.mul_succ _ _
        have e3 : ch n (k + 1 + 1) * (k + 1 + 1) = ch n (k + 1 + 1) * (k + 1) + ch n (k + 1 + 1) := Nat.mul_succ _ _
        omega
      · rw [ch_z n (k + 1) (by omega), ch_z n (k + 1 + 1) (by omega)]
        simp
theorem ch_n (n k : Nat) : ch (n + 1) k * (n + 1 - k) = (n + 1) * ch n k := by
  match k with
  | 0 => rw [ch_0, ch_0, Nat.one_mul, Nat.mul_one, Nat.sub_zero]
  | k + 1 =>
    rw [ch_s, show n + 1 - (k + 1) = n - k by omega, Nat.add_mul, ch_m n k]
    rcases Nat.lt_or_ge n k with q | q
    · rw [ch_z n (k + 1) (by omega)]; simp
    · rw [← Nat.mul_add, show k + 1 + (n - k) = n + 1 by omega, Nat.mul_comm]
theorem ch_b0 : ∀ (n k : Nat), ch n k ≤ 2 ^ n := by
  intro n
  induction n with
  | zero => intro k; cases k <;> simp [ch]
  | succ n ih =>
    intro k
    have hp := Nat.two_pow_pos n
    match k with
    | 0 => rw [ch_0, Nat.pow_succ]; omega
    | k + 1 =>
      have h1 := ih k
      have h2 := ih (k + 1)
      rw [ch_s, Nat.pow_succ]; omega
theorem ch_b1 : ∀ (d k : Nat), ch (10 + d) k ≤ 2 ^ (8 + d) := by
  intro d
  induction d with
  | zero =>
    intro k
    rcases Nat.lt_or_ge 10 k with q | q
    · rw [ch_z _ k (by omega)]; exact Nat.zero_le _
    · have : ∀ k : Fin 11, ch 10 k.1 ≤ 2 ^ 8 := by decide
      exact this ⟨k, by omega⟩
  | succ d ih =>
    intro k
    have hp := Nat.two_pow_pos (8 + d)
    rw [show 8 + (d + 1) = (8 + d) + 1 by omega, Nat.pow_succ]
    match k with
    | 0 => rw [ch_0]; omega
    | k + 1 =>
      have h1 := ih k
      have h2 := ih (k + 1)
      rw [show 10 + (d + 1) = (10 + d) + 1 by omega, ch_s]; omega
theorem ch_b {n : Nat} (h : n ≤ 59) (k : Nat) : ch n k ≤ 2 ^ 57 := by
  rcases Nat.lt_or_ge n 10 with q | q
  · exact Nat.le_trans (ch_b0 n k) (Nat.pow_le_pow_right (by decide) (by omega))
  · have := ch_b1 (n - 10) k
    rw [show 10 + (n - 10) = n by omega] at this
    exact Nat.le_trans this (Nat.pow_le_pow_right (by decide) (by omega))
theorem ch_p {n : Nat} (h : n ≤ 60) (k : Nat) : ch n k * (n - k) < 2 ^ 63 := by
  match n with
  | 0 => rw [Nat.zero_sub, Nat.mul_zero]; decide
  | n + 1 =>
    rw [ch_n]
    have h1 := ch_b (show n ≤ 59 by omega) k
    have h2 : (n + 1) * ch n k ≤ 60 * 2 ^ 57 := Nat.mul_le_mul h h1
    omega
theorem fuel' {n : Nat} (h : n ≤ 900000) : n < FU := by show n < 1000000; omega
section WY
variable {z : Nat → Nat} {h : Nat} {A : Nat → Nat → Nat → Nat} {M : Nat → Nat → Nat} {I : Nat → Nat → Int32} {T : Nat → Nat → Nat → Int32} {J : Nat → Nat → Int64} {rl : Nat → Nat × Nat × Nat} {G : gM} {N k : Nat} {v : mS}
theorem wy_l {f s : Nat} (hf : f ≤ 60) (hs : s ≤ f) : ∀ (m i F : Nat), i + m = s → m < F → fX6_waysToChoose_12 F (nI s) (nI f) (lN (ch f i)) (nI i) G = some (lN (ch f s), G) := by
  intro m
  induction m with
  | zero =>
    intro i F hi hF
    obtain ⟨F, rfl⟩ : ∃ F', F = F' + 1 := ⟨F - 1, by omega⟩
    have : i = s := by omega
    subst this
    simp only [fX6_waysToChoose_12, fX6_waysToChoose_12_b, if_pos (Int32.le_refl (nI i))]
  | succ m ih =>
    intro i F hi hF
    obtain ⟨F, rfl⟩ : ∃ F', F = F' + 1 := ⟨F - 1, by omega⟩
    have e1 : ¬ lN (i + 1) = 0 := fun g => absurd ((pk_lEQ (b := 0) (by omega) (by decide)).mp g) (by omega)
    have e2 : lN (ch f i * (f - i)) / lN (i + 1) = lN (ch f (i + 1)) := by
      rw [pk_lDiv (ch_p hf i) (by omega) (by omega), ch_m, Nat.mul_div_cancel _ (by omega)]
    simp only [fX6_waysToChoose_12, fX6_waysToChoose_12_b, if_neg (nI_ge (show i < s by omega) (by omega)), nI_1, pk_sub (show i ≤ f by omega), nI_l (show i + 1 < 2 ^ 31 by omega), nI_l (show f - i < 2 ^ 31 by omega), if_neg e1, lN_mul, e2, pU_s]
    exact ih (i + 1) F (by omega) (by omega)
theorem wy_n {f s : Nat} (hf : f ≤ 60) (hs : s ≤ 60) (G : gM) : fX6_waysToChoose (nI s) (nI f) G = some (lN (ch f s), G) := by
  unfold fX6_waysToChoose
  rcases Nat.lt_or_ge f s with q | q
  · rw [if_neg (nI_ge q (by omega)), ch_z f s q]
    rfl
  · rw [if_pos (nI_le q (by omega))]
    have := wy_l (G := G) hf q s 0 FU (by omega) (fuel (by omega))
    rw [ch_0, nI_0] at this
    exact this
/-- the reference's table, as far as it is filled -/
def wT (v : mS) (n : Nat) : Prop := ∀ k, k ≤ n → v.2.2 (61 * n + k) = lN (ch n k)
theorem i61 (n k : Nat) : (61 : Int32) * nI n + nI k = nI (61 * n + k) := by
  rw [← nI_add, ← pk_mul]; rfl
theorem mRL_n {u : mS} {n i : Nat} (hn : n < 2 ^ 31) (h : i < n) : mRL u n (nI i) = some (u.2.2 i) := by
  rw [mRL, if_pos (ixb_n hn h), nI_clamp (Nat.lt_trans h hn)]
theorem mUL_n {u : mS} {n i : Nat} {x : Int64} (hn : n < 2 ^ 31) (h : i < n) : mUL u n (nI i) x = some (mL u i x) := by
  rw [mUL, if_pos (ixb_n hn h), nI_clamp (Nat.lt_trans h hn)]
theorem mL_s {u : mS} {i : Nat} {x : Int64} : (mL u i x).2.2 i = x := by simp [mL, vp_updL]
theorem mL_n {u : mS} {i j : Nat} {x : Int64} (h : j ≠ i) : (mL u i x).2.2 j = u.2.2 j := by simp [mL, vp_updL, h]
theorem wo_n {n k : Nat} (hn : n ≤ 60) (hk : k ≤ 61) (hw : wT v n) : fX10_waysOf (nI n) (nI k) v = some (lN (ch n k), v) := by
  unfold fX10_waysOf
  rw [if_neg (nI_pos (by omega))]
  rcases Nat.lt_or_ge n k with q | q
  · rw [if_neg (nI_ge q (by omega)), ch_z n k q]
    rfl
  · rw [if_pos (nI_le q (by omega)), i61, mRL_n (by decide) (by omega), ob_s, hw k q]
theorem tw_i {n : Nat} (hn : n ≤ 60) (k61 : Int32 → mS → Option mS) : ∀ (m c F : Nat) (v : mS), c + m = n + 1 → 1 ≤ c → m < F → (∀ n', n' < n → wT v n') → (∀ c', c' < c → v.2.2 (61 * n + c') = lN (ch n c')) → ∃ L, fX10_tellWays_20 k61 F (nI n) (nI c) v = k61 (nI n) (v.1, v.2.1, L) ∧ ∀ n', n' < n + 1 → wT (v.1, v.2.1, L) n' := by
  intro m
  induction m with
  | zero =>
    intro c F v hc h1 hF hp hq
    obtain ⟨F, rfl⟩ : ∃ F', F = F' + 1 := ⟨F - 1, by omega⟩
    have e : nI n < nI c := nI_lt (by omega) (by omega)
    refine ⟨v.2.2, ?_, fun n' hn' => ?_⟩
    · simp only [fX10_tellWays_20, fX10_tellWays_20_b, if_pos e]
    · rcases Nat.lt_or_ge n' n with q | q
      · exact hp n' q
      · have : n' = n := by omega
        subst this
        intro k hk
        exact hq k (by omega)
  | succ m ih =>
    intro c F v hc h1 hF hp hq
    obtain ⟨F, rfl⟩ : ∃ F', F = F' + 1 := ⟨F - 1, by omega⟩
    obtain ⟨n, rfl⟩ : ∃ n', n = n' + 1 := ⟨n - 1, by omega⟩
    obtain ⟨c, rfl⟩ : ∃ n', c = n' + 1 := ⟨c - 1, by omega⟩
    have e : ¬ nI (n + 1) < nI (c + 1) := nI_nlt (by omega) (by omega)
    have w := hp n (by omega)
    have e3 : lN (ch n c) + lN (ch n (c + 1)) = lN (ch (n + 1) (c + 1)) := by rw [lN_add, ch_s]
    obtain ⟨L, h2, h3⟩ := ih (c + 1 + 1) F (mL v (61 * (n + 1) + (c + 1)) (lN (ch (n + 1) (c + 1)))) (by omega) (by omega) (by omega) (fun n' hn' k hk => by
        rw [mL_n (by omega)]; exact hp n' hn' k hk) (fun c' hc' => by
        by_cases q : c' = c + 1
        · rw [q, mL_s]
        · rw [mL_n (by omega)]; exact hq c' (by omega))
    refine ⟨L, ?_, h3⟩
    have h2' : fX10_tellWays_20 k61 F (nI (n + 1)) (nI (c + 1 + 1)) (mL v (61 * (n + 1) + (c + 1)) (lN (ch (n + 1) (c + 1)))) = k61 (nI (n + 1)) (v.1, v.2.1, L) := h2
    rw [← h2']
    simp only [fX10_tellWays_20, fX10_tellWays_20_b, if_neg e, nI_pred, wo_n (show n ≤ 60 by omega) (show c ≤ 61 by omega) w, wo_n (show n ≤ 60 by omega) (show c + 1 ≤ 61 by omega) w, bI_s, i61, e3, mUL_n (show 3721 < 2 ^ 31 by decide) (show 61 * (n + 1) + (c + 1) < 3721 by omega), ob_s, nI_1]
theorem tw_o : ∀ (m n F : Nat) (v : mS), n + m = 61 → m < F → (∀ n', n' < n → wT v n') → ∃ L, fX10_tellWays_2 F (nI n) v = some (v.1, v.2.1, L) ∧ ∀ n', n' < 61 → wT (v.1, v.2.1, L) n' := by
  intro m
  induction m with
  | zero =>
    intro n F v hn hF hp
    obtain ⟨F, rfl⟩ : ∃ F', F = F' + 1 := ⟨F - 1, by omega⟩
    have : n = 61 := by omega
    subst this
    have e : (60 : Int32) < nI 61 := by decide
    refine ⟨v.2.2, ?_, hp⟩
    simp only [fX10_tellWays_2, fX10_tellWays_2_b, if_pos e]
  | succ m ih =>
    intro n F v hn hF hp
    obtain ⟨F, rfl⟩ : ∃ F', F = F' + 1 := ⟨F - 1, by omega⟩
    have e : ¬ (60 : Int32) < nI n := nI_nlt (a := 60) (by omega) (by decide)
    have e2 : (61 : Int32) * nI n = nI (61 * n) := by
      have := i61 n 0
      rw [nI_0, Int32.add_zero] at this
      exact this
    obtain ⟨L, h2, h3⟩ := tw_i (n := n) (by omega) (fun x1 u => fX10_tellWays_2 F (x1 + 1) u) n 1 FU (mL v (61 * n) 1) (by omega) (by omega) (fuel (by omega)) (fun n' hn' k hk => by
        rw [mL_n (by omega)]; exact hp n' hn' k hk) (fun c' hc' => by
        have : c' = 0 := by omega
        rw [this, Nat.add_zero, mL_s, ch_0]; rfl)
    obtain ⟨L2, h4, h5⟩ := ih (n + 1) F ((mL v (61 * n) 1).1, (mL v (61 * n) 1).2.1, L) (by omega) (by omega) h3
    refine ⟨L2, ?_, h5⟩
    have h4' : fX10_tellWays_2 F (nI (n + 1)) ((mL v (61 * n) 1).1, (mL v (61 * n) 1).2.1, L) = some (v.1, v.2.1, L2) := h4
    rw [← h4', ← nI_1]
    simp only [fX10_tellWays_2, fX10_tellWays_2_b, if_neg e, e2, mUL_n (show 3721 < 2 ^ 31 by decide) (show 61 * n < 3721 by omega), ob_s]
    exact h2
theorem tw_n (v : mS) : ∃ L, fX10_tellWays v = some (v.1, v.2.1, L) ∧ ∀ n', n' < 61 → wT (v.1, v.2.1, L) n' :=
  tw_o 61 0 FU v rfl (fuel' (by decide)) (fun n' hn' => absurd hn' (Nat.not_lt_zero _))
/-- the records, counted again -/
theorem rc_b {n : Nat} {m : Nat} (hr : ∀ r, r < n → rB (v.2.1 31 r) 1) : cT v n ≤ n ∧ cX v m n ≤ cM v m n ∧ cM v m n ≤ n ∧ cX v m n ≤ cT v n := by
  induction n with
  | zero => exact ⟨Nat.le_refl _, Nat.le_refl _, Nat.le_refl _, Nat.le_refl _⟩
  | succ n ih =>
    obtain ⟨p, hp, ep⟩ := hr n (by omega)
    have ec : (v.2.1 31 n).toNatClampNeg = p := by rw [ep, nI_clamp (by omega)]
    obtain ⟨i1, i2, i3, i4⟩ := ih (fun r hr' => hr r (by omega))
    have t1 : cT v (n + 1) = cT v n + p := by show cT v n + _ = _; rw [ec]
    have t2 : cM v m (n + 1) = if v.2.1 30 n = nI m then cM v m n + 1 else cM v m n := rfl
    have t3 : cX v m (n + 1) = if v.2.1 30 n = nI m then cX v m n + p else cX v m n := by show (if _ then cX v m n + _ else _) = _; rw [ec]; rfl
    rw [t1, t2, t3]
    by_cases q : v.2.1 30 n = nI m
    · rw [if_pos q, if_pos q]; omega
    · rw [if_neg q, if_neg q]; omega
theorem rc_l {n m : Nat} (hn : n ≤ 60) (e29 : v.1 29 = nI n) (hr : ∀ r, r < n → rB (v.2.1 31 r) 1) (x2 : Int32) (k108 : Int32 → Int32 → Int32 → Int32 → mS → Option (Int32 × mS)) : ∀ (c r F : Nat), r + c = n → c < F → fX10_sorter_35 k108 F (nI m) x2 (nI (cT v r)) (nI (cM v m r)) (nI (cX v m r)) (nI r) v = k108 x2 (nI (cT v n)) (nI (cM v m n)) (nI (cX v m n)) v := by
  intro c
  induction c with
  | zero =>
    intro r F hc hF
    obtain ⟨F, rfl⟩ : ∃ F', F = F' + 1 := ⟨F - 1, by omega⟩
    have : r = n := by omega
    subst this
    simp only [fX10_sorter_35, fX10_sorter_35_b, e29, if_pos (Int32.le_refl (nI r))]
  | succ c ih =>
    intro r F hc hF
    obtain ⟨F, rfl⟩ : ∃ F', F = F' + 1 := ⟨F - 1, by omega⟩
    obtain ⟨p, hp, ep⟩ := hr r (by omega)
    have ec : (v.2.1 31 r).toNatClampNeg = p := by rw [ep, nI_clamp (by omega)]
    have t1 : cT v (r + 1) = cT v r + p := by show cT v r + _ = _; rw [ec]
    have t2 : cM v m (r + 1) = if v.2.1 30 r = nI m then cM v m r + 1 else cM v m r := rfl
    have t3 : cX v m (r + 1) = if v.2.1 30 r = nI m then cX v m r + p else cX v m r := by show (if _ then cX v m r + _ else _) = _; rw [ec]; rfl
    have nx := ih (r + 1) F (by omega) (by omega)
    rw [t1, t2, t3] at nx
    have r60 : r < 60 := by omega
    by_cases q : v.2.1 30 r = nI m
    · rw [if_pos q, if_pos q] at nx
      simp only [fX10_sorter_35, fX10_sorter_35_b, fX10_sorter_72, fX10_sorter_99, e29, if_neg (nI_ge (show r < n by omega) (by omega)), mRn r60 (show 60 < 2 ^ 31 by decide), ob_s, if_pos q, ep, nI_add, nI_1]
      exact nx
    · rw [if_neg q, if_neg q] at nx
      simp only [fX10_sorter_35, fX10_sorter_35_b, fX10_sorter_72, fX10_sorter_99, e29, if_neg (nI_ge (show r < n by omega) (by omega)), mRn r60 (show 60 < 2 ^ 31 by decide), ob_s, if_neg q, ep, nI_add, nI_1, Int32.add_zero]
      exact nx
def swf (t d o : Nat) : Nat → Nat → Int64 → Int64
  | 0, _, a => a
  | c + 1, k, a => swf t d o c (k + 1) (a + lN (ch t k) * lN (ch d (o - k)))
theorem sw_c {a t n o x : Nat} (g2 : gI [7] 2 G a = some (nI n)) (g3 : gI [7] 3 G a = some (nI t)) (hn : n ≤ 60) (ht : t ≤ n) (ho : o ≤ n) (k63 : Nat → Int32 → Int32 → Int64 → gM → Option (Int32 × gM)) : ∀ (c j F : Nat) (acc : Int64), j + c = o + 1 → c < F → fX6_isBeyondChance_20 k63 F a (nI o) (nI x) acc (nI j) G = k63 a (nI o) (nI x) (swf t (n - t) o c j acc) G := by
  intro c
  induction c with
  | zero =>
    intro j F acc hc hF
    obtain ⟨F, rfl⟩ : ∃ F', F = F' + 1 := ⟨F - 1, by omega⟩
    simp only [fX6_isBeyondChance_20, fX6_isBeyondChance_20_b, if_pos (nI_lt (show o < j by omega) (by omega)), swf]
  | succ c ih =>
    intro j F acc hc hF
    obtain ⟨F, rfl⟩ : ∃ F', F = F' + 1 := ⟨F - 1, by omega⟩
    have nx := ih (j + 1) F (acc + lN (ch t j) * lN (ch (n - t) (o - j))) (by omega) (by omega)
    simp only [fX6_isBeyondChance_20, fX6_isBeyondChance_20_b, if_neg (nI_nlt (show j ≤ o by omega) (show o < 2 ^ 31 by omega)), g2, g3, ob_s, pk_sub (show j ≤ o by omega), pk_sub ht, wy_n (show t ≤ 60 by omega) (show j ≤ 60 by omega), wy_n (show n - t ≤ 60 by omega) (show o - j ≤ 60 by omega), bI_s, swf, nI_1]
    exact nx
theorem sw_m {t n o x : Nat} (e29 : v.1 29 = nI n) (hw : ∀ n', n' < 61 → wT v n') (hn : n ≤ 60) (ht : t ≤ n) (ho : o ≤ n) (k177 : Int32 → Int32 → Int64 → mS → Option (Int32 × mS)) : ∀ (c j F : Nat) (acc : Int64), j + c = o + 1 → c < F → fX10_sorter_136 k177 F (nI t) (nI o) (nI x) acc (nI j) v = k177 (nI o) (nI x) (swf t (n - t) o c j acc) v := by
  intro c
  induction c with
  | zero =>
    intro j F acc hc hF
    obtain ⟨F, rfl⟩ : ∃ F', F = F' + 1 := ⟨F - 1, by omega⟩
    simp only [fX10_sorter_136, fX10_sorter_136_b, if_pos (nI_lt (show o < j by omega) (by omega)), swf]
  | succ c ih =>
    intro j F acc hc hF
    obtain ⟨F, rfl⟩ : ∃ F', F = F' + 1 := ⟨F - 1, by omega⟩
    have nx := ih (j + 1) F (acc + lN (ch t j) * lN (ch (n - t) (o - j))) (by omega) (by omega)
    simp only [fX10_sorter_136, fX10_sorter_136_b, if_neg (nI_nlt (show j ≤ o by omega) (show o < 2 ^ 31 by omega)), e29, pk_sub (show j ≤ o by omega), pk_sub ht, wo_n (show t ≤ 60 by omega) (show j ≤ 61 by omega) (hw t (by omega)), wo_n (show n - t ≤ 60 by omega) (show o - j ≤ 61 by omega) (hw (n - t) (by omega)), bI_s, swf, nI_1]
    exact nx
theorem op_sorter (R : Mem z h A M I T J rl G N) (E : tie k M I T v) (a1 a2 : Int32) : OkC z h k N (fX9_sorter h a1 a2 G) (fX10_sorter a1 a2 v) := by
  rcases wc a1 0 5 G v with ⟨e1, e2⟩ | ⟨e1, e2, h1, h2⟩
  · simp only [fX9_sorter, fX10_sorter, R.o10, ob_s, bI_s, if_true, e1, e2]
    exact fd R E 1 (by decide) rfl
  · rcases wc a2 0 2 G v with ⟨e3, e4⟩ | ⟨e3, e4, h3, h4⟩
    · simp only [fX9_sorter, fX10_sorter, R.o10, ob_s, bI_s, if_true, if_false, i10, e1, e2, e3, e4]
      exact fd R E 1 (by decide) rfl
    · obtain ⟨m, hm, rfl⟩ := rg_n (n := 5) (by decide) ⟨h1, h2⟩
      obtain ⟨w, hw, rfl⟩ := rg_n (n := 2) (by decide) ⟨h3, h4⟩
      have hm6 : m < 6 := by omega
      obtain ⟨n, hn, e29, c14, c15, cmx, hr⟩ := E.2.2.2.2.2.2.1
      obtain ⟨c57, c58⟩ := cmx m hm6
      obtain ⟨b1, b2, b3, b4⟩ := rc_b (v := v) (n := n) (m := m) (fun r q => (hr r q).2)
      have RL := fun k108 => rc_l (v := v) (m := m) hn e29 (fun r q => (hr r q).2) (nI w) k108 n 0 FU (by omega) (fuel hn)
      have g12 := R.c 3 12 0 ⟨by decide, rfl⟩
      have q0 : gR [7] 0 G (A 3 12 0) = some (some (A 3 13 0)) := gR_n g12 rfl rfl
      have q1 : gR [7] 1 G (A 3 12 0) = some (some (A 3 14 0)) := gR_n g12 rfl rfl
      have q2 : gI [7] 2 G (A 3 12 0) = some (nI n) := by rw [← c14]; exact gI_n g12 rfl rfl
      have q3 : gI [7] 3 G (A 3 12 0) = some (nI (cT v n)) := by rw [← c15]; exact gI_n g12 rfl rfl
      have qo : gO [7] G (A 3 12 0) = some (7, _) := gO_n g12 rfl
      have a7 : aI G (A 3 13 0) (nI m) = some (nI (cM v m n)) := by rw [← c57]; exact aI_n (R.c 3 13 0 ⟨by decide, rfl⟩) (by decide) hm6
      have a8 : aI G (A 3 14 0) (nI m) = some (nI (cX v m n)) := by rw [← c58]; exact aI_n (R.c 3 14 0 ⟨by decide, rfl⟩) (by decide) hm6
      have RL' : ∀ k108, fX10_sorter_35 k108 FU (nI m) (nI w) 0 0 0 0 v = k108 (nI w) (nI (cT v n)) (nI (cM v m n)) (nI (cX v m n)) v := RL
      have w3 : w = 0 ∨ w = 1 ∨ w = 2 := by omega
      rcases w3 with rfl | rfl | rfl
      · simp only [fX9_sorter, fX10_sorter, ob_s, bI_s, if_false, i10, e1, e2, e3, e4, RL', if_pos (show nI 0 = 0 by decide), if_neg (show ¬ (2 : Int32) ≤ nI 0 by decide), R.f11, q0, a7]
        exact ok_ro R E _
      · simp only [fX9_sorter, fX10_sorter, ob_s, bI_s, if_false, i10, e1, e2, e3, e4, RL', if_neg (show ¬ nI 1 = 0 by decide), if_pos (show nI 1 = 1 by decide), if_neg (show ¬ (2 : Int32) ≤ nI 1 by decide), R.f11, q1, a8]
        exact ok_ro R E _
      · obtain ⟨L, f1, f2⟩ := tw_n v
        have E2 : tie k M I T (v.1, v.2.1, L) := tie_v (fun _ _ => rfl) (fun _ _ => rfl) E
        have S1 := fun k63 => sw_c (x := cX v m n) q2 q3 hn b1 b3 k63 (cM v m n + 1 - cX v m n) (cX v m n) FU 0 (by omega) (fuel' (by omega))
        have S2 := fun k177 => sw_m (v := (v.1, v.2.1, L)) (x := cX v m n) e29 f2 hn b1 b3 k177 (cM v m n + 1 - cX v m n) (cX v m n) FU 0 (by omega) (fuel' (by omega))
        have W1 := wy_n hn (show cM v m n ≤ 60 by omega) G
        have W2 := wo_n (v := (v.1, v.2.1, L)) hn (show cM v m n ≤ 61 by omega) (f2 n (by omega))
        have e29' : (v.1, v.2.1, L).1 29 = nI n := e29
        simp only [fX9_sorter, fX10_sorter, fX6_isBeyondChance, ob_s, bI_s, if_false, i10, e1, e2, e3, e4, RL', if_neg (show ¬ nI 2 = 0 by decide), if_neg (show ¬ nI 2 = 1 by decide), if_pos (show (2 : Int32) ≤ nI 2 by decide), R.f11, qo, q0, q1, q2, a7, a8, f1, S1, S2, e29', W1, W2]
        by_cases p1 : nI (cX v m n) ≤ 0
        · simp only [if_pos p1, bI_s, if_true]
          exact ok_ro R E2 _
        · by_cases p2 : 0 < lg_cmp (20 * swf (cT v n) (n - cT v n) (cM v m n) (cM v m n + 1 - cX v m n) (cX v m n) 0) (lN (ch n (cM v m n)))
          · simp only [if_neg p1, e29, W2, if_pos p2, bI_s, if_true]
            exact ok_ro R E2 _
          · simp only [if_neg p1, e29, W2, if_neg p2, bI_s, i10, if_false]
            exact ok_ro R E2 _
end WY
