/-! lots: plain functions -/
def sbs (a b : Nat) : Prop := ∀ i, a.testBit i = true → b.testBit i = true
theorem sbs_2 {a b : Nat} (h : sbs a b) : sbs (a / 2) (b / 2) := fun i hi => by
  rw [← Nat.testBit_succ] at hi ⊢
  exact h _ hi
theorem sbs_0 {a b : Nat} (h : sbs a b) (hb : ¬ b % 2 = 1) : a % 2 = 0 := by
  have h1 := h 0
  rw [Nat.testBit_zero, Nat.testBit_zero, decide_eq_true_eq, decide_eq_true_eq] at h1
  rcases Nat.mod_two_eq_zero_or_one a with g | g
  · exact g
  · exact absurd (h1 g) hb
theorem dp_sj : ∀ (k x y : Nat), x < 2 ^ k → sbs y x → ∃ i, i < 2 ^ bc x k ∧ dp k x i = y := by
  intro k
  induction k with
  | zero =>
    intro x y hx h
    have hx0 : x = 0 := by rw [Nat.pow_zero] at hx; omega
    subst hx0
    refine ⟨0, by simp [bc], ?_⟩
    apply Nat.eq_of_testBit_eq
    intro i
    by_cases q : y.testBit i = true
    · have := h i q
      simp at this
    · simp [dp, q]
  | succ k ih =>
    intro x y hx h
    rw [Nat.pow_succ] at hx
    obtain ⟨i, h1, h2⟩ := ih (x / 2) (y / 2) (by omega) (sbs_2 h)
    rw [bc_sh]
    by_cases q : x % 2 = 1
    · have hy : y % 2 < 2 := Nat.mod_lt _ (by decide)
      refine ⟨2 * i + y % 2, ?_, ?_⟩
      · rw [q, Nat.add_comm 1, Nat.pow_succ]; omega
      · rw [dp_1 q, show (2 * i + y % 2) / 2 = i by omega, show (2 * i + y % 2) % 2 = y % 2 by omega, h2]
        omega
    · have hy := sbs_0 h q
      refine ⟨i, ?_, ?_⟩
      · rw [show x % 2 = 0 by omega, Nat.zero_add]; exact h1
      · rw [dp_0 q, h2]; omega
theorem dp_mn : ∀ (k x i j : Nat), i < j → j < 2 ^ bc x k → dp k x i < dp k x j := by
  intro k
  induction k with
  | zero => intro x i j h1 h2; simp [bc] at h2; omega
  | succ k ih =>
    intro x i j h1 h2
    rw [bc_sh] at h2
    by_cases q : x % 2 = 1
    · rw [q, Nat.add_comm, Nat.pow_succ] at h2
      rw [dp_1 q, dp_1 q]
      rcases Nat.lt_or_ge (i / 2) (j / 2) with g | g
      · have := ih (x / 2) (i / 2) (j / 2) g (by omega)
        omega
      · have : i / 2 = j / 2 := by omega
        rw [this]
        omega
    · rw [show x % 2 = 0 by omega, Nat.zero_add] at h2
      rw [dp_0 q, dp_0 q]
      have := ih (x / 2) i j h1 h2
      omega
def fb (s : Nat) : Nat := dp 32 s 1
theorem bc_lo {s : Nat} : ∀ n, (∀ j, j < n → ¬ s.testBit j = true) → bc s n = 0 := by
  intro n
  induction n with
  | zero => intro _; rfl
  | succ n ih => intro h; rw [bc_f (h n (by omega)), ih (fun j hj => h j (by omega))]
theorem pt_lt {t q b : Nat} (h : 2 ^ t * (2 * q + 1) < 2 ^ b) : t < b := by
  rcases Nat.lt_or_ge t b with g | g
  · exact g
  · have h1 : 2 ^ b ≤ 2 ^ t := pw2 g
    have h2 : 2 ^ t * 1 ≤ 2 ^ t * (2 * q + 1) := Nat.mul_le_mul_left _ (by omega)
    omega
theorem fbt_n {t q : Nat} (h : 2 ^ t * (2 * q + 1) < 2 ^ 32) : fb (2 ^ t * (2 * q + 1)) = 2 ^ t := by
  have ht := pt_lt h
  have b0 : bc (2 ^ t * (2 * q + 1)) t = 0 := bc_lo t (fun j hj => by rw [tb_s, if_pos hj]; decide)
  apply Nat.eq_of_testBit_eq
  intro i
  unfold fb
  rw [dp_tb, Nat.testBit_two_pow]
  rcases Nat.lt_trichotomy i t with e | e | e
  · rw [tb_s, if_pos e]
    simp [show ¬ t = i by omega]
  · subst e
    rw [b0, tb_s, if_neg (Nat.lt_irrefl i), if_pos rfl]
    simp [ht]
  · have h1 : bc (2 ^ t * (2 * q + 1)) t < bc (2 ^ t * (2 * q + 1)) i := bc_lt e (by rw [tb_s, if_neg (Nat.lt_irrefl t), if_pos rfl])
    obtain ⟨u, hu⟩ : ∃ u, bc (2 ^ t * (2 * q + 1)) i = u + 1 := ⟨bc (2 ^ t * (2 * q + 1)) i - 1, by omega⟩
    rw [hu, Nat.testBit_succ]
    simp [show ¬ t = i by omega]
theorem or_add {a t : Nat} (h : ¬ a.testBit t = true) : 2 ^ t ||| a = a + 2 ^ t := by
  have h0 := Nat.two_pow_pos t
  have hm := Nat.mod_lt a h0
  have e1 := Nat.div_add_mod a (2 ^ t)
  have h2 : a / 2 ^ t % 2 = 0 := by
    rw [Nat.testBit_eq_decide_div_mod_eq, decide_eq_true_eq] at h
    omega
  have e2 : a + 2 ^ t = 2 ^ t * (2 * (a / 2 ^ t / 2) + 1) + a % 2 ^ t := by
    rw [show 2 * (a / 2 ^ t / 2) = a / 2 ^ t by omega, Nat.mul_add, Nat.mul_one]
    omega
  have e3 : a = 2 ^ t * (2 * (a / 2 ^ t / 2) + 0) + a % 2 ^ t := by
    rw [show 2 * (a / 2 ^ t / 2) + 0 = a / 2 ^ t by omega]
    exact e1.symm
  apply Nat.eq_of_testBit_eq
  intro i
  have f1 := Nat.testBit_two_pow_mul_add (2 * (a / 2 ^ t / 2) + 0) hm i
  have f2 := Nat.testBit_two_pow_mul_add (2 * (a / 2 ^ t / 2) + 1) hm i
  rw [← e3, tb_2 _ (by decide)] at f1
  rw [← e2, tb_2 _ (by decide)] at f2
  rw [f2, Nat.testBit_or, Nat.testBit_two_pow, f1]
  by_cases c : i < t
  · rw [if_pos c, if_pos c]
    simp [show ¬ t = i by omega]
  · rw [if_neg c, if_neg c]
    by_cases d : i = t
    · subst d; simp
    · rw [if_neg (by omega), if_neg (by omega)]
      simp [show ¬ t = i by omega]
/-- the i-th lot with the first thing of a set -/
def lot (s i : Nat) : Nat := fb s ||| dp 32 (s ^^^ fb s) i
section LT
variable {t q s : Nat}
theorem ltq_o (e : s = 2 ^ t * (2 * q + 1)) (hs : s < 2 ^ 32) (i : Nat) : (s ^^^ fb s).testBit i = (s.testBit i && !decide (t = i)) := by
  have : fb s = 2 ^ t := by rw [e]; exact fbt_n (by rw [← e]; exact hs)
  rw [this, Nat.testBit_xor, Nat.testBit_two_pow]
  by_cases c : t = i
  · have : s.testBit i = true := by rw [e, tb_s, if_neg (by omega), if_pos c.symm]
    simp [c, this]
  · simp [c]
theorem ltq_lt (e : s = 2 ^ t * (2 * q + 1)) (hs : s < 2 ^ 32) : s ^^^ fb s < 2 ^ 32 := by
  have : fb s = 2 ^ t := by rw [e]; exact fbt_n (by rw [← e]; exact hs)
  have ht := pt_lt (by rw [← e]; exact hs)
  rw [this]
  exact Nat.xor_lt_two_pow hs (Nat.pow_lt_pow_right (by decide) ht)
theorem ltq_e (e : s = 2 ^ t * (2 * q + 1)) (hs : s < 2 ^ 32) (i : Nat) : lot s i = dp 32 (s ^^^ fb s) i + 2 ^ t := by
  have : fb s = 2 ^ t := by rw [e]; exact fbt_n (by rw [← e]; exact hs)
  have h : ¬ (dp 32 (s ^^^ fb s) i).testBit t = true := by
    rw [dp_tb, ltq_o e hs]
    simp
  unfold lot
  rw [← or_add h, this]
theorem ltq_t (e : s = 2 ^ t * (2 * q + 1)) (hs : s < 2 ^ 32) (i j : Nat) : (lot s i).testBit j = (decide (t = j) || (dp 32 (s ^^^ fb s) i).testBit j) := by
  have : fb s = 2 ^ t := by rw [e]; exact fbt_n (by rw [← e]; exact hs)
  unfold lot
  rw [Nat.testBit_or, this, Nat.testBit_two_pow]
theorem ltq_s (e : s = 2 ^ t * (2 * q + 1)) (hs : s < 2 ^ 32) (i : Nat) : sbs (lot s i) s ∧ (lot s i).testBit t = true := by
  refine ⟨fun j hj => ?_, ?_⟩
  · rw [ltq_t e hs] at hj
    by_cases c : t = j
    · rw [e, tb_s, if_neg (by omega), if_pos c.symm]
    · rw [dp_tb, ltq_o e hs] at hj
      simp [c] at hj
      exact hj.1.2
  · rw [ltq_t e hs]
    simp
theorem ltq_j (e : s = 2 ^ t * (2 * q + 1)) (hs : s < 2 ^ 32) {L : Nat} (h1 : sbs L s) (h2 : L.testBit t = true) : ∃ i, i < 2 ^ bc (s ^^^ fb s) 32 ∧ lot s i = L := by
  obtain ⟨i, h3, h4⟩ := dp_sj 32 (s ^^^ fb s) (L ^^^ 2 ^ t) (ltq_lt e hs) (fun j hj => by
    rw [Nat.testBit_xor, Nat.testBit_two_pow] at hj
    rw [ltq_o e hs]
    by_cases c : t = j
    · subst c; simp [h2] at hj
    · simp [c] at hj
      simp [c, h1 j hj])
  refine ⟨i, h3, ?_⟩
  apply Nat.eq_of_testBit_eq
  intro j
  rw [ltq_t e hs, h4, Nat.testBit_xor, Nat.testBit_two_pow]
  by_cases c : t = j
  · subst c; simp [h2]
  · simp [c]
theorem ltq_m (e : s = 2 ^ t * (2 * q + 1)) (hs : s < 2 ^ 32) {i j : Nat} (h : i < j) (hj : j < 2 ^ bc (s ^^^ fb s) 32) : lot s i < lot s j := by
  rw [ltq_e e hs, ltq_e e hs]
  have := dp_mn 32 (s ^^^ fb s) i j h hj
  omega
end LT
theorem sbs_le {a b : Nat} (h : sbs a b) : b ^^^ a = b - a ∧ a ≤ b := by
  have e : b = (b ^^^ a) + a := by
    have h1 : (b ^^^ a) &&& a = 0 := by
      apply Nat.eq_of_testBit_eq
      intro i
      rw [Nat.testBit_and, Nat.testBit_xor, Nat.zero_testBit]
      by_cases c : a.testBit i = true
      · simp [c, h i c]
      · simp [c]
    have h2 : (b ^^^ a) ||| a = b := by
      apply Nat.eq_of_testBit_eq
      intro i
      rw [Nat.testBit_or, Nat.testBit_xor]
      by_cases c : a.testBit i = true
      · simp [c, h i c]
      · simp [c]
    have h3 : ∀ x y : Nat, x &&& y = 0 → x ||| y = x + y := by
      intro x
      induction x using Nat.strongRecOn with
      | ind x ih =>
        intro y hxy
        by_cases c : x = 0
        · subst c; simp
        · have g0 : x / 2 &&& y / 2 = 0 := by
            apply Nat.eq_of_testBit_eq
            intro i
            have this : (x &&& y).testBit (i + 1) = (0 : Nat).testBit (i + 1) := by rw [hxy]
            rw [Nat.testBit_and, Nat.testBit_succ, Nat.testBit_succ, Nat.zero_testBit] at this
            rw [Nat.testBit_and, Nat.zero_testBit]
            exact this
          have g1 := ih (x / 2) (by omega) (y / 2) g0
          have g2 : ¬ (x % 2 = 1 ∧ y % 2 = 1) := fun g => by
            have this : (x &&& y).testBit 0 = (0 : Nat).testBit 0 := by rw [hxy]
            rw [Nat.testBit_and, Nat.testBit_zero, Nat.testBit_zero, Nat.zero_testBit, g.1, g.2] at this
            exact absurd this (by decide)
          have mx : x % 2 < 2 := Nat.mod_lt _ (by decide)
          have my : y % 2 < 2 := Nat.mod_lt _ (by decide)
          have g3 : x ||| y = 2 * (x / 2 ||| y / 2) + (x % 2 + y % 2) := by
            apply Nat.eq_of_testBit_eq
            intro i
            rw [tb_2 _ (by omega)]
            match i with
            | 0 =>
              rw [if_pos rfl, Nat.testBit_or, Nat.testBit_zero, Nat.testBit_zero]
              rcases Nat.mod_two_eq_zero_or_one x with g | g <;> rcases Nat.mod_two_eq_zero_or_one y with g' | g'
              · simp [g, g']
              · simp [g, g']
              · simp [g, g']
              · exact absurd ⟨g, g'⟩ g2
            | i + 1 => rw [if_neg (Nat.succ_ne_zero i), Nat.add_sub_cancel, Nat.testBit_or, Nat.testBit_or, Nat.testBit_succ, Nat.testBit_succ]
          rw [g3, g1]
          omega
    rw [← h3 _ _ h1, h2]
  omega
theorem sbs_bc {a b : Nat} (h : sbs a b) : ∀ n, bc (b ^^^ a) n + bc a n = bc b n := by
  intro n
  induction n with
  | zero => rfl
  | succ n ih =>
    by_cases c : a.testBit n = true
    · rw [bc_t c, bc_t (h n c), bc_f (by rw [Nat.testBit_xor, c, h n c]; decide)]
      omega
    · rw [bc_f c]
      by_cases d : b.testBit n = true
      · rw [bc_t d, bc_t (by rw [Nat.testBit_xor, d]; simp [c])]
        omega
      · rw [bc_f d, bc_f (by rw [Nat.testBit_xor]; simp [c, d])]
        omega
/-! the reference's table -/
def vl (ok : Nat → Bool) (s L : Nat) : Bool := decide (L &&& s = L) && (decide (¬ L &&& fb s = 0) && ok L)
def rmf (ok : Nat → Bool) (w : Nat → Nat) (s : Nat) : Nat → Nat → Nat → Nat
  | 0, _, a => a
  | c + 1, L, a => rmf ok w s c (L + 1) (if vl ok s L = true ∧ 1 + w (s ^^^ L) < a then 1 + w (s ^^^ L) else a)
def stR (ok : Nat → Bool) (w : Nat → Nat) (s : Nat) : Nat := rmf ok w s (s + 1 - fb s) (fb s) 1000
/-! the class' -/
def blf (ok : Nat → Bool) (c : Nat → Nat) (s : Nat) : Nat → Nat → Nat → Nat → Nat × Nat
  | 0, _, b, f => (b, f)
  | n + 1, i, b, f => if ok (lot s i) = true ∧ c (s ^^^ lot s i) < f then blf ok c s n (i + 1) (lot s i) (c (s ^^^ lot s i)) else blf ok c s n (i + 1) b f
def bl (ok : Nat → Bool) (c : Nat → Nat) (s : Nat) : Nat := (blf ok c s (2 ^ bc (s ^^^ fb s) 32) 0 0 11).1
def stC (ok : Nat → Bool) (c : Nat → Nat) (s : Nat) : Nat := if bl ok c s = 0 then 11 else 1 + c (s ^^^ bl ok c s)
/-! tables, filled from 0 on -/
def tbl (st : (Nat → Nat) → Nat → Nat) : Nat → Nat → Nat
  | 0 => fun _ => 0
  | n + 1 => fun t => if t = n then (if n = 0 then 0 else st (tbl st n) n) else tbl st n t
def tv (st : (Nat → Nat) → Nat → Nat) (t : Nat) : Nat := tbl st (t + 1) t
theorem tv_n {st : (Nat → Nat) → Nat → Nat} : ∀ n t, t < n → tbl st n t = tv st t := by
  intro n
  induction n with
  | zero => intro t ht; omega
  | succ n ih =>
    intro t ht
    by_cases e : t = n
    · subst e; rfl
    · show (if t = n then _ else tbl st n t) = _
      rw [if_neg e]
      exact ih t (by omega)
theorem tv_0 {st : (Nat → Nat) → Nat → Nat} : tv st 0 = 0 := rfl
theorem tv_s {st : (Nat → Nat) → Nat → Nat} {s : Nat} (hs : 0 < s) (hc : ∀ w w' : Nat → Nat, (∀ t, t < s → w t = w' t) → st w s = st w' s) : tv st s = st (tv st) s := by
  show (if s = s then (if s = 0 then 0 else st (tbl st s) s) else _) = _
  rw [if_pos rfl, if_neg (by omega)]
  exact hc _ _ (fun t ht => tv_n s t ht)
theorem and_sb {L s : Nat} : (L &&& s = L) ↔ sbs L s := by
  constructor
  · intro h i hi
    rw [← h, Nat.testBit_and, Bool.and_eq_true] at hi
    exact hi.2
  · intro h
    apply Nat.eq_of_testBit_eq
    intro i
    rw [Nat.testBit_and]
    by_cases c : L.testBit i = true
    · simp [c, h i c]
    · simp [c]
theorem and_pt {L t : Nat} : (¬ L &&& 2 ^ t = 0) ↔ L.testBit t = true := by
  constructor
  · intro h
    by_cases c : L.testBit t = true
    · exact c
    · refine absurd ?_ h
      apply Nat.eq_of_testBit_eq
      intro i
      rw [Nat.testBit_and, Nat.testBit_two_pow, Nat.zero_testBit]
      by_cases d : t = i
      · subst d; simp [c]
      · simp [d]
  · intro h g
    have := congrArg (fun n => Nat.testBit n t) g
    simp only [Nat.testBit_and, Nat.testBit_two_pow, h, Nat.zero_testBit] at this
    simp at this
theorem vl_i {ok : Nat → Bool} {t q s L : Nat} (e : s = 2 ^ t * (2 * q + 1)) (hs : s < 2 ^ 32) : vl ok s L = true ↔ sbs L s ∧ L.testBit t = true ∧ ok L = true := by
  have : fb s = 2 ^ t := by rw [e]; exact fbt_n (by rw [← e]; exact hs)
  unfold vl
  rw [Bool.and_eq_true, Bool.and_eq_true, decide_eq_true_eq, decide_eq_true_eq, this, and_sb, and_pt]
theorem vl_l {ok : Nat → Bool} {t q s L : Nat} (e : s = 2 ^ t * (2 * q + 1)) (hs : s < 2 ^ 32) (h : vl ok s L = true) : s ^^^ L < s ∧ 2 ^ t ≤ L ∧ L ≤ s := by
  obtain ⟨h1, h2, h3⟩ := (vl_i e hs).mp h
  obtain ⟨h4, h5⟩ := sbs_le h1
  have h6 : 2 ^ t ≤ L := by
    rcases Nat.lt_or_ge L (2 ^ t) with g | g
    · exact absurd h2 (tb_hi g (Nat.le_refl t))
    · exact g
  have := Nat.two_pow_pos t
  omega
theorem rmf_c {ok : Nat → Bool} {w w' : Nat → Nat} {t q s : Nat} (e : s = 2 ^ t * (2 * q + 1)) (hs : s < 2 ^ 32) (h : ∀ t, t < s → w t = w' t) : ∀ c L a, rmf ok w s c L a = rmf ok w' s c L a := by
  intro c
  induction c with
  | zero => intro L a; rfl
  | succ c ih =>
    intro L a
    simp only [rmf]
    by_cases g : vl ok s L = true
    · rw [h _ (vl_l e hs g).1, ih]
    · rw [if_neg (fun q => g q.1), if_neg (fun q => g q.1), ih]
theorem rmf_s {ok : Nat → Bool} {w : Nat → Nat} {s : Nat} : ∀ c L a, rmf ok w s c L a ≤ a ∧ (∀ l, L ≤ l → l < L + c → vl ok s l = true → rmf ok w s c L a ≤ 1 + w (s ^^^ l)) ∧ (rmf ok w s c L a = a ∨ ∃ l, L ≤ l ∧ l < L + c ∧ vl ok s l = true ∧ rmf ok w s c L a = 1 + w (s ^^^ l)) := by
  intro c
  induction c with
  | zero => intro L a; exact ⟨Nat.le_refl _, fun l h1 h2 => by omega, .inl rfl⟩
  | succ c ih =>
    intro L a
    simp only [rmf]
    by_cases g : vl ok s L = true ∧ 1 + w (s ^^^ L) < a
    · rw [if_pos g]
      obtain ⟨i1, i2, i3⟩ := ih (L + 1) (1 + w (s ^^^ L))
      refine ⟨by omega, fun l h1 h2 h3 => ?_, ?_⟩
      · by_cases e : l = L
        · subst e; exact i1
        · exact i2 l (by omega) (by omega) h3
      · rcases i3 with i3 | ⟨l, h1, h2, h3, h4⟩
        · exact .inr ⟨L, Nat.le_refl _, by omega, g.1, i3⟩
        · exact .inr ⟨l, by omega, by omega, h3, h4⟩
    · rw [if_neg g]
      obtain ⟨i1, i2, i3⟩ := ih (L + 1) a
      refine ⟨i1, fun l h1 h2 h3 => ?_, ?_⟩
      · by_cases e : l = L
        · subst e
          have : ¬ 1 + w (s ^^^ l) < a := fun q => g ⟨h3, q⟩
          omega
        · exact i2 l (by omega) (by omega) h3
      · rcases i3 with i3 | ⟨l, h1, h2, h3, h4⟩
        · exact .inl i3
        · exact .inr ⟨l, by omega, by omega, h3, h4⟩
theorem blf_s {ok : Nat → Bool} {c : Nat → Nat} {s : Nat} : ∀ n i b f, (blf ok c s n i b f).2 ≤ f ∧ (∀ j, i ≤ j → j < i + n → ok (lot s j) = true → (blf ok c s n i b f).2 ≤ c (s ^^^ lot s j)) ∧ (((blf ok c s n i b f).1 = b ∧ (blf ok c s n i b f).2 = f) ∨ ∃ j, i ≤ j ∧ j < i + n ∧ ok (lot s j) = true ∧ (blf ok c s n i b f).1 = lot s j ∧ (blf ok c s n i b f).2 = c (s ^^^ lot s j) ∧ (blf ok c s n i b f).2 < f ∧ ∀ j', i ≤ j' → j' < j → ok (lot s j') = true → (blf ok c s n i b f).2 < c (s ^^^ lot s j')) := by
  intro n
  induction n with
  | zero => intro i b f; exact ⟨Nat.le_refl _, fun l h1 h2 => by omega, .inl ⟨rfl, rfl⟩⟩
  | succ n ih =>
    intro i b f
    simp only [blf]
    by_cases g : ok (lot s i) = true ∧ c (s ^^^ lot s i) < f
    · rw [if_pos g]
      obtain ⟨i1, i2, i3⟩ := ih (i + 1) (lot s i) (c (s ^^^ lot s i))
      refine ⟨by omega, fun j h1 h2 h3 => ?_, .inr ?_⟩
      · by_cases e : j = i
        · subst e; exact i1
        · exact i2 j (by omega) (by omega) h3
      · rcases i3 with ⟨i3, i4⟩ | ⟨j, h1, h2, h3, h4, h5, h6, h7⟩
        · exact ⟨i, Nat.le_refl _, by omega, g.1, i3, i4, by omega, fun j' h1 h2 => by omega⟩
        · refine ⟨j, by omega, by omega, h3, h4, h5, by omega, fun j' g1 g2 g3 => ?_⟩
          by_cases e : j' = i
          · subst e; exact h6
          · exact h7 j' (by omega) g2 g3
    · rw [if_neg g]
      obtain ⟨i1, i2, i3⟩ := ih (i + 1) b f
      refine ⟨i1, fun j h1 h2 h3 => ?_, ?_⟩
      · by_cases e : j = i
        · subst e
          have : ¬ c (s ^^^ lot s j) < f := fun q => g ⟨h3, q⟩
          omega
        · exact i2 j (by omega) (by omega) h3
      · rcases i3 with i3 | ⟨j, h1, h2, h3, h4, h5, h6, h7⟩
        · exact .inl i3
        · refine .inr ⟨j, by omega, by omega, h3, h4, h5, h6, fun j' g1 g2 g3 => ?_⟩
          by_cases e : j' = i
          · subst e
            have : ¬ c (s ^^^ lot s j') < f := fun q => g ⟨g3, q⟩
            omega
          · exact h7 j' (by omega) g2 g3
theorem blf_c {ok : Nat → Bool} {c c' : Nat → Nat} {t q s : Nat} (e : s = 2 ^ t * (2 * q + 1)) (hs : s < 2 ^ 32) (h : ∀ t, t < s → c t = c' t) : ∀ n i b f, blf ok c s n i b f = blf ok c' s n i b f := by
  intro n
  induction n with
  | zero => intro i b f; rfl
  | succ n ih =>
    intro i b f
    simp only [blf]
    have h1 := ltq_s e hs i
    obtain ⟨h4, h5⟩ := sbs_le h1.1
    have h6 : 2 ^ t ≤ lot s i := by rw [ltq_e e hs]; omega
    have := Nat.two_pow_pos t
    rw [h (s ^^^ lot s i) (by omega), ih, ih]
theorem stR_s {ok : Nat → Bool} {s : Nat} (h0 : 0 < s) (hs : s < 2 ^ 32) : tv (stR ok) s = stR ok (tv (stR ok)) s := by
  obtain ⟨t, q, e⟩ := odd_pt s h0
  exact tv_s h0 (fun w w' h => rmf_c e hs h _ _ _)
theorem bl_lt {ok : Nat → Bool} {c : Nat → Nat} {s : Nat} (h0 : 0 < s) (hs : s < 2 ^ 32) (hb : ¬ bl ok c s = 0) : s ^^^ bl ok c s < s ∧ sbs (bl ok c s) s ∧ bl ok c s ≤ s := by
  obtain ⟨t, q, e⟩ := odd_pt s h0
  obtain ⟨-, -, i3⟩ := blf_s (ok := ok) (c := c) (s := s) (2 ^ bc (s ^^^ fb s) 32) 0 0 11
  rcases i3 with ⟨i3, -⟩ | ⟨j, h1, h2, h3, h4, -⟩
  · exact absurd i3 hb
  · have h5 : bl ok c s = lot s j := h4
    have h6 := ltq_s e hs j
    obtain ⟨h7, h8⟩ := sbs_le h6.1
    have h9 : 2 ^ t ≤ lot s j := by rw [ltq_e e hs]; omega
    have := Nat.two_pow_pos t
    rw [h5]
    exact ⟨by omega, h6.1, h8⟩
theorem stC_s {ok : Nat → Bool} {s : Nat} (h0 : 0 < s) (hs : s < 2 ^ 32) : tv (stC ok) s = stC ok (tv (stC ok)) s := by
  obtain ⟨t, q, e⟩ := odd_pt s h0
  refine tv_s h0 (fun w w' h => ?_)
  have e1 : bl ok w s = bl ok w' s := by
    unfold bl
    rw [blf_c e hs h]
  unfold stC
  rw [e1]
  by_cases g : bl ok w' s = 0
  · rw [if_pos g, if_pos g]
  · rw [if_neg g, if_neg g, h _ (bl_lt h0 hs g).1]
theorem stC_z {ok : Nat → Bool} {c : Nat → Nat} {s : Nat} (h : bl ok c s = 0) : stC ok c s = 11 := if_pos h
theorem stC_p {ok : Nat → Bool} {c : Nat → Nat} {s b : Nat} (h : bl ok c s = b) (hb : ¬ b = 0) : stC ok c s = 1 + c (s ^^^ b) := by
  subst h
  exact if_neg hb
/-- class and reference: the fewest lots of a set, and the first lot of the best way -/
theorem lots_m {ok : Nat → Bool} : ∀ s, s < 2 ^ 10 → (tv (stR ok) s = 1000 ∧ tv (stC ok) s = 11) ∨ (tv (stR ok) s = tv (stC ok) s ∧ tv (stC ok) s ≤ bc s 32) := by
  intro s
  induction s using Nat.strongRecOn with
  | ind s ih =>
    intro hs
    have hs32 : s < 2 ^ 32 := by omega
    by_cases h0 : s = 0
    · subst h0
      exact .inr ⟨rfl, Nat.zero_le _⟩
    · have h0' : 0 < s := by omega
      obtain ⟨t, q, e⟩ := odd_pt s h0'
      have b10 : ∀ u, u < 2 ^ 10 → bc u 32 ≤ 10 := fun u hu => by
        rw [show 32 = 10 + 22 from rfl, bc_hi hu]
        exact bc_le u 10
      have eR := stR_s (ok := ok) h0' hs32
      have eC := stC_s (ok := ok) h0' hs32
      obtain ⟨i1, i2, i3⟩ := blf_s (ok := ok) (c := tv (stC ok)) (s := s) (2 ^ bc (s ^^^ fb s) 32) 0 0 11
      have hfb : fb s = 2 ^ t := by rw [e]; exact fbt_n (by rw [← e]; exact hs32)
      have hts : 2 ^ t ≤ s := by
        rw [e]
        have : 2 ^ t * 1 ≤ 2 ^ t * (2 * q + 1) := Nat.mul_le_mul_left _ (by omega)
        omega
      obtain ⟨r1, r2, r3⟩ := rmf_s (ok := ok) (w := tv (stR ok)) (s := s) (s + 1 - fb s) (fb s) 1000
      have r0 : tv (stR ok) s = rmf ok (tv (stR ok)) s (s + 1 - fb s) (fb s) 1000 := eR
      rw [← r0] at r1 r2 r3
      rcases i3 with ⟨i3, i4⟩ | ⟨j, h1, h2, h3, h4, h5, h6, h7⟩
      · refine .inl ⟨?_, ?_⟩
        · rcases r3 with r3 | ⟨l, g1, g2, g3, g4⟩
          · exact r3
          · obtain ⟨v1, v2, v3⟩ := (vl_i e hs32).mp g3
            obtain ⟨j, j1, j2⟩ := ltq_j e hs32 v1 v2
            have w1 := i2 j (by omega) (by omega) (by rw [j2]; exact v3)
            rw [i4, j2] at w1
            have w2 := vl_l e hs32 g3
            have w3 := b10 (s ^^^ l) (by omega)
            rcases ih (s ^^^ l) w2.1 (by omega) with ⟨y1, y2⟩ | ⟨y1, y2⟩
            · omega
            · omega
        · rw [eC]
          exact stC_z i3
      · have hB : bl ok (tv (stC ok)) s = lot s j := h4
        have hl := ltq_s e hs32 j
        have hv : vl ok s (lot s j) = true := (vl_i e hs32).mpr ⟨hl.1, hl.2, h3⟩
        obtain ⟨u1, u2, u3⟩ := vl_l e hs32 hv
        have hne : ¬ lot s j = 0 := by
          have := Nat.two_pow_pos t
          omega
        have eC2 : tv (stC ok) s = 1 + tv (stC ok) (s ^^^ lot s j) := by
          rw [eC]
          exact stC_p hB hne
        rw [h5] at h6
        have w1 := r2 (lot s j) (by omega) (by omega) hv
        have bs := sbs_bc hl.1 32
        have bt : 0 < bc (lot s j) 32 := by
          have := bc_lt (pt_lt (by rw [← e]; exact hs32)) hl.2
          omega
        rcases ih (s ^^^ lot s j) u1 (by omega) with ⟨y1, y2⟩ | ⟨y1, y2⟩
        · omega
        · refine .inr ⟨?_, by omega⟩
          rcases r3 with r3 | ⟨l, g1, g2, g3, g4⟩
          · omega
          · obtain ⟨v1, v2, v3⟩ := (vl_i e hs32).mp g3
            obtain ⟨j2, k1, k2⟩ := ltq_j e hs32 v1 v2
            have w4 := i2 j2 (by omega) (by omega) (by rw [k2]; exact v3)
            rw [h5, k2] at w4
            have w2 := vl_l e hs32 g3
            rcases ih (s ^^^ l) w2.1 (by omega) with ⟨z1, z2⟩ | ⟨z1, z2⟩
            · omega
            · omega
theorem lots_f {ok : Nat → Bool} {s : Nat} (h0 : 0 < s) (hs : s < 2 ^ 10) (hf : tv (stR ok) s < 1000) : vl ok s (bl ok (tv (stC ok)) s) = true ∧ 1 + tv (stR ok) (s ^^^ bl ok (tv (stC ok)) s) = tv (stR ok) s ∧ fb s ≤ bl ok (tv (stC ok)) s ∧ bl ok (tv (stC ok)) s ≤ s ∧ ∀ L, L < bl ok (tv (stC ok)) s → vl ok s L = true → ¬ 1 + tv (stR ok) (s ^^^ L) = tv (stR ok) s := by
  have hs32 : s < 2 ^ 32 := by omega
  obtain ⟨t, q, e⟩ := odd_pt s h0
  have hfb : fb s = 2 ^ t := by rw [e]; exact fbt_n (by rw [← e]; exact hs32)
  have b10 : ∀ u, u < 2 ^ 10 → bc u 32 ≤ 10 := fun u hu => by
    rw [show 32 = 10 + 22 from rfl, bc_hi hu]
    exact bc_le u 10
  have eC := stC_s (ok := ok) h0 hs32
  have m1 := lots_m (ok := ok) s hs
  have bs := b10 s hs
  obtain ⟨i1, i2, i3⟩ := blf_s (ok := ok) (c := tv (stC ok)) (s := s) (2 ^ bc (s ^^^ fb s) 32) 0 0 11
  rcases i3 with ⟨i3, i4⟩ | ⟨j, h1, h2, h3, h4, h5, h6, h7⟩
  · have : tv (stC ok) s = 11 := by
      rw [eC]
      exact stC_z i3
    omega
  · have hB : bl ok (tv (stC ok)) s = lot s j := h4
    have hl := ltq_s e hs32 j
    have hv : vl ok s (lot s j) = true := (vl_i e hs32).mpr ⟨hl.1, hl.2, h3⟩
    obtain ⟨u1, u2, u3⟩ := vl_l e hs32 hv
    have hne : ¬ lot s j = 0 := by
      have := Nat.two_pow_pos t
      omega
    have eC2 : tv (stC ok) s = 1 + tv (stC ok) (s ^^^ lot s j) := by
      rw [eC]
      exact stC_p hB hne
    rw [h5] at h6 h7
    have m2 := lots_m (ok := ok) (s ^^^ lot s j) (by omega)
    rw [hB]
    refine ⟨hv, by omega, by omega, u3, fun L hL hvL g => ?_⟩
    obtain ⟨v1, v2, v3⟩ := (vl_i e hs32).mp hvL
    obtain ⟨j2, k1, k2⟩ := ltq_j e hs32 v1 v2
    have hj : j2 < j := by
      rcases Nat.lt_or_ge j2 j with p | p
      · exact p
      · rcases Nat.lt_or_ge j j2 with p' | p'
        · have := ltq_m e hs32 p' k1
          omega
        · have : j2 = j := by omega
          subst this
          omega
    have w := h7 j2 (by omega) hj (by rw [k2]; exact v3)
    rw [k2] at w
    have w2 := vl_l e hs32 hvL
    have m3 := lots_m (ok := ok) (s ^^^ L) (by omega)
    have b3 := b10 (s ^^^ L) (by omega)
    omega
