/-! sets laid on sets -/
theorem bc_sh (x : Nat) : ∀ n, bc x (n + 1) = x % 2 + bc (x / 2) n := by
  intro n
  induction n with
  | zero =>
    have h2 : x % 2 < 2 := Nat.mod_lt _ (by decide)
    simp only [bc, Nat.testBit_zero, decide_eq_true_eq]
    by_cases q : x % 2 = 1
    · rw [if_pos q]; omega
    · rw [if_neg q]; omega
  | succ n ih =>
    have e : bc x (n + 1 + 1) = bc x (n + 1) + if x.testBit (n + 1) = true then 1 else 0 := rfl
    have e2 : bc (x / 2) (n + 1) = bc (x / 2) n + if (x / 2).testBit n = true then 1 else 0 := rfl
    rw [e, e2, ih, Nat.testBit_succ, Nat.add_assoc]
theorem tb_2 (a : Nat) {c : Nat} (hc : c < 2) (i : Nat) : (2 * a + c).testBit i = if i = 0 then decide (c = 1) else a.testBit (i - 1) := by
  match i with
  | 0 =>
    rw [if_pos rfl, Nat.testBit_zero, show (2 * a + c) % 2 = c by omega]
  | i + 1 =>
    rw [if_neg (Nat.succ_ne_zero i), Nat.testBit_succ, show (2 * a + c) / 2 = a by omega, Nat.add_sub_cancel]
theorem and_2 (u w : Nat) {c d e : Nat} (hc : c < 2) (hd : d < 2) (he : e < 2) (h : e = 1 ↔ c = 1 ∧ d = 1) : (2 * u + c) &&& (2 * w + d) = 2 * (u &&& w) + e := by
  apply Nat.eq_of_testBit_eq
  intro i
  rw [Nat.testBit_and, tb_2 u hc, tb_2 w hd, tb_2 _ he]
  by_cases q : i = 0
  · rw [if_pos q, if_pos q, if_pos q]
    by_cases q1 : c = 1 <;> by_cases q2 : d = 1 <;> simp [q1, q2, h]
  · rw [if_neg q, if_neg q, if_neg q, Nat.testBit_and]
def dp : Nat → Nat → Nat → Nat
  | 0, _, _ => 0
  | k + 1, x, s => if x % 2 = 1 then 2 * dp k (x / 2) (s / 2) + s % 2 else 2 * dp k (x / 2) s
theorem dp_1 {k x s : Nat} (h : x % 2 = 1) : dp (k + 1) x s = 2 * dp k (x / 2) (s / 2) + s % 2 := by rw [dp, if_pos h]
theorem dp_0 {k x s : Nat} (h : ¬ x % 2 = 1) : dp (k + 1) x s = 2 * dp k (x / 2) s := by rw [dp, if_neg h]
theorem dp_tb : ∀ (k x s i : Nat), (dp k x s).testBit i = (decide (i < k) && x.testBit i && s.testBit (bc x i)) := by
  intro k
  induction k with
  | zero => intro x s i; simp [dp]
  | succ k ih =>
    intro x s i
    have h2 : s % 2 < 2 := Nat.mod_lt _ (by decide)
    by_cases q : x % 2 = 1
    · rw [dp_1 q, tb_2 _ h2]
      match i with
      | 0 => simp [bc, Nat.testBit_zero, q]
      | i + 1 =>
        rw [if_neg (Nat.succ_ne_zero i), Nat.add_sub_cancel, ih, bc_sh, q, Nat.add_comm 1, Nat.testBit_succ, Nat.testBit_succ]
        simp
    · rw [dp_0 q, show 2 * dp k (x / 2) s = 2 * dp k (x / 2) s + 0 from rfl, tb_2 _ (by decide)]
      match i with
      | 0 => simp [Nat.testBit_zero, q]
      | i + 1 =>
        rw [if_neg (Nat.succ_ne_zero i), Nat.add_sub_cancel, ih, bc_sh, show x % 2 = 0 by omega, Nat.zero_add, Nat.testBit_succ]
        simp
theorem dp_cm : ∀ (k x s : Nat), x < 2 ^ k → dp k x s ≤ x ∧ (dp k x s + (2 ^ k - 1 - x)) &&& x = dp k x s := by
  intro k
  induction k with
  | zero =>
    intro x s hx
    have : x = 0 := by rw [Nat.pow_zero] at hx; omega
    subst this
    simp [dp]
  | succ k ih =>
    intro x s hx
    rw [Nat.pow_succ] at hx
    have hx' : x / 2 < 2 ^ k := by omega
    have hp : 2 ^ (k + 1) = 2 * 2 ^ k := by rw [Nat.pow_succ, Nat.mul_comm]
    have h2 : s % 2 < 2 := Nat.mod_lt _ (by decide)
    by_cases q : x % 2 = 1
    · obtain ⟨i1, i2⟩ := ih (x / 2) (s / 2) hx'
      rw [dp_1 q, hp]
      refine ⟨by omega, ?_⟩
      have e1 : 2 * dp k (x / 2) (s / 2) + s % 2 + (2 * 2 ^ k - 1 - x) = 2 * (dp k (x / 2) (s / 2) + (2 ^ k - 1 - x / 2)) + s % 2 := by omega
      have e2 : (2 * (dp k (x / 2) (s / 2) + (2 ^ k - 1 - x / 2)) + s % 2) &&& (2 * (x / 2) + 1) = 2 * ((dp k (x / 2) (s / 2) + (2 ^ k - 1 - x / 2)) &&& (x / 2)) + s % 2 := and_2 _ _ h2 (by decide) h2 (by omega)
      rw [e1, show (2 * (dp k (x / 2) (s / 2) + (2 ^ k - 1 - x / 2)) + s % 2) &&& x = (2 * (dp k (x / 2) (s / 2) + (2 ^ k - 1 - x / 2)) + s % 2) &&& (2 * (x / 2) + 1) by rw [show 2 * (x / 2) + 1 = x by omega], e2, i2]
    · obtain ⟨i1, i2⟩ := ih (x / 2) s hx'
      rw [dp_0 q, hp]
      refine ⟨by omega, ?_⟩
      have e1 : 2 * dp k (x / 2) s + (2 * 2 ^ k - 1 - x) = 2 * (dp k (x / 2) s + (2 ^ k - 1 - x / 2)) + 1 := by omega
      have e2 : (2 * (dp k (x / 2) s + (2 ^ k - 1 - x / 2)) + 1) &&& (2 * (x / 2) + 0) = 2 * ((dp k (x / 2) s + (2 ^ k - 1 - x / 2)) &&& (x / 2)) + 0 := and_2 _ _ (by decide) (by decide) (by decide) (by decide)
      rw [e1, show (2 * (dp k (x / 2) s + (2 ^ k - 1 - x / 2)) + 1) &&& x = (2 * (dp k (x / 2) s + (2 ^ k - 1 - x / 2)) + 1) &&& (2 * (x / 2) + 0) by rw [show 2 * (x / 2) + 0 = x by omega], e2, i2, Nat.add_zero]
theorem md_1 {u p : Nat} (hp : 0 < p) : (2 * u + 1) % (2 * p) = 2 * (u % p) + 1 := by
  have h1 := Nat.div_add_mod u p
  have h2 := Nat.mod_lt u hp
  have e : 2 * u + 1 = (2 * (u % p) + 1) + 2 * p * (u / p) := by
    rw [Nat.mul_assoc]
    generalize p * (u / p) = w at *
    omega
  rw [e, Nat.add_mul_mod_self_left, Nat.mod_eq_of_lt (by omega)]
theorem dp_nx : ∀ (k x s : Nat), x < 2 ^ k → ((dp k x s + 2 ^ k - x) % 2 ^ k) &&& x = dp k x (s + 1) := by
  intro k
  induction k with
  | zero =>
    intro x s hx
    have : x = 0 := by rw [Nat.pow_zero] at hx; omega
    subst this
    simp [dp]
  | succ k ih =>
    intro x s hx
    rw [Nat.pow_succ] at hx
    have hx' : x / 2 < 2 ^ k := by omega
    have hp0 := Nat.two_pow_pos k
    have hp : 2 ^ (k + 1) = 2 * 2 ^ k := by rw [Nat.pow_succ, Nat.mul_comm]
    have h2 : s % 2 < 2 := Nat.mod_lt _ (by decide)
    by_cases q : x % 2 = 1
    · have xe : 2 * (x / 2) + 1 = x := by omega
      by_cases q2 : s % 2 = 1
      · have i1 := ih (x / 2) (s / 2) hx'
        rw [dp_1 q, dp_1 q, hp, q2]
        have e1 : 2 * dp k (x / 2) (s / 2) + 1 + 2 * 2 ^ k - x = 2 * (dp k (x / 2) (s / 2) + 2 ^ k - x / 2) := by omega
        have e2 : (2 * ((dp k (x / 2) (s / 2) + 2 ^ k - x / 2) % 2 ^ k) + 0) &&& (2 * (x / 2) + 1) = 2 * (((dp k (x / 2) (s / 2) + 2 ^ k - x / 2) % 2 ^ k) &&& (x / 2)) + 0 := and_2 _ _ (by decide) (by decide) (by decide) (by decide)
        rw [xe] at e2
        rw [e1, Nat.mul_mod_mul_left, show (s + 1) / 2 = s / 2 + 1 by omega, show (s + 1) % 2 = 0 by omega, ← i1]
        exact e2
      · obtain ⟨j1, j2⟩ := dp_cm k (x / 2) (s / 2) hx'
        rw [dp_1 q, dp_1 q, hp, show s % 2 = 0 by omega, Nat.add_zero]
        have e1 : 2 * dp k (x / 2) (s / 2) + 2 * 2 ^ k - x = 2 * (dp k (x / 2) (s / 2) + (2 ^ k - 1 - x / 2)) + 1 := by omega
        have e2 : (2 * (dp k (x / 2) (s / 2) + (2 ^ k - 1 - x / 2)) + 1) &&& (2 * (x / 2) + 1) = 2 * ((dp k (x / 2) (s / 2) + (2 ^ k - 1 - x / 2)) &&& (x / 2)) + 1 := and_2 _ _ (by decide) (by decide) (by decide) (by decide)
        rw [xe, j2] at e2
        rw [e1, md_1 hp0, Nat.mod_eq_of_lt (show dp k (x / 2) (s / 2) + (2 ^ k - 1 - x / 2) < 2 ^ k by omega), show (s + 1) / 2 = s / 2 by omega, show (s + 1) % 2 = 1 by omega]
        exact e2
    · have xe : 2 * (x / 2) + 0 = x := by omega
      have i1 := ih (x / 2) s hx'
      rw [dp_0 q, dp_0 q, hp]
      have e1 : 2 * dp k (x / 2) s + 2 * 2 ^ k - x = 2 * (dp k (x / 2) s + 2 ^ k - x / 2) := by omega
      have e2 : (2 * ((dp k (x / 2) s + 2 ^ k - x / 2) % 2 ^ k) + 0) &&& (2 * (x / 2) + 0) = 2 * (((dp k (x / 2) s + 2 ^ k - x / 2) % 2 ^ k) &&& (x / 2)) + 0 := and_2 _ _ (by decide) (by decide) (by decide) (by decide)
      rw [xe] at e2
      rw [e1, Nat.mul_mod_mul_left, ← i1]
      exact e2
theorem dp_z : ∀ (k x : Nat), dp k x 0 = 0 := by
  intro k
  induction k with
  | zero => intro x; rfl
  | succ k ih =>
    intro x
    by_cases q : x % 2 = 1
    · rw [dp_1 q, Nat.zero_div, ih]
    · rw [dp_0 q, ih]
theorem dp_i : ∀ (k x s : Nat), s < 2 ^ bc x k → dp k x s = 0 → s = 0 := by
  intro k
  induction k with
  | zero => intro x s hs _; simp [bc] at hs; exact hs
  | succ k ih =>
    intro x s hs h0
    rw [bc_sh] at hs
    by_cases q : x % 2 = 1
    · rw [dp_1 q] at h0
      rw [q, Nat.add_comm, Nat.pow_succ] at hs
      have := ih (x / 2) (s / 2) (by omega) (by omega)
      omega
    · rw [dp_0 q] at h0
      rw [show x % 2 = 0 by omega, Nat.zero_add] at hs
      exact ih (x / 2) s hs (by omega)
/-- the whole of it comes back to nothing -/
theorem dp_e (k x : Nat) : dp k x (2 ^ bc x k) = 0 := by
  apply Nat.eq_of_testBit_eq
  intro i
  rw [dp_tb, Nat.zero_testBit, Nat.testBit_two_pow]
  by_cases q : i < k
  · by_cases q2 : x.testBit i = true
    · have := bc_lt q q2
      have : ¬ bc x k = bc x i := by omega
      simp [this]
    · simp [q2]
  · simp [q]
theorem dp_bc {k x s : Nat} : ∀ n, n ≤ k → bc (dp k x s) n = bc s (bc x n) := by
  intro n
  induction n with
  | zero => intro _; rfl
  | succ n ih =>
    intro hn
    have i1 := ih (by omega)
    have e : (dp k x s).testBit n = (x.testBit n && s.testBit (bc x n)) := by
      rw [dp_tb]
      simp [show n < k by omega]
    by_cases q : x.testBit n = true
    · rw [bc_t q]
      by_cases q2 : s.testBit (bc x n) = true
      · rw [bc_t q2, bc_t (by rw [e, q, q2]; rfl), i1]
      · rw [bc_f q2, bc_f (by rw [e]; simp [q2]), i1]
    · rw [bc_f q, bc_f (by rw [e]; simp [q]), i1]
/-- sums over the places of a set -/
def cs (f : Nat → Nat) (s : Nat) : Nat → Nat
  | 0 => 0
  | n + 1 => cs f s n + if s.testBit n = true then f n else 0
theorem cs_b {f : Nat → Nat} {s b : Nat} (hf : ∀ i, f i ≤ b) : ∀ n, cs f s n ≤ b * n := by
  intro n
  induction n with
  | zero => exact Nat.zero_le _
  | succ n ih =>
    have := hf n
    simp only [cs]
    rw [Nat.mul_succ]
    split <;> omega
theorem cs_0 {f : Nat → Nat} : ∀ n, cs f 0 n = 0 := by
  intro n
  induction n with
  | zero => rfl
  | succ n ih => simp [cs, ih]
/-- the sum of all below a place -/
def pf (f : Nat → Nat) : Nat → Nat
  | 0 => 0
  | n + 1 => pf f n + f n
theorem odd_pt : ∀ s : Nat, 0 < s → ∃ t q, s = 2 ^ t * (2 * q + 1) := by
  intro s
  induction s using Nat.strongRecOn with
  | ind s ih =>
    intro hs
    by_cases q : s % 2 = 1
    · exact ⟨0, s / 2, by omega⟩
    · obtain ⟨t, u, e⟩ := ih (s / 2) (by omega) (by omega)
      refine ⟨t + 1, u, ?_⟩
      rw [Nat.pow_succ, Nat.mul_assoc, Nat.mul_left_comm, ← e]
      omega
theorem tb_s {t q : Nat} (i : Nat) : (2 ^ t * (2 * q + 1)).testBit i = if i < t then false else if i = t then true else q.testBit (i - t - 1) := by
  have h0 : (0 : Nat) < 2 ^ t := Nat.two_pow_pos t
  have := Nat.testBit_two_pow_mul_add (2 * q + 1) h0 i
  rw [Nat.add_zero] at this
  rw [this]
  by_cases e1 : i < t
  · rw [if_pos e1, if_pos e1, Nat.zero_testBit]
  · rw [if_neg e1, if_neg e1, tb_2 q (by decide)]
    by_cases e2 : i = t
    · rw [if_pos e2, if_pos (by omega)]; rfl
    · rw [if_neg e2, if_neg (by omega)]
theorem tb_p {t q : Nat} (i : Nat) : (2 ^ t * (2 * q + 1) - 1).testBit i = if i < t then true else if i = t then false else q.testBit (i - t - 1) := by
  have h0 : (0 : Nat) < 2 ^ t := Nat.two_pow_pos t
  have e0 : 2 ^ t * (2 * q + 1) - 1 = 2 ^ t * (2 * q) + (2 ^ t - 1) := by
    rw [Nat.mul_add]; omega
  rw [e0, Nat.testBit_two_pow_mul_add (2 * q) (show 2 ^ t - 1 < 2 ^ t by omega) i]
  by_cases e1 : i < t
  · rw [if_pos e1, if_pos e1, Nat.testBit_two_pow_sub_one, decide_eq_true e1]
  · rw [if_neg e1, if_neg e1, show 2 * q = 2 * q + 0 from rfl, tb_2 q (by decide)]
    by_cases e2 : i = t
    · rw [if_pos e2, if_pos (by omega)]; rfl
    · rw [if_neg e2, if_neg (by omega)]
theorem cs_st {f : Nat → Nat} {t q : Nat} : ∀ n, cs f (2 ^ t * (2 * q + 1)) n + pf f (min n t) = cs f (2 ^ t * (2 * q + 1) - 1) n + if t < n then f t else 0 := by
  intro n
  induction n with
  | zero => simp [cs, pf]
  | succ n ih =>
    simp only [cs]
    have b1 := tb_s (t := t) (q := q) n
    have b2 := tb_p (t := t) (q := q) n
    rcases Nat.lt_trichotomy n t with e | e | e
    · rw [if_pos e] at b1 b2
      rw [b1, b2, if_neg (show ¬ false = true by decide), if_pos rfl, if_neg (by omega)]
      rw [if_neg (by omega), Nat.min_eq_left (by omega)] at ih
      rw [Nat.min_eq_left (by omega)]
      simp only [pf]
      omega
    · subst e
      rw [if_neg (Nat.lt_irrefl n), if_pos rfl] at b1 b2
      rw [b1, b2, if_pos rfl, if_neg (show ¬ false = true by decide), if_pos (by omega)]
      rw [if_neg (by omega), Nat.min_eq_left (by omega)] at ih
      rw [Nat.min_eq_right (by omega)]
      omega
    · rw [if_neg (by omega), if_neg (by omega)] at b1 b2
      rw [b1, b2, if_pos (show t < n + 1 by omega)]
      rw [if_pos (by omega), Nat.min_eq_right (by omega)] at ih
      rw [Nat.min_eq_right (by omega)]
      omega
theorem nI_32 (n : Nat) : nI (n + 2 ^ 32) = nI n := by
  show Int32.ofNat (n + 2 ^ 32) = Int32.ofNat n
  apply Int32.toBitVec_inj.mp
  show BitVec.ofNat 32 (n + 2 ^ 32) = BitVec.ofNat 32 n
  apply BitVec.eq_of_toNat_eq
  simp
theorem nI_md (n : Nat) : nI (n % 2 ^ 32) = nI n := by
  show Int32.ofNat (n % 2 ^ 32) = Int32.ofNat n
  apply Int32.toBitVec_inj.mp
  show BitVec.ofNat 32 (n % 2 ^ 32) = BitVec.ofNat 32 n
  apply BitVec.eq_of_toNat_eq
  simp
theorem rip_n {x s : Nat} (hx : x < 2 ^ 31) : (nI (dp 32 x s) - nI x) &&& nI x = nI (dp 32 x (s + 1)) := by
  rw [← nI_32 (dp 32 x s), pk_sub (by omega), ← nI_md, and_n, dp_nx 32 x s (by omega)]
theorem rip_1 {x : Nat} (hx : x < 2 ^ 31) : (-nI x) &&& nI x = nI (dp 32 x 1) := by
  have := rip_n (s := 0) hx
  rw [dp_z] at this
  rw [← this]
  congr 1
/-- bits counted as the JDK does -/
def bcN (x : Nat) : Nat :=
  let a := x - ((x / 2) &&& 1431655765)
  let b := (a &&& 858993459) + ((a / 4) &&& 858993459)
  let c := (b + b / 16) &&& 252645135
  let d := c + c / 256
  let e := d + d / 65536
  e &&& 63
set_option maxRecDepth 100000 in
theorem bcN_d : ∀ a : Fin 128, ∀ b : Fin 128, bcN (128 * a.1 + b.1) = bc (128 * a.1 + b.1) 14 := by decide +kernel
theorem bcN_n {x : Nat} (hx : x < 2 ^ 14) : bcN x = bc x 14 := by
  have := bcN_d ⟨x / 128, by omega⟩ ⟨x % 128, by omega⟩
  simp only [] at this
  rw [Nat.div_add_mod] at this
  exact this
theorem bit_ct {x : Nat} (hx : x < 2 ^ 14) (G : gM) : fJ6_bitCount_0f7a4 (nI x) G = some (nI (bc x 14), G) := by
  rw [← bcN_n hx]
  have h1 : (x / 2) &&& 1431655765 ≤ x / 2 := Nat.and_le_left
  generalize ha : x - ((x / 2) &&& 1431655765) = a
  have ha2 : a < 2 ^ 14 := by omega
  have h2 : a &&& 858993459 ≤ a := Nat.and_le_left
  have h3 : (a / 4) &&& 858993459 ≤ a / 4 := Nat.and_le_left
  generalize hb : (a &&& 858993459) + ((a / 4) &&& 858993459) = b
  have hb2 : b < 2 ^ 15 := by omega
  have h4 : (b + b / 16) &&& 252645135 ≤ b + b / 16 := Nat.and_le_left
  generalize hc : (b + b / 16) &&& 252645135 = c
  have hc2 : c < 2 ^ 16 := by omega
  generalize hd : c + c / 256 = d
  have hd2 : d < 2 ^ 17 := by omega
  have e1 : ((nI x).toUInt32 >>> ((1 : Int32).toUInt32 &&& Int32.toUInt32 31)).toInt32 = nI (x / 2) := pk_ushrN (by omega) 1 1 (by decide)
  have e2 : nI (x / 2) &&& (1431655765 : Int32) = nI ((x / 2) &&& 1431655765) := and_n _ _
  have e3 : nI x - nI ((x / 2) &&& 1431655765) = nI a := by rw [pk_sub (by omega), ha]
  have e4 : nI a &&& (858993459 : Int32) = nI (a &&& 858993459) := and_n _ _
  have e5 : ((nI a).toUInt32 >>> ((2 : Int32).toUInt32 &&& Int32.toUInt32 31)).toInt32 = nI (a / 4) := pk_ushrN (by omega) 2 2 (by decide)
  have e6 : nI (a / 4) &&& (858993459 : Int32) = nI ((a / 4) &&& 858993459) := and_n _ _
  have e7 : nI (a &&& 858993459) + nI ((a / 4) &&& 858993459) = nI b := by rw [nI_add, hb]
  have e8 : ((nI b).toUInt32 >>> ((4 : Int32).toUInt32 &&& Int32.toUInt32 31)).toInt32 = nI (b / 16) := pk_ushrN (by omega) 4 4 (by decide)
  have e9 : (nI b + nI (b / 16)) &&& (252645135 : Int32) = nI c := by rw [nI_add, ← hc]; exact and_n _ _
  have e10 : ((nI c).toUInt32 >>> ((8 : Int32).toUInt32 &&& Int32.toUInt32 31)).toInt32 = nI (c / 256) := pk_ushrN (by omega) 8 8 (by decide)
  have e11 : nI c + nI (c / 256) = nI d := by rw [nI_add, hd]
  have e12 : ((nI d).toUInt32 >>> ((16 : Int32).toUInt32 &&& Int32.toUInt32 31)).toInt32 = nI (d / 65536) := pk_ushrN (by omega) 16 16 (by decide)
  have e13 : (nI d + nI (d / 65536)) &&& (63 : Int32) = nI ((d + d / 65536) &&& 63) := by rw [nI_add]; exact and_n _ _
  have e14 : bcN x = (d + d / 65536) &&& 63 := by
    unfold bcN
    simp only [ha, hb, hc, hd]
  rw [e14]
  unfold fJ6_bitCount_0f7a4
  rw [e1, e2, e3, pU_s, e4, e5, e6, e7, pU_s, e8, e9, pU_s, e10, e11, pU_s, e12, pU_s, e13]
/-- the first bit, as the JDK finds it -/
theorem tz_a {t q : Nat} (hx : 2 ^ t * (2 * q + 1) < 2 ^ 31) : (nI (2 ^ t * (2 * q + 1)) ^^^ (-1 : Int32)) &&& (nI (2 ^ t * (2 * q + 1)) - (1 : Int32)) = nI (2 ^ t - 1) := by
  have h0 : 0 < 2 ^ t * (2 * q + 1) := Nat.mul_pos (Nat.two_pow_pos t) (by omega)
  have e1 : nI (2 ^ t * (2 * q + 1)) - (1 : Int32) = nI (2 ^ t * (2 * q + 1) - 1) := pk_sub (b := 1) h0
  rw [show (-1 : Int32) = nI (2 ^ 32 - 1) by decide, e1, xor_n, and_n]
  congr 1
  apply Nat.eq_of_testBit_eq
  intro i
  rw [Nat.testBit_and, Nat.testBit_xor, Nat.testBit_two_pow_sub_one, Nat.testBit_two_pow_sub_one, tb_s, tb_p]
  have ht : t < 31 := by
    rcases Nat.lt_or_ge t 31 with g | g
    · exact g
    · have h1 : 2 ^ 31 ≤ 2 ^ t := pw2 g
      have h2 : 2 ^ t * 1 ≤ 2 ^ t * (2 * q + 1) := Nat.mul_le_mul_left _ (by omega)
      omega
  rcases Nat.lt_trichotomy i t with e | e | e
  · rw [if_pos e, if_pos e]
    simp [e, show i < 32 by omega]
  · subst e
    simp
  · rw [if_neg (by omega), if_neg (by omega), if_neg (by omega), if_neg (by omega)]
    by_cases g : q.testBit (i - t - 1) = true
    · have hi : i < 32 := by
        rcases Nat.lt_or_ge i 31 with w | w
        · omega
        · have := tb_hi hx w
          rw [tb_s, if_neg (by omega), if_neg (by omega)] at this
          exact absurd g this
      simp [g, hi, show ¬ i < t by omega]
    · simp [g, show ¬ i < t by omega]
theorem tz_b (G : gM) {t : Nat} (ht : t < 14) : (if 0 < nI (2 ^ t - 1) then (if nI (2 ^ t - 1) ≤ (65536 : Int32) then fJ6_numberOfTrailingZeros_0f7a4_34 (nI (2 ^ t - 1)) (1 : Int32) G else pU (((nI (2 ^ t - 1)).toUInt32 >>> ((16 : Int32).toUInt32 &&& Int32.toUInt32 31)).toInt32) fun z33 => fJ6_numberOfTrailingZeros_0f7a4_34 z33 ((1 : Int32) + (16 : Int32)) G) else some (nI (2 ^ t - 1) &&& (32 : Int32), G)) = some (nI t, G) := by
  match t, ht with
  | 0, _ => rfl
  | 1, _ => rfl
  | 2, _ => rfl
  | 3, _ => rfl
  | 4, _ => rfl
  | 5, _ => rfl
  | 6, _ => rfl
  | 7, _ => rfl
  | 8, _ => rfl
  | 9, _ => rfl
  | 10, _ => rfl
  | 11, _ => rfl
  | 12, _ => rfl
  | 13, _ => rfl
theorem tz_n {t q : Nat} (hx : 2 ^ t * (2 * q + 1) < 2 ^ 31) (ht : t < 14) (G : gM) : fJ6_numberOfTrailingZeros_0f7a4 (nI (2 ^ t * (2 * q + 1))) G = some (nI t, G) := by
  unfold fJ6_numberOfTrailingZeros_0f7a4
  rw [tz_a hx, pU_s]
  exact tz_b G ht
