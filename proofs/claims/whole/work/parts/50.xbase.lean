/-! plain facts on the walks' own functions -/
theorem bI_s {α σ β : Type} {r : α} {u : σ} {k : α → σ → Option β} : bI (some (r, u)) k = k r u := rfl
theorem ob_s {α β : Type} {a : α} {k : α → Option β} : (some a).bind k = k a := rfl
theorem cN_s {α : Type} {r : α} {G : gM} {u : gN} : cN (some (r, G)) u = some (r, (G, u.2)) := rfl
theorem wN_s {G : gM} {u : gN} : wN (some G) u = some (G, u.2) := rfl
theorem pU_s {α β : Type} {x : α} {k : α → Option β} : pU x k = k x := rfl
theorem up_s {α : Type} {f : Nat → α} {a : Nat} {v : α} : va_up f a v a = v := by simp [va_up]
theorem up_n {α : Type} {f : Nat → α} {a b : Nat} {v : α} (h : b ≠ a) : va_up f a v b = f b := by simp [va_up, h]
theorem up_up {α : Type} {f : Nat → α} {a : Nat} {v w : α} : va_up (va_up f a v) a w = va_up f a w := by
  funext b
  by_cases h : b = a <;> simp [va_up, h]
theorem up_cm {α : Type} {f : Nat → α} {a b : Nat} {v w : α} (h : a ≠ b) : va_up (va_up f a v) b w = va_up (va_up f b w) a v := by
  funext c
  by_cases h1 : c = a
  · subst h1; simp [va_up, h]
  · by_cases h2 : c = b
    · subst h2; simp [va_up, h1]
    · simp [va_up, h1, h2]
theorem ixb_n {k n : Nat} (hn : n < 2 ^ 31) (h : k < n) : ixb (nI k) n = true := by
  simp only [ixb, nI_clamp (Nat.lt_trans h hn), Bool.not_eq_true', Bool.or_eq_false_iff, decide_eq_false_iff_not]
  exact ⟨nI_pos (Nat.lt_trans h hn), Nat.not_le.mpr h⟩
theorem mR_n {u : mS} {k n i : Nat} (hn : n < 2 ^ 31) (h : i < n) : mR u k n (nI i) = some (u.2.1 k i) := by
  rw [mR, if_pos (ixb_n hn h), nI_clamp (Nat.lt_trans h hn)]
theorem mU_n {u : mS} {k n i : Nat} {v : Int32} (hn : n < 2 ^ 31) (h : i < n) : mU u k n (nI i) v = some (mA u k i v) := by
  rw [mU, if_pos (ixb_n hn h), nI_clamp (Nat.lt_trans h hn)]
theorem aI_n {G : gM} {a n i : Nat} {f : Nat → Int32} (hG : G a = some (.inl (0, n, .inl f))) (hn : n < 2 ^ 31) (h : i < n) : aI G a (nI i) = some (f i) := by
  simp only [aI, hG, ixb_n hn h, if_true, nI_clamp (Nat.lt_trans h hn)]
theorem aJ_n {G : gM} {a n i : Nat} {f : Nat → Int64} (hG : G a = some (.inl (1, n, .inr (.inl f)))) (hn : n < 2 ^ 31) (h : i < n) : aJ G a (nI i) = some (f i) := by
  simp only [aJ, hG, ixb_n hn h, if_true, nI_clamp (Nat.lt_trans h hn)]
theorem aQ_n {G : gM} {a n i : Nat} {f : Nat → Option Nat} (hG : G a = some (.inl (2, n, .inr (.inr (.inr (.inr f)))))) (hn : n < 2 ^ 31) (h : i < n) : aQ G a (nI i) = some (f i) := by
  simp only [aQ, hG, ixb_n hn h, if_true, nI_clamp (Nat.lt_trans h hn)]
theorem uI_n {G : gM} {a n i : Nat} {v : Int32} {f : Nat → Int32} (hG : G a = some (.inl (0, n, .inl f))) (hn : n < 2 ^ 31) (h : i < n) : uI G a (nI i) v = some (va_up G a (some (.inl (0, n, .inl (upd f i v))))) := by
  simp only [uI, hG, ixb_n hn h, if_true, nI_clamp (Nat.lt_trans h hn)]
theorem uJ_n {G : gM} {a n i : Nat} {v : Int64} {f : Nat → Int64} (hG : G a = some (.inl (1, n, .inr (.inl f)))) (hn : n < 2 ^ 31) (h : i < n) : uJ G a (nI i) v = some (va_up G a (some (.inl (1, n, .inr (.inl (vp_updL f i v)))))) := by
  simp only [uJ, hG, ixb_n hn h, if_true, nI_clamp (Nat.lt_trans h hn)]
theorem uQ_n {G : gM} {a n i : Nat} {v : Option Nat} {f : Nat → Option Nat} (hG : G a = some (.inl (2, n, .inr (.inr (.inr (.inr f)))))) (hn : n < 2 ^ 31) (h : i < n) (hv : okQ G v = true) : uQ G a (nI i) v = some (va_up G a (some (.inl (2, n, .inr (.inr (.inr (.inr (va_up f i v)))))))) := by
  simp only [uQ, hG, ixb_n hn h, hv, Bool.and_self, if_true, nI_clamp (Nat.lt_trans h hn)]
theorem gO_n {cs : List Nat} {G : gM} {a ci : Nat} {fs : List Value} (hG : G a = some (.inr (ci, fs))) (h : cs.contains ci = true) : gO cs G a = some (ci, fs) := by
  simp only [gO, hG, h, if_true]
theorem gI_n {cs : List Nat} {G : gM} {a ci k : Nat} {fs : List Value} {x : Int32} (hG : G a = some (.inr (ci, fs))) (h : cs.contains ci = true) (hk : fs[k]? = some (.int x)) : gI cs k G a = some x := by
  simp only [gI, gO_n hG h, ob_s, hk, vI]
theorem gR_n {cs : List Nat} {G : gM} {a ci k : Nat} {fs : List Value} {x : Option Nat} (hG : G a = some (.inr (ci, fs))) (h : cs.contains ci = true) (hk : fs[k]? = some (va_rf x)) : gR cs k G a = some x := by
  cases x <;> simp only [gR, gO_n hG h, ob_s, hk, vR, va_rf]
theorem pV_n {cs : List Nat} {G : gM} {a ci k : Nat} {fs : List Value} {v : Value} (hG : G a = some (.inr (ci, fs))) (h : cs.contains ci = true) (hk : k < fs.length) : pV cs k v G a = some (va_up G a (some (.inr (ci, fs.set k v)))) := by
  simp only [pV, gO_n hG h, ob_s, hk, if_true]
/-- a number that is no index, or one that is -/
theorem ix_c (x : Int32) {n : Nat} (hn : n < 2 ^ 30) : (x < 0 ∨ (¬ x < 0 ∧ nI n - 1 < x ∧ nI n ≤ x)) ∨ ∃ t, t < n ∧ x = nI t := by
  rcases pk_ix x (n := n) (by omega) with h | h | ⟨t, h1, h2⟩
  · exact .inl (.inl h)
  · refine .inl (.inr ⟨?_, ?_, h⟩)
    · intro h0
      have := Int32.lt_iff_toInt_lt.mp h0
      have h3 := Int32.le_iff_toInt_le.mp h
      rw [nI_toInt (by omega)] at h3
      have h4 : (0 : Int32).toInt = 0 := by decide
      omega
    · rw [Int32.lt_iff_toInt_lt]
      have h3 := Int32.le_iff_toInt_le.mp h
      rw [nI_toInt (by omega)] at h3
      show (nI n - nI 1).toInt < _
      rw [pk_sub_toInt (by omega) (by decide)]
      omega
  · exact .inr ⟨t, h1, h2⟩
theorem ix_t {n t : Nat} (hn : n < 2 ^ 30) (h : t < n) : ¬ nI n - 1 < nI t := by
  rw [Int32.lt_iff_toInt_lt]
  show ¬ (nI n - nI 1).toInt < _
  rw [pk_sub_toInt (by omega) (by decide), nI_toInt (by omega)]
  omega
/-- a number beyond the bounds, or within them -/
theorem rg_c (x lo hi : Int32) : (x < lo ∨ (¬ x < lo ∧ hi < x)) ∨ (¬ x < lo ∧ ¬ hi < x) := by
  by_cases h1 : x < lo
  · exact .inl (.inl h1)
  · by_cases h2 : hi < x
    · exact .inl (.inr ⟨h1, h2⟩)
    · exact .inr ⟨h1, h2⟩
theorem rg_n {x hi : Int32} {n : Nat} (hh : hi.toInt = n) (h : ¬ x < 0 ∧ ¬ hi < x) : ∃ j, j ≤ n ∧ x = nI j :=
  nI_of2 hh h.1 (Int32.not_lt.mp h.2)
/-! loops that count up to an end -/
/-- n steps from 0 on -/
def itN {α : Type} (st : Nat → α → α) : Nat → α → α
  | 0, a => a
  | n + 1, a => st n (itN st n a)
theorem itN_0 {α : Type} {st : Nat → α → α} {a : α} : itN st 0 a = a := rfl
theorem itN_s {α : Type} {st : Nat → α → α} {n : Nat} {a : α} : itN st (n + 1) a = st n (itN st n a) := rfl
theorem itN_cg {α : Type} {s1 s2 : Nat → α → α} {n : Nat} (h : ∀ i, i < n → ∀ a, s1 i a = s2 i a) (a : α) : itN s1 n a = itN s2 n a := by
  induction n with
  | zero => rfl
  | succ n ih => rw [itN_s, itN_s, ih (fun i hi => h i (by omega)), h n (by omega)]
/-- a loop whose body at i < n goes on at i + 1 in the state st i a, and at n ends in fin -/
theorem itN_loop {α ρ : Type} (L : Nat → Int32 → α → Option ρ) (n : Nat) (st : Nat → α → α) (fin : α → Option ρ) (P : Nat → α → Prop)
    (hb : ∀ f i a, i < n → P i a → L (f + 1) (nI i) a = L f (nI (i + 1)) (st i a)) (hp : ∀ i a, i < n → P i a → P (i + 1) (st i a)) (he : ∀ f a, P n a → L (f + 1) (nI n) a = fin a) {a : α} (h0 : P 0 a) {f : Nat} (hf : n < f) : L f 0 a = fin (itN st n a) ∧ P n (itN st n a) := by
  have hP : ∀ k, k ≤ n → P k (itN st k a) := by
    intro k
    induction k with
    | zero => intro _; exact h0
    | succ k ih => intro hk; exact hp k _ (by omega) (ih (by omega))
  have hL : ∀ k, k ≤ n → L f 0 a = L (f - k) (nI k) (itN st k a) := by
    intro k
    induction k with
    | zero => intro _; rfl
    | succ k ih =>
      intro hk
      rw [ih (by omega), show f - k = (f - (k + 1)) + 1 by omega, hb _ k _ (by omega) (hP k (by omega))]
      rfl
  refine ⟨?_, hP n (Nat.le_refl n)⟩
  rw [hL n (Nat.le_refl n), show f - n = (f - n - 1) + 1 by omega, he _ _ (hP n (Nat.le_refl n))]
/-- the same where the state does not matter -/
theorem itN_loop0 {α ρ : Type} (L : Nat → Int32 → α → Option ρ) (n : Nat) (st : Nat → α → α) (fin : α → Option ρ)
    (hb : ∀ f i a, i < n → L (f + 1) (nI i) a = L f (nI (i + 1)) (st i a)) (he : ∀ f a, L (f + 1) (nI n) a = fin a) {a : α} {f : Nat} (hf : n < f) : L f 0 a = fin (itN st n a) :=
  (itN_loop L n st fin (fun _ _ => True) (fun f i a h _ => hb f i a h) (fun _ _ _ _ => trivial) (fun f a _ => he f a) trivial hf).1
/-- two loops side by side, each with a state of its own, held together by P -/
theorem itN_two {α β ρ τ : Type} (L : Nat → Int32 → α → Option ρ) (K : Nat → Int32 → β → Option τ) (n : Nat) (P : Nat → α → β → Prop) (Q : Option ρ → Option τ → Prop)
    (hb : ∀ i a b, i < n → P i a b → ∃ a' b', P (i + 1) a' b' ∧ (∀ f, L (f + 1) (nI i) a = L f (nI (i + 1)) a') ∧ (∀ f, K (f + 1) (nI i) b = K f (nI (i + 1)) b')) (he : ∀ a b, P n a b → ∀ f g, Q (L (f + 1) (nI n) a) (K (g + 1) (nI n) b)) :
    ∀ m i a b, i + m = n → P i a b → ∀ f g, m < f → m < g → Q (L f (nI i) a) (K g (nI i) b) := by
  intro m
  induction m with
  | zero =>
    intro i a b hi hP f g hf hg
    have : i = n := by omega
    subst this
    rw [show f = (f - 1) + 1 by omega, show g = (g - 1) + 1 by omega]
    exact he a b hP _ _
  | succ m ih =>
    intro i a b hi hP f g hf hg
    obtain ⟨a', b', hP', h1, h2⟩ := hb i a b (by omega) hP
    rw [show f = (f - 1) + 1 by omega, show g = (g - 1) + 1 by omega, h1, h2]
    exact ih (i + 1) a' b' (by omega) hP' _ _ (by omega) (by omega)

