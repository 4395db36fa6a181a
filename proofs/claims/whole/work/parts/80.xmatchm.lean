/-! the match: the reference's side -/
theorem bit_0 {x j : Nat} (hx : x < 2 ^ 31) (hj : j < 32) : (((nI x >>> (nI j &&& 31)) &&& 1) = 0) = (¬ x.testBit j = true) := by
  rw [bit_n hx hj]
  by_cases q : x.testBit j = true
  · simp [q]
  · simp [q]
theorem tb_rm {u s : Nat} (h : u.testBit s = true) : (u ^^^ 2 ^ s).testBit = rmv u.testBit s := by
  funext i
  rw [Nat.testBit_xor, Nat.testBit_two_pow]
  unfold rmv
  by_cases e : i = s
  · subst e; simp [h]
  · rw [if_neg e]; simp [show ¬ s = i from fun q => e q.symm]
theorem tb_ad {u s : Nat} : (u ||| 2 ^ s).testBit = addg u.testBit s := by
  funext i
  rw [Nat.testBit_or, Nat.testBit_two_pow]
  unfold addg
  by_cases e : i = s
  · subst e; simp
  · rw [if_neg e]; simp [show ¬ s = i from fun q => e q.symm]
def acc (b : Nat) (f : Nat → Nat) (j : Nat) : Nat := if b < mx j f then mx j f else b
theorem acc_p (b m0 m1 a : Nat) (hm : m1 = if m0 < a then a else m0) : (if b < m1 then m1 else b) = if a ≤ (if b < m0 then m0 else b) then (if b < m0 then m0 else b) else a := by
  by_cases h1 : m0 < a
  · rw [if_pos h1] at hm
    subst hm
    by_cases h2 : b < m0
    · rw [if_pos h2, if_pos (by omega), if_neg (by omega)]
    · rw [if_neg h2]
      by_cases h3 : b < m1
      · rw [if_pos h3, if_neg (by omega)]
      · rw [if_neg h3, if_pos (by omega)]
  · rw [if_neg h1] at hm
    subst hm
    by_cases h2 : b < m1
    · rw [if_pos h2, if_pos (by omega)]
    · rw [if_neg h2, if_pos (by omega)]
theorem acc_s {b : Nat} {f : Nat → Nat} {j : Nat} : acc b f (j + 1) = if f j ≤ acc b f j then acc b f j else f j := acc_p b (mx j f) (mx (j + 1) f) (f j) rfl
/-- what the reference reads while it weighs -/
def mrd (L : Nat → Nat → Nat) (S Tn : Nat) (v : mS) : Prop := v.1 2 = nI Tn ∧ v.1 17 = nI S ∧ ∀ s t, s < S → t < Tn → v.2.1 39 (20 * s + t) = nI (L s t)
theorem i20 (n k : Nat) : (20 : Int32) * nI n + nI k = nI (20 * n + k) := by
  rw [← nI_add, ← pk_mul]; rfl
section MM2
variable {L : Nat → Nat → Nat} {S Tn : Nat}
theorem mo_2 (x1 x2 : Int32) (k22 : Int32 → Int32 → mS → Option (Int32 × mS)) : ∀ (c i F : Nat) (v : mS), i + c = 256 → c < F → (∀ u, u < i → v.2.1 37 u = 0) → ∃ v', fX10_mostOf_2 k22 F x1 x2 (nI i) v = k22 x1 x2 v' ∧ v'.1 = v.1 ∧ (∀ r, r ≠ 37 → v'.2.1 r = v.2.1 r) ∧ ∀ u, u < 256 → v'.2.1 37 u = 0 := by
  intro c
  induction c with
  | zero =>
    intro i F v hi hF hu
    obtain ⟨F, rfl⟩ : ∃ F', F = F' + 1 := ⟨F - 1, by omega⟩
    have : i = 256 := by omega
    subst this
    refine ⟨v, ?_, rfl, fun _ _ => rfl, hu⟩
    simp only [fX10_mostOf_2, fX10_mostOf_2_b, if_pos (show (256 : Int32) ≤ nI 256 by decide)]
  | succ c ih =>
    intro i F v hi hF hu
    obtain ⟨F, rfl⟩ : ∃ F', F = F' + 1 := ⟨F - 1, by omega⟩
    have e : ¬ (256 : Int32) ≤ nI i := nI_ge (b := 256) (by omega) (by decide)
    obtain ⟨v', p1, p2, p3, p4⟩ := ih (i + 1) F (mA v 37 i 0) (by omega) (by omega) (fun u hu' => by
      show upd (v.2.1 37) i 0 u = 0
      by_cases g : u = i
      · rw [g, pk_us]
      · rw [pk_un g]; exact hu u (by omega))
    refine ⟨v', ?_, p2, fun r hr => by rw [p3 r hr]; show (if r = 37 then _ else v.2.1 r) = _; rw [if_neg hr], p4⟩
    rw [← p1]
    simp only [fX10_mostOf_2, fX10_mostOf_2_b, if_neg e, mUn (show i < 256 by omega) (show 256 < 2 ^ 31 by decide), ob_s, nI_1]
theorem mo_71 (hS : S ≤ 8) (hT : Tn ≤ 20) (hL : ∀ s t, L s t ≤ 103) {g : Nat → Bool} {t u : Nat} (ht : t < Tn) (hu : u < 2 ^ S) (x1 x2 : Int32) (k159 : Int32 → Int32 → Int32 → Int32 → mS → Option (Int32 × mS)) : ∀ (c j F : Nat) (v : mS), mrd L S Tn v → (∀ u, u < 2 ^ S → v.2.1 37 u = nI (Fm L S t g u.testBit)) → v.2.1 38 u = nI (acc (Fm L S t g u.testBit) (fun s => if u.testBit s = true then L s t + Fm L S t g (rmv u.testBit s) else 0) j) → j + c = S → c < F → ∃ v', fX10_mostOf_71 k159 F x1 x2 (nI t) (nI u) (nI j) v = k159 x1 x2 (nI t) (nI u) v' ∧ v'.1 = v.1 ∧ (∀ r, r ≠ 38 → v'.2.1 r = v.2.1 r) ∧ (∀ y, y ≠ u → v'.2.1 38 y = v.2.1 38 y) ∧ v'.2.1 38 u = nI (acc (Fm L S t g u.testBit) (fun s => if u.testBit s = true then L s t + Fm L S t g (rmv u.testBit s) else 0) S) := by
  have hpS : 2 ^ S ≤ 2 ^ 8 := pw2 hS
  have fb : ∀ σ, Fm L S t g σ ≤ 103 * t := fun σ => Fm_ba hL t g σ
  have h103 : 103 * t ≤ 103 * 20 := Nat.mul_le_mul_left _ (by omega)
  intro c
  induction c with
  | zero =>
    intro j F v R h37 h38 hj hF
    obtain ⟨F, rfl⟩ : ∃ F', F = F' + 1 := ⟨F - 1, by omega⟩
    have : j = S := by omega
    subst this
    refine ⟨v, ?_, rfl, fun _ _ => rfl, fun _ _ => rfl, h38⟩
    simp only [fX10_mostOf_71, fX10_mostOf_71_b, R.2.1, if_pos (Int32.le_refl _)]
  | succ c ih =>
    intro j F v R h37 h38 hj hF
    obtain ⟨F, rfl⟩ : ∃ F', F = F' + 1 := ⟨F - 1, by omega⟩
    have hjS : j < S := by omega
    have cj : ¬ nI S ≤ nI j := nI_ge hjS (by omega)
    generalize hf : (fun s => if u.testBit s = true then L s t + Fm L S t g (rmv u.testBit s) else 0) = f at *
    have hfj : f j = if u.testBit j = true then L j t + Fm L S t g (rmv u.testBit j) else 0 := by rw [← hf]
    generalize hb : Fm L S t g u.testBit = b at *
    have bb : b ≤ 2060 := by rw [← hb]; have := fb u.testBit; omega
    have fbd : ∀ s, f s ≤ 2163 := fun s => by
      rw [← hf]
      have h1 := hL s t
      have h2 := fb (rmv u.testBit s)
      show (if u.testBit s = true then L s t + Fm L S t g (rmv u.testBit s) else 0) ≤ 2163
      split <;> omega
    have ab : acc b f j ≤ 2163 := by
      unfold acc
      have := mx_le (f := f) (b := 2163) j (fun i _ => fbd i)
      split <;> omega
    have nx := ih (j + 1) F (mA v 38 u (nI (acc b f (j + 1)))) R (fun y hy => by
      have := h37 y hy
      exact this) (by show upd (v.2.1 38) u _ u = _; rw [pk_us]) (by omega) (by omega)
    obtain ⟨v', p1, p2, p3, p4, p5⟩ := nx
    refine ⟨v', ?_, p2, fun r hr => by rw [p3 r hr]; show (if r = 38 then _ else v.2.1 r) = _; rw [if_neg hr], fun y hy => by rw [p4 y hy]; show upd (v.2.1 38) u _ y = _; rw [pk_un hy], p5⟩
    rw [← p1]
    have l1 : (nI (f j) ≤ nI (acc b f j)) = (f j ≤ acc b f j) := propext (nI_leI (by have := fbd j; omega) (by omega))
    have s0 : ∀ X : Int32, X = nI (f j) → fX10_mostOf_120 x1 x2 (nI t) (nI u) (nI j) X v (fX10_mostOf_71 k159 F) = fX10_mostOf_71 k159 F x1 x2 (nI t) (nI u) (nI (j + 1)) (mA v 38 u (nI (acc b f (j + 1)))) := fun X hX => by
      subst hX
      rw [acc_s]
      by_cases q : f j ≤ acc b f j
      · simp only [fX10_mostOf_120, fX10_mostOf_152, mRn (show u < 256 by omega) (show 256 < 2 ^ 31 by decide), ob_s, h38, l1, if_pos q, mUn (show u < 256 by omega) (show 256 < 2 ^ 31 by decide), nI_1]
      · simp only [fX10_mostOf_120, fX10_mostOf_152, mRn (show u < 256 by omega) (show 256 < 2 ^ 31 by decide), ob_s, h38, l1, if_neg q, mUn (show u < 256 by omega) (show 256 < 2 ^ 31 by decide), nI_1]
    by_cases q : u.testBit j = true
    · rw [if_pos q] at hfj
      have hx : u ^^^ 2 ^ j < 2 ^ S := Nat.xor_lt_two_pow hu (Nat.pow_lt_pow_right (by decide) hjS)
      have e37 := h37 (u ^^^ 2 ^ j) hx
      rw [tb_rm q] at e37
      have e39 := R.2.2 j t hjS ht
      simp only [fX10_mostOf_71, fX10_mostOf_71_b, R.2.1, if_neg cj, bit_1 (show u < 2 ^ 31 by omega) (show j < 32 by omega), if_pos q, i20, mRn (show 20 * j + t < 160 by omega) (show 160 < 2 ^ 31 by decide), ob_s, e39, shl_n (show j < 32 by omega), xor_n, mRn (show u ^^^ 2 ^ j < 256 by omega) (show 256 < 2 ^ 31 by decide), e37]
      exact s0 _ (by rw [nI_add, hfj])
    · rw [if_neg q] at hfj
      simp only [fX10_mostOf_71, fX10_mostOf_71_b, R.2.1, if_neg cj, bit_1 (show u < 2 ^ 31 by omega) (show j < 32 by omega), if_neg q]
      exact s0 _ (by rw [hfj]; rfl)
theorem mo_35 (hS : S ≤ 8) (hT : Tn ≤ 20) (hL : ∀ s t, L s t ≤ 103) {γ t : Nat} (hγ : γ < 2 ^ 31) (ht : t < Tn) (hg : ¬ γ.testBit t = true) (x1 : Int32) (k165 : Int32 → Int32 → Int32 → mS → Option (Int32 × mS)) : ∀ (c u F : Nat) (v : mS), mrd L S Tn v → (∀ u, u < 2 ^ S → v.2.1 37 u = nI (Fm L S t γ.testBit u.testBit)) → (∀ y, y < u → v.2.1 38 y = nI (Fm L S (t + 1) γ.testBit y.testBit)) → u + c = 2 ^ S → c < F → ∃ v', fX10_mostOf_35 k165 F x1 (nI γ) (nI t) (nI u) v = k165 x1 (nI γ) (nI t) v' ∧ v'.1 = v.1 ∧ (∀ r, r ≠ 38 → v'.2.1 r = v.2.1 r) ∧ ∀ y, y < 2 ^ S → v'.2.1 38 y = nI (Fm L S (t + 1) γ.testBit y.testBit) := by
  have hpS : 2 ^ S ≤ 2 ^ 8 := pw2 hS
  intro c
  induction c with
  | zero =>
    intro u F v R h37 h38 hu hF
    obtain ⟨F, rfl⟩ : ∃ F', F = F' + 1 := ⟨F - 1, by omega⟩
    have : u = 2 ^ S := by omega
    subst this
    refine ⟨v, ?_, rfl, fun _ _ => rfl, h38⟩
    show fX10_mostOf_35_b x1 (nI γ) (nI t) (nI (2 ^ S)) v (fX10_mostOf_35 k165 F) k165 = _
    unfold fX10_mostOf_35_b
    rw [R.2.1, shl_n (show S < 32 by omega), if_pos (Int32.le_refl _)]
  | succ c ih =>
    intro u F v R h37 h38 hu hF
    obtain ⟨F, rfl⟩ : ∃ F', F = F' + 1 := ⟨F - 1, by omega⟩
    have huS : u < 2 ^ S := by omega
    have a0 : acc (Fm L S t γ.testBit u.testBit) (fun s => if u.testBit s = true then L s t + Fm L S t γ.testBit (rmv u.testBit s) else 0) 0 = Fm L S t γ.testBit u.testBit := by
      unfold acc mx
      rw [if_neg (by omega)]
    have aS : acc (Fm L S t γ.testBit u.testBit) (fun s => if u.testBit s = true then L s t + Fm L S t γ.testBit (rmv u.testBit s) else 0) S = Fm L S (t + 1) γ.testBit u.testBit := by
      simp only [Fm]
      rw [if_neg hg]
      rfl
    obtain ⟨v1, p1, p2, p3, p4, p5⟩ := mo_71 hS hT hL (g := γ.testBit) ht huS x1 (nI γ) (fun x1 x2 x3 x4 u => fX10_mostOf_35 k165 F x1 x2 x3 (x4 + 1) u) S 0 FU (mA v 38 u (nI (Fm L S t γ.testBit u.testBit))) R (fun y hy => by have := h37 y hy; exact this) (by rw [a0]; show upd (v.2.1 38) u _ u = _; rw [pk_us]) (by omega) (fuel (by omega))
    rw [aS] at p5
    obtain ⟨v2, r1, r2, r3, r4⟩ := ih (u + 1) F v1 (by
      unfold mrd
      rw [p2, p3 39 (by decide)]
      exact R) (fun y hy => by rw [p3 37 (by decide)]; have := h37 y hy; exact this) (fun y hy => by
      by_cases e : y = u
      · rw [e]; exact p5
      · rw [p4 y e]
        show upd (v.2.1 38) u _ y = _
        rw [pk_un e]
        exact h38 y (by omega)) (by omega) (by omega)
    refine ⟨v2, ?_, by rw [r2, p2]; rfl, fun r hr => by rw [r3 r hr, p3 r hr]; show (if r = 38 then _ else v.2.1 r) = _; rw [if_neg hr], r4⟩
    rw [← r1, ← nI_1]
    show fX10_mostOf_35_b x1 (nI γ) (nI t) (nI u) v (fX10_mostOf_35 k165 F) k165 = _
    unfold fX10_mostOf_35_b
    rw [R.2.1, shl_n (show S < 32 by omega), if_neg (nI_ge huS (by omega)), if_pos (by rw [bit_0 hγ (by omega)]; exact hg), mRn (show u < 256 by omega) (show 256 < 2 ^ 31 by decide), ob_s, h37 u huS, mUn (show u < 256 by omega) (show 256 < 2 ^ 31 by decide), ob_s]
    exact p1
theorem mo_168 (hS : S ≤ 8) {γ t : Nat} {f : Nat → Int32} (hγ : γ < 2 ^ 31) (ht : t < 32) (hg : ¬ γ.testBit t = true) (x1 : Int32) (k207 : Int32 → Int32 → Int32 → mS → Option (Int32 × mS)) : ∀ (c u F : Nat) (v : mS), v.1 17 = nI S → (∀ y, y < 2 ^ S → v.2.1 38 y = f y) → (∀ y, y < u → v.2.1 37 y = f y) → u + c = 2 ^ S → c < F → ∃ v', fX10_mostOf_168 k207 F x1 (nI γ) (nI t) (nI u) v = k207 x1 (nI γ) (nI t) v' ∧ v'.1 = v.1 ∧ (∀ r, r ≠ 37 → v'.2.1 r = v.2.1 r) ∧ ∀ y, y < 2 ^ S → v'.2.1 37 y = f y := by
  have hpS : 2 ^ S ≤ 2 ^ 8 := pw2 hS
  intro c
  induction c with
  | zero =>
    intro u F v h17 h38 h37 hu hF
    obtain ⟨F, rfl⟩ : ∃ F', F = F' + 1 := ⟨F - 1, by omega⟩
    have : u = 2 ^ S := by omega
    subst this
    refine ⟨v, ?_, rfl, fun _ _ => rfl, h37⟩
    simp only [fX10_mostOf_168, fX10_mostOf_168_b, h17, shl_n (show S < 32 by omega), if_pos (Int32.le_refl _)]
  | succ c ih =>
    intro u F v h17 h38 h37 hu hF
    obtain ⟨F, rfl⟩ : ∃ F', F = F' + 1 := ⟨F - 1, by omega⟩
    have huS : u < 2 ^ S := by omega
    obtain ⟨v', p1, p2, p3, p4⟩ := ih (u + 1) F (mA v 37 u (f u)) h17 (fun y hy => by have := h38 y hy; exact this) (fun y hy => by
      show upd (v.2.1 37) u _ y = _
      by_cases e : y = u
      · rw [e, pk_us]
      · rw [pk_un e]; exact h37 y (by omega)) (by omega) (by omega)
    refine ⟨v', ?_, p2, fun r hr => by rw [p3 r hr]; show (if r = 37 then _ else v.2.1 r) = _; rw [if_neg hr], p4⟩
    rw [← p1]
    simp only [fX10_mostOf_168, fX10_mostOf_168_b, h17, shl_n (show S < 32 by omega), if_neg (nI_ge huS (show 2 ^ S < 2 ^ 31 by omega)), bit_0 hγ ht, if_pos hg, mRn (show u < 256 by omega) (show 256 < 2 ^ 31 by decide), ob_s, h38 u huS, mUn (show u < 256 by omega) (show 256 < 2 ^ 31 by decide), nI_1]
theorem mo_35g (hS : S ≤ 8) {γ t : Nat} (hγ : γ < 2 ^ 31) (ht : t < 32) (hg : γ.testBit t = true) {v : mS} (h17 : v.1 17 = nI S) (x1 : Int32) (k165 : Int32 → Int32 → Int32 → mS → Option (Int32 × mS)) (F : Nat) : fX10_mostOf_35 k165 (F + 1) x1 (nI γ) (nI t) 0 v = k165 x1 (nI γ) (nI t) v := by
  have hpS : 2 ^ S ≤ 2 ^ 8 := pw2 hS
  have hp0 := Nat.two_pow_pos S
  have nb : ¬ ((nI γ >>> (nI t &&& 31)) &&& 1) = 0 := by rw [bit_0 hγ ht]; exact fun q => q hg
  show fX10_mostOf_35_b x1 (nI γ) (nI t) 0 v (fX10_mostOf_35 k165 F) k165 = _
  unfold fX10_mostOf_35_b
  rw [h17, shl_n (show S < 32 by omega), if_neg (show ¬ nI (2 ^ S) ≤ 0 from nI_nle hp0 (by omega)), if_neg nb]
theorem mo_168g (hS : S ≤ 8) {γ t : Nat} (hγ : γ < 2 ^ 31) (ht : t < 32) (hg : γ.testBit t = true) {v : mS} (h17 : v.1 17 = nI S) (x1 : Int32) (k207 : Int32 → Int32 → Int32 → mS → Option (Int32 × mS)) (F : Nat) : fX10_mostOf_168 k207 (F + 1) x1 (nI γ) (nI t) 0 v = k207 x1 (nI γ) (nI t) v := by
  have hpS : 2 ^ S ≤ 2 ^ 8 := pw2 hS
  have hp0 := Nat.two_pow_pos S
  have nb : ¬ ((nI γ >>> (nI t &&& 31)) &&& 1) = 0 := by rw [bit_0 hγ ht]; exact fun q => q hg
  show fX10_mostOf_168_b x1 (nI γ) (nI t) 0 v (fX10_mostOf_168 k207 F) k207 = _
  unfold fX10_mostOf_168_b
  rw [h17, shl_n (show S < 32 by omega), if_neg (show ¬ nI (2 ^ S) ≤ 0 from nI_nle hp0 (by omega)), if_neg nb]
theorem mo_24 (hS : S ≤ 8) (hT : Tn ≤ 20) (hL : ∀ s t, L s t ≤ 103) {γ θ : Nat} (hγ : γ < 2 ^ 31) (hθ : θ < 2 ^ S) : ∀ (c t F : Nat) (v : mS), mrd L S Tn v → (∀ u, u < 2 ^ S → v.2.1 37 u = nI (Fm L S t γ.testBit u.testBit)) → t + c = Tn → c < F → ∃ v', fX10_mostOf_24 F (nI θ) (nI γ) (nI t) v = some (nI (Fm L S Tn γ.testBit θ.testBit), v') ∧ v'.1 = v.1 ∧ ∀ r, r ≠ 37 → r ≠ 38 → v'.2.1 r = v.2.1 r := by
  have hpS : 2 ^ S ≤ 2 ^ 8 := pw2 hS
  have hp0 := Nat.two_pow_pos S
  intro c
  induction c with
  | zero =>
    intro t F v R h37 ht hF
    obtain ⟨F, rfl⟩ : ∃ F', F = F' + 1 := ⟨F - 1, by omega⟩
    have : t = Tn := by omega
    subst this
    refine ⟨v, ?_, rfl, fun _ _ _ => rfl⟩
    show fX10_mostOf_24_b (nI θ) (nI γ) (nI t) v (fX10_mostOf_24 F) = _
    unfold fX10_mostOf_24_b
    rw [R.1, if_pos (Int32.le_refl _), mRn (show θ < 256 by omega) (show 256 < 2 ^ 31 by decide), ob_s, h37 θ hθ]
  | succ c ih =>
    intro t F v R h37 ht hF
    obtain ⟨F, rfl⟩ : ∃ F', F = F' + 1 := ⟨F - 1, by omega⟩
    have htT : t < Tn := by omega
    by_cases hg : γ.testBit t = true
    · have eq : ∀ u : Nat, Fm L S (t + 1) γ.testBit u.testBit = Fm L S t γ.testBit u.testBit := fun u => Fm_g hg
      obtain ⟨v', p1, p2⟩ := ih (t + 1) F v R (fun u hu => by rw [eq]; exact h37 u hu) (by omega) (by omega)
      refine ⟨v', ?_, p2⟩
      rw [← p1, ← nI_1]
      show fX10_mostOf_24_b (nI θ) (nI γ) (nI t) v (fX10_mostOf_24 F) = _
      unfold fX10_mostOf_24_b
      rw [R.1, if_neg (nI_ge htT (by omega))]
      have e1 : ∀ k165, fX10_mostOf_35 k165 FU (nI θ) (nI γ) (nI t) 0 v = k165 (nI θ) (nI γ) (nI t) v := fun k165 => by
        obtain ⟨Q, hQ⟩ := FU_s
        rw [hQ]
        exact mo_35g hS hγ (by omega) hg R.2.1 (nI θ) k165 Q
      have e2 : ∀ k207, fX10_mostOf_168 k207 FU (nI θ) (nI γ) (nI t) 0 v = k207 (nI θ) (nI γ) (nI t) v := fun k207 => by
        obtain ⟨Q, hQ⟩ := FU_s
        rw [hQ]
        exact mo_168g hS hγ (by omega) hg R.2.1 (nI θ) k207 Q
      rw [e1]
      unfold fX10_mostOf_165
      rw [e2]
      rfl
    · obtain ⟨v1, p1, p2, p3, p4⟩ := mo_35 hS hT hL hγ htT hg (nI θ) (fun x1 x2 x3 u => fX10_mostOf_165 x1 x2 x3 u (fX10_mostOf_24 F)) (2 ^ S) 0 FU v R h37 (fun y hy => absurd hy (Nat.not_lt_zero _)) (by omega) (fuel' (by omega))
      obtain ⟨v2, q1, q2, q3, q4⟩ := mo_168 hS hγ (show t < 32 by omega) hg (nI θ) (fun x1 x2 x3 u => fX10_mostOf_207 x1 x2 x3 u (fX10_mostOf_24 F)) (2 ^ S) 0 FU v1 (by rw [p2]; exact R.2.1) p4 (fun y hy => absurd hy (Nat.not_lt_zero _)) (by omega) (fuel' (by omega))
      obtain ⟨v', r1, r2, r3⟩ := ih (t + 1) F v2 (by
        unfold mrd
        rw [q2, p2, q3 39 (by decide), p3 39 (by decide)]
        exact R) q4 (by omega) (by omega)
      refine ⟨v', ?_, by rw [r2, q2, p2], fun r g1 g2 => by rw [r3 r g1 g2, q3 r g1, p3 r g2]⟩
      rw [← r1, ← nI_1]
      show fX10_mostOf_24_b (nI θ) (nI γ) (nI t) v (fX10_mostOf_24 F) = _
      unfold fX10_mostOf_24_b
      rw [R.1, if_neg (nI_ge htT (by omega))]
      exact p1.trans q1
theorem mo_n (hS : S ≤ 8) (hT : Tn ≤ 20) (hL : ∀ s t, L s t ≤ 103) {γ θ : Nat} (hγ : γ < 2 ^ 31) (hθ : θ < 2 ^ S) {v : mS} (R : mrd L S Tn v) : ∃ v', fX10_mostOf (nI θ) (nI γ) v = some (nI (Fm L S Tn γ.testBit θ.testBit), v') ∧ v'.1 = v.1 ∧ ∀ r, r ≠ 37 → r ≠ 38 → v'.2.1 r = v.2.1 r := by
  have hpS : 2 ^ S ≤ 2 ^ 8 := pw2 hS
  obtain ⟨v1, p1, p2, p3, p4⟩ := mo_2 (nI θ) (nI γ) (fun x1 x2 u => fX10_mostOf_24 FU x1 x2 (0 : Int32) u) 256 0 FU v (by omega) (fuel' (by omega)) (fun u hu => absurd hu (Nat.not_lt_zero _))
  obtain ⟨v2, q1, q2, q3⟩ := mo_24 hS hT hL hγ hθ Tn 0 FU v1 (by
    unfold mrd
    rw [p2, p3 39 (by decide)]
    exact R) (fun u hu => by rw [p4 u (by omega)]; rfl) (by omega) (fuel (by omega))
  refine ⟨v2, ?_, by rw [q2, p2], fun r g1 g2 => by rw [q3 r g1 g2, p3 r g1]⟩
  unfold fX10_mostOf
  exact p1.trans q1
end MM2
