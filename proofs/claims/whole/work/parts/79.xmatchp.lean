/-! matchings: plain functions -/
def mx : Nat → (Nat → Nat) → Nat
  | 0, _ => 0
  | n + 1, f => if mx n f < f n then f n else mx n f
theorem mx_ge {f : Nat → Nat} : ∀ n i, i < n → f i ≤ mx n f := by
  intro n
  induction n with
  | zero => intro i hi; omega
  | succ n ih =>
    intro i hi
    simp only [mx]
    by_cases e : i = n
    · subst e; split <;> omega
    · have := ih i (by omega)
      split <;> omega
theorem mx_le {f : Nat → Nat} {b : Nat} : ∀ n, (∀ i, i < n → f i ≤ b) → mx n f ≤ b := by
  intro n
  induction n with
  | zero => intro _; exact Nat.zero_le _
  | succ n ih =>
    intro h
    have h1 := ih (fun i hi => h i (by omega))
    have h2 := h n (by omega)
    simp only [mx]
    split <;> omega
def rmv (σ : Nat → Bool) (s : Nat) : Nat → Bool := fun i => if i = s then false else σ i
def addg (g : Nat → Bool) (t : Nat) : Nat → Bool := fun i => if i = t then true else g i
theorem rmv_s {σ : Nat → Bool} {s : Nat} : rmv σ s s = false := if_pos rfl
theorem rmv_n {σ : Nat → Bool} {s i : Nat} (h : i ≠ s) : rmv σ s i = σ i := if_neg h
theorem addg_s {g : Nat → Bool} {t : Nat} : addg g t t = true := if_pos rfl
theorem addg_n {g : Nat → Bool} {t i : Nat} (h : i ≠ t) : addg g t i = g i := if_neg h
theorem rmv_c {σ : Nat → Bool} {s r : Nat} : rmv (rmv σ s) r = rmv (rmv σ r) s := by
  funext i
  unfold rmv
  by_cases e1 : i = r <;> by_cases e2 : i = s <;> simp [e1, e2]
/-- the most that the things below T, but those gone, bring to the seekers of a set -/
def Fm (w : Nat → Nat → Nat) (S : Nat) : Nat → (Nat → Bool) → (Nat → Bool) → Nat
  | 0, _, _ => 0
  | T + 1, g, σ => if g T = true then Fm w S T g σ else (if Fm w S T g σ < mx S (fun s => if σ s = true then w s T + Fm w S T g (rmv σ s) else 0) then mx S (fun s => if σ s = true then w s T + Fm w S T g (rmv σ s) else 0) else Fm w S T g σ)
section FM
variable {w : Nat → Nat → Nat} {S : Nat}
theorem Fm_g {T : Nat} {g σ : Nat → Bool} (h : g T = true) : Fm w S (T + 1) g σ = Fm w S T g σ := by
  simp only [Fm]
  rw [if_pos h]
theorem Fm_up {T : Nat} {g σ : Nat → Bool} : Fm w S T g σ ≤ Fm w S (T + 1) g σ := by
  simp only [Fm]
  split
  · exact Nat.le_refl _
  · split <;> omega
theorem Fm_tk {T : Nat} {g σ : Nat → Bool} {s : Nat} (hg : ¬ g T = true) (hs : s < S) (h : σ s = true) : w s T + Fm w S T g (rmv σ s) ≤ Fm w S (T + 1) g σ := by
  have h1 : (if σ s = true then w s T + Fm w S T g (rmv σ s) else 0) ≤ _ := mx_ge (f := fun s => if σ s = true then w s T + Fm w S T g (rmv σ s) else 0) S s hs
  rw [if_pos h] at h1
  simp only [Fm]
  rw [if_neg hg]
  split <;> omega
theorem Fm_le {T b : Nat} {g σ : Nat → Bool} (h1 : Fm w S T g σ ≤ b) (h2 : ¬ g T = true → ∀ s, s < S → σ s = true → w s T + Fm w S T g (rmv σ s) ≤ b) : Fm w S (T + 1) g σ ≤ b := by
  simp only [Fm]
  by_cases hg : g T = true
  · rw [if_pos hg]; exact h1
  · rw [if_neg hg]
    have h3 : mx S (fun s => if σ s = true then w s T + Fm w S T g (rmv σ s) else 0) ≤ b := mx_le S (fun s hs => by
      by_cases e : σ s = true
      · rw [if_pos e]; exact h2 hg s hs e
      · rw [if_neg e]; exact Nat.zero_le _)
    split <;> omega
theorem Fm_cg {g g' : Nat → Bool} : ∀ T (σ : Nat → Bool), (∀ t, t < T → g t = g' t) → Fm w S T g σ = Fm w S T g' σ := by
  intro T
  induction T with
  | zero => intro σ _; rfl
  | succ T ih =>
    intro σ h
    have h1 : ∀ τ, Fm w S T g τ = Fm w S T g' τ := fun τ => ih τ (fun t ht => h t (by omega))
    simp only [Fm]
    rw [h T (by omega), h1]
    simp only [h1]
theorem Fm_mn : ∀ T (g σ τ : Nat → Bool), (∀ s, σ s = true → τ s = true) → Fm w S T g σ ≤ Fm w S T g τ := by
  intro T
  induction T with
  | zero => intro g σ τ _; exact Nat.le_refl _
  | succ T ih =>
    intro g σ τ h
    refine Fm_le (Nat.le_trans (ih g σ τ h) Fm_up) (fun hg s hs hσ => ?_)
    refine Nat.le_trans (Nat.add_le_add_left (ih g (rmv σ s) (rmv τ s) (fun r hr => ?_)) _) (Fm_tk hg hs (h s hσ))
    by_cases e : r = s
    · subst e; rw [rmv_s] at hr; exact absurd hr (by decide)
    · rw [rmv_n e] at hr ⊢; exact h r hr
theorem Fm_rm {T : Nat} {g σ : Nat → Bool} {s : Nat} : Fm w S T g (rmv σ s) ≤ Fm w S T g σ := Fm_mn T g _ _ (fun r hr => by
  by_cases e : r = s
  · subst e; rw [rmv_s] at hr; exact absurd hr (by decide)
  · rw [rmv_n e] at hr; exact hr)
theorem Fm_gn {g g' : Nat → Bool} (h : ∀ t, g t = true → g' t = true) : ∀ T (σ : Nat → Bool), Fm w S T g' σ ≤ Fm w S T g σ := by
  intro T
  induction T with
  | zero => intro σ; exact Nat.le_refl _
  | succ T ih =>
    intro σ
    refine Fm_le (Nat.le_trans (ih σ) Fm_up) (fun hg s hs hσ => ?_)
    exact Nat.le_trans (Nat.add_le_add_left (ih (rmv σ s)) _) (Fm_tk (fun q => hg (h T q)) hs hσ)
theorem Fm_ad {T : Nat} {g σ : Nat → Bool} {t : Nat} : Fm w S T (addg g t) σ ≤ Fm w S T g σ := Fm_gn (fun r hr => by
  by_cases e : r = t
  · subst e; exact addg_s
  · rw [addg_n e]; exact hr) T σ
theorem Fm_ba {B : Nat} (hw : ∀ s t, w s t ≤ B) : ∀ T (g σ : Nat → Bool), Fm w S T g σ ≤ B * T := by
  intro T
  induction T with
  | zero => intro g σ; exact Nat.zero_le _
  | succ T ih =>
    intro g σ
    have h1 := ih g σ
    rw [Nat.mul_succ]
    refine Fm_le (by omega) (fun hg s hs hσ => ?_)
    have h2 := ih g (rmv σ s)
    have h3 := hw s T
    omega
theorem Fm_em : ∀ T (g : Nat → Bool), Fm w S T g (fun _ => false) = 0 := by
  intro T g
  induction T with
  | zero => rfl
  | succ T ih =>
    have : Fm w S (T + 1) g (fun _ => false) ≤ 0 := Fm_le (by rw [ih]; exact Nat.le_refl _) (fun _ s _ h => absurd h (by decide))
    omega
/-- a seeker who takes a thing -/
theorem Fm_d {s : Nat} (hs : s < S) : ∀ T (g σ : Nat → Bool) t, t < T → ¬ g t = true → σ s = true → w s t + Fm w S T (addg g t) (rmv σ s) ≤ Fm w S T g σ := by
  intro T
  induction T with
  | zero => intro g σ t ht; omega
  | succ T ih =>
    intro g σ t ht hg hσ
    by_cases e : t = T
    · subst e
      rw [Fm_g addg_s, Fm_cg t (rmv σ s) (fun r hr => addg_n (g := g) (show r ≠ t by omega))]
      exact Fm_tk hg hs hσ
    · have htT : t < T := by omega
      have i1 := ih g σ t htT hg hσ
      by_cases hgT : g T = true
      · rw [Fm_g (by rw [addg_n (by omega)]; exact hgT), Fm_g hgT]
        exact i1
      · have up : Fm w S T g σ ≤ Fm w S (T + 1) g σ := Fm_up
        have hb : w s t ≤ Fm w S (T + 1) g σ := by omega
        have key : Fm w S (T + 1) (addg g t) (rmv σ s) ≤ Fm w S (T + 1) g σ - w s t := by
          refine Fm_le (by omega) (fun _ r hr hτ => ?_)
          have hrs : r ≠ s := fun q => by rw [q, rmv_s] at hτ; exact absurd hτ (by decide)
          rw [rmv_n hrs] at hτ
          have i2 := ih g (rmv σ r) t htT hg (by rw [rmv_n (fun q => hrs q.symm)]; exact hσ)
          have i3 := Fm_tk (w := w) (S := S) (T := T) (g := g) (σ := σ) (s := r) hgT hr hτ
          rw [rmv_c]
          omega
        omega
/-- all that a seeker may take -/
theorem Fm_c {s : Nat} (hs : s < S) : ∀ T (g σ : Nat → Bool) b, σ s = true → Fm w S T g (rmv σ s) ≤ b → (∀ t, t < T → ¬ g t = true → w s t + Fm w S T (addg g t) (rmv σ s) ≤ b) → Fm w S T g σ ≤ b := by
  intro T
  induction T with
  | zero => intro g σ b _ _ _; exact Nat.zero_le _
  | succ T ih =>
    intro g σ b hσ h1 h2
    refine Fm_le ?_ (fun hg r hr hτ => ?_)
    · refine ih g σ b hσ (Nat.le_trans Fm_up h1) (fun t ht hgt => ?_)
      exact Nat.le_trans (Nat.add_le_add_left Fm_up _) (h2 t (by omega) hgt)
    · by_cases e : r = s
      · subst e
        have := h2 T (by omega) hg
        rw [Fm_g addg_s, Fm_cg T (rmv σ r) (fun t ht => addg_n (g := g) (show t ≠ T by omega))] at this
        exact this
      · have hsr : s ≠ r := fun q => e q.symm
        have k1 := Fm_tk (w := w) (S := S) (T := T) (g := g) (σ := rmv σ s) (s := r) hg hr (by rw [rmv_n e]; exact hτ)
        have i1 := ih g (rmv σ r) (b - w r T) (by rw [rmv_n hsr]; exact hσ) (by rw [rmv_c]; omega) (fun t ht hgt => by
          have k2 := h2 t (by omega) hgt
          have k3 := Fm_tk (w := w) (S := S) (T := T) (g := addg g t) (σ := rmv σ s) (s := r) (by rw [addg_n (by omega)]; exact hg) hr (by rw [rmv_n e]; exact hτ)
          rw [rmv_c]
          omega)
        omega
end FM
/-! the ways as numbers: likenesses together, and a digit for each seeker -/
def pw (s : Nat) : Nat := 21 ^ (7 - s)
def Wm (L : Nat → Nat → Nat) (s t : Nat) : Nat := if L s t = 0 then 0 else L s t * 21 ^ 8 + (20 - t) * pw s
/-- the seekers from j on -/
def frm (S j : Nat) : Nat → Bool := fun i => decide (j ≤ i) && decide (i < S)
theorem frm_r {S j : Nat} : rmv (frm S j) j = frm S (j + 1) := by
  funext i
  unfold rmv frm
  by_cases e : i = j
  · subst e; simp; omega
  · rw [if_neg e]
    have : (j ≤ i) = (j + 1 ≤ i) := propext ⟨fun g => by omega, fun g => by omega⟩
    simp [this]
theorem frm_j {S j : Nat} (h : j < S) : frm S j j = true := by simp [frm, h]
theorem frm_e {S : Nat} : frm S S = fun _ => false := by
  funext i
  unfold frm
  by_cases e : S ≤ i
  · simp [e]
  · simp [e]
/-- the first thing that keeps the best -/
def fit (L : Nat → Nat → Nat) (S Tn j : Nat) (g : Nat → Bool) (t : Nat) : Bool := !g t && (decide (0 < L j t) && decide (L j t + Fm L S Tn (addg g t) (frm S (j + 1)) = Fm L S Tn g (frm S j)))
def fst1 (p : Nat → Bool) : Nat → Nat → Option Nat
  | 0, _ => none
  | n + 1, t => if p t = true then some t else fst1 p n (t + 1)
theorem fst1_s {p : Nat → Bool} : ∀ n t r, fst1 p n t = some r → t ≤ r ∧ r < t + n ∧ p r = true ∧ ∀ i, t ≤ i → i < r → ¬ p i = true := by
  intro n
  induction n with
  | zero => intro t r h; cases h
  | succ n ih =>
    intro t r h
    simp only [fst1] at h
    by_cases e : p t = true
    · rw [if_pos e] at h
      cases h
      exact ⟨Nat.le_refl _, by omega, e, fun i h1 h2 => by omega⟩
    · rw [if_neg e] at h
      obtain ⟨h1, h2, h3, h4⟩ := ih (t + 1) r h
      refine ⟨by omega, by omega, h3, fun i g1 g2 => ?_⟩
      by_cases q : i = t
      · subst q; exact e
      · exact h4 i (by omega) g2
theorem fst1_n {p : Nat → Bool} : ∀ n t, fst1 p n t = none → ∀ i, t ≤ i → i < t + n → ¬ p i = true := by
  intro n
  induction n with
  | zero => intro t _ i h1 h2; omega
  | succ n ih =>
    intro t h i h1 h2
    simp only [fst1] at h
    by_cases e : p t = true
    · rw [if_pos e] at h; cases h
    · rw [if_neg e] at h
      by_cases q : i = t
      · subst q; exact e
      · exact ih (t + 1) h i (by omega) (by omega)
def chc (L : Nat → Nat → Nat) (S Tn j : Nat) (g : Nat → Bool) : Option Nat := fst1 (fit L S Tn j g) Tn 0
def nxg (g : Nat → Bool) : Option Nat → Nat → Bool
  | none => g
  | some t => addg g t
def dgv : Option Nat → Nat
  | none => 0
  | some t => 20 - t
def wcd (L : Nat → Nat → Nat) (S Tn : Nat) : Nat → Nat → (Nat → Bool) → Nat
  | 0, _, _ => 0
  | n + 1, j, g => dgv (chc L S Tn j g) * pw j + wcd L S Tn n (j + 1) (nxg g (chc L S Tn j g))
theorem p21 {a b : Nat} (h : a ≤ b) : 21 ^ a ≤ 21 ^ b := Nat.pow_le_pow_right (by decide) h
theorem pw_s {j : Nat} (h : j < 7) : pw j = 21 * pw (j + 1) := by
  unfold pw
  rw [show 7 - j = (7 - (j + 1)) + 1 by omega, Nat.pow_succ, Nat.mul_comm]
theorem dgv_b (o : Option Nat) : dgv o ≤ 20 := by
  cases o with
  | none => exact Nat.zero_le _
  | some t => exact Nat.sub_le 20 t
theorem wcd_b {L : Nat → Nat → Nat} {S Tn : Nat} (hS : S ≤ 8) : ∀ n j g, j + n = S → wcd L S Tn n j g < 21 ^ (8 - j) := by
  intro n
  induction n with
  | zero => intro j g h; exact Nat.pow_pos (by decide)
  | succ n ih =>
    intro j g h
    have i1 := ih (j + 1) (nxg g (chc L S Tn j g)) (by omega)
    have d := dgv_b (chc L S Tn j g)
    have e1 : 21 ^ (8 - (j + 1)) = pw j := by unfold pw; congr 1; omega
    have e2 : 21 ^ (8 - j) = 21 * pw j := by unfold pw; rw [show 8 - j = (7 - j) + 1 by omega, Nat.pow_succ, Nat.mul_comm]
    rw [e1] at i1
    rw [e2]
    simp only [wcd]
    have : dgv (chc L S Tn j g) * pw j ≤ 20 * pw j := Nat.mul_le_mul_right _ d
    omega
theorem opt_n {L : Nat → Nat → Nat} {S Tn j : Nat} {g : Nat → Bool} (hj : j < S) (hn : chc L S Tn j g = none) : Fm L S Tn g (frm S j) = Fm L S Tn g (frm S (j + 1)) := by
  have up : Fm L S Tn g (frm S (j + 1)) ≤ Fm L S Tn g (frm S j) := by rw [← frm_r]; exact Fm_rm
  rcases Nat.lt_or_ge (Fm L S Tn g (frm S (j + 1))) (Fm L S Tn g (frm S j)) with q | q
  · have := Fm_c (w := L) (S := S) hj Tn g (frm S j) (Fm L S Tn g (frm S j) - 1) (frm_j hj) (by rw [frm_r]; omega) (fun t ht hg => by
      rw [frm_r]
      have d := Fm_d (w := L) (S := S) hj Tn g (frm S j) t ht hg (frm_j hj)
      rw [frm_r] at d
      have a := Fm_ad (w := L) (S := S) (T := Tn) (g := g) (σ := frm S (j + 1)) (t := t)
      have nf := fst1_n Tn 0 hn t (by omega) (by omega)
      have nf' : ¬ (0 < L j t ∧ L j t + Fm L S Tn (addg g t) (frm S (j + 1)) = Fm L S Tn g (frm S j)) := fun h => nf (by simp [fit, hg, h.1, h.2])
      omega)
    omega
  · omega
theorem opt_s {L : Nat → Nat → Nat} {S Tn j t : Nat} {g : Nat → Bool} (hs : chc L S Tn j g = some t) : t < Tn ∧ ¬ g t = true ∧ 0 < L j t ∧ L j t + Fm L S Tn (addg g t) (frm S (j + 1)) = Fm L S Tn g (frm S j) ∧ ∀ i, i < t → ¬ fit L S Tn j g i = true := by
  obtain ⟨h1, h2, h3, h4⟩ := fst1_s Tn 0 t hs
  unfold fit at h3
  simp only [Bool.and_eq_true, Bool.not_eq_true', decide_eq_true_eq] at h3
  exact ⟨by omega, by rw [h3.1]; decide, h3.2.1, h3.2.2, fun i hi => h4 i (by omega) hi⟩
theorem way {L : Nat → Nat → Nat} {S Tn : Nat} (hS : S ≤ 8) (hT : Tn ≤ 20) : ∀ n j g, j + n = S → Fm (Wm L) S Tn g (frm S j) = Fm L S Tn g (frm S j) * 21 ^ 8 + wcd L S Tn n j g := by
  intro n
  induction n with
  | zero =>
    intro j g h
    have : j = S := by omega
    subst this
    rw [frm_e, Fm_em, Fm_em]
    rfl
  | succ n ih =>
    intro j g h
    have hj : j < S := by omega
    have e1 : 21 ^ (8 - (j + 1)) = pw j := by unfold pw; congr 1; omega
    have e2 : 21 ^ (8 - j) = 21 * pw j := by unfold pw; rw [show 8 - j = (7 - j) + 1 by omega, Nat.pow_succ, Nat.mul_comm]
    have e3 : 21 * pw j ≤ 21 ^ 8 := by rw [← e2]; exact p21 (by omega)
    have hp : 0 < pw j := Nat.pow_pos (by decide)
    have cb : ∀ g', wcd L S Tn n (j + 1) g' < pw j := fun g' => by rw [← e1]; exact wcd_b hS n (j + 1) g' (by omega)
    have i0 := ih (j + 1) g (by omega)
    have up : Fm L S Tn g (frm S (j + 1)) ≤ Fm L S Tn g (frm S j) := by rw [← frm_r]; exact Fm_rm
    have mm : ∀ a b : Nat, a < b → a * 21 ^ 8 + 21 ^ 8 ≤ b * 21 ^ 8 := fun a b hab => by
      have : (a + 1) * 21 ^ 8 ≤ b * 21 ^ 8 := Nat.mul_le_mul_right _ hab
      rw [Nat.add_mul, Nat.one_mul] at this
      exact this
    -- no more than that
    have hle : Fm (Wm L) S Tn g (frm S j) ≤ Fm L S Tn g (frm S j) * 21 ^ 8 + wcd L S Tn (n + 1) j g := by
      have first : Fm (Wm L) S Tn g (frm S (j + 1)) ≤ Fm L S Tn g (frm S j) * 21 ^ 8 + wcd L S Tn (n + 1) j g := by
        rw [i0]
        have c0 := cb g
        rcases Nat.lt_or_ge (Fm L S Tn g (frm S (j + 1))) (Fm L S Tn g (frm S j)) with q | q
        · have := mm _ _ q
          omega
        · have eq : Fm L S Tn g (frm S (j + 1)) = Fm L S Tn g (frm S j) := by omega
          rw [eq]
          simp only [wcd]
          cases hc : chc L S Tn j g with
          | none => simp only [dgv, nxg]; omega
          | some t =>
            obtain ⟨o1, -⟩ := opt_s hc
            simp only [dgv, nxg]
            have : 1 * pw j ≤ (20 - t) * pw j := Nat.mul_le_mul_right _ (by omega)
            omega
      refine Fm_c (w := Wm L) (S := S) hj Tn g (frm S j) _ (frm_j hj) (by rw [frm_r]; exact first) (fun t ht hg => ?_)
      rw [frm_r]
      by_cases z : L j t = 0
      · have : Wm L j t = 0 := if_pos z
        rw [this, Nat.zero_add]
        exact Nat.le_trans Fm_ad first
      · have ew : Wm L j t = L j t * 21 ^ 8 + (20 - t) * pw j := if_neg z
        have it := ih (j + 1) (addg g t) (by omega)
        have d := Fm_d (w := L) (S := S) hj Tn g (frm S j) t ht hg (frm_j hj)
        rw [frm_r] at d
        have c1 := cb (addg g t)
        have dt : (20 - t) * pw j ≤ 20 * pw j := Nat.mul_le_mul_right _ (by omega)
        have es : L j t * 21 ^ 8 + Fm L S Tn (addg g t) (frm S (j + 1)) * 21 ^ 8 = (L j t + Fm L S Tn (addg g t) (frm S (j + 1))) * 21 ^ 8 := by rw [Nat.add_mul]
        rw [ew, it]
        rcases Nat.lt_or_ge (L j t + Fm L S Tn (addg g t) (frm S (j + 1))) (Fm L S Tn g (frm S j)) with q | q
        · have := mm _ _ q
          generalize 21 ^ 8 = Q at *
          omega
        · have eq : L j t + Fm L S Tn (addg g t) (frm S (j + 1)) = Fm L S Tn g (frm S j) := by omega
          have fit1 : fit L S Tn j g t = true := by simp [fit, hg, eq, show 0 < L j t by omega]
          rw [eq] at es
          simp only [wcd]
          cases hc : chc L S Tn j g with
          | none => exact absurd fit1 (fst1_n Tn 0 hc t (by omega) (by omega))
          | some u =>
            obtain ⟨o1, o2, o3, o4, o5⟩ := opt_s hc
            simp only [dgv, nxg]
            rcases Nat.lt_trichotomy u t with lt | lt | lt
            · have a1 : (20 - t + 1) * pw j ≤ (20 - u) * pw j := Nat.mul_le_mul_right _ (by omega)
              rw [Nat.add_mul, Nat.one_mul] at a1
              omega
            · subst lt
              omega
            · exact absurd fit1 (o5 t lt)
    -- and no less
    have hge : Fm L S Tn g (frm S j) * 21 ^ 8 + wcd L S Tn (n + 1) j g ≤ Fm (Wm L) S Tn g (frm S j) := by
      simp only [wcd]
      cases hc : chc L S Tn j g with
      | none =>
        simp only [dgv, nxg]
        rw [opt_n hj hc, Nat.zero_mul, Nat.zero_add, ← i0, ← frm_r]
        exact Fm_rm
      | some t =>
        obtain ⟨o1, o2, o3, o4, o5⟩ := opt_s hc
        simp only [dgv, nxg]
        have d := Fm_d (w := Wm L) (S := S) hj Tn g (frm S j) t o1 o2 (frm_j hj)
        rw [frm_r, ih (j + 1) (addg g t) (by omega)] at d
        have ew : Wm L j t = L j t * 21 ^ 8 + (20 - t) * pw j := if_neg (by omega)
        rw [ew] at d
        have es : L j t * 21 ^ 8 + Fm L S Tn (addg g t) (frm S (j + 1)) * 21 ^ 8 = (L j t + Fm L S Tn (addg g t) (frm S (j + 1))) * 21 ^ 8 := by rw [Nat.add_mul]
        rw [o4] at es
        generalize 21 ^ 8 = Q at *
        omega
    omega
/-- the thing of a seeker -/
def mth (L : Nat → Nat → Nat) (S Tn : Nat) : Nat → Nat → (Nat → Bool) → Nat → Option Nat
  | 0, _, _, _ => none
  | n + 1, j, g, s => if s = j then chc L S Tn j g else mth L S Tn n (j + 1) (nxg g (chc L S Tn j g)) s
theorem wcd_d {L : Nat → Nat → Nat} {S Tn : Nat} (hS : S ≤ 8) : ∀ n j g s, j + n = S → j ≤ s → s < S → wcd L S Tn n j g / pw s % 21 = dgv (mth L S Tn n j g s) := by
  intro n
  induction n with
  | zero => intro j g s h h1 h2; omega
  | succ n ih =>
    intro j g s h h1 h2
    have e1 : 21 ^ (8 - (j + 1)) = pw j := by unfold pw; congr 1; omega
    have cb : wcd L S Tn n (j + 1) (nxg g (chc L S Tn j g)) < pw j := by rw [← e1]; exact wcd_b hS n (j + 1) _ (by omega)
    have d := dgv_b (chc L S Tn j g)
    have hp : 0 < pw j := Nat.pow_pos (by decide)
    have hps : 0 < pw s := Nat.pow_pos (by decide)
    simp only [wcd, mth]
    by_cases e : s = j
    · subst e
      rw [if_pos rfl, Nat.mul_comm, Nat.mul_add_div hp, Nat.div_eq_of_lt cb, Nat.add_zero, Nat.mod_eq_of_lt (by omega)]
    · rw [if_neg e, ← ih (j + 1) (nxg g (chc L S Tn j g)) s (by omega) (by omega) h2]
      have e4 : pw j = pw s * (21 * 21 ^ (s - j - 1)) := by
        unfold pw
        rw [← Nat.pow_succ', ← Nat.pow_add]
        congr 1
        omega
      rw [e4, ← Nat.mul_assoc, Nat.mul_comm _ (pw s), Nat.mul_assoc, Nat.mul_add_div hps]
      rw [Nat.mul_left_comm, Nat.add_comm, Nat.add_mul_mod_self_left]
theorem way_d {L : Nat → Nat → Nat} {S Tn s : Nat} (hS : S ≤ 8) (hT : Tn ≤ 20) (hs : s < S) (g : Nat → Bool) : Fm (Wm L) S Tn g (frm S 0) / pw s % 21 = dgv (mth L S Tn S 0 g s) ∧ Fm (Wm L) S Tn g (frm S 0) / 21 ^ 8 = Fm L S Tn g (frm S 0) := by
  have hw := way (L := L) hS hT S 0 g (by omega)
  have cb := wcd_b (L := L) (Tn := Tn) hS S 0 g (by omega)
  have hps : 0 < pw s := Nat.pow_pos (by decide)
  rw [hw]
  refine ⟨?_, ?_⟩
  · rw [← wcd_d hS S 0 g s (by omega) (by omega) hs]
    have e4 : 21 ^ 8 = pw s * (21 * 21 ^ s) := by
      unfold pw
      rw [← Nat.pow_succ', ← Nat.pow_add]
      congr 1
      omega
    rw [e4, ← Nat.mul_assoc, Nat.mul_comm _ (pw s), Nat.mul_assoc, Nat.mul_add_div hps]
    rw [Nat.mul_left_comm, Nat.add_comm, Nat.add_mul_mod_self_left]
  · rw [Nat.mul_comm, Nat.mul_add_div (by decide), Nat.div_eq_of_lt cb, Nat.add_zero]
