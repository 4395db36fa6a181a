/-! new cells; a thing becomes -/
def uA (A : Nat → Nat → Nat → Nat) (κ i j a : Nat) : Nat → Nat → Nat → Nat := fun κ' i' j' => if κ' = κ ∧ i' = i ∧ j' = j then a else A κ' i' j'
def uM (M : Nat → Nat → Nat) (a b n : Nat) : Nat → Nat → Nat := fun a' b' => if a' = a ∧ b' = b then n else M a' b'
theorem pV_u {cs : List Nat} {G : gM} {a ci k : Nat} {fs : List Value} {v : Value} (h : cs.contains ci = true) (hk : k < fs.length) : pV cs k v (va_up G a (some (.inr (ci, fs)))) a = some (va_up G a (some (.inr (ci, fs.set k v)))) := by
  rw [pV_n up_s h hk, up_up]
section MN
variable {z : Nat → Nat} {h : Nat} {A : Nat → Nat → Nat → Nat} {M : Nat → Nat → Nat} {I : Nat → Nat → Int32} {T : Nat → Nat → Nat → Int32} {J : Nat → Nat → Int64} {rl : Nat → Nat × Nat × Nat} {G : gM} {N : Nat}
/-- a new cell, and a write at one that is there -/
theorem Mem.al2 (R : Mem z h A M I T J rl G N) (κ i j κ2 i2 j2 : Nat) (hl2 : lv M I κ2 i2 j2) {M' : Nat → Nat → Nat} {I' : Nat → Nat → Int32} {T' : Nat → Nat → Nat → Int32} {J' : Nat → Nat → Int64} {A' : Nat → Nat → Nat → Nat} {c c2 : gE} (hb : xB M') (hA : A' κ i j = N) (hc : cl z A' M' I' T' J' κ i j = c) (hc2 : cl z A' M' I' T' J' κ2 i2 j2 = c2) (hne : (κ, i, j) ≠ (κ2, i2, j2))
    (hf : ∀ κ' i' j', lv M' I' κ' i' j' → (κ', i', j') = (κ, i, j) ∨ (lv M I κ' i' j' ∧ A' κ' i' j' = A κ' i' j' ∧ ((κ', i', j') = (κ2, i2, j2) ∨ cl z A' M' I' T' J' κ' i' j' = cl z A M I T J κ' i' j'))) (h0 : A' 0 0 0 = A 0 0 0) : Mem z h A' M' I' T' J' (va_up rl N (κ, i, j)) (va_up (va_up G N (some c)) (A κ2 i2 j2) (some c2)) (N + 1) := by
  have h2 := R.lt hl2
  refine ⟨⟨h0.trans R.1.1, by have := R.1.2.1; omega, ?_, fun a ha => ?_, hb⟩, fun κ' i' j' h' => ?_⟩
  · rw [up_n (R.nz hl2).symm, up_n (by have := R.1.2.1; omega)]; exact R.1.2.2.1
  · rw [up_n (by omega), up_n (by omega)]; exact R.1.2.2.2.1 a (by omega)
  · rcases hf κ' i' j' h' with e | ⟨h1, h3, h4⟩
    · cases e
      rw [hA, up_n (by omega), up_s, up_s, hc]
      exact ⟨rfl, rfl⟩
    · have h5 := R.lt h1
      rw [h3]
      refine ⟨?_, by rw [up_n (by omega)]; exact (R.2 κ' i' j' h1).2⟩
      by_cases e : A κ' i' j' = A κ2 i2 j2
      · have e2 : (κ', i', j') = (κ2, i2, j2) := by rw [← (R.2 κ' i' j' h1).2, ← (R.2 κ2 i2 j2 hl2).2, e]
        cases e2
        rw [up_s, hc2]
      · rw [up_n e, up_n (by omega)]
        rcases h4 with h4 | h4
        · cases h4; exact absurd rfl e
        · rw [h4]; exact R.c κ' i' j' h1
/-- two writes -/
theorem Mem.wr2 (R : Mem z h A M I T J rl G N) (κ i j κ2 i2 j2 : Nat) (hl : lv M I κ i j) (hl2 : lv M I κ2 i2 j2) {M' : Nat → Nat → Nat} {I' : Nat → Nat → Int32} {T' : Nat → Nat → Nat → Int32} {J' : Nat → Nat → Int64} {c c2 : gE} (hb : xB M') (hc : cl z A M' I' T' J' κ i j = c) (hc2 : cl z A M' I' T' J' κ2 i2 j2 = c2) (hne : (κ, i, j) ≠ (κ2, i2, j2))
    (hf : ∀ κ' i' j', lv M' I' κ' i' j' → lv M I κ' i' j' ∧ ((κ', i', j') = (κ, i, j) ∨ (κ', i', j') = (κ2, i2, j2) ∨ cl z A M' I' T' J' κ' i' j' = cl z A M I T J κ' i' j')) : Mem z h A M' I' T' J' rl (va_up (va_up G (A κ i j) (some c)) (A κ2 i2 j2) (some c2)) N := by
  have h1 := R.lt hl
  have h2 := R.lt hl2
  refine ⟨⟨R.1.1, R.1.2.1, ?_, fun a ha => ?_, hb⟩, fun κ' i' j' h' => ?_⟩
  · rw [up_n (R.nz hl2).symm, up_n (R.nz hl).symm]; exact R.1.2.2.1
  · rw [up_n (by omega), up_n (by omega)]; exact R.1.2.2.2.1 a (by omega)
  · obtain ⟨h3, h4⟩ := hf κ' i' j' h'
    refine ⟨?_, (R.2 κ' i' j' h3).2⟩
    by_cases e : A κ' i' j' = A κ2 i2 j2
    · have e2 : (κ', i', j') = (κ2, i2, j2) := by rw [← (R.2 κ' i' j' h3).2, ← (R.2 κ2 i2 j2 hl2).2, e]
      cases e2
      rw [up_s, hc2]
    · rw [up_n e]
      by_cases e3 : A κ' i' j' = A κ i j
      · have e2 : (κ', i', j') = (κ, i, j) := by rw [← (R.2 κ' i' j' h3).2, ← (R.2 κ i j hl).2, e3]
        cases e2
        rw [up_s, hc]
      · rw [up_n e3]
        rcases h4 with h4 | h4 | h4
        · cases h4; exact absurd rfl e3
        · cases h4; exact absurd rfl e
        · rw [h4]; exact R.c κ' i' j' h3
/-- cells that were made beyond N0 come to roles of their own -/
theorem Mem.grow (R : Mem z h A M I T J rl G N) {G' : gM} {N' : Nat} (hN : N ≤ N') (hag : ∀ a, a < N → G' a = G a) (hout : ∀ a, N' ≤ a → G' a = none) {A' : Nat → Nat → Nat → Nat} {M' : Nat → Nat → Nat} {I' : Nat → Nat → Int32} {T' : Nat → Nat → Nat → Int32} {J' : Nat → Nat → Int64} {rl2 : Nat → Nat × Nat × Nat} (hb : xB M') (h0 : A' 0 0 0 = A 0 0 0)
    (hf : ∀ κ' i' j', lv M' I' κ' i' j' → (lv M I κ' i' j' ∧ A' κ' i' j' = A κ' i' j' ∧ cl z A' M' I' T' J' κ' i' j' = cl z A M I T J κ' i' j') ∨ (N ≤ A' κ' i' j' ∧ G' (A' κ' i' j') = some (cl z A' M' I' T' J' κ' i' j') ∧ rl2 (A' κ' i' j') = (κ', i', j'))) : Mem z h A' M' I' T' J' (fun a => if a < N then rl a else rl2 a) G' N' := by
  refine ⟨⟨h0.trans R.1.1, by have := R.1.2.1; omega, ?_, hout, hb⟩, fun κ' i' j' h' => ?_⟩
  · rw [hag _ R.1.2.1]; exact R.1.2.2.1
  · rcases hf κ' i' j' h' with ⟨h1, h2, h3⟩ | ⟨h1, h2, h3⟩
    · have h4 := R.lt h1
      rw [h2, h3, hag _ h4]
      refine ⟨R.c κ' i' j' h1, ?_⟩
      show (if A κ' i' j' < N then _ else _) = _
      rw [if_pos h4]
      exact (R.2 κ' i' j' h1).2
    · refine ⟨h2, ?_⟩
      show (if A' κ' i' j' < N then _ else _) = _
      rw [if_neg (by omega)]
      exact h3
/-- what a becoming leaves as it was, and what it adds -/
def becR (A : Nat → Nat → Nat → Nat) (M : Nat → Nat → Nat) (T : Nat → Nat → Nat → Int32) (t : Nat) (st d : Int32) (A' : Nat → Nat → Nat → Nat) (M' : Nat → Nat → Nat) (T' : Nat → Nat → Nat → Int32) : Prop :=
  (∀ κ, κ ≠ 10 → A' κ = A κ) ∧ (∀ a, a ≠ 4 → M' a = M a) ∧ (∀ t', t' ≠ t → M' 4 t' = M 4 t' ∧ T' 3 t' = T 3 t' ∧ T' 4 t' = T 4 t') ∧ M' 4 t ≤ M 4 t + 1 ∧ (∀ q, q < 3 → T' q = T q) ∧ ∀ d', sb T' t d' (M' 4 t) = if d ≤ d' then st else sb T t d' (M 4 t)
theorem sb_cg {T T' : Nat → Nat → Nat → Int32} {t n : Nat} (h3 : ∀ j, j < n → T' 3 t j = T 3 t j ∧ T' 4 t j = T 4 t j) (d : Int32) : sb T' t d n = sb T t d n :=
  itN_cg (fun j hj a => by rw [(h3 j hj).1, (h3 j hj).2]) (-1)
theorem xB_4 (hb : xB M) {t n : Nat} : xB (uM M 4 t n) := by
  obtain ⟨h1, h2, h3, h4, h5⟩ := hb
  exact ⟨by simpa [uM] using h1, by simpa [uM] using h2, by simpa [uM] using h3, by simpa [uM] using h4, by simpa [uM] using h5⟩
theorem bec_new (R : Mem z h A M I T J rl G N) {t : Nat} (ht : t < M 2 0) (st d : Int32) (s : Nat) : ∃ G', fX8_become_34 (A 4 t 0) st d (G, N, s) = some (G', N + 1, s + 3) ∧ Mem z h (uA A 10 t (M 4 t) N) (uM M 4 t (M 4 t + 1)) I (u3 (u3 T 3 t (M 4 t) d) 4 t (M 4 t) st) J (va_up rl N (10, t, M 4 t)) G' (N + 1) := by
  have hlt := R.lt (show lv M I 4 t 0 from ⟨ht, rfl⟩)
  have hne : A 4 t 0 ≠ N := by omega
  generalize hc : (va_rf (if M 4 t = 0 then none else some (A 10 t (M 4 t - 1)))) = pr
  obtain ⟨ci, more, m1, m2⟩ := R.tc ht
  have e1 : ∀ c : Option gE, gR [9, 6] 11 (va_up G N c) (A 4 t 0) = some (if M 4 t = 0 then none else some (A 10 t (M 4 t - 1))) := fun c => by
    refine gR_n (ci := ci) (fs := thL A M I t ++ more) ?_ (ct96 m1) rfl
    rw [up_n hne]; exact m2
  have e2 : fX1_init N d st (if M 4 t = 0 then none else some (A 10 t (M 4 t - 1))) (va_up G N (some (.inr (2, [.int 0, .null, .int 0])))) = some (va_up G N (some (.inr (2, [.int d, pr, .int st])))) := by
    rw [fX1_init, pV_u rfl (by simp), ob_s, pV_u rfl (by simp), ob_s, pV_u rfl (by simp), ob_s, hc]
    rfl
  have fr : ∀ κ' i' j', lv (uM M 4 t (M 4 t + 1)) I κ' i' j' → (κ', i', j') = (10, t, M 4 t) ∨ (lv M I κ' i' j' ∧ uA A 10 t (M 4 t) N κ' i' j' = A κ' i' j' ∧ ((κ', i', j') = (4, t, 0) ∨ cl z (uA A 10 t (M 4 t) N) (uM M 4 t (M 4 t + 1)) I (u3 (u3 T 3 t (M 4 t) d) 4 t (M 4 t) st) J κ' i' j' = cl z A M I T J κ' i' j')) := by
    intro κ' i' j' hl
    match κ', hl with
    | 0, hl => exact .inr ⟨hl, by simp [uA], .inr (by simp [cl, uA])⟩
    | 1, hl =>
      refine .inr ⟨by simpa [lv, uM] using hl, by simp [uA], .inr ?_⟩
      simp only [cl, eA, uA, uM]
      simp
    | 2, hl => exact .inr ⟨by simpa [lv, uM] using hl, by simp [uA], .inr (by simp [cl, uA, uM])⟩
    | 3, hl =>
      refine .inr ⟨hl, by simp [uA], .inr ?_⟩
      obtain ⟨hi, hj⟩ := hl
      show fxC _ _ _ _ = fxC _ _ _ _
      unfold fxC
      simp [uA]
    | 4, hl =>
      refine .inr ⟨by simpa [lv, uM] using hl, by simp [uA], ?_⟩
      by_cases e : i' = t
      · exact .inl (by rw [e, hl.2])
      · exact .inr (by simp [cl, thL, uA, uM, e])
    | 5, hl => exact .inr ⟨by simpa [lv, uM] using hl, by simp [uA], .inr (by simp [cl, uA, uM])⟩
    | 6, hl => exact .inr ⟨by simpa [lv, uM] using hl, by simp [uA], .inr (by simp [cl])⟩
    | 7, hl => exact .inr ⟨by simpa [lv, uM] using hl, by simp [uA], .inr (by simp [cl, u3])⟩
    | 8, hl => exact .inr ⟨by simpa [lv, uM] using hl, by simp [uA], .inr (by simp [cl, u3])⟩
    | 9, hl => exact .inr ⟨by simpa [lv, uM] using hl, by simp [uA], .inr (by simp [cl, u3])⟩
    | 10, hl =>
      by_cases e : i' = t
      · subst e
        by_cases e2 : j' = M 4 i'
        · exact .inl (by rw [e2])
        · have hl2 : i' < M 2 0 ∧ j' < M 4 i' := by
            have h1 : i' < M 2 0 := by simpa [uM] using hl.1
            have h2 : j' < M 4 i' + 1 := by simpa [uM] using hl.2
            exact ⟨h1, by omega⟩
          have e3 : j' - 1 ≠ M 4 i' := by omega
          exact .inr ⟨hl2, by simp [uA, e2], .inr (by simp [cl, uA, u3, upd, e2, e3])⟩
      · have hl2 : i' < M 2 0 ∧ j' < M 4 i' := by
          have h1 : i' < M 2 0 := by simpa [uM] using hl.1
          have h2 : j' < M 4 i' := by simpa [uM, e] using hl.2
          exact ⟨h1, h2⟩
        exact .inr ⟨hl2, by simp [uA, e], .inr (by simp [cl, uA, u3, e])⟩
    | κ' + 11, hl => exact absurd hl (by simp [lv])
  have hcc : cl z (uA A 10 t (M 4 t) N) (uM M 4 t (M 4 t + 1)) I (u3 (u3 T 3 t (M 4 t) d) 4 t (M 4 t) st) J 10 t (M 4 t) = .inr (2, [.int d, pr, .int st]) := by
    rw [← hc]
    by_cases e : M 4 t = 0
    · simp [cl, u3, upd, e]
    · have e3 : M 4 t - 1 ≠ M 4 t := by omega
      simp [cl, u3, upd, e, uA, e3]
  have e3 : bI (nwO 2 [.int 0, .null, .int 0] (G, N, s)) (fun q35 u35 => fX8_become_38 (A 4 t 0) st d (some q35) u35) = fX8_become_38 (A 4 t 0) st d (some N) (va_up G N (some (.inr (2, [.int 0, .null, .int 0]))), N + 1, s + 3) := rfl
  unfold fX8_become_34
  rw [e3]
  unfold fX8_become_38
  simp only [e1, ob_s, e2, wN_s]
  have m3 : va_up G N (some (.inr (2, [.int d, pr, .int st]))) (A 4 t 0) = some (.inr (ci, thL A M I t ++ more)) := by rw [up_n hne]; exact m2
  by_cases e : I 10 t = 3
  · have m4 : va_up G N (some (.inr (2, [.int d, pr, .int st]))) (A 4 t 0) = some (.inr (6, thL A M I t ++ [.ref (A 8 t 0)])) := by rw [up_n hne]; exact R.tp ht e
    rw [pV_n m4 rfl (by simp [thL])]
    refine ⟨_, rfl, R.al2 10 t (M 4 t) 4 t 0 ⟨ht, rfl⟩ (xB_4 R.b) (by simp [uA]) hcc ?_ (by simp) fr (by simp [uA])⟩
    simp [cl, thL, uA, uM, e, va_rf]
  · have m4 : va_up G N (some (.inr (2, [.int d, pr, .int st]))) (A 4 t 0) = some (.inr (9, thL A M I t)) := by rw [up_n hne]; exact R.tq ht e
    rw [pV_n m4 rfl (by simp [thL])]
    refine ⟨_, rfl, R.al2 10 t (M 4 t) 4 t 0 ⟨ht, rfl⟩ (xB_4 R.b) (by simp [uA]) hcc ?_ (by simp) fr (by simp [uA])⟩
    simp [cl, thL, uA, uM, e, va_rf]
theorem becR_new {t : Nat} (st d : Int32) : becR A M T t st d (uA A 10 t (M 4 t) N) (uM M 4 t (M 4 t + 1)) (u3 (u3 T 3 t (M 4 t) d) 4 t (M 4 t) st) := by
  refine ⟨fun κ hκ => ?_, fun a ha => ?_, fun t' ht' => ⟨?_, ?_, ?_⟩, ?_, fun q hq => ?_, fun d' => ?_⟩
  · funext i j; simp [uA, hκ]
  · funext b; simp [uM, ha]
  · simp [uM, ht']
  · funext j; simp [u3, ht']
  · funext j; simp [u3, ht']
  · simp [uM]
  · funext a b
    have h1 : q ≠ 3 := by omega
    have h2 : q ≠ 4 := by omega
    simp [u3, h1, h2]
  · have e1 : uM M 4 t (M 4 t + 1) 4 t = M 4 t + 1 := by simp [uM]
    rw [e1]
    show (if u3 (u3 T 3 t (M 4 t) d) 4 t (M 4 t) st 3 t (M 4 t) ≤ d' then u3 (u3 T 3 t (M 4 t) d) 4 t (M 4 t) st 4 t (M 4 t) else sb _ t d' (M 4 t)) = _
    rw [show u3 (u3 T 3 t (M 4 t) d) 4 t (M 4 t) st 3 t (M 4 t) = d by simp [u3, upd], show u3 (u3 T 3 t (M 4 t) d) 4 t (M 4 t) st 4 t (M 4 t) = st by simp [u3, upd]]
    rw [sb_cg (T := T) (fun j hj => ⟨by
      have : j ≠ M 4 t := by omega
      simp [u3, upd, this], by
      have : j ≠ M 4 t := by omega
      simp [u3, upd, this]⟩)]
theorem bec (R : Mem z h A M I T J rl G N) {t : Nat} (ht : t < M 2 0) (st d : Int32) (s : Nat) : ∃ A' M' T' rl' G' N' s', fX8_become (A 4 t 0) st d (G, N, s) = some (G', N', s') ∧ (N' ≤ N + 1 ∧ s' ≤ s + 3) ∧ Mem z h A' M' (uu I 16 t st) T' J rl' G' N' ∧ becR A M T t st d A' M' T' := by
  obtain ⟨G1, e1, R1⟩ := wt6 R ht st
  have e2 := R1.t11 ht
  have new : ∃ A' M' T' rl' G' N' s', fX8_become_34 (A 4 t 0) st d (G1, N, s) = some (G', N', s') ∧ (N' ≤ N + 1 ∧ s' ≤ s + 3) ∧ Mem z h A' M' (uu I 16 t st) T' J rl' G' N' ∧ becR A M T t st d A' M' T' := by
    obtain ⟨G', e3, R'⟩ := bec_new R1 ht st d s
    exact ⟨_, _, _, _, G', N + 1, s + 3, e3, ⟨by omega, by omega⟩, R', becR_new st d⟩
  by_cases q0 : M 4 t = 0
  · obtain ⟨A', M', T', rl', G', N', s', h1, h2⟩ := new
    refine ⟨A', M', T', rl', G', N', s', ?_, h2⟩
    rw [if_pos q0] at e2
    simp only [fX8_become, e1, wN_s, ob_s, e2, if_true]
    exact h1
  · rw [if_neg q0] at e2
    have hc := R1.c 10 t (M 4 t - 1) ⟨ht, by omega⟩
    have e3 : gI [2] 0 G1 (A 10 t (M 4 t - 1)) = some (T 3 t (M 4 t - 1)) := gI_n hc rfl rfl
    by_cases q1 : T 3 t (M 4 t - 1) = d
    · obtain ⟨G', e4, R'⟩ := wch R1 ht (show M 4 t - 1 < M 4 t by omega) st
      refine ⟨A, M, _, rl, G', N, s, ?_, ⟨by omega, by omega⟩, R', ?_⟩
      · simp only [fX8_become, e1, wN_s, ob_s, e2, e3, reduceCtorEq, if_false, if_pos q1, e4]
      · refine ⟨fun _ _ => rfl, fun _ _ => rfl, fun t' ht' => ⟨rfl, ?_, ?_⟩, by omega, fun q hq => ?_, fun d' => ?_⟩
        · funext j; simp [u3]
        · funext j; simp [u3, ht']
        · funext a b
          have h2 : q ≠ 4 := by omega
          simp [u3, h2]
        · obtain ⟨n, hn⟩ : ∃ n, M 4 t = n + 1 := ⟨M 4 t - 1, by omega⟩
          rw [hn] at q1 ⊢
          rw [Nat.add_sub_cancel] at q1 ⊢
          show (if u3 T 4 t n st 3 t n ≤ d' then u3 T 4 t n st 4 t n else sb _ t d' n) = if d ≤ d' then st else (if T 3 t n ≤ d' then T 4 t n else sb T t d' n)
          rw [show u3 T 4 t n st 3 t n = T 3 t n by simp [u3], show u3 T 4 t n st 4 t n = st by simp [u3, upd], q1, sb_cg (T := T) (fun j hj => ⟨by simp [u3], by
            have : j ≠ n := by omega
            simp [u3, upd, this]⟩)]
          by_cases q2 : d ≤ d'
          · rw [if_pos q2, if_pos q2]
          · rw [if_neg q2, if_neg q2, if_neg q2]
    · obtain ⟨A', M', T', rl', G', N', s', h1, h2⟩ := new
      refine ⟨A', M', T', rl', G', N', s', ?_, h2⟩
      simp only [fX8_become, e1, wN_s, ob_s, e2, e3, reduceCtorEq, if_false, if_neg q1]
      exact h1
end MN
