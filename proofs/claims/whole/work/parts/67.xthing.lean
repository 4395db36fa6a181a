/-! a new thing -/
section O11
variable {z : Nat → Nat} {h : Nat} {A : Nat → Nat → Nat → Nat} {M : Nat → Nat → Nat} {I : Nat → Nat → Int32} {T : Nat → Nat → Nat → Int32} {J : Nat → Nat → Int64} {rl : Nat → Nat × Nat × Nat} {G : gM} {N k : Nat} {v : mS}
theorem tie_M {M' : Nat → Nat → Nat} (hM : ∀ a b, (a = 0 ∧ b < 3) ∨ (a = 2 ∧ b < 3) ∨ a = 4 → M' a b = M a b) (E : tie k M I T v) : tie k M' I T v := by
  have k00 := hM 0 0 (by decide)
  have k01 := hM 0 1 (by decide)
  have k02 := hM 0 2 (by decide)
  have k20 := hM 2 0 (by decide)
  have k21 := hM 2 1 (by decide)
  have k22 := hM 2 2 (by decide)
  have k4 : M' 4 = M 4 := funext fun b => hM 4 b (.inr (.inr rfl))
  unfold tie tN tT tU tS tA tV at E ⊢
  rw [k00, k01, k02, k20, k21, k22, k4]
  exact E
/-- the tie reads neither the reference's scratch nor the class' -/
theorem tie_v {v' : mS} (h1 : ∀ r, r < 36 → v'.1 r = v.1 r) (h2 : ∀ r, r < 36 → v'.2.1 r = v.2.1 r) (E : tie k M I T v) : tie k M I T v' := by
  unfold tie tN tR tT t1 tU tS s1 tA a1 tC cT cM cX tV kn at E ⊢
  simp only [h1 0 (by decide), h1 1 (by decide), h1 2 (by decide), h1 16 (by decide), h1 17 (by decide), h1 25 (by decide), h1 29 (by decide), h1 32 (by decide), h1 34 (by decide), h2 3 (by decide), h2 4 (by decide), h2 5 (by decide), h2 6 (by decide), h2 7 (by decide), h2 8 (by decide), h2 9 (by decide), h2 10 (by decide), h2 11 (by decide), h2 12 (by decide), h2 13 (by decide), h2 14 (by decide), h2 15 (by decide), h2 18 (by decide), h2 19 (by decide), h2 20 (by decide), h2 21 (by decide), h2 22 (by decide), h2 23 (by decide), h2 24 (by decide), h2 26 (by decide), h2 27 (by decide), h2 28 (by decide), h2 30 (by decide), h2 31 (by decide), h2 33 (by decide), h2 35 (by decide)]
  exact E
theorem tie_I {I' : Nat → Nat → Int32} (hI : ∀ r i, r ≠ 2 → r ≠ 54 → r ≠ 55 → r ≠ 56 → (r = 1 → 4 ≤ i) → I' r i = I r i) (E : tie k M I T v) : tie k M I' T v := by
  have w : ∀ r, r ≠ 1 → r ≠ 2 → r ≠ 54 → r ≠ 55 → r ≠ 56 → I' r = I r := fun r q1 q2 q3 q4 q5 => funext fun i => hI r i q2 q3 q4 q5 (fun g => absurd g q1)
  have w14 : I' 1 4 = I 1 4 := hI 1 4 (by decide) (by decide) (by decide) (by decide) (by decide)
  have w15 : I' 1 5 = I 1 5 := hI 1 5 (by decide) (by decide) (by decide) (by decide) (by decide)
  have c : ∀ r, (r ≠ 1 ∧ r ≠ 2 ∧ r ≠ 54 ∧ r ≠ 55 ∧ r ≠ 56) → I' r = I r := fun r q => w r q.1 q.2.1 q.2.2.1 q.2.2.2.1 q.2.2.2.2
  unfold tie tN tR tT t1 tU tS s1 tA a1 tC tV nf at E ⊢
  simp only [c 0 (by decide), c 10 (by decide), c 11 (by decide), c 12 (by decide), c 13 (by decide), c 14 (by decide), c 16 (by decide), c 17 (by decide), c 18 (by decide), c 19 (by decide), c 20 (by decide), c 30 (by decide), c 32 (by decide), c 33 (by decide), c 34 (by decide), c 40 (by decide), c 41 (by decide), c 42 (by decide), c 50 (by decide), c 51 (by decide), c 52 (by decide), c 53 (by decide), c 57 (by decide), c 58 (by decide), w14, w15]
  exact E
theorem tie_2 {q : Nat} {x : Int32} (E : tie k M I T v) : tie k M (uu I 2 q x) T v := tie_I (fun r i h1 _ _ _ _ => by simp [uu, h1]) E
def thI (I : Nat → Nat → Int32) (n : Nat) (x1 x2 x3 x4 x5 : Int32) : Nat → Nat → Int32 := fun r i => if i = n ∧ 10 ≤ r ∧ r ≤ 20 then (if r = 10 then x1 else if r = 11 then x2 else if r = 12 then x3 else if r = 13 then x4 else if r = 14 then x5 else if r = 17 then -1 else 0) else I r i
def thT (T : Nat → Nat → Nat → Int32) (n : Nat) : Nat → Nat → Nat → Int32 := fun a b => if a = 0 ∧ b = n then (fun _ => (0 : Int32)) else if a = 1 ∧ b = n then (fun j => if j < 4 then (-1 : Int32) else (0 : Int32)) else T a b
def thA (A : Nat → Nat → Nat → Nat) (n N : Nat) : Nat → Nat → Nat → Nat := uA (uA (uA A 4 n 0 N) 7 n 0 (N + 1)) 8 n 0 (N + 2)
def thM (M : Nat → Nat → Nat) (n : Nat) : Nat → Nat → Nat := uM (uM M 2 0 (n + 1)) 4 n 0
theorem thI_o {n r : Nat} {x1 x2 x3 x4 x5 : Int32} (h : r < 10 ∨ 20 < r) : thI I n x1 x2 x3 x4 x5 r = I r := by
  funext i
  unfold thI
  rw [if_neg (by omega)]
theorem thI_p {n r i : Nat} {x1 x2 x3 x4 x5 : Int32} (h : i ≠ n) : thI I n x1 x2 x3 x4 x5 r i = I r i := by
  unfold thI
  rw [if_neg (fun q => h q.1)]
theorem thI_s {n r : Nat} {x1 x2 x3 x4 x5 : Int32} (h1 : 10 ≤ r) (h2 : r ≤ 20) : thI I n x1 x2 x3 x4 x5 r n = (if r = 10 then x1 else if r = 11 then x2 else if r = 12 then x3 else if r = 13 then x4 else if r = 14 then x5 else if r = 17 then -1 else 0) := by
  unfold thI
  rw [if_pos ⟨rfl, h1, h2⟩]
theorem thT_o {n a b : Nat} (h : b ≠ n) : thT T n a b = T a b := by
  unfold thT
  rw [if_neg (fun q => h q.2), if_neg (fun q => h q.2)]
theorem thT_q {n a : Nat} (h : 2 ≤ a) : thT T n a = T a := by
  funext b
  unfold thT
  rw [if_neg (by omega), if_neg (by omega)]
theorem th_grow (R : Mem z h A M I T J rl G N) (x1 x2 x3 x4 x5 : Int32) {G' : gM} {N' : Nat} (hN : N ≤ N') (hag : ∀ a, a < N → G' a = G a) (hout : ∀ a, N' ≤ a → G' a = none) (g0 : G' N = some (cl z (thA A (M 2 0) N) (thM M (M 2 0)) (thI I (M 2 0) x1 x2 x3 x4 x5) (thT T (M 2 0)) J 4 (M 2 0) 0)) (g1 : G' (N + 1) = some (.inl (0, 5, .inl fun _ => 0))) (g2 : x1 = 3 → G' (N + 2) = some (.inl (0, 4, .inl fun j => if j < 4 then -1 else 0))) : Mem z h (thA A (M 2 0) N) (thM M (M 2 0)) (thI I (M 2 0) x1 x2 x3 x4 x5) (thT T (M 2 0)) J (fun a => if a < N then rl a else if a = N then (4, M 2 0, 0) else if a = N + 1 then (7, M 2 0, 0) else (8, M 2 0, 0)) G' N' := by
  generalize hn : M 2 0 = n at *
  refine R.grow hN hag hout ?_ (by simp [thA, uA]) ?_
  · obtain ⟨y1, y2, y3, y4, y5⟩ := R.b
    refine ⟨by simpa [thM, uM] using y1, ?_, by simpa [thM, uM] using y3, by simpa [thM, uM] using y4, ?_⟩
    · simp only [thM, uM]
      simp
      omega
    · intro k hk
      have : M 3 k < M 2 0 := y5 k (by simpa [thM, uM] using hk)
      simp only [thM, uM]
      simp
      omega
  · intro κ' i' j' hl
    match κ', hl with
    | 0, hl => exact .inl ⟨hl, by simp [thA, uA], by simp [cl, thA, uA, thI_o]⟩
    | 1, hl =>
      refine .inl ⟨by simpa [lv, thM, uM] using hl, by simp [thA, uA], ?_⟩
      simp only [cl]
      rw [show thM M n 1 i' = M 1 i' by simp [thM, uM]]
      congr 7
      funext k
      rw [show thM M n 0 i' = M 0 i' by simp [thM, uM]]
      by_cases g : k < M 0 i'
      · rw [if_pos g, if_pos g]
        congr 1
        unfold eA
        match i', hl.1 with
        | 0, _ =>
          have : k ≠ n := by have := R.b.2.1; omega
          simp [thA, uA, this]
        | 1, _ => simp [thA, uA]
        | 2, _ => simp [thA, uA]
        | 3, _ =>
          have h3 : M 3 k ≠ n := by have := R.b.2.2.2.2 k g; omega
          simp [thA, uA, thM, uM, h3]
      · rw [if_neg g, if_neg g]
    | 2, hl => exact .inl ⟨hl, by simp [thA, uA], by simp [cl, thA, uA, thM, uM, thI_o]⟩
    | 3, hl =>
      refine .inl ⟨hl, by simp [thA, uA], ?_⟩
      show fxC _ _ _ _ = fxC _ _ _ _
      unfold fxC
      simp [thA, uA, thI_o]
    | 4, hl =>
      by_cases e : i' = n
      · have eA' : thA A n N 4 i' j' = N := by simp [thA, uA, e, hl.2]
        refine .inr ⟨by rw [eA']; exact Nat.le_refl _, ?_, ?_⟩
        · rw [eA', g0, e, hl.2]
        · rw [eA', if_pos rfl, e, hl.2]
      · have hl' : i' < M 2 0 ∧ j' = 0 := ⟨by have := hl.1; simp [thM, uM] at this; omega, hl.2⟩
        refine .inl ⟨hl', by simp [thA, uA, e], ?_⟩
        simp only [cl, thL]
        rw [thI_p e, thI_p e, thI_p e, thI_p e, thI_p e, thI_p e, thI_p e, thI_p e, thI_p e, thI_p e]
        simp [thA, uA, thM, uM, e]
    | 5, hl => exact .inl ⟨by simpa [lv, thM, uM] using hl, by simp [thA, uA], by simp [cl, thA, uA, thI_o]⟩
    | 6, hl => exact .inl ⟨by simpa [lv, thM, uM] using hl, by simp [thA, uA], by simp [cl, thI_o]⟩
    | 7, hl =>
      by_cases e : i' = n
      · have eA' : thA A n N 7 i' j' = N + 1 := by simp [thA, uA, e, hl.2]
        refine .inr ⟨by rw [eA']; omega, ?_, ?_⟩
        · rw [eA', g1]
          simp [cl, thT, e]
        · rw [eA', if_neg (by omega), if_pos rfl, e, hl.2]
      · have hl' : i' < M 2 0 ∧ j' = 0 := ⟨by have := hl.1; simp [thM, uM] at this; omega, hl.2⟩
        exact .inl ⟨hl', by simp [thA, uA, e], by simp only [cl]; rw [thT_o e]⟩
    | 8, hl =>
      by_cases e : i' = n
      · have eA' : thA A n N 8 i' j' = N + 2 := by simp [thA, uA, e, hl.2.1]
        have x3' : x1 = 3 := by have := hl.2.2; rw [e, thI_s (by decide) (by decide)] at this; exact this
        refine .inr ⟨by rw [eA']; omega, ?_, ?_⟩
        · rw [eA', g2 x3']
          simp [cl, thT, e]
        · rw [eA', if_neg (by omega), if_neg (by omega), e, hl.2.1]
      · have hl' : i' < M 2 0 ∧ j' = 0 ∧ I 10 i' = 3 := ⟨by have := hl.1; simp [thM, uM] at this; omega, hl.2.1, by have := hl.2.2; rw [thI_p e] at this; exact this⟩
        exact .inl ⟨hl', by simp [thA, uA, e], by simp only [cl]; rw [thT_o e]⟩
    | 9, hl => exact .inl ⟨by simpa [lv, thM, uM] using hl, by simp [thA, uA], by simp only [cl]; rw [thT_q (by decide)]⟩
    | 10, hl =>
      by_cases e : i' = n
      · have := hl.2
        simp [thM, uM, e] at this
      · have hl' : i' < M 2 0 ∧ j' < M 4 i' := ⟨by have := hl.1; simp [thM, uM] at this; omega, by simpa [thM, uM, e] using hl.2⟩
        exact .inl ⟨hl', by simp [thA, uA], by simp only [cl]; rw [thT_q (by decide), thT_q (by decide)]; simp [thA, uA]⟩
    | κ' + 11, hl => exact absurd hl (by simp [lv])
theorem th8_9 {X : gM} {s : Nat} (x1 x2 x3 x4 x5 : Int32) (x1' : X N = some (.inr (9, [.int 0, .int 0, .int 0, .int 0, .int 0, .null, .int 0, .int 0, .int 0, .int 0, .int 0, .null]))) : fX8_init_8 N x1 x2 x3 x4 x5 (some (N + 1)) (X, N + 2, s) = some (va_up X N (some (.inr (9, [.int x1, .int x2, .int x3, .int x4, .int x5, .ref (N + 1), .int 0, .int (-1), .int 0, .int 0, .int 0, .null]))), N + 2, s) := by
  have p0 : pV [9, 6] 5 (va_rf (some (N + 1))) X N = some (va_up X N (some (.inr (9, [.int 0, .int 0, .int 0, .int 0, .int 0, .ref (N + 1), .int 0, .int 0, .int 0, .int 0, .int 0, .null])))) := by rw [pV_n x1' rfl (by simp)]; rfl
  have p1 : pV [9, 6] 6 (.int 0) (va_up X N (some (.inr (9, [.int 0, .int 0, .int 0, .int 0, .int 0, .ref (N + 1), .int 0, .int 0, .int 0, .int 0, .int 0, .null])))) N = some (va_up X N (some (.inr (9, [.int 0, .int 0, .int 0, .int 0, .int 0, .ref (N + 1), .int 0, .int 0, .int 0, .int 0, .int 0, .null])))) := by rw [pV_u rfl (by simp)]; rfl
  have p2 : pV [9, 6] 7 (.int (-1)) (va_up X N (some (.inr (9, [.int 0, .int 0, .int 0, .int 0, .int 0, .ref (N + 1), .int 0, .int 0, .int 0, .int 0, .int 0, .null])))) N = some (va_up X N (some (.inr (9, [.int 0, .int 0, .int 0, .int 0, .int 0, .ref (N + 1), .int 0, .int (-1), .int 0, .int 0, .int 0, .null])))) := by rw [pV_u rfl (by simp)]; rfl
  have p3 : pV [9, 6] 8 (.int 0) (va_up X N (some (.inr (9, [.int 0, .int 0, .int 0, .int 0, .int 0, .ref (N + 1), .int 0, .int (-1), .int 0, .int 0, .int 0, .null])))) N = some (va_up X N (some (.inr (9, [.int 0, .int 0, .int 0, .int 0, .int 0, .ref (N + 1), .int 0, .int (-1), .int 0, .int 0, .int 0, .null])))) := by rw [pV_u rfl (by simp)]; rfl
  have p4 : pV [9, 6] 9 (.int 0) (va_up X N (some (.inr (9, [.int 0, .int 0, .int 0, .int 0, .int 0, .ref (N + 1), .int 0, .int (-1), .int 0, .int 0, .int 0, .null])))) N = some (va_up X N (some (.inr (9, [.int 0, .int 0, .int 0, .int 0, .int 0, .ref (N + 1), .int 0, .int (-1), .int 0, .int 0, .int 0, .null])))) := by rw [pV_u rfl (by simp)]; rfl
  have p5 : pV [9, 6] 10 (.int 0) (va_up X N (some (.inr (9, [.int 0, .int 0, .int 0, .int 0, .int 0, .ref (N + 1), .int 0, .int (-1), .int 0, .int 0, .int 0, .null])))) N = some (va_up X N (some (.inr (9, [.int 0, .int 0, .int 0, .int 0, .int 0, .ref (N + 1), .int 0, .int (-1), .int 0, .int 0, .int 0, .null])))) := by rw [pV_u rfl (by simp)]; rfl
  have p6 : pV [9, 6] 11 (va_rf none) (va_up X N (some (.inr (9, [.int 0, .int 0, .int 0, .int 0, .int 0, .ref (N + 1), .int 0, .int (-1), .int 0, .int 0, .int 0, .null])))) N = some (va_up X N (some (.inr (9, [.int 0, .int 0, .int 0, .int 0, .int 0, .ref (N + 1), .int 0, .int (-1), .int 0, .int 0, .int 0, .null])))) := by rw [pV_u rfl (by simp)]; rfl
  have p7 : pV [9, 6] 0 (.int x1) (va_up X N (some (.inr (9, [.int 0, .int 0, .int 0, .int 0, .int 0, .ref (N + 1), .int 0, .int (-1), .int 0, .int 0, .int 0, .null])))) N = some (va_up X N (some (.inr (9, [.int x1, .int 0, .int 0, .int 0, .int 0, .ref (N + 1), .int 0, .int (-1), .int 0, .int 0, .int 0, .null])))) := by rw [pV_u rfl (by simp)]; rfl
  have p8 : pV [9, 6] 1 (.int x2) (va_up X N (some (.inr (9, [.int x1, .int 0, .int 0, .int 0, .int 0, .ref (N + 1), .int 0, .int (-1), .int 0, .int 0, .int 0, .null])))) N = some (va_up X N (some (.inr (9, [.int x1, .int x2, .int 0, .int 0, .int 0, .ref (N + 1), .int 0, .int (-1), .int 0, .int 0, .int 0, .null])))) := by rw [pV_u rfl (by simp)]; rfl
  have p9 : pV [9, 6] 2 (.int x3) (va_up X N (some (.inr (9, [.int x1, .int x2, .int 0, .int 0, .int 0, .ref (N + 1), .int 0, .int (-1), .int 0, .int 0, .int 0, .null])))) N = some (va_up X N (some (.inr (9, [.int x1, .int x2, .int x3, .int 0, .int 0, .ref (N + 1), .int 0, .int (-1), .int 0, .int 0, .int 0, .null])))) := by rw [pV_u rfl (by simp)]; rfl
  have p10 : pV [9, 6] 3 (.int x4) (va_up X N (some (.inr (9, [.int x1, .int x2, .int x3, .int 0, .int 0, .ref (N + 1), .int 0, .int (-1), .int 0, .int 0, .int 0, .null])))) N = some (va_up X N (some (.inr (9, [.int x1, .int x2, .int x3, .int x4, .int 0, .ref (N + 1), .int 0, .int (-1), .int 0, .int 0, .int 0, .null])))) := by rw [pV_u rfl (by simp)]; rfl
  have p11 : pV [9, 6] 4 (.int x5) (va_up X N (some (.inr (9, [.int x1, .int x2, .int x3, .int x4, .int 0, .ref (N + 1), .int 0, .int (-1), .int 0, .int 0, .int 0, .null])))) N = some (va_up X N (some (.inr (9, [.int x1, .int x2, .int x3, .int x4, .int x5, .ref (N + 1), .int 0, .int (-1), .int 0, .int 0, .int 0, .null])))) := by rw [pV_u rfl (by simp)]; rfl
  simp only [fX8_init_8, wN_s, ob_s, p0, p1, p2, p3, p4, p5, p6, p7, p8, p9, p10, p11]
theorem th8_6 {X : gM} {s : Nat} (x1 x2 x3 x4 x5 : Int32) (x1' : X N = some (.inr (6, [.int 0, .int 0, .int 0, .int 0, .int 0, .null, .int 0, .int 0, .int 0, .int 0, .int 0, .null, .null]))) : fX8_init_8 N x1 x2 x3 x4 x5 (some (N + 1)) (X, N + 2, s) = some (va_up X N (some (.inr (6, [.int x1, .int x2, .int x3, .int x4, .int x5, .ref (N + 1), .int 0, .int (-1), .int 0, .int 0, .int 0, .null, .null]))), N + 2, s) := by
  have p0 : pV [9, 6] 5 (va_rf (some (N + 1))) X N = some (va_up X N (some (.inr (6, [.int 0, .int 0, .int 0, .int 0, .int 0, .ref (N + 1), .int 0, .int 0, .int 0, .int 0, .int 0, .null, .null])))) := by rw [pV_n x1' rfl (by simp)]; rfl
  have p1 : pV [9, 6] 6 (.int 0) (va_up X N (some (.inr (6, [.int 0, .int 0, .int 0, .int 0, .int 0, .ref (N + 1), .int 0, .int 0, .int 0, .int 0, .int 0, .null, .null])))) N = some (va_up X N (some (.inr (6, [.int 0, .int 0, .int 0, .int 0, .int 0, .ref (N + 1), .int 0, .int 0, .int 0, .int 0, .int 0, .null, .null])))) := by rw [pV_u rfl (by simp)]; rfl
  have p2 : pV [9, 6] 7 (.int (-1)) (va_up X N (some (.inr (6, [.int 0, .int 0, .int 0, .int 0, .int 0, .ref (N + 1), .int 0, .int 0, .int 0, .int 0, .int 0, .null, .null])))) N = some (va_up X N (some (.inr (6, [.int 0, .int 0, .int 0, .int 0, .int 0, .ref (N + 1), .int 0, .int (-1), .int 0, .int 0, .int 0, .null, .null])))) := by rw [pV_u rfl (by simp)]; rfl
  have p3 : pV [9, 6] 8 (.int 0) (va_up X N (some (.inr (6, [.int 0, .int 0, .int 0, .int 0, .int 0, .ref (N + 1), .int 0, .int (-1), .int 0, .int 0, .int 0, .null, .null])))) N = some (va_up X N (some (.inr (6, [.int 0, .int 0, .int 0, .int 0, .int 0, .ref (N + 1), .int 0, .int (-1), .int 0, .int 0, .int 0, .null, .null])))) := by rw [pV_u rfl (by simp)]; rfl
  have p4 : pV [9, 6] 9 (.int 0) (va_up X N (some (.inr (6, [.int 0, .int 0, .int 0, .int 0, .int 0, .ref (N + 1), .int 0, .int (-1), .int 0, .int 0, .int 0, .null, .null])))) N = some (va_up X N (some (.inr (6, [.int 0, .int 0, .int 0, .int 0, .int 0, .ref (N + 1), .int 0, .int (-1), .int 0, .int 0, .int 0, .null, .null])))) := by rw [pV_u rfl (by simp)]; rfl
  have p5 : pV [9, 6] 10 (.int 0) (va_up X N (some (.inr (6, [.int 0, .int 0, .int 0, .int 0, .int 0, .ref (N + 1), .int 0, .int (-1), .int 0, .int 0, .int 0, .null, .null])))) N = some (va_up X N (some (.inr (6, [.int 0, .int 0, .int 0, .int 0, .int 0, .ref (N + 1), .int 0, .int (-1), .int 0, .int 0, .int 0, .null, .null])))) := by rw [pV_u rfl (by simp)]; rfl
  have p6 : pV [9, 6] 11 (va_rf none) (va_up X N (some (.inr (6, [.int 0, .int 0, .int 0, .int 0, .int 0, .ref (N + 1), .int 0, .int (-1), .int 0, .int 0, .int 0, .null, .null])))) N = some (va_up X N (some (.inr (6, [.int 0, .int 0, .int 0, .int 0, .int 0, .ref (N + 1), .int 0, .int (-1), .int 0, .int 0, .int 0, .null, .null])))) := by rw [pV_u rfl (by simp)]; rfl
  have p7 : pV [9, 6] 0 (.int x1) (va_up X N (some (.inr (6, [.int 0, .int 0, .int 0, .int 0, .int 0, .ref (N + 1), .int 0, .int (-1), .int 0, .int 0, .int 0, .null, .null])))) N = some (va_up X N (some (.inr (6, [.int x1, .int 0, .int 0, .int 0, .int 0, .ref (N + 1), .int 0, .int (-1), .int 0, .int 0, .int 0, .null, .null])))) := by rw [pV_u rfl (by simp)]; rfl
  have p8 : pV [9, 6] 1 (.int x2) (va_up X N (some (.inr (6, [.int x1, .int 0, .int 0, .int 0, .int 0, .ref (N + 1), .int 0, .int (-1), .int 0, .int 0, .int 0, .null, .null])))) N = some (va_up X N (some (.inr (6, [.int x1, .int x2, .int 0, .int 0, .int 0, .ref (N + 1), .int 0, .int (-1), .int 0, .int 0, .int 0, .null, .null])))) := by rw [pV_u rfl (by simp)]; rfl
  have p9 : pV [9, 6] 2 (.int x3) (va_up X N (some (.inr (6, [.int x1, .int x2, .int 0, .int 0, .int 0, .ref (N + 1), .int 0, .int (-1), .int 0, .int 0, .int 0, .null, .null])))) N = some (va_up X N (some (.inr (6, [.int x1, .int x2, .int x3, .int 0, .int 0, .ref (N + 1), .int 0, .int (-1), .int 0, .int 0, .int 0, .null, .null])))) := by rw [pV_u rfl (by simp)]; rfl
  have p10 : pV [9, 6] 3 (.int x4) (va_up X N (some (.inr (6, [.int x1, .int x2, .int x3, .int 0, .int 0, .ref (N + 1), .int 0, .int (-1), .int 0, .int 0, .int 0, .null, .null])))) N = some (va_up X N (some (.inr (6, [.int x1, .int x2, .int x3, .int x4, .int 0, .ref (N + 1), .int 0, .int (-1), .int 0, .int 0, .int 0, .null, .null])))) := by rw [pV_u rfl (by simp)]; rfl
  have p11 : pV [9, 6] 4 (.int x5) (va_up X N (some (.inr (6, [.int x1, .int x2, .int x3, .int x4, .int 0, .ref (N + 1), .int 0, .int (-1), .int 0, .int 0, .int 0, .null, .null])))) N = some (va_up X N (some (.inr (6, [.int x1, .int x2, .int x3, .int x4, .int x5, .ref (N + 1), .int 0, .int (-1), .int 0, .int 0, .int 0, .null, .null])))) := by rw [pV_u rfl (by simp)]; rfl
  simp only [fX8_init_8, wN_s, ob_s, p0, p1, p2, p3, p4, p5, p6, p7, p8, p9, p10, p11]
theorem th_new9 (R : Mem z h A M I T J rl G N) (x1 x2 x3 x4 x5 : Int32) (hx : ¬ x1 = 3) (s : Nat) : ∃ G', fX8_init N x1 x2 x3 x4 x5 (va_up G N (some (.inr (9, [.int 0, .int 0, .int 0, .int 0, .int 0, .null, .int 0, .int 0, .int 0, .int 0, .int 0, .null]))), N + 1, s) = some (G', N + 2, s + 5) ∧ Mem z h (thA A (M 2 0) N) (thM M (M 2 0)) (thI I (M 2 0) x1 x2 x3 x4 x5) (thT T (M 2 0)) J (fun a => if a < N then rl a else if a = N then (4, M 2 0, 0) else if a = N + 1 then (7, M 2 0, 0) else (8, M 2 0, 0)) G' (N + 2) := by
  have e1 : nwI 5 (va_up G N (some (.inr (9, [.int 0, .int 0, .int 0, .int 0, .int 0, .null, .int 0, .int 0, .int 0, .int 0, .int 0, .null]))), N + 1, s) = some (N + 1, (va_up (va_up G N (some (.inr (9, [.int 0, .int 0, .int 0, .int 0, .int 0, .null, .int 0, .int 0, .int 0, .int 0, .int 0, .null])))) (N + 1) (some (.inl (0, 5, .inl fun _ => 0))), N + 2, s + 5)) := by
    unfold nwI
    rw [if_pos (by decide)]
    rfl
  generalize hX : va_up (va_up G N (some (.inr (9, [.int 0, .int 0, .int 0, .int 0, .int 0, .null, .int 0, .int 0, .int 0, .int 0, .int 0, .null])))) (N + 1) (some (.inl (0, 5, .inl fun _ => 0))) = X at e1
  have x1' : X N = some (.inr (9, [.int 0, .int 0, .int 0, .int 0, .int 0, .null, .int 0, .int 0, .int 0, .int 0, .int 0, .null])) := by rw [← hX, up_n (by omega), up_s]
  refine ⟨_, ?_, th_grow R x1 x2 x3 x4 x5 (G' := va_up X N (some (.inr (9, [.int x1, .int x2, .int x3, .int x4, .int x5, .ref (N + 1), .int 0, .int (-1), .int 0, .int 0, .int 0, .null])))) (by omega) (fun a ha => ?_) (fun a ha => ?_) ?_ ?_ (fun q => absurd q hx)⟩
  · simp only [fX8_init, e1, bI_s, th8_9 x1 x2 x3 x4 x5 x1']
  · rw [up_n (by omega), ← hX, up_n (by omega), up_n (by omega)]
  · rw [up_n (by omega), ← hX, up_n (by omega), up_n (by omega)]; exact R.1.2.2.2.1 a (by omega)
  · rw [up_s]
    show some _ = some (if thI I (M 2 0) x1 x2 x3 x4 x5 10 (M 2 0) = 3 then _ else _)
    rw [thI_s (by decide) (by decide), if_pos rfl, if_neg hx]
    simp [thL, thI, thA, uA, thM, uM, va_rf]
  · rw [up_n (by omega), ← hX, up_s]
theorem th_new6 (R : Mem z h A M I T J rl G N) (x2 x3 x4 x5 : Int32) (s : Nat) : ∃ G', fX5_init N x2 x3 x4 x5 (va_up G N (some (.inr (6, [.int 0, .int 0, .int 0, .int 0, .int 0, .null, .int 0, .int 0, .int 0, .int 0, .int 0, .null, .null]))), N + 1, s) = some (G', N + 3, s + 9) ∧ Mem z h (thA A (M 2 0) N) (thM M (M 2 0)) (thI I (M 2 0) 3 x2 x3 x4 x5) (thT T (M 2 0)) J (fun a => if a < N then rl a else if a = N then (4, M 2 0, 0) else if a = N + 1 then (7, M 2 0, 0) else (8, M 2 0, 0)) G' (N + 3) := by
  have e1 : nwI 5 (va_up G N (some (.inr (6, [.int 0, .int 0, .int 0, .int 0, .int 0, .null, .int 0, .int 0, .int 0, .int 0, .int 0, .null, .null]))), N + 1, s) = some (N + 1, (va_up (va_up G N (some (.inr (6, [.int 0, .int 0, .int 0, .int 0, .int 0, .null, .int 0, .int 0, .int 0, .int 0, .int 0, .null, .null])))) (N + 1) (some (.inl (0, 5, .inl fun _ => 0))), N + 2, s + 5)) := by
    unfold nwI
    rw [if_pos (by decide)]
    rfl
  generalize hX : va_up (va_up G N (some (.inr (6, [.int 0, .int 0, .int 0, .int 0, .int 0, .null, .int 0, .int 0, .int 0, .int 0, .int 0, .null, .null])))) (N + 1) (some (.inl (0, 5, .inl fun _ => 0))) = X at e1
  have x1' : X N = some (.inr (6, [.int 0, .int 0, .int 0, .int 0, .int 0, .null, .int 0, .int 0, .int 0, .int 0, .int 0, .null, .null])) := by rw [← hX, up_n (by omega), up_s]
  have e2 : nwI 4 (va_up X N (some (.inr (6, [.int 3, .int x2, .int x3, .int x4, .int x5, .ref (N + 1), .int 0, .int (-1), .int 0, .int 0, .int 0, .null, .null]))), N + 2, s + 5) = some (N + 2, (va_up (va_up X N (some (.inr (6, [.int 3, .int x2, .int x3, .int x4, .int x5, .ref (N + 1), .int 0, .int (-1), .int 0, .int 0, .int 0, .null, .null])))) (N + 2) (some (.inl (0, 4, .inl fun _ => 0))), N + 3, s + 9)) := by
    unfold nwI
    rw [if_pos (by decide)]
    rfl
  generalize hY : va_up (va_up X N (some (.inr (6, [.int 3, .int x2, .int x3, .int x4, .int x5, .ref (N + 1), .int 0, .int (-1), .int 0, .int 0, .int 0, .null, .null])))) (N + 2) (some (.inl (0, 4, .inl fun _ => 0))) = Y at e2
  have y1 : Y N = some (.inr (6, [.int 3, .int x2, .int x3, .int x4, .int x5, .ref (N + 1), .int 0, .int (-1), .int 0, .int 0, .int 0, .null, .null])) := by rw [← hY, up_n (by omega), up_s]
  have y2 : Y (N + 2) = some (.inl (0, 4, .inl fun _ => 0)) := by rw [← hY, up_s]
  have y3 : Y (N + 1) = some (.inl (0, 5, .inl fun _ => 0)) := by rw [← hY, up_n (by omega), up_n (by omega), ← hX, up_s]
  have y4 : ∀ a, a < N → Y a = G a := fun a ha => by rw [← hY, up_n (by omega), up_n (by omega), ← hX, up_n (by omega), up_n (by omega)]
  have y5 : ∀ a, N + 3 ≤ a → Y a = none := fun a ha => by rw [← hY, up_n (by omega), up_n (by omega), ← hX, up_n (by omega), up_n (by omega)]; exact R.1.2.2.2.1 a (by omega)
  have e3 : pV [6] 12 (va_rf (some (N + 2))) Y N = some (va_up Y N (some (.inr (6, [.int 3, .int x2, .int x3, .int x4, .int x5, .ref (N + 1), .int 0, .int (-1), .int 0, .int 0, .int 0, .null, .ref (N + 2)])))) := by rw [pV_n y1 rfl (by simp)]; rfl
  have e4 : gR [6] 12 (va_up Y N (some (.inr (6, [.int 3, .int x2, .int x3, .int x4, .int x5, .ref (N + 1), .int 0, .int (-1), .int 0, .int 0, .int 0, .null, .ref (N + 2)])))) N = some (some (N + 2)) := gR_n up_s rfl rfl
  have e5 : fJ7_fill_53178 (some (N + 2)) (-1) (va_up Y N (some (.inr (6, [.int 3, .int x2, .int x3, .int x4, .int x5, .ref (N + 1), .int 0, .int (-1), .int 0, .int 0, .int 0, .null, .ref (N + 2)])))) = some (va_up (va_up Y N (some (.inr (6, [.int 3, .int x2, .int x3, .int x4, .int x5, .ref (N + 1), .int 0, .int (-1), .int 0, .int 0, .int 0, .null, .ref (N + 2)])))) (N + 2) (some (.inl (0, 4, .inl fun j => if j < 4 then -1 else 0)))) := fill_n (by decide) (by rw [up_n (by omega)]; exact y2)
  refine ⟨_, ?_, th_grow R 3 x2 x3 x4 x5 (G' := va_up (va_up Y N (some (.inr (6, [.int 3, .int x2, .int x3, .int x4, .int x5, .ref (N + 1), .int 0, .int (-1), .int 0, .int 0, .int 0, .null, .ref (N + 2)])))) (N + 2) (some (.inl (0, 4, .inl fun j => if j < 4 then -1 else 0)))) (by omega) (fun a ha => ?_) (fun a ha => ?_) ?_ ?_ (fun _ => up_s)⟩
  · simp only [fX5_init, fX5_init_10, fX5_init_14, fX8_init, e1, bI_s, th8_6 3 x2 x3 x4 x5 x1', ob_s, e2, e3, wN_s, e4, e5]
  · rw [up_n (by omega), up_n (by omega), y4 a ha]
  · rw [up_n (by omega), up_n (by omega), y5 a ha]
  · rw [up_n (by omega), up_s]
    show some _ = some (if thI I (M 2 0) 3 x2 x3 x4 x5 10 (M 2 0) = 3 then _ else _)
    rw [thI_s (by decide) (by decide), if_pos rfl, if_pos rfl]
    simp [thL, thI, thA, uA, thM, uM, va_rf]
  · rw [up_n (by omega), up_n (by omega), y3]
/-- the reference's rows of a new thing, ahead of its first becoming -/
def thV (v : mS) (n : Nat) (x1 x2 x3 x4 x5 : Int32) : mS := mF (itN (fun i a => mA a 14 (4 * n + i) (-1)) 4 (mA (mA (mA (mA (mA (mA v 3 n x1) 4 n x2) 6 n x3) 7 n x4) 8 n x5) 10 n (-1))) 2 (nI n + 1)
def thK (M : Nat → Nat → Nat) (n : Nat) : Nat → Nat → Nat := uM (thM M n) 0 0 (n + 1)
theorem th_tie (E : tie k M I T v) (hn : M 0 0 < 20) {x1 x2 x3 x4 x5 : Int32} (b1 : rB x1 3) (b2 : rB x2 9999) (b3 : rB x3 5000) (b4 : rB x4 10000) (b5 : rB x5 9999) : tie k (thK M (M 2 0)) (thI I (M 2 0) x1 x2 x3 x4 x5) (thT T (M 2 0)) (mA (thV v (M 2 0) x1 x2 x3 x4 x5) 9 (M 2 0) 0) := by
  obtain ⟨⟨⟨n1, n2, n3, n4, n5, n6, n7⟩, ⟨n8, n8', n8''⟩, ⟨n9, n9', n9''⟩, n10, n11, n12⟩, ⟨r1, r2, r3, r4, r5, r6⟩, h3, h4, h5, h6, h7, n', h8, h9, h10', h11'⟩ := id E
  rw [n8]
  generalize hmm : M 0 0 = n at *
  have k00 : thK M n 0 0 = n + 1 := by simp [thK, uM]
  have k01 : thK M n 0 1 = M 0 1 := by simp [thK, thM, uM]
  have k02 : thK M n 0 2 = M 0 2 := by simp [thK, thM, uM]
  have k20 : thK M n 2 0 = n + 1 := by simp [thK, thM, uM]
  have k21 : thK M n 2 1 = M 2 1 := by simp [thK, thM, uM]
  have k22 : thK M n 2 2 = M 2 2 := by simp [thK, thM, uM]
  have k4 : ∀ t, t ≠ n → thK M n 4 t = M 4 t := fun t ht => by simp [thK, thM, uM, ht]
  have k4n : thK M n 4 n = 0 := by simp [thK, thM, uM]
  have hv : ∀ r, r ≠ 3 → r ≠ 4 → r ≠ 6 → r ≠ 7 → r ≠ 8 → r ≠ 9 → r ≠ 10 → r ≠ 14 → (mA (thV v n x1 x2 x3 x4 x5) 9 n 0).2.1 r = v.2.1 r := fun r q1 q2 q3 q4 q5 q6 q7 q8 => by
    simp only [thV, itN, mF, mA, if_neg q1, if_neg q2, if_neg q3, if_neg q4, if_neg q5, if_neg q6, if_neg q7, if_neg q8]
  have hv1 : ∀ r, r ≠ 2 → (mA (thV v n x1 x2 x3 x4 x5) 9 n 0).1 r = v.1 r := fun r q1 => by
    simp only [thV, itN, mF, mA, if_neg q1]
  have w2 : (mA (thV v n x1 x2 x3 x4 x5) 9 n 0).1 2 = nI n + 1 := rfl
  have w3 : (mA (thV v n x1 x2 x3 x4 x5) 9 n 0).2.1 3 = upd (v.2.1 3) n x1 := rfl
  have w4 : (mA (thV v n x1 x2 x3 x4 x5) 9 n 0).2.1 4 = upd (v.2.1 4) n x2 := rfl
  have w6 : (mA (thV v n x1 x2 x3 x4 x5) 9 n 0).2.1 6 = upd (v.2.1 6) n x3 := rfl
  have w7 : (mA (thV v n x1 x2 x3 x4 x5) 9 n 0).2.1 7 = upd (v.2.1 7) n x4 := rfl
  have w8 : (mA (thV v n x1 x2 x3 x4 x5) 9 n 0).2.1 8 = upd (v.2.1 8) n x5 := rfl
  have w9 : (mA (thV v n x1 x2 x3 x4 x5) 9 n 0).2.1 9 = upd (v.2.1 9) n 0 := rfl
  have w10 : (mA (thV v n x1 x2 x3 x4 x5) 9 n 0).2.1 10 = upd (v.2.1 10) n (-1) := rfl
  have w14 : (mA (thV v n x1 x2 x3 x4 x5) 9 n 0).2.1 14 = upd (upd (upd (upd (v.2.1 14) (4 * n + 0) (-1)) (4 * n + 1) (-1)) (4 * n + 2) (-1)) (4 * n + 3) (-1) := rfl
  generalize mA (thV v n x1 x2 x3 x4 x5) 9 n 0 = v' at *
  have hI : ∀ r, (r < 10 ∨ 20 < r) → thI I n x1 x2 x3 x4 x5 r = I r := fun r q => thI_o q
  refine ⟨⟨⟨?_, ?_, ?_, ?_, ?_, ?_, ?_⟩, ⟨?_, ?_, ?_⟩, ⟨?_, ?_, ?_⟩, ?_, ?_, ?_⟩, ⟨?_, ?_, ?_, ?_, ?_, ?_⟩, fun t' ht' => ?_, ?_, fun s hs => ?_, fun a ha => ?_, ?_, n', ?_, ?_, fun t' ht' => ⟨?_, fun d => ?_⟩, fun t' ht' ht2 d => ?_⟩
  · rw [hv1 0 (by decide), hI 0 (by decide)]; exact n1
  · rw [hv1 1 (by decide), hI 0 (by decide)]; exact n2
  · rw [w2, k00, nI_1]
  · rw [hv1 17 (by decide), k01]; exact n4
  · rw [hv1 25 (by decide), k02]; exact n5
  · rw [hv1 32 (by decide), hI 0 (by decide)]; exact n6
  · rw [hv1 34 (by decide), hI 0 (by decide)]; exact n7
  · rw [k20, k00]
  · rw [k21, k01]; exact n8'
  · rw [k22, k02]; exact n8''
  · rw [k00]; omega
  · rw [k01]; exact n9'
  · rw [k02]; exact n9''
  · rw [hI 0 (by decide)]; exact n10
  · rw [hI 0 (by decide)]; exact n11
  · rw [hI 0 (by decide)]; exact n12
  · rw [hv 24 (by decide) (by decide) (by decide) (by decide) (by decide) (by decide) (by decide) (by decide), hI 50 (by decide)]; exact r1
  · rw [hv 28 (by decide) (by decide) (by decide) (by decide) (by decide) (by decide) (by decide) (by decide), hI 51 (by decide)]; exact r2
  · rw [hv 35 (by decide) (by decide) (by decide) (by decide) (by decide) (by decide) (by decide) (by decide), hI 52 (by decide)]; exact r3
  · rw [hv 33 (by decide) (by decide) (by decide) (by decide) (by decide) (by decide) (by decide) (by decide), hI 53 (by decide)]; exact r4
  · rw [hI 50 (by decide)]; exact r5
  · rw [hI 51 (by decide)]; exact r6
  · rw [k00] at ht'
    unfold t1
    rw [w3, w4, w6, w7, w8, w9, w10, w14, hv 5 (by decide) (by decide) (by decide) (by decide) (by decide) (by decide) (by decide) (by decide), hv 11 (by decide) (by decide) (by decide) (by decide) (by decide) (by decide) (by decide) (by decide), hv 12 (by decide) (by decide) (by decide) (by decide) (by decide) (by decide) (by decide) (by decide), hv 13 (by decide) (by decide) (by decide) (by decide) (by decide) (by decide) (by decide) (by decide)]
    by_cases e : t' = n
    · subst e
      rw [thI_s (by decide) (by decide), thI_s (by decide) (by decide), thI_s (by decide) (by decide), thI_s (by decide) (by decide), thI_s (by decide) (by decide), thI_s (by decide) (by decide), thI_s (by decide) (by decide), thI_s (by decide) (by decide), thI_s (by decide) (by decide), thI_s (by decide) (by decide), pk_us, pk_us, pk_us, pk_us, pk_us, pk_us, pk_us]
      refine ⟨⟨rfl, rfl, rfl, rfl, rfl, rfl, rfl⟩, fun j hj => ⟨?_, ?_⟩, fun _ j hj => ⟨?_, ?_⟩, fun q => absurd (show (0 : Int32) = 1 ∨ (0 : Int32) = 2 from q) (by decide), fun q => absurd (show (0 : Int32) = 2 from q) (by decide), .inr rfl, b1, b2, b3, b4, b5, ⟨0, by decide, rfl⟩, .inr rfl⟩
      · rw [h4.1 _ (by omega)]
        simp [thT]
      · exact ⟨0, by decide, by simp [thT]; rfl⟩
      · rw [show thT T t' 1 t' j = -1 by simp [thT, hj]]
        match j, hj with
        | 0, _ => rw [pk_un (by omega), pk_un (by omega), pk_un (by omega), pk_us]
        | 1, _ => rw [pk_un (by omega), pk_un (by omega), pk_us]
        | 2, _ => rw [pk_un (by omega), pk_us]
        | 3, _ => rw [pk_us]
      · exact .inl (by simp [thT, hj])
    · have hE := h3 t' (by omega)
      unfold t1 at hE
      rw [thI_p e, thI_p e, thI_p e, thI_p e, thI_p e, thI_p e, thI_p e, thI_p e, thI_p e, thI_p e, thT_o e, thT_o e, pk_un e, pk_un e, pk_un e, pk_un e, pk_un e, pk_un e, pk_un e]
      obtain ⟨y1, y2, y3, y4⟩ := hE
      refine ⟨y1, y2, fun q j hj => ?_, y4⟩
      rw [pk_un (by omega), pk_un (by omega), pk_un (by omega), pk_un (by omega)]
      exact y3 q j hj
  · refine ⟨fun j hj => ?_, fun s hs => ?_⟩
    · rw [hv 5 (by decide) (by decide) (by decide) (by decide) (by decide) (by decide) (by decide) (by decide)]
      exact h4.1 j (by rw [k00] at hj; omega)
    · rw [hv 22 (by decide) (by decide) (by decide) (by decide) (by decide) (by decide) (by decide) (by decide), hv 23 (by decide) (by decide) (by decide) (by decide) (by decide) (by decide) (by decide) (by decide)]
      exact h4.2 s (by rw [k01] at hs; exact hs)
  · rw [k01] at hs
    have hE := h5 s hs
    unfold s1 at hE ⊢
    rw [thT_q (by decide)]
    simp only [hv 18, hv 19, hv 20, hv 21, hv 22, hv 23, ne_eq, Nat.reduceEqDiff, not_false_eq_true]
    rw [hI 30 (by decide), hI 32 (by decide), hI 33 (by decide), hI 34 (by decide)]
    exact hE
  · rw [k02] at ha
    have hE := h6 a ha
    unfold a1 at hE ⊢
    simp only [hv 26, hv 27, ne_eq, Nat.reduceEqDiff, not_false_eq_true]
    rw [hI 40 (by decide), hI 41 (by decide), hI 42 (by decide)]
    exact hE
  · unfold tC cT cM cX at h7 ⊢
    simp only [hv 30, hv 31, ne_eq, Nat.reduceEqDiff, not_false_eq_true]
    rw [hv1 29 (by decide), hI 1 (by decide), hI 57 (by decide), hI 58 (by decide)]
    exact h7
  · rw [hv1 16 (by decide)]; exact h8
  · rw [k00]
    have q1 : nf (thI I n x1 x2 x3 x4 x5) n = nf I n := itN_cg (fun t ht a => by rw [thI_p (by omega)]) 0
    have q2 : nf (thI I n x1 x2 x3 x4 x5) (n + 1) = nf (thI I n x1 x2 x3 x4 x5) n + 1 := by
      show (if thI I n x1 x2 x3 x4 x5 16 n = 0 ∨ thI I n x1 x2 x3 x4 x5 16 n = 1 then _ else _) = _
      rw [thI_s (by decide) (by decide)]
      exact if_pos (.inl rfl)
    omega
  · rw [k00] at ht'
    by_cases e : t' = n
    · rw [e, k4n]; omega
    · rw [k4 t' e]; exact (h10' t' (by omega)).1
  · rw [k00] at ht'
    have e1 : kn v' t' d n' = kn v t' d n' := itN_cg (fun r _ a => by rw [hv 15 (by decide) (by decide) (by decide) (by decide) (by decide) (by decide) (by decide) (by decide)]) (-1)
    rw [e1]
    by_cases e : t' = n
    · rw [e, k4n, h11' n (by omega) (by omega) d]
      rfl
    · rw [k4 t' e, (h10' t' (by omega)).2 d]
      exact (sb_cg (fun j _ => by rw [thT_q (by decide), thT_q (by decide)]; exact ⟨rfl, rfl⟩) d).symm
  · rw [k00] at ht'
    have e1 : kn v' t' d n' = kn v t' d n' := itN_cg (fun r _ a => by rw [hv 15 (by decide) (by decide) (by decide) (by decide) (by decide) (by decide) (by decide) (by decide)]) (-1)
    rw [e1]
    exact h11' t' (by omega) ht2 d
theorem vB_9 {t n : Nat} {st : Int32} : vB (mA v 9 t st) t st n = vB v t st n := by
  have e : mA (mA v 9 t st) 9 t st = mA v 9 t st := by
    unfold mA
    simp only []
    congr 2
    funext j
    by_cases q : j = 9
    · simp only [if_pos q]
      funext i
      by_cases q2 : i = t
      · rw [q2, pk_us, pk_us]
      · rw [pk_un q2]
    · simp only [if_neg q]
  unfold vB
  rw [e]
  rfl
/-- what follows the making, on both sides -/
theorem th_end {x1 x2 x3 x4 x5 : Int32} {G' : gM} {N' : Nat} (R : Mem z h (thA A (M 2 0) N) (thM M (M 2 0)) (thI I (M 2 0) x1 x2 x3 x4 x5) (thT T (M 2 0)) J rl G' N') (E : tie k (thK M (M 2 0)) (thI I (M 2 0) x1 x2 x3 x4 x5) (thT T (M 2 0)) (mA (thV v (M 2 0) x1 x2 x3 x4 x5) 9 (M 2 0) 0)) (h20 : M 2 0 = M 0 0) (hn : M 0 0 < 20) (hk : k < 512) {s0 s : Nat} (hN : N' ≤ N + 3) (hs : s ≤ s0 + 22) : OkN z h k N s0 (fX9_thing_115 z h (some N) (G', N', s)) ((fX10_becomes (nI (M 0 0)) 0 (thV v (M 2 0) x1 x2 x3 x4 x5)).bind fun u175 => bI (fX10_spoils (nI (M 0 0)) u175) fun r181 u181 => if r181 = 0 then some (nI (M 0 0), u181) else (fX10_becomes (nI (M 0 0)) 3 u181).bind fun u191 => some (nI (M 0 0), u191)) := by
  have a4 : thA A (M 2 0) N 4 (M 2 0) 0 = N := by simp [thA, uA]
  have m20 : thM M (M 2 0) 2 0 = M 2 0 + 1 := by simp [thM, uM]
  have k00 : thK M (M 2 0) 0 0 = M 2 0 + 1 := by simp [thK, uM]
  have ht2 : M 2 0 < thM M (M 2 0) 2 0 := by omega
  obtain ⟨n, en, hn3⟩ := E.ev (by omega)
  obtain ⟨q, eo⟩ := R.to ht2
  obtain ⟨A2, M2, T2, rl2, G2, N2, s2, b1, ⟨b2, b3⟩, R2, B⟩ := bec R ht2 0 (thI I (M 2 0) x1 x2 x3 x4 x5 0 13) s
  have B' := B
  obtain ⟨B1, B2, B3, B4, B5, B6⟩ := B
  have i16 : thI I (M 2 0) x1 x2 x3 x4 x5 16 (M 2 0) = 0 := thI_s (by decide) (by decide)
  have i17 : thI I (M 2 0) x1 x2 x3 x4 x5 17 (M 2 0) = -1 := thI_s (by decide) (by decide)
  have i20 : thI I (M 2 0) x1 x2 x3 x4 x5 20 (M 2 0) = 0 := thI_s (by decide) (by decide)
  have hg10 := (E.Th (show M 2 0 < thK M (M 2 0) 0 0 by omega)).1.2.2.2.2.2.2
  have E2 : tie (k + 1) (mr4 (thK M (M 2 0)) M2) (uu (thI I (M 2 0) x1 x2 x3 x4 x5) 16 (M 2 0) 0) T2 (vB (mA (thV v (M 2 0) x1 x2 x3 x4 x5) 9 (M 2 0) 0) (M 2 0) 0 n) := by
    refine tie_bec E (by omega) en hn3 (by omega) B' ?_ (fun a ha => mr4_n ha) rfl (fun r i hr => ?_) uu_s rfl (fun r _ _ _ => rfl) (fun r i hi hr => ?_) ?_ (fun q => absurd q (by decide)) (fun q => absurd q (by decide)) (.inr ?_) ⟨0, by decide, rfl⟩ (.inr ?_) ?_
    · funext b
      simp [thK, uM]
    · rw [uu_o (by omega)]
    · rcases hr with rfl | rfl | rfl <;> rfl
    · rw [uu_o (.inl (by decide))]; exact hg10
    · rw [uu_o (.inl (by decide))]; exact i17
    · rw [uu_o (.inl (by decide))]; exact i20
    · have z1 := nf_u (I := thI I (M 2 0) x1 x2 x3 x4 x5) (I' := uu (thI I (M 2 0) x1 x2 x3 x4 x5) 16 (M 2 0) 0) (t := M 2 0) (fun i hi => by rw [uu_o (.inr hi)]) (thK M (M 2 0) 0 0)
      rw [if_pos (by omega), if_pos (by omega), i16, uu_s] at z1
      omega
  rw [vB_9] at E2
  have em : fX10_becomes (nI (M 2 0)) 0 (thV v (M 2 0) x1 x2 x3 x4 x5) = some (vB (thV v (M 2 0) x1 x2 x3 x4 x5) (M 2 0) 0 n) := bec_m (v := thV v (M 2 0) x1 x2 x3 x4 x5) (t := M 2 0) (by omega) hn3 en 0
  have m2a : M2 2 0 = M 2 0 + 1 := by rw [B2 2 (by decide)]; exact m20
  obtain ⟨b, v3, A3, M3, I3, T3, rl3, G3, N3, s3, f1, ⟨f2, f3⟩, f4, f5, R3, f6, f7, E3⟩ := sp2 R2 E2 (by omega) (show M 2 0 < M2 2 0 by omega) (show M 2 0 < mr4 (thK M (M 2 0)) M2 0 0 by rw [mr4_n (by decide)]; omega) rfl s2
  have m3a : ∀ a, a ≠ 4 → M3 a = thM M (M 2 0) a := fun a ha => by rw [f7 a ha, B2 a ha]
  have p00 : M3 0 0 = M 0 0 := by rw [m3a 0 (by decide)]; simp [thM, uM]
  have p20 : M3 2 0 = M 2 0 + 1 := by rw [m3a 2 (by decide)]; exact m20
  have A34 : A3 4 (M 2 0) 0 = N := by rw [f6 4 (by decide), B1 4 (by decide)]; exact a4
  obtain ⟨A4, M4, rl4, G4, N4, s4, d1, ⟨d2, d3⟩, R4, d4, d5⟩ := add_n R3 (q := 0) (by decide) (by omega) 0 (fun _ => by omega) (fun g => absurd g (by decide)) (fun g => absurd g (by decide)) (fun g => absurd g (by decide)) s3 (e := N) (by rw [p00, ← h20]; exact A34.symm)
  have A22 : A2 4 (M 2 0) 0 = N := by rw [B1 4 (by decide)]; exact a4
  rw [a4] at b1 eo
  rw [A22] at f1
  have E4 : tie (k + 1) M4 (uu I3 2 0 (I3 2 0 + 1)) T3 v3 := by
    refine tie_2 (tie_M (fun a b hab => ?_) E3)
    rcases hab with ⟨rfl, hb⟩ | ⟨rfl, hb⟩ | rfl
    · rw [d5 0 b (by decide), p00, mr4_n (by decide), mr4_n (by decide)]
      by_cases e : b = 0
      · subst e; simp [uL, thK, uM, h20]
      · simp [uL, thK, uM, e, m3a 0]
    · rw [d5 2 b (by decide), mr4_n (by decide), mr4_n (by decide)]
      simp [uL, thK, uM, m3a 2]
    · rw [d5 4 b (by decide)]
      simp [uL, mr4]
  have p40 : M4 0 0 = M 0 0 + 1 := by rw [d5 0 0 (by decide), p00]; simp [uL]
  have zz : nI (M4 0 0) - 1 = nI (M 0 0) := by rw [p40, nI_pred]
  have l13 : gI [10] 13 G' h = some (thI I (M 2 0) x1 x2 x3 x4 x5 0 13) := R.f13
  have l3 : gO [0] G3 (A3 2 0 0) = some (0, _) := R3.lo (show 0 < 4 by decide)
  rw [← h20] at *
  rcases f5 with ⟨q, rfl⟩ | ⟨q, f5⟩
  · simp only [fX9_thing_115, fX9_thing_127, fX9_thing_133, fX9_thing_143, ob_s, bI_s, l13, eo, b1, R2.o10, f1, R3.f0, l3, d1, R4.f0, R4.lo (show 0 < 4 by decide), sz_n R4 (show 0 < 4 by decide), cN_s, zz, em, f4, if_pos q]
    exact okn_w R4 E4 (by omega) (by omega) _
  · have q0 : ¬ b = 0 := by rw [q]; decide
    simp only [fX9_thing_115, fX9_thing_127, fX9_thing_133, fX9_thing_143, ob_s, bI_s, l13, eo, b1, R2.o10, f1, R3.f0, l3, d1, R4.f0, R4.lo (show 0 < 4 by decide), sz_n R4 (show 0 < 4 by decide), cN_s, zz, em, f4, if_neg q0, f5]
    exact okn_w R4 E4 (by omega) (by omega) _
theorem op_thing (R : Mem z h A M I T J rl G N) (E : tie k M I T v) (hk : k < 512) {s0 : Nat} (a1 a2 a3 a4 a5 : Int32) : OkN z h k N s0 (fX9_thing z h a1 a2 a3 a4 a5 (G, N, s0)) (fX10_thing a1 a2 a3 a4 a5 v) := by
  obtain ⟨⟨n1, n2, n3, n4, n5, n6, n7⟩, ⟨n8, n8', n8''⟩, ⟨n9, n9', n9''⟩, n10, n11, n12⟩ := E.1
  rcases wc a1 0 3 G v with ⟨e1, e2⟩ | ⟨e1, e2, h1, h2⟩
  · simp only [fX9_thing, fX10_thing, R.o10, ob_s, bI_s, if_true, cN_s, e1, e2]
    exact fdn R E 1 (by decide) rfl
  · rcases wc a2 0 (I 0 13) G v with ⟨e3, e4⟩ | ⟨e3, e4, h3, h4⟩
    · simp only [fX9_thing, fX10_thing, R.o10, ob_s, bI_s, if_true, if_false, i10, cN_s, e1, e2, R.f13, n1, e3, e4]
      exact fdn R E 1 (by decide) rfl
    · rcases wc a3 1 5000 G v with ⟨e5, e6⟩ | ⟨e5, e6, h5, h6⟩
      · simp only [fX9_thing, fX10_thing, R.o10, ob_s, bI_s, if_true, if_false, i10, cN_s, e1, e2, R.f13, n1, e3, e4, e5, e6]
        exact fdn R E 1 (by decide) rfl
      · rcases wc a4 0 10000 G v with ⟨e7, e8⟩ | ⟨e7, e8, h7, h8⟩
        · simp only [fX9_thing, fX10_thing, R.o10, ob_s, bI_s, if_true, if_false, i10, cN_s, e1, e2, R.f13, n1, e3, e4, e5, e6, e7, e8]
          exact fdn R E 1 (by decide) rfl
        · rcases wc a5 1 9999 G v with ⟨e9, e10⟩ | ⟨e9, e10, h9, h10⟩
          · simp only [fX9_thing, fX10_thing, R.o10, ob_s, bI_s, if_true, if_false, i10, cN_s, e1, e2, R.f13, n1, e3, e4, e5, e6, e7, e8, e9, e10]
            exact fdn R E 1 (by decide) rfl
          · by_cases q1 : M 0 0 = 20
            · have c1 : ¬ nI (M 0 0) < (20 : Int32) := by rw [q1]; decide
              have c2 : nI (M 0 0) = (20 : Int32) := by rw [q1]; rfl
              simp only [fX9_thing, fX10_thing, R.o10, ob_s, bI_s, if_true, if_false, i10, cN_s, e1, e2, R.f13, n1, e3, e4, e5, e6, e7, e8, e9, e10, R.f0, R.lo (show 0 < 4 by decide), sz_n R (show 0 < 4 by decide), if_neg c1, n3, if_pos c2]
              exact fdn R E 4 (by decide) rfl
            · have c1 : nI (M 0 0) < (20 : Int32) := nI_lt (b := 20) (by omega) (by decide)
              have c2 : ¬ nI (M 0 0) = (20 : Int32) := fun g => q1 ((nI_eq (b := 20) (by omega) (by decide)).mp g)
              have hn : M 0 0 < 20 := by omega
              have B1 : rB a1 3 := rg_n (by decide) ⟨h1, h2⟩
              have B2 : rB a2 9999 := by
                obtain ⟨d, hd, ed⟩ := n11
                rw [ed] at h4
                obtain ⟨j, hj, ej⟩ := rg_n (n := d) (nI_toInt (by omega)) ⟨h3, h4⟩
                exact ⟨j, by omega, ej⟩
              have B3 : rB a3 5000 := rg_w (lo := 1) (by decide) (by decide) h5 h6
              have B4 : rB a4 10000 := rg_n (by decide) ⟨h7, h8⟩
              have B5 : rB a5 9999 := rg_w (lo := 1) (by decide) (by decide) h9 h10
              have E1 := th_tie E hn B1 B2 B3 B4 B5
              have lp : ∀ k161 : Int32 → mS → Option (Int32 × mS), ∀ a, fX10_thing_136 k161 FU (nI (M 0 0)) 0 a = k161 (nI (M 0 0)) (itN (fun i a => mA a 14 (4 * M 0 0 + i) (-1)) 4 a) := fun k161 a =>
                itN_loop0 (fun f i (a : mS) => fX10_thing_136 k161 f (nI (M 0 0)) i a) 4 (fun i a => mA a 14 (4 * M 0 0 + i) (-1)) (fun a => k161 (nI (M 0 0)) a) (fun f i a hi => by
                  have : ¬ (4 : Int32) ≤ nI i := nI_ge (b := 4) hi (by decide)
                  simp only [fX10_thing_136, fX10_thing_136_b, if_neg this, i4, mUn (show 4 * M 0 0 + i < 80 by omega) (by decide), ob_s, nI_1]) (fun f a => by
                  have : (4 : Int32) ≤ nI 4 := by decide
                  simp only [fX10_thing_136, fX10_thing_136_b, if_pos this]) (fuel (by decide))
              have hw : mF (itN (fun i a => mA a 14 (4 * M 0 0 + i) (-1)) 4 (mA (mA (mA (mA (mA (mA v 3 (M 0 0) a1) 4 (M 0 0) a2) 6 (M 0 0) a3) 7 (M 0 0) a4) 8 (M 0 0) a5) 10 (M 0 0) (-1))) 2 ((itN (fun i a => mA a 14 (4 * M 0 0 + i) (-1)) 4 (mA (mA (mA (mA (mA (mA v 3 (M 0 0) a1) 4 (M 0 0) a2) 6 (M 0 0) a3) 7 (M 0 0) a4) 8 (M 0 0) a5) 10 (M 0 0) (-1))).1 2 + 1) = thV v (M 2 0) a1 a2 a3 a4 a5 := by
                rw [n8]
                show mF _ 2 (v.1 2 + 1) = mF _ 2 _
                rw [n3]
              by_cases q3 : a1 = 3
              · subst q3
                have f2 : nwO 6 [.int 0, .int 0, .int 0, .int 0, .int 0, .null, .int 0, .int 0, .int 0, .int 0, .int 0, .null, .null] ((G, N, s0) : gN) = some (N, (va_up G N (some (.inr (6, [.int 0, .int 0, .int 0, .int 0, .int 0, .null, .int 0, .int 0, .int 0, .int 0, .int 0, .null, .null]))), N + 1, s0 + 13)) := rfl
                obtain ⟨G1, f1, R1⟩ := th_new6 R a2 a3 a4 a5 (s0 + 13)
                have fin := th_end R1 E1 n8 hn hk (s0 := s0) (s := s0 + 13 + 9) (by omega) (by omega)
                simp only [fX9_thing, fX9_thing_88, fX9_thing_98, fX10_thing, R.o10, ob_s, bI_s, if_true, if_false, i10, cN_s, e1, e2, R.f13, n1, e3, e4, e5, e6, e7, e8, e9, e10, R.f0, R.lo (show 0 < 4 by decide), sz_n R (show 0 < 4 by decide), if_pos c1, n3, if_neg c2, f2, f1, mUn hn (show 20 < 2 ^ 31 by decide), lp, pU_s, hw]
                exact fin
              · have f2 : nwO 9 [.int 0, .int 0, .int 0, .int 0, .int 0, .null, .int 0, .int 0, .int 0, .int 0, .int 0, .null] ((G, N, s0) : gN) = some (N, (va_up G N (some (.inr (9, [.int 0, .int 0, .int 0, .int 0, .int 0, .null, .int 0, .int 0, .int 0, .int 0, .int 0, .null]))), N + 1, s0 + 12)) := rfl
                obtain ⟨G1, f1, R1⟩ := th_new9 R a1 a2 a3 a4 a5 q3 (s0 + 12)
                have fin := th_end R1 E1 n8 hn hk (s0 := s0) (s := s0 + 12 + 5) (by omega) (by omega)
                simp only [fX9_thing, fX9_thing_104, fX10_thing, R.o10, ob_s, bI_s, if_true, if_false, i10, cN_s, e1, e2, R.f13, n1, e3, e4, e5, e6, e7, e8, e9, e10, R.f0, R.lo (show 0 < 4 by decide), sz_n R (show 0 < 4 by decide), if_pos c1, n3, if_neg c2, if_neg q3, f2, f1, mUn hn (show 20 < 2 ^ 31 by decide), lp, pU_s, hw]
                exact fin
end O11
