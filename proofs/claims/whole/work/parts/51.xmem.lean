/-! what the class' memory holds: cells by their roles.
role (κ, i, j): 0 the object; 1 the rows of the four lists; 2 the four lists; 3 the fixed parts; 4 things, 5 seekers, 6 addresses; 7 traits, 8 counts, 9 words; 10 the changes of a thing, oldest first -/
def eA (A : Nat → Nat → Nat → Nat) (M : Nat → Nat → Nat) (q k : Nat) : Nat := match q with
  | 0 => A 4 k 0
  | 1 => A 5 k 0
  | 2 => A 6 k 0
  | _ => A 4 (M 3 k) 0
def thL (A : Nat → Nat → Nat → Nat) (M : Nat → Nat → Nat) (I : Nat → Nat → Int32) (i : Nat) : List Value := [.int (I 10 i), .int (I 11 i), .int (I 12 i), .int (I 13 i), .int (I 14 i), .ref (A 7 i 0), .int (I 16 i), .int (I 17 i), .int (I 18 i), .int (I 19 i), .int (I 20 i), va_rf (if M 4 i = 0 then none else some (A 10 i (M 4 i - 1)))]
/-- a row that holds 0 at 0 -/
def zf (f : Nat → Int32) : Nat → Int32 := fun j => if j = 0 then 0 else f j
theorem zf_0 {f : Nat → Int32} : zf f 0 = 0 := rfl
theorem zf_n {f : Nat → Int32} {j : Nat} (h : j ≠ 0) : zf f j = f j := if_neg h
theorem zf_u {f : Nat → Int32} {i : Nat} {x : Int32} (h : i ≠ 0) : upd (zf f) i x = zf (upd f i x) := by
  funext j
  by_cases e : j = i
  · subst e; simp [zf, upd, h]
  · simp [zf, upd, e]
def fxC (A : Nat → Nat → Nat → Nat) (I : Nat → Nat → Int32) (J : Nat → Nat → Int64) (i : Nat) : gE := match i with
  | 0 => .inl (0, 5, .inl (I 50))
  | 1 => .inl (0, 4, .inl (I 51))
  | 2 => .inl (0, 6, .inl (I 52))
  | 3 => .inl (0, 20, .inl (I 53))
  | 4 => .inr (4, [.ref (A 3 5 0), .ref (A 3 6 0), .int (I 1 0)])
  | 5 => .inl (1, 256, .inr (.inl (J 0)))
  | 6 => .inl (1, 8, .inr (.inl (J 1)))
  | 7 => .inr (5, [.ref (A 3 8 0), .ref (A 3 9 0), .int (I 1 1), .int (I 1 2), .int (I 1 3)])
  | 8 => .inl (0, 1024, .inl (zf (I 54)))
  | 9 => .inl (0, 1024, .inl (zf (I 55)))
  | 10 => .inr (3, [.ref (A 3 11 0)])
  | 11 => .inl (0, 14, .inl (I 56))
  | 12 => .inr (7, [.ref (A 3 13 0), .ref (A 3 14 0), .int (I 1 4), .int (I 1 5)])
  | 13 => .inl (0, 6, .inl (I 57))
  | _ => .inl (0, 6, .inl (I 58))
def cl (z : Nat → Nat) (A : Nat → Nat → Nat → Nat) (M : Nat → Nat → Nat) (I : Nat → Nat → Int32) (T : Nat → Nat → Nat → Int32) (J : Nat → Nat → Int64) (κ i j : Nat) : gE := match κ with
  | 0 => .inr (10, [.ref (A 2 0 0), .ref (A 2 1 0), .ref (A 2 2 0), .ref (A 3 0 0), .ref (A 3 1 0), .ref (A 3 2 0), .ref (A 3 3 0), .ref (A 2 3 0), .ref (A 3 4 0), .ref (A 3 7 0), .ref (A 3 10 0), .ref (A 3 12 0), .int (I 0 12), .int (I 0 13), .int (I 0 14), .int (I 0 15)])
  | 1 => .inl (2, M 1 i, .inr (.inr (.inr (.inr fun k => if k < M 0 i then some (eA A M i k) else none))))
  | 2 => .inr (0, [.int (I 2 i), .ref (if M 1 i = 0 then z 0 else A 1 i 0), .int (nI (M 0 i))])
  | 3 => fxC A I J i
  | 4 => if I 10 i = 3 then .inr (6, thL A M I i ++ [.ref (A 8 i 0)]) else .inr (9, thL A M I i)
  | 5 => .inr (8, [.int (I 30 i), .ref (A 9 i 0), .int (I 32 i), .int (I 33 i), .int (I 34 i)])
  | 6 => .inr (1, [.int (I 40 i), .int (I 41 i), .int (I 42 i)])
  | 7 => .inl (0, 5, .inl (T 0 i))
  | 8 => .inl (0, 4, .inl (T 1 i))
  | 9 => .inl (0, 5, .inl (T 2 i))
  | _ => .inr (2, [.int (T 3 i j), va_rf (if j = 0 then none else some (A 10 i (j - 1))), .int (T 4 i j)])
def lv (M : Nat → Nat → Nat) (I : Nat → Nat → Int32) (κ i j : Nat) : Prop := match κ with
  | 0 => i = 0 ∧ j = 0
  | 1 => i < 4 ∧ j = 0 ∧ 0 < M 1 i
  | 2 => i < 4 ∧ j = 0
  | 3 => i < 15 ∧ j = 0
  | 4 => i < M 2 0 ∧ j = 0
  | 5 => i < M 2 1 ∧ j = 0
  | 6 => i < M 2 2 ∧ j = 0
  | 7 => i < M 2 0 ∧ j = 0
  | 8 => i < M 2 0 ∧ j = 0 ∧ I 10 i = 3
  | 9 => i < M 2 1 ∧ j = 0
  | 10 => i < M 2 0 ∧ j < M 4 i
  | _ => False
/-- the lists' sizes and rooms -/
def xB (M : Nat → Nat → Nat) : Prop := (∀ q, q < 4 → M 0 q ≤ M 1 q ∧ M 1 q ≤ 40) ∧ M 0 0 ≤ M 2 0 ∧ M 0 1 ≤ M 2 1 ∧ M 0 2 ≤ M 2 2 ∧ ∀ k, k < M 0 3 → M 3 k < M 2 0
def Mem (z : Nat → Nat) (h : Nat) (A : Nat → Nat → Nat → Nat) (M : Nat → Nat → Nat) (I : Nat → Nat → Int32) (T : Nat → Nat → Nat → Int32) (J : Nat → Nat → Int64) (rl : Nat → Nat × Nat × Nat) (G : gM) (N : Nat) : Prop :=
  (A 0 0 0 = h ∧ z 0 < N ∧ G (z 0) = none ∧ (∀ a, N ≤ a → G a = none) ∧ xB M) ∧ ∀ κ i j, lv M I κ i j → G (A κ i j) = some (cl z A M I T J κ i j) ∧ rl (A κ i j) = (κ, i, j)
section MM
variable {z : Nat → Nat} {h : Nat} {A : Nat → Nat → Nat → Nat} {M : Nat → Nat → Nat} {I : Nat → Nat → Int32} {T : Nat → Nat → Nat → Int32} {J : Nat → Nat → Int64} {rl : Nat → Nat × Nat × Nat} {G : gM} {N : Nat}
theorem Mem.hh (R : Mem z h A M I T J rl G N) : A 0 0 0 = h := R.1.1
theorem Mem.b (R : Mem z h A M I T J rl G N) : xB M := R.1.2.2.2.2
theorem Mem.c (R : Mem z h A M I T J rl G N) (κ i j : Nat) (hl : lv M I κ i j) : G (A κ i j) = some (cl z A M I T J κ i j) := (R.2 κ i j hl).1
theorem Mem.lt (R : Mem z h A M I T J rl G N) {κ i j : Nat} (hl : lv M I κ i j) : A κ i j < N := by
  rcases Nat.lt_or_ge (A κ i j) N with q | q
  · exact q
  · have := R.1.2.2.2.1 _ q
    rw [R.c κ i j hl] at this
    cases this
theorem Mem.nz (R : Mem z h A M I T J rl G N) {κ i j : Nat} (hl : lv M I κ i j) : A κ i j ≠ z 0 := by
  intro e
  have := R.1.2.2.1
  rw [← e, R.c κ i j hl] at this
  cases this
theorem Mem.mono (R : Mem z h A M I T J rl G N) {N' : Nat} (hN : N ≤ N') : Mem z h A M I T J rl G N' :=
  ⟨⟨R.1.1, by have := R.1.2.1; omega, R.1.2.2.1, fun a ha => R.1.2.2.2.1 a (by omega), R.b⟩, R.2⟩
/-- a write at a role that is there -/
theorem Mem.wr (R : Mem z h A M I T J rl G N) (κ i j : Nat) (hl : lv M I κ i j) {M' : Nat → Nat → Nat} {I' : Nat → Nat → Int32} {T' : Nat → Nat → Nat → Int32} {J' : Nat → Nat → Int64} {c : gE} (hb : xB M') (hc : cl z A M' I' T' J' κ i j = c) (hf : ∀ κ' i' j', lv M' I' κ' i' j' → lv M I κ' i' j' ∧ ((κ', i', j') = (κ, i, j) ∨ cl z A M' I' T' J' κ' i' j' = cl z A M I T J κ' i' j')) : Mem z h A M' I' T' J' rl (va_up G (A κ i j) (some c)) N := by
  refine ⟨⟨R.1.1, R.1.2.1, ?_, fun a ha => ?_, hb⟩, fun κ' i' j' h' => ?_⟩
  · rw [up_n (R.nz hl).symm]; exact R.1.2.2.1
  · rw [up_n (by have := R.lt hl; omega)]; exact R.1.2.2.2.1 a ha
  · obtain ⟨h1, h2⟩ := hf κ' i' j' h'
    refine ⟨?_, (R.2 κ' i' j' h1).2⟩
    by_cases e : A κ' i' j' = A κ i j
    · have e2 : (κ', i', j') = (κ, i, j) := by rw [← (R.2 κ' i' j' h1).2, ← (R.2 κ i j hl).2, e]
      cases e2
      rw [up_s, hc]
    · rw [up_n e]
      rcases h2 with h2 | h2
      · cases h2; exact absurd rfl e
      · rw [h2]; exact R.c κ' i' j' h1
/-- a new cell -/
theorem Mem.al (R : Mem z h A M I T J rl G N) (κ i j : Nat) (hκ : 0 < κ) {M' : Nat → Nat → Nat} {I' : Nat → Nat → Int32} {T' : Nat → Nat → Nat → Int32} {J' : Nat → Nat → Int64} {A' : Nat → Nat → Nat → Nat} {c : gE} (hb : xB M') (hA : A' κ i j = N) (hc : cl z A' M' I' T' J' κ i j = c) (hf : ∀ κ' i' j', lv M' I' κ' i' j' → (κ', i', j') = (κ, i, j) ∨ (lv M I κ' i' j' ∧ A' κ' i' j' = A κ' i' j' ∧ cl z A' M' I' T' J' κ' i' j' = cl z A M I T J κ' i' j')) (h0 : A' 0 0 0 = A 0 0 0) : Mem z h A' M' I' T' J' (va_up rl N (κ, i, j)) (va_up G N (some c)) (N + 1) := by
  refine ⟨⟨h0.trans R.1.1, by have := R.1.2.1; omega, ?_, fun a ha => ?_, hb⟩, fun κ' i' j' h' => ?_⟩
  · rw [up_n (by have := R.1.2.1; omega)]; exact R.1.2.2.1
  · rw [up_n (by omega)]; exact R.1.2.2.2.1 a (by omega)
  · rcases hf κ' i' j' h' with e | ⟨h1, h2, h3⟩
    · cases e
      rw [hA, up_s, up_s, hc]
      exact ⟨rfl, rfl⟩
    · have h4 := R.lt h1
      rw [h2, up_n (by omega), up_n (by omega), h3]
      exact R.2 κ' i' j' h1
theorem Mem.c0 (R : Mem z h A M I T J rl G N) : G h = some (cl z A M I T J 0 0 0) := R.hh ▸ R.c 0 0 0 ⟨rfl, rfl⟩
theorem Mem.o10 (R : Mem z h A M I T J rl G N) : gO [10] G h = some (10, [.ref (A 2 0 0), .ref (A 2 1 0), .ref (A 2 2 0), .ref (A 3 0 0), .ref (A 3 1 0), .ref (A 3 2 0), .ref (A 3 3 0), .ref (A 2 3 0), .ref (A 3 4 0), .ref (A 3 7 0), .ref (A 3 10 0), .ref (A 3 12 0), .int (I 0 12), .int (I 0 13), .int (I 0 14), .int (I 0 15)]) := gO_n R.c0 rfl
theorem Mem.f0 (R : Mem z h A M I T J rl G N) : gR [10] 0 G h = some (some (A 2 0 0)) := gR_n R.c0 rfl rfl
theorem Mem.f1 (R : Mem z h A M I T J rl G N) : gR [10] 1 G h = some (some (A 2 1 0)) := gR_n R.c0 rfl rfl
theorem Mem.f2 (R : Mem z h A M I T J rl G N) : gR [10] 2 G h = some (some (A 2 2 0)) := gR_n R.c0 rfl rfl
theorem Mem.f3 (R : Mem z h A M I T J rl G N) : gR [10] 3 G h = some (some (A 3 0 0)) := gR_n R.c0 rfl rfl
theorem Mem.f4 (R : Mem z h A M I T J rl G N) : gR [10] 4 G h = some (some (A 3 1 0)) := gR_n R.c0 rfl rfl
theorem Mem.f5 (R : Mem z h A M I T J rl G N) : gR [10] 5 G h = some (some (A 3 2 0)) := gR_n R.c0 rfl rfl
theorem Mem.f6 (R : Mem z h A M I T J rl G N) : gR [10] 6 G h = some (some (A 3 3 0)) := gR_n R.c0 rfl rfl
theorem Mem.f7 (R : Mem z h A M I T J rl G N) : gR [10] 7 G h = some (some (A 2 3 0)) := gR_n R.c0 rfl rfl
theorem Mem.f8 (R : Mem z h A M I T J rl G N) : gR [10] 8 G h = some (some (A 3 4 0)) := gR_n R.c0 rfl rfl
theorem Mem.f9 (R : Mem z h A M I T J rl G N) : gR [10] 9 G h = some (some (A 3 7 0)) := gR_n R.c0 rfl rfl
theorem Mem.f10 (R : Mem z h A M I T J rl G N) : gR [10] 10 G h = some (some (A 3 10 0)) := gR_n R.c0 rfl rfl
theorem Mem.f11 (R : Mem z h A M I T J rl G N) : gR [10] 11 G h = some (some (A 3 12 0)) := gR_n R.c0 rfl rfl
theorem Mem.f12 (R : Mem z h A M I T J rl G N) : gI [10] 12 G h = some (I 0 12) := gI_n R.c0 rfl rfl
theorem Mem.f13 (R : Mem z h A M I T J rl G N) : gI [10] 13 G h = some (I 0 13) := gI_n R.c0 rfl rfl
theorem Mem.f14 (R : Mem z h A M I T J rl G N) : gI [10] 14 G h = some (I 0 14) := gI_n R.c0 rfl rfl
theorem Mem.f15 (R : Mem z h A M I T J rl G N) : gI [10] 15 G h = some (I 0 15) := gI_n R.c0 rfl rfl
theorem Mem.lo (R : Mem z h A M I T J rl G N) {q : Nat} (hq : q < 4) : gO [0] G (A 2 q 0) = some (0, [.int (I 2 q), .ref (if M 1 q = 0 then z 0 else A 1 q 0), .int (nI (M 0 q))]) := gO_n (R.c 2 q 0 ⟨hq, rfl⟩) rfl
theorem Mem.l0 (R : Mem z h A M I T J rl G N) {q : Nat} (hq : q < 4) : gI [0] 0 G (A 2 q 0) = some (I 2 q) := gI_n (R.c 2 q 0 ⟨hq, rfl⟩) rfl rfl
theorem Mem.l1 (R : Mem z h A M I T J rl G N) {q : Nat} (hq : q < 4) : gR [0] 1 G (A 2 q 0) = some (some (if M 1 q = 0 then z 0 else A 1 q 0)) := gR_n (R.c 2 q 0 ⟨hq, rfl⟩) rfl rfl
theorem Mem.l2 (R : Mem z h A M I T J rl G N) {q : Nat} (hq : q < 4) : gI [0] 2 G (A 2 q 0) = some (nI (M 0 q)) := gI_n (R.c 2 q 0 ⟨hq, rfl⟩) rfl rfl
theorem Mem.tc (R : Mem z h A M I T J rl G N) {t : Nat} (ht : t < M 2 0) : ∃ ci more, ci ∈ [9, 6] ∧ G (A 4 t 0) = some (.inr (ci, thL A M I t ++ more)) := by
  have h1 := R.c 4 t 0 ⟨ht, rfl⟩
  by_cases e : I 10 t = 3
  · exact ⟨6, _, by decide, h1.trans (congrArg some (if_pos e))⟩
  · exact ⟨9, [], by decide, (h1.trans (congrArg some (if_neg e))).trans (by rw [List.append_nil])⟩
theorem ct96 {ci : Nat} (h : ci ∈ [9, 6]) : [9, 6].contains ci = true := List.contains_iff_mem.mpr h
theorem ct69 {ci : Nat} (h : ci ∈ [9, 6]) : [6, 9].contains ci = true := by
  rcases List.mem_cons.mp h with h | h
  · subst h; rfl
  · have := List.mem_singleton.mp h; subst this; rfl
theorem Mem.t0 (R : Mem z h A M I T J rl G N) {t : Nat} (ht : t < M 2 0) : gI [9, 6] 0 G (A 4 t 0) = some (I 10 t) := by
  obtain ⟨ci, more, h1, h2⟩ := R.tc ht
  exact gI_n h2 (ct96 h1) rfl
theorem Mem.t1 (R : Mem z h A M I T J rl G N) {t : Nat} (ht : t < M 2 0) : gI [9, 6] 1 G (A 4 t 0) = some (I 11 t) := by
  obtain ⟨ci, more, h1, h2⟩ := R.tc ht
  exact gI_n h2 (ct96 h1) rfl
theorem Mem.t2 (R : Mem z h A M I T J rl G N) {t : Nat} (ht : t < M 2 0) : gI [9, 6] 2 G (A 4 t 0) = some (I 12 t) := by
  obtain ⟨ci, more, h1, h2⟩ := R.tc ht
  exact gI_n h2 (ct96 h1) rfl
theorem Mem.t3 (R : Mem z h A M I T J rl G N) {t : Nat} (ht : t < M 2 0) : gI [9, 6] 3 G (A 4 t 0) = some (I 13 t) := by
  obtain ⟨ci, more, h1, h2⟩ := R.tc ht
  exact gI_n h2 (ct96 h1) rfl
theorem Mem.t4 (R : Mem z h A M I T J rl G N) {t : Nat} (ht : t < M 2 0) : gI [9, 6] 4 G (A 4 t 0) = some (I 14 t) := by
  obtain ⟨ci, more, h1, h2⟩ := R.tc ht
  exact gI_n h2 (ct96 h1) rfl
theorem Mem.t6 (R : Mem z h A M I T J rl G N) {t : Nat} (ht : t < M 2 0) : gI [9, 6] 6 G (A 4 t 0) = some (I 16 t) := by
  obtain ⟨ci, more, h1, h2⟩ := R.tc ht
  exact gI_n h2 (ct96 h1) rfl
theorem Mem.t7 (R : Mem z h A M I T J rl G N) {t : Nat} (ht : t < M 2 0) : gI [9, 6] 7 G (A 4 t 0) = some (I 17 t) := by
  obtain ⟨ci, more, h1, h2⟩ := R.tc ht
  exact gI_n h2 (ct96 h1) rfl
theorem Mem.t8 (R : Mem z h A M I T J rl G N) {t : Nat} (ht : t < M 2 0) : gI [9, 6] 8 G (A 4 t 0) = some (I 18 t) := by
  obtain ⟨ci, more, h1, h2⟩ := R.tc ht
  exact gI_n h2 (ct96 h1) rfl
theorem Mem.t9 (R : Mem z h A M I T J rl G N) {t : Nat} (ht : t < M 2 0) : gI [9, 6] 9 G (A 4 t 0) = some (I 19 t) := by
  obtain ⟨ci, more, h1, h2⟩ := R.tc ht
  exact gI_n h2 (ct96 h1) rfl
theorem Mem.t10 (R : Mem z h A M I T J rl G N) {t : Nat} (ht : t < M 2 0) : gI [9, 6] 10 G (A 4 t 0) = some (I 20 t) := by
  obtain ⟨ci, more, h1, h2⟩ := R.tc ht
  exact gI_n h2 (ct96 h1) rfl
theorem Mem.t5 (R : Mem z h A M I T J rl G N) {t : Nat} (ht : t < M 2 0) : gR [9, 6] 5 G (A 4 t 0) = some (some (A 7 t 0)) := by
  obtain ⟨ci, more, h1, h2⟩ := R.tc ht
  exact gR_n h2 (ct96 h1) rfl
theorem Mem.t11 (R : Mem z h A M I T J rl G N) {t : Nat} (ht : t < M 2 0) : gR [9, 6] 11 G (A 4 t 0) = some (if M 4 t = 0 then none else some (A 10 t (M 4 t - 1))) := by
  obtain ⟨ci, more, h1, h2⟩ := R.tc ht
  exact gR_n h2 (ct96 h1) rfl
theorem Mem.to (R : Mem z h A M I T J rl G N) {t : Nat} (ht : t < M 2 0) : ∃ q, gO [6, 9] G (A 4 t 0) = some q := by
  obtain ⟨ci, more, h1, h2⟩ := R.tc ht
  exact ⟨_, gO_n h2 (ct69 h1)⟩
theorem Mem.tk (R : Mem z h A M I T J rl G N) {t : Nat} (ht : t < M 2 0) : kC [9, 6] G (some (A 4 t 0)) = some () := by
  obtain ⟨ci, more, h1, h2⟩ := R.tc ht
  simp [kC, gO_n h2 (ct96 h1)]
theorem Mem.tp (R : Mem z h A M I T J rl G N) {t : Nat} (ht : t < M 2 0) (hp : I 10 t = 3) : G (A 4 t 0) = some (.inr (6, thL A M I t ++ [.ref (A 8 t 0)])) := (R.c 4 t 0 ⟨ht, rfl⟩).trans (congrArg some (if_pos hp))
theorem Mem.tq (R : Mem z h A M I T J rl G N) {t : Nat} (ht : t < M 2 0) (hp : ¬ I 10 t = 3) : G (A 4 t 0) = some (.inr (9, thL A M I t)) := (R.c 4 t 0 ⟨ht, rfl⟩).trans (congrArg some (if_neg hp))
theorem Mem.tm (R : Mem z h A M I T J rl G N) {t : Nat} (ht : t < M 2 0) : G (A 7 t 0) = some (.inl (0, 5, .inl (T 0 t))) := R.c 7 t 0 ⟨ht, rfl⟩
theorem Mem.tn (R : Mem z h A M I T J rl G N) {t : Nat} (ht : t < M 2 0) (hp : I 10 t = 3) : G (A 8 t 0) = some (.inl (0, 4, .inl (T 1 t))) := R.c 8 t 0 ⟨ht, rfl, hp⟩
theorem Mem.s0 (R : Mem z h A M I T J rl G N) {t : Nat} (ht : t < M 2 1) : gI [8] 0 G (A 5 t 0) = some (I 30 t) := gI_n (R.c 5 t 0 ⟨ht, rfl⟩) rfl rfl
theorem Mem.s2 (R : Mem z h A M I T J rl G N) {t : Nat} (ht : t < M 2 1) : gI [8] 2 G (A 5 t 0) = some (I 32 t) := gI_n (R.c 5 t 0 ⟨ht, rfl⟩) rfl rfl
theorem Mem.s3 (R : Mem z h A M I T J rl G N) {t : Nat} (ht : t < M 2 1) : gI [8] 3 G (A 5 t 0) = some (I 33 t) := gI_n (R.c 5 t 0 ⟨ht, rfl⟩) rfl rfl
theorem Mem.s4 (R : Mem z h A M I T J rl G N) {t : Nat} (ht : t < M 2 1) : gI [8] 4 G (A 5 t 0) = some (I 34 t) := gI_n (R.c 5 t 0 ⟨ht, rfl⟩) rfl rfl
theorem Mem.s1 (R : Mem z h A M I T J rl G N) {t : Nat} (ht : t < M 2 1) : gR [8] 1 G (A 5 t 0) = some (some (A 9 t 0)) := gR_n (R.c 5 t 0 ⟨ht, rfl⟩) rfl rfl
theorem Mem.so (R : Mem z h A M I T J rl G N) {t : Nat} (ht : t < M 2 1) : gO [8] G (A 5 t 0) = some (8, [.int (I 30 t), .ref (A 9 t 0), .int (I 32 t), .int (I 33 t), .int (I 34 t)]) := gO_n (R.c 5 t 0 ⟨ht, rfl⟩) rfl
theorem Mem.sk (R : Mem z h A M I T J rl G N) {t : Nat} (ht : t < M 2 1) : kC [8] G (some (A 5 t 0)) = some () := by simp [kC, R.so ht]
theorem Mem.sm (R : Mem z h A M I T J rl G N) {t : Nat} (ht : t < M 2 1) : G (A 9 t 0) = some (.inl (0, 5, .inl (T 2 t))) := R.c 9 t 0 ⟨ht, rfl⟩
theorem Mem.a0 (R : Mem z h A M I T J rl G N) {t : Nat} (ht : t < M 2 2) : gI [1] 0 G (A 6 t 0) = some (I 40 t) := gI_n (R.c 6 t 0 ⟨ht, rfl⟩) rfl rfl
theorem Mem.a1 (R : Mem z h A M I T J rl G N) {t : Nat} (ht : t < M 2 2) : gI [1] 1 G (A 6 t 0) = some (I 41 t) := gI_n (R.c 6 t 0 ⟨ht, rfl⟩) rfl rfl
theorem Mem.a2 (R : Mem z h A M I T J rl G N) {t : Nat} (ht : t < M 2 2) : gI [1] 2 G (A 6 t 0) = some (I 42 t) := gI_n (R.c 6 t 0 ⟨ht, rfl⟩) rfl rfl
theorem Mem.ao (R : Mem z h A M I T J rl G N) {t : Nat} (ht : t < M 2 2) : gO [1] G (A 6 t 0) = some (1, [.int (I 40 t), .int (I 41 t), .int (I 42 t)]) := gO_n (R.c 6 t 0 ⟨ht, rfl⟩) rfl
theorem Mem.ak (R : Mem z h A M I T J rl G N) {t : Nat} (ht : t < M 2 2) : kC [1] G (some (A 6 t 0)) = some () := by simp [kC, R.ao ht]
theorem sz_n (R : Mem z h A M I T J rl G N) {q : Nat} (hq : q < 4) : fJx4a65c_size_8abf5 (A 2 q 0) G = some (nI (M 0 q), G) := by
  simp only [fJx4a65c_size_8abf5, R.l2 hq, ob_s]
theorem get_n (R : Mem z h A M I T J rl G N) {q k : Nat} (hq : q < 4) (hk : k < M 0 q) : fJx4a65c_get_915e3 (A 2 q 0) (nI k) G = some (some (eA A M q k), G) := by
  obtain ⟨h1, h2⟩ := R.b.1 q hq
  have h3 : M 1 q ≠ 0 := by omega
  have h4 := R.c 1 q 0 ⟨hq, rfl, by omega⟩
  simp only [fJx4a65c_get_915e3, R.l2 hq, ob_s, fJ15_checkIndex_7cf53, fJ3_checkIndex_8e157, if_neg (nI_pos (show k < 2 ^ 31 by omega)), if_pos (nI_lt hk (by omega)), bI_s, R.lo hq, fJx4a65c_elementData_915e3, R.l1 hq, if_neg h3, aQ_n h4 (show M 1 q < 2 ^ 31 by omega) (show k < M 1 q by omega), if_pos hk]
theorem th_c (R : Mem z h A M I T J rl G N) (x : Int32) : (fX9_thingOf h x G = some (none, G) ∧ (x < 0 ∨ (¬ x < 0 ∧ nI (M 0 0) ≤ x))) ∨ ∃ t, t < M 0 0 ∧ x = nI t ∧ fX9_thingOf h x G = some (some (A 4 t 0), G) := by
  obtain ⟨h1, h2⟩ := R.b.1 0 (by decide)
  rcases ix_c x (n := M 0 0) (by omega) with (h3 | ⟨h3, h4, h5⟩) | ⟨t, h3, rfl⟩
  · refine .inl ⟨?_, .inl h3⟩
    simp only [fX9_thingOf, R.f0, ob_s, R.lo (show 0 < 4 by decide), sz_n R (show 0 < 4 by decide), bI_s, fX9_within, if_pos h3, if_true]
  · refine .inl ⟨?_, .inr ⟨h3, h5⟩⟩
    simp only [fX9_thingOf, R.f0, ob_s, R.lo (show 0 < 4 by decide), sz_n R (show 0 < 4 by decide), bI_s, fX9_within, if_neg h3, if_pos h4, if_true]
  · refine .inr ⟨t, h3, rfl, ?_⟩
    simp only [fX9_thingOf, R.f0, ob_s, R.lo (show 0 < 4 by decide), sz_n R (show 0 < 4 by decide), bI_s, fX9_within, if_neg (nI_pos (show t < 2 ^ 31 by omega)), if_neg (ix_t (show M 0 0 < 2 ^ 30 by omega) h3), if_neg (show ¬ (1 : Int32) = 0 by decide), get_n R (show 0 < 4 by decide) h3, eA, R.tk (show t < M 2 0 by have := R.b.2.1; omega)]
theorem sk_c (R : Mem z h A M I T J rl G N) (x : Int32) : (fX9_seekerOf h x G = some (none, G) ∧ (x < 0 ∨ (¬ x < 0 ∧ nI (M 0 1) ≤ x))) ∨ ∃ t, t < M 0 1 ∧ x = nI t ∧ fX9_seekerOf h x G = some (some (A 5 t 0), G) := by
  obtain ⟨h1, h2⟩ := R.b.1 1 (by decide)
  rcases ix_c x (n := M 0 1) (by omega) with (h3 | ⟨h3, h4, h5⟩) | ⟨t, h3, rfl⟩
  · refine .inl ⟨?_, .inl h3⟩
    simp only [fX9_seekerOf, R.f1, ob_s, R.lo (show 1 < 4 by decide), sz_n R (show 1 < 4 by decide), bI_s, fX9_within, if_pos h3, if_true]
  · refine .inl ⟨?_, .inr ⟨h3, h5⟩⟩
    simp only [fX9_seekerOf, R.f1, ob_s, R.lo (show 1 < 4 by decide), sz_n R (show 1 < 4 by decide), bI_s, fX9_within, if_neg h3, if_pos h4, if_true]
  · refine .inr ⟨t, h3, rfl, ?_⟩
    simp only [fX9_seekerOf, R.f1, ob_s, R.lo (show 1 < 4 by decide), sz_n R (show 1 < 4 by decide), bI_s, fX9_within, if_neg (nI_pos (show t < 2 ^ 31 by omega)), if_neg (ix_t (show M 0 1 < 2 ^ 30 by omega) h3), if_neg (show ¬ (1 : Int32) = 0 by decide), get_n R (show 1 < 4 by decide) h3, eA, R.sk (show t < M 2 1 by have := R.b.2.2.1; omega)]
theorem ad_c (R : Mem z h A M I T J rl G N) (x : Int32) : (fX9_addressOf h x G = some (none, G) ∧ (x < 0 ∨ (¬ x < 0 ∧ nI (M 0 2) ≤ x))) ∨ ∃ t, t < M 0 2 ∧ x = nI t ∧ fX9_addressOf h x G = some (some (A 6 t 0), G) := by
  obtain ⟨h1, h2⟩ := R.b.1 2 (by decide)
  rcases ix_c x (n := M 0 2) (by omega) with (h3 | ⟨h3, h4, h5⟩) | ⟨t, h3, rfl⟩
  · refine .inl ⟨?_, .inl h3⟩
    simp only [fX9_addressOf, R.f2, ob_s, R.lo (show 2 < 4 by decide), sz_n R (show 2 < 4 by decide), bI_s, fX9_within, if_pos h3, if_true]
  · refine .inl ⟨?_, .inr ⟨h3, h5⟩⟩
    simp only [fX9_addressOf, R.f2, ob_s, R.lo (show 2 < 4 by decide), sz_n R (show 2 < 4 by decide), bI_s, fX9_within, if_neg h3, if_pos h4, if_true]
  · refine .inr ⟨t, h3, rfl, ?_⟩
    simp only [fX9_addressOf, R.f2, ob_s, R.lo (show 2 < 4 by decide), sz_n R (show 2 < 4 by decide), bI_s, fX9_within, if_neg (nI_pos (show t < 2 ^ 31 by omega)), if_neg (ix_t (show M 0 2 < 2 ^ 30 by omega) h3), if_neg (show ¬ (1 : Int32) = 0 by decide), get_n R (show 2 < 4 by decide) h3, eA, R.ak (show t < M 2 2 by have := R.b.2.2.2.1; omega)]
end MM
