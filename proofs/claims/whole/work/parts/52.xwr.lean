/-! writes at the cells' roles -/
def uu (I : Nat → Nat → Int32) (k i : Nat) (v : Int32) : Nat → Nat → Int32 := fun k' => if k' = k then upd (I k') i v else I k'
def u3 (T : Nat → Nat → Nat → Int32) (k t i : Nat) (v : Int32) : Nat → Nat → Nat → Int32 := fun k' t' => if k' = k ∧ t' = t then upd (T k' t') i v else T k' t'
def uj (J : Nat → Nat → Int64) (k i : Nat) (v : Int64) : Nat → Nat → Int64 := fun k' => if k' = k then vp_updL (J k') i v else J k'
section MW
variable {z : Nat → Nat} {h : Nat} {A : Nat → Nat → Nat → Nat} {M : Nat → Nat → Nat} {I : Nat → Nat → Int32} {T : Nat → Nat → Nat → Int32} {J : Nat → Nat → Int64} {rl : Nat → Nat × Nat × Nat} {G : gM} {N : Nat}
theorem w50 (R : Mem z h A M I T J rl G N) {i : Nat} (hi : i < 5) (v : Int32) : ∃ G', uI G (A 3 0 0) (nI i) v = some G' ∧ Mem z h A M (uu I 50 i v) T J rl G' N := by
  refine ⟨_, uI_n (R.c 3 0 0 ⟨by decide, rfl⟩) (by decide) hi, R.wr 3 0 0 ⟨by decide, rfl⟩ R.b (by simp [cl, fxC, thL, uu, u3, uj]) ?_⟩
  intro κ' i' j' hl
  match κ', hl with
  | 0, hl => exact ⟨by simpa [lv, uu, u3, uj, upd, vp_updL] using hl, .inr (by simp [cl, eA, thL, uu, u3, uj, upd, vp_updL])⟩
  | 1, hl => exact ⟨by simpa [lv, uu, u3, uj, upd, vp_updL] using hl, .inr (by simp [cl, eA, thL, uu, u3, uj, upd, vp_updL])⟩
  | 2, hl => exact ⟨by simpa [lv, uu, u3, uj, upd, vp_updL] using hl, .inr (by simp [cl, eA, thL, uu, u3, uj, upd, vp_updL])⟩
  | 3, hl =>
    refine ⟨hl, ?_⟩
    obtain ⟨hi, hj⟩ := hl
    match i', hi with
    | 0, _ => exact .inl (by rw [hj])
    | 1, _ => exact .inr (by simp [cl, fxC, uu, u3, uj, upd, vp_updL])
    | 2, _ => exact .inr (by simp [cl, fxC, uu, u3, uj, upd, vp_updL])
    | 3, _ => exact .inr (by simp [cl, fxC, uu, u3, uj, upd, vp_updL])
    | 4, _ => exact .inr (by simp [cl, fxC, uu, u3, uj, upd, vp_updL])
    | 5, _ => exact .inr (by simp [cl, fxC, uu, u3, uj, upd, vp_updL])
    | 6, _ => exact .inr (by simp [cl, fxC, uu, u3, uj, upd, vp_updL])
    | 7, _ => exact .inr (by simp [cl, fxC, uu, u3, uj, upd, vp_updL])
    | 8, _ => exact .inr (by simp [cl, fxC, uu, u3, uj, upd, vp_updL])
    | 9, _ => exact .inr (by simp [cl, fxC, uu, u3, uj, upd, vp_updL])
    | 10, _ => exact .inr (by simp [cl, fxC, uu, u3, uj, upd, vp_updL])
    | 11, _ => exact .inr (by simp [cl, fxC, uu, u3, uj, upd, vp_updL])
    | 12, _ => exact .inr (by simp [cl, fxC, uu, u3, uj, upd, vp_updL])
    | 13, _ => exact .inr (by simp [cl, fxC, uu, u3, uj, upd, vp_updL])
    | 14, _ => exact .inr (by simp [cl, fxC, uu, u3, uj, upd, vp_updL])
    | i' + 15, hi => exact absurd hi (by omega)
  | 4, hl => exact ⟨by simpa [lv, uu, u3, uj, upd, vp_updL] using hl, .inr (by simp [cl, eA, thL, uu, u3, uj, upd, vp_updL])⟩
  | 5, hl => exact ⟨by simpa [lv, uu, u3, uj, upd, vp_updL] using hl, .inr (by simp [cl, eA, thL, uu, u3, uj, upd, vp_updL])⟩
  | 6, hl => exact ⟨by simpa [lv, uu, u3, uj, upd, vp_updL] using hl, .inr (by simp [cl, eA, thL, uu, u3, uj, upd, vp_updL])⟩
  | 7, hl => exact ⟨by simpa [lv, uu, u3, uj, upd, vp_updL] using hl, .inr (by simp [cl, eA, thL, uu, u3, uj, upd, vp_updL])⟩
  | 8, hl => exact ⟨by simpa [lv, uu, u3, uj, upd, vp_updL] using hl, .inr (by simp [cl, eA, thL, uu, u3, uj, upd, vp_updL])⟩
  | 9, hl => exact ⟨by simpa [lv, uu, u3, uj, upd, vp_updL] using hl, .inr (by simp [cl, eA, thL, uu, u3, uj, upd, vp_updL])⟩
  | 10, hl => exact ⟨by simpa [lv, uu, u3, uj, upd, vp_updL] using hl, .inr (by simp [cl, eA, thL, uu, u3, uj, upd, vp_updL])⟩
  | κ' + 11, hl => exact absurd hl (by simp [lv])
theorem w51 (R : Mem z h A M I T J rl G N) {i : Nat} (hi : i < 4) (v : Int32) : ∃ G', uI G (A 3 1 0) (nI i) v = some G' ∧ Mem z h A M (uu I 51 i v) T J rl G' N := by
  refine ⟨_, uI_n (R.c 3 1 0 ⟨by decide, rfl⟩) (by decide) hi, R.wr 3 1 0 ⟨by decide, rfl⟩ R.b (by simp [cl, fxC, thL, uu, u3, uj]) ?_⟩
  intro κ' i' j' hl
  match κ', hl with
  | 0, hl => exact ⟨by simpa [lv, uu, u3, uj, upd, vp_updL] using hl, .inr (by simp [cl, eA, thL, uu, u3, uj, upd, vp_updL])⟩
  | 1, hl => exact ⟨by simpa [lv, uu, u3, uj, upd, vp_updL] using hl, .inr (by simp [cl, eA, thL, uu, u3, uj, upd, vp_updL])⟩
  | 2, hl => exact ⟨by simpa [lv, uu, u3, uj, upd, vp_updL] using hl, .inr (by simp [cl, eA, thL, uu, u3, uj, upd, vp_updL])⟩
  | 3, hl =>
    refine ⟨hl, ?_⟩
    obtain ⟨hi, hj⟩ := hl
    match i', hi with
    | 0, _ => exact .inr (by simp [cl, fxC, uu, u3, uj, upd, vp_updL])
    | 1, _ => exact .inl (by rw [hj])
    | 2, _ => exact .inr (by simp [cl, fxC, uu, u3, uj, upd, vp_updL])
    | 3, _ => exact .inr (by simp [cl, fxC, uu, u3, uj, upd, vp_updL])
    | 4, _ => exact .inr (by simp [cl, fxC, uu, u3, uj, upd, vp_updL])
    | 5, _ => exact .inr (by simp [cl, fxC, uu, u3, uj, upd, vp_updL])
    | 6, _ => exact .inr (by simp [cl, fxC, uu, u3, uj, upd, vp_updL])
    | 7, _ => exact .inr (by simp [cl, fxC, uu, u3, uj, upd, vp_updL])
    | 8, _ => exact .inr (by simp [cl, fxC, uu, u3, uj, upd, vp_updL])
    | 9, _ => exact .inr (by simp [cl, fxC, uu, u3, uj, upd, vp_updL])
    | 10, _ => exact .inr (by simp [cl, fxC, uu, u3, uj, upd, vp_updL])
    | 11, _ => exact .inr (by simp [cl, fxC, uu, u3, uj, upd, vp_updL])
    | 12, _ => exact .inr (by simp [cl, fxC, uu, u3, uj, upd, vp_updL])
    | 13, _ => exact .inr (by simp [cl, fxC, uu, u3, uj, upd, vp_updL])
    | 14, _ => exact .inr (by simp [cl, fxC, uu, u3, uj, upd, vp_updL])
    | i' + 15, hi => exact absurd hi (by omega)
  | 4, hl => exact ⟨by simpa [lv, uu, u3, uj, upd, vp_updL] using hl, .inr (by simp [cl, eA, thL, uu, u3, uj, upd, vp_updL])⟩
  | 5, hl => exact ⟨by simpa [lv, uu, u3, uj, upd, vp_updL] using hl, .inr (by simp [cl, eA, thL, uu, u3, uj, upd, vp_updL])⟩
  | 6, hl => exact ⟨by simpa [lv, uu, u3, uj, upd, vp_updL] using hl, .inr (by simp [cl, eA, thL, uu, u3, uj, upd, vp_updL])⟩
  | 7, hl => exact ⟨by simpa [lv, uu, u3, uj, upd, vp_updL] using hl, .inr (by simp [cl, eA, thL, uu, u3, uj, upd, vp_updL])⟩
  | 8, hl => exact ⟨by simpa [lv, uu, u3, uj, upd, vp_updL] using hl, .inr (by simp [cl, eA, thL, uu, u3, uj, upd, vp_updL])⟩
  | 9, hl => exact ⟨by simpa [lv, uu, u3, uj, upd, vp_updL] using hl, .inr (by simp [cl, eA, thL, uu, u3, uj, upd, vp_updL])⟩
  | 10, hl => exact ⟨by simpa [lv, uu, u3, uj, upd, vp_updL] using hl, .inr (by simp [cl, eA, thL, uu, u3, uj, upd, vp_updL])⟩
  | κ' + 11, hl => exact absurd hl (by simp [lv])
theorem w52 (R : Mem z h A M I T J rl G N) {i : Nat} (hi : i < 6) (v : Int32) : ∃ G', uI G (A 3 2 0) (nI i) v = some G' ∧ Mem z h A M (uu I 52 i v) T J rl G' N := by
  refine ⟨_, uI_n (R.c 3 2 0 ⟨by decide, rfl⟩) (by decide) hi, R.wr 3 2 0 ⟨by decide, rfl⟩ R.b (by simp [cl, fxC, thL, uu, u3, uj]) ?_⟩
  intro κ' i' j' hl
  match κ', hl with
  | 0, hl => exact ⟨by simpa [lv, uu, u3, uj, upd, vp_updL] using hl, .inr (by simp [cl, eA, thL, uu, u3, uj, upd, vp_updL])⟩
  | 1, hl => exact ⟨by simpa [lv, uu, u3, uj, upd, vp_updL] using hl, .inr (by simp [cl, eA, thL, uu, u3, uj, upd, vp_updL])⟩
  | 2, hl => exact ⟨by simpa [lv, uu, u3, uj, upd, vp_updL] using hl, .inr (by simp [cl, eA, thL, uu, u3, uj, upd, vp_updL])⟩
  | 3, hl =>
    refine ⟨hl, ?_⟩
    obtain ⟨hi, hj⟩ := hl
    match i', hi with
    | 0, _ => exact .inr (by simp [cl, fxC, uu, u3, uj, upd, vp_updL])
    | 1, _ => exact .inr (by simp [cl, fxC, uu, u3, uj, upd, vp_updL])
    | 2, _ => exact .inl (by rw [hj])
    | 3, _ => exact .inr (by simp [cl, fxC, uu, u3, uj, upd, vp_updL])
    | 4, _ => exact .inr (by simp [cl, fxC, uu, u3, uj, upd, vp_updL])
    | 5, _ => exact .inr (by simp [cl, fxC, uu, u3, uj, upd, vp_updL])
    | 6, _ => exact .inr (by simp [cl, fxC, uu, u3, uj, upd, vp_updL])
    | 7, _ => exact .inr (by simp [cl, fxC, uu, u3, uj, upd, vp_updL])
    | 8, _ => exact .inr (by simp [cl, fxC, uu, u3, uj, upd, vp_updL])
    | 9, _ => exact .inr (by simp [cl, fxC, uu, u3, uj, upd, vp_updL])
    | 10, _ => exact .inr (by simp [cl, fxC, uu, u3, uj, upd, vp_updL])
    | 11, _ => exact .inr (by simp [cl, fxC, uu, u3, uj, upd, vp_updL])
    | 12, _ => exact .inr (by simp [cl, fxC, uu, u3, uj, upd, vp_updL])
    | 13, _ => exact .inr (by simp [cl, fxC, uu, u3, uj, upd, vp_updL])
    | 14, _ => exact .inr (by simp [cl, fxC, uu, u3, uj, upd, vp_updL])
    | i' + 15, hi => exact absurd hi (by omega)
  | 4, hl => exact ⟨by simpa [lv, uu, u3, uj, upd, vp_updL] using hl, .inr (by simp [cl, eA, thL, uu, u3, uj, upd, vp_updL])⟩
  | 5, hl => exact ⟨by simpa [lv, uu, u3, uj, upd, vp_updL] using hl, .inr (by simp [cl, eA, thL, uu, u3, uj, upd, vp_updL])⟩
  | 6, hl => exact ⟨by simpa [lv, uu, u3, uj, upd, vp_updL] using hl, .inr (by simp [cl, eA, thL, uu, u3, uj, upd, vp_updL])⟩
  | 7, hl => exact ⟨by simpa [lv, uu, u3, uj, upd, vp_updL] using hl, .inr (by simp [cl, eA, thL, uu, u3, uj, upd, vp_updL])⟩
  | 8, hl => exact ⟨by simpa [lv, uu, u3, uj, upd, vp_updL] using hl, .inr (by simp [cl, eA, thL, uu, u3, uj, upd, vp_updL])⟩
  | 9, hl => exact ⟨by simpa [lv, uu, u3, uj, upd, vp_updL] using hl, .inr (by simp [cl, eA, thL, uu, u3, uj, upd, vp_updL])⟩
  | 10, hl => exact ⟨by simpa [lv, uu, u3, uj, upd, vp_updL] using hl, .inr (by simp [cl, eA, thL, uu, u3, uj, upd, vp_updL])⟩
  | κ' + 11, hl => exact absurd hl (by simp [lv])
theorem w53 (R : Mem z h A M I T J rl G N) {i : Nat} (hi : i < 20) (v : Int32) : ∃ G', uI G (A 3 3 0) (nI i) v = some G' ∧ Mem z h A M (uu I 53 i v) T J rl G' N := by
  refine ⟨_, uI_n (R.c 3 3 0 ⟨by decide, rfl⟩) (by decide) hi, R.wr 3 3 0 ⟨by decide, rfl⟩ R.b (by simp [cl, fxC, thL, uu, u3, uj]) ?_⟩
  intro κ' i' j' hl
  match κ', hl with
  | 0, hl => exact ⟨by simpa [lv, uu, u3, uj, upd, vp_updL] using hl, .inr (by simp [cl, eA, thL, uu, u3, uj, upd, vp_updL])⟩
  | 1, hl => exact ⟨by simpa [lv, uu, u3, uj, upd, vp_updL] using hl, .inr (by simp [cl, eA, thL, uu, u3, uj, upd, vp_updL])⟩
  | 2, hl => exact ⟨by simpa [lv, uu, u3, uj, upd, vp_updL] using hl, .inr (by simp [cl, eA, thL, uu, u3, uj, upd, vp_updL])⟩
  | 3, hl =>
    refine ⟨hl, ?_⟩
    obtain ⟨hi, hj⟩ := hl
    match i', hi with
    | 0, _ => exact .inr (by simp [cl, fxC, uu, u3, uj, upd, vp_updL])
    | 1, _ => exact .inr (by simp [cl, fxC, uu, u3, uj, upd, vp_updL])
    | 2, _ => exact .inr (by simp [cl, fxC, uu, u3, uj, upd, vp_updL])
    | 3, _ => exact .inl (by rw [hj])
    | 4, _ => exact .inr (by simp [cl, fxC, uu, u3, uj, upd, vp_updL])
    | 5, _ => exact .inr (by simp [cl, fxC, uu, u3, uj, upd, vp_updL])
    | 6, _ => exact .inr (by simp [cl, fxC, uu, u3, uj, upd, vp_updL])
    | 7, _ => exact .inr (by simp [cl, fxC, uu, u3, uj, upd, vp_updL])
    | 8, _ => exact .inr (by simp [cl, fxC, uu, u3, uj, upd, vp_updL])
    | 9, _ => exact .inr (by simp [cl, fxC, uu, u3, uj, upd, vp_updL])
    | 10, _ => exact .inr (by simp [cl, fxC, uu, u3, uj, upd, vp_updL])
    | 11, _ => exact .inr (by simp [cl, fxC, uu, u3, uj, upd, vp_updL])
    | 12, _ => exact .inr (by simp [cl, fxC, uu, u3, uj, upd, vp_updL])
    | 13, _ => exact .inr (by simp [cl, fxC, uu, u3, uj, upd, vp_updL])
    | 14, _ => exact .inr (by simp [cl, fxC, uu, u3, uj, upd, vp_updL])
    | i' + 15, hi => exact absurd hi (by omega)
  | 4, hl => exact ⟨by simpa [lv, uu, u3, uj, upd, vp_updL] using hl, .inr (by simp [cl, eA, thL, uu, u3, uj, upd, vp_updL])⟩
  | 5, hl => exact ⟨by simpa [lv, uu, u3, uj, upd, vp_updL] using hl, .inr (by simp [cl, eA, thL, uu, u3, uj, upd, vp_updL])⟩
  | 6, hl => exact ⟨by simpa [lv, uu, u3, uj, upd, vp_updL] using hl, .inr (by simp [cl, eA, thL, uu, u3, uj, upd, vp_updL])⟩
  | 7, hl => exact ⟨by simpa [lv, uu, u3, uj, upd, vp_updL] using hl, .inr (by simp [cl, eA, thL, uu, u3, uj, upd, vp_updL])⟩
  | 8, hl => exact ⟨by simpa [lv, uu, u3, uj, upd, vp_updL] using hl, .inr (by simp [cl, eA, thL, uu, u3, uj, upd, vp_updL])⟩
  | 9, hl => exact ⟨by simpa [lv, uu, u3, uj, upd, vp_updL] using hl, .inr (by simp [cl, eA, thL, uu, u3, uj, upd, vp_updL])⟩
  | 10, hl => exact ⟨by simpa [lv, uu, u3, uj, upd, vp_updL] using hl, .inr (by simp [cl, eA, thL, uu, u3, uj, upd, vp_updL])⟩
  | κ' + 11, hl => exact absurd hl (by simp [lv])
theorem w54 (R : Mem z h A M I T J rl G N) {i : Nat} (hi : i < 1024) (h0 : i ≠ 0) (v : Int32) : ∃ G', uI G (A 3 8 0) (nI i) v = some G' ∧ Mem z h A M (uu I 54 i v) T J rl G' N := by
  refine ⟨_, uI_n (R.c 3 8 0 ⟨by decide, rfl⟩) (by decide) hi, R.wr 3 8 0 ⟨by decide, rfl⟩ R.b (by rw [zf_u h0]; rfl) ?_⟩
  intro κ' i' j' hl
  match κ', hl with
  | 0, hl => exact ⟨by simpa [lv, uu, u3, uj, upd, vp_updL] using hl, .inr (by simp [cl, eA, thL, uu, u3, uj, upd, vp_updL])⟩
  | 1, hl => exact ⟨by simpa [lv, uu, u3, uj, upd, vp_updL] using hl, .inr (by simp [cl, eA, thL, uu, u3, uj, upd, vp_updL])⟩
  | 2, hl => exact ⟨by simpa [lv, uu, u3, uj, upd, vp_updL] using hl, .inr (by simp [cl, eA, thL, uu, u3, uj, upd, vp_updL])⟩
  | 3, hl =>
    refine ⟨hl, ?_⟩
    obtain ⟨hi, hj⟩ := hl
    match i', hi with
    | 0, _ => exact .inr (by simp [cl, fxC, uu, u3, uj, upd, vp_updL])
    | 1, _ => exact .inr (by simp [cl, fxC, uu, u3, uj, upd, vp_updL])
    | 2, _ => exact .inr (by simp [cl, fxC, uu, u3, uj, upd, vp_updL])
    | 3, _ => exact .inr (by simp [cl, fxC, uu, u3, uj, upd, vp_updL])
    | 4, _ => exact .inr (by simp [cl, fxC, uu, u3, uj, upd, vp_updL])
    | 5, _ => exact .inr (by simp [cl, fxC, uu, u3, uj, upd, vp_updL])
    | 6, _ => exact .inr (by simp [cl, fxC, uu, u3, uj, upd, vp_updL])
    | 7, _ => exact .inr (by simp [cl, fxC, uu, u3, uj, upd, vp_updL])
    | 8, _ => exact .inl (by rw [hj])
    | 9, _ => exact .inr (by simp [cl, fxC, uu, u3, uj, upd, vp_updL])
    | 10, _ => exact .inr (by simp [cl, fxC, uu, u3, uj, upd, vp_updL])
    | 11, _ => exact .inr (by simp [cl, fxC, uu, u3, uj, upd, vp_updL])
    | 12, _ => exact .inr (by simp [cl, fxC, uu, u3, uj, upd, vp_updL])
    | 13, _ => exact .inr (by simp [cl, fxC, uu, u3, uj, upd, vp_updL])
    | 14, _ => exact .inr (by simp [cl, fxC, uu, u3, uj, upd, vp_updL])
    | i' + 15, hi => exact absurd hi (by omega)
  | 4, hl => exact ⟨by simpa [lv, uu, u3, uj, upd, vp_updL] using hl, .inr (by simp [cl, eA, thL, uu, u3, uj, upd, vp_updL])⟩
  | 5, hl => exact ⟨by simpa [lv, uu, u3, uj, upd, vp_updL] using hl, .inr (by simp [cl, eA, thL, uu, u3, uj, upd, vp_updL])⟩
  | 6, hl => exact ⟨by simpa [lv, uu, u3, uj, upd, vp_updL] using hl, .inr (by simp [cl, eA, thL, uu, u3, uj, upd, vp_updL])⟩
  | 7, hl => exact ⟨by simpa [lv, uu, u3, uj, upd, vp_updL] using hl, .inr (by simp [cl, eA, thL, uu, u3, uj, upd, vp_updL])⟩
  | 8, hl => exact ⟨by simpa [lv, uu, u3, uj, upd, vp_updL] using hl, .inr (by simp [cl, eA, thL, uu, u3, uj, upd, vp_updL])⟩
  | 9, hl => exact ⟨by simpa [lv, uu, u3, uj, upd, vp_updL] using hl, .inr (by simp [cl, eA, thL, uu, u3, uj, upd, vp_updL])⟩
  | 10, hl => exact ⟨by simpa [lv, uu, u3, uj, upd, vp_updL] using hl, .inr (by simp [cl, eA, thL, uu, u3, uj, upd, vp_updL])⟩
  | κ' + 11, hl => exact absurd hl (by simp [lv])
theorem w55 (R : Mem z h A M I T J rl G N) {i : Nat} (hi : i < 1024) (h0 : i ≠ 0) (v : Int32) : ∃ G', uI G (A 3 9 0) (nI i) v = some G' ∧ Mem z h A M (uu I 55 i v) T J rl G' N := by
  refine ⟨_, uI_n (R.c 3 9 0 ⟨by decide, rfl⟩) (by decide) hi, R.wr 3 9 0 ⟨by decide, rfl⟩ R.b (by rw [zf_u h0]; rfl) ?_⟩
  intro κ' i' j' hl
  match κ', hl with
  | 0, hl => exact ⟨by simpa [lv, uu, u3, uj, upd, vp_updL] using hl, .inr (by simp [cl, eA, thL, uu, u3, uj, upd, vp_updL])⟩
  | 1, hl => exact ⟨by simpa [lv, uu, u3, uj, upd, vp_updL] using hl, .inr (by simp [cl, eA, thL, uu, u3, uj, upd, vp_updL])⟩
  | 2, hl => exact ⟨by simpa [lv, uu, u3, uj, upd, vp_updL] using hl, .inr (by simp [cl, eA, thL, uu, u3, uj, upd, vp_updL])⟩
  | 3, hl =>
    refine ⟨hl, ?_⟩
    obtain ⟨hi, hj⟩ := hl
    match i', hi with
    | 0, _ => exact .inr (by simp [cl, fxC, uu, u3, uj, upd, vp_updL])
    | 1, _ => exact .inr (by simp [cl, fxC, uu, u3, uj, upd, vp_updL])
    | 2, _ => exact .inr (by simp [cl, fxC, uu, u3, uj, upd, vp_updL])
    | 3, _ => exact .inr (by simp [cl, fxC, uu, u3, uj, upd, vp_updL])
    | 4, _ => exact .inr (by simp [cl, fxC, uu, u3, uj, upd, vp_updL])
    | 5, _ => exact .inr (by simp [cl, fxC, uu, u3, uj, upd, vp_updL])
    | 6, _ => exact .inr (by simp [cl, fxC, uu, u3, uj, upd, vp_updL])
    | 7, _ => exact .inr (by simp [cl, fxC, uu, u3, uj, upd, vp_updL])
    | 8, _ => exact .inr (by simp [cl, fxC, uu, u3, uj, upd, vp_updL])
    | 9, _ => exact .inl (by rw [hj])
    | 10, _ => exact .inr (by simp [cl, fxC, uu, u3, uj, upd, vp_updL])
    | 11, _ => exact .inr (by simp [cl, fxC, uu, u3, uj, upd, vp_updL])
    | 12, _ => exact .inr (by simp [cl, fxC, uu, u3, uj, upd, vp_updL])
    | 13, _ => exact .inr (by simp [cl, fxC, uu, u3, uj, upd, vp_updL])
    | 14, _ => exact .inr (by simp [cl, fxC, uu, u3, uj, upd, vp_updL])
    | i' + 15, hi => exact absurd hi (by omega)
  | 4, hl => exact ⟨by simpa [lv, uu, u3, uj, upd, vp_updL] using hl, .inr (by simp [cl, eA, thL, uu, u3, uj, upd, vp_updL])⟩
  | 5, hl => exact ⟨by simpa [lv, uu, u3, uj, upd, vp_updL] using hl, .inr (by simp [cl, eA, thL, uu, u3, uj, upd, vp_updL])⟩
  | 6, hl => exact ⟨by simpa [lv, uu, u3, uj, upd, vp_updL] using hl, .inr (by simp [cl, eA, thL, uu, u3, uj, upd, vp_updL])⟩
  | 7, hl => exact ⟨by simpa [lv, uu, u3, uj, upd, vp_updL] using hl, .inr (by simp [cl, eA, thL, uu, u3, uj, upd, vp_updL])⟩
  | 8, hl => exact ⟨by simpa [lv, uu, u3, uj, upd, vp_updL] using hl, .inr (by simp [cl, eA, thL, uu, u3, uj, upd, vp_updL])⟩
  | 9, hl => exact ⟨by simpa [lv, uu, u3, uj, upd, vp_updL] using hl, .inr (by simp [cl, eA, thL, uu, u3, uj, upd, vp_updL])⟩
  | 10, hl => exact ⟨by simpa [lv, uu, u3, uj, upd, vp_updL] using hl, .inr (by simp [cl, eA, thL, uu, u3, uj, upd, vp_updL])⟩
  | κ' + 11, hl => exact absurd hl (by simp [lv])
theorem w56 (R : Mem z h A M I T J rl G N) {i : Nat} (hi : i < 14) (v : Int32) : ∃ G', uI G (A 3 11 0) (nI i) v = some G' ∧ Mem z h A M (uu I 56 i v) T J rl G' N := by
  refine ⟨_, uI_n (R.c 3 11 0 ⟨by decide, rfl⟩) (by decide) hi, R.wr 3 11 0 ⟨by decide, rfl⟩ R.b (by simp [cl, fxC, thL, uu, u3, uj]) ?_⟩
  intro κ' i' j' hl
  match κ', hl with
  | 0, hl => exact ⟨by simpa [lv, uu, u3, uj, upd, vp_updL] using hl, .inr (by simp [cl, eA, thL, uu, u3, uj, upd, vp_updL])⟩
  | 1, hl => exact ⟨by simpa [lv, uu, u3, uj, upd, vp_updL] using hl, .inr (by simp [cl, eA, thL, uu, u3, uj, upd, vp_updL])⟩
  | 2, hl => exact ⟨by simpa [lv, uu, u3, uj, upd, vp_updL] using hl, .inr (by simp [cl, eA, thL, uu, u3, uj, upd, vp_updL])⟩
  | 3, hl =>
    refine ⟨hl, ?_⟩
    obtain ⟨hi, hj⟩ := hl
    match i', hi with
    | 0, _ => exact .inr (by simp [cl, fxC, uu, u3, uj, upd, vp_updL])
    | 1, _ => exact .inr (by simp [cl, fxC, uu, u3, uj, upd, vp_updL])
    | 2, _ => exact .inr (by simp [cl, fxC, uu, u3, uj, upd, vp_updL])
    | 3, _ => exact .inr (by simp [cl, fxC, uu, u3, uj, upd, vp_updL])
    | 4, _ => exact .inr (by simp [cl, fxC, uu, u3, uj, upd, vp_updL])
    | 5, _ => exact .inr (by simp [cl, fxC, uu, u3, uj, upd, vp_updL])
    | 6, _ => exact .inr (by simp [cl, fxC, uu, u3, uj, upd, vp_updL])
    | 7, _ => exact .inr (by simp [cl, fxC, uu, u3, uj, upd, vp_updL])
    | 8, _ => exact .inr (by simp [cl, fxC, uu, u3, uj, upd, vp_updL])
    | 9, _ => exact .inr (by simp [cl, fxC, uu, u3, uj, upd, vp_updL])
    | 10, _ => exact .inr (by simp [cl, fxC, uu, u3, uj, upd, vp_updL])
    | 11, _ => exact .inl (by rw [hj])
    | 12, _ => exact .inr (by simp [cl, fxC, uu, u3, uj, upd, vp_updL])
    | 13, _ => exact .inr (by simp [cl, fxC, uu, u3, uj, upd, vp_updL])
    | 14, _ => exact .inr (by simp [cl, fxC, uu, u3, uj, upd, vp_updL])
    | i' + 15, hi => exact absurd hi (by omega)
  | 4, hl => exact ⟨by simpa [lv, uu, u3, uj, upd, vp_updL] using hl, .inr (by simp [cl, eA, thL, uu, u3, uj, upd, vp_updL])⟩
  | 5, hl => exact ⟨by simpa [lv, uu, u3, uj, upd, vp_updL] using hl, .inr (by simp [cl, eA, thL, uu, u3, uj, upd, vp_updL])⟩
  | 6, hl => exact ⟨by simpa [lv, uu, u3, uj, upd, vp_updL] using hl, .inr (by simp [cl, eA, thL, uu, u3, uj, upd, vp_updL])⟩
  | 7, hl => exact ⟨by simpa [lv, uu, u3, uj, upd, vp_updL] using hl, .inr (by simp [cl, eA, thL, uu, u3, uj, upd, vp_updL])⟩
  | 8, hl => exact ⟨by simpa [lv, uu, u3, uj, upd, vp_updL] using hl, .inr (by simp [cl, eA, thL, uu, u3, uj, upd, vp_updL])⟩
  | 9, hl => exact ⟨by simpa [lv, uu, u3, uj, upd, vp_updL] using hl, .inr (by simp [cl, eA, thL, uu, u3, uj, upd, vp_updL])⟩
  | 10, hl => exact ⟨by simpa [lv, uu, u3, uj, upd, vp_updL] using hl, .inr (by simp [cl, eA, thL, uu, u3, uj, upd, vp_updL])⟩
  | κ' + 11, hl => exact absurd hl (by simp [lv])
theorem w57 (R : Mem z h A M I T J rl G N) {i : Nat} (hi : i < 6) (v : Int32) : ∃ G', uI G (A 3 13 0) (nI i) v = some G' ∧ Mem z h A M (uu I 57 i v) T J rl G' N := by
  refine ⟨_, uI_n (R.c 3 13 0 ⟨by decide, rfl⟩) (by decide) hi, R.wr 3 13 0 ⟨by decide, rfl⟩ R.b (by simp [cl, fxC, thL, uu, u3, uj]) ?_⟩
  intro κ' i' j' hl
  match κ', hl with
  | 0, hl => exact ⟨by simpa [lv, uu, u3, uj, upd, vp_updL] using hl, .inr (by simp [cl, eA, thL, uu, u3, uj, upd, vp_updL])⟩
  | 1, hl => exact ⟨by simpa [lv, uu, u3, uj, upd, vp_updL] using hl, .inr (by simp [cl, eA, thL, uu, u3, uj, upd, vp_updL])⟩
  | 2, hl => exact ⟨by simpa [lv, uu, u3, uj, upd, vp_updL] using hl, .inr (by simp [cl, eA, thL, uu, u3, uj, upd, vp_updL])⟩
  | 3, hl =>
    refine ⟨hl, ?_⟩
    obtain ⟨hi, hj⟩ := hl
    match i', hi with
    | 0, _ => exact .inr (by simp [cl, fxC, uu, u3, uj, upd, vp_updL])
    | 1, _ => exact .inr (by simp [cl, fxC, uu, u3, uj, upd, vp_updL])
    | 2, _ => exact .inr (by simp [cl, fxC, uu, u3, uj, upd, vp_updL])
    | 3, _ => exact .inr (by simp [cl, fxC, uu, u3, uj, upd, vp_updL])
    | 4, _ => exact .inr (by simp [cl, fxC, uu, u3, uj, upd, vp_updL])
    | 5, _ => exact .inr (by simp [cl, fxC, uu, u3, uj, upd, vp_updL])
    | 6, _ => exact .inr (by simp [cl, fxC, uu, u3, uj, upd, vp_updL])
    | 7, _ => exact .inr (by simp [cl, fxC, uu, u3, uj, upd, vp_updL])
    | 8, _ => exact .inr (by simp [cl, fxC, uu, u3, uj, upd, vp_updL])
    | 9, _ => exact .inr (by simp [cl, fxC, uu, u3, uj, upd, vp_updL])
    | 10, _ => exact .inr (by simp [cl, fxC, uu, u3, uj, upd, vp_updL])
    | 11, _ => exact .inr (by simp [cl, fxC, uu, u3, uj, upd, vp_updL])
    | 12, _ => exact .inr (by simp [cl, fxC, uu, u3, uj, upd, vp_updL])
    | 13, _ => exact .inl (by rw [hj])
    | 14, _ => exact .inr (by simp [cl, fxC, uu, u3, uj, upd, vp_updL])
    | i' + 15, hi => exact absurd hi (by omega)
  | 4, hl => exact ⟨by simpa [lv, uu, u3, uj, upd, vp_updL] using hl, .inr (by simp [cl, eA, thL, uu, u3, uj, upd, vp_updL])⟩
  | 5, hl => exact ⟨by simpa [lv, uu, u3, uj, upd, vp_updL] using hl, .inr (by simp [cl, eA, thL, uu, u3, uj, upd, vp_updL])⟩
  | 6, hl => exact ⟨by simpa [lv, uu, u3, uj, upd, vp_updL] using hl, .inr (by simp [cl, eA, thL, uu, u3, uj, upd, vp_updL])⟩
  | 7, hl => exact ⟨by simpa [lv, uu, u3, uj, upd, vp_updL] using hl, .inr (by simp [cl, eA, thL, uu, u3, uj, upd, vp_updL])⟩
  | 8, hl => exact ⟨by simpa [lv, uu, u3, uj, upd, vp_updL] using hl, .inr (by simp [cl, eA, thL, uu, u3, uj, upd, vp_updL])⟩
  | 9, hl => exact ⟨by simpa [lv, uu, u3, uj, upd, vp_updL] using hl, .inr (by simp [cl, eA, thL, uu, u3, uj, upd, vp_updL])⟩
  | 10, hl => exact ⟨by simpa [lv, uu, u3, uj, upd, vp_updL] using hl, .inr (by simp [cl, eA, thL, uu, u3, uj, upd, vp_updL])⟩
  | κ' + 11, hl => exact absurd hl (by simp [lv])
theorem w58 (R : Mem z h A M I T J rl G N) {i : Nat} (hi : i < 6) (v : Int32) : ∃ G', uI G (A 3 14 0) (nI i) v = some G' ∧ Mem z h A M (uu I 58 i v) T J rl G' N := by
  refine ⟨_, uI_n (R.c 3 14 0 ⟨by decide, rfl⟩) (by decide) hi, R.wr 3 14 0 ⟨by decide, rfl⟩ R.b (by simp [cl, fxC, thL, uu, u3, uj]) ?_⟩
  intro κ' i' j' hl
  match κ', hl with
  | 0, hl => exact ⟨by simpa [lv, uu, u3, uj, upd, vp_updL] using hl, .inr (by simp [cl, eA, thL, uu, u3, uj, upd, vp_updL])⟩
  | 1, hl => exact ⟨by simpa [lv, uu, u3, uj, upd, vp_updL] using hl, .inr (by simp [cl, eA, thL, uu, u3, uj, upd, vp_updL])⟩
  | 2, hl => exact ⟨by simpa [lv, uu, u3, uj, upd, vp_updL] using hl, .inr (by simp [cl, eA, thL, uu, u3, uj, upd, vp_updL])⟩
  | 3, hl =>
    refine ⟨hl, ?_⟩
    obtain ⟨hi, hj⟩ := hl
    match i', hi with
    | 0, _ => exact .inr (by simp [cl, fxC, uu, u3, uj, upd, vp_updL])
    | 1, _ => exact .inr (by simp [cl, fxC, uu, u3, uj, upd, vp_updL])
    | 2, _ => exact .inr (by simp [cl, fxC, uu, u3, uj, upd, vp_updL])
    | 3, _ => exact .inr (by simp [cl, fxC, uu, u3, uj, upd, vp_updL])
    | 4, _ => exact .inr (by simp [cl, fxC, uu, u3, uj, upd, vp_updL])
    | 5, _ => exact .inr (by simp [cl, fxC, uu, u3, uj, upd, vp_updL])
    | 6, _ => exact .inr (by simp [cl, fxC, uu, u3, uj, upd, vp_updL])
    | 7, _ => exact .inr (by simp [cl, fxC, uu, u3, uj, upd, vp_updL])
    | 8, _ => exact .inr (by simp [cl, fxC, uu, u3, uj, upd, vp_updL])
    | 9, _ => exact .inr (by simp [cl, fxC, uu, u3, uj, upd, vp_updL])
    | 10, _ => exact .inr (by simp [cl, fxC, uu, u3, uj, upd, vp_updL])
    | 11, _ => exact .inr (by simp [cl, fxC, uu, u3, uj, upd, vp_updL])
    | 12, _ => exact .inr (by simp [cl, fxC, uu, u3, uj, upd, vp_updL])
    | 13, _ => exact .inr (by simp [cl, fxC, uu, u3, uj, upd, vp_updL])
    | 14, _ => exact .inl (by rw [hj])
    | i' + 15, hi => exact absurd hi (by omega)
  | 4, hl => exact ⟨by simpa [lv, uu, u3, uj, upd, vp_updL] using hl, .inr (by simp [cl, eA, thL, uu, u3, uj, upd, vp_updL])⟩
  | 5, hl => exact ⟨by simpa [lv, uu, u3, uj, upd, vp_updL] using hl, .inr (by simp [cl, eA, thL, uu, u3, uj, upd, vp_updL])⟩
  | 6, hl => exact ⟨by simpa [lv, uu, u3, uj, upd, vp_updL] using hl, .inr (by simp [cl, eA, thL, uu, u3, uj, upd, vp_updL])⟩
  | 7, hl => exact ⟨by simpa [lv, uu, u3, uj, upd, vp_updL] using hl, .inr (by simp [cl, eA, thL, uu, u3, uj, upd, vp_updL])⟩
  | 8, hl => exact ⟨by simpa [lv, uu, u3, uj, upd, vp_updL] using hl, .inr (by simp [cl, eA, thL, uu, u3, uj, upd, vp_updL])⟩
  | 9, hl => exact ⟨by simpa [lv, uu, u3, uj, upd, vp_updL] using hl, .inr (by simp [cl, eA, thL, uu, u3, uj, upd, vp_updL])⟩
  | 10, hl => exact ⟨by simpa [lv, uu, u3, uj, upd, vp_updL] using hl, .inr (by simp [cl, eA, thL, uu, u3, uj, upd, vp_updL])⟩
  | κ' + 11, hl => exact absurd hl (by simp [lv])
theorem wJ0 (R : Mem z h A M I T J rl G N) {i : Nat} (hi : i < 256) (v : Int64) : ∃ G', uJ G (A 3 5 0) (nI i) v = some G' ∧ Mem z h A M I T (uj J 0 i v) rl G' N := by
  refine ⟨_, uJ_n (R.c 3 5 0 ⟨by decide, rfl⟩) (by decide) hi, R.wr 3 5 0 ⟨by decide, rfl⟩ R.b (by simp [cl, fxC, thL, uu, u3, uj]) ?_⟩
  intro κ' i' j' hl
  match κ', hl with
  | 0, hl => exact ⟨by simpa [lv, uu, u3, uj, upd, vp_updL] using hl, .inr (by simp [cl, eA, thL, uu, u3, uj, upd, vp_updL])⟩
  | 1, hl => exact ⟨by simpa [lv, uu, u3, uj, upd, vp_updL] using hl, .inr (by simp [cl, eA, thL, uu, u3, uj, upd, vp_updL])⟩
  | 2, hl => exact ⟨by simpa [lv, uu, u3, uj, upd, vp_updL] using hl, .inr (by simp [cl, eA, thL, uu, u3, uj, upd, vp_updL])⟩
  | 3, hl =>
    refine ⟨hl, ?_⟩
    obtain ⟨hi, hj⟩ := hl
    match i', hi with
    | 0, _ => exact .inr (by simp [cl, fxC, uu, u3, uj, upd, vp_updL])
    | 1, _ => exact .inr (by simp [cl, fxC, uu, u3, uj, upd, vp_updL])
    | 2, _ => exact .inr (by simp [cl, fxC, uu, u3, uj, upd, vp_updL])
    | 3, _ => exact .inr (by simp [cl, fxC, uu, u3, uj, upd, vp_updL])
    | 4, _ => exact .inr (by simp [cl, fxC, uu, u3, uj, upd, vp_updL])
    | 5, _ => exact .inl (by rw [hj])
    | 6, _ => exact .inr (by simp [cl, fxC, uu, u3, uj, upd, vp_updL])
    | 7, _ => exact .inr (by simp [cl, fxC, uu, u3, uj, upd, vp_updL])
    | 8, _ => exact .inr (by simp [cl, fxC, uu, u3, uj, upd, vp_updL])
    | 9, _ => exact .inr (by simp [cl, fxC, uu, u3, uj, upd, vp_updL])
    | 10, _ => exact .inr (by simp [cl, fxC, uu, u3, uj, upd, vp_updL])
    | 11, _ => exact .inr (by simp [cl, fxC, uu, u3, uj, upd, vp_updL])
    | 12, _ => exact .inr (by simp [cl, fxC, uu, u3, uj, upd, vp_updL])
    | 13, _ => exact .inr (by simp [cl, fxC, uu, u3, uj, upd, vp_updL])
    | 14, _ => exact .inr (by simp [cl, fxC, uu, u3, uj, upd, vp_updL])
    | i' + 15, hi => exact absurd hi (by omega)
  | 4, hl => exact ⟨by simpa [lv, uu, u3, uj, upd, vp_updL] using hl, .inr (by simp [cl, eA, thL, uu, u3, uj, upd, vp_updL])⟩
  | 5, hl => exact ⟨by simpa [lv, uu, u3, uj, upd, vp_updL] using hl, .inr (by simp [cl, eA, thL, uu, u3, uj, upd, vp_updL])⟩
  | 6, hl => exact ⟨by simpa [lv, uu, u3, uj, upd, vp_updL] using hl, .inr (by simp [cl, eA, thL, uu, u3, uj, upd, vp_updL])⟩
  | 7, hl => exact ⟨by simpa [lv, uu, u3, uj, upd, vp_updL] using hl, .inr (by simp [cl, eA, thL, uu, u3, uj, upd, vp_updL])⟩
  | 8, hl => exact ⟨by simpa [lv, uu, u3, uj, upd, vp_updL] using hl, .inr (by simp [cl, eA, thL, uu, u3, uj, upd, vp_updL])⟩
  | 9, hl => exact ⟨by simpa [lv, uu, u3, uj, upd, vp_updL] using hl, .inr (by simp [cl, eA, thL, uu, u3, uj, upd, vp_updL])⟩
  | 10, hl => exact ⟨by simpa [lv, uu, u3, uj, upd, vp_updL] using hl, .inr (by simp [cl, eA, thL, uu, u3, uj, upd, vp_updL])⟩
  | κ' + 11, hl => exact absurd hl (by simp [lv])
theorem wJ1 (R : Mem z h A M I T J rl G N) {i : Nat} (hi : i < 8) (v : Int64) : ∃ G', uJ G (A 3 6 0) (nI i) v = some G' ∧ Mem z h A M I T (uj J 1 i v) rl G' N := by
  refine ⟨_, uJ_n (R.c 3 6 0 ⟨by decide, rfl⟩) (by decide) hi, R.wr 3 6 0 ⟨by decide, rfl⟩ R.b (by simp [cl, fxC, thL, uu, u3, uj]) ?_⟩
  intro κ' i' j' hl
  match κ', hl with
  | 0, hl => exact ⟨by simpa [lv, uu, u3, uj, upd, vp_updL] using hl, .inr (by simp [cl, eA, thL, uu, u3, uj, upd, vp_updL])⟩
  | 1, hl => exact ⟨by simpa [lv, uu, u3, uj, upd, vp_updL] using hl, .inr (by simp [cl, eA, thL, uu, u3, uj, upd, vp_updL])⟩
  | 2, hl => exact ⟨by simpa [lv, uu, u3, uj, upd, vp_updL] using hl, .inr (by simp [cl, eA, thL, uu, u3, uj, upd, vp_updL])⟩
  | 3, hl =>
    refine ⟨hl, ?_⟩
    obtain ⟨hi, hj⟩ := hl
    match i', hi with
    | 0, _ => exact .inr (by simp [cl, fxC, uu, u3, uj, upd, vp_updL])
    | 1, _ => exact .inr (by simp [cl, fxC, uu, u3, uj, upd, vp_updL])
    | 2, _ => exact .inr (by simp [cl, fxC, uu, u3, uj, upd, vp_updL])
    | 3, _ => exact .inr (by simp [cl, fxC, uu, u3, uj, upd, vp_updL])
    | 4, _ => exact .inr (by simp [cl, fxC, uu, u3, uj, upd, vp_updL])
    | 5, _ => exact .inr (by simp [cl, fxC, uu, u3, uj, upd, vp_updL])
    | 6, _ => exact .inl (by rw [hj])
    | 7, _ => exact .inr (by simp [cl, fxC, uu, u3, uj, upd, vp_updL])
    | 8, _ => exact .inr (by simp [cl, fxC, uu, u3, uj, upd, vp_updL])
    | 9, _ => exact .inr (by simp [cl, fxC, uu, u3, uj, upd, vp_updL])
    | 10, _ => exact .inr (by simp [cl, fxC, uu, u3, uj, upd, vp_updL])
    | 11, _ => exact .inr (by simp [cl, fxC, uu, u3, uj, upd, vp_updL])
    | 12, _ => exact .inr (by simp [cl, fxC, uu, u3, uj, upd, vp_updL])
    | 13, _ => exact .inr (by simp [cl, fxC, uu, u3, uj, upd, vp_updL])
    | 14, _ => exact .inr (by simp [cl, fxC, uu, u3, uj, upd, vp_updL])
    | i' + 15, hi => exact absurd hi (by omega)
  | 4, hl => exact ⟨by simpa [lv, uu, u3, uj, upd, vp_updL] using hl, .inr (by simp [cl, eA, thL, uu, u3, uj, upd, vp_updL])⟩
  | 5, hl => exact ⟨by simpa [lv, uu, u3, uj, upd, vp_updL] using hl, .inr (by simp [cl, eA, thL, uu, u3, uj, upd, vp_updL])⟩
  | 6, hl => exact ⟨by simpa [lv, uu, u3, uj, upd, vp_updL] using hl, .inr (by simp [cl, eA, thL, uu, u3, uj, upd, vp_updL])⟩
  | 7, hl => exact ⟨by simpa [lv, uu, u3, uj, upd, vp_updL] using hl, .inr (by simp [cl, eA, thL, uu, u3, uj, upd, vp_updL])⟩
  | 8, hl => exact ⟨by simpa [lv, uu, u3, uj, upd, vp_updL] using hl, .inr (by simp [cl, eA, thL, uu, u3, uj, upd, vp_updL])⟩
  | 9, hl => exact ⟨by simpa [lv, uu, u3, uj, upd, vp_updL] using hl, .inr (by simp [cl, eA, thL, uu, u3, uj, upd, vp_updL])⟩
  | 10, hl => exact ⟨by simpa [lv, uu, u3, uj, upd, vp_updL] using hl, .inr (by simp [cl, eA, thL, uu, u3, uj, upd, vp_updL])⟩
  | κ' + 11, hl => exact absurd hl (by simp [lv])
theorem wo12 (R : Mem z h A M I T J rl G N) (v : Int32) : ∃ G', pV [10] 12 (.int v) G h = some G' ∧ Mem z h A M (uu I 0 12 v) T J rl G' N := by
  refine ⟨_, pV_n R.c0 rfl (by simp), R.hh ▸ R.wr 0 0 0 ⟨rfl, rfl⟩ R.b (by simp [cl, uu, upd]) ?_⟩
  intro κ' i' j' hl
  match κ', hl with
  | 0, hl => exact ⟨hl, .inl (by rw [hl.1, hl.2])⟩
  | 1, hl => exact ⟨by simpa [lv, uu, u3, uj, upd, vp_updL] using hl, .inr (by simp [cl, eA, thL, uu, u3, uj, upd, vp_updL])⟩
  | 2, hl => exact ⟨by simpa [lv, uu, u3, uj, upd, vp_updL] using hl, .inr (by simp [cl, eA, thL, uu, u3, uj, upd, vp_updL])⟩
  | 3, hl =>
    refine ⟨hl, ?_⟩
    obtain ⟨hi, hj⟩ := hl
    match i', hi with
    | 0, _ => exact .inr (by simp [cl, fxC, uu, u3, uj, upd, vp_updL])
    | 1, _ => exact .inr (by simp [cl, fxC, uu, u3, uj, upd, vp_updL])
    | 2, _ => exact .inr (by simp [cl, fxC, uu, u3, uj, upd, vp_updL])
    | 3, _ => exact .inr (by simp [cl, fxC, uu, u3, uj, upd, vp_updL])
    | 4, _ => exact .inr (by simp [cl, fxC, uu, u3, uj, upd, vp_updL])
    | 5, _ => exact .inr (by simp [cl, fxC, uu, u3, uj, upd, vp_updL])
    | 6, _ => exact .inr (by simp [cl, fxC, uu, u3, uj, upd, vp_updL])
    | 7, _ => exact .inr (by simp [cl, fxC, uu, u3, uj, upd, vp_updL])
    | 8, _ => exact .inr (by simp [cl, fxC, uu, u3, uj, upd, vp_updL])
    | 9, _ => exact .inr (by simp [cl, fxC, uu, u3, uj, upd, vp_updL])
    | 10, _ => exact .inr (by simp [cl, fxC, uu, u3, uj, upd, vp_updL])
    | 11, _ => exact .inr (by simp [cl, fxC, uu, u3, uj, upd, vp_updL])
    | 12, _ => exact .inr (by simp [cl, fxC, uu, u3, uj, upd, vp_updL])
    | 13, _ => exact .inr (by simp [cl, fxC, uu, u3, uj, upd, vp_updL])
    | 14, _ => exact .inr (by simp [cl, fxC, uu, u3, uj, upd, vp_updL])
    | i' + 15, hi => exact absurd hi (by omega)
  | 4, hl => exact ⟨by simpa [lv, uu, u3, uj, upd, vp_updL] using hl, .inr (by simp [cl, eA, thL, uu, u3, uj, upd, vp_updL])⟩
  | 5, hl => exact ⟨by simpa [lv, uu, u3, uj, upd, vp_updL] using hl, .inr (by simp [cl, eA, thL, uu, u3, uj, upd, vp_updL])⟩
  | 6, hl => exact ⟨by simpa [lv, uu, u3, uj, upd, vp_updL] using hl, .inr (by simp [cl, eA, thL, uu, u3, uj, upd, vp_updL])⟩
  | 7, hl => exact ⟨by simpa [lv, uu, u3, uj, upd, vp_updL] using hl, .inr (by simp [cl, eA, thL, uu, u3, uj, upd, vp_updL])⟩
  | 8, hl => exact ⟨by simpa [lv, uu, u3, uj, upd, vp_updL] using hl, .inr (by simp [cl, eA, thL, uu, u3, uj, upd, vp_updL])⟩
  | 9, hl => exact ⟨by simpa [lv, uu, u3, uj, upd, vp_updL] using hl, .inr (by simp [cl, eA, thL, uu, u3, uj, upd, vp_updL])⟩
  | 10, hl => exact ⟨by simpa [lv, uu, u3, uj, upd, vp_updL] using hl, .inr (by simp [cl, eA, thL, uu, u3, uj, upd, vp_updL])⟩
  | κ' + 11, hl => exact absurd hl (by simp [lv])
theorem wo13 (R : Mem z h A M I T J rl G N) (v : Int32) : ∃ G', pV [10] 13 (.int v) G h = some G' ∧ Mem z h A M (uu I 0 13 v) T J rl G' N := by
  refine ⟨_, pV_n R.c0 rfl (by simp), R.hh ▸ R.wr 0 0 0 ⟨rfl, rfl⟩ R.b (by simp [cl, uu, upd]) ?_⟩
  intro κ' i' j' hl
  match κ', hl with
  | 0, hl => exact ⟨hl, .inl (by rw [hl.1, hl.2])⟩
  | 1, hl => exact ⟨by simpa [lv, uu, u3, uj, upd, vp_updL] using hl, .inr (by simp [cl, eA, thL, uu, u3, uj, upd, vp_updL])⟩
  | 2, hl => exact ⟨by simpa [lv, uu, u3, uj, upd, vp_updL] using hl, .inr (by simp [cl, eA, thL, uu, u3, uj, upd, vp_updL])⟩
  | 3, hl =>
    refine ⟨hl, ?_⟩
    obtain ⟨hi, hj⟩ := hl
    match i', hi with
    | 0, _ => exact .inr (by simp [cl, fxC, uu, u3, uj, upd, vp_updL])
    | 1, _ => exact .inr (by simp [cl, fxC, uu, u3, uj, upd, vp_updL])
    | 2, _ => exact .inr (by simp [cl, fxC, uu, u3, uj, upd, vp_updL])
    | 3, _ => exact .inr (by simp [cl, fxC, uu, u3, uj, upd, vp_updL])
    | 4, _ => exact .inr (by simp [cl, fxC, uu, u3, uj, upd, vp_updL])
    | 5, _ => exact .inr (by simp [cl, fxC, uu, u3, uj, upd, vp_updL])
    | 6, _ => exact .inr (by simp [cl, fxC, uu, u3, uj, upd, vp_updL])
    | 7, _ => exact .inr (by simp [cl, fxC, uu, u3, uj, upd, vp_updL])
    | 8, _ => exact .inr (by simp [cl, fxC, uu, u3, uj, upd, vp_updL])
    | 9, _ => exact .inr (by simp [cl, fxC, uu, u3, uj, upd, vp_updL])
    | 10, _ => exact .inr (by simp [cl, fxC, uu, u3, uj, upd, vp_updL])
    | 11, _ => exact .inr (by simp [cl, fxC, uu, u3, uj, upd, vp_updL])
    | 12, _ => exact .inr (by simp [cl, fxC, uu, u3, uj, upd, vp_updL])
    | 13, _ => exact .inr (by simp [cl, fxC, uu, u3, uj, upd, vp_updL])
    | 14, _ => exact .inr (by simp [cl, fxC, uu, u3, uj, upd, vp_updL])
    | i' + 15, hi => exact absurd hi (by omega)
  | 4, hl => exact ⟨by simpa [lv, uu, u3, uj, upd, vp_updL] using hl, .inr (by simp [cl, eA, thL, uu, u3, uj, upd, vp_updL])⟩
  | 5, hl => exact ⟨by simpa [lv, uu, u3, uj, upd, vp_updL] using hl, .inr (by simp [cl, eA, thL, uu, u3, uj, upd, vp_updL])⟩
  | 6, hl => exact ⟨by simpa [lv, uu, u3, uj, upd, vp_updL] using hl, .inr (by simp [cl, eA, thL, uu, u3, uj, upd, vp_updL])⟩
  | 7, hl => exact ⟨by simpa [lv, uu, u3, uj, upd, vp_updL] using hl, .inr (by simp [cl, eA, thL, uu, u3, uj, upd, vp_updL])⟩
  | 8, hl => exact ⟨by simpa [lv, uu, u3, uj, upd, vp_updL] using hl, .inr (by simp [cl, eA, thL, uu, u3, uj, upd, vp_updL])⟩
  | 9, hl => exact ⟨by simpa [lv, uu, u3, uj, upd, vp_updL] using hl, .inr (by simp [cl, eA, thL, uu, u3, uj, upd, vp_updL])⟩
  | 10, hl => exact ⟨by simpa [lv, uu, u3, uj, upd, vp_updL] using hl, .inr (by simp [cl, eA, thL, uu, u3, uj, upd, vp_updL])⟩
  | κ' + 11, hl => exact absurd hl (by simp [lv])
theorem wo14 (R : Mem z h A M I T J rl G N) (v : Int32) : ∃ G', pV [10] 14 (.int v) G h = some G' ∧ Mem z h A M (uu I 0 14 v) T J rl G' N := by
  refine ⟨_, pV_n R.c0 rfl (by simp), R.hh ▸ R.wr 0 0 0 ⟨rfl, rfl⟩ R.b (by simp [cl, uu, upd]) ?_⟩
  intro κ' i' j' hl
  match κ', hl with
  | 0, hl => exact ⟨hl, .inl (by rw [hl.1, hl.2])⟩
  | 1, hl => exact ⟨by simpa [lv, uu, u3, uj, upd, vp_updL] using hl, .inr (by simp [cl, eA, thL, uu, u3, uj, upd, vp_updL])⟩
  | 2, hl => exact ⟨by simpa [lv, uu, u3, uj, upd, vp_updL] using hl, .inr (by simp [cl, eA, thL, uu, u3, uj, upd, vp_updL])⟩
  | 3, hl =>
    refine ⟨hl, ?_⟩
    obtain ⟨hi, hj⟩ := hl
    match i', hi with
    | 0, _ => exact .inr (by simp [cl, fxC, uu, u3, uj, upd, vp_updL])
    | 1, _ => exact .inr (by simp [cl, fxC, uu, u3, uj, upd, vp_updL])
    | 2, _ => exact .inr (by simp [cl, fxC, uu, u3, uj, upd, vp_updL])
    | 3, _ => exact .inr (by simp [cl, fxC, uu, u3, uj, upd, vp_updL])
    | 4, _ => exact .inr (by simp [cl, fxC, uu, u3, uj, upd, vp_updL])
    | 5, _ => exact .inr (by simp [cl, fxC, uu, u3, uj, upd, vp_updL])
    | 6, _ => exact .inr (by simp [cl, fxC, uu, u3, uj, upd, vp_updL])
    | 7, _ => exact .inr (by simp [cl, fxC, uu, u3, uj, upd, vp_updL])
    | 8, _ => exact .inr (by simp [cl, fxC, uu, u3, uj, upd, vp_updL])
    | 9, _ => exact .inr (by simp [cl, fxC, uu, u3, uj, upd, vp_updL])
    | 10, _ => exact .inr (by simp [cl, fxC, uu, u3, uj, upd, vp_updL])
    | 11, _ => exact .inr (by simp [cl, fxC, uu, u3, uj, upd, vp_updL])
    | 12, _ => exact .inr (by simp [cl, fxC, uu, u3, uj, upd, vp_updL])
    | 13, _ => exact .inr (by simp [cl, fxC, uu, u3, uj, upd, vp_updL])
    | 14, _ => exact .inr (by simp [cl, fxC, uu, u3, uj, upd, vp_updL])
    | i' + 15, hi => exact absurd hi (by omega)
  | 4, hl => exact ⟨by simpa [lv, uu, u3, uj, upd, vp_updL] using hl, .inr (by simp [cl, eA, thL, uu, u3, uj, upd, vp_updL])⟩
  | 5, hl => exact ⟨by simpa [lv, uu, u3, uj, upd, vp_updL] using hl, .inr (by simp [cl, eA, thL, uu, u3, uj, upd, vp_updL])⟩
  | 6, hl => exact ⟨by simpa [lv, uu, u3, uj, upd, vp_updL] using hl, .inr (by simp [cl, eA, thL, uu, u3, uj, upd, vp_updL])⟩
  | 7, hl => exact ⟨by simpa [lv, uu, u3, uj, upd, vp_updL] using hl, .inr (by simp [cl, eA, thL, uu, u3, uj, upd, vp_updL])⟩
  | 8, hl => exact ⟨by simpa [lv, uu, u3, uj, upd, vp_updL] using hl, .inr (by simp [cl, eA, thL, uu, u3, uj, upd, vp_updL])⟩
  | 9, hl => exact ⟨by simpa [lv, uu, u3, uj, upd, vp_updL] using hl, .inr (by simp [cl, eA, thL, uu, u3, uj, upd, vp_updL])⟩
  | 10, hl => exact ⟨by simpa [lv, uu, u3, uj, upd, vp_updL] using hl, .inr (by simp [cl, eA, thL, uu, u3, uj, upd, vp_updL])⟩
  | κ' + 11, hl => exact absurd hl (by simp [lv])
theorem wo15 (R : Mem z h A M I T J rl G N) (v : Int32) : ∃ G', pV [10] 15 (.int v) G h = some G' ∧ Mem z h A M (uu I 0 15 v) T J rl G' N := by
  refine ⟨_, pV_n R.c0 rfl (by simp), R.hh ▸ R.wr 0 0 0 ⟨rfl, rfl⟩ R.b (by simp [cl, uu, upd]) ?_⟩
  intro κ' i' j' hl
  match κ', hl with
  | 0, hl => exact ⟨hl, .inl (by rw [hl.1, hl.2])⟩
  | 1, hl => exact ⟨by simpa [lv, uu, u3, uj, upd, vp_updL] using hl, .inr (by simp [cl, eA, thL, uu, u3, uj, upd, vp_updL])⟩
  | 2, hl => exact ⟨by simpa [lv, uu, u3, uj, upd, vp_updL] using hl, .inr (by simp [cl, eA, thL, uu, u3, uj, upd, vp_updL])⟩
  | 3, hl =>
    refine ⟨hl, ?_⟩
    obtain ⟨hi, hj⟩ := hl
    match i', hi with
    | 0, _ => exact .inr (by simp [cl, fxC, uu, u3, uj, upd, vp_updL])
    | 1, _ => exact .inr (by simp [cl, fxC, uu, u3, uj, upd, vp_updL])
    | 2, _ => exact .inr (by simp [cl, fxC, uu, u3, uj, upd, vp_updL])
    | 3, _ => exact .inr (by simp [cl, fxC, uu, u3, uj, upd, vp_updL])
    | 4, _ => exact .inr (by simp [cl, fxC, uu, u3, uj, upd, vp_updL])
    | 5, _ => exact .inr (by simp [cl, fxC, uu, u3, uj, upd, vp_updL])
    | 6, _ => exact .inr (by simp [cl, fxC, uu, u3, uj, upd, vp_updL])
    | 7, _ => exact .inr (by simp [cl, fxC, uu, u3, uj, upd, vp_updL])
    | 8, _ => exact .inr (by simp [cl, fxC, uu, u3, uj, upd, vp_updL])
    | 9, _ => exact .inr (by simp [cl, fxC, uu, u3, uj, upd, vp_updL])
    | 10, _ => exact .inr (by simp [cl, fxC, uu, u3, uj, upd, vp_updL])
    | 11, _ => exact .inr (by simp [cl, fxC, uu, u3, uj, upd, vp_updL])
    | 12, _ => exact .inr (by simp [cl, fxC, uu, u3, uj, upd, vp_updL])
    | 13, _ => exact .inr (by simp [cl, fxC, uu, u3, uj, upd, vp_updL])
    | 14, _ => exact .inr (by simp [cl, fxC, uu, u3, uj, upd, vp_updL])
    | i' + 15, hi => exact absurd hi (by omega)
  | 4, hl => exact ⟨by simpa [lv, uu, u3, uj, upd, vp_updL] using hl, .inr (by simp [cl, eA, thL, uu, u3, uj, upd, vp_updL])⟩
  | 5, hl => exact ⟨by simpa [lv, uu, u3, uj, upd, vp_updL] using hl, .inr (by simp [cl, eA, thL, uu, u3, uj, upd, vp_updL])⟩
  | 6, hl => exact ⟨by simpa [lv, uu, u3, uj, upd, vp_updL] using hl, .inr (by simp [cl, eA, thL, uu, u3, uj, upd, vp_updL])⟩
  | 7, hl => exact ⟨by simpa [lv, uu, u3, uj, upd, vp_updL] using hl, .inr (by simp [cl, eA, thL, uu, u3, uj, upd, vp_updL])⟩
  | 8, hl => exact ⟨by simpa [lv, uu, u3, uj, upd, vp_updL] using hl, .inr (by simp [cl, eA, thL, uu, u3, uj, upd, vp_updL])⟩
  | 9, hl => exact ⟨by simpa [lv, uu, u3, uj, upd, vp_updL] using hl, .inr (by simp [cl, eA, thL, uu, u3, uj, upd, vp_updL])⟩
  | 10, hl => exact ⟨by simpa [lv, uu, u3, uj, upd, vp_updL] using hl, .inr (by simp [cl, eA, thL, uu, u3, uj, upd, vp_updL])⟩
  | κ' + 11, hl => exact absurd hl (by simp [lv])
theorem wm0 (R : Mem z h A M I T J rl G N) (v : Int32) : ∃ G', pV [4] 2 (.int v) G (A 3 4 0) = some G' ∧ Mem z h A M (uu I 1 0 v) T J rl G' N := by
  refine ⟨_, pV_n (R.c 3 4 0 ⟨by decide, rfl⟩) rfl (by simp), R.wr 3 4 0 ⟨by decide, rfl⟩ R.b (by simp [cl, fxC, uu, upd]) ?_⟩
  intro κ' i' j' hl
  match κ', hl with
  | 0, hl => exact ⟨by simpa [lv, uu, u3, uj, upd, vp_updL] using hl, .inr (by simp [cl, eA, thL, uu, u3, uj, upd, vp_updL])⟩
  | 1, hl => exact ⟨by simpa [lv, uu, u3, uj, upd, vp_updL] using hl, .inr (by simp [cl, eA, thL, uu, u3, uj, upd, vp_updL])⟩
  | 2, hl => exact ⟨by simpa [lv, uu, u3, uj, upd, vp_updL] using hl, .inr (by simp [cl, eA, thL, uu, u3, uj, upd, vp_updL])⟩
  | 3, hl =>
    refine ⟨hl, ?_⟩
    obtain ⟨hi, hj⟩ := hl
    match i', hi with
    | 0, _ => exact .inr (by simp [cl, fxC, uu, u3, uj, upd, vp_updL])
    | 1, _ => exact .inr (by simp [cl, fxC, uu, u3, uj, upd, vp_updL])
    | 2, _ => exact .inr (by simp [cl, fxC, uu, u3, uj, upd, vp_updL])
    | 3, _ => exact .inr (by simp [cl, fxC, uu, u3, uj, upd, vp_updL])
    | 4, _ => exact .inl (by rw [hj])
    | 5, _ => exact .inr (by simp [cl, fxC, uu, u3, uj, upd, vp_updL])
    | 6, _ => exact .inr (by simp [cl, fxC, uu, u3, uj, upd, vp_updL])
    | 7, _ => exact .inr (by simp [cl, fxC, uu, u3, uj, upd, vp_updL])
    | 8, _ => exact .inr (by simp [cl, fxC, uu, u3, uj, upd, vp_updL])
    | 9, _ => exact .inr (by simp [cl, fxC, uu, u3, uj, upd, vp_updL])
    | 10, _ => exact .inr (by simp [cl, fxC, uu, u3, uj, upd, vp_updL])
    | 11, _ => exact .inr (by simp [cl, fxC, uu, u3, uj, upd, vp_updL])
    | 12, _ => exact .inr (by simp [cl, fxC, uu, u3, uj, upd, vp_updL])
    | 13, _ => exact .inr (by simp [cl, fxC, uu, u3, uj, upd, vp_updL])
    | 14, _ => exact .inr (by simp [cl, fxC, uu, u3, uj, upd, vp_updL])
    | i' + 15, hi => exact absurd hi (by omega)
  | 4, hl => exact ⟨by simpa [lv, uu, u3, uj, upd, vp_updL] using hl, .inr (by simp [cl, eA, thL, uu, u3, uj, upd, vp_updL])⟩
  | 5, hl => exact ⟨by simpa [lv, uu, u3, uj, upd, vp_updL] using hl, .inr (by simp [cl, eA, thL, uu, u3, uj, upd, vp_updL])⟩
  | 6, hl => exact ⟨by simpa [lv, uu, u3, uj, upd, vp_updL] using hl, .inr (by simp [cl, eA, thL, uu, u3, uj, upd, vp_updL])⟩
  | 7, hl => exact ⟨by simpa [lv, uu, u3, uj, upd, vp_updL] using hl, .inr (by simp [cl, eA, thL, uu, u3, uj, upd, vp_updL])⟩
  | 8, hl => exact ⟨by simpa [lv, uu, u3, uj, upd, vp_updL] using hl, .inr (by simp [cl, eA, thL, uu, u3, uj, upd, vp_updL])⟩
  | 9, hl => exact ⟨by simpa [lv, uu, u3, uj, upd, vp_updL] using hl, .inr (by simp [cl, eA, thL, uu, u3, uj, upd, vp_updL])⟩
  | 10, hl => exact ⟨by simpa [lv, uu, u3, uj, upd, vp_updL] using hl, .inr (by simp [cl, eA, thL, uu, u3, uj, upd, vp_updL])⟩
  | κ' + 11, hl => exact absurd hl (by simp [lv])
theorem wm1 (R : Mem z h A M I T J rl G N) (v : Int32) : ∃ G', pV [5] 2 (.int v) G (A 3 7 0) = some G' ∧ Mem z h A M (uu I 1 1 v) T J rl G' N := by
  refine ⟨_, pV_n (R.c 3 7 0 ⟨by decide, rfl⟩) rfl (by simp), R.wr 3 7 0 ⟨by decide, rfl⟩ R.b (by simp [cl, fxC, uu, upd]) ?_⟩
  intro κ' i' j' hl
  match κ', hl with
  | 0, hl => exact ⟨by simpa [lv, uu, u3, uj, upd, vp_updL] using hl, .inr (by simp [cl, eA, thL, uu, u3, uj, upd, vp_updL])⟩
  | 1, hl => exact ⟨by simpa [lv, uu, u3, uj, upd, vp_updL] using hl, .inr (by simp [cl, eA, thL, uu, u3, uj, upd, vp_updL])⟩
  | 2, hl => exact ⟨by simpa [lv, uu, u3, uj, upd, vp_updL] using hl, .inr (by simp [cl, eA, thL, uu, u3, uj, upd, vp_updL])⟩
  | 3, hl =>
    refine ⟨hl, ?_⟩
    obtain ⟨hi, hj⟩ := hl
    match i', hi with
    | 0, _ => exact .inr (by simp [cl, fxC, uu, u3, uj, upd, vp_updL])
    | 1, _ => exact .inr (by simp [cl, fxC, uu, u3, uj, upd, vp_updL])
    | 2, _ => exact .inr (by simp [cl, fxC, uu, u3, uj, upd, vp_updL])
    | 3, _ => exact .inr (by simp [cl, fxC, uu, u3, uj, upd, vp_updL])
    | 4, _ => exact .inr (by simp [cl, fxC, uu, u3, uj, upd, vp_updL])
    | 5, _ => exact .inr (by simp [cl, fxC, uu, u3, uj, upd, vp_updL])
    | 6, _ => exact .inr (by simp [cl, fxC, uu, u3, uj, upd, vp_updL])
    | 7, _ => exact .inl (by rw [hj])
    | 8, _ => exact .inr (by simp [cl, fxC, uu, u3, uj, upd, vp_updL])
    | 9, _ => exact .inr (by simp [cl, fxC, uu, u3, uj, upd, vp_updL])
    | 10, _ => exact .inr (by simp [cl, fxC, uu, u3, uj, upd, vp_updL])
    | 11, _ => exact .inr (by simp [cl, fxC, uu, u3, uj, upd, vp_updL])
    | 12, _ => exact .inr (by simp [cl, fxC, uu, u3, uj, upd, vp_updL])
    | 13, _ => exact .inr (by simp [cl, fxC, uu, u3, uj, upd, vp_updL])
    | 14, _ => exact .inr (by simp [cl, fxC, uu, u3, uj, upd, vp_updL])
    | i' + 15, hi => exact absurd hi (by omega)
  | 4, hl => exact ⟨by simpa [lv, uu, u3, uj, upd, vp_updL] using hl, .inr (by simp [cl, eA, thL, uu, u3, uj, upd, vp_updL])⟩
  | 5, hl => exact ⟨by simpa [lv, uu, u3, uj, upd, vp_updL] using hl, .inr (by simp [cl, eA, thL, uu, u3, uj, upd, vp_updL])⟩
  | 6, hl => exact ⟨by simpa [lv, uu, u3, uj, upd, vp_updL] using hl, .inr (by simp [cl, eA, thL, uu, u3, uj, upd, vp_updL])⟩
  | 7, hl => exact ⟨by simpa [lv, uu, u3, uj, upd, vp_updL] using hl, .inr (by simp [cl, eA, thL, uu, u3, uj, upd, vp_updL])⟩
  | 8, hl => exact ⟨by simpa [lv, uu, u3, uj, upd, vp_updL] using hl, .inr (by simp [cl, eA, thL, uu, u3, uj, upd, vp_updL])⟩
  | 9, hl => exact ⟨by simpa [lv, uu, u3, uj, upd, vp_updL] using hl, .inr (by simp [cl, eA, thL, uu, u3, uj, upd, vp_updL])⟩
  | 10, hl => exact ⟨by simpa [lv, uu, u3, uj, upd, vp_updL] using hl, .inr (by simp [cl, eA, thL, uu, u3, uj, upd, vp_updL])⟩
  | κ' + 11, hl => exact absurd hl (by simp [lv])
theorem wm2 (R : Mem z h A M I T J rl G N) (v : Int32) : ∃ G', pV [5] 3 (.int v) G (A 3 7 0) = some G' ∧ Mem z h A M (uu I 1 2 v) T J rl G' N := by
  refine ⟨_, pV_n (R.c 3 7 0 ⟨by decide, rfl⟩) rfl (by simp), R.wr 3 7 0 ⟨by decide, rfl⟩ R.b (by simp [cl, fxC, uu, upd]) ?_⟩
  intro κ' i' j' hl
  match κ', hl with
  | 0, hl => exact ⟨by simpa [lv, uu, u3, uj, upd, vp_updL] using hl, .inr (by simp [cl, eA, thL, uu, u3, uj, upd, vp_updL])⟩
  | 1, hl => exact ⟨by simpa [lv, uu, u3, uj, upd, vp_updL] using hl, .inr (by simp [cl, eA, thL, uu, u3, uj, upd, vp_updL])⟩
  | 2, hl => exact ⟨by simpa [lv, uu, u3, uj, upd, vp_updL] using hl, .inr (by simp [cl, eA, thL, uu, u3, uj, upd, vp_updL])⟩
  | 3, hl =>
    refine ⟨hl, ?_⟩
    obtain ⟨hi, hj⟩ := hl
    match i', hi with
    | 0, _ => exact .inr (by simp [cl, fxC, uu, u3, uj, upd, vp_updL])
    | 1, _ => exact .inr (by simp [cl, fxC, uu, u3, uj, upd, vp_updL])
    | 2, _ => exact .inr (by simp [cl, fxC, uu, u3, uj, upd, vp_updL])
    | 3, _ => exact .inr (by simp [cl, fxC, uu, u3, uj, upd, vp_updL])
    | 4, _ => exact .inr (by simp [cl, fxC, uu, u3, uj, upd, vp_updL])
    | 5, _ => exact .inr (by simp [cl, fxC, uu, u3, uj, upd, vp_updL])
    | 6, _ => exact .inr (by simp [cl, fxC, uu, u3, uj, upd, vp_updL])
    | 7, _ => exact .inl (by rw [hj])
    | 8, _ => exact .inr (by simp [cl, fxC, uu, u3, uj, upd, vp_updL])
    | 9, _ => exact .inr (by simp [cl, fxC, uu, u3, uj, upd, vp_updL])
    | 10, _ => exact .inr (by simp [cl, fxC, uu, u3, uj, upd, vp_updL])
    | 11, _ => exact .inr (by simp [cl, fxC, uu, u3, uj, upd, vp_updL])
    | 12, _ => exact .inr (by simp [cl, fxC, uu, u3, uj, upd, vp_updL])
    | 13, _ => exact .inr (by simp [cl, fxC, uu, u3, uj, upd, vp_updL])
    | 14, _ => exact .inr (by simp [cl, fxC, uu, u3, uj, upd, vp_updL])
    | i' + 15, hi => exact absurd hi (by omega)
  | 4, hl => exact ⟨by simpa [lv, uu, u3, uj, upd, vp_updL] using hl, .inr (by simp [cl, eA, thL, uu, u3, uj, upd, vp_updL])⟩
  | 5, hl => exact ⟨by simpa [lv, uu, u3, uj, upd, vp_updL] using hl, .inr (by simp [cl, eA, thL, uu, u3, uj, upd, vp_updL])⟩
  | 6, hl => exact ⟨by simpa [lv, uu, u3, uj, upd, vp_updL] using hl, .inr (by simp [cl, eA, thL, uu, u3, uj, upd, vp_updL])⟩
  | 7, hl => exact ⟨by simpa [lv, uu, u3, uj, upd, vp_updL] using hl, .inr (by simp [cl, eA, thL, uu, u3, uj, upd, vp_updL])⟩
  | 8, hl => exact ⟨by simpa [lv, uu, u3, uj, upd, vp_updL] using hl, .inr (by simp [cl, eA, thL, uu, u3, uj, upd, vp_updL])⟩
  | 9, hl => exact ⟨by simpa [lv, uu, u3, uj, upd, vp_updL] using hl, .inr (by simp [cl, eA, thL, uu, u3, uj, upd, vp_updL])⟩
  | 10, hl => exact ⟨by simpa [lv, uu, u3, uj, upd, vp_updL] using hl, .inr (by simp [cl, eA, thL, uu, u3, uj, upd, vp_updL])⟩
  | κ' + 11, hl => exact absurd hl (by simp [lv])
theorem wm3 (R : Mem z h A M I T J rl G N) (v : Int32) : ∃ G', pV [5] 4 (.int v) G (A 3 7 0) = some G' ∧ Mem z h A M (uu I 1 3 v) T J rl G' N := by
  refine ⟨_, pV_n (R.c 3 7 0 ⟨by decide, rfl⟩) rfl (by simp), R.wr 3 7 0 ⟨by decide, rfl⟩ R.b (by simp [cl, fxC, uu, upd]) ?_⟩
  intro κ' i' j' hl
  match κ', hl with
  | 0, hl => exact ⟨by simpa [lv, uu, u3, uj, upd, vp_updL] using hl, .inr (by simp [cl, eA, thL, uu, u3, uj, upd, vp_updL])⟩
  | 1, hl => exact ⟨by simpa [lv, uu, u3, uj, upd, vp_updL] using hl, .inr (by simp [cl, eA, thL, uu, u3, uj, upd, vp_updL])⟩
  | 2, hl => exact ⟨by simpa [lv, uu, u3, uj, upd, vp_updL] using hl, .inr (by simp [cl, eA, thL, uu, u3, uj, upd, vp_updL])⟩
  | 3, hl =>
    refine ⟨hl, ?_⟩
    obtain ⟨hi, hj⟩ := hl
    match i', hi with
    | 0, _ => exact .inr (by simp [cl, fxC, uu, u3, uj, upd, vp_updL])
    | 1, _ => exact .inr (by simp [cl, fxC, uu, u3, uj, upd, vp_updL])
    | 2, _ => exact .inr (by simp [cl, fxC, uu, u3, uj, upd, vp_updL])
    | 3, _ => exact .inr (by simp [cl, fxC, uu, u3, uj, upd, vp_updL])
    | 4, _ => exact .inr (by simp [cl, fxC, uu, u3, uj, upd, vp_updL])
    | 5, _ => exact .inr (by simp [cl, fxC, uu, u3, uj, upd, vp_updL])
    | 6, _ => exact .inr (by simp [cl, fxC, uu, u3, uj, upd, vp_updL])
    | 7, _ => exact .inl (by rw [hj])
    | 8, _ => exact .inr (by simp [cl, fxC, uu, u3, uj, upd, vp_updL])
    | 9, _ => exact .inr (by simp [cl, fxC, uu, u3, uj, upd, vp_updL])
    | 10, _ => exact .inr (by simp [cl, fxC, uu, u3, uj, upd, vp_updL])
    | 11, _ => exact .inr (by simp [cl, fxC, uu, u3, uj, upd, vp_updL])
    | 12, _ => exact .inr (by simp [cl, fxC, uu, u3, uj, upd, vp_updL])
    | 13, _ => exact .inr (by simp [cl, fxC, uu, u3, uj, upd, vp_updL])
    | 14, _ => exact .inr (by simp [cl, fxC, uu, u3, uj, upd, vp_updL])
    | i' + 15, hi => exact absurd hi (by omega)
  | 4, hl => exact ⟨by simpa [lv, uu, u3, uj, upd, vp_updL] using hl, .inr (by simp [cl, eA, thL, uu, u3, uj, upd, vp_updL])⟩
  | 5, hl => exact ⟨by simpa [lv, uu, u3, uj, upd, vp_updL] using hl, .inr (by simp [cl, eA, thL, uu, u3, uj, upd, vp_updL])⟩
  | 6, hl => exact ⟨by simpa [lv, uu, u3, uj, upd, vp_updL] using hl, .inr (by simp [cl, eA, thL, uu, u3, uj, upd, vp_updL])⟩
  | 7, hl => exact ⟨by simpa [lv, uu, u3, uj, upd, vp_updL] using hl, .inr (by simp [cl, eA, thL, uu, u3, uj, upd, vp_updL])⟩
  | 8, hl => exact ⟨by simpa [lv, uu, u3, uj, upd, vp_updL] using hl, .inr (by simp [cl, eA, thL, uu, u3, uj, upd, vp_updL])⟩
  | 9, hl => exact ⟨by simpa [lv, uu, u3, uj, upd, vp_updL] using hl, .inr (by simp [cl, eA, thL, uu, u3, uj, upd, vp_updL])⟩
  | 10, hl => exact ⟨by simpa [lv, uu, u3, uj, upd, vp_updL] using hl, .inr (by simp [cl, eA, thL, uu, u3, uj, upd, vp_updL])⟩
  | κ' + 11, hl => exact absurd hl (by simp [lv])
theorem wm4 (R : Mem z h A M I T J rl G N) (v : Int32) : ∃ G', pV [7] 2 (.int v) G (A 3 12 0) = some G' ∧ Mem z h A M (uu I 1 4 v) T J rl G' N := by
  refine ⟨_, pV_n (R.c 3 12 0 ⟨by decide, rfl⟩) rfl (by simp), R.wr 3 12 0 ⟨by decide, rfl⟩ R.b (by simp [cl, fxC, uu, upd]) ?_⟩
  intro κ' i' j' hl
  match κ', hl with
  | 0, hl => exact ⟨by simpa [lv, uu, u3, uj, upd, vp_updL] using hl, .inr (by simp [cl, eA, thL, uu, u3, uj, upd, vp_updL])⟩
  | 1, hl => exact ⟨by simpa [lv, uu, u3, uj, upd, vp_updL] using hl, .inr (by simp [cl, eA, thL, uu, u3, uj, upd, vp_updL])⟩
  | 2, hl => exact ⟨by simpa [lv, uu, u3, uj, upd, vp_updL] using hl, .inr (by simp [cl, eA, thL, uu, u3, uj, upd, vp_updL])⟩
  | 3, hl =>
    refine ⟨hl, ?_⟩
    obtain ⟨hi, hj⟩ := hl
    match i', hi with
    | 0, _ => exact .inr (by simp [cl, fxC, uu, u3, uj, upd, vp_updL])
    | 1, _ => exact .inr (by simp [cl, fxC, uu, u3, uj, upd, vp_updL])
    | 2, _ => exact .inr (by simp [cl, fxC, uu, u3, uj, upd, vp_updL])
    | 3, _ => exact .inr (by simp [cl, fxC, uu, u3, uj, upd, vp_updL])
    | 4, _ => exact .inr (by simp [cl, fxC, uu, u3, uj, upd, vp_updL])
    | 5, _ => exact .inr (by simp [cl, fxC, uu, u3, uj, upd, vp_updL])
    | 6, _ => exact .inr (by simp [cl, fxC, uu, u3, uj, upd, vp_updL])
    | 7, _ => exact .inr (by simp [cl, fxC, uu, u3, uj, upd, vp_updL])
    | 8, _ => exact .inr (by simp [cl, fxC, uu, u3, uj, upd, vp_updL])
    | 9, _ => exact .inr (by simp [cl, fxC, uu, u3, uj, upd, vp_updL])
    | 10, _ => exact .inr (by simp [cl, fxC, uu, u3, uj, upd, vp_updL])
    | 11, _ => exact .inr (by simp [cl, fxC, uu, u3, uj, upd, vp_updL])
    | 12, _ => exact .inl (by rw [hj])
    | 13, _ => exact .inr (by simp [cl, fxC, uu, u3, uj, upd, vp_updL])
    | 14, _ => exact .inr (by simp [cl, fxC, uu, u3, uj, upd, vp_updL])
    | i' + 15, hi => exact absurd hi (by omega)
  | 4, hl => exact ⟨by simpa [lv, uu, u3, uj, upd, vp_updL] using hl, .inr (by simp [cl, eA, thL, uu, u3, uj, upd, vp_updL])⟩
  | 5, hl => exact ⟨by simpa [lv, uu, u3, uj, upd, vp_updL] using hl, .inr (by simp [cl, eA, thL, uu, u3, uj, upd, vp_updL])⟩
  | 6, hl => exact ⟨by simpa [lv, uu, u3, uj, upd, vp_updL] using hl, .inr (by simp [cl, eA, thL, uu, u3, uj, upd, vp_updL])⟩
  | 7, hl => exact ⟨by simpa [lv, uu, u3, uj, upd, vp_updL] using hl, .inr (by simp [cl, eA, thL, uu, u3, uj, upd, vp_updL])⟩
  | 8, hl => exact ⟨by simpa [lv, uu, u3, uj, upd, vp_updL] using hl, .inr (by simp [cl, eA, thL, uu, u3, uj, upd, vp_updL])⟩
  | 9, hl => exact ⟨by simpa [lv, uu, u3, uj, upd, vp_updL] using hl, .inr (by simp [cl, eA, thL, uu, u3, uj, upd, vp_updL])⟩
  | 10, hl => exact ⟨by simpa [lv, uu, u3, uj, upd, vp_updL] using hl, .inr (by simp [cl, eA, thL, uu, u3, uj, upd, vp_updL])⟩
  | κ' + 11, hl => exact absurd hl (by simp [lv])
theorem wm5 (R : Mem z h A M I T J rl G N) (v : Int32) : ∃ G', pV [7] 3 (.int v) G (A 3 12 0) = some G' ∧ Mem z h A M (uu I 1 5 v) T J rl G' N := by
  refine ⟨_, pV_n (R.c 3 12 0 ⟨by decide, rfl⟩) rfl (by simp), R.wr 3 12 0 ⟨by decide, rfl⟩ R.b (by simp [cl, fxC, uu, upd]) ?_⟩
  intro κ' i' j' hl
  match κ', hl with
  | 0, hl => exact ⟨by simpa [lv, uu, u3, uj, upd, vp_updL] using hl, .inr (by simp [cl, eA, thL, uu, u3, uj, upd, vp_updL])⟩
  | 1, hl => exact ⟨by simpa [lv, uu, u3, uj, upd, vp_updL] using hl, .inr (by simp [cl, eA, thL, uu, u3, uj, upd, vp_updL])⟩
  | 2, hl => exact ⟨by simpa [lv, uu, u3, uj, upd, vp_updL] using hl, .inr (by simp [cl, eA, thL, uu, u3, uj, upd, vp_updL])⟩
  | 3, hl =>
    refine ⟨hl, ?_⟩
    obtain ⟨hi, hj⟩ := hl
    match i', hi with
    | 0, _ => exact .inr (by simp [cl, fxC, uu, u3, uj, upd, vp_updL])
    | 1, _ => exact .inr (by simp [cl, fxC, uu, u3, uj, upd, vp_updL])
    | 2, _ => exact .inr (by simp [cl, fxC, uu, u3, uj, upd, vp_updL])
    | 3, _ => exact .inr (by simp [cl, fxC, uu, u3, uj, upd, vp_updL])
    | 4, _ => exact .inr (by simp [cl, fxC, uu, u3, uj, upd, vp_updL])
    | 5, _ => exact .inr (by simp [cl, fxC, uu, u3, uj, upd, vp_updL])
    | 6, _ => exact .inr (by simp [cl, fxC, uu, u3, uj, upd, vp_updL])
    | 7, _ => exact .inr (by simp [cl, fxC, uu, u3, uj, upd, vp_updL])
    | 8, _ => exact .inr (by simp [cl, fxC, uu, u3, uj, upd, vp_updL])
    | 9, _ => exact .inr (by simp [cl, fxC, uu, u3, uj, upd, vp_updL])
    | 10, _ => exact .inr (by simp [cl, fxC, uu, u3, uj, upd, vp_updL])
    | 11, _ => exact .inr (by simp [cl, fxC, uu, u3, uj, upd, vp_updL])
    | 12, _ => exact .inl (by rw [hj])
    | 13, _ => exact .inr (by simp [cl, fxC, uu, u3, uj, upd, vp_updL])
    | 14, _ => exact .inr (by simp [cl, fxC, uu, u3, uj, upd, vp_updL])
    | i' + 15, hi => exact absurd hi (by omega)
  | 4, hl => exact ⟨by simpa [lv, uu, u3, uj, upd, vp_updL] using hl, .inr (by simp [cl, eA, thL, uu, u3, uj, upd, vp_updL])⟩
  | 5, hl => exact ⟨by simpa [lv, uu, u3, uj, upd, vp_updL] using hl, .inr (by simp [cl, eA, thL, uu, u3, uj, upd, vp_updL])⟩
  | 6, hl => exact ⟨by simpa [lv, uu, u3, uj, upd, vp_updL] using hl, .inr (by simp [cl, eA, thL, uu, u3, uj, upd, vp_updL])⟩
  | 7, hl => exact ⟨by simpa [lv, uu, u3, uj, upd, vp_updL] using hl, .inr (by simp [cl, eA, thL, uu, u3, uj, upd, vp_updL])⟩
  | 8, hl => exact ⟨by simpa [lv, uu, u3, uj, upd, vp_updL] using hl, .inr (by simp [cl, eA, thL, uu, u3, uj, upd, vp_updL])⟩
  | 9, hl => exact ⟨by simpa [lv, uu, u3, uj, upd, vp_updL] using hl, .inr (by simp [cl, eA, thL, uu, u3, uj, upd, vp_updL])⟩
  | 10, hl => exact ⟨by simpa [lv, uu, u3, uj, upd, vp_updL] using hl, .inr (by simp [cl, eA, thL, uu, u3, uj, upd, vp_updL])⟩
  | κ' + 11, hl => exact absurd hl (by simp [lv])
theorem wt6 (R : Mem z h A M I T J rl G N) {t : Nat} (ht : t < M 2 0) (v : Int32) : ∃ G', pV [9, 6] 6 (.int v) G (A 4 t 0) = some G' ∧ Mem z h A M (uu I 16 t v) T J rl G' N := by
  have fr : ∀ κ' i' j', lv M (uu I 16 t v) κ' i' j' → lv M I κ' i' j' ∧ ((κ', i', j') = (4, t, 0) ∨ cl z A M (uu I 16 t v) T J κ' i' j' = cl z A M I T J κ' i' j') := by
    intro κ' i' j' hl
    match κ', hl with
    | 0, hl => exact ⟨by simpa [lv, uu, u3, uj, upd, vp_updL] using hl, .inr (by simp [cl, eA, thL, uu, u3, uj, upd, vp_updL])⟩
    | 1, hl => exact ⟨by simpa [lv, uu, u3, uj, upd, vp_updL] using hl, .inr (by simp [cl, eA, thL, uu, u3, uj, upd, vp_updL])⟩
    | 2, hl => exact ⟨by simpa [lv, uu, u3, uj, upd, vp_updL] using hl, .inr (by simp [cl, eA, thL, uu, u3, uj, upd, vp_updL])⟩
    | 3, hl =>
      refine ⟨hl, ?_⟩
      obtain ⟨hi, hj⟩ := hl
      match i', hi with
      | 0, _ => exact .inr (by simp [cl, fxC, uu, u3, uj, upd, vp_updL])
      | 1, _ => exact .inr (by simp [cl, fxC, uu, u3, uj, upd, vp_updL])
      | 2, _ => exact .inr (by simp [cl, fxC, uu, u3, uj, upd, vp_updL])
      | 3, _ => exact .inr (by simp [cl, fxC, uu, u3, uj, upd, vp_updL])
      | 4, _ => exact .inr (by simp [cl, fxC, uu, u3, uj, upd, vp_updL])
      | 5, _ => exact .inr (by simp [cl, fxC, uu, u3, uj, upd, vp_updL])
      | 6, _ => exact .inr (by simp [cl, fxC, uu, u3, uj, upd, vp_updL])
      | 7, _ => exact .inr (by simp [cl, fxC, uu, u3, uj, upd, vp_updL])
      | 8, _ => exact .inr (by simp [cl, fxC, uu, u3, uj, upd, vp_updL])
      | 9, _ => exact .inr (by simp [cl, fxC, uu, u3, uj, upd, vp_updL])
      | 10, _ => exact .inr (by simp [cl, fxC, uu, u3, uj, upd, vp_updL])
      | 11, _ => exact .inr (by simp [cl, fxC, uu, u3, uj, upd, vp_updL])
      | 12, _ => exact .inr (by simp [cl, fxC, uu, u3, uj, upd, vp_updL])
      | 13, _ => exact .inr (by simp [cl, fxC, uu, u3, uj, upd, vp_updL])
      | 14, _ => exact .inr (by simp [cl, fxC, uu, u3, uj, upd, vp_updL])
      | i' + 15, hi => exact absurd hi (by omega)
    | 4, hl =>
      refine ⟨by simpa [lv, uu, u3, uj, upd, vp_updL] using hl, ?_⟩
      by_cases e : i' = t
      · exact .inl (by rw [e, hl.2])
      · exact .inr (by simp [cl, eA, thL, uu, u3, uj, upd, vp_updL, e])
    | 5, hl => exact ⟨by simpa [lv, uu, u3, uj, upd, vp_updL] using hl, .inr (by simp [cl, eA, thL, uu, u3, uj, upd, vp_updL])⟩
    | 6, hl => exact ⟨by simpa [lv, uu, u3, uj, upd, vp_updL] using hl, .inr (by simp [cl, eA, thL, uu, u3, uj, upd, vp_updL])⟩
    | 7, hl => exact ⟨by simpa [lv, uu, u3, uj, upd, vp_updL] using hl, .inr (by simp [cl, eA, thL, uu, u3, uj, upd, vp_updL])⟩
    | 8, hl => exact ⟨by simpa [lv, uu, u3, uj, upd, vp_updL] using hl, .inr (by simp [cl, eA, thL, uu, u3, uj, upd, vp_updL])⟩
    | 9, hl => exact ⟨by simpa [lv, uu, u3, uj, upd, vp_updL] using hl, .inr (by simp [cl, eA, thL, uu, u3, uj, upd, vp_updL])⟩
    | 10, hl => exact ⟨by simpa [lv, uu, u3, uj, upd, vp_updL] using hl, .inr (by simp [cl, eA, thL, uu, u3, uj, upd, vp_updL])⟩
    | κ' + 11, hl => exact absurd hl (by simp [lv])
  by_cases e : I 10 t = 3
  · exact ⟨_, pV_n (R.tp ht e) rfl (by simp [thL]), R.wr 4 t 0 ⟨ht, rfl⟩ R.b (by simp [cl, thL, uu, upd, e]) fr⟩
  · exact ⟨_, pV_n (R.tq ht e) rfl (by simp [thL]), R.wr 4 t 0 ⟨ht, rfl⟩ R.b (by simp [cl, thL, uu, upd, e]) fr⟩
theorem wt7 (R : Mem z h A M I T J rl G N) {t : Nat} (ht : t < M 2 0) (v : Int32) : ∃ G', pV [9, 6] 7 (.int v) G (A 4 t 0) = some G' ∧ Mem z h A M (uu I 17 t v) T J rl G' N := by
  have fr : ∀ κ' i' j', lv M (uu I 17 t v) κ' i' j' → lv M I κ' i' j' ∧ ((κ', i', j') = (4, t, 0) ∨ cl z A M (uu I 17 t v) T J κ' i' j' = cl z A M I T J κ' i' j') := by
    intro κ' i' j' hl
    match κ', hl with
    | 0, hl => exact ⟨by simpa [lv, uu, u3, uj, upd, vp_updL] using hl, .inr (by simp [cl, eA, thL, uu, u3, uj, upd, vp_updL])⟩
    | 1, hl => exact ⟨by simpa [lv, uu, u3, uj, upd, vp_updL] using hl, .inr (by simp [cl, eA, thL, uu, u3, uj, upd, vp_updL])⟩
    | 2, hl => exact ⟨by simpa [lv, uu, u3, uj, upd, vp_updL] using hl, .inr (by simp [cl, eA, thL, uu, u3, uj, upd, vp_updL])⟩
    | 3, hl =>
      refine ⟨hl, ?_⟩
      obtain ⟨hi, hj⟩ := hl
      match i', hi with
      | 0, _ => exact .inr (by simp [cl, fxC, uu, u3, uj, upd, vp_updL])
      | 1, _ => exact .inr (by simp [cl, fxC, uu, u3, uj, upd, vp_updL])
      | 2, _ => exact .inr (by simp [cl, fxC, uu, u3, uj, upd, vp_updL])
      | 3, _ => exact .inr (by simp [cl, fxC, uu, u3, uj, upd, vp_updL])
      | 4, _ => exact .inr (by simp [cl, fxC, uu, u3, uj, upd, vp_updL])
      | 5, _ => exact .inr (by simp [cl, fxC, uu, u3, uj, upd, vp_updL])
      | 6, _ => exact .inr (by simp [cl, fxC, uu, u3, uj, upd, vp_updL])
      | 7, _ => exact .inr (by simp [cl, fxC, uu, u3, uj, upd, vp_updL])
      | 8, _ => exact .inr (by simp [cl, fxC, uu, u3, uj, upd, vp_updL])
      | 9, _ => exact .inr (by simp [cl, fxC, uu, u3, uj, upd, vp_updL])
      | 10, _ => exact .inr (by simp [cl, fxC, uu, u3, uj, upd, vp_updL])
      | 11, _ => exact .inr (by simp [cl, fxC, uu, u3, uj, upd, vp_updL])
      | 12, _ => exact .inr (by simp [cl, fxC, uu, u3, uj, upd, vp_updL])
      | 13, _ => exact .inr (by simp [cl, fxC, uu, u3, uj, upd, vp_updL])
      | 14, _ => exact .inr (by simp [cl, fxC, uu, u3, uj, upd, vp_updL])
      | i' + 15, hi => exact absurd hi (by omega)
    | 4, hl =>
      refine ⟨by simpa [lv, uu, u3, uj, upd, vp_updL] using hl, ?_⟩
      by_cases e : i' = t
      · exact .inl (by rw [e, hl.2])
      · exact .inr (by simp [cl, eA, thL, uu, u3, uj, upd, vp_updL, e])
    | 5, hl => exact ⟨by simpa [lv, uu, u3, uj, upd, vp_updL] using hl, .inr (by simp [cl, eA, thL, uu, u3, uj, upd, vp_updL])⟩
    | 6, hl => exact ⟨by simpa [lv, uu, u3, uj, upd, vp_updL] using hl, .inr (by simp [cl, eA, thL, uu, u3, uj, upd, vp_updL])⟩
    | 7, hl => exact ⟨by simpa [lv, uu, u3, uj, upd, vp_updL] using hl, .inr (by simp [cl, eA, thL, uu, u3, uj, upd, vp_updL])⟩
    | 8, hl => exact ⟨by simpa [lv, uu, u3, uj, upd, vp_updL] using hl, .inr (by simp [cl, eA, thL, uu, u3, uj, upd, vp_updL])⟩
    | 9, hl => exact ⟨by simpa [lv, uu, u3, uj, upd, vp_updL] using hl, .inr (by simp [cl, eA, thL, uu, u3, uj, upd, vp_updL])⟩
    | 10, hl => exact ⟨by simpa [lv, uu, u3, uj, upd, vp_updL] using hl, .inr (by simp [cl, eA, thL, uu, u3, uj, upd, vp_updL])⟩
    | κ' + 11, hl => exact absurd hl (by simp [lv])
  by_cases e : I 10 t = 3
  · exact ⟨_, pV_n (R.tp ht e) rfl (by simp [thL]), R.wr 4 t 0 ⟨ht, rfl⟩ R.b (by simp [cl, thL, uu, upd, e]) fr⟩
  · exact ⟨_, pV_n (R.tq ht e) rfl (by simp [thL]), R.wr 4 t 0 ⟨ht, rfl⟩ R.b (by simp [cl, thL, uu, upd, e]) fr⟩
theorem wt8 (R : Mem z h A M I T J rl G N) {t : Nat} (ht : t < M 2 0) (v : Int32) : ∃ G', pV [9, 6] 8 (.int v) G (A 4 t 0) = some G' ∧ Mem z h A M (uu I 18 t v) T J rl G' N := by
  have fr : ∀ κ' i' j', lv M (uu I 18 t v) κ' i' j' → lv M I κ' i' j' ∧ ((κ', i', j') = (4, t, 0) ∨ cl z A M (uu I 18 t v) T J κ' i' j' = cl z A M I T J κ' i' j') := by
    intro κ' i' j' hl
    match κ', hl with
    | 0, hl => exact ⟨by simpa [lv, uu, u3, uj, upd, vp_updL] using hl, .inr (by simp [cl, eA, thL, uu, u3, uj, upd, vp_updL])⟩
    | 1, hl => exact ⟨by simpa [lv, uu, u3, uj, upd, vp_updL] using hl, .inr (by simp [cl, eA, thL, uu, u3, uj, upd, vp_updL])⟩
    | 2, hl => exact ⟨by simpa [lv, uu, u3, uj, upd, vp_updL] using hl, .inr (by simp [cl, eA, thL, uu, u3, uj, upd, vp_updL])⟩
    | 3, hl =>
      refine ⟨hl, ?_⟩
      obtain ⟨hi, hj⟩ := hl
      match i', hi with
      | 0, _ => exact .inr (by simp [cl, fxC, uu, u3, uj, upd, vp_updL])
      | 1, _ => exact .inr (by simp [cl, fxC, uu, u3, uj, upd, vp_updL])
      | 2, _ => exact .inr (by simp [cl, fxC, uu, u3, uj, upd, vp_updL])
      | 3, _ => exact .inr (by simp [cl, fxC, uu, u3, uj, upd, vp_updL])
      | 4, _ => exact .inr (by simp [cl, fxC, uu, u3, uj, upd, vp_updL])
      | 5, _ => exact .inr (by simp [cl, fxC, uu, u3, uj, upd, vp_updL])
      | 6, _ => exact .inr (by simp [cl, fxC, uu, u3, uj, upd, vp_updL])
      | 7, _ => exact .inr (by simp [cl, fxC, uu, u3, uj, upd, vp_updL])
      | 8, _ => exact .inr (by simp [cl, fxC, uu, u3, uj, upd, vp_updL])
      | 9, _ => exact .inr (by simp [cl, fxC, uu, u3, uj, upd, vp_updL])
      | 10, _ => exact .inr (by simp [cl, fxC, uu, u3, uj, upd, vp_updL])
      | 11, _ => exact .inr (by simp [cl, fxC, uu, u3, uj, upd, vp_updL])
      | 12, _ => exact .inr (by simp [cl, fxC, uu, u3, uj, upd, vp_updL])
      | 13, _ => exact .inr (by simp [cl, fxC, uu, u3, uj, upd, vp_updL])
      | 14, _ => exact .inr (by simp [cl, fxC, uu, u3, uj, upd, vp_updL])
      | i' + 15, hi => exact absurd hi (by omega)
    | 4, hl =>
      refine ⟨by simpa [lv, uu, u3, uj, upd, vp_updL] using hl, ?_⟩
      by_cases e : i' = t
      · exact .inl (by rw [e, hl.2])
      · exact .inr (by simp [cl, eA, thL, uu, u3, uj, upd, vp_updL, e])
    | 5, hl => exact ⟨by simpa [lv, uu, u3, uj, upd, vp_updL] using hl, .inr (by simp [cl, eA, thL, uu, u3, uj, upd, vp_updL])⟩
    | 6, hl => exact ⟨by simpa [lv, uu, u3, uj, upd, vp_updL] using hl, .inr (by simp [cl, eA, thL, uu, u3, uj, upd, vp_updL])⟩
    | 7, hl => exact ⟨by simpa [lv, uu, u3, uj, upd, vp_updL] using hl, .inr (by simp [cl, eA, thL, uu, u3, uj, upd, vp_updL])⟩
    | 8, hl => exact ⟨by simpa [lv, uu, u3, uj, upd, vp_updL] using hl, .inr (by simp [cl, eA, thL, uu, u3, uj, upd, vp_updL])⟩
    | 9, hl => exact ⟨by simpa [lv, uu, u3, uj, upd, vp_updL] using hl, .inr (by simp [cl, eA, thL, uu, u3, uj, upd, vp_updL])⟩
    | 10, hl => exact ⟨by simpa [lv, uu, u3, uj, upd, vp_updL] using hl, .inr (by simp [cl, eA, thL, uu, u3, uj, upd, vp_updL])⟩
    | κ' + 11, hl => exact absurd hl (by simp [lv])
  by_cases e : I 10 t = 3
  · exact ⟨_, pV_n (R.tp ht e) rfl (by simp [thL]), R.wr 4 t 0 ⟨ht, rfl⟩ R.b (by simp [cl, thL, uu, upd, e]) fr⟩
  · exact ⟨_, pV_n (R.tq ht e) rfl (by simp [thL]), R.wr 4 t 0 ⟨ht, rfl⟩ R.b (by simp [cl, thL, uu, upd, e]) fr⟩
theorem wt9 (R : Mem z h A M I T J rl G N) {t : Nat} (ht : t < M 2 0) (v : Int32) : ∃ G', pV [9, 6] 9 (.int v) G (A 4 t 0) = some G' ∧ Mem z h A M (uu I 19 t v) T J rl G' N := by
  have fr : ∀ κ' i' j', lv M (uu I 19 t v) κ' i' j' → lv M I κ' i' j' ∧ ((κ', i', j') = (4, t, 0) ∨ cl z A M (uu I 19 t v) T J κ' i' j' = cl z A M I T J κ' i' j') := by
    intro κ' i' j' hl
    match κ', hl with
    | 0, hl => exact ⟨by simpa [lv, uu, u3, uj, upd, vp_updL] using hl, .inr (by simp [cl, eA, thL, uu, u3, uj, upd, vp_updL])⟩
    | 1, hl => exact ⟨by simpa [lv, uu, u3, uj, upd, vp_updL] using hl, .inr (by simp [cl, eA, thL, uu, u3, uj, upd, vp_updL])⟩
    | 2, hl => exact ⟨by simpa [lv, uu, u3, uj, upd, vp_updL] using hl, .inr (by simp [cl, eA, thL, uu, u3, uj, upd, vp_updL])⟩
    | 3, hl =>
      refine ⟨hl, ?_⟩
      obtain ⟨hi, hj⟩ := hl
      match i', hi with
      | 0, _ => exact .inr (by simp [cl, fxC, uu, u3, uj, upd, vp_updL])
      | 1, _ => exact .inr (by simp [cl, fxC, uu, u3, uj, upd, vp_updL])
      | 2, _ => exact .inr (by simp [cl, fxC, uu, u3, uj, upd, vp_updL])
      | 3, _ => exact .inr (by simp [cl, fxC, uu, u3, uj, upd, vp_updL])
      | 4, _ => exact .inr (by simp [cl, fxC, uu, u3, uj, upd, vp_updL])
      | 5, _ => exact .inr (by simp [cl, fxC, uu, u3, uj, upd, vp_updL])
      | 6, _ => exact .inr (by simp [cl, fxC, uu, u3, uj, upd, vp_updL])
      | 7, _ => exact .inr (by simp [cl, fxC, uu, u3, uj, upd, vp_updL])
      | 8, _ => exact .inr (by simp [cl, fxC, uu, u3, uj, upd, vp_updL])
      | 9, _ => exact .inr (by simp [cl, fxC, uu, u3, uj, upd, vp_updL])
      | 10, _ => exact .inr (by simp [cl, fxC, uu, u3, uj, upd, vp_updL])
      | 11, _ => exact .inr (by simp [cl, fxC, uu, u3, uj, upd, vp_updL])
      | 12, _ => exact .inr (by simp [cl, fxC, uu, u3, uj, upd, vp_updL])
      | 13, _ => exact .inr (by simp [cl, fxC, uu, u3, uj, upd, vp_updL])
      | 14, _ => exact .inr (by simp [cl, fxC, uu, u3, uj, upd, vp_updL])
      | i' + 15, hi => exact absurd hi (by omega)
    | 4, hl =>
      refine ⟨by simpa [lv, uu, u3, uj, upd, vp_updL] using hl, ?_⟩
      by_cases e : i' = t
      · exact .inl (by rw [e, hl.2])
      · exact .inr (by simp [cl, eA, thL, uu, u3, uj, upd, vp_updL, e])
    | 5, hl => exact ⟨by simpa [lv, uu, u3, uj, upd, vp_updL] using hl, .inr (by simp [cl, eA, thL, uu, u3, uj, upd, vp_updL])⟩
    | 6, hl => exact ⟨by simpa [lv, uu, u3, uj, upd, vp_updL] using hl, .inr (by simp [cl, eA, thL, uu, u3, uj, upd, vp_updL])⟩
    | 7, hl => exact ⟨by simpa [lv, uu, u3, uj, upd, vp_updL] using hl, .inr (by simp [cl, eA, thL, uu, u3, uj, upd, vp_updL])⟩
    | 8, hl => exact ⟨by simpa [lv, uu, u3, uj, upd, vp_updL] using hl, .inr (by simp [cl, eA, thL, uu, u3, uj, upd, vp_updL])⟩
    | 9, hl => exact ⟨by simpa [lv, uu, u3, uj, upd, vp_updL] using hl, .inr (by simp [cl, eA, thL, uu, u3, uj, upd, vp_updL])⟩
    | 10, hl => exact ⟨by simpa [lv, uu, u3, uj, upd, vp_updL] using hl, .inr (by simp [cl, eA, thL, uu, u3, uj, upd, vp_updL])⟩
    | κ' + 11, hl => exact absurd hl (by simp [lv])
  by_cases e : I 10 t = 3
  · exact ⟨_, pV_n (R.tp ht e) rfl (by simp [thL]), R.wr 4 t 0 ⟨ht, rfl⟩ R.b (by simp [cl, thL, uu, upd, e]) fr⟩
  · exact ⟨_, pV_n (R.tq ht e) rfl (by simp [thL]), R.wr 4 t 0 ⟨ht, rfl⟩ R.b (by simp [cl, thL, uu, upd, e]) fr⟩
theorem wt10 (R : Mem z h A M I T J rl G N) {t : Nat} (ht : t < M 2 0) (v : Int32) : ∃ G', pV [9, 6] 10 (.int v) G (A 4 t 0) = some G' ∧ Mem z h A M (uu I 20 t v) T J rl G' N := by
  have fr : ∀ κ' i' j', lv M (uu I 20 t v) κ' i' j' → lv M I κ' i' j' ∧ ((κ', i', j') = (4, t, 0) ∨ cl z A M (uu I 20 t v) T J κ' i' j' = cl z A M I T J κ' i' j') := by
    intro κ' i' j' hl
    match κ', hl with
    | 0, hl => exact ⟨by simpa [lv, uu, u3, uj, upd, vp_updL] using hl, .inr (by simp [cl, eA, thL, uu, u3, uj, upd, vp_updL])⟩
    | 1, hl => exact ⟨by simpa [lv, uu, u3, uj, upd, vp_updL] using hl, .inr (by simp [cl, eA, thL, uu, u3, uj, upd, vp_updL])⟩
    | 2, hl => exact ⟨by simpa [lv, uu, u3, uj, upd, vp_updL] using hl, .inr (by simp [cl, eA, thL, uu, u3, uj, upd, vp_updL])⟩
    | 3, hl =>
      refine ⟨hl, ?_⟩
      obtain ⟨hi, hj⟩ := hl
      match i', hi with
      | 0, _ => exact .inr (by simp [cl, fxC, uu, u3, uj, upd, vp_updL])
      | 1, _ => exact .inr (by simp [cl, fxC, uu, u3, uj, upd, vp_updL])
      | 2, _ => exact .inr (by simp [cl, fxC, uu, u3, uj, upd, vp_updL])
      | 3, _ => exact .inr (by simp [cl, fxC, uu, u3, uj, upd, vp_updL])
      | 4, _ => exact .inr (by simp [cl, fxC, uu, u3, uj, upd, vp_updL])
      | 5, _ => exact .inr (by simp [cl, fxC, uu, u3, uj, upd, vp_updL])
      | 6, _ => exact .inr (by simp [cl, fxC, uu, u3, uj, upd, vp_updL])
      | 7, _ => exact .inr (by simp [cl, fxC, uu, u3, uj, upd, vp_updL])
      | 8, _ => exact .inr (by simp [cl, fxC, uu, u3, uj, upd, vp_updL])
      | 9, _ => exact .inr (by simp [cl, fxC, uu, u3, uj, upd, vp_updL])
      | 10, _ => exact .inr (by simp [cl, fxC, uu, u3, uj, upd, vp_updL])
      | 11, _ => exact .inr (by simp [cl, fxC, uu, u3, uj, upd, vp_updL])
      | 12, _ => exact .inr (by simp [cl, fxC, uu, u3, uj, upd, vp_updL])
      | 13, _ => exact .inr (by simp [cl, fxC, uu, u3, uj, upd, vp_updL])
      | 14, _ => exact .inr (by simp [cl, fxC, uu, u3, uj, upd, vp_updL])
      | i' + 15, hi => exact absurd hi (by omega)
    | 4, hl =>
      refine ⟨by simpa [lv, uu, u3, uj, upd, vp_updL] using hl, ?_⟩
      by_cases e : i' = t
      · exact .inl (by rw [e, hl.2])
      · exact .inr (by simp [cl, eA, thL, uu, u3, uj, upd, vp_updL, e])
    | 5, hl => exact ⟨by simpa [lv, uu, u3, uj, upd, vp_updL] using hl, .inr (by simp [cl, eA, thL, uu, u3, uj, upd, vp_updL])⟩
    | 6, hl => exact ⟨by simpa [lv, uu, u3, uj, upd, vp_updL] using hl, .inr (by simp [cl, eA, thL, uu, u3, uj, upd, vp_updL])⟩
    | 7, hl => exact ⟨by simpa [lv, uu, u3, uj, upd, vp_updL] using hl, .inr (by simp [cl, eA, thL, uu, u3, uj, upd, vp_updL])⟩
    | 8, hl => exact ⟨by simpa [lv, uu, u3, uj, upd, vp_updL] using hl, .inr (by simp [cl, eA, thL, uu, u3, uj, upd, vp_updL])⟩
    | 9, hl => exact ⟨by simpa [lv, uu, u3, uj, upd, vp_updL] using hl, .inr (by simp [cl, eA, thL, uu, u3, uj, upd, vp_updL])⟩
    | 10, hl => exact ⟨by simpa [lv, uu, u3, uj, upd, vp_updL] using hl, .inr (by simp [cl, eA, thL, uu, u3, uj, upd, vp_updL])⟩
    | κ' + 11, hl => exact absurd hl (by simp [lv])
  by_cases e : I 10 t = 3
  · exact ⟨_, pV_n (R.tp ht e) rfl (by simp [thL]), R.wr 4 t 0 ⟨ht, rfl⟩ R.b (by simp [cl, thL, uu, upd, e]) fr⟩
  · exact ⟨_, pV_n (R.tq ht e) rfl (by simp [thL]), R.wr 4 t 0 ⟨ht, rfl⟩ R.b (by simp [cl, thL, uu, upd, e]) fr⟩
theorem wtr (R : Mem z h A M I T J rl G N) {t i : Nat} (ht : t < M 2 0) (hi : i < 5) (v : Int32) : ∃ G', uI G (A 7 t 0) (nI i) v = some G' ∧ Mem z h A M I (u3 T 0 t i v) J rl G' N := by
  refine ⟨_, uI_n (R.tm ht) (by decide) hi, R.wr 7 t 0 ⟨ht, rfl⟩ R.b (by simp [cl, fxC, thL, uu, u3, uj]) ?_⟩
  intro κ' i' j' hl
  match κ', hl with
  | 0, hl => exact ⟨by simpa [lv, uu, u3, uj, upd, vp_updL] using hl, .inr (by simp [cl, eA, thL, uu, u3, uj, upd, vp_updL])⟩
  | 1, hl => exact ⟨by simpa [lv, uu, u3, uj, upd, vp_updL] using hl, .inr (by simp [cl, eA, thL, uu, u3, uj, upd, vp_updL])⟩
  | 2, hl => exact ⟨by simpa [lv, uu, u3, uj, upd, vp_updL] using hl, .inr (by simp [cl, eA, thL, uu, u3, uj, upd, vp_updL])⟩
  | 3, hl =>
    refine ⟨hl, ?_⟩
    obtain ⟨hi, hj⟩ := hl
    match i', hi with
    | 0, _ => exact .inr (by simp [cl, fxC, uu, u3, uj, upd, vp_updL])
    | 1, _ => exact .inr (by simp [cl, fxC, uu, u3, uj, upd, vp_updL])
    | 2, _ => exact .inr (by simp [cl, fxC, uu, u3, uj, upd, vp_updL])
    | 3, _ => exact .inr (by simp [cl, fxC, uu, u3, uj, upd, vp_updL])
    | 4, _ => exact .inr (by simp [cl, fxC, uu, u3, uj, upd, vp_updL])
    | 5, _ => exact .inr (by simp [cl, fxC, uu, u3, uj, upd, vp_updL])
    | 6, _ => exact .inr (by simp [cl, fxC, uu, u3, uj, upd, vp_updL])
    | 7, _ => exact .inr (by simp [cl, fxC, uu, u3, uj, upd, vp_updL])
    | 8, _ => exact .inr (by simp [cl, fxC, uu, u3, uj, upd, vp_updL])
    | 9, _ => exact .inr (by simp [cl, fxC, uu, u3, uj, upd, vp_updL])
    | 10, _ => exact .inr (by simp [cl, fxC, uu, u3, uj, upd, vp_updL])
    | 11, _ => exact .inr (by simp [cl, fxC, uu, u3, uj, upd, vp_updL])
    | 12, _ => exact .inr (by simp [cl, fxC, uu, u3, uj, upd, vp_updL])
    | 13, _ => exact .inr (by simp [cl, fxC, uu, u3, uj, upd, vp_updL])
    | 14, _ => exact .inr (by simp [cl, fxC, uu, u3, uj, upd, vp_updL])
    | i' + 15, hi => exact absurd hi (by omega)
  | 4, hl => exact ⟨by simpa [lv, uu, u3, uj, upd, vp_updL] using hl, .inr (by simp [cl, eA, thL, uu, u3, uj, upd, vp_updL])⟩
  | 5, hl => exact ⟨by simpa [lv, uu, u3, uj, upd, vp_updL] using hl, .inr (by simp [cl, eA, thL, uu, u3, uj, upd, vp_updL])⟩
  | 6, hl => exact ⟨by simpa [lv, uu, u3, uj, upd, vp_updL] using hl, .inr (by simp [cl, eA, thL, uu, u3, uj, upd, vp_updL])⟩
  | 7, hl =>
    refine ⟨by simpa [lv, uu, u3, uj, upd, vp_updL] using hl, ?_⟩
    by_cases e : i' = t
    · exact .inl (by rw [e, hl.2])
    · exact .inr (by simp [cl, eA, thL, uu, u3, uj, upd, vp_updL, e])
  | 8, hl => exact ⟨by simpa [lv, uu, u3, uj, upd, vp_updL] using hl, .inr (by simp [cl, eA, thL, uu, u3, uj, upd, vp_updL])⟩
  | 9, hl => exact ⟨by simpa [lv, uu, u3, uj, upd, vp_updL] using hl, .inr (by simp [cl, eA, thL, uu, u3, uj, upd, vp_updL])⟩
  | 10, hl => exact ⟨by simpa [lv, uu, u3, uj, upd, vp_updL] using hl, .inr (by simp [cl, eA, thL, uu, u3, uj, upd, vp_updL])⟩
  | κ' + 11, hl => exact absurd hl (by simp [lv])
theorem wct (R : Mem z h A M I T J rl G N) {t i : Nat} (ht : t < M 2 0) (hp : I 10 t = 3) (hi : i < 4) (v : Int32) : ∃ G', uI G (A 8 t 0) (nI i) v = some G' ∧ Mem z h A M I (u3 T 1 t i v) J rl G' N := by
  refine ⟨_, uI_n (R.tn ht hp) (by decide) hi, R.wr 8 t 0 ⟨ht, rfl, hp⟩ R.b (by simp [cl, fxC, thL, uu, u3, uj]) ?_⟩
  intro κ' i' j' hl
  match κ', hl with
  | 0, hl => exact ⟨by simpa [lv, uu, u3, uj, upd, vp_updL] using hl, .inr (by simp [cl, eA, thL, uu, u3, uj, upd, vp_updL])⟩
  | 1, hl => exact ⟨by simpa [lv, uu, u3, uj, upd, vp_updL] using hl, .inr (by simp [cl, eA, thL, uu, u3, uj, upd, vp_updL])⟩
  | 2, hl => exact ⟨by simpa [lv, uu, u3, uj, upd, vp_updL] using hl, .inr (by simp [cl, eA, thL, uu, u3, uj, upd, vp_updL])⟩
  | 3, hl =>
    refine ⟨hl, ?_⟩
    obtain ⟨hi, hj⟩ := hl
    match i', hi with
    | 0, _ => exact .inr (by simp [cl, fxC, uu, u3, uj, upd, vp_updL])
    | 1, _ => exact .inr (by simp [cl, fxC, uu, u3, uj, upd, vp_updL])
    | 2, _ => exact .inr (by simp [cl, fxC, uu, u3, uj, upd, vp_updL])
    | 3, _ => exact .inr (by simp [cl, fxC, uu, u3, uj, upd, vp_updL])
    | 4, _ => exact .inr (by simp [cl, fxC, uu, u3, uj, upd, vp_updL])
    | 5, _ => exact .inr (by simp [cl, fxC, uu, u3, uj, upd, vp_updL])
    | 6, _ => exact .inr (by simp [cl, fxC, uu, u3, uj, upd, vp_updL])
    | 7, _ => exact .inr (by simp [cl, fxC, uu, u3, uj, upd, vp_updL])
    | 8, _ => exact .inr (by simp [cl, fxC, uu, u3, uj, upd, vp_updL])
    | 9, _ => exact .inr (by simp [cl, fxC, uu, u3, uj, upd, vp_updL])
    | 10, _ => exact .inr (by simp [cl, fxC, uu, u3, uj, upd, vp_updL])
    | 11, _ => exact .inr (by simp [cl, fxC, uu, u3, uj, upd, vp_updL])
    | 12, _ => exact .inr (by simp [cl, fxC, uu, u3, uj, upd, vp_updL])
    | 13, _ => exact .inr (by simp [cl, fxC, uu, u3, uj, upd, vp_updL])
    | 14, _ => exact .inr (by simp [cl, fxC, uu, u3, uj, upd, vp_updL])
    | i' + 15, hi => exact absurd hi (by omega)
  | 4, hl => exact ⟨by simpa [lv, uu, u3, uj, upd, vp_updL] using hl, .inr (by simp [cl, eA, thL, uu, u3, uj, upd, vp_updL])⟩
  | 5, hl => exact ⟨by simpa [lv, uu, u3, uj, upd, vp_updL] using hl, .inr (by simp [cl, eA, thL, uu, u3, uj, upd, vp_updL])⟩
  | 6, hl => exact ⟨by simpa [lv, uu, u3, uj, upd, vp_updL] using hl, .inr (by simp [cl, eA, thL, uu, u3, uj, upd, vp_updL])⟩
  | 7, hl => exact ⟨by simpa [lv, uu, u3, uj, upd, vp_updL] using hl, .inr (by simp [cl, eA, thL, uu, u3, uj, upd, vp_updL])⟩
  | 8, hl =>
    refine ⟨by simpa [lv, uu, u3, uj, upd, vp_updL] using hl, ?_⟩
    by_cases e : i' = t
    · exact .inl (by rw [e, hl.2.1])
    · exact .inr (by simp [cl, eA, thL, uu, u3, uj, upd, vp_updL, e])
  | 9, hl => exact ⟨by simpa [lv, uu, u3, uj, upd, vp_updL] using hl, .inr (by simp [cl, eA, thL, uu, u3, uj, upd, vp_updL])⟩
  | 10, hl => exact ⟨by simpa [lv, uu, u3, uj, upd, vp_updL] using hl, .inr (by simp [cl, eA, thL, uu, u3, uj, upd, vp_updL])⟩
  | κ' + 11, hl => exact absurd hl (by simp [lv])
theorem wwd (R : Mem z h A M I T J rl G N) {t i : Nat} (ht : t < M 2 1) (hi : i < 5) (v : Int32) : ∃ G', uI G (A 9 t 0) (nI i) v = some G' ∧ Mem z h A M I (u3 T 2 t i v) J rl G' N := by
  refine ⟨_, uI_n (R.sm ht) (by decide) hi, R.wr 9 t 0 ⟨ht, rfl⟩ R.b (by simp [cl, fxC, thL, uu, u3, uj]) ?_⟩
  intro κ' i' j' hl
  match κ', hl with
  | 0, hl => exact ⟨by simpa [lv, uu, u3, uj, upd, vp_updL] using hl, .inr (by simp [cl, eA, thL, uu, u3, uj, upd, vp_updL])⟩
  | 1, hl => exact ⟨by simpa [lv, uu, u3, uj, upd, vp_updL] using hl, .inr (by simp [cl, eA, thL, uu, u3, uj, upd, vp_updL])⟩
  | 2, hl => exact ⟨by simpa [lv, uu, u3, uj, upd, vp_updL] using hl, .inr (by simp [cl, eA, thL, uu, u3, uj, upd, vp_updL])⟩
  | 3, hl =>
    refine ⟨hl, ?_⟩
    obtain ⟨hi, hj⟩ := hl
    match i', hi with
    | 0, _ => exact .inr (by simp [cl, fxC, uu, u3, uj, upd, vp_updL])
    | 1, _ => exact .inr (by simp [cl, fxC, uu, u3, uj, upd, vp_updL])
    | 2, _ => exact .inr (by simp [cl, fxC, uu, u3, uj, upd, vp_updL])
    | 3, _ => exact .inr (by simp [cl, fxC, uu, u3, uj, upd, vp_updL])
    | 4, _ => exact .inr (by simp [cl, fxC, uu, u3, uj, upd, vp_updL])
    | 5, _ => exact .inr (by simp [cl, fxC, uu, u3, uj, upd, vp_updL])
    | 6, _ => exact .inr (by simp [cl, fxC, uu, u3, uj, upd, vp_updL])
    | 7, _ => exact .inr (by simp [cl, fxC, uu, u3, uj, upd, vp_updL])
    | 8, _ => exact .inr (by simp [cl, fxC, uu, u3, uj, upd, vp_updL])
    | 9, _ => exact .inr (by simp [cl, fxC, uu, u3, uj, upd, vp_updL])
    | 10, _ => exact .inr (by simp [cl, fxC, uu, u3, uj, upd, vp_updL])
    | 11, _ => exact .inr (by simp [cl, fxC, uu, u3, uj, upd, vp_updL])
    | 12, _ => exact .inr (by simp [cl, fxC, uu, u3, uj, upd, vp_updL])
    | 13, _ => exact .inr (by simp [cl, fxC, uu, u3, uj, upd, vp_updL])
    | 14, _ => exact .inr (by simp [cl, fxC, uu, u3, uj, upd, vp_updL])
    | i' + 15, hi => exact absurd hi (by omega)
  | 4, hl => exact ⟨by simpa [lv, uu, u3, uj, upd, vp_updL] using hl, .inr (by simp [cl, eA, thL, uu, u3, uj, upd, vp_updL])⟩
  | 5, hl => exact ⟨by simpa [lv, uu, u3, uj, upd, vp_updL] using hl, .inr (by simp [cl, eA, thL, uu, u3, uj, upd, vp_updL])⟩
  | 6, hl => exact ⟨by simpa [lv, uu, u3, uj, upd, vp_updL] using hl, .inr (by simp [cl, eA, thL, uu, u3, uj, upd, vp_updL])⟩
  | 7, hl => exact ⟨by simpa [lv, uu, u3, uj, upd, vp_updL] using hl, .inr (by simp [cl, eA, thL, uu, u3, uj, upd, vp_updL])⟩
  | 8, hl => exact ⟨by simpa [lv, uu, u3, uj, upd, vp_updL] using hl, .inr (by simp [cl, eA, thL, uu, u3, uj, upd, vp_updL])⟩
  | 9, hl =>
    refine ⟨by simpa [lv, uu, u3, uj, upd, vp_updL] using hl, ?_⟩
    by_cases e : i' = t
    · exact .inl (by rw [e, hl.2])
    · exact .inr (by simp [cl, eA, thL, uu, u3, uj, upd, vp_updL, e])
  | 10, hl => exact ⟨by simpa [lv, uu, u3, uj, upd, vp_updL] using hl, .inr (by simp [cl, eA, thL, uu, u3, uj, upd, vp_updL])⟩
  | κ' + 11, hl => exact absurd hl (by simp [lv])
theorem ws2 (R : Mem z h A M I T J rl G N) {t : Nat} (ht : t < M 2 1) (v : Int32) : ∃ G', pV [8] 2 (.int v) G (A 5 t 0) = some G' ∧ Mem z h A M (uu I 32 t v) T J rl G' N := by
  refine ⟨_, pV_n (R.c 5 t 0 ⟨ht, rfl⟩) rfl (by simp), R.wr 5 t 0 ⟨ht, rfl⟩ R.b (by simp [cl, uu, upd]) ?_⟩
  intro κ' i' j' hl
  match κ', hl with
  | 0, hl => exact ⟨by simpa [lv, uu, u3, uj, upd, vp_updL] using hl, .inr (by simp [cl, eA, thL, uu, u3, uj, upd, vp_updL])⟩
  | 1, hl => exact ⟨by simpa [lv, uu, u3, uj, upd, vp_updL] using hl, .inr (by simp [cl, eA, thL, uu, u3, uj, upd, vp_updL])⟩
  | 2, hl => exact ⟨by simpa [lv, uu, u3, uj, upd, vp_updL] using hl, .inr (by simp [cl, eA, thL, uu, u3, uj, upd, vp_updL])⟩
  | 3, hl =>
    refine ⟨hl, ?_⟩
    obtain ⟨hi, hj⟩ := hl
    match i', hi with
    | 0, _ => exact .inr (by simp [cl, fxC, uu, u3, uj, upd, vp_updL])
    | 1, _ => exact .inr (by simp [cl, fxC, uu, u3, uj, upd, vp_updL])
    | 2, _ => exact .inr (by simp [cl, fxC, uu, u3, uj, upd, vp_updL])
    | 3, _ => exact .inr (by simp [cl, fxC, uu, u3, uj, upd, vp_updL])
    | 4, _ => exact .inr (by simp [cl, fxC, uu, u3, uj, upd, vp_updL])
    | 5, _ => exact .inr (by simp [cl, fxC, uu, u3, uj, upd, vp_updL])
    | 6, _ => exact .inr (by simp [cl, fxC, uu, u3, uj, upd, vp_updL])
    | 7, _ => exact .inr (by simp [cl, fxC, uu, u3, uj, upd, vp_updL])
    | 8, _ => exact .inr (by simp [cl, fxC, uu, u3, uj, upd, vp_updL])
    | 9, _ => exact .inr (by simp [cl, fxC, uu, u3, uj, upd, vp_updL])
    | 10, _ => exact .inr (by simp [cl, fxC, uu, u3, uj, upd, vp_updL])
    | 11, _ => exact .inr (by simp [cl, fxC, uu, u3, uj, upd, vp_updL])
    | 12, _ => exact .inr (by simp [cl, fxC, uu, u3, uj, upd, vp_updL])
    | 13, _ => exact .inr (by simp [cl, fxC, uu, u3, uj, upd, vp_updL])
    | 14, _ => exact .inr (by simp [cl, fxC, uu, u3, uj, upd, vp_updL])
    | i' + 15, hi => exact absurd hi (by omega)
  | 4, hl => exact ⟨by simpa [lv, uu, u3, uj, upd, vp_updL] using hl, .inr (by simp [cl, eA, thL, uu, u3, uj, upd, vp_updL])⟩
  | 5, hl =>
    refine ⟨by simpa [lv, uu, u3, uj, upd, vp_updL] using hl, ?_⟩
    by_cases e : i' = t
    · exact .inl (by rw [e, hl.2])
    · exact .inr (by simp [cl, eA, thL, uu, u3, uj, upd, vp_updL, e])
  | 6, hl => exact ⟨by simpa [lv, uu, u3, uj, upd, vp_updL] using hl, .inr (by simp [cl, eA, thL, uu, u3, uj, upd, vp_updL])⟩
  | 7, hl => exact ⟨by simpa [lv, uu, u3, uj, upd, vp_updL] using hl, .inr (by simp [cl, eA, thL, uu, u3, uj, upd, vp_updL])⟩
  | 8, hl => exact ⟨by simpa [lv, uu, u3, uj, upd, vp_updL] using hl, .inr (by simp [cl, eA, thL, uu, u3, uj, upd, vp_updL])⟩
  | 9, hl => exact ⟨by simpa [lv, uu, u3, uj, upd, vp_updL] using hl, .inr (by simp [cl, eA, thL, uu, u3, uj, upd, vp_updL])⟩
  | 10, hl => exact ⟨by simpa [lv, uu, u3, uj, upd, vp_updL] using hl, .inr (by simp [cl, eA, thL, uu, u3, uj, upd, vp_updL])⟩
  | κ' + 11, hl => exact absurd hl (by simp [lv])
theorem ws3 (R : Mem z h A M I T J rl G N) {t : Nat} (ht : t < M 2 1) (v : Int32) : ∃ G', pV [8] 3 (.int v) G (A 5 t 0) = some G' ∧ Mem z h A M (uu I 33 t v) T J rl G' N := by
  refine ⟨_, pV_n (R.c 5 t 0 ⟨ht, rfl⟩) rfl (by simp), R.wr 5 t 0 ⟨ht, rfl⟩ R.b (by simp [cl, uu, upd]) ?_⟩
  intro κ' i' j' hl
  match κ', hl with
  | 0, hl => exact ⟨by simpa [lv, uu, u3, uj, upd, vp_updL] using hl, .inr (by simp [cl, eA, thL, uu, u3, uj, upd, vp_updL])⟩
  | 1, hl => exact ⟨by simpa [lv, uu, u3, uj, upd, vp_updL] using hl, .inr (by simp [cl, eA, thL, uu, u3, uj, upd, vp_updL])⟩
  | 2, hl => exact ⟨by simpa [lv, uu, u3, uj, upd, vp_updL] using hl, .inr (by simp [cl, eA, thL, uu, u3, uj, upd, vp_updL])⟩
  | 3, hl =>
    refine ⟨hl, ?_⟩
    obtain ⟨hi, hj⟩ := hl
    match i', hi with
    | 0, _ => exact .inr (by simp [cl, fxC, uu, u3, uj, upd, vp_updL])
    | 1, _ => exact .inr (by simp [cl, fxC, uu, u3, uj, upd, vp_updL])
    | 2, _ => exact .inr (by simp [cl, fxC, uu, u3, uj, upd, vp_updL])
    | 3, _ => exact .inr (by simp [cl, fxC, uu, u3, uj, upd, vp_updL])
    | 4, _ => exact .inr (by simp [cl, fxC, uu, u3, uj, upd, vp_updL])
    | 5, _ => exact .inr (by simp [cl, fxC, uu, u3, uj, upd, vp_updL])
    | 6, _ => exact .inr (by simp [cl, fxC, uu, u3, uj, upd, vp_updL])
    | 7, _ => exact .inr (by simp [cl, fxC, uu, u3, uj, upd, vp_updL])
    | 8, _ => exact .inr (by simp [cl, fxC, uu, u3, uj, upd, vp_updL])
    | 9, _ => exact .inr (by simp [cl, fxC, uu, u3, uj, upd, vp_updL])
    | 10, _ => exact .inr (by simp [cl, fxC, uu, u3, uj, upd, vp_updL])
    | 11, _ => exact .inr (by simp [cl, fxC, uu, u3, uj, upd, vp_updL])
    | 12, _ => exact .inr (by simp [cl, fxC, uu, u3, uj, upd, vp_updL])
    | 13, _ => exact .inr (by simp [cl, fxC, uu, u3, uj, upd, vp_updL])
    | 14, _ => exact .inr (by simp [cl, fxC, uu, u3, uj, upd, vp_updL])
    | i' + 15, hi => exact absurd hi (by omega)
  | 4, hl => exact ⟨by simpa [lv, uu, u3, uj, upd, vp_updL] using hl, .inr (by simp [cl, eA, thL, uu, u3, uj, upd, vp_updL])⟩
  | 5, hl =>
    refine ⟨by simpa [lv, uu, u3, uj, upd, vp_updL] using hl, ?_⟩
    by_cases e : i' = t
    · exact .inl (by rw [e, hl.2])
    · exact .inr (by simp [cl, eA, thL, uu, u3, uj, upd, vp_updL, e])
  | 6, hl => exact ⟨by simpa [lv, uu, u3, uj, upd, vp_updL] using hl, .inr (by simp [cl, eA, thL, uu, u3, uj, upd, vp_updL])⟩
  | 7, hl => exact ⟨by simpa [lv, uu, u3, uj, upd, vp_updL] using hl, .inr (by simp [cl, eA, thL, uu, u3, uj, upd, vp_updL])⟩
  | 8, hl => exact ⟨by simpa [lv, uu, u3, uj, upd, vp_updL] using hl, .inr (by simp [cl, eA, thL, uu, u3, uj, upd, vp_updL])⟩
  | 9, hl => exact ⟨by simpa [lv, uu, u3, uj, upd, vp_updL] using hl, .inr (by simp [cl, eA, thL, uu, u3, uj, upd, vp_updL])⟩
  | 10, hl => exact ⟨by simpa [lv, uu, u3, uj, upd, vp_updL] using hl, .inr (by simp [cl, eA, thL, uu, u3, uj, upd, vp_updL])⟩
  | κ' + 11, hl => exact absurd hl (by simp [lv])
theorem ws4 (R : Mem z h A M I T J rl G N) {t : Nat} (ht : t < M 2 1) (v : Int32) : ∃ G', pV [8] 4 (.int v) G (A 5 t 0) = some G' ∧ Mem z h A M (uu I 34 t v) T J rl G' N := by
  refine ⟨_, pV_n (R.c 5 t 0 ⟨ht, rfl⟩) rfl (by simp), R.wr 5 t 0 ⟨ht, rfl⟩ R.b (by simp [cl, uu, upd]) ?_⟩
  intro κ' i' j' hl
  match κ', hl with
  | 0, hl => exact ⟨by simpa [lv, uu, u3, uj, upd, vp_updL] using hl, .inr (by simp [cl, eA, thL, uu, u3, uj, upd, vp_updL])⟩
  | 1, hl => exact ⟨by simpa [lv, uu, u3, uj, upd, vp_updL] using hl, .inr (by simp [cl, eA, thL, uu, u3, uj, upd, vp_updL])⟩
  | 2, hl => exact ⟨by simpa [lv, uu, u3, uj, upd, vp_updL] using hl, .inr (by simp [cl, eA, thL, uu, u3, uj, upd, vp_updL])⟩
  | 3, hl =>
    refine ⟨hl, ?_⟩
    obtain ⟨hi, hj⟩ := hl
    match i', hi with
    | 0, _ => exact .inr (by simp [cl, fxC, uu, u3, uj, upd, vp_updL])
    | 1, _ => exact .inr (by simp [cl, fxC, uu, u3, uj, upd, vp_updL])
    | 2, _ => exact .inr (by simp [cl, fxC, uu, u3, uj, upd, vp_updL])
    | 3, _ => exact .inr (by simp [cl, fxC, uu, u3, uj, upd, vp_updL])
    | 4, _ => exact .inr (by simp [cl, fxC, uu, u3, uj, upd, vp_updL])
    | 5, _ => exact .inr (by simp [cl, fxC, uu, u3, uj, upd, vp_updL])
    | 6, _ => exact .inr (by simp [cl, fxC, uu, u3, uj, upd, vp_updL])
    | 7, _ => exact .inr (by simp [cl, fxC, uu, u3, uj, upd, vp_updL])
    | 8, _ => exact .inr (by simp [cl, fxC, uu, u3, uj, upd, vp_updL])
    | 9, _ => exact .inr (by simp [cl, fxC, uu, u3, uj, upd, vp_updL])
    | 10, _ => exact .inr (by simp [cl, fxC, uu, u3, uj, upd, vp_updL])
    | 11, _ => exact .inr (by simp [cl, fxC, uu, u3, uj, upd, vp_updL])
    | 12, _ => exact .inr (by simp [cl, fxC, uu, u3, uj, upd, vp_updL])
    | 13, _ => exact .inr (by simp [cl, fxC, uu, u3, uj, upd, vp_updL])
    | 14, _ => exact .inr (by simp [cl, fxC, uu, u3, uj, upd, vp_updL])
    | i' + 15, hi => exact absurd hi (by omega)
  | 4, hl => exact ⟨by simpa [lv, uu, u3, uj, upd, vp_updL] using hl, .inr (by simp [cl, eA, thL, uu, u3, uj, upd, vp_updL])⟩
  | 5, hl =>
    refine ⟨by simpa [lv, uu, u3, uj, upd, vp_updL] using hl, ?_⟩
    by_cases e : i' = t
    · exact .inl (by rw [e, hl.2])
    · exact .inr (by simp [cl, eA, thL, uu, u3, uj, upd, vp_updL, e])
  | 6, hl => exact ⟨by simpa [lv, uu, u3, uj, upd, vp_updL] using hl, .inr (by simp [cl, eA, thL, uu, u3, uj, upd, vp_updL])⟩
  | 7, hl => exact ⟨by simpa [lv, uu, u3, uj, upd, vp_updL] using hl, .inr (by simp [cl, eA, thL, uu, u3, uj, upd, vp_updL])⟩
  | 8, hl => exact ⟨by simpa [lv, uu, u3, uj, upd, vp_updL] using hl, .inr (by simp [cl, eA, thL, uu, u3, uj, upd, vp_updL])⟩
  | 9, hl => exact ⟨by simpa [lv, uu, u3, uj, upd, vp_updL] using hl, .inr (by simp [cl, eA, thL, uu, u3, uj, upd, vp_updL])⟩
  | 10, hl => exact ⟨by simpa [lv, uu, u3, uj, upd, vp_updL] using hl, .inr (by simp [cl, eA, thL, uu, u3, uj, upd, vp_updL])⟩
  | κ' + 11, hl => exact absurd hl (by simp [lv])
theorem wa2 (R : Mem z h A M I T J rl G N) {t : Nat} (ht : t < M 2 2) (v : Int32) : ∃ G', pV [1] 2 (.int v) G (A 6 t 0) = some G' ∧ Mem z h A M (uu I 42 t v) T J rl G' N := by
  refine ⟨_, pV_n (R.c 6 t 0 ⟨ht, rfl⟩) rfl (by simp), R.wr 6 t 0 ⟨ht, rfl⟩ R.b (by simp [cl, uu, upd]) ?_⟩
  intro κ' i' j' hl
  match κ', hl with
  | 0, hl => exact ⟨by simpa [lv, uu, u3, uj, upd, vp_updL] using hl, .inr (by simp [cl, eA, thL, uu, u3, uj, upd, vp_updL])⟩
  | 1, hl => exact ⟨by simpa [lv, uu, u3, uj, upd, vp_updL] using hl, .inr (by simp [cl, eA, thL, uu, u3, uj, upd, vp_updL])⟩
  | 2, hl => exact ⟨by simpa [lv, uu, u3, uj, upd, vp_updL] using hl, .inr (by simp [cl, eA, thL, uu, u3, uj, upd, vp_updL])⟩
  | 3, hl =>
    refine ⟨hl, ?_⟩
    obtain ⟨hi, hj⟩ := hl
    match i', hi with
    | 0, _ => exact .inr (by simp [cl, fxC, uu, u3, uj, upd, vp_updL])
    | 1, _ => exact .inr (by simp [cl, fxC, uu, u3, uj, upd, vp_updL])
    | 2, _ => exact .inr (by simp [cl, fxC, uu, u3, uj, upd, vp_updL])
    | 3, _ => exact .inr (by simp [cl, fxC, uu, u3, uj, upd, vp_updL])
    | 4, _ => exact .inr (by simp [cl, fxC, uu, u3, uj, upd, vp_updL])
    | 5, _ => exact .inr (by simp [cl, fxC, uu, u3, uj, upd, vp_updL])
    | 6, _ => exact .inr (by simp [cl, fxC, uu, u3, uj, upd, vp_updL])
    | 7, _ => exact .inr (by simp [cl, fxC, uu, u3, uj, upd, vp_updL])
    | 8, _ => exact .inr (by simp [cl, fxC, uu, u3, uj, upd, vp_updL])
    | 9, _ => exact .inr (by simp [cl, fxC, uu, u3, uj, upd, vp_updL])
    | 10, _ => exact .inr (by simp [cl, fxC, uu, u3, uj, upd, vp_updL])
    | 11, _ => exact .inr (by simp [cl, fxC, uu, u3, uj, upd, vp_updL])
    | 12, _ => exact .inr (by simp [cl, fxC, uu, u3, uj, upd, vp_updL])
    | 13, _ => exact .inr (by simp [cl, fxC, uu, u3, uj, upd, vp_updL])
    | 14, _ => exact .inr (by simp [cl, fxC, uu, u3, uj, upd, vp_updL])
    | i' + 15, hi => exact absurd hi (by omega)
  | 4, hl => exact ⟨by simpa [lv, uu, u3, uj, upd, vp_updL] using hl, .inr (by simp [cl, eA, thL, uu, u3, uj, upd, vp_updL])⟩
  | 5, hl => exact ⟨by simpa [lv, uu, u3, uj, upd, vp_updL] using hl, .inr (by simp [cl, eA, thL, uu, u3, uj, upd, vp_updL])⟩
  | 6, hl =>
    refine ⟨by simpa [lv, uu, u3, uj, upd, vp_updL] using hl, ?_⟩
    by_cases e : i' = t
    · exact .inl (by rw [e, hl.2])
    · exact .inr (by simp [cl, eA, thL, uu, u3, uj, upd, vp_updL, e])
  | 7, hl => exact ⟨by simpa [lv, uu, u3, uj, upd, vp_updL] using hl, .inr (by simp [cl, eA, thL, uu, u3, uj, upd, vp_updL])⟩
  | 8, hl => exact ⟨by simpa [lv, uu, u3, uj, upd, vp_updL] using hl, .inr (by simp [cl, eA, thL, uu, u3, uj, upd, vp_updL])⟩
  | 9, hl => exact ⟨by simpa [lv, uu, u3, uj, upd, vp_updL] using hl, .inr (by simp [cl, eA, thL, uu, u3, uj, upd, vp_updL])⟩
  | 10, hl => exact ⟨by simpa [lv, uu, u3, uj, upd, vp_updL] using hl, .inr (by simp [cl, eA, thL, uu, u3, uj, upd, vp_updL])⟩
  | κ' + 11, hl => exact absurd hl (by simp [lv])
theorem wch (R : Mem z h A M I T J rl G N) {t j : Nat} (ht : t < M 2 0) (hj : j < M 4 t) (v : Int32) : ∃ G', pV [2] 2 (.int v) G (A 10 t j) = some G' ∧ Mem z h A M I (u3 T 4 t j v) J rl G' N := by
  refine ⟨_, pV_n (R.c 10 t j ⟨ht, hj⟩) rfl (by simp), R.wr 10 t j ⟨ht, hj⟩ R.b (by simp [cl, u3, upd]) ?_⟩
  intro κ' i' j' hl
  match κ', hl with
  | 0, hl => exact ⟨by simpa [lv, uu, u3, uj, upd, vp_updL] using hl, .inr (by simp [cl, eA, thL, uu, u3, uj, upd, vp_updL])⟩
  | 1, hl => exact ⟨by simpa [lv, uu, u3, uj, upd, vp_updL] using hl, .inr (by simp [cl, eA, thL, uu, u3, uj, upd, vp_updL])⟩
  | 2, hl => exact ⟨by simpa [lv, uu, u3, uj, upd, vp_updL] using hl, .inr (by simp [cl, eA, thL, uu, u3, uj, upd, vp_updL])⟩
  | 3, hl =>
    refine ⟨hl, ?_⟩
    obtain ⟨hi, hj⟩ := hl
    match i', hi with
    | 0, _ => exact .inr (by simp [cl, fxC, uu, u3, uj, upd, vp_updL])
    | 1, _ => exact .inr (by simp [cl, fxC, uu, u3, uj, upd, vp_updL])
    | 2, _ => exact .inr (by simp [cl, fxC, uu, u3, uj, upd, vp_updL])
    | 3, _ => exact .inr (by simp [cl, fxC, uu, u3, uj, upd, vp_updL])
    | 4, _ => exact .inr (by simp [cl, fxC, uu, u3, uj, upd, vp_updL])
    | 5, _ => exact .inr (by simp [cl, fxC, uu, u3, uj, upd, vp_updL])
    | 6, _ => exact .inr (by simp [cl, fxC, uu, u3, uj, upd, vp_updL])
    | 7, _ => exact .inr (by simp [cl, fxC, uu, u3, uj, upd, vp_updL])
    | 8, _ => exact .inr (by simp [cl, fxC, uu, u3, uj, upd, vp_updL])
    | 9, _ => exact .inr (by simp [cl, fxC, uu, u3, uj, upd, vp_updL])
    | 10, _ => exact .inr (by simp [cl, fxC, uu, u3, uj, upd, vp_updL])
    | 11, _ => exact .inr (by simp [cl, fxC, uu, u3, uj, upd, vp_updL])
    | 12, _ => exact .inr (by simp [cl, fxC, uu, u3, uj, upd, vp_updL])
    | 13, _ => exact .inr (by simp [cl, fxC, uu, u3, uj, upd, vp_updL])
    | 14, _ => exact .inr (by simp [cl, fxC, uu, u3, uj, upd, vp_updL])
    | i' + 15, hi => exact absurd hi (by omega)
  | 4, hl => exact ⟨by simpa [lv, uu, u3, uj, upd, vp_updL] using hl, .inr (by simp [cl, eA, thL, uu, u3, uj, upd, vp_updL])⟩
  | 5, hl => exact ⟨by simpa [lv, uu, u3, uj, upd, vp_updL] using hl, .inr (by simp [cl, eA, thL, uu, u3, uj, upd, vp_updL])⟩
  | 6, hl => exact ⟨by simpa [lv, uu, u3, uj, upd, vp_updL] using hl, .inr (by simp [cl, eA, thL, uu, u3, uj, upd, vp_updL])⟩
  | 7, hl => exact ⟨by simpa [lv, uu, u3, uj, upd, vp_updL] using hl, .inr (by simp [cl, eA, thL, uu, u3, uj, upd, vp_updL])⟩
  | 8, hl => exact ⟨by simpa [lv, uu, u3, uj, upd, vp_updL] using hl, .inr (by simp [cl, eA, thL, uu, u3, uj, upd, vp_updL])⟩
  | 9, hl => exact ⟨by simpa [lv, uu, u3, uj, upd, vp_updL] using hl, .inr (by simp [cl, eA, thL, uu, u3, uj, upd, vp_updL])⟩
  | 10, hl =>
    refine ⟨hl, ?_⟩
    by_cases e : i' = t ∧ j' = j
    · exact .inl (by rw [e.1, e.2])
    · refine .inr ?_
      by_cases e2 : i' = t
      · have e3 : j' ≠ j := fun q => e ⟨e2, q⟩
        simp [cl, uu, u3, uj, upd, vp_updL, e2, e3]
      · simp [cl, uu, u3, uj, upd, vp_updL, e2]
  | κ' + 11, hl => exact absurd hl (by simp [lv])
end MW
