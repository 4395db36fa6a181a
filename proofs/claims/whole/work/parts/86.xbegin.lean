/-! the first memory, and the first rows -/
def bA (N : Nat) (κ i _j : Nat) : Nat := match κ with
  | 2 => N + (if i = 3 then 8 else i + 1)
  | 3 => N + (([4, 5, 6, 7, 9, 10, 11, 12, 13, 14, 15, 16, 17, 18, 19] : List Nat).getD i 0)
  | _ => N + 0
def bI0 (κ i : Nat) : Int32 := match κ with
  | 0 => if i = 14 then 3 else 0
  | 50 => if i < 5 then 4 else 0
  | 51 => if i < 4 then 12 else 0
  | _ => 0
def bR (N a : Nat) : Nat × Nat × Nat := ([(0, 0, 0), (2, 0, 0), (2, 1, 0), (2, 2, 0), (3, 0, 0), (3, 1, 0), (3, 2, 0), (3, 3, 0), (2, 3, 0), (3, 4, 0), (3, 5, 0), (3, 6, 0), (3, 7, 0), (3, 8, 0), (3, 9, 0), (3, 10, 0), (3, 11, 0), (3, 12, 0), (3, 13, 0), (3, 14, 0)] : List (Nat × Nat × Nat)).getD (a - N) (0, 0, 0)
theorem bR_n {N i : Nat} : bR N (N + i) = ([(0, 0, 0), (2, 0, 0), (2, 1, 0), (2, 2, 0), (3, 0, 0), (3, 1, 0), (3, 2, 0), (3, 3, 0), (2, 3, 0), (3, 4, 0), (3, 5, 0), (3, 6, 0), (3, 7, 0), (3, 8, 0), (3, 9, 0), (3, 10, 0), (3, 11, 0), (3, 12, 0), (3, 13, 0), (3, 14, 0)] : List (Nat × Nat × Nat)).getD i (0, 0, 0) := by
  unfold bR
  rw [Nat.add_sub_cancel_left]
theorem bz : zf (fun _ => 0) = fun _ => 0 := by
  funext j
  simp [zf]
theorem b_c {z : Nat → Nat} {N i : Nat} {e : gE} {κ a b : Nat} (h1 : (lfC z N)[i]? = some e) (h2 : e = cl z (bA N) (fun _ _ => 0) bI0 (fun _ _ _ => 0) (fun _ _ => 0) κ a b) (h3 : bA N κ a b = N + i) (h4 : bR N (N + i) = (κ, a, b)) : gL (fun _ => none) N (lfC z N) (bA N κ a b) = some (cl z (bA N) (fun _ _ => 0) bI0 (fun _ _ _ => 0) (fun _ _ => 0) κ a b) ∧ bR N (bA N κ a b) = (κ, a, b) := by
  rw [h3, gL_at, h1, h2]
  exact ⟨rfl, h4⟩
set_option maxRecDepth 20000 in
theorem b_mem {z : Nat → Nat} {N : Nat} (hz : z 0 < N) : Mem z (N + 0) (bA N) (fun _ _ => 0) bI0 (fun _ _ _ => 0) (fun _ _ => 0) (bR N) (gL (fun _ => none) N (lfC z N)) (N + 20) := by
  refine ⟨⟨rfl, by omega, gL_lo hz, fun a ha => gL_hi ha, ⟨fun q _ => ⟨Nat.le_refl _, Nat.zero_le _⟩, Nat.le_refl _, Nat.le_refl _, Nat.le_refl _, fun k hk => absurd hk (Nat.not_lt_zero _)⟩⟩, fun κ i j hl => ?_⟩
  match κ, hl with
  | 0, hl => obtain ⟨rfl, rfl⟩ := hl; exact b_c (i := 0) rfl rfl rfl bR_n
  | 1, hl => exact absurd hl.2.2 (Nat.not_lt_zero _)
  | 2, hl =>
    obtain ⟨h1, rfl⟩ := hl
    match i, h1 with
    | 0, _ => exact b_c (i := 1) rfl rfl rfl bR_n
    | 1, _ => exact b_c (i := 2) rfl rfl rfl bR_n
    | 2, _ => exact b_c (i := 3) rfl rfl rfl bR_n
    | 3, _ => exact b_c (i := 8) rfl rfl rfl bR_n
    | n + 4, h => exact absurd h (by omega)
  | 3, hl =>
    obtain ⟨h1, rfl⟩ := hl
    match i, h1 with
    | 0, _ => exact b_c (i := 4) rfl rfl rfl bR_n
    | 1, _ => exact b_c (i := 5) rfl rfl rfl bR_n
    | 2, _ => exact b_c (i := 6) rfl rfl rfl bR_n
    | 3, _ => exact b_c (i := 7) rfl rfl rfl bR_n
    | 4, _ => exact b_c (i := 9) rfl rfl rfl bR_n
    | 5, _ => exact b_c (i := 10) rfl rfl rfl bR_n
    | 6, _ => exact b_c (i := 11) rfl rfl rfl bR_n
    | 7, _ => exact b_c (i := 12) rfl rfl rfl bR_n
    | 8, _ => exact b_c (i := 13) rfl (congrArg (fun f => (.inl (0, 1024, .inl f) : gE)) bz.symm) rfl bR_n
    | 9, _ => exact b_c (i := 14) rfl (congrArg (fun f => (.inl (0, 1024, .inl f) : gE)) bz.symm) rfl bR_n
    | 10, _ => exact b_c (i := 15) rfl rfl rfl bR_n
    | 11, _ => exact b_c (i := 16) rfl rfl rfl bR_n
    | 12, _ => exact b_c (i := 17) rfl rfl rfl bR_n
    | 13, _ => exact b_c (i := 18) rfl rfl rfl bR_n
    | 14, _ => exact b_c (i := 19) rfl rfl rfl bR_n
    | n + 15, h => exact absurd h (by omega)
  | 4, hl => exact absurd hl.1 (Nat.not_lt_zero _)
  | 5, hl => exact absurd hl.1 (Nat.not_lt_zero _)
  | 6, hl => exact absurd hl.1 (Nat.not_lt_zero _)
  | 7, hl => exact absurd hl.1 (Nat.not_lt_zero _)
  | 8, hl => exact absurd hl.1 (Nat.not_lt_zero _)
  | 9, hl => exact absurd hl.1 (Nat.not_lt_zero _)
  | 10, hl => exact absurd hl.1 (Nat.not_lt_zero _)
  | n + 11, hl => exact absurd hl (fun h => h)
/-- the reference's first rows -/
def bV : mS := (fun k => if k = 1 then 3 else 0, fun k => if k = 24 then upd (upd (upd (upd (upd (fun _ => 0) 0 4) 1 4) 2 4) 3 4) 4 4 else if k = 28 then upd (upd (upd (upd (fun _ => 0) 0 12) 1 12) 2 12) 3 12 else fun _ => 0, fun _ => 0)
theorem b_4 : upd (upd (upd (upd (upd (fun _ => 0) 0 4) 1 4) 2 4) 3 4) 4 4 = bI0 50 := by
  funext j
  match j with
  | 0 => rfl
  | 1 => rfl
  | 2 => rfl
  | 3 => rfl
  | 4 => rfl
  | n + 5 => simp [upd, bI0]
theorem b_12 : upd (upd (upd (upd (fun _ => 0) 0 12) 1 12) 2 12) 3 12 = bI0 51 := by
  funext j
  match j with
  | 0 => rfl
  | 1 => rfl
  | 2 => rfl
  | 3 => rfl
  | n + 4 => simp [upd, bI0]
theorem b_tie : tie 0 (fun _ _ => 0) bI0 (fun _ _ _ => 0) bV := by
  refine ⟨⟨⟨rfl, rfl, rfl, rfl, rfl, rfl, rfl⟩, ⟨rfl, rfl, rfl⟩, ⟨Nat.zero_le _, Nat.zero_le _, Nat.zero_le _⟩, ⟨0, Nat.zero_le _, rfl⟩, ⟨0, Nat.zero_le _, rfl⟩, ⟨3, by decide, rfl⟩⟩, ⟨b_4, b_12, rfl, rfl, fun j hj => ⟨4, by decide, if_pos hj⟩, fun j hj => ⟨12, by decide, if_pos hj⟩⟩, fun t ht => absurd ht (Nat.not_lt_zero _), ⟨fun j _ => rfl, fun s _ => ⟨rfl, rfl⟩⟩, fun t ht => absurd ht (Nat.not_lt_zero _), fun t ht => absurd ht (Nat.not_lt_zero _), ⟨0, Nat.zero_le _, rfl, rfl, rfl, fun m _ => ⟨rfl, rfl⟩, fun r hr => absurd hr (Nat.not_lt_zero _)⟩, ⟨0, rfl, Nat.le_refl _, fun t ht => absurd ht (Nat.not_lt_zero _), fun t _ _ d => rfl⟩⟩
theorem b_inv {z : Nat → Nat} {N : Nat} (hz : z 0 < N) : Inv z (N + 0) 0 bV (gL (fun _ => none) N (lfC z N)) (N + 20) := ⟨_, _, _, _, _, _, b_mem hz, b_tie⟩
/-- the reference's addresses -/
def bD (N k : Nat) : Nat := N + (([3, 4, 5, 6, 7, 8, 9, 10, 11, 12, 13, 14, 15, 18, 19, 20, 21, 22, 23, 24, 26, 27, 28, 30, 31, 33, 35, 36, 37, 38, 39, 40, 42, 43, 44] : List Nat).idxOf k + 1)
theorem b_ad {N : Nat} : mAd (N + 0) (bD N) = (List.range 36).map (N + ·) := rfl
theorem b_in {N q : Nat} : q ∈ mAd (N + 0) (bD N) ↔ N ≤ q ∧ q < N + 36 := by
  rw [b_ad, List.mem_map]
  constructor
  · rintro ⟨a, ha, rfl⟩
    have := List.mem_range.mp ha
    omega
  · rintro ⟨h1, h2⟩
    exact ⟨q - N, List.mem_range.mpr (by omega), by omega⟩
theorem b_nd {N : Nat} : (mAd (N + 0) (bD N)).Nodup := by
  rw [b_ad]
  refine List.Pairwise.map _ (fun a b h => ?_) List.nodup_range
  omega
theorem b_W {ac : Nat → ClassId} {N : Nat} : mW (ac 0) (ac 3) (ac 1) (N + 0) (bD N) bV = (List.range 36).map (fun i => (N + i, gx ac ((lfM N).getD i (.inr (0, []))))) := rfl
theorem b_P {G0 : gM} {Γ : gEnv} {N n : Nat} {H : Heap} (h : gAg Γ (gL G0 N (lfM N)) n H) : lE Γ (N + 0) (bD N) bV H := by
  intro k q hk
  rw [b_W, List.getElem?_map] at hk
  rcases Nat.lt_or_ge k 36 with h1 | h1
  · rw [List.getElem?_range h1] at hk
    have e := Option.some.inj hk
    subst e
    refine (h.2 (N + k) _ ?_).1
    rw [gL_at, List.getD_eq_getElem?_getD, List.getElem?_eq_getElem (show k < (lfM N).length from h1)]
    rfl
  · rw [List.getElem?_eq_none (by simpa using h1)] at hk
    cases hk
