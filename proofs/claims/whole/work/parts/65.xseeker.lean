section O10
variable {z : Nat → Nat} {h : Nat} {A : Nat → Nat → Nat → Nat} {M : Nat → Nat → Nat} {I : Nat → Nat → Int32} {T : Nat → Nat → Nat → Int32} {J : Nat → Nat → Int64} {rl : Nat → Nat × Nat × Nat} {G : gM} {N k : Nat} {v : mS}
theorem dy_c (x : Int32) (G : gM) (v : mS) : (fX9_isDay x G = some (0, G) ∧ fX10_isIn x 0 9999 v = some (0, v)) ∨ (fX9_isDay x G = some (1, G) ∧ fX10_isIn x 0 9999 v = some (1, v) ∧ ¬ x < 0 ∧ ¬ 9999 < x) := by
  rcases wc x 0 9999 G v with ⟨e1, e2⟩ | ⟨e1, e2, h1, h2⟩
  · exact .inl ⟨by simp only [fX9_isDay, e1, bI_s, true_or, if_true], e2⟩
  · exact .inr ⟨by simp only [fX9_isDay, e1, bI_s, or_true, if_true], e2, h1, h2⟩
/-- the new seeker's cells -/
def skI (I : Nat → Nat → Int32) (n : Nat) (x : Int32) : Nat → Nat → Int32 := uu (uu (uu (uu I 30 n x) 32 n 1) 33 n 5000) 34 n 0
def skT (T : Nat → Nat → Nat → Int32) (n : Nat) : Nat → Nat → Nat → Int32 := fun a b => if a = 2 ∧ b = n then (fun j => if j < 5 then (-1 : Int32) else (0 : Int32)) else T a b
theorem skI_o {n r : Nat} {x : Int32} (h1 : r ≠ 30) (h2 : r ≠ 32) (h3 : r ≠ 33) (h4 : r ≠ 34) : skI I n x r = I r := by
  unfold skI uu
  rw [if_neg h4, if_neg h3, if_neg h2, if_neg h1]
theorem skI_p {n r i : Nat} {x : Int32} (h : i ≠ n) : skI I n x r i = I r i := by
  unfold skI
  rw [uu_o (.inr h), uu_o (.inr h), uu_o (.inr h), uu_o (.inr h)]
theorem sk_new (R : Mem z h A M I T J rl G N) (x : Int32) (s : Nat) : ∃ G', fX7_init N x (va_up G N (some (.inr (8, [.int 0, .null, .int 0, .int 0, .int 0]))), N + 1, s + 5) = some (G', N + 2, s + 10) ∧ Mem z h (uA (uA A 5 (M 2 1) 0 N) 9 (M 2 1) 0 (N + 1)) (uM M 2 1 (M 2 1 + 1)) (skI I (M 2 1) x) (skT T (M 2 1)) J (fun a => if a < N then rl a else if a = N then (5, M 2 1, 0) else (9, M 2 1, 0)) G' (N + 2) := by
  generalize hn : M 2 1 = n
  have e1 : nwI 5 (va_up G N (some (.inr (8, [.int 0, .null, .int 0, .int 0, .int 0]))), N + 1, s + 5) = some (N + 1, (va_up (va_up G N (some (.inr (8, [.int 0, .null, .int 0, .int 0, .int 0])))) (N + 1) (some (.inl (0, 5, .inl fun _ => 0))), N + 2, s + 10)) := by
    unfold nwI
    rw [if_pos (by decide)]
    rfl
  generalize hX : va_up (va_up G N (some (.inr (8, [.int 0, .null, .int 0, .int 0, .int 0])))) (N + 1) (some (.inl (0, 5, .inl fun _ => 0))) = X at e1
  have x1 : X N = some (.inr (8, [.int 0, .null, .int 0, .int 0, .int 0])) := by rw [← hX, up_n (by omega), up_s]
  have x2 : X (N + 1) = some (.inl (0, 5, .inl fun _ => 0)) := by rw [← hX, up_s]
  have x3 : ∀ a, a < N → X a = G a := fun a ha => by rw [← hX, up_n (by omega), up_n (by omega)]
  have x4 : ∀ a, N + 2 ≤ a → X a = none := fun a ha => by rw [← hX, up_n (by omega), up_n (by omega)]; exact R.1.2.2.2.1 a (by omega)
  have e2 : pV [8] 1 (va_rf (some (N + 1))) X N = some (va_up X N (some (.inr (8, [.int 0, .ref (N + 1), .int 0, .int 0, .int 0])))) := by rw [pV_n x1 rfl (by simp)]; rfl
  have e3 : fJ7_fill_53178 (some (N + 1)) (-1) (va_up X N (some (.inr (8, [.int x, .ref (N + 1), .int 1, .int 5000, .int 0])))) = some (va_up (va_up X N (some (.inr (8, [.int x, .ref (N + 1), .int 1, .int 5000, .int 0])))) (N + 1) (some (.inl (0, 5, .inl fun j => if j < 5 then -1 else 0)))) := fill_n (by decide) (by rw [up_n (by omega)]; exact x2)
  have e4 : gR [8] 1 (va_up X N (some (.inr (8, [.int x, .ref (N + 1), .int 1, .int 5000, .int 0])))) N = some (some (N + 1)) := gR_n up_s rfl rfl
  have e5 : pV [8] 2 (.int 1) (va_up X N (some (.inr (8, [.int 0, .ref (N + 1), .int 0, .int 0, .int 0])))) N = some (va_up X N (some (.inr (8, [.int 0, .ref (N + 1), .int 1, .int 0, .int 0])))) := by rw [pV_u rfl (by simp)]; rfl
  have e6 : pV [8] 3 (.int 5000) (va_up X N (some (.inr (8, [.int 0, .ref (N + 1), .int 1, .int 0, .int 0])))) N = some (va_up X N (some (.inr (8, [.int 0, .ref (N + 1), .int 1, .int 5000, .int 0])))) := by rw [pV_u rfl (by simp)]; rfl
  have e7 : pV [8] 4 (.int 0) (va_up X N (some (.inr (8, [.int 0, .ref (N + 1), .int 1, .int 5000, .int 0])))) N = some (va_up X N (some (.inr (8, [.int 0, .ref (N + 1), .int 1, .int 5000, .int 0])))) := by rw [pV_u rfl (by simp)]; rfl
  have e8 : pV [8] 0 (.int x) (va_up X N (some (.inr (8, [.int 0, .ref (N + 1), .int 1, .int 5000, .int 0])))) N = some (va_up X N (some (.inr (8, [.int x, .ref (N + 1), .int 1, .int 5000, .int 0])))) := by rw [pV_u rfl (by simp)]; rfl
  refine ⟨_, ?_, R.grow (by omega) (G' := va_up (va_up X N (some (.inr (8, [.int x, .ref (N + 1), .int 1, .int 5000, .int 0])))) (N + 1) (some (.inl (0, 5, .inl fun j => if j < 5 then -1 else 0)))) (fun a ha => ?_) (fun a ha => ?_) ?_ ?_ ?_⟩
  · simp only [fX7_init, fX7_init_8, e1, bI_s, e2, wN_s, ob_s, e5, e6, e7, e8, e4, e3]
  · rw [up_n (by omega), up_n (by omega), x3 a ha]
  · rw [up_n (by omega), up_n (by omega), x4 a ha]
  · obtain ⟨y1, y2, y3, y4, y5⟩ := R.b
    refine ⟨by simpa [uM] using y1, by simpa [uM] using y2, ?_, by simpa [uM] using y4, by simpa [uM] using y5⟩
    simp only [uM]
    simp
    omega
  · simp [uA]
  · intro κ' i' j' hl
    match κ', hl with
    | 0, hl => exact .inl ⟨hl, by simp [uA], by simp [cl, uA, skI_o]⟩
    | 1, hl =>
      refine .inl ⟨by simpa [lv, uM] using hl, by simp [uA], ?_⟩
      simp only [cl]
      rw [show uM M 2 1 (n + 1) 1 i' = M 1 i' by simp [uM]]
      congr 7
      funext k
      rw [show uM M 2 1 (n + 1) 0 i' = M 0 i' by simp [uM]]
      by_cases g : k < M 0 i'
      · rw [if_pos g, if_pos g]
        congr 1
        unfold eA
        match i', hl.1 with
        | 0, _ => simp [uA]
        | 1, _ =>
          have : k ≠ n := by have := R.b.2.2.1; omega
          simp [uA, this]
        | 2, _ => simp [uA]
        | 3, _ => simp [uA, uM]
      · rw [if_neg g, if_neg g]
    | 2, hl => exact .inl ⟨hl, by simp [uA], by simp [cl, uA, uM, skI_o]⟩
    | 3, hl =>
      refine .inl ⟨hl, by simp [uA], ?_⟩
      show fxC _ _ _ _ = fxC _ _ _ _
      unfold fxC
      simp [uA, skI_o]
    | 4, hl => exact .inl ⟨by simpa [lv, uM] using hl, by simp [uA], by simp [cl, thL, uA, uM, skI_o]⟩
    | 5, hl =>
      by_cases e : i' = n
      · refine .inr ⟨?_, ?_, ?_⟩
        · simp [uA, e, hl.2]
        · rw [show uA (uA A 5 n 0 N) 9 n 0 (N + 1) 5 i' j' = N by simp [uA, e, hl.2], up_n (by omega), up_s]
          simp [cl, uA, e, skI, uu, upd]
        · rw [show uA (uA A 5 n 0 N) 9 n 0 (N + 1) 5 i' j' = N by simp [uA, e, hl.2], if_pos rfl, e, hl.2]
      · have hl' : i' < M 2 1 ∧ j' = 0 := ⟨by have := hl.1; simp [uM] at this; omega, hl.2⟩
        refine .inl ⟨hl', by simp [uA, e], ?_⟩
        simp only [cl]
        rw [skI_p e, skI_p e, skI_p e, skI_p e]
        simp [uA, e]
    | 6, hl => exact .inl ⟨by simpa [lv, uM] using hl, by simp [uA], by simp [cl, skI_o]⟩
    | 7, hl => exact .inl ⟨by simpa [lv, uM] using hl, by simp [uA], by simp [cl, skT]⟩
    | 8, hl => exact .inl ⟨by simpa [lv, uM, skI_o] using hl, by simp [uA], by simp [cl, skT]⟩
    | 9, hl =>
      by_cases e : i' = n
      · refine .inr ⟨?_, ?_, ?_⟩
        · simp [uA, e, hl.2]
        · rw [show uA (uA A 5 n 0 N) 9 n 0 (N + 1) 9 i' j' = N + 1 by simp [uA, e, hl.2], up_s]
          simp [cl, e, skT]
        · rw [show uA (uA A 5 n 0 N) 9 n 0 (N + 1) 9 i' j' = N + 1 by simp [uA, e, hl.2], if_neg (by omega), e, hl.2]
      · have hl' : i' < M 2 1 ∧ j' = 0 := ⟨by have := hl.1; simp [uM] at this; omega, hl.2⟩
        refine .inl ⟨hl', by simp [uA, e], by simp [cl, skT, e]⟩
    | 10, hl => exact .inl ⟨by simpa [lv, uM] using hl, by simp [uA], by simp [cl, uA, skT]⟩
    | κ' + 11, hl => exact absurd hl (by simp [lv])
theorem nI8 {n m : Nat} (hn : n ≤ 100) (hm : m ≤ 100) : (nI n = nI m) = (n = m) := propext (nI_eq (by omega) (by omega))
theorem op_seeker (R : Mem z h A M I T J rl G N) (E : tie k M I T v) {s0 : Nat} (y1 : Int32) : OkN z h k N s0 (fX9_seeker z h y1 (G, N, s0)) (fX10_seeker y1 v) := by
  obtain ⟨⟨⟨n1, n2, n3, n4, n5, n6, n7⟩, ⟨n8, n8', n8''⟩, ⟨n9, n9', n9''⟩, n10, n11, n12⟩, ⟨r1, r2, r3, r4, r5, r6⟩, h3, h4, h5, h6, h7, n', h8, h9, h10', h11'⟩ := id E
  rcases dy_c y1 G v with ⟨e1, e2⟩ | ⟨e1, e2, h1, h2⟩
  · simp only [fX9_seeker, fX10_seeker, R.o10, ob_s, bI_s, pU_s, if_true, if_false, i10, reduceCtorEq, cN_s, wN_s, e1, e2]
    exact fdn R E 1 (by decide) rfl
  · by_cases q1 : M 0 1 = 8
    · have c1 : ¬ nI (M 0 1) < (8 : Int32) := by rw [q1]; decide
      have c2 : nI (M 0 1) = (8 : Int32) := by rw [q1]; rfl
      simp only [fX9_seeker, fX10_seeker, R.o10, ob_s, bI_s, pU_s, if_true, if_false, i10, reduceCtorEq, cN_s, wN_s, e1, e2, R.f1, R.lo (show 1 < 4 by decide), sz_n R (show 1 < 4 by decide), if_neg c1, n4, if_pos c2]
      exact fdn R E 4 (by decide) rfl
    · have c1 : nI (M 0 1) < (8 : Int32) := nI_lt (b := 8) (by omega) (by decide)
      have c2 : ¬ nI (M 0 1) = (8 : Int32) := fun g => q1 ((nI_eq (b := 8) (by omega) (by decide)).mp g)
      obtain ⟨G1, f1, R1⟩ := sk_new R y1 s0
      have f2 : nwO 8 [.int 0, .null, .int 0, .int 0, .int 0] ((G, N, s0) : gN) = some (N, (va_up G N (some (.inr (8, [.int 0, .null, .int 0, .int 0, .int 0]))), N + 1, s0 + 5)) := rfl
      have m01 : uM M 2 1 (M 2 1 + 1) 0 1 = M 0 1 := by simp [uM]
      have m21 : uM M 2 1 (M 2 1 + 1) 2 1 = M 2 1 + 1 := by simp [uM]
      obtain ⟨A2, M2, rl2, G2, N2, s2, f3, ⟨f4, f5⟩, R2, f6, f7⟩ := add_n R1 (q := 1) (by decide) (by omega) 0 (fun g => absurd g (by decide)) (fun _ => by rw [m01, m21]; omega) (fun g => absurd g (by decide)) (fun g => absurd g (by decide)) (s0 + 10) rfl
      rw [m01] at f7
      have f8 : uA (uA A 5 (M 2 1) 0 N) 9 (M 2 1) 0 (N + 1) 2 1 0 = A 2 1 0 := by simp [uA]
      have f9 : eA (uA (uA A 5 (M 2 1) 0 N) 9 (M 2 1) 0 (N + 1)) (uL (uM M 2 1 (M 2 1 + 1)) 1 (uM M 2 1 (M 2 1 + 1) 0 1) 0) 1 (uM M 2 1 (M 2 1 + 1) 0 1) = N := by
        rw [m01]
        simp [eA, uA, n8']
      rw [f8, f9] at f3
      have f10 : gO [0] G1 (A 2 1 0) = some (0, _) := f8 ▸ R1.lo (show 1 < 4 by decide)
      have k00 : M2 0 0 = M 0 0 := by rw [f7 0 0 (by decide)]; simp [uL, uM]
      have k01 : M2 0 1 = M 0 1 + 1 := by rw [f7 0 1 (by decide)]; simp [uL]
      have k02 : M2 0 2 = M 0 2 := by rw [f7 0 2 (by decide)]; simp [uL, uM]
      have k20 : M2 2 0 = M 2 0 := by rw [f7 2 0 (by decide)]; simp [uL, uM]
      have k21 : M2 2 1 = M 2 1 + 1 := by rw [f7 2 1 (by decide)]; simp [uL, uM]
      have k22 : M2 2 2 = M 2 2 := by rw [f7 2 2 (by decide)]; simp [uL, uM]
      have k4 : ∀ t, M2 4 t = M 4 t := fun t => by rw [f7 4 t (by decide)]; simp [uL, uM]
      have lp := itN_loop (fun f i (a : mS) => fX10_seeker_66 f i a) 5 (fun i a => mA a 19 (5 * M 0 1 + i) (-1)) (fun a => some (nI (M 0 1), mF a 17 (nI (M 0 1) + 1))) (fun _ a => a.1 17 = nI (M 0 1)) (fun f i a hi hP => by
          have : ¬ (5 : Int32) ≤ nI i := nI_ge (b := 5) hi (by decide)
          simp only [fX10_seeker_66, fX10_seeker_66_b, if_neg this, hP, i5, mUn (show 5 * M 0 1 + i < 40 by omega) (by decide), ob_s, nI_1]) (fun i a hi hP => hP) (fun f a hP => by
          have : (5 : Int32) ≤ nI 5 := by decide
          simp only [fX10_seeker_66, fX10_seeker_66_b, if_pos this, hP, pU_s]
          have : (mF a 17 (nI (M 0 1) + 1)).1 17 = nI (M 0 1) + 1 := rfl
          rw [this, nI_1, nI_pred]) (a := mA (mA (mA v 18 (M 0 1) y1) 20 (M 0 1) 1) 21 (M 0 1) 5000) n4 (f := FU) (fuel (by decide))
      obtain ⟨lp0, -⟩ := lp
      have lp : fX10_seeker_66 FU 0 (mA (mA (mA v 18 (M 0 1) y1) 20 (M 0 1) 1) 21 (M 0 1) 5000) = some (nI (M 0 1), mF (itN (fun i a => mA a 19 (5 * M 0 1 + i) (-1)) 5 (mA (mA (mA v 18 (M 0 1) y1) 20 (M 0 1) 1) 21 (M 0 1) 5000)) 17 (nI (M 0 1) + 1)) := lp0
      have u1 : (mA v 18 (M 0 1) y1).1 17 = nI (M 0 1) := n4
      have u2 : (mA (mA v 18 (M 0 1) y1) 20 (M 0 1) 1).1 17 = nI (M 0 1) := n4
      have hb8 : M 0 1 < 8 := by omega
      have z2 : nI (M2 0 1) - 1 = nI (M 0 1) := by rw [k01, nI_pred]
      have hm : fX10_seeker y1 v = some (nI (M 0 1), mF (itN (fun i a => mA a 19 (5 * M 0 1 + i) (-1)) 5 (mA (mA (mA v 18 (M 0 1) y1) 20 (M 0 1) 1) 21 (M 0 1) 5000)) 17 (nI (M 0 1) + 1)) := by
        unfold fX10_seeker
        rw [e2, bI_s, if_neg (show ¬ (1 : Int32) = 0 by decide), n4, if_neg c2, mUn hb8 (show 8 < 2 ^ 31 by decide), ob_s, u1, mUn hb8 (show 8 < 2 ^ 31 by decide), ob_s, u2, mUn hb8 (show 8 < 2 ^ 31 by decide), ob_s]
        exact lp
      have hc : fX9_seeker z h y1 (G, N, s0) = some (nI (M 0 1), (G2, N2, s2)) := by
        simp only [fX9_seeker, fX9_seeker_38, fX9_seeker_43, fX9_seeker_46, R.o10, ob_s, bI_s, pU_s, if_true, if_false, i10, reduceCtorEq, cN_s, wN_s, e1, R.f1, R.lo (show 1 < 4 by decide), sz_n R (show 1 < 4 by decide), if_pos c1, f2, f1, f10, f3, R2.f1, R2.lo (show 1 < 4 by decide), sz_n R2 (show 1 < 4 by decide), z2]
      rw [hm, hc]
      refine okn_w R2 ?_ (by omega) (by omega) _
      have hv : ∀ r, r ≠ 18 → r ≠ 19 → r ≠ 20 → r ≠ 21 → (mF (itN (fun i a => mA a 19 (5 * M 0 1 + i) (-1)) 5 (mA (mA (mA v 18 (M 0 1) y1) 20 (M 0 1) 1) 21 (M 0 1) 5000)) 17 (nI (M 0 1) + 1)).2.1 r = v.2.1 r := fun r q1 q2 q3 q4 => by
        simp only [itN, mF, mA, if_neg q1, if_neg q2, if_neg q3, if_neg q4]
      have hv1 : ∀ r, r ≠ 17 → (mF (itN (fun i a => mA a 19 (5 * M 0 1 + i) (-1)) 5 (mA (mA (mA v 18 (M 0 1) y1) 20 (M 0 1) 1) 21 (M 0 1) 5000)) 17 (nI (M 0 1) + 1)).1 r = v.1 r := fun r q1 => by
        simp only [itN, mF, mA, if_neg q1]
      have h18 : (mF (itN (fun i a => mA a 19 (5 * M 0 1 + i) (-1)) 5 (mA (mA (mA v 18 (M 0 1) y1) 20 (M 0 1) 1) 21 (M 0 1) 5000)) 17 (nI (M 0 1) + 1)).2.1 18 = upd (v.2.1 18) (M 0 1) y1 := rfl
      have h20 : (mF (itN (fun i a => mA a 19 (5 * M 0 1 + i) (-1)) 5 (mA (mA (mA v 18 (M 0 1) y1) 20 (M 0 1) 1) 21 (M 0 1) 5000)) 17 (nI (M 0 1) + 1)).2.1 20 = upd (v.2.1 20) (M 0 1) 1 := rfl
      have h21 : (mF (itN (fun i a => mA a 19 (5 * M 0 1 + i) (-1)) 5 (mA (mA (mA v 18 (M 0 1) y1) 20 (M 0 1) 1) 21 (M 0 1) 5000)) 17 (nI (M 0 1) + 1)).2.1 21 = upd (v.2.1 21) (M 0 1) 5000 := rfl
      have h19 : (mF (itN (fun i a => mA a 19 (5 * M 0 1 + i) (-1)) 5 (mA (mA (mA v 18 (M 0 1) y1) 20 (M 0 1) 1) 21 (M 0 1) 5000)) 17 (nI (M 0 1) + 1)).2.1 19 = upd (upd (upd (upd (upd (v.2.1 19) (5 * M 0 1 + 0) (-1)) (5 * M 0 1 + 1) (-1)) (5 * M 0 1 + 2) (-1)) (5 * M 0 1 + 3) (-1)) (5 * M 0 1 + 4) (-1) := rfl
      have h17 : (mF (itN (fun i a => mA a 19 (5 * M 0 1 + i) (-1)) 5 (mA (mA (mA v 18 (M 0 1) y1) 20 (M 0 1) 1) 21 (M 0 1) 5000)) 17 (nI (M 0 1) + 1)).1 17 = nI (M 0 1) + 1 := rfl
      generalize mF (itN (fun i a => mA a 19 (5 * M 0 1 + i) (-1)) 5 (mA (mA (mA v 18 (M 0 1) y1) 20 (M 0 1) 1) 21 (M 0 1) 5000)) 17 (nI (M 0 1) + 1) = v' at *
      have hI : ∀ r, r ≠ 2 → r ≠ 30 → r ≠ 32 → r ≠ 33 → r ≠ 34 → uu (skI I (M 2 1) y1) 2 1 (skI I (M 2 1) y1 2 1 + 1) r = I r := fun r q1 q2 q3 q4 q5 => by
        rw [show uu (skI I (M 2 1) y1) 2 1 (skI I (M 2 1) y1 2 1 + 1) r = skI I (M 2 1) y1 r by simp [uu, q1], skI_o q2 q3 q4 q5]
      have hI2 : ∀ r, r ≠ 2 → uu (skI I (M 2 1) y1) 2 1 (skI I (M 2 1) y1 2 1 + 1) r = skI I (M 2 1) y1 r := fun r q1 => by simp [uu, q1]
      generalize uu (skI I (M 2 1) y1) 2 1 (skI I (M 2 1) y1 2 1 + 1) = I' at *
      have hT : ∀ r, r ≠ 2 → skT T (M 2 1) r = T r := fun r q => by funext b; simp [skT, q]
      refine ⟨⟨⟨?_, ?_, ?_, ?_, ?_, ?_, ?_⟩, ⟨?_, ?_, ?_⟩, ⟨?_, ?_, ?_⟩, ?_, ?_, ?_⟩, ⟨?_, ?_, ?_, ?_, ?_, ?_⟩, fun t' ht' => ?_, ?_, fun s hs => ?_, fun a ha => ?_, ?_, n', ?_, ?_, fun t' ht' => ⟨?_, fun d => ?_⟩, fun t' ht' ht2 d => ?_⟩
      · rw [hv1 0 (by decide), hI 0 (by decide) (by decide) (by decide) (by decide) (by decide)]; exact n1
      · rw [hv1 1 (by decide), hI 0 (by decide) (by decide) (by decide) (by decide) (by decide)]; exact n2
      · rw [hv1 2 (by decide), k00]; exact n3
      · rw [h17, k01, nI_1]
      · rw [hv1 25 (by decide), k02]; exact n5
      · rw [hv1 32 (by decide), hI 0 (by decide) (by decide) (by decide) (by decide) (by decide)]; exact n6
      · rw [hv1 34 (by decide), hI 0 (by decide) (by decide) (by decide) (by decide) (by decide)]; exact n7
      · rw [k20, k00]; exact n8
      · rw [k21, k01, n8']
      · rw [k22, k02]; exact n8''
      · rw [k00]; exact n9
      · rw [k01]; omega
      · rw [k02]; exact n9''
      · rw [hI 0 (by decide) (by decide) (by decide) (by decide) (by decide)]; exact n10
      · rw [hI 0 (by decide) (by decide) (by decide) (by decide) (by decide)]; exact n11
      · rw [hI 0 (by decide) (by decide) (by decide) (by decide) (by decide)]; exact n12
      · rw [hv 24 (by decide) (by decide) (by decide) (by decide), hI 50 (by decide) (by decide) (by decide) (by decide) (by decide)]; exact r1
      · rw [hv 28 (by decide) (by decide) (by decide) (by decide), hI 51 (by decide) (by decide) (by decide) (by decide) (by decide)]; exact r2
      · rw [hv 35 (by decide) (by decide) (by decide) (by decide), hI 52 (by decide) (by decide) (by decide) (by decide) (by decide)]; exact r3
      · rw [hv 33 (by decide) (by decide) (by decide) (by decide), hI 53 (by decide) (by decide) (by decide) (by decide) (by decide)]; exact r4
      · rw [hI 50 (by decide) (by decide) (by decide) (by decide) (by decide)]; exact r5
      · rw [hI 51 (by decide) (by decide) (by decide) (by decide) (by decide)]; exact r6
      · rw [k00] at ht'
        have hE := h3 t' ht'
        unfold t1 at hE ⊢
        rw [hT 0 (by decide), hT 1 (by decide)]
        simp only [hv 3, hv 4, hv 5, hv 6, hv 7, hv 8, hv 9, hv 10, hv 11, hv 12, hv 13, hv 14, hI 10, hI 11, hI 12, hI 13, hI 14, hI 16, hI 17, hI 18, hI 19, hI 20, ne_eq, Nat.reduceEqDiff, not_false_eq_true]
        exact hE
      · refine ⟨fun j hj => ?_, fun s hs => ?_⟩
        · rw [hv 5 (by decide) (by decide) (by decide) (by decide)]
          exact h4.1 j (by rw [k00] at hj; exact hj)
        · rw [hv 22 (by decide) (by decide) (by decide) (by decide), hv 23 (by decide) (by decide) (by decide) (by decide)]
          exact h4.2 s (by rw [k01] at hs; omega)
      · rw [k01] at hs
        unfold s1
        rw [h18, h19, h20, h21, hv 22 (by decide) (by decide) (by decide) (by decide), hv 23 (by decide) (by decide) (by decide) (by decide), hI2 30 (by decide), hI2 32 (by decide), hI2 33 (by decide), hI2 34 (by decide)]
        by_cases e : s = M 0 1
        · have i30 : skI I (M 2 1) y1 30 (M 0 1) = y1 := by rw [n8']; simp [skI, uu, upd]
          have i32 : skI I (M 2 1) y1 32 (M 0 1) = 1 := by rw [n8']; simp [skI, uu, upd]
          have i33 : skI I (M 2 1) y1 33 (M 0 1) = 5000 := by rw [n8']; simp [skI, uu, upd]
          have i34 : skI I (M 2 1) y1 34 (M 0 1) = 0 := by rw [n8']; simp [skI, uu, upd]
          obtain ⟨w1, w2⟩ := h4.2 (M 0 1) (Nat.le_refl _)
          rw [e, i30, i32, i33, i34, pk_us, pk_us, pk_us, w1, w2]
          refine ⟨⟨rfl, rfl, rfl, rfl, by decide⟩, fun j hj => ?_, rg_n (by decide) ⟨h1, h2⟩, ⟨1, by decide, rfl⟩, ⟨5000, by decide, rfl⟩, ⟨0, by decide, rfl⟩⟩
          have e2 : skT T (M 2 1) 2 (M 0 1) j = -1 := by rw [n8']; simp [skT, hj]
          rw [e2]
          refine ⟨?_, .inl rfl⟩
          match j, hj with
          | 0, _ => rw [pk_un (by omega), pk_un (by omega), pk_un (by omega), pk_un (by omega), pk_us]
          | 1, _ => rw [pk_un (by omega), pk_un (by omega), pk_un (by omega), pk_us]
          | 2, _ => rw [pk_un (by omega), pk_un (by omega), pk_us]
          | 3, _ => rw [pk_un (by omega), pk_us]
          | 4, _ => rw [pk_us]
        · have hE := h5 s (by omega)
          unfold s1 at hE
          have e3 : s ≠ M 2 1 := by rw [n8']; exact e
          have e4 : skT T (M 2 1) 2 s = T 2 s := by simp [skT, e3]
          rw [skI_p e3, skI_p e3, skI_p e3, skI_p e3, e4, pk_un e, pk_un e, pk_un e]
          obtain ⟨w1, w2, w3⟩ := hE
          refine ⟨w1, fun j hj => ?_, w3⟩
          rw [pk_un (by omega), pk_un (by omega), pk_un (by omega), pk_un (by omega), pk_un (by omega)]
          exact w2 j hj
      · rw [k02] at ha
        have hE := h6 a ha
        unfold a1 at hE ⊢
        rw [hv 26 (by decide) (by decide) (by decide) (by decide), hv 27 (by decide) (by decide) (by decide) (by decide), hI 40 (by decide) (by decide) (by decide) (by decide) (by decide), hI 41 (by decide) (by decide) (by decide) (by decide) (by decide), hI 42 (by decide) (by decide) (by decide) (by decide) (by decide)]
        exact hE
      · unfold tC cT cM cX at h7 ⊢
        rw [hv1 29 (by decide), hv 30 (by decide) (by decide) (by decide) (by decide), hv 31 (by decide) (by decide) (by decide) (by decide), hI 1 (by decide) (by decide) (by decide) (by decide) (by decide), hI 57 (by decide) (by decide) (by decide) (by decide) (by decide), hI 58 (by decide) (by decide) (by decide) (by decide) (by decide)]
        exact h7
      · rw [hv1 16 (by decide)]; exact h8
      · rw [k00]
        have : nf I' (M 0 0) = nf I (M 0 0) := itN_cg (fun t _ a => by rw [hI 16 (by decide) (by decide) (by decide) (by decide) (by decide)]) 0
        omega
      · rw [k00] at ht'
        rw [k4]; exact (h10' t' ht').1
      · rw [k00] at ht'
        rw [k4]
        have := (h10' t' ht').2 d
        have e1 : kn v' t' d n' = kn v t' d n' := itN_cg (fun r _ a => by rw [hv 15 (by decide) (by decide) (by decide) (by decide)]) (-1)
        rw [e1, this]
        exact (sb_cg (fun j _ => by rw [hT 3 (by decide), hT 4 (by decide)]; exact ⟨rfl, rfl⟩) d).symm
      · rw [k00] at ht'
        have e1 : kn v' t' d n' = kn v t' d n' := itN_cg (fun r _ a => by rw [hv 15 (by decide) (by decide) (by decide) (by decide)]) (-1)
        rw [e1]
        exact h11' t' ht' ht2 d
end O10
