section O4
variable {z : Nat → Nat} {h : Nat} {A : Nat → Nat → Nat → Nat} {M : Nat → Nat → Nat} {I : Nat → Nat → Int32} {T : Nat → Nat → Nat → Int32} {J : Nat → Nat → Int64} {rl : Nat → Nat × Nat × Nat} {G : gM} {N k : Nat} {v : mS}
theorem fuel {n : Nat} (h : n ≤ 60) : n < FU := by show n < 1000000; omega
/-- things in a state, things a seeker holds -/
def cS (I : Nat → Nat → Int32) (r : Nat) (x : Int32) (n : Nat) : Int32 := itN (fun t a => if I r t = x then a + 1 else a) n 0
theorem cS_c (R : Mem z h A M I T J rl G N) (x : Int32) : fX9_thingsThatAre h x G = some (cS I 16 x (M 0 0), G) := by
  have hb := R.b.1 0 (by decide)
  refine itN_loop0 (fun f i a => fX9_thingsThatAre_4 f h x a i G) (M 0 0) (fun t a => if I 16 t = x then a + 1 else a) (fun a => some (a, G)) (fun f i a hi => ?_) (fun f a => ?_) (fuel (by omega))
  · have hi2 : i < M 2 0 := by have := R.b.2.1; omega
    by_cases q : I 16 i = x
    · simp only [fX9_thingsThatAre_4, fX9_thingsThatAre_4_b, fX9_thingsThatAre_36, R.f0, R.lo (show 0 < 4 by decide), sz_n R (show 0 < 4 by decide), R.o10, ob_s, bI_s, pU_s, if_true, if_false, i10, reduceCtorEq, if_neg (nI_ge hi (show M 0 0 < 2 ^ 31 by omega)), get_n R (show 0 < 4 by decide) hi, eA, R.tk hi2, R.t6 hi2, if_pos q, nI_1]
    · simp only [fX9_thingsThatAre_4, fX9_thingsThatAre_4_b, fX9_thingsThatAre_36, R.f0, R.lo (show 0 < 4 by decide), sz_n R (show 0 < 4 by decide), R.o10, ob_s, bI_s, pU_s, if_true, if_false, i10, reduceCtorEq, if_neg (nI_ge hi (show M 0 0 < 2 ^ 31 by omega)), get_n R (show 0 < 4 by decide) hi, eA, R.tk hi2, R.t6 hi2, if_neg q, nI_1]
  · simp only [fX9_thingsThatAre_4, fX9_thingsThatAre_4_b, R.f0, R.lo (show 0 < 4 by decide), sz_n R (show 0 < 4 by decide), R.o10, ob_s, bI_s, pU_s, if_true, if_false, i10, reduceCtorEq, if_pos (Int32.le_refl _)]
theorem cS_m (E : tie k M I T v) (x : Int32) : fX10_count_67 FU x 0 0 v = some (cS I 16 (x - 1) (M 0 0), v) := by
  have hb := E.b0
  refine itN_loop0 (fun f i a => fX10_count_67 f x a i v) (M 0 0) (fun t a => if I 16 t = x - 1 then a + 1 else a) (fun a => some (a, v)) (fun f i a hi => ?_) (fun f a => ?_) (fuel (by omega))
  · have c : ¬ v.1 2 ≤ nI i := by rw [E.1.1.2.2.1]; exact nI_ge hi (by omega)
    obtain ⟨⟨g3, g4, g6, g7, g8, g9, g10⟩, -⟩ := E.Th hi
    by_cases q : I 16 i = x - 1
    · simp only [fX10_count_67, fX10_count_67_b, fX10_count_93, ob_s, if_neg c, mRn (show i < 20 by omega) (by decide), g9, if_pos q, nI_1]
    · simp only [fX10_count_67, fX10_count_67_b, fX10_count_93, ob_s, if_neg c, mRn (show i < 20 by omega) (by decide), g9, if_neg q, nI_1, Int32.add_zero]
  · have c : v.1 2 ≤ nI (M 0 0) := by rw [E.1.1.2.2.1]; exact Int32.le_refl _
    simp only [fX10_count_67, fX10_count_67_b, if_pos c]
theorem hB_c (R : Mem z h A M I T J rl G N) (x : Int32) : fX9_heldBy h x G = some (cS I 17 x (M 0 0), G) := by
  have hb := R.b.1 0 (by decide)
  refine itN_loop0 (fun f i a => fX9_heldBy_4 f h x a i G) (M 0 0) (fun t a => if I 17 t = x then a + 1 else a) (fun a => some (a, G)) (fun f i a hi => ?_) (fun f a => ?_) (fuel (by omega))
  · have hi2 : i < M 2 0 := by have := R.b.2.1; omega
    by_cases q : I 17 i = x
    · simp only [fX9_heldBy_4, fX9_heldBy_4_b, fX9_heldBy_36, R.f0, R.lo (show 0 < 4 by decide), sz_n R (show 0 < 4 by decide), R.o10, ob_s, bI_s, pU_s, if_true, if_false, i10, reduceCtorEq, if_neg (nI_ge hi (show M 0 0 < 2 ^ 31 by omega)), get_n R (show 0 < 4 by decide) hi, eA, R.tk hi2, R.t7 hi2, if_pos q, nI_1]
    · simp only [fX9_heldBy_4, fX9_heldBy_4_b, fX9_heldBy_36, R.f0, R.lo (show 0 < 4 by decide), sz_n R (show 0 < 4 by decide), R.o10, ob_s, bI_s, pU_s, if_true, if_false, i10, reduceCtorEq, if_neg (nI_ge hi (show M 0 0 < 2 ^ 31 by omega)), get_n R (show 0 < 4 by decide) hi, eA, R.tk hi2, R.t7 hi2, if_neg q, nI_1]
  · simp only [fX9_heldBy_4, fX9_heldBy_4_b, R.f0, R.lo (show 0 < 4 by decide), sz_n R (show 0 < 4 by decide), R.o10, ob_s, bI_s, pU_s, if_true, if_false, i10, reduceCtorEq, if_pos (Int32.le_refl _)]
theorem nI_nm {s : Nat} (h : s < 2 ^ 31) : ¬ nI s = -1 := fun q => by
  have := nI_pos h
  rw [q] at this
  exact this neg1_lt
theorem hB_m (E : tie k M I T v) {s : Nat} (hs : s < 8) : fX10_seen_84 FU (nI s) 0 0 v = some (cS I 17 (nI s) (M 0 0), v) := by
  have hb := E.b0
  refine itN_loop0 (fun f i a => fX10_seen_84 f (nI s) a i v) (M 0 0) (fun t a => if I 17 t = nI s then a + 1 else a) (fun a => some (a, v)) (fun f i a hi => ?_) (fun f a => ?_) (fuel (by omega))
  · have c : ¬ v.1 2 ≤ nI i := by rw [E.1.1.2.2.1]; exact nI_ge hi (by omega)
    obtain ⟨⟨g3, g4, g6, g7, g8, g9, g10⟩, gtr, gct, gsi, gso, gho, -⟩ := E.Th hi
    by_cases q1 : I 16 i = 1
    · by_cases q : I 17 i = nI s
      · simp only [fX10_seen_84, fX10_seen_84_b, fX10_seen_121, fX10_seen_120, ob_s, if_neg c, mRn (show i < 20 by omega) (by decide), g9, g10, if_pos q1, if_pos q, nI_1]
      · simp only [fX10_seen_84, fX10_seen_84_b, fX10_seen_121, fX10_seen_120, ob_s, if_neg c, mRn (show i < 20 by omega) (by decide), g9, g10, if_pos q1, if_neg q, nI_1, Int32.add_zero]
    · have q : ¬ I 17 i = nI s := fun q => by
        rcases gho with g | g
        · exact q1 g
        · exact nI_nm (show s < 2 ^ 31 by omega) (q.symm.trans g)
      simp only [fX10_seen_84, fX10_seen_84_b, fX10_seen_121, fX10_seen_120, ob_s, if_neg c, mRn (show i < 20 by omega) (by decide), g9, g10, if_neg q1, if_neg q, nI_1, Int32.add_zero]
  · have c : v.1 2 ≤ nI (M 0 0) := by rw [E.1.1.2.2.1]; exact Int32.le_refl _
    simp only [fX10_seen_84, fX10_seen_84_b, if_pos c]
theorem op_seen (R : Mem z h A M I T J rl G N) (E : tie k M I T v) (a1 a2 : Int32) : OkC z h k N (fX9_seen h a1 a2 G) (fX10_seen a1 a2 v) := by
  rcases sc R E a1 with ⟨e1, e2⟩ | ⟨t, ht, rfl, e1, e2⟩
  · simp only [fX9_seen, fX10_seen, R.o10, ob_s, bI_s, pU_s, if_true, if_false, i10, reduceCtorEq, e1, e2]
    exact fd R E 1 (by decide) rfl
  · rcases wc a2 0 3 G v with ⟨e3, e4⟩ | ⟨e3, e4, h3, h4⟩
    · simp only [fX9_seen, fX10_seen, R.o10, ob_s, bI_s, pU_s, if_true, if_false, i10, reduceCtorEq, e1, e2, e3, e4]
      exact fd R E 1 (by decide) rfl
    · have ht2 : t < M 2 1 := by rw [E.e1]; exact ht
      have hb := E.b1
      have ht20 : t < 8 := by omega
      obtain ⟨⟨g18, g20, g21, g22, g23⟩, gwd, r30, r32, r33, r34⟩ := E.Sk ht
      by_cases q0 : a2 = 0
      · simp only [fX9_seen, fX10_seen, R.o10, ob_s, bI_s, pU_s, if_true, if_false, i10, reduceCtorEq, e1, e2, e3, e4, if_pos q0, R.s0 ht2, mRn ht20 (by decide), g18]
        exact ok_ro R E _
      by_cases q1 : a2 = 1
      · simp only [fX9_seen, fX10_seen, R.o10, ob_s, bI_s, pU_s, if_true, if_false, i10, reduceCtorEq, e1, e2, e3, e4, if_neg q0, if_pos q1, R.s4 ht2, mRn ht20 (by decide), g22]
        exact ok_ro R E _
      by_cases q2 : a2 = 2
      · by_cases q : I 34 t < 3
        · simp only [fX9_seen, fX10_seen, R.o10, ob_s, bI_s, pU_s, if_true, if_false, i10, reduceCtorEq, fX7_isBarred, e1, e2, e3, e4, if_neg q0, if_neg q1, if_pos q2, R.so ht2, R.s4 ht2, mRn ht20 (by decide), g23, if_pos q]
          exact ok_ro R E _
        · simp only [fX9_seen, fX10_seen, R.o10, ob_s, bI_s, pU_s, if_true, if_false, i10, reduceCtorEq, fX7_isBarred, e1, e2, e3, e4, if_neg q0, if_neg q1, if_pos q2, R.so ht2, R.s4 ht2, mRn ht20 (by decide), g23, if_neg q]
          exact ok_ro R E _
      · simp only [fX9_seen, fX10_seen, R.o10, ob_s, bI_s, pU_s, if_true, if_false, i10, reduceCtorEq, e1, e2, e3, e4, if_neg q0, if_neg q1, if_neg q2, hB_c R, hB_m E ht20]
        exact ok_ro R E _
theorem op_count (R : Mem z h A M I T J rl G N) (E : tie k M I T v) (a1 : Int32) : OkC z h k N (fX9_count h a1 G) (fX10_count a1 v) := by
  obtain ⟨⟨n1, n2, n3, n4, n5, n6, n7⟩, -⟩ := E.1
  obtain ⟨n, hn, c1, c2, -⟩ := E.2.2.2.2.2.2.1
  by_cases q0 : a1 = 0
  · simp only [fX9_count, fX10_count, R.o10, ob_s, bI_s, pU_s, if_true, if_false, i10, reduceCtorEq, if_pos q0, R.f0, R.lo (show 0 < 4 by decide), sz_n R (show 0 < 4 by decide), n3]
    exact ok_ro R E _
  by_cases q1 : a1 = 1
  · have e : a1 - 1 = 0 := by rw [q1]; decide
    simp only [fX9_count, fX10_count, R.o10, ob_s, bI_s, pU_s, if_true, if_false, i10, reduceCtorEq, if_neg q0,  if_pos q1, cS_c R, cS_m E, e]
    exact ok_ro R E _
  by_cases q2 : a1 = 2
  · have e : a1 - 1 = 1 := by rw [q2]; decide
    simp only [fX9_count, fX10_count, R.o10, ob_s, bI_s, pU_s, if_true, if_false, i10, reduceCtorEq, if_neg q0, if_neg q1,  if_pos q2, cS_c R, cS_m E, e]
    exact ok_ro R E _
  by_cases q3 : a1 = 3
  · have e : a1 - 1 = 2 := by rw [q3]; decide
    simp only [fX9_count, fX10_count, R.o10, ob_s, bI_s, pU_s, if_true, if_false, i10, reduceCtorEq, if_neg q0, if_neg q1, if_neg q2,  if_pos q3, cS_c R, cS_m E, e]
    exact ok_ro R E _
  by_cases q4 : a1 = 4
  · have e : a1 - 1 = 3 := by rw [q4]; decide
    simp only [fX9_count, fX10_count, R.o10, ob_s, bI_s, pU_s, if_true, if_false, i10, reduceCtorEq, if_neg q0, if_neg q1, if_neg q2, if_neg q3,  if_pos q4, cS_c R, cS_m E, e]
    exact ok_ro R E _
  by_cases q5 : a1 = 5
  · simp only [fX9_count, fX10_count, R.o10, ob_s, bI_s, pU_s, if_true, if_false, i10, reduceCtorEq, if_neg q0, if_neg q1, if_neg q2, if_neg q3, if_neg q4,  if_pos q5, R.f1, R.lo (show 1 < 4 by decide), sz_n R (show 1 < 4 by decide), n4]
    exact ok_ro R E _
  by_cases q6 : a1 = 6
  · simp only [fX9_count, fX10_count, R.o10, ob_s, bI_s, pU_s, if_true, if_false, i10, reduceCtorEq, if_neg q0, if_neg q1, if_neg q2, if_neg q3, if_neg q4, if_neg q5,  if_pos q6, R.f2, R.lo (show 2 < 4 by decide), sz_n R (show 2 < 4 by decide), n5]
    exact ok_ro R E _
  by_cases q7 : a1 = 7
  · simp only [fX9_count, fX10_count, R.o10, ob_s, bI_s, pU_s, if_true, if_false, i10, reduceCtorEq, if_neg q0, if_neg q1, if_neg q2, if_neg q3, if_neg q4, if_neg q5, if_neg q6,  if_pos q7, R.f13, n1]
    exact ok_ro R E _
  by_cases q8 : a1 = 8
  · have e : gI [7] 2 G (A 3 12 0) = some (I 1 4) := gI_n (R.c 3 12 0 ⟨by decide, rfl⟩) rfl rfl
    simp only [fX9_count, fX10_count, R.o10, ob_s, bI_s, pU_s, if_true, if_false, i10, reduceCtorEq, if_neg q0, if_neg q1, if_neg q2, if_neg q3, if_neg q4, if_neg q5, if_neg q6, if_neg q7,  if_pos q8, R.f11, e, c1, c2]
    exact ok_ro R E _
  by_cases q9 : a1 = 9
  · simp only [fX9_count, fX10_count, R.o10, ob_s, bI_s, pU_s, if_true, if_false, i10, reduceCtorEq, if_neg q0, if_neg q1, if_neg q2, if_neg q3, if_neg q4, if_neg q5, if_neg q6, if_neg q7, if_neg q8,  if_pos q9, R.f12, n6]
    exact ok_ro R E _
  by_cases q10 : a1 = 10
  · simp only [fX9_count, fX10_count, R.o10, ob_s, bI_s, pU_s, if_true, if_false, i10, reduceCtorEq, if_neg q0, if_neg q1, if_neg q2, if_neg q3, if_neg q4, if_neg q5, if_neg q6, if_neg q7, if_neg q8, if_neg q9,  if_pos q10, R.f15, n7]
    exact ok_ro R E _
  simp only [fX9_count, fX10_count, R.o10, ob_s, bI_s, pU_s, if_true, if_false, i10, reduceCtorEq, if_neg q0, if_neg q1, if_neg q2, if_neg q3, if_neg q4, if_neg q5, if_neg q6, if_neg q7, if_neg q8, if_neg q9, if_neg q10,  i10]
  exact fd R E 1 (by decide) rfl
/-- whether a thing may be sold -/
def ms (I : Nat → Nat → Int32) (t : Nat) : Int32 := if I 16 t = 0 then if I 10 t = 1 then 0 else if I 0 13 - I 11 t < I 51 (I 10 t).toNatClampNeg * 30 then 0 else 1 else 0
theorem ms_c (R : Mem z h A M I T J rl G N) {t : Nat} (ht : t < M 2 0) (hk : rB (I 10 t) 3) : fX9_mayBeSold h (some (A 4 t 0)) G = some (ms I t, G) := by
  obtain ⟨p, hp, e⟩ := hk
  have e2 : aI G (A 3 1 0) (I 10 t) = some (I 51 (I 10 t).toNatClampNeg) := by
    rw [e, nI_clamp (by omega)]
    exact aI_n (R.c 3 1 0 ⟨by decide, rfl⟩) (show 4 < 2 ^ 31 by decide) (by omega)
  unfold ms
  by_cases q1 : I 16 t = 0
  · by_cases q2 : I 10 t = 1
    · simp only [fX9_mayBeSold, R.o10, ob_s, bI_s, pU_s, if_true, if_false, i10, reduceCtorEq, R.t6 ht, R.t0 ht, if_pos q1, if_pos q2]
    · by_cases q3 : I 0 13 - I 11 t < I 51 (I 10 t).toNatClampNeg * 30
      · simp only [fX9_mayBeSold, R.o10, ob_s, bI_s, pU_s, if_true, if_false, i10, reduceCtorEq, R.t6 ht, R.t0 ht, R.t1 ht, R.f13, R.f4, e2, if_pos q1, if_neg q2, if_pos q3]
      · simp only [fX9_mayBeSold, R.o10, ob_s, bI_s, pU_s, if_true, if_false, i10, reduceCtorEq, R.t6 ht, R.t0 ht, R.t1 ht, R.f13, R.f4, e2, if_pos q1, if_neg q2, if_neg q3]
  · simp only [fX9_mayBeSold, R.o10, ob_s, bI_s, pU_s, if_true, if_false, i10, reduceCtorEq, R.t6 ht, if_neg q1]
theorem ms_a {d f m : Nat} (hd : d ≤ 9999) (hf : f ≤ 9999) (hm : m ≤ 60) : nI d - nI f < nI m * 30 ↔ nI d < nI f + 30 * nI m := by
  have e1 : nI m * (30 : Int32) = nI (m * 30) := pk_mul m 30
  have e2 : nI f + (30 : Int32) * nI m = nI (f + 30 * m) := by rw [← nI_add, ← pk_mul]; rfl
  rw [e1, e2, Int32.lt_iff_toInt_lt, Int32.lt_iff_toInt_lt, pk_sub_toInt (by omega) (by omega), nI_toInt (by omega), nI_toInt (by omega), nI_toInt (by omega)]
  omega
theorem ms_m (E : tie k M I T v) {t : Nat} (ht : t < M 0 0) : fX10_maySell (nI t) v = some (ms I t, v) := by
  have hb := E.b0
  have ht20 : t < 20 := by omega
  obtain ⟨⟨g3, g4, g6, g7, g8, g9, g10⟩, gtr, gct, gsi, gso, gho, rk, rf, rw', rv, rs, rst⟩ := E.Th ht
  obtain ⟨p, hp, e⟩ := rk
  obtain ⟨f, hf, e3⟩ := rf
  obtain ⟨d, hd, e4⟩ := E.1.2.2.2.2.1
  obtain ⟨r1, r2, r3, r4, r5, r6⟩ := E.2.1
  obtain ⟨m, hm, e5⟩ := r6 p (by omega)
  have e2 : mR v 28 4 (I 10 t) = some (I 51 (I 10 t).toNatClampNeg) := by
    rw [e, nI_clamp (by omega), mRn (show p < 4 by omega) (by decide), r2]
  have e6 : (I 0 13 - I 11 t < I 51 (I 10 t).toNatClampNeg * 30) ↔ v.1 0 < I 11 t + 30 * I 51 (I 10 t).toNatClampNeg := by
    rw [E.1.1.1, e, nI_clamp (by omega), e3, e4, e5]
    exact ms_a hd hf hm
  unfold ms
  by_cases q1 : I 16 t = 0
  · by_cases q2 : I 10 t = 1
    · simp only [fX10_maySell, ob_s, bI_s, pU_s, if_true, if_false, i10, reduceCtorEq, mRn ht20 (by decide), g9, g3, if_pos q1, if_pos q2]
    · by_cases q3 : I 0 13 - I 11 t < I 51 (I 10 t).toNatClampNeg * 30
      · simp only [fX10_maySell, ob_s, bI_s, pU_s, if_true, if_false, i10, reduceCtorEq, mRn ht20 (by decide), g9, g3, g4, e2, if_pos q1, if_neg q2, if_pos q3, if_pos (e6.mp q3)]
      · simp only [fX10_maySell, ob_s, bI_s, pU_s, if_true, if_false, i10, reduceCtorEq, mRn ht20 (by decide), g9, g3, g4, e2, if_pos q1, if_neg q2, if_neg q3, if_neg (fun q => q3 (e6.mpr q))]
  · simp only [fX10_maySell, ob_s, bI_s, pU_s, if_true, if_false, i10, reduceCtorEq, mRn ht20 (by decide), g9, if_neg q1]
def aS (I : Nat → Nat → Int32) (n : Nat) : Int32 := itN (fun t a => if ms I t = 0 then a else a ||| ((1 : Int32) <<< (nI t &&& 31))) n 0
theorem aS_c (R : Mem z h A M I T J rl G N) (E : tie k M I T v) : fX9_sellable h G = some (aS I (M 0 0), G) := by
  have hb := R.b.1 0 (by decide)
  refine itN_loop0 (fun f i a => fX9_sellable_4 f h a i G) (M 0 0) (fun t a => if ms I t = 0 then a else a ||| ((1 : Int32) <<< (nI t &&& 31))) (fun a => some (a, G)) (fun f i a hi => ?_) (fun f a => ?_) (fuel (by omega))
  · have hi2 : i < M 2 0 := by have := R.b.2.1; omega
    obtain ⟨-, -, -, -, -, -, rk, -⟩ := E.Th hi
    by_cases q : ms I i = 0
    · simp only [fX9_sellable_4, fX9_sellable_4_b, fX9_sellable_39, R.f0, R.lo (show 0 < 4 by decide), sz_n R (show 0 < 4 by decide), R.o10, ob_s, bI_s, pU_s, if_true, if_false, i10, reduceCtorEq, if_neg (nI_ge hi (show M 0 0 < 2 ^ 31 by omega)), get_n R (show 0 < 4 by decide) hi, eA, R.tk hi2, ms_c R hi2 rk, if_pos q, nI_1]
    · simp only [fX9_sellable_4, fX9_sellable_4_b, fX9_sellable_39, R.f0, R.lo (show 0 < 4 by decide), sz_n R (show 0 < 4 by decide), R.o10, ob_s, bI_s, pU_s, if_true, if_false, i10, reduceCtorEq, if_neg (nI_ge hi (show M 0 0 < 2 ^ 31 by omega)), get_n R (show 0 < 4 by decide) hi, eA, R.tk hi2, ms_c R hi2 rk, if_neg q, nI_1]
  · simp only [fX9_sellable_4, fX9_sellable_4_b, R.f0, R.lo (show 0 < 4 by decide), sz_n R (show 0 < 4 by decide), R.o10, ob_s, bI_s, pU_s, if_true, if_false, i10, reduceCtorEq, if_pos (Int32.le_refl _)]
theorem aS_m (E : tie k M I T v) : fX10_allSellable v = some (aS I (M 0 0), v) := by
  have hb := E.b0
  refine itN_loop0 (fun f i a => fX10_allSellable_4 f a i v) (M 0 0) (fun t a => if ms I t = 0 then a else a ||| ((1 : Int32) <<< (nI t &&& 31))) (fun a => some (a, v)) (fun f i a hi => ?_) (fun f a => ?_) (fuel (by omega))
  · have c : ¬ v.1 2 ≤ nI i := by rw [E.1.1.2.2.1]; exact nI_ge hi (by omega)
    by_cases q : ms I i = 0
    · simp only [fX10_allSellable_4, fX10_allSellable_4_b, fX10_allSellable_28, bI_s, if_neg c, ms_m E hi, if_pos q, nI_1, Int32.or_zero]
    · simp only [fX10_allSellable_4, fX10_allSellable_4_b, fX10_allSellable_28, bI_s, if_neg c, ms_m E hi, if_neg q, nI_1]
  · have c : v.1 2 ≤ nI (M 0 0) := by rw [E.1.1.2.2.1]; exact Int32.le_refl _
    simp only [fX10_allSellable_4, fX10_allSellable_4_b, if_pos c]
theorem op_sellable (R : Mem z h A M I T J rl G N) (E : tie k M I T v) : OkC z h k N (fX9_sellable h G) (fX10_sellable v) := by
  simp only [fX10_sellable, aS_c R E, aS_m E, bI_s]
  exact ok_ro R E _
/-- what was known -/
theorem sb_c (R : Mem z h A M I T J rl G N) {t : Nat} (ht : t < M 2 0) (d : Int32) : ∀ j f, j ≤ M 4 t → j < f → fX8_stateBy_5 f d (if j = 0 then none else some (A 10 t (j - 1))) G = some (sb T t d j, G) := by
  intro j
  induction j with
  | zero =>
    intro f _ hf
    obtain ⟨f, rfl⟩ : ∃ g, f = g + 1 := ⟨f - 1, by omega⟩
    simp only [fX8_stateBy_5, fX8_stateBy_5_b, if_true]
    rfl
  | succ j ih =>
    intro f hj hf
    obtain ⟨f, rfl⟩ : ∃ g, f = g + 1 := ⟨f - 1, by omega⟩
    have hc := R.c 10 t j ⟨ht, by omega⟩
    have e0 : gI [2] 0 G (A 10 t j) = some (T 3 t j) := gI_n hc rfl rfl
    have e1 : gR [2] 1 G (A 10 t j) = some (if j = 0 then none else some (A 10 t (j - 1))) := gR_n hc rfl rfl
    have e2 : gI [2] 2 G (A 10 t j) = some (T 4 t j) := gI_n hc rfl rfl
    have e3 : sb T t d (j + 1) = if T 3 t j ≤ d then T 4 t j else sb T t d j := rfl
    rw [if_neg (Nat.succ_ne_zero j), Nat.add_sub_cancel, e3]
    by_cases q : d < T 3 t j
    · simp only [fX8_stateBy_5, fX8_stateBy_5_b, ob_s, reduceCtorEq, if_false, e0, e1, if_pos q, if_neg (Int32.not_le.mpr q)]
      exact ih f (by omega) (by omega)
    · simp only [fX8_stateBy_5, fX8_stateBy_5_b, ob_s, reduceCtorEq, if_false, e0, e2, if_neg q, if_pos (Int32.not_lt.mp q)]
theorem i3 (i : Nat) : (3 : Int32) * nI i = nI (3 * i) := pk_mul 3 i
theorem kn_m {n : Nat} (hn : n < 3000) (he : v.1 16 = nI n) (t : Nat) (d : Int32) : fX10_known_30 FU (nI t) d (-1) 0 v = some (kn v t d n, v) := by
  refine itN_loop0 (fun f i a => fX10_known_30 f (nI t) d a i v) n (fun k a => if v.2.1 15 (3 * k) = nI t ∧ v.2.1 15 (3 * k + 1) ≤ d then v.2.1 15 (3 * k + 2) else a) (fun a => some (a, v)) (fun f i a hi => ?_) (fun f a => ?_) (by show n < 1000000; omega)
  · have c : ¬ v.1 16 ≤ nI i := by rw [he]; exact nI_ge hi (by omega)
    have j1 : nI (3 * i) + 1 = nI (3 * i + 1) := nI_add _ 1
    have j2 : nI (3 * i) + 2 = nI (3 * i + 2) := nI_add _ 2
    by_cases q1 : v.2.1 15 (3 * i) = nI t
    · by_cases q2 : d < v.2.1 15 (3 * i + 1)
      · simp only [fX10_known_30, fX10_known_30_b, fX10_known_81, fX10_known_82, ob_s, if_neg c, i3, j1, j2, mRn (show 3 * i < 9000 by omega) (by decide), mRn (show 3 * i + 1 < 9000 by omega) (by decide), if_pos q1, if_pos q2, if_neg (fun z => Int32.not_le.mpr q2 (And.right z)), nI_1]
      · simp only [fX10_known_30, fX10_known_30_b, fX10_known_81, fX10_known_82, ob_s, if_neg c, i3, j1, j2, mRn (show 3 * i < 9000 by omega) (by decide), mRn (show 3 * i + 1 < 9000 by omega) (by decide), mRn (show 3 * i + 2 < 9000 by omega) (by decide), if_pos q1, if_neg q2, if_pos (And.intro q1 (Int32.not_lt.mp q2)), nI_1]
    · simp only [fX10_known_30, fX10_known_30_b, fX10_known_81, fX10_known_82, ob_s, if_neg c, i3, mRn (show 3 * i < 9000 by omega) (by decide), if_neg q1, if_neg (fun z => q1 (And.left z)), nI_1]
  · have c : v.1 16 ≤ nI n := by rw [he]; exact Int32.le_refl _
    simp only [fX10_known_30, fX10_known_30_b, if_pos c]
theorem nf_le (I : Nat → Nat → Int32) (n : Nat) : nf I n ≤ n := by
  induction n with
  | zero => exact Nat.le_refl _
  | succ n ih =>
    show (if I 16 n = 0 ∨ I 16 n = 1 then nf I n + 1 else nf I n) ≤ n + 1
    split <;> omega
theorem op_known (R : Mem z h A M I T J rl G N) (E : tie k M I T v) (hk : k < 512) (a1 a2 : Int32) : OkC z h k N (fX9_known h a1 a2 G) (fX10_known a1 a2 v) := by
  rcases tc R E a1 with ⟨e1, e2⟩ | ⟨t, ht, rfl, e1, e2⟩
  · simp only [fX9_known, fX10_known, R.o10, ob_s, bI_s, pU_s, if_true, if_false, i10, reduceCtorEq, e1, e2]
    exact fd R E 1 (by decide) rfl
  · rcases wc a2 0 9999 G v with ⟨e3, e4⟩ | ⟨e3, e4, h3, h4⟩
    · have e5 : fX9_isDay a2 G = some (0, G) := by simp [fX9_isDay, e3, bI_s]
      simp only [fX9_known, fX10_known, R.o10, ob_s, bI_s, pU_s, if_true, if_false, i10, reduceCtorEq, e1, e2, e5, e4]
      exact fd R E 1 (by decide) rfl
    · have e5 : fX9_isDay a2 G = some (1, G) := by simp [fX9_isDay, e3, bI_s]
      have ht2 : t < M 2 0 := by rw [E.e0]; exact ht
      have hb := E.b0
      obtain ⟨n, c1, c2, c3, -⟩ := E.2.2.2.2.2.2.2
      obtain ⟨q, e6⟩ := R.to ht2
      have e7 : fX8_stateBy (A 4 t 0) a2 G = some (sb T t a2 (M 4 t), G) := by
        simp only [fX8_stateBy, R.t11 ht2, ob_s]
        exact sb_c R ht2 a2 (M 4 t) FU (Nat.le_refl _) (by have := (c3 t ht).1; show _ < 1000000; omega)
      simp only [fX9_known, fX10_known, R.o10, ob_s, bI_s, pU_s, if_true, if_false, i10, reduceCtorEq, e1, e2, e4, e5, e6, e7, kn_m (show n < 3000 by omega) c1, (c3 t ht).2 a2]
      exact ok_ro R E _
end O4
