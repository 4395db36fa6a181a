section O3
variable {z : Nat → Nat} {h : Nat} {A : Nat → Nat → Nat → Nat} {M : Nat → Nat → Nat} {I : Nat → Nat → Int32} {T : Nat → Nat → Nat → Int32} {J : Nat → Nat → Int64} {rl : Nat → Nat × Nat × Nat} {G : gM} {N k : Nat} {v : mS}
/-- the likeness of a seeker and a thing -/
def lk0 (I : Nat → Nat → Int32) (T : Nat → Nat → Nat → Int32) (s t : Nat) (a : Int32) : Int32 := itN (fun i a => if T 2 s i = T 0 t i then a + I 50 i else if T 2 s i = -1 then a else a - I 50 i / 2) 5 a
def lk (I : Nat → Nat → Int32) (T : Nat → Nat → Nat → Int32) (s t : Nat) : Int32 :=
  if I 16 t = 0 then if I 34 s < 3 then if I 30 s ≤ I 11 t then if (if I 12 t < I 32 s then (0 : Int32) else if I 33 s < I 12 t then 0 else 1) = 0 then (if lk0 I T s t (-3) < 0 then 0 else lk0 I T s t (-3)) else (if lk0 I T s t 3 < 0 then 0 else lk0 I T s t 3) else 0 else 0 else 0
theorem lk_cl (R : Mem z h A M I T J rl G N) {s t : Nat} (hs : s < M 2 1) (ht : t < M 2 0) (a : Int32) : fX9_likenessOf_51 h (some (A 5 s 0)) (some (A 4 t 0)) a G = some (if lk0 I T s t a < 0 then 0 else lk0 I T s t a, G) := by
  refine itN_loop0 (fun f i a => fX9_likenessOf_55 f h (some (A 5 s 0)) (some (A 4 t 0)) a i G) 5 (fun i a => if T 2 s i = T 0 t i then a + I 50 i else if T 2 s i = -1 then a else a - I 50 i / 2) (fun a => some (if a < 0 then 0 else a, G)) (fun f i a hi => ?_) (fun f a => ?_) (by decide)
  · have c : ¬ (5 : Int32) ≤ nI i := nI_ge (b := 5) hi (by decide)
    show fX9_likenessOf_55_b _ _ _ _ _ _ (fX9_likenessOf_55 f) = _
    by_cases q1 : T 2 s i = T 0 t i
    · simp only [fX9_likenessOf_55_b, fX9_likenessOf_114, if_neg c, ob_s, pU_s, R.s1 hs, R.t5 ht, R.f3, aI_n (R.sm hs) (by decide) hi, aI_n (R.tm ht) (by decide) hi, aI_n (R.c 3 0 0 ⟨by decide, rfl⟩) (show 5 < 2 ^ 31 by decide) hi, if_pos q1, nI_1]
    · by_cases q2 : T 2 s i = -1
      · simp only [fX9_likenessOf_55_b, fX9_likenessOf_114, if_neg c, ob_s, pU_s, R.s1 hs, R.t5 ht, R.f3, aI_n (R.sm hs) (by decide) hi, aI_n (R.tm ht) (by decide) hi, if_neg q1, if_pos q2, nI_1]
      · simp only [fX9_likenessOf_55_b, fX9_likenessOf_114, if_neg c, ob_s, pU_s, R.s1 hs, R.t5 ht, R.f3, aI_n (R.sm hs) (by decide) hi, aI_n (R.tm ht) (by decide) hi, aI_n (R.c 3 0 0 ⟨by decide, rfl⟩) (show 5 < 2 ^ 31 by decide) hi, if_neg q1, if_neg q2, nI_1]
  · show fX9_likenessOf_55_b _ _ _ _ _ _ (fX9_likenessOf_55 f) = _
    have c : (5 : Int32) ≤ nI 5 := by decide
    simp only [fX9_likenessOf_55_b, if_pos c, pU_s]
theorem lk_c (R : Mem z h A M I T J rl G N) {s t : Nat} (hs : s < M 2 1) (ht : t < M 2 0) : fX9_likenessOf h (some (A 5 s 0)) (some (A 4 t 0)) G = some (lk I T s t, G) := by
  unfold lk
  by_cases q1 : I 16 t = 0
  · by_cases q2 : I 34 s < 3
    · by_cases q3 : I 30 s ≤ I 11 t
      · by_cases z1 : I 12 t < I 32 s
        · simp only [fX9_likenessOf, fX9_within, fX7_isBarred, R.o10, ob_s, bI_s, pU_s, if_true, if_false, i10, reduceCtorEq, R.t6 ht, R.t1 ht, R.t2 ht, R.so hs, R.s4 hs, R.s0 hs, R.s2 hs, R.s3 hs, if_pos q1, if_pos q2, if_pos q3, if_pos z1, lk_cl R hs ht]
        · by_cases z2 : I 33 s < I 12 t
          · simp only [fX9_likenessOf, fX9_within, fX7_isBarred, R.o10, ob_s, bI_s, pU_s, if_true, if_false, i10, reduceCtorEq, R.t6 ht, R.t1 ht, R.t2 ht, R.so hs, R.s4 hs, R.s0 hs, R.s2 hs, R.s3 hs, if_pos q1, if_pos q2, if_pos q3, if_neg z1, if_pos z2, lk_cl R hs ht]
          · simp only [fX9_likenessOf, fX9_within, fX7_isBarred, R.o10, ob_s, bI_s, pU_s, if_true, if_false, i10, reduceCtorEq, R.t6 ht, R.t1 ht, R.t2 ht, R.so hs, R.s4 hs, R.s0 hs, R.s2 hs, R.s3 hs, if_pos q1, if_pos q2, if_pos q3, if_neg z1, if_neg z2, lk_cl R hs ht]
      · simp only [fX9_likenessOf, fX7_isBarred, R.o10, ob_s, bI_s, pU_s, if_true, if_false, i10, reduceCtorEq, R.t6 ht, R.t1 ht, R.so hs, R.s4 hs, R.s0 hs, if_pos q1, if_pos q2, if_neg q3]
    · simp only [fX9_likenessOf, fX7_isBarred, R.o10, ob_s, bI_s, pU_s, if_true, if_false, i10, reduceCtorEq, R.t6 ht, R.so hs, R.s4 hs, if_pos q1, if_neg q2]
  · simp only [fX9_likenessOf, R.o10, ob_s, bI_s, pU_s, if_true, if_false, i10, reduceCtorEq, R.t6 ht, if_neg q1]
theorem neg1_lt : (-1 : Int32) < 0 := by decide
theorem rB_nn {x : Int32} {n : Nat} (h : rB x n) (hn : n < 2 ^ 31) : ¬ x < 0 := by
  obtain ⟨p, hp, rfl⟩ := h
  exact nI_pos (by omega)
theorem lk_ml (E : tie k M I T v) {s t : Nat} (hs : s < M 0 1) (ht : t < M 0 0) (a : Int32) : fX10_like_65 (nI s) (nI t) a v = some (if lk0 I T s t a < 0 then 0 else lk0 I T s t a, v) := by
  have hb0 := E.b0
  have hb1 := E.b1
  obtain ⟨⟨g18, g20, g21, g22, g23⟩, gwd, r30, r32, r33, r34⟩ := E.Sk hs
  obtain ⟨-, gtr, -⟩ := E.Th ht
  obtain ⟨r1, -⟩ := E.2.1
  refine itN_loop0 (fun f i a => fX10_like_69 f (nI s) (nI t) a i v) 5 (fun i a => if T 2 s i = T 0 t i then a + I 50 i else if T 2 s i = -1 then a else a - I 50 i / 2) (fun a => some (if a < 0 then 0 else a, v)) (fun f i a hi => ?_) (fun f a => ?_) (by decide)
  · have c : ¬ (5 : Int32) ≤ nI i := nI_ge (b := 5) hi (by decide)
    show fX10_like_69_b _ _ _ _ _ (fX10_like_69 f) = _
    have q9 := rB_nn (gtr i hi).2 (by decide)
    rcases (gwd i hi).2 with q3 | q3
    · have q1 : ¬ T 2 s i = T 0 t i := fun q => q9 (by rw [← q, q3]; exact neg1_lt)
      have q2 : T 2 s i < 0 := by rw [q3]; exact neg1_lt
      simp only [fX10_like_69_b, fX10_like_132, if_neg c, ob_s, i5, mRn (show 5 * s + i < 40 by omega) (by decide), (gwd i hi).1, if_pos q2, if_neg q1, if_pos q3, nI_1]
    · have q2 : ¬ T 2 s i < 0 := rB_nn q3 (by decide)
      have q4 : ¬ T 2 s i = -1 := fun q => q2 (by rw [q]; exact neg1_lt)
      by_cases q1 : T 2 s i = T 0 t i
      · simp only [fX10_like_69_b, fX10_like_132, fX10_like_130, if_neg c, ob_s, i5, mRn (show 5 * s + i < 40 by omega) (by decide), mRn (show 5 * t + i < 100 by omega) (by decide), mRn hi (by decide), (gwd i hi).1, (gtr i hi).1, r1, if_neg q2, if_pos q1, nI_1]
      · simp only [fX10_like_69_b, fX10_like_132, fX10_like_130, if_neg c, ob_s, i5, mRn (show 5 * s + i < 40 by omega) (by decide), mRn (show 5 * t + i < 100 by omega) (by decide), mRn hi (by decide), (gwd i hi).1, (gtr i hi).1, r1, if_neg q2, if_neg q1, if_neg q4, nI_1, Int32.sub_eq_add_neg]
  · show fX10_like_69_b _ _ _ _ _ (fX10_like_69 f) = _
    have c : (5 : Int32) ≤ nI 5 := by decide
    by_cases q : a < 0
    · have q2 : ¬ 0 ≤ a := Int32.not_le.mpr q
      simp only [fX10_like_69_b, if_pos c, if_pos q, if_neg q2]
    · have q2 : 0 ≤ a := Int32.not_lt.mp q
      simp only [fX10_like_69_b, if_pos c, if_neg q, if_pos q2]
theorem lk_m (E : tie k M I T v) {s t : Nat} (hs : s < M 0 1) (ht : t < M 0 0) : fX10_like (nI s) (nI t) v = some (lk I T s t, v) := by
  have hb0 := E.b0
  have hb1 := E.b1
  have hs8 : s < 8 := by omega
  have ht20 : t < 20 := by omega
  obtain ⟨⟨g18, g20, g21, g22, g23⟩, gwd, r30, r32, r33, r34⟩ := E.Sk hs
  obtain ⟨⟨g3, g4, g6, g7, g8, g9, g10⟩, -⟩ := E.Th ht
  unfold lk
  by_cases q2 : I 34 s < 3
  · by_cases q1 : I 16 t = 0
    · by_cases q3 : I 30 s ≤ I 11 t
      · by_cases z1 : I 12 t < I 32 s
        · simp only [fX10_like, fX10_isIn, ob_s, bI_s, pU_s, if_true, if_false, i10, reduceCtorEq, mRn ht20 (by decide), mRn hs8 (by decide), g4, g6, g9, g18, g20, g21, g23, if_pos q1, if_pos q2, if_pos q3, if_pos z1, lk_ml E hs ht]
        · by_cases z2 : I 33 s < I 12 t
          · simp only [fX10_like, fX10_isIn, ob_s, bI_s, pU_s, if_true, if_false, i10, reduceCtorEq, mRn ht20 (by decide), mRn hs8 (by decide), g4, g6, g9, g18, g20, g21, g23, if_pos q1, if_pos q2, if_pos q3, if_neg z1, if_pos z2, lk_ml E hs ht]
          · simp only [fX10_like, fX10_isIn, ob_s, bI_s, pU_s, if_true, if_false, i10, reduceCtorEq, mRn ht20 (by decide), mRn hs8 (by decide), g4, g6, g9, g18, g20, g21, g23, if_pos q1, if_pos q2, if_pos q3, if_neg z1, if_neg z2, lk_ml E hs ht]
      · simp only [fX10_like, ob_s, bI_s, pU_s, if_true, if_false, i10, reduceCtorEq, mRn ht20 (by decide), mRn hs8 (by decide), g4, g9, g18, g23, if_pos q1, if_pos q2, if_neg q3]
    · simp only [fX10_like, ob_s, bI_s, pU_s, if_true, if_false, i10, reduceCtorEq, mRn ht20 (by decide), mRn hs8 (by decide), g9, g23, if_neg q1, if_pos q2]
  · have : (if I 16 t = 0 then if I 34 s < 3 then if I 30 s ≤ I 11 t then if (if I 12 t < I 32 s then (0 : Int32) else if I 33 s < I 12 t then 0 else 1) = 0 then (if lk0 I T s t (-3) < 0 then 0 else lk0 I T s t (-3)) else (if lk0 I T s t 3 < 0 then 0 else lk0 I T s t 3) else 0 else 0 else 0) = (0 : Int32) := by
      rw [if_neg q2]
      exact ite_self 0
    rw [this]
    simp only [fX10_like, ob_s, bI_s, pU_s, if_true, if_false, i10, reduceCtorEq, mRn hs8 (by decide), g23, if_neg q2]
theorem op_likeness (R : Mem z h A M I T J rl G N) (E : tie k M I T v) (a1 a2 : Int32) : OkC z h k N (fX9_likeness h a1 a2 G) (fX10_likeness a1 a2 v) := by
  rcases sc R E a1 with ⟨e1, e2⟩ | ⟨s, hs, rfl, e1, e2⟩
  · rcases tc R E a2 with ⟨e3, e4⟩ | ⟨t, ht, rfl, e3, e4⟩
    · simp only [fX9_likeness, fX10_likeness, R.o10, ob_s, bI_s, pU_s, if_true, if_false, i10, reduceCtorEq, e1, e2, e3, e4]
      exact fd R E 1 (by decide) rfl
    · simp only [fX9_likeness, fX10_likeness, R.o10, ob_s, bI_s, pU_s, if_true, if_false, i10, reduceCtorEq, e1, e2, e3, e4]
      exact fd R E 1 (by decide) rfl
  · rcases tc R E a2 with ⟨e3, e4⟩ | ⟨t, ht, rfl, e3, e4⟩
    · simp only [fX9_likeness, fX10_likeness, R.o10, ob_s, bI_s, pU_s, if_true, if_false, i10, reduceCtorEq, e1, e2, e3, e4]
      exact fd R E 1 (by decide) rfl
    · simp only [fX9_likeness, fX10_likeness, R.o10, ob_s, bI_s, pU_s, if_true, if_false, i10, reduceCtorEq, e1, e2, e3, e4, lk_c R (show s < M 2 1 by rw [E.e1]; exact hs) (show t < M 2 0 by rw [E.e0]; exact ht), lk_m E hs ht]
      exact ok_ro R E _
theorem op_chance (R : Mem z h A M I T J rl G N) (E : tie k M I T v) (a1 a2 : Int32) : OkC z h k N (fX9_chance h a1 a2 G) (fX10_chance a1 a2 v) := by
  rcases sc R E a1 with ⟨e1, e2⟩ | ⟨s, hs, rfl, e1, e2⟩
  · rcases tc R E a2 with ⟨e3, e4⟩ | ⟨t, ht, rfl, e3, e4⟩
    · simp only [fX9_chance, fX10_chance, R.o10, ob_s, bI_s, pU_s, if_true, if_false, i10, reduceCtorEq, e1, e2, e3, e4]
      exact fd R E 1 (by decide) rfl
    · simp only [fX9_chance, fX10_chance, R.o10, ob_s, bI_s, pU_s, if_true, if_false, i10, reduceCtorEq, e1, e2, e3, e4]
      exact fd R E 1 (by decide) rfl
  · rcases tc R E a2 with ⟨e3, e4⟩ | ⟨t, ht, rfl, e3, e4⟩
    · simp only [fX9_chance, fX10_chance, R.o10, ob_s, bI_s, pU_s, if_true, if_false, i10, reduceCtorEq, e1, e2, e3, e4]
      exact fd R E 1 (by decide) rfl
    · have hs2 : s < M 2 1 := by rw [E.e1]; exact hs
      have ht2 : t < M 2 0 := by rw [E.e0]; exact ht
      have hb1 := E.b1
      simp only [fX9_chance, fX10_chance, R.o10, ob_s, bI_s, pU_s, if_true, if_false, i10, reduceCtorEq, e1, e2, e3, e4]
      rw [itN_loop0 (fun f i a => fX9_chance_34 _ f h (some (A 5 s 0)) (some (A 4 t 0)) a i G) (M 0 1) (fun i a => a + lk I T i t * lk I T i t) (fun a => some (if a = 0 then 0 else 1000 * lk I T s t * lk I T s t / a, G)) (fun f i a hi => ?_) (fun f a => ?_) (by show _ < 1000000; omega),
        itN_loop0 (fun f i a => fX10_chance_27 _ f (nI s) (nI t) a i v) (M 0 1) (fun i a => a + lk I T i t * lk I T i t) (fun a => some (if a = 0 then 0 else 1000 * lk I T s t * lk I T s t / a, v)) (fun f i a hi => ?_) (fun f a => ?_) (by show _ < 1000000; omega)]
      · exact ok_ro R E _
      · have c : ¬ v.1 17 ≤ nI i := by rw [E.1.1.2.2.2.1]; exact nI_ge hi (by omega)
        simp only [fX10_chance_27, fX10_chance_27_b, if_neg c, lk_m E hi ht, bI_s, nI_1]
      · have c : v.1 17 ≤ nI (M 0 1) := by rw [E.1.1.2.2.2.1]; exact Int32.le_refl _
        by_cases q : a = 0
        · simp only [fX10_chance_27, fX10_chance_27_b, if_pos c, if_pos q]
        · simp only [fX10_chance_27, fX10_chance_27_b, if_pos c, if_neg q, lk_m E hs ht, bI_s]
      · have hi2 : i < M 2 1 := by rw [E.e1]; exact hi
        simp only [fX9_chance_34, fX9_chance_34_b, R.f1, R.lo (show 1 < 4 by decide), sz_n R (show 1 < 4 by decide), R.o10, ob_s, bI_s, pU_s, if_true, if_false, i10, reduceCtorEq, if_neg (nI_ge hi (show M 0 1 < 2 ^ 31 by omega)), get_n R (show 1 < 4 by decide) hi, eA, R.sk hi2, lk_c R hi2 ht2, nI_1]
      · by_cases q : a = 0
        · simp only [fX9_chance_34, fX9_chance_34_b, R.f1, R.lo (show 1 < 4 by decide), sz_n R (show 1 < 4 by decide), R.o10, ob_s, bI_s, pU_s, if_true, if_false, i10, reduceCtorEq, if_pos (Int32.le_refl _), if_pos q, lk_c R hs2 ht2]
        · simp only [fX9_chance_34, fX9_chance_34_b, R.f1, R.lo (show 1 < 4 by decide), sz_n R (show 1 < 4 by decide), R.o10, ob_s, bI_s, pU_s, if_true, if_false, i10, reduceCtorEq, if_pos (Int32.le_refl _), if_neg q, lk_c R hs2 ht2]
end O3
