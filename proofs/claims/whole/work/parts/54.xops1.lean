section O1
variable {z : Nat → Nat} {h : Nat} {A : Nat → Nat → Nat → Nat} {M : Nat → Nat → Nat} {I : Nat → Nat → Int32} {T : Nat → Nat → Nat → Int32} {J : Nat → Nat → Int64} {rl : Nat → Nat × Nat × Nat} {G : gM} {N k : Nat} {v : mS}
theorem mUn {u : mS} {k n i : Nat} {v : Int32} (h : i < n) (hn : n < 2 ^ 31) : mU u k n (nI i) v = some (mA u k i v) := mU_n hn h
theorem mRn {u : mS} {k n i : Nat} (h : i < n) (hn : n < 2 ^ 31) : mR u k n (nI i) = some (u.2.1 k i) := mR_n hn h
theorem trc (x : Int32) (G : gM) (v : mS) : (fX9_within x 0 4 G = some (0, G) ∧ fX10_isTrait x v = some (0, v)) ∨ ∃ j, j < 5 ∧ x = nI j ∧ fX9_within x 0 4 G = some (1, G) ∧ fX10_isTrait x v = some (1, v) := by
  rcases wc x 0 4 G v with ⟨e1, e2⟩ | ⟨e1, e2, h1, h2⟩
  · exact .inl ⟨e1, by simp only [fX10_isTrait, e2, bI_s, true_or, if_true]⟩
  · obtain ⟨j, h3, h4⟩ := rg_n (n := 4) (by decide) ⟨h1, h2⟩
    exact .inr ⟨j, by omega, h4, e1, by simp only [fX10_isTrait, e2, bI_s, or_true, if_true]⟩
theorem i5 (t j : Nat) : (5 : Int32) * nI t + nI j = nI (5 * t + j) := by
  rw [← nI_add, ← pk_mul]; rfl
theorem op_as (R : Mem z h A M I T J rl G N) (E : tie k M I T v) (a1 a2 : Int32) : OkC z h k N (fX9_as h a1 a2 G) (fX10_as a1 a2 v) := by
  rcases tc R E a1 with ⟨e1, e2⟩ | ⟨t, ht, rfl, e1, e2⟩
  · simp only [fX9_as, fX10_as, R.o10, ob_s, bI_s, pU_s, if_true, if_false, i10, reduceCtorEq, e1, e2]
    exact fd R E 1 (by decide) rfl
  · rcases wc a2 0 3 G v with ⟨e3, e4⟩ | ⟨e3, e4, h3, h4⟩
    · simp only [fX9_as, fX10_as, R.o10, ob_s, bI_s, pU_s, if_true, if_false, i10, reduceCtorEq, e1, e2, e3, e4]
      exact fd R E 1 (by decide) rfl
    · have ht2 : t < M 2 0 := by rw [E.e0]; exact ht
      have hb := E.b0
      have ht20 : t < 20 := by omega
      obtain ⟨⟨g3, g4, g6, g7, g8, g9, g10⟩, gtr, gct, gsi, gso, gho, rk, rf, rw', rv, rs, rst⟩ := E.Th ht
      by_cases h5 : a2 = 0
      · subst h5
        simp only [fX9_as, fX10_as, R.o10, ob_s, bI_s, pU_s, if_true, if_false, i10, reduceCtorEq, e1, e2, e3, e4, R.t2 ht2, mRn ht20 (by decide), g6]
        exact ok_ro R E _
      · by_cases h6 : a2 = I 10 t
        · simp only [fX9_as, fX10_as, R.o10, ob_s, bI_s, pU_s, if_true, if_false, i10, reduceCtorEq, e1, e2, e3, e4, h5, R.t2 ht2, R.t0 ht2, mRn ht20 (by decide), g6, g3, if_pos h6, if_pos h6.symm]
          exact ok_ro R E _
        · simp only [fX9_as, fX10_as, R.o10, ob_s, bI_s, pU_s, if_true, if_false, i10, reduceCtorEq, e1, e2, e3, e4, h5, R.t2 ht2, R.t0 ht2, mRn ht20 (by decide), g6, g3, if_neg h6, if_neg (fun q => h6 (Eq.symm q))]
          exact fd R E 5 (by decide) rfl
theorem op_trait (R : Mem z h A M I T J rl G N) (E : tie k M I T v) (a1 a2 a3 : Int32) : OkC z h k N (fX9_trait h a1 a2 a3 G) (fX10_trait a1 a2 a3 v) := by
  rcases tc R E a1 with ⟨e1, e2⟩ | ⟨t, ht, rfl, e1, e2⟩
  · simp only [fX9_trait, fX10_trait, R.o10, ob_s, bI_s, pU_s, if_true, if_false, i10, reduceCtorEq, e1, e2]
    exact fd R E 1 (by decide) rfl
  · rcases trc a2 G v with ⟨e3, e4⟩ | ⟨j, hj, rfl, e3, e4⟩
    · simp only [fX9_trait, fX10_trait, R.o10, ob_s, bI_s, pU_s, if_true, if_false, i10, reduceCtorEq, e1, e2, e3, e4]
      exact fd R E 1 (by decide) rfl
    · rcases wc a3 0 15 G v with ⟨e5, e6⟩ | ⟨e5, e6, h3, h4⟩
      · simp only [fX9_trait, fX10_trait, R.o10, ob_s, bI_s, pU_s, if_true, if_false, i10, reduceCtorEq, e1, e2, e3, e4, e5, e6]
        exact fd R E 1 (by decide) rfl
      · have ht2 : t < M 2 0 := by rw [E.e0]; exact ht
        have hb := E.b0
        have ht20 : t < 20 := by omega
        obtain ⟨⟨g3, g4, g6, g7, g8, g9, g10⟩, gtr, gct, gsi, gso, gho, rk, rf, rw', rv, rs, rst⟩ := E.Th ht
        obtain ⟨G', e7, R'⟩ := wtr R ht2 hj a3
        simp only [fX9_trait, fX10_trait, R.o10, ob_s, bI_s, pU_s, if_true, if_false, i10, reduceCtorEq, e1, e2, e3, e4, e5, e6, R.t5 ht2, aI_n (R.tm ht2) (by decide) hj, e7, i5, mRn (show 5 * t + j < 100 by omega) (by decide), mUn (show 5 * t + j < 100 by omega) (by decide), (gtr j hj).1]
        refine ok_w R' ?_ _
        obtain ⟨h1, h2, h3', h4', h5, h6, h7, h8⟩ := id E
        refine ⟨h1, h2, fun t' ht' => ?_, ⟨fun i hi => ?_, h4'.2⟩, ?_, h6, h7, h8⟩
        · obtain ⟨q1, q2, q3, q4⟩ := h3' t' ht'
          refine ⟨q1, fun i hi => ?_, q3, q4⟩
          by_cases e : t' = t ∧ i = j
          · obtain ⟨rfl, rfl⟩ := e
            refine ⟨?_, ?_⟩
            · show upd (v.2.1 5) _ _ _ = u3 T 0 _ _ _ 0 _ _
              simp [u3, upd]
            · rw [show u3 T 0 t' i a3 0 t' i = a3 by simp [u3, upd]]
              exact rg_n (by decide) ⟨h3, h4⟩
          · have e8 : 5 * t' + i ≠ 5 * t + j := fun q => e ⟨by omega, by omega⟩
            rw [show u3 T 0 t j a3 0 t' i = T 0 t' i by
              by_cases e9 : t' = t
              · have : i ≠ j := fun q => e ⟨e9, q⟩
                simp [u3, upd, e9, this]
              · simp [u3, e9]]
            refine ⟨?_, (q2 i hi).2⟩
            show upd (v.2.1 5) _ _ _ = _
            rw [pk_un e8]
            exact (q2 i hi).1
        · show upd (v.2.1 5) _ _ _ = _
          rw [pk_un (by omega)]
          exact h4'.1 i hi
        · exact h5
theorem op_spoil (R : Mem z h A M I T J rl G N) (E : tie k M I T v) (a1 : Int32) : OkC z h k N (fX9_spoil h a1 G) (fX10_spoil a1 v) := by
  rcases wc a1 0 30 G v with ⟨e1, e2⟩ | ⟨e1, e2, h1, h2⟩
  · simp only [fX9_spoil, fX10_spoil, R.o10, ob_s, bI_s, pU_s, if_true, if_false, i10, reduceCtorEq, e1, e2]
    exact fd R E 1 (by decide) rfl
  · obtain ⟨G', e7, R'⟩ := wo14 R a1
    simp only [fX9_spoil, fX10_spoil, R.o10, ob_s, bI_s, pU_s, if_true, if_false, i10, reduceCtorEq, e1, e2, R.f14, e7, E.1.1.2.1]
    refine ok_w R' ?_ _
    obtain ⟨⟨⟨n1, n2, n3⟩, n4, n5, n6, n7, n8⟩, h2', h3', h4', h5, h6, h7, h8⟩ := id E
    exact ⟨⟨⟨n1, rfl, n3⟩, n4, n5, n6, n7, rg_n (by decide) ⟨h1, h2⟩⟩, h2', h3', h4', h5, h6, h7, h8⟩
theorem rM_of {x : Int32} (h1 : ¬ x < -1) (h2 : ¬ (15 : Int32) < x) : rM x 15 := by
  by_cases h0 : x < 0
  · refine .inl (Int32.toInt_inj.mp ?_)
    have a := Int32.lt_iff_toInt_lt.mp h0
    have b := Int32.le_iff_toInt_le.mp (Int32.not_lt.mp h1)
    have c1 : (0 : Int32).toInt = 0 := by decide
    have c2 : (-1 : Int32).toInt = -1 := by decide
    omega
  · exact .inr (rg_n (by decide) ⟨h0, h2⟩)
theorem op_word (R : Mem z h A M I T J rl G N) (E : tie k M I T v) (a1 a2 a3 : Int32) : OkC z h k N (fX9_word h a1 a2 a3 G) (fX10_word a1 a2 a3 v) := by
  rcases sc R E a1 with ⟨e1, e2⟩ | ⟨t, ht, rfl, e1, e2⟩
  · simp only [fX9_word, fX10_word, R.o10, ob_s, bI_s, pU_s, if_true, if_false, i10, reduceCtorEq, e1, e2]
    exact fd R E 1 (by decide) rfl
  · rcases trc a2 G v with ⟨e3, e4⟩ | ⟨j, hj, rfl, e3, e4⟩
    · simp only [fX9_word, fX10_word, R.o10, ob_s, bI_s, pU_s, if_true, if_false, i10, reduceCtorEq, e1, e2, e3, e4]
      exact fd R E 1 (by decide) rfl
    · rcases wc a3 (-1) 15 G v with ⟨e5, e6⟩ | ⟨e5, e6, h3, h4⟩
      · simp only [fX9_word, fX10_word, R.o10, ob_s, bI_s, pU_s, if_true, if_false, i10, reduceCtorEq, e1, e2, e3, e4, e5, e6]
        exact fd R E 1 (by decide) rfl
      · have ht2 : t < M 2 1 := by rw [E.e1]; exact ht
        have hb := E.b1
        have ht20 : t < 8 := by omega
        obtain ⟨⟨g18, g20, g21, g22, g23⟩, gwd, r30, r32, r33, r34⟩ := E.Sk ht
        obtain ⟨G', e7, R'⟩ := wwd R ht2 hj a3
        simp only [fX9_word, fX10_word, R.o10, ob_s, bI_s, pU_s, if_true, if_false, i10, reduceCtorEq, e1, e2, e3, e4, e5, e6, R.s1 ht2, aI_n (R.sm ht2) (by decide) hj, e7, i5, mRn (show 5 * t + j < 40 by omega) (by decide), mUn (show 5 * t + j < 40 by omega) (by decide), (gwd j hj).1]
        refine ok_w R' ?_ _
        obtain ⟨h1, h2, h3', h4', h5, h6, h7, h8⟩ := id E
        refine ⟨h1, h2, h3', h4', fun t' ht' => ?_, h6, h7, h8⟩
        obtain ⟨q1, q2, q3, q4⟩ := h5 t' ht'
        refine ⟨q1, fun i hi => ?_, q3, q4⟩
        by_cases e : t' = t ∧ i = j
        · obtain ⟨rfl, rfl⟩ := e
          refine ⟨?_, ?_⟩
          · show upd (v.2.1 19) _ _ _ = u3 T 2 _ _ _ 2 _ _
            simp [u3, upd]
          · rw [show u3 T 2 t' i a3 2 t' i = a3 by simp [u3, upd]]
            exact rM_of h3 h4
        · have e8 : 5 * t' + i ≠ 5 * t + j := fun q => e ⟨by omega, by omega⟩
          rw [show u3 T 2 t j a3 2 t' i = T 2 t' i by
            by_cases e9 : t' = t
            · have : i ≠ j := fun q => e ⟨e9, q⟩
              simp [u3, upd, e9, this]
            · simp [u3, e9]]
          refine ⟨?_, (q2 i hi).2⟩
          show upd (v.2.1 19) _ _ _ = _
          rw [pk_un e8]
          exact (q2 i hi).1
theorem rg_w {x lo : Int32} {n : Nat} {hi : Int32} (hh : hi.toInt = n) (hl : 0 ≤ lo.toInt) (h1 : ¬ x < lo) (h2 : ¬ hi < x) : rB x n := by
  refine rg_n hh ⟨fun q => h1 ?_, h2⟩
  have := Int32.lt_iff_toInt_lt.mp q
  have c1 : (0 : Int32).toInt = 0 := by decide
  rw [Int32.lt_iff_toInt_lt]
  omega
theorem op_span (R : Mem z h A M I T J rl G N) (E : tie k M I T v) (a1 a2 a3 : Int32) : OkC z h k N (fX9_span h a1 a2 a3 G) (fX10_span a1 a2 a3 v) := by
  rcases sc R E a1 with ⟨e1, e2⟩ | ⟨t, ht, rfl, e1, e2⟩
  · simp only [fX9_span, fX10_span, R.o10, ob_s, bI_s, pU_s, if_true, if_false, i10, reduceCtorEq, e1, e2]
    exact fd R E 1 (by decide) rfl
  · rcases wc a2 1 5000 G v with ⟨e3, e4⟩ | ⟨e3, e4, h1, h2⟩
    · simp only [fX9_span, fX10_span, R.o10, ob_s, bI_s, pU_s, if_true, if_false, i10, reduceCtorEq, e1, e2, e3, e4]
      exact fd R E 1 (by decide) rfl
    · rcases wc a3 a2 5000 G v with ⟨e5, e6⟩ | ⟨e5, e6, h3, h4⟩
      · simp only [fX9_span, fX10_span, R.o10, ob_s, bI_s, pU_s, if_true, if_false, i10, reduceCtorEq, e1, e2, e3, e4, e5, e6]
        exact fd R E 1 (by decide) rfl
      · have ht2 : t < M 2 1 := by rw [E.e1]; exact ht
        have hb := E.b1
        have ht20 : t < 8 := by omega
        obtain ⟨⟨g18, g20, g21, g22, g23⟩, gwd, r30, r32, r33, r34⟩ := E.Sk ht
        obtain ⟨G', e7, R'⟩ := ws2 R ht2 a2
        obtain ⟨G'', e8, R''⟩ := ws3 R' ht2 a3
        simp only [fX9_span, fX10_span, R.o10, ob_s, bI_s, pU_s, if_true, if_false, i10, reduceCtorEq, e1, e2, e3, e4, e5, e6, e7, e8, mUn ht20 (by decide)]
        refine ok_w R'' ?_ _
        obtain ⟨h1', h2', h3', h4', h5, h6, h7, h8⟩ := id E
        refine ⟨h1', h2', h3', h4', fun t' ht' => ?_, h6, h7, h8⟩
        obtain ⟨⟨p1, p2, p3, p4⟩, q2, q3, q4, q5, q6⟩ := h5 t' ht'
        have ra : rB a2 5000 := rg_w (by decide) (by decide) h1 h2
        have rb : rB a3 5000 := by
          obtain ⟨p, hp, rfl⟩ := ra
          exact rg_w (by decide) (by rw [nI_toInt (by omega)]; omega) h3 h4
        by_cases e : t' = t
        · subst e
          refine ⟨⟨p1, ?_, ?_, p4⟩, q2, q3, ?_, ?_, q6⟩
          · show upd (v.2.1 20) _ _ _ = upd (I 32) _ _ _
            rw [pk_us, pk_us]
          · show upd (v.2.1 21) _ _ _ = upd (I 33) _ _ _
            rw [pk_us, pk_us]
          · show rB (upd (I 32) _ _ _) _
            rw [pk_us]; exact ra
          · show rB (upd (I 33) _ _ _) _
            rw [pk_us]; exact rb
        · refine ⟨⟨p1, ?_, ?_, p4⟩, q2, q3, ?_, ?_, q6⟩
          · show upd (v.2.1 20) _ _ _ = upd (I 32) _ _ _
            rw [pk_un e, pk_un e]; exact p2
          · show upd (v.2.1 21) _ _ _ = upd (I 33) _ _ _
            rw [pk_un e, pk_un e]; exact p3
          · show rB (upd (I 32) _ _ _) _
            rw [pk_un e]; exact q4
          · show rB (upd (I 33) _ _ _) _
            rw [pk_un e]; exact q5
theorem op_points (R : Mem z h A M I T J rl G N) (E : tie k M I T v) (a1 a2 : Int32) : OkC z h k N (fX9_points h a1 a2 G) (fX10_points a1 a2 v) := by
  rcases trc a1 G v with ⟨e3, e4⟩ | ⟨j, hj, rfl, e3, e4⟩
  · simp only [fX9_points, fX10_points, R.o10, ob_s, bI_s, pU_s, if_true, if_false, i10, reduceCtorEq, e3, e4]
    exact fd R E 1 (by decide) rfl
  · rcases wc a2 0 20 G v with ⟨e5, e6⟩ | ⟨e5, e6, h3, h4⟩
    · simp only [fX9_points, fX10_points, R.o10, ob_s, bI_s, pU_s, if_true, if_false, i10, reduceCtorEq, e3, e4, e5, e6]
      exact fd R E 1 (by decide) rfl
    · obtain ⟨G', e7, R'⟩ := w50 R hj a2
      obtain ⟨h1, ⟨r1, r2, r3, r4, r5, r6⟩, h3', h4', h5, h6, h7, h8⟩ := id E
      simp only [fX9_points, fX10_points, R.o10, ob_s, bI_s, pU_s, if_true, if_false, i10, reduceCtorEq, e3, e4, e5, e6, R.f3, aI_n (R.c 3 0 0 ⟨by decide, rfl⟩) (show 5 < 2 ^ 31 by decide) hj, e7, mRn hj (show 5 < 2 ^ 31 by decide), mUn hj (show 5 < 2 ^ 31 by decide), r1]
      refine ok_w R' ?_ _
      refine ⟨h1, ⟨?_, r2, r3, r4, fun i hi => ?_, r6⟩, h3', h4', h5, h6, h7, h8⟩
      · show upd (v.2.1 24) _ _ = upd (I 50) _ _
        rw [r1]
      · show rB (upd (I 50) _ _ _) _
        by_cases e : i = j
        · subst e; rw [pk_us]; exact rg_n (by decide) ⟨h3, h4⟩
        · rw [pk_un e]; exact r5 i hi
theorem op_law (R : Mem z h A M I T J rl G N) (E : tie k M I T v) (a1 a2 : Int32) : OkC z h k N (fX9_law h a1 a2 G) (fX10_law a1 a2 v) := by
  rcases wc a1 0 3 G v with ⟨e3, e4⟩ | ⟨e3, e4, h1', h2'⟩
  · simp only [fX9_law, fX10_law, R.o10, ob_s, bI_s, pU_s, if_true, if_false, i10, reduceCtorEq, e3, e4]
    exact fd R E 1 (by decide) rfl
  · obtain ⟨j, hj', rfl⟩ := rg_n (n := 3) (by decide) ⟨h1', h2'⟩
    have hj : j < 4 := by omega
    rcases wc a2 0 60 G v with ⟨e5, e6⟩ | ⟨e5, e6, h3, h4⟩
    · simp only [fX9_law, fX10_law, R.o10, ob_s, bI_s, pU_s, if_true, if_false, i10, reduceCtorEq, e3, e4, e5, e6]
      exact fd R E 1 (by decide) rfl
    · obtain ⟨G', e7, R'⟩ := w51 R hj a2
      obtain ⟨h1, ⟨r1, r2, r3, r4, r5, r6⟩, h3', h4', h5, h6, h7, h8⟩ := id E
      simp only [fX9_law, fX10_law, R.o10, ob_s, bI_s, pU_s, if_true, if_false, i10, reduceCtorEq, e3, e4, e5, e6, R.f4, aI_n (R.c 3 1 0 ⟨by decide, rfl⟩) (show 4 < 2 ^ 31 by decide) hj, e7, mRn hj (show 4 < 2 ^ 31 by decide), mUn hj (show 4 < 2 ^ 31 by decide), r2]
      refine ok_w R' ?_ _
      refine ⟨h1, ⟨r1, ?_, r3, r4, r5, fun i hi => ?_⟩, h3', h4', h5, h6, h7, h8⟩
      · show upd (v.2.1 28) _ _ = upd (I 51) _ _
        rw [r2]
      · show rB (upd (I 51) _ _ _) _
        by_cases e : i = j
        · subst e; rw [pk_us]; exact rg_n (by decide) ⟨h3, h4⟩
        · rw [pk_un e]; exact r6 i hi
end O1
