section O2
variable {z : Nat → Nat} {h : Nat} {A : Nat → Nat → Nat → Nat} {M : Nat → Nat → Nat} {I : Nat → Nat → Int32} {T : Nat → Nat → Nat → Int32} {J : Nat → Nat → Int64} {rl : Nat → Nat × Nat × Nat} {G : gM} {N k : Nat} {v : mS}
theorem op_about (R : Mem z h A M I T J rl G N) (E : tie k M I T v) (a1 a2 : Int32) : OkC z h k N (fX9_about h a1 a2 G) (fX10_about a1 a2 v) := by
  rcases tc R E a1 with ⟨e1, e2⟩ | ⟨t, ht, rfl, e1, e2⟩
  · simp only [fX9_about, fX10_about, R.o10, ob_s, bI_s, pU_s, if_true, if_false, i10, reduceCtorEq, e1, e2]
    exact fd R E 1 (by decide) rfl
  · rcases wc a2 0 10 G v with ⟨e3, e4⟩ | ⟨e3, e4, h3, h4⟩
    · simp only [fX9_about, fX10_about, R.o10, ob_s, bI_s, pU_s, if_true, if_false, i10, reduceCtorEq, e1, e2, e3, e4]
      exact fd R E 1 (by decide) rfl
    · have ht2 : t < M 2 0 := by rw [E.e0]; exact ht
      have hb := E.b0
      have ht20 : t < 20 := by omega
      obtain ⟨⟨g3, g4, g6, g7, g8, g9, g10⟩, gtr, gct, gsi, gso, gho, rk, rf, rw', rv, rs, rst⟩ := E.Th ht
      by_cases q0 : a2 = 0
      · simp only [fX9_about, fX10_about, R.o10, ob_s, bI_s, pU_s, if_true, if_false, i10, reduceCtorEq, e1, e2, e3, e4,  if_pos q0, R.t0 ht2, mRn ht20 (by decide), g3]
        exact ok_ro R E _
      by_cases q1 : a2 = 1
      · simp only [fX9_about, fX10_about, R.o10, ob_s, bI_s, pU_s, if_true, if_false, i10, reduceCtorEq, e1, e2, e3, e4, if_neg q0,  if_pos q1, R.t1 ht2, mRn ht20 (by decide), g4]
        exact ok_ro R E _
      by_cases q2 : a2 = 2
      · simp only [fX9_about, fX10_about, R.o10, ob_s, bI_s, pU_s, if_true, if_false, i10, reduceCtorEq, e1, e2, e3, e4, if_neg q0, if_neg q1,  if_pos q2, R.t2 ht2, mRn ht20 (by decide), g6]
        exact ok_ro R E _
      by_cases q3 : a2 = 3
      · simp only [fX9_about, fX10_about, R.o10, ob_s, bI_s, pU_s, if_true, if_false, i10, reduceCtorEq, e1, e2, e3, e4, if_neg q0, if_neg q1, if_neg q2,  if_pos q3, R.t3 ht2, mRn ht20 (by decide), g7]
        exact ok_ro R E _
      by_cases q4 : a2 = 4
      · simp only [fX9_about, fX10_about, R.o10, ob_s, bI_s, pU_s, if_true, if_false, i10, reduceCtorEq, e1, e2, e3, e4, if_neg q0, if_neg q1, if_neg q2, if_neg q3,  if_pos q4, R.t6 ht2, mRn ht20 (by decide), g9]
        exact ok_ro R E _
      by_cases q5 : a2 = 5
      · simp only [fX9_about, fX10_about, R.o10, ob_s, bI_s, pU_s, if_true, if_false, i10, reduceCtorEq, e1, e2, e3, e4, if_neg q0, if_neg q1, if_neg q2, if_neg q3, if_neg q4,  if_pos q5, R.t7 ht2, mRn ht20 (by decide), g10]
        exact ok_ro R E _
      obtain ⟨p, hp, rfl⟩ := rg_n (n := 10) (by decide) ⟨h3, h4⟩
      have hp6 : 6 ≤ p := by
        rcases Nat.lt_or_ge p 6 with q | q
        · have : p = 0 ∨ p = 1 ∨ p = 2 ∨ p = 3 ∨ p = 4 ∨ p = 5 := by omega
          rcases this with rfl | rfl | rfl | rfl | rfl | rfl
          · exact absurd rfl q0
          · exact absurd rfl q1
          · exact absurd rfl q2
          · exact absurd rfl q3
          · exact absurd rfl q4
          · exact absurd rfl q5
        · exact q
      have i1 : nI p - (6 : Int32) = nI (p - 6) := pk_sub (b := 6) hp6
      have i2 : nI (5 * t + p) - (6 : Int32) = nI (5 * t + (p - 6)) := by
        rw [show 5 * t + (p - 6) = 5 * t + p - 6 by omega]
        exact pk_sub (b := 6) (by omega)
      simp only [fX9_about, fX10_about, R.o10, ob_s, bI_s, pU_s, if_true, if_false, i10, reduceCtorEq, e1, e2, e3, e4, if_neg q0, if_neg q1, if_neg q2, if_neg q3, if_neg q4, if_neg q5, R.t5 ht2, i1, i5, i2, aI_n (R.tm ht2) (by decide) (show p - 6 < 5 by omega), mRn (show 5 * t + (p - 6) < 100 by omega) (by decide), (gtr (p - 6) (by omega)).1]
      exact ok_ro R E _
theorem op_sold (R : Mem z h A M I T J rl G N) (E : tie k M I T v) (a1 : Int32) : OkC z h k N (fX9_sold h a1 G) (fX10_sold a1 v) := by
  rcases tc R E a1 with ⟨e1, e2⟩ | ⟨t, ht, rfl, e1, e2⟩
  · simp only [fX9_sold, fX10_sold, R.o10, ob_s, bI_s, pU_s, if_true, if_false, i10, reduceCtorEq, e1, e2]
    exact fd R E 1 (by decide) rfl
  · have ht2 : t < M 2 0 := by rw [E.e0]; exact ht
    have hb := E.b0
    have ht20 : t < 20 := by omega
    obtain ⟨⟨g3, g4, g6, g7, g8, g9, g10⟩, gtr, gct, gsi, gso, gho, rk, rf, rw', rv, rs, rst⟩ := E.Th ht
    by_cases q : I 16 t = 2
    · simp only [fX9_sold, fX10_sold, R.o10, ob_s, bI_s, pU_s, if_true, if_false, i10, reduceCtorEq, e1, e2, R.t6 ht2, R.t9 ht2, mRn ht20 (by decide), g9, if_pos q, (gso q).1]
      exact ok_ro R E _
    · simp only [fX9_sold, fX10_sold, R.o10, ob_s, bI_s, pU_s, if_true, if_false, i10, reduceCtorEq, e1, e2, R.t6 ht2, mRn ht20 (by decide), g9, if_neg q]
      exact fd R E 3 (by decide) rfl
theorem op_post (R : Mem z h A M I T J rl G N) (E : tie k M I T v) (a1 a2 : Int32) : OkC z h k N (fX9_post h a1 a2 G) (fX10_post a1 a2 v) := by
  rcases dc R E a1 with ⟨e1, e2⟩ | ⟨t, ht, rfl, e1, e2⟩
  · simp only [fX9_post, fX10_post, R.o10, ob_s, bI_s, pU_s, if_true, if_false, i10, reduceCtorEq, e1, e2]
    exact fd R E 1 (by decide) rfl
  · rcases wc a2 0 1000 G v with ⟨e3, e4⟩ | ⟨e3, e4, h3, h4⟩
    · simp only [fX9_post, fX10_post, R.o10, ob_s, bI_s, pU_s, if_true, if_false, i10, reduceCtorEq, e1, e2, e3, e4]
      exact fd R E 1 (by decide) rfl
    · have ht2 : t < M 2 2 := by rw [E.e2]; exact ht
      have hb := E.b2
      have ht20 : t < 16 := by omega
      obtain ⟨g26, g27, rp, gw⟩ := E.Ad ht
      obtain ⟨G', e7, R'⟩ := wa2 R ht2 a2
      simp only [fX9_post, fX10_post, R.o10, ob_s, bI_s, pU_s, if_true, if_false, i10, reduceCtorEq, e1, e2, e3, e4, R.a2 ht2, e7, mRn ht20 (by decide), mUn ht20 (by decide), g27]
      refine ok_w R' ?_ _
      obtain ⟨h1', h2', h3', h4', h5, h6, h7, h8⟩ := id E
      refine ⟨h1', h2', h3', h4', h5, fun t' ht' => ?_, h7, h8⟩
      obtain ⟨p1, p2, p3, p4⟩ := h6 t' ht'
      refine ⟨p1, ?_, ?_, p4⟩
      · show upd (v.2.1 27) _ _ _ = upd (I 42) _ _ _
        by_cases e : t' = t
        · rw [e, pk_us, pk_us]
        · rw [pk_un e, pk_un e]; exact p2
      · show rB (upd (I 42) _ _ _) _
        by_cases e : t' = t
        · rw [e, pk_us]; exact rg_n (by decide) ⟨h3, h4⟩
        · rw [pk_un e]; exact p3
theorem op_found (R : Mem z h A M I T J rl G N) (E : tie k M I T v) (a1 : Int32) : OkC z h k N (fX9_found h a1 G) (fX10_found a1 v) := by
  rcases wc a1 1 5 G v with ⟨e1, e2⟩ | ⟨e1, e2, h1, h2⟩
  · simp only [fX9_found, fX10_found, R.o10, ob_s, bI_s, pU_s, if_true, if_false, i10, reduceCtorEq, e1, e2]
    exact fd R E 1 (by decide) rfl
  · obtain ⟨p, hp, rfl⟩ := rg_w (n := 5) (by decide) (by decide) h1 h2
    simp only [fX9_found, fX10_found, R.o10, ob_s, bI_s, pU_s, if_true, if_false, i10, reduceCtorEq, e1, e2, R.f5, aI_n (R.c 3 2 0 ⟨by decide, rfl⟩) (show 6 < 2 ^ 31 by decide) (show p < 6 by omega), mRn (show p < 6 by omega) (show 6 < 2 ^ 31 by decide), E.2.1.2.2.1]
    exact ok_ro R E _
theorem op_tell (R : Mem z h A M I T J rl G N) (E : tie k M I T v) (a1 : Int32) : OkC z h k N (fX9_tell h a1 G) (fX10_tell a1 v) := by
  obtain ⟨p, hp, e1⟩ := E.1.2.2.2.1
  have e2 : v.1 32 = nI p := E.1.1.2.2.2.2.2.1.trans e1
  rcases Nat.lt_or_ge p 20 with hp2 | hp2
  · obtain ⟨G', e7, R'⟩ := w53 R hp2 a1
    have e8 : gI [10] 12 G' h = some (nI p) := by rw [← e1]; exact R'.f12
    obtain ⟨G'', e9, R''⟩ := wo12 R' (nI p + 1)
    have e10 : gI [10] 12 G'' h = some (nI p + 1) := R''.f12
    have c1 : ¬ nI p = (20 : Int32) := fun q => by
      have := (nI_eq (a := p) (b := 20) (by omega) (by decide)).mp q
      omega
    have c2 : nI p < (20 : Int32) := nI_lt (b := 20) hp2 (by decide)
    simp only [fX9_tell, fX10_tell, R.o10, ob_s, bI_s, pU_s, if_true, if_false, i10, reduceCtorEq, R.f12, R.f6, e1, e2, e7, e8, e9, e10, if_neg c1, if_pos c2, mUn hp2 (by decide)]
    have e11 : (mF (mA v 33 p a1) 32 ((mA v 33 p a1).1 32 + 1)).1 32 = nI p + 1 := by
      show (mA v 33 p a1).1 32 + 1 = _
      show v.1 32 + 1 = _
      rw [e2]
    rw [e11]
    refine ok_w R'' ?_ _
    obtain ⟨⟨⟨n1, n2, n3, n4, n5, n6, n7⟩, n8, n9, n10, n11, n12⟩, ⟨r1, r2, r3, r4, r5, r6⟩, h3', h4', h5, h6, h7, h8⟩ := id E
    refine ⟨⟨⟨n1, n2, n3, n4, n5, e11, n7⟩, n8, n9, ⟨p + 1, by omega, nI_1 p⟩, n11, n12⟩, ⟨r1, r2, r3, ?_, r5, r6⟩, h3', h4', h5, h6, h7, h8⟩
    show upd (v.2.1 33) _ _ = upd (I 53) _ _
    rw [r4]
  · have : p = 20 := by omega
    subst this
    have c1 : nI 20 = (20 : Int32) := rfl
    have c2 : ¬ nI 20 < (20 : Int32) := by decide
    simp only [fX9_tell, fX10_tell, R.o10, ob_s, bI_s, pU_s, if_true, if_false, i10, reduceCtorEq, R.f12, e1, e2, if_pos c1, if_neg c2]
    exact fd R E 4 (by decide) rfl
theorem nar0 : vp_nar .boolean (0 : Int32) = 0 := by decide
theorem nar1 : vp_nar .boolean (1 : Int32) = 1 := by decide
/-- a false word, on both sides -/
theorem fal (R : Mem z h A M I T J rl G N) (E : tie k M I T v) {t : Nat} (ht : t < M 0 1) (hb : I 34 t < 3) : ∃ v' G', fX10_tellsFalse (nI t) v = some v' ∧ pV [8] 4 (.int (I 34 t + 1)) G (A 5 t 0) = some G' ∧ Mem z h A M (uu I 34 t (I 34 t + 1)) T J rl G' N ∧ tie k M (uu I 34 t (I 34 t + 1)) T v' := by
  obtain ⟨⟨g18, g20, g21, g22, g23⟩, gwd, r30, r32, r33, r34⟩ := E.Sk ht
  have hb1 := E.b1
  have ht2 : t < M 2 1 := by rw [E.e1]; exact ht
  obtain ⟨G', e7, R'⟩ := ws4 R ht2 (I 34 t + 1)
  refine ⟨mA (mA v 22 t (I 34 t + 1)) 23 t (if I 34 t + 1 < 3 then 0 else 1), G', ?_, e7, R', ?_⟩
  · have e1 : (mA v 22 t (I 34 t + 1)).2.1 22 t = I 34 t + 1 := by
      show upd (v.2.1 22) _ _ _ = _
      rw [pk_us]
    by_cases q : I 34 t + 1 < 3
    · simp only [fX10_tellsFalse, mRn (show t < 8 by omega) (by decide), mUn (show t < 8 by omega) (by decide), ob_s, e1, if_pos q, nar0, g22]
    · simp only [fX10_tellsFalse, mRn (show t < 8 by omega) (by decide), mUn (show t < 8 by omega) (by decide), ob_s, e1, if_neg q, nar1, g22]
  · obtain ⟨h1', h2', h3', h4', h5, h6, h7, h8⟩ := id E
    refine ⟨h1', h2', h3', ⟨h4'.1, fun s hs => ?_⟩, fun t' ht' => ?_, h6, h7, h8⟩
    · show upd (v.2.1 22) _ _ _ = 0 ∧ upd (v.2.1 23) _ _ _ = 0
      rw [pk_un (by omega), pk_un (by omega)]
      exact h4'.2 s hs
    · obtain ⟨⟨p1, p2, p3, p4, p5⟩, q2, q3, q4, q5, q6⟩ := h5 t' ht'
      by_cases e : t' = t
      · subst e
        refine ⟨⟨p1, p2, p3, ?_, ?_⟩, q2, q3, q4, q5, ?_⟩
        · show upd (v.2.1 22) _ _ _ = upd (I 34) _ _ _
          rw [pk_us, pk_us]
        · show upd (v.2.1 23) _ _ _ = if upd (I 34) _ _ _ < 3 then 0 else 1
          rw [pk_us, pk_us]
        · show rB (upd (I 34) _ _ _) _
          rw [pk_us]
          obtain ⟨p, hp, e9⟩ := q6
          rw [e9] at hb ⊢
          have hb2 : p < 3 := (nI_ltI (b := 3) (by omega) (by decide)).mp hb
          exact ⟨p + 1, by omega, nI_1 p⟩
      · refine ⟨⟨p1, p2, p3, ?_, ?_⟩, q2, q3, q4, q5, ?_⟩
        · show upd (v.2.1 22) _ _ _ = upd (I 34) _ _ _
          rw [pk_un e, pk_un e]; exact p4
        · show upd (v.2.1 23) _ _ _ = if upd (I 34) _ _ _ < 3 then 0 else 1
          rw [pk_un e, pk_un e]; exact p5
        · show rB (upd (I 34) _ _ _) _
          rw [pk_un e]; exact q6
theorem op_owed (R : Mem z h A M I T J rl G N) (E : tie k M I T v) (a1 a2 a3 : Int32) : OkC z h k N (fX9_owed h a1 a2 a3 G) (fX10_owed a1 a2 a3 v) := by
  rcases sc R E a1 with ⟨e1, e2⟩ | ⟨s, hs, rfl, e1, e2⟩
  · rcases tc R E a2 with ⟨e3, e4⟩ | ⟨t, ht, rfl, e3, e4⟩
    · simp only [fX9_owed, fX10_owed, R.o10, ob_s, bI_s, pU_s, if_true, if_false, i10, reduceCtorEq, e1, e2, e3, e4]
      exact fd R E 1 (by decide) rfl
    · simp only [fX9_owed, fX10_owed, R.o10, ob_s, bI_s, pU_s, if_true, if_false, i10, reduceCtorEq, e1, e2, e3, e4]
      exact fd R E 1 (by decide) rfl
  · rcases tc R E a2 with ⟨e3, e4⟩ | ⟨t, ht, rfl, e3, e4⟩
    · simp only [fX9_owed, fX10_owed, R.o10, ob_s, bI_s, pU_s, if_true, if_false, i10, reduceCtorEq, e1, e2, e3, e4]
      exact fd R E 1 (by decide) rfl
    · rcases wc a3 1 9999 G v with ⟨e5, e6⟩ | ⟨e5, e6, h3, h4⟩
      · simp only [fX9_owed, fX10_owed, R.o10, ob_s, bI_s, pU_s, if_true, if_false, i10, reduceCtorEq, e1, e2, e3, e4, e5, e6]
        exact fd R E 1 (by decide) rfl
      · have ht2 : t < M 2 0 := by rw [E.e0]; exact ht
        have hb := E.b0
        have ht20 : t < 20 := by omega
        obtain ⟨⟨g3, g4, g6, g7, g8, g9, g10⟩, gtr, gct, gsi, gso, gho, rk, rf, rw', rv, rs, rst⟩ := E.Th ht
        have hs2 : s < M 2 1 := by rw [E.e1]; exact hs
        have hb1 := E.b1
        have hs8 : s < 8 := by omega
        obtain ⟨⟨g18, g20, g21, g22, g23⟩, gwd, r30, r32, r33, r34⟩ := E.Sk hs
        by_cases q1 : I 16 t = 2
        · by_cases q2 : I 20 t = 0
          · by_cases q3 : (1095 : Int32) < I 0 13 - I 18 t
            · simp only [fX9_owed, fX10_owed, R.o10, ob_s, bI_s, pU_s, if_true, if_false, i10, reduceCtorEq, e1, e2, e3, e4, e5, e6, R.t6 ht2, R.t8 ht2, R.t10 ht2, R.f13, mRn ht20 (by decide), g9, if_pos q1, (gso q1).2, if_pos q2, gsi (.inr q1), E.1.1.1, if_pos q3]
              exact fd R E 3 (by decide) rfl
            · by_cases q4 : I 34 s < 3
              · by_cases q5 : a3 = I 14 t
                · obtain ⟨G', e7, R'⟩ := wt10 R ht2 1
                  have e8 : gI [10] 15 G' h = some (I 0 15) := R'.f15
                  obtain ⟨G'', e9, R''⟩ := wo15 R' (I 0 15 + (I 19 t - I 19 t / 10))
                  have e10 : (mA v 13 t 1).2.1 12 t = I 19 t := (gso q1).1
                  have e11 : (mA v 13 t 1).1 34 = I 0 15 := E.1.1.2.2.2.2.2.2
                  simp only [fX9_owed, fX10_owed, R.o10, ob_s, bI_s, pU_s, if_true, if_false, i10, reduceCtorEq, fX7_isBarred, e1, e2, e3, e4, e5, e6, R.t6 ht2, R.t8 ht2, R.t9 ht2, R.t4 ht2, R.t10 ht2, R.f13, R.so hs2, R.s4 hs2, mRn ht20 (by decide), mRn hs8 (by decide), mUn ht20 (by decide), g8, g9, g23, if_pos q1, (gso q1).2, if_pos q2, gsi (.inr q1), E.1.1.1, if_neg q3, if_pos q4, if_pos q5, e7, e8, e9, nar1, e10, e11]
                  refine ok_w R'' ?_ _
                  obtain ⟨⟨⟨n1, n2, n3, n4, n5, n6, n7⟩, n8⟩, h2', h3', h4', h5, h6, h7, h8⟩ := id E
                  refine ⟨⟨⟨n1, n2, n3, n4, n5, n6, rfl⟩, n8⟩, h2', fun t' ht' => ?_, h4', h5, h6, h7, h8⟩
                  obtain ⟨p1, p2, p3, p4, p5, p6, p7, p8, p9, p10, p11, p12, p13⟩ := h3' t' ht'
                  refine ⟨p1, p2, p3, p4, fun z2 => ⟨(p5 z2).1, ?_⟩, p6, p7, p8, p9, p10, p11, p12, ?_⟩
                  · show upd (v.2.1 13) _ _ _ = upd (I 20) _ _ _
                    by_cases e : t' = t
                    · rw [e, pk_us, pk_us]
                    · rw [pk_un e, pk_un e]; exact (p5 z2).2
                  · show I 16 t' = 2 ∨ upd (I 20) _ _ _ = _
                    by_cases e : t' = t
                    · rw [e]; exact .inl q1
                    · rw [pk_un e]; exact p13
                · obtain ⟨v', G', e7, e8, R', E'⟩ := fal R E hs q4
                  simp only [fX9_owed, fX10_owed, R.o10, ob_s, bI_s, pU_s, if_true, if_false, i10, reduceCtorEq, fX7_isBarred, e1, e2, e3, e4, e5, e6, R.t6 ht2, R.t8 ht2, R.t4 ht2, R.t10 ht2, R.f13, R.so hs2, R.s4 hs2, mRn ht20 (by decide), mRn hs8 (by decide), g8, g9, g23, if_pos q1, (gso q1).2, if_pos q2, gsi (.inr q1), E.1.1.1, if_neg q3, if_pos q4, if_neg q5, e7, e8, R'.o10]
                  exact fd R' E' 2 (by decide) rfl
              · simp only [fX9_owed, fX10_owed, R.o10, ob_s, bI_s, pU_s, if_true, if_false, i10, reduceCtorEq, fX7_isBarred, e1, e2, e3, e4, e5, e6, R.t6 ht2, R.t8 ht2, R.t10 ht2, R.f13, R.so hs2, R.s4 hs2, mRn ht20 (by decide), mRn hs8 (by decide), g9, g23, if_pos q1, (gso q1).2, if_pos q2, gsi (.inr q1), E.1.1.1, if_neg q3, if_neg q4]
                exact fd R E 3 (by decide) rfl
          · simp only [fX9_owed, fX10_owed, R.o10, ob_s, bI_s, pU_s, if_true, if_false, i10, reduceCtorEq, e1, e2, e3, e4, e5, e6, R.t6 ht2, R.t10 ht2, mRn ht20 (by decide), g9, if_pos q1, (gso q1).2, if_neg q2]
            exact fd R E 3 (by decide) rfl
        · simp only [fX9_owed, fX10_owed, R.o10, ob_s, bI_s, pU_s, if_true, if_false, i10, reduceCtorEq, e1, e2, e3, e4, e5, e6, R.t6 ht2, mRn ht20 (by decide), g9, if_neg q1]
          exact fd R E 3 (by decide) rfl
end O2
