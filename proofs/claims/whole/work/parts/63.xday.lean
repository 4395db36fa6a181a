section O9
variable {z : Nat → Nat} {h : Nat} {A : Nat → Nat → Nat → Nat} {M : Nat → Nat → Nat} {I : Nat → Nat → Int32} {T : Nat → Nat → Nat → Int32} {J : Nat → Nat → Int64} {rl : Nat → Nat × Nat × Nat} {G : gM} {N k : Nat} {v : mS}
/-- a row of numbers with one part put in place of another -/
def mr4 (M M' : Nat → Nat → Nat) : Nat → Nat → Nat := fun a => if a = 4 then M' 4 else M a
theorem mr4_n {M M' : Nat → Nat → Nat} {a : Nat} (h : a ≠ 4) : mr4 M M' a = M a := if_neg h
theorem mr4_4 {M M' : Nat → Nat → Nat} : mr4 M M' 4 = M' 4 := rfl
theorem mr4_id {M M' : Nat → Nat → Nat} (h : ∀ a, a ≠ 4 → M' a = M a) : mr4 M M' = M' := by
  funext a
  by_cases e : a = 4
  · rw [e]; rfl
  · rw [mr4_n e, h a e]
theorem sp2 {Mt : Nat → Nat → Nat} (R : Mem z h A M I T J rl G N) (E : tie k Mt I T v) (hk : k < 600) {t : Nat} (ht2 : t < M 2 0) (ht : t < Mt 0 0) (hM4 : Mt 4 = M 4) (s : Nat) : ∃ b v' A' M' I' T' rl' G' N' s', fX9_spoilIfOld h (some (A 4 t 0)) (G, N, s) = some (b, (G', N', s')) ∧ (N' ≤ N + 1 ∧ s' ≤ s + 3) ∧ fX10_spoils (nI t) v = some (b, v) ∧ ((b = 0 ∧ v' = v) ∨ (b = 1 ∧ fX10_becomes (nI t) 3 v = some v')) ∧ Mem z h A' M' I' T' J rl' G' N' ∧ (∀ κ, κ ≠ 10 → A' κ = A κ) ∧ (∀ a, a ≠ 4 → M' a = M a) ∧ tie k (mr4 Mt M') I' T' v' := by
  have hb := E.b0
  have ht20 : t < 20 := by omega
  have hmr : mr4 Mt M = Mt := by
    funext a
    by_cases e : a = 4
    · rw [e, mr4_4, hM4]
    · rw [mr4_n e]
  obtain ⟨⟨g3, g4, g6, g7, g8, g9, g10⟩, gtr, gct, gsi, gso, gho, rk, rf, rw', rv, rs, rst⟩ := E.Th ht
  obtain ⟨⟨n1, n2, -⟩, -⟩ := E.1
  by_cases q1 : I 10 t = 2
  · by_cases q2 : I 16 t = 0
    · by_cases q3 : I 0 14 ≤ I 0 13 - I 11 t
      · obtain ⟨n, en, hn⟩ := E.ev hk
        obtain ⟨q, eo⟩ := R.to ht2
        obtain ⟨A', M', T', rl', G', N', s', b1, b2, R1, B⟩ := bec R ht2 3 (I 0 13) s
        have B' := B
        obtain ⟨B1, B2, B3, B4, B5, B6⟩ := B
        refine ⟨1, vB v t 3 n, A', M', _, T', rl', G', N', s', ?_, b2, ?_, .inr ⟨rfl, bec_m ht20 hn en 3⟩, R1, B1, B2, ?_⟩
        · simp only [fX9_spoilIfOld, fX9_spoilIfOld_42, R.o10, ob_s, bI_s, pU_s, if_true, if_false, i10, reduceCtorEq, R.t0 ht2, R.t6 ht2, R.t1 ht2, R.f13, R.f14, if_pos q1, if_pos q2, if_pos q3, eo, b1]
        · simp only [fX10_spoils, ob_s, bI_s, pU_s, if_true, if_false, i10, reduceCtorEq, mRn ht20 (by decide), g3, g9, g4, n1, n2, if_pos q1, if_pos q2, if_neg (Int32.not_lt.mpr q3)]
        · refine tie_bec E ht en hn (by omega) B' hM4 (fun a ha => mr4_n ha) rfl (fun r i hr => ?_) uu_s rfl (fun r _ _ _ => rfl) (fun r i hi hr => ?_) ?_ (fun q => absurd q (by decide)) (fun q => absurd q (by decide)) (.inr ?_) ⟨3, by decide, rfl⟩ (.inr (by rw [uu_o (.inl (by decide))]; exact rst.2.resolve_left (fun q => absurd (q2.symm.trans q) (by decide)))) ?_
          · rw [uu_o (by omega)]
          · rcases hr with rfl | rfl | rfl <;> rfl
          · show v.2.1 10 t = uu I 16 t 3 17 t
            rw [uu_o (.inl (by decide))]; exact g10
          · rw [uu_o (.inl (by decide))]
            rcases gho with g | g
            · rw [q2] at g; exact absurd g (by decide)
            · exact g
          · have z1 := nf_u (I := I) (I' := uu I 16 t 3) (t := t) (fun i hi => by rw [uu_o (.inr hi)]) (Mt 0 0)
            rw [if_pos ht, if_pos ht, q2, uu_s] at z1
            have z2 : b01 0 = 1 := by decide
            have z3 : b01 3 = 0 := by decide
            omega
      · refine ⟨0, v, A, M, I, T, rl, G, N, s, ?_, ⟨by omega, by omega⟩, ?_, .inl ⟨rfl, rfl⟩, R, fun _ _ => rfl, fun _ _ => rfl, by rw [hmr]; exact E⟩
        · simp only [fX9_spoilIfOld, R.o10, ob_s, bI_s, pU_s, if_true, if_false, i10, reduceCtorEq, R.t0 ht2, R.t6 ht2, R.t1 ht2, R.f13, R.f14, if_pos q1, if_pos q2, if_neg q3]
        · simp only [fX10_spoils, ob_s, bI_s, pU_s, if_true, if_false, i10, reduceCtorEq, mRn ht20 (by decide), g3, g9, g4, n1, n2, if_pos q1, if_pos q2, if_pos (Int32.not_le.mp q3)]
    · refine ⟨0, v, A, M, I, T, rl, G, N, s, ?_, ⟨by omega, by omega⟩, ?_, .inl ⟨rfl, rfl⟩, R, fun _ _ => rfl, fun _ _ => rfl, by rw [hmr]; exact E⟩
      · simp only [fX9_spoilIfOld, R.o10, ob_s, bI_s, pU_s, if_true, if_false, i10, reduceCtorEq, R.t0 ht2, R.t6 ht2, if_pos q1, if_neg q2]
      · simp only [fX10_spoils, ob_s, bI_s, pU_s, if_true, if_false, i10, reduceCtorEq, mRn ht20 (by decide), g3, g9, if_pos q1, if_neg q2]
  · refine ⟨0, v, A, M, I, T, rl, G, N, s, ?_, ⟨by omega, by omega⟩, ?_, .inl ⟨rfl, rfl⟩, R, fun _ _ => rfl, fun _ _ => rfl, by rw [hmr]; exact E⟩
    · simp only [fX9_spoilIfOld, R.o10, ob_s, bI_s, pU_s, if_true, if_false, i10, reduceCtorEq, R.t0 ht2, if_neg q1]
    · simp only [fX10_spoils, ob_s, bI_s, pU_s, if_true, if_false, i10, reduceCtorEq, mRn ht20 (by decide), g3, if_neg q1]
theorem op_day (R : Mem z h A M I T J rl G N) (E : tie k M I T v) (hk : k < 512) {s0 : Nat} (a1 : Int32) : OkN z h k N s0 (fX9_day h a1 (G, N, s0)) (fX10_day a1 v) := by
  obtain ⟨⟨n1, n2, n3, n4, n5, n6, n7⟩, m8, m9, n10, n11, n12⟩ := E.1
  rcases wc a1 (I 0 13) 9999 G v with ⟨e1, e2⟩ | ⟨e1, e2, h1, h2⟩
  · simp only [fX9_day, fX10_day, R.o10, ob_s, bI_s, pU_s, if_true, if_false, i10, reduceCtorEq, cN_s, wN_s, R.f13, n1, e1, e2]
    exact fdn R E 1 (by decide) rfl
  · obtain ⟨G1, e3, R1⟩ := wo13 R a1
    have hb := E.b0
    have E1 : tie k M (uu I 0 13 a1) T (mF v 0 a1) := by
      obtain ⟨-, h2', h3', h4', h5, h6, h7, h8⟩ := id E
      refine ⟨⟨⟨rfl, n2, n3, n4, n5, n6, n7⟩, m8, m9, n10, ?_, n12⟩, h2', h3', h4', h5, h6, h7, h8⟩
      obtain ⟨d, hd, ed⟩ := n11
      have : rB a1 9999 := rg_w (lo := I 0 13) (by decide) (by rw [ed, nI_toInt (by omega)]; omega) h1 h2
      exact this
    simp only [fX9_day, fX10_day, R.o10, ob_s, bI_s, pU_s, if_true, if_false, i10, reduceCtorEq, cN_s, wN_s, R.f13, n1, e1, e2, e3]
    have key := itN_two (fun f i (a : Int32 × gN) => fX9_day_29 f h a.1 i a.2) (fun f i (b : Int32 × mS) => fX10_day_29 f b.1 i b.2) (M 0 0)
      (fun i a b => a.1 = b.1 ∧ ∃ A' M' I' T' rl', Mem z h A' M' I' T' J rl' a.2.1 a.2.2.1 ∧ tie k M' I' T' b.2 ∧ M' 0 0 = M 0 0 ∧ a.2.2.1 ≤ N + i ∧ a.2.2.2 ≤ s0 + 3 * i) (OkN z h k N s0) ?_ ?_ (M 0 0) 0 ((0 : Int32), ((G1, N, s0) : gN)) ((0 : Int32), mF v 0 a1) (by omega) ⟨rfl, A, M, _, T, rl, R1, E1, rfl, by show N ≤ _; omega, by show s0 ≤ _; omega⟩ FU FU (fuel (by omega)) (fuel (by omega))
    · exact key
    · rintro i ⟨c, G', N', s'⟩ ⟨c', v'⟩ hi ⟨hc, A', M', I', T', rl', R', E', hM, hN, hs⟩
      simp only at hc R' E' hN hs
      subst hc
      have hi0 : i < M' 0 0 := by omega
      have hi2 : i < M' 2 0 := by rw [E'.e0]; exact hi0
      obtain ⟨b, v2, A2, M2, I2, T2, rl2, G2, N2, s2, f1, ⟨f2, f3⟩, f4, f5, R2, f6, f7, E2⟩ := sp2 R' E' (by omega) hi2 hi0 rfl s'
      rw [mr4_id f7] at E2
      have cm : ¬ v'.1 2 ≤ nI i := by rw [E'.1.1.2.2.1]; exact nI_ge hi0 (by omega)
      have stp : ∀ f, fX9_day_29 (f + 1) h c (nI i) (G', N', s') = fX9_day_29 f h (if b = 0 then c else c + 1) (nI (i + 1)) (G2, N2, s2) := fun f => by
        by_cases q : b = 0
        · simp only [fX9_day_29, fX9_day_29_b, fX9_day_55, fX9_day_61, R'.o10, ob_s, bI_s, pU_s, if_true, if_false, i10, reduceCtorEq, R'.f0, R'.lo (show 0 < 4 by decide), sz_n R' (show 0 < 4 by decide), cN_s, if_neg (nI_ge hi0 (show M' 0 0 < 2 ^ 31 by omega)), get_n R' (show 0 < 4 by decide) hi0, eA, R'.tk hi2, f1, if_pos q, nI_1]
        · simp only [fX9_day_29, fX9_day_29_b, fX9_day_55, fX9_day_61, R'.o10, ob_s, bI_s, pU_s, if_true, if_false, i10, reduceCtorEq, R'.f0, R'.lo (show 0 < 4 by decide), sz_n R' (show 0 < 4 by decide), cN_s, if_neg (nI_ge hi0 (show M' 0 0 < 2 ^ 31 by omega)), get_n R' (show 0 < 4 by decide) hi0, eA, R'.tk hi2, f1, if_neg q, nI_1]
      refine ⟨(if b = 0 then c else c + 1, (G2, N2, s2)), (if b = 0 then c else c + 1, v2), ⟨rfl, A2, M2, I2, T2, rl2, R2, E2, by rw [f7 0 (by decide)]; exact hM, by show N2 ≤ _; omega, by show s2 ≤ _; omega⟩, stp, fun f => ?_⟩
      rcases f5 with ⟨q, rfl⟩ | ⟨q, f5⟩
      · simp only [fX10_day_29, fX10_day_29_b, fX10_day_54, bI_s, if_neg cm, f4, if_pos q, nI_1]
      · have q0 : ¬ b = 0 := by rw [q]; decide
        simp only [fX10_day_29, fX10_day_29_b, fX10_day_54, bI_s, ob_s, if_neg cm, f4, f5, if_neg q0, nI_1]
    · rintro ⟨c, G', N', s'⟩ ⟨c', v'⟩ ⟨hc, A', M', I', T', rl', R', E', hM, hN, hs⟩ f g
      simp only at hc R' E' hN hs
      subst hc
      have cm : v'.1 2 ≤ nI (M 0 0) := by rw [E'.1.1.2.2.1, hM]; exact Int32.le_refl _
      have cm2 : nI (M' 0 0) ≤ nI (M 0 0) := by rw [hM]; exact Int32.le_refl _
      simp only [fX10_day_29, fX10_day_29_b, if_pos cm, fX9_day_29, fX9_day_29_b, R'.o10, ob_s, bI_s, pU_s, if_true, if_false, i10, reduceCtorEq, R'.f0, R'.lo (show 0 < 4 by decide), sz_n R' (show 0 < 4 by decide), cN_s, if_pos cm2]
      exact okn_w R' E'.up (by omega) (by omega) _
end O9
