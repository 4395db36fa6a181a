section O8
variable {z : Nat → Nat} {h : Nat} {A : Nat → Nat → Nat → Nat} {M : Nat → Nat → Nat} {I : Nat → Nat → Int32} {T : Nat → Nat → Nat → Int32} {J : Nat → Nat → Int64} {rl : Nat → Nat × Nat × Nat} {G : gM} {N k : Nat} {v : mS}
/-- the reference's becoming -/
def vB (v : mS) (t : Nat) (st : Int32) (n : Nat) : mS := mF (mA (mA (mA (mA (mA v 9 t st) 11 t (v.1 0)) 15 (3 * n) (nI t)) 15 (3 * n + 1) (v.1 0)) 15 (3 * n + 2) st) 16 (nI n + 1)
theorem bec_m {t n : Nat} (ht : t < 20) (hn : n < 3000) (he : v.1 16 = nI n) (st : Int32) : fX10_becomes (nI t) st v = some (vB v t st n) := by
  have j1 : nI (3 * n) + 1 = nI (3 * n + 1) := nI_add _ 1
  have j2 : nI (3 * n) + 2 = nI (3 * n + 2) := nI_add _ 2
  have e1 : (mA v 9 t st).1 0 = v.1 0 := rfl
  have e2 : (mA (mA v 9 t st) 11 t (v.1 0)).1 16 = nI n := he
  have e3 : (mA (mA (mA v 9 t st) 11 t (v.1 0)) 15 (3 * n) (nI t)).1 16 = nI n := he
  have e3' : (mA (mA (mA v 9 t st) 11 t (v.1 0)) 15 (3 * n) (nI t)).1 0 = v.1 0 := rfl
  have e4 : (mA (mA (mA (mA v 9 t st) 11 t (v.1 0)) 15 (3 * n) (nI t)) 15 (3 * n + 1) (v.1 0)).1 16 = nI n := he
  have e5 : (mA (mA (mA (mA (mA v 9 t st) 11 t (v.1 0)) 15 (3 * n) (nI t)) 15 (3 * n + 1) (v.1 0)) 15 (3 * n + 2) st).1 16 = nI n := he
  simp only [fX10_becomes, mUn ht (show 20 < 2 ^ 31 by decide), ob_s, e1, e2, e3, e3', e4, e5, i3, j1, j2, mUn (show 3 * n < 9000 by omega) (show 9000 < 2 ^ 31 by decide), mUn (show 3 * n + 1 < 9000 by omega) (show 9000 < 2 ^ 31 by decide), mUn (show 3 * n + 2 < 9000 by omega) (show 9000 < 2 ^ 31 by decide), pU_s]
  rfl
theorem kn_B {t t' n : Nat} (ht : t < 20) (ht' : t' < 20) (st d : Int32) {w : mS} (hw : w.2.1 15 = (vB v t st n).2.1 15) : kn w t' d (n + 1) = if t' = t then (if v.1 0 ≤ d then st else kn v t' d n) else kn v t' d n := by
  have e15 : w.2.1 15 = upd (upd (upd (v.2.1 15) (3 * n) (nI t)) (3 * n + 1) (v.1 0)) (3 * n + 2) st := hw
  have a0 : w.2.1 15 (3 * n) = nI t := by rw [e15, pk_un (by omega), pk_un (by omega), pk_us]
  have a1 : w.2.1 15 (3 * n + 1) = v.1 0 := by rw [e15, pk_un (by omega), pk_us]
  have a2 : w.2.1 15 (3 * n + 2) = st := by rw [e15, pk_us]
  have a3 : ∀ j, j < 3 * n → w.2.1 15 j = v.2.1 15 j := fun j hj => by rw [e15, pk_un (by omega), pk_un (by omega), pk_un (by omega)]
  show (if w.2.1 15 (3 * n) = nI t' ∧ w.2.1 15 (3 * n + 1) ≤ d then w.2.1 15 (3 * n + 2) else kn w t' d n) = _
  have a4 : kn w t' d n = kn v t' d n := itN_cg (fun r hr a => by rw [a3 _ (by omega), a3 _ (by omega), a3 _ (by omega)]) (-1)
  rw [a0, a1, a2, a4]
  by_cases e : t' = t
  · subst e
    rw [if_pos rfl]
    by_cases q : v.1 0 ≤ d
    · rw [if_pos ⟨rfl, q⟩, if_pos q]
    · rw [if_neg (fun z => q z.2), if_neg q]
  · have : ¬ nI t = nI t' := fun q => e ((nI_eq (by omega) (by omega)).mp q).symm
    rw [if_neg (fun z => this z.1), if_neg e]
/-- how the number of things kept or given changes -/
def b01 (x : Int32) : Nat := if x = 0 ∨ x = 1 then 1 else 0
theorem nf_u {I' : Nat → Nat → Int32} {t : Nat} (hI : ∀ i, i ≠ t → I' 16 i = I 16 i) (n : Nat) : nf I' n + (if t < n then b01 (I 16 t) else 0) = nf I n + (if t < n then b01 (I' 16 t) else 0) := by
  induction n with
  | zero => rfl
  | succ n ih =>
    have e1 : nf I' (n + 1) = nf I' n + b01 (I' 16 n) := by
      show (if I' 16 n = 0 ∨ I' 16 n = 1 then nf I' n + 1 else nf I' n) = _
      unfold b01
      split <;> omega
    have e2 : nf I (n + 1) = nf I n + b01 (I 16 n) := by
      show (if I 16 n = 0 ∨ I 16 n = 1 then nf I n + 1 else nf I n) = _
      unfold b01
      split <;> omega
    rw [e1, e2]
    by_cases e : n = t
    · subst e
      rw [if_neg (Nat.lt_irrefl n), if_neg (Nat.lt_irrefl n)] at ih
      rw [if_pos (Nat.lt_succ_self n), if_pos (Nat.lt_succ_self n)]
      omega
    · rw [hI n e]
      by_cases q : t < n
      · rw [if_pos q, if_pos q] at ih
        rw [if_pos (by omega), if_pos (by omega)]
        omega
      · rw [if_neg q, if_neg q] at ih
        rw [if_neg (by omega), if_neg (by omega)]
        omega
/-- the tie behind a becoming -/
theorem tie_bec {k' : Nat} {Mt Mt' M' : Nat → Nat → Nat} {A' : Nat → Nat → Nat → Nat} {T' : Nat → Nat → Nat → Int32} {I' : Nat → Nat → Int32} {v'' : mS} {t n : Nat} {st : Int32} (E : tie k Mt I T v) (ht : t < Mt 0 0) (hn : v.1 16 = nI n) (hn2 : n < 3000) (hkb : k < 100000) (B : becR A M T t st (I 0 13) A' M' T') (hM4 : Mt 4 = M 4) (hM1 : ∀ a, a ≠ 4 → Mt' a = Mt a) (hM2 : Mt' 4 = M' 4)
    (hI : ∀ r i, (r < 16 ∨ 20 < r ∨ i ≠ t) → I' r i = I r i) (hst : I' 16 t = st) (hv1 : v''.1 = (vB v t st n).1) (hv2 : ∀ r, r ≠ 10 → r ≠ 12 → r ≠ 13 → v''.2.1 r = (vB v t st n).2.1 r) (hv3 : ∀ r i, i ≠ t → (r = 10 ∨ r = 12 ∨ r = 13) → v''.2.1 r i = v.2.1 r i)
    (h10 : v''.2.1 10 t = I' 17 t) (hs1 : (st = 1 ∨ st = 2) → I' 18 t = I 0 13) (hs2 : st = 2 → v''.2.1 12 t = I' 19 t ∧ v''.2.1 13 t = I' 20 t) (hh : st = 1 ∨ I' 17 t = -1) (hst3 : rB st 3) (hpd : st = 2 ∨ I' 20 t = 0) (hk : nf I' (Mt 0 0) + 1 + k ≤ nf I (Mt 0 0) + k') : tie k' Mt' I' T' v'' := by
  have hb0 := E.b0
  obtain ⟨⟨⟨n1, n2, n3, n4, n5, n6, n7⟩, n8, n9, n10, n11, n12⟩, ⟨r1, r2, r3, r4, r5, r6⟩, h3, h4, h5, h6, h7, n', h8, h9, h10', h11'⟩ := id E
  have nn : n' = n := by
    have hh := nf_le I (Mt 0 0)
    have := h8.symm.trans hn
    rcases Nat.lt_or_ge n' (2 ^ 31) with q | q
    · exact (nI_eq q (by omega)).mp this
    · exact absurd this (fun _ => by omega)
  subst nn
  obtain ⟨B1, B2, B3, B4, B5, B6⟩ := B
  have row : ∀ r, (r < 16 ∨ 20 < r) → I' r = I r := fun r hr => funext fun i => hI r i (by omega)
  have w1 : ∀ r, r ≠ 16 → v''.1 r = v.1 r := fun r hr => by
    rw [hv1]
    show (if r = 16 then _ else v.1 r) = _
    rw [if_neg hr]
  have w2 : ∀ r, r ≠ 9 → r ≠ 10 → r ≠ 11 → r ≠ 12 → r ≠ 13 → r ≠ 15 → v''.2.1 r = v.2.1 r := fun r q1 q2 q3 q4 q5 q6 => by
    rw [hv2 r q2 q4 q5]
    simp [vB, mF, mA, q1, q3, q6]
  have m00 : Mt' 0 = Mt 0 := hM1 0 (by decide)
  have m2 : Mt' 2 = Mt 2 := hM1 2 (by decide)
  have t0 : T' 0 = T 0 := B5 0 (by decide)
  have t1' : T' 1 = T 1 := B5 1 (by decide)
  have t2 : T' 2 = T 2 := B5 2 (by decide)
  refine ⟨⟨⟨?_, ?_, ?_, ?_, ?_, ?_, ?_⟩, ?_, ?_, ?_, ?_, ?_⟩, ⟨?_, ?_, ?_, ?_, ?_, ?_⟩, fun t' ht' => ?_, ?_, fun s hs => ?_, fun a ha => ?_, ?_, n' + 1, ?_, ?_, fun t' ht' => ⟨?_, fun d => ?_⟩, fun t' ht' ht2 d => ?_⟩
  · rw [w1 0 (by decide), row 0 (by decide)]; exact n1
  · rw [w1 1 (by decide), row 0 (by decide)]; exact n2
  · rw [w1 2 (by decide), m00]; exact n3
  · rw [w1 17 (by decide), m00]; exact n4
  · rw [w1 25 (by decide), m00]; exact n5
  · rw [w1 32 (by decide), row 0 (by decide)]; exact n6
  · rw [w1 34 (by decide), row 0 (by decide)]; exact n7
  · rw [m00, m2]; exact n8
  · rw [m00]; exact n9
  · rw [row 0 (by decide)]; exact n10
  · rw [row 0 (by decide)]; exact n11
  · rw [row 0 (by decide)]; exact n12
  · rw [w2 24 (by decide) (by decide) (by decide) (by decide) (by decide) (by decide), row 50 (by decide)]; exact r1
  · rw [w2 28 (by decide) (by decide) (by decide) (by decide) (by decide) (by decide), row 51 (by decide)]; exact r2
  · rw [w2 35 (by decide) (by decide) (by decide) (by decide) (by decide) (by decide), row 52 (by decide)]; exact r3
  · rw [w2 33 (by decide) (by decide) (by decide) (by decide) (by decide) (by decide), row 53 (by decide)]; exact r4
  · rw [row 50 (by decide)]; exact r5
  · rw [row 51 (by decide)]; exact r6
  · rw [m00] at ht'
    have hE := h3 t' ht'
    unfold t1 at hE ⊢
    obtain ⟨⟨g3, g4, g6, g7, g8, g9, g10⟩, gtr, gct, gsi, gso, gho, rk, rf, rw', rv, rs, rst⟩ := hE
    have f9 : v''.2.1 9 = upd (v.2.1 9) t st := by rw [hv2 9 (by decide) (by decide) (by decide)]; rfl
    have f11 : v''.2.1 11 = upd (v.2.1 11) t (v.1 0) := by rw [hv2 11 (by decide) (by decide) (by decide)]; rfl
    rw [w2 3 (by decide) (by decide) (by decide) (by decide) (by decide) (by decide), w2 4 (by decide) (by decide) (by decide) (by decide) (by decide) (by decide), w2 5 (by decide) (by decide) (by decide) (by decide) (by decide) (by decide), w2 6 (by decide) (by decide) (by decide) (by decide) (by decide) (by decide), w2 7 (by decide) (by decide) (by decide) (by decide) (by decide) (by decide), w2 8 (by decide) (by decide) (by decide) (by decide) (by decide) (by decide), w2 14 (by decide) (by decide) (by decide) (by decide) (by decide) (by decide), row 10 (by decide), row 11 (by decide), row 12 (by decide), row 13 (by decide), row 14 (by decide), t0, t1', f9, f11]
    by_cases e : t' = t
    · subst e
      rw [pk_us, pk_us, hst]
      exact ⟨⟨g3, g4, g6, g7, g8, rfl, h10⟩, gtr, gct, fun q => by rw [hs1 q]; exact n1, hs2, hh, rk, rf, rw', rv, rs, hst3, hpd⟩
    · rw [pk_un e, pk_un e, hv3 10 t' e (by decide), hv3 12 t' e (by decide), hv3 13 t' e (by decide), hI 16 t' (.inr (.inr e)), hI 17 t' (.inr (.inr e)), hI 18 t' (.inr (.inr e)), hI 19 t' (.inr (.inr e)), hI 20 t' (.inr (.inr e))]
      exact ⟨⟨g3, g4, g6, g7, g8, g9, g10⟩, gtr, gct, gsi, gso, gho, rk, rf, rw', rv, rs, rst⟩
  · unfold tU at h4 ⊢
    rw [m00, w2 5 (by decide) (by decide) (by decide) (by decide) (by decide) (by decide), w2 22 (by decide) (by decide) (by decide) (by decide) (by decide) (by decide), w2 23 (by decide) (by decide) (by decide) (by decide) (by decide) (by decide)]
    exact h4
  · rw [m00] at hs
    have hE := h5 s hs
    unfold s1 at hE ⊢
    rw [w2 18 (by decide) (by decide) (by decide) (by decide) (by decide) (by decide), w2 19 (by decide) (by decide) (by decide) (by decide) (by decide) (by decide), w2 20 (by decide) (by decide) (by decide) (by decide) (by decide) (by decide), w2 21 (by decide) (by decide) (by decide) (by decide) (by decide) (by decide), w2 22 (by decide) (by decide) (by decide) (by decide) (by decide) (by decide), w2 23 (by decide) (by decide) (by decide) (by decide) (by decide) (by decide), row 30 (by decide), row 32 (by decide), row 33 (by decide), row 34 (by decide), t2]
    exact hE
  · rw [m00] at ha
    have hE := h6 a ha
    unfold a1 at hE ⊢
    rw [w2 26 (by decide) (by decide) (by decide) (by decide) (by decide) (by decide), w2 27 (by decide) (by decide) (by decide) (by decide) (by decide) (by decide), row 40 (by decide), row 41 (by decide), row 42 (by decide)]
    exact hE
  · unfold tC cT cM cX at h7 ⊢
    rw [w1 29 (by decide), w2 30 (by decide) (by decide) (by decide) (by decide) (by decide) (by decide), w2 31 (by decide) (by decide) (by decide) (by decide) (by decide) (by decide), row 1 (by decide), row 57 (by decide), row 58 (by decide)]
    exact h7
  · rw [hv1]
    show nI n' + 1 = _
    exact nI_1 n'
  · rw [m00]
    omega
  · rw [m00] at ht'
    rw [hM2]
    have := (h10' t' ht').1
    rw [hM4] at this
    by_cases e : t' = t
    · subst e; omega
    · rw [(B3 t' e).1]; omega
  · rw [m00] at ht'
    have := (h10' t' ht').2 d
    rw [hM4] at this
    rw [kn_B (v := v) (t := t) (by omega) (by omega) st d (hv2 15 (by decide) (by decide) (by decide)), hM2]
    by_cases e : t' = t
    · subst e
      rw [if_pos rfl, B6 d, n1, this]
    · rw [if_neg e, (B3 t' e).1, this]
      refine (sb_cg (fun j _ => ?_) d).symm
      rw [(B3 t' e).2.1, (B3 t' e).2.2]
      exact ⟨rfl, rfl⟩
  · rw [m00] at ht'
    rw [kn_B (v := v) (t := t) (by omega) ht2 st d (hv2 15 (by decide) (by decide) (by decide)), if_neg (by omega)]
    exact h11' t' ht' ht2 d
theorem tie.ev (E : tie k M I T v) (hk : k < 600) : ∃ n, v.1 16 = nI n ∧ n < 3000 := by
  have := E.b0
  obtain ⟨n, h1, h2, -⟩ := E.2.2.2.2.2.2.2
  exact ⟨n, h1, by omega⟩
theorem okn_w {A' : Nat → Nat → Nat → Nat} {M' : Nat → Nat → Nat} {I' : Nat → Nat → Int32} {T' : Nat → Nat → Nat → Int32} {J' : Nat → Nat → Int64} {rl' : Nat → Nat × Nat × Nat} {v' : mS} {G' : gM} {N' s s' : Nat} (R : Mem z h A' M' I' T' J' rl' G' N') (E : tie (k + 1) M' I' T' v') (hN : N' ≤ N + 64) (hs : s' ≤ s + 1000) (r : Int32) : OkN z h k N s (some (r, (G', N', s'))) (some (r, v')) := ⟨r, v', (G', N', s'), rfl, rfl, ⟨A', M', I', T', J', rl', R, E⟩, hN, hs⟩
theorem fdn (R : Mem z h A M I T J rl G N) (E : tie k M I T v) {s : Nat} {f : Int32} (n : Nat) (hn : n < 6) (hf : f = nI n) : OkN z h k N s (bI (cN (fX9_finding h f G) (G, N, s)) fun r u => some (r, u)) (bI (fX10_finding f v) fun r u => some (r, u)) := by
  obtain ⟨r, v', G', e1, e2, R', E'⟩ := fd2 R E n hn hf
  rw [e1, e2]
  exact okn_w R' E'.up (by omega) (by omega) r
theorem lk_n0 {s t : Nat} (h : ¬ lk I T s t = 0) : I 16 t = 0 ∧ I 34 s < 3 := by
  unfold lk at h
  by_cases q1 : I 16 t = 0
  · by_cases q2 : I 34 s < 3
    · exact ⟨q1, q2⟩
    · rw [if_pos q1, if_neg q2] at h
      exact absurd rfl h
  · rw [if_neg q1] at h
    exact absurd rfl h
theorem uu_o {k' k i j : Nat} {x : Int32} (h : k' ≠ k ∨ j ≠ i) : uu I k i x k' j = I k' j := by
  unfold uu
  by_cases q : k' = k
  · rw [if_pos q]
    exact pk_un (by rcases h with h | h <;> first | exact absurd q h | exact h)
  · rw [if_neg q]
theorem uu_s {k i : Nat} {x : Int32} : uu I k i x k i = x := by
  unfold uu
  rw [if_pos rfl, pk_us]
theorem op_answer (R : Mem z h A M I T J rl G N) (E : tie k M I T v) (hk : k < 512) {s0 : Nat} (a1 a2 a3 : Int32) : OkN z h k N s0 (fX9_answer h a1 a2 a3 (G, N, s0)) (fX10_answer a1 a2 a3 v) := by
  rcases sc R E a1 with ⟨e1, e2⟩ | ⟨s, hs, rfl, e1, e2⟩
  · rcases tc R E a2 with ⟨e3, e4⟩ | ⟨t, ht, rfl, e3, e4⟩
    · simp only [fX9_answer, fX10_answer, R.o10, ob_s, bI_s, pU_s, if_true, if_false, i10, reduceCtorEq, cN_s, wN_s, e1, e2, e3, e4]
      exact fdn R E 1 (by decide) rfl
    · simp only [fX9_answer, fX10_answer, R.o10, ob_s, bI_s, pU_s, if_true, if_false, i10, reduceCtorEq, cN_s, wN_s, e1, e2, e3, e4]
      exact fdn R E 1 (by decide) rfl
  · rcases tc R E a2 with ⟨e3, e4⟩ | ⟨t, ht, rfl, e3, e4⟩
    · simp only [fX9_answer, fX10_answer, R.o10, ob_s, bI_s, pU_s, if_true, if_false, i10, reduceCtorEq, cN_s, wN_s, e1, e2, e3, e4]
      exact fdn R E 1 (by decide) rfl
    · rcases wc a3 1 9999 G v with ⟨e5, e6⟩ | ⟨e5, e6, h3, h4⟩
      · simp only [fX9_answer, fX10_answer, R.o10, ob_s, bI_s, pU_s, if_true, if_false, i10, reduceCtorEq, cN_s, wN_s, e1, e2, e3, e4, e5, e6]
        exact fdn R E 1 (by decide) rfl
      · have ht2 : t < M 2 0 := by rw [E.e0]; exact ht
        have hb := E.b0
        have ht20 : t < 20 := by omega
        obtain ⟨⟨g3, g4, g6, g7, g8, g9, g10⟩, gtr, gct, gsi, gso, gho, rk, rf, rw', rv, rs, rst⟩ := E.Th ht
        have hs2 : s < M 2 1 := by rw [E.e1]; exact hs
        have hb1 := E.b1
        have hs8 : s < 8 := by omega
        by_cases q1 : lk I T s t = 0
        · simp only [fX9_answer, fX10_answer, R.o10, ob_s, bI_s, pU_s, if_true, if_false, i10, reduceCtorEq, cN_s, wN_s, e1, e2, e3, e4, e5, e6, lk_c R hs2 ht2, lk_m E hs ht, if_pos q1]
          exact fdn R E 3 (by decide) rfl
        · obtain ⟨st0, nb⟩ := lk_n0 q1
          by_cases q2 : a3 = I 14 t
          · obtain ⟨n, en, hn⟩ := E.ev (by omega)
            obtain ⟨q, eo⟩ := R.to ht2
            obtain ⟨A', M', T', rl', G', N', s', b1, ⟨b2, b3⟩, R1, B⟩ := bec R ht2 1 (I 0 13) s0
            have B' := B
            obtain ⟨B1, B2, B3, B4, B5, B6⟩ := B
            have c4 : A 4 t 0 = A' 4 t 0 := by rw [B1 4 (by decide)]
            have ht3 : t < M' 2 0 := by rw [B2 2 (by decide)]; exact ht2
            obtain ⟨G2, d1, R2⟩ := wt7 R1 ht3 (nI s)
            obtain ⟨G3, d2, R3⟩ := wt8 R2 ht3 (I 0 13)
            have d3 : gI [10] 13 G2 h = some (I 0 13) := R2.f13
            rw [← c4] at d1 d2
            simp only [fX9_answer, fX10_answer, R.o10, ob_s, bI_s, pU_s, if_true, if_false, i10, reduceCtorEq, cN_s, wN_s, fX9_answer_90, e1, e2, e3, e4, e5, e6, lk_c R hs2 ht2, lk_m E hs ht, if_neg q1, R.t4 ht2, R.f13, mRn ht20 (by decide), g8, if_pos q2, eo, b1, d1, d2, d3, bec_m ht20 hn en, mUn ht20 (by decide)]
            refine okn_w R3 ?_ (by omega) (by omega) 1
            refine tie_bec E ht en hn (by omega) B' rfl B2 rfl (fun r i hr => ?_) ?_ rfl (fun r _ _ _ => ?_) (fun r i hi hr => ?_) ?_ (fun _ => uu_s) (fun q => absurd q (by decide)) (.inl rfl) ⟨1, by decide, rfl⟩ (.inr (by rw [uu_o (.inl (by decide)), uu_o (.inl (by decide)), uu_o (.inl (by decide))]; exact rst.2.resolve_left (fun q => absurd (st0.symm.trans q) (by decide)))) ?_
            · rw [uu_o (by omega), uu_o (by omega), uu_o (by omega)]
            · rw [uu_o (.inl (by decide)), uu_o (.inl (by decide)), uu_s]
            · have : r ≠ 10 := by assumption
              show (if r = 10 then _ else _) = _
              rw [if_neg this]
            · rcases hr with rfl | rfl | rfl
              · show upd (v.2.1 10) t (nI s) i = _
                rw [pk_un hi]
              · rfl
              · rfl
            · show upd (v.2.1 10) t (nI s) t = _
              rw [pk_us, uu_o (.inl (by decide)), uu_s]
            · have z1 := nf_u (I := I) (I' := uu (uu (uu I 16 t 1) 17 t (nI s)) 18 t (I 0 13)) (t := t) (fun i hi => by rw [uu_o (.inl (by decide)), uu_o (.inl (by decide)), uu_o (.inr hi)]) (M 0 0)
              rw [if_pos ht, if_pos ht, st0, show uu (uu (uu I 16 t 1) 17 t (nI s)) 18 t (I 0 13) 16 t = 1 by rw [uu_o (.inl (by decide)), uu_o (.inl (by decide)), uu_s]] at z1
              have z2 : b01 0 = 1 := by decide
              have z3 : b01 1 = 1 := by decide
              omega
          · obtain ⟨v', G', e7, e8, R', E'⟩ := fal R E hs nb
            simp only [fX9_answer, fX10_answer, R.o10, ob_s, bI_s, pU_s, if_true, if_false, i10, reduceCtorEq, cN_s, wN_s, e1, e2, e3, e4, e5, e6, lk_c R hs2 ht2, lk_m E hs ht, if_neg q1, R.t4 ht2, R.s4 hs2, mRn ht20 (by decide), g8, if_neg q2, e7, e8]
            exact okn_w R' E'.up (by omega) (by omega) _
theorem op_back (R : Mem z h A M I T J rl G N) (E : tie k M I T v) (hk : k < 512) {s0 : Nat} (a1 : Int32) : OkN z h k N s0 (fX9_back h a1 (G, N, s0)) (fX10_back a1 v) := by
  rcases tc R E a1 with ⟨e1, e2⟩ | ⟨t, ht, rfl, e1, e2⟩
  · simp only [fX9_back, fX10_back, R.o10, ob_s, bI_s, pU_s, if_true, if_false, i10, reduceCtorEq, cN_s, wN_s, e1, e2]
    exact fdn R E 1 (by decide) rfl
  · have ht2 : t < M 2 0 := by rw [E.e0]; exact ht
    have hb := E.b0
    have ht20 : t < 20 := by omega
    obtain ⟨⟨g3, g4, g6, g7, g8, g9, g10⟩, gtr, gct, gsi, gso, gho, rk, rf, rw', rv, rs, rst⟩ := E.Th ht
    by_cases q1 : I 16 t = 1
    · by_cases q2 : I 0 13 - I 18 t ≤ 10
      · obtain ⟨n, en, hn⟩ := E.ev (by omega)
        obtain ⟨q, eo⟩ := R.to ht2
        obtain ⟨A', M', T', rl', G', N', s', b1, ⟨b2, b3⟩, R1, B⟩ := bec R ht2 0 (I 0 13) s0
        have B' := B
        obtain ⟨B1, B2, B3, B4, B5, B6⟩ := B
        have c4 : A 4 t 0 = A' 4 t 0 := by rw [B1 4 (by decide)]
        have ht3 : t < M' 2 0 := by rw [B2 2 (by decide)]; exact ht2
        obtain ⟨G2, d1, R2⟩ := wt7 R1 ht3 (-1)
        rw [← c4] at d1
        simp only [fX9_back, fX10_back, R.o10, ob_s, bI_s, pU_s, if_true, if_false, i10, reduceCtorEq, cN_s, wN_s, fX9_back_58, e1, e2, R.t6 ht2, R.t7 ht2, R.t8 ht2, R.f13, mRn ht20 (by decide), g9, g10, gsi (.inl q1), E.1.1.1, if_pos q1, if_pos q2, eo, b1, d1, bec_m ht20 hn en, mUn ht20 (by decide)]
        refine okn_w R2 ?_ (by omega) (by omega) _
        refine tie_bec E ht en hn (by omega) B' rfl B2 rfl (fun r i hr => ?_) ?_ rfl (fun r _ _ _ => ?_) (fun r i hi hr => ?_) ?_ (fun q => absurd q (by decide)) (fun q => absurd q (by decide)) (.inr uu_s) ⟨0, by decide, rfl⟩ (.inr (by rw [uu_o (.inl (by decide)), uu_o (.inl (by decide))]; exact rst.2.resolve_left (fun q => absurd (q1.symm.trans q) (by decide)))) ?_
        · rw [uu_o (by omega), uu_o (by omega)]
        · rw [uu_o (.inl (by decide)), uu_s]
        · have : r ≠ 10 := by assumption
          show (if r = 10 then _ else _) = _
          rw [if_neg this]
        · rcases hr with rfl | rfl | rfl
          · show upd (v.2.1 10) t (-1) i = _
            rw [pk_un hi]
          · rfl
          · rfl
        · show upd (v.2.1 10) t (-1) t = _
          rw [pk_us, uu_s]
        · have z1 := nf_u (I := I) (I' := uu (uu I 16 t 0) 17 t (-1)) (t := t) (fun i hi => by rw [uu_o (.inl (by decide)), uu_o (.inr hi)]) (M 0 0)
          rw [if_pos ht, if_pos ht, q1, show uu (uu I 16 t 0) 17 t (-1) 16 t = 0 by rw [uu_o (.inl (by decide)), uu_s]] at z1
          have z2 : b01 0 = 1 := by decide
          have z3 : b01 1 = 1 := by decide
          omega
      · simp only [fX9_back, fX10_back, R.o10, ob_s, bI_s, pU_s, if_true, if_false, i10, reduceCtorEq, cN_s, wN_s, e1, e2, R.t6 ht2, R.t8 ht2, R.f13, mRn ht20 (by decide), g9, gsi (.inl q1), E.1.1.1, if_pos q1, if_neg q2]
        exact fdn R E 3 (by decide) rfl
    · simp only [fX9_back, fX10_back, R.o10, ob_s, bI_s, pU_s, if_true, if_false, i10, reduceCtorEq, cN_s, wN_s, e1, e2, R.t6 ht2, mRn ht20 (by decide), g9, if_neg q1]
      exact fdn R E 3 (by decide) rfl
end O8
