section O5
variable {z : Nat → Nat} {h : Nat} {A : Nat → Nat → Nat → Nat} {M : Nat → Nat → Nat} {I : Nat → Nat → Int32} {T : Nat → Nat → Nat → Int32} {J : Nat → Nat → Int64} {rl : Nat → Nat × Nat × Nat} {G : gM} {N k : Nat} {v : mS}
theorem i4 (t j : Nat) : (4 : Int32) * nI t + nI j = nI (4 * t + j) := by
  rw [← nI_add, ← pk_mul]; rfl
/-- hands that counted a sum -/
def hW (f : Nat → Int32) (x : Int32) (n : Nat) : Nat := itN (fun i a => if f i = x then a + 1 else a) n 0
theorem hW_b (f : Nat → Int32) (x : Int32) (n : Nat) : hW f x n ≤ n := by
  induction n with
  | zero => exact Nat.le_refl _
  | succ n ih =>
    show (if f n = x then hW f x n + 1 else hW f x n) ≤ n + 1
    split <;> omega
theorem it_nI (f : Nat → Int32) (x : Int32) (n : Nat) : itN (fun i (a : Int32) => if f i = x then a + 1 else a) n 0 = nI (hW f x n) := by
  induction n with
  | zero => rfl
  | succ n ih =>
    have e1 : hW f x (n + 1) = if f n = x then hW f x n + 1 else hW f x n := rfl
    rw [itN_s, ih, e1]
    by_cases q : f n = x
    · rw [if_pos q, if_pos q]; exact nI_1 _
    · rw [if_neg q, if_neg q]
theorem hW_c (R : Mem z h A M I T J rl G N) {t : Nat} (ht : t < M 2 0) (hp : I 10 t = 3) (x : Int32) : fX5_handsWith (A 4 t 0) x G = some (nI (hW (T 1 t) x 4), G) := by
  have e0 : gR [6] 12 G (A 4 t 0) = some (some (A 8 t 0)) := gR_n (R.tp ht hp) rfl rfl
  rw [← it_nI]
  refine itN_loop0 (fun f i a => fX5_handsWith_4 f (A 4 t 0) x a i G) 4 (fun i a => if T 1 t i = x then a + 1 else a) (fun a => some (a, G)) (fun f i a hi => ?_) (fun f a => ?_) (by decide)
  · have c : ¬ (4 : Int32) ≤ nI i := nI_ge (b := 4) hi (by decide)
    by_cases q : T 1 t i = x
    · simp only [fX5_handsWith_4, fX5_handsWith_4_b, fX5_handsWith_22, if_neg c, ob_s, e0, aI_n (R.tn ht hp) (by decide) hi, if_pos q, nI_1]
    · simp only [fX5_handsWith_4, fX5_handsWith_4_b, fX5_handsWith_22, if_neg c, ob_s, e0, aI_n (R.tn ht hp) (by decide) hi, if_neg q, nI_1]
  · have c : (4 : Int32) ≤ nI 4 := by decide
    simp only [fX5_handsWith_4, fX5_handsWith_4_b, if_pos c]
theorem hW_m {t : Nat} (ht : t < 20) {f : Nat → Int32} (hf : ∀ j, j < 4 → v.2.1 14 (4 * t + j) = f j) (x : Int32) : fX10_handsFor (nI t) x v = some (nI (hW f x 4), v) := by
  rw [← it_nI]
  refine itN_loop0 (fun g i a => fX10_handsFor_5 g (nI t) x a i v) 4 (fun i a => if f i = x then a + 1 else a) (fun a => some (a, v)) (fun g i a hi => ?_) (fun g a => ?_) (by decide)
  · have c : ¬ (4 : Int32) ≤ nI i := nI_ge (b := 4) hi (by decide)
    by_cases q : f i = x
    · simp only [fX10_handsFor_5, fX10_handsFor_5_b, fX10_handsFor_32, if_neg c, ob_s, i4, mRn (show 4 * t + i < 80 by omega) (by decide), hf i hi, if_pos q, nI_1]
    · simp only [fX10_handsFor_5, fX10_handsFor_5_b, fX10_handsFor_32, if_neg c, ob_s, i4, mRn (show 4 * t + i < 80 by omega) (by decide), hf i hi, if_neg q, nI_1, Int32.add_zero]
  · have c : (4 : Int32) ≤ nI 4 := by decide
    simp only [fX10_handsFor_5, fX10_handsFor_5_b, if_pos c]
theorem rM_lt {x : Int32} {n : Nat} (h : rM x n) (hn : n < 2 ^ 31) : x < 0 ↔ x = -1 := by
  rcases h with h | h
  · rw [h]; exact ⟨fun _ => rfl, fun _ => neg1_lt⟩
  · exact ⟨fun q => absurd q (rB_nn h hn), fun q => by rw [q]; exact neg1_lt⟩
theorem mo_m {t : Nat} (ht : t < 20) {f : Nat → Int32} (hf : ∀ j, j < 4 → v.2.1 14 (4 * t + j) = f j ∧ rM (f j) 100000) : fX10_money_81 FU (nI t) 0 0 v = some (4 - nI (hW f (-1) 4), v) := by
  have e : itN (fun i (a : Int32) => if f i = -1 then a else a + 1) 4 0 = 4 - nI (hW f (-1) 4) := by
    have : ∀ n, itN (fun i (a : Int32) => if f i = -1 then a else a + 1) n 0 + nI (hW f (-1) n) = nI n := by
      intro n
      induction n with
      | zero => rfl
      | succ n ih =>
        have e1 : hW f (-1) (n + 1) = if f n = -1 then hW f (-1) n + 1 else hW f (-1) n := rfl
        rw [itN_s, e1]
        by_cases q : f n = -1
        · rw [if_pos q, if_pos q, nI_succ, ← Int32.add_assoc, ih, nI_succ]
        · rw [if_neg q, if_neg q, nI_succ, ← ih, Int32.add_assoc, Int32.add_comm 1, Int32.add_assoc]
    have h4 := this 4
    rw [show (4 : Int32) = nI 4 from rfl, ← h4, Int32.add_sub_cancel]
  rw [← e]
  refine itN_loop0 (fun g i a => fX10_money_81 g (nI t) a i v) 4 (fun i a => if f i = -1 then a else a + 1) (fun a => some (a, v)) (fun g i a hi => ?_) (fun g a => ?_) (by decide)
  · have c : ¬ (4 : Int32) ≤ nI i := nI_ge (b := 4) hi (by decide)
    have cc := rM_lt (hf i hi).2 (by decide)
    by_cases q : f i = -1
    · simp only [fX10_money_81, fX10_money_81_b, fX10_money_108, if_neg c, ob_s, i4, mRn (show 4 * t + i < 80 by omega) (by decide), (hf i hi).1, if_pos (cc.mpr q), if_pos q, nI_1, Int32.add_zero]
    · simp only [fX10_money_81, fX10_money_81_b, fX10_money_108, if_neg c, ob_s, i4, mRn (show 4 * t + i < 80 by omega) (by decide), (hf i hi).1, if_neg (fun z => q (cc.mp z)), if_neg q, nI_1]
  · have c : (4 : Int32) ≤ nI 4 := by decide
    simp only [fX10_money_81, fX10_money_81_b, if_pos c]
theorem iS_p (R : Mem z h A M I T J rl G N) {t : Nat} (ht : t < M 2 0) (hp : I 10 t = 3) : iS G (some (A 4 t 0)) = some 1 := by
  simp only [iS, gO_n (cs := [6, 9]) (R.tp ht hp) rfl, Option.map_some, if_true]
theorem iS_q (R : Mem z h A M I T J rl G N) {t : Nat} (ht : t < M 2 0) (hp : ¬ I 10 t = 3) : iS G (some (A 4 t 0)) = some 0 := by
  simp only [iS, gO_n (cs := [6, 9]) (R.tq ht hp) rfl, Option.map_some]
  rfl
theorem op_money (R : Mem z h A M I T J rl G N) (E : tie k M I T v) (a1 a2 a3 : Int32) : OkC z h k N (fX9_money h a1 a2 a3 G) (fX10_money a1 a2 a3 v) := by
  rcases tc R E a1 with ⟨e1, e2⟩ | ⟨t, ht, rfl, e1, e2⟩
  · simp only [fX9_money, fX10_money, R.o10, ob_s, bI_s, pU_s, if_true, if_false, i10, reduceCtorEq, e1, e2]
    exact fd R E 1 (by decide) rfl
  · rcases wc a2 0 3 G v with ⟨e3, e4⟩ | ⟨e3, e4, h1, h2⟩
    · simp only [fX9_money, fX10_money, R.o10, ob_s, bI_s, pU_s, if_true, if_false, i10, reduceCtorEq, e1, e2, e3, e4]
      exact fd R E 1 (by decide) rfl
    · rcases wc a3 0 100000 G v with ⟨e5, e6⟩ | ⟨e5, e6, h3, h4⟩
      · simp only [fX9_money, fX10_money, R.o10, ob_s, bI_s, pU_s, if_true, if_false, i10, reduceCtorEq, e1, e2, e3, e4, e5, e6]
        exact fd R E 1 (by decide) rfl
      · have ht2 : t < M 2 0 := by rw [E.e0]; exact ht
        have hb := E.b0
        have ht20 : t < 20 := by omega
        obtain ⟨⟨g3, g4, g6, g7, g8, g9, g10⟩, gtr, gct, gsi, gso, gho, rk, rf, rw', rv, rs, rst⟩ := E.Th ht
        by_cases q1 : I 10 t = 3
        · have e7 : gI [6] 6 G (A 4 t 0) = some (I 16 t) := gI_n (R.tp ht2 q1) rfl rfl
          have e8 : kC [6] G (some (A 4 t 0)) = some () := by simp [kC, gO_n (cs := [6]) (R.tp ht2 q1) rfl]
          by_cases q2 : I 16 t = 0
          · obtain ⟨j, hj', rfl⟩ := rg_n (n := 3) (by decide) ⟨h1, h2⟩
            have hj : j < 4 := by omega
            have e9 : gR [6] 12 G (A 4 t 0) = some (some (A 8 t 0)) := gR_n (R.tp ht2 q1) rfl rfl
            obtain ⟨G', e10, R'⟩ := wct R ht2 q1 hj a3
            have e11 : gO [6] G' (A 4 t 0) = some _ := gO_n (cs := [6]) (R'.tp ht2 q1) rfl
            have e12 : ∀ i, i < 4 → (mA v 14 (4 * t + j) a3).2.1 14 (4 * t + i) = u3 T 1 t j a3 1 t i ∧ rM (u3 T 1 t j a3 1 t i) 100000 := by
              intro i hi
              have e13 : u3 T 1 t j a3 1 t i = upd (T 1 t) j a3 i := by simp [u3]
              rw [e13]
              show upd (v.2.1 14) _ _ _ = _ ∧ _
              by_cases e : i = j
              · subst e
                rw [pk_us, pk_us]
                exact ⟨rfl, .inr (rg_n (by decide) ⟨h3, h4⟩)⟩
              · rw [pk_un e, pk_un (by omega)]
                exact gct q1 i hi
            simp only [fX9_money, fX10_money, R.o10, ob_s, bI_s, pU_s, if_true, if_false, i10, reduceCtorEq, fX5_handsThatCounted, e1, e2, e3, e4, e5, e6, mRn ht20 (by decide), g3, g9, if_pos q1, if_pos q2, iS_p R ht2 q1, e7, e8, e9, e10, e11, hW_c R' ht2 q1, i4, mUn (show 4 * t + j < 80 by omega) (by decide), mo_m ht20 e12]
            refine ok_w R' ?_ _
            obtain ⟨h1', h2', h3', h4', h5, h6, h7, h8⟩ := id E
            refine ⟨h1', h2', fun t' ht' => ?_, h4', h5, h6, h7, h8⟩
            obtain ⟨p1, p2, p3, p4⟩ := h3' t' ht'
            refine ⟨p1, p2, fun z3 i hi => ?_, p4⟩
            by_cases e : t' = t
            · subst e
              exact e12 i hi
            · have e13 : u3 T 1 t j a3 1 t' i = T 1 t' i := by simp [u3, e]
              rw [e13]
              refine ⟨?_, (p3 z3 i hi).2⟩
              show upd (v.2.1 14) _ _ _ = _
              rw [pk_un (by omega)]
              exact (p3 z3 i hi).1
          · simp only [fX9_money, fX10_money, R.o10, ob_s, bI_s, pU_s, if_true, if_false, i10, reduceCtorEq, e1, e2, e3, e4, e5, e6, mRn ht20 (by decide), g3, g9, if_pos q1, if_neg q2, iS_p R ht2 q1, e7, e8]
            exact fd R E 3 (by decide) rfl
        · simp only [fX9_money, fX10_money, R.o10, ob_s, bI_s, pU_s, if_true, if_false, i10, reduceCtorEq, e1, e2, e3, e4, e5, e6, mRn ht20 (by decide), g3, if_neg q1, iS_q R ht2 q1]
          exact fd R E 5 (by decide) rfl
end O5
