/-! labels on words, on both sides; fits, likely, share -/
section LB
variable {z : Nat → Nat} {h : Nat} {A : Nat → Nat → Nat → Nat} {M : Nat → Nat → Nat} {I : Nat → Nat → Int32} {T : Nat → Nat → Nat → Int32} {J : Nat → Nat → Int64} {rl : Nat → Nat × Nat × Nat} {G : gM} {N k : Nat} {v : mS}
theorem tk_l {a l w p t : Nat} {q : Nat × List Value} (go : gO [1] G a = some q) (gl : gI [1] 1 G a = some (nI (dg w))) (g0 : gI [1] 0 G a = some (nI w)) (hw1 : 1 ≤ w) (hw : w < 10 ^ 8) (hl : l < 2 ^ 31) (ht : t ≤ 3) (hp : p ≤ dg w) : ∀ (m b F : Nat), b + m = dg w - p + 1 → m < F → fX0_takes_11 F a (nI l) (nI p) (nI t) (nI (dg w - p)) (nI b) G = some (if tkf l w p t (dg w - p) m b = true then 1 else 0, G) := by
  have hD := dg_b hw1 hw
  intro m
  induction m with
  | zero =>
    intro b F hb hF
    obtain ⟨F, rfl⟩ : ∃ F', F = F' + 1 := ⟨F - 1, by omega⟩
    simp only [fX0_takes_11, fX0_takes_11_b, if_pos (nI_lt (show dg w - p < b by omega) (by omega)), tkf]
    rfl
  | succ m ih =>
    intro b F hb hF
    obtain ⟨F, rfl⟩ : ∃ F', F = F' + 1 := ⟨F - 1, by omega⟩
    have AG := ag_cc gl g0 hw1 hw hl (show b + p ≤ dg w by omega) p 0 FU (by omega) (fuel (by omega))
    rw [nI_0] at AG
    have nx := ih (b + 1) F (by omega) (by omega)
    simp only [fX0_takes_11]
    rw [tk_b ht (by omega) (show b ≤ dg w - p by omega)]
    by_cases q1 : may t (dg w - p) b = true
    · by_cases q2 : agf l w b p 0 = true
      · simp only [tkf, if_pos q1, go, ob_s, fX0_agrees, AG, if_pos q2, bI_s, i10, if_false, if_pos (And.intro q1 q2), if_true]
      · simp only [tkf, if_pos q1, go, ob_s, fX0_agrees, AG, if_neg q2, bI_s, if_true, if_neg (fun g : may t (dg w - p) b = true ∧ agf l w b p 0 = true => q2 g.2), nI_1]
        exact nx
    · simp only [tkf, if_neg q1, if_neg (fun g : may t (dg w - p) b = true ∧ agf l w b p 0 = true => q1 g.1), nI_1]
      exact nx
def fitb (l w p t : Nat) : Bool := if dg w < p then false else tkf l w p t (dg w - p) (dg w - p + 1) 0
theorem tk_n {a l w p t : Nat} {q : Nat × List Value} (go : gO [1] G a = some q) (gl : gI [1] 1 G a = some (nI (dg w))) (g0 : gI [1] 0 G a = some (nI w)) (hw1 : 1 ≤ w) (hw : w < 10 ^ 8) (hl : l < 2 ^ 31) (ht : t ≤ 3) (hp : p ≤ 8) : fX0_takes a (nI l) (nI p) (nI t) G = some (if fitb l w p t = true then 1 else 0, G) := by
  have hD := dg_b hw1 hw
  unfold fitb
  by_cases c : dg w < p
  · have e : nI (dg w) - nI p < 0 := pk_sneg (by omega) c
    simp only [fX0_takes, gl, ob_s]
    obtain ⟨F, hF⟩ := FU_s
    rw [hF]
    simp only [fX0_takes_11, fX0_takes_11_b, if_pos e, if_pos c]
    rfl
  · have := tk_l go gl g0 hw1 hw hl ht (show p ≤ dg w by omega) (dg w - p + 1) 0 FU (by omega) (fuel (by omega))
    rw [nI_0] at this
    simp only [fX0_takes, gl, ob_s, pk_sub (show p ≤ dg w by omega), if_neg c, this]
theorem mf_b {t o b m0 : Nat} (ht : t ≤ 3) (hh : nI m0 - nI m0 / (10 : Int32) * (10 : Int32) = nI t) (ho : o < 100) (hb : b ≤ o) (x1 x2 x4 x6 : Int32) (u : mS) (k26 : Int32 → Int32 → Int32 → Int32 → Int32 → Int32 → Int32 → mS → Option (Int32 × mS)) : fX10_isFit_26_b x1 x2 (nI m0) x4 (nI o) x6 (nI b) u k26 = if may t o b = true then ((mR u 26 16 x1).bind fun v82 => bI (fX10_liesOn v82 x2 x4 (nI b) u) fun r88 u88 => if r88 = 0 then k26 x1 x2 (nI m0) x4 (nI o) (x6 ||| 0) (nI b + 1) u88 else k26 x1 x2 (nI m0) x4 (nI o) (x6 ||| 1) (nI b + 1) u88) else k26 x1 x2 (nI m0) x4 (nI o) (x6 ||| 0) (nI b + 1) u := by
  have q0 : (nI o < nI b) = False := eq_false (nI_nlt hb (by omega))
  have q1 : (nI b = 0) = (b = 0) := propext (nI_eq (b := 0) (by omega) (by decide))
  have q2 : (nI b = nI o) = (b = o) := propext (nI_eq (by omega) (by omega))
  have r3 : nI t - nI t / (2 : Int32) * (2 : Int32) = nI (t % 2) := pk_rem (d := 2) (by omega) (by decide) (by decide)
  have q3 : (nI (t % 2) = 1) = (t % 2 = 1) := propext (nI_eq (b := 1) (by omega) (by decide))
  have q4 : (nI t ≤ 1) = (¬ 1 < t) := propext ((nI_leI (b := 1) (by omega) (by decide)).trans (by omega))
  have mE : (may t o b = true) = ((b = 0 ∨ t % 2 = 1) ∧ (b = o ∨ 1 < t)) := by simp [may]
  simp only [fX10_isFit_26_b, fX10_isFit_48, fX10_isFit_67, fX10_isFit_63, fX10_isFit_68, fX10_isFit_98, fX10_isFit_99, hh, r3, q0, q1, q2, q3, q4, mE, if_false, i10, if_true]
  rcases Classical.propComplete (b = 0) with c1 | c1 <;> rcases Classical.propComplete (b = o) with c2 | c2 <;> rcases Classical.propComplete (t % 2 = 1) with c3 | c3 <;> rcases Classical.propComplete (1 < t) with c4 | c4 <;> simp only [c1, c2, c3, c4, true_or, or_true, false_or, or_false, and_true, true_and, and_false, false_and, and_self, or_self, not_true_eq_false, not_false_eq_true, if_true, if_false]
theorem mf_l {a l w p t m0 o : Nat} (ha : a < 16) (hv : v.2.1 26 a = nI w) (hw : w < 10 ^ 8) (hl : l < 2 ^ 31) (hh : nI m0 - nI m0 / (10 : Int32) * (10 : Int32) = nI t) (hp : p ≤ 8) (ht : t ≤ 3) (ho : o < 10) : ∀ (m b F : Nat) (acc : Bool), b + m = o + 1 → m < F → fX10_isFit_26 F (nI a) (nI l) (nI m0) (nI p) (nI o) (if acc = true then 1 else 0) (nI b) v = some (if (acc || tkf l w p t o m b) = true then 1 else 0, v) := by
  intro m
  induction m with
  | zero =>
    intro b F acc hb hF
    obtain ⟨F, rfl⟩ : ∃ F', F = F' + 1 := ⟨F - 1, by omega⟩
    have e : nI o < nI b := nI_lt (by omega) (by omega)
    simp only [fX10_isFit_26, fX10_isFit_26_b, if_pos e, tkf]
    cases acc <;> rfl
  | succ m ih =>
    intro b F acc hb hF
    obtain ⟨F, rfl⟩ : ∃ F', F = F' + 1 := ⟨F - 1, by omega⟩
    have AG := ag_mm (v := v) (l := l) (w := w) (p := p) (b := b) hw hl (by omega) (by omega) p 0 FU (by omega) (fuel (by omega))
    rw [nI_0] at AG
    have a0 : (if acc = true then (1 : Int32) else 0) ||| 0 = if acc = true then 1 else 0 := by cases acc <;> rfl
    have a1 : (if acc = true then (1 : Int32) else 0) ||| 1 = if true = true then 1 else 0 := by cases acc <;> rfl
    simp only [fX10_isFit_26]
    rw [mf_b ht hh (by omega) (show b ≤ o by omega)]
    by_cases q1 : may t o b = true
    · by_cases q2 : agf l w b p 0 = true
      · rw [if_pos q1, mRn ha (by decide), ob_s, hv, fX10_liesOn, AG, if_pos q2, bI_s, if_neg (by decide), a1, nI_1, ih (b + 1) F true (by omega) (by omega)]
        simp only [tkf, if_pos (And.intro q1 q2), Bool.or_true, Bool.true_or]
      · rw [if_pos q1, mRn ha (by decide), ob_s, hv, fX10_liesOn, AG, if_neg q2, bI_s, if_pos rfl, a0, nI_1, ih (b + 1) F acc (by omega) (by omega)]
        simp only [tkf, if_neg (fun g : may t o b = true ∧ agf l w b p 0 = true => q2 g.2)]
    · rw [if_neg q1, a0, nI_1, ih (b + 1) F acc (by omega) (by omega)]
      simp only [tkf, if_neg (fun g : may t o b = true ∧ agf l w b p 0 = true => q1 g.1)]
theorem mf_n {a l w m : Nat} (ha : a < 16) (hv : v.2.1 26 a = nI w) (hw1 : 1 ≤ w) (hw : w < 10 ^ 8) (hl : l < 2 ^ 31) (hm : m ≤ 83) (ht : m % 10 ≤ 3) : fX10_isFit (nI a) (nI l) (nI m) v = some (if fitb l w (m / 10) (m % 10) = true then 1 else 0, v) := by
  have hD := dg_b hw1 hw
  have d1 : nI m / (10 : Int32) = nI (m / 10) := pk_div (d := 10) (by omega) (by decide) (by decide)
  have d2 : nI m - nI m / (10 : Int32) * (10 : Int32) = nI (m % 10) := pk_rem (d := 10) (by omega) (by decide) (by decide)
  unfold fitb
  by_cases c : dg w < m / 10
  · have e : nI (dg w) - nI (m / 10) < 0 := pk_sneg (by omega) c
    simp only [fX10_isFit, mRn ha (show 16 < 2 ^ 31 by decide), ob_s, hv, pl_n hw, dg_plf hw1 hw, bI_s, d1, pU_s]
    obtain ⟨F, hF⟩ := FU_s
    rw [hF]
    simp only [fX10_isFit_26, fX10_isFit_26_b, if_pos e, if_pos c, true_or, if_true]
    rfl
  · have := mf_l (m0 := m) ha hv hw hl d2 (show m / 10 ≤ 8 by omega) ht (show dg w - m / 10 < 10 by omega) (dg w - m / 10 + 1) 0 FU false (by omega) (fuel (by omega))
    rw [nI_0] at this
    simp only [fX10_isFit, mRn ha (show 16 < 2 ^ 31 by decide), ob_s, hv, pl_n hw, dg_plf hw1 hw, bI_s, d1, pU_s, pk_sub (show m / 10 ≤ dg w by omega), if_neg c]
    exact this
/-- whether a label fits an address -/
def fA (I : Nat → Nat → Int32) (l m a : Nat) : Bool := fitb l (I 40 a).toNatClampNeg (m / 10) (m % 10)
theorem ft_n (R : Mem z h A M I T J rl G N) (E : tie k M I T v) {a l m : Nat} (ha : a < M 0 2) (hl : l < 10 ^ (m / 10)) (hm : m ≤ 83) (ht : m % 10 ≤ 3) : fX0_takes (A 6 a 0) (nI l) (nI (m / 10)) (nI (m % 10)) G = some (if fA I l m a = true then 1 else 0, G) ∧ fX10_isFit (nI a) (nI l) (nI m) v = some (if fA I l m a = true then 1 else 0, v) := by
  have hb := E.b2
  have ha2 : a < M 2 2 := by rw [E.e2]; exact ha
  obtain ⟨g26, g27, r42, w, hw1, hw8, e40, e41⟩ := E.Ad ha
  have hw : w < 10 ^ 8 := by omega
  have hl8 : l < 2 ^ 31 := by
    have := p10 (show m / 10 ≤ 8 by omega)
    omega
  have c : fA I l m a = fitb l w (m / 10) (m % 10) := by
    unfold fA
    rw [e40, nI_clamp (by omega)]
  rw [c]
  refine ⟨tk_n (R.ao ha2) ?_ ?_ hw1 hw hl8 ht (by omega), mf_n (by omega) ?_ hw1 hw hl8 hm ht⟩
  · rw [R.a1 ha2, e41]
  · rw [R.a0 ha2, e40]
  · rw [g26, e40]
theorem tn10 {m : Nat} (hm : m ≤ 83) : nI m / (10 : Int32) = nI (m / 10) ∧ nI m - nI (m / 10) * (10 : Int32) = nI (m % 10) := by
  have d1 : nI m / (10 : Int32) = nI (m / 10) := pk_div (d := 10) (by omega) (by decide) (by decide)
  refine ⟨d1, ?_⟩
  rw [← d1]
  exact pk_rem (d := 10) (by omega) (by decide) (by decide)
theorem op_fits (R : Mem z h A M I T J rl G N) (E : tie k M I T v) (a1 a2 a3 : Int32) : OkC z h k N (fX9_fits h a1 a2 a3 G) (fX10_fits a1 a2 a3 v) := by
  rcases dc R E a1 with ⟨e1, e2⟩ | ⟨a, ha, rfl, e1, e2⟩
  · simp only [fX9_fits, fX10_fits, R.o10, ob_s, bI_s, pU_s, if_true, if_false, i10, reduceCtorEq, e1, e2]
    exact fd R E 1 (by decide) rfl
  · rcases lab_c a2 a3 G v with ⟨e3, e4⟩ | ⟨m, l, rfl, rfl, h1, h2, h3, h4, e3, e4⟩
    · simp only [fX9_fits, fX10_fits, R.o10, ob_s, bI_s, pU_s, if_true, if_false, i10, reduceCtorEq, e1, e2, e3, e4]
      exact fd R E 1 (by decide) rfl
    · have ha2 : a < M 2 2 := by rw [E.e2]; exact ha
      obtain ⟨f1, f2⟩ := ft_n R E ha h4 h2 h3
      obtain ⟨d1, d2⟩ := tn10 h2
      by_cases q : fA I l m a = true
      · simp only [fX9_fits, fX10_fits, R.o10, ob_s, bI_s, pU_s, if_true, if_false, i10, reduceCtorEq, e1, e2, e3, e4, R.ao ha2, d1, d2, f1, f2, if_pos q]
        exact ok_ro R E _
      · simp only [fX9_fits, fX10_fits, R.o10, ob_s, bI_s, pU_s, if_true, if_false, i10, reduceCtorEq, e1, e2, e3, e4, R.ao ha2, d1, d2, f1, f2, if_neg q]
        exact ok_ro R E _
/-- sets as bits -/
def fbs (P : Nat → Bool) : Nat → Nat
  | 0 => 0
  | n + 1 => if P n = true then fbs P n ||| 2 ^ n else fbs P n
theorem fbs_tb (P : Nat → Bool) (j : Nat) : ∀ n, (fbs P n).testBit j = (decide (j < n) && P j) := by
  intro n
  induction n with
  | zero => simp [fbs]
  | succ n ih =>
    unfold fbs
    by_cases q : P n = true
    · rw [if_pos q, Nat.testBit_or, ih, Nat.testBit_two_pow]
      by_cases e : n = j
      · subst e; simp [q]
      · have : (j < n + 1) = (j < n) := propext ⟨fun g => by omega, fun g => by omega⟩
        simp [e, this]
    · rw [if_neg q, ih]
      by_cases e : j = n
      · subst e; simp [q]
      · have : (j < n + 1) = (j < n) := propext ⟨fun g => by omega, fun g => by omega⟩
        simp [this]
theorem fbs_lt (P : Nat → Bool) : ∀ n, fbs P n < 2 ^ n := by
  intro n
  induction n with
  | zero => simp [fbs]
  | succ n ih =>
    unfold fbs
    have e : (2 : Nat) ^ n < 2 ^ (n + 1) := Nat.pow_lt_pow_right (by decide) (by omega)
    by_cases q : P n = true
    · rw [if_pos q]; exact Nat.or_lt_two_pow (by omega) e
    · rw [if_neg q]; omega
theorem pw2 {n m : Nat} (h : n ≤ m) : 2 ^ n ≤ 2 ^ m := Nat.pow_le_pow_right (by decide) h
theorem fb_l (R : Mem z h A M I T J rl G N) (E : tie k M I T v) {l m : Nat} (hl : l < 10 ^ (m / 10)) (hm : m ≤ 83) (ht : m % 10 ≤ 3) : ∀ (c i F : Nat), i + c = M 0 2 → c < F → fX9_fittingBits_5 F h (nI l) (nI m) (nI (fbs (fA I l m) i)) (nI i) G = some (nI (fbs (fA I l m) (M 0 2)), G) := by
  have hb := E.b2
  obtain ⟨d1, d2⟩ := tn10 hm
  intro c
  induction c with
  | zero =>
    intro i F hi hF
    obtain ⟨F, rfl⟩ : ∃ F', F = F' + 1 := ⟨F - 1, by omega⟩
    have : i = M 0 2 := by omega
    subst this
    simp only [fX9_fittingBits_5, fX9_fittingBits_5_b, R.f2, R.lo (show 2 < 4 by decide), sz_n R (show 2 < 4 by decide), ob_s, bI_s, if_pos (Int32.le_refl (nI (M 0 2)))]
  | succ c ih =>
    intro i F hi hF
    obtain ⟨F, rfl⟩ : ∃ F', F = F' + 1 := ⟨F - 1, by omega⟩
    have hi2 : i < M 2 2 := by rw [E.e2]; omega
    have hiM : i < M 0 2 := by omega
    obtain ⟨f1, f2⟩ := ft_n R E hiM hl hm ht
    have nx := ih (i + 1) F (by omega) (by omega)
    by_cases q : fA I l m i = true
    · have e : fbs (fA I l m) (i + 1) = fbs (fA I l m) i ||| 2 ^ i := if_pos q
      simp only [fX9_fittingBits_5, fX9_fittingBits_5_b, fX9_fittingBits_51, R.f2, R.lo (show 2 < 4 by decide), sz_n R (show 2 < 4 by decide), ob_s, bI_s, if_neg (nI_ge hiM (show M 0 2 < 2 ^ 31 by omega)), get_n R (show 2 < 4 by decide) hiM, eA, R.ak hi2, R.ao hi2, d1, d2, f1, if_pos q, i10, if_false, pU_s, shl_n (show i < 32 by omega), or_n, ← e, nI_1]
      exact nx
    · have e : fbs (fA I l m) (i + 1) = fbs (fA I l m) i := if_neg q
      rw [e] at nx
      simp only [fX9_fittingBits_5, fX9_fittingBits_5_b, fX9_fittingBits_51, R.f2, R.lo (show 2 < 4 by decide), sz_n R (show 2 < 4 by decide), ob_s, bI_s, if_neg (nI_ge hiM (show M 0 2 < 2 ^ 31 by omega)), get_n R (show 2 < 4 by decide) hiM, eA, R.ak hi2, R.ao hi2, d1, d2, f1, if_neg q, if_true, nI_1]
      exact nx
theorem fb_n (R : Mem z h A M I T J rl G N) (E : tie k M I T v) {l m : Nat} (hl : l < 10 ^ (m / 10)) (hm : m ≤ 83) (ht : m % 10 ≤ 3) : fX9_fittingBits h (nI l) (nI m) G = some (nI (fbs (fA I l m) (M 0 2)), G) := by
  have hb := E.b2
  exact fb_l R E hl hm ht (M 0 2) 0 FU (by omega) (fuel (by omega))
theorem fb_h (E : tie k M I T v) (P : Nat → Bool) {i : Nat} (hi : i < M 0 2) (G : gM) : fX9_hasBit (nI (fbs P (M 0 2))) (nI i) G = some (if P i = true then 1 else 0, G) := by
  have hb := E.b2
  have h1 := fbs_lt P (M 0 2)
  have h2 := pw2 hb
  rw [hB_n (by omega) (by omega), fbs_tb]
  simp [hi]
/-- how many come ahead -/
def rkS (P : Nat → Bool) (q : Nat → Int32) (a i : Nat) (x : Int32) : Int32 := if P i = true ∧ (q a < q i ∨ (q i = q a ∧ i < a)) then x + 1 else x
theorem rk_c (R : Mem z h A M I T J rl G N) (E : tie k M I T v) (P : Nat → Bool) {a : Nat} (ha : a < M 0 2) : fX9_rankAmong h (nI (fbs P (M 0 2))) (nI a) G = some (itN (rkS P (I 42) a) (M 0 2) 0, G) := by
  have hb := E.b2
  have ha2 : a < M 2 2 := by rw [E.e2]; exact ha
  simp only [fX9_rankAmong, R.f2, R.lo (show 2 < 4 by decide), ob_s, bI_s, get_n R (show 2 < 4 by decide) ha, eA, R.ak ha2, R.a2 ha2]
  refine itN_loop0 (fun f i x => fX9_rankAmong_21 f h (nI (fbs P (M 0 2))) (nI a) (I 42 a) x i G) (M 0 2) (rkS P (I 42) a) (fun x => some (x, G)) (fun f i x hi => ?_) (fun f x => ?_) (fuel (by omega))
  · have hi2 : i < M 2 2 := by rw [E.e2]; exact hi
    have q5 : (nI a ≤ nI i) = (a ≤ i) := propext (nI_leI (by omega) (by omega))
    simp only [fX9_rankAmong_21, fX9_rankAmong_21_b, fX9_rankAmong_80, fX9_rankAmong_77, R.f2, R.lo (show 2 < 4 by decide), sz_n R (show 2 < 4 by decide), ob_s, bI_s, if_neg (nI_ge hi (show M 0 2 < 2 ^ 31 by omega)), get_n R (show 2 < 4 by decide) hi, eA, R.ak hi2, R.a2 hi2, fb_h E P hi, nI_1, q5]
    unfold rkS
    by_cases c1 : P i = true
    · rw [if_pos c1, if_neg (by decide)]
      by_cases c2 : I 42 a < I 42 i
      · rw [if_pos c2, if_pos ⟨c1, .inl c2⟩]
      · rw [if_neg c2]
        by_cases c3 : I 42 i = I 42 a
        · rw [if_pos c3]
          by_cases c4 : a ≤ i
          · rw [if_pos c4, if_neg (fun g => g.2.elim c2 (fun g => by omega))]
          · rw [if_neg c4, if_pos ⟨c1, .inr ⟨c3, by omega⟩⟩]
        · rw [if_neg c3, if_neg (fun g => g.2.elim c2 (fun g => c3 g.1))]
    · rw [if_neg c1, if_pos rfl, if_neg (fun g => c1 g.1)]
  · simp only [fX9_rankAmong_21, fX9_rankAmong_21_b, R.f2, R.lo (show 2 < 4 by decide), sz_n R (show 2 < 4 by decide), ob_s, bI_s, if_pos (Int32.le_refl _)]
theorem rk_m (R : Mem z h A M I T J rl G N) (E : tie k M I T v) {l m : Nat} (hl : l < 10 ^ (m / 10)) (hm : m ≤ 83) (ht : m % 10 ≤ 3) {a : Nat} (ha : a < M 0 2) (x3 : Int32) (k113 : Int32 → Int32 → Int32 → Int32 → Int32 → mS → Option (Int32 × mS)) : fX10_likely_36 k113 FU (nI l) (nI m) x3 (nI a) 0 0 v = k113 (nI l) (nI m) x3 (nI a) (itN (rkS (fA I l m) (I 42) a) (M 0 2) 0) v := by
  have hb := E.b2
  have n5 := E.1.1.2.2.2.2.1
  have ga := (E.Ad ha).2.1
  refine itN_loop0 (fun f i x => fX10_likely_36 k113 f (nI l) (nI m) x3 (nI a) x i v) (M 0 2) (rkS (fA I l m) (I 42) a) (fun x => k113 (nI l) (nI m) x3 (nI a) x v) (fun f i x hi => ?_) (fun f x => ?_) (fuel (by omega))
  · have q5 : (nI a ≤ nI i) = (a ≤ i) := propext (nI_leI (by omega) (by omega))
    have gi := (E.Ad hi).2.1
    have f2 := (ft_n R E hi hl hm ht).2
    simp only [fX10_likely_36, fX10_likely_36_b, fX10_likely_103, fX10_likely_99, fX10_likely_104, n5, if_neg (nI_ge hi (show M 0 2 < 2 ^ 31 by omega)), f2, bI_s, mRn (show i < 16 by omega) (show 16 < 2 ^ 31 by decide), mRn (show a < 16 by omega) (show 16 < 2 ^ 31 by decide), ob_s, ga, gi, nI_1, q5, Int32.add_zero]
    unfold rkS
    by_cases c1 : fA I l m i = true
    · rw [if_pos c1, if_neg (by decide)]
      by_cases c2 : I 42 a < I 42 i
      · rw [if_pos c2, if_pos ⟨c1, .inl c2⟩]
      · rw [if_neg c2]
        by_cases c3 : I 42 i = I 42 a
        · rw [if_pos c3]
          by_cases c4 : a ≤ i
          · rw [if_pos c4, if_neg (fun g => g.2.elim c2 (fun g => by omega))]
          · rw [if_neg c4, if_pos ⟨c1, .inr ⟨c3, by omega⟩⟩]
        · rw [if_neg c3, if_neg (fun g => g.2.elim c2 (fun g => c3 g.1))]
    · rw [if_neg c1, if_pos rfl, if_neg (fun g => c1 g.1)]
  · simp only [fX10_likely_36, fX10_likely_36_b, n5, if_pos (Int32.le_refl _)]
theorem lk_l (R : Mem z h A M I T J rl G N) (E : tie k M I T v) {l m : Nat} (hl : l < 10 ^ (m / 10)) (hm : m ≤ 83) (ht : m % 10 ≤ 3) (x3 : Int32) : ∀ (c a F F2 : Nat), a + c = M 0 2 → c < F → c < F2 → OkC z h k N (fX9_likely_29 F h x3 (nI (fbs (fA I l m) (M 0 2))) (nI a) G) (fX10_likely_21 F2 (nI l) (nI m) x3 (nI a) v) := by
  have hb := E.b2
  have n5 := E.1.1.2.2.2.2.1
  intro c
  induction c with
  | zero =>
    intro a F F2 ha hF hF2
    obtain ⟨F, rfl⟩ : ∃ F', F = F' + 1 := ⟨F - 1, by omega⟩
    obtain ⟨F2, rfl⟩ : ∃ F', F2 = F' + 1 := ⟨F2 - 1, by omega⟩
    have : a = M 0 2 := by omega
    subst this
    simp only [fX9_likely_29, fX9_likely_29_b, fX10_likely_21, fX10_likely_21_b, R.f2, R.lo (show 2 < 4 by decide), sz_n R (show 2 < 4 by decide), R.o10, ob_s, bI_s, n5, if_pos (Int32.le_refl _)]
    exact fd R E 2 (by decide) rfl
  | succ c ih =>
    intro a F F2 ha hF hF2
    obtain ⟨F, rfl⟩ : ∃ F', F = F' + 1 := ⟨F - 1, by omega⟩
    obtain ⟨F2, rfl⟩ : ∃ F', F2 = F' + 1 := ⟨F2 - 1, by omega⟩
    have haM : a < M 0 2 := by omega
    have nx := ih (a + 1) F F2 (by omega) (by omega) (by omega)
    have f2 := (ft_n R E haM hl hm ht).2
    simp only [fX9_likely_29, fX9_likely_29_b, fX9_likely_66, fX10_likely_21, fX10_likely_21_b, fX10_likely_133, R.f2, R.lo (show 2 < 4 by decide), sz_n R (show 2 < 4 by decide), R.o10, ob_s, bI_s, n5, if_neg (nI_ge haM (show M 0 2 < 2 ^ 31 by omega)), fb_h E _ haM, rk_c R E _ haM, rk_m R E hl hm ht haM, f2, nI_1]
    by_cases c1 : fA I l m a = true
    · simp only [if_pos c1, i10, if_false]
      by_cases c2 : itN (rkS (fA I l m) (I 42) a) (M 0 2) 0 = x3
      · simp only [if_pos c2]
        exact ok_ro R E _
      · simp only [if_neg c2]
        exact nx
    · rw [if_neg c1, if_pos rfl, if_pos rfl]
      exact nx
theorem op_likely (R : Mem z h A M I T J rl G N) (E : tie k M I T v) (a1 a2 a3 : Int32) : OkC z h k N (fX9_likely h a1 a2 a3 G) (fX10_likely a1 a2 a3 v) := by
  have hb := E.b2
  rcases lab_c a1 a2 G v with ⟨e3, e4⟩ | ⟨m, l, rfl, rfl, h1, h2, h3, h4, e3, e4⟩
  · simp only [fX9_likely, fX10_likely, R.o10, ob_s, bI_s, if_true, e3, e4]
    exact fd R E 1 (by decide) rfl
  · by_cases q : 0 ≤ a3
    · simp only [fX9_likely, fX10_likely, R.o10, ob_s, bI_s, if_false, i10, e3, e4, if_pos q, fb_n R E h4 h2 h3]
      exact lk_l R E h4 h2 h3 a3 (M 0 2) 0 FU FU (by omega) (fuel (by omega)) (fuel (by omega))
    · simp only [fX9_likely, fX10_likely, R.o10, ob_s, bI_s, if_false, i10, e3, e4, if_neg q]
      exact fd R E 1 (by decide) rfl
def shS (P : Nat → Bool) (q : Nat → Int32) (i : Nat) (x : Int32) : Int32 := if P i = true then x + q i else x
theorem op_share (R : Mem z h A M I T J rl G N) (E : tie k M I T v) (a1 a2 a3 : Int32) : OkC z h k N (fX9_share h a1 a2 a3 G) (fX10_share a1 a2 a3 v) := by
  have hb := E.b2
  have n5 := E.1.1.2.2.2.2.1
  rcases dc R E a1 with ⟨e1, e2⟩ | ⟨a, ha, rfl, e1, e2⟩
  · simp only [fX9_share, fX10_share, R.o10, ob_s, bI_s, pU_s, if_true, if_false, i10, reduceCtorEq, e1, e2]
    exact fd R E 1 (by decide) rfl
  · rcases lab_c a2 a3 G v with ⟨e3, e4⟩ | ⟨m, l, rfl, rfl, h1, h2, h3, h4, e3, e4⟩
    · simp only [fX9_share, fX10_share, R.o10, ob_s, bI_s, pU_s, if_true, if_false, i10, reduceCtorEq, e1, e2, e3, e4]
      exact fd R E 1 (by decide) rfl
    · have ha2 : a < M 2 2 := by rw [E.e2]; exact ha
      have f2 := (ft_n R E ha h4 h2 h3).2
      have ga := (E.Ad ha).2.1
      have L1 : ∀ (k88 : Nat → Int32 → Option Nat → Int32 → Int32 → gM → Option (Int32 × gM)), fX9_share_40 k88 FU h (nI a) (some (A 6 a 0)) (nI (fbs (fA I l m) (M 0 2))) 0 0 G = k88 h (nI a) (some (A 6 a 0)) (nI (fbs (fA I l m) (M 0 2))) (itN (shS (fA I l m) (I 42)) (M 0 2) 0) G := fun k88 => by
        refine itN_loop0 (fun f i x => fX9_share_40 k88 f h (nI a) (some (A 6 a 0)) (nI (fbs (fA I l m) (M 0 2))) x i G) (M 0 2) (shS (fA I l m) (I 42)) (fun x => k88 h (nI a) (some (A 6 a 0)) (nI (fbs (fA I l m) (M 0 2))) x G) (fun f i x hi => ?_) (fun f x => ?_) (fuel (by omega))
        · have hi2 : i < M 2 2 := by rw [E.e2]; exact hi
          unfold shS
          by_cases c1 : fA I l m i = true
          · simp only [fX9_share_40, fX9_share_40_b, fX9_share_82, R.f2, R.lo (show 2 < 4 by decide), sz_n R (show 2 < 4 by decide), ob_s, bI_s, if_neg (nI_ge hi (show M 0 2 < 2 ^ 31 by omega)), get_n R (show 2 < 4 by decide) hi, eA, R.ak hi2, R.a2 hi2, fb_h E _ hi, nI_1, if_pos c1, i10, if_false]
          · simp only [fX9_share_40, fX9_share_40_b, fX9_share_82, R.f2, R.lo (show 2 < 4 by decide), sz_n R (show 2 < 4 by decide), ob_s, bI_s, if_neg (nI_ge hi (show M 0 2 < 2 ^ 31 by omega)), fb_h E _ hi, nI_1, if_neg c1, if_true]
        · simp only [fX9_share_40, fX9_share_40_b, R.f2, R.lo (show 2 < 4 by decide), sz_n R (show 2 < 4 by decide), ob_s, bI_s, if_pos (Int32.le_refl _)]
      have L2 : ∀ (k70 : Int32 → Int32 → Int32 → Int32 → mS → Option (Int32 × mS)), fX10_share_28 k70 FU (nI a) (nI l) (nI m) 0 0 v = k70 (nI a) (nI l) (nI m) (itN (shS (fA I l m) (I 42)) (M 0 2) 0) v := fun k70 => by
        refine itN_loop0 (fun f i x => fX10_share_28 k70 f (nI a) (nI l) (nI m) x i v) (M 0 2) (shS (fA I l m) (I 42)) (fun x => k70 (nI a) (nI l) (nI m) x v) (fun f i x hi => ?_) (fun f x => ?_) (fuel (by omega))
        · have gi := (E.Ad hi).2.1
          have f2 := (ft_n R E hi h4 h2 h3).2
          unfold shS
          by_cases c1 : fA I l m i = true
          · simp only [fX10_share_28, fX10_share_28_b, fX10_share_61, n5, if_neg (nI_ge hi (show M 0 2 < 2 ^ 31 by omega)), f2, bI_s, mRn (show i < 16 by omega) (show 16 < 2 ^ 31 by decide), ob_s, gi, nI_1, if_pos c1, i10, if_false]
          · simp only [fX10_share_28, fX10_share_28_b, fX10_share_61, n5, if_neg (nI_ge hi (show M 0 2 < 2 ^ 31 by omega)), f2, bI_s, ob_s, nI_1, if_neg c1, if_true, Int32.add_zero]
        · simp only [fX10_share_28, fX10_share_28_b, n5, if_pos (Int32.le_refl _)]
      simp only [fX9_share, fX10_share, R.o10, ob_s, bI_s, if_false, i10, reduceCtorEq, e1, e2, e3, e4, fb_n R E h4 h2 h3, L1, L2, fb_h E _ ha, f2]
      by_cases c1 : fA I l m a = true
      · by_cases c2 : itN (shS (fA I l m) (I 42)) (M 0 2) 0 = 0
        · simp only [if_pos c1, i10, if_false, if_pos c2]
          exact fd R E 2 (by decide) rfl
        · simp only [if_pos c1, i10, if_false, if_neg c2, R.a2 ha2, ob_s, mRn (show a < 16 by omega) (show 16 < 2 ^ 31 by decide), ga]
          exact ok_ro R E _
      · simp only [if_neg c1, if_true]
        exact fd R E 2 (by decide) rfl
end LB
