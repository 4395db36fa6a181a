/-! match and check -/
section MO
variable {z : Nat → Nat} {h : Nat} {A : Nat → Nat → Nat → Nat} {M : Nat → Nat → Nat} {I : Nat → Nat → Int32} {T : Nat → Nat → Nat → Int32} {J : Nat → Nat → Int64} {rl : Nat → Nat × Nat × Nat} {G : gM} {N k : Nat} {v : mS}
theorem lk0_b (hp : ∀ j, j < 5 → rB (I 50 j) 20) {s t : Nat} {a : Int32} (ha : -3 ≤ a.toInt ∧ a.toInt ≤ 3) : ∀ n : Nat, n ≤ 5 → -3 - 10 * (n : Int) ≤ (itN (fun i a => if T 2 s i = T 0 t i then a + I 50 i else if T 2 s i = -1 then a else a - I 50 i / 2) n a).toInt ∧ (itN (fun i a => if T 2 s i = T 0 t i then a + I 50 i else if T 2 s i = -1 then a else a - I 50 i / 2) n a).toInt ≤ 3 + 20 * (n : Int) := by
  intro n
  induction n with
  | zero => intro _; exact ⟨by simp only [itN]; omega, by simp only [itN]; omega⟩
  | succ n ih =>
    intro hn
    obtain ⟨i1, i2⟩ := ih (by omega)
    rw [itN_s]
    generalize itN (fun i a => if T 2 s i = T 0 t i then a + I 50 i else if T 2 s i = -1 then a else a - I 50 i / 2) n a = b at *
    obtain ⟨p, hp1, ep⟩ := hp n (by omega)
    have e2 : nI p / (2 : Int32) = nI (p / 2) := pk_div (d := 2) (by omega) (by decide) (by decide)
    have t1 : (nI p).toInt = (p : Int) := nI_toInt (by omega)
    have t2 : (nI (p / 2)).toInt = ((p / 2 : Nat) : Int) := nI_toInt (by omega)
    rw [ep, e2]
    by_cases q : T 2 s n = T 0 t n
    · rw [if_pos q, fb_addI (by omega) (by omega), t1]
      omega
    · rw [if_neg q]
      by_cases q2 : T 2 s n = -1
      · rw [if_pos q2]; omega
      · rw [if_neg q2, fb_subI (by omega) (by omega), t2]
        omega
theorem lk_b (E : tie k M I T v) (s t : Nat) : ∃ p, p ≤ 103 ∧ lk I T s t = nI p := by
  obtain ⟨-, -, -, -, r5, -⟩ := E.2.1
  have c : ∀ a : Int32, (-3 ≤ a.toInt ∧ a.toInt ≤ 3) → ∃ p, p ≤ 103 ∧ (if lk0 I T s t a < 0 then 0 else lk0 I T s t a) = nI p := fun a ha => by
    have h5 := (lk0_b (T := T) (s := s) (t := t) r5 ha 5 (by decide)).2
    have h5' : (lk0 I T s t a).toInt ≤ 3 + 20 * ((5 : Nat) : Int) := h5
    by_cases q : lk0 I T s t a < 0
    · rw [if_pos q]; exact ⟨0, by decide, rfl⟩
    · rw [if_neg q]
      obtain ⟨j, hj, e⟩ := nI_of q
      rw [e, nI_toInt hj] at h5'
      exact ⟨j, by omega, e⟩
  have z0 : ∃ p, p ≤ 103 ∧ (0 : Int32) = nI p := ⟨0, by decide, rfl⟩
  unfold lk
  by_cases q1 : I 16 t = 0
  · rw [if_pos q1]
    by_cases q2 : I 34 s < 3
    · rw [if_pos q2]
      by_cases q3 : I 30 s ≤ I 11 t
      · rw [if_pos q3]
        by_cases q4 : (if I 12 t < I 32 s then (0 : Int32) else if I 33 s < I 12 t then 0 else 1) = 0
        · rw [if_pos q4]; exact c _ (by decide)
        · rw [if_neg q4]; exact c _ (by decide)
      · rw [if_neg q3]; exact z0
    · rw [if_neg q2]; exact z0
  · rw [if_neg q1]; exact z0
/-- the likenesses as numbers -/
def lkN (I : Nat → Nat → Int32) (T : Nat → Nat → Nat → Int32) (s t : Nat) : Nat := (lk I T s t).toNatClampNeg
theorem lkN_n (E : tie k M I T v) (s t : Nat) : lk I T s t = nI (lkN I T s t) ∧ lkN I T s t ≤ 103 := by
  obtain ⟨p, h1, h2⟩ := lk_b E s t
  unfold lkN
  rw [h2, nI_clamp (by omega)]
  exact ⟨rfl, h1⟩
theorem mth_b {L : Nat → Nat → Nat} {S Tn : Nat} : ∀ n j g s t, mth L S Tn n j g s = some t → t < Tn := by
  intro n
  induction n with
  | zero => intro j g s t h; cases h
  | succ n ih =>
    intro j g s t h
    simp only [mth] at h
    by_cases e : s = j
    · rw [if_pos e] at h
      exact (opt_s h).1
    · rw [if_neg e] at h
      exact ih _ _ _ _ h
theorem ti_n {b s : Nat} {o : Option Nat} (hb : b < 2 ^ 63) (hs : s < 8) (ho : b / pw s % 21 = dgv o) (ht : ∀ t, o = some t → t < 20) (G : gM) : fX3_thingIn (lN b) (nI s) G = some (mtv o, G) := by
  have hp : 0 < pw s := Nat.pow_pos (by decide)
  have hp2 : pw s ≤ 21 ^ 7 := p21 (by omega)
  have hp3 : pw s < 2 ^ 63 := Nat.lt_of_le_of_lt hp2 (by decide)
  have hbd : b / pw s < 2 ^ 63 := Nat.lt_of_le_of_lt (Nat.div_le_self _ _) hb
  have ne : ¬ lN (pw s) = 0 := fun g => by
    have := (pk_lEQ (b := 0) hp3 (by decide)).mp g
    omega
  have e1 : lN b / lN (pw s) = lN (b / pw s) := pk_lDiv hb hp hp3
  have e2 : lN (b / pw s) - lN (b / pw s) / (21 : Int64) * (21 : Int64) = lN (b / pw s % 21) := pk_lRem (b := 21) hbd (by decide) (by decide)
  unfold fX3_thingIn
  rw [plE_n hs, ob_s, if_neg ne, e1, e2, lN_i, ho, pU_s]
  cases o with
  | none => rfl
  | some t =>
    have htt := ht t rfl
    show (if nI (20 - t) = 0 then _ else _) = _
    rw [if_neg (nI_ne0 (by omega) (by omega))]
    have : (20 : Int32) - nI (20 - t) = nI t := by
      rw [show (20 : Int32) - nI (20 - t) = nI (20 - (20 - t)) from pk_sub (a := 20) (by omega)]
      congr 1
      omega
    show some ((20 : Int32) - nI (20 - t), G) = _
    rw [this]
    rfl
theorem best_b {L : Nat → Nat → Nat} {S Tn : Nat} (hT : Tn ≤ 20) (hL : ∀ s t, L s t ≤ 103) (g σ : Nat → Bool) : Fm (Wm L) S Tn g σ < 2 ^ 63 := by
  have h1 := Fm_ba (S := S) (Wm_b hL) Tn g σ
  have h2 : 104 * 21 ^ 8 * Tn ≤ 104 * 21 ^ 8 * 20 := Nat.mul_le_mul_left _ hT
  exact Nat.lt_of_le_of_lt (Nat.le_trans h1 h2) (by decide)
theorem li_n {L : Nat → Nat → Nat} {S Tn : Nat} (hS : S ≤ 8) (hT : Tn ≤ 20) (hL : ∀ s t, L s t ≤ 103) (g : Nat → Bool) (G : gM) : fX3_likenessesIn (lN (Fm (Wm L) S Tn g (frm S 0))) G = some (nI (Fm L S Tn g (frm S 0)), G) := by
  have hw := way (L := L) hS hT S 0 g (by omega)
  have cb := wcd_b (L := L) (Tn := Tn) hS S 0 g (by omega)
  have e1 : lN (Fm (Wm L) S Tn g (frm S 0)) / (37822859361 : Int64) = lN (Fm (Wm L) S Tn g (frm S 0) / 21 ^ 8) := by
    rw [show (37822859361 : Int64) = lN (21 ^ 8) by decide]
    exact pk_lDiv (best_b hT hL g _) (by decide) (by decide)
  unfold fX3_likenessesIn
  rw [e1, lN_i, hw, Nat.mul_comm, Nat.mul_add_div (by decide), Nat.div_eq_of_lt cb, Nat.add_zero]
theorem op_match (R : Mem z h A M I T J rl G N) (E : tie k M I T v) (a1 : Int32) : OkC z h k N (fX9_match h a1 G) (fX10_match a1 v) := by
  have hb1 := E.b1
  have hb0 := E.b0
  have hL : ∀ s t, lkN I T s t ≤ 103 := fun s t => (lkN_n E s t).2
  have hlk : ∀ s t, s < M 0 1 → t < M 0 0 → lk I T s t = nI (lkN I T s t) := fun s t _ _ => (lkN_n E s t).1
  obtain ⟨J1, G1, b1, R1⟩ := bm_n R hb0 hb1 hL hlk
  obtain ⟨v1, m1, m2, m3, m4⟩ := tm_n E hL hlk
  have E1 : tie k M (uu I 1 0 (nI (M 0 1))) T v1 := tie_v (fun r _ => by rw [m2]) (fun r hr => m3 r hr) (tie_I (I := I) (fun r i _ _ _ _ h1 => by
    by_cases e : r = 1
    · have := h1 e
      rw [uu_o (.inr (by omega))]
    · rw [uu_o (.inl e)]) E)
  have li := li_n (L := lkN I T) hb1 hb0 hL (fun _ => false) G1
  have bb := best_b (L := lkN I T) (S := M 0 1) hb0 hL (fun _ => false) (frm (M 0 1) 0)
  by_cases q1 : a1 = -1
  · subst q1
    have w1 : fX9_within (-1) (-1) (nI (M 0 1) - 1) G = some (1, G) := by
      unfold fX9_within
      have n1 : ¬ nI (M 0 1) - 1 < (-1 : Int32) := by
        rw [Int32.lt_iff_toInt_lt]
        show ¬ (nI (M 0 1) - nI 1).toInt < _
        rw [pk_sub_toInt (by omega) (by decide)]
        have : (-1 : Int32).toInt = -1 := by decide
        omega
      rw [if_neg (by decide), if_neg n1]
    have hm : fX10_match (-1) v = some (nI (Fm (lkN I T) (M 0 1) (M 0 0) (fun _ => false) (frm (M 0 1) 0)), v1) := by
      unfold fX10_match
      rw [if_pos rfl]
      unfold fX10_match_19
      rw [m1, bI_s, if_neg (by decide)]
    have hc : fX9_match h (-1) G = some (nI (Fm (lkN I T) (M 0 1) (M 0 0) (fun _ => false) (frm (M 0 1) 0)), G1) := by
      unfold fX9_match
      rw [R.f1, ob_s, ob_s, R.lo (show 1 < 4 by decide), ob_s, sz_n R (show 1 < 4 by decide), bI_s, w1, bI_s, if_neg (by decide), R.o10, ob_s, b1, bI_s, if_pos rfl, li, bI_s]
    rw [hm, hc]
    exact ok_w (J' := J1) R1 E1 _
  · rcases ix_c a1 (n := M 0 1) (by omega) with q2 | ⟨s, hs, rfl⟩
    · have w1 : fX9_within a1 (-1) (nI (M 0 1) - 1) G = some (0, G) := by
        unfold fX9_within
        rcases q2 with q2 | ⟨q2, q3, q4⟩
        · have : a1 < -1 := by
            rw [Int32.lt_iff_toInt_lt] at q2 ⊢
            have c0 : (0 : Int32).toInt = 0 := by decide
            have c1 : (-1 : Int32).toInt = -1 := by decide
            have c2 : a1.toInt ≠ -1 := fun g => q1 (Int32.toInt_inj.mp (by rw [g, c1]))
            omega
          rw [if_pos this]
        · have : ¬ a1 < -1 := fun g => q2 (by
            rw [Int32.lt_iff_toInt_lt] at g ⊢
            have c0 : (0 : Int32).toInt = 0 := by decide
            have c1 : (-1 : Int32).toInt = -1 := by decide
            omega)
          rw [if_neg this, if_pos q3]
      have is0 : fX10_isSeeker a1 v = some (0, v) := by
        unfold fX10_isSeeker
        rcases q2 with q2 | ⟨q2, q3, q4⟩
        · rw [if_pos q2]
        · rw [if_neg q2, E.1.1.2.2.2.1, if_pos q4]
      have hm : fX10_match a1 v = bI (fX10_finding 1 v) fun r u => some (r, u) := by
        unfold fX10_match
        rw [if_neg q1, is0, bI_s, if_pos rfl]
      have hc : fX9_match h a1 G = bI (fX9_finding h 1 G) fun r u => some (r, u) := by
        unfold fX9_match
        rw [R.f1, ob_s, ob_s, R.lo (show 1 < 4 by decide), ob_s, sz_n R (show 1 < 4 by decide), bI_s, w1, bI_s, if_pos rfl, R.o10, ob_s]
      rw [hm, hc]
      exact fd R E 1 (by decide) rfl
    · have w1 : fX9_within (nI s) (-1) (nI (M 0 1) - 1) G = some (1, G) := by
        unfold fX9_within
        have n0 : ¬ nI s < (-1 : Int32) := by
          rw [Int32.lt_iff_toInt_lt, nI_toInt (by omega)]
          have : (-1 : Int32).toInt = -1 := by decide
          omega
        rw [if_neg n0, if_neg (ix_t (by omega) hs)]
      have is1 : fX10_isSeeker (nI s) v = some (1, v) := by
        unfold fX10_isSeeker
        rw [if_neg (nI_pos (by omega)), E.1.1.2.2.2.1, if_neg (nI_ge hs (by omega))]
      have wd := (way_d (L := lkN I T) hb1 hb0 hs (fun _ => false)).1
      have ti := ti_n bb (show s < 8 by omega) wd (fun t ht => by have := mth_b _ _ _ _ _ ht; omega) G1
      have mr := m4 s hs
      have hm0 : fX10_match (nI s) v = (mR v1 36 8 (nI s)).bind fun v37 => if 0 ≤ v37 then ((mR v1 36 8 (nI s)).bind fun v54 => some (v54, v1)) else (bI (fX10_finding 2 v1) fun r u => some (r, u)) := by
        unfold fX10_match
        rw [if_neg q1, is1, bI_s, if_neg (by decide)]
        unfold fX10_match_19
        rw [m1, bI_s, if_pos (Int32.not_lt.mp (nI_pos (by omega)))]
      rw [mRn (show s < 8 by omega) (show 8 < 2 ^ 31 by decide), ob_s, ob_s, mr] at hm0
      have hc : fX9_match h (nI s) G = if mtv (mth (lkN I T) (M 0 1) (M 0 0) (M 0 1) 0 (fun _ => false) s) = -1 then (bI (fX9_finding h 2 G1) fun r u => some (r, u)) else some (mtv (mth (lkN I T) (M 0 1) (M 0 0) (M 0 1) 0 (fun _ => false) s), G1) := by
        unfold fX9_match
        rw [R.f1, ob_s, ob_s, R.lo (show 1 < 4 by decide), ob_s, sz_n R (show 1 < 4 by decide), bI_s, w1, bI_s, if_neg (by decide), R.o10, ob_s, b1, bI_s, if_neg q1, ti, bI_s, R1.o10, ob_s]
      rw [hm0, hc]
      cases ho : mth (lkN I T) (M 0 1) (M 0 0) (M 0 1) 0 (fun _ => false) s with
      | none =>
        rw [if_neg (show ¬ (0 : Int32) ≤ mtv none by decide), if_pos (show mtv none = -1 from rfl)]
        exact fd R1 E1 2 (by decide) rfl
      | some t =>
        have ht := mth_b _ _ _ _ _ ho
        rw [if_pos (show (0 : Int32) ≤ mtv (some t) from Int32.not_lt.mp (nI_pos (by omega))), if_neg (show ¬ mtv (some t) = -1 from nI_nm (by omega))]
        exact ok_w (J' := J1) R1 E1 _
theorem op_check (R : Mem z h A M I T J rl G N) (E : tie k M I T v) : OkC z h k N (fX9_check h G) (fX10_check v) := by
  have hb1 := E.b1
  have hb0 := E.b0
  have hL : ∀ s t, lkN I T s t ≤ 103 := fun s t => (lkN_n E s t).2
  have hlk : ∀ s t, s < M 0 1 → t < M 0 0 → lk I T s t = nI (lkN I T s t) := fun s t _ _ => (lkN_n E s t).1
  obtain ⟨J1, G1, b1, R1⟩ := bm_n R hb0 hb1 hL hlk
  obtain ⟨G2, d2, R2⟩ := wo12 R1 0
  have E0 : tie k M (uu I 0 12 0) T (mF v 32 0) := by
    obtain ⟨⟨⟨n1, n2, n3, n4, n5, n6, n7⟩, n8, n9, n10, n11, n12⟩, h2, h3, h4, h5, h6, h7, h8⟩ := id E
    exact ⟨⟨⟨n1, n2, n3, n4, n5, rfl, n7⟩, n8, n9, ⟨0, by decide, rfl⟩, n11, n12⟩, h2, h3, h4, h5, h6, h7, h8⟩
  obtain ⟨v1, m1, m2, m3, m4⟩ := tm_n E0 hL (fun s t hs ht => hlk s t hs ht)
  have E1 : tie k M (uu (uu I 1 0 (nI (M 0 1))) 0 12 0) T v1 := tie_v (v := mF v 32 0) (fun r _ => by rw [m2]) (fun r hr => m3 r hr) (tie_I (I := uu I 0 12 0) (fun r i _ _ _ _ h1 => by
    by_cases e : r = 1
    · have := h1 e
      rw [uu_o (.inl (by omega)), uu_o (.inr (by omega)), uu_o (.inl (by omega))]
    · by_cases e2 : r = 0 ∧ i = 12
      · rw [e2.1, e2.2, uu_s, uu_s]
      · have e3 : r ≠ 0 ∨ i ≠ 12 := by omega
        rw [uu_o e3, uu_o (.inl e), uu_o e3]) E0)
  have bb := best_b (L := lkN I T) (S := M 0 1) hb0 hL (fun _ => false) (frm (M 0 1) 0)
  obtain ⟨p, hp, ep⟩ := E.1.2.2.2.1
  have f12 : gI [10] 12 G1 h = some (nI p) := by rw [← ep]; exact R1.f12
  have e32 : v.1 32 = nI p := by rw [E.1.1.2.2.2.2.2.1, ep]
  have e17 : v1.1 17 = nI (M 0 1) := by rw [m2]; exact E.1.1.2.2.2.1
  have e33 : v1.2.1 33 = I 53 := by rw [m3 33 (by decide)]; exact E.2.1.2.2.2.1
  have g53 : ∀ i, i < 20 → aI G2 (A 3 3 0) (nI i) = some (I 53 i) := fun i hi => aI_n (R2.c 3 3 0 ⟨by decide, rfl⟩) (by decide) hi
  have loop : ∀ (c i F F2 : Nat), i + c = p → c < F → c < F2 → ∃ r, fX9_check_18 F h (lN (Fm (Wm (lkN I T)) (M 0 1) (M 0 0) (fun _ => false) (frm (M 0 1) 0))) (nI p) (nI i) G2 = some (r, G2) ∧ fX10_check_17 F2 (nI p) (nI i) v1 = some (r, v1) := by
    intro c
    induction c with
    | zero =>
      intro i F F2 hi hF hF2
      obtain ⟨F, rfl⟩ : ∃ F', F = F' + 1 := ⟨F - 1, by omega⟩
      obtain ⟨F2, rfl⟩ : ∃ F', F2 = F' + 1 := ⟨F2 - 1, by omega⟩
      have : i = p := by omega
      subst this
      exact ⟨0, by simp only [fX9_check_18, fX9_check_18_b, if_pos (Int32.le_refl _)], by simp only [fX10_check_17, fX10_check_17_b, if_pos (Int32.le_refl _)]⟩
    | succ c ih =>
      intro i F F2 hi hF hF2
      obtain ⟨F, rfl⟩ : ∃ F', F = F' + 1 := ⟨F - 1, by omega⟩
      obtain ⟨F2, rfl⟩ : ∃ F', F2 = F' + 1 := ⟨F2 - 1, by omega⟩
      have ci : ¬ nI p ≤ nI i := nI_ge (by omega) (by omega)
      by_cases q : M 0 1 ≤ i
      · have c1 : nI (M 0 1) ≤ nI i := nI_le q (by omega)
        exact ⟨1 + nI i, by simp only [fX9_check_18, fX9_check_18_b, if_neg ci, R2.f1, R2.lo (show 1 < 4 by decide), sz_n R2 (show 1 < 4 by decide), ob_s, bI_s, if_pos c1], by simp only [fX10_check_17, fX10_check_17_b, if_neg ci, e17, if_pos c1]⟩
      · have hs : i < M 0 1 := by omega
        have c1 : ¬ nI (M 0 1) ≤ nI i := nI_ge hs (by omega)
        have wd := (way_d (L := lkN I T) hb1 hb0 hs (fun _ => false)).1
        have ti := ti_n bb (show i < 8 by omega) wd (fun t ht => by have := mth_b _ _ _ _ _ ht; omega) G2
        have mr := m4 i hs
        obtain ⟨r, p1, p2⟩ := ih (i + 1) F F2 (by omega) (by omega) (by omega)
        by_cases q2 : I 53 i = mtv (mth (lkN I T) (M 0 1) (M 0 0) (M 0 1) 0 (fun _ => false) i)
        · refine ⟨r, ?_, ?_⟩
          · rw [← p1]
            simp only [fX9_check_18, fX9_check_18_b, if_neg ci, R2.f1, R2.f6, R2.lo (show 1 < 4 by decide), sz_n R2 (show 1 < 4 by decide), ob_s, bI_s, if_neg c1, g53 i (show i < 20 by omega), ti, if_pos q2, nI_1]
          · rw [← p2]
            simp only [fX10_check_17, fX10_check_17_b, if_neg ci, e17, if_neg c1, mRn (show i < 20 by omega) (show 20 < 2 ^ 31 by decide), mRn (show i < 8 by omega) (show 8 < 2 ^ 31 by decide), ob_s, e33, mr]
            rw [if_pos q2, nI_1]
        · refine ⟨1 + nI i, ?_, ?_⟩
          · simp only [fX9_check_18, fX9_check_18_b, if_neg ci, R2.f1, R2.f6, R2.lo (show 1 < 4 by decide), sz_n R2 (show 1 < 4 by decide), ob_s, bI_s, if_neg c1, g53 i (show i < 20 by omega), ti, if_neg q2]
          · simp only [fX10_check_17, fX10_check_17_b, if_neg ci, e17, if_neg c1, mRn (show i < 20 by omega) (show 20 < 2 ^ 31 by decide), mRn (show i < 8 by omega) (show 8 < 2 ^ 31 by decide), ob_s, e33, mr]
            rw [if_neg q2]
  obtain ⟨r, l1, l2⟩ := loop p 0 FU FU (by omega) (fuel (by omega)) (fuel (by omega))
  have l1' : fX9_check_18 FU h (lN (Fm (Wm (lkN I T)) (M 0 1) (M 0 0) (fun _ => false) (frm (M 0 1) 0))) (nI p) 0 G2 = some (r, G2) := l1
  have l2' : fX10_check_17 FU (nI p) 0 v1 = some (r, v1) := l2
  have hc : fX9_check h G = some (r, G2) := by
    unfold fX9_check
    rw [R.o10, ob_s, b1, bI_s, f12, ob_s, d2, ob_s]
    exact l1'
  have hm : fX10_check v = some (r, v1) := by
    unfold fX10_check
    rw [pU_s, m1, bI_s, e32]
    exact l2'
  rw [hc, hm]
  exact ok_w (J' := J1) R2 E1 _
end MO
