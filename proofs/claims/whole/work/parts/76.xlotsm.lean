/-! lots: the reference's side -/
theorem bc_k {x k : Nat} : ∀ n, k < bc x n → ∃ i, i < n ∧ x.testBit i = true ∧ bc x i = k := by
  intro n
  induction n with
  | zero => intro h; simp [bc] at h
  | succ n ih =>
    intro h
    by_cases q : x.testBit n = true
    · rw [bc_t q] at h
      rcases Nat.lt_or_ge k (bc x n) with g | g
      · obtain ⟨i, h1, h2, h3⟩ := ih g
        exact ⟨i, by omega, h2, h3⟩
      · exact ⟨n, by omega, q, by omega⟩
    · rw [bc_f q] at h
      obtain ⟨i, h1, h2, h3⟩ := ih h
      exact ⟨i, by omega, h2, h3⟩
section LM
variable {v : mS}
theorem mb_l {x n : Nat} (hx : x < 2 ^ 31) (hn : n ≤ 20) (hm : bc x n ≤ 10) (x2 x3 x4 : Int32) : ∀ (c j F : Nat) (v : mS), j + c = n → c < F → v.1 2 = nI n → v.1 41 = nI (bc x j) → (∀ i, i < j → x.testBit i = true → v.2.1 40 (bc x i) = nI i) → ∃ v', (∀ k123, fX10_lots_77 k123 F (nI x) x2 x3 x4 (nI j) v = k123 x2 x3 x4 v') ∧ (∀ r, r ≠ 41 → v'.1 r = v.1 r) ∧ (∀ r, r ≠ 40 → v'.2.1 r = v.2.1 r) ∧ v'.1 41 = nI (bc x n) ∧ ∀ i, i < n → x.testBit i = true → v'.2.1 40 (bc x i) = nI i := by
  intro c
  induction c with
  | zero =>
    intro j F v hj hF h2 h41 h40
    obtain ⟨F, rfl⟩ : ∃ F', F = F' + 1 := ⟨F - 1, by omega⟩
    have : j = n := by omega
    subst this
    refine ⟨v, fun k123 => ?_, fun _ _ => rfl, fun _ _ => rfl, h41, h40⟩
    simp only [fX10_lots_77, fX10_lots_77_b, h2, if_pos (Int32.le_refl _)]
  | succ c ih =>
    intro j F v hj hF h2 h41 h40
    obtain ⟨F, rfl⟩ : ∃ F', F = F' + 1 := ⟨F - 1, by omega⟩
    have hjn : j < n := by omega
    have cj : ¬ nI n ≤ nI j := nI_ge hjn (by omega)
    by_cases q : x.testBit j = true
    · have hb := bc_lt hjn q
      obtain ⟨v', p1, p2, p3, p4, p5⟩ := ih (j + 1) F (mF (mA v 40 (bc x j) (nI j)) 41 (nI (bc x j) + 1)) (by omega) (by omega) h2 (by rw [bc_t q, ← nI_1]; rfl) (fun i hi hi2 => by
        show upd (v.2.1 40) (bc x j) (nI j) (bc x i) = _
        by_cases e : i = j
        · rw [e, pk_us]
        · have := bc_lt (show i < j by omega) hi2
          rw [pk_un (by omega)]
          exact h40 i (by omega) hi2)
      refine ⟨v', fun k123 => ?_, fun r hr => by rw [p2 r hr]; show (if r = 41 then _ else v.1 r) = _; rw [if_neg hr], fun r hr => by rw [p3 r hr]; show (if r = 40 then _ else v.2.1 r) = _; rw [if_neg hr], p4, p5⟩
      rw [← p1 k123]
      have e1 : (mA v 40 (bc x j) (nI j)).1 41 = nI (bc x j) := h41
      simp only [fX10_lots_77, fX10_lots_77_b, fX10_lots_117, h2, if_neg cj, bit_1 hx (show j < 32 by omega), if_pos q, h41, mUn (show bc x j < 10 by omega) (show 10 < 2 ^ 31 by decide), ob_s, pU_s, e1, nI_1]
    · obtain ⟨v', p1, p2⟩ := ih (j + 1) F v (by omega) (by omega) h2 (by rw [bc_f q]; exact h41) (fun i hi hi2 => by
        by_cases e : i = j
        · rw [e] at hi2; exact absurd hi2 q
        · exact h40 i (by omega) hi2)
      refine ⟨v', fun k123 => ?_, p2⟩
      rw [← p1 k123]
      simp only [fX10_lots_77, fX10_lots_77_b, fX10_lots_117, h2, if_neg cj, bit_1 hx (show j < 32 by omega), if_neg q, nI_1]
/-- the members, and their worths -/
def mbr (m : Nat) (mem : Nat → Nat) (f : Nat → Nat) (v : mS) : Prop := v.1 41 = nI m ∧ ∀ k, k < m → v.2.1 40 k = nI (mem k) ∧ mem k < 20 ∧ v.2.1 7 (mem k) = nI (f k) ∧ f k ≤ 10000
theorem tl_18 {m : Nat} {mem f : Nat → Nat} (hm : m ≤ 10) (B : mbr m mem f v) {s : Nat} (hs : s < 2 ^ 31) (x1 x2 : Int32) (k64 : Int32 → Int32 → Int32 → Int32 → mS → Option mS) : ∀ (c j F : Nat), j + c = m → c < F → fX10_tellLots_18 k64 F x1 x2 (nI s) (nI (cs f s j)) (nI j) v = k64 x1 x2 (nI s) (nI (cs f s m)) v := by
  intro c
  induction c with
  | zero =>
    intro j F hj hF
    obtain ⟨F, rfl⟩ : ∃ F', F = F' + 1 := ⟨F - 1, by omega⟩
    have : j = m := by omega
    subst this
    simp only [fX10_tellLots_18, fX10_tellLots_18_b, B.1, if_pos (Int32.le_refl _)]
  | succ c ih =>
    intro j F hj hF
    obtain ⟨F, rfl⟩ : ∃ F', F = F' + 1 := ⟨F - 1, by omega⟩
    have hjm : j < m := by omega
    obtain ⟨b1, b2, b3, b4⟩ := B.2 j hjm
    have nx := ih (j + 1) F (by omega) (by omega)
    by_cases q : s.testBit j = true
    · have e : cs f s (j + 1) = cs f s j + f j := by simp only [cs]; rw [if_pos q]
      rw [e] at nx
      simp only [fX10_tellLots_18, fX10_tellLots_18_b, fX10_tellLots_55, B.1, if_neg (nI_ge hjm (show m < 2 ^ 31 by omega)), bit_1 hs (show j < 32 by omega), if_pos q, mRn (show j < 10 by omega) (show 10 < 2 ^ 31 by decide), ob_s, b1, mRn b2 (show 20 < 2 ^ 31 by decide), b3, nI_add, nI_1]
      exact nx
    · have e : cs f s (j + 1) = cs f s j := by simp only [cs]; rw [if_neg q, Nat.add_zero]
      rw [e] at nx
      simp only [fX10_tellLots_18, fX10_tellLots_18_b, fX10_tellLots_55, B.1, if_neg (nI_ge hjm (show m < 2 ^ 31 by omega)), bit_1 hs (show j < 32 by omega), if_neg q, Int32.add_zero, nI_1]
      exact nx
def okL (f : Nat → Nat) (m lo hi L : Nat) : Bool := decide (lo ≤ cs f L m ∧ cs f L m ≤ hi)
theorem tl_2 {m lo hi : Nat} {mem f : Nat → Nat} (hm : m ≤ 10) (hlo : lo ≤ 100000) (hhi : hi ≤ 100000) (k83 : mS → Option mS) : ∀ (c s F : Nat) (v : mS), mbr m mem f v → 1 ≤ s → s + c = 2 ^ m → c < F → (∀ L, 1 ≤ L → L < s → v.2.1 43 L = if okL f m lo hi L = true then 1 else 0) → ∃ v', fX10_tellLots_2 k83 F (nI lo) (nI hi) (nI s) v = k83 v' ∧ v'.1 = v.1 ∧ (∀ r, r ≠ 43 → v'.2.1 r = v.2.1 r) ∧ ∀ L, 1 ≤ L → L < 2 ^ m → v'.2.1 43 L = if okL f m lo hi L = true then 1 else 0 := by
  have hpm : 2 ^ m ≤ 2 ^ 10 := pw2 hm
  intro c
  induction c with
  | zero =>
    intro s F v B h1 hs hF hk
    obtain ⟨F, rfl⟩ : ∃ F', F = F' + 1 := ⟨F - 1, by omega⟩
    have : s = 2 ^ m := by omega
    subst this
    refine ⟨v, ?_, rfl, fun _ _ => rfl, hk⟩
    show fX10_tellLots_2_b (nI lo) (nI hi) (nI (2 ^ m)) v (fX10_tellLots_2 k83 F) k83 = _
    unfold fX10_tellLots_2_b
    rw [B.1, shl_n (show m < 32 by omega), if_pos (Int32.le_refl _)]
  | succ c ih =>
    intro s F v B h1 hs hF hk
    obtain ⟨F, rfl⟩ : ∃ F', F = F' + 1 := ⟨F - 1, by omega⟩
    have hsm : s < 2 ^ m := by omega
    have hcb : cs f s m ≤ 10000 * m := cs_b2 m (fun i hi => (B.2 i hi).2.2.2)
    have hcb2 : 10000 * m ≤ 10000 * 10 := Nat.mul_le_mul_left _ hm
    have isi := ii_n (a := cs f s m) (b := lo) (c := hi) (by omega) (by omega) (by omega) v
    have nar : vp_nar .boolean (if lo ≤ cs f s m ∧ cs f s m ≤ hi then (1 : Int32) else 0) = if okL f m lo hi s = true then 1 else 0 := by
      unfold okL
      by_cases g : lo ≤ cs f s m ∧ cs f s m ≤ hi
      · rw [if_pos g, if_pos (decide_eq_true g)]; exact nar1
      · rw [if_neg g, if_neg (fun q => g (of_decide_eq_true q))]; exact nar0
    obtain ⟨v', p1, p2, p3, p4⟩ := ih (s + 1) F (mA v 43 s (if okL f m lo hi s = true then 1 else 0)) B (by omega) (by omega) (by omega) (fun L h3 h4 => by
      show upd (v.2.1 43) s _ L = _
      by_cases e : L = s
      · rw [e, pk_us]
      · rw [pk_un e]; exact hk L h3 (by omega))
    refine ⟨v', ?_, p2, fun r hr => by rw [p3 r hr]; show (if r = 43 then _ else v.2.1 r) = _; rw [if_neg hr], p4⟩
    rw [← p1]
    show fX10_tellLots_2_b (nI lo) (nI hi) (nI s) v (fX10_tellLots_2 k83 F) k83 = _
    unfold fX10_tellLots_2_b
    have tl := fun k64 => tl_18 hm B (s := s) (by omega) (nI lo) (nI hi) k64 m 0 FU (by omega) (fuel (by omega))
    have tl' : ∀ k64, fX10_tellLots_18 k64 FU (nI lo) (nI hi) (nI s) 0 0 v = k64 (nI lo) (nI hi) (nI s) (nI (cs f s m)) v := tl
    rw [B.1, shl_n (show m < 32 by omega), if_neg (nI_ge hsm (by omega)), tl', isi, bI_s, nar, mUn (show s < 1024 by omega) (show 1024 < 2 ^ 31 by decide), ob_s, nI_1]
theorem stR_b {ok : Nat → Bool} {s : Nat} (hs : s < 2 ^ 32) : tv (stR ok) s ≤ 1000 := by
  by_cases h0 : s = 0
  · subst h0; rw [tv_0]; decide
  · rw [stR_s (by omega) hs]
    exact (rmf_s (ok := ok) (w := tv (stR ok)) (s := s) (s + 1 - fb s) (fb s) 1000).1
/-- the conditions on a lot, as the reference asks them -/
theorem vl_c {s L : Nat} (hL : L < 2 ^ 31) : ((nI L &&& (nI s ^^^ (-1 : Int32)) = 0) = (L &&& s = L)) ∧ ((nI L &&& nI (fb s) = 0) = (L &&& fb s = 0)) := by
  refine ⟨?_, ?_⟩
  · rw [sub_b hL]
    exact propext and_sb.symm
  · rw [and_n]
    have : L &&& fb s ≤ L := Nat.and_le_left
    exact propext (nI_z (by omega))
theorem tl_121 {ok : Nat → Bool} {w : Nat → Nat} {t q s : Nat} (e : s = 2 ^ t * (2 * q + 1)) (hs : s < 2 ^ 10) (hw : ∀ u, u < s → w u ≤ 1000) (k197 : Int32 → mS → Option mS) : ∀ (c L F a : Nat) (v : mS), L + c = s + 1 → 1 ≤ L → c < F → a ≤ 1000 → v.2.1 42 s = nI a → (∀ u, u < s → v.2.1 42 u = nI (w u)) → (∀ l, 1 ≤ l → l ≤ s → v.2.1 43 l = if ok l = true then 1 else 0) → ∃ v', fX10_tellLots_121 k197 F (nI s) (nI (fb s)) (nI L) v = k197 (nI s) v' ∧ v'.1 = v.1 ∧ (∀ r, r ≠ 42 → v'.2.1 r = v.2.1 r) ∧ (∀ u, u ≠ s → v'.2.1 42 u = v.2.1 42 u) ∧ v'.2.1 42 s = nI (rmf ok w s c L a) := by
  have hs32 : s < 2 ^ 32 := by omega
  intro c
  induction c with
  | zero =>
    intro L F a v hL h1 hF ha h42 hu hk
    obtain ⟨F, rfl⟩ : ∃ F', F = F' + 1 := ⟨F - 1, by omega⟩
    refine ⟨v, ?_, rfl, fun _ _ => rfl, fun _ _ => rfl, h42⟩
    simp only [fX10_tellLots_121, fX10_tellLots_121_b, if_pos (nI_lt (show s < L by omega) (by omega))]
  | succ c ih =>
    intro L F a v hL h1 hF ha h42 hu hk
    obtain ⟨F, rfl⟩ : ∃ F', F = F' + 1 := ⟨F - 1, by omega⟩
    have c0 : ¬ nI s < nI L := nI_nlt (by omega) (by omega)
    obtain ⟨q1, q2⟩ := vl_c (s := s) (L := L) (by omega)
    have skip : ¬ (vl ok s L = true ∧ 1 + w (s ^^^ L) < a) → rmf ok w s (c + 1) L a = rmf ok w s c (L + 1) a := fun g => by
      simp only [rmf]
      rw [if_neg g]
    have nx := ih (L + 1) F a v (by omega) (by omega) (by omega) ha h42 hu hk
    by_cases g1 : L &&& s = L
    · by_cases g2 : L &&& fb s = 0
      · rw [skip (fun g => by simp [vl, g2] at g)]
        obtain ⟨v', p1, p2⟩ := nx
        refine ⟨v', ?_, p2⟩
        rw [← p1]
        simp only [fX10_tellLots_121, fX10_tellLots_121_b, fX10_tellLots_191, if_neg c0, q1, q2, if_pos g1, if_pos g2, nI_1]
      · have k1 := hk L h1 (by omega)
        by_cases g3 : ok L = true
        · have hv : vl ok s L = true := by simp [vl, g1, g2, g3]
          have lt := (vl_l e hs32 hv).1
          have u1 := hu (s ^^^ L) lt
          have u2 := hw (s ^^^ L) lt
          rw [if_pos g3] at k1
          have e1 : (1 : Int32) + nI (w (s ^^^ L)) = nI (1 + w (s ^^^ L)) := nI_add 1 _
          have l1 : (nI a ≤ nI (1 + w (s ^^^ L))) = (a ≤ 1 + w (s ^^^ L)) := propext (nI_leI (by omega) (by omega))
          by_cases g4 : a ≤ 1 + w (s ^^^ L)
          · rw [skip (fun g => by omega)]
            obtain ⟨v', p1, p2⟩ := nx
            refine ⟨v', ?_, p2⟩
            rw [← p1]
            simp only [fX10_tellLots_121, fX10_tellLots_121_b, fX10_tellLots_191, if_neg c0, q1, q2, if_pos g1, if_neg g2, mRn (show L < 1024 by omega) (show 1024 < 2 ^ 31 by decide), ob_s, k1, i10, if_false, xor_n, mRn (show s ^^^ L < 1024 by omega) (show 1024 < 2 ^ 31 by decide), mRn (show s < 1024 by omega) (show 1024 < 2 ^ 31 by decide), u1, h42, e1, l1, if_pos g4, nI_1]
          · have tk : rmf ok w s (c + 1) L a = rmf ok w s c (L + 1) (1 + w (s ^^^ L)) := by
              simp only [rmf]
              rw [if_pos ⟨hv, by omega⟩]
            obtain ⟨v', p1, p2, p3, p4, p5⟩ := ih (L + 1) F (1 + w (s ^^^ L)) (mA v 42 s (nI (1 + w (s ^^^ L)))) (by omega) (by omega) (by omega) (by omega) (by show upd (v.2.1 42) s _ s = _; rw [pk_us]) (fun u hu' => by
              show upd (v.2.1 42) s _ u = _
              rw [pk_un (by omega)]; exact hu u hu') hk
            refine ⟨v', ?_, p2, fun r hr => by rw [p3 r hr]; show (if r = 42 then _ else v.2.1 r) = _; rw [if_neg hr], fun u hu' => by rw [p4 u hu']; show upd (v.2.1 42) s _ u = _; rw [pk_un hu'], by rw [p5, tk]⟩
            rw [← p1]
            simp only [fX10_tellLots_121, fX10_tellLots_121_b, fX10_tellLots_191, if_neg c0, q1, q2, if_pos g1, if_neg g2, mRn (show L < 1024 by omega) (show 1024 < 2 ^ 31 by decide), ob_s, k1, i10, if_false, xor_n, mRn (show s ^^^ L < 1024 by omega) (show 1024 < 2 ^ 31 by decide), mRn (show s < 1024 by omega) (show 1024 < 2 ^ 31 by decide), u1, h42, e1, l1, if_neg g4, mUn (show s < 1024 by omega) (show 1024 < 2 ^ 31 by decide), nI_1]
        · rw [skip (fun g => by simp [vl, g3] at g)]
          rw [if_neg g3] at k1
          obtain ⟨v', p1, p2⟩ := nx
          refine ⟨v', ?_, p2⟩
          rw [← p1]
          simp only [fX10_tellLots_121, fX10_tellLots_121_b, fX10_tellLots_191, if_neg c0, q1, q2, if_pos g1, if_neg g2, mRn (show L < 1024 by omega) (show 1024 < 2 ^ 31 by decide), ob_s, k1, if_true, nI_1]
    · rw [skip (fun g => by simp [vl, g1] at g)]
      obtain ⟨v', p1, p2⟩ := nx
      refine ⟨v', ?_, p2⟩
      rw [← p1]
      simp only [fX10_tellLots_121, fX10_tellLots_121_b, fX10_tellLots_191, if_neg c0, q1, if_neg g1, nI_1]
theorem fst_n {s : Nat} (hs : s < 2 ^ 31) : nI s &&& (-nI s) = nI (fb s) := by
  rw [Int32.and_comm]
  exact rip_1 hs
theorem fb_p {s : Nat} (h0 : 0 < s) (hs : s < 2 ^ 32) : 1 ≤ fb s ∧ fb s ≤ s := by
  obtain ⟨t, q, e⟩ := odd_pt s h0
  have hfb : fb s = 2 ^ t := by rw [e]; exact fbt_n (by rw [← e]; exact hs)
  have := Nat.two_pow_pos t
  have h2 : 2 ^ t * 1 ≤ 2 ^ t * (2 * q + 1) := Nat.mul_le_mul_left _ (by omega)
  rw [← e] at h2
  omega
theorem tl_92 {ok : Nat → Bool} {m : Nat} (hm : m ≤ 10) : ∀ (c s F : Nat) (v : mS), 1 ≤ s → s + c = 2 ^ m → c < F → v.1 41 = nI m → (∀ u, u < s → v.2.1 42 u = nI (tv (stR ok) u)) → (∀ l, 1 ≤ l → l < 2 ^ m → v.2.1 43 l = if ok l = true then 1 else 0) → ∃ v', fX10_tellLots_92 F (nI s) v = some v' ∧ v'.1 = v.1 ∧ (∀ r, r ≠ 42 → v'.2.1 r = v.2.1 r) ∧ ∀ u, u < 2 ^ m → v'.2.1 42 u = nI (tv (stR ok) u) := by
  have hpm : 2 ^ m ≤ 2 ^ 10 := pw2 hm
  intro c
  induction c with
  | zero =>
    intro s F v h1 hs hF h41 hu hk
    obtain ⟨F, rfl⟩ : ∃ F', F = F' + 1 := ⟨F - 1, by omega⟩
    have : s = 2 ^ m := by omega
    subst this
    refine ⟨v, ?_, rfl, fun _ _ => rfl, hu⟩
    show fX10_tellLots_92_b (nI (2 ^ m)) v (fX10_tellLots_92 F) = _
    unfold fX10_tellLots_92_b
    rw [h41, shl_n (show m < 32 by omega), if_pos (Int32.le_refl _)]
  | succ c ih =>
    intro s F v h1 hs hF h41 hu hk
    obtain ⟨F, rfl⟩ : ∃ F', F = F' + 1 := ⟨F - 1, by omega⟩
    have hsm : s < 2 ^ m := by omega
    obtain ⟨t, q, e⟩ := odd_pt s (by omega)
    obtain ⟨f1, f2⟩ := fb_p (s := s) (by omega) (by omega)
    obtain ⟨v1, p1, p2, p3, p4, p5⟩ := tl_121 (ok := ok) (w := tv (stR ok)) e (by omega) (fun u hu' => stR_b (by omega)) (fun x3 u => fX10_tellLots_92 F (x3 + 1) u) (s + 1 - fb s) (fb s) FU 1000 (mA v 42 s 1000) (by omega) f1 (fuel' (by omega)) (by omega) (by show upd (v.2.1 42) s _ s = _; rw [pk_us]; rfl) (fun u hu' => by
      show upd (v.2.1 42) s _ u = _
      rw [pk_un (by omega)]; exact hu u hu') (fun l h3 h4 => hk l h3 (by omega))
    have e5 : rmf ok (tv (stR ok)) s (s + 1 - fb s) (fb s) 1000 = tv (stR ok) s := (stR_s (ok := ok) (by omega) (by omega)).symm
    rw [e5] at p5
    obtain ⟨v2, r1, r2, r3, r4⟩ := ih (s + 1) F v1 (by omega) (by omega) (by omega) (by rw [p2]; exact h41) (fun u hu' => by
      by_cases g : u = s
      · rw [g]; exact p5
      · rw [p4 u g]
        show upd (v.2.1 42) s _ u = _
        rw [pk_un g]; exact hu u (by omega)) (fun l h3 h4 => by rw [p3 43 (by decide)]; exact hk l h3 h4)
    refine ⟨v2, ?_, by rw [r2, p2]; rfl, fun r hr => by rw [r3 r hr, p3 r hr]; show (if r = 42 then _ else v.2.1 r) = _; rw [if_neg hr], r4⟩
    rw [← r1, ← nI_1]
    show fX10_tellLots_92_b (nI s) v (fX10_tellLots_92 F) = _
    unfold fX10_tellLots_92_b
    rw [h41, shl_n (show m < 32 by omega), if_neg (nI_ge hsm (by omega)), mUn (show s < 1024 by omega) (show 1024 < 2 ^ 31 by decide), ob_s, fst_n (show s < 2 ^ 31 by omega)]
    exact p1
/-- what the reference's tables hold -/
def lTb (ok : Nat → Bool) (m : Nat) (v : mS) : Prop := (∀ u, u < 2 ^ m → v.2.1 42 u = nI (tv (stR ok) u)) ∧ ∀ l, 1 ≤ l → l < 2 ^ m → v.2.1 43 l = if ok l = true then 1 else 0
theorem tl_n {m lo hi : Nat} {mem f : Nat → Nat} (hm : m ≤ 10) (hlo : lo ≤ 100000) (hhi : hi ≤ 100000) (B : mbr m mem f v) : ∃ v', fX10_tellLots (nI lo) (nI hi) v = some v' ∧ v'.1 = v.1 ∧ (∀ r, r ≠ 42 → r ≠ 43 → v'.2.1 r = v.2.1 r) ∧ lTb (okL f m lo hi) m v' := by
  have hp0 := Nat.two_pow_pos m
  have hpm : 2 ^ m ≤ 2 ^ 10 := pw2 hm
  obtain ⟨v1, p1, p2, p3, p4⟩ := tl_2 hm hlo hhi (fun u => (mU u 42 1024 (0 : Int32) (0 : Int32)).bind fun u89 => fX10_tellLots_92 FU (1 : Int32) u89) (2 ^ m - 1) 1 FU v B (by omega) (by omega) (fuel' (by omega)) (fun L h1 h2 => by omega)
  obtain ⟨v2, r1, r2, r3, r4⟩ := tl_92 (ok := okL f m lo hi) hm (2 ^ m - 1) 1 FU (mA v1 42 0 0) (by omega) (by omega) (fuel' (by omega)) (by show v1.1 41 = _; rw [p2]; exact B.1) (fun u hu => by
    have : u = 0 := by omega
    subst this
    show upd (v1.2.1 42) 0 0 0 = _
    rw [pk_us]; rfl) (fun l h1 h2 => by show v1.2.1 43 l = _; exact p4 l h1 h2)
  refine ⟨v2, ?_, by rw [r2]; show v1.1 = _; exact p2, fun r q1 q2 => by rw [r3 r q1]; show (if r = 42 then _ else v1.2.1 r) = _; rw [if_neg q1, p3 r q2], r4, fun l h1 h2 => by rw [r3 43 (by decide)]; show v1.2.1 43 l = _; exact p4 l h1 h2⟩
  unfold fX10_tellLots
  refine p1.trans ?_
  show (mU v1 42 1024 (nI 0) 0).bind _ = _
  rw [mUn (show 0 < 1024 by decide) (show 1024 < 2 ^ 31 by decide), ob_s]
  exact r1
theorem fl_n {ok : Nat → Bool} {m s : Nat} (hm : m ≤ 10) (Tb : lTb ok m v) (h0 : 0 < s) (hs : s < 2 ^ m) (hf : tv (stR ok) s < 1000) : fX10_firstLot (nI s) v = some (nI (bl ok (tv (stC ok)) s), v) := by
  have hpm : 2 ^ m ≤ 2 ^ 10 := pw2 hm
  obtain ⟨b1, b2, b3, b4, b5⟩ := lots_f (ok := ok) h0 (by omega) hf
  obtain ⟨f1, f2⟩ := fb_p (s := s) h0 (by omega)
  obtain ⟨t, q, e⟩ := odd_pt s h0
  have L : ∀ (d L F : Nat), L + d = bl ok (tv (stC ok)) s → 1 ≤ L → d < F → fX10_firstLot_7 F (nI s) (nI (fb s)) (nI L) v = some (nI (bl ok (tv (stC ok)) s), v) := by
    intro d
    induction d with
    | zero =>
      intro L F hL h1 hF
      obtain ⟨F, rfl⟩ : ∃ F', F = F' + 1 := ⟨F - 1, by omega⟩
      have hLB : L = bl ok (tv (stC ok)) s := by omega
      rw [← hLB] at b1 b2
      obtain ⟨q1, q2⟩ := vl_c (s := s) (L := L) (by omega)
      have b1' := b1
      unfold vl at b1'
      rw [Bool.and_eq_true, Bool.and_eq_true, decide_eq_true_eq, decide_eq_true_eq] at b1'
      obtain ⟨g1, g2, g3⟩ := b1'
      have lt := (vl_l e (by omega) b1).1
      have k1 := Tb.2 L h1 (by omega)
      rw [if_pos g3] at k1
      have u1 := Tb.1 (s ^^^ L) (by omega)
      have u2 := Tb.1 s hs
      have u3 := stR_b (ok := ok) (s := s ^^^ L) (by omega)
      have e1 : (1 : Int32) + nI (tv (stR ok) (s ^^^ L)) = nI (tv (stR ok) s) := by rw [← b2]; exact nI_add 1 _
      rw [← hLB]
      simp only [fX10_firstLot_7, fX10_firstLot_7_b, q1, q2, if_pos g1, if_neg g2, mRn (show L < 1024 by omega) (show 1024 < 2 ^ 31 by decide), ob_s, k1, i10, if_false, xor_n, mRn (show s ^^^ L < 1024 by omega) (show 1024 < 2 ^ 31 by decide), mRn (show s < 1024 by omega) (show 1024 < 2 ^ 31 by decide), u1, u2, e1, if_true]
    | succ d ih =>
      intro L F hL h1 hF
      obtain ⟨F, rfl⟩ : ∃ F', F = F' + 1 := ⟨F - 1, by omega⟩
      have nx := ih (L + 1) F (by omega) (by omega) (by omega)
      obtain ⟨q1, q2⟩ := vl_c (s := s) (L := L) (by omega)
      by_cases g1 : L &&& s = L
      · by_cases g2 : L &&& fb s = 0
        · simp only [fX10_firstLot_7, fX10_firstLot_7_b, fX10_firstLot_49, q1, q2, if_pos g1, if_pos g2, nI_1]
          exact nx
        · have k1 := Tb.2 L h1 (by omega)
          by_cases g3 : ok L = true
          · rw [if_pos g3] at k1
            have hv : vl ok s L = true := by simp [vl, g1, g2, g3]
            have lt := (vl_l e (by omega) hv).1
            have ne := b5 L (by omega) hv
            have u1 := Tb.1 (s ^^^ L) (by omega)
            have u2 := Tb.1 s hs
            have u3 := stR_b (ok := ok) (s := s ^^^ L) (by omega)
            have e1 : ¬ (1 : Int32) + nI (tv (stR ok) (s ^^^ L)) = nI (tv (stR ok) s) := fun g => by
              have g' : nI (1 + tv (stR ok) (s ^^^ L)) = nI (tv (stR ok) s) := by rw [← nI_add]; exact g
              exact ne ((nI_eq (by omega) (by omega)).mp g')
            simp only [fX10_firstLot_7, fX10_firstLot_7_b, fX10_firstLot_49, q1, q2, if_pos g1, if_neg g2, mRn (show L < 1024 by omega) (show 1024 < 2 ^ 31 by decide), ob_s, k1, i10, if_false, xor_n, mRn (show s ^^^ L < 1024 by omega) (show 1024 < 2 ^ 31 by decide), mRn (show s < 1024 by omega) (show 1024 < 2 ^ 31 by decide), u1, u2, if_neg e1, nI_1]
            exact nx
          · rw [if_neg g3] at k1
            simp only [fX10_firstLot_7, fX10_firstLot_7_b, fX10_firstLot_49, q1, q2, if_pos g1, if_neg g2, mRn (show L < 1024 by omega) (show 1024 < 2 ^ 31 by decide), ob_s, k1, if_true, nI_1]
            exact nx
      · simp only [fX10_firstLot_7, fX10_firstLot_7_b, fX10_firstLot_49, q1, if_neg g1, nI_1]
        exact nx
  unfold fX10_firstLot
  rw [fst_n (show s < 2 ^ 31 by omega)]
  exact L (bl ok (tv (stC ok)) s - fb s) (fb s) FU (by omega) f1 (fuel' (by omega))
/-- what is left when lots were taken away -/
def rs (ok : Nat → Bool) : Nat → Nat → Nat
  | 0, s => s
  | n + 1, s => rs ok n (s ^^^ bl ok (tv (stC ok)) s)
theorem rs_w {ok : Nat → Bool} {m s : Nat} (hm : m ≤ 10) (hs : s < 2 ^ m) (h1 : 1 ≤ tv (stR ok) s) (h2 : tv (stR ok) s < 1000) : 0 < s ∧ s ^^^ bl ok (tv (stC ok)) s < 2 ^ m ∧ 1 + tv (stR ok) (s ^^^ bl ok (tv (stC ok)) s) = tv (stR ok) s ∧ ¬ bl ok (tv (stC ok)) s = 0 ∧ bl ok (tv (stC ok)) s ≤ s := by
  have hpm : 2 ^ m ≤ 2 ^ 10 := pw2 hm
  have h0 : 0 < s := by
    rcases Nat.lt_or_ge 0 s with g | g
    · exact g
    · have : s = 0 := by omega
      subst this
      rw [tv_0] at h1
      omega
  obtain ⟨b1, b2, b3, b4, b5⟩ := lots_f (ok := ok) h0 (by omega) h2
  obtain ⟨f1, f2⟩ := fb_p (s := s) h0 (by omega)
  obtain ⟨t, q, e⟩ := odd_pt s h0
  have lt := (vl_l e (by omega) b1).1
  exact ⟨h0, by omega, b2, by omega, b4⟩
theorem ll_189 {ok : Nat → Bool} {m wh : Nat} (hm : m ≤ 10) (hw : wh < 1000) (Tb : lTb ok m v) (k217 : Int32 → mS → Option (Int32 × mS)) : ∀ (c i F s : Nat) (l : Int32), i + (c + 1) = wh → c + 1 < F → s < 2 ^ m → c + 1 ≤ tv (stR ok) s → tv (stR ok) s < 1000 → fX10_lots_189 k217 F (nI wh) (nI s) l (nI i) v = k217 (nI (bl ok (tv (stC ok)) (rs ok c s))) v := by
  have hpm : 2 ^ m ≤ 2 ^ 10 := pw2 hm
  intro c
  induction c with
  | zero =>
    intro i F s l hi hF hs h1 h2
    obtain ⟨F, rfl⟩ : ∃ F', F = F' + 1 := ⟨F - 1, by omega⟩
    obtain ⟨F, rfl⟩ : ∃ F', F = F' + 1 := ⟨F - 1, by omega⟩
    obtain ⟨r1, r2, r3, r4, r5⟩ := rs_w hm hs (by omega) h2
    have fl := fl_n hm Tb r1 hs h2
    show fX10_lots_189_b (nI wh) (nI s) l (nI i) v (fX10_lots_189 k217 (F + 1)) k217 = _
    unfold fX10_lots_189_b
    rw [if_neg (nI_ge (show i < wh by omega) (by omega)), fl, bI_s, nI_1]
    show fX10_lots_189_b _ _ _ _ v (fX10_lots_189 k217 F) k217 = _
    unfold fX10_lots_189_b
    rw [if_pos (nI_le (show wh ≤ i + 1 by omega) (by omega))]
    rfl
  | succ c ih =>
    intro i F s l hi hF hs h1 h2
    obtain ⟨F, rfl⟩ : ∃ F', F = F' + 1 := ⟨F - 1, by omega⟩
    obtain ⟨r1, r2, r3, r4, r5⟩ := rs_w hm hs (by omega) h2
    have fl := fl_n hm Tb r1 hs h2
    show fX10_lots_189_b (nI wh) (nI s) l (nI i) v (fX10_lots_189 k217 F) k217 = _
    unfold fX10_lots_189_b
    rw [if_neg (nI_ge (show i < wh by omega) (by omega)), fl, bI_s, nI_1, xor_n]
    exact ih (i + 1) F (s ^^^ bl ok (tv (stC ok)) s) _ (by omega) (by omega) r2 (by omega) (by omega)
theorem ll_223 {x n m l : Nat} {f : Nat → Nat} {mem : Nat → Nat} (hn : n ≤ 20) (hx : x < 2 ^ n) (hmm : bc x n = m) (hm : m ≤ 10) (hl : l < 2 ^ 31) (B : mbr m mem f v) (hmem : ∀ i, i < n → x.testBit i = true → mem (bc x i) = i) : fX10_lots_223 FU (nI l) 0 0 v = some (nI (dp 32 x l), v) := by
  have hd : dp 32 x l = fbs (fun i => x.testBit i && l.testBit (bc x i)) n := by
    apply Nat.eq_of_testBit_eq
    intro i
    rw [dp_tb, fbs_tb]
    by_cases q : i < n
    · simp [q, show i < 32 by omega]
    · have := tb_hi hx (show n ≤ i by omega)
      simp [this]
  have L : ∀ (c j F : Nat), j + c = n → c < F → fX10_lots_223 F (nI l) (nI (fbs (fun i => x.testBit i && l.testBit (bc x i)) j)) (nI (bc x j)) v = some (nI (fbs (fun i => x.testBit i && l.testBit (bc x i)) n), v) := by
    intro c
    induction c with
    | zero =>
      intro j F hj hF
      obtain ⟨F, rfl⟩ : ∃ F', F = F' + 1 := ⟨F - 1, by omega⟩
      have : j = n := by omega
      subst this
      simp only [fX10_lots_223, fX10_lots_223_b, B.1, hmm, if_pos (Int32.le_refl _)]
    | succ c ih =>
      intro j F hj hF
      have nx := fun F' hF' => ih (j + 1) F' (by omega) hF'
      by_cases q : x.testBit j = true
      · obtain ⟨F, rfl⟩ : ∃ F', F = F' + 1 := ⟨F - 1, by omega⟩
        have nx := nx F (by omega)
        have hb := bc_lt (show j < n by omega) q
        obtain ⟨b1, b2, b3, b4⟩ := B.2 (bc x j) (by omega)
        rw [hmem j (by omega) q] at b1
        by_cases q2 : l.testBit (bc x j) = true
        · have e2 : fbs (fun i => x.testBit i && l.testBit (bc x i)) (j + 1) = fbs (fun i => x.testBit i && l.testBit (bc x i)) j ||| 2 ^ j := by
            rw [fbs, if_pos (by rw [q, q2]; rfl)]
          rw [bc_t q, e2] at nx
          simp only [fX10_lots_223, fX10_lots_223_b, fX10_lots_258, B.1, if_neg (nI_ge (show bc x j < m by omega) (show m < 2 ^ 31 by omega)), bit_1 hl (show bc x j < 32 by omega), if_pos q2, mRn (show bc x j < 10 by omega) (show 10 < 2 ^ 31 by decide), ob_s, b1, shl_n (show j < 32 by omega), or_n, nI_1]
          exact nx
        · have e2 : fbs (fun i => x.testBit i && l.testBit (bc x i)) (j + 1) = fbs (fun i => x.testBit i && l.testBit (bc x i)) j := by
            rw [fbs, if_neg (by simp [q2])]
          rw [bc_t q, e2] at nx
          simp only [fX10_lots_223, fX10_lots_223_b, fX10_lots_258, B.1, if_neg (nI_ge (show bc x j < m by omega) (show m < 2 ^ 31 by omega)), bit_1 hl (show bc x j < 32 by omega), if_neg q2, Int32.or_zero, nI_1]
          exact nx
      · have e2 : fbs (fun i => x.testBit i && l.testBit (bc x i)) (j + 1) = fbs (fun i => x.testBit i && l.testBit (bc x i)) j := by
          rw [fbs, if_neg (by simp [q])]
        have nx := nx F (by omega)
        rw [bc_f q, e2] at nx
        exact nx
  rw [hd]
  exact L n 0 FU (by omega) (fuel (by omega))
end LM
