/-! what the class' memory and the reference's rows have in common -/
def rB (x : Int32) (n : Nat) : Prop := ∃ p : Nat, p ≤ n ∧ x = nI p
def rM (x : Int32) (n : Nat) : Prop := x = -1 ∨ rB x n
/-- digits of a word -/
def dg (w : Nat) : Nat := if w < 10 then 1 else if w < 100 then 2 else if w < 1000 then 3 else if w < 10000 then 4 else if w < 100000 then 5 else if w < 1000000 then 6 else if w < 10000000 then 7 else 8
def tN (M : Nat → Nat → Nat) (I : Nat → Nat → Int32) (v : mS) : Prop :=
  (v.1 0 = I 0 13 ∧ v.1 1 = I 0 14 ∧ v.1 2 = nI (M 0 0) ∧ v.1 17 = nI (M 0 1) ∧ v.1 25 = nI (M 0 2) ∧ v.1 32 = I 0 12 ∧ v.1 34 = I 0 15) ∧
  (M 2 0 = M 0 0 ∧ M 2 1 = M 0 1 ∧ M 2 2 = M 0 2) ∧ (M 0 0 ≤ 20 ∧ M 0 1 ≤ 8 ∧ M 0 2 ≤ 16) ∧ rB (I 0 12) 20 ∧ rB (I 0 13) 9999 ∧ rB (I 0 14) 30
def tR (I : Nat → Nat → Int32) (v : mS) : Prop :=
  v.2.1 24 = I 50 ∧ v.2.1 28 = I 51 ∧ v.2.1 35 = I 52 ∧ v.2.1 33 = I 53 ∧ (∀ j, j < 5 → rB (I 50 j) 20) ∧ (∀ j, j < 4 → rB (I 51 j) 60)
/-- one thing -/
def t1 (I : Nat → Nat → Int32) (T : Nat → Nat → Nat → Int32) (v : mS) (t : Nat) : Prop :=
  (v.2.1 3 t = I 10 t ∧ v.2.1 4 t = I 11 t ∧ v.2.1 6 t = I 12 t ∧ v.2.1 7 t = I 13 t ∧ v.2.1 8 t = I 14 t ∧ v.2.1 9 t = I 16 t ∧ v.2.1 10 t = I 17 t) ∧
  (∀ j, j < 5 → v.2.1 5 (5 * t + j) = T 0 t j ∧ rB (T 0 t j) 15) ∧ (I 10 t = 3 → ∀ j, j < 4 → v.2.1 14 (4 * t + j) = T 1 t j ∧ rM (T 1 t j) 100000) ∧
  ((I 16 t = 1 ∨ I 16 t = 2) → v.2.1 11 t = I 18 t) ∧ (I 16 t = 2 → v.2.1 12 t = I 19 t ∧ v.2.1 13 t = I 20 t) ∧ (I 16 t = 1 ∨ I 17 t = -1) ∧
  rB (I 10 t) 3 ∧ rB (I 11 t) 9999 ∧ rB (I 12 t) 5000 ∧ rB (I 13 t) 10000 ∧ rB (I 14 t) 9999 ∧ rB (I 16 t) 3 ∧ (I 16 t = 2 ∨ I 20 t = 0)
def tT (M : Nat → Nat → Nat) (I : Nat → Nat → Int32) (T : Nat → Nat → Nat → Int32) (v : mS) : Prop := ∀ t, t < M 0 0 → t1 I T v t
/-- what is not yet there -/
def tU (M : Nat → Nat → Nat) (v : mS) : Prop := (∀ j, 5 * M 0 0 ≤ j → v.2.1 5 j = 0) ∧ ∀ s, M 0 1 ≤ s → v.2.1 22 s = 0 ∧ v.2.1 23 s = 0
def s1 (I : Nat → Nat → Int32) (T : Nat → Nat → Nat → Int32) (v : mS) (s : Nat) : Prop :=
  (v.2.1 18 s = I 30 s ∧ v.2.1 20 s = I 32 s ∧ v.2.1 21 s = I 33 s ∧ v.2.1 22 s = I 34 s ∧ v.2.1 23 s = if I 34 s < 3 then 0 else 1) ∧
  (∀ j, j < 5 → v.2.1 19 (5 * s + j) = T 2 s j ∧ rM (T 2 s j) 15) ∧ rB (I 30 s) 9999 ∧ rB (I 32 s) 5000 ∧ rB (I 33 s) 5000 ∧ rB (I 34 s) 3
def tS (M : Nat → Nat → Nat) (I : Nat → Nat → Int32) (T : Nat → Nat → Nat → Int32) (v : mS) : Prop := ∀ s, s < M 0 1 → s1 I T v s
def a1 (I : Nat → Nat → Int32) (v : mS) (a : Nat) : Prop :=
  v.2.1 26 a = I 40 a ∧ v.2.1 27 a = I 42 a ∧ rB (I 42 a) 1000 ∧ ∃ w, 1 ≤ w ∧ w ≤ 99999999 ∧ I 40 a = nI w ∧ I 41 a = nI (dg w)
def tA (M : Nat → Nat → Nat) (I : Nat → Nat → Int32) (v : mS) : Prop := ∀ a, a < M 0 2 → a1 I v a
/-- the records, counted -/
def cT (v : mS) (n : Nat) : Nat := itN (fun r a => a + (v.2.1 31 r).toNatClampNeg) n 0
def cM (v : mS) (m n : Nat) : Nat := itN (fun r a => if v.2.1 30 r = nI m then a + 1 else a) n 0
def cX (v : mS) (m n : Nat) : Nat := itN (fun r a => if v.2.1 30 r = nI m then a + (v.2.1 31 r).toNatClampNeg else a) n 0
def tC (I : Nat → Nat → Int32) (v : mS) : Prop :=
  ∃ n, n ≤ 60 ∧ v.1 29 = nI n ∧ I 1 4 = nI n ∧ I 1 5 = nI (cT v n) ∧ (∀ m, m < 6 → I 57 m = nI (cM v m n) ∧ I 58 m = nI (cX v m n)) ∧ ∀ r, r < n → rB (v.2.1 30 r) 5 ∧ rB (v.2.1 31 r) 1
/-- what was known by a day: of the events, and of the changes -/
def kn (v : mS) (t : Nat) (d : Int32) (n : Nat) : Int32 := itN (fun k a => if v.2.1 15 (3 * k) = nI t ∧ v.2.1 15 (3 * k + 1) ≤ d then v.2.1 15 (3 * k + 2) else a) n (-1)
def sb (T : Nat → Nat → Nat → Int32) (t : Nat) (d : Int32) (n : Nat) : Int32 := itN (fun j a => if T 3 t j ≤ d then T 4 t j else a) n (-1)
/-- things that are kept or given -/
def nf (I : Nat → Nat → Int32) (n : Nat) : Nat := itN (fun t a => if I 16 t = 0 ∨ I 16 t = 1 then a + 1 else a) n 0
def tV (k : Nat) (M : Nat → Nat → Nat) (I : Nat → Nat → Int32) (T : Nat → Nat → Nat → Int32) (v : mS) : Prop :=
  ∃ n, v.1 16 = nI n ∧ n + nf I (M 0 0) ≤ k + 2 * M 0 0 ∧ (∀ t, t < M 0 0 → M 4 t ≤ n ∧ ∀ d, kn v t d n = sb T t d (M 4 t)) ∧ ∀ t, M 0 0 ≤ t → t < 20 → ∀ d, kn v t d n = -1
def tie (k : Nat) (M : Nat → Nat → Nat) (I : Nat → Nat → Int32) (T : Nat → Nat → Nat → Int32) (v : mS) : Prop :=
  tN M I v ∧ tR I v ∧ tT M I T v ∧ tU M v ∧ tS M I T v ∧ tA M I v ∧ tC I v ∧ tV k M I T v
def Inv (z : Nat → Nat) (h k : Nat) (v : mS) (G : gM) (N : Nat) : Prop := ∃ A M I T J rl, Mem z h A M I T J rl G N ∧ tie k M I T v
/-- class and reference answer alike, and stay alike -/
def OkC (z : Nat → Nat) (h k N : Nat) (c : Option (Int32 × gM)) (m : Option (Int32 × mS)) : Prop := ∃ r v' G', m = some (r, v') ∧ c = some (r, G') ∧ Inv z h (k + 1) v' G' N
def OkN (z : Nat → Nat) (h k N s : Nat) (c : Option (Int32 × gN)) (m : Option (Int32 × mS)) : Prop := ∃ r v' u', m = some (r, v') ∧ c = some (r, u') ∧ Inv z h (k + 1) v' u'.1 u'.2.1 ∧ u'.2.1 ≤ N + 64 ∧ u'.2.2 ≤ s + 1000
section TT
variable {z : Nat → Nat} {h : Nat} {A : Nat → Nat → Nat → Nat} {M : Nat → Nat → Nat} {I : Nat → Nat → Int32} {T : Nat → Nat → Nat → Int32} {J : Nat → Nat → Int64} {rl : Nat → Nat × Nat × Nat} {G : gM} {N k : Nat} {v : mS}
theorem tie.up (E : tie k M I T v) : tie (k + 1) M I T v := by
  obtain ⟨h1, h2, h3, h4, h5, h6, h7, n, h8, h9, h10⟩ := E
  exact ⟨h1, h2, h3, h4, h5, h6, h7, n, h8, by omega, h10⟩
theorem ok_ro (R : Mem z h A M I T J rl G N) (E : tie k M I T v) (r : Int32) : OkC z h k N (some (r, G)) (some (r, v)) := ⟨r, v, G, rfl, rfl, A, M, I, T, J, rl, R, E.up⟩
theorem ok_w {M' : Nat → Nat → Nat} {I' : Nat → Nat → Int32} {T' : Nat → Nat → Nat → Int32} {J' : Nat → Nat → Int64} {v' : mS} {G' : gM} (R : Mem z h A M' I' T' J' rl G' N) (E : tie k M' I' T' v') (r : Int32) : OkC z h k N (some (r, G')) (some (r, v')) := ⟨r, v', G', rfl, rfl, A, M', I', T', J', rl, R, E.up⟩
theorem OkC.n {c : Option (Int32 × gM)} {m : Option (Int32 × mS)} {s : Nat} (q : OkC z h k N c m) : OkN z h k N s (cN c (G, N, s)) m := by
  obtain ⟨r, v', G', h1, h2, h3⟩ := q
  exact ⟨r, v', (G', N, s), h1, by rw [h2]; rfl, h3, by show N ≤ _; omega, by show s ≤ _; omega⟩
theorem tie.Th (E : tie k M I T v) {t : Nat} (ht : t < M 0 0) : t1 I T v t := E.2.2.1 t ht
theorem tie.Sk (E : tie k M I T v) {t : Nat} (ht : t < M 0 1) : s1 I T v t := E.2.2.2.2.1 t ht
theorem tie.Ad (E : tie k M I T v) {t : Nat} (ht : t < M 0 2) : a1 I v t := E.2.2.2.2.2.1 t ht
theorem tie.b0 (E : tie k M I T v) : M 0 0 ≤ 20 := E.1.2.2.1.1
theorem tie.b1 (E : tie k M I T v) : M 0 1 ≤ 8 := E.1.2.2.1.2.1
theorem tie.b2 (E : tie k M I T v) : M 0 2 ≤ 16 := E.1.2.2.1.2.2
theorem tie.e0 (E : tie k M I T v) : M 2 0 = M 0 0 := E.1.2.1.1
theorem tie.e1 (E : tie k M I T v) : M 2 1 = M 0 1 := E.1.2.1.2.1
theorem tie.e2 (E : tie k M I T v) : M 2 2 = M 0 2 := E.1.2.1.2.2
/-- a thing's number, asked for on both sides -/
theorem tc (R : Mem z h A M I T J rl G N) (E : tie k M I T v) (x : Int32) : (fX9_thingOf h x G = some (none, G) ∧ fX10_isThing x v = some (0, v)) ∨ ∃ t, t < M 0 0 ∧ x = nI t ∧ fX9_thingOf h x G = some (some (A 4 t 0), G) ∧ fX10_isThing x v = some (1, v) := by
  have hb := E.b0
  rcases th_c R x with ⟨h1, h2 | ⟨h2, h3⟩⟩ | ⟨t, h1, rfl, h2⟩
  · exact .inl ⟨h1, by rw [fX10_isThing, if_pos h2]⟩
  · exact .inl ⟨h1, by rw [fX10_isThing, if_neg h2, E.1.1.2.2.1, if_pos h3]⟩
  · exact .inr ⟨t, h1, rfl, h2, by rw [fX10_isThing, if_neg (nI_pos (by omega)), E.1.1.2.2.1, if_neg (nI_ge h1 (by omega))]⟩
theorem sc (R : Mem z h A M I T J rl G N) (E : tie k M I T v) (x : Int32) : (fX9_seekerOf h x G = some (none, G) ∧ fX10_isSeeker x v = some (0, v)) ∨ ∃ t, t < M 0 1 ∧ x = nI t ∧ fX9_seekerOf h x G = some (some (A 5 t 0), G) ∧ fX10_isSeeker x v = some (1, v) := by
  have hb := E.b1
  rcases sk_c R x with ⟨h1, h2 | ⟨h2, h3⟩⟩ | ⟨t, h1, rfl, h2⟩
  · exact .inl ⟨h1, by rw [fX10_isSeeker, if_pos h2]⟩
  · exact .inl ⟨h1, by rw [fX10_isSeeker, if_neg h2, E.1.1.2.2.2.1, if_pos h3]⟩
  · exact .inr ⟨t, h1, rfl, h2, by rw [fX10_isSeeker, if_neg (nI_pos (by omega)), E.1.1.2.2.2.1, if_neg (nI_ge h1 (by omega))]⟩
theorem dc (R : Mem z h A M I T J rl G N) (E : tie k M I T v) (x : Int32) : (fX9_addressOf h x G = some (none, G) ∧ fX10_isAddress x v = some (0, v)) ∨ ∃ t, t < M 0 2 ∧ x = nI t ∧ fX9_addressOf h x G = some (some (A 6 t 0), G) ∧ fX10_isAddress x v = some (1, v) := by
  have hb := E.b2
  rcases ad_c R x with ⟨h1, h2 | ⟨h2, h3⟩⟩ | ⟨t, h1, rfl, h2⟩
  · exact .inl ⟨h1, by rw [fX10_isAddress, if_pos h2]⟩
  · exact .inl ⟨h1, by rw [fX10_isAddress, if_neg h2, E.1.1.2.2.2.2.1, if_pos h3]⟩
  · exact .inr ⟨t, h1, rfl, h2, by rw [fX10_isAddress, if_neg (nI_pos (by omega)), E.1.1.2.2.2.2.1, if_neg (nI_ge h1 (by omega))]⟩
/-- bounds, asked for on both sides -/
theorem wc (x lo hi : Int32) (G : gM) (v : mS) : (fX9_within x lo hi G = some (0, G) ∧ fX10_isIn x lo hi v = some (0, v)) ∨ (fX9_within x lo hi G = some (1, G) ∧ fX10_isIn x lo hi v = some (1, v) ∧ ¬ x < lo ∧ ¬ hi < x) := by
  rcases rg_c x lo hi with (h1 | ⟨h1, h2⟩) | ⟨h1, h2⟩
  · exact .inl ⟨by rw [fX9_within, if_pos h1], by rw [fX10_isIn, if_pos h1]⟩
  · exact .inl ⟨by rw [fX9_within, if_neg h1, if_pos h2], by rw [fX10_isIn, if_neg h1, if_pos h2]⟩
  · exact .inr ⟨by rw [fX9_within, if_neg h1, if_neg h2], by rw [fX10_isIn, if_neg h1, if_neg h2], h1, h2⟩
theorem i10 : ((1 : Int32) = 0) = False := by decide
/-- a finding, on both sides -/
theorem fd2 (R : Mem z h A M I T J rl G N) (E : tie k M I T v) {f : Int32} (n : Nat) (hn : n < 6) (hf : f = nI n) : ∃ r v' G', fX10_finding f v = some (r, v') ∧ fX9_finding h f G = some (r, G') ∧ Mem z h A M (uu I 52 n (I 52 n + 1)) T J rl G' N ∧ tie k M (uu I 52 n (I 52 n + 1)) T v' := by
  subst hf
  obtain ⟨G', e1, R'⟩ := w52 R hn (I 52 n + 1)
  refine ⟨(-1000000 : Int32) - nI n, mA v 35 n (v.2.1 35 n + 1), G', ?_, ?_, R', ?_⟩
  · rw [fX10_finding, mR_n (by decide) hn, ob_s, mU_n (by decide) hn, ob_s]
  · rw [fX9_finding, R.f5, ob_s, ob_s, aI_n (R.c 3 2 0 ⟨by decide, rfl⟩) (by decide) hn, ob_s, ob_s, e1, ob_s]
  · obtain ⟨h1, h2, h3, h4, h5, h6, h7, h8⟩ := E
    refine ⟨h1, ?_, h3, h4, h5, h6, h7, h8⟩
    obtain ⟨g1, g2, g3, g4, g5, g6⟩ := h2
    refine ⟨g1, g2, ?_, g4, g5, g6⟩
    show upd (v.2.1 35) n _ = upd (I 52) n _
    rw [g3]
theorem fd (R : Mem z h A M I T J rl G N) (E : tie k M I T v) {f : Int32} (n : Nat) (hn : n < 6) (hf : f = nI n) : OkC z h k N (bI (fX9_finding h f G) fun r u => some (r, u)) (bI (fX10_finding f v) fun r u => some (r, u)) := by
  obtain ⟨r, v', G', e1, e2, R', E'⟩ := fd2 R E n hn hf
  rw [e1, e2]
  exact ok_w R' E' r
end TT
