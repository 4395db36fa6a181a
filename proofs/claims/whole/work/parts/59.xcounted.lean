section O6
variable {z : Nat → Nat} {h : Nat} {A : Nat → Nat → Nat → Nat} {M : Nat → Nat → Nat} {I : Nat → Nat → Int32} {T : Nat → Nat → Nat → Int32} {J : Nat → Nat → Int64} {rl : Nat → Nat × Nat × Nat} {G : gM} {N k : Nat} {v : mS}
/-- what hands agree on -/
def h4 (a b c d x : Int32) : Nat := (if a = x then 1 else 0) + (if b = x then 1 else 0) + (if c = x then 1 else 0) + (if d = x then 1 else 0)
def ag1 (H : Int32 → Nat) (x g : Int32) (k : Int32 → Int32) : Int32 := if x = -1 then k g else if x = g then k g else if 2 ≤ H x then (if g = -1 then k x else -1) else k g
def ag (a b c d : Int32) : Int32 := ag1 (h4 a b c d) a (-1) fun g => ag1 (h4 a b c d) b g fun g => ag1 (h4 a b c d) c g fun g => ag1 (h4 a b c d) d g fun g => g
def al1 (H : Int32 → Nat) (o v : Int32) : Bool := decide (o = -1) || decide (o = v) || decide (H o < H v)
def al (H : Int32 → Nat) (a b c d v : Int32) : Bool := !decide (v = -1) && decide (2 ≤ H v) && al1 H a v && al1 H b v && al1 H c v && al1 H d v
def md (a b c d : Int32) : Int32 := if al (h4 a b c d) a b c d a = true then a else if al (h4 a b c d) a b c d b = true then b else if al (h4 a b c d) a b c d c = true then c else if al (h4 a b c d) a b c d d = true then d else -1
set_option maxHeartbeats 4000000 in
theorem ag_md (a b c d : Int32) : ag a b c d = md a b c d := by
  by_cases na0 : -1 = a
  · subst na0
    by_cases nb0 : -1 = b
    · subst nb0
      by_cases nc0 : -1 = c
      · subst nc0
        by_cases nd0 : -1 = d
        · subst nd0
          simp [ag, ag1, md, al, al1, h4]
        · replace nd0 : -1 ≠ d := nd0
          simp [ag, ag1, md, al, al1, h4, nd0, Ne.symm nd0]
      · replace nc0 : -1 ≠ c := nc0
        by_cases nd0 : -1 = d
        · subst nd0
          simp [ag, ag1, md, al, al1, h4, nc0, Ne.symm nc0]
        · replace nd0 : -1 ≠ d := nd0
          by_cases nd1 : c = d
          · subst nd1
            simp [ag, ag1, md, al, al1, h4, nc0, nd0, Ne.symm nc0, Ne.symm nd0]
          · replace nd1 : c ≠ d := nd1
            simp [ag, ag1, md, al, al1, h4, nc0, nd0, nd1, Ne.symm nc0, Ne.symm nd0, Ne.symm nd1]
    · replace nb0 : -1 ≠ b := nb0
      by_cases nc0 : -1 = c
      · subst nc0
        by_cases nd0 : -1 = d
        · subst nd0
          simp [ag, ag1, md, al, al1, h4, nb0, Ne.symm nb0]
        · replace nd0 : -1 ≠ d := nd0
          by_cases nd1 : b = d
          · subst nd1
            simp [ag, ag1, md, al, al1, h4, nb0, nd0, Ne.symm nb0, Ne.symm nd0]
          · replace nd1 : b ≠ d := nd1
            simp [ag, ag1, md, al, al1, h4, nb0, nd0, nd1, Ne.symm nb0, Ne.symm nd0, Ne.symm nd1]
      · replace nc0 : -1 ≠ c := nc0
        by_cases nc1 : b = c
        · subst nc1
          by_cases nd0 : -1 = d
          · subst nd0
            simp [ag, ag1, md, al, al1, h4, nb0, nc0, Ne.symm nb0, Ne.symm nc0]
          · replace nd0 : -1 ≠ d := nd0
            by_cases nd1 : b = d
            · subst nd1
              simp [ag, ag1, md, al, al1, h4, nb0, nc0, nd0, Ne.symm nb0, Ne.symm nc0, Ne.symm nd0]
            · replace nd1 : b ≠ d := nd1
              simp [ag, ag1, md, al, al1, h4, nb0, nc0, nd0, nd1, Ne.symm nb0, Ne.symm nc0, Ne.symm nd0, Ne.symm nd1]
        · replace nc1 : b ≠ c := nc1
          by_cases nd0 : -1 = d
          · subst nd0
            simp [ag, ag1, md, al, al1, h4, nb0, nc0, nc1, Ne.symm nb0, Ne.symm nc0, Ne.symm nc1]
          · replace nd0 : -1 ≠ d := nd0
            by_cases nd1 : b = d
            · subst nd1
              simp [ag, ag1, md, al, al1, h4, nb0, nc0, nc1, nd0, Ne.symm nb0, Ne.symm nc0, Ne.symm nc1, Ne.symm nd0]
            · replace nd1 : b ≠ d := nd1
              by_cases nd2 : c = d
              · subst nd2
                simp [ag, ag1, md, al, al1, h4, nb0, nc0, nc1, nd0, nd1, Ne.symm nb0, Ne.symm nc0, Ne.symm nc1, Ne.symm nd0, Ne.symm nd1]
              · replace nd2 : c ≠ d := nd2
                simp [ag, ag1, md, al, al1, h4, nb0, nc0, nc1, nd0, nd1, nd2, Ne.symm nb0, Ne.symm nc0, Ne.symm nc1, Ne.symm nd0, Ne.symm nd1, Ne.symm nd2]
  · replace na0 : -1 ≠ a := na0
    by_cases nb0 : -1 = b
    · subst nb0
      by_cases nc0 : -1 = c
      · subst nc0
        by_cases nd0 : -1 = d
        · subst nd0
          simp [ag, ag1, md, al, al1, h4, na0, Ne.symm na0]
        · replace nd0 : -1 ≠ d := nd0
          by_cases nd1 : a = d
          · subst nd1
            simp [ag, ag1, md, al, al1, h4, na0, nd0, Ne.symm na0, Ne.symm nd0]
          · replace nd1 : a ≠ d := nd1
            simp [ag, ag1, md, al, al1, h4, na0, nd0, nd1, Ne.symm na0, Ne.symm nd0, Ne.symm nd1]
      · replace nc0 : -1 ≠ c := nc0
        by_cases nc1 : a = c
        · subst nc1
          by_cases nd0 : -1 = d
          · subst nd0
            simp [ag, ag1, md, al, al1, h4, na0, nc0, Ne.symm na0, Ne.symm nc0]
          · replace nd0 : -1 ≠ d := nd0
            by_cases nd1 : a = d
            · subst nd1
              simp [ag, ag1, md, al, al1, h4, na0, nc0, nd0, Ne.symm na0, Ne.symm nc0, Ne.symm nd0]
            · replace nd1 : a ≠ d := nd1
              simp [ag, ag1, md, al, al1, h4, na0, nc0, nd0, nd1, Ne.symm na0, Ne.symm nc0, Ne.symm nd0, Ne.symm nd1]
        · replace nc1 : a ≠ c := nc1
          by_cases nd0 : -1 = d
          · subst nd0
            simp [ag, ag1, md, al, al1, h4, na0, nc0, nc1, Ne.symm na0, Ne.symm nc0, Ne.symm nc1]
          · replace nd0 : -1 ≠ d := nd0
            by_cases nd1 : a = d
            · subst nd1
              simp [ag, ag1, md, al, al1, h4, na0, nc0, nc1, nd0, Ne.symm na0, Ne.symm nc0, Ne.symm nc1, Ne.symm nd0]
            · replace nd1 : a ≠ d := nd1
              by_cases nd2 : c = d
              · subst nd2
                simp [ag, ag1, md, al, al1, h4, na0, nc0, nc1, nd0, nd1, Ne.symm na0, Ne.symm nc0, Ne.symm nc1, Ne.symm nd0, Ne.symm nd1]
              · replace nd2 : c ≠ d := nd2
                simp [ag, ag1, md, al, al1, h4, na0, nc0, nc1, nd0, nd1, nd2, Ne.symm na0, Ne.symm nc0, Ne.symm nc1, Ne.symm nd0, Ne.symm nd1, Ne.symm nd2]
    · replace nb0 : -1 ≠ b := nb0
      by_cases nb1 : a = b
      · subst nb1
        by_cases nc0 : -1 = c
        · subst nc0
          by_cases nd0 : -1 = d
          · subst nd0
            simp [ag, ag1, md, al, al1, h4, na0, nb0, Ne.symm na0, Ne.symm nb0]
          · replace nd0 : -1 ≠ d := nd0
            by_cases nd1 : a = d
            · subst nd1
              simp [ag, ag1, md, al, al1, h4, na0, nb0, nd0, Ne.symm na0, Ne.symm nb0, Ne.symm nd0]
            · replace nd1 : a ≠ d := nd1
              simp [ag, ag1, md, al, al1, h4, na0, nb0, nd0, nd1, Ne.symm na0, Ne.symm nb0, Ne.symm nd0, Ne.symm nd1]
        · replace nc0 : -1 ≠ c := nc0
          by_cases nc1 : a = c
          · subst nc1
            by_cases nd0 : -1 = d
            · subst nd0
              simp [ag, ag1, md, al, al1, h4, na0, nb0, nc0, Ne.symm na0, Ne.symm nb0, Ne.symm nc0]
            · replace nd0 : -1 ≠ d := nd0
              by_cases nd1 : a = d
              · subst nd1
                simp [ag, ag1, md, al, al1, h4, na0, nb0, nc0, nd0, Ne.symm na0, Ne.symm nb0, Ne.symm nc0, Ne.symm nd0]
              · replace nd1 : a ≠ d := nd1
                simp [ag, ag1, md, al, al1, h4, na0, nb0, nc0, nd0, nd1, Ne.symm na0, Ne.symm nb0, Ne.symm nc0, Ne.symm nd0, Ne.symm nd1]
          · replace nc1 : a ≠ c := nc1
            by_cases nd0 : -1 = d
            · subst nd0
              simp [ag, ag1, md, al, al1, h4, na0, nb0, nc0, nc1, Ne.symm na0, Ne.symm nb0, Ne.symm nc0, Ne.symm nc1]
            · replace nd0 : -1 ≠ d := nd0
              by_cases nd1 : a = d
              · subst nd1
                simp [ag, ag1, md, al, al1, h4, na0, nb0, nc0, nc1, nd0, Ne.symm na0, Ne.symm nb0, Ne.symm nc0, Ne.symm nc1, Ne.symm nd0]
              · replace nd1 : a ≠ d := nd1
                by_cases nd2 : c = d
                · subst nd2
                  simp [ag, ag1, md, al, al1, h4, na0, nb0, nc0, nc1, nd0, nd1, Ne.symm na0, Ne.symm nb0, Ne.symm nc0, Ne.symm nc1, Ne.symm nd0, Ne.symm nd1]
                · replace nd2 : c ≠ d := nd2
                  simp [ag, ag1, md, al, al1, h4, na0, nb0, nc0, nc1, nd0, nd1, nd2, Ne.symm na0, Ne.symm nb0, Ne.symm nc0, Ne.symm nc1, Ne.symm nd0, Ne.symm nd1, Ne.symm nd2]
      · replace nb1 : a ≠ b := nb1
        by_cases nc0 : -1 = c
        · subst nc0
          by_cases nd0 : -1 = d
          · subst nd0
            simp [ag, ag1, md, al, al1, h4, na0, nb0, nb1, Ne.symm na0, Ne.symm nb0, Ne.symm nb1]
          · replace nd0 : -1 ≠ d := nd0
            by_cases nd1 : a = d
            · subst nd1
              simp [ag, ag1, md, al, al1, h4, na0, nb0, nb1, nd0, Ne.symm na0, Ne.symm nb0, Ne.symm nb1, Ne.symm nd0]
            · replace nd1 : a ≠ d := nd1
              by_cases nd2 : b = d
              · subst nd2
                simp [ag, ag1, md, al, al1, h4, na0, nb0, nb1, nd0, nd1, Ne.symm na0, Ne.symm nb0, Ne.symm nb1, Ne.symm nd0, Ne.symm nd1]
              · replace nd2 : b ≠ d := nd2
                simp [ag, ag1, md, al, al1, h4, na0, nb0, nb1, nd0, nd1, nd2, Ne.symm na0, Ne.symm nb0, Ne.symm nb1, Ne.symm nd0, Ne.symm nd1, Ne.symm nd2]
        · replace nc0 : -1 ≠ c := nc0
          by_cases nc1 : a = c
          · subst nc1
            by_cases nd0 : -1 = d
            · subst nd0
              simp [ag, ag1, md, al, al1, h4, na0, nb0, nb1, nc0, Ne.symm na0, Ne.symm nb0, Ne.symm nb1, Ne.symm nc0]
            · replace nd0 : -1 ≠ d := nd0
              by_cases nd1 : a = d
              · subst nd1
                simp [ag, ag1, md, al, al1, h4, na0, nb0, nb1, nc0, nd0, Ne.symm na0, Ne.symm nb0, Ne.symm nb1, Ne.symm nc0, Ne.symm nd0]
              · replace nd1 : a ≠ d := nd1
                by_cases nd2 : b = d
                · subst nd2
                  simp [ag, ag1, md, al, al1, h4, na0, nb0, nb1, nc0, nd0, nd1, Ne.symm na0, Ne.symm nb0, Ne.symm nb1, Ne.symm nc0, Ne.symm nd0, Ne.symm nd1]
                · replace nd2 : b ≠ d := nd2
                  simp [ag, ag1, md, al, al1, h4, na0, nb0, nb1, nc0, nd0, nd1, nd2, Ne.symm na0, Ne.symm nb0, Ne.symm nb1, Ne.symm nc0, Ne.symm nd0, Ne.symm nd1, Ne.symm nd2]
          · replace nc1 : a ≠ c := nc1
            by_cases nc2 : b = c
            · subst nc2
              by_cases nd0 : -1 = d
              · subst nd0
                simp [ag, ag1, md, al, al1, h4, na0, nb0, nb1, nc0, nc1, Ne.symm na0, Ne.symm nb0, Ne.symm nb1, Ne.symm nc0, Ne.symm nc1]
              · replace nd0 : -1 ≠ d := nd0
                by_cases nd1 : a = d
                · subst nd1
                  simp [ag, ag1, md, al, al1, h4, na0, nb0, nb1, nc0, nc1, nd0, Ne.symm na0, Ne.symm nb0, Ne.symm nb1, Ne.symm nc0, Ne.symm nc1, Ne.symm nd0]
                · replace nd1 : a ≠ d := nd1
                  by_cases nd2 : b = d
                  · subst nd2
                    simp [ag, ag1, md, al, al1, h4, na0, nb0, nb1, nc0, nc1, nd0, nd1, Ne.symm na0, Ne.symm nb0, Ne.symm nb1, Ne.symm nc0, Ne.symm nc1, Ne.symm nd0, Ne.symm nd1]
                  · replace nd2 : b ≠ d := nd2
                    simp [ag, ag1, md, al, al1, h4, na0, nb0, nb1, nc0, nc1, nd0, nd1, nd2, Ne.symm na0, Ne.symm nb0, Ne.symm nb1, Ne.symm nc0, Ne.symm nc1, Ne.symm nd0, Ne.symm nd1, Ne.symm nd2]
            · replace nc2 : b ≠ c := nc2
              by_cases nd0 : -1 = d
              · subst nd0
                simp [ag, ag1, md, al, al1, h4, na0, nb0, nb1, nc0, nc1, nc2, Ne.symm na0, Ne.symm nb0, Ne.symm nb1, Ne.symm nc0, Ne.symm nc1, Ne.symm nc2]
              · replace nd0 : -1 ≠ d := nd0
                by_cases nd1 : a = d
                · subst nd1
                  simp [ag, ag1, md, al, al1, h4, na0, nb0, nb1, nc0, nc1, nc2, nd0, Ne.symm na0, Ne.symm nb0, Ne.symm nb1, Ne.symm nc0, Ne.symm nc1, Ne.symm nc2, Ne.symm nd0]
                · replace nd1 : a ≠ d := nd1
                  by_cases nd2 : b = d
                  · subst nd2
                    simp [ag, ag1, md, al, al1, h4, na0, nb0, nb1, nc0, nc1, nc2, nd0, nd1, Ne.symm na0, Ne.symm nb0, Ne.symm nb1, Ne.symm nc0, Ne.symm nc1, Ne.symm nc2, Ne.symm nd0, Ne.symm nd1]
                  · replace nd2 : b ≠ d := nd2
                    by_cases nd3 : c = d
                    · subst nd3
                      simp [ag, ag1, md, al, al1, h4, na0, nb0, nb1, nc0, nc1, nc2, nd0, nd1, nd2, Ne.symm na0, Ne.symm nb0, Ne.symm nb1, Ne.symm nc0, Ne.symm nc1, Ne.symm nc2, Ne.symm nd0, Ne.symm nd1, Ne.symm nd2]
                    · replace nd3 : c ≠ d := nd3
                      simp [ag, ag1, md, al, al1, h4, na0, nb0, nb1, nc0, nc1, nc2, nd0, nd1, nd2, nd3, Ne.symm na0, Ne.symm nb0, Ne.symm nb1, Ne.symm nc0, Ne.symm nc1, Ne.symm nc2, Ne.symm nd0, Ne.symm nd1, Ne.symm nd2, Ne.symm nd3]
theorem hW_4 (f : Nat → Int32) (x : Int32) : hW f x 4 = h4 (f 0) (f 1) (f 2) (f 3) x := by
  show (if f 3 = x then (if f 2 = x then (if f 1 = x then (if f 0 = x then 0 + 1 else 0) + 1 else (if f 0 = x then 0 + 1 else 0)) + 1 else (if f 1 = x then (if f 0 = x then 0 + 1 else 0) + 1 else (if f 0 = x then 0 + 1 else 0))) + 1 else (if f 2 = x then (if f 1 = x then (if f 0 = x then 0 + 1 else 0) + 1 else (if f 0 = x then 0 + 1 else 0)) + 1 else (if f 1 = x then (if f 0 = x then 0 + 1 else 0) + 1 else (if f 0 = x then 0 + 1 else 0)))) = _
  unfold h4
  by_cases q0 : f 0 = x <;> by_cases q1 : f 1 = x <;> by_cases q2 : f 2 = x <;> by_cases q3 : f 3 = x <;> simp [q0, q1, q2, q3]
theorem ag_st (R : Mem z h A M I T J rl G N) {t : Nat} (ht : t < M 2 0) (hp : I 10 t = 3) {i f : Nat} (hi : i < 4) {k : Int32 → Int32} (hk : ∀ g, fX5_agreedCount_4 f (A 4 t 0) g (nI (i + 1)) G = some (k g, G)) (g : Int32) : fX5_agreedCount_4 (f + 1) (A 4 t 0) g (nI i) G = some (ag1 (fun x => hW (T 1 t) x 4) (T 1 t i) g k, G) := by
  have e0 : gR [6] 12 G (A 4 t 0) = some (some (A 8 t 0)) := gR_n (R.tp ht hp) rfl rfl
  have e1 : ∃ q, gO [6] G (A 4 t 0) = some q := ⟨_, gO_n (cs := [6]) (R.tp ht hp) rfl⟩
  obtain ⟨q, e1⟩ := e1
  have c : ¬ (4 : Int32) ≤ nI i := nI_ge (b := 4) hi (by decide)
  have hb := hW_b (T 1 t) (T 1 t i) 4
  have c2 : (2 : Int32) ≤ nI (hW (T 1 t) (T 1 t i) 4) ↔ 2 ≤ hW (T 1 t) (T 1 t i) 4 := nI_leI (a := 2) (by decide) (by omega)
  unfold ag1
  by_cases q1 : T 1 t i = -1
  · simp only [fX5_agreedCount_4, fX5_agreedCount_4_b, fX5_agreedCount_60, if_neg c, ob_s, e0, aI_n (R.tn ht hp) (by decide) hi, if_pos q1, nI_1, hk]
  · by_cases q2 : T 1 t i = g
    · simp only [fX5_agreedCount_4, fX5_agreedCount_4_b, fX5_agreedCount_60, if_neg c, ob_s, e0, aI_n (R.tn ht hp) (by decide) hi, if_neg q1, if_pos q2, nI_1, hk]
    · by_cases q3 : 2 ≤ hW (T 1 t) (T 1 t i) 4
      · by_cases q4 : g = -1
        · simp only [fX5_agreedCount_4, fX5_agreedCount_4_b, fX5_agreedCount_60, if_neg c, ob_s, bI_s, e0, e1, aI_n (R.tn ht hp) (by decide) hi, hW_c R ht hp, if_neg q1, if_neg q2, if_pos (c2.mpr q3), if_pos q3, if_pos q4, nI_1, hk]
        · simp only [fX5_agreedCount_4, fX5_agreedCount_4_b, fX5_agreedCount_60, if_neg c, ob_s, bI_s, e0, e1, aI_n (R.tn ht hp) (by decide) hi, hW_c R ht hp, if_neg q1, if_neg q2, if_pos (c2.mpr q3), if_pos q3, if_neg q4]
      · simp only [fX5_agreedCount_4, fX5_agreedCount_4_b, fX5_agreedCount_60, if_neg c, ob_s, bI_s, e0, e1, aI_n (R.tn ht hp) (by decide) hi, hW_c R ht hp, if_neg q1, if_neg q2, if_neg (fun z => q3 (c2.mp z)), if_neg q3, nI_1, hk]
theorem ag_c (R : Mem z h A M I T J rl G N) {t : Nat} (ht : t < M 2 0) (hp : I 10 t = 3) : fX5_agreedCount (A 4 t 0) G = some (ag (T 1 t 0) (T 1 t 1) (T 1 t 2) (T 1 t 3), G) := by
  have e : (fun x => hW (T 1 t) x 4) = h4 (T 1 t 0) (T 1 t 1) (T 1 t 2) (T 1 t 3) := funext fun x => hW_4 _ x
  have k5 : ∀ f g, fX5_agreedCount_4 (f + 1) (A 4 t 0) g (nI 4) G = some (g, G) := fun f g => by
    have c : (4 : Int32) ≤ nI 4 := by decide
    simp only [fX5_agreedCount_4, fX5_agreedCount_4_b, if_pos c]
  have k4 : ∀ g, fX5_agreedCount_4 999996 (A 4 t 0) g (nI 4) G = some (g, G) := k5 999995
  have k3 := ag_st R ht hp (i := 3) (by decide) (k := fun g => g) k4
  have k2 := ag_st R ht hp (i := 2) (by decide) k3
  have k1 := ag_st R ht hp (i := 1) (by decide) k2
  have k0 := ag_st R ht hp (i := 0) (by decide) k1 (-1)
  rw [e] at k0
  exact k0
/-- a truth as an int -/
def bt1 (b : Bool) : Int32 := if b = true then 1 else 0
theorem bt1_and (a b : Bool) : bt1 a &&& bt1 b = bt1 (a && b) := by cases a <;> cases b <;> decide
theorem bt1_0 {b : Bool} : bt1 b = 0 ↔ b = false := by cases b <;> decide
theorem al_m {t : Nat} (ht : t < 20) {f : Nat → Int32} (hf : ∀ j, j < 4 → v.2.1 14 (4 * t + j) = f j ∧ rM (f j) 100000) (x2 x3 : Int32) (b : Bool) (k32 : Int32 → Int32 → mS → Option (Int32 × mS)) : fX10_counted_67 (nI t) x2 x3 (bt1 b) v k32 = if (b && al1 (fun x => hW f x 4) (f 0) x3 && al1 (fun x => hW f x 4) (f 1) x3 && al1 (fun x => hW f x 4) (f 2) x3 && al1 (fun x => hW f x 4) (f 3) x3) = true then some (x3, v) else k32 (nI t) (x2 + 1) v := by
  have hf1 : ∀ j, j < 4 → v.2.1 14 (4 * t + j) = f j := fun j hj => (hf j hj).1
  unfold fX10_counted_67
  rw [itN_loop0 (fun g i a => fX10_counted_72 _ g (nI t) x2 x3 a i v) 4 (fun i a => a &&& bt1 (al1 (fun x => hW f x 4) (f i) x3)) (fun a => if a = 0 then k32 (nI t) (x2 + 1) v else some (x3, v)) (fun g i a hi => ?_) (fun g a => ?_) (by decide)]
  · have e : itN (fun i a => a &&& bt1 (al1 (fun x => hW f x 4) (f i) x3)) 4 (bt1 b) = bt1 (b && al1 (fun x => hW f x 4) (f 0) x3 && al1 (fun x => hW f x 4) (f 1) x3 && al1 (fun x => hW f x 4) (f 2) x3 && al1 (fun x => hW f x 4) (f 3) x3) := by
      simp only [itN_s, itN_0, bt1_and]
    rw [e]
    generalize (b && al1 (fun x => hW f x 4) (f 0) x3 && al1 (fun x => hW f x 4) (f 1) x3 && al1 (fun x => hW f x 4) (f 2) x3 && al1 (fun x => hW f x 4) (f 3) x3) = w
    cases w
    · simp [bt1]
    · simp [bt1]
  · have c : ¬ (4 : Int32) ≤ nI i := nI_ge (b := 4) hi (by decide)
    have cc := rM_lt (hf i hi).2 (by decide)
    have hb1 := hW_b f (f i) 4
    have hb2 := hW_b f x3 4
    have c2 : nI (hW f x3 4) ≤ nI (hW f (f i) 4) ↔ hW f x3 4 ≤ hW f (f i) 4 := nI_leI (by omega) (by omega)
    by_cases q1 : f i = -1
    · have w1 : al1 (fun x => hW f x 4) (f i) x3 = true := by simp [al1, q1]
      simp only [fX10_counted_72, fX10_counted_72_b, fX10_counted_120, fX10_counted_125, if_neg c, ob_s, i4, mRn (show 4 * t + i < 80 by omega) (by decide), hf1 i hi, if_pos (cc.mpr q1), nI_1, w1]
      rfl
    · by_cases q2 : f i = x3
      · have w1 : al1 (fun x => hW f x 4) (f i) x3 = true := by simp [al1, q2]
        simp only [fX10_counted_72, fX10_counted_72_b, fX10_counted_120, fX10_counted_125, if_neg c, ob_s, i4, mRn (show 4 * t + i < 80 by omega) (by decide), hf1 i hi, if_neg (fun z => q1 (cc.mp z)), if_pos q2, nI_1, w1]
        rfl
      · by_cases q3 : hW f x3 4 ≤ hW f (f i) 4
        · have w1 : al1 (fun x => hW f x 4) (f i) x3 = false := by simp [al1, q1, q2, q3]
          simp only [fX10_counted_72, fX10_counted_72_b, fX10_counted_120, fX10_counted_125, if_neg c, ob_s, bI_s, i4, mRn (show 4 * t + i < 80 by omega) (by decide), hf1 i hi, hW_m ht hf1, if_neg (fun z => q1 (cc.mp z)), if_neg q2, if_pos (c2.mpr q3), nI_1, w1]
          rfl
        · have w1 : al1 (fun x => hW f x 4) (f i) x3 = true := by simp [al1]; omega
          simp only [fX10_counted_72, fX10_counted_72_b, fX10_counted_120, fX10_counted_125, if_neg c, ob_s, bI_s, i4, mRn (show 4 * t + i < 80 by omega) (by decide), hf1 i hi, hW_m ht hf1, if_neg (fun z => q1 (cc.mp z)), if_neg q2, if_neg (fun z => q3 (c2.mp z)), nI_1, w1]
          rfl
  · have c : (4 : Int32) ≤ nI 4 := by decide
    simp only [fX10_counted_72, fX10_counted_72_b, if_pos c]
theorem md_st {t : Nat} (ht : t < 20) {f : Nat → Int32} (hf : ∀ j, j < 4 → v.2.1 14 (4 * t + j) = f j ∧ rM (f j) 100000) {i g : Nat} (hi : i < 4) : fX10_counted_32 (g + 1) (nI t) (nI i) v = if al (fun x => hW f x 4) (f 0) (f 1) (f 2) (f 3) (f i) = true then some (f i, v) else fX10_counted_32 g (nI t) (nI (i + 1)) v := by
  have c : ¬ (4 : Int32) ≤ nI i := nI_ge (b := 4) hi (by decide)
  have cc := rM_lt (hf i hi).2 (by decide)
  have hf1 : ∀ j, j < 4 → v.2.1 14 (4 * t + j) = f j := fun j hj => (hf j hj).1
  have hb1 := hW_b f (f i) 4
  have c2 : nI (hW f (f i) 4) ≤ (1 : Int32) ↔ hW f (f i) 4 ≤ 1 := nI_leI (b := 1) (by omega) (by decide)
  have z0 : (0 : Int32) = bt1 false := rfl
  have z1 : (1 : Int32) = bt1 true := rfl
  by_cases q1 : f i = -1
  · have w1 : al (fun x => hW f x 4) (f 0) (f 1) (f 2) (f 3) (f i) = false := by simp [al, q1]
    simp only [fX10_counted_32, fX10_counted_32_b, fX10_counted_66, if_neg c, ob_s, i4, mRn (show 4 * t + i < 80 by omega) (by decide), hf1 i hi, if_pos (cc.mpr q1)]
    rw [z0, al_m ht hf, w1]
    simp [nI_1]
  · by_cases q3 : hW f (f i) 4 ≤ 1
    · have w1 : al (fun x => hW f x 4) (f 0) (f 1) (f 2) (f 3) (f i) = false := by
        have : ¬ 2 ≤ hW f (f i) 4 := by omega
        simp [al, this]
      simp only [fX10_counted_32, fX10_counted_32_b, fX10_counted_66, if_neg c, ob_s, bI_s, i4, mRn (show 4 * t + i < 80 by omega) (by decide), hf1 i hi, if_neg (fun z => q1 (cc.mp z)), hW_m ht hf1, if_pos (c2.mpr q3)]
      rw [z0, al_m ht hf, w1]
      simp [nI_1]
    · have w1 : al (fun x => hW f x 4) (f 0) (f 1) (f 2) (f 3) (f i) = (true && al1 (fun x => hW f x 4) (f 0) (f i) && al1 (fun x => hW f x 4) (f 1) (f i) && al1 (fun x => hW f x 4) (f 2) (f i) && al1 (fun x => hW f x 4) (f 3) (f i)) := by
        have : 2 ≤ hW f (f i) 4 := by omega
        simp [al, q1, this]
      simp only [fX10_counted_32, fX10_counted_32_b, if_neg c, ob_s, bI_s, i4, mRn (show 4 * t + i < 80 by omega) (by decide), hf1 i hi, if_neg (fun z => q1 (cc.mp z)), hW_m ht hf1, if_neg (fun z => q3 (c2.mp z))]
      rw [w1]
      refine (al_m ht hf (nI i) (f i) true _).trans ?_
      rw [nI_1]
theorem al_ne {H : Int32 → Nat} {a b c d x : Int32} (h : al H a b c d x = true) : x ≠ -1 := by
  intro q
  simp [al, q] at h
theorem op_counted (R : Mem z h A M I T J rl G N) (E : tie k M I T v) (a1 : Int32) : OkC z h k N (fX9_counted h a1 G) (fX10_counted a1 v) := by
  rcases tc R E a1 with ⟨e1, e2⟩ | ⟨t, ht, rfl, e1, e2⟩
  · simp only [fX9_counted, fX10_counted, R.o10, ob_s, bI_s, pU_s, if_true, if_false, i10, reduceCtorEq, e1, e2]
    exact fd R E 1 (by decide) rfl
  · have ht2 : t < M 2 0 := by rw [E.e0]; exact ht
    have hb := E.b0
    have ht20 : t < 20 := by omega
    obtain ⟨⟨g3, g4, g6, g7, g8, g9, g10⟩, gtr, gct, gsi, gso, gho, rk, rf, rw', rv, rs, rst⟩ := E.Th ht
    by_cases q1 : I 10 t = 3
    · have e8 : kC [6] G (some (A 4 t 0)) = some () := by simp [kC, gO_n (cs := [6]) (R.tp ht2 q1) rfl]
      obtain ⟨q, e9⟩ : ∃ q, gO [6] G (A 4 t 0) = some q := ⟨_, gO_n (cs := [6]) (R.tp ht2 q1) rfl⟩
      have e : (fun x => hW (T 1 t) x 4) = h4 (T 1 t 0) (T 1 t 1) (T 1 t 2) (T 1 t 3) := funext fun x => hW_4 _ x
      have k5 : ∀ g, fX10_counted_32 (g + 1) (nI t) (nI 4) v = bI (fX10_finding 2 v) fun r u => some (r, u) := fun g => by
        have c : (4 : Int32) ≤ nI 4 := by decide
        simp only [fX10_counted_32, fX10_counted_32_b, if_pos c]
      have k4 : fX10_counted_32 999996 (nI t) (nI 4) v = bI (fX10_finding 2 v) fun r u => some (r, u) := k5 999995
      have k3 := md_st ht20 (gct q1) (i := 3) (g := 999996) (by decide)
      have k2 := md_st ht20 (gct q1) (i := 2) (g := 999997) (by decide)
      have k1 := md_st ht20 (gct q1) (i := 1) (g := 999998) (by decide)
      have k0 := md_st ht20 (gct q1) (i := 0) (g := 999999) (by decide)
      rw [k4] at k3
      rw [k3] at k2
      rw [k2] at k1
      rw [k1, e] at k0
      replace k0 : fX10_counted_32 FU (nI t) 0 v = _ := k0
      have em := ag_md (T 1 t 0) (T 1 t 1) (T 1 t 2) (T 1 t 3)
      simp only [fX9_counted, fX10_counted, R.o10, ob_s, bI_s, pU_s, if_true, if_false, i10, reduceCtorEq, e1, e2, mRn ht20 (by decide), g3, if_pos q1, iS_p R ht2 q1, e8, e9, ag_c R ht2 q1, k0, em]
      unfold md
      by_cases w0 : al (h4 (T 1 t 0) (T 1 t 1) (T 1 t 2) (T 1 t 3)) (T 1 t 0) (T 1 t 1) (T 1 t 2) (T 1 t 3) (T 1 t 0) = true
      · simp only [if_pos w0, if_neg (al_ne w0)]
        exact ok_ro R E _
      by_cases w1 : al (h4 (T 1 t 0) (T 1 t 1) (T 1 t 2) (T 1 t 3)) (T 1 t 0) (T 1 t 1) (T 1 t 2) (T 1 t 3) (T 1 t 1) = true
      · simp only [if_neg w0, if_pos w1, if_neg (al_ne w1)]
        exact ok_ro R E _
      by_cases w2 : al (h4 (T 1 t 0) (T 1 t 1) (T 1 t 2) (T 1 t 3)) (T 1 t 0) (T 1 t 1) (T 1 t 2) (T 1 t 3) (T 1 t 2) = true
      · simp only [if_neg w0, if_neg w1, if_pos w2, if_neg (al_ne w2)]
        exact ok_ro R E _
      by_cases w3 : al (h4 (T 1 t 0) (T 1 t 1) (T 1 t 2) (T 1 t 3)) (T 1 t 0) (T 1 t 1) (T 1 t 2) (T 1 t 3) (T 1 t 3) = true
      · simp only [if_neg w0, if_neg w1, if_neg w2, if_pos w3, if_neg (al_ne w3)]
        exact ok_ro R E _
      · simp only [if_neg w0, if_neg w1, if_neg w2, if_neg w3, if_true, R.o10, ob_s]
        exact fd R E 2 (by decide) rfl
    · simp only [fX9_counted, fX10_counted, R.o10, ob_s, bI_s, pU_s, if_true, if_false, i10, reduceCtorEq, e1, e2, mRn ht20 (by decide), g3, if_neg q1, iS_q R ht2 q1]
      exact fd R E 5 (by decide) rfl
end O6
