section O7
variable {z : Nat → Nat} {h : Nat} {A : Nat → Nat → Nat → Nat} {M : Nat → Nat → Nat} {I : Nat → Nat → Int32} {T : Nat → Nat → Nat → Int32} {J : Nat → Nat → Int64} {rl : Nat → Nat × Nat × Nat} {G : gM} {N k : Nat} {v : mS}
theorem rec_n (R : Mem z h A M I T J rl G N) {m x : Nat} (hm : m < 6) : ∃ G', fX6_add (A 3 12 0) (nI m) (nI x) G = some G' ∧ Mem z h A M (uu (uu (uu (uu I 57 m (I 57 m + 1)) 58 m (I 58 m + nI x)) 1 4 (I 1 4 + 1)) 1 5 (I 1 5 + nI x)) T J rl G' N := by
  obtain ⟨G1, e1, R1⟩ := w57 R hm (I 57 m + 1)
  obtain ⟨G2, e2, R2⟩ := w58 R1 hm (I 58 m + nI x)
  obtain ⟨G3, e3, R3⟩ := wm4 R2 (I 1 4 + 1)
  obtain ⟨G4, e4, R4⟩ := wm5 R3 (I 1 5 + nI x)
  refine ⟨G4, ?_, R4⟩
  have a0 : gR [7] 0 G (A 3 12 0) = some (some (A 3 13 0)) := gR_n (R.c 3 12 0 ⟨by decide, rfl⟩) rfl rfl
  have a1 : gR [7] 1 G1 (A 3 12 0) = some (some (A 3 14 0)) := gR_n (R1.c 3 12 0 ⟨by decide, rfl⟩) rfl rfl
  have a2 : gI [7] 2 G2 (A 3 12 0) = some (I 1 4) := gI_n (R2.c 3 12 0 ⟨by decide, rfl⟩) rfl rfl
  have a3 : gI [7] 3 G3 (A 3 12 0) = some (I 1 5) := gI_n (R3.c 3 12 0 ⟨by decide, rfl⟩) rfl rfl
  have b0 : aI G (A 3 13 0) (nI m) = some (I 57 m) := aI_n (R.c 3 13 0 ⟨by decide, rfl⟩) (show 6 < 2 ^ 31 by decide) hm
  have b1 : aI G1 (A 3 14 0) (nI m) = some (I 58 m) := aI_n (R1.c 3 14 0 ⟨by decide, rfl⟩) (show 6 < 2 ^ 31 by decide) hm
  simp only [fX6_add, ob_s, a0, b0, e1, a1, b1, e2, a2, e3, a3, e4]
theorem op_sorted (R : Mem z h A M I T J rl G N) (E : tie k M I T v) (a1 a2 : Int32) : OkC z h k N (fX9_sorted h a1 a2 G) (fX10_sorted a1 a2 v) := by
  rcases wc a1 0 5 G v with ⟨e1, e2⟩ | ⟨e1, e2, h1, h2⟩
  · simp only [fX9_sorted, fX10_sorted, R.o10, ob_s, bI_s, pU_s, if_true, if_false, i10, reduceCtorEq, e1, e2]
    exact fd R E 1 (by decide) rfl
  · rcases wc a2 0 1 G v with ⟨e3, e4⟩ | ⟨e3, e4, h3, h4⟩
    · simp only [fX9_sorted, fX10_sorted, R.o10, ob_s, bI_s, pU_s, if_true, if_false, i10, reduceCtorEq, e1, e2, e3, e4]
      exact fd R E 1 (by decide) rfl
    · obtain ⟨m, hm5, rfl⟩ := rg_n (n := 5) (by decide) ⟨h1, h2⟩
      obtain ⟨x, hx, rfl⟩ := rg_n (n := 1) (by decide) ⟨h3, h4⟩
      have hm : m < 6 := by omega
      obtain ⟨n, hn, c1, c2, c3, c4, c5⟩ := E.2.2.2.2.2.2.1
      have a2' : gI [7] 2 G (A 3 12 0) = some (nI n) := by rw [← c2]; exact gI_n (R.c 3 12 0 ⟨by decide, rfl⟩) rfl rfl
      obtain ⟨q, ao⟩ : ∃ q, gO [7] G (A 3 12 0) = some q := ⟨_, gO_n (cs := [7]) (R.c 3 12 0 ⟨by decide, rfl⟩) rfl⟩
      rcases Nat.lt_or_ge n 60 with hn2 | hn2
      · obtain ⟨G', e5, R'⟩ := rec_n R (x := x) hm
        have a3 : gI [7] 2 G' (A 3 12 0) = some (nI n + 1) := by
          rw [← c2]
          exact gI_n (R'.c 3 12 0 ⟨by decide, rfl⟩) rfl rfl
        have q1 : nI n < (60 : Int32) := nI_lt (b := 60) hn2 (by decide)
        have q2 : ¬ nI n = (60 : Int32) := fun q => by
          have := (nI_eq (a := n) (b := 60) (by omega) (by decide)).mp q
          omega
        have e6 : (mA v 30 n (nI m)).1 29 = nI n := c1
        have e7 : (mA (mA v 30 n (nI m)) 31 n (nI x)).1 29 = nI n := c1
        simp only [fX9_sorted, fX10_sorted, R.o10, ob_s, bI_s, pU_s, if_true, if_false, i10, reduceCtorEq, e1, e2, e3, e4, R.f11, R'.f11, a2', ao, e5, a3, c1, if_pos q1, if_neg q2, mUn hn2 (by decide), e6, e7]
        have e8 : (mF (mA (mA v 30 n (nI m)) 31 n (nI x)) 29 (nI n + 1)).1 29 = nI n + 1 := rfl
        rw [e8]
        refine ok_w R' ?_ _
        obtain ⟨h1', h2', h3', h4', h5, h6, h7, h8⟩ := id E
        refine ⟨h1', h2', h3', h4', h5, h6, ?_, h8⟩
        have d1 : ∀ r, r < n → upd (v.2.1 31) n (nI x) r = v.2.1 31 r := fun r hr => pk_un (by omega)
        have d2 : ∀ r, r < n → upd (v.2.1 30) n (nI m) r = v.2.1 30 r := fun r hr => pk_un (by omega)
        generalize hv' : mF (mA (mA v 30 n (nI m)) 31 n (nI x)) 29 (nI n + 1) = v'
        have f30 : v'.2.1 30 = upd (v.2.1 30) n (nI m) := by rw [← hv']; rfl
        have f31 : v'.2.1 31 = upd (v.2.1 31) n (nI x) := by rw [← hv']; rfl
        have f29 : v'.1 29 = nI n + 1 := by rw [← hv']; rfl
        refine ⟨n + 1, by omega, f29.trans (nI_1 n), ?_, ?_, fun m' hm' => ⟨?_, ?_⟩, fun r hr => ?_⟩
        · show I 1 4 + 1 = _
          rw [c2, nI_1]
        · show I 1 5 + nI x = nI (cT v' n + (v'.2.1 31 n).toNatClampNeg)
          rw [c3, f31, pk_us, nI_clamp (by omega), nI_add]
          congr 2
          exact (itN_cg (fun r hr a => by rw [f31, d1 r hr]) 0).symm
        · show upd (I 57) m (I 57 m + 1) m' = nI (if v'.2.1 30 n = nI m' then cM v' m' n + 1 else cM v' m' n)
          have g1 : cM v' m' n = cM v m' n := itN_cg (fun r hr a => by rw [f30, d2 r hr]) 0
          rw [f30, pk_us, g1]
          by_cases e : m' = m
          · subst e
            rw [pk_us, if_pos rfl, (c4 m' hm').1, nI_1]
          · have : ¬ nI m = nI m' := fun q => e ((nI_eq (by omega) (by omega)).mp q).symm
            rw [pk_un e, if_neg this, (c4 m' hm').1]
        · show upd (I 58) m (I 58 m + nI x) m' = nI (if v'.2.1 30 n = nI m' then cX v' m' n + (v'.2.1 31 n).toNatClampNeg else cX v' m' n)
          have g1 : cX v' m' n = cX v m' n := itN_cg (fun r hr a => by rw [f30, f31, d2 r hr, d1 r hr]) 0
          rw [f30, f31, pk_us, pk_us, g1, nI_clamp (by omega)]
          by_cases e : m' = m
          · subst e
            rw [pk_us, if_pos rfl, (c4 m' hm').2, nI_add]
          · have : ¬ nI m = nI m' := fun q => e ((nI_eq (by omega) (by omega)).mp q).symm
            rw [pk_un e, if_neg this, (c4 m' hm').2]
        · rw [f30, f31]
          by_cases e : r = n
          · subst e
            rw [pk_us, pk_us]
            exact ⟨⟨m, by omega, rfl⟩, ⟨x, hx, rfl⟩⟩
          · rw [d1 r (by omega), d2 r (by omega)]
            exact c5 r (by omega)
      · have : n = 60 := by omega
        subst this
        have q1 : ¬ nI 60 < (60 : Int32) := by decide
        have q2 : nI 60 = (60 : Int32) := rfl
        simp only [fX9_sorted, fX10_sorted, R.o10, ob_s, bI_s, pU_s, if_true, if_false, i10, reduceCtorEq, e1, e2, e3, e4, R.f11, a2', c1, if_neg q1, if_pos q2]
        exact fd R E 4 (by decide) rfl
end O7
