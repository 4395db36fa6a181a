/-! rows filled, lists that grow -/
section LS
variable {z : Nat → Nat} {h : Nat} {A : Nat → Nat → Nat → Nat} {M : Nat → Nat → Nat} {I : Nat → Nat → Int32} {T : Nat → Nat → Nat → Int32} {J : Nat → Nat → Int64} {rl : Nat → Nat × Nat × Nat} {G : gM} {N k : Nat} {v : mS}
theorem up_id {α : Type} {f : Nat → α} {a : Nat} {x : α} (h : f a = x) : va_up f a x = f := by
  funext b
  by_cases e : b = a
  · subst e; rw [up_s, h]
  · rw [up_n e]
theorem fill_l {a n : Nat} {x : Int32} (hn : n < 2 ^ 31) : ∀ (m k F : Nat) (G : gM) (f : Nat → Int32), k + m = n → m < F → G a = some (.inl (0, n, .inl f)) → fJ7_fill_53178_5 F (some a) x (nI k) (nI n) G = some (va_up G a (some (.inl (0, n, .inl fun j => if k ≤ j ∧ j < n then x else f j)))) := by
  intro m
  induction m with
  | zero =>
    intro k F G f hk hF hG
    obtain ⟨F, rfl⟩ : ∃ F', F = F' + 1 := ⟨F - 1, by omega⟩
    have : k = n := by omega
    subst this
    simp only [fJ7_fill_53178_5, fJ7_fill_53178_5_b, if_pos (Int32.le_refl (nI k))]
    rw [up_id]
    rw [hG]
    congr; funext j
    rw [if_neg (by omega)]
  | succ m ih =>
    intro k F G f hk hF hG
    obtain ⟨F, rfl⟩ : ∃ F', F = F' + 1 := ⟨F - 1, by omega⟩
    simp only [fJ7_fill_53178_5, fJ7_fill_53178_5_b, if_neg (nI_ge (show k < n by omega) hn), ob_s, uI_n hG hn (show k < n by omega), nI_1]
    rw [ih (k + 1) F _ (upd f k x) (by omega) (by omega) up_s, up_up]
    congr 7
    funext j
    by_cases e : j = k
    · subst e; rw [pk_us, if_neg (by omega), if_pos (by omega)]
    · rw [pk_un e]
      by_cases e2 : k ≤ j ∧ j < n
      · rw [if_pos (by omega), if_pos e2]
      · rw [if_neg (by omega), if_neg e2]
theorem fill_n {a n : Nat} {x : Int32} {f : Nat → Int32} (hn : n < 1000000) (hG : G a = some (.inl (0, n, .inl f))) : fJ7_fill_53178 (some a) x G = some (va_up G a (some (.inl (0, n, .inl fun j => if j < n then x else f j)))) := by
  have e : aN G a = some (nI n) := by simp only [aN, hG]; rfl
  have := fill_l (a := a) (x := x) (show n < 2 ^ 31 by omega) n 0 FU G f (by omega) (by show n < 1000000; omega) hG
  simp only [fJ7_fill_53178, ob_s, e]
  rw [nI_0] at this
  rw [this]
  congr 7
  funext j
  simp
theorem fillL_l {a n : Nat} {x : Int64} (hn : n < 2 ^ 31) : ∀ (m k F : Nat) (G : gM) (f : Nat → Int64), k + m = n → m < F → G a = some (.inl (1, n, .inr (.inl f))) → fJ7_fill_d0a16_6 F (some a) x (nI k) (nI n) G = some (va_up G a (some (.inl (1, n, .inr (.inl fun j => if k ≤ j ∧ j < n then x else f j))))) := by
  intro m
  induction m with
  | zero =>
    intro k F G f hk hF hG
    obtain ⟨F, rfl⟩ : ∃ F', F = F' + 1 := ⟨F - 1, by omega⟩
    have : k = n := by omega
    subst this
    simp only [fJ7_fill_d0a16_6, fJ7_fill_d0a16_6_b, if_pos (Int32.le_refl (nI k))]
    rw [up_id]
    rw [hG]
    congr; funext j
    rw [if_neg (by omega)]
  | succ m ih =>
    intro k F G f hk hF hG
    obtain ⟨F, rfl⟩ : ∃ F', F = F' + 1 := ⟨F - 1, by omega⟩
    simp only [fJ7_fill_d0a16_6, fJ7_fill_d0a16_6_b, if_neg (nI_ge (show k < n by omega) hn), ob_s, uJ_n hG hn (show k < n by omega), nI_1]
    rw [ih (k + 1) F _ (vp_updL f k x) (by omega) (by omega) up_s, up_up]
    congr 8
    funext j
    by_cases e : j = k
    · subst e; rw [pk_uLs, if_neg (by omega), if_pos (by omega)]
    · rw [pk_uLn e]
      by_cases e2 : k ≤ j ∧ j < n
      · rw [if_pos (by omega), if_pos e2]
      · rw [if_neg (by omega), if_neg e2]
theorem fillL_n {a n : Nat} {x : Int64} {f : Nat → Int64} (hn : n < 1000000) (hG : G a = some (.inl (1, n, .inr (.inl f)))) : fJ7_fill_d0a16 (some a) x G = some (va_up G a (some (.inl (1, n, .inr (.inl fun j => if j < n then x else f j))))) := by
  have e : aN G a = some (nI n) := by simp only [aN, hG]; rfl
  have := fillL_l (a := a) (x := x) (show n < 2 ^ 31 by omega) n 0 FU G f (by omega) (by show n < 1000000; omega) hG
  simp only [fJ7_fill_d0a16, ob_s, e]
  rw [nI_0] at this
  rw [this]
  congr 8
  funext j
  simp
/-- the elements of the lists are objects of four classes -/
theorem el_ok (R : Mem z h A M I T J rl G N) {q k : Nat} (hq : q < 4) (hk : k < M 0 q) : ∃ ci fs, ci ∈ oL ∧ G (eA A M q k) = some (.inr (ci, fs)) ∧ eA A M q k < N := by
  obtain ⟨-, b0, b1, b2, b3⟩ := R.b
  match q, hq, hk with
  | 0, _, hk =>
    obtain ⟨ci, more, h1, h2⟩ := R.tc (show k < M 2 0 by omega)
    refine ⟨ci, _, ?_, h2, R.lt (show lv M I 4 k 0 from ⟨by omega, rfl⟩)⟩
    rcases List.mem_cons.mp h1 with rfl | h1
    · decide
    · rw [List.mem_singleton.mp h1]; decide
  | 1, _, hk => exact ⟨8, _, by decide, R.c 5 k 0 ⟨by omega, rfl⟩, R.lt (show lv M I 5 k 0 from ⟨by omega, rfl⟩)⟩
  | 2, _, hk => exact ⟨1, _, by decide, R.c 6 k 0 ⟨by omega, rfl⟩, R.lt (show lv M I 6 k 0 from ⟨by omega, rfl⟩)⟩
  | 3, _, hk =>
    have hk3 := b3 k hk
    obtain ⟨ci, more, h1, h2⟩ := R.tc hk3
    refine ⟨ci, _, ?_, h2, R.lt (show lv M I 4 (M 3 k) 0 from ⟨hk3, rfl⟩)⟩
    rcases List.mem_cons.mp h1 with rfl | h1
    · decide
    · rw [List.mem_singleton.mp h1]; decide
theorem okQ_n {a ci : Nat} {fs : List Value} (hc : ci ∈ oL) (hG : G a = some (.inr (ci, fs))) : okQ G (some a) = true := by
  simp only [okQ, gO_n hG (List.contains_iff_mem.mpr hc), Option.isSome_some]
/-- the number of changes of a list -/
theorem wl0 (R : Mem z h A M I T J rl G N) {q : Nat} (hq : q < 4) (x : Int32) : ∃ G', pV [0] 0 (.int x) G (A 2 q 0) = some G' ∧ Mem z h A M (uu I 2 q x) T J rl G' N := by
  refine ⟨_, pV_n (R.c 2 q 0 ⟨hq, rfl⟩) rfl (by simp), R.wr 2 q 0 ⟨hq, rfl⟩ R.b (by simp [cl, uu, upd]) ?_⟩
  intro κ' i' j' hl
  match κ', hl with
  | 0, hl => exact ⟨hl, .inr (by simp [cl, uu])⟩
  | 1, hl => exact ⟨hl, .inr rfl⟩
  | 2, hl =>
    refine ⟨hl, ?_⟩
    by_cases e : i' = q
    · exact .inl (by rw [e, hl.2])
    · exact .inr (by simp [cl, uu, upd, e])
  | 3, hl =>
    refine ⟨hl, .inr ?_⟩
    show fxC _ _ _ _ = fxC _ _ _ _
    unfold fxC
    simp [uu]
  | 4, hl => exact ⟨hl, .inr (by simp [cl, thL, uu])⟩
  | 5, hl => exact ⟨hl, .inr (by simp [cl, uu])⟩
  | 6, hl => exact ⟨hl, .inr (by simp [cl, uu])⟩
  | 7, hl => exact ⟨hl, .inr rfl⟩
  | 8, hl => exact ⟨by simpa [lv, uu] using hl, .inr rfl⟩
  | 9, hl => exact ⟨hl, .inr rfl⟩
  | 10, hl => exact ⟨hl, .inr rfl⟩
  | κ' + 11, hl => exact absurd hl (by simp [lv])
def capN (n : Nat) : Nat := if n = 0 then 10 else n + (if 1 < n / 2 then n / 2 else 1)
theorem capN_b {n : Nat} (h : n ≤ 20) : n < capN n ∧ capN n ≤ 40 := by
  unfold capN
  split
  · omega
  · split <;> omega
/-- new room for a list -/
theorem gr_n (R : Mem z h A M I T J rl G N) {q : Nat} (hq : q < 4) (hn : M 0 q = M 1 q) (hb : M 0 q ≤ 20) (s : Nat) : ∃ G' s', fJx4a65c_grow_d5877 z (A 2 q 0) (G, N, s) = some (some N, (G', N + 1, s')) ∧ s' ≤ s + 40 ∧ Mem z h (uA A 1 q 0 N) (uM M 1 q (capN (M 0 q))) I T J (va_up rl N (1, q, 0)) G' (N + 1) := by
  have hl2 := R.lt (show lv M I 2 q 0 from ⟨hq, rfl⟩)
  have hc2 := R.c 2 q 0 ⟨hq, rfl⟩
  obtain ⟨cb1, cb2⟩ := capN_b hb
  have fr : ∀ κ' i' j', lv (uM M 1 q (capN (M 0 q))) I κ' i' j' → (κ', i', j') = (1, q, 0) ∨ (lv M I κ' i' j' ∧ uA A 1 q 0 N κ' i' j' = A κ' i' j' ∧ ((κ', i', j') = (2, q, 0) ∨ cl z (uA A 1 q 0 N) (uM M 1 q (capN (M 0 q))) I T J κ' i' j' = cl z A M I T J κ' i' j')) := by
    intro κ' i' j' hl
    match κ', hl with
    | 0, hl => exact .inr ⟨hl, by simp [uA], .inr (by simp [cl, uA])⟩
    | 1, hl =>
      by_cases e : i' = q
      · exact .inl (by rw [e, hl.2.1])
      · refine .inr ⟨by simpa [lv, uM, e] using hl, by simp [uA, e], .inr ?_⟩
        simp only [cl, eA, uA, uM]
        simp [e]
    | 2, hl =>
      refine .inr ⟨hl, by simp [uA], ?_⟩
      by_cases e : i' = q
      · exact .inl (by rw [e, hl.2])
      · exact .inr (by simp [cl, uA, uM, e])
    | 3, hl =>
      refine .inr ⟨hl, by simp [uA], .inr ?_⟩
      show fxC _ _ _ _ = fxC _ _ _ _
      unfold fxC
      simp [uA]
    | 4, hl => exact .inr ⟨by simpa [lv, uM] using hl, by simp [uA], .inr (by simp [cl, thL, uA, uM])⟩
    | 5, hl => exact .inr ⟨by simpa [lv, uM] using hl, by simp [uA], .inr (by simp [cl, uA])⟩
    | 6, hl => exact .inr ⟨by simpa [lv, uM] using hl, by simp [uA], .inr (by simp [cl])⟩
    | 7, hl => exact .inr ⟨by simpa [lv, uM] using hl, by simp [uA], .inr (by simp [cl])⟩
    | 8, hl => exact .inr ⟨by simpa [lv, uM] using hl, by simp [uA], .inr (by simp [cl])⟩
    | 9, hl => exact .inr ⟨by simpa [lv, uM] using hl, by simp [uA], .inr (by simp [cl])⟩
    | 10, hl => exact .inr ⟨by simpa [lv, uM] using hl, by simp [uA], .inr (by simp [cl, uA])⟩
    | κ' + 11, hl => exact absurd hl (by simp [lv])
  have hxb : xB (uM M 1 q (capN (M 0 q))) := by
    obtain ⟨x1, x2, x3, x4, x5⟩ := R.b
    refine ⟨fun q' hq' => ?_, by simpa [uM] using x2, by simpa [uM] using x3, by simpa [uM] using x4, by simpa [uM] using x5⟩
    by_cases e : q' = q
    · subst e
      simp only [uM]
      simp
      omega
    · have := x1 q' hq'
      simpa [uM, e] using this
  have hcl2 : cl z (uA A 1 q 0 N) (uM M 1 q (capN (M 0 q))) I T J 2 q 0 = .inr (0, [.int (I 2 q), .ref N, .int (nI (M 0 q))]) := by
    have : capN (M 0 q) ≠ 0 := by omega
    simp [cl, uM, uA, this]
  have hcl1 : cl z (uA A 1 q 0 N) (uM M 1 q (capN (M 0 q))) I T J 1 q 0 = .inl (2, capN (M 0 q), .inr (.inr (.inr (.inr fun k => if k < M 0 q then some (eA A M q k) else none)))) := by
    simp only [cl, eA, uA, uM]
    simp
  have pv : ∀ c : gE, pV [0] 1 (va_rf (some N)) (va_up G N (some c)) (A 2 q 0) = some (va_up (va_up G N (some c)) (A 2 q 0) (some (.inr (0, [.int (I 2 q), .ref N, .int (nI (M 0 q))])))) := fun c => by
    have e : va_up G N (some c) (A 2 q 0) = some (cl z A M I T J 2 q 0) := by rw [up_n (by omega)]; exact hc2
    rw [pV_n e rfl (by simp)]
    rfl
  by_cases h0 : M 0 q = 0
  · have h1 : M 1 q = 0 := by omega
    have hcl1' : cl z (uA A 1 q 0 N) (uM M 1 q (capN (M 0 q))) I T J 1 q 0 = .inl (2, 10, .inr (.inr (.inr (.inr fun _ => none)))) := by
      rw [hcl1, h0]
      simp [capN]
    have e1 : gR [0] 1 G (A 2 q 0) = some (some (z 0)) := by rw [R.l1 hq, if_pos h1]
    have e2 : aNz z G (z 0) = some 0 := by simp [aNz]
    have e3 : (if (10 : Int32) < nI (M 0 q) + 1 then nI (M 0 q) + 1 else (10 : Int32)) = 10 := by rw [h0]; decide
    have e4 : nwQ 10 (G, N, s) = some (N, (va_up G N (some (.inl (2, 10, .inr (.inr (.inr (.inr fun _ => none)))))), N + 1, s + 10)) := by
      unfold nwQ
      rw [if_pos (by decide)]
      rfl
    refine ⟨_, s + 10, ?_, by omega, R.al2 1 q 0 2 q 0 ⟨hq, rfl⟩ hxb (by simp [uA]) hcl1' hcl2 (by simp) fr (by simp [uA])⟩
    simp only [fJx4a65c_grow_d5877, fJx4a65c_grow_d5877_10, fJx4a65c_grow_92f84, fJx4a65c_grow_92f84_55, R.l2 hq, R.lo hq, ob_s, bI_s, e1, e2, if_neg (show ¬ (0 : Int32) < 0 by decide), if_true, pU_s, e3, e4, pv, wN_s]
  · have h1 : 0 < M 1 q := by omega
    have hc1 := R.c 1 q 0 ⟨hq, rfl, h1⟩
    have hl1 := R.lt (show lv M I 1 q 0 from ⟨hq, rfl, h1⟩)
    have e1 : gR [0] 1 G (A 2 q 0) = some (some (A 1 q 0)) := by rw [R.l1 hq, if_neg (by omega)]
    have nz := R.nz (show lv M I 1 q 0 from ⟨hq, rfl, h1⟩)
    have e2 : aNz z G (A 1 q 0) = some (nI (M 0 q)) := by
      unfold aNz
      rw [if_neg nz]
      simp only [aN, hc1, cl, hn]
      rfl
    have e3 : fJ8_newLength_cabcc (nI (M 0 q)) (nI (M 0 q) + 1 - nI (M 0 q)) (nI (M 0 q) >>> ((1 : Int32) &&& 31)) G = some (nI (capN (M 0 q)), G) := by
      have a1 : nI (M 0 q) + 1 - nI (M 0 q) = nI 1 := by rw [nI_1, pk_sub (by omega)]; congr 1; omega
      have a2 : nI (M 0 q) >>> ((1 : Int32) &&& 31) = nI (M 0 q / 2) := pk_shrN (by omega) _ 1 (by decide)
      have a3 : (if nI 1 < nI (M 0 q / 2) then nI (M 0 q / 2) else nI 1) = nI (if 1 < M 0 q / 2 then M 0 q / 2 else 1) := by
        by_cases g : 1 < M 0 q / 2
        · rw [if_pos (nI_lt g (by omega)), if_pos g]
        · rw [if_neg (nI_nlt (by omega) (by omega)), if_neg g]
      have a4 : nI (M 0 q) + nI (if 1 < M 0 q / 2 then M 0 q / 2 else 1) = nI (capN (M 0 q)) := by
        rw [nI_add]
        unfold capN
        rw [if_neg h0]
      have a5 : ¬ nI (capN (M 0 q)) ≤ (0 : Int32) := nI_nle (by omega) (by omega)
      have a6 : ¬ (2147483639 : Int32) < nI (capN (M 0 q)) := nI_nlt (a := 2147483639) (b := capN (M 0 q)) (by omega) (by omega)
      simp only [fJ8_newLength_cabcc, a1, a2, pU_s, a3, a4, if_neg a5, if_neg a6]
    have e4 : isQ G (A 1 q 0) = some () := by simp only [isQ, hc1, cl]
    have e5 : nwQ (nI (capN (M 0 q))) (G, N, s) = some (N, (va_up G N (some (.inl (2, capN (M 0 q), .inr (.inr (.inr (.inr fun _ => none)))))), N + 1, s + capN (M 0 q))) := by
      unfold nwQ
      rw [nI_clamp (by omega), if_pos ⟨nI_pos (by omega), by omega⟩]
    have e6 : ∀ c : gE, aNz z (va_up G N (some c)) (A 1 q 0) = some (nI (M 0 q)) := fun c => by
      rw [← e2]
      unfold aNz
      rw [if_neg nz, if_neg nz]
      unfold aN
      rw [up_n (by omega)]
    have e7 : (if nI (capN (M 0 q)) < nI (M 0 q) then nI (capN (M 0 q)) else nI (M 0 q)) = nI (M 0 q) := if_neg (nI_nlt (by omega) (by omega))
    have e8 : cpQ (va_up G N (some (.inl (2, capN (M 0 q), .inr (.inr (.inr (.inr fun _ => none))))))) (A 1 q 0) 0 N 0 (nI (M 0 q)) = some (va_up G N (some (.inl (2, capN (M 0 q), .inr (.inr (.inr (.inr fun k => if k < M 0 q then some (eA A M q k) else none))))))) := by
      have a1 : va_up G N (some (.inl (2, capN (M 0 q), .inr (.inr (.inr (.inr fun _ => none)))))) (A 1 q 0) = some (.inl (2, M 1 q, .inr (.inr (.inr (.inr fun k => if k < M 0 q then some (eA A M q k) else none))))) := by rw [up_n (by omega)]; exact hc1
      simp only [cpQ, a1, up_s, up_up]
      rw [nI_clamp (show M 0 q < 2 ^ 31 by omega)]
      have e0 : (0 : Int32).toNatClampNeg = 0 := by decide
      have hf : va_cpy (fun k => if k < M 0 q then some (eA A M q k) else none) (fun _ => none) 0 0 (M 0 q) = fun k => if k < M 0 q then some (eA A M q k) else none := by
        funext k
        unfold va_cpy
        by_cases g : k < M 0 q
        · rw [if_pos (show 0 ≤ k ∧ k < 0 + M 0 q by omega), if_pos g]
          show (if 0 + (k - 0) < M 0 q then some (eA A M q (0 + (k - 0))) else none) = _
          rw [if_pos (show 0 + (k - 0) < M 0 q by omega), show 0 + (k - 0) = k by omega]
        · rw [if_neg (show ¬ (0 ≤ k ∧ k < 0 + M 0 q) by omega), if_neg g]
      rw [e0, hf, if_pos]
      · refine ⟨by decide, by decide, nI_pos (by omega), by omega, by omega, by omega, ?_⟩
        rw [List.all_eq_true]
        intro i hi
        have hi : i < M 0 q := List.mem_range.mp hi
        obtain ⟨ci, fs, o1, o2, o3⟩ := el_ok R hq hi
        rw [Nat.zero_add, if_pos hi]
        exact okQ_n o1 (by rw [up_n (by omega)]; exact o2)
    refine ⟨_, s + capN (M 0 q), ?_, by omega, R.al2 1 q 0 2 q 0 ⟨hq, rfl⟩ hxb (by simp [uA]) hcl1 hcl2 (by simp) fr (by simp [uA])⟩
    simp only [fJx4a65c_grow_d5877, fJx4a65c_grow_d5877_10, fJx4a65c_grow_92f84, fJx4a65c_grow_92f84_20, fJx4a65c_grow_92f84_40, fJ7_copyOf_1904c, fJ7_copyOf_1904c_9, fJ7_copyOf_6403c, fJ7_copyOf_6403c_10, R.l2 hq, R.lo hq, ob_s, bI_s, e1, e2, if_pos (show (0 : Int32) < nI (M 0 q) from nI_lt (a := 0) (by omega) (by omega)), if_true, pU_s, e3, cN_s, e4, e5, e6, e7, e8, wN_s, pv]
/-- a list with one element more -/
def uL (M : Nat → Nat → Nat) (q n t : Nat) : Nat → Nat → Nat := fun a b => if a = 0 ∧ b = q then n + 1 else if a = 3 ∧ q = 3 ∧ b = n then t else M a b
theorem uL_eA {q n t k : Nat} (hk : k < n) : eA A (uL M q n t) q k = eA A M q k := by
  match q with
  | 0 => rfl
  | 1 => rfl
  | 2 => rfl
  | q + 3 =>
    show A 4 (uL M (q + 3) n t 3 k) 0 = A 4 (M 3 k) 0
    have : uL M (q + 3) n t 3 k = M 3 k := by
      unfold uL
      rw [if_neg (by omega), if_neg (by omega)]
    rw [this]
theorem uL_eA' {q q' n t k : Nat} (hq : q < 4) (hq' : q' < 4) (hk : q' ≠ q) : eA A (uL M q n t) q' k = eA A M q' k := by
  match q', hq', hk with
  | 0, _, _ => rfl
  | 1, _, _ => rfl
  | 2, _, _ => rfl
  | 3, _, hk =>
    show A 4 (uL M q n t 3 k) 0 = A 4 (M 3 k) 0
    have : uL M q n t 3 k = M 3 k := by
      unfold uL
      rw [if_neg (by omega), if_neg (by omega)]
    rw [this]
theorem ap_n (R : Mem z h A M I T J rl G N) {q : Nat} (hq : q < 4) (hn : M 0 q < M 1 q) (t : Nat) (hp0 : q = 0 → M 0 q < M 2 0) (hp1 : q = 1 → M 0 q < M 2 1) (hp2 : q = 2 → M 0 q < M 2 2) (hp3 : q = 3 → t < M 2 0) : ∃ G1 G2, uQ G (A 1 q 0) (nI (M 0 q)) (some (eA A (uL M q (M 0 q) t) q (M 0 q))) = some G1 ∧ pV [0] 2 (.int (nI (M 0 q) + 1)) G1 (A 2 q 0) = some G2 ∧ Mem z h A (uL M q (M 0 q) t) I T J rl G2 N := by
  have h1 : 0 < M 1 q := by omega
  have hbb := R.b.1 q hq
  have hc1 := R.c 1 q 0 ⟨hq, rfl, h1⟩
  have hc2 := R.c 2 q 0 ⟨hq, rfl⟩
  have l1 : lv M I 1 q 0 := ⟨hq, rfl, h1⟩
  have l2 : lv M I 2 q 0 := ⟨hq, rfl⟩
  have hne : A 2 q 0 ≠ A 1 q 0 := fun e => by
    have := (R.2 2 q 0 l2).2
    rw [e, (R.2 1 q 0 l1).2] at this
    cases this
  have ok : okQ G (some (eA A (uL M q (M 0 q) t) q (M 0 q))) = true := by
    match q, hq with
    | 0, _ =>
      obtain ⟨ci, more, o1, o2⟩ := R.tc (hp0 rfl)
      refine okQ_n (ci := ci) ?_ o2
      rcases List.mem_cons.mp o1 with rfl | o1
      · decide
      · rw [List.mem_singleton.mp o1]; decide
    | 1, _ => exact okQ_n (ci := 8) (by decide) (R.c 5 (M 0 1) 0 ⟨hp1 rfl, rfl⟩)
    | 2, _ => exact okQ_n (ci := 1) (by decide) (R.c 6 (M 0 2) 0 ⟨hp2 rfl, rfl⟩)
    | 3, _ =>
      obtain ⟨ci, more, o1, o2⟩ := R.tc (hp3 rfl)
      refine okQ_n (ci := ci) (fs := thL A M I t ++ more) ?_ ?_
      · rcases List.mem_cons.mp o1 with rfl | o1
        · decide
        · rw [List.mem_singleton.mp o1]; decide
      · rw [← o2]
        show G (A 4 (uL M 3 (M 0 3) t 3 (M 0 3)) 0) = _
        have : uL M 3 (M 0 3) t 3 (M 0 3) = t := by simp [uL]
        rw [this]
  have e1 := uQ_n hc1 (show M 1 q < 2 ^ 31 by omega) hn ok
  refine ⟨_, _, e1, ?_, R.wr2 1 q 0 2 q 0 (c := .inl (2, M 1 q, .inr (.inr (.inr (.inr (va_up (fun k => if k < M 0 q then some (eA A M q k) else none) (M 0 q) (some (eA A (uL M q (M 0 q) t) q (M 0 q))))))))) (c2 := .inr (0, [.int (I 2 q), .ref (A 1 q 0), .int (nI (M 0 q + 1))])) l1 l2 ?_ ?_ ?_ (by simp) ?_⟩
  · have e2 : va_up G (A 1 q 0) (some (.inl (2, M 1 q, .inr (.inr (.inr (.inr (va_up (fun k => if k < M 0 q then some (eA A M q k) else none) (M 0 q) (some (eA A (uL M q (M 0 q) t) q (M 0 q)))))))))) (A 2 q 0) = some (cl z A M I T J 2 q 0) := by rw [up_n hne]; exact hc2
    rw [pV_n e2 rfl (by simp)]
    congr 3
    simp [show M 1 q ≠ 0 by omega, nI_1]
  · obtain ⟨x1, x2, x3, x4, x5⟩ := R.b
    refine ⟨fun q' hq' => ?_, ?_, ?_, ?_, ?_⟩
    · have e3 : uL M q (M 0 q) t 1 q' = M 1 q' := by simp [uL]
      rw [e3]
      by_cases e : q' = q
      · subst e
        rw [show uL M q' (M 0 q') t 0 q' = M 0 q' + 1 by simp [uL]]
        omega
      · rw [show uL M q (M 0 q) t 0 q' = M 0 q' by simp [uL, e]]
        exact x1 q' hq'
    · rw [show uL M q (M 0 q) t 2 0 = M 2 0 by simp [uL]]
      by_cases e : 0 = q
      · subst e
        rw [show uL M 0 (M 0 0) t 0 0 = M 0 0 + 1 by simp [uL]]
        exact hp0 rfl
      · rw [show uL M q (M 0 q) t 0 0 = M 0 0 by simp [uL, e]]
        exact x2
    · rw [show uL M q (M 0 q) t 2 1 = M 2 1 by simp [uL]]
      by_cases e : 1 = q
      · subst e
        rw [show uL M 1 (M 0 1) t 0 1 = M 0 1 + 1 by simp [uL]]
        exact hp1 rfl
      · rw [show uL M q (M 0 q) t 0 1 = M 0 1 by simp [uL, e]]
        exact x3
    · rw [show uL M q (M 0 q) t 2 2 = M 2 2 by simp [uL]]
      by_cases e : 2 = q
      · subst e
        rw [show uL M 2 (M 0 2) t 0 2 = M 0 2 + 1 by simp [uL]]
        exact hp2 rfl
      · rw [show uL M q (M 0 q) t 0 2 = M 0 2 by simp [uL, e]]
        exact x4
    · intro k hk
      rw [show uL M q (M 0 q) t 2 0 = M 2 0 by simp [uL]]
      by_cases e : 3 = q
      · subst e
        rw [show uL M 3 (M 0 3) t 0 3 = M 0 3 + 1 by simp [uL]] at hk
        by_cases e2 : k = M 0 3
        · rw [show uL M 3 (M 0 3) t 3 k = t by simp [uL, e2]]
          exact hp3 rfl
        · rw [show uL M 3 (M 0 3) t 3 k = M 3 k by simp [uL, e2]]
          exact x5 k (by omega)
      · have e' : ¬ q = 3 := fun g => e g.symm
        rw [show uL M q (M 0 q) t 0 3 = M 0 3 by simp [uL, e]] at hk
        rw [show uL M q (M 0 q) t 3 k = M 3 k by simp [uL, e']]
        exact x5 k hk
  · show Sum.inl (2, uL M q (M 0 q) t 1 q, _) = _
    rw [show uL M q (M 0 q) t 1 q = M 1 q by simp [uL]]
    congr 7
    funext k
    rw [show uL M q (M 0 q) t 0 q = M 0 q + 1 by simp [uL]]
    by_cases e : k = M 0 q
    · subst e
      rw [up_s, if_pos (Nat.lt_succ_self _)]
    · rw [up_n e]
      by_cases g : k < M 0 q
      · rw [if_pos g, if_pos (by omega), uL_eA g]
      · rw [if_neg g, if_neg (by omega)]
  · simp [cl, uL, show M 1 q ≠ 0 by omega]
  · intro κ' i' j' hl
    match κ', hl with
    | 0, hl => exact ⟨hl, .inr (.inr rfl)⟩
    | 1, hl =>
      refine ⟨by simpa [lv, uL] using hl, ?_⟩
      by_cases e : i' = q
      · exact .inl (by rw [e, hl.2.1])
      · refine .inr (.inr ?_)
        show Sum.inl (2, uL M q (M 0 q) t 1 i', _) = _
        rw [show uL M q (M 0 q) t 1 i' = M 1 i' by simp [uL]]
        congr 7
        funext k
        rw [show uL M q (M 0 q) t 0 i' = M 0 i' by simp [uL, e], uL_eA' hq hl.1 e]
    | 2, hl =>
      refine ⟨hl, ?_⟩
      by_cases e : i' = q
      · exact .inr (.inl (by rw [e, hl.2]))
      · exact .inr (.inr (by simp [cl, uL, e]))
    | 3, hl => exact ⟨hl, .inr (.inr rfl)⟩
    | 4, hl => exact ⟨by simpa [lv, uL] using hl, .inr (.inr (by simp [cl, thL, uL]))⟩
    | 5, hl => exact ⟨by simpa [lv, uL] using hl, .inr (.inr rfl)⟩
    | 6, hl => exact ⟨by simpa [lv, uL] using hl, .inr (.inr rfl)⟩
    | 7, hl => exact ⟨by simpa [lv, uL] using hl, .inr (.inr rfl)⟩
    | 8, hl => exact ⟨by simpa [lv, uL] using hl, .inr (.inr rfl)⟩
    | 9, hl => exact ⟨by simpa [lv, uL] using hl, .inr (.inr rfl)⟩
    | 10, hl => exact ⟨by simpa [lv, uL] using hl, .inr (.inr rfl)⟩
    | κ' + 11, hl => exact absurd hl (by simp [lv])
theorem add_n (R : Mem z h A M I T J rl G N) {q : Nat} (hq : q < 4) (hn : M 0 q ≤ 20) (t : Nat) (hp0 : q = 0 → M 0 q < M 2 0) (hp1 : q = 1 → M 0 q < M 2 1) (hp2 : q = 2 → M 0 q < M 2 2) (hp3 : q = 3 → t < M 2 0) (s : Nat) {e : Nat} (he : e = eA A (uL M q (M 0 q) t) q (M 0 q)) : ∃ A' M' rl' G' N' s', fJx4a65c_add_9ea2d z (A 2 q 0) (some e) (G, N, s) = some (1, (G', N', s')) ∧ (N' ≤ N + 1 ∧ s' ≤ s + 40) ∧ Mem z h A' M' (uu I 2 q (I 2 q + 1)) T J rl' G' N' ∧ (∀ κ, κ ≠ 1 → A' κ = A κ) ∧ ∀ a b, a ≠ 1 → M' a b = uL M q (M 0 q) t a b := by
  subst he
  obtain ⟨G1, e1, R1⟩ := wl0 R hq (I 2 q + 1)
  obtain ⟨b1, b2⟩ := R.b.1 q hq
  by_cases hc : M 0 q = M 1 q
  · obtain ⟨G2, s2, e2, e3, R2⟩ := gr_n R1 hq hc hn s
    have c1 : uM M 1 q (capN (M 0 q)) 0 q = M 0 q := by simp [uM]
    have c2 : uM M 1 q (capN (M 0 q)) 1 q = capN (M 0 q) := by simp [uM]
    have c3 : ∀ b, uM M 1 q (capN (M 0 q)) 2 b = M 2 b := fun b => by simp [uM]
    obtain ⟨G3, G4, e4, e5, R4⟩ := ap_n R2 hq (by rw [c1, c2]; exact (capN_b hn).1) t (by rw [c1, c3]; exact hp0) (by rw [c1, c3]; exact hp1) (by rw [c1, c3]; exact hp2) (by rw [c3]; exact hp3)
    rw [c1] at e4 e5 R4
    have c4 : uA A 1 q 0 N 1 q 0 = N := by simp [uA]
    have c5 : uA A 1 q 0 N 2 q 0 = A 2 q 0 := by simp [uA]
    have c6 : eA (uA A 1 q 0 N) (uL (uM M 1 q (capN (M 0 q))) q (M 0 q) t) q (M 0 q) = eA A (uL M q (M 0 q) t) q (M 0 q) := by
      match q with
      | 0 => simp [eA, uA]
      | 1 => simp [eA, uA]
      | 2 => simp [eA, uA]
      | q + 3 => simp [eA, uA, uL, uM]
    rw [c4, c6] at e4
    rw [c5] at e5
    refine ⟨_, _, _, G4, N + 1, s2, ?_, ⟨by omega, e3⟩, R4, fun κ hκ => ?_, fun a b ha => ?_⟩
    · have l2' : gI [0] 2 G1 (A 2 q 0) = some (nI (M 0 q)) := R1.l2 hq
      have hz : ∃ a, gR [0] 1 G1 (A 2 q 0) = some (some a) ∧ aNz z G1 a = some (nI (M 0 q)) := by
        by_cases h0 : M 1 q = 0
        · refine ⟨z 0, by rw [R1.l1 hq, if_pos h0], ?_⟩
          unfold aNz
          rw [if_pos rfl, hc, h0]; rfl
        · refine ⟨A 1 q 0, by rw [R1.l1 hq, if_neg h0], ?_⟩
          unfold aNz
          rw [if_neg (R1.nz (show lv M _ 1 q 0 from ⟨hq, rfl, by omega⟩))]
          have := R1.c 1 q 0 ⟨hq, rfl, by omega⟩
          simp only [aN, this, cl, hc]
          rfl
      obtain ⟨a, z1, z2⟩ := hz
      simp only [fJx4a65c_add_9ea2d, fJx4a65c_add_9ea2d_23, fJx4a65c_add_72be8, fJx4a65c_add_72be8_10, fJx4a65c_add_72be8_11, R.l0 hq, ob_s, e1, wN_s, z1, z2, l2', R1.lo hq, if_true, e2, bI_s, e4, e5]
    · funext i j
      simp [uA, hκ]
    · unfold uL uM
      simp [ha]
  · have hlt : M 0 q < M 1 q := by omega
    obtain ⟨G3, G4, e4, e5, R4⟩ := ap_n R1 hq hlt t hp0 hp1 hp2 hp3
    refine ⟨_, _, _, G4, N, s, ?_, ⟨by omega, by omega⟩, R4, fun κ hκ => rfl, fun a b ha => rfl⟩
    have l2' : gI [0] 2 G1 (A 2 q 0) = some (nI (M 0 q)) := R1.l2 hq
    have z1 : gR [0] 1 G1 (A 2 q 0) = some (some (A 1 q 0)) := by rw [R1.l1 hq, if_neg (by omega)]
    have z2 : aNz z G1 (A 1 q 0) = some (nI (M 1 q)) := by
      unfold aNz
      rw [if_neg (R1.nz (show lv M _ 1 q 0 from ⟨hq, rfl, by omega⟩))]
      have := R1.c 1 q 0 ⟨hq, rfl, by omega⟩
      simp only [aN, this, cl]
      rfl
    have z3 : ¬ nI (M 0 q) = nI (M 1 q) := fun g => hc ((nI_eq (by omega) (by omega)).mp g)
    simp only [fJx4a65c_add_9ea2d, fJx4a65c_add_9ea2d_23, fJx4a65c_add_72be8, fJx4a65c_add_72be8_11, R.l0 hq, ob_s, e1, wN_s, z1, z2, l2', R1.lo hq, if_neg z3, bI_s, e4, e5]
end LS
