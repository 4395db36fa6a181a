/-! the constructors: cells from N on -/
def gL (G0 : gM) (N : Nat) (L : List gE) : gM := fun a => if a < N then G0 a else L[a - N]?
section CN
variable {G0 : gM} {N n i s k : Nat} {L : List gE} {β : Type} {r : Option gN}
theorem gL_at : gL G0 N L (N + i) = L[i]? := by
  unfold gL
  rw [if_neg (by omega), Nat.add_sub_cancel_left]
theorem gL_lo {a : Nat} (h : a < N) : gL G0 N L a = G0 a := if_pos h
theorem gL_hi {a : Nat} (h : N + L.length ≤ a) : gL G0 N L a = none := by
  unfold gL
  rw [if_neg (by omega)]
  exact List.getElem?_eq_none (by omega)
theorem gL_push {e : gE} (hn : L.length = n) : va_up (gL G0 N L) (N + n) (some e) = gL G0 N (L ++ [e]) := by
  subst hn
  funext a
  unfold va_up gL
  by_cases h : a = N + L.length
  · subst h
    rw [if_pos rfl, if_neg (by omega), Nat.add_sub_cancel_left, List.getElem?_concat_length]
  · rw [if_neg h]
    by_cases h2 : a < N
    · rw [if_pos h2, if_pos h2]
    · rw [if_neg h2, if_neg h2]
      by_cases h3 : a - N < L.length
      · rw [List.getElem?_append_left h3]
      · rw [List.getElem?_eq_none (by omega), List.getElem?_eq_none (by simp; omega)]
theorem gL_set {e e0 : gE} (h : L[i]? = some e0) : va_up (gL G0 N L) (N + i) (some e) = gL G0 N (L.set i e) := by
  have hi : i < L.length := (List.getElem?_eq_some_iff.mp h).1
  funext a
  unfold va_up gL
  by_cases h1 : a = N + i
  · subst h1
    rw [if_pos rfl, if_neg (by omega), Nat.add_sub_cancel_left, List.getElem?_set_self hi]
  · rw [if_neg h1]
    by_cases h2 : a < N
    · rw [if_pos h2, if_pos h2]
    · rw [if_neg h2, if_neg h2, List.getElem?_set_ne (by omega)]
theorem sN_O {ci : Nat} {fs : List Value} {K : Nat → gN → Option gN} (hn : L.length = n) (h : K (N + n) (gL G0 N (L ++ [.inr (ci, fs)]), N + (n + 1), s + fs.length) = r) : bI (nwO ci fs (gL G0 N L, N + n, s)) K = r := by
  rw [← h, ← gL_push hn]
  rfl
theorem sN_I {x : Int32} {K : Nat → gN → Option gN} (hn : L.length = n) (hx : x.toNatClampNeg = k ∧ ¬ x < 0 ∧ k ≤ 100000) (h : K (N + n) (gL G0 N (L ++ [.inl (0, k, .inl fun _ => 0)]), N + (n + 1), s + k) = r) : bI (nwI x (gL G0 N L, N + n, s)) K = r := by
  rw [← h, ← gL_push hn]
  unfold nwI
  rw [hx.1, if_pos hx.2]
  rfl
theorem sN_Z {x : Int32} {K : Nat → gN → Option gN} (hn : L.length = n) (hx : x.toNatClampNeg = k ∧ ¬ x < 0 ∧ k ≤ 100000) (h : K (N + n) (gL G0 N (L ++ [.inl (3, k, .inl fun _ => 0)]), N + (n + 1), s + k) = r) : bI (nwZ x (gL G0 N L, N + n, s)) K = r := by
  rw [← h, ← gL_push hn]
  unfold nwZ
  rw [hx.1, if_pos hx.2]
  rfl
theorem sN_J {x : Int32} {K : Nat → gN → Option gN} (hn : L.length = n) (hx : x.toNatClampNeg = k ∧ ¬ x < 0 ∧ k ≤ 100000) (h : K (N + n) (gL G0 N (L ++ [.inl (1, k, .inr (.inl fun _ => 0))]), N + (n + 1), s + k) = r) : bI (nwJ x (gL G0 N L, N + n, s)) K = r := by
  rw [← h, ← gL_push hn]
  unfold nwJ
  rw [hx.1, if_pos hx.2]
  rfl
theorem pV_L {cs : List Nat} {f ci : Nat} {v : Value} {fs : List Value} (hi : L[i]? = some (.inr (ci, fs))) (hc : cs.contains ci = true) (hf : f < fs.length) : pV cs f v (gL G0 N L) (N + i) = some (gL G0 N (L.set i (.inr (ci, fs.set f v)))) := by
  rw [pV_n (gL_at.trans hi) hc hf, gL_set hi]
theorem sN_p {cs : List Nat} {f ci M : Nat} {v : Value} {fs : List Value} {K : gN → Option gN} (hi : L[i]? = some (.inr (ci, fs))) (hc : cs.contains ci = true ∧ f < fs.length) (h : K (gL G0 N (L.set i (.inr (ci, fs.set f v))), M, s) = r) : (wN (pV cs f v (gL G0 N L) (N + i)) (gL G0 N L, M, s)).bind K = r := by
  rw [pV_L hi hc.1 hc.2, ← h]
  rfl
theorem sN_l {z : Nat → Nat} {M : Nat} {K : gN → Option gN} {x0 x1 x2 : Value} (hi : L[i]? = some (.inr (0, [x0, x1, x2]))) (h : K (gL G0 N (L.set i (.inr (0, [.int 0, .ref (z 0), x2]))), M, s) = r) : (wN (fJx4a65c_init_da8c8 z (N + i) (gL G0 N L)) (gL G0 N L, M, s)).bind K = r := by
  have e1 : fJxa1e45_init_da8c8 (N + i) (gL G0 N L) = some (gL G0 N L) := by
    rfl
  have e2 : fJx4a65c_init_da8c8 z (N + i) (gL G0 N L) = some (gL G0 N (L.set i (.inr (0, [.int 0, .ref (z 0), x2])))) := by
    have hl : i < L.length := (List.getElem?_eq_some_iff.mp hi).1
    rw [fJx4a65c_init_da8c8, fJxc12de_init_da8c8, e1, ob_s, pV_L hi rfl (by decide : 0 < 3), ob_s, ob_s, pV_L (List.getElem?_set_self hl) rfl (by decide : 1 < 3), ob_s, List.set_set]
    rfl
  rw [e2, ← h]
  rfl
theorem sN_u {c f M : Nat} {x y : Int32} {g : Nat → Int32} {K : gN → Option gN} (hi : L[i]? = some (.inl (0, c, .inl g))) (hx : x = nI f ∧ f < c ∧ c < 1000) (h : K (gL G0 N (L.set i (.inl (0, c, .inl (upd g f y)))), M, s) = r) : (wN (uI (gL G0 N L) (N + i) x y) (gL G0 N L, M, s)).bind K = r := by
  rw [hx.1, uI_n (gL_at.trans hi) (by omega) hx.2.1, gL_set hi, ← h]
  rfl
theorem sN_f {c M : Nat} {y : Int32} {g : Nat → Int32} {K : gN → Option gN} (hi : L[i]? = some (.inl (0, c, .inl g))) (hx : c < 1000) (h : K (gL G0 N (L.set i (.inl (0, c, .inl fun j => if j < c then y else g j))), M, s) = r) : (wN (fJ7_fill_53178 (some (N + i)) y (gL G0 N L)) (gL G0 N L, M, s)).bind K = r := by
  rw [fill_n (by omega) (gL_at.trans hi), gL_set hi, ← h]
  rfl
theorem sN_g {cs : List Nat} {f ci : Nat} {v : Nat} {fs : List Value} {K : Option Nat → Option gN} (hi : L[i]? = some (.inr (ci, fs))) (hc : cs.contains ci = true) (hf : fs[f]? = some (.ref v)) (h : K (some v) = r) : (gR cs f (gL G0 N L) (N + i)).bind K = r := by
  rw [gR_n (x := some v) (gL_at.trans hi) hc hf, ← h]
  rfl
theorem sN_b {a : Nat} {K : Nat → Option gN} (h : K a = r) : (some a).bind K = r := h
end CN
def lfC (z : Nat → Nat) (N : Nat) : List gE := [.inr (10, [.ref (N + 1), .ref (N + 2), .ref (N + 3), .ref (N + 4), .ref (N + 5), .ref (N + 6), .ref (N + 7), .ref (N + 8), .ref (N + 9), .ref (N + 12), .ref (N + 15), .ref (N + 17), .int (0 : Int32), .int (0 : Int32), .int (3 : Int32), .int (0 : Int32)]), .inr (0, [.int 0, .ref (z 0), .int 0]), .inr (0, [.int 0, .ref (z 0), .int 0]), .inr (0, [.int 0, .ref (z 0), .int 0]), .inl (0, 5, .inl (fun j => if j < 5 then 4 else (fun _ => 0) j)), .inl (0, 4, .inl (fun j => if j < 4 then 12 else (fun _ => 0) j)), .inl (0, 6, .inl (fun _ => 0)), .inl (0, 20, .inl (fun _ => 0)), .inr (0, [.int 0, .ref (z 0), .int 0]), .inr (4, [.ref (N + 10), .ref (N + 11), .int (0 : Int32)]), .inl (1, 256, .inr (.inl fun _ => 0)), .inl (1, 8, .inr (.inl fun _ => 0)), .inr (5, [.ref (N + 13), .ref (N + 14), .int (0 : Int32), .int (0 : Int32), .int (0 : Int32)]), .inl (0, 1024, .inl (fun _ => 0)), .inl (0, 1024, .inl (fun _ => 0)), .inr (3, [.ref (N + 16)]), .inl (0, 14, .inl (fun _ => 0)), .inr (7, [.ref (N + 18), .ref (N + 19), .int (0 : Int32), .int (0 : Int32)]), .inl (0, 6, .inl (fun _ => 0)), .inl (0, 6, .inl (fun _ => 0))]
def lfM (N : Nat) : List gE := [.inr (11, [.int (0 : Int32), .int (3 : Int32), .int 0, .ref (N + 1), .ref (N + 2), .ref (N + 3), .ref (N + 4), .ref (N + 5), .ref (N + 6), .ref (N + 7), .ref (N + 8), .ref (N + 9), .ref (N + 10), .ref (N + 11), .ref (N + 12), .ref (N + 13), .int 0, .int 0, .ref (N + 14), .ref (N + 15), .ref (N + 16), .ref (N + 17), .ref (N + 18), .ref (N + 19), .ref (N + 20), .int 0, .ref (N + 21), .ref (N + 22), .ref (N + 23), .int 0, .ref (N + 24), .ref (N + 25), .int 0, .ref (N + 26), .int 0, .ref (N + 27), .ref (N + 28), .ref (N + 29), .ref (N + 30), .ref (N + 31), .ref (N + 32), .int 0, .ref (N + 33), .ref (N + 34), .ref (N + 35)]), .inl (0, 20, .inl (fun _ => 0)), .inl (0, 20, .inl (fun _ => 0)), .inl (0, 100, .inl (fun _ => 0)), .inl (0, 20, .inl (fun _ => 0)), .inl (0, 20, .inl (fun _ => 0)), .inl (0, 20, .inl (fun _ => 0)), .inl (0, 20, .inl (fun _ => 0)), .inl (0, 20, .inl (fun _ => 0)), .inl (0, 20, .inl (fun _ => 0)), .inl (0, 20, .inl (fun _ => 0)), .inl (3, 20, .inl (fun _ => 0)), .inl (0, 80, .inl (fun _ => 0)), .inl (0, 9000, .inl (fun _ => 0)), .inl (0, 8, .inl (fun _ => 0)), .inl (0, 40, .inl (fun _ => 0)), .inl (0, 8, .inl (fun _ => 0)), .inl (0, 8, .inl (fun _ => 0)), .inl (0, 8, .inl (fun _ => 0)), .inl (3, 8, .inl (fun _ => 0)), .inl (0, 5, .inl (upd (upd (upd (upd (upd (fun _ => 0) 0 4) 1 4) 2 4) 3 4) 4 4)), .inl (0, 16, .inl (fun _ => 0)), .inl (0, 16, .inl (fun _ => 0)), .inl (0, 4, .inl (upd (upd (upd (upd (fun _ => 0) 0 12) 1 12) 2 12) 3 12)), .inl (0, 60, .inl (fun _ => 0)), .inl (0, 60, .inl (fun _ => 0)), .inl (0, 20, .inl (fun _ => 0)), .inl (0, 6, .inl (fun _ => 0)), .inl (0, 8, .inl (fun _ => 0)), .inl (0, 256, .inl (fun _ => 0)), .inl (0, 256, .inl (fun _ => 0)), .inl (0, 160, .inl (fun _ => 0)), .inl (0, 10, .inl (fun _ => 0)), .inl (0, 1024, .inl (fun _ => 0)), .inl (3, 1024, .inl (fun _ => 0)), .inl (1, 3721, .inr (.inl fun _ => 0))]
set_option maxRecDepth 20000 in
theorem qX3_init_18 {G0 : gM} {z : Nat → Nat} {N s : Nat} : ∃ s', fX3_init_18 (N + 9) (some (N + 11)) (gL G0 N [.inr (10, [.ref (N + 1), .ref (N + 2), .ref (N + 3), .ref (N + 4), .ref (N + 5), .ref (N + 6), .ref (N + 7), .ref (N + 8), .null, .null, .null, .null, .int 0, .int 0, .int 0, .int 0]), .inr (0, [.int 0, .ref (z 0), .int 0]), .inr (0, [.int 0, .ref (z 0), .int 0]), .inr (0, [.int 0, .ref (z 0), .int 0]), .inl (0, 5, .inl (fun _ => 0)), .inl (0, 4, .inl (fun _ => 0)), .inl (0, 6, .inl (fun _ => 0)), .inl (0, 20, .inl (fun _ => 0)), .inr (0, [.int 0, .ref (z 0), .int 0]), .inr (4, [.ref (N + 10), .null, .int 0]), .inl (1, 256, .inr (.inl fun _ => 0)), .inl (1, 8, .inr (.inl fun _ => 0))], N + 12, s) = some (gL G0 N [.inr (10, [.ref (N + 1), .ref (N + 2), .ref (N + 3), .ref (N + 4), .ref (N + 5), .ref (N + 6), .ref (N + 7), .ref (N + 8), .null, .null, .null, .null, .int 0, .int 0, .int 0, .int 0]), .inr (0, [.int 0, .ref (z 0), .int 0]), .inr (0, [.int 0, .ref (z 0), .int 0]), .inr (0, [.int 0, .ref (z 0), .int 0]), .inl (0, 5, .inl (fun _ => 0)), .inl (0, 4, .inl (fun _ => 0)), .inl (0, 6, .inl (fun _ => 0)), .inl (0, 20, .inl (fun _ => 0)), .inr (0, [.int 0, .ref (z 0), .int 0]), .inr (4, [.ref (N + 10), .ref (N + 11), .int (0 : Int32)]), .inl (1, 256, .inr (.inl fun _ => 0)), .inl (1, 8, .inr (.inl fun _ => 0))], N + 12, s') ∧ s' ≤ s + 0 := by
  refine ⟨s, ?_, by omega⟩
  unfold fX3_init_18
  refine sN_p rfl ⟨rfl, Nat.le_of_ble_eq_true rfl⟩ ?_
  refine sN_p rfl ⟨rfl, Nat.le_of_ble_eq_true rfl⟩ ?_
  rfl
set_option maxRecDepth 20000 in
theorem qX3_init_10 {G0 : gM} {z : Nat → Nat} {N s : Nat} : ∃ s', fX3_init_10 (N + 9) (some (N + 10)) (gL G0 N [.inr (10, [.ref (N + 1), .ref (N + 2), .ref (N + 3), .ref (N + 4), .ref (N + 5), .ref (N + 6), .ref (N + 7), .ref (N + 8), .null, .null, .null, .null, .int 0, .int 0, .int 0, .int 0]), .inr (0, [.int 0, .ref (z 0), .int 0]), .inr (0, [.int 0, .ref (z 0), .int 0]), .inr (0, [.int 0, .ref (z 0), .int 0]), .inl (0, 5, .inl (fun _ => 0)), .inl (0, 4, .inl (fun _ => 0)), .inl (0, 6, .inl (fun _ => 0)), .inl (0, 20, .inl (fun _ => 0)), .inr (0, [.int 0, .ref (z 0), .int 0]), .inr (4, [.null, .null, .int 0]), .inl (1, 256, .inr (.inl fun _ => 0))], N + 11, s) = some (gL G0 N [.inr (10, [.ref (N + 1), .ref (N + 2), .ref (N + 3), .ref (N + 4), .ref (N + 5), .ref (N + 6), .ref (N + 7), .ref (N + 8), .null, .null, .null, .null, .int 0, .int 0, .int 0, .int 0]), .inr (0, [.int 0, .ref (z 0), .int 0]), .inr (0, [.int 0, .ref (z 0), .int 0]), .inr (0, [.int 0, .ref (z 0), .int 0]), .inl (0, 5, .inl (fun _ => 0)), .inl (0, 4, .inl (fun _ => 0)), .inl (0, 6, .inl (fun _ => 0)), .inl (0, 20, .inl (fun _ => 0)), .inr (0, [.int 0, .ref (z 0), .int 0]), .inr (4, [.ref (N + 10), .ref (N + 11), .int (0 : Int32)]), .inl (1, 256, .inr (.inl fun _ => 0)), .inl (1, 8, .inr (.inl fun _ => 0))], N + 12, s') ∧ s' ≤ s + 8 := by
  obtain ⟨s2, h2, b2⟩ := qX3_init_18 (G0 := G0) (z := z) (N := N) (s := s + 8)
  refine ⟨s2, ?_, by omega⟩
  unfold fX3_init_10
  refine sN_p rfl ⟨rfl, Nat.le_of_ble_eq_true rfl⟩ ?_
  refine sN_J (k := 8) rfl (by decide) ?_
  exact h2
set_option maxRecDepth 20000 in
theorem qX3_init {G0 : gM} {z : Nat → Nat} {N s : Nat} : ∃ s', fX3_init (N + 9) (gL G0 N [.inr (10, [.ref (N + 1), .ref (N + 2), .ref (N + 3), .ref (N + 4), .ref (N + 5), .ref (N + 6), .ref (N + 7), .ref (N + 8), .null, .null, .null, .null, .int 0, .int 0, .int 0, .int 0]), .inr (0, [.int 0, .ref (z 0), .int 0]), .inr (0, [.int 0, .ref (z 0), .int 0]), .inr (0, [.int 0, .ref (z 0), .int 0]), .inl (0, 5, .inl (fun _ => 0)), .inl (0, 4, .inl (fun _ => 0)), .inl (0, 6, .inl (fun _ => 0)), .inl (0, 20, .inl (fun _ => 0)), .inr (0, [.int 0, .ref (z 0), .int 0]), .inr (4, [.null, .null, .int 0])], N + 10, s) = some (gL G0 N [.inr (10, [.ref (N + 1), .ref (N + 2), .ref (N + 3), .ref (N + 4), .ref (N + 5), .ref (N + 6), .ref (N + 7), .ref (N + 8), .null, .null, .null, .null, .int 0, .int 0, .int 0, .int 0]), .inr (0, [.int 0, .ref (z 0), .int 0]), .inr (0, [.int 0, .ref (z 0), .int 0]), .inr (0, [.int 0, .ref (z 0), .int 0]), .inl (0, 5, .inl (fun _ => 0)), .inl (0, 4, .inl (fun _ => 0)), .inl (0, 6, .inl (fun _ => 0)), .inl (0, 20, .inl (fun _ => 0)), .inr (0, [.int 0, .ref (z 0), .int 0]), .inr (4, [.ref (N + 10), .ref (N + 11), .int (0 : Int32)]), .inl (1, 256, .inr (.inl fun _ => 0)), .inl (1, 8, .inr (.inl fun _ => 0))], N + 12, s') ∧ s' ≤ s + 264 := by
  obtain ⟨s2, h2, b2⟩ := qX3_init_10 (G0 := G0) (z := z) (N := N) (s := s + 256)
  refine ⟨s2, ?_, by omega⟩
  unfold fX3_init
  refine sN_J (k := 256) rfl (by decide) ?_
  exact h2
set_option maxRecDepth 20000 in
theorem qX4_init_19 {G0 : gM} {z : Nat → Nat} {N s : Nat} : ∃ s', fX4_init_19 (N + 12) (some (N + 14)) (gL G0 N [.inr (10, [.ref (N + 1), .ref (N + 2), .ref (N + 3), .ref (N + 4), .ref (N + 5), .ref (N + 6), .ref (N + 7), .ref (N + 8), .ref (N + 9), .null, .null, .null, .int 0, .int 0, .int 0, .int 0]), .inr (0, [.int 0, .ref (z 0), .int 0]), .inr (0, [.int 0, .ref (z 0), .int 0]), .inr (0, [.int 0, .ref (z 0), .int 0]), .inl (0, 5, .inl (fun _ => 0)), .inl (0, 4, .inl (fun _ => 0)), .inl (0, 6, .inl (fun _ => 0)), .inl (0, 20, .inl (fun _ => 0)), .inr (0, [.int 0, .ref (z 0), .int 0]), .inr (4, [.ref (N + 10), .ref (N + 11), .int (0 : Int32)]), .inl (1, 256, .inr (.inl fun _ => 0)), .inl (1, 8, .inr (.inl fun _ => 0)), .inr (5, [.ref (N + 13), .null, .int 0, .int 0, .int 0]), .inl (0, 1024, .inl (fun _ => 0)), .inl (0, 1024, .inl (fun _ => 0))], N + 15, s) = some (gL G0 N [.inr (10, [.ref (N + 1), .ref (N + 2), .ref (N + 3), .ref (N + 4), .ref (N + 5), .ref (N + 6), .ref (N + 7), .ref (N + 8), .ref (N + 9), .null, .null, .null, .int 0, .int 0, .int 0, .int 0]), .inr (0, [.int 0, .ref (z 0), .int 0]), .inr (0, [.int 0, .ref (z 0), .int 0]), .inr (0, [.int 0, .ref (z 0), .int 0]), .inl (0, 5, .inl (fun _ => 0)), .inl (0, 4, .inl (fun _ => 0)), .inl (0, 6, .inl (fun _ => 0)), .inl (0, 20, .inl (fun _ => 0)), .inr (0, [.int 0, .ref (z 0), .int 0]), .inr (4, [.ref (N + 10), .ref (N + 11), .int (0 : Int32)]), .inl (1, 256, .inr (.inl fun _ => 0)), .inl (1, 8, .inr (.inl fun _ => 0)), .inr (5, [.ref (N + 13), .ref (N + 14), .int (0 : Int32), .int (0 : Int32), .int (0 : Int32)]), .inl (0, 1024, .inl (fun _ => 0)), .inl (0, 1024, .inl (fun _ => 0))], N + 15, s') ∧ s' ≤ s + 0 := by
  refine ⟨s, ?_, by omega⟩
  unfold fX4_init_19
  refine sN_p rfl ⟨rfl, Nat.le_of_ble_eq_true rfl⟩ ?_
  refine sN_p rfl ⟨rfl, Nat.le_of_ble_eq_true rfl⟩ ?_
  refine sN_p rfl ⟨rfl, Nat.le_of_ble_eq_true rfl⟩ ?_
  refine sN_p rfl ⟨rfl, Nat.le_of_ble_eq_true rfl⟩ ?_
  rfl
set_option maxRecDepth 20000 in
theorem qX4_init_10 {G0 : gM} {z : Nat → Nat} {N s : Nat} : ∃ s', fX4_init_10 (N + 12) (some (N + 13)) (gL G0 N [.inr (10, [.ref (N + 1), .ref (N + 2), .ref (N + 3), .ref (N + 4), .ref (N + 5), .ref (N + 6), .ref (N + 7), .ref (N + 8), .ref (N + 9), .null, .null, .null, .int 0, .int 0, .int 0, .int 0]), .inr (0, [.int 0, .ref (z 0), .int 0]), .inr (0, [.int 0, .ref (z 0), .int 0]), .inr (0, [.int 0, .ref (z 0), .int 0]), .inl (0, 5, .inl (fun _ => 0)), .inl (0, 4, .inl (fun _ => 0)), .inl (0, 6, .inl (fun _ => 0)), .inl (0, 20, .inl (fun _ => 0)), .inr (0, [.int 0, .ref (z 0), .int 0]), .inr (4, [.ref (N + 10), .ref (N + 11), .int (0 : Int32)]), .inl (1, 256, .inr (.inl fun _ => 0)), .inl (1, 8, .inr (.inl fun _ => 0)), .inr (5, [.null, .null, .int 0, .int 0, .int 0]), .inl (0, 1024, .inl (fun _ => 0))], N + 14, s) = some (gL G0 N [.inr (10, [.ref (N + 1), .ref (N + 2), .ref (N + 3), .ref (N + 4), .ref (N + 5), .ref (N + 6), .ref (N + 7), .ref (N + 8), .ref (N + 9), .null, .null, .null, .int 0, .int 0, .int 0, .int 0]), .inr (0, [.int 0, .ref (z 0), .int 0]), .inr (0, [.int 0, .ref (z 0), .int 0]), .inr (0, [.int 0, .ref (z 0), .int 0]), .inl (0, 5, .inl (fun _ => 0)), .inl (0, 4, .inl (fun _ => 0)), .inl (0, 6, .inl (fun _ => 0)), .inl (0, 20, .inl (fun _ => 0)), .inr (0, [.int 0, .ref (z 0), .int 0]), .inr (4, [.ref (N + 10), .ref (N + 11), .int (0 : Int32)]), .inl (1, 256, .inr (.inl fun _ => 0)), .inl (1, 8, .inr (.inl fun _ => 0)), .inr (5, [.ref (N + 13), .ref (N + 14), .int (0 : Int32), .int (0 : Int32), .int (0 : Int32)]), .inl (0, 1024, .inl (fun _ => 0)), .inl (0, 1024, .inl (fun _ => 0))], N + 15, s') ∧ s' ≤ s + 1024 := by
  obtain ⟨s2, h2, b2⟩ := qX4_init_19 (G0 := G0) (z := z) (N := N) (s := s + 1024)
  refine ⟨s2, ?_, by omega⟩
  unfold fX4_init_10
  refine sN_p rfl ⟨rfl, Nat.le_of_ble_eq_true rfl⟩ ?_
  refine sN_I (k := 1024) rfl (by decide) ?_
  exact h2
set_option maxRecDepth 20000 in
theorem qX4_init {G0 : gM} {z : Nat → Nat} {N s : Nat} : ∃ s', fX4_init (N + 12) (gL G0 N [.inr (10, [.ref (N + 1), .ref (N + 2), .ref (N + 3), .ref (N + 4), .ref (N + 5), .ref (N + 6), .ref (N + 7), .ref (N + 8), .ref (N + 9), .null, .null, .null, .int 0, .int 0, .int 0, .int 0]), .inr (0, [.int 0, .ref (z 0), .int 0]), .inr (0, [.int 0, .ref (z 0), .int 0]), .inr (0, [.int 0, .ref (z 0), .int 0]), .inl (0, 5, .inl (fun _ => 0)), .inl (0, 4, .inl (fun _ => 0)), .inl (0, 6, .inl (fun _ => 0)), .inl (0, 20, .inl (fun _ => 0)), .inr (0, [.int 0, .ref (z 0), .int 0]), .inr (4, [.ref (N + 10), .ref (N + 11), .int (0 : Int32)]), .inl (1, 256, .inr (.inl fun _ => 0)), .inl (1, 8, .inr (.inl fun _ => 0)), .inr (5, [.null, .null, .int 0, .int 0, .int 0])], N + 13, s) = some (gL G0 N [.inr (10, [.ref (N + 1), .ref (N + 2), .ref (N + 3), .ref (N + 4), .ref (N + 5), .ref (N + 6), .ref (N + 7), .ref (N + 8), .ref (N + 9), .null, .null, .null, .int 0, .int 0, .int 0, .int 0]), .inr (0, [.int 0, .ref (z 0), .int 0]), .inr (0, [.int 0, .ref (z 0), .int 0]), .inr (0, [.int 0, .ref (z 0), .int 0]), .inl (0, 5, .inl (fun _ => 0)), .inl (0, 4, .inl (fun _ => 0)), .inl (0, 6, .inl (fun _ => 0)), .inl (0, 20, .inl (fun _ => 0)), .inr (0, [.int 0, .ref (z 0), .int 0]), .inr (4, [.ref (N + 10), .ref (N + 11), .int (0 : Int32)]), .inl (1, 256, .inr (.inl fun _ => 0)), .inl (1, 8, .inr (.inl fun _ => 0)), .inr (5, [.ref (N + 13), .ref (N + 14), .int (0 : Int32), .int (0 : Int32), .int (0 : Int32)]), .inl (0, 1024, .inl (fun _ => 0)), .inl (0, 1024, .inl (fun _ => 0))], N + 15, s') ∧ s' ≤ s + 2048 := by
  obtain ⟨s2, h2, b2⟩ := qX4_init_10 (G0 := G0) (z := z) (N := N) (s := s + 1024)
  refine ⟨s2, ?_, by omega⟩
  unfold fX4_init
  refine sN_I (k := 1024) rfl (by decide) ?_
  exact h2
set_option maxRecDepth 20000 in
theorem qX2_init_9 {G0 : gM} {z : Nat → Nat} {N s : Nat} : ∃ s', fX2_init_9 (N + 15) (some (N + 16)) (gL G0 N [.inr (10, [.ref (N + 1), .ref (N + 2), .ref (N + 3), .ref (N + 4), .ref (N + 5), .ref (N + 6), .ref (N + 7), .ref (N + 8), .ref (N + 9), .ref (N + 12), .null, .null, .int 0, .int 0, .int 0, .int 0]), .inr (0, [.int 0, .ref (z 0), .int 0]), .inr (0, [.int 0, .ref (z 0), .int 0]), .inr (0, [.int 0, .ref (z 0), .int 0]), .inl (0, 5, .inl (fun _ => 0)), .inl (0, 4, .inl (fun _ => 0)), .inl (0, 6, .inl (fun _ => 0)), .inl (0, 20, .inl (fun _ => 0)), .inr (0, [.int 0, .ref (z 0), .int 0]), .inr (4, [.ref (N + 10), .ref (N + 11), .int (0 : Int32)]), .inl (1, 256, .inr (.inl fun _ => 0)), .inl (1, 8, .inr (.inl fun _ => 0)), .inr (5, [.ref (N + 13), .ref (N + 14), .int (0 : Int32), .int (0 : Int32), .int (0 : Int32)]), .inl (0, 1024, .inl (fun _ => 0)), .inl (0, 1024, .inl (fun _ => 0)), .inr (3, [.null]), .inl (0, 14, .inl (fun _ => 0))], N + 17, s) = some (gL G0 N [.inr (10, [.ref (N + 1), .ref (N + 2), .ref (N + 3), .ref (N + 4), .ref (N + 5), .ref (N + 6), .ref (N + 7), .ref (N + 8), .ref (N + 9), .ref (N + 12), .null, .null, .int 0, .int 0, .int 0, .int 0]), .inr (0, [.int 0, .ref (z 0), .int 0]), .inr (0, [.int 0, .ref (z 0), .int 0]), .inr (0, [.int 0, .ref (z 0), .int 0]), .inl (0, 5, .inl (fun _ => 0)), .inl (0, 4, .inl (fun _ => 0)), .inl (0, 6, .inl (fun _ => 0)), .inl (0, 20, .inl (fun _ => 0)), .inr (0, [.int 0, .ref (z 0), .int 0]), .inr (4, [.ref (N + 10), .ref (N + 11), .int (0 : Int32)]), .inl (1, 256, .inr (.inl fun _ => 0)), .inl (1, 8, .inr (.inl fun _ => 0)), .inr (5, [.ref (N + 13), .ref (N + 14), .int (0 : Int32), .int (0 : Int32), .int (0 : Int32)]), .inl (0, 1024, .inl (fun _ => 0)), .inl (0, 1024, .inl (fun _ => 0)), .inr (3, [.ref (N + 16)]), .inl (0, 14, .inl (fun _ => 0))], N + 17, s') ∧ s' ≤ s + 0 := by
  refine ⟨s, ?_, by omega⟩
  unfold fX2_init_9
  refine sN_p rfl ⟨rfl, Nat.le_of_ble_eq_true rfl⟩ ?_
  rfl
set_option maxRecDepth 20000 in
theorem qX2_init {G0 : gM} {z : Nat → Nat} {N s : Nat} : ∃ s', fX2_init (N + 15) (gL G0 N [.inr (10, [.ref (N + 1), .ref (N + 2), .ref (N + 3), .ref (N + 4), .ref (N + 5), .ref (N + 6), .ref (N + 7), .ref (N + 8), .ref (N + 9), .ref (N + 12), .null, .null, .int 0, .int 0, .int 0, .int 0]), .inr (0, [.int 0, .ref (z 0), .int 0]), .inr (0, [.int 0, .ref (z 0), .int 0]), .inr (0, [.int 0, .ref (z 0), .int 0]), .inl (0, 5, .inl (fun _ => 0)), .inl (0, 4, .inl (fun _ => 0)), .inl (0, 6, .inl (fun _ => 0)), .inl (0, 20, .inl (fun _ => 0)), .inr (0, [.int 0, .ref (z 0), .int 0]), .inr (4, [.ref (N + 10), .ref (N + 11), .int (0 : Int32)]), .inl (1, 256, .inr (.inl fun _ => 0)), .inl (1, 8, .inr (.inl fun _ => 0)), .inr (5, [.ref (N + 13), .ref (N + 14), .int (0 : Int32), .int (0 : Int32), .int (0 : Int32)]), .inl (0, 1024, .inl (fun _ => 0)), .inl (0, 1024, .inl (fun _ => 0)), .inr (3, [.null])], N + 16, s) = some (gL G0 N [.inr (10, [.ref (N + 1), .ref (N + 2), .ref (N + 3), .ref (N + 4), .ref (N + 5), .ref (N + 6), .ref (N + 7), .ref (N + 8), .ref (N + 9), .ref (N + 12), .null, .null, .int 0, .int 0, .int 0, .int 0]), .inr (0, [.int 0, .ref (z 0), .int 0]), .inr (0, [.int 0, .ref (z 0), .int 0]), .inr (0, [.int 0, .ref (z 0), .int 0]), .inl (0, 5, .inl (fun _ => 0)), .inl (0, 4, .inl (fun _ => 0)), .inl (0, 6, .inl (fun _ => 0)), .inl (0, 20, .inl (fun _ => 0)), .inr (0, [.int 0, .ref (z 0), .int 0]), .inr (4, [.ref (N + 10), .ref (N + 11), .int (0 : Int32)]), .inl (1, 256, .inr (.inl fun _ => 0)), .inl (1, 8, .inr (.inl fun _ => 0)), .inr (5, [.ref (N + 13), .ref (N + 14), .int (0 : Int32), .int (0 : Int32), .int (0 : Int32)]), .inl (0, 1024, .inl (fun _ => 0)), .inl (0, 1024, .inl (fun _ => 0)), .inr (3, [.ref (N + 16)]), .inl (0, 14, .inl (fun _ => 0))], N + 17, s') ∧ s' ≤ s + 14 := by
  obtain ⟨s2, h2, b2⟩ := qX2_init_9 (G0 := G0) (z := z) (N := N) (s := s + 14)
  refine ⟨s2, ?_, by omega⟩
  unfold fX2_init
  refine sN_I (k := 14) rfl (by decide) ?_
  exact h2
set_option maxRecDepth 20000 in
theorem qX6_init_17 {G0 : gM} {z : Nat → Nat} {N s : Nat} : ∃ s', fX6_init_17 (N + 17) (some (N + 19)) (gL G0 N [.inr (10, [.ref (N + 1), .ref (N + 2), .ref (N + 3), .ref (N + 4), .ref (N + 5), .ref (N + 6), .ref (N + 7), .ref (N + 8), .ref (N + 9), .ref (N + 12), .ref (N + 15), .null, .int 0, .int 0, .int 0, .int 0]), .inr (0, [.int 0, .ref (z 0), .int 0]), .inr (0, [.int 0, .ref (z 0), .int 0]), .inr (0, [.int 0, .ref (z 0), .int 0]), .inl (0, 5, .inl (fun _ => 0)), .inl (0, 4, .inl (fun _ => 0)), .inl (0, 6, .inl (fun _ => 0)), .inl (0, 20, .inl (fun _ => 0)), .inr (0, [.int 0, .ref (z 0), .int 0]), .inr (4, [.ref (N + 10), .ref (N + 11), .int (0 : Int32)]), .inl (1, 256, .inr (.inl fun _ => 0)), .inl (1, 8, .inr (.inl fun _ => 0)), .inr (5, [.ref (N + 13), .ref (N + 14), .int (0 : Int32), .int (0 : Int32), .int (0 : Int32)]), .inl (0, 1024, .inl (fun _ => 0)), .inl (0, 1024, .inl (fun _ => 0)), .inr (3, [.ref (N + 16)]), .inl (0, 14, .inl (fun _ => 0)), .inr (7, [.ref (N + 18), .null, .int 0, .int 0]), .inl (0, 6, .inl (fun _ => 0)), .inl (0, 6, .inl (fun _ => 0))], N + 20, s) = some (gL G0 N [.inr (10, [.ref (N + 1), .ref (N + 2), .ref (N + 3), .ref (N + 4), .ref (N + 5), .ref (N + 6), .ref (N + 7), .ref (N + 8), .ref (N + 9), .ref (N + 12), .ref (N + 15), .null, .int 0, .int 0, .int 0, .int 0]), .inr (0, [.int 0, .ref (z 0), .int 0]), .inr (0, [.int 0, .ref (z 0), .int 0]), .inr (0, [.int 0, .ref (z 0), .int 0]), .inl (0, 5, .inl (fun _ => 0)), .inl (0, 4, .inl (fun _ => 0)), .inl (0, 6, .inl (fun _ => 0)), .inl (0, 20, .inl (fun _ => 0)), .inr (0, [.int 0, .ref (z 0), .int 0]), .inr (4, [.ref (N + 10), .ref (N + 11), .int (0 : Int32)]), .inl (1, 256, .inr (.inl fun _ => 0)), .inl (1, 8, .inr (.inl fun _ => 0)), .inr (5, [.ref (N + 13), .ref (N + 14), .int (0 : Int32), .int (0 : Int32), .int (0 : Int32)]), .inl (0, 1024, .inl (fun _ => 0)), .inl (0, 1024, .inl (fun _ => 0)), .inr (3, [.ref (N + 16)]), .inl (0, 14, .inl (fun _ => 0)), .inr (7, [.ref (N + 18), .ref (N + 19), .int (0 : Int32), .int (0 : Int32)]), .inl (0, 6, .inl (fun _ => 0)), .inl (0, 6, .inl (fun _ => 0))], N + 20, s') ∧ s' ≤ s + 0 := by
  refine ⟨s, ?_, by omega⟩
  unfold fX6_init_17
  refine sN_p rfl ⟨rfl, Nat.le_of_ble_eq_true rfl⟩ ?_
  refine sN_p rfl ⟨rfl, Nat.le_of_ble_eq_true rfl⟩ ?_
  refine sN_p rfl ⟨rfl, Nat.le_of_ble_eq_true rfl⟩ ?_
  rfl
set_option maxRecDepth 20000 in
theorem qX6_init_9 {G0 : gM} {z : Nat → Nat} {N s : Nat} : ∃ s', fX6_init_9 (N + 17) (some (N + 18)) (gL G0 N [.inr (10, [.ref (N + 1), .ref (N + 2), .ref (N + 3), .ref (N + 4), .ref (N + 5), .ref (N + 6), .ref (N + 7), .ref (N + 8), .ref (N + 9), .ref (N + 12), .ref (N + 15), .null, .int 0, .int 0, .int 0, .int 0]), .inr (0, [.int 0, .ref (z 0), .int 0]), .inr (0, [.int 0, .ref (z 0), .int 0]), .inr (0, [.int 0, .ref (z 0), .int 0]), .inl (0, 5, .inl (fun _ => 0)), .inl (0, 4, .inl (fun _ => 0)), .inl (0, 6, .inl (fun _ => 0)), .inl (0, 20, .inl (fun _ => 0)), .inr (0, [.int 0, .ref (z 0), .int 0]), .inr (4, [.ref (N + 10), .ref (N + 11), .int (0 : Int32)]), .inl (1, 256, .inr (.inl fun _ => 0)), .inl (1, 8, .inr (.inl fun _ => 0)), .inr (5, [.ref (N + 13), .ref (N + 14), .int (0 : Int32), .int (0 : Int32), .int (0 : Int32)]), .inl (0, 1024, .inl (fun _ => 0)), .inl (0, 1024, .inl (fun _ => 0)), .inr (3, [.ref (N + 16)]), .inl (0, 14, .inl (fun _ => 0)), .inr (7, [.null, .null, .int 0, .int 0]), .inl (0, 6, .inl (fun _ => 0))], N + 19, s) = some (gL G0 N [.inr (10, [.ref (N + 1), .ref (N + 2), .ref (N + 3), .ref (N + 4), .ref (N + 5), .ref (N + 6), .ref (N + 7), .ref (N + 8), .ref (N + 9), .ref (N + 12), .ref (N + 15), .null, .int 0, .int 0, .int 0, .int 0]), .inr (0, [.int 0, .ref (z 0), .int 0]), .inr (0, [.int 0, .ref (z 0), .int 0]), .inr (0, [.int 0, .ref (z 0), .int 0]), .inl (0, 5, .inl (fun _ => 0)), .inl (0, 4, .inl (fun _ => 0)), .inl (0, 6, .inl (fun _ => 0)), .inl (0, 20, .inl (fun _ => 0)), .inr (0, [.int 0, .ref (z 0), .int 0]), .inr (4, [.ref (N + 10), .ref (N + 11), .int (0 : Int32)]), .inl (1, 256, .inr (.inl fun _ => 0)), .inl (1, 8, .inr (.inl fun _ => 0)), .inr (5, [.ref (N + 13), .ref (N + 14), .int (0 : Int32), .int (0 : Int32), .int (0 : Int32)]), .inl (0, 1024, .inl (fun _ => 0)), .inl (0, 1024, .inl (fun _ => 0)), .inr (3, [.ref (N + 16)]), .inl (0, 14, .inl (fun _ => 0)), .inr (7, [.ref (N + 18), .ref (N + 19), .int (0 : Int32), .int (0 : Int32)]), .inl (0, 6, .inl (fun _ => 0)), .inl (0, 6, .inl (fun _ => 0))], N + 20, s') ∧ s' ≤ s + 6 := by
  obtain ⟨s2, h2, b2⟩ := qX6_init_17 (G0 := G0) (z := z) (N := N) (s := s + 6)
  refine ⟨s2, ?_, by omega⟩
  unfold fX6_init_9
  refine sN_p rfl ⟨rfl, Nat.le_of_ble_eq_true rfl⟩ ?_
  refine sN_I (k := 6) rfl (by decide) ?_
  exact h2
set_option maxRecDepth 20000 in
theorem qX6_init {G0 : gM} {z : Nat → Nat} {N s : Nat} : ∃ s', fX6_init (N + 17) (gL G0 N [.inr (10, [.ref (N + 1), .ref (N + 2), .ref (N + 3), .ref (N + 4), .ref (N + 5), .ref (N + 6), .ref (N + 7), .ref (N + 8), .ref (N + 9), .ref (N + 12), .ref (N + 15), .null, .int 0, .int 0, .int 0, .int 0]), .inr (0, [.int 0, .ref (z 0), .int 0]), .inr (0, [.int 0, .ref (z 0), .int 0]), .inr (0, [.int 0, .ref (z 0), .int 0]), .inl (0, 5, .inl (fun _ => 0)), .inl (0, 4, .inl (fun _ => 0)), .inl (0, 6, .inl (fun _ => 0)), .inl (0, 20, .inl (fun _ => 0)), .inr (0, [.int 0, .ref (z 0), .int 0]), .inr (4, [.ref (N + 10), .ref (N + 11), .int (0 : Int32)]), .inl (1, 256, .inr (.inl fun _ => 0)), .inl (1, 8, .inr (.inl fun _ => 0)), .inr (5, [.ref (N + 13), .ref (N + 14), .int (0 : Int32), .int (0 : Int32), .int (0 : Int32)]), .inl (0, 1024, .inl (fun _ => 0)), .inl (0, 1024, .inl (fun _ => 0)), .inr (3, [.ref (N + 16)]), .inl (0, 14, .inl (fun _ => 0)), .inr (7, [.null, .null, .int 0, .int 0])], N + 18, s) = some (gL G0 N [.inr (10, [.ref (N + 1), .ref (N + 2), .ref (N + 3), .ref (N + 4), .ref (N + 5), .ref (N + 6), .ref (N + 7), .ref (N + 8), .ref (N + 9), .ref (N + 12), .ref (N + 15), .null, .int 0, .int 0, .int 0, .int 0]), .inr (0, [.int 0, .ref (z 0), .int 0]), .inr (0, [.int 0, .ref (z 0), .int 0]), .inr (0, [.int 0, .ref (z 0), .int 0]), .inl (0, 5, .inl (fun _ => 0)), .inl (0, 4, .inl (fun _ => 0)), .inl (0, 6, .inl (fun _ => 0)), .inl (0, 20, .inl (fun _ => 0)), .inr (0, [.int 0, .ref (z 0), .int 0]), .inr (4, [.ref (N + 10), .ref (N + 11), .int (0 : Int32)]), .inl (1, 256, .inr (.inl fun _ => 0)), .inl (1, 8, .inr (.inl fun _ => 0)), .inr (5, [.ref (N + 13), .ref (N + 14), .int (0 : Int32), .int (0 : Int32), .int (0 : Int32)]), .inl (0, 1024, .inl (fun _ => 0)), .inl (0, 1024, .inl (fun _ => 0)), .inr (3, [.ref (N + 16)]), .inl (0, 14, .inl (fun _ => 0)), .inr (7, [.ref (N + 18), .ref (N + 19), .int (0 : Int32), .int (0 : Int32)]), .inl (0, 6, .inl (fun _ => 0)), .inl (0, 6, .inl (fun _ => 0))], N + 20, s') ∧ s' ≤ s + 12 := by
  obtain ⟨s2, h2, b2⟩ := qX6_init_9 (G0 := G0) (z := z) (N := N) (s := s + 6)
  refine ⟨s2, ?_, by omega⟩
  unfold fX6_init
  refine sN_I (k := 6) rfl (by decide) ?_
  exact h2
set_option maxRecDepth 20000 in
theorem qX9_init_119 {G0 : gM} {z : Nat → Nat} {N s : Nat} : ∃ s', fX9_init_119 z (N + 0) (some (N + 17)) (gL G0 N [.inr (10, [.ref (N + 1), .ref (N + 2), .ref (N + 3), .ref (N + 4), .ref (N + 5), .ref (N + 6), .ref (N + 7), .ref (N + 8), .ref (N + 9), .ref (N + 12), .ref (N + 15), .null, .int 0, .int 0, .int 0, .int 0]), .inr (0, [.int 0, .ref (z 0), .int 0]), .inr (0, [.int 0, .ref (z 0), .int 0]), .inr (0, [.int 0, .ref (z 0), .int 0]), .inl (0, 5, .inl (fun _ => 0)), .inl (0, 4, .inl (fun _ => 0)), .inl (0, 6, .inl (fun _ => 0)), .inl (0, 20, .inl (fun _ => 0)), .inr (0, [.int 0, .ref (z 0), .int 0]), .inr (4, [.ref (N + 10), .ref (N + 11), .int (0 : Int32)]), .inl (1, 256, .inr (.inl fun _ => 0)), .inl (1, 8, .inr (.inl fun _ => 0)), .inr (5, [.ref (N + 13), .ref (N + 14), .int (0 : Int32), .int (0 : Int32), .int (0 : Int32)]), .inl (0, 1024, .inl (fun _ => 0)), .inl (0, 1024, .inl (fun _ => 0)), .inr (3, [.ref (N + 16)]), .inl (0, 14, .inl (fun _ => 0)), .inr (7, [.ref (N + 18), .ref (N + 19), .int (0 : Int32), .int (0 : Int32)]), .inl (0, 6, .inl (fun _ => 0)), .inl (0, 6, .inl (fun _ => 0))], N + 20, s) = some (gL G0 N (lfC z N), N + 20, s') ∧ s' ≤ s + 0 := by
  refine ⟨s, ?_, by omega⟩
  unfold fX9_init_119
  refine sN_p rfl ⟨rfl, Nat.le_of_ble_eq_true rfl⟩ ?_
  refine sN_p rfl ⟨rfl, Nat.le_of_ble_eq_true rfl⟩ ?_
  refine sN_p rfl ⟨rfl, Nat.le_of_ble_eq_true rfl⟩ ?_
  refine sN_p rfl ⟨rfl, Nat.le_of_ble_eq_true rfl⟩ ?_
  refine sN_p rfl ⟨rfl, Nat.le_of_ble_eq_true rfl⟩ ?_
  refine sN_g rfl rfl rfl ?_
  refine sN_f rfl (by decide) ?_
  refine sN_g rfl rfl rfl ?_
  refine sN_f rfl (by decide) ?_
  rfl
set_option maxRecDepth 20000 in
theorem qX9_init_115 {G0 : gM} {z : Nat → Nat} {N s : Nat} : ∃ s', fX9_init_115 z (N + 0) (some (N + 17)) (gL G0 N [.inr (10, [.ref (N + 1), .ref (N + 2), .ref (N + 3), .ref (N + 4), .ref (N + 5), .ref (N + 6), .ref (N + 7), .ref (N + 8), .ref (N + 9), .ref (N + 12), .ref (N + 15), .null, .int 0, .int 0, .int 0, .int 0]), .inr (0, [.int 0, .ref (z 0), .int 0]), .inr (0, [.int 0, .ref (z 0), .int 0]), .inr (0, [.int 0, .ref (z 0), .int 0]), .inl (0, 5, .inl (fun _ => 0)), .inl (0, 4, .inl (fun _ => 0)), .inl (0, 6, .inl (fun _ => 0)), .inl (0, 20, .inl (fun _ => 0)), .inr (0, [.int 0, .ref (z 0), .int 0]), .inr (4, [.ref (N + 10), .ref (N + 11), .int (0 : Int32)]), .inl (1, 256, .inr (.inl fun _ => 0)), .inl (1, 8, .inr (.inl fun _ => 0)), .inr (5, [.ref (N + 13), .ref (N + 14), .int (0 : Int32), .int (0 : Int32), .int (0 : Int32)]), .inl (0, 1024, .inl (fun _ => 0)), .inl (0, 1024, .inl (fun _ => 0)), .inr (3, [.ref (N + 16)]), .inl (0, 14, .inl (fun _ => 0)), .inr (7, [.null, .null, .int 0, .int 0])], N + 18, s) = some (gL G0 N (lfC z N), N + 20, s') ∧ s' ≤ s + 12 := by
  obtain ⟨s1, h1, b1⟩ := qX6_init (G0 := G0) (z := z) (N := N) (s := s)
  obtain ⟨s2, h2, b2⟩ := qX9_init_119 (G0 := G0) (z := z) (N := N) (s := s1)
  refine ⟨s2, ?_, by omega⟩
  rw [fX9_init_115, ob_s]
  refine (congrArg (fun q => Option.bind q _) h1).trans ?_
  exact h2
set_option maxRecDepth 20000 in
theorem qX9_init_108 {G0 : gM} {z : Nat → Nat} {N s : Nat} : ∃ s', fX9_init_108 z (N + 0) (some (N + 15)) (gL G0 N [.inr (10, [.ref (N + 1), .ref (N + 2), .ref (N + 3), .ref (N + 4), .ref (N + 5), .ref (N + 6), .ref (N + 7), .ref (N + 8), .ref (N + 9), .ref (N + 12), .null, .null, .int 0, .int 0, .int 0, .int 0]), .inr (0, [.int 0, .ref (z 0), .int 0]), .inr (0, [.int 0, .ref (z 0), .int 0]), .inr (0, [.int 0, .ref (z 0), .int 0]), .inl (0, 5, .inl (fun _ => 0)), .inl (0, 4, .inl (fun _ => 0)), .inl (0, 6, .inl (fun _ => 0)), .inl (0, 20, .inl (fun _ => 0)), .inr (0, [.int 0, .ref (z 0), .int 0]), .inr (4, [.ref (N + 10), .ref (N + 11), .int (0 : Int32)]), .inl (1, 256, .inr (.inl fun _ => 0)), .inl (1, 8, .inr (.inl fun _ => 0)), .inr (5, [.ref (N + 13), .ref (N + 14), .int (0 : Int32), .int (0 : Int32), .int (0 : Int32)]), .inl (0, 1024, .inl (fun _ => 0)), .inl (0, 1024, .inl (fun _ => 0)), .inr (3, [.ref (N + 16)]), .inl (0, 14, .inl (fun _ => 0))], N + 17, s) = some (gL G0 N (lfC z N), N + 20, s') ∧ s' ≤ s + 16 := by
  obtain ⟨s2, h2, b2⟩ := qX9_init_115 (G0 := G0) (z := z) (N := N) (s := s + 4)
  refine ⟨s2, ?_, by omega⟩
  unfold fX9_init_108
  refine sN_p rfl ⟨rfl, Nat.le_of_ble_eq_true rfl⟩ ?_
  refine sN_O rfl ?_
  exact h2
set_option maxRecDepth 20000 in
theorem qX9_init_104 {G0 : gM} {z : Nat → Nat} {N s : Nat} : ∃ s', fX9_init_104 z (N + 0) (some (N + 15)) (gL G0 N [.inr (10, [.ref (N + 1), .ref (N + 2), .ref (N + 3), .ref (N + 4), .ref (N + 5), .ref (N + 6), .ref (N + 7), .ref (N + 8), .ref (N + 9), .ref (N + 12), .null, .null, .int 0, .int 0, .int 0, .int 0]), .inr (0, [.int 0, .ref (z 0), .int 0]), .inr (0, [.int 0, .ref (z 0), .int 0]), .inr (0, [.int 0, .ref (z 0), .int 0]), .inl (0, 5, .inl (fun _ => 0)), .inl (0, 4, .inl (fun _ => 0)), .inl (0, 6, .inl (fun _ => 0)), .inl (0, 20, .inl (fun _ => 0)), .inr (0, [.int 0, .ref (z 0), .int 0]), .inr (4, [.ref (N + 10), .ref (N + 11), .int (0 : Int32)]), .inl (1, 256, .inr (.inl fun _ => 0)), .inl (1, 8, .inr (.inl fun _ => 0)), .inr (5, [.ref (N + 13), .ref (N + 14), .int (0 : Int32), .int (0 : Int32), .int (0 : Int32)]), .inl (0, 1024, .inl (fun _ => 0)), .inl (0, 1024, .inl (fun _ => 0)), .inr (3, [.null])], N + 16, s) = some (gL G0 N (lfC z N), N + 20, s') ∧ s' ≤ s + 30 := by
  obtain ⟨s1, h1, b1⟩ := qX2_init (G0 := G0) (z := z) (N := N) (s := s)
  obtain ⟨s2, h2, b2⟩ := qX9_init_108 (G0 := G0) (z := z) (N := N) (s := s1)
  refine ⟨s2, ?_, by omega⟩
  rw [fX9_init_104, ob_s]
  refine (congrArg (fun q => Option.bind q _) h1).trans ?_
  exact h2
set_option maxRecDepth 20000 in
theorem qX9_init_97 {G0 : gM} {z : Nat → Nat} {N s : Nat} : ∃ s', fX9_init_97 z (N + 0) (some (N + 12)) (gL G0 N [.inr (10, [.ref (N + 1), .ref (N + 2), .ref (N + 3), .ref (N + 4), .ref (N + 5), .ref (N + 6), .ref (N + 7), .ref (N + 8), .ref (N + 9), .null, .null, .null, .int 0, .int 0, .int 0, .int 0]), .inr (0, [.int 0, .ref (z 0), .int 0]), .inr (0, [.int 0, .ref (z 0), .int 0]), .inr (0, [.int 0, .ref (z 0), .int 0]), .inl (0, 5, .inl (fun _ => 0)), .inl (0, 4, .inl (fun _ => 0)), .inl (0, 6, .inl (fun _ => 0)), .inl (0, 20, .inl (fun _ => 0)), .inr (0, [.int 0, .ref (z 0), .int 0]), .inr (4, [.ref (N + 10), .ref (N + 11), .int (0 : Int32)]), .inl (1, 256, .inr (.inl fun _ => 0)), .inl (1, 8, .inr (.inl fun _ => 0)), .inr (5, [.ref (N + 13), .ref (N + 14), .int (0 : Int32), .int (0 : Int32), .int (0 : Int32)]), .inl (0, 1024, .inl (fun _ => 0)), .inl (0, 1024, .inl (fun _ => 0))], N + 15, s) = some (gL G0 N (lfC z N), N + 20, s') ∧ s' ≤ s + 31 := by
  obtain ⟨s2, h2, b2⟩ := qX9_init_104 (G0 := G0) (z := z) (N := N) (s := s + 1)
  refine ⟨s2, ?_, by omega⟩
  unfold fX9_init_97
  refine sN_p rfl ⟨rfl, Nat.le_of_ble_eq_true rfl⟩ ?_
  refine sN_O rfl ?_
  exact h2
set_option maxRecDepth 20000 in
theorem qX9_init_93 {G0 : gM} {z : Nat → Nat} {N s : Nat} : ∃ s', fX9_init_93 z (N + 0) (some (N + 12)) (gL G0 N [.inr (10, [.ref (N + 1), .ref (N + 2), .ref (N + 3), .ref (N + 4), .ref (N + 5), .ref (N + 6), .ref (N + 7), .ref (N + 8), .ref (N + 9), .null, .null, .null, .int 0, .int 0, .int 0, .int 0]), .inr (0, [.int 0, .ref (z 0), .int 0]), .inr (0, [.int 0, .ref (z 0), .int 0]), .inr (0, [.int 0, .ref (z 0), .int 0]), .inl (0, 5, .inl (fun _ => 0)), .inl (0, 4, .inl (fun _ => 0)), .inl (0, 6, .inl (fun _ => 0)), .inl (0, 20, .inl (fun _ => 0)), .inr (0, [.int 0, .ref (z 0), .int 0]), .inr (4, [.ref (N + 10), .ref (N + 11), .int (0 : Int32)]), .inl (1, 256, .inr (.inl fun _ => 0)), .inl (1, 8, .inr (.inl fun _ => 0)), .inr (5, [.null, .null, .int 0, .int 0, .int 0])], N + 13, s) = some (gL G0 N (lfC z N), N + 20, s') ∧ s' ≤ s + 2079 := by
  obtain ⟨s1, h1, b1⟩ := qX4_init (G0 := G0) (z := z) (N := N) (s := s)
  obtain ⟨s2, h2, b2⟩ := qX9_init_97 (G0 := G0) (z := z) (N := N) (s := s1)
  refine ⟨s2, ?_, by omega⟩
  rw [fX9_init_93, ob_s]
  refine (congrArg (fun q => Option.bind q _) h1).trans ?_
  exact h2
set_option maxRecDepth 20000 in
theorem qX9_init_86 {G0 : gM} {z : Nat → Nat} {N s : Nat} : ∃ s', fX9_init_86 z (N + 0) (some (N + 9)) (gL G0 N [.inr (10, [.ref (N + 1), .ref (N + 2), .ref (N + 3), .ref (N + 4), .ref (N + 5), .ref (N + 6), .ref (N + 7), .ref (N + 8), .null, .null, .null, .null, .int 0, .int 0, .int 0, .int 0]), .inr (0, [.int 0, .ref (z 0), .int 0]), .inr (0, [.int 0, .ref (z 0), .int 0]), .inr (0, [.int 0, .ref (z 0), .int 0]), .inl (0, 5, .inl (fun _ => 0)), .inl (0, 4, .inl (fun _ => 0)), .inl (0, 6, .inl (fun _ => 0)), .inl (0, 20, .inl (fun _ => 0)), .inr (0, [.int 0, .ref (z 0), .int 0]), .inr (4, [.ref (N + 10), .ref (N + 11), .int (0 : Int32)]), .inl (1, 256, .inr (.inl fun _ => 0)), .inl (1, 8, .inr (.inl fun _ => 0))], N + 12, s) = some (gL G0 N (lfC z N), N + 20, s') ∧ s' ≤ s + 2084 := by
  obtain ⟨s2, h2, b2⟩ := qX9_init_93 (G0 := G0) (z := z) (N := N) (s := s + 5)
  refine ⟨s2, ?_, by omega⟩
  unfold fX9_init_86
  refine sN_p rfl ⟨rfl, Nat.le_of_ble_eq_true rfl⟩ ?_
  refine sN_O rfl ?_
  exact h2
set_option maxRecDepth 20000 in
theorem qX9_init_82 {G0 : gM} {z : Nat → Nat} {N s : Nat} : ∃ s', fX9_init_82 z (N + 0) (some (N + 9)) (gL G0 N [.inr (10, [.ref (N + 1), .ref (N + 2), .ref (N + 3), .ref (N + 4), .ref (N + 5), .ref (N + 6), .ref (N + 7), .ref (N + 8), .null, .null, .null, .null, .int 0, .int 0, .int 0, .int 0]), .inr (0, [.int 0, .ref (z 0), .int 0]), .inr (0, [.int 0, .ref (z 0), .int 0]), .inr (0, [.int 0, .ref (z 0), .int 0]), .inl (0, 5, .inl (fun _ => 0)), .inl (0, 4, .inl (fun _ => 0)), .inl (0, 6, .inl (fun _ => 0)), .inl (0, 20, .inl (fun _ => 0)), .inr (0, [.int 0, .ref (z 0), .int 0]), .inr (4, [.null, .null, .int 0])], N + 10, s) = some (gL G0 N (lfC z N), N + 20, s') ∧ s' ≤ s + 2348 := by
  obtain ⟨s1, h1, b1⟩ := qX3_init (G0 := G0) (z := z) (N := N) (s := s)
  obtain ⟨s2, h2, b2⟩ := qX9_init_86 (G0 := G0) (z := z) (N := N) (s := s1)
  refine ⟨s2, ?_, by omega⟩
  rw [fX9_init_82, ob_s]
  refine (congrArg (fun q => Option.bind q _) h1).trans ?_
  exact h2
set_option maxRecDepth 20000 in
theorem qX9_init_71 {G0 : gM} {z : Nat → Nat} {N s : Nat} : ∃ s', fX9_init_71 z (N + 0) (some (N + 8)) (gL G0 N [.inr (10, [.ref (N + 1), .ref (N + 2), .ref (N + 3), .ref (N + 4), .ref (N + 5), .ref (N + 6), .ref (N + 7), .null, .null, .null, .null, .null, .int 0, .int 0, .int 0, .int 0]), .inr (0, [.int 0, .ref (z 0), .int 0]), .inr (0, [.int 0, .ref (z 0), .int 0]), .inr (0, [.int 0, .ref (z 0), .int 0]), .inl (0, 5, .inl (fun _ => 0)), .inl (0, 4, .inl (fun _ => 0)), .inl (0, 6, .inl (fun _ => 0)), .inl (0, 20, .inl (fun _ => 0)), .inr (0, [.int 0, .null, .int 0])], N + 9, s) = some (gL G0 N (lfC z N), N + 20, s') ∧ s' ≤ s + 2351 := by
  obtain ⟨s2, h2, b2⟩ := qX9_init_82 (G0 := G0) (z := z) (N := N) (s := s + 3)
  refine ⟨s2, ?_, by omega⟩
  unfold fX9_init_71
  refine sN_b ?_
  refine sN_l rfl ?_
  refine sN_p rfl ⟨rfl, Nat.le_of_ble_eq_true rfl⟩ ?_
  refine sN_O rfl ?_
  exact h2
set_option maxRecDepth 20000 in
theorem qX9_init_64 {G0 : gM} {z : Nat → Nat} {N s : Nat} : ∃ s', fX9_init_64 z (N + 0) (some (N + 7)) (gL G0 N [.inr (10, [.ref (N + 1), .ref (N + 2), .ref (N + 3), .ref (N + 4), .ref (N + 5), .ref (N + 6), .null, .null, .null, .null, .null, .null, .int 0, .int 0, .int 0, .int 0]), .inr (0, [.int 0, .ref (z 0), .int 0]), .inr (0, [.int 0, .ref (z 0), .int 0]), .inr (0, [.int 0, .ref (z 0), .int 0]), .inl (0, 5, .inl (fun _ => 0)), .inl (0, 4, .inl (fun _ => 0)), .inl (0, 6, .inl (fun _ => 0)), .inl (0, 20, .inl (fun _ => 0))], N + 8, s) = some (gL G0 N (lfC z N), N + 20, s') ∧ s' ≤ s + 2354 := by
  obtain ⟨s2, h2, b2⟩ := qX9_init_71 (G0 := G0) (z := z) (N := N) (s := s + 3)
  refine ⟨s2, ?_, by omega⟩
  unfold fX9_init_64
  refine sN_p rfl ⟨rfl, Nat.le_of_ble_eq_true rfl⟩ ?_
  refine sN_O rfl ?_
  exact h2
set_option maxRecDepth 20000 in
theorem qX9_init_56 {G0 : gM} {z : Nat → Nat} {N s : Nat} : ∃ s', fX9_init_56 z (N + 0) (some (N + 6)) (gL G0 N [.inr (10, [.ref (N + 1), .ref (N + 2), .ref (N + 3), .ref (N + 4), .ref (N + 5), .null, .null, .null, .null, .null, .null, .null, .int 0, .int 0, .int 0, .int 0]), .inr (0, [.int 0, .ref (z 0), .int 0]), .inr (0, [.int 0, .ref (z 0), .int 0]), .inr (0, [.int 0, .ref (z 0), .int 0]), .inl (0, 5, .inl (fun _ => 0)), .inl (0, 4, .inl (fun _ => 0)), .inl (0, 6, .inl (fun _ => 0))], N + 7, s) = some (gL G0 N (lfC z N), N + 20, s') ∧ s' ≤ s + 2374 := by
  obtain ⟨s2, h2, b2⟩ := qX9_init_64 (G0 := G0) (z := z) (N := N) (s := s + 20)
  refine ⟨s2, ?_, by omega⟩
  unfold fX9_init_56
  refine sN_p rfl ⟨rfl, Nat.le_of_ble_eq_true rfl⟩ ?_
  refine sN_I (k := 20) rfl (by decide) ?_
  exact h2
set_option maxRecDepth 20000 in
theorem qX9_init_48 {G0 : gM} {z : Nat → Nat} {N s : Nat} : ∃ s', fX9_init_48 z (N + 0) (some (N + 5)) (gL G0 N [.inr (10, [.ref (N + 1), .ref (N + 2), .ref (N + 3), .ref (N + 4), .null, .null, .null, .null, .null, .null, .null, .null, .int 0, .int 0, .int 0, .int 0]), .inr (0, [.int 0, .ref (z 0), .int 0]), .inr (0, [.int 0, .ref (z 0), .int 0]), .inr (0, [.int 0, .ref (z 0), .int 0]), .inl (0, 5, .inl (fun _ => 0)), .inl (0, 4, .inl (fun _ => 0))], N + 6, s) = some (gL G0 N (lfC z N), N + 20, s') ∧ s' ≤ s + 2380 := by
  obtain ⟨s2, h2, b2⟩ := qX9_init_56 (G0 := G0) (z := z) (N := N) (s := s + 6)
  refine ⟨s2, ?_, by omega⟩
  unfold fX9_init_48
  refine sN_p rfl ⟨rfl, Nat.le_of_ble_eq_true rfl⟩ ?_
  refine sN_I (k := 6) rfl (by decide) ?_
  exact h2
set_option maxRecDepth 20000 in
theorem qX9_init_41 {G0 : gM} {z : Nat → Nat} {N s : Nat} : ∃ s', fX9_init_41 z (N + 0) (some (N + 4)) (gL G0 N [.inr (10, [.ref (N + 1), .ref (N + 2), .ref (N + 3), .null, .null, .null, .null, .null, .null, .null, .null, .null, .int 0, .int 0, .int 0, .int 0]), .inr (0, [.int 0, .ref (z 0), .int 0]), .inr (0, [.int 0, .ref (z 0), .int 0]), .inr (0, [.int 0, .ref (z 0), .int 0]), .inl (0, 5, .inl (fun _ => 0))], N + 5, s) = some (gL G0 N (lfC z N), N + 20, s') ∧ s' ≤ s + 2384 := by
  obtain ⟨s2, h2, b2⟩ := qX9_init_48 (G0 := G0) (z := z) (N := N) (s := s + 4)
  refine ⟨s2, ?_, by omega⟩
  unfold fX9_init_41
  refine sN_p rfl ⟨rfl, Nat.le_of_ble_eq_true rfl⟩ ?_
  refine sN_I (k := 4) rfl (by decide) ?_
  exact h2
set_option maxRecDepth 20000 in
theorem qX9_init_30 {G0 : gM} {z : Nat → Nat} {N s : Nat} : ∃ s', fX9_init_30 z (N + 0) (some (N + 3)) (gL G0 N [.inr (10, [.ref (N + 1), .ref (N + 2), .null, .null, .null, .null, .null, .null, .null, .null, .null, .null, .int 0, .int 0, .int 0, .int 0]), .inr (0, [.int 0, .ref (z 0), .int 0]), .inr (0, [.int 0, .ref (z 0), .int 0]), .inr (0, [.int 0, .null, .int 0])], N + 4, s) = some (gL G0 N (lfC z N), N + 20, s') ∧ s' ≤ s + 2389 := by
  obtain ⟨s2, h2, b2⟩ := qX9_init_41 (G0 := G0) (z := z) (N := N) (s := s + 5)
  refine ⟨s2, ?_, by omega⟩
  unfold fX9_init_30
  refine sN_b ?_
  refine sN_l rfl ?_
  refine sN_p rfl ⟨rfl, Nat.le_of_ble_eq_true rfl⟩ ?_
  refine sN_I (k := 5) rfl (by decide) ?_
  exact h2
set_option maxRecDepth 20000 in
theorem qX9_init_19 {G0 : gM} {z : Nat → Nat} {N s : Nat} : ∃ s', fX9_init_19 z (N + 0) (some (N + 2)) (gL G0 N [.inr (10, [.ref (N + 1), .null, .null, .null, .null, .null, .null, .null, .null, .null, .null, .null, .int 0, .int 0, .int 0, .int 0]), .inr (0, [.int 0, .ref (z 0), .int 0]), .inr (0, [.int 0, .null, .int 0])], N + 3, s) = some (gL G0 N (lfC z N), N + 20, s') ∧ s' ≤ s + 2392 := by
  obtain ⟨s2, h2, b2⟩ := qX9_init_30 (G0 := G0) (z := z) (N := N) (s := s + 3)
  refine ⟨s2, ?_, by omega⟩
  unfold fX9_init_19
  refine sN_b ?_
  refine sN_l rfl ?_
  refine sN_p rfl ⟨rfl, Nat.le_of_ble_eq_true rfl⟩ ?_
  refine sN_O rfl ?_
  exact h2
set_option maxRecDepth 20000 in
theorem qX9_init_8 {G0 : gM} {z : Nat → Nat} {N s : Nat} : ∃ s', fX9_init_8 z (N + 0) (some (N + 1)) (gL G0 N [.inr (10, [.null, .null, .null, .null, .null, .null, .null, .null, .null, .null, .null, .null, .int 0, .int 0, .int 0, .int 0]), .inr (0, [.int 0, .null, .int 0])], N + 2, s) = some (gL G0 N (lfC z N), N + 20, s') ∧ s' ≤ s + 2395 := by
  obtain ⟨s2, h2, b2⟩ := qX9_init_19 (G0 := G0) (z := z) (N := N) (s := s + 3)
  refine ⟨s2, ?_, by omega⟩
  unfold fX9_init_8
  refine sN_b ?_
  refine sN_l rfl ?_
  refine sN_p rfl ⟨rfl, Nat.le_of_ble_eq_true rfl⟩ ?_
  refine sN_O rfl ?_
  exact h2
set_option maxRecDepth 20000 in
theorem qX9_init {G0 : gM} {z : Nat → Nat} {N s : Nat} : ∃ s', fX9_init z (N + 0) (gL G0 N [.inr (10, [.null, .null, .null, .null, .null, .null, .null, .null, .null, .null, .null, .null, .int 0, .int 0, .int 0, .int 0])], N + 1, s) = some (gL G0 N (lfC z N), N + 20, s') ∧ s' ≤ s + 2398 := by
  obtain ⟨s2, h2, b2⟩ := qX9_init_8 (G0 := G0) (z := z) (N := N) (s := s + 3)
  refine ⟨s2, ?_, by omega⟩
  unfold fX9_init
  refine sN_O rfl ?_
  exact h2
set_option maxRecDepth 20000 in
theorem qX10_init_331 {G0 : gM} {z : Nat → Nat} {N s : Nat} : ∃ s', fX10_init_331 (N + 0) (some (N + 35)) (gL G0 N [.inr (11, [.int 0, .int (3 : Int32), .int 0, .ref (N + 1), .ref (N + 2), .ref (N + 3), .ref (N + 4), .ref (N + 5), .ref (N + 6), .ref (N + 7), .ref (N + 8), .ref (N + 9), .ref (N + 10), .ref (N + 11), .ref (N + 12), .ref (N + 13), .int 0, .int 0, .ref (N + 14), .ref (N + 15), .ref (N + 16), .ref (N + 17), .ref (N + 18), .ref (N + 19), .ref (N + 20), .int 0, .ref (N + 21), .ref (N + 22), .ref (N + 23), .int 0, .ref (N + 24), .ref (N + 25), .int 0, .ref (N + 26), .int 0, .ref (N + 27), .ref (N + 28), .ref (N + 29), .ref (N + 30), .ref (N + 31), .ref (N + 32), .int 0, .ref (N + 33), .ref (N + 34), .null]), .inl (0, 20, .inl (fun _ => 0)), .inl (0, 20, .inl (fun _ => 0)), .inl (0, 100, .inl (fun _ => 0)), .inl (0, 20, .inl (fun _ => 0)), .inl (0, 20, .inl (fun _ => 0)), .inl (0, 20, .inl (fun _ => 0)), .inl (0, 20, .inl (fun _ => 0)), .inl (0, 20, .inl (fun _ => 0)), .inl (0, 20, .inl (fun _ => 0)), .inl (0, 20, .inl (fun _ => 0)), .inl (3, 20, .inl (fun _ => 0)), .inl (0, 80, .inl (fun _ => 0)), .inl (0, 9000, .inl (fun _ => 0)), .inl (0, 8, .inl (fun _ => 0)), .inl (0, 40, .inl (fun _ => 0)), .inl (0, 8, .inl (fun _ => 0)), .inl (0, 8, .inl (fun _ => 0)), .inl (0, 8, .inl (fun _ => 0)), .inl (3, 8, .inl (fun _ => 0)), .inl (0, 5, .inl (upd (upd (upd (upd (upd (fun _ => 0) 0 4) 1 4) 2 4) 3 4) 4 4)), .inl (0, 16, .inl (fun _ => 0)), .inl (0, 16, .inl (fun _ => 0)), .inl (0, 4, .inl (upd (upd (upd (upd (fun _ => 0) 0 12) 1 12) 2 12) 3 12)), .inl (0, 60, .inl (fun _ => 0)), .inl (0, 60, .inl (fun _ => 0)), .inl (0, 20, .inl (fun _ => 0)), .inl (0, 6, .inl (fun _ => 0)), .inl (0, 8, .inl (fun _ => 0)), .inl (0, 256, .inl (fun _ => 0)), .inl (0, 256, .inl (fun _ => 0)), .inl (0, 160, .inl (fun _ => 0)), .inl (0, 10, .inl (fun _ => 0)), .inl (0, 1024, .inl (fun _ => 0)), .inl (3, 1024, .inl (fun _ => 0)), .inl (1, 3721, .inr (.inl fun _ => 0))], N + 36, s) = some (gL G0 N (lfM N), N + 36, s') ∧ s' ≤ s + 0 := by
  refine ⟨s, ?_, by omega⟩
  unfold fX10_init_331
  refine sN_p rfl ⟨rfl, Nat.le_of_ble_eq_true rfl⟩ ?_
  refine sN_p rfl ⟨rfl, Nat.le_of_ble_eq_true rfl⟩ ?_
  rfl
set_option maxRecDepth 20000 in
theorem qX10_init_322 {G0 : gM} {z : Nat → Nat} {N s : Nat} : ∃ s', fX10_init_322 (N + 0) (some (N + 34)) (gL G0 N [.inr (11, [.int 0, .int (3 : Int32), .int 0, .ref (N + 1), .ref (N + 2), .ref (N + 3), .ref (N + 4), .ref (N + 5), .ref (N + 6), .ref (N + 7), .ref (N + 8), .ref (N + 9), .ref (N + 10), .ref (N + 11), .ref (N + 12), .ref (N + 13), .int 0, .int 0, .ref (N + 14), .ref (N + 15), .ref (N + 16), .ref (N + 17), .ref (N + 18), .ref (N + 19), .ref (N + 20), .int 0, .ref (N + 21), .ref (N + 22), .ref (N + 23), .int 0, .ref (N + 24), .ref (N + 25), .int 0, .ref (N + 26), .int 0, .ref (N + 27), .ref (N + 28), .ref (N + 29), .ref (N + 30), .ref (N + 31), .ref (N + 32), .int 0, .ref (N + 33), .null, .null]), .inl (0, 20, .inl (fun _ => 0)), .inl (0, 20, .inl (fun _ => 0)), .inl (0, 100, .inl (fun _ => 0)), .inl (0, 20, .inl (fun _ => 0)), .inl (0, 20, .inl (fun _ => 0)), .inl (0, 20, .inl (fun _ => 0)), .inl (0, 20, .inl (fun _ => 0)), .inl (0, 20, .inl (fun _ => 0)), .inl (0, 20, .inl (fun _ => 0)), .inl (0, 20, .inl (fun _ => 0)), .inl (3, 20, .inl (fun _ => 0)), .inl (0, 80, .inl (fun _ => 0)), .inl (0, 9000, .inl (fun _ => 0)), .inl (0, 8, .inl (fun _ => 0)), .inl (0, 40, .inl (fun _ => 0)), .inl (0, 8, .inl (fun _ => 0)), .inl (0, 8, .inl (fun _ => 0)), .inl (0, 8, .inl (fun _ => 0)), .inl (3, 8, .inl (fun _ => 0)), .inl (0, 5, .inl (upd (upd (upd (upd (upd (fun _ => 0) 0 4) 1 4) 2 4) 3 4) 4 4)), .inl (0, 16, .inl (fun _ => 0)), .inl (0, 16, .inl (fun _ => 0)), .inl (0, 4, .inl (upd (upd (upd (upd (fun _ => 0) 0 12) 1 12) 2 12) 3 12)), .inl (0, 60, .inl (fun _ => 0)), .inl (0, 60, .inl (fun _ => 0)), .inl (0, 20, .inl (fun _ => 0)), .inl (0, 6, .inl (fun _ => 0)), .inl (0, 8, .inl (fun _ => 0)), .inl (0, 256, .inl (fun _ => 0)), .inl (0, 256, .inl (fun _ => 0)), .inl (0, 160, .inl (fun _ => 0)), .inl (0, 10, .inl (fun _ => 0)), .inl (0, 1024, .inl (fun _ => 0)), .inl (3, 1024, .inl (fun _ => 0))], N + 35, s) = some (gL G0 N (lfM N), N + 36, s') ∧ s' ≤ s + 3721 := by
  obtain ⟨s2, h2, b2⟩ := qX10_init_331 (G0 := G0) (z := z) (N := N) (s := s + 3721)
  refine ⟨s2, ?_, by omega⟩
  unfold fX10_init_322
  refine sN_p rfl ⟨rfl, Nat.le_of_ble_eq_true rfl⟩ ?_
  refine sN_J (k := 3721) rfl (by decide) ?_
  exact h2
set_option maxRecDepth 20000 in
theorem qX10_init_313 {G0 : gM} {z : Nat → Nat} {N s : Nat} : ∃ s', fX10_init_313 (N + 0) (some (N + 33)) (gL G0 N [.inr (11, [.int 0, .int (3 : Int32), .int 0, .ref (N + 1), .ref (N + 2), .ref (N + 3), .ref (N + 4), .ref (N + 5), .ref (N + 6), .ref (N + 7), .ref (N + 8), .ref (N + 9), .ref (N + 10), .ref (N + 11), .ref (N + 12), .ref (N + 13), .int 0, .int 0, .ref (N + 14), .ref (N + 15), .ref (N + 16), .ref (N + 17), .ref (N + 18), .ref (N + 19), .ref (N + 20), .int 0, .ref (N + 21), .ref (N + 22), .ref (N + 23), .int 0, .ref (N + 24), .ref (N + 25), .int 0, .ref (N + 26), .int 0, .ref (N + 27), .ref (N + 28), .ref (N + 29), .ref (N + 30), .ref (N + 31), .ref (N + 32), .int 0, .null, .null, .null]), .inl (0, 20, .inl (fun _ => 0)), .inl (0, 20, .inl (fun _ => 0)), .inl (0, 100, .inl (fun _ => 0)), .inl (0, 20, .inl (fun _ => 0)), .inl (0, 20, .inl (fun _ => 0)), .inl (0, 20, .inl (fun _ => 0)), .inl (0, 20, .inl (fun _ => 0)), .inl (0, 20, .inl (fun _ => 0)), .inl (0, 20, .inl (fun _ => 0)), .inl (0, 20, .inl (fun _ => 0)), .inl (3, 20, .inl (fun _ => 0)), .inl (0, 80, .inl (fun _ => 0)), .inl (0, 9000, .inl (fun _ => 0)), .inl (0, 8, .inl (fun _ => 0)), .inl (0, 40, .inl (fun _ => 0)), .inl (0, 8, .inl (fun _ => 0)), .inl (0, 8, .inl (fun _ => 0)), .inl (0, 8, .inl (fun _ => 0)), .inl (3, 8, .inl (fun _ => 0)), .inl (0, 5, .inl (upd (upd (upd (upd (upd (fun _ => 0) 0 4) 1 4) 2 4) 3 4) 4 4)), .inl (0, 16, .inl (fun _ => 0)), .inl (0, 16, .inl (fun _ => 0)), .inl (0, 4, .inl (upd (upd (upd (upd (fun _ => 0) 0 12) 1 12) 2 12) 3 12)), .inl (0, 60, .inl (fun _ => 0)), .inl (0, 60, .inl (fun _ => 0)), .inl (0, 20, .inl (fun _ => 0)), .inl (0, 6, .inl (fun _ => 0)), .inl (0, 8, .inl (fun _ => 0)), .inl (0, 256, .inl (fun _ => 0)), .inl (0, 256, .inl (fun _ => 0)), .inl (0, 160, .inl (fun _ => 0)), .inl (0, 10, .inl (fun _ => 0)), .inl (0, 1024, .inl (fun _ => 0))], N + 34, s) = some (gL G0 N (lfM N), N + 36, s') ∧ s' ≤ s + 4745 := by
  obtain ⟨s2, h2, b2⟩ := qX10_init_322 (G0 := G0) (z := z) (N := N) (s := s + 1024)
  refine ⟨s2, ?_, by omega⟩
  unfold fX10_init_313
  refine sN_p rfl ⟨rfl, Nat.le_of_ble_eq_true rfl⟩ ?_
  refine sN_Z (k := 1024) rfl (by decide) ?_
  exact h2
set_option maxRecDepth 20000 in
theorem qX10_init_304 {G0 : gM} {z : Nat → Nat} {N s : Nat} : ∃ s', fX10_init_304 (N + 0) (some (N + 32)) (gL G0 N [.inr (11, [.int 0, .int (3 : Int32), .int 0, .ref (N + 1), .ref (N + 2), .ref (N + 3), .ref (N + 4), .ref (N + 5), .ref (N + 6), .ref (N + 7), .ref (N + 8), .ref (N + 9), .ref (N + 10), .ref (N + 11), .ref (N + 12), .ref (N + 13), .int 0, .int 0, .ref (N + 14), .ref (N + 15), .ref (N + 16), .ref (N + 17), .ref (N + 18), .ref (N + 19), .ref (N + 20), .int 0, .ref (N + 21), .ref (N + 22), .ref (N + 23), .int 0, .ref (N + 24), .ref (N + 25), .int 0, .ref (N + 26), .int 0, .ref (N + 27), .ref (N + 28), .ref (N + 29), .ref (N + 30), .ref (N + 31), .null, .int 0, .null, .null, .null]), .inl (0, 20, .inl (fun _ => 0)), .inl (0, 20, .inl (fun _ => 0)), .inl (0, 100, .inl (fun _ => 0)), .inl (0, 20, .inl (fun _ => 0)), .inl (0, 20, .inl (fun _ => 0)), .inl (0, 20, .inl (fun _ => 0)), .inl (0, 20, .inl (fun _ => 0)), .inl (0, 20, .inl (fun _ => 0)), .inl (0, 20, .inl (fun _ => 0)), .inl (0, 20, .inl (fun _ => 0)), .inl (3, 20, .inl (fun _ => 0)), .inl (0, 80, .inl (fun _ => 0)), .inl (0, 9000, .inl (fun _ => 0)), .inl (0, 8, .inl (fun _ => 0)), .inl (0, 40, .inl (fun _ => 0)), .inl (0, 8, .inl (fun _ => 0)), .inl (0, 8, .inl (fun _ => 0)), .inl (0, 8, .inl (fun _ => 0)), .inl (3, 8, .inl (fun _ => 0)), .inl (0, 5, .inl (upd (upd (upd (upd (upd (fun _ => 0) 0 4) 1 4) 2 4) 3 4) 4 4)), .inl (0, 16, .inl (fun _ => 0)), .inl (0, 16, .inl (fun _ => 0)), .inl (0, 4, .inl (upd (upd (upd (upd (fun _ => 0) 0 12) 1 12) 2 12) 3 12)), .inl (0, 60, .inl (fun _ => 0)), .inl (0, 60, .inl (fun _ => 0)), .inl (0, 20, .inl (fun _ => 0)), .inl (0, 6, .inl (fun _ => 0)), .inl (0, 8, .inl (fun _ => 0)), .inl (0, 256, .inl (fun _ => 0)), .inl (0, 256, .inl (fun _ => 0)), .inl (0, 160, .inl (fun _ => 0)), .inl (0, 10, .inl (fun _ => 0))], N + 33, s) = some (gL G0 N (lfM N), N + 36, s') ∧ s' ≤ s + 5769 := by
  obtain ⟨s2, h2, b2⟩ := qX10_init_313 (G0 := G0) (z := z) (N := N) (s := s + 1024)
  refine ⟨s2, ?_, by omega⟩
  unfold fX10_init_304
  refine sN_p rfl ⟨rfl, Nat.le_of_ble_eq_true rfl⟩ ?_
  refine sN_I (k := 1024) rfl (by decide) ?_
  exact h2
set_option maxRecDepth 20000 in
theorem qX10_init_296 {G0 : gM} {z : Nat → Nat} {N s : Nat} : ∃ s', fX10_init_296 (N + 0) (some (N + 31)) (gL G0 N [.inr (11, [.int 0, .int (3 : Int32), .int 0, .ref (N + 1), .ref (N + 2), .ref (N + 3), .ref (N + 4), .ref (N + 5), .ref (N + 6), .ref (N + 7), .ref (N + 8), .ref (N + 9), .ref (N + 10), .ref (N + 11), .ref (N + 12), .ref (N + 13), .int 0, .int 0, .ref (N + 14), .ref (N + 15), .ref (N + 16), .ref (N + 17), .ref (N + 18), .ref (N + 19), .ref (N + 20), .int 0, .ref (N + 21), .ref (N + 22), .ref (N + 23), .int 0, .ref (N + 24), .ref (N + 25), .int 0, .ref (N + 26), .int 0, .ref (N + 27), .ref (N + 28), .ref (N + 29), .ref (N + 30), .null, .null, .int 0, .null, .null, .null]), .inl (0, 20, .inl (fun _ => 0)), .inl (0, 20, .inl (fun _ => 0)), .inl (0, 100, .inl (fun _ => 0)), .inl (0, 20, .inl (fun _ => 0)), .inl (0, 20, .inl (fun _ => 0)), .inl (0, 20, .inl (fun _ => 0)), .inl (0, 20, .inl (fun _ => 0)), .inl (0, 20, .inl (fun _ => 0)), .inl (0, 20, .inl (fun _ => 0)), .inl (0, 20, .inl (fun _ => 0)), .inl (3, 20, .inl (fun _ => 0)), .inl (0, 80, .inl (fun _ => 0)), .inl (0, 9000, .inl (fun _ => 0)), .inl (0, 8, .inl (fun _ => 0)), .inl (0, 40, .inl (fun _ => 0)), .inl (0, 8, .inl (fun _ => 0)), .inl (0, 8, .inl (fun _ => 0)), .inl (0, 8, .inl (fun _ => 0)), .inl (3, 8, .inl (fun _ => 0)), .inl (0, 5, .inl (upd (upd (upd (upd (upd (fun _ => 0) 0 4) 1 4) 2 4) 3 4) 4 4)), .inl (0, 16, .inl (fun _ => 0)), .inl (0, 16, .inl (fun _ => 0)), .inl (0, 4, .inl (upd (upd (upd (upd (fun _ => 0) 0 12) 1 12) 2 12) 3 12)), .inl (0, 60, .inl (fun _ => 0)), .inl (0, 60, .inl (fun _ => 0)), .inl (0, 20, .inl (fun _ => 0)), .inl (0, 6, .inl (fun _ => 0)), .inl (0, 8, .inl (fun _ => 0)), .inl (0, 256, .inl (fun _ => 0)), .inl (0, 256, .inl (fun _ => 0)), .inl (0, 160, .inl (fun _ => 0))], N + 32, s) = some (gL G0 N (lfM N), N + 36, s') ∧ s' ≤ s + 5779 := by
  obtain ⟨s2, h2, b2⟩ := qX10_init_304 (G0 := G0) (z := z) (N := N) (s := s + 10)
  refine ⟨s2, ?_, by omega⟩
  unfold fX10_init_296
  refine sN_p rfl ⟨rfl, Nat.le_of_ble_eq_true rfl⟩ ?_
  refine sN_I (k := 10) rfl (by decide) ?_
  exact h2
set_option maxRecDepth 20000 in
theorem qX10_init_287 {G0 : gM} {z : Nat → Nat} {N s : Nat} : ∃ s', fX10_init_287 (N + 0) (some (N + 30)) (gL G0 N [.inr (11, [.int 0, .int (3 : Int32), .int 0, .ref (N + 1), .ref (N + 2), .ref (N + 3), .ref (N + 4), .ref (N + 5), .ref (N + 6), .ref (N + 7), .ref (N + 8), .ref (N + 9), .ref (N + 10), .ref (N + 11), .ref (N + 12), .ref (N + 13), .int 0, .int 0, .ref (N + 14), .ref (N + 15), .ref (N + 16), .ref (N + 17), .ref (N + 18), .ref (N + 19), .ref (N + 20), .int 0, .ref (N + 21), .ref (N + 22), .ref (N + 23), .int 0, .ref (N + 24), .ref (N + 25), .int 0, .ref (N + 26), .int 0, .ref (N + 27), .ref (N + 28), .ref (N + 29), .null, .null, .null, .int 0, .null, .null, .null]), .inl (0, 20, .inl (fun _ => 0)), .inl (0, 20, .inl (fun _ => 0)), .inl (0, 100, .inl (fun _ => 0)), .inl (0, 20, .inl (fun _ => 0)), .inl (0, 20, .inl (fun _ => 0)), .inl (0, 20, .inl (fun _ => 0)), .inl (0, 20, .inl (fun _ => 0)), .inl (0, 20, .inl (fun _ => 0)), .inl (0, 20, .inl (fun _ => 0)), .inl (0, 20, .inl (fun _ => 0)), .inl (3, 20, .inl (fun _ => 0)), .inl (0, 80, .inl (fun _ => 0)), .inl (0, 9000, .inl (fun _ => 0)), .inl (0, 8, .inl (fun _ => 0)), .inl (0, 40, .inl (fun _ => 0)), .inl (0, 8, .inl (fun _ => 0)), .inl (0, 8, .inl (fun _ => 0)), .inl (0, 8, .inl (fun _ => 0)), .inl (3, 8, .inl (fun _ => 0)), .inl (0, 5, .inl (upd (upd (upd (upd (upd (fun _ => 0) 0 4) 1 4) 2 4) 3 4) 4 4)), .inl (0, 16, .inl (fun _ => 0)), .inl (0, 16, .inl (fun _ => 0)), .inl (0, 4, .inl (upd (upd (upd (upd (fun _ => 0) 0 12) 1 12) 2 12) 3 12)), .inl (0, 60, .inl (fun _ => 0)), .inl (0, 60, .inl (fun _ => 0)), .inl (0, 20, .inl (fun _ => 0)), .inl (0, 6, .inl (fun _ => 0)), .inl (0, 8, .inl (fun _ => 0)), .inl (0, 256, .inl (fun _ => 0)), .inl (0, 256, .inl (fun _ => 0))], N + 31, s) = some (gL G0 N (lfM N), N + 36, s') ∧ s' ≤ s + 5939 := by
  obtain ⟨s2, h2, b2⟩ := qX10_init_296 (G0 := G0) (z := z) (N := N) (s := s + 160)
  refine ⟨s2, ?_, by omega⟩
  unfold fX10_init_287
  refine sN_p rfl ⟨rfl, Nat.le_of_ble_eq_true rfl⟩ ?_
  refine sN_I (k := 160) rfl (by decide) ?_
  exact h2
set_option maxRecDepth 20000 in
theorem qX10_init_278 {G0 : gM} {z : Nat → Nat} {N s : Nat} : ∃ s', fX10_init_278 (N + 0) (some (N + 29)) (gL G0 N [.inr (11, [.int 0, .int (3 : Int32), .int 0, .ref (N + 1), .ref (N + 2), .ref (N + 3), .ref (N + 4), .ref (N + 5), .ref (N + 6), .ref (N + 7), .ref (N + 8), .ref (N + 9), .ref (N + 10), .ref (N + 11), .ref (N + 12), .ref (N + 13), .int 0, .int 0, .ref (N + 14), .ref (N + 15), .ref (N + 16), .ref (N + 17), .ref (N + 18), .ref (N + 19), .ref (N + 20), .int 0, .ref (N + 21), .ref (N + 22), .ref (N + 23), .int 0, .ref (N + 24), .ref (N + 25), .int 0, .ref (N + 26), .int 0, .ref (N + 27), .ref (N + 28), .null, .null, .null, .null, .int 0, .null, .null, .null]), .inl (0, 20, .inl (fun _ => 0)), .inl (0, 20, .inl (fun _ => 0)), .inl (0, 100, .inl (fun _ => 0)), .inl (0, 20, .inl (fun _ => 0)), .inl (0, 20, .inl (fun _ => 0)), .inl (0, 20, .inl (fun _ => 0)), .inl (0, 20, .inl (fun _ => 0)), .inl (0, 20, .inl (fun _ => 0)), .inl (0, 20, .inl (fun _ => 0)), .inl (0, 20, .inl (fun _ => 0)), .inl (3, 20, .inl (fun _ => 0)), .inl (0, 80, .inl (fun _ => 0)), .inl (0, 9000, .inl (fun _ => 0)), .inl (0, 8, .inl (fun _ => 0)), .inl (0, 40, .inl (fun _ => 0)), .inl (0, 8, .inl (fun _ => 0)), .inl (0, 8, .inl (fun _ => 0)), .inl (0, 8, .inl (fun _ => 0)), .inl (3, 8, .inl (fun _ => 0)), .inl (0, 5, .inl (upd (upd (upd (upd (upd (fun _ => 0) 0 4) 1 4) 2 4) 3 4) 4 4)), .inl (0, 16, .inl (fun _ => 0)), .inl (0, 16, .inl (fun _ => 0)), .inl (0, 4, .inl (upd (upd (upd (upd (fun _ => 0) 0 12) 1 12) 2 12) 3 12)), .inl (0, 60, .inl (fun _ => 0)), .inl (0, 60, .inl (fun _ => 0)), .inl (0, 20, .inl (fun _ => 0)), .inl (0, 6, .inl (fun _ => 0)), .inl (0, 8, .inl (fun _ => 0)), .inl (0, 256, .inl (fun _ => 0))], N + 30, s) = some (gL G0 N (lfM N), N + 36, s') ∧ s' ≤ s + 6195 := by
  obtain ⟨s2, h2, b2⟩ := qX10_init_287 (G0 := G0) (z := z) (N := N) (s := s + 256)
  refine ⟨s2, ?_, by omega⟩
  unfold fX10_init_278
  refine sN_p rfl ⟨rfl, Nat.le_of_ble_eq_true rfl⟩ ?_
  refine sN_I (k := 256) rfl (by decide) ?_
  exact h2
set_option maxRecDepth 20000 in
theorem qX10_init_269 {G0 : gM} {z : Nat → Nat} {N s : Nat} : ∃ s', fX10_init_269 (N + 0) (some (N + 28)) (gL G0 N [.inr (11, [.int 0, .int (3 : Int32), .int 0, .ref (N + 1), .ref (N + 2), .ref (N + 3), .ref (N + 4), .ref (N + 5), .ref (N + 6), .ref (N + 7), .ref (N + 8), .ref (N + 9), .ref (N + 10), .ref (N + 11), .ref (N + 12), .ref (N + 13), .int 0, .int 0, .ref (N + 14), .ref (N + 15), .ref (N + 16), .ref (N + 17), .ref (N + 18), .ref (N + 19), .ref (N + 20), .int 0, .ref (N + 21), .ref (N + 22), .ref (N + 23), .int 0, .ref (N + 24), .ref (N + 25), .int 0, .ref (N + 26), .int 0, .ref (N + 27), .null, .null, .null, .null, .null, .int 0, .null, .null, .null]), .inl (0, 20, .inl (fun _ => 0)), .inl (0, 20, .inl (fun _ => 0)), .inl (0, 100, .inl (fun _ => 0)), .inl (0, 20, .inl (fun _ => 0)), .inl (0, 20, .inl (fun _ => 0)), .inl (0, 20, .inl (fun _ => 0)), .inl (0, 20, .inl (fun _ => 0)), .inl (0, 20, .inl (fun _ => 0)), .inl (0, 20, .inl (fun _ => 0)), .inl (0, 20, .inl (fun _ => 0)), .inl (3, 20, .inl (fun _ => 0)), .inl (0, 80, .inl (fun _ => 0)), .inl (0, 9000, .inl (fun _ => 0)), .inl (0, 8, .inl (fun _ => 0)), .inl (0, 40, .inl (fun _ => 0)), .inl (0, 8, .inl (fun _ => 0)), .inl (0, 8, .inl (fun _ => 0)), .inl (0, 8, .inl (fun _ => 0)), .inl (3, 8, .inl (fun _ => 0)), .inl (0, 5, .inl (upd (upd (upd (upd (upd (fun _ => 0) 0 4) 1 4) 2 4) 3 4) 4 4)), .inl (0, 16, .inl (fun _ => 0)), .inl (0, 16, .inl (fun _ => 0)), .inl (0, 4, .inl (upd (upd (upd (upd (fun _ => 0) 0 12) 1 12) 2 12) 3 12)), .inl (0, 60, .inl (fun _ => 0)), .inl (0, 60, .inl (fun _ => 0)), .inl (0, 20, .inl (fun _ => 0)), .inl (0, 6, .inl (fun _ => 0)), .inl (0, 8, .inl (fun _ => 0))], N + 29, s) = some (gL G0 N (lfM N), N + 36, s') ∧ s' ≤ s + 6451 := by
  obtain ⟨s2, h2, b2⟩ := qX10_init_278 (G0 := G0) (z := z) (N := N) (s := s + 256)
  refine ⟨s2, ?_, by omega⟩
  unfold fX10_init_269
  refine sN_p rfl ⟨rfl, Nat.le_of_ble_eq_true rfl⟩ ?_
  refine sN_I (k := 256) rfl (by decide) ?_
  exact h2
set_option maxRecDepth 20000 in
theorem qX10_init_261 {G0 : gM} {z : Nat → Nat} {N s : Nat} : ∃ s', fX10_init_261 (N + 0) (some (N + 27)) (gL G0 N [.inr (11, [.int 0, .int (3 : Int32), .int 0, .ref (N + 1), .ref (N + 2), .ref (N + 3), .ref (N + 4), .ref (N + 5), .ref (N + 6), .ref (N + 7), .ref (N + 8), .ref (N + 9), .ref (N + 10), .ref (N + 11), .ref (N + 12), .ref (N + 13), .int 0, .int 0, .ref (N + 14), .ref (N + 15), .ref (N + 16), .ref (N + 17), .ref (N + 18), .ref (N + 19), .ref (N + 20), .int 0, .ref (N + 21), .ref (N + 22), .ref (N + 23), .int 0, .ref (N + 24), .ref (N + 25), .int 0, .ref (N + 26), .int 0, .null, .null, .null, .null, .null, .null, .int 0, .null, .null, .null]), .inl (0, 20, .inl (fun _ => 0)), .inl (0, 20, .inl (fun _ => 0)), .inl (0, 100, .inl (fun _ => 0)), .inl (0, 20, .inl (fun _ => 0)), .inl (0, 20, .inl (fun _ => 0)), .inl (0, 20, .inl (fun _ => 0)), .inl (0, 20, .inl (fun _ => 0)), .inl (0, 20, .inl (fun _ => 0)), .inl (0, 20, .inl (fun _ => 0)), .inl (0, 20, .inl (fun _ => 0)), .inl (3, 20, .inl (fun _ => 0)), .inl (0, 80, .inl (fun _ => 0)), .inl (0, 9000, .inl (fun _ => 0)), .inl (0, 8, .inl (fun _ => 0)), .inl (0, 40, .inl (fun _ => 0)), .inl (0, 8, .inl (fun _ => 0)), .inl (0, 8, .inl (fun _ => 0)), .inl (0, 8, .inl (fun _ => 0)), .inl (3, 8, .inl (fun _ => 0)), .inl (0, 5, .inl (upd (upd (upd (upd (upd (fun _ => 0) 0 4) 1 4) 2 4) 3 4) 4 4)), .inl (0, 16, .inl (fun _ => 0)), .inl (0, 16, .inl (fun _ => 0)), .inl (0, 4, .inl (upd (upd (upd (upd (fun _ => 0) 0 12) 1 12) 2 12) 3 12)), .inl (0, 60, .inl (fun _ => 0)), .inl (0, 60, .inl (fun _ => 0)), .inl (0, 20, .inl (fun _ => 0)), .inl (0, 6, .inl (fun _ => 0))], N + 28, s) = some (gL G0 N (lfM N), N + 36, s') ∧ s' ≤ s + 6459 := by
  obtain ⟨s2, h2, b2⟩ := qX10_init_269 (G0 := G0) (z := z) (N := N) (s := s + 8)
  refine ⟨s2, ?_, by omega⟩
  unfold fX10_init_261
  refine sN_p rfl ⟨rfl, Nat.le_of_ble_eq_true rfl⟩ ?_
  refine sN_I (k := 8) rfl (by decide) ?_
  exact h2
set_option maxRecDepth 20000 in
theorem qX10_init_253 {G0 : gM} {z : Nat → Nat} {N s : Nat} : ∃ s', fX10_init_253 (N + 0) (some (N + 26)) (gL G0 N [.inr (11, [.int 0, .int (3 : Int32), .int 0, .ref (N + 1), .ref (N + 2), .ref (N + 3), .ref (N + 4), .ref (N + 5), .ref (N + 6), .ref (N + 7), .ref (N + 8), .ref (N + 9), .ref (N + 10), .ref (N + 11), .ref (N + 12), .ref (N + 13), .int 0, .int 0, .ref (N + 14), .ref (N + 15), .ref (N + 16), .ref (N + 17), .ref (N + 18), .ref (N + 19), .ref (N + 20), .int 0, .ref (N + 21), .ref (N + 22), .ref (N + 23), .int 0, .ref (N + 24), .ref (N + 25), .int 0, .null, .int 0, .null, .null, .null, .null, .null, .null, .int 0, .null, .null, .null]), .inl (0, 20, .inl (fun _ => 0)), .inl (0, 20, .inl (fun _ => 0)), .inl (0, 100, .inl (fun _ => 0)), .inl (0, 20, .inl (fun _ => 0)), .inl (0, 20, .inl (fun _ => 0)), .inl (0, 20, .inl (fun _ => 0)), .inl (0, 20, .inl (fun _ => 0)), .inl (0, 20, .inl (fun _ => 0)), .inl (0, 20, .inl (fun _ => 0)), .inl (0, 20, .inl (fun _ => 0)), .inl (3, 20, .inl (fun _ => 0)), .inl (0, 80, .inl (fun _ => 0)), .inl (0, 9000, .inl (fun _ => 0)), .inl (0, 8, .inl (fun _ => 0)), .inl (0, 40, .inl (fun _ => 0)), .inl (0, 8, .inl (fun _ => 0)), .inl (0, 8, .inl (fun _ => 0)), .inl (0, 8, .inl (fun _ => 0)), .inl (3, 8, .inl (fun _ => 0)), .inl (0, 5, .inl (upd (upd (upd (upd (upd (fun _ => 0) 0 4) 1 4) 2 4) 3 4) 4 4)), .inl (0, 16, .inl (fun _ => 0)), .inl (0, 16, .inl (fun _ => 0)), .inl (0, 4, .inl (upd (upd (upd (upd (fun _ => 0) 0 12) 1 12) 2 12) 3 12)), .inl (0, 60, .inl (fun _ => 0)), .inl (0, 60, .inl (fun _ => 0)), .inl (0, 20, .inl (fun _ => 0))], N + 27, s) = some (gL G0 N (lfM N), N + 36, s') ∧ s' ≤ s + 6465 := by
  obtain ⟨s2, h2, b2⟩ := qX10_init_261 (G0 := G0) (z := z) (N := N) (s := s + 6)
  refine ⟨s2, ?_, by omega⟩
  unfold fX10_init_253
  refine sN_p rfl ⟨rfl, Nat.le_of_ble_eq_true rfl⟩ ?_
  refine sN_I (k := 6) rfl (by decide) ?_
  exact h2
set_option maxRecDepth 20000 in
theorem qX10_init_245 {G0 : gM} {z : Nat → Nat} {N s : Nat} : ∃ s', fX10_init_245 (N + 0) (some (N + 25)) (gL G0 N [.inr (11, [.int 0, .int (3 : Int32), .int 0, .ref (N + 1), .ref (N + 2), .ref (N + 3), .ref (N + 4), .ref (N + 5), .ref (N + 6), .ref (N + 7), .ref (N + 8), .ref (N + 9), .ref (N + 10), .ref (N + 11), .ref (N + 12), .ref (N + 13), .int 0, .int 0, .ref (N + 14), .ref (N + 15), .ref (N + 16), .ref (N + 17), .ref (N + 18), .ref (N + 19), .ref (N + 20), .int 0, .ref (N + 21), .ref (N + 22), .ref (N + 23), .int 0, .ref (N + 24), .null, .int 0, .null, .int 0, .null, .null, .null, .null, .null, .null, .int 0, .null, .null, .null]), .inl (0, 20, .inl (fun _ => 0)), .inl (0, 20, .inl (fun _ => 0)), .inl (0, 100, .inl (fun _ => 0)), .inl (0, 20, .inl (fun _ => 0)), .inl (0, 20, .inl (fun _ => 0)), .inl (0, 20, .inl (fun _ => 0)), .inl (0, 20, .inl (fun _ => 0)), .inl (0, 20, .inl (fun _ => 0)), .inl (0, 20, .inl (fun _ => 0)), .inl (0, 20, .inl (fun _ => 0)), .inl (3, 20, .inl (fun _ => 0)), .inl (0, 80, .inl (fun _ => 0)), .inl (0, 9000, .inl (fun _ => 0)), .inl (0, 8, .inl (fun _ => 0)), .inl (0, 40, .inl (fun _ => 0)), .inl (0, 8, .inl (fun _ => 0)), .inl (0, 8, .inl (fun _ => 0)), .inl (0, 8, .inl (fun _ => 0)), .inl (3, 8, .inl (fun _ => 0)), .inl (0, 5, .inl (upd (upd (upd (upd (upd (fun _ => 0) 0 4) 1 4) 2 4) 3 4) 4 4)), .inl (0, 16, .inl (fun _ => 0)), .inl (0, 16, .inl (fun _ => 0)), .inl (0, 4, .inl (upd (upd (upd (upd (fun _ => 0) 0 12) 1 12) 2 12) 3 12)), .inl (0, 60, .inl (fun _ => 0)), .inl (0, 60, .inl (fun _ => 0))], N + 26, s) = some (gL G0 N (lfM N), N + 36, s') ∧ s' ≤ s + 6485 := by
  obtain ⟨s2, h2, b2⟩ := qX10_init_253 (G0 := G0) (z := z) (N := N) (s := s + 20)
  refine ⟨s2, ?_, by omega⟩
  unfold fX10_init_245
  refine sN_p rfl ⟨rfl, Nat.le_of_ble_eq_true rfl⟩ ?_
  refine sN_I (k := 20) rfl (by decide) ?_
  exact h2
set_option maxRecDepth 20000 in
theorem qX10_init_237 {G0 : gM} {z : Nat → Nat} {N s : Nat} : ∃ s', fX10_init_237 (N + 0) (some (N + 24)) (gL G0 N [.inr (11, [.int 0, .int (3 : Int32), .int 0, .ref (N + 1), .ref (N + 2), .ref (N + 3), .ref (N + 4), .ref (N + 5), .ref (N + 6), .ref (N + 7), .ref (N + 8), .ref (N + 9), .ref (N + 10), .ref (N + 11), .ref (N + 12), .ref (N + 13), .int 0, .int 0, .ref (N + 14), .ref (N + 15), .ref (N + 16), .ref (N + 17), .ref (N + 18), .ref (N + 19), .ref (N + 20), .int 0, .ref (N + 21), .ref (N + 22), .ref (N + 23), .int 0, .null, .null, .int 0, .null, .int 0, .null, .null, .null, .null, .null, .null, .int 0, .null, .null, .null]), .inl (0, 20, .inl (fun _ => 0)), .inl (0, 20, .inl (fun _ => 0)), .inl (0, 100, .inl (fun _ => 0)), .inl (0, 20, .inl (fun _ => 0)), .inl (0, 20, .inl (fun _ => 0)), .inl (0, 20, .inl (fun _ => 0)), .inl (0, 20, .inl (fun _ => 0)), .inl (0, 20, .inl (fun _ => 0)), .inl (0, 20, .inl (fun _ => 0)), .inl (0, 20, .inl (fun _ => 0)), .inl (3, 20, .inl (fun _ => 0)), .inl (0, 80, .inl (fun _ => 0)), .inl (0, 9000, .inl (fun _ => 0)), .inl (0, 8, .inl (fun _ => 0)), .inl (0, 40, .inl (fun _ => 0)), .inl (0, 8, .inl (fun _ => 0)), .inl (0, 8, .inl (fun _ => 0)), .inl (0, 8, .inl (fun _ => 0)), .inl (3, 8, .inl (fun _ => 0)), .inl (0, 5, .inl (upd (upd (upd (upd (upd (fun _ => 0) 0 4) 1 4) 2 4) 3 4) 4 4)), .inl (0, 16, .inl (fun _ => 0)), .inl (0, 16, .inl (fun _ => 0)), .inl (0, 4, .inl (upd (upd (upd (upd (fun _ => 0) 0 12) 1 12) 2 12) 3 12)), .inl (0, 60, .inl (fun _ => 0))], N + 25, s) = some (gL G0 N (lfM N), N + 36, s') ∧ s' ≤ s + 6545 := by
  obtain ⟨s2, h2, b2⟩ := qX10_init_245 (G0 := G0) (z := z) (N := N) (s := s + 60)
  refine ⟨s2, ?_, by omega⟩
  unfold fX10_init_237
  refine sN_p rfl ⟨rfl, Nat.le_of_ble_eq_true rfl⟩ ?_
  refine sN_I (k := 60) rfl (by decide) ?_
  exact h2
set_option maxRecDepth 20000 in
theorem qX10_init_209 {G0 : gM} {z : Nat → Nat} {N s : Nat} : ∃ s', fX10_init_209 (N + 0) (some (N + 23)) (gL G0 N [.inr (11, [.int 0, .int (3 : Int32), .int 0, .ref (N + 1), .ref (N + 2), .ref (N + 3), .ref (N + 4), .ref (N + 5), .ref (N + 6), .ref (N + 7), .ref (N + 8), .ref (N + 9), .ref (N + 10), .ref (N + 11), .ref (N + 12), .ref (N + 13), .int 0, .int 0, .ref (N + 14), .ref (N + 15), .ref (N + 16), .ref (N + 17), .ref (N + 18), .ref (N + 19), .ref (N + 20), .int 0, .ref (N + 21), .ref (N + 22), .null, .int 0, .null, .null, .int 0, .null, .int 0, .null, .null, .null, .null, .null, .null, .int 0, .null, .null, .null]), .inl (0, 20, .inl (fun _ => 0)), .inl (0, 20, .inl (fun _ => 0)), .inl (0, 100, .inl (fun _ => 0)), .inl (0, 20, .inl (fun _ => 0)), .inl (0, 20, .inl (fun _ => 0)), .inl (0, 20, .inl (fun _ => 0)), .inl (0, 20, .inl (fun _ => 0)), .inl (0, 20, .inl (fun _ => 0)), .inl (0, 20, .inl (fun _ => 0)), .inl (0, 20, .inl (fun _ => 0)), .inl (3, 20, .inl (fun _ => 0)), .inl (0, 80, .inl (fun _ => 0)), .inl (0, 9000, .inl (fun _ => 0)), .inl (0, 8, .inl (fun _ => 0)), .inl (0, 40, .inl (fun _ => 0)), .inl (0, 8, .inl (fun _ => 0)), .inl (0, 8, .inl (fun _ => 0)), .inl (0, 8, .inl (fun _ => 0)), .inl (3, 8, .inl (fun _ => 0)), .inl (0, 5, .inl (upd (upd (upd (upd (upd (fun _ => 0) 0 4) 1 4) 2 4) 3 4) 4 4)), .inl (0, 16, .inl (fun _ => 0)), .inl (0, 16, .inl (fun _ => 0)), .inl (0, 4, .inl (fun _ => 0))], N + 24, s) = some (gL G0 N (lfM N), N + 36, s') ∧ s' ≤ s + 6605 := by
  obtain ⟨s2, h2, b2⟩ := qX10_init_237 (G0 := G0) (z := z) (N := N) (s := s + 60)
  refine ⟨s2, ?_, by omega⟩
  unfold fX10_init_209
  refine sN_b ?_
  refine sN_u (f := 0) rfl (by decide) ?_
  refine sN_b ?_
  refine sN_u (f := 1) rfl (by decide) ?_
  refine sN_b ?_
  refine sN_u (f := 2) rfl (by decide) ?_
  refine sN_b ?_
  refine sN_u (f := 3) rfl (by decide) ?_
  refine sN_p rfl ⟨rfl, Nat.le_of_ble_eq_true rfl⟩ ?_
  refine sN_I (k := 60) rfl (by decide) ?_
  exact h2
set_option maxRecDepth 20000 in
theorem qX10_init_202 {G0 : gM} {z : Nat → Nat} {N s : Nat} : ∃ s', fX10_init_202 (N + 0) (some (N + 22)) (gL G0 N [.inr (11, [.int 0, .int (3 : Int32), .int 0, .ref (N + 1), .ref (N + 2), .ref (N + 3), .ref (N + 4), .ref (N + 5), .ref (N + 6), .ref (N + 7), .ref (N + 8), .ref (N + 9), .ref (N + 10), .ref (N + 11), .ref (N + 12), .ref (N + 13), .int 0, .int 0, .ref (N + 14), .ref (N + 15), .ref (N + 16), .ref (N + 17), .ref (N + 18), .ref (N + 19), .ref (N + 20), .int 0, .ref (N + 21), .null, .null, .int 0, .null, .null, .int 0, .null, .int 0, .null, .null, .null, .null, .null, .null, .int 0, .null, .null, .null]), .inl (0, 20, .inl (fun _ => 0)), .inl (0, 20, .inl (fun _ => 0)), .inl (0, 100, .inl (fun _ => 0)), .inl (0, 20, .inl (fun _ => 0)), .inl (0, 20, .inl (fun _ => 0)), .inl (0, 20, .inl (fun _ => 0)), .inl (0, 20, .inl (fun _ => 0)), .inl (0, 20, .inl (fun _ => 0)), .inl (0, 20, .inl (fun _ => 0)), .inl (0, 20, .inl (fun _ => 0)), .inl (3, 20, .inl (fun _ => 0)), .inl (0, 80, .inl (fun _ => 0)), .inl (0, 9000, .inl (fun _ => 0)), .inl (0, 8, .inl (fun _ => 0)), .inl (0, 40, .inl (fun _ => 0)), .inl (0, 8, .inl (fun _ => 0)), .inl (0, 8, .inl (fun _ => 0)), .inl (0, 8, .inl (fun _ => 0)), .inl (3, 8, .inl (fun _ => 0)), .inl (0, 5, .inl (upd (upd (upd (upd (upd (fun _ => 0) 0 4) 1 4) 2 4) 3 4) 4 4)), .inl (0, 16, .inl (fun _ => 0)), .inl (0, 16, .inl (fun _ => 0))], N + 23, s) = some (gL G0 N (lfM N), N + 36, s') ∧ s' ≤ s + 6609 := by
  obtain ⟨s2, h2, b2⟩ := qX10_init_209 (G0 := G0) (z := z) (N := N) (s := s + 4)
  refine ⟨s2, ?_, by omega⟩
  unfold fX10_init_202
  refine sN_p rfl ⟨rfl, Nat.le_of_ble_eq_true rfl⟩ ?_
  refine sN_I (k := 4) rfl (by decide) ?_
  exact h2
set_option maxRecDepth 20000 in
theorem qX10_init_194 {G0 : gM} {z : Nat → Nat} {N s : Nat} : ∃ s', fX10_init_194 (N + 0) (some (N + 21)) (gL G0 N [.inr (11, [.int 0, .int (3 : Int32), .int 0, .ref (N + 1), .ref (N + 2), .ref (N + 3), .ref (N + 4), .ref (N + 5), .ref (N + 6), .ref (N + 7), .ref (N + 8), .ref (N + 9), .ref (N + 10), .ref (N + 11), .ref (N + 12), .ref (N + 13), .int 0, .int 0, .ref (N + 14), .ref (N + 15), .ref (N + 16), .ref (N + 17), .ref (N + 18), .ref (N + 19), .ref (N + 20), .int 0, .null, .null, .null, .int 0, .null, .null, .int 0, .null, .int 0, .null, .null, .null, .null, .null, .null, .int 0, .null, .null, .null]), .inl (0, 20, .inl (fun _ => 0)), .inl (0, 20, .inl (fun _ => 0)), .inl (0, 100, .inl (fun _ => 0)), .inl (0, 20, .inl (fun _ => 0)), .inl (0, 20, .inl (fun _ => 0)), .inl (0, 20, .inl (fun _ => 0)), .inl (0, 20, .inl (fun _ => 0)), .inl (0, 20, .inl (fun _ => 0)), .inl (0, 20, .inl (fun _ => 0)), .inl (0, 20, .inl (fun _ => 0)), .inl (3, 20, .inl (fun _ => 0)), .inl (0, 80, .inl (fun _ => 0)), .inl (0, 9000, .inl (fun _ => 0)), .inl (0, 8, .inl (fun _ => 0)), .inl (0, 40, .inl (fun _ => 0)), .inl (0, 8, .inl (fun _ => 0)), .inl (0, 8, .inl (fun _ => 0)), .inl (0, 8, .inl (fun _ => 0)), .inl (3, 8, .inl (fun _ => 0)), .inl (0, 5, .inl (upd (upd (upd (upd (upd (fun _ => 0) 0 4) 1 4) 2 4) 3 4) 4 4)), .inl (0, 16, .inl (fun _ => 0))], N + 22, s) = some (gL G0 N (lfM N), N + 36, s') ∧ s' ≤ s + 6625 := by
  obtain ⟨s2, h2, b2⟩ := qX10_init_202 (G0 := G0) (z := z) (N := N) (s := s + 16)
  refine ⟨s2, ?_, by omega⟩
  unfold fX10_init_194
  refine sN_p rfl ⟨rfl, Nat.le_of_ble_eq_true rfl⟩ ?_
  refine sN_I (k := 16) rfl (by decide) ?_
  exact h2
set_option maxRecDepth 20000 in
theorem qX10_init_166 {G0 : gM} {z : Nat → Nat} {N s : Nat} : ∃ s', fX10_init_166 (N + 0) (some (N + 20)) (gL G0 N [.inr (11, [.int 0, .int (3 : Int32), .int 0, .ref (N + 1), .ref (N + 2), .ref (N + 3), .ref (N + 4), .ref (N + 5), .ref (N + 6), .ref (N + 7), .ref (N + 8), .ref (N + 9), .ref (N + 10), .ref (N + 11), .ref (N + 12), .ref (N + 13), .int 0, .int 0, .ref (N + 14), .ref (N + 15), .ref (N + 16), .ref (N + 17), .ref (N + 18), .ref (N + 19), .null, .int 0, .null, .null, .null, .int 0, .null, .null, .int 0, .null, .int 0, .null, .null, .null, .null, .null, .null, .int 0, .null, .null, .null]), .inl (0, 20, .inl (fun _ => 0)), .inl (0, 20, .inl (fun _ => 0)), .inl (0, 100, .inl (fun _ => 0)), .inl (0, 20, .inl (fun _ => 0)), .inl (0, 20, .inl (fun _ => 0)), .inl (0, 20, .inl (fun _ => 0)), .inl (0, 20, .inl (fun _ => 0)), .inl (0, 20, .inl (fun _ => 0)), .inl (0, 20, .inl (fun _ => 0)), .inl (0, 20, .inl (fun _ => 0)), .inl (3, 20, .inl (fun _ => 0)), .inl (0, 80, .inl (fun _ => 0)), .inl (0, 9000, .inl (fun _ => 0)), .inl (0, 8, .inl (fun _ => 0)), .inl (0, 40, .inl (fun _ => 0)), .inl (0, 8, .inl (fun _ => 0)), .inl (0, 8, .inl (fun _ => 0)), .inl (0, 8, .inl (fun _ => 0)), .inl (3, 8, .inl (fun _ => 0)), .inl (0, 5, .inl (fun _ => 0))], N + 21, s) = some (gL G0 N (lfM N), N + 36, s') ∧ s' ≤ s + 6641 := by
  obtain ⟨s2, h2, b2⟩ := qX10_init_194 (G0 := G0) (z := z) (N := N) (s := s + 16)
  refine ⟨s2, ?_, by omega⟩
  unfold fX10_init_166
  refine sN_b ?_
  refine sN_u (f := 0) rfl (by decide) ?_
  refine sN_b ?_
  refine sN_u (f := 1) rfl (by decide) ?_
  refine sN_b ?_
  refine sN_u (f := 2) rfl (by decide) ?_
  refine sN_b ?_
  refine sN_u (f := 3) rfl (by decide) ?_
  refine sN_b ?_
  refine sN_u (f := 4) rfl (by decide) ?_
  refine sN_p rfl ⟨rfl, Nat.le_of_ble_eq_true rfl⟩ ?_
  refine sN_I (k := 16) rfl (by decide) ?_
  exact h2
set_option maxRecDepth 20000 in
theorem qX10_init_159 {G0 : gM} {z : Nat → Nat} {N s : Nat} : ∃ s', fX10_init_159 (N + 0) (some (N + 19)) (gL G0 N [.inr (11, [.int 0, .int (3 : Int32), .int 0, .ref (N + 1), .ref (N + 2), .ref (N + 3), .ref (N + 4), .ref (N + 5), .ref (N + 6), .ref (N + 7), .ref (N + 8), .ref (N + 9), .ref (N + 10), .ref (N + 11), .ref (N + 12), .ref (N + 13), .int 0, .int 0, .ref (N + 14), .ref (N + 15), .ref (N + 16), .ref (N + 17), .ref (N + 18), .null, .null, .int 0, .null, .null, .null, .int 0, .null, .null, .int 0, .null, .int 0, .null, .null, .null, .null, .null, .null, .int 0, .null, .null, .null]), .inl (0, 20, .inl (fun _ => 0)), .inl (0, 20, .inl (fun _ => 0)), .inl (0, 100, .inl (fun _ => 0)), .inl (0, 20, .inl (fun _ => 0)), .inl (0, 20, .inl (fun _ => 0)), .inl (0, 20, .inl (fun _ => 0)), .inl (0, 20, .inl (fun _ => 0)), .inl (0, 20, .inl (fun _ => 0)), .inl (0, 20, .inl (fun _ => 0)), .inl (0, 20, .inl (fun _ => 0)), .inl (3, 20, .inl (fun _ => 0)), .inl (0, 80, .inl (fun _ => 0)), .inl (0, 9000, .inl (fun _ => 0)), .inl (0, 8, .inl (fun _ => 0)), .inl (0, 40, .inl (fun _ => 0)), .inl (0, 8, .inl (fun _ => 0)), .inl (0, 8, .inl (fun _ => 0)), .inl (0, 8, .inl (fun _ => 0)), .inl (3, 8, .inl (fun _ => 0))], N + 20, s) = some (gL G0 N (lfM N), N + 36, s') ∧ s' ≤ s + 6646 := by
  obtain ⟨s2, h2, b2⟩ := qX10_init_166 (G0 := G0) (z := z) (N := N) (s := s + 5)
  refine ⟨s2, ?_, by omega⟩
  unfold fX10_init_159
  refine sN_p rfl ⟨rfl, Nat.le_of_ble_eq_true rfl⟩ ?_
  refine sN_I (k := 5) rfl (by decide) ?_
  exact h2
set_option maxRecDepth 20000 in
theorem qX10_init_151 {G0 : gM} {z : Nat → Nat} {N s : Nat} : ∃ s', fX10_init_151 (N + 0) (some (N + 18)) (gL G0 N [.inr (11, [.int 0, .int (3 : Int32), .int 0, .ref (N + 1), .ref (N + 2), .ref (N + 3), .ref (N + 4), .ref (N + 5), .ref (N + 6), .ref (N + 7), .ref (N + 8), .ref (N + 9), .ref (N + 10), .ref (N + 11), .ref (N + 12), .ref (N + 13), .int 0, .int 0, .ref (N + 14), .ref (N + 15), .ref (N + 16), .ref (N + 17), .null, .null, .null, .int 0, .null, .null, .null, .int 0, .null, .null, .int 0, .null, .int 0, .null, .null, .null, .null, .null, .null, .int 0, .null, .null, .null]), .inl (0, 20, .inl (fun _ => 0)), .inl (0, 20, .inl (fun _ => 0)), .inl (0, 100, .inl (fun _ => 0)), .inl (0, 20, .inl (fun _ => 0)), .inl (0, 20, .inl (fun _ => 0)), .inl (0, 20, .inl (fun _ => 0)), .inl (0, 20, .inl (fun _ => 0)), .inl (0, 20, .inl (fun _ => 0)), .inl (0, 20, .inl (fun _ => 0)), .inl (0, 20, .inl (fun _ => 0)), .inl (3, 20, .inl (fun _ => 0)), .inl (0, 80, .inl (fun _ => 0)), .inl (0, 9000, .inl (fun _ => 0)), .inl (0, 8, .inl (fun _ => 0)), .inl (0, 40, .inl (fun _ => 0)), .inl (0, 8, .inl (fun _ => 0)), .inl (0, 8, .inl (fun _ => 0)), .inl (0, 8, .inl (fun _ => 0))], N + 19, s) = some (gL G0 N (lfM N), N + 36, s') ∧ s' ≤ s + 6654 := by
  obtain ⟨s2, h2, b2⟩ := qX10_init_159 (G0 := G0) (z := z) (N := N) (s := s + 8)
  refine ⟨s2, ?_, by omega⟩
  unfold fX10_init_151
  refine sN_p rfl ⟨rfl, Nat.le_of_ble_eq_true rfl⟩ ?_
  refine sN_Z (k := 8) rfl (by decide) ?_
  exact h2
set_option maxRecDepth 20000 in
theorem qX10_init_143 {G0 : gM} {z : Nat → Nat} {N s : Nat} : ∃ s', fX10_init_143 (N + 0) (some (N + 17)) (gL G0 N [.inr (11, [.int 0, .int (3 : Int32), .int 0, .ref (N + 1), .ref (N + 2), .ref (N + 3), .ref (N + 4), .ref (N + 5), .ref (N + 6), .ref (N + 7), .ref (N + 8), .ref (N + 9), .ref (N + 10), .ref (N + 11), .ref (N + 12), .ref (N + 13), .int 0, .int 0, .ref (N + 14), .ref (N + 15), .ref (N + 16), .null, .null, .null, .null, .int 0, .null, .null, .null, .int 0, .null, .null, .int 0, .null, .int 0, .null, .null, .null, .null, .null, .null, .int 0, .null, .null, .null]), .inl (0, 20, .inl (fun _ => 0)), .inl (0, 20, .inl (fun _ => 0)), .inl (0, 100, .inl (fun _ => 0)), .inl (0, 20, .inl (fun _ => 0)), .inl (0, 20, .inl (fun _ => 0)), .inl (0, 20, .inl (fun _ => 0)), .inl (0, 20, .inl (fun _ => 0)), .inl (0, 20, .inl (fun _ => 0)), .inl (0, 20, .inl (fun _ => 0)), .inl (0, 20, .inl (fun _ => 0)), .inl (3, 20, .inl (fun _ => 0)), .inl (0, 80, .inl (fun _ => 0)), .inl (0, 9000, .inl (fun _ => 0)), .inl (0, 8, .inl (fun _ => 0)), .inl (0, 40, .inl (fun _ => 0)), .inl (0, 8, .inl (fun _ => 0)), .inl (0, 8, .inl (fun _ => 0))], N + 18, s) = some (gL G0 N (lfM N), N + 36, s') ∧ s' ≤ s + 6662 := by
  obtain ⟨s2, h2, b2⟩ := qX10_init_151 (G0 := G0) (z := z) (N := N) (s := s + 8)
  refine ⟨s2, ?_, by omega⟩
  unfold fX10_init_143
  refine sN_p rfl ⟨rfl, Nat.le_of_ble_eq_true rfl⟩ ?_
  refine sN_I (k := 8) rfl (by decide) ?_
  exact h2
set_option maxRecDepth 20000 in
theorem qX10_init_135 {G0 : gM} {z : Nat → Nat} {N s : Nat} : ∃ s', fX10_init_135 (N + 0) (some (N + 16)) (gL G0 N [.inr (11, [.int 0, .int (3 : Int32), .int 0, .ref (N + 1), .ref (N + 2), .ref (N + 3), .ref (N + 4), .ref (N + 5), .ref (N + 6), .ref (N + 7), .ref (N + 8), .ref (N + 9), .ref (N + 10), .ref (N + 11), .ref (N + 12), .ref (N + 13), .int 0, .int 0, .ref (N + 14), .ref (N + 15), .null, .null, .null, .null, .null, .int 0, .null, .null, .null, .int 0, .null, .null, .int 0, .null, .int 0, .null, .null, .null, .null, .null, .null, .int 0, .null, .null, .null]), .inl (0, 20, .inl (fun _ => 0)), .inl (0, 20, .inl (fun _ => 0)), .inl (0, 100, .inl (fun _ => 0)), .inl (0, 20, .inl (fun _ => 0)), .inl (0, 20, .inl (fun _ => 0)), .inl (0, 20, .inl (fun _ => 0)), .inl (0, 20, .inl (fun _ => 0)), .inl (0, 20, .inl (fun _ => 0)), .inl (0, 20, .inl (fun _ => 0)), .inl (0, 20, .inl (fun _ => 0)), .inl (3, 20, .inl (fun _ => 0)), .inl (0, 80, .inl (fun _ => 0)), .inl (0, 9000, .inl (fun _ => 0)), .inl (0, 8, .inl (fun _ => 0)), .inl (0, 40, .inl (fun _ => 0)), .inl (0, 8, .inl (fun _ => 0))], N + 17, s) = some (gL G0 N (lfM N), N + 36, s') ∧ s' ≤ s + 6670 := by
  obtain ⟨s2, h2, b2⟩ := qX10_init_143 (G0 := G0) (z := z) (N := N) (s := s + 8)
  refine ⟨s2, ?_, by omega⟩
  unfold fX10_init_135
  refine sN_p rfl ⟨rfl, Nat.le_of_ble_eq_true rfl⟩ ?_
  refine sN_I (k := 8) rfl (by decide) ?_
  exact h2
set_option maxRecDepth 20000 in
theorem qX10_init_127 {G0 : gM} {z : Nat → Nat} {N s : Nat} : ∃ s', fX10_init_127 (N + 0) (some (N + 15)) (gL G0 N [.inr (11, [.int 0, .int (3 : Int32), .int 0, .ref (N + 1), .ref (N + 2), .ref (N + 3), .ref (N + 4), .ref (N + 5), .ref (N + 6), .ref (N + 7), .ref (N + 8), .ref (N + 9), .ref (N + 10), .ref (N + 11), .ref (N + 12), .ref (N + 13), .int 0, .int 0, .ref (N + 14), .null, .null, .null, .null, .null, .null, .int 0, .null, .null, .null, .int 0, .null, .null, .int 0, .null, .int 0, .null, .null, .null, .null, .null, .null, .int 0, .null, .null, .null]), .inl (0, 20, .inl (fun _ => 0)), .inl (0, 20, .inl (fun _ => 0)), .inl (0, 100, .inl (fun _ => 0)), .inl (0, 20, .inl (fun _ => 0)), .inl (0, 20, .inl (fun _ => 0)), .inl (0, 20, .inl (fun _ => 0)), .inl (0, 20, .inl (fun _ => 0)), .inl (0, 20, .inl (fun _ => 0)), .inl (0, 20, .inl (fun _ => 0)), .inl (0, 20, .inl (fun _ => 0)), .inl (3, 20, .inl (fun _ => 0)), .inl (0, 80, .inl (fun _ => 0)), .inl (0, 9000, .inl (fun _ => 0)), .inl (0, 8, .inl (fun _ => 0)), .inl (0, 40, .inl (fun _ => 0))], N + 16, s) = some (gL G0 N (lfM N), N + 36, s') ∧ s' ≤ s + 6678 := by
  obtain ⟨s2, h2, b2⟩ := qX10_init_135 (G0 := G0) (z := z) (N := N) (s := s + 8)
  refine ⟨s2, ?_, by omega⟩
  unfold fX10_init_127
  refine sN_p rfl ⟨rfl, Nat.le_of_ble_eq_true rfl⟩ ?_
  refine sN_I (k := 8) rfl (by decide) ?_
  exact h2
set_option maxRecDepth 20000 in
theorem qX10_init_119 {G0 : gM} {z : Nat → Nat} {N s : Nat} : ∃ s', fX10_init_119 (N + 0) (some (N + 14)) (gL G0 N [.inr (11, [.int 0, .int (3 : Int32), .int 0, .ref (N + 1), .ref (N + 2), .ref (N + 3), .ref (N + 4), .ref (N + 5), .ref (N + 6), .ref (N + 7), .ref (N + 8), .ref (N + 9), .ref (N + 10), .ref (N + 11), .ref (N + 12), .ref (N + 13), .int 0, .int 0, .null, .null, .null, .null, .null, .null, .null, .int 0, .null, .null, .null, .int 0, .null, .null, .int 0, .null, .int 0, .null, .null, .null, .null, .null, .null, .int 0, .null, .null, .null]), .inl (0, 20, .inl (fun _ => 0)), .inl (0, 20, .inl (fun _ => 0)), .inl (0, 100, .inl (fun _ => 0)), .inl (0, 20, .inl (fun _ => 0)), .inl (0, 20, .inl (fun _ => 0)), .inl (0, 20, .inl (fun _ => 0)), .inl (0, 20, .inl (fun _ => 0)), .inl (0, 20, .inl (fun _ => 0)), .inl (0, 20, .inl (fun _ => 0)), .inl (0, 20, .inl (fun _ => 0)), .inl (3, 20, .inl (fun _ => 0)), .inl (0, 80, .inl (fun _ => 0)), .inl (0, 9000, .inl (fun _ => 0)), .inl (0, 8, .inl (fun _ => 0))], N + 15, s) = some (gL G0 N (lfM N), N + 36, s') ∧ s' ≤ s + 6718 := by
  obtain ⟨s2, h2, b2⟩ := qX10_init_127 (G0 := G0) (z := z) (N := N) (s := s + 40)
  refine ⟨s2, ?_, by omega⟩
  unfold fX10_init_119
  refine sN_p rfl ⟨rfl, Nat.le_of_ble_eq_true rfl⟩ ?_
  refine sN_I (k := 40) rfl (by decide) ?_
  exact h2
set_option maxRecDepth 20000 in
theorem qX10_init_111 {G0 : gM} {z : Nat → Nat} {N s : Nat} : ∃ s', fX10_init_111 (N + 0) (some (N + 13)) (gL G0 N [.inr (11, [.int 0, .int (3 : Int32), .int 0, .ref (N + 1), .ref (N + 2), .ref (N + 3), .ref (N + 4), .ref (N + 5), .ref (N + 6), .ref (N + 7), .ref (N + 8), .ref (N + 9), .ref (N + 10), .ref (N + 11), .ref (N + 12), .null, .int 0, .int 0, .null, .null, .null, .null, .null, .null, .null, .int 0, .null, .null, .null, .int 0, .null, .null, .int 0, .null, .int 0, .null, .null, .null, .null, .null, .null, .int 0, .null, .null, .null]), .inl (0, 20, .inl (fun _ => 0)), .inl (0, 20, .inl (fun _ => 0)), .inl (0, 100, .inl (fun _ => 0)), .inl (0, 20, .inl (fun _ => 0)), .inl (0, 20, .inl (fun _ => 0)), .inl (0, 20, .inl (fun _ => 0)), .inl (0, 20, .inl (fun _ => 0)), .inl (0, 20, .inl (fun _ => 0)), .inl (0, 20, .inl (fun _ => 0)), .inl (0, 20, .inl (fun _ => 0)), .inl (3, 20, .inl (fun _ => 0)), .inl (0, 80, .inl (fun _ => 0)), .inl (0, 9000, .inl (fun _ => 0))], N + 14, s) = some (gL G0 N (lfM N), N + 36, s') ∧ s' ≤ s + 6726 := by
  obtain ⟨s2, h2, b2⟩ := qX10_init_119 (G0 := G0) (z := z) (N := N) (s := s + 8)
  refine ⟨s2, ?_, by omega⟩
  unfold fX10_init_111
  refine sN_p rfl ⟨rfl, Nat.le_of_ble_eq_true rfl⟩ ?_
  refine sN_I (k := 8) rfl (by decide) ?_
  exact h2
set_option maxRecDepth 20000 in
theorem qX10_init_102 {G0 : gM} {z : Nat → Nat} {N s : Nat} : ∃ s', fX10_init_102 (N + 0) (some (N + 12)) (gL G0 N [.inr (11, [.int 0, .int (3 : Int32), .int 0, .ref (N + 1), .ref (N + 2), .ref (N + 3), .ref (N + 4), .ref (N + 5), .ref (N + 6), .ref (N + 7), .ref (N + 8), .ref (N + 9), .ref (N + 10), .ref (N + 11), .null, .null, .int 0, .int 0, .null, .null, .null, .null, .null, .null, .null, .int 0, .null, .null, .null, .int 0, .null, .null, .int 0, .null, .int 0, .null, .null, .null, .null, .null, .null, .int 0, .null, .null, .null]), .inl (0, 20, .inl (fun _ => 0)), .inl (0, 20, .inl (fun _ => 0)), .inl (0, 100, .inl (fun _ => 0)), .inl (0, 20, .inl (fun _ => 0)), .inl (0, 20, .inl (fun _ => 0)), .inl (0, 20, .inl (fun _ => 0)), .inl (0, 20, .inl (fun _ => 0)), .inl (0, 20, .inl (fun _ => 0)), .inl (0, 20, .inl (fun _ => 0)), .inl (0, 20, .inl (fun _ => 0)), .inl (3, 20, .inl (fun _ => 0)), .inl (0, 80, .inl (fun _ => 0))], N + 13, s) = some (gL G0 N (lfM N), N + 36, s') ∧ s' ≤ s + 15726 := by
  obtain ⟨s2, h2, b2⟩ := qX10_init_111 (G0 := G0) (z := z) (N := N) (s := s + 9000)
  refine ⟨s2, ?_, by omega⟩
  unfold fX10_init_102
  refine sN_p rfl ⟨rfl, Nat.le_of_ble_eq_true rfl⟩ ?_
  refine sN_I (k := 9000) rfl (by decide) ?_
  exact h2
set_option maxRecDepth 20000 in
theorem qX10_init_94 {G0 : gM} {z : Nat → Nat} {N s : Nat} : ∃ s', fX10_init_94 (N + 0) (some (N + 11)) (gL G0 N [.inr (11, [.int 0, .int (3 : Int32), .int 0, .ref (N + 1), .ref (N + 2), .ref (N + 3), .ref (N + 4), .ref (N + 5), .ref (N + 6), .ref (N + 7), .ref (N + 8), .ref (N + 9), .ref (N + 10), .null, .null, .null, .int 0, .int 0, .null, .null, .null, .null, .null, .null, .null, .int 0, .null, .null, .null, .int 0, .null, .null, .int 0, .null, .int 0, .null, .null, .null, .null, .null, .null, .int 0, .null, .null, .null]), .inl (0, 20, .inl (fun _ => 0)), .inl (0, 20, .inl (fun _ => 0)), .inl (0, 100, .inl (fun _ => 0)), .inl (0, 20, .inl (fun _ => 0)), .inl (0, 20, .inl (fun _ => 0)), .inl (0, 20, .inl (fun _ => 0)), .inl (0, 20, .inl (fun _ => 0)), .inl (0, 20, .inl (fun _ => 0)), .inl (0, 20, .inl (fun _ => 0)), .inl (0, 20, .inl (fun _ => 0)), .inl (3, 20, .inl (fun _ => 0))], N + 12, s) = some (gL G0 N (lfM N), N + 36, s') ∧ s' ≤ s + 15806 := by
  obtain ⟨s2, h2, b2⟩ := qX10_init_102 (G0 := G0) (z := z) (N := N) (s := s + 80)
  refine ⟨s2, ?_, by omega⟩
  unfold fX10_init_94
  refine sN_p rfl ⟨rfl, Nat.le_of_ble_eq_true rfl⟩ ?_
  refine sN_I (k := 80) rfl (by decide) ?_
  exact h2
set_option maxRecDepth 20000 in
theorem qX10_init_86 {G0 : gM} {z : Nat → Nat} {N s : Nat} : ∃ s', fX10_init_86 (N + 0) (some (N + 10)) (gL G0 N [.inr (11, [.int 0, .int (3 : Int32), .int 0, .ref (N + 1), .ref (N + 2), .ref (N + 3), .ref (N + 4), .ref (N + 5), .ref (N + 6), .ref (N + 7), .ref (N + 8), .ref (N + 9), .null, .null, .null, .null, .int 0, .int 0, .null, .null, .null, .null, .null, .null, .null, .int 0, .null, .null, .null, .int 0, .null, .null, .int 0, .null, .int 0, .null, .null, .null, .null, .null, .null, .int 0, .null, .null, .null]), .inl (0, 20, .inl (fun _ => 0)), .inl (0, 20, .inl (fun _ => 0)), .inl (0, 100, .inl (fun _ => 0)), .inl (0, 20, .inl (fun _ => 0)), .inl (0, 20, .inl (fun _ => 0)), .inl (0, 20, .inl (fun _ => 0)), .inl (0, 20, .inl (fun _ => 0)), .inl (0, 20, .inl (fun _ => 0)), .inl (0, 20, .inl (fun _ => 0)), .inl (0, 20, .inl (fun _ => 0))], N + 11, s) = some (gL G0 N (lfM N), N + 36, s') ∧ s' ≤ s + 15826 := by
  obtain ⟨s2, h2, b2⟩ := qX10_init_94 (G0 := G0) (z := z) (N := N) (s := s + 20)
  refine ⟨s2, ?_, by omega⟩
  unfold fX10_init_86
  refine sN_p rfl ⟨rfl, Nat.le_of_ble_eq_true rfl⟩ ?_
  refine sN_Z (k := 20) rfl (by decide) ?_
  exact h2
set_option maxRecDepth 20000 in
theorem qX10_init_78 {G0 : gM} {z : Nat → Nat} {N s : Nat} : ∃ s', fX10_init_78 (N + 0) (some (N + 9)) (gL G0 N [.inr (11, [.int 0, .int (3 : Int32), .int 0, .ref (N + 1), .ref (N + 2), .ref (N + 3), .ref (N + 4), .ref (N + 5), .ref (N + 6), .ref (N + 7), .ref (N + 8), .null, .null, .null, .null, .null, .int 0, .int 0, .null, .null, .null, .null, .null, .null, .null, .int 0, .null, .null, .null, .int 0, .null, .null, .int 0, .null, .int 0, .null, .null, .null, .null, .null, .null, .int 0, .null, .null, .null]), .inl (0, 20, .inl (fun _ => 0)), .inl (0, 20, .inl (fun _ => 0)), .inl (0, 100, .inl (fun _ => 0)), .inl (0, 20, .inl (fun _ => 0)), .inl (0, 20, .inl (fun _ => 0)), .inl (0, 20, .inl (fun _ => 0)), .inl (0, 20, .inl (fun _ => 0)), .inl (0, 20, .inl (fun _ => 0)), .inl (0, 20, .inl (fun _ => 0))], N + 10, s) = some (gL G0 N (lfM N), N + 36, s') ∧ s' ≤ s + 15846 := by
  obtain ⟨s2, h2, b2⟩ := qX10_init_86 (G0 := G0) (z := z) (N := N) (s := s + 20)
  refine ⟨s2, ?_, by omega⟩
  unfold fX10_init_78
  refine sN_p rfl ⟨rfl, Nat.le_of_ble_eq_true rfl⟩ ?_
  refine sN_I (k := 20) rfl (by decide) ?_
  exact h2
set_option maxRecDepth 20000 in
theorem qX10_init_70 {G0 : gM} {z : Nat → Nat} {N s : Nat} : ∃ s', fX10_init_70 (N + 0) (some (N + 8)) (gL G0 N [.inr (11, [.int 0, .int (3 : Int32), .int 0, .ref (N + 1), .ref (N + 2), .ref (N + 3), .ref (N + 4), .ref (N + 5), .ref (N + 6), .ref (N + 7), .null, .null, .null, .null, .null, .null, .int 0, .int 0, .null, .null, .null, .null, .null, .null, .null, .int 0, .null, .null, .null, .int 0, .null, .null, .int 0, .null, .int 0, .null, .null, .null, .null, .null, .null, .int 0, .null, .null, .null]), .inl (0, 20, .inl (fun _ => 0)), .inl (0, 20, .inl (fun _ => 0)), .inl (0, 100, .inl (fun _ => 0)), .inl (0, 20, .inl (fun _ => 0)), .inl (0, 20, .inl (fun _ => 0)), .inl (0, 20, .inl (fun _ => 0)), .inl (0, 20, .inl (fun _ => 0)), .inl (0, 20, .inl (fun _ => 0))], N + 9, s) = some (gL G0 N (lfM N), N + 36, s') ∧ s' ≤ s + 15866 := by
  obtain ⟨s2, h2, b2⟩ := qX10_init_78 (G0 := G0) (z := z) (N := N) (s := s + 20)
  refine ⟨s2, ?_, by omega⟩
  unfold fX10_init_70
  refine sN_p rfl ⟨rfl, Nat.le_of_ble_eq_true rfl⟩ ?_
  refine sN_I (k := 20) rfl (by decide) ?_
  exact h2
set_option maxRecDepth 20000 in
theorem qX10_init_62 {G0 : gM} {z : Nat → Nat} {N s : Nat} : ∃ s', fX10_init_62 (N + 0) (some (N + 7)) (gL G0 N [.inr (11, [.int 0, .int (3 : Int32), .int 0, .ref (N + 1), .ref (N + 2), .ref (N + 3), .ref (N + 4), .ref (N + 5), .ref (N + 6), .null, .null, .null, .null, .null, .null, .null, .int 0, .int 0, .null, .null, .null, .null, .null, .null, .null, .int 0, .null, .null, .null, .int 0, .null, .null, .int 0, .null, .int 0, .null, .null, .null, .null, .null, .null, .int 0, .null, .null, .null]), .inl (0, 20, .inl (fun _ => 0)), .inl (0, 20, .inl (fun _ => 0)), .inl (0, 100, .inl (fun _ => 0)), .inl (0, 20, .inl (fun _ => 0)), .inl (0, 20, .inl (fun _ => 0)), .inl (0, 20, .inl (fun _ => 0)), .inl (0, 20, .inl (fun _ => 0))], N + 8, s) = some (gL G0 N (lfM N), N + 36, s') ∧ s' ≤ s + 15886 := by
  obtain ⟨s2, h2, b2⟩ := qX10_init_70 (G0 := G0) (z := z) (N := N) (s := s + 20)
  refine ⟨s2, ?_, by omega⟩
  unfold fX10_init_62
  refine sN_p rfl ⟨rfl, Nat.le_of_ble_eq_true rfl⟩ ?_
  refine sN_I (k := 20) rfl (by decide) ?_
  exact h2
set_option maxRecDepth 20000 in
theorem qX10_init_54 {G0 : gM} {z : Nat → Nat} {N s : Nat} : ∃ s', fX10_init_54 (N + 0) (some (N + 6)) (gL G0 N [.inr (11, [.int 0, .int (3 : Int32), .int 0, .ref (N + 1), .ref (N + 2), .ref (N + 3), .ref (N + 4), .ref (N + 5), .null, .null, .null, .null, .null, .null, .null, .null, .int 0, .int 0, .null, .null, .null, .null, .null, .null, .null, .int 0, .null, .null, .null, .int 0, .null, .null, .int 0, .null, .int 0, .null, .null, .null, .null, .null, .null, .int 0, .null, .null, .null]), .inl (0, 20, .inl (fun _ => 0)), .inl (0, 20, .inl (fun _ => 0)), .inl (0, 100, .inl (fun _ => 0)), .inl (0, 20, .inl (fun _ => 0)), .inl (0, 20, .inl (fun _ => 0)), .inl (0, 20, .inl (fun _ => 0))], N + 7, s) = some (gL G0 N (lfM N), N + 36, s') ∧ s' ≤ s + 15906 := by
  obtain ⟨s2, h2, b2⟩ := qX10_init_62 (G0 := G0) (z := z) (N := N) (s := s + 20)
  refine ⟨s2, ?_, by omega⟩
  unfold fX10_init_54
  refine sN_p rfl ⟨rfl, Nat.le_of_ble_eq_true rfl⟩ ?_
  refine sN_I (k := 20) rfl (by decide) ?_
  exact h2
set_option maxRecDepth 20000 in
theorem qX10_init_46 {G0 : gM} {z : Nat → Nat} {N s : Nat} : ∃ s', fX10_init_46 (N + 0) (some (N + 5)) (gL G0 N [.inr (11, [.int 0, .int (3 : Int32), .int 0, .ref (N + 1), .ref (N + 2), .ref (N + 3), .ref (N + 4), .null, .null, .null, .null, .null, .null, .null, .null, .null, .int 0, .int 0, .null, .null, .null, .null, .null, .null, .null, .int 0, .null, .null, .null, .int 0, .null, .null, .int 0, .null, .int 0, .null, .null, .null, .null, .null, .null, .int 0, .null, .null, .null]), .inl (0, 20, .inl (fun _ => 0)), .inl (0, 20, .inl (fun _ => 0)), .inl (0, 100, .inl (fun _ => 0)), .inl (0, 20, .inl (fun _ => 0)), .inl (0, 20, .inl (fun _ => 0))], N + 6, s) = some (gL G0 N (lfM N), N + 36, s') ∧ s' ≤ s + 15926 := by
  obtain ⟨s2, h2, b2⟩ := qX10_init_54 (G0 := G0) (z := z) (N := N) (s := s + 20)
  refine ⟨s2, ?_, by omega⟩
  unfold fX10_init_46
  refine sN_p rfl ⟨rfl, Nat.le_of_ble_eq_true rfl⟩ ?_
  refine sN_I (k := 20) rfl (by decide) ?_
  exact h2
set_option maxRecDepth 20000 in
theorem qX10_init_38 {G0 : gM} {z : Nat → Nat} {N s : Nat} : ∃ s', fX10_init_38 (N + 0) (some (N + 4)) (gL G0 N [.inr (11, [.int 0, .int (3 : Int32), .int 0, .ref (N + 1), .ref (N + 2), .ref (N + 3), .null, .null, .null, .null, .null, .null, .null, .null, .null, .null, .int 0, .int 0, .null, .null, .null, .null, .null, .null, .null, .int 0, .null, .null, .null, .int 0, .null, .null, .int 0, .null, .int 0, .null, .null, .null, .null, .null, .null, .int 0, .null, .null, .null]), .inl (0, 20, .inl (fun _ => 0)), .inl (0, 20, .inl (fun _ => 0)), .inl (0, 100, .inl (fun _ => 0)), .inl (0, 20, .inl (fun _ => 0))], N + 5, s) = some (gL G0 N (lfM N), N + 36, s') ∧ s' ≤ s + 15946 := by
  obtain ⟨s2, h2, b2⟩ := qX10_init_46 (G0 := G0) (z := z) (N := N) (s := s + 20)
  refine ⟨s2, ?_, by omega⟩
  unfold fX10_init_38
  refine sN_p rfl ⟨rfl, Nat.le_of_ble_eq_true rfl⟩ ?_
  refine sN_I (k := 20) rfl (by decide) ?_
  exact h2
set_option maxRecDepth 20000 in
theorem qX10_init_30 {G0 : gM} {z : Nat → Nat} {N s : Nat} : ∃ s', fX10_init_30 (N + 0) (some (N + 3)) (gL G0 N [.inr (11, [.int 0, .int (3 : Int32), .int 0, .ref (N + 1), .ref (N + 2), .null, .null, .null, .null, .null, .null, .null, .null, .null, .null, .null, .int 0, .int 0, .null, .null, .null, .null, .null, .null, .null, .int 0, .null, .null, .null, .int 0, .null, .null, .int 0, .null, .int 0, .null, .null, .null, .null, .null, .null, .int 0, .null, .null, .null]), .inl (0, 20, .inl (fun _ => 0)), .inl (0, 20, .inl (fun _ => 0)), .inl (0, 100, .inl (fun _ => 0))], N + 4, s) = some (gL G0 N (lfM N), N + 36, s') ∧ s' ≤ s + 15966 := by
  obtain ⟨s2, h2, b2⟩ := qX10_init_38 (G0 := G0) (z := z) (N := N) (s := s + 20)
  refine ⟨s2, ?_, by omega⟩
  unfold fX10_init_30
  refine sN_p rfl ⟨rfl, Nat.le_of_ble_eq_true rfl⟩ ?_
  refine sN_I (k := 20) rfl (by decide) ?_
  exact h2
set_option maxRecDepth 20000 in
theorem qX10_init_22 {G0 : gM} {z : Nat → Nat} {N s : Nat} : ∃ s', fX10_init_22 (N + 0) (some (N + 2)) (gL G0 N [.inr (11, [.int 0, .int (3 : Int32), .int 0, .ref (N + 1), .null, .null, .null, .null, .null, .null, .null, .null, .null, .null, .null, .null, .int 0, .int 0, .null, .null, .null, .null, .null, .null, .null, .int 0, .null, .null, .null, .int 0, .null, .null, .int 0, .null, .int 0, .null, .null, .null, .null, .null, .null, .int 0, .null, .null, .null]), .inl (0, 20, .inl (fun _ => 0)), .inl (0, 20, .inl (fun _ => 0))], N + 3, s) = some (gL G0 N (lfM N), N + 36, s') ∧ s' ≤ s + 16066 := by
  obtain ⟨s2, h2, b2⟩ := qX10_init_30 (G0 := G0) (z := z) (N := N) (s := s + 100)
  refine ⟨s2, ?_, by omega⟩
  unfold fX10_init_22
  refine sN_p rfl ⟨rfl, Nat.le_of_ble_eq_true rfl⟩ ?_
  refine sN_I (k := 100) rfl (by decide) ?_
  exact h2
set_option maxRecDepth 20000 in
theorem qX10_init_14 {G0 : gM} {z : Nat → Nat} {N s : Nat} : ∃ s', fX10_init_14 (N + 0) (some (N + 1)) (gL G0 N [.inr (11, [.int 0, .int (3 : Int32), .int 0, .null, .null, .null, .null, .null, .null, .null, .null, .null, .null, .null, .null, .null, .int 0, .int 0, .null, .null, .null, .null, .null, .null, .null, .int 0, .null, .null, .null, .int 0, .null, .null, .int 0, .null, .int 0, .null, .null, .null, .null, .null, .null, .int 0, .null, .null, .null]), .inl (0, 20, .inl (fun _ => 0))], N + 2, s) = some (gL G0 N (lfM N), N + 36, s') ∧ s' ≤ s + 16086 := by
  obtain ⟨s2, h2, b2⟩ := qX10_init_22 (G0 := G0) (z := z) (N := N) (s := s + 20)
  refine ⟨s2, ?_, by omega⟩
  unfold fX10_init_14
  refine sN_p rfl ⟨rfl, Nat.le_of_ble_eq_true rfl⟩ ?_
  refine sN_I (k := 20) rfl (by decide) ?_
  exact h2
set_option maxRecDepth 20000 in
theorem qX10_init {G0 : gM} {z : Nat → Nat} {N s : Nat} : ∃ s', fX10_init (N + 0) (gL G0 N [.inr (11, [.int 0, .int 0, .int 0, .null, .null, .null, .null, .null, .null, .null, .null, .null, .null, .null, .null, .null, .int 0, .int 0, .null, .null, .null, .null, .null, .null, .null, .int 0, .null, .null, .null, .int 0, .null, .null, .int 0, .null, .int 0, .null, .null, .null, .null, .null, .null, .int 0, .null, .null, .null])], N + 1, s) = some (gL G0 N (lfM N), N + 36, s') ∧ s' ≤ s + 16106 := by
  obtain ⟨s2, h2, b2⟩ := qX10_init_14 (G0 := G0) (z := z) (N := N) (s := s + 20)
  refine ⟨s2, ?_, by omega⟩
  unfold fX10_init
  refine sN_p rfl ⟨rfl, Nat.le_of_ble_eq_true rfl⟩ ?_
  refine sN_I (k := 20) rfl (by decide) ?_
  exact h2
