/-! the law, from its entry on -/
abbrev fs10 : List Value := [.null, .null, .null, .null, .null, .null, .null, .null, .null, .null, .null, .null, .int 0, .int 0, .int 0, .int 0]
abbrev fs11 : List Value := [.int 0, .int 0, .int 0, .null, .null, .null, .null, .null, .null, .null, .null, .null, .null, .null, .null, .null, .int 0, .int 0, .null, .null, .null, .null, .null, .null, .null, .int 0, .null, .null, .null, .int 0, .null, .null, .int 0, .null, .int 0, .null, .null, .null, .null, .null, .null, .int 0, .null, .null, .null]
theorem kwL_7 : newOk R_law 7 10 fs10 = true := by decide +kernel
theorem kwL_10 : newOk R_law 10 11 fs11 = true := by decide +kernel
theorem qlI_9 : gW.contains (.methodLink R_law 9 yX9_init) = true ∧ gW.contains (.instanceMethod yX9_init) = true ∧ gW.contains (.initialized yX9_init.cls) = true ∧ gW.contains (Cond.code yX9_init cX9_init 1 none) = true ∧ yX9_init.name = "<init>" ∧ yX9_init.cls ≠ "java/lang/invoke/MethodHandle" ∧ yX9_init.cls ≠ "java/lang/invoke/VarHandle" ∧ (parseMethodDescriptor yX9_init.desc).map (fun d => d.parameters.length) = some 0 := ⟨by decide +kernel, by decide +kernel, by decide +kernel, by decide +kernel, by decide +kernel, by decide +kernel, by decide +kernel, by decide +kernel⟩
theorem qlI_12 : gW.contains (.methodLink R_law 12 yX10_init) = true ∧ gW.contains (.instanceMethod yX10_init) = true ∧ gW.contains (.initialized yX10_init.cls) = true ∧ gW.contains (Cond.code yX10_init cX10_init 1 none) = true ∧ yX10_init.name = "<init>" ∧ yX10_init.cls ≠ "java/lang/invoke/MethodHandle" ∧ yX10_init.cls ≠ "java/lang/invoke/VarHandle" ∧ (parseMethodDescriptor yX10_init.desc).map (fun d => d.parameters.length) = some 0 := ⟨by decide +kernel, by decide +kernel, by decide +kernel, by decide +kernel, by decide +kernel, by decide +kernel, by decide +kernel, by decide +kernel⟩
theorem gL_nil {G : gM} {N : Nat} (h : ∀ a, N ≤ a → G a = none) : gL G N [] = G := by
  funext a
  unfold gL
  by_cases h1 : a < N
  · rw [if_pos h1]
  · rw [if_neg h1, h a (by omega)]
    rfl
theorem nw_L {G0 : gM} {N n s k ci : Nat} {L : List gE} {fs : List Value} (hn : L.length = n) (hk : fs.length = k) : nwO ci fs (gL G0 N L, N + n, s) = some (N + n, (gL G0 N (L ++ [.inr (ci, fs)]), N + (n + 1), s + k)) := by
  rw [← gL_push hn, ← hk]
  rfl
theorem gZ_nar {D : va_G} {ac : Nat → ClassId} {A B : Nat → Prop} {z : Nat → Nat} {s : State} (h : gZ (D, ac, A, z) s) (hAB : ∀ q, B q → A q) : gZ (D, ac, B, z) s := by
  obtain ⟨⟨h1, h0⟩, ⟨h2, h3⟩, ⟨h4, h5⟩, h6, h7, h8, h9⟩ := h
  exact ⟨⟨h1.narrow hAB, h0.narrow hAB⟩, ⟨h2.narrow hAB, h3.narrow hAB⟩, ⟨h4.narrow hAB, h5.narrow hAB⟩, h6, h7, h8, h9⟩
set_option maxHeartbeats 4000000 in
set_option maxRecDepth 20000 in
theorem whole_start {p : Program} {e : Env} {s : State} {m : MethodId} {below : List Frame} {meth : Method} {c : Code} (l : Launch) {b L : Nat} {xs : Nat → Int32} (hL : L ≤ 3072) (C0 : lw_At p s m meth c b L xs) : W p l e room_1 s m #[Value.ref b] below meth c s.heap [] 0 0 (lw_Z below #[Value.ref b] s) (entryFrame m ([Value.ref b] : List Value).toArray 4) := by
  obtain ⟨hx, hb, hr, hml, hown, hts, hX, hbl, hlocks, hgv⟩ := id C0
  obtain ⟨D, ac, z, hK, hZ, hz⟩ := se_env hts hgv
  have C : gC p s m #[Value.ref b] meth c code 4 ret R_law meth.name (D, ac, (fun q => s.heap.size ≤ q), z) := ⟨hx, hb, hml, hown, gW_of hts, hK, hZ, fun q h => h, hr, hlocks, rfl⟩
  have hl := lv_entry ([.ref b]) (n := 4) (Nat.le_of_ble_eq_true rfl)
  rw [lg_entry_eq]
  generalize (lg_sl ([.ref b]) ++ List.replicate (4 - (lg_sl ([.ref b])).length) Slot.unset).toArray = ls at hl ⊢
  have hl : lv_has ls 4 [(0, .ref b)] := hl
  have hG : gAn (D, ac, (fun q => s.heap.size ≤ q), z) 0 (gL (fun _ => none) s.heap.size [], s.heap.size + 0, 0) s.heap := by
    refine ⟨⟨rfl, fun a x h => ?_⟩, Nat.le_refl _⟩
    rw [gL_nil (fun _ _ => rfl)] at h
    cases h
  have hS : va_S (fun q : Nat => s.heap.size ≤ q) s.heap s.heap [] := va_S.rf
  refine W.widen (k := s.heap.size + 0 - s.heap.size) (n := 0 - 0) (by omega) (by omega) ?_
  refine gy_new C hG hS (nw_L (k := 16) rfl rfl) kwL_7 ⟨by show s.heap.size + (0 + 1) - s.heap.size ≤ 600000; omega, by show 0 + 16 - 0 ≤ 7302250; omega⟩ dL_law_0 (fun H hG hS => ?_)
  refine lv_dup hx hb dL_law_3 rfl ?_
  obtain ⟨s1, e1, b1⟩ := qX9_init (G0 := fun _ => none) (z := z) (N := s.heap.size) (s := 0 + 16)
  refine gx_cI C hG.1 hS [] rfl (tX9_init rfl e1) qlI_9 ⟨rfl, rfl, Nat.le_of_ble_eq_true rfl, Nat.le_of_ble_eq_true rfl⟩ ⟨by show s.heap.size + (0 + 1) - s.heap.size + (s.heap.size + 20 - (s.heap.size + 1)) ≤ 600000; omega, by show 0 + 16 - 0 + (s1 - (0 + 16)) ≤ 7302250; omega⟩ rfl hl.1 rfl (Nat.le_of_ble_eq_true rfl) dL_law_4 (fun H locs hG hS => ?_)
  have hn : ∀ a, s.heap.size + 20 ≤ a → gL (fun _ => none) s.heap.size (lfC z s.heap.size) a = none := fun a ha => gL_hi ha
  have hG : gAn (D, ac, (fun q => s.heap.size ≤ q), z) 0 (gL (gL (fun _ => none) s.heap.size (lfC z s.heap.size)) (s.heap.size + 20) [], s.heap.size + 20 + 0, 16 + s1) H := by
    rw [gL_nil hn]
    exact ⟨hG, Nat.zero_le _⟩
  refine W.widen (k := s.heap.size + 20 + 0 - s.heap.size) (n := 16 + s1 - 0) (by show s.heap.size + (0 + 1) - s.heap.size + (s.heap.size + 20 - (s.heap.size + 1)) ≤ _; omega) (by show 0 + 16 - 0 + (s1 - (0 + 16)) ≤ _; omega) ?_
  refine lv_astore_n (lv' := [(1, .ref (s.heap.size + 0)), (0, .ref b)]) hx hb dL_law_7 rfl hl (by decide) rfl (fun ls hl => ?_)
  refine gy_new C hG hS (nw_L (k := 45) rfl rfl) kwL_10 ⟨by show s.heap.size + 20 + (0 + 1) - s.heap.size ≤ 600000; omega, by show 16 + s1 + 45 - 0 ≤ 7302250; omega⟩ dL_law_8 (fun H hG hS => ?_)
  refine lv_dup hx hb dL_law_11 rfl ?_
  obtain ⟨s3, e3, b3⟩ := qX10_init (G0 := gL (fun _ => none) s.heap.size (lfC z s.heap.size)) (z := z) (N := s.heap.size + 20) (s := 16 + s1 + 45)
  refine gx_cI C hG.1 hS [] rfl (tX10_init e3) qlI_12 ⟨rfl, rfl, Nat.le_of_ble_eq_true rfl, Nat.le_of_ble_eq_true rfl⟩ ⟨by show s.heap.size + 20 + (0 + 1) - s.heap.size + (s.heap.size + 20 + 36 - (s.heap.size + 20 + 1)) ≤ 600000; omega, by show 16 + s1 + 45 - 0 + (s3 - (16 + s1 + 45)) ≤ 7302250; omega⟩ rfl hl.1 rfl (Nat.le_of_ble_eq_true rfl) dL_law_12 (fun H locs hG hS => ?_)
  refine W.widen (k := 1000 + 64 * 0) (n := 100000 + 1000 * 0) (by show s.heap.size + 20 + (0 + 1) - s.heap.size + (s.heap.size + 20 + 36 - (s.heap.size + 20 + 1)) ≤ _; omega) (by show 16 + s1 + 45 - 0 + (s3 - (16 + s1 + 45)) ≤ _; omega) ?_
  refine lv_astore_n (lv' := [(2, .ref (s.heap.size + 20 + 0)), (1, .ref (s.heap.size + 0)), (0, .ref b)]) hx hb dL_law_15 rfl hl (by decide) rfl (fun ls hl => ?_)
  refine lv_iconst (v := 0) hx hb dL_law_16 (by decide) ?_
  refine lv_istore_n (lv' := [(3, .int 0), (2, .ref (s.heap.size + 20 + 0)), (1, .ref (s.heap.size + 0)), (0, .ref b)]) hx hb dL_law_17 rfl hl (by decide) rfl (fun ls hl => ?_)
  have B : lB p s m meth c b L xs (D, ac, (fun q => s.heap.size ≤ q ∧ q ∉ mAd (s.heap.size + 20 + 0) (bD (s.heap.size + 20))), z) (s.heap.size + 0) (s.heap.size + 20 + 0) (bD (s.heap.size + 20)) (Inv z (s.heap.size + 0)) :=
    ⟨C0, hK, gZ_nar hZ (fun q h => h.1), fun q => Iff.rfl, fun q hq => by have := (b_in.mp hq).1; omega, b_nd, al_o, al_mono, al_up, al_1⟩
  have hG2 : gAg (D, ac, (fun q => s.heap.size ≤ q ∧ q ∉ mAd (s.heap.size + 20 + 0) (bD (s.heap.size + 20))), z) (gL (fun _ => none) s.heap.size (lfC z s.heap.size)) (s.heap.size + 20 + 36) H := by
    refine ⟨hG.1, fun a x ha => ?_⟩
    have h1 : a < s.heap.size + 20 := by
      rcases Nat.lt_or_ge a (s.heap.size + 20) with q | q
      · exact q
      · rw [hn a q] at ha; cases ha
    have h2 := hG.2 a x ((gL_lo h1).trans ha)
    exact ⟨h2.1, h2.2, fun h => by have := (b_in.mp h).1; omega⟩
  have hP : lE (D, ac, (fun q => s.heap.size ≤ q), z) (s.heap.size + 20 + 0) (bD (s.heap.size + 20)) bV H := b_P hG
  exact law_loop B hL (cB := 1000) (sB := 100000) (Nat.le_refl _) (Nat.le_refl _) (L + 1) 0 (x3 := 0) (by omega) (by omega) rfl (al_mono _ _ _ _ _ (b_inv hz) (by omega)) hG2 hP hS (lv_sub hl [3, 2, 1, 0] rfl)
