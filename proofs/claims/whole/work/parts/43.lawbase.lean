def cSt (z : Nat → Nat) (h : Nat) (op : Nat) (a1 a2 a3 a4 a5 : Int32) (u : gN) : Option (Int32 × gN) := match op with
  | 0 => fX9_thing z h a1 a2 a3 a4 a5 u
  | 1 => cN (fX9_as h a1 a2 u.1) u
  | 2 => cN (fX9_trait h a1 a2 a3 u.1) u
  | 3 => cN (fX9_about h a1 a2 u.1) u
  | 4 => fX9_day h a1 u
  | 5 => cN (fX9_spoil h a1 u.1) u
  | 6 => cN (fX9_known h a1 a2 u.1) u
  | 7 => fX9_seeker z h a1 u
  | 8 => cN (fX9_word h a1 a2 a3 u.1) u
  | 9 => cN (fX9_span h a1 a2 a3 u.1) u
  | 10 => cN (fX9_points h a1 a2 u.1) u
  | 11 => cN (fX9_likeness h a1 a2 u.1) u
  | 12 => cN (fX9_chance h a1 a2 u.1) u
  | 13 => cN (fX9_match h a1 u.1) u
  | 14 => cN (fX9_seen h a1 a2 u.1) u
  | 15 => fX9_answer h a1 a2 a3 u
  | 16 => fX9_back h a1 u
  | 17 => fX9_address z h a1 a2 u
  | 18 => cN (fX9_post h a1 a2 u.1) u
  | 19 => cN (fX9_fits h a1 a2 a3 u.1) u
  | 20 => cN (fX9_likely h a1 a2 a3 u.1) u
  | 21 => cN (fX9_share h a1 a2 a3 u.1) u
  | 22 => cN (fX9_law h a1 a2 u.1) u
  | 23 => cN (fX9_sellable h  u.1) u
  | 24 => fX9_sell z h a1 a2 u
  | 25 => cN (fX9_sold h a1 u.1) u
  | 26 => cN (fX9_owed h a1 a2 a3 u.1) u
  | 27 => fX9_lots z h a1 a2 a3 a4 u
  | 28 => cN (fX9_sorted h a1 a2 u.1) u
  | 29 => cN (fX9_sorter h a1 a2 u.1) u
  | 30 => cN (fX9_money h a1 a2 a3 u.1) u
  | 31 => cN (fX9_counted h a1 u.1) u
  | 32 => fX9_burst z h a1 a2 a3 u
  | 33 => cN (fX9_tell h a1 u.1) u
  | 34 => cN (fX9_check h  u.1) u
  | 35 => cN (fX9_count h a1 u.1) u
  | 36 => cN (fX9_found h a1 u.1) u
  | _ => none
def mSt (op : Nat) (a1 a2 a3 a4 a5 : Int32) (v : mS) : Option (Int32 × mS) := match op with
  | 0 => fX10_thing a1 a2 a3 a4 a5 v
  | 1 => fX10_as a1 a2 v
  | 2 => fX10_trait a1 a2 a3 v
  | 3 => fX10_about a1 a2 v
  | 4 => fX10_day a1 v
  | 5 => fX10_spoil a1 v
  | 6 => fX10_known a1 a2 v
  | 7 => fX10_seeker a1 v
  | 8 => fX10_word a1 a2 a3 v
  | 9 => fX10_span a1 a2 a3 v
  | 10 => fX10_points a1 a2 v
  | 11 => fX10_likeness a1 a2 v
  | 12 => fX10_chance a1 a2 v
  | 13 => fX10_match a1 v
  | 14 => fX10_seen a1 a2 v
  | 15 => fX10_answer a1 a2 a3 v
  | 16 => fX10_back a1 v
  | 17 => fX10_address a1 a2 v
  | 18 => fX10_post a1 a2 v
  | 19 => fX10_fits a1 a2 a3 v
  | 20 => fX10_likely a1 a2 a3 v
  | 21 => fX10_share a1 a2 a3 v
  | 22 => fX10_law a1 a2 v
  | 23 => fX10_sellable  v
  | 24 => fX10_sell a1 a2 v
  | 25 => fX10_sold a1 v
  | 26 => fX10_owed a1 a2 a3 v
  | 27 => fX10_lots a1 a2 a3 a4 v
  | 28 => fX10_sorted a1 a2 v
  | 29 => fX10_sorter a1 a2 v
  | 30 => fX10_money a1 a2 a3 v
  | 31 => fX10_counted a1 v
  | 32 => fX10_burst a1 a2 a3 v
  | 33 => fX10_tell a1 v
  | 34 => fX10_check  v
  | 35 => fX10_count a1 v
  | 36 => fX10_found a1 v
  | _ => none
def mAd (o : Nat) (ad : Nat → Nat) : List Nat := [o, ad 3, ad 4, ad 5, ad 6, ad 7, ad 8, ad 9, ad 10, ad 11, ad 12, ad 13, ad 14, ad 15, ad 18, ad 19, ad 20, ad 21, ad 22, ad 23, ad 24, ad 26, ad 27, ad 28, ad 30, ad 31, ad 33, ad 35, ad 36, ad 37, ad 38, ad 39, ad 40, ad 42, ad 43, ad 44]
theorem mW_ad (cI cZ cJ : ClassId) (o : Nat) (ad : Nat → Nat) (v : mS) : (mW cI cZ cJ o ad v).map (·.1) = mAd o ad := rfl
theorem mW_in {cI cZ cJ : ClassId} {o : Nat} {ad : Nat → Nat} {v : mS} {k : Nat} {q : Nat × va_E} (h : (mW cI cZ cJ o ad v)[k]? = some q) : (mAd o ad)[k]? = some q.1 := by
  rw [← mW_ad cI cZ cJ o ad v, List.getElem?_map, h]
  rfl
theorem mW_D {cI cZ cJ : ClassId} {o : Nat} {ad : Nat → Nat} (hn : (mAd o ad).Nodup) (v : mS) : va_D (fun q => q ∈ mAd o ad) (mW cI cZ cJ o ad v) := by
  refine ⟨fun i j p q hi hj e => ?_, fun k q hk => List.mem_of_getElem? (mW_in hk)⟩
  have h1 := mW_in hi
  have h2 := mW_in hj
  rw [e] at h1
  obtain ⟨l1, e1⟩ := List.getElem?_eq_some_iff.mp h1
  obtain ⟨l2, e2⟩ := List.getElem?_eq_some_iff.mp h2
  exact (List.getElem_inj hn).mp (e1.trans e2.symm)
theorem mW_lt {D : va_G} {cI cZ cJ : ClassId} {o : Nat} {ad : Nat → Nat} {v : mS} {H : Heap} (hP : va_P D vwCl (mW cI cZ cJ o ad v) H) {q : Nat} (hq : q ∈ mAd o ad) : q < H.size := by
  rw [← mW_ad cI cZ cJ o ad v] at hq
  obtain ⟨x, hx, rfl⟩ := List.mem_map.mp hq
  obtain ⟨k, hk⟩ := List.getElem?_of_mem hx
  exact (hP k x hk).lt
/-- what the law's walk stands on: the entry, the class' environment, the reference's addresses, a relation that every call keeps -/
def lB (p : Program) (s : State) (m : MethodId) (meth : Method) (c : Code) (b L : Nat) (xs : Nat → Int32) (Γ : gEnv) (h o : Nat) (ad : Nat → Nat) (Inv : Nat → mS → gM → Nat → Prop) : Prop :=
  lw_At p s m meth c b L xs ∧ va_K Γ.1 vwCl (gT Γ.2.1) s ∧ gZ Γ s ∧ (∀ q, Γ.2.2.1 q ↔ (s.heap.size ≤ q ∧ q ∉ mAd o ad)) ∧ (∀ q ∈ mAd o ad, s.heap.size ≤ q) ∧ (mAd o ad).Nodup ∧
  (∀ k v G N, Inv k v G N → ∃ oc, gO [10] G h = some oc) ∧ (∀ k v G N N', Inv k v G N → N ≤ N' → Inv k v G N') ∧ (∀ k v G N, Inv k v G N → Inv (k + 1) v G N) ∧
  (∀ op, op < 37 → ∀ a1 a2 a3 a4 a5 k v G N, k < 512 → Inv k v G N → ∃ r v' u', mSt op a1 a2 a3 a4 a5 v = some (r, v') ∧ cSt Γ.2.2.2 h op a1 a2 a3 a4 a5 (G, N, 0) = some (r, u') ∧ Inv (k + 1) v' u'.1 u'.2.1 ∧ u'.2.1 ≤ N + 64 ∧ u'.2.2 ≤ 1000)
abbrev lE (Γ : gEnv) (o : Nat) (ad : Nat → Nat) (v : mS) (H : Heap) : Prop := va_P Γ.1 vwCl (mW (Γ.2.1 0) (Γ.2.1 3) (Γ.2.1 1) o ad v) H
section LX
variable {p : Program} {l : Launch} {e : Env} {R : Room} {s : State} {m : MethodId} {below : List Frame} {meth : Method} {c : Code} {H : Heap} {locs : List Loc} {cells slots : Nat} {Q : State → Prop}
variable {b L pc h o : Nat} {xs : Nat → Int32} {Γ : gEnv} {ad : Nat → Nat} {Inv : Nat → mS → gM → Nat → Prop} {G : gM} {N : Nat} {v : mS} {ls : Array Slot} {rest st : List Value}
theorem lx_K {D : va_G} {ac : Nat → ClassId} {U : State} (h : va_K D vwCl (gT ac) U) : va_K D vwCl (mT (ac 0) (ac 3) (ac 1)) U := h.sub (tys' := mT (ac 0) (ac 3) (ac 1)) [0, 3, 1] rfl
theorem lx_cX (B : lB p s m meth c b L xs Γ h o ad Inv) (hG : gAg Γ G N H) (hP : lE Γ o ad v H) (hS : va_S (fun q => s.heap.size ≤ q) s.heap H locs) {y : MethodName} {bytes : ByteArray} {maxL idx n mc ms N' : Nat} {rety : Option FieldType} {rm : Room} {oc : Nat × List Value} {r : Int32} {G' : gM} (As : List Value) (hO : gO [10] G h = some oc)
    (hM : Met l y (Cond.code y bytes maxL rety :: gW) rm (va_Pc (va_rf (some h) :: As) (gPre Γ G N)) (gQ Γ (some (.int r)) G' N') mc ms Γ.2.2.1)
    (hw : GoodIn gW (wsV R_law idx RX9 y (Cond.code y bytes maxL rety :: gW)) ∧ y.cls = RX9 ∧ y.cls ≠ "java/lang/invoke/MethodHandle" ∧ y.cls ≠ "java/lang/invoke/VarHandle" ∧ (parseMethodDescriptor y.desc).map (fun d => d.parameters.length) = some n)
    (hR : rm.cells = mc ∧ rm.slots = ms ∧ rm.frames + 1 ≤ R.frames ∧ 8 + (maxL + 11) + rm.locals ≤ R.locals) (hf : cells + mc ≤ R.cells ∧ slots + ms ≤ R.slots) (hn : As.length = n) (hl : ls.size = 4) (hst : st = As.reverse ++ .ref h :: rest) (hrm : (rest.map fun v => v.category).sum ≤ 8) (hdg : decode code pc = .ok (.invokevirtual idx, 3))
    (kk : ∀ H1 locs1, gAg Γ G' N' H1 → lE Γ o ad v H1 → va_S (fun q => s.heap.size ≤ q) s.heap H1 locs1 → W p l e R s m #[Value.ref b] below meth c H1 locs1 (cells + mc) (slots + ms) Q (F0 m (pc + 3) ls (.int r :: rest))) : W p l e R s m #[Value.ref b] below meth c H locs cells slots Q (F0 m pc ls st) := by
  obtain ⟨⟨hx, hb, hr, hml, hown, hts0, hX, hbl, hlocks, hgv⟩, hK, hZ, hA1, hge, hnd, -⟩ := B
  have hts := gW_of hts0
  subst hst
  obtain ⟨cj, fs⟩ := oc
  obtain ⟨ha, hcj⟩ := gO_inv hO
  cases List.mem_singleton.mp hcj
  have hrun := va_runV (l := l) (e := e) (R := R) (below := below) (meth := meth) (locs := locs) (cells := cells) (slots := slots) (H := H) (g := F0 m pc ls (As.reverse ++ .ref h :: rest)) (As := As) (rest := rest) ⟨hx, hb, hml, hown, hts⟩ hM (cwV n hts hw.1 rfl hR.1 hR.2.1 hw.2 ⟨hR.2.2.1, hR.2.2.2⟩) ⟨gPre_blind, va_recv hK (hG.P1 ha) (ci := 10) (q0 := 0) (q := (RX9, TX9, 16)) rfl rfl, fun U hU hW => ⟨rfl, by rw [hU]; exact hG, va_K.moved hW.alike hK, hZ.at hU (fun a h1 _ => hS.2.1 a h1 (Nat.not_le.mpr h1)) hW, fun q hq => (hA1 q).mpr ⟨Nat.le_trans hS.1 (by rw [← hU]; exact hq), fun hm => by
    have := mW_lt hP hm
    rw [← hU] at this
    omega⟩⟩⟩ rfl hn hl rfl (lv_room hrm) hdg hf
  intro T hT X
  obtain ⟨v0, st₀, t, T', L0, h0, X', hL, e1, e2, ⟨hv, hg, hz, hk⟩, stp⟩ := hrun T hT X
  cases hv
  rw [h0] at hz hk
  obtain ⟨t2, a1, b1⟩ := kk T'.heap (locs ++ L0) (by rw [e1]; exact hg) (by
      rw [e1]
      exact hP.kept (fun k q hq => hk q.1 ((hP k q hq).lt) (fun z => ((hA1 q.1).mp z).2 (List.mem_of_getElem? (mW_in hq)))))
    ⟨Nat.le_trans hS.1 (by rw [e1]; exact hz), fun q h1 h2 => by rw [e1, hk q (Nat.lt_of_lt_of_le h1 hS.1) (fun z => h2 ((hA1 q).mp z).1)]; exact hS.2.1 q h1 h2, fun q hq => by
      rcases List.mem_append.mp hq with h | h
      · exact hS.2.2 q h
      · exact ((hA1 q.base).mp (hL q h)).1⟩ T' rfl X'
  exact ⟨t2, stp t2 a1, b1⟩
theorem lx_cM (B : lB p s m meth c b L xs Γ h o ad Inv) (hG : gAg Γ G N H) (hP : lE Γ o ad v H) (hS : va_S (fun q => s.heap.size ≤ q) s.heap H locs) {y : MethodName} {bytes : ByteArray} {maxL idx n : Nat} {rety : Option FieldType} {rm : Room} {r : Int32} {v' : mS} (As : List Value)
    (hM : Met l y (Cond.code y bytes maxL rety :: gW) rm (va_Pc (.ref o :: As) (mPre Γ.1 (Γ.2.1 0) (Γ.2.1 3) (Γ.2.1 1) o ad (fun q => q ∈ mAd o ad) v)) (mQi Γ.1 (Γ.2.1 0) (Γ.2.1 3) (Γ.2.1 1) o ad (fun q => q ∈ mAd o ad) (r, v')) 0 0 (fun q => q ∈ mAd o ad))
    (hw : GoodIn gW (wsV R_law idx RX10 y (Cond.code y bytes maxL rety :: gW)) ∧ y.cls = RX10 ∧ y.cls ≠ "java/lang/invoke/MethodHandle" ∧ y.cls ≠ "java/lang/invoke/VarHandle" ∧ (parseMethodDescriptor y.desc).map (fun d => d.parameters.length) = some n)
    (hR : rm.cells = 0 ∧ rm.slots = 0 ∧ rm.frames + 1 ≤ R.frames ∧ 8 + (maxL + 11) + rm.locals ≤ R.locals) (hf : cells ≤ R.cells ∧ slots ≤ R.slots) (hn : As.length = n) (hl : ls.size = 4) (hst : st = As.reverse ++ .ref o :: rest) (hrm : (rest.map fun v => v.category).sum ≤ 8) (hdg : decode code pc = .ok (.invokevirtual idx, 3))
    (kk : ∀ H1 locs1 N1, N ≤ N1 → gAg Γ G N1 H1 → lE Γ o ad v' H1 → va_S (fun q => s.heap.size ≤ q) s.heap H1 locs1 → W p l e R s m #[Value.ref b] below meth c H1 locs1 cells slots Q (F0 m (pc + 3) ls (.int r :: rest))) : W p l e R s m #[Value.ref b] below meth c H locs cells slots Q (F0 m pc ls st) := by
  obtain ⟨⟨hx, hb, hr, hml, hown, hts0, hX, hbl, hlocks, hgv⟩, hK, hZ, hA1, hge, hnd, -⟩ := B
  have hts := gW_of hts0
  subst hst
  refine va_calli (A0 := fun q => s.heap.size ≤ q) (va_runV (As := As) (rest := rest) ⟨hx, hb, hml, hown, hts⟩ hM (cwV n hts hw.1 rfl hR.1 hR.2.1 hw.2 ⟨hR.2.2.1, hR.2.2.2⟩) ⟨mPre_blind, va_recv hK hP (ci := 11) (q0 := 0) rfl rfl, fun U hU hW => ⟨rfl, by rw [hU]; exact hP, va_K.moved hW.alike (lx_K hK), mW_D hnd⟩⟩ rfl hn hl rfl (lv_room hrm) hdg hf) hS (fun q _ hq => hge q hq) (fun q hq => hge q hq) (fun r' u' t H1 locs1 ht hvm hp hB hz1 hk1 hS1 => ?_)
  obtain ⟨rfl, rfl⟩ := Prod.mk.inj hp
  refine kk H1 locs1 H1.size (by rw [← hG.1]; exact hz1) ⟨rfl, fun a x ha => ?_⟩ (by rw [← ht]; exact hB) hS1
  have hga := hG.2 a x ha
  have hna : a ∉ mAd o ad := ((hA1 a).mp hga.2).2
  exact ⟨hga.1.kept (hk1 a (by rw [hG.1]; exact hG.lt ha) hna), hga.2⟩
theorem lx_ld (B : lB p s m meth c b L xs Γ h o ad Inv) (hS : va_S (fun q => s.heap.size ≤ q) s.heap H locs) {i : Int32} (hin : vp_in i L) (hdg : decode code pc = .ok (.iaload, 1)) (kk : W p l e R s m #[Value.ref b] below meth c H locs cells slots Q (F0 m (pc + 1) ls (.int (xs i.toNatClampNeg) :: rest))) : W p l e R s m #[Value.ref b] below meth c H locs cells slots Q (F0 m pc ls (.int i :: .ref b :: rest)) := by
  obtain ⟨⟨hx, hb, hr, hml, hown, hts0, hX, hbl, hlocks, hgv⟩, -⟩ := B
  exact va_sld hx hb hX hbl (Nat.not_le.mpr hbl) hS hin hdg kk
theorem lx_in {k j L : Nat} {x3 : Int32} (hk : 6 * k + 6 ≤ L) (hL : L ≤ 3072) (hx : x3 = nI (6 * k)) (hj : j < 6) : vp_in (x3 + nI j) L := by
  rw [hx, nI_add]
  exact vp_in_nI (by omega) (by omega)
end LX
theorem qlX9_0 : GoodIn gW (wsV R_law 13 RX9 yX9_thing (Cond.code yX9_thing cX9_thing 7 (some .int) :: gW)) ∧ yX9_thing.cls = RX9 ∧ yX9_thing.cls ≠ "java/lang/invoke/MethodHandle" ∧ yX9_thing.cls ≠ "java/lang/invoke/VarHandle" ∧ (parseMethodDescriptor yX9_thing.desc).map (fun d => d.parameters.length) = some 5 := ⟨gW_V (by decide +kernel), rfl, by decide +kernel, by decide +kernel, by decide +kernel⟩
theorem qlX10_0 : GoodIn gW (wsV R_law 17 RX10 yX10_thing (Cond.code yX10_thing cX10_thing 8 (some .int) :: gW)) ∧ yX10_thing.cls = RX10 ∧ yX10_thing.cls ≠ "java/lang/invoke/MethodHandle" ∧ yX10_thing.cls ≠ "java/lang/invoke/VarHandle" ∧ (parseMethodDescriptor yX10_thing.desc).map (fun d => d.parameters.length) = some 5 := ⟨gW_V (by decide +kernel), rfl, by decide +kernel, by decide +kernel, by decide +kernel⟩
theorem qlX9_1 : GoodIn gW (wsV R_law 18 RX9 yX9_as (Cond.code yX9_as cX9_as 4 (some .int) :: gW)) ∧ yX9_as.cls = RX9 ∧ yX9_as.cls ≠ "java/lang/invoke/MethodHandle" ∧ yX9_as.cls ≠ "java/lang/invoke/VarHandle" ∧ (parseMethodDescriptor yX9_as.desc).map (fun d => d.parameters.length) = some 2 := ⟨gW_V (by decide +kernel), rfl, by decide +kernel, by decide +kernel, by decide +kernel⟩
theorem qlX10_1 : GoodIn gW (wsV R_law 22 RX10 yX10_as (Cond.code yX10_as cX10_as 3 (some .int) :: gW)) ∧ yX10_as.cls = RX10 ∧ yX10_as.cls ≠ "java/lang/invoke/MethodHandle" ∧ yX10_as.cls ≠ "java/lang/invoke/VarHandle" ∧ (parseMethodDescriptor yX10_as.desc).map (fun d => d.parameters.length) = some 2 := ⟨gW_V (by decide +kernel), rfl, by decide +kernel, by decide +kernel, by decide +kernel⟩
theorem qlX9_2 : GoodIn gW (wsV R_law 23 RX9 yX9_trait (Cond.code yX9_trait cX9_trait 6 (some .int) :: gW)) ∧ yX9_trait.cls = RX9 ∧ yX9_trait.cls ≠ "java/lang/invoke/MethodHandle" ∧ yX9_trait.cls ≠ "java/lang/invoke/VarHandle" ∧ (parseMethodDescriptor yX9_trait.desc).map (fun d => d.parameters.length) = some 3 := ⟨gW_V (by decide +kernel), rfl, by decide +kernel, by decide +kernel, by decide +kernel⟩
theorem qlX10_2 : GoodIn gW (wsV R_law 27 RX10 yX10_trait (Cond.code yX10_trait cX10_trait 5 (some .int) :: gW)) ∧ yX10_trait.cls = RX10 ∧ yX10_trait.cls ≠ "java/lang/invoke/MethodHandle" ∧ yX10_trait.cls ≠ "java/lang/invoke/VarHandle" ∧ (parseMethodDescriptor yX10_trait.desc).map (fun d => d.parameters.length) = some 3 := ⟨gW_V (by decide +kernel), rfl, by decide +kernel, by decide +kernel, by decide +kernel⟩
theorem qlX9_3 : GoodIn gW (wsV R_law 28 RX9 yX9_about (Cond.code yX9_about cX9_about 4 (some .int) :: gW)) ∧ yX9_about.cls = RX9 ∧ yX9_about.cls ≠ "java/lang/invoke/MethodHandle" ∧ yX9_about.cls ≠ "java/lang/invoke/VarHandle" ∧ (parseMethodDescriptor yX9_about.desc).map (fun d => d.parameters.length) = some 2 := ⟨gW_V (by decide +kernel), rfl, by decide +kernel, by decide +kernel, by decide +kernel⟩
theorem qlX10_3 : GoodIn gW (wsV R_law 31 RX10 yX10_about (Cond.code yX10_about cX10_about 3 (some .int) :: gW)) ∧ yX10_about.cls = RX10 ∧ yX10_about.cls ≠ "java/lang/invoke/MethodHandle" ∧ yX10_about.cls ≠ "java/lang/invoke/VarHandle" ∧ (parseMethodDescriptor yX10_about.desc).map (fun d => d.parameters.length) = some 2 := ⟨gW_V (by decide +kernel), rfl, by decide +kernel, by decide +kernel, by decide +kernel⟩
theorem qlX9_4 : GoodIn gW (wsV R_law 32 RX9 yX9_day (Cond.code yX9_day cX9_day 4 (some .int) :: gW)) ∧ yX9_day.cls = RX9 ∧ yX9_day.cls ≠ "java/lang/invoke/MethodHandle" ∧ yX9_day.cls ≠ "java/lang/invoke/VarHandle" ∧ (parseMethodDescriptor yX9_day.desc).map (fun d => d.parameters.length) = some 1 := ⟨gW_V (by decide +kernel), rfl, by decide +kernel, by decide +kernel, by decide +kernel⟩
theorem qlX10_4 : GoodIn gW (wsV R_law 36 RX10 yX10_day (Cond.code yX10_day cX10_day 4 (some .int) :: gW)) ∧ yX10_day.cls = RX10 ∧ yX10_day.cls ≠ "java/lang/invoke/MethodHandle" ∧ yX10_day.cls ≠ "java/lang/invoke/VarHandle" ∧ (parseMethodDescriptor yX10_day.desc).map (fun d => d.parameters.length) = some 1 := ⟨gW_V (by decide +kernel), rfl, by decide +kernel, by decide +kernel, by decide +kernel⟩
theorem qlX9_5 : GoodIn gW (wsV R_law 37 RX9 yX9_spoil (Cond.code yX9_spoil cX9_spoil 3 (some .int) :: gW)) ∧ yX9_spoil.cls = RX9 ∧ yX9_spoil.cls ≠ "java/lang/invoke/MethodHandle" ∧ yX9_spoil.cls ≠ "java/lang/invoke/VarHandle" ∧ (parseMethodDescriptor yX9_spoil.desc).map (fun d => d.parameters.length) = some 1 := ⟨gW_V (by decide +kernel), rfl, by decide +kernel, by decide +kernel, by decide +kernel⟩
theorem qlX10_5 : GoodIn gW (wsV R_law 40 RX10 yX10_spoil (Cond.code yX10_spoil cX10_spoil 3 (some .int) :: gW)) ∧ yX10_spoil.cls = RX10 ∧ yX10_spoil.cls ≠ "java/lang/invoke/MethodHandle" ∧ yX10_spoil.cls ≠ "java/lang/invoke/VarHandle" ∧ (parseMethodDescriptor yX10_spoil.desc).map (fun d => d.parameters.length) = some 1 := ⟨gW_V (by decide +kernel), rfl, by decide +kernel, by decide +kernel, by decide +kernel⟩
theorem qlX9_6 : GoodIn gW (wsV R_law 41 RX9 yX9_known (Cond.code yX9_known cX9_known 4 (some .int) :: gW)) ∧ yX9_known.cls = RX9 ∧ yX9_known.cls ≠ "java/lang/invoke/MethodHandle" ∧ yX9_known.cls ≠ "java/lang/invoke/VarHandle" ∧ (parseMethodDescriptor yX9_known.desc).map (fun d => d.parameters.length) = some 2 := ⟨gW_V (by decide +kernel), rfl, by decide +kernel, by decide +kernel, by decide +kernel⟩
theorem qlX10_6 : GoodIn gW (wsV R_law 44 RX10 yX10_known (Cond.code yX10_known cX10_known 5 (some .int) :: gW)) ∧ yX10_known.cls = RX10 ∧ yX10_known.cls ≠ "java/lang/invoke/MethodHandle" ∧ yX10_known.cls ≠ "java/lang/invoke/VarHandle" ∧ (parseMethodDescriptor yX10_known.desc).map (fun d => d.parameters.length) = some 2 := ⟨gW_V (by decide +kernel), rfl, by decide +kernel, by decide +kernel, by decide +kernel⟩
theorem qlX9_7 : GoodIn gW (wsV R_law 45 RX9 yX9_seeker (Cond.code yX9_seeker cX9_seeker 2 (some .int) :: gW)) ∧ yX9_seeker.cls = RX9 ∧ yX9_seeker.cls ≠ "java/lang/invoke/MethodHandle" ∧ yX9_seeker.cls ≠ "java/lang/invoke/VarHandle" ∧ (parseMethodDescriptor yX9_seeker.desc).map (fun d => d.parameters.length) = some 1 := ⟨gW_V (by decide +kernel), rfl, by decide +kernel, by decide +kernel, by decide +kernel⟩
theorem qlX10_7 : GoodIn gW (wsV R_law 48 RX10 yX10_seeker (Cond.code yX10_seeker cX10_seeker 3 (some .int) :: gW)) ∧ yX10_seeker.cls = RX10 ∧ yX10_seeker.cls ≠ "java/lang/invoke/MethodHandle" ∧ yX10_seeker.cls ≠ "java/lang/invoke/VarHandle" ∧ (parseMethodDescriptor yX10_seeker.desc).map (fun d => d.parameters.length) = some 1 := ⟨gW_V (by decide +kernel), rfl, by decide +kernel, by decide +kernel, by decide +kernel⟩
theorem qlX9_8 : GoodIn gW (wsV R_law 49 RX9 yX9_word (Cond.code yX9_word cX9_word 6 (some .int) :: gW)) ∧ yX9_word.cls = RX9 ∧ yX9_word.cls ≠ "java/lang/invoke/MethodHandle" ∧ yX9_word.cls ≠ "java/lang/invoke/VarHandle" ∧ (parseMethodDescriptor yX9_word.desc).map (fun d => d.parameters.length) = some 3 := ⟨gW_V (by decide +kernel), rfl, by decide +kernel, by decide +kernel, by decide +kernel⟩
theorem qlX10_8 : GoodIn gW (wsV R_law 52 RX10 yX10_word (Cond.code yX10_word cX10_word 5 (some .int) :: gW)) ∧ yX10_word.cls = RX10 ∧ yX10_word.cls ≠ "java/lang/invoke/MethodHandle" ∧ yX10_word.cls ≠ "java/lang/invoke/VarHandle" ∧ (parseMethodDescriptor yX10_word.desc).map (fun d => d.parameters.length) = some 3 := ⟨gW_V (by decide +kernel), rfl, by decide +kernel, by decide +kernel, by decide +kernel⟩
theorem qlX9_9 : GoodIn gW (wsV R_law 53 RX9 yX9_span (Cond.code yX9_span cX9_span 5 (some .int) :: gW)) ∧ yX9_span.cls = RX9 ∧ yX9_span.cls ≠ "java/lang/invoke/MethodHandle" ∧ yX9_span.cls ≠ "java/lang/invoke/VarHandle" ∧ (parseMethodDescriptor yX9_span.desc).map (fun d => d.parameters.length) = some 3 := ⟨gW_V (by decide +kernel), rfl, by decide +kernel, by decide +kernel, by decide +kernel⟩
theorem qlX10_9 : GoodIn gW (wsV R_law 56 RX10 yX10_span (Cond.code yX10_span cX10_span 4 (some .int) :: gW)) ∧ yX10_span.cls = RX10 ∧ yX10_span.cls ≠ "java/lang/invoke/MethodHandle" ∧ yX10_span.cls ≠ "java/lang/invoke/VarHandle" ∧ (parseMethodDescriptor yX10_span.desc).map (fun d => d.parameters.length) = some 3 := ⟨gW_V (by decide +kernel), rfl, by decide +kernel, by decide +kernel, by decide +kernel⟩
theorem qlX9_10 : GoodIn gW (wsV R_law 57 RX9 yX9_points (Cond.code yX9_points cX9_points 4 (some .int) :: gW)) ∧ yX9_points.cls = RX9 ∧ yX9_points.cls ≠ "java/lang/invoke/MethodHandle" ∧ yX9_points.cls ≠ "java/lang/invoke/VarHandle" ∧ (parseMethodDescriptor yX9_points.desc).map (fun d => d.parameters.length) = some 2 := ⟨gW_V (by decide +kernel), rfl, by decide +kernel, by decide +kernel, by decide +kernel⟩
theorem qlX10_10 : GoodIn gW (wsV R_law 60 RX10 yX10_points (Cond.code yX10_points cX10_points 4 (some .int) :: gW)) ∧ yX10_points.cls = RX10 ∧ yX10_points.cls ≠ "java/lang/invoke/MethodHandle" ∧ yX10_points.cls ≠ "java/lang/invoke/VarHandle" ∧ (parseMethodDescriptor yX10_points.desc).map (fun d => d.parameters.length) = some 2 := ⟨gW_V (by decide +kernel), rfl, by decide +kernel, by decide +kernel, by decide +kernel⟩
theorem qlX9_11 : GoodIn gW (wsV R_law 61 RX9 yX9_likeness (Cond.code yX9_likeness cX9_likeness 5 (some .int) :: gW)) ∧ yX9_likeness.cls = RX9 ∧ yX9_likeness.cls ≠ "java/lang/invoke/MethodHandle" ∧ yX9_likeness.cls ≠ "java/lang/invoke/VarHandle" ∧ (parseMethodDescriptor yX9_likeness.desc).map (fun d => d.parameters.length) = some 2 := ⟨gW_V (by decide +kernel), rfl, by decide +kernel, by decide +kernel, by decide +kernel⟩
theorem qlX10_11 : GoodIn gW (wsV R_law 64 RX10 yX10_likeness (Cond.code yX10_likeness cX10_likeness 3 (some .int) :: gW)) ∧ yX10_likeness.cls = RX10 ∧ yX10_likeness.cls ≠ "java/lang/invoke/MethodHandle" ∧ yX10_likeness.cls ≠ "java/lang/invoke/VarHandle" ∧ (parseMethodDescriptor yX10_likeness.desc).map (fun d => d.parameters.length) = some 2 := ⟨gW_V (by decide +kernel), rfl, by decide +kernel, by decide +kernel, by decide +kernel⟩
theorem qlX9_12 : GoodIn gW (wsV R_law 65 RX9 yX9_chance (Cond.code yX9_chance cX9_chance 8 (some .int) :: gW)) ∧ yX9_chance.cls = RX9 ∧ yX9_chance.cls ≠ "java/lang/invoke/MethodHandle" ∧ yX9_chance.cls ≠ "java/lang/invoke/VarHandle" ∧ (parseMethodDescriptor yX9_chance.desc).map (fun d => d.parameters.length) = some 2 := ⟨gW_V (by decide +kernel), rfl, by decide +kernel, by decide +kernel, by decide +kernel⟩
theorem qlX10_12 : GoodIn gW (wsV R_law 68 RX10 yX10_chance (Cond.code yX10_chance cX10_chance 5 (some .int) :: gW)) ∧ yX10_chance.cls = RX10 ∧ yX10_chance.cls ≠ "java/lang/invoke/MethodHandle" ∧ yX10_chance.cls ≠ "java/lang/invoke/VarHandle" ∧ (parseMethodDescriptor yX10_chance.desc).map (fun d => d.parameters.length) = some 2 := ⟨gW_V (by decide +kernel), rfl, by decide +kernel, by decide +kernel, by decide +kernel⟩
theorem qlX9_13 : GoodIn gW (wsV R_law 69 RX9 yX9_match (Cond.code yX9_match cX9_match 5 (some .int) :: gW)) ∧ yX9_match.cls = RX9 ∧ yX9_match.cls ≠ "java/lang/invoke/MethodHandle" ∧ yX9_match.cls ≠ "java/lang/invoke/VarHandle" ∧ (parseMethodDescriptor yX9_match.desc).map (fun d => d.parameters.length) = some 1 := ⟨gW_V (by decide +kernel), rfl, by decide +kernel, by decide +kernel, by decide +kernel⟩
theorem qlX10_13 : GoodIn gW (wsV R_law 72 RX10 yX10_match (Cond.code yX10_match cX10_match 3 (some .int) :: gW)) ∧ yX10_match.cls = RX10 ∧ yX10_match.cls ≠ "java/lang/invoke/MethodHandle" ∧ yX10_match.cls ≠ "java/lang/invoke/VarHandle" ∧ (parseMethodDescriptor yX10_match.desc).map (fun d => d.parameters.length) = some 1 := ⟨gW_V (by decide +kernel), rfl, by decide +kernel, by decide +kernel, by decide +kernel⟩
theorem qlX9_14 : GoodIn gW (wsV R_law 73 RX9 yX9_seen (Cond.code yX9_seen cX9_seen 4 (some .int) :: gW)) ∧ yX9_seen.cls = RX9 ∧ yX9_seen.cls ≠ "java/lang/invoke/MethodHandle" ∧ yX9_seen.cls ≠ "java/lang/invoke/VarHandle" ∧ (parseMethodDescriptor yX9_seen.desc).map (fun d => d.parameters.length) = some 2 := ⟨gW_V (by decide +kernel), rfl, by decide +kernel, by decide +kernel, by decide +kernel⟩
theorem qlX10_14 : GoodIn gW (wsV R_law 76 RX10 yX10_seen (Cond.code yX10_seen cX10_seen 5 (some .int) :: gW)) ∧ yX10_seen.cls = RX10 ∧ yX10_seen.cls ≠ "java/lang/invoke/MethodHandle" ∧ yX10_seen.cls ≠ "java/lang/invoke/VarHandle" ∧ (parseMethodDescriptor yX10_seen.desc).map (fun d => d.parameters.length) = some 2 := ⟨gW_V (by decide +kernel), rfl, by decide +kernel, by decide +kernel, by decide +kernel⟩
theorem qlX9_15 : GoodIn gW (wsV R_law 77 RX9 yX9_answer (Cond.code yX9_answer cX9_answer 6 (some .int) :: gW)) ∧ yX9_answer.cls = RX9 ∧ yX9_answer.cls ≠ "java/lang/invoke/MethodHandle" ∧ yX9_answer.cls ≠ "java/lang/invoke/VarHandle" ∧ (parseMethodDescriptor yX9_answer.desc).map (fun d => d.parameters.length) = some 3 := ⟨gW_V (by decide +kernel), rfl, by decide +kernel, by decide +kernel, by decide +kernel⟩
theorem qlX10_15 : GoodIn gW (wsV R_law 80 RX10 yX10_answer (Cond.code yX10_answer cX10_answer 4 (some .int) :: gW)) ∧ yX10_answer.cls = RX10 ∧ yX10_answer.cls ≠ "java/lang/invoke/MethodHandle" ∧ yX10_answer.cls ≠ "java/lang/invoke/VarHandle" ∧ (parseMethodDescriptor yX10_answer.desc).map (fun d => d.parameters.length) = some 3 := ⟨gW_V (by decide +kernel), rfl, by decide +kernel, by decide +kernel, by decide +kernel⟩
theorem qlX9_16 : GoodIn gW (wsV R_law 81 RX9 yX9_back (Cond.code yX9_back cX9_back 4 (some .int) :: gW)) ∧ yX9_back.cls = RX9 ∧ yX9_back.cls ≠ "java/lang/invoke/MethodHandle" ∧ yX9_back.cls ≠ "java/lang/invoke/VarHandle" ∧ (parseMethodDescriptor yX9_back.desc).map (fun d => d.parameters.length) = some 1 := ⟨gW_V (by decide +kernel), rfl, by decide +kernel, by decide +kernel, by decide +kernel⟩
theorem qlX10_16 : GoodIn gW (wsV R_law 84 RX10 yX10_back (Cond.code yX10_back cX10_back 3 (some .int) :: gW)) ∧ yX10_back.cls = RX10 ∧ yX10_back.cls ≠ "java/lang/invoke/MethodHandle" ∧ yX10_back.cls ≠ "java/lang/invoke/VarHandle" ∧ (parseMethodDescriptor yX10_back.desc).map (fun d => d.parameters.length) = some 1 := ⟨gW_V (by decide +kernel), rfl, by decide +kernel, by decide +kernel, by decide +kernel⟩
theorem qlX9_17 : GoodIn gW (wsV R_law 85 RX9 yX9_address (Cond.code yX9_address cX9_address 3 (some .int) :: gW)) ∧ yX9_address.cls = RX9 ∧ yX9_address.cls ≠ "java/lang/invoke/MethodHandle" ∧ yX9_address.cls ≠ "java/lang/invoke/VarHandle" ∧ (parseMethodDescriptor yX9_address.desc).map (fun d => d.parameters.length) = some 2 := ⟨gW_V (by decide +kernel), rfl, by decide +kernel, by decide +kernel, by decide +kernel⟩
theorem qlX10_17 : GoodIn gW (wsV R_law 88 RX10 yX10_address (Cond.code yX10_address cX10_address 5 (some .int) :: gW)) ∧ yX10_address.cls = RX10 ∧ yX10_address.cls ≠ "java/lang/invoke/MethodHandle" ∧ yX10_address.cls ≠ "java/lang/invoke/VarHandle" ∧ (parseMethodDescriptor yX10_address.desc).map (fun d => d.parameters.length) = some 2 := ⟨gW_V (by decide +kernel), rfl, by decide +kernel, by decide +kernel, by decide +kernel⟩
theorem qlX9_18 : GoodIn gW (wsV R_law 89 RX9 yX9_post (Cond.code yX9_post cX9_post 5 (some .int) :: gW)) ∧ yX9_post.cls = RX9 ∧ yX9_post.cls ≠ "java/lang/invoke/MethodHandle" ∧ yX9_post.cls ≠ "java/lang/invoke/VarHandle" ∧ (parseMethodDescriptor yX9_post.desc).map (fun d => d.parameters.length) = some 2 := ⟨gW_V (by decide +kernel), rfl, by decide +kernel, by decide +kernel, by decide +kernel⟩
theorem qlX10_18 : GoodIn gW (wsV R_law 92 RX10 yX10_post (Cond.code yX10_post cX10_post 4 (some .int) :: gW)) ∧ yX10_post.cls = RX10 ∧ yX10_post.cls ≠ "java/lang/invoke/MethodHandle" ∧ yX10_post.cls ≠ "java/lang/invoke/VarHandle" ∧ (parseMethodDescriptor yX10_post.desc).map (fun d => d.parameters.length) = some 2 := ⟨gW_V (by decide +kernel), rfl, by decide +kernel, by decide +kernel, by decide +kernel⟩
theorem qlX9_19 : GoodIn gW (wsV R_law 93 RX9 yX9_fits (Cond.code yX9_fits cX9_fits 5 (some .int) :: gW)) ∧ yX9_fits.cls = RX9 ∧ yX9_fits.cls ≠ "java/lang/invoke/MethodHandle" ∧ yX9_fits.cls ≠ "java/lang/invoke/VarHandle" ∧ (parseMethodDescriptor yX9_fits.desc).map (fun d => d.parameters.length) = some 3 := ⟨gW_V (by decide +kernel), rfl, by decide +kernel, by decide +kernel, by decide +kernel⟩
theorem qlX10_19 : GoodIn gW (wsV R_law 96 RX10 yX10_fits (Cond.code yX10_fits cX10_fits 4 (some .int) :: gW)) ∧ yX10_fits.cls = RX10 ∧ yX10_fits.cls ≠ "java/lang/invoke/MethodHandle" ∧ yX10_fits.cls ≠ "java/lang/invoke/VarHandle" ∧ (parseMethodDescriptor yX10_fits.desc).map (fun d => d.parameters.length) = some 3 := ⟨gW_V (by decide +kernel), rfl, by decide +kernel, by decide +kernel, by decide +kernel⟩
theorem qlX9_20 : GoodIn gW (wsV R_law 97 RX9 yX9_likely (Cond.code yX9_likely cX9_likely 6 (some .int) :: gW)) ∧ yX9_likely.cls = RX9 ∧ yX9_likely.cls ≠ "java/lang/invoke/MethodHandle" ∧ yX9_likely.cls ≠ "java/lang/invoke/VarHandle" ∧ (parseMethodDescriptor yX9_likely.desc).map (fun d => d.parameters.length) = some 3 := ⟨gW_V (by decide +kernel), rfl, by decide +kernel, by decide +kernel, by decide +kernel⟩
theorem qlX10_20 : GoodIn gW (wsV R_law 100 RX10 yX10_likely (Cond.code yX10_likely cX10_likely 7 (some .int) :: gW)) ∧ yX10_likely.cls = RX10 ∧ yX10_likely.cls ≠ "java/lang/invoke/MethodHandle" ∧ yX10_likely.cls ≠ "java/lang/invoke/VarHandle" ∧ (parseMethodDescriptor yX10_likely.desc).map (fun d => d.parameters.length) = some 3 := ⟨gW_V (by decide +kernel), rfl, by decide +kernel, by decide +kernel, by decide +kernel⟩
theorem qlX9_21 : GoodIn gW (wsV R_law 101 RX9 yX9_share (Cond.code yX9_share cX9_share 8 (some .int) :: gW)) ∧ yX9_share.cls = RX9 ∧ yX9_share.cls ≠ "java/lang/invoke/MethodHandle" ∧ yX9_share.cls ≠ "java/lang/invoke/VarHandle" ∧ (parseMethodDescriptor yX9_share.desc).map (fun d => d.parameters.length) = some 3 := ⟨gW_V (by decide +kernel), rfl, by decide +kernel, by decide +kernel, by decide +kernel⟩
theorem qlX10_21 : GoodIn gW (wsV R_law 104 RX10 yX10_share (Cond.code yX10_share cX10_share 6 (some .int) :: gW)) ∧ yX10_share.cls = RX10 ∧ yX10_share.cls ≠ "java/lang/invoke/MethodHandle" ∧ yX10_share.cls ≠ "java/lang/invoke/VarHandle" ∧ (parseMethodDescriptor yX10_share.desc).map (fun d => d.parameters.length) = some 3 := ⟨gW_V (by decide +kernel), rfl, by decide +kernel, by decide +kernel, by decide +kernel⟩
theorem qlX9_22 : GoodIn gW (wsV R_law 105 RX9 yX9_law (Cond.code yX9_law cX9_law 4 (some .int) :: gW)) ∧ yX9_law.cls = RX9 ∧ yX9_law.cls ≠ "java/lang/invoke/MethodHandle" ∧ yX9_law.cls ≠ "java/lang/invoke/VarHandle" ∧ (parseMethodDescriptor yX9_law.desc).map (fun d => d.parameters.length) = some 2 := ⟨gW_V (by decide +kernel), rfl, by decide +kernel, by decide +kernel, by decide +kernel⟩
theorem qlX10_22 : GoodIn gW (wsV R_law 108 RX10 yX10_law (Cond.code yX10_law cX10_law 4 (some .int) :: gW)) ∧ yX10_law.cls = RX10 ∧ yX10_law.cls ≠ "java/lang/invoke/MethodHandle" ∧ yX10_law.cls ≠ "java/lang/invoke/VarHandle" ∧ (parseMethodDescriptor yX10_law.desc).map (fun d => d.parameters.length) = some 2 := ⟨gW_V (by decide +kernel), rfl, by decide +kernel, by decide +kernel, by decide +kernel⟩
theorem qlX9_23 : GoodIn gW (wsV R_law 109 RX9 yX9_sellable (Cond.code yX9_sellable cX9_sellable 3 (some .int) :: gW)) ∧ yX9_sellable.cls = RX9 ∧ yX9_sellable.cls ≠ "java/lang/invoke/MethodHandle" ∧ yX9_sellable.cls ≠ "java/lang/invoke/VarHandle" ∧ (parseMethodDescriptor yX9_sellable.desc).map (fun d => d.parameters.length) = some 0 := ⟨gW_V (by decide +kernel), rfl, by decide +kernel, by decide +kernel, by decide +kernel⟩
theorem qlX10_23 : GoodIn gW (wsV R_law 113 RX10 yX10_sellable (Cond.code yX10_sellable cX10_sellable 1 (some .int) :: gW)) ∧ yX10_sellable.cls = RX10 ∧ yX10_sellable.cls ≠ "java/lang/invoke/MethodHandle" ∧ yX10_sellable.cls ≠ "java/lang/invoke/VarHandle" ∧ (parseMethodDescriptor yX10_sellable.desc).map (fun d => d.parameters.length) = some 0 := ⟨gW_V (by decide +kernel), rfl, by decide +kernel, by decide +kernel, by decide +kernel⟩
theorem qlX9_24 : GoodIn gW (wsV R_law 114 RX9 yX9_sell (Cond.code yX9_sell cX9_sell 7 (some .int) :: gW)) ∧ yX9_sell.cls = RX9 ∧ yX9_sell.cls ≠ "java/lang/invoke/MethodHandle" ∧ yX9_sell.cls ≠ "java/lang/invoke/VarHandle" ∧ (parseMethodDescriptor yX9_sell.desc).map (fun d => d.parameters.length) = some 2 := ⟨gW_V (by decide +kernel), rfl, by decide +kernel, by decide +kernel, by decide +kernel⟩
theorem qlX10_24 : GoodIn gW (wsV R_law 117 RX10 yX10_sell (Cond.code yX10_sell cX10_sell 7 (some .int) :: gW)) ∧ yX10_sell.cls = RX10 ∧ yX10_sell.cls ≠ "java/lang/invoke/MethodHandle" ∧ yX10_sell.cls ≠ "java/lang/invoke/VarHandle" ∧ (parseMethodDescriptor yX10_sell.desc).map (fun d => d.parameters.length) = some 2 := ⟨gW_V (by decide +kernel), rfl, by decide +kernel, by decide +kernel, by decide +kernel⟩
theorem qlX9_25 : GoodIn gW (wsV R_law 118 RX9 yX9_sold (Cond.code yX9_sold cX9_sold 3 (some .int) :: gW)) ∧ yX9_sold.cls = RX9 ∧ yX9_sold.cls ≠ "java/lang/invoke/MethodHandle" ∧ yX9_sold.cls ≠ "java/lang/invoke/VarHandle" ∧ (parseMethodDescriptor yX9_sold.desc).map (fun d => d.parameters.length) = some 1 := ⟨gW_V (by decide +kernel), rfl, by decide +kernel, by decide +kernel, by decide +kernel⟩
theorem qlX10_25 : GoodIn gW (wsV R_law 121 RX10 yX10_sold (Cond.code yX10_sold cX10_sold 2 (some .int) :: gW)) ∧ yX10_sold.cls = RX10 ∧ yX10_sold.cls ≠ "java/lang/invoke/MethodHandle" ∧ yX10_sold.cls ≠ "java/lang/invoke/VarHandle" ∧ (parseMethodDescriptor yX10_sold.desc).map (fun d => d.parameters.length) = some 1 := ⟨gW_V (by decide +kernel), rfl, by decide +kernel, by decide +kernel, by decide +kernel⟩
theorem qlX9_26 : GoodIn gW (wsV R_law 122 RX9 yX9_owed (Cond.code yX9_owed cX9_owed 7 (some .int) :: gW)) ∧ yX9_owed.cls = RX9 ∧ yX9_owed.cls ≠ "java/lang/invoke/MethodHandle" ∧ yX9_owed.cls ≠ "java/lang/invoke/VarHandle" ∧ (parseMethodDescriptor yX9_owed.desc).map (fun d => d.parameters.length) = some 3 := ⟨gW_V (by decide +kernel), rfl, by decide +kernel, by decide +kernel, by decide +kernel⟩
theorem qlX10_26 : GoodIn gW (wsV R_law 125 RX10 yX10_owed (Cond.code yX10_owed cX10_owed 5 (some .int) :: gW)) ∧ yX10_owed.cls = RX10 ∧ yX10_owed.cls ≠ "java/lang/invoke/MethodHandle" ∧ yX10_owed.cls ≠ "java/lang/invoke/VarHandle" ∧ (parseMethodDescriptor yX10_owed.desc).map (fun d => d.parameters.length) = some 3 := ⟨gW_V (by decide +kernel), rfl, by decide +kernel, by decide +kernel, by decide +kernel⟩
theorem qlX9_27 : GoodIn gW (wsV R_law 126 RX9 yX9_lots (Cond.code yX9_lots cX9_lots 6 (some .int) :: gW)) ∧ yX9_lots.cls = RX9 ∧ yX9_lots.cls ≠ "java/lang/invoke/MethodHandle" ∧ yX9_lots.cls ≠ "java/lang/invoke/VarHandle" ∧ (parseMethodDescriptor yX9_lots.desc).map (fun d => d.parameters.length) = some 4 := ⟨gW_V (by decide +kernel), rfl, by decide +kernel, by decide +kernel, by decide +kernel⟩
theorem qlX10_27 : GoodIn gW (wsV R_law 130 RX10 yX10_lots (Cond.code yX10_lots cX10_lots 9 (some .int) :: gW)) ∧ yX10_lots.cls = RX10 ∧ yX10_lots.cls ≠ "java/lang/invoke/MethodHandle" ∧ yX10_lots.cls ≠ "java/lang/invoke/VarHandle" ∧ (parseMethodDescriptor yX10_lots.desc).map (fun d => d.parameters.length) = some 4 := ⟨gW_V (by decide +kernel), rfl, by decide +kernel, by decide +kernel, by decide +kernel⟩
theorem qlX9_28 : GoodIn gW (wsV R_law 131 RX9 yX9_sorted (Cond.code yX9_sorted cX9_sorted 3 (some .int) :: gW)) ∧ yX9_sorted.cls = RX9 ∧ yX9_sorted.cls ≠ "java/lang/invoke/MethodHandle" ∧ yX9_sorted.cls ≠ "java/lang/invoke/VarHandle" ∧ (parseMethodDescriptor yX9_sorted.desc).map (fun d => d.parameters.length) = some 2 := ⟨gW_V (by decide +kernel), rfl, by decide +kernel, by decide +kernel, by decide +kernel⟩
theorem qlX10_28 : GoodIn gW (wsV R_law 134 RX10 yX10_sorted (Cond.code yX10_sorted cX10_sorted 3 (some .int) :: gW)) ∧ yX10_sorted.cls = RX10 ∧ yX10_sorted.cls ≠ "java/lang/invoke/MethodHandle" ∧ yX10_sorted.cls ≠ "java/lang/invoke/VarHandle" ∧ (parseMethodDescriptor yX10_sorted.desc).map (fun d => d.parameters.length) = some 2 := ⟨gW_V (by decide +kernel), rfl, by decide +kernel, by decide +kernel, by decide +kernel⟩
theorem qlX9_29 : GoodIn gW (wsV R_law 135 RX9 yX9_sorter (Cond.code yX9_sorter cX9_sorter 3 (some .int) :: gW)) ∧ yX9_sorter.cls = RX9 ∧ yX9_sorter.cls ≠ "java/lang/invoke/MethodHandle" ∧ yX9_sorter.cls ≠ "java/lang/invoke/VarHandle" ∧ (parseMethodDescriptor yX9_sorter.desc).map (fun d => d.parameters.length) = some 2 := ⟨gW_V (by decide +kernel), rfl, by decide +kernel, by decide +kernel, by decide +kernel⟩
theorem qlX10_29 : GoodIn gW (wsV R_law 138 RX10 yX10_sorter (Cond.code yX10_sorter cX10_sorter 9 (some .int) :: gW)) ∧ yX10_sorter.cls = RX10 ∧ yX10_sorter.cls ≠ "java/lang/invoke/MethodHandle" ∧ yX10_sorter.cls ≠ "java/lang/invoke/VarHandle" ∧ (parseMethodDescriptor yX10_sorter.desc).map (fun d => d.parameters.length) = some 2 := ⟨gW_V (by decide +kernel), rfl, by decide +kernel, by decide +kernel, by decide +kernel⟩
theorem qlX9_30 : GoodIn gW (wsV R_law 139 RX9 yX9_money (Cond.code yX9_money cX9_money 6 (some .int) :: gW)) ∧ yX9_money.cls = RX9 ∧ yX9_money.cls ≠ "java/lang/invoke/MethodHandle" ∧ yX9_money.cls ≠ "java/lang/invoke/VarHandle" ∧ (parseMethodDescriptor yX9_money.desc).map (fun d => d.parameters.length) = some 3 := ⟨gW_V (by decide +kernel), rfl, by decide +kernel, by decide +kernel, by decide +kernel⟩
theorem qlX10_30 : GoodIn gW (wsV R_law 142 RX10 yX10_money (Cond.code yX10_money cX10_money 6 (some .int) :: gW)) ∧ yX10_money.cls = RX10 ∧ yX10_money.cls ≠ "java/lang/invoke/MethodHandle" ∧ yX10_money.cls ≠ "java/lang/invoke/VarHandle" ∧ (parseMethodDescriptor yX10_money.desc).map (fun d => d.parameters.length) = some 3 := ⟨gW_V (by decide +kernel), rfl, by decide +kernel, by decide +kernel, by decide +kernel⟩
theorem qlX9_31 : GoodIn gW (wsV R_law 143 RX9 yX9_counted (Cond.code yX9_counted cX9_counted 5 (some .int) :: gW)) ∧ yX9_counted.cls = RX9 ∧ yX9_counted.cls ≠ "java/lang/invoke/MethodHandle" ∧ yX9_counted.cls ≠ "java/lang/invoke/VarHandle" ∧ (parseMethodDescriptor yX9_counted.desc).map (fun d => d.parameters.length) = some 1 := ⟨gW_V (by decide +kernel), rfl, by decide +kernel, by decide +kernel, by decide +kernel⟩
theorem qlX10_31 : GoodIn gW (wsV R_law 146 RX10 yX10_counted (Cond.code yX10_counted cX10_counted 7 (some .int) :: gW)) ∧ yX10_counted.cls = RX10 ∧ yX10_counted.cls ≠ "java/lang/invoke/MethodHandle" ∧ yX10_counted.cls ≠ "java/lang/invoke/VarHandle" ∧ (parseMethodDescriptor yX10_counted.desc).map (fun d => d.parameters.length) = some 1 := ⟨gW_V (by decide +kernel), rfl, by decide +kernel, by decide +kernel, by decide +kernel⟩
theorem qlX9_32 : GoodIn gW (wsV R_law 147 RX9 yX9_burst (Cond.code yX9_burst cX9_burst 5 (some .int) :: gW)) ∧ yX9_burst.cls = RX9 ∧ yX9_burst.cls ≠ "java/lang/invoke/MethodHandle" ∧ yX9_burst.cls ≠ "java/lang/invoke/VarHandle" ∧ (parseMethodDescriptor yX9_burst.desc).map (fun d => d.parameters.length) = some 3 := ⟨gW_V (by decide +kernel), rfl, by decide +kernel, by decide +kernel, by decide +kernel⟩
theorem qlX10_32 : GoodIn gW (wsV R_law 150 RX10 yX10_burst (Cond.code yX10_burst cX10_burst 10 (some .int) :: gW)) ∧ yX10_burst.cls = RX10 ∧ yX10_burst.cls ≠ "java/lang/invoke/MethodHandle" ∧ yX10_burst.cls ≠ "java/lang/invoke/VarHandle" ∧ (parseMethodDescriptor yX10_burst.desc).map (fun d => d.parameters.length) = some 3 := ⟨gW_V (by decide +kernel), rfl, by decide +kernel, by decide +kernel, by decide +kernel⟩
theorem qlX9_33 : GoodIn gW (wsV R_law 151 RX9 yX9_tell (Cond.code yX9_tell cX9_tell 2 (some .int) :: gW)) ∧ yX9_tell.cls = RX9 ∧ yX9_tell.cls ≠ "java/lang/invoke/MethodHandle" ∧ yX9_tell.cls ≠ "java/lang/invoke/VarHandle" ∧ (parseMethodDescriptor yX9_tell.desc).map (fun d => d.parameters.length) = some 1 := ⟨gW_V (by decide +kernel), rfl, by decide +kernel, by decide +kernel, by decide +kernel⟩
theorem qlX10_33 : GoodIn gW (wsV R_law 154 RX10 yX10_tell (Cond.code yX10_tell cX10_tell 2 (some .int) :: gW)) ∧ yX10_tell.cls = RX10 ∧ yX10_tell.cls ≠ "java/lang/invoke/MethodHandle" ∧ yX10_tell.cls ≠ "java/lang/invoke/VarHandle" ∧ (parseMethodDescriptor yX10_tell.desc).map (fun d => d.parameters.length) = some 1 := ⟨gW_V (by decide +kernel), rfl, by decide +kernel, by decide +kernel, by decide +kernel⟩
theorem qlX9_34 : GoodIn gW (wsV R_law 155 RX9 yX9_check (Cond.code yX9_check cX9_check 5 (some .int) :: gW)) ∧ yX9_check.cls = RX9 ∧ yX9_check.cls ≠ "java/lang/invoke/MethodHandle" ∧ yX9_check.cls ≠ "java/lang/invoke/VarHandle" ∧ (parseMethodDescriptor yX9_check.desc).map (fun d => d.parameters.length) = some 0 := ⟨gW_V (by decide +kernel), rfl, by decide +kernel, by decide +kernel, by decide +kernel⟩
theorem qlX10_34 : GoodIn gW (wsV R_law 158 RX10 yX10_check (Cond.code yX10_check cX10_check 4 (some .int) :: gW)) ∧ yX10_check.cls = RX10 ∧ yX10_check.cls ≠ "java/lang/invoke/MethodHandle" ∧ yX10_check.cls ≠ "java/lang/invoke/VarHandle" ∧ (parseMethodDescriptor yX10_check.desc).map (fun d => d.parameters.length) = some 0 := ⟨gW_V (by decide +kernel), rfl, by decide +kernel, by decide +kernel, by decide +kernel⟩
theorem qlX9_35 : GoodIn gW (wsV R_law 159 RX9 yX9_count (Cond.code yX9_count cX9_count 2 (some .int) :: gW)) ∧ yX9_count.cls = RX9 ∧ yX9_count.cls ≠ "java/lang/invoke/MethodHandle" ∧ yX9_count.cls ≠ "java/lang/invoke/VarHandle" ∧ (parseMethodDescriptor yX9_count.desc).map (fun d => d.parameters.length) = some 1 := ⟨gW_V (by decide +kernel), rfl, by decide +kernel, by decide +kernel, by decide +kernel⟩
theorem qlX10_35 : GoodIn gW (wsV R_law 162 RX10 yX10_count (Cond.code yX10_count cX10_count 4 (some .int) :: gW)) ∧ yX10_count.cls = RX10 ∧ yX10_count.cls ≠ "java/lang/invoke/MethodHandle" ∧ yX10_count.cls ≠ "java/lang/invoke/VarHandle" ∧ (parseMethodDescriptor yX10_count.desc).map (fun d => d.parameters.length) = some 1 := ⟨gW_V (by decide +kernel), rfl, by decide +kernel, by decide +kernel, by decide +kernel⟩
theorem qlX9_36 : GoodIn gW (wsV R_law 163 RX9 yX9_found (Cond.code yX9_found cX9_found 2 (some .int) :: gW)) ∧ yX9_found.cls = RX9 ∧ yX9_found.cls ≠ "java/lang/invoke/MethodHandle" ∧ yX9_found.cls ≠ "java/lang/invoke/VarHandle" ∧ (parseMethodDescriptor yX9_found.desc).map (fun d => d.parameters.length) = some 1 := ⟨gW_V (by decide +kernel), rfl, by decide +kernel, by decide +kernel, by decide +kernel⟩
theorem qlX10_36 : GoodIn gW (wsV R_law 166 RX10 yX10_found (Cond.code yX10_found cX10_found 2 (some .int) :: gW)) ∧ yX10_found.cls = RX10 ∧ yX10_found.cls ≠ "java/lang/invoke/MethodHandle" ∧ yX10_found.cls ≠ "java/lang/invoke/VarHandle" ∧ (parseMethodDescriptor yX10_found.desc).map (fun d => d.parameters.length) = some 1 := ⟨gW_V (by decide +kernel), rfl, by decide +kernel, by decide +kernel, by decide +kernel⟩
