section LC
variable {p : Program} {l : Launch} {e : Env} {s : State} {m : MethodId} {below : List Frame} {meth : Method} {c : Code} {Q : State → Prop}
variable {b L h o : Nat} {xs : Nat → Int32} {Γ : gEnv} {ad : Nat → Nat} {Inv : Nat → mS → gM → Nat → Prop}
set_option maxHeartbeats 4000000 in
set_option maxRecDepth 20000 in
theorem lc_0 (B : lB p s m meth c b L xs Γ h o ad Inv) (hL : L ≤ 3072) {cB sB k : Nat} {x3 : Int32} (hk : 6 * k + 6 ≤ L) (hcB : cB ≤ 1000) (hsB : sB ≤ 100000) (hx3 : x3 = nI (6 * k)) {v : mS} {G : gM} {N : Nat} {H : Heap} {locs : List Loc} {ls : Array Slot} (hI : Inv k v G N) (hG : gAg Γ G N H) (hP : lE Γ o ad v H) (hS : va_S (fun q => s.heap.size ≤ q) s.heap H locs) (hl : lv_has ls 4 [(0, .ref b), (1, .ref h), (2, .ref o), (3, .int x3)])
    (kk : ∀ (v : mS) (G : gM) (N : Nat) (H : Heap) (locs : List Loc), Inv (k + 1) v G N → gAg Γ G N H → lE Γ o ad v H → va_S (fun q => s.heap.size ≤ q) s.heap H locs → W p l e room_1 s m #[Value.ref b] below meth c H locs (cB + 64 * (k + 1)) (sB + 1000 * (k + 1)) Q (F0 m 1427 ls [])) : W p l e room_1 s m #[Value.ref b] below meth c H locs (cB + 64 * k) (sB + 1000 * k) Q (F0 m 196 ls []) := by
  have hx := B.1.1
  have hb := B.1.2.1
  obtain ⟨oc, hO⟩ := B.2.2.2.2.2.2.1 k v G N hI
  obtain ⟨r, v1, u1, e2, e1, hI1, hb1, hb2⟩ := B.2.2.2.2.2.2.2.2.2 0 (by decide) (xs (x3 + nI 1).toNatClampNeg) (xs (x3 + nI 2).toNatClampNeg) (xs (x3 + nI 3).toNatClampNeg) (xs (x3 + nI 4).toNatClampNeg) (xs (x3 + nI 5).toNatClampNeg) k v G N (by omega) hI
  refine lv_aload_n hx hb dL_law_196 rfl (lv_at hl 1 rfl) ?_
  refine lv_aload_n hx hb dL_law_197 rfl (lv_at hl 0 rfl) ?_
  refine lv_iload_n hx hb dL_law_198 rfl (lv_at hl 3 rfl) ?_
  refine lv_iconst (v := nI 1) hx hb dL_law_199 (by decide) ?_
  refine lv_iadd hx hb dL_law_200 ?_
  refine lx_ld B hS (lx_in hk hL hx3 (by decide : 1 < 6)) dL_law_201 ?_
  refine lv_aload_n hx hb dL_law_202 rfl (lv_at hl 0 rfl) ?_
  refine lv_iload_n hx hb dL_law_203 rfl (lv_at hl 3 rfl) ?_
  refine lv_iconst (v := nI 2) hx hb dL_law_204 (by decide) ?_
  refine lv_iadd hx hb dL_law_205 ?_
  refine lx_ld B hS (lx_in hk hL hx3 (by decide : 2 < 6)) dL_law_206 ?_
  refine lv_aload_n hx hb dL_law_207 rfl (lv_at hl 0 rfl) ?_
  refine lv_iload_n hx hb dL_law_208 rfl (lv_at hl 3 rfl) ?_
  refine lv_iconst (v := nI 3) hx hb dL_law_209 (by decide) ?_
  refine lv_iadd hx hb dL_law_210 ?_
  refine lx_ld B hS (lx_in hk hL hx3 (by decide : 3 < 6)) dL_law_211 ?_
  refine lv_aload_n hx hb dL_law_212 rfl (lv_at hl 0 rfl) ?_
  refine lv_iload_n hx hb dL_law_213 rfl (lv_at hl 3 rfl) ?_
  refine lv_iconst (v := nI 4) hx hb dL_law_214 (by decide) ?_
  refine lv_iadd hx hb dL_law_215 ?_
  refine lx_ld B hS (lx_in hk hL hx3 (by decide : 4 < 6)) dL_law_216 ?_
  refine lv_aload_n hx hb dL_law_217 rfl (lv_at hl 0 rfl) ?_
  refine lv_iload_n hx hb dL_law_218 rfl (lv_at hl 3 rfl) ?_
  refine lv_iconst (v := nI 5) hx hb dL_law_219 (by decide) ?_
  refine lv_iadd hx hb dL_law_220 ?_
  refine lx_ld B hS (lx_in hk hL hx3 (by decide : 5 < 6)) dL_law_221 ?_
  have e3 : fX9_thing Γ.2.2.2 h (xs (x3 + nI 1).toNatClampNeg) (xs (x3 + nI 2).toNatClampNeg) (xs (x3 + nI 3).toNatClampNeg) (xs (x3 + nI 4).toNatClampNeg) (xs (x3 + nI 5).toNatClampNeg) (G, N, 0) = some (r, u1) := e1
  refine lx_cX B hG hP hS [.int (xs (x3 + nI 1).toNatClampNeg), .int (xs (x3 + nI 2).toNatClampNeg), .int (xs (x3 + nI 3).toNatClampNeg), .int (xs (x3 + nI 4).toNatClampNeg), .int (xs (x3 + nI 5).toNatClampNeg)] hO (tX9_thing rfl e3) qlX9_0 ⟨rfl, rfl, Nat.le_of_ble_eq_true rfl, Nat.le_of_ble_eq_true rfl⟩ ⟨by show _ + (u1.2.1 - N) ≤ 600000; omega, by show _ + (u1.2.2 - 0) ≤ 7302250; omega⟩ rfl hl.1 rfl (Nat.le_of_ble_eq_true rfl) dL_law_222 (fun H locs hG hP hS => ?_)
  refine W.widen (k := cB + 64 * k + 64) (n := sB + 1000 * k + 1000) (by show cB + 64 * k + (u1.2.1 - N) ≤ _; omega) (by show sB + 1000 * k + (u1.2.2 - 0) ≤ _; omega) ?_
  refine lv_aload_n hx hb dL_law_225 rfl (lv_at hl 2 rfl) ?_
  refine lv_aload_n hx hb dL_law_226 rfl (lv_at hl 0 rfl) ?_
  refine lv_iload_n hx hb dL_law_227 rfl (lv_at hl 3 rfl) ?_
  refine lv_iconst (v := nI 1) hx hb dL_law_228 (by decide) ?_
  refine lv_iadd hx hb dL_law_229 ?_
  refine lx_ld B hS (lx_in hk hL hx3 (by decide : 1 < 6)) dL_law_230 ?_
  refine lv_aload_n hx hb dL_law_231 rfl (lv_at hl 0 rfl) ?_
  refine lv_iload_n hx hb dL_law_232 rfl (lv_at hl 3 rfl) ?_
  refine lv_iconst (v := nI 2) hx hb dL_law_233 (by decide) ?_
  refine lv_iadd hx hb dL_law_234 ?_
  refine lx_ld B hS (lx_in hk hL hx3 (by decide : 2 < 6)) dL_law_235 ?_
  refine lv_aload_n hx hb dL_law_236 rfl (lv_at hl 0 rfl) ?_
  refine lv_iload_n hx hb dL_law_237 rfl (lv_at hl 3 rfl) ?_
  refine lv_iconst (v := nI 3) hx hb dL_law_238 (by decide) ?_
  refine lv_iadd hx hb dL_law_239 ?_
  refine lx_ld B hS (lx_in hk hL hx3 (by decide : 3 < 6)) dL_law_240 ?_
  refine lv_aload_n hx hb dL_law_241 rfl (lv_at hl 0 rfl) ?_
  refine lv_iload_n hx hb dL_law_242 rfl (lv_at hl 3 rfl) ?_
  refine lv_iconst (v := nI 4) hx hb dL_law_243 (by decide) ?_
  refine lv_iadd hx hb dL_law_244 ?_
  refine lx_ld B hS (lx_in hk hL hx3 (by decide : 4 < 6)) dL_law_245 ?_
  refine lv_aload_n hx hb dL_law_246 rfl (lv_at hl 0 rfl) ?_
  refine lv_iload_n hx hb dL_law_247 rfl (lv_at hl 3 rfl) ?_
  refine lv_iconst (v := nI 5) hx hb dL_law_248 (by decide) ?_
  refine lv_iadd hx hb dL_law_249 ?_
  refine lx_ld B hS (lx_in hk hL hx3 (by decide : 5 < 6)) dL_law_250 ?_
  have e5 : fX10_thing (xs (x3 + nI 1).toNatClampNeg) (xs (x3 + nI 2).toNatClampNeg) (xs (x3 + nI 3).toNatClampNeg) (xs (x3 + nI 4).toNatClampNeg) (xs (x3 + nI 5).toNatClampNeg) v = some (r, v1) := e2
  refine lx_cM B hG hP hS [.int (xs (x3 + nI 1).toNatClampNeg), .int (xs (x3 + nI 2).toNatClampNeg), .int (xs (x3 + nI 3).toNatClampNeg), .int (xs (x3 + nI 4).toNatClampNeg), .int (xs (x3 + nI 5).toNatClampNeg)] (tX10_thing e5) qlX10_0 ⟨rfl, rfl, Nat.le_of_ble_eq_true rfl, Nat.le_of_ble_eq_true rfl⟩ ⟨by show _ ≤ 600000; omega, by show _ ≤ 7302250; omega⟩ rfl hl.1 rfl (Nat.le_of_ble_eq_true rfl) dL_law_251 (fun H locs N1 hN1 hG hP hS => ?_)
  refine lv_icmp_eq (tgt := 1427) hx hb dL_law_254 (by decide) (fun _ => ?_) (fun hc => absurd rfl hc)
  refine W.widen (k := cB + 64 * (k + 1)) (n := sB + 1000 * (k + 1)) (by omega) (by omega) ?_
  exact kk v1 _ N1 H locs (B.2.2.2.2.2.2.2.1 _ _ _ _ _ hI1 hN1) hG hP hS
set_option maxHeartbeats 4000000 in
set_option maxRecDepth 20000 in
theorem lc_1 (B : lB p s m meth c b L xs Γ h o ad Inv) (hL : L ≤ 3072) {cB sB k : Nat} {x3 : Int32} (hk : 6 * k + 6 ≤ L) (hcB : cB ≤ 1000) (hsB : sB ≤ 100000) (hx3 : x3 = nI (6 * k)) {v : mS} {G : gM} {N : Nat} {H : Heap} {locs : List Loc} {ls : Array Slot} (hI : Inv k v G N) (hG : gAg Γ G N H) (hP : lE Γ o ad v H) (hS : va_S (fun q => s.heap.size ≤ q) s.heap H locs) (hl : lv_has ls 4 [(0, .ref b), (1, .ref h), (2, .ref o), (3, .int x3)])
    (kk : ∀ (v : mS) (G : gM) (N : Nat) (H : Heap) (locs : List Loc), Inv (k + 1) v G N → gAg Γ G N H → lE Γ o ad v H → va_S (fun q => s.heap.size ≤ q) s.heap H locs → W p l e room_1 s m #[Value.ref b] below meth c H locs (cB + 64 * (k + 1)) (sB + 1000 * (k + 1)) Q (F0 m 1427 ls [])) : W p l e room_1 s m #[Value.ref b] below meth c H locs (cB + 64 * k) (sB + 1000 * k) Q (F0 m 259 ls []) := by
  have hx := B.1.1
  have hb := B.1.2.1
  obtain ⟨oc, hO⟩ := B.2.2.2.2.2.2.1 k v G N hI
  obtain ⟨r, v1, u1, e2, e1, hI1, hb1, hb2⟩ := B.2.2.2.2.2.2.2.2.2 1 (by decide) (xs (x3 + nI 1).toNatClampNeg) (xs (x3 + nI 2).toNatClampNeg) 0 0 0 k v G N (by omega) hI
  refine lv_aload_n hx hb dL_law_259 rfl (lv_at hl 1 rfl) ?_
  refine lv_aload_n hx hb dL_law_260 rfl (lv_at hl 0 rfl) ?_
  refine lv_iload_n hx hb dL_law_261 rfl (lv_at hl 3 rfl) ?_
  refine lv_iconst (v := nI 1) hx hb dL_law_262 (by decide) ?_
  refine lv_iadd hx hb dL_law_263 ?_
  refine lx_ld B hS (lx_in hk hL hx3 (by decide : 1 < 6)) dL_law_264 ?_
  refine lv_aload_n hx hb dL_law_265 rfl (lv_at hl 0 rfl) ?_
  refine lv_iload_n hx hb dL_law_266 rfl (lv_at hl 3 rfl) ?_
  refine lv_iconst (v := nI 2) hx hb dL_law_267 (by decide) ?_
  refine lv_iadd hx hb dL_law_268 ?_
  refine lx_ld B hS (lx_in hk hL hx3 (by decide : 2 < 6)) dL_law_269 ?_
  have e4 : cN (fX9_as h (xs (x3 + nI 1).toNatClampNeg) (xs (x3 + nI 2).toNatClampNeg) G) (G, N, 0) = some (r, u1) := e1
  obtain ⟨G1, e3, hu1⟩ := cN_inv e4
  rw [hu1] at hI1 hb1 hb2
  refine lx_cX B hG hP hS [.int (xs (x3 + nI 1).toNatClampNeg), .int (xs (x3 + nI 2).toNatClampNeg)] hO (tX9_as e3) qlX9_1 ⟨rfl, rfl, Nat.le_of_ble_eq_true rfl, Nat.le_of_ble_eq_true rfl⟩ ⟨by show _ + 0 ≤ 600000; omega, by show _ + 0 ≤ 7302250; omega⟩ rfl hl.1 rfl (Nat.le_of_ble_eq_true rfl) dL_law_270 (fun H locs hG hP hS => ?_)
  refine W.widen (k := cB + 64 * k + 64) (n := sB + 1000 * k + 1000) (by show cB + 64 * k + 0 ≤ _; omega) (by show sB + 1000 * k + 0 ≤ _; omega) ?_
  refine lv_aload_n hx hb dL_law_273 rfl (lv_at hl 2 rfl) ?_
  refine lv_aload_n hx hb dL_law_274 rfl (lv_at hl 0 rfl) ?_
  refine lv_iload_n hx hb dL_law_275 rfl (lv_at hl 3 rfl) ?_
  refine lv_iconst (v := nI 1) hx hb dL_law_276 (by decide) ?_
  refine lv_iadd hx hb dL_law_277 ?_
  refine lx_ld B hS (lx_in hk hL hx3 (by decide : 1 < 6)) dL_law_278 ?_
  refine lv_aload_n hx hb dL_law_279 rfl (lv_at hl 0 rfl) ?_
  refine lv_iload_n hx hb dL_law_280 rfl (lv_at hl 3 rfl) ?_
  refine lv_iconst (v := nI 2) hx hb dL_law_281 (by decide) ?_
  refine lv_iadd hx hb dL_law_282 ?_
  refine lx_ld B hS (lx_in hk hL hx3 (by decide : 2 < 6)) dL_law_283 ?_
  have e5 : fX10_as (xs (x3 + nI 1).toNatClampNeg) (xs (x3 + nI 2).toNatClampNeg) v = some (r, v1) := e2
  refine lx_cM B hG hP hS [.int (xs (x3 + nI 1).toNatClampNeg), .int (xs (x3 + nI 2).toNatClampNeg)] (tX10_as e5) qlX10_1 ⟨rfl, rfl, Nat.le_of_ble_eq_true rfl, Nat.le_of_ble_eq_true rfl⟩ ⟨by show _ ≤ 600000; omega, by show _ ≤ 7302250; omega⟩ rfl hl.1 rfl (Nat.le_of_ble_eq_true rfl) dL_law_284 (fun H locs N1 hN1 hG hP hS => ?_)
  refine lv_icmp_eq (tgt := 1427) hx hb dL_law_287 (by decide) (fun _ => ?_) (fun hc => absurd rfl hc)
  refine W.widen (k := cB + 64 * (k + 1)) (n := sB + 1000 * (k + 1)) (by omega) (by omega) ?_
  exact kk v1 _ N1 H locs (B.2.2.2.2.2.2.2.1 _ _ _ _ _ hI1 hN1) hG hP hS
set_option maxHeartbeats 4000000 in
set_option maxRecDepth 20000 in
theorem lc_2 (B : lB p s m meth c b L xs Γ h o ad Inv) (hL : L ≤ 3072) {cB sB k : Nat} {x3 : Int32} (hk : 6 * k + 6 ≤ L) (hcB : cB ≤ 1000) (hsB : sB ≤ 100000) (hx3 : x3 = nI (6 * k)) {v : mS} {G : gM} {N : Nat} {H : Heap} {locs : List Loc} {ls : Array Slot} (hI : Inv k v G N) (hG : gAg Γ G N H) (hP : lE Γ o ad v H) (hS : va_S (fun q => s.heap.size ≤ q) s.heap H locs) (hl : lv_has ls 4 [(0, .ref b), (1, .ref h), (2, .ref o), (3, .int x3)])
    (kk : ∀ (v : mS) (G : gM) (N : Nat) (H : Heap) (locs : List Loc), Inv (k + 1) v G N → gAg Γ G N H → lE Γ o ad v H → va_S (fun q => s.heap.size ≤ q) s.heap H locs → W p l e room_1 s m #[Value.ref b] below meth c H locs (cB + 64 * (k + 1)) (sB + 1000 * (k + 1)) Q (F0 m 1427 ls [])) : W p l e room_1 s m #[Value.ref b] below meth c H locs (cB + 64 * k) (sB + 1000 * k) Q (F0 m 292 ls []) := by
  have hx := B.1.1
  have hb := B.1.2.1
  obtain ⟨oc, hO⟩ := B.2.2.2.2.2.2.1 k v G N hI
  obtain ⟨r, v1, u1, e2, e1, hI1, hb1, hb2⟩ := B.2.2.2.2.2.2.2.2.2 2 (by decide) (xs (x3 + nI 1).toNatClampNeg) (xs (x3 + nI 2).toNatClampNeg) (xs (x3 + nI 3).toNatClampNeg) 0 0 k v G N (by omega) hI
  refine lv_aload_n hx hb dL_law_292 rfl (lv_at hl 1 rfl) ?_
  refine lv_aload_n hx hb dL_law_293 rfl (lv_at hl 0 rfl) ?_
  refine lv_iload_n hx hb dL_law_294 rfl (lv_at hl 3 rfl) ?_
  refine lv_iconst (v := nI 1) hx hb dL_law_295 (by decide) ?_
  refine lv_iadd hx hb dL_law_296 ?_
  refine lx_ld B hS (lx_in hk hL hx3 (by decide : 1 < 6)) dL_law_297 ?_
  refine lv_aload_n hx hb dL_law_298 rfl (lv_at hl 0 rfl) ?_
  refine lv_iload_n hx hb dL_law_299 rfl (lv_at hl 3 rfl) ?_
  refine lv_iconst (v := nI 2) hx hb dL_law_300 (by decide) ?_
  refine lv_iadd hx hb dL_law_301 ?_
  refine lx_ld B hS (lx_in hk hL hx3 (by decide : 2 < 6)) dL_law_302 ?_
  refine lv_aload_n hx hb dL_law_303 rfl (lv_at hl 0 rfl) ?_
  refine lv_iload_n hx hb dL_law_304 rfl (lv_at hl 3 rfl) ?_
  refine lv_iconst (v := nI 3) hx hb dL_law_305 (by decide) ?_
  refine lv_iadd hx hb dL_law_306 ?_
  refine lx_ld B hS (lx_in hk hL hx3 (by decide : 3 < 6)) dL_law_307 ?_
  have e4 : cN (fX9_trait h (xs (x3 + nI 1).toNatClampNeg) (xs (x3 + nI 2).toNatClampNeg) (xs (x3 + nI 3).toNatClampNeg) G) (G, N, 0) = some (r, u1) := e1
  obtain ⟨G1, e3, hu1⟩ := cN_inv e4
  rw [hu1] at hI1 hb1 hb2
  refine lx_cX B hG hP hS [.int (xs (x3 + nI 1).toNatClampNeg), .int (xs (x3 + nI 2).toNatClampNeg), .int (xs (x3 + nI 3).toNatClampNeg)] hO (tX9_trait e3) qlX9_2 ⟨rfl, rfl, Nat.le_of_ble_eq_true rfl, Nat.le_of_ble_eq_true rfl⟩ ⟨by show _ + 0 ≤ 600000; omega, by show _ + 0 ≤ 7302250; omega⟩ rfl hl.1 rfl (Nat.le_of_ble_eq_true rfl) dL_law_308 (fun H locs hG hP hS => ?_)
  refine W.widen (k := cB + 64 * k + 64) (n := sB + 1000 * k + 1000) (by show cB + 64 * k + 0 ≤ _; omega) (by show sB + 1000 * k + 0 ≤ _; omega) ?_
  refine lv_aload_n hx hb dL_law_311 rfl (lv_at hl 2 rfl) ?_
  refine lv_aload_n hx hb dL_law_312 rfl (lv_at hl 0 rfl) ?_
  refine lv_iload_n hx hb dL_law_313 rfl (lv_at hl 3 rfl) ?_
  refine lv_iconst (v := nI 1) hx hb dL_law_314 (by decide) ?_
  refine lv_iadd hx hb dL_law_315 ?_
  refine lx_ld B hS (lx_in hk hL hx3 (by decide : 1 < 6)) dL_law_316 ?_
  refine lv_aload_n hx hb dL_law_317 rfl (lv_at hl 0 rfl) ?_
  refine lv_iload_n hx hb dL_law_318 rfl (lv_at hl 3 rfl) ?_
  refine lv_iconst (v := nI 2) hx hb dL_law_319 (by decide) ?_
  refine lv_iadd hx hb dL_law_320 ?_
  refine lx_ld B hS (lx_in hk hL hx3 (by decide : 2 < 6)) dL_law_321 ?_
  refine lv_aload_n hx hb dL_law_322 rfl (lv_at hl 0 rfl) ?_
  refine lv_iload_n hx hb dL_law_323 rfl (lv_at hl 3 rfl) ?_
  refine lv_iconst (v := nI 3) hx hb dL_law_324 (by decide) ?_
  refine lv_iadd hx hb dL_law_325 ?_
  refine lx_ld B hS (lx_in hk hL hx3 (by decide : 3 < 6)) dL_law_326 ?_
  have e5 : fX10_trait (xs (x3 + nI 1).toNatClampNeg) (xs (x3 + nI 2).toNatClampNeg) (xs (x3 + nI 3).toNatClampNeg) v = some (r, v1) := e2
  refine lx_cM B hG hP hS [.int (xs (x3 + nI 1).toNatClampNeg), .int (xs (x3 + nI 2).toNatClampNeg), .int (xs (x3 + nI 3).toNatClampNeg)] (tX10_trait e5) qlX10_2 ⟨rfl, rfl, Nat.le_of_ble_eq_true rfl, Nat.le_of_ble_eq_true rfl⟩ ⟨by show _ ≤ 600000; omega, by show _ ≤ 7302250; omega⟩ rfl hl.1 rfl (Nat.le_of_ble_eq_true rfl) dL_law_327 (fun H locs N1 hN1 hG hP hS => ?_)
  refine lv_icmp_eq (tgt := 1427) hx hb dL_law_330 (by decide) (fun _ => ?_) (fun hc => absurd rfl hc)
  refine W.widen (k := cB + 64 * (k + 1)) (n := sB + 1000 * (k + 1)) (by omega) (by omega) ?_
  exact kk v1 _ N1 H locs (B.2.2.2.2.2.2.2.1 _ _ _ _ _ hI1 hN1) hG hP hS
set_option maxHeartbeats 4000000 in
set_option maxRecDepth 20000 in
theorem lc_3 (B : lB p s m meth c b L xs Γ h o ad Inv) (hL : L ≤ 3072) {cB sB k : Nat} {x3 : Int32} (hk : 6 * k + 6 ≤ L) (hcB : cB ≤ 1000) (hsB : sB ≤ 100000) (hx3 : x3 = nI (6 * k)) {v : mS} {G : gM} {N : Nat} {H : Heap} {locs : List Loc} {ls : Array Slot} (hI : Inv k v G N) (hG : gAg Γ G N H) (hP : lE Γ o ad v H) (hS : va_S (fun q => s.heap.size ≤ q) s.heap H locs) (hl : lv_has ls 4 [(0, .ref b), (1, .ref h), (2, .ref o), (3, .int x3)])
    (kk : ∀ (v : mS) (G : gM) (N : Nat) (H : Heap) (locs : List Loc), Inv (k + 1) v G N → gAg Γ G N H → lE Γ o ad v H → va_S (fun q => s.heap.size ≤ q) s.heap H locs → W p l e room_1 s m #[Value.ref b] below meth c H locs (cB + 64 * (k + 1)) (sB + 1000 * (k + 1)) Q (F0 m 1427 ls [])) : W p l e room_1 s m #[Value.ref b] below meth c H locs (cB + 64 * k) (sB + 1000 * k) Q (F0 m 335 ls []) := by
  have hx := B.1.1
  have hb := B.1.2.1
  obtain ⟨oc, hO⟩ := B.2.2.2.2.2.2.1 k v G N hI
  obtain ⟨r, v1, u1, e2, e1, hI1, hb1, hb2⟩ := B.2.2.2.2.2.2.2.2.2 3 (by decide) (xs (x3 + nI 1).toNatClampNeg) (xs (x3 + nI 2).toNatClampNeg) 0 0 0 k v G N (by omega) hI
  refine lv_aload_n hx hb dL_law_335 rfl (lv_at hl 1 rfl) ?_
  refine lv_aload_n hx hb dL_law_336 rfl (lv_at hl 0 rfl) ?_
  refine lv_iload_n hx hb dL_law_337 rfl (lv_at hl 3 rfl) ?_
  refine lv_iconst (v := nI 1) hx hb dL_law_338 (by decide) ?_
  refine lv_iadd hx hb dL_law_339 ?_
  refine lx_ld B hS (lx_in hk hL hx3 (by decide : 1 < 6)) dL_law_340 ?_
  refine lv_aload_n hx hb dL_law_341 rfl (lv_at hl 0 rfl) ?_
  refine lv_iload_n hx hb dL_law_342 rfl (lv_at hl 3 rfl) ?_
  refine lv_iconst (v := nI 2) hx hb dL_law_343 (by decide) ?_
  refine lv_iadd hx hb dL_law_344 ?_
  refine lx_ld B hS (lx_in hk hL hx3 (by decide : 2 < 6)) dL_law_345 ?_
  have e4 : cN (fX9_about h (xs (x3 + nI 1).toNatClampNeg) (xs (x3 + nI 2).toNatClampNeg) G) (G, N, 0) = some (r, u1) := e1
  obtain ⟨G1, e3, hu1⟩ := cN_inv e4
  rw [hu1] at hI1 hb1 hb2
  refine lx_cX B hG hP hS [.int (xs (x3 + nI 1).toNatClampNeg), .int (xs (x3 + nI 2).toNatClampNeg)] hO (tX9_about e3) qlX9_3 ⟨rfl, rfl, Nat.le_of_ble_eq_true rfl, Nat.le_of_ble_eq_true rfl⟩ ⟨by show _ + 0 ≤ 600000; omega, by show _ + 0 ≤ 7302250; omega⟩ rfl hl.1 rfl (Nat.le_of_ble_eq_true rfl) dL_law_346 (fun H locs hG hP hS => ?_)
  refine W.widen (k := cB + 64 * k + 64) (n := sB + 1000 * k + 1000) (by show cB + 64 * k + 0 ≤ _; omega) (by show sB + 1000 * k + 0 ≤ _; omega) ?_
  refine lv_aload_n hx hb dL_law_349 rfl (lv_at hl 2 rfl) ?_
  refine lv_aload_n hx hb dL_law_350 rfl (lv_at hl 0 rfl) ?_
  refine lv_iload_n hx hb dL_law_351 rfl (lv_at hl 3 rfl) ?_
  refine lv_iconst (v := nI 1) hx hb dL_law_352 (by decide) ?_
  refine lv_iadd hx hb dL_law_353 ?_
  refine lx_ld B hS (lx_in hk hL hx3 (by decide : 1 < 6)) dL_law_354 ?_
  refine lv_aload_n hx hb dL_law_355 rfl (lv_at hl 0 rfl) ?_
  refine lv_iload_n hx hb dL_law_356 rfl (lv_at hl 3 rfl) ?_
  refine lv_iconst (v := nI 2) hx hb dL_law_357 (by decide) ?_
  refine lv_iadd hx hb dL_law_358 ?_
  refine lx_ld B hS (lx_in hk hL hx3 (by decide : 2 < 6)) dL_law_359 ?_
  have e5 : fX10_about (xs (x3 + nI 1).toNatClampNeg) (xs (x3 + nI 2).toNatClampNeg) v = some (r, v1) := e2
  refine lx_cM B hG hP hS [.int (xs (x3 + nI 1).toNatClampNeg), .int (xs (x3 + nI 2).toNatClampNeg)] (tX10_about e5) qlX10_3 ⟨rfl, rfl, Nat.le_of_ble_eq_true rfl, Nat.le_of_ble_eq_true rfl⟩ ⟨by show _ ≤ 600000; omega, by show _ ≤ 7302250; omega⟩ rfl hl.1 rfl (Nat.le_of_ble_eq_true rfl) dL_law_360 (fun H locs N1 hN1 hG hP hS => ?_)
  refine lv_icmp_eq (tgt := 1427) hx hb dL_law_363 (by decide) (fun _ => ?_) (fun hc => absurd rfl hc)
  refine W.widen (k := cB + 64 * (k + 1)) (n := sB + 1000 * (k + 1)) (by omega) (by omega) ?_
  exact kk v1 _ N1 H locs (B.2.2.2.2.2.2.2.1 _ _ _ _ _ hI1 hN1) hG hP hS
set_option maxHeartbeats 4000000 in
set_option maxRecDepth 20000 in
theorem lc_4 (B : lB p s m meth c b L xs Γ h o ad Inv) (hL : L ≤ 3072) {cB sB k : Nat} {x3 : Int32} (hk : 6 * k + 6 ≤ L) (hcB : cB ≤ 1000) (hsB : sB ≤ 100000) (hx3 : x3 = nI (6 * k)) {v : mS} {G : gM} {N : Nat} {H : Heap} {locs : List Loc} {ls : Array Slot} (hI : Inv k v G N) (hG : gAg Γ G N H) (hP : lE Γ o ad v H) (hS : va_S (fun q => s.heap.size ≤ q) s.heap H locs) (hl : lv_has ls 4 [(0, .ref b), (1, .ref h), (2, .ref o), (3, .int x3)])
    (kk : ∀ (v : mS) (G : gM) (N : Nat) (H : Heap) (locs : List Loc), Inv (k + 1) v G N → gAg Γ G N H → lE Γ o ad v H → va_S (fun q => s.heap.size ≤ q) s.heap H locs → W p l e room_1 s m #[Value.ref b] below meth c H locs (cB + 64 * (k + 1)) (sB + 1000 * (k + 1)) Q (F0 m 1427 ls [])) : W p l e room_1 s m #[Value.ref b] below meth c H locs (cB + 64 * k) (sB + 1000 * k) Q (F0 m 368 ls []) := by
  have hx := B.1.1
  have hb := B.1.2.1
  obtain ⟨oc, hO⟩ := B.2.2.2.2.2.2.1 k v G N hI
  obtain ⟨r, v1, u1, e2, e1, hI1, hb1, hb2⟩ := B.2.2.2.2.2.2.2.2.2 4 (by decide) (xs (x3 + nI 1).toNatClampNeg) 0 0 0 0 k v G N (by omega) hI
  refine lv_aload_n hx hb dL_law_368 rfl (lv_at hl 1 rfl) ?_
  refine lv_aload_n hx hb dL_law_369 rfl (lv_at hl 0 rfl) ?_
  refine lv_iload_n hx hb dL_law_370 rfl (lv_at hl 3 rfl) ?_
  refine lv_iconst (v := nI 1) hx hb dL_law_371 (by decide) ?_
  refine lv_iadd hx hb dL_law_372 ?_
  refine lx_ld B hS (lx_in hk hL hx3 (by decide : 1 < 6)) dL_law_373 ?_
  have e3 : fX9_day h (xs (x3 + nI 1).toNatClampNeg) (G, N, 0) = some (r, u1) := e1
  refine lx_cX B hG hP hS [.int (xs (x3 + nI 1).toNatClampNeg)] hO (tX9_day e3) qlX9_4 ⟨rfl, rfl, Nat.le_of_ble_eq_true rfl, Nat.le_of_ble_eq_true rfl⟩ ⟨by show _ + (u1.2.1 - N) ≤ 600000; omega, by show _ + (u1.2.2 - 0) ≤ 7302250; omega⟩ rfl hl.1 rfl (Nat.le_of_ble_eq_true rfl) dL_law_374 (fun H locs hG hP hS => ?_)
  refine W.widen (k := cB + 64 * k + 64) (n := sB + 1000 * k + 1000) (by show cB + 64 * k + (u1.2.1 - N) ≤ _; omega) (by show sB + 1000 * k + (u1.2.2 - 0) ≤ _; omega) ?_
  refine lv_aload_n hx hb dL_law_377 rfl (lv_at hl 2 rfl) ?_
  refine lv_aload_n hx hb dL_law_378 rfl (lv_at hl 0 rfl) ?_
  refine lv_iload_n hx hb dL_law_379 rfl (lv_at hl 3 rfl) ?_
  refine lv_iconst (v := nI 1) hx hb dL_law_380 (by decide) ?_
  refine lv_iadd hx hb dL_law_381 ?_
  refine lx_ld B hS (lx_in hk hL hx3 (by decide : 1 < 6)) dL_law_382 ?_
  have e5 : fX10_day (xs (x3 + nI 1).toNatClampNeg) v = some (r, v1) := e2
  refine lx_cM B hG hP hS [.int (xs (x3 + nI 1).toNatClampNeg)] (tX10_day e5) qlX10_4 ⟨rfl, rfl, Nat.le_of_ble_eq_true rfl, Nat.le_of_ble_eq_true rfl⟩ ⟨by show _ ≤ 600000; omega, by show _ ≤ 7302250; omega⟩ rfl hl.1 rfl (Nat.le_of_ble_eq_true rfl) dL_law_383 (fun H locs N1 hN1 hG hP hS => ?_)
  refine lv_icmp_eq (tgt := 1427) hx hb dL_law_386 (by decide) (fun _ => ?_) (fun hc => absurd rfl hc)
  refine W.widen (k := cB + 64 * (k + 1)) (n := sB + 1000 * (k + 1)) (by omega) (by omega) ?_
  exact kk v1 _ N1 H locs (B.2.2.2.2.2.2.2.1 _ _ _ _ _ hI1 hN1) hG hP hS
set_option maxHeartbeats 4000000 in
set_option maxRecDepth 20000 in
theorem lc_5 (B : lB p s m meth c b L xs Γ h o ad Inv) (hL : L ≤ 3072) {cB sB k : Nat} {x3 : Int32} (hk : 6 * k + 6 ≤ L) (hcB : cB ≤ 1000) (hsB : sB ≤ 100000) (hx3 : x3 = nI (6 * k)) {v : mS} {G : gM} {N : Nat} {H : Heap} {locs : List Loc} {ls : Array Slot} (hI : Inv k v G N) (hG : gAg Γ G N H) (hP : lE Γ o ad v H) (hS : va_S (fun q => s.heap.size ≤ q) s.heap H locs) (hl : lv_has ls 4 [(0, .ref b), (1, .ref h), (2, .ref o), (3, .int x3)])
    (kk : ∀ (v : mS) (G : gM) (N : Nat) (H : Heap) (locs : List Loc), Inv (k + 1) v G N → gAg Γ G N H → lE Γ o ad v H → va_S (fun q => s.heap.size ≤ q) s.heap H locs → W p l e room_1 s m #[Value.ref b] below meth c H locs (cB + 64 * (k + 1)) (sB + 1000 * (k + 1)) Q (F0 m 1427 ls [])) : W p l e room_1 s m #[Value.ref b] below meth c H locs (cB + 64 * k) (sB + 1000 * k) Q (F0 m 391 ls []) := by
  have hx := B.1.1
  have hb := B.1.2.1
  obtain ⟨oc, hO⟩ := B.2.2.2.2.2.2.1 k v G N hI
  obtain ⟨r, v1, u1, e2, e1, hI1, hb1, hb2⟩ := B.2.2.2.2.2.2.2.2.2 5 (by decide) (xs (x3 + nI 1).toNatClampNeg) 0 0 0 0 k v G N (by omega) hI
  refine lv_aload_n hx hb dL_law_391 rfl (lv_at hl 1 rfl) ?_
  refine lv_aload_n hx hb dL_law_392 rfl (lv_at hl 0 rfl) ?_
  refine lv_iload_n hx hb dL_law_393 rfl (lv_at hl 3 rfl) ?_
  refine lv_iconst (v := nI 1) hx hb dL_law_394 (by decide) ?_
  refine lv_iadd hx hb dL_law_395 ?_
  refine lx_ld B hS (lx_in hk hL hx3 (by decide : 1 < 6)) dL_law_396 ?_
  have e4 : cN (fX9_spoil h (xs (x3 + nI 1).toNatClampNeg) G) (G, N, 0) = some (r, u1) := e1
  obtain ⟨G1, e3, hu1⟩ := cN_inv e4
  rw [hu1] at hI1 hb1 hb2
  refine lx_cX B hG hP hS [.int (xs (x3 + nI 1).toNatClampNeg)] hO (tX9_spoil e3) qlX9_5 ⟨rfl, rfl, Nat.le_of_ble_eq_true rfl, Nat.le_of_ble_eq_true rfl⟩ ⟨by show _ + 0 ≤ 600000; omega, by show _ + 0 ≤ 7302250; omega⟩ rfl hl.1 rfl (Nat.le_of_ble_eq_true rfl) dL_law_397 (fun H locs hG hP hS => ?_)
  refine W.widen (k := cB + 64 * k + 64) (n := sB + 1000 * k + 1000) (by show cB + 64 * k + 0 ≤ _; omega) (by show sB + 1000 * k + 0 ≤ _; omega) ?_
  refine lv_aload_n hx hb dL_law_400 rfl (lv_at hl 2 rfl) ?_
  refine lv_aload_n hx hb dL_law_401 rfl (lv_at hl 0 rfl) ?_
  refine lv_iload_n hx hb dL_law_402 rfl (lv_at hl 3 rfl) ?_
  refine lv_iconst (v := nI 1) hx hb dL_law_403 (by decide) ?_
  refine lv_iadd hx hb dL_law_404 ?_
  refine lx_ld B hS (lx_in hk hL hx3 (by decide : 1 < 6)) dL_law_405 ?_
  have e5 : fX10_spoil (xs (x3 + nI 1).toNatClampNeg) v = some (r, v1) := e2
  refine lx_cM B hG hP hS [.int (xs (x3 + nI 1).toNatClampNeg)] (tX10_spoil e5) qlX10_5 ⟨rfl, rfl, Nat.le_of_ble_eq_true rfl, Nat.le_of_ble_eq_true rfl⟩ ⟨by show _ ≤ 600000; omega, by show _ ≤ 7302250; omega⟩ rfl hl.1 rfl (Nat.le_of_ble_eq_true rfl) dL_law_406 (fun H locs N1 hN1 hG hP hS => ?_)
  refine lv_icmp_eq (tgt := 1427) hx hb dL_law_409 (by decide) (fun _ => ?_) (fun hc => absurd rfl hc)
  refine W.widen (k := cB + 64 * (k + 1)) (n := sB + 1000 * (k + 1)) (by omega) (by omega) ?_
  exact kk v1 _ N1 H locs (B.2.2.2.2.2.2.2.1 _ _ _ _ _ hI1 hN1) hG hP hS
set_option maxHeartbeats 4000000 in
set_option maxRecDepth 20000 in
theorem lc_6 (B : lB p s m meth c b L xs Γ h o ad Inv) (hL : L ≤ 3072) {cB sB k : Nat} {x3 : Int32} (hk : 6 * k + 6 ≤ L) (hcB : cB ≤ 1000) (hsB : sB ≤ 100000) (hx3 : x3 = nI (6 * k)) {v : mS} {G : gM} {N : Nat} {H : Heap} {locs : List Loc} {ls : Array Slot} (hI : Inv k v G N) (hG : gAg Γ G N H) (hP : lE Γ o ad v H) (hS : va_S (fun q => s.heap.size ≤ q) s.heap H locs) (hl : lv_has ls 4 [(0, .ref b), (1, .ref h), (2, .ref o), (3, .int x3)])
    (kk : ∀ (v : mS) (G : gM) (N : Nat) (H : Heap) (locs : List Loc), Inv (k + 1) v G N → gAg Γ G N H → lE Γ o ad v H → va_S (fun q => s.heap.size ≤ q) s.heap H locs → W p l e room_1 s m #[Value.ref b] below meth c H locs (cB + 64 * (k + 1)) (sB + 1000 * (k + 1)) Q (F0 m 1427 ls [])) : W p l e room_1 s m #[Value.ref b] below meth c H locs (cB + 64 * k) (sB + 1000 * k) Q (F0 m 414 ls []) := by
  have hx := B.1.1
  have hb := B.1.2.1
  obtain ⟨oc, hO⟩ := B.2.2.2.2.2.2.1 k v G N hI
  obtain ⟨r, v1, u1, e2, e1, hI1, hb1, hb2⟩ := B.2.2.2.2.2.2.2.2.2 6 (by decide) (xs (x3 + nI 1).toNatClampNeg) (xs (x3 + nI 2).toNatClampNeg) 0 0 0 k v G N (by omega) hI
  refine lv_aload_n hx hb dL_law_414 rfl (lv_at hl 1 rfl) ?_
  refine lv_aload_n hx hb dL_law_415 rfl (lv_at hl 0 rfl) ?_
  refine lv_iload_n hx hb dL_law_416 rfl (lv_at hl 3 rfl) ?_
  refine lv_iconst (v := nI 1) hx hb dL_law_417 (by decide) ?_
  refine lv_iadd hx hb dL_law_418 ?_
  refine lx_ld B hS (lx_in hk hL hx3 (by decide : 1 < 6)) dL_law_419 ?_
  refine lv_aload_n hx hb dL_law_420 rfl (lv_at hl 0 rfl) ?_
  refine lv_iload_n hx hb dL_law_421 rfl (lv_at hl 3 rfl) ?_
  refine lv_iconst (v := nI 2) hx hb dL_law_422 (by decide) ?_
  refine lv_iadd hx hb dL_law_423 ?_
  refine lx_ld B hS (lx_in hk hL hx3 (by decide : 2 < 6)) dL_law_424 ?_
  have e4 : cN (fX9_known h (xs (x3 + nI 1).toNatClampNeg) (xs (x3 + nI 2).toNatClampNeg) G) (G, N, 0) = some (r, u1) := e1
  obtain ⟨G1, e3, hu1⟩ := cN_inv e4
  rw [hu1] at hI1 hb1 hb2
  refine lx_cX B hG hP hS [.int (xs (x3 + nI 1).toNatClampNeg), .int (xs (x3 + nI 2).toNatClampNeg)] hO (tX9_known e3) qlX9_6 ⟨rfl, rfl, Nat.le_of_ble_eq_true rfl, Nat.le_of_ble_eq_true rfl⟩ ⟨by show _ + 0 ≤ 600000; omega, by show _ + 0 ≤ 7302250; omega⟩ rfl hl.1 rfl (Nat.le_of_ble_eq_true rfl) dL_law_425 (fun H locs hG hP hS => ?_)
  refine W.widen (k := cB + 64 * k + 64) (n := sB + 1000 * k + 1000) (by show cB + 64 * k + 0 ≤ _; omega) (by show sB + 1000 * k + 0 ≤ _; omega) ?_
  refine lv_aload_n hx hb dL_law_428 rfl (lv_at hl 2 rfl) ?_
  refine lv_aload_n hx hb dL_law_429 rfl (lv_at hl 0 rfl) ?_
  refine lv_iload_n hx hb dL_law_430 rfl (lv_at hl 3 rfl) ?_
  refine lv_iconst (v := nI 1) hx hb dL_law_431 (by decide) ?_
  refine lv_iadd hx hb dL_law_432 ?_
  refine lx_ld B hS (lx_in hk hL hx3 (by decide : 1 < 6)) dL_law_433 ?_
  refine lv_aload_n hx hb dL_law_434 rfl (lv_at hl 0 rfl) ?_
  refine lv_iload_n hx hb dL_law_435 rfl (lv_at hl 3 rfl) ?_
  refine lv_iconst (v := nI 2) hx hb dL_law_436 (by decide) ?_
  refine lv_iadd hx hb dL_law_437 ?_
  refine lx_ld B hS (lx_in hk hL hx3 (by decide : 2 < 6)) dL_law_438 ?_
  have e5 : fX10_known (xs (x3 + nI 1).toNatClampNeg) (xs (x3 + nI 2).toNatClampNeg) v = some (r, v1) := e2
  refine lx_cM B hG hP hS [.int (xs (x3 + nI 1).toNatClampNeg), .int (xs (x3 + nI 2).toNatClampNeg)] (tX10_known e5) qlX10_6 ⟨rfl, rfl, Nat.le_of_ble_eq_true rfl, Nat.le_of_ble_eq_true rfl⟩ ⟨by show _ ≤ 600000; omega, by show _ ≤ 7302250; omega⟩ rfl hl.1 rfl (Nat.le_of_ble_eq_true rfl) dL_law_439 (fun H locs N1 hN1 hG hP hS => ?_)
  refine lv_icmp_eq (tgt := 1427) hx hb dL_law_442 (by decide) (fun _ => ?_) (fun hc => absurd rfl hc)
  refine W.widen (k := cB + 64 * (k + 1)) (n := sB + 1000 * (k + 1)) (by omega) (by omega) ?_
  exact kk v1 _ N1 H locs (B.2.2.2.2.2.2.2.1 _ _ _ _ _ hI1 hN1) hG hP hS
set_option maxHeartbeats 4000000 in
set_option maxRecDepth 20000 in
theorem lc_7 (B : lB p s m meth c b L xs Γ h o ad Inv) (hL : L ≤ 3072) {cB sB k : Nat} {x3 : Int32} (hk : 6 * k + 6 ≤ L) (hcB : cB ≤ 1000) (hsB : sB ≤ 100000) (hx3 : x3 = nI (6 * k)) {v : mS} {G : gM} {N : Nat} {H : Heap} {locs : List Loc} {ls : Array Slot} (hI : Inv k v G N) (hG : gAg Γ G N H) (hP : lE Γ o ad v H) (hS : va_S (fun q => s.heap.size ≤ q) s.heap H locs) (hl : lv_has ls 4 [(0, .ref b), (1, .ref h), (2, .ref o), (3, .int x3)])
    (kk : ∀ (v : mS) (G : gM) (N : Nat) (H : Heap) (locs : List Loc), Inv (k + 1) v G N → gAg Γ G N H → lE Γ o ad v H → va_S (fun q => s.heap.size ≤ q) s.heap H locs → W p l e room_1 s m #[Value.ref b] below meth c H locs (cB + 64 * (k + 1)) (sB + 1000 * (k + 1)) Q (F0 m 1427 ls [])) : W p l e room_1 s m #[Value.ref b] below meth c H locs (cB + 64 * k) (sB + 1000 * k) Q (F0 m 447 ls []) := by
  have hx := B.1.1
  have hb := B.1.2.1
  obtain ⟨oc, hO⟩ := B.2.2.2.2.2.2.1 k v G N hI
  obtain ⟨r, v1, u1, e2, e1, hI1, hb1, hb2⟩ := B.2.2.2.2.2.2.2.2.2 7 (by decide) (xs (x3 + nI 1).toNatClampNeg) 0 0 0 0 k v G N (by omega) hI
  refine lv_aload_n hx hb dL_law_447 rfl (lv_at hl 1 rfl) ?_
  refine lv_aload_n hx hb dL_law_448 rfl (lv_at hl 0 rfl) ?_
  refine lv_iload_n hx hb dL_law_449 rfl (lv_at hl 3 rfl) ?_
  refine lv_iconst (v := nI 1) hx hb dL_law_450 (by decide) ?_
  refine lv_iadd hx hb dL_law_451 ?_
  refine lx_ld B hS (lx_in hk hL hx3 (by decide : 1 < 6)) dL_law_452 ?_
  have e3 : fX9_seeker Γ.2.2.2 h (xs (x3 + nI 1).toNatClampNeg) (G, N, 0) = some (r, u1) := e1
  refine lx_cX B hG hP hS [.int (xs (x3 + nI 1).toNatClampNeg)] hO (tX9_seeker rfl e3) qlX9_7 ⟨rfl, rfl, Nat.le_of_ble_eq_true rfl, Nat.le_of_ble_eq_true rfl⟩ ⟨by show _ + (u1.2.1 - N) ≤ 600000; omega, by show _ + (u1.2.2 - 0) ≤ 7302250; omega⟩ rfl hl.1 rfl (Nat.le_of_ble_eq_true rfl) dL_law_453 (fun H locs hG hP hS => ?_)
  refine W.widen (k := cB + 64 * k + 64) (n := sB + 1000 * k + 1000) (by show cB + 64 * k + (u1.2.1 - N) ≤ _; omega) (by show sB + 1000 * k + (u1.2.2 - 0) ≤ _; omega) ?_
  refine lv_aload_n hx hb dL_law_456 rfl (lv_at hl 2 rfl) ?_
  refine lv_aload_n hx hb dL_law_457 rfl (lv_at hl 0 rfl) ?_
  refine lv_iload_n hx hb dL_law_458 rfl (lv_at hl 3 rfl) ?_
  refine lv_iconst (v := nI 1) hx hb dL_law_459 (by decide) ?_
  refine lv_iadd hx hb dL_law_460 ?_
  refine lx_ld B hS (lx_in hk hL hx3 (by decide : 1 < 6)) dL_law_461 ?_
  have e5 : fX10_seeker (xs (x3 + nI 1).toNatClampNeg) v = some (r, v1) := e2
  refine lx_cM B hG hP hS [.int (xs (x3 + nI 1).toNatClampNeg)] (tX10_seeker e5) qlX10_7 ⟨rfl, rfl, Nat.le_of_ble_eq_true rfl, Nat.le_of_ble_eq_true rfl⟩ ⟨by show _ ≤ 600000; omega, by show _ ≤ 7302250; omega⟩ rfl hl.1 rfl (Nat.le_of_ble_eq_true rfl) dL_law_462 (fun H locs N1 hN1 hG hP hS => ?_)
  refine lv_icmp_eq (tgt := 1427) hx hb dL_law_465 (by decide) (fun _ => ?_) (fun hc => absurd rfl hc)
  refine W.widen (k := cB + 64 * (k + 1)) (n := sB + 1000 * (k + 1)) (by omega) (by omega) ?_
  exact kk v1 _ N1 H locs (B.2.2.2.2.2.2.2.1 _ _ _ _ _ hI1 hN1) hG hP hS
set_option maxHeartbeats 4000000 in
set_option maxRecDepth 20000 in
theorem lc_8 (B : lB p s m meth c b L xs Γ h o ad Inv) (hL : L ≤ 3072) {cB sB k : Nat} {x3 : Int32} (hk : 6 * k + 6 ≤ L) (hcB : cB ≤ 1000) (hsB : sB ≤ 100000) (hx3 : x3 = nI (6 * k)) {v : mS} {G : gM} {N : Nat} {H : Heap} {locs : List Loc} {ls : Array Slot} (hI : Inv k v G N) (hG : gAg Γ G N H) (hP : lE Γ o ad v H) (hS : va_S (fun q => s.heap.size ≤ q) s.heap H locs) (hl : lv_has ls 4 [(0, .ref b), (1, .ref h), (2, .ref o), (3, .int x3)])
    (kk : ∀ (v : mS) (G : gM) (N : Nat) (H : Heap) (locs : List Loc), Inv (k + 1) v G N → gAg Γ G N H → lE Γ o ad v H → va_S (fun q => s.heap.size ≤ q) s.heap H locs → W p l e room_1 s m #[Value.ref b] below meth c H locs (cB + 64 * (k + 1)) (sB + 1000 * (k + 1)) Q (F0 m 1427 ls [])) : W p l e room_1 s m #[Value.ref b] below meth c H locs (cB + 64 * k) (sB + 1000 * k) Q (F0 m 470 ls []) := by
  have hx := B.1.1
  have hb := B.1.2.1
  obtain ⟨oc, hO⟩ := B.2.2.2.2.2.2.1 k v G N hI
  obtain ⟨r, v1, u1, e2, e1, hI1, hb1, hb2⟩ := B.2.2.2.2.2.2.2.2.2 8 (by decide) (xs (x3 + nI 1).toNatClampNeg) (xs (x3 + nI 2).toNatClampNeg) (xs (x3 + nI 3).toNatClampNeg) 0 0 k v G N (by omega) hI
  refine lv_aload_n hx hb dL_law_470 rfl (lv_at hl 1 rfl) ?_
  refine lv_aload_n hx hb dL_law_471 rfl (lv_at hl 0 rfl) ?_
  refine lv_iload_n hx hb dL_law_472 rfl (lv_at hl 3 rfl) ?_
  refine lv_iconst (v := nI 1) hx hb dL_law_473 (by decide) ?_
  refine lv_iadd hx hb dL_law_474 ?_
  refine lx_ld B hS (lx_in hk hL hx3 (by decide : 1 < 6)) dL_law_475 ?_
  refine lv_aload_n hx hb dL_law_476 rfl (lv_at hl 0 rfl) ?_
  refine lv_iload_n hx hb dL_law_477 rfl (lv_at hl 3 rfl) ?_
  refine lv_iconst (v := nI 2) hx hb dL_law_478 (by decide) ?_
  refine lv_iadd hx hb dL_law_479 ?_
  refine lx_ld B hS (lx_in hk hL hx3 (by decide : 2 < 6)) dL_law_480 ?_
  refine lv_aload_n hx hb dL_law_481 rfl (lv_at hl 0 rfl) ?_
  refine lv_iload_n hx hb dL_law_482 rfl (lv_at hl 3 rfl) ?_
  refine lv_iconst (v := nI 3) hx hb dL_law_483 (by decide) ?_
  refine lv_iadd hx hb dL_law_484 ?_
  refine lx_ld B hS (lx_in hk hL hx3 (by decide : 3 < 6)) dL_law_485 ?_
  have e4 : cN (fX9_word h (xs (x3 + nI 1).toNatClampNeg) (xs (x3 + nI 2).toNatClampNeg) (xs (x3 + nI 3).toNatClampNeg) G) (G, N, 0) = some (r, u1) := e1
  obtain ⟨G1, e3, hu1⟩ := cN_inv e4
  rw [hu1] at hI1 hb1 hb2
  refine lx_cX B hG hP hS [.int (xs (x3 + nI 1).toNatClampNeg), .int (xs (x3 + nI 2).toNatClampNeg), .int (xs (x3 + nI 3).toNatClampNeg)] hO (tX9_word e3) qlX9_8 ⟨rfl, rfl, Nat.le_of_ble_eq_true rfl, Nat.le_of_ble_eq_true rfl⟩ ⟨by show _ + 0 ≤ 600000; omega, by show _ + 0 ≤ 7302250; omega⟩ rfl hl.1 rfl (Nat.le_of_ble_eq_true rfl) dL_law_486 (fun H locs hG hP hS => ?_)
  refine W.widen (k := cB + 64 * k + 64) (n := sB + 1000 * k + 1000) (by show cB + 64 * k + 0 ≤ _; omega) (by show sB + 1000 * k + 0 ≤ _; omega) ?_
  refine lv_aload_n hx hb dL_law_489 rfl (lv_at hl 2 rfl) ?_
  refine lv_aload_n hx hb dL_law_490 rfl (lv_at hl 0 rfl) ?_
  refine lv_iload_n hx hb dL_law_491 rfl (lv_at hl 3 rfl) ?_
  refine lv_iconst (v := nI 1) hx hb dL_law_492 (by decide) ?_
  refine lv_iadd hx hb dL_law_493 ?_
  refine lx_ld B hS (lx_in hk hL hx3 (by decide : 1 < 6)) dL_law_494 ?_
  refine lv_aload_n hx hb dL_law_495 rfl (lv_at hl 0 rfl) ?_
  refine lv_iload_n hx hb dL_law_496 rfl (lv_at hl 3 rfl) ?_
  refine lv_iconst (v := nI 2) hx hb dL_law_497 (by decide) ?_
  refine lv_iadd hx hb dL_law_498 ?_
  refine lx_ld B hS (lx_in hk hL hx3 (by decide : 2 < 6)) dL_law_499 ?_
  refine lv_aload_n hx hb dL_law_500 rfl (lv_at hl 0 rfl) ?_
  refine lv_iload_n hx hb dL_law_501 rfl (lv_at hl 3 rfl) ?_
  refine lv_iconst (v := nI 3) hx hb dL_law_502 (by decide) ?_
  refine lv_iadd hx hb dL_law_503 ?_
  refine lx_ld B hS (lx_in hk hL hx3 (by decide : 3 < 6)) dL_law_504 ?_
  have e5 : fX10_word (xs (x3 + nI 1).toNatClampNeg) (xs (x3 + nI 2).toNatClampNeg) (xs (x3 + nI 3).toNatClampNeg) v = some (r, v1) := e2
  refine lx_cM B hG hP hS [.int (xs (x3 + nI 1).toNatClampNeg), .int (xs (x3 + nI 2).toNatClampNeg), .int (xs (x3 + nI 3).toNatClampNeg)] (tX10_word e5) qlX10_8 ⟨rfl, rfl, Nat.le_of_ble_eq_true rfl, Nat.le_of_ble_eq_true rfl⟩ ⟨by show _ ≤ 600000; omega, by show _ ≤ 7302250; omega⟩ rfl hl.1 rfl (Nat.le_of_ble_eq_true rfl) dL_law_505 (fun H locs N1 hN1 hG hP hS => ?_)
  refine lv_icmp_eq (tgt := 1427) hx hb dL_law_508 (by decide) (fun _ => ?_) (fun hc => absurd rfl hc)
  refine W.widen (k := cB + 64 * (k + 1)) (n := sB + 1000 * (k + 1)) (by omega) (by omega) ?_
  exact kk v1 _ N1 H locs (B.2.2.2.2.2.2.2.1 _ _ _ _ _ hI1 hN1) hG hP hS
set_option maxHeartbeats 4000000 in
set_option maxRecDepth 20000 in
theorem lc_9 (B : lB p s m meth c b L xs Γ h o ad Inv) (hL : L ≤ 3072) {cB sB k : Nat} {x3 : Int32} (hk : 6 * k + 6 ≤ L) (hcB : cB ≤ 1000) (hsB : sB ≤ 100000) (hx3 : x3 = nI (6 * k)) {v : mS} {G : gM} {N : Nat} {H : Heap} {locs : List Loc} {ls : Array Slot} (hI : Inv k v G N) (hG : gAg Γ G N H) (hP : lE Γ o ad v H) (hS : va_S (fun q => s.heap.size ≤ q) s.heap H locs) (hl : lv_has ls 4 [(0, .ref b), (1, .ref h), (2, .ref o), (3, .int x3)])
    (kk : ∀ (v : mS) (G : gM) (N : Nat) (H : Heap) (locs : List Loc), Inv (k + 1) v G N → gAg Γ G N H → lE Γ o ad v H → va_S (fun q => s.heap.size ≤ q) s.heap H locs → W p l e room_1 s m #[Value.ref b] below meth c H locs (cB + 64 * (k + 1)) (sB + 1000 * (k + 1)) Q (F0 m 1427 ls [])) : W p l e room_1 s m #[Value.ref b] below meth c H locs (cB + 64 * k) (sB + 1000 * k) Q (F0 m 513 ls []) := by
  have hx := B.1.1
  have hb := B.1.2.1
  obtain ⟨oc, hO⟩ := B.2.2.2.2.2.2.1 k v G N hI
  obtain ⟨r, v1, u1, e2, e1, hI1, hb1, hb2⟩ := B.2.2.2.2.2.2.2.2.2 9 (by decide) (xs (x3 + nI 1).toNatClampNeg) (xs (x3 + nI 2).toNatClampNeg) (xs (x3 + nI 3).toNatClampNeg) 0 0 k v G N (by omega) hI
  refine lv_aload_n hx hb dL_law_513 rfl (lv_at hl 1 rfl) ?_
  refine lv_aload_n hx hb dL_law_514 rfl (lv_at hl 0 rfl) ?_
  refine lv_iload_n hx hb dL_law_515 rfl (lv_at hl 3 rfl) ?_
  refine lv_iconst (v := nI 1) hx hb dL_law_516 (by decide) ?_
  refine lv_iadd hx hb dL_law_517 ?_
  refine lx_ld B hS (lx_in hk hL hx3 (by decide : 1 < 6)) dL_law_518 ?_
  refine lv_aload_n hx hb dL_law_519 rfl (lv_at hl 0 rfl) ?_
  refine lv_iload_n hx hb dL_law_520 rfl (lv_at hl 3 rfl) ?_
  refine lv_iconst (v := nI 2) hx hb dL_law_521 (by decide) ?_
  refine lv_iadd hx hb dL_law_522 ?_
  refine lx_ld B hS (lx_in hk hL hx3 (by decide : 2 < 6)) dL_law_523 ?_
  refine lv_aload_n hx hb dL_law_524 rfl (lv_at hl 0 rfl) ?_
  refine lv_iload_n hx hb dL_law_525 rfl (lv_at hl 3 rfl) ?_
  refine lv_iconst (v := nI 3) hx hb dL_law_526 (by decide) ?_
  refine lv_iadd hx hb dL_law_527 ?_
  refine lx_ld B hS (lx_in hk hL hx3 (by decide : 3 < 6)) dL_law_528 ?_
  have e4 : cN (fX9_span h (xs (x3 + nI 1).toNatClampNeg) (xs (x3 + nI 2).toNatClampNeg) (xs (x3 + nI 3).toNatClampNeg) G) (G, N, 0) = some (r, u1) := e1
  obtain ⟨G1, e3, hu1⟩ := cN_inv e4
  rw [hu1] at hI1 hb1 hb2
  refine lx_cX B hG hP hS [.int (xs (x3 + nI 1).toNatClampNeg), .int (xs (x3 + nI 2).toNatClampNeg), .int (xs (x3 + nI 3).toNatClampNeg)] hO (tX9_span e3) qlX9_9 ⟨rfl, rfl, Nat.le_of_ble_eq_true rfl, Nat.le_of_ble_eq_true rfl⟩ ⟨by show _ + 0 ≤ 600000; omega, by show _ + 0 ≤ 7302250; omega⟩ rfl hl.1 rfl (Nat.le_of_ble_eq_true rfl) dL_law_529 (fun H locs hG hP hS => ?_)
  refine W.widen (k := cB + 64 * k + 64) (n := sB + 1000 * k + 1000) (by show cB + 64 * k + 0 ≤ _; omega) (by show sB + 1000 * k + 0 ≤ _; omega) ?_
  refine lv_aload_n hx hb dL_law_532 rfl (lv_at hl 2 rfl) ?_
  refine lv_aload_n hx hb dL_law_533 rfl (lv_at hl 0 rfl) ?_
  refine lv_iload_n hx hb dL_law_534 rfl (lv_at hl 3 rfl) ?_
  refine lv_iconst (v := nI 1) hx hb dL_law_535 (by decide) ?_
  refine lv_iadd hx hb dL_law_536 ?_
  refine lx_ld B hS (lx_in hk hL hx3 (by decide : 1 < 6)) dL_law_537 ?_
  refine lv_aload_n hx hb dL_law_538 rfl (lv_at hl 0 rfl) ?_
  refine lv_iload_n hx hb dL_law_539 rfl (lv_at hl 3 rfl) ?_
  refine lv_iconst (v := nI 2) hx hb dL_law_540 (by decide) ?_
  refine lv_iadd hx hb dL_law_541 ?_
  refine lx_ld B hS (lx_in hk hL hx3 (by decide : 2 < 6)) dL_law_542 ?_
  refine lv_aload_n hx hb dL_law_543 rfl (lv_at hl 0 rfl) ?_
  refine lv_iload_n hx hb dL_law_544 rfl (lv_at hl 3 rfl) ?_
  refine lv_iconst (v := nI 3) hx hb dL_law_545 (by decide) ?_
  refine lv_iadd hx hb dL_law_546 ?_
  refine lx_ld B hS (lx_in hk hL hx3 (by decide : 3 < 6)) dL_law_547 ?_
  have e5 : fX10_span (xs (x3 + nI 1).toNatClampNeg) (xs (x3 + nI 2).toNatClampNeg) (xs (x3 + nI 3).toNatClampNeg) v = some (r, v1) := e2
  refine lx_cM B hG hP hS [.int (xs (x3 + nI 1).toNatClampNeg), .int (xs (x3 + nI 2).toNatClampNeg), .int (xs (x3 + nI 3).toNatClampNeg)] (tX10_span e5) qlX10_9 ⟨rfl, rfl, Nat.le_of_ble_eq_true rfl, Nat.le_of_ble_eq_true rfl⟩ ⟨by show _ ≤ 600000; omega, by show _ ≤ 7302250; omega⟩ rfl hl.1 rfl (Nat.le_of_ble_eq_true rfl) dL_law_548 (fun H locs N1 hN1 hG hP hS => ?_)
  refine lv_icmp_eq (tgt := 1427) hx hb dL_law_551 (by decide) (fun _ => ?_) (fun hc => absurd rfl hc)
  refine W.widen (k := cB + 64 * (k + 1)) (n := sB + 1000 * (k + 1)) (by omega) (by omega) ?_
  exact kk v1 _ N1 H locs (B.2.2.2.2.2.2.2.1 _ _ _ _ _ hI1 hN1) hG hP hS
set_option maxHeartbeats 4000000 in
set_option maxRecDepth 20000 in
theorem lc_10 (B : lB p s m meth c b L xs Γ h o ad Inv) (hL : L ≤ 3072) {cB sB k : Nat} {x3 : Int32} (hk : 6 * k + 6 ≤ L) (hcB : cB ≤ 1000) (hsB : sB ≤ 100000) (hx3 : x3 = nI (6 * k)) {v : mS} {G : gM} {N : Nat} {H : Heap} {locs : List Loc} {ls : Array Slot} (hI : Inv k v G N) (hG : gAg Γ G N H) (hP : lE Γ o ad v H) (hS : va_S (fun q => s.heap.size ≤ q) s.heap H locs) (hl : lv_has ls 4 [(0, .ref b), (1, .ref h), (2, .ref o), (3, .int x3)])
    (kk : ∀ (v : mS) (G : gM) (N : Nat) (H : Heap) (locs : List Loc), Inv (k + 1) v G N → gAg Γ G N H → lE Γ o ad v H → va_S (fun q => s.heap.size ≤ q) s.heap H locs → W p l e room_1 s m #[Value.ref b] below meth c H locs (cB + 64 * (k + 1)) (sB + 1000 * (k + 1)) Q (F0 m 1427 ls [])) : W p l e room_1 s m #[Value.ref b] below meth c H locs (cB + 64 * k) (sB + 1000 * k) Q (F0 m 556 ls []) := by
  have hx := B.1.1
  have hb := B.1.2.1
  obtain ⟨oc, hO⟩ := B.2.2.2.2.2.2.1 k v G N hI
  obtain ⟨r, v1, u1, e2, e1, hI1, hb1, hb2⟩ := B.2.2.2.2.2.2.2.2.2 10 (by decide) (xs (x3 + nI 1).toNatClampNeg) (xs (x3 + nI 2).toNatClampNeg) 0 0 0 k v G N (by omega) hI
  refine lv_aload_n hx hb dL_law_556 rfl (lv_at hl 1 rfl) ?_
  refine lv_aload_n hx hb dL_law_557 rfl (lv_at hl 0 rfl) ?_
  refine lv_iload_n hx hb dL_law_558 rfl (lv_at hl 3 rfl) ?_
  refine lv_iconst (v := nI 1) hx hb dL_law_559 (by decide) ?_
  refine lv_iadd hx hb dL_law_560 ?_
  refine lx_ld B hS (lx_in hk hL hx3 (by decide : 1 < 6)) dL_law_561 ?_
  refine lv_aload_n hx hb dL_law_562 rfl (lv_at hl 0 rfl) ?_
  refine lv_iload_n hx hb dL_law_563 rfl (lv_at hl 3 rfl) ?_
  refine lv_iconst (v := nI 2) hx hb dL_law_564 (by decide) ?_
  refine lv_iadd hx hb dL_law_565 ?_
  refine lx_ld B hS (lx_in hk hL hx3 (by decide : 2 < 6)) dL_law_566 ?_
  have e4 : cN (fX9_points h (xs (x3 + nI 1).toNatClampNeg) (xs (x3 + nI 2).toNatClampNeg) G) (G, N, 0) = some (r, u1) := e1
  obtain ⟨G1, e3, hu1⟩ := cN_inv e4
  rw [hu1] at hI1 hb1 hb2
  refine lx_cX B hG hP hS [.int (xs (x3 + nI 1).toNatClampNeg), .int (xs (x3 + nI 2).toNatClampNeg)] hO (tX9_points e3) qlX9_10 ⟨rfl, rfl, Nat.le_of_ble_eq_true rfl, Nat.le_of_ble_eq_true rfl⟩ ⟨by show _ + 0 ≤ 600000; omega, by show _ + 0 ≤ 7302250; omega⟩ rfl hl.1 rfl (Nat.le_of_ble_eq_true rfl) dL_law_567 (fun H locs hG hP hS => ?_)
  refine W.widen (k := cB + 64 * k + 64) (n := sB + 1000 * k + 1000) (by show cB + 64 * k + 0 ≤ _; omega) (by show sB + 1000 * k + 0 ≤ _; omega) ?_
  refine lv_aload_n hx hb dL_law_570 rfl (lv_at hl 2 rfl) ?_
  refine lv_aload_n hx hb dL_law_571 rfl (lv_at hl 0 rfl) ?_
  refine lv_iload_n hx hb dL_law_572 rfl (lv_at hl 3 rfl) ?_
  refine lv_iconst (v := nI 1) hx hb dL_law_573 (by decide) ?_
  refine lv_iadd hx hb dL_law_574 ?_
  refine lx_ld B hS (lx_in hk hL hx3 (by decide : 1 < 6)) dL_law_575 ?_
  refine lv_aload_n hx hb dL_law_576 rfl (lv_at hl 0 rfl) ?_
  refine lv_iload_n hx hb dL_law_577 rfl (lv_at hl 3 rfl) ?_
  refine lv_iconst (v := nI 2) hx hb dL_law_578 (by decide) ?_
  refine lv_iadd hx hb dL_law_579 ?_
  refine lx_ld B hS (lx_in hk hL hx3 (by decide : 2 < 6)) dL_law_580 ?_
  have e5 : fX10_points (xs (x3 + nI 1).toNatClampNeg) (xs (x3 + nI 2).toNatClampNeg) v = some (r, v1) := e2
  refine lx_cM B hG hP hS [.int (xs (x3 + nI 1).toNatClampNeg), .int (xs (x3 + nI 2).toNatClampNeg)] (tX10_points e5) qlX10_10 ⟨rfl, rfl, Nat.le_of_ble_eq_true rfl, Nat.le_of_ble_eq_true rfl⟩ ⟨by show _ ≤ 600000; omega, by show _ ≤ 7302250; omega⟩ rfl hl.1 rfl (Nat.le_of_ble_eq_true rfl) dL_law_581 (fun H locs N1 hN1 hG hP hS => ?_)
  refine lv_icmp_eq (tgt := 1427) hx hb dL_law_584 (by decide) (fun _ => ?_) (fun hc => absurd rfl hc)
  refine W.widen (k := cB + 64 * (k + 1)) (n := sB + 1000 * (k + 1)) (by omega) (by omega) ?_
  exact kk v1 _ N1 H locs (B.2.2.2.2.2.2.2.1 _ _ _ _ _ hI1 hN1) hG hP hS
set_option maxHeartbeats 4000000 in
set_option maxRecDepth 20000 in
theorem lc_11 (B : lB p s m meth c b L xs Γ h o ad Inv) (hL : L ≤ 3072) {cB sB k : Nat} {x3 : Int32} (hk : 6 * k + 6 ≤ L) (hcB : cB ≤ 1000) (hsB : sB ≤ 100000) (hx3 : x3 = nI (6 * k)) {v : mS} {G : gM} {N : Nat} {H : Heap} {locs : List Loc} {ls : Array Slot} (hI : Inv k v G N) (hG : gAg Γ G N H) (hP : lE Γ o ad v H) (hS : va_S (fun q => s.heap.size ≤ q) s.heap H locs) (hl : lv_has ls 4 [(0, .ref b), (1, .ref h), (2, .ref o), (3, .int x3)])
    (kk : ∀ (v : mS) (G : gM) (N : Nat) (H : Heap) (locs : List Loc), Inv (k + 1) v G N → gAg Γ G N H → lE Γ o ad v H → va_S (fun q => s.heap.size ≤ q) s.heap H locs → W p l e room_1 s m #[Value.ref b] below meth c H locs (cB + 64 * (k + 1)) (sB + 1000 * (k + 1)) Q (F0 m 1427 ls [])) : W p l e room_1 s m #[Value.ref b] below meth c H locs (cB + 64 * k) (sB + 1000 * k) Q (F0 m 589 ls []) := by
  have hx := B.1.1
  have hb := B.1.2.1
  obtain ⟨oc, hO⟩ := B.2.2.2.2.2.2.1 k v G N hI
  obtain ⟨r, v1, u1, e2, e1, hI1, hb1, hb2⟩ := B.2.2.2.2.2.2.2.2.2 11 (by decide) (xs (x3 + nI 1).toNatClampNeg) (xs (x3 + nI 2).toNatClampNeg) 0 0 0 k v G N (by omega) hI
  refine lv_aload_n hx hb dL_law_589 rfl (lv_at hl 1 rfl) ?_
  refine lv_aload_n hx hb dL_law_590 rfl (lv_at hl 0 rfl) ?_
  refine lv_iload_n hx hb dL_law_591 rfl (lv_at hl 3 rfl) ?_
  refine lv_iconst (v := nI 1) hx hb dL_law_592 (by decide) ?_
  refine lv_iadd hx hb dL_law_593 ?_
  refine lx_ld B hS (lx_in hk hL hx3 (by decide : 1 < 6)) dL_law_594 ?_
  refine lv_aload_n hx hb dL_law_595 rfl (lv_at hl 0 rfl) ?_
  refine lv_iload_n hx hb dL_law_596 rfl (lv_at hl 3 rfl) ?_
  refine lv_iconst (v := nI 2) hx hb dL_law_597 (by decide) ?_
  refine lv_iadd hx hb dL_law_598 ?_
  refine lx_ld B hS (lx_in hk hL hx3 (by decide : 2 < 6)) dL_law_599 ?_
  have e4 : cN (fX9_likeness h (xs (x3 + nI 1).toNatClampNeg) (xs (x3 + nI 2).toNatClampNeg) G) (G, N, 0) = some (r, u1) := e1
  obtain ⟨G1, e3, hu1⟩ := cN_inv e4
  rw [hu1] at hI1 hb1 hb2
  refine lx_cX B hG hP hS [.int (xs (x3 + nI 1).toNatClampNeg), .int (xs (x3 + nI 2).toNatClampNeg)] hO (tX9_likeness e3) qlX9_11 ⟨rfl, rfl, Nat.le_of_ble_eq_true rfl, Nat.le_of_ble_eq_true rfl⟩ ⟨by show _ + 0 ≤ 600000; omega, by show _ + 0 ≤ 7302250; omega⟩ rfl hl.1 rfl (Nat.le_of_ble_eq_true rfl) dL_law_600 (fun H locs hG hP hS => ?_)
  refine W.widen (k := cB + 64 * k + 64) (n := sB + 1000 * k + 1000) (by show cB + 64 * k + 0 ≤ _; omega) (by show sB + 1000 * k + 0 ≤ _; omega) ?_
  refine lv_aload_n hx hb dL_law_603 rfl (lv_at hl 2 rfl) ?_
  refine lv_aload_n hx hb dL_law_604 rfl (lv_at hl 0 rfl) ?_
  refine lv_iload_n hx hb dL_law_605 rfl (lv_at hl 3 rfl) ?_
  refine lv_iconst (v := nI 1) hx hb dL_law_606 (by decide) ?_
  refine lv_iadd hx hb dL_law_607 ?_
  refine lx_ld B hS (lx_in hk hL hx3 (by decide : 1 < 6)) dL_law_608 ?_
  refine lv_aload_n hx hb dL_law_609 rfl (lv_at hl 0 rfl) ?_
  refine lv_iload_n hx hb dL_law_610 rfl (lv_at hl 3 rfl) ?_
  refine lv_iconst (v := nI 2) hx hb dL_law_611 (by decide) ?_
  refine lv_iadd hx hb dL_law_612 ?_
  refine lx_ld B hS (lx_in hk hL hx3 (by decide : 2 < 6)) dL_law_613 ?_
  have e5 : fX10_likeness (xs (x3 + nI 1).toNatClampNeg) (xs (x3 + nI 2).toNatClampNeg) v = some (r, v1) := e2
  refine lx_cM B hG hP hS [.int (xs (x3 + nI 1).toNatClampNeg), .int (xs (x3 + nI 2).toNatClampNeg)] (tX10_likeness e5) qlX10_11 ⟨rfl, rfl, Nat.le_of_ble_eq_true rfl, Nat.le_of_ble_eq_true rfl⟩ ⟨by show _ ≤ 600000; omega, by show _ ≤ 7302250; omega⟩ rfl hl.1 rfl (Nat.le_of_ble_eq_true rfl) dL_law_614 (fun H locs N1 hN1 hG hP hS => ?_)
  refine lv_icmp_eq (tgt := 1427) hx hb dL_law_617 (by decide) (fun _ => ?_) (fun hc => absurd rfl hc)
  refine W.widen (k := cB + 64 * (k + 1)) (n := sB + 1000 * (k + 1)) (by omega) (by omega) ?_
  exact kk v1 _ N1 H locs (B.2.2.2.2.2.2.2.1 _ _ _ _ _ hI1 hN1) hG hP hS
set_option maxHeartbeats 4000000 in
set_option maxRecDepth 20000 in
theorem lc_12 (B : lB p s m meth c b L xs Γ h o ad Inv) (hL : L ≤ 3072) {cB sB k : Nat} {x3 : Int32} (hk : 6 * k + 6 ≤ L) (hcB : cB ≤ 1000) (hsB : sB ≤ 100000) (hx3 : x3 = nI (6 * k)) {v : mS} {G : gM} {N : Nat} {H : Heap} {locs : List Loc} {ls : Array Slot} (hI : Inv k v G N) (hG : gAg Γ G N H) (hP : lE Γ o ad v H) (hS : va_S (fun q => s.heap.size ≤ q) s.heap H locs) (hl : lv_has ls 4 [(0, .ref b), (1, .ref h), (2, .ref o), (3, .int x3)])
    (kk : ∀ (v : mS) (G : gM) (N : Nat) (H : Heap) (locs : List Loc), Inv (k + 1) v G N → gAg Γ G N H → lE Γ o ad v H → va_S (fun q => s.heap.size ≤ q) s.heap H locs → W p l e room_1 s m #[Value.ref b] below meth c H locs (cB + 64 * (k + 1)) (sB + 1000 * (k + 1)) Q (F0 m 1427 ls [])) : W p l e room_1 s m #[Value.ref b] below meth c H locs (cB + 64 * k) (sB + 1000 * k) Q (F0 m 622 ls []) := by
  have hx := B.1.1
  have hb := B.1.2.1
  obtain ⟨oc, hO⟩ := B.2.2.2.2.2.2.1 k v G N hI
  obtain ⟨r, v1, u1, e2, e1, hI1, hb1, hb2⟩ := B.2.2.2.2.2.2.2.2.2 12 (by decide) (xs (x3 + nI 1).toNatClampNeg) (xs (x3 + nI 2).toNatClampNeg) 0 0 0 k v G N (by omega) hI
  refine lv_aload_n hx hb dL_law_622 rfl (lv_at hl 1 rfl) ?_
  refine lv_aload_n hx hb dL_law_623 rfl (lv_at hl 0 rfl) ?_
  refine lv_iload_n hx hb dL_law_624 rfl (lv_at hl 3 rfl) ?_
  refine lv_iconst (v := nI 1) hx hb dL_law_625 (by decide) ?_
  refine lv_iadd hx hb dL_law_626 ?_
  refine lx_ld B hS (lx_in hk hL hx3 (by decide : 1 < 6)) dL_law_627 ?_
  refine lv_aload_n hx hb dL_law_628 rfl (lv_at hl 0 rfl) ?_
  refine lv_iload_n hx hb dL_law_629 rfl (lv_at hl 3 rfl) ?_
  refine lv_iconst (v := nI 2) hx hb dL_law_630 (by decide) ?_
  refine lv_iadd hx hb dL_law_631 ?_
  refine lx_ld B hS (lx_in hk hL hx3 (by decide : 2 < 6)) dL_law_632 ?_
  have e4 : cN (fX9_chance h (xs (x3 + nI 1).toNatClampNeg) (xs (x3 + nI 2).toNatClampNeg) G) (G, N, 0) = some (r, u1) := e1
  obtain ⟨G1, e3, hu1⟩ := cN_inv e4
  rw [hu1] at hI1 hb1 hb2
  refine lx_cX B hG hP hS [.int (xs (x3 + nI 1).toNatClampNeg), .int (xs (x3 + nI 2).toNatClampNeg)] hO (tX9_chance e3) qlX9_12 ⟨rfl, rfl, Nat.le_of_ble_eq_true rfl, Nat.le_of_ble_eq_true rfl⟩ ⟨by show _ + 0 ≤ 600000; omega, by show _ + 0 ≤ 7302250; omega⟩ rfl hl.1 rfl (Nat.le_of_ble_eq_true rfl) dL_law_633 (fun H locs hG hP hS => ?_)
  refine W.widen (k := cB + 64 * k + 64) (n := sB + 1000 * k + 1000) (by show cB + 64 * k + 0 ≤ _; omega) (by show sB + 1000 * k + 0 ≤ _; omega) ?_
  refine lv_aload_n hx hb dL_law_636 rfl (lv_at hl 2 rfl) ?_
  refine lv_aload_n hx hb dL_law_637 rfl (lv_at hl 0 rfl) ?_
  refine lv_iload_n hx hb dL_law_638 rfl (lv_at hl 3 rfl) ?_
  refine lv_iconst (v := nI 1) hx hb dL_law_639 (by decide) ?_
  refine lv_iadd hx hb dL_law_640 ?_
  refine lx_ld B hS (lx_in hk hL hx3 (by decide : 1 < 6)) dL_law_641 ?_
  refine lv_aload_n hx hb dL_law_642 rfl (lv_at hl 0 rfl) ?_
  refine lv_iload_n hx hb dL_law_643 rfl (lv_at hl 3 rfl) ?_
  refine lv_iconst (v := nI 2) hx hb dL_law_644 (by decide) ?_
  refine lv_iadd hx hb dL_law_645 ?_
  refine lx_ld B hS (lx_in hk hL hx3 (by decide : 2 < 6)) dL_law_646 ?_
  have e5 : fX10_chance (xs (x3 + nI 1).toNatClampNeg) (xs (x3 + nI 2).toNatClampNeg) v = some (r, v1) := e2
  refine lx_cM B hG hP hS [.int (xs (x3 + nI 1).toNatClampNeg), .int (xs (x3 + nI 2).toNatClampNeg)] (tX10_chance e5) qlX10_12 ⟨rfl, rfl, Nat.le_of_ble_eq_true rfl, Nat.le_of_ble_eq_true rfl⟩ ⟨by show _ ≤ 600000; omega, by show _ ≤ 7302250; omega⟩ rfl hl.1 rfl (Nat.le_of_ble_eq_true rfl) dL_law_647 (fun H locs N1 hN1 hG hP hS => ?_)
  refine lv_icmp_eq (tgt := 1427) hx hb dL_law_650 (by decide) (fun _ => ?_) (fun hc => absurd rfl hc)
  refine W.widen (k := cB + 64 * (k + 1)) (n := sB + 1000 * (k + 1)) (by omega) (by omega) ?_
  exact kk v1 _ N1 H locs (B.2.2.2.2.2.2.2.1 _ _ _ _ _ hI1 hN1) hG hP hS
set_option maxHeartbeats 4000000 in
set_option maxRecDepth 20000 in
theorem lc_13 (B : lB p s m meth c b L xs Γ h o ad Inv) (hL : L ≤ 3072) {cB sB k : Nat} {x3 : Int32} (hk : 6 * k + 6 ≤ L) (hcB : cB ≤ 1000) (hsB : sB ≤ 100000) (hx3 : x3 = nI (6 * k)) {v : mS} {G : gM} {N : Nat} {H : Heap} {locs : List Loc} {ls : Array Slot} (hI : Inv k v G N) (hG : gAg Γ G N H) (hP : lE Γ o ad v H) (hS : va_S (fun q => s.heap.size ≤ q) s.heap H locs) (hl : lv_has ls 4 [(0, .ref b), (1, .ref h), (2, .ref o), (3, .int x3)])
    (kk : ∀ (v : mS) (G : gM) (N : Nat) (H : Heap) (locs : List Loc), Inv (k + 1) v G N → gAg Γ G N H → lE Γ o ad v H → va_S (fun q => s.heap.size ≤ q) s.heap H locs → W p l e room_1 s m #[Value.ref b] below meth c H locs (cB + 64 * (k + 1)) (sB + 1000 * (k + 1)) Q (F0 m 1427 ls [])) : W p l e room_1 s m #[Value.ref b] below meth c H locs (cB + 64 * k) (sB + 1000 * k) Q (F0 m 655 ls []) := by
  have hx := B.1.1
  have hb := B.1.2.1
  obtain ⟨oc, hO⟩ := B.2.2.2.2.2.2.1 k v G N hI
  obtain ⟨r, v1, u1, e2, e1, hI1, hb1, hb2⟩ := B.2.2.2.2.2.2.2.2.2 13 (by decide) (xs (x3 + nI 1).toNatClampNeg) 0 0 0 0 k v G N (by omega) hI
  refine lv_aload_n hx hb dL_law_655 rfl (lv_at hl 1 rfl) ?_
  refine lv_aload_n hx hb dL_law_656 rfl (lv_at hl 0 rfl) ?_
  refine lv_iload_n hx hb dL_law_657 rfl (lv_at hl 3 rfl) ?_
  refine lv_iconst (v := nI 1) hx hb dL_law_658 (by decide) ?_
  refine lv_iadd hx hb dL_law_659 ?_
  refine lx_ld B hS (lx_in hk hL hx3 (by decide : 1 < 6)) dL_law_660 ?_
  have e4 : cN (fX9_match h (xs (x3 + nI 1).toNatClampNeg) G) (G, N, 0) = some (r, u1) := e1
  obtain ⟨G1, e3, hu1⟩ := cN_inv e4
  rw [hu1] at hI1 hb1 hb2
  refine lx_cX B hG hP hS [.int (xs (x3 + nI 1).toNatClampNeg)] hO (tX9_match e3) qlX9_13 ⟨rfl, rfl, Nat.le_of_ble_eq_true rfl, Nat.le_of_ble_eq_true rfl⟩ ⟨by show _ + 0 ≤ 600000; omega, by show _ + 0 ≤ 7302250; omega⟩ rfl hl.1 rfl (Nat.le_of_ble_eq_true rfl) dL_law_661 (fun H locs hG hP hS => ?_)
  refine W.widen (k := cB + 64 * k + 64) (n := sB + 1000 * k + 1000) (by show cB + 64 * k + 0 ≤ _; omega) (by show sB + 1000 * k + 0 ≤ _; omega) ?_
  refine lv_aload_n hx hb dL_law_664 rfl (lv_at hl 2 rfl) ?_
  refine lv_aload_n hx hb dL_law_665 rfl (lv_at hl 0 rfl) ?_
  refine lv_iload_n hx hb dL_law_666 rfl (lv_at hl 3 rfl) ?_
  refine lv_iconst (v := nI 1) hx hb dL_law_667 (by decide) ?_
  refine lv_iadd hx hb dL_law_668 ?_
  refine lx_ld B hS (lx_in hk hL hx3 (by decide : 1 < 6)) dL_law_669 ?_
  have e5 : fX10_match (xs (x3 + nI 1).toNatClampNeg) v = some (r, v1) := e2
  refine lx_cM B hG hP hS [.int (xs (x3 + nI 1).toNatClampNeg)] (tX10_match e5) qlX10_13 ⟨rfl, rfl, Nat.le_of_ble_eq_true rfl, Nat.le_of_ble_eq_true rfl⟩ ⟨by show _ ≤ 600000; omega, by show _ ≤ 7302250; omega⟩ rfl hl.1 rfl (Nat.le_of_ble_eq_true rfl) dL_law_670 (fun H locs N1 hN1 hG hP hS => ?_)
  refine lv_icmp_eq (tgt := 1427) hx hb dL_law_673 (by decide) (fun _ => ?_) (fun hc => absurd rfl hc)
  refine W.widen (k := cB + 64 * (k + 1)) (n := sB + 1000 * (k + 1)) (by omega) (by omega) ?_
  exact kk v1 _ N1 H locs (B.2.2.2.2.2.2.2.1 _ _ _ _ _ hI1 hN1) hG hP hS
set_option maxHeartbeats 4000000 in
set_option maxRecDepth 20000 in
theorem lc_14 (B : lB p s m meth c b L xs Γ h o ad Inv) (hL : L ≤ 3072) {cB sB k : Nat} {x3 : Int32} (hk : 6 * k + 6 ≤ L) (hcB : cB ≤ 1000) (hsB : sB ≤ 100000) (hx3 : x3 = nI (6 * k)) {v : mS} {G : gM} {N : Nat} {H : Heap} {locs : List Loc} {ls : Array Slot} (hI : Inv k v G N) (hG : gAg Γ G N H) (hP : lE Γ o ad v H) (hS : va_S (fun q => s.heap.size ≤ q) s.heap H locs) (hl : lv_has ls 4 [(0, .ref b), (1, .ref h), (2, .ref o), (3, .int x3)])
    (kk : ∀ (v : mS) (G : gM) (N : Nat) (H : Heap) (locs : List Loc), Inv (k + 1) v G N → gAg Γ G N H → lE Γ o ad v H → va_S (fun q => s.heap.size ≤ q) s.heap H locs → W p l e room_1 s m #[Value.ref b] below meth c H locs (cB + 64 * (k + 1)) (sB + 1000 * (k + 1)) Q (F0 m 1427 ls [])) : W p l e room_1 s m #[Value.ref b] below meth c H locs (cB + 64 * k) (sB + 1000 * k) Q (F0 m 678 ls []) := by
  have hx := B.1.1
  have hb := B.1.2.1
  obtain ⟨oc, hO⟩ := B.2.2.2.2.2.2.1 k v G N hI
  obtain ⟨r, v1, u1, e2, e1, hI1, hb1, hb2⟩ := B.2.2.2.2.2.2.2.2.2 14 (by decide) (xs (x3 + nI 1).toNatClampNeg) (xs (x3 + nI 2).toNatClampNeg) 0 0 0 k v G N (by omega) hI
  refine lv_aload_n hx hb dL_law_678 rfl (lv_at hl 1 rfl) ?_
  refine lv_aload_n hx hb dL_law_679 rfl (lv_at hl 0 rfl) ?_
  refine lv_iload_n hx hb dL_law_680 rfl (lv_at hl 3 rfl) ?_
  refine lv_iconst (v := nI 1) hx hb dL_law_681 (by decide) ?_
  refine lv_iadd hx hb dL_law_682 ?_
  refine lx_ld B hS (lx_in hk hL hx3 (by decide : 1 < 6)) dL_law_683 ?_
  refine lv_aload_n hx hb dL_law_684 rfl (lv_at hl 0 rfl) ?_
  refine lv_iload_n hx hb dL_law_685 rfl (lv_at hl 3 rfl) ?_
  refine lv_iconst (v := nI 2) hx hb dL_law_686 (by decide) ?_
  refine lv_iadd hx hb dL_law_687 ?_
  refine lx_ld B hS (lx_in hk hL hx3 (by decide : 2 < 6)) dL_law_688 ?_
  have e4 : cN (fX9_seen h (xs (x3 + nI 1).toNatClampNeg) (xs (x3 + nI 2).toNatClampNeg) G) (G, N, 0) = some (r, u1) := e1
  obtain ⟨G1, e3, hu1⟩ := cN_inv e4
  rw [hu1] at hI1 hb1 hb2
  refine lx_cX B hG hP hS [.int (xs (x3 + nI 1).toNatClampNeg), .int (xs (x3 + nI 2).toNatClampNeg)] hO (tX9_seen e3) qlX9_14 ⟨rfl, rfl, Nat.le_of_ble_eq_true rfl, Nat.le_of_ble_eq_true rfl⟩ ⟨by show _ + 0 ≤ 600000; omega, by show _ + 0 ≤ 7302250; omega⟩ rfl hl.1 rfl (Nat.le_of_ble_eq_true rfl) dL_law_689 (fun H locs hG hP hS => ?_)
  refine W.widen (k := cB + 64 * k + 64) (n := sB + 1000 * k + 1000) (by show cB + 64 * k + 0 ≤ _; omega) (by show sB + 1000 * k + 0 ≤ _; omega) ?_
  refine lv_aload_n hx hb dL_law_692 rfl (lv_at hl 2 rfl) ?_
  refine lv_aload_n hx hb dL_law_693 rfl (lv_at hl 0 rfl) ?_
  refine lv_iload_n hx hb dL_law_694 rfl (lv_at hl 3 rfl) ?_
  refine lv_iconst (v := nI 1) hx hb dL_law_695 (by decide) ?_
  refine lv_iadd hx hb dL_law_696 ?_
  refine lx_ld B hS (lx_in hk hL hx3 (by decide : 1 < 6)) dL_law_697 ?_
  refine lv_aload_n hx hb dL_law_698 rfl (lv_at hl 0 rfl) ?_
  refine lv_iload_n hx hb dL_law_699 rfl (lv_at hl 3 rfl) ?_
  refine lv_iconst (v := nI 2) hx hb dL_law_700 (by decide) ?_
  refine lv_iadd hx hb dL_law_701 ?_
  refine lx_ld B hS (lx_in hk hL hx3 (by decide : 2 < 6)) dL_law_702 ?_
  have e5 : fX10_seen (xs (x3 + nI 1).toNatClampNeg) (xs (x3 + nI 2).toNatClampNeg) v = some (r, v1) := e2
  refine lx_cM B hG hP hS [.int (xs (x3 + nI 1).toNatClampNeg), .int (xs (x3 + nI 2).toNatClampNeg)] (tX10_seen e5) qlX10_14 ⟨rfl, rfl, Nat.le_of_ble_eq_true rfl, Nat.le_of_ble_eq_true rfl⟩ ⟨by show _ ≤ 600000; omega, by show _ ≤ 7302250; omega⟩ rfl hl.1 rfl (Nat.le_of_ble_eq_true rfl) dL_law_703 (fun H locs N1 hN1 hG hP hS => ?_)
  refine lv_icmp_eq (tgt := 1427) hx hb dL_law_706 (by decide) (fun _ => ?_) (fun hc => absurd rfl hc)
  refine W.widen (k := cB + 64 * (k + 1)) (n := sB + 1000 * (k + 1)) (by omega) (by omega) ?_
  exact kk v1 _ N1 H locs (B.2.2.2.2.2.2.2.1 _ _ _ _ _ hI1 hN1) hG hP hS
set_option maxHeartbeats 4000000 in
set_option maxRecDepth 20000 in
theorem lc_15 (B : lB p s m meth c b L xs Γ h o ad Inv) (hL : L ≤ 3072) {cB sB k : Nat} {x3 : Int32} (hk : 6 * k + 6 ≤ L) (hcB : cB ≤ 1000) (hsB : sB ≤ 100000) (hx3 : x3 = nI (6 * k)) {v : mS} {G : gM} {N : Nat} {H : Heap} {locs : List Loc} {ls : Array Slot} (hI : Inv k v G N) (hG : gAg Γ G N H) (hP : lE Γ o ad v H) (hS : va_S (fun q => s.heap.size ≤ q) s.heap H locs) (hl : lv_has ls 4 [(0, .ref b), (1, .ref h), (2, .ref o), (3, .int x3)])
    (kk : ∀ (v : mS) (G : gM) (N : Nat) (H : Heap) (locs : List Loc), Inv (k + 1) v G N → gAg Γ G N H → lE Γ o ad v H → va_S (fun q => s.heap.size ≤ q) s.heap H locs → W p l e room_1 s m #[Value.ref b] below meth c H locs (cB + 64 * (k + 1)) (sB + 1000 * (k + 1)) Q (F0 m 1427 ls [])) : W p l e room_1 s m #[Value.ref b] below meth c H locs (cB + 64 * k) (sB + 1000 * k) Q (F0 m 711 ls []) := by
  have hx := B.1.1
  have hb := B.1.2.1
  obtain ⟨oc, hO⟩ := B.2.2.2.2.2.2.1 k v G N hI
  obtain ⟨r, v1, u1, e2, e1, hI1, hb1, hb2⟩ := B.2.2.2.2.2.2.2.2.2 15 (by decide) (xs (x3 + nI 1).toNatClampNeg) (xs (x3 + nI 2).toNatClampNeg) (xs (x3 + nI 3).toNatClampNeg) 0 0 k v G N (by omega) hI
  refine lv_aload_n hx hb dL_law_711 rfl (lv_at hl 1 rfl) ?_
  refine lv_aload_n hx hb dL_law_712 rfl (lv_at hl 0 rfl) ?_
  refine lv_iload_n hx hb dL_law_713 rfl (lv_at hl 3 rfl) ?_
  refine lv_iconst (v := nI 1) hx hb dL_law_714 (by decide) ?_
  refine lv_iadd hx hb dL_law_715 ?_
  refine lx_ld B hS (lx_in hk hL hx3 (by decide : 1 < 6)) dL_law_716 ?_
  refine lv_aload_n hx hb dL_law_717 rfl (lv_at hl 0 rfl) ?_
  refine lv_iload_n hx hb dL_law_718 rfl (lv_at hl 3 rfl) ?_
  refine lv_iconst (v := nI 2) hx hb dL_law_719 (by decide) ?_
  refine lv_iadd hx hb dL_law_720 ?_
  refine lx_ld B hS (lx_in hk hL hx3 (by decide : 2 < 6)) dL_law_721 ?_
  refine lv_aload_n hx hb dL_law_722 rfl (lv_at hl 0 rfl) ?_
  refine lv_iload_n hx hb dL_law_723 rfl (lv_at hl 3 rfl) ?_
  refine lv_iconst (v := nI 3) hx hb dL_law_724 (by decide) ?_
  refine lv_iadd hx hb dL_law_725 ?_
  refine lx_ld B hS (lx_in hk hL hx3 (by decide : 3 < 6)) dL_law_726 ?_
  have e3 : fX9_answer h (xs (x3 + nI 1).toNatClampNeg) (xs (x3 + nI 2).toNatClampNeg) (xs (x3 + nI 3).toNatClampNeg) (G, N, 0) = some (r, u1) := e1
  refine lx_cX B hG hP hS [.int (xs (x3 + nI 1).toNatClampNeg), .int (xs (x3 + nI 2).toNatClampNeg), .int (xs (x3 + nI 3).toNatClampNeg)] hO (tX9_answer e3) qlX9_15 ⟨rfl, rfl, Nat.le_of_ble_eq_true rfl, Nat.le_of_ble_eq_true rfl⟩ ⟨by show _ + (u1.2.1 - N) ≤ 600000; omega, by show _ + (u1.2.2 - 0) ≤ 7302250; omega⟩ rfl hl.1 rfl (Nat.le_of_ble_eq_true rfl) dL_law_727 (fun H locs hG hP hS => ?_)
  refine W.widen (k := cB + 64 * k + 64) (n := sB + 1000 * k + 1000) (by show cB + 64 * k + (u1.2.1 - N) ≤ _; omega) (by show sB + 1000 * k + (u1.2.2 - 0) ≤ _; omega) ?_
  refine lv_aload_n hx hb dL_law_730 rfl (lv_at hl 2 rfl) ?_
  refine lv_aload_n hx hb dL_law_731 rfl (lv_at hl 0 rfl) ?_
  refine lv_iload_n hx hb dL_law_732 rfl (lv_at hl 3 rfl) ?_
  refine lv_iconst (v := nI 1) hx hb dL_law_733 (by decide) ?_
  refine lv_iadd hx hb dL_law_734 ?_
  refine lx_ld B hS (lx_in hk hL hx3 (by decide : 1 < 6)) dL_law_735 ?_
  refine lv_aload_n hx hb dL_law_736 rfl (lv_at hl 0 rfl) ?_
  refine lv_iload_n hx hb dL_law_737 rfl (lv_at hl 3 rfl) ?_
  refine lv_iconst (v := nI 2) hx hb dL_law_738 (by decide) ?_
  refine lv_iadd hx hb dL_law_739 ?_
  refine lx_ld B hS (lx_in hk hL hx3 (by decide : 2 < 6)) dL_law_740 ?_
  refine lv_aload_n hx hb dL_law_741 rfl (lv_at hl 0 rfl) ?_
  refine lv_iload_n hx hb dL_law_742 rfl (lv_at hl 3 rfl) ?_
  refine lv_iconst (v := nI 3) hx hb dL_law_743 (by decide) ?_
  refine lv_iadd hx hb dL_law_744 ?_
  refine lx_ld B hS (lx_in hk hL hx3 (by decide : 3 < 6)) dL_law_745 ?_
  have e5 : fX10_answer (xs (x3 + nI 1).toNatClampNeg) (xs (x3 + nI 2).toNatClampNeg) (xs (x3 + nI 3).toNatClampNeg) v = some (r, v1) := e2
  refine lx_cM B hG hP hS [.int (xs (x3 + nI 1).toNatClampNeg), .int (xs (x3 + nI 2).toNatClampNeg), .int (xs (x3 + nI 3).toNatClampNeg)] (tX10_answer e5) qlX10_15 ⟨rfl, rfl, Nat.le_of_ble_eq_true rfl, Nat.le_of_ble_eq_true rfl⟩ ⟨by show _ ≤ 600000; omega, by show _ ≤ 7302250; omega⟩ rfl hl.1 rfl (Nat.le_of_ble_eq_true rfl) dL_law_746 (fun H locs N1 hN1 hG hP hS => ?_)
  refine lv_icmp_eq (tgt := 1427) hx hb dL_law_749 (by decide) (fun _ => ?_) (fun hc => absurd rfl hc)
  refine W.widen (k := cB + 64 * (k + 1)) (n := sB + 1000 * (k + 1)) (by omega) (by omega) ?_
  exact kk v1 _ N1 H locs (B.2.2.2.2.2.2.2.1 _ _ _ _ _ hI1 hN1) hG hP hS
set_option maxHeartbeats 4000000 in
set_option maxRecDepth 20000 in
theorem lc_16 (B : lB p s m meth c b L xs Γ h o ad Inv) (hL : L ≤ 3072) {cB sB k : Nat} {x3 : Int32} (hk : 6 * k + 6 ≤ L) (hcB : cB ≤ 1000) (hsB : sB ≤ 100000) (hx3 : x3 = nI (6 * k)) {v : mS} {G : gM} {N : Nat} {H : Heap} {locs : List Loc} {ls : Array Slot} (hI : Inv k v G N) (hG : gAg Γ G N H) (hP : lE Γ o ad v H) (hS : va_S (fun q => s.heap.size ≤ q) s.heap H locs) (hl : lv_has ls 4 [(0, .ref b), (1, .ref h), (2, .ref o), (3, .int x3)])
    (kk : ∀ (v : mS) (G : gM) (N : Nat) (H : Heap) (locs : List Loc), Inv (k + 1) v G N → gAg Γ G N H → lE Γ o ad v H → va_S (fun q => s.heap.size ≤ q) s.heap H locs → W p l e room_1 s m #[Value.ref b] below meth c H locs (cB + 64 * (k + 1)) (sB + 1000 * (k + 1)) Q (F0 m 1427 ls [])) : W p l e room_1 s m #[Value.ref b] below meth c H locs (cB + 64 * k) (sB + 1000 * k) Q (F0 m 754 ls []) := by
  have hx := B.1.1
  have hb := B.1.2.1
  obtain ⟨oc, hO⟩ := B.2.2.2.2.2.2.1 k v G N hI
  obtain ⟨r, v1, u1, e2, e1, hI1, hb1, hb2⟩ := B.2.2.2.2.2.2.2.2.2 16 (by decide) (xs (x3 + nI 1).toNatClampNeg) 0 0 0 0 k v G N (by omega) hI
  refine lv_aload_n hx hb dL_law_754 rfl (lv_at hl 1 rfl) ?_
  refine lv_aload_n hx hb dL_law_755 rfl (lv_at hl 0 rfl) ?_
  refine lv_iload_n hx hb dL_law_756 rfl (lv_at hl 3 rfl) ?_
  refine lv_iconst (v := nI 1) hx hb dL_law_757 (by decide) ?_
  refine lv_iadd hx hb dL_law_758 ?_
  refine lx_ld B hS (lx_in hk hL hx3 (by decide : 1 < 6)) dL_law_759 ?_
  have e3 : fX9_back h (xs (x3 + nI 1).toNatClampNeg) (G, N, 0) = some (r, u1) := e1
  refine lx_cX B hG hP hS [.int (xs (x3 + nI 1).toNatClampNeg)] hO (tX9_back e3) qlX9_16 ⟨rfl, rfl, Nat.le_of_ble_eq_true rfl, Nat.le_of_ble_eq_true rfl⟩ ⟨by show _ + (u1.2.1 - N) ≤ 600000; omega, by show _ + (u1.2.2 - 0) ≤ 7302250; omega⟩ rfl hl.1 rfl (Nat.le_of_ble_eq_true rfl) dL_law_760 (fun H locs hG hP hS => ?_)
  refine W.widen (k := cB + 64 * k + 64) (n := sB + 1000 * k + 1000) (by show cB + 64 * k + (u1.2.1 - N) ≤ _; omega) (by show sB + 1000 * k + (u1.2.2 - 0) ≤ _; omega) ?_
  refine lv_aload_n hx hb dL_law_763 rfl (lv_at hl 2 rfl) ?_
  refine lv_aload_n hx hb dL_law_764 rfl (lv_at hl 0 rfl) ?_
  refine lv_iload_n hx hb dL_law_765 rfl (lv_at hl 3 rfl) ?_
  refine lv_iconst (v := nI 1) hx hb dL_law_766 (by decide) ?_
  refine lv_iadd hx hb dL_law_767 ?_
  refine lx_ld B hS (lx_in hk hL hx3 (by decide : 1 < 6)) dL_law_768 ?_
  have e5 : fX10_back (xs (x3 + nI 1).toNatClampNeg) v = some (r, v1) := e2
  refine lx_cM B hG hP hS [.int (xs (x3 + nI 1).toNatClampNeg)] (tX10_back e5) qlX10_16 ⟨rfl, rfl, Nat.le_of_ble_eq_true rfl, Nat.le_of_ble_eq_true rfl⟩ ⟨by show _ ≤ 600000; omega, by show _ ≤ 7302250; omega⟩ rfl hl.1 rfl (Nat.le_of_ble_eq_true rfl) dL_law_769 (fun H locs N1 hN1 hG hP hS => ?_)
  refine lv_icmp_eq (tgt := 1427) hx hb dL_law_772 (by decide) (fun _ => ?_) (fun hc => absurd rfl hc)
  refine W.widen (k := cB + 64 * (k + 1)) (n := sB + 1000 * (k + 1)) (by omega) (by omega) ?_
  exact kk v1 _ N1 H locs (B.2.2.2.2.2.2.2.1 _ _ _ _ _ hI1 hN1) hG hP hS
set_option maxHeartbeats 4000000 in
set_option maxRecDepth 20000 in
theorem lc_17 (B : lB p s m meth c b L xs Γ h o ad Inv) (hL : L ≤ 3072) {cB sB k : Nat} {x3 : Int32} (hk : 6 * k + 6 ≤ L) (hcB : cB ≤ 1000) (hsB : sB ≤ 100000) (hx3 : x3 = nI (6 * k)) {v : mS} {G : gM} {N : Nat} {H : Heap} {locs : List Loc} {ls : Array Slot} (hI : Inv k v G N) (hG : gAg Γ G N H) (hP : lE Γ o ad v H) (hS : va_S (fun q => s.heap.size ≤ q) s.heap H locs) (hl : lv_has ls 4 [(0, .ref b), (1, .ref h), (2, .ref o), (3, .int x3)])
    (kk : ∀ (v : mS) (G : gM) (N : Nat) (H : Heap) (locs : List Loc), Inv (k + 1) v G N → gAg Γ G N H → lE Γ o ad v H → va_S (fun q => s.heap.size ≤ q) s.heap H locs → W p l e room_1 s m #[Value.ref b] below meth c H locs (cB + 64 * (k + 1)) (sB + 1000 * (k + 1)) Q (F0 m 1427 ls [])) : W p l e room_1 s m #[Value.ref b] below meth c H locs (cB + 64 * k) (sB + 1000 * k) Q (F0 m 777 ls []) := by
  have hx := B.1.1
  have hb := B.1.2.1
  obtain ⟨oc, hO⟩ := B.2.2.2.2.2.2.1 k v G N hI
  obtain ⟨r, v1, u1, e2, e1, hI1, hb1, hb2⟩ := B.2.2.2.2.2.2.2.2.2 17 (by decide) (xs (x3 + nI 1).toNatClampNeg) (xs (x3 + nI 2).toNatClampNeg) 0 0 0 k v G N (by omega) hI
  refine lv_aload_n hx hb dL_law_777 rfl (lv_at hl 1 rfl) ?_
  refine lv_aload_n hx hb dL_law_778 rfl (lv_at hl 0 rfl) ?_
  refine lv_iload_n hx hb dL_law_779 rfl (lv_at hl 3 rfl) ?_
  refine lv_iconst (v := nI 1) hx hb dL_law_780 (by decide) ?_
  refine lv_iadd hx hb dL_law_781 ?_
  refine lx_ld B hS (lx_in hk hL hx3 (by decide : 1 < 6)) dL_law_782 ?_
  refine lv_aload_n hx hb dL_law_783 rfl (lv_at hl 0 rfl) ?_
  refine lv_iload_n hx hb dL_law_784 rfl (lv_at hl 3 rfl) ?_
  refine lv_iconst (v := nI 2) hx hb dL_law_785 (by decide) ?_
  refine lv_iadd hx hb dL_law_786 ?_
  refine lx_ld B hS (lx_in hk hL hx3 (by decide : 2 < 6)) dL_law_787 ?_
  have e3 : fX9_address Γ.2.2.2 h (xs (x3 + nI 1).toNatClampNeg) (xs (x3 + nI 2).toNatClampNeg) (G, N, 0) = some (r, u1) := e1
  refine lx_cX B hG hP hS [.int (xs (x3 + nI 1).toNatClampNeg), .int (xs (x3 + nI 2).toNatClampNeg)] hO (tX9_address rfl e3) qlX9_17 ⟨rfl, rfl, Nat.le_of_ble_eq_true rfl, Nat.le_of_ble_eq_true rfl⟩ ⟨by show _ + (u1.2.1 - N) ≤ 600000; omega, by show _ + (u1.2.2 - 0) ≤ 7302250; omega⟩ rfl hl.1 rfl (Nat.le_of_ble_eq_true rfl) dL_law_788 (fun H locs hG hP hS => ?_)
  refine W.widen (k := cB + 64 * k + 64) (n := sB + 1000 * k + 1000) (by show cB + 64 * k + (u1.2.1 - N) ≤ _; omega) (by show sB + 1000 * k + (u1.2.2 - 0) ≤ _; omega) ?_
  refine lv_aload_n hx hb dL_law_791 rfl (lv_at hl 2 rfl) ?_
  refine lv_aload_n hx hb dL_law_792 rfl (lv_at hl 0 rfl) ?_
  refine lv_iload_n hx hb dL_law_793 rfl (lv_at hl 3 rfl) ?_
  refine lv_iconst (v := nI 1) hx hb dL_law_794 (by decide) ?_
  refine lv_iadd hx hb dL_law_795 ?_
  refine lx_ld B hS (lx_in hk hL hx3 (by decide : 1 < 6)) dL_law_796 ?_
  refine lv_aload_n hx hb dL_law_797 rfl (lv_at hl 0 rfl) ?_
  refine lv_iload_n hx hb dL_law_798 rfl (lv_at hl 3 rfl) ?_
  refine lv_iconst (v := nI 2) hx hb dL_law_799 (by decide) ?_
  refine lv_iadd hx hb dL_law_800 ?_
  refine lx_ld B hS (lx_in hk hL hx3 (by decide : 2 < 6)) dL_law_801 ?_
  have e5 : fX10_address (xs (x3 + nI 1).toNatClampNeg) (xs (x3 + nI 2).toNatClampNeg) v = some (r, v1) := e2
  refine lx_cM B hG hP hS [.int (xs (x3 + nI 1).toNatClampNeg), .int (xs (x3 + nI 2).toNatClampNeg)] (tX10_address e5) qlX10_17 ⟨rfl, rfl, Nat.le_of_ble_eq_true rfl, Nat.le_of_ble_eq_true rfl⟩ ⟨by show _ ≤ 600000; omega, by show _ ≤ 7302250; omega⟩ rfl hl.1 rfl (Nat.le_of_ble_eq_true rfl) dL_law_802 (fun H locs N1 hN1 hG hP hS => ?_)
  refine lv_icmp_eq (tgt := 1427) hx hb dL_law_805 (by decide) (fun _ => ?_) (fun hc => absurd rfl hc)
  refine W.widen (k := cB + 64 * (k + 1)) (n := sB + 1000 * (k + 1)) (by omega) (by omega) ?_
  exact kk v1 _ N1 H locs (B.2.2.2.2.2.2.2.1 _ _ _ _ _ hI1 hN1) hG hP hS
set_option maxHeartbeats 4000000 in
set_option maxRecDepth 20000 in
theorem lc_18 (B : lB p s m meth c b L xs Γ h o ad Inv) (hL : L ≤ 3072) {cB sB k : Nat} {x3 : Int32} (hk : 6 * k + 6 ≤ L) (hcB : cB ≤ 1000) (hsB : sB ≤ 100000) (hx3 : x3 = nI (6 * k)) {v : mS} {G : gM} {N : Nat} {H : Heap} {locs : List Loc} {ls : Array Slot} (hI : Inv k v G N) (hG : gAg Γ G N H) (hP : lE Γ o ad v H) (hS : va_S (fun q => s.heap.size ≤ q) s.heap H locs) (hl : lv_has ls 4 [(0, .ref b), (1, .ref h), (2, .ref o), (3, .int x3)])
    (kk : ∀ (v : mS) (G : gM) (N : Nat) (H : Heap) (locs : List Loc), Inv (k + 1) v G N → gAg Γ G N H → lE Γ o ad v H → va_S (fun q => s.heap.size ≤ q) s.heap H locs → W p l e room_1 s m #[Value.ref b] below meth c H locs (cB + 64 * (k + 1)) (sB + 1000 * (k + 1)) Q (F0 m 1427 ls [])) : W p l e room_1 s m #[Value.ref b] below meth c H locs (cB + 64 * k) (sB + 1000 * k) Q (F0 m 810 ls []) := by
  have hx := B.1.1
  have hb := B.1.2.1
  obtain ⟨oc, hO⟩ := B.2.2.2.2.2.2.1 k v G N hI
  obtain ⟨r, v1, u1, e2, e1, hI1, hb1, hb2⟩ := B.2.2.2.2.2.2.2.2.2 18 (by decide) (xs (x3 + nI 1).toNatClampNeg) (xs (x3 + nI 2).toNatClampNeg) 0 0 0 k v G N (by omega) hI
  refine lv_aload_n hx hb dL_law_810 rfl (lv_at hl 1 rfl) ?_
  refine lv_aload_n hx hb dL_law_811 rfl (lv_at hl 0 rfl) ?_
  refine lv_iload_n hx hb dL_law_812 rfl (lv_at hl 3 rfl) ?_
  refine lv_iconst (v := nI 1) hx hb dL_law_813 (by decide) ?_
  refine lv_iadd hx hb dL_law_814 ?_
  refine lx_ld B hS (lx_in hk hL hx3 (by decide : 1 < 6)) dL_law_815 ?_
  refine lv_aload_n hx hb dL_law_816 rfl (lv_at hl 0 rfl) ?_
  refine lv_iload_n hx hb dL_law_817 rfl (lv_at hl 3 rfl) ?_
  refine lv_iconst (v := nI 2) hx hb dL_law_818 (by decide) ?_
  refine lv_iadd hx hb dL_law_819 ?_
  refine lx_ld B hS (lx_in hk hL hx3 (by decide : 2 < 6)) dL_law_820 ?_
  have e4 : cN (fX9_post h (xs (x3 + nI 1).toNatClampNeg) (xs (x3 + nI 2).toNatClampNeg) G) (G, N, 0) = some (r, u1) := e1
  obtain ⟨G1, e3, hu1⟩ := cN_inv e4
  rw [hu1] at hI1 hb1 hb2
  refine lx_cX B hG hP hS [.int (xs (x3 + nI 1).toNatClampNeg), .int (xs (x3 + nI 2).toNatClampNeg)] hO (tX9_post e3) qlX9_18 ⟨rfl, rfl, Nat.le_of_ble_eq_true rfl, Nat.le_of_ble_eq_true rfl⟩ ⟨by show _ + 0 ≤ 600000; omega, by show _ + 0 ≤ 7302250; omega⟩ rfl hl.1 rfl (Nat.le_of_ble_eq_true rfl) dL_law_821 (fun H locs hG hP hS => ?_)
  refine W.widen (k := cB + 64 * k + 64) (n := sB + 1000 * k + 1000) (by show cB + 64 * k + 0 ≤ _; omega) (by show sB + 1000 * k + 0 ≤ _; omega) ?_
  refine lv_aload_n hx hb dL_law_824 rfl (lv_at hl 2 rfl) ?_
  refine lv_aload_n hx hb dL_law_825 rfl (lv_at hl 0 rfl) ?_
  refine lv_iload_n hx hb dL_law_826 rfl (lv_at hl 3 rfl) ?_
  refine lv_iconst (v := nI 1) hx hb dL_law_827 (by decide) ?_
  refine lv_iadd hx hb dL_law_828 ?_
  refine lx_ld B hS (lx_in hk hL hx3 (by decide : 1 < 6)) dL_law_829 ?_
  refine lv_aload_n hx hb dL_law_830 rfl (lv_at hl 0 rfl) ?_
  refine lv_iload_n hx hb dL_law_831 rfl (lv_at hl 3 rfl) ?_
  refine lv_iconst (v := nI 2) hx hb dL_law_832 (by decide) ?_
  refine lv_iadd hx hb dL_law_833 ?_
  refine lx_ld B hS (lx_in hk hL hx3 (by decide : 2 < 6)) dL_law_834 ?_
  have e5 : fX10_post (xs (x3 + nI 1).toNatClampNeg) (xs (x3 + nI 2).toNatClampNeg) v = some (r, v1) := e2
  refine lx_cM B hG hP hS [.int (xs (x3 + nI 1).toNatClampNeg), .int (xs (x3 + nI 2).toNatClampNeg)] (tX10_post e5) qlX10_18 ⟨rfl, rfl, Nat.le_of_ble_eq_true rfl, Nat.le_of_ble_eq_true rfl⟩ ⟨by show _ ≤ 600000; omega, by show _ ≤ 7302250; omega⟩ rfl hl.1 rfl (Nat.le_of_ble_eq_true rfl) dL_law_835 (fun H locs N1 hN1 hG hP hS => ?_)
  refine lv_icmp_eq (tgt := 1427) hx hb dL_law_838 (by decide) (fun _ => ?_) (fun hc => absurd rfl hc)
  refine W.widen (k := cB + 64 * (k + 1)) (n := sB + 1000 * (k + 1)) (by omega) (by omega) ?_
  exact kk v1 _ N1 H locs (B.2.2.2.2.2.2.2.1 _ _ _ _ _ hI1 hN1) hG hP hS
set_option maxHeartbeats 4000000 in
set_option maxRecDepth 20000 in
theorem lc_19 (B : lB p s m meth c b L xs Γ h o ad Inv) (hL : L ≤ 3072) {cB sB k : Nat} {x3 : Int32} (hk : 6 * k + 6 ≤ L) (hcB : cB ≤ 1000) (hsB : sB ≤ 100000) (hx3 : x3 = nI (6 * k)) {v : mS} {G : gM} {N : Nat} {H : Heap} {locs : List Loc} {ls : Array Slot} (hI : Inv k v G N) (hG : gAg Γ G N H) (hP : lE Γ o ad v H) (hS : va_S (fun q => s.heap.size ≤ q) s.heap H locs) (hl : lv_has ls 4 [(0, .ref b), (1, .ref h), (2, .ref o), (3, .int x3)])
    (kk : ∀ (v : mS) (G : gM) (N : Nat) (H : Heap) (locs : List Loc), Inv (k + 1) v G N → gAg Γ G N H → lE Γ o ad v H → va_S (fun q => s.heap.size ≤ q) s.heap H locs → W p l e room_1 s m #[Value.ref b] below meth c H locs (cB + 64 * (k + 1)) (sB + 1000 * (k + 1)) Q (F0 m 1427 ls [])) : W p l e room_1 s m #[Value.ref b] below meth c H locs (cB + 64 * k) (sB + 1000 * k) Q (F0 m 843 ls []) := by
  have hx := B.1.1
  have hb := B.1.2.1
  obtain ⟨oc, hO⟩ := B.2.2.2.2.2.2.1 k v G N hI
  obtain ⟨r, v1, u1, e2, e1, hI1, hb1, hb2⟩ := B.2.2.2.2.2.2.2.2.2 19 (by decide) (xs (x3 + nI 1).toNatClampNeg) (xs (x3 + nI 2).toNatClampNeg) (xs (x3 + nI 3).toNatClampNeg) 0 0 k v G N (by omega) hI
  refine lv_aload_n hx hb dL_law_843 rfl (lv_at hl 1 rfl) ?_
  refine lv_aload_n hx hb dL_law_844 rfl (lv_at hl 0 rfl) ?_
  refine lv_iload_n hx hb dL_law_845 rfl (lv_at hl 3 rfl) ?_
  refine lv_iconst (v := nI 1) hx hb dL_law_846 (by decide) ?_
  refine lv_iadd hx hb dL_law_847 ?_
  refine lx_ld B hS (lx_in hk hL hx3 (by decide : 1 < 6)) dL_law_848 ?_
  refine lv_aload_n hx hb dL_law_849 rfl (lv_at hl 0 rfl) ?_
  refine lv_iload_n hx hb dL_law_850 rfl (lv_at hl 3 rfl) ?_
  refine lv_iconst (v := nI 2) hx hb dL_law_851 (by decide) ?_
  refine lv_iadd hx hb dL_law_852 ?_
  refine lx_ld B hS (lx_in hk hL hx3 (by decide : 2 < 6)) dL_law_853 ?_
  refine lv_aload_n hx hb dL_law_854 rfl (lv_at hl 0 rfl) ?_
  refine lv_iload_n hx hb dL_law_855 rfl (lv_at hl 3 rfl) ?_
  refine lv_iconst (v := nI 3) hx hb dL_law_856 (by decide) ?_
  refine lv_iadd hx hb dL_law_857 ?_
  refine lx_ld B hS (lx_in hk hL hx3 (by decide : 3 < 6)) dL_law_858 ?_
  have e4 : cN (fX9_fits h (xs (x3 + nI 1).toNatClampNeg) (xs (x3 + nI 2).toNatClampNeg) (xs (x3 + nI 3).toNatClampNeg) G) (G, N, 0) = some (r, u1) := e1
  obtain ⟨G1, e3, hu1⟩ := cN_inv e4
  rw [hu1] at hI1 hb1 hb2
  refine lx_cX B hG hP hS [.int (xs (x3 + nI 1).toNatClampNeg), .int (xs (x3 + nI 2).toNatClampNeg), .int (xs (x3 + nI 3).toNatClampNeg)] hO (tX9_fits e3) qlX9_19 ⟨rfl, rfl, Nat.le_of_ble_eq_true rfl, Nat.le_of_ble_eq_true rfl⟩ ⟨by show _ + 0 ≤ 600000; omega, by show _ + 0 ≤ 7302250; omega⟩ rfl hl.1 rfl (Nat.le_of_ble_eq_true rfl) dL_law_859 (fun H locs hG hP hS => ?_)
  refine W.widen (k := cB + 64 * k + 64) (n := sB + 1000 * k + 1000) (by show cB + 64 * k + 0 ≤ _; omega) (by show sB + 1000 * k + 0 ≤ _; omega) ?_
  refine lv_aload_n hx hb dL_law_862 rfl (lv_at hl 2 rfl) ?_
  refine lv_aload_n hx hb dL_law_863 rfl (lv_at hl 0 rfl) ?_
  refine lv_iload_n hx hb dL_law_864 rfl (lv_at hl 3 rfl) ?_
  refine lv_iconst (v := nI 1) hx hb dL_law_865 (by decide) ?_
  refine lv_iadd hx hb dL_law_866 ?_
  refine lx_ld B hS (lx_in hk hL hx3 (by decide : 1 < 6)) dL_law_867 ?_
  refine lv_aload_n hx hb dL_law_868 rfl (lv_at hl 0 rfl) ?_
  refine lv_iload_n hx hb dL_law_869 rfl (lv_at hl 3 rfl) ?_
  refine lv_iconst (v := nI 2) hx hb dL_law_870 (by decide) ?_
  refine lv_iadd hx hb dL_law_871 ?_
  refine lx_ld B hS (lx_in hk hL hx3 (by decide : 2 < 6)) dL_law_872 ?_
  refine lv_aload_n hx hb dL_law_873 rfl (lv_at hl 0 rfl) ?_
  refine lv_iload_n hx hb dL_law_874 rfl (lv_at hl 3 rfl) ?_
  refine lv_iconst (v := nI 3) hx hb dL_law_875 (by decide) ?_
  refine lv_iadd hx hb dL_law_876 ?_
  refine lx_ld B hS (lx_in hk hL hx3 (by decide : 3 < 6)) dL_law_877 ?_
  have e5 : fX10_fits (xs (x3 + nI 1).toNatClampNeg) (xs (x3 + nI 2).toNatClampNeg) (xs (x3 + nI 3).toNatClampNeg) v = some (r, v1) := e2
  refine lx_cM B hG hP hS [.int (xs (x3 + nI 1).toNatClampNeg), .int (xs (x3 + nI 2).toNatClampNeg), .int (xs (x3 + nI 3).toNatClampNeg)] (tX10_fits e5) qlX10_19 ⟨rfl, rfl, Nat.le_of_ble_eq_true rfl, Nat.le_of_ble_eq_true rfl⟩ ⟨by show _ ≤ 600000; omega, by show _ ≤ 7302250; omega⟩ rfl hl.1 rfl (Nat.le_of_ble_eq_true rfl) dL_law_878 (fun H locs N1 hN1 hG hP hS => ?_)
  refine lv_icmp_eq (tgt := 1427) hx hb dL_law_881 (by decide) (fun _ => ?_) (fun hc => absurd rfl hc)
  refine W.widen (k := cB + 64 * (k + 1)) (n := sB + 1000 * (k + 1)) (by omega) (by omega) ?_
  exact kk v1 _ N1 H locs (B.2.2.2.2.2.2.2.1 _ _ _ _ _ hI1 hN1) hG hP hS
set_option maxHeartbeats 4000000 in
set_option maxRecDepth 20000 in
theorem lc_20 (B : lB p s m meth c b L xs Γ h o ad Inv) (hL : L ≤ 3072) {cB sB k : Nat} {x3 : Int32} (hk : 6 * k + 6 ≤ L) (hcB : cB ≤ 1000) (hsB : sB ≤ 100000) (hx3 : x3 = nI (6 * k)) {v : mS} {G : gM} {N : Nat} {H : Heap} {locs : List Loc} {ls : Array Slot} (hI : Inv k v G N) (hG : gAg Γ G N H) (hP : lE Γ o ad v H) (hS : va_S (fun q => s.heap.size ≤ q) s.heap H locs) (hl : lv_has ls 4 [(0, .ref b), (1, .ref h), (2, .ref o), (3, .int x3)])
    (kk : ∀ (v : mS) (G : gM) (N : Nat) (H : Heap) (locs : List Loc), Inv (k + 1) v G N → gAg Γ G N H → lE Γ o ad v H → va_S (fun q => s.heap.size ≤ q) s.heap H locs → W p l e room_1 s m #[Value.ref b] below meth c H locs (cB + 64 * (k + 1)) (sB + 1000 * (k + 1)) Q (F0 m 1427 ls [])) : W p l e room_1 s m #[Value.ref b] below meth c H locs (cB + 64 * k) (sB + 1000 * k) Q (F0 m 886 ls []) := by
  have hx := B.1.1
  have hb := B.1.2.1
  obtain ⟨oc, hO⟩ := B.2.2.2.2.2.2.1 k v G N hI
  obtain ⟨r, v1, u1, e2, e1, hI1, hb1, hb2⟩ := B.2.2.2.2.2.2.2.2.2 20 (by decide) (xs (x3 + nI 1).toNatClampNeg) (xs (x3 + nI 2).toNatClampNeg) (xs (x3 + nI 3).toNatClampNeg) 0 0 k v G N (by omega) hI
  refine lv_aload_n hx hb dL_law_886 rfl (lv_at hl 1 rfl) ?_
  refine lv_aload_n hx hb dL_law_887 rfl (lv_at hl 0 rfl) ?_
  refine lv_iload_n hx hb dL_law_888 rfl (lv_at hl 3 rfl) ?_
  refine lv_iconst (v := nI 1) hx hb dL_law_889 (by decide) ?_
  refine lv_iadd hx hb dL_law_890 ?_
  refine lx_ld B hS (lx_in hk hL hx3 (by decide : 1 < 6)) dL_law_891 ?_
  refine lv_aload_n hx hb dL_law_892 rfl (lv_at hl 0 rfl) ?_
  refine lv_iload_n hx hb dL_law_893 rfl (lv_at hl 3 rfl) ?_
  refine lv_iconst (v := nI 2) hx hb dL_law_894 (by decide) ?_
  refine lv_iadd hx hb dL_law_895 ?_
  refine lx_ld B hS (lx_in hk hL hx3 (by decide : 2 < 6)) dL_law_896 ?_
  refine lv_aload_n hx hb dL_law_897 rfl (lv_at hl 0 rfl) ?_
  refine lv_iload_n hx hb dL_law_898 rfl (lv_at hl 3 rfl) ?_
  refine lv_iconst (v := nI 3) hx hb dL_law_899 (by decide) ?_
  refine lv_iadd hx hb dL_law_900 ?_
  refine lx_ld B hS (lx_in hk hL hx3 (by decide : 3 < 6)) dL_law_901 ?_
  have e4 : cN (fX9_likely h (xs (x3 + nI 1).toNatClampNeg) (xs (x3 + nI 2).toNatClampNeg) (xs (x3 + nI 3).toNatClampNeg) G) (G, N, 0) = some (r, u1) := e1
  obtain ⟨G1, e3, hu1⟩ := cN_inv e4
  rw [hu1] at hI1 hb1 hb2
  refine lx_cX B hG hP hS [.int (xs (x3 + nI 1).toNatClampNeg), .int (xs (x3 + nI 2).toNatClampNeg), .int (xs (x3 + nI 3).toNatClampNeg)] hO (tX9_likely e3) qlX9_20 ⟨rfl, rfl, Nat.le_of_ble_eq_true rfl, Nat.le_of_ble_eq_true rfl⟩ ⟨by show _ + 0 ≤ 600000; omega, by show _ + 0 ≤ 7302250; omega⟩ rfl hl.1 rfl (Nat.le_of_ble_eq_true rfl) dL_law_902 (fun H locs hG hP hS => ?_)
  refine W.widen (k := cB + 64 * k + 64) (n := sB + 1000 * k + 1000) (by show cB + 64 * k + 0 ≤ _; omega) (by show sB + 1000 * k + 0 ≤ _; omega) ?_
  refine lv_aload_n hx hb dL_law_905 rfl (lv_at hl 2 rfl) ?_
  refine lv_aload_n hx hb dL_law_906 rfl (lv_at hl 0 rfl) ?_
  refine lv_iload_n hx hb dL_law_907 rfl (lv_at hl 3 rfl) ?_
  refine lv_iconst (v := nI 1) hx hb dL_law_908 (by decide) ?_
  refine lv_iadd hx hb dL_law_909 ?_
  refine lx_ld B hS (lx_in hk hL hx3 (by decide : 1 < 6)) dL_law_910 ?_
  refine lv_aload_n hx hb dL_law_911 rfl (lv_at hl 0 rfl) ?_
  refine lv_iload_n hx hb dL_law_912 rfl (lv_at hl 3 rfl) ?_
  refine lv_iconst (v := nI 2) hx hb dL_law_913 (by decide) ?_
  refine lv_iadd hx hb dL_law_914 ?_
  refine lx_ld B hS (lx_in hk hL hx3 (by decide : 2 < 6)) dL_law_915 ?_
  refine lv_aload_n hx hb dL_law_916 rfl (lv_at hl 0 rfl) ?_
  refine lv_iload_n hx hb dL_law_917 rfl (lv_at hl 3 rfl) ?_
  refine lv_iconst (v := nI 3) hx hb dL_law_918 (by decide) ?_
  refine lv_iadd hx hb dL_law_919 ?_
  refine lx_ld B hS (lx_in hk hL hx3 (by decide : 3 < 6)) dL_law_920 ?_
  have e5 : fX10_likely (xs (x3 + nI 1).toNatClampNeg) (xs (x3 + nI 2).toNatClampNeg) (xs (x3 + nI 3).toNatClampNeg) v = some (r, v1) := e2
  refine lx_cM B hG hP hS [.int (xs (x3 + nI 1).toNatClampNeg), .int (xs (x3 + nI 2).toNatClampNeg), .int (xs (x3 + nI 3).toNatClampNeg)] (tX10_likely e5) qlX10_20 ⟨rfl, rfl, Nat.le_of_ble_eq_true rfl, Nat.le_of_ble_eq_true rfl⟩ ⟨by show _ ≤ 600000; omega, by show _ ≤ 7302250; omega⟩ rfl hl.1 rfl (Nat.le_of_ble_eq_true rfl) dL_law_921 (fun H locs N1 hN1 hG hP hS => ?_)
  refine lv_icmp_eq (tgt := 1427) hx hb dL_law_924 (by decide) (fun _ => ?_) (fun hc => absurd rfl hc)
  refine W.widen (k := cB + 64 * (k + 1)) (n := sB + 1000 * (k + 1)) (by omega) (by omega) ?_
  exact kk v1 _ N1 H locs (B.2.2.2.2.2.2.2.1 _ _ _ _ _ hI1 hN1) hG hP hS
set_option maxHeartbeats 4000000 in
set_option maxRecDepth 20000 in
theorem lc_21 (B : lB p s m meth c b L xs Γ h o ad Inv) (hL : L ≤ 3072) {cB sB k : Nat} {x3 : Int32} (hk : 6 * k + 6 ≤ L) (hcB : cB ≤ 1000) (hsB : sB ≤ 100000) (hx3 : x3 = nI (6 * k)) {v : mS} {G : gM} {N : Nat} {H : Heap} {locs : List Loc} {ls : Array Slot} (hI : Inv k v G N) (hG : gAg Γ G N H) (hP : lE Γ o ad v H) (hS : va_S (fun q => s.heap.size ≤ q) s.heap H locs) (hl : lv_has ls 4 [(0, .ref b), (1, .ref h), (2, .ref o), (3, .int x3)])
    (kk : ∀ (v : mS) (G : gM) (N : Nat) (H : Heap) (locs : List Loc), Inv (k + 1) v G N → gAg Γ G N H → lE Γ o ad v H → va_S (fun q => s.heap.size ≤ q) s.heap H locs → W p l e room_1 s m #[Value.ref b] below meth c H locs (cB + 64 * (k + 1)) (sB + 1000 * (k + 1)) Q (F0 m 1427 ls [])) : W p l e room_1 s m #[Value.ref b] below meth c H locs (cB + 64 * k) (sB + 1000 * k) Q (F0 m 929 ls []) := by
  have hx := B.1.1
  have hb := B.1.2.1
  obtain ⟨oc, hO⟩ := B.2.2.2.2.2.2.1 k v G N hI
  obtain ⟨r, v1, u1, e2, e1, hI1, hb1, hb2⟩ := B.2.2.2.2.2.2.2.2.2 21 (by decide) (xs (x3 + nI 1).toNatClampNeg) (xs (x3 + nI 2).toNatClampNeg) (xs (x3 + nI 3).toNatClampNeg) 0 0 k v G N (by omega) hI
  refine lv_aload_n hx hb dL_law_929 rfl (lv_at hl 1 rfl) ?_
  refine lv_aload_n hx hb dL_law_930 rfl (lv_at hl 0 rfl) ?_
  refine lv_iload_n hx hb dL_law_931 rfl (lv_at hl 3 rfl) ?_
  refine lv_iconst (v := nI 1) hx hb dL_law_932 (by decide) ?_
  refine lv_iadd hx hb dL_law_933 ?_
  refine lx_ld B hS (lx_in hk hL hx3 (by decide : 1 < 6)) dL_law_934 ?_
  refine lv_aload_n hx hb dL_law_935 rfl (lv_at hl 0 rfl) ?_
  refine lv_iload_n hx hb dL_law_936 rfl (lv_at hl 3 rfl) ?_
  refine lv_iconst (v := nI 2) hx hb dL_law_937 (by decide) ?_
  refine lv_iadd hx hb dL_law_938 ?_
  refine lx_ld B hS (lx_in hk hL hx3 (by decide : 2 < 6)) dL_law_939 ?_
  refine lv_aload_n hx hb dL_law_940 rfl (lv_at hl 0 rfl) ?_
  refine lv_iload_n hx hb dL_law_941 rfl (lv_at hl 3 rfl) ?_
  refine lv_iconst (v := nI 3) hx hb dL_law_942 (by decide) ?_
  refine lv_iadd hx hb dL_law_943 ?_
  refine lx_ld B hS (lx_in hk hL hx3 (by decide : 3 < 6)) dL_law_944 ?_
  have e4 : cN (fX9_share h (xs (x3 + nI 1).toNatClampNeg) (xs (x3 + nI 2).toNatClampNeg) (xs (x3 + nI 3).toNatClampNeg) G) (G, N, 0) = some (r, u1) := e1
  obtain ⟨G1, e3, hu1⟩ := cN_inv e4
  rw [hu1] at hI1 hb1 hb2
  refine lx_cX B hG hP hS [.int (xs (x3 + nI 1).toNatClampNeg), .int (xs (x3 + nI 2).toNatClampNeg), .int (xs (x3 + nI 3).toNatClampNeg)] hO (tX9_share e3) qlX9_21 ⟨rfl, rfl, Nat.le_of_ble_eq_true rfl, Nat.le_of_ble_eq_true rfl⟩ ⟨by show _ + 0 ≤ 600000; omega, by show _ + 0 ≤ 7302250; omega⟩ rfl hl.1 rfl (Nat.le_of_ble_eq_true rfl) dL_law_945 (fun H locs hG hP hS => ?_)
  refine W.widen (k := cB + 64 * k + 64) (n := sB + 1000 * k + 1000) (by show cB + 64 * k + 0 ≤ _; omega) (by show sB + 1000 * k + 0 ≤ _; omega) ?_
  refine lv_aload_n hx hb dL_law_948 rfl (lv_at hl 2 rfl) ?_
  refine lv_aload_n hx hb dL_law_949 rfl (lv_at hl 0 rfl) ?_
  refine lv_iload_n hx hb dL_law_950 rfl (lv_at hl 3 rfl) ?_
  refine lv_iconst (v := nI 1) hx hb dL_law_951 (by decide) ?_
  refine lv_iadd hx hb dL_law_952 ?_
  refine lx_ld B hS (lx_in hk hL hx3 (by decide : 1 < 6)) dL_law_953 ?_
  refine lv_aload_n hx hb dL_law_954 rfl (lv_at hl 0 rfl) ?_
  refine lv_iload_n hx hb dL_law_955 rfl (lv_at hl 3 rfl) ?_
  refine lv_iconst (v := nI 2) hx hb dL_law_956 (by decide) ?_
  refine lv_iadd hx hb dL_law_957 ?_
  refine lx_ld B hS (lx_in hk hL hx3 (by decide : 2 < 6)) dL_law_958 ?_
  refine lv_aload_n hx hb dL_law_959 rfl (lv_at hl 0 rfl) ?_
  refine lv_iload_n hx hb dL_law_960 rfl (lv_at hl 3 rfl) ?_
  refine lv_iconst (v := nI 3) hx hb dL_law_961 (by decide) ?_
  refine lv_iadd hx hb dL_law_962 ?_
  refine lx_ld B hS (lx_in hk hL hx3 (by decide : 3 < 6)) dL_law_963 ?_
  have e5 : fX10_share (xs (x3 + nI 1).toNatClampNeg) (xs (x3 + nI 2).toNatClampNeg) (xs (x3 + nI 3).toNatClampNeg) v = some (r, v1) := e2
  refine lx_cM B hG hP hS [.int (xs (x3 + nI 1).toNatClampNeg), .int (xs (x3 + nI 2).toNatClampNeg), .int (xs (x3 + nI 3).toNatClampNeg)] (tX10_share e5) qlX10_21 ⟨rfl, rfl, Nat.le_of_ble_eq_true rfl, Nat.le_of_ble_eq_true rfl⟩ ⟨by show _ ≤ 600000; omega, by show _ ≤ 7302250; omega⟩ rfl hl.1 rfl (Nat.le_of_ble_eq_true rfl) dL_law_964 (fun H locs N1 hN1 hG hP hS => ?_)
  refine lv_icmp_eq (tgt := 1427) hx hb dL_law_967 (by decide) (fun _ => ?_) (fun hc => absurd rfl hc)
  refine W.widen (k := cB + 64 * (k + 1)) (n := sB + 1000 * (k + 1)) (by omega) (by omega) ?_
  exact kk v1 _ N1 H locs (B.2.2.2.2.2.2.2.1 _ _ _ _ _ hI1 hN1) hG hP hS
set_option maxHeartbeats 4000000 in
set_option maxRecDepth 20000 in
theorem lc_22 (B : lB p s m meth c b L xs Γ h o ad Inv) (hL : L ≤ 3072) {cB sB k : Nat} {x3 : Int32} (hk : 6 * k + 6 ≤ L) (hcB : cB ≤ 1000) (hsB : sB ≤ 100000) (hx3 : x3 = nI (6 * k)) {v : mS} {G : gM} {N : Nat} {H : Heap} {locs : List Loc} {ls : Array Slot} (hI : Inv k v G N) (hG : gAg Γ G N H) (hP : lE Γ o ad v H) (hS : va_S (fun q => s.heap.size ≤ q) s.heap H locs) (hl : lv_has ls 4 [(0, .ref b), (1, .ref h), (2, .ref o), (3, .int x3)])
    (kk : ∀ (v : mS) (G : gM) (N : Nat) (H : Heap) (locs : List Loc), Inv (k + 1) v G N → gAg Γ G N H → lE Γ o ad v H → va_S (fun q => s.heap.size ≤ q) s.heap H locs → W p l e room_1 s m #[Value.ref b] below meth c H locs (cB + 64 * (k + 1)) (sB + 1000 * (k + 1)) Q (F0 m 1427 ls [])) : W p l e room_1 s m #[Value.ref b] below meth c H locs (cB + 64 * k) (sB + 1000 * k) Q (F0 m 972 ls []) := by
  have hx := B.1.1
  have hb := B.1.2.1
  obtain ⟨oc, hO⟩ := B.2.2.2.2.2.2.1 k v G N hI
  obtain ⟨r, v1, u1, e2, e1, hI1, hb1, hb2⟩ := B.2.2.2.2.2.2.2.2.2 22 (by decide) (xs (x3 + nI 1).toNatClampNeg) (xs (x3 + nI 2).toNatClampNeg) 0 0 0 k v G N (by omega) hI
  refine lv_aload_n hx hb dL_law_972 rfl (lv_at hl 1 rfl) ?_
  refine lv_aload_n hx hb dL_law_973 rfl (lv_at hl 0 rfl) ?_
  refine lv_iload_n hx hb dL_law_974 rfl (lv_at hl 3 rfl) ?_
  refine lv_iconst (v := nI 1) hx hb dL_law_975 (by decide) ?_
  refine lv_iadd hx hb dL_law_976 ?_
  refine lx_ld B hS (lx_in hk hL hx3 (by decide : 1 < 6)) dL_law_977 ?_
  refine lv_aload_n hx hb dL_law_978 rfl (lv_at hl 0 rfl) ?_
  refine lv_iload_n hx hb dL_law_979 rfl (lv_at hl 3 rfl) ?_
  refine lv_iconst (v := nI 2) hx hb dL_law_980 (by decide) ?_
  refine lv_iadd hx hb dL_law_981 ?_
  refine lx_ld B hS (lx_in hk hL hx3 (by decide : 2 < 6)) dL_law_982 ?_
  have e4 : cN (fX9_law h (xs (x3 + nI 1).toNatClampNeg) (xs (x3 + nI 2).toNatClampNeg) G) (G, N, 0) = some (r, u1) := e1
  obtain ⟨G1, e3, hu1⟩ := cN_inv e4
  rw [hu1] at hI1 hb1 hb2
  refine lx_cX B hG hP hS [.int (xs (x3 + nI 1).toNatClampNeg), .int (xs (x3 + nI 2).toNatClampNeg)] hO (tX9_law e3) qlX9_22 ⟨rfl, rfl, Nat.le_of_ble_eq_true rfl, Nat.le_of_ble_eq_true rfl⟩ ⟨by show _ + 0 ≤ 600000; omega, by show _ + 0 ≤ 7302250; omega⟩ rfl hl.1 rfl (Nat.le_of_ble_eq_true rfl) dL_law_983 (fun H locs hG hP hS => ?_)
  refine W.widen (k := cB + 64 * k + 64) (n := sB + 1000 * k + 1000) (by show cB + 64 * k + 0 ≤ _; omega) (by show sB + 1000 * k + 0 ≤ _; omega) ?_
  refine lv_aload_n hx hb dL_law_986 rfl (lv_at hl 2 rfl) ?_
  refine lv_aload_n hx hb dL_law_987 rfl (lv_at hl 0 rfl) ?_
  refine lv_iload_n hx hb dL_law_988 rfl (lv_at hl 3 rfl) ?_
  refine lv_iconst (v := nI 1) hx hb dL_law_989 (by decide) ?_
  refine lv_iadd hx hb dL_law_990 ?_
  refine lx_ld B hS (lx_in hk hL hx3 (by decide : 1 < 6)) dL_law_991 ?_
  refine lv_aload_n hx hb dL_law_992 rfl (lv_at hl 0 rfl) ?_
  refine lv_iload_n hx hb dL_law_993 rfl (lv_at hl 3 rfl) ?_
  refine lv_iconst (v := nI 2) hx hb dL_law_994 (by decide) ?_
  refine lv_iadd hx hb dL_law_995 ?_
  refine lx_ld B hS (lx_in hk hL hx3 (by decide : 2 < 6)) dL_law_996 ?_
  have e5 : fX10_law (xs (x3 + nI 1).toNatClampNeg) (xs (x3 + nI 2).toNatClampNeg) v = some (r, v1) := e2
  refine lx_cM B hG hP hS [.int (xs (x3 + nI 1).toNatClampNeg), .int (xs (x3 + nI 2).toNatClampNeg)] (tX10_law e5) qlX10_22 ⟨rfl, rfl, Nat.le_of_ble_eq_true rfl, Nat.le_of_ble_eq_true rfl⟩ ⟨by show _ ≤ 600000; omega, by show _ ≤ 7302250; omega⟩ rfl hl.1 rfl (Nat.le_of_ble_eq_true rfl) dL_law_997 (fun H locs N1 hN1 hG hP hS => ?_)
  refine lv_icmp_eq (tgt := 1427) hx hb dL_law_1000 (by decide) (fun _ => ?_) (fun hc => absurd rfl hc)
  refine W.widen (k := cB + 64 * (k + 1)) (n := sB + 1000 * (k + 1)) (by omega) (by omega) ?_
  exact kk v1 _ N1 H locs (B.2.2.2.2.2.2.2.1 _ _ _ _ _ hI1 hN1) hG hP hS
set_option maxHeartbeats 4000000 in
set_option maxRecDepth 20000 in
theorem lc_23 (B : lB p s m meth c b L xs Γ h o ad Inv) (hL : L ≤ 3072) {cB sB k : Nat} {x3 : Int32} (hk : 6 * k + 6 ≤ L) (hcB : cB ≤ 1000) (hsB : sB ≤ 100000) (hx3 : x3 = nI (6 * k)) {v : mS} {G : gM} {N : Nat} {H : Heap} {locs : List Loc} {ls : Array Slot} (hI : Inv k v G N) (hG : gAg Γ G N H) (hP : lE Γ o ad v H) (hS : va_S (fun q => s.heap.size ≤ q) s.heap H locs) (hl : lv_has ls 4 [(0, .ref b), (1, .ref h), (2, .ref o), (3, .int x3)])
    (kk : ∀ (v : mS) (G : gM) (N : Nat) (H : Heap) (locs : List Loc), Inv (k + 1) v G N → gAg Γ G N H → lE Γ o ad v H → va_S (fun q => s.heap.size ≤ q) s.heap H locs → W p l e room_1 s m #[Value.ref b] below meth c H locs (cB + 64 * (k + 1)) (sB + 1000 * (k + 1)) Q (F0 m 1427 ls [])) : W p l e room_1 s m #[Value.ref b] below meth c H locs (cB + 64 * k) (sB + 1000 * k) Q (F0 m 1005 ls []) := by
  have hx := B.1.1
  have hb := B.1.2.1
  obtain ⟨oc, hO⟩ := B.2.2.2.2.2.2.1 k v G N hI
  obtain ⟨r, v1, u1, e2, e1, hI1, hb1, hb2⟩ := B.2.2.2.2.2.2.2.2.2 23 (by decide) 0 0 0 0 0 k v G N (by omega) hI
  refine lv_aload_n hx hb dL_law_1005 rfl (lv_at hl 1 rfl) ?_
  have e4 : cN (fX9_sellable h  G) (G, N, 0) = some (r, u1) := e1
  obtain ⟨G1, e3, hu1⟩ := cN_inv e4
  rw [hu1] at hI1 hb1 hb2
  refine lx_cX B hG hP hS [] hO (tX9_sellable e3) qlX9_23 ⟨rfl, rfl, Nat.le_of_ble_eq_true rfl, Nat.le_of_ble_eq_true rfl⟩ ⟨by show _ + 0 ≤ 600000; omega, by show _ + 0 ≤ 7302250; omega⟩ rfl hl.1 rfl (Nat.le_of_ble_eq_true rfl) dL_law_1006 (fun H locs hG hP hS => ?_)
  refine W.widen (k := cB + 64 * k + 64) (n := sB + 1000 * k + 1000) (by show cB + 64 * k + 0 ≤ _; omega) (by show sB + 1000 * k + 0 ≤ _; omega) ?_
  refine lv_aload_n hx hb dL_law_1009 rfl (lv_at hl 2 rfl) ?_
  have e5 : fX10_sellable  v = some (r, v1) := e2
  refine lx_cM B hG hP hS [] (tX10_sellable e5) qlX10_23 ⟨rfl, rfl, Nat.le_of_ble_eq_true rfl, Nat.le_of_ble_eq_true rfl⟩ ⟨by show _ ≤ 600000; omega, by show _ ≤ 7302250; omega⟩ rfl hl.1 rfl (Nat.le_of_ble_eq_true rfl) dL_law_1010 (fun H locs N1 hN1 hG hP hS => ?_)
  refine lv_icmp_eq (tgt := 1427) hx hb dL_law_1013 (by decide) (fun _ => ?_) (fun hc => absurd rfl hc)
  refine W.widen (k := cB + 64 * (k + 1)) (n := sB + 1000 * (k + 1)) (by omega) (by omega) ?_
  exact kk v1 _ N1 H locs (B.2.2.2.2.2.2.2.1 _ _ _ _ _ hI1 hN1) hG hP hS
set_option maxHeartbeats 4000000 in
set_option maxRecDepth 20000 in
theorem lc_24 (B : lB p s m meth c b L xs Γ h o ad Inv) (hL : L ≤ 3072) {cB sB k : Nat} {x3 : Int32} (hk : 6 * k + 6 ≤ L) (hcB : cB ≤ 1000) (hsB : sB ≤ 100000) (hx3 : x3 = nI (6 * k)) {v : mS} {G : gM} {N : Nat} {H : Heap} {locs : List Loc} {ls : Array Slot} (hI : Inv k v G N) (hG : gAg Γ G N H) (hP : lE Γ o ad v H) (hS : va_S (fun q => s.heap.size ≤ q) s.heap H locs) (hl : lv_has ls 4 [(0, .ref b), (1, .ref h), (2, .ref o), (3, .int x3)])
    (kk : ∀ (v : mS) (G : gM) (N : Nat) (H : Heap) (locs : List Loc), Inv (k + 1) v G N → gAg Γ G N H → lE Γ o ad v H → va_S (fun q => s.heap.size ≤ q) s.heap H locs → W p l e room_1 s m #[Value.ref b] below meth c H locs (cB + 64 * (k + 1)) (sB + 1000 * (k + 1)) Q (F0 m 1427 ls [])) : W p l e room_1 s m #[Value.ref b] below meth c H locs (cB + 64 * k) (sB + 1000 * k) Q (F0 m 1018 ls []) := by
  have hx := B.1.1
  have hb := B.1.2.1
  obtain ⟨oc, hO⟩ := B.2.2.2.2.2.2.1 k v G N hI
  obtain ⟨r, v1, u1, e2, e1, hI1, hb1, hb2⟩ := B.2.2.2.2.2.2.2.2.2 24 (by decide) (xs (x3 + nI 1).toNatClampNeg) (xs (x3 + nI 2).toNatClampNeg) 0 0 0 k v G N (by omega) hI
  refine lv_aload_n hx hb dL_law_1018 rfl (lv_at hl 1 rfl) ?_
  refine lv_aload_n hx hb dL_law_1019 rfl (lv_at hl 0 rfl) ?_
  refine lv_iload_n hx hb dL_law_1020 rfl (lv_at hl 3 rfl) ?_
  refine lv_iconst (v := nI 1) hx hb dL_law_1021 (by decide) ?_
  refine lv_iadd hx hb dL_law_1022 ?_
  refine lx_ld B hS (lx_in hk hL hx3 (by decide : 1 < 6)) dL_law_1023 ?_
  refine lv_aload_n hx hb dL_law_1024 rfl (lv_at hl 0 rfl) ?_
  refine lv_iload_n hx hb dL_law_1025 rfl (lv_at hl 3 rfl) ?_
  refine lv_iconst (v := nI 2) hx hb dL_law_1026 (by decide) ?_
  refine lv_iadd hx hb dL_law_1027 ?_
  refine lx_ld B hS (lx_in hk hL hx3 (by decide : 2 < 6)) dL_law_1028 ?_
  have e3 : fX9_sell Γ.2.2.2 h (xs (x3 + nI 1).toNatClampNeg) (xs (x3 + nI 2).toNatClampNeg) (G, N, 0) = some (r, u1) := e1
  refine lx_cX B hG hP hS [.int (xs (x3 + nI 1).toNatClampNeg), .int (xs (x3 + nI 2).toNatClampNeg)] hO (tX9_sell rfl e3) qlX9_24 ⟨rfl, rfl, Nat.le_of_ble_eq_true rfl, Nat.le_of_ble_eq_true rfl⟩ ⟨by show _ + (u1.2.1 - N) ≤ 600000; omega, by show _ + (u1.2.2 - 0) ≤ 7302250; omega⟩ rfl hl.1 rfl (Nat.le_of_ble_eq_true rfl) dL_law_1029 (fun H locs hG hP hS => ?_)
  refine W.widen (k := cB + 64 * k + 64) (n := sB + 1000 * k + 1000) (by show cB + 64 * k + (u1.2.1 - N) ≤ _; omega) (by show sB + 1000 * k + (u1.2.2 - 0) ≤ _; omega) ?_
  refine lv_aload_n hx hb dL_law_1032 rfl (lv_at hl 2 rfl) ?_
  refine lv_aload_n hx hb dL_law_1033 rfl (lv_at hl 0 rfl) ?_
  refine lv_iload_n hx hb dL_law_1034 rfl (lv_at hl 3 rfl) ?_
  refine lv_iconst (v := nI 1) hx hb dL_law_1035 (by decide) ?_
  refine lv_iadd hx hb dL_law_1036 ?_
  refine lx_ld B hS (lx_in hk hL hx3 (by decide : 1 < 6)) dL_law_1037 ?_
  refine lv_aload_n hx hb dL_law_1038 rfl (lv_at hl 0 rfl) ?_
  refine lv_iload_n hx hb dL_law_1039 rfl (lv_at hl 3 rfl) ?_
  refine lv_iconst (v := nI 2) hx hb dL_law_1040 (by decide) ?_
  refine lv_iadd hx hb dL_law_1041 ?_
  refine lx_ld B hS (lx_in hk hL hx3 (by decide : 2 < 6)) dL_law_1042 ?_
  have e5 : fX10_sell (xs (x3 + nI 1).toNatClampNeg) (xs (x3 + nI 2).toNatClampNeg) v = some (r, v1) := e2
  refine lx_cM B hG hP hS [.int (xs (x3 + nI 1).toNatClampNeg), .int (xs (x3 + nI 2).toNatClampNeg)] (tX10_sell e5) qlX10_24 ⟨rfl, rfl, Nat.le_of_ble_eq_true rfl, Nat.le_of_ble_eq_true rfl⟩ ⟨by show _ ≤ 600000; omega, by show _ ≤ 7302250; omega⟩ rfl hl.1 rfl (Nat.le_of_ble_eq_true rfl) dL_law_1043 (fun H locs N1 hN1 hG hP hS => ?_)
  refine lv_icmp_eq (tgt := 1427) hx hb dL_law_1046 (by decide) (fun _ => ?_) (fun hc => absurd rfl hc)
  refine W.widen (k := cB + 64 * (k + 1)) (n := sB + 1000 * (k + 1)) (by omega) (by omega) ?_
  exact kk v1 _ N1 H locs (B.2.2.2.2.2.2.2.1 _ _ _ _ _ hI1 hN1) hG hP hS
set_option maxHeartbeats 4000000 in
set_option maxRecDepth 20000 in
theorem lc_25 (B : lB p s m meth c b L xs Γ h o ad Inv) (hL : L ≤ 3072) {cB sB k : Nat} {x3 : Int32} (hk : 6 * k + 6 ≤ L) (hcB : cB ≤ 1000) (hsB : sB ≤ 100000) (hx3 : x3 = nI (6 * k)) {v : mS} {G : gM} {N : Nat} {H : Heap} {locs : List Loc} {ls : Array Slot} (hI : Inv k v G N) (hG : gAg Γ G N H) (hP : lE Γ o ad v H) (hS : va_S (fun q => s.heap.size ≤ q) s.heap H locs) (hl : lv_has ls 4 [(0, .ref b), (1, .ref h), (2, .ref o), (3, .int x3)])
    (kk : ∀ (v : mS) (G : gM) (N : Nat) (H : Heap) (locs : List Loc), Inv (k + 1) v G N → gAg Γ G N H → lE Γ o ad v H → va_S (fun q => s.heap.size ≤ q) s.heap H locs → W p l e room_1 s m #[Value.ref b] below meth c H locs (cB + 64 * (k + 1)) (sB + 1000 * (k + 1)) Q (F0 m 1427 ls [])) : W p l e room_1 s m #[Value.ref b] below meth c H locs (cB + 64 * k) (sB + 1000 * k) Q (F0 m 1051 ls []) := by
  have hx := B.1.1
  have hb := B.1.2.1
  obtain ⟨oc, hO⟩ := B.2.2.2.2.2.2.1 k v G N hI
  obtain ⟨r, v1, u1, e2, e1, hI1, hb1, hb2⟩ := B.2.2.2.2.2.2.2.2.2 25 (by decide) (xs (x3 + nI 1).toNatClampNeg) 0 0 0 0 k v G N (by omega) hI
  refine lv_aload_n hx hb dL_law_1051 rfl (lv_at hl 1 rfl) ?_
  refine lv_aload_n hx hb dL_law_1052 rfl (lv_at hl 0 rfl) ?_
  refine lv_iload_n hx hb dL_law_1053 rfl (lv_at hl 3 rfl) ?_
  refine lv_iconst (v := nI 1) hx hb dL_law_1054 (by decide) ?_
  refine lv_iadd hx hb dL_law_1055 ?_
  refine lx_ld B hS (lx_in hk hL hx3 (by decide : 1 < 6)) dL_law_1056 ?_
  have e4 : cN (fX9_sold h (xs (x3 + nI 1).toNatClampNeg) G) (G, N, 0) = some (r, u1) := e1
  obtain ⟨G1, e3, hu1⟩ := cN_inv e4
  rw [hu1] at hI1 hb1 hb2
  refine lx_cX B hG hP hS [.int (xs (x3 + nI 1).toNatClampNeg)] hO (tX9_sold e3) qlX9_25 ⟨rfl, rfl, Nat.le_of_ble_eq_true rfl, Nat.le_of_ble_eq_true rfl⟩ ⟨by show _ + 0 ≤ 600000; omega, by show _ + 0 ≤ 7302250; omega⟩ rfl hl.1 rfl (Nat.le_of_ble_eq_true rfl) dL_law_1057 (fun H locs hG hP hS => ?_)
  refine W.widen (k := cB + 64 * k + 64) (n := sB + 1000 * k + 1000) (by show cB + 64 * k + 0 ≤ _; omega) (by show sB + 1000 * k + 0 ≤ _; omega) ?_
  refine lv_aload_n hx hb dL_law_1060 rfl (lv_at hl 2 rfl) ?_
  refine lv_aload_n hx hb dL_law_1061 rfl (lv_at hl 0 rfl) ?_
  refine lv_iload_n hx hb dL_law_1062 rfl (lv_at hl 3 rfl) ?_
  refine lv_iconst (v := nI 1) hx hb dL_law_1063 (by decide) ?_
  refine lv_iadd hx hb dL_law_1064 ?_
  refine lx_ld B hS (lx_in hk hL hx3 (by decide : 1 < 6)) dL_law_1065 ?_
  have e5 : fX10_sold (xs (x3 + nI 1).toNatClampNeg) v = some (r, v1) := e2
  refine lx_cM B hG hP hS [.int (xs (x3 + nI 1).toNatClampNeg)] (tX10_sold e5) qlX10_25 ⟨rfl, rfl, Nat.le_of_ble_eq_true rfl, Nat.le_of_ble_eq_true rfl⟩ ⟨by show _ ≤ 600000; omega, by show _ ≤ 7302250; omega⟩ rfl hl.1 rfl (Nat.le_of_ble_eq_true rfl) dL_law_1066 (fun H locs N1 hN1 hG hP hS => ?_)
  refine lv_icmp_eq (tgt := 1427) hx hb dL_law_1069 (by decide) (fun _ => ?_) (fun hc => absurd rfl hc)
  refine W.widen (k := cB + 64 * (k + 1)) (n := sB + 1000 * (k + 1)) (by omega) (by omega) ?_
  exact kk v1 _ N1 H locs (B.2.2.2.2.2.2.2.1 _ _ _ _ _ hI1 hN1) hG hP hS
set_option maxHeartbeats 4000000 in
set_option maxRecDepth 20000 in
theorem lc_26 (B : lB p s m meth c b L xs Γ h o ad Inv) (hL : L ≤ 3072) {cB sB k : Nat} {x3 : Int32} (hk : 6 * k + 6 ≤ L) (hcB : cB ≤ 1000) (hsB : sB ≤ 100000) (hx3 : x3 = nI (6 * k)) {v : mS} {G : gM} {N : Nat} {H : Heap} {locs : List Loc} {ls : Array Slot} (hI : Inv k v G N) (hG : gAg Γ G N H) (hP : lE Γ o ad v H) (hS : va_S (fun q => s.heap.size ≤ q) s.heap H locs) (hl : lv_has ls 4 [(0, .ref b), (1, .ref h), (2, .ref o), (3, .int x3)])
    (kk : ∀ (v : mS) (G : gM) (N : Nat) (H : Heap) (locs : List Loc), Inv (k + 1) v G N → gAg Γ G N H → lE Γ o ad v H → va_S (fun q => s.heap.size ≤ q) s.heap H locs → W p l e room_1 s m #[Value.ref b] below meth c H locs (cB + 64 * (k + 1)) (sB + 1000 * (k + 1)) Q (F0 m 1427 ls [])) : W p l e room_1 s m #[Value.ref b] below meth c H locs (cB + 64 * k) (sB + 1000 * k) Q (F0 m 1074 ls []) := by
  have hx := B.1.1
  have hb := B.1.2.1
  obtain ⟨oc, hO⟩ := B.2.2.2.2.2.2.1 k v G N hI
  obtain ⟨r, v1, u1, e2, e1, hI1, hb1, hb2⟩ := B.2.2.2.2.2.2.2.2.2 26 (by decide) (xs (x3 + nI 1).toNatClampNeg) (xs (x3 + nI 2).toNatClampNeg) (xs (x3 + nI 3).toNatClampNeg) 0 0 k v G N (by omega) hI
  refine lv_aload_n hx hb dL_law_1074 rfl (lv_at hl 1 rfl) ?_
  refine lv_aload_n hx hb dL_law_1075 rfl (lv_at hl 0 rfl) ?_
  refine lv_iload_n hx hb dL_law_1076 rfl (lv_at hl 3 rfl) ?_
  refine lv_iconst (v := nI 1) hx hb dL_law_1077 (by decide) ?_
  refine lv_iadd hx hb dL_law_1078 ?_
  refine lx_ld B hS (lx_in hk hL hx3 (by decide : 1 < 6)) dL_law_1079 ?_
  refine lv_aload_n hx hb dL_law_1080 rfl (lv_at hl 0 rfl) ?_
  refine lv_iload_n hx hb dL_law_1081 rfl (lv_at hl 3 rfl) ?_
  refine lv_iconst (v := nI 2) hx hb dL_law_1082 (by decide) ?_
  refine lv_iadd hx hb dL_law_1083 ?_
  refine lx_ld B hS (lx_in hk hL hx3 (by decide : 2 < 6)) dL_law_1084 ?_
  refine lv_aload_n hx hb dL_law_1085 rfl (lv_at hl 0 rfl) ?_
  refine lv_iload_n hx hb dL_law_1086 rfl (lv_at hl 3 rfl) ?_
  refine lv_iconst (v := nI 3) hx hb dL_law_1087 (by decide) ?_
  refine lv_iadd hx hb dL_law_1088 ?_
  refine lx_ld B hS (lx_in hk hL hx3 (by decide : 3 < 6)) dL_law_1089 ?_
  have e4 : cN (fX9_owed h (xs (x3 + nI 1).toNatClampNeg) (xs (x3 + nI 2).toNatClampNeg) (xs (x3 + nI 3).toNatClampNeg) G) (G, N, 0) = some (r, u1) := e1
  obtain ⟨G1, e3, hu1⟩ := cN_inv e4
  rw [hu1] at hI1 hb1 hb2
  refine lx_cX B hG hP hS [.int (xs (x3 + nI 1).toNatClampNeg), .int (xs (x3 + nI 2).toNatClampNeg), .int (xs (x3 + nI 3).toNatClampNeg)] hO (tX9_owed e3) qlX9_26 ⟨rfl, rfl, Nat.le_of_ble_eq_true rfl, Nat.le_of_ble_eq_true rfl⟩ ⟨by show _ + 0 ≤ 600000; omega, by show _ + 0 ≤ 7302250; omega⟩ rfl hl.1 rfl (Nat.le_of_ble_eq_true rfl) dL_law_1090 (fun H locs hG hP hS => ?_)
  refine W.widen (k := cB + 64 * k + 64) (n := sB + 1000 * k + 1000) (by show cB + 64 * k + 0 ≤ _; omega) (by show sB + 1000 * k + 0 ≤ _; omega) ?_
  refine lv_aload_n hx hb dL_law_1093 rfl (lv_at hl 2 rfl) ?_
  refine lv_aload_n hx hb dL_law_1094 rfl (lv_at hl 0 rfl) ?_
  refine lv_iload_n hx hb dL_law_1095 rfl (lv_at hl 3 rfl) ?_
  refine lv_iconst (v := nI 1) hx hb dL_law_1096 (by decide) ?_
  refine lv_iadd hx hb dL_law_1097 ?_
  refine lx_ld B hS (lx_in hk hL hx3 (by decide : 1 < 6)) dL_law_1098 ?_
  refine lv_aload_n hx hb dL_law_1099 rfl (lv_at hl 0 rfl) ?_
  refine lv_iload_n hx hb dL_law_1100 rfl (lv_at hl 3 rfl) ?_
  refine lv_iconst (v := nI 2) hx hb dL_law_1101 (by decide) ?_
  refine lv_iadd hx hb dL_law_1102 ?_
  refine lx_ld B hS (lx_in hk hL hx3 (by decide : 2 < 6)) dL_law_1103 ?_
  refine lv_aload_n hx hb dL_law_1104 rfl (lv_at hl 0 rfl) ?_
  refine lv_iload_n hx hb dL_law_1105 rfl (lv_at hl 3 rfl) ?_
  refine lv_iconst (v := nI 3) hx hb dL_law_1106 (by decide) ?_
  refine lv_iadd hx hb dL_law_1107 ?_
  refine lx_ld B hS (lx_in hk hL hx3 (by decide : 3 < 6)) dL_law_1108 ?_
  have e5 : fX10_owed (xs (x3 + nI 1).toNatClampNeg) (xs (x3 + nI 2).toNatClampNeg) (xs (x3 + nI 3).toNatClampNeg) v = some (r, v1) := e2
  refine lx_cM B hG hP hS [.int (xs (x3 + nI 1).toNatClampNeg), .int (xs (x3 + nI 2).toNatClampNeg), .int (xs (x3 + nI 3).toNatClampNeg)] (tX10_owed e5) qlX10_26 ⟨rfl, rfl, Nat.le_of_ble_eq_true rfl, Nat.le_of_ble_eq_true rfl⟩ ⟨by show _ ≤ 600000; omega, by show _ ≤ 7302250; omega⟩ rfl hl.1 rfl (Nat.le_of_ble_eq_true rfl) dL_law_1109 (fun H locs N1 hN1 hG hP hS => ?_)
  refine lv_icmp_eq (tgt := 1427) hx hb dL_law_1112 (by decide) (fun _ => ?_) (fun hc => absurd rfl hc)
  refine W.widen (k := cB + 64 * (k + 1)) (n := sB + 1000 * (k + 1)) (by omega) (by omega) ?_
  exact kk v1 _ N1 H locs (B.2.2.2.2.2.2.2.1 _ _ _ _ _ hI1 hN1) hG hP hS
set_option maxHeartbeats 4000000 in
set_option maxRecDepth 20000 in
theorem lc_27 (B : lB p s m meth c b L xs Γ h o ad Inv) (hL : L ≤ 3072) {cB sB k : Nat} {x3 : Int32} (hk : 6 * k + 6 ≤ L) (hcB : cB ≤ 1000) (hsB : sB ≤ 100000) (hx3 : x3 = nI (6 * k)) {v : mS} {G : gM} {N : Nat} {H : Heap} {locs : List Loc} {ls : Array Slot} (hI : Inv k v G N) (hG : gAg Γ G N H) (hP : lE Γ o ad v H) (hS : va_S (fun q => s.heap.size ≤ q) s.heap H locs) (hl : lv_has ls 4 [(0, .ref b), (1, .ref h), (2, .ref o), (3, .int x3)])
    (kk : ∀ (v : mS) (G : gM) (N : Nat) (H : Heap) (locs : List Loc), Inv (k + 1) v G N → gAg Γ G N H → lE Γ o ad v H → va_S (fun q => s.heap.size ≤ q) s.heap H locs → W p l e room_1 s m #[Value.ref b] below meth c H locs (cB + 64 * (k + 1)) (sB + 1000 * (k + 1)) Q (F0 m 1427 ls [])) : W p l e room_1 s m #[Value.ref b] below meth c H locs (cB + 64 * k) (sB + 1000 * k) Q (F0 m 1117 ls []) := by
  have hx := B.1.1
  have hb := B.1.2.1
  obtain ⟨oc, hO⟩ := B.2.2.2.2.2.2.1 k v G N hI
  obtain ⟨r, v1, u1, e2, e1, hI1, hb1, hb2⟩ := B.2.2.2.2.2.2.2.2.2 27 (by decide) (xs (x3 + nI 1).toNatClampNeg) (xs (x3 + nI 2).toNatClampNeg) (xs (x3 + nI 3).toNatClampNeg) (xs (x3 + nI 4).toNatClampNeg) 0 k v G N (by omega) hI
  refine lv_aload_n hx hb dL_law_1117 rfl (lv_at hl 1 rfl) ?_
  refine lv_aload_n hx hb dL_law_1118 rfl (lv_at hl 0 rfl) ?_
  refine lv_iload_n hx hb dL_law_1119 rfl (lv_at hl 3 rfl) ?_
  refine lv_iconst (v := nI 1) hx hb dL_law_1120 (by decide) ?_
  refine lv_iadd hx hb dL_law_1121 ?_
  refine lx_ld B hS (lx_in hk hL hx3 (by decide : 1 < 6)) dL_law_1122 ?_
  refine lv_aload_n hx hb dL_law_1123 rfl (lv_at hl 0 rfl) ?_
  refine lv_iload_n hx hb dL_law_1124 rfl (lv_at hl 3 rfl) ?_
  refine lv_iconst (v := nI 2) hx hb dL_law_1125 (by decide) ?_
  refine lv_iadd hx hb dL_law_1126 ?_
  refine lx_ld B hS (lx_in hk hL hx3 (by decide : 2 < 6)) dL_law_1127 ?_
  refine lv_aload_n hx hb dL_law_1128 rfl (lv_at hl 0 rfl) ?_
  refine lv_iload_n hx hb dL_law_1129 rfl (lv_at hl 3 rfl) ?_
  refine lv_iconst (v := nI 3) hx hb dL_law_1130 (by decide) ?_
  refine lv_iadd hx hb dL_law_1131 ?_
  refine lx_ld B hS (lx_in hk hL hx3 (by decide : 3 < 6)) dL_law_1132 ?_
  refine lv_aload_n hx hb dL_law_1133 rfl (lv_at hl 0 rfl) ?_
  refine lv_iload_n hx hb dL_law_1134 rfl (lv_at hl 3 rfl) ?_
  refine lv_iconst (v := nI 4) hx hb dL_law_1135 (by decide) ?_
  refine lv_iadd hx hb dL_law_1136 ?_
  refine lx_ld B hS (lx_in hk hL hx3 (by decide : 4 < 6)) dL_law_1137 ?_
  have e3 : fX9_lots Γ.2.2.2 h (xs (x3 + nI 1).toNatClampNeg) (xs (x3 + nI 2).toNatClampNeg) (xs (x3 + nI 3).toNatClampNeg) (xs (x3 + nI 4).toNatClampNeg) (G, N, 0) = some (r, u1) := e1
  refine lx_cX B hG hP hS [.int (xs (x3 + nI 1).toNatClampNeg), .int (xs (x3 + nI 2).toNatClampNeg), .int (xs (x3 + nI 3).toNatClampNeg), .int (xs (x3 + nI 4).toNatClampNeg)] hO (tX9_lots rfl e3) qlX9_27 ⟨rfl, rfl, Nat.le_of_ble_eq_true rfl, Nat.le_of_ble_eq_true rfl⟩ ⟨by show _ + (u1.2.1 - N) ≤ 600000; omega, by show _ + (u1.2.2 - 0) ≤ 7302250; omega⟩ rfl hl.1 rfl (Nat.le_of_ble_eq_true rfl) dL_law_1138 (fun H locs hG hP hS => ?_)
  refine W.widen (k := cB + 64 * k + 64) (n := sB + 1000 * k + 1000) (by show cB + 64 * k + (u1.2.1 - N) ≤ _; omega) (by show sB + 1000 * k + (u1.2.2 - 0) ≤ _; omega) ?_
  refine lv_aload_n hx hb dL_law_1141 rfl (lv_at hl 2 rfl) ?_
  refine lv_aload_n hx hb dL_law_1142 rfl (lv_at hl 0 rfl) ?_
  refine lv_iload_n hx hb dL_law_1143 rfl (lv_at hl 3 rfl) ?_
  refine lv_iconst (v := nI 1) hx hb dL_law_1144 (by decide) ?_
  refine lv_iadd hx hb dL_law_1145 ?_
  refine lx_ld B hS (lx_in hk hL hx3 (by decide : 1 < 6)) dL_law_1146 ?_
  refine lv_aload_n hx hb dL_law_1147 rfl (lv_at hl 0 rfl) ?_
  refine lv_iload_n hx hb dL_law_1148 rfl (lv_at hl 3 rfl) ?_
  refine lv_iconst (v := nI 2) hx hb dL_law_1149 (by decide) ?_
  refine lv_iadd hx hb dL_law_1150 ?_
  refine lx_ld B hS (lx_in hk hL hx3 (by decide : 2 < 6)) dL_law_1151 ?_
  refine lv_aload_n hx hb dL_law_1152 rfl (lv_at hl 0 rfl) ?_
  refine lv_iload_n hx hb dL_law_1153 rfl (lv_at hl 3 rfl) ?_
  refine lv_iconst (v := nI 3) hx hb dL_law_1154 (by decide) ?_
  refine lv_iadd hx hb dL_law_1155 ?_
  refine lx_ld B hS (lx_in hk hL hx3 (by decide : 3 < 6)) dL_law_1156 ?_
  refine lv_aload_n hx hb dL_law_1157 rfl (lv_at hl 0 rfl) ?_
  refine lv_iload_n hx hb dL_law_1158 rfl (lv_at hl 3 rfl) ?_
  refine lv_iconst (v := nI 4) hx hb dL_law_1159 (by decide) ?_
  refine lv_iadd hx hb dL_law_1160 ?_
  refine lx_ld B hS (lx_in hk hL hx3 (by decide : 4 < 6)) dL_law_1161 ?_
  have e5 : fX10_lots (xs (x3 + nI 1).toNatClampNeg) (xs (x3 + nI 2).toNatClampNeg) (xs (x3 + nI 3).toNatClampNeg) (xs (x3 + nI 4).toNatClampNeg) v = some (r, v1) := e2
  refine lx_cM B hG hP hS [.int (xs (x3 + nI 1).toNatClampNeg), .int (xs (x3 + nI 2).toNatClampNeg), .int (xs (x3 + nI 3).toNatClampNeg), .int (xs (x3 + nI 4).toNatClampNeg)] (tX10_lots e5) qlX10_27 ⟨rfl, rfl, Nat.le_of_ble_eq_true rfl, Nat.le_of_ble_eq_true rfl⟩ ⟨by show _ ≤ 600000; omega, by show _ ≤ 7302250; omega⟩ rfl hl.1 rfl (Nat.le_of_ble_eq_true rfl) dL_law_1162 (fun H locs N1 hN1 hG hP hS => ?_)
  refine lv_icmp_eq (tgt := 1427) hx hb dL_law_1165 (by decide) (fun _ => ?_) (fun hc => absurd rfl hc)
  refine W.widen (k := cB + 64 * (k + 1)) (n := sB + 1000 * (k + 1)) (by omega) (by omega) ?_
  exact kk v1 _ N1 H locs (B.2.2.2.2.2.2.2.1 _ _ _ _ _ hI1 hN1) hG hP hS
set_option maxHeartbeats 4000000 in
set_option maxRecDepth 20000 in
theorem lc_28 (B : lB p s m meth c b L xs Γ h o ad Inv) (hL : L ≤ 3072) {cB sB k : Nat} {x3 : Int32} (hk : 6 * k + 6 ≤ L) (hcB : cB ≤ 1000) (hsB : sB ≤ 100000) (hx3 : x3 = nI (6 * k)) {v : mS} {G : gM} {N : Nat} {H : Heap} {locs : List Loc} {ls : Array Slot} (hI : Inv k v G N) (hG : gAg Γ G N H) (hP : lE Γ o ad v H) (hS : va_S (fun q => s.heap.size ≤ q) s.heap H locs) (hl : lv_has ls 4 [(0, .ref b), (1, .ref h), (2, .ref o), (3, .int x3)])
    (kk : ∀ (v : mS) (G : gM) (N : Nat) (H : Heap) (locs : List Loc), Inv (k + 1) v G N → gAg Γ G N H → lE Γ o ad v H → va_S (fun q => s.heap.size ≤ q) s.heap H locs → W p l e room_1 s m #[Value.ref b] below meth c H locs (cB + 64 * (k + 1)) (sB + 1000 * (k + 1)) Q (F0 m 1427 ls [])) : W p l e room_1 s m #[Value.ref b] below meth c H locs (cB + 64 * k) (sB + 1000 * k) Q (F0 m 1170 ls []) := by
  have hx := B.1.1
  have hb := B.1.2.1
  obtain ⟨oc, hO⟩ := B.2.2.2.2.2.2.1 k v G N hI
  obtain ⟨r, v1, u1, e2, e1, hI1, hb1, hb2⟩ := B.2.2.2.2.2.2.2.2.2 28 (by decide) (xs (x3 + nI 1).toNatClampNeg) (xs (x3 + nI 2).toNatClampNeg) 0 0 0 k v G N (by omega) hI
  refine lv_aload_n hx hb dL_law_1170 rfl (lv_at hl 1 rfl) ?_
  refine lv_aload_n hx hb dL_law_1171 rfl (lv_at hl 0 rfl) ?_
  refine lv_iload_n hx hb dL_law_1172 rfl (lv_at hl 3 rfl) ?_
  refine lv_iconst (v := nI 1) hx hb dL_law_1173 (by decide) ?_
  refine lv_iadd hx hb dL_law_1174 ?_
  refine lx_ld B hS (lx_in hk hL hx3 (by decide : 1 < 6)) dL_law_1175 ?_
  refine lv_aload_n hx hb dL_law_1176 rfl (lv_at hl 0 rfl) ?_
  refine lv_iload_n hx hb dL_law_1177 rfl (lv_at hl 3 rfl) ?_
  refine lv_iconst (v := nI 2) hx hb dL_law_1178 (by decide) ?_
  refine lv_iadd hx hb dL_law_1179 ?_
  refine lx_ld B hS (lx_in hk hL hx3 (by decide : 2 < 6)) dL_law_1180 ?_
  have e4 : cN (fX9_sorted h (xs (x3 + nI 1).toNatClampNeg) (xs (x3 + nI 2).toNatClampNeg) G) (G, N, 0) = some (r, u1) := e1
  obtain ⟨G1, e3, hu1⟩ := cN_inv e4
  rw [hu1] at hI1 hb1 hb2
  refine lx_cX B hG hP hS [.int (xs (x3 + nI 1).toNatClampNeg), .int (xs (x3 + nI 2).toNatClampNeg)] hO (tX9_sorted e3) qlX9_28 ⟨rfl, rfl, Nat.le_of_ble_eq_true rfl, Nat.le_of_ble_eq_true rfl⟩ ⟨by show _ + 0 ≤ 600000; omega, by show _ + 0 ≤ 7302250; omega⟩ rfl hl.1 rfl (Nat.le_of_ble_eq_true rfl) dL_law_1181 (fun H locs hG hP hS => ?_)
  refine W.widen (k := cB + 64 * k + 64) (n := sB + 1000 * k + 1000) (by show cB + 64 * k + 0 ≤ _; omega) (by show sB + 1000 * k + 0 ≤ _; omega) ?_
  refine lv_aload_n hx hb dL_law_1184 rfl (lv_at hl 2 rfl) ?_
  refine lv_aload_n hx hb dL_law_1185 rfl (lv_at hl 0 rfl) ?_
  refine lv_iload_n hx hb dL_law_1186 rfl (lv_at hl 3 rfl) ?_
  refine lv_iconst (v := nI 1) hx hb dL_law_1187 (by decide) ?_
  refine lv_iadd hx hb dL_law_1188 ?_
  refine lx_ld B hS (lx_in hk hL hx3 (by decide : 1 < 6)) dL_law_1189 ?_
  refine lv_aload_n hx hb dL_law_1190 rfl (lv_at hl 0 rfl) ?_
  refine lv_iload_n hx hb dL_law_1191 rfl (lv_at hl 3 rfl) ?_
  refine lv_iconst (v := nI 2) hx hb dL_law_1192 (by decide) ?_
  refine lv_iadd hx hb dL_law_1193 ?_
  refine lx_ld B hS (lx_in hk hL hx3 (by decide : 2 < 6)) dL_law_1194 ?_
  have e5 : fX10_sorted (xs (x3 + nI 1).toNatClampNeg) (xs (x3 + nI 2).toNatClampNeg) v = some (r, v1) := e2
  refine lx_cM B hG hP hS [.int (xs (x3 + nI 1).toNatClampNeg), .int (xs (x3 + nI 2).toNatClampNeg)] (tX10_sorted e5) qlX10_28 ⟨rfl, rfl, Nat.le_of_ble_eq_true rfl, Nat.le_of_ble_eq_true rfl⟩ ⟨by show _ ≤ 600000; omega, by show _ ≤ 7302250; omega⟩ rfl hl.1 rfl (Nat.le_of_ble_eq_true rfl) dL_law_1195 (fun H locs N1 hN1 hG hP hS => ?_)
  refine lv_icmp_eq (tgt := 1427) hx hb dL_law_1198 (by decide) (fun _ => ?_) (fun hc => absurd rfl hc)
  refine W.widen (k := cB + 64 * (k + 1)) (n := sB + 1000 * (k + 1)) (by omega) (by omega) ?_
  exact kk v1 _ N1 H locs (B.2.2.2.2.2.2.2.1 _ _ _ _ _ hI1 hN1) hG hP hS
set_option maxHeartbeats 4000000 in
set_option maxRecDepth 20000 in
theorem lc_29 (B : lB p s m meth c b L xs Γ h o ad Inv) (hL : L ≤ 3072) {cB sB k : Nat} {x3 : Int32} (hk : 6 * k + 6 ≤ L) (hcB : cB ≤ 1000) (hsB : sB ≤ 100000) (hx3 : x3 = nI (6 * k)) {v : mS} {G : gM} {N : Nat} {H : Heap} {locs : List Loc} {ls : Array Slot} (hI : Inv k v G N) (hG : gAg Γ G N H) (hP : lE Γ o ad v H) (hS : va_S (fun q => s.heap.size ≤ q) s.heap H locs) (hl : lv_has ls 4 [(0, .ref b), (1, .ref h), (2, .ref o), (3, .int x3)])
    (kk : ∀ (v : mS) (G : gM) (N : Nat) (H : Heap) (locs : List Loc), Inv (k + 1) v G N → gAg Γ G N H → lE Γ o ad v H → va_S (fun q => s.heap.size ≤ q) s.heap H locs → W p l e room_1 s m #[Value.ref b] below meth c H locs (cB + 64 * (k + 1)) (sB + 1000 * (k + 1)) Q (F0 m 1427 ls [])) : W p l e room_1 s m #[Value.ref b] below meth c H locs (cB + 64 * k) (sB + 1000 * k) Q (F0 m 1203 ls []) := by
  have hx := B.1.1
  have hb := B.1.2.1
  obtain ⟨oc, hO⟩ := B.2.2.2.2.2.2.1 k v G N hI
  obtain ⟨r, v1, u1, e2, e1, hI1, hb1, hb2⟩ := B.2.2.2.2.2.2.2.2.2 29 (by decide) (xs (x3 + nI 1).toNatClampNeg) (xs (x3 + nI 2).toNatClampNeg) 0 0 0 k v G N (by omega) hI
  refine lv_aload_n hx hb dL_law_1203 rfl (lv_at hl 1 rfl) ?_
  refine lv_aload_n hx hb dL_law_1204 rfl (lv_at hl 0 rfl) ?_
  refine lv_iload_n hx hb dL_law_1205 rfl (lv_at hl 3 rfl) ?_
  refine lv_iconst (v := nI 1) hx hb dL_law_1206 (by decide) ?_
  refine lv_iadd hx hb dL_law_1207 ?_
  refine lx_ld B hS (lx_in hk hL hx3 (by decide : 1 < 6)) dL_law_1208 ?_
  refine lv_aload_n hx hb dL_law_1209 rfl (lv_at hl 0 rfl) ?_
  refine lv_iload_n hx hb dL_law_1210 rfl (lv_at hl 3 rfl) ?_
  refine lv_iconst (v := nI 2) hx hb dL_law_1211 (by decide) ?_
  refine lv_iadd hx hb dL_law_1212 ?_
  refine lx_ld B hS (lx_in hk hL hx3 (by decide : 2 < 6)) dL_law_1213 ?_
  have e4 : cN (fX9_sorter h (xs (x3 + nI 1).toNatClampNeg) (xs (x3 + nI 2).toNatClampNeg) G) (G, N, 0) = some (r, u1) := e1
  obtain ⟨G1, e3, hu1⟩ := cN_inv e4
  rw [hu1] at hI1 hb1 hb2
  refine lx_cX B hG hP hS [.int (xs (x3 + nI 1).toNatClampNeg), .int (xs (x3 + nI 2).toNatClampNeg)] hO (tX9_sorter e3) qlX9_29 ⟨rfl, rfl, Nat.le_of_ble_eq_true rfl, Nat.le_of_ble_eq_true rfl⟩ ⟨by show _ + 0 ≤ 600000; omega, by show _ + 0 ≤ 7302250; omega⟩ rfl hl.1 rfl (Nat.le_of_ble_eq_true rfl) dL_law_1214 (fun H locs hG hP hS => ?_)
  refine W.widen (k := cB + 64 * k + 64) (n := sB + 1000 * k + 1000) (by show cB + 64 * k + 0 ≤ _; omega) (by show sB + 1000 * k + 0 ≤ _; omega) ?_
  refine lv_aload_n hx hb dL_law_1217 rfl (lv_at hl 2 rfl) ?_
  refine lv_aload_n hx hb dL_law_1218 rfl (lv_at hl 0 rfl) ?_
  refine lv_iload_n hx hb dL_law_1219 rfl (lv_at hl 3 rfl) ?_
  refine lv_iconst (v := nI 1) hx hb dL_law_1220 (by decide) ?_
  refine lv_iadd hx hb dL_law_1221 ?_
  refine lx_ld B hS (lx_in hk hL hx3 (by decide : 1 < 6)) dL_law_1222 ?_
  refine lv_aload_n hx hb dL_law_1223 rfl (lv_at hl 0 rfl) ?_
  refine lv_iload_n hx hb dL_law_1224 rfl (lv_at hl 3 rfl) ?_
  refine lv_iconst (v := nI 2) hx hb dL_law_1225 (by decide) ?_
  refine lv_iadd hx hb dL_law_1226 ?_
  refine lx_ld B hS (lx_in hk hL hx3 (by decide : 2 < 6)) dL_law_1227 ?_
  have e5 : fX10_sorter (xs (x3 + nI 1).toNatClampNeg) (xs (x3 + nI 2).toNatClampNeg) v = some (r, v1) := e2
  refine lx_cM B hG hP hS [.int (xs (x3 + nI 1).toNatClampNeg), .int (xs (x3 + nI 2).toNatClampNeg)] (tX10_sorter e5) qlX10_29 ⟨rfl, rfl, Nat.le_of_ble_eq_true rfl, Nat.le_of_ble_eq_true rfl⟩ ⟨by show _ ≤ 600000; omega, by show _ ≤ 7302250; omega⟩ rfl hl.1 rfl (Nat.le_of_ble_eq_true rfl) dL_law_1228 (fun H locs N1 hN1 hG hP hS => ?_)
  refine lv_icmp_eq (tgt := 1427) hx hb dL_law_1231 (by decide) (fun _ => ?_) (fun hc => absurd rfl hc)
  refine W.widen (k := cB + 64 * (k + 1)) (n := sB + 1000 * (k + 1)) (by omega) (by omega) ?_
  exact kk v1 _ N1 H locs (B.2.2.2.2.2.2.2.1 _ _ _ _ _ hI1 hN1) hG hP hS
set_option maxHeartbeats 4000000 in
set_option maxRecDepth 20000 in
theorem lc_30 (B : lB p s m meth c b L xs Γ h o ad Inv) (hL : L ≤ 3072) {cB sB k : Nat} {x3 : Int32} (hk : 6 * k + 6 ≤ L) (hcB : cB ≤ 1000) (hsB : sB ≤ 100000) (hx3 : x3 = nI (6 * k)) {v : mS} {G : gM} {N : Nat} {H : Heap} {locs : List Loc} {ls : Array Slot} (hI : Inv k v G N) (hG : gAg Γ G N H) (hP : lE Γ o ad v H) (hS : va_S (fun q => s.heap.size ≤ q) s.heap H locs) (hl : lv_has ls 4 [(0, .ref b), (1, .ref h), (2, .ref o), (3, .int x3)])
    (kk : ∀ (v : mS) (G : gM) (N : Nat) (H : Heap) (locs : List Loc), Inv (k + 1) v G N → gAg Γ G N H → lE Γ o ad v H → va_S (fun q => s.heap.size ≤ q) s.heap H locs → W p l e room_1 s m #[Value.ref b] below meth c H locs (cB + 64 * (k + 1)) (sB + 1000 * (k + 1)) Q (F0 m 1427 ls [])) : W p l e room_1 s m #[Value.ref b] below meth c H locs (cB + 64 * k) (sB + 1000 * k) Q (F0 m 1236 ls []) := by
  have hx := B.1.1
  have hb := B.1.2.1
  obtain ⟨oc, hO⟩ := B.2.2.2.2.2.2.1 k v G N hI
  obtain ⟨r, v1, u1, e2, e1, hI1, hb1, hb2⟩ := B.2.2.2.2.2.2.2.2.2 30 (by decide) (xs (x3 + nI 1).toNatClampNeg) (xs (x3 + nI 2).toNatClampNeg) (xs (x3 + nI 3).toNatClampNeg) 0 0 k v G N (by omega) hI
  refine lv_aload_n hx hb dL_law_1236 rfl (lv_at hl 1 rfl) ?_
  refine lv_aload_n hx hb dL_law_1237 rfl (lv_at hl 0 rfl) ?_
  refine lv_iload_n hx hb dL_law_1238 rfl (lv_at hl 3 rfl) ?_
  refine lv_iconst (v := nI 1) hx hb dL_law_1239 (by decide) ?_
  refine lv_iadd hx hb dL_law_1240 ?_
  refine lx_ld B hS (lx_in hk hL hx3 (by decide : 1 < 6)) dL_law_1241 ?_
  refine lv_aload_n hx hb dL_law_1242 rfl (lv_at hl 0 rfl) ?_
  refine lv_iload_n hx hb dL_law_1243 rfl (lv_at hl 3 rfl) ?_
  refine lv_iconst (v := nI 2) hx hb dL_law_1244 (by decide) ?_
  refine lv_iadd hx hb dL_law_1245 ?_
  refine lx_ld B hS (lx_in hk hL hx3 (by decide : 2 < 6)) dL_law_1246 ?_
  refine lv_aload_n hx hb dL_law_1247 rfl (lv_at hl 0 rfl) ?_
  refine lv_iload_n hx hb dL_law_1248 rfl (lv_at hl 3 rfl) ?_
  refine lv_iconst (v := nI 3) hx hb dL_law_1249 (by decide) ?_
  refine lv_iadd hx hb dL_law_1250 ?_
  refine lx_ld B hS (lx_in hk hL hx3 (by decide : 3 < 6)) dL_law_1251 ?_
  have e4 : cN (fX9_money h (xs (x3 + nI 1).toNatClampNeg) (xs (x3 + nI 2).toNatClampNeg) (xs (x3 + nI 3).toNatClampNeg) G) (G, N, 0) = some (r, u1) := e1
  obtain ⟨G1, e3, hu1⟩ := cN_inv e4
  rw [hu1] at hI1 hb1 hb2
  refine lx_cX B hG hP hS [.int (xs (x3 + nI 1).toNatClampNeg), .int (xs (x3 + nI 2).toNatClampNeg), .int (xs (x3 + nI 3).toNatClampNeg)] hO (tX9_money e3) qlX9_30 ⟨rfl, rfl, Nat.le_of_ble_eq_true rfl, Nat.le_of_ble_eq_true rfl⟩ ⟨by show _ + 0 ≤ 600000; omega, by show _ + 0 ≤ 7302250; omega⟩ rfl hl.1 rfl (Nat.le_of_ble_eq_true rfl) dL_law_1252 (fun H locs hG hP hS => ?_)
  refine W.widen (k := cB + 64 * k + 64) (n := sB + 1000 * k + 1000) (by show cB + 64 * k + 0 ≤ _; omega) (by show sB + 1000 * k + 0 ≤ _; omega) ?_
  refine lv_aload_n hx hb dL_law_1255 rfl (lv_at hl 2 rfl) ?_
  refine lv_aload_n hx hb dL_law_1256 rfl (lv_at hl 0 rfl) ?_
  refine lv_iload_n hx hb dL_law_1257 rfl (lv_at hl 3 rfl) ?_
  refine lv_iconst (v := nI 1) hx hb dL_law_1258 (by decide) ?_
  refine lv_iadd hx hb dL_law_1259 ?_
  refine lx_ld B hS (lx_in hk hL hx3 (by decide : 1 < 6)) dL_law_1260 ?_
  refine lv_aload_n hx hb dL_law_1261 rfl (lv_at hl 0 rfl) ?_
  refine lv_iload_n hx hb dL_law_1262 rfl (lv_at hl 3 rfl) ?_
  refine lv_iconst (v := nI 2) hx hb dL_law_1263 (by decide) ?_
  refine lv_iadd hx hb dL_law_1264 ?_
  refine lx_ld B hS (lx_in hk hL hx3 (by decide : 2 < 6)) dL_law_1265 ?_
  refine lv_aload_n hx hb dL_law_1266 rfl (lv_at hl 0 rfl) ?_
  refine lv_iload_n hx hb dL_law_1267 rfl (lv_at hl 3 rfl) ?_
  refine lv_iconst (v := nI 3) hx hb dL_law_1268 (by decide) ?_
  refine lv_iadd hx hb dL_law_1269 ?_
  refine lx_ld B hS (lx_in hk hL hx3 (by decide : 3 < 6)) dL_law_1270 ?_
  have e5 : fX10_money (xs (x3 + nI 1).toNatClampNeg) (xs (x3 + nI 2).toNatClampNeg) (xs (x3 + nI 3).toNatClampNeg) v = some (r, v1) := e2
  refine lx_cM B hG hP hS [.int (xs (x3 + nI 1).toNatClampNeg), .int (xs (x3 + nI 2).toNatClampNeg), .int (xs (x3 + nI 3).toNatClampNeg)] (tX10_money e5) qlX10_30 ⟨rfl, rfl, Nat.le_of_ble_eq_true rfl, Nat.le_of_ble_eq_true rfl⟩ ⟨by show _ ≤ 600000; omega, by show _ ≤ 7302250; omega⟩ rfl hl.1 rfl (Nat.le_of_ble_eq_true rfl) dL_law_1271 (fun H locs N1 hN1 hG hP hS => ?_)
  refine lv_icmp_eq (tgt := 1427) hx hb dL_law_1274 (by decide) (fun _ => ?_) (fun hc => absurd rfl hc)
  refine W.widen (k := cB + 64 * (k + 1)) (n := sB + 1000 * (k + 1)) (by omega) (by omega) ?_
  exact kk v1 _ N1 H locs (B.2.2.2.2.2.2.2.1 _ _ _ _ _ hI1 hN1) hG hP hS
set_option maxHeartbeats 4000000 in
set_option maxRecDepth 20000 in
theorem lc_31 (B : lB p s m meth c b L xs Γ h o ad Inv) (hL : L ≤ 3072) {cB sB k : Nat} {x3 : Int32} (hk : 6 * k + 6 ≤ L) (hcB : cB ≤ 1000) (hsB : sB ≤ 100000) (hx3 : x3 = nI (6 * k)) {v : mS} {G : gM} {N : Nat} {H : Heap} {locs : List Loc} {ls : Array Slot} (hI : Inv k v G N) (hG : gAg Γ G N H) (hP : lE Γ o ad v H) (hS : va_S (fun q => s.heap.size ≤ q) s.heap H locs) (hl : lv_has ls 4 [(0, .ref b), (1, .ref h), (2, .ref o), (3, .int x3)])
    (kk : ∀ (v : mS) (G : gM) (N : Nat) (H : Heap) (locs : List Loc), Inv (k + 1) v G N → gAg Γ G N H → lE Γ o ad v H → va_S (fun q => s.heap.size ≤ q) s.heap H locs → W p l e room_1 s m #[Value.ref b] below meth c H locs (cB + 64 * (k + 1)) (sB + 1000 * (k + 1)) Q (F0 m 1427 ls [])) : W p l e room_1 s m #[Value.ref b] below meth c H locs (cB + 64 * k) (sB + 1000 * k) Q (F0 m 1279 ls []) := by
  have hx := B.1.1
  have hb := B.1.2.1
  obtain ⟨oc, hO⟩ := B.2.2.2.2.2.2.1 k v G N hI
  obtain ⟨r, v1, u1, e2, e1, hI1, hb1, hb2⟩ := B.2.2.2.2.2.2.2.2.2 31 (by decide) (xs (x3 + nI 1).toNatClampNeg) 0 0 0 0 k v G N (by omega) hI
  refine lv_aload_n hx hb dL_law_1279 rfl (lv_at hl 1 rfl) ?_
  refine lv_aload_n hx hb dL_law_1280 rfl (lv_at hl 0 rfl) ?_
  refine lv_iload_n hx hb dL_law_1281 rfl (lv_at hl 3 rfl) ?_
  refine lv_iconst (v := nI 1) hx hb dL_law_1282 (by decide) ?_
  refine lv_iadd hx hb dL_law_1283 ?_
  refine lx_ld B hS (lx_in hk hL hx3 (by decide : 1 < 6)) dL_law_1284 ?_
  have e4 : cN (fX9_counted h (xs (x3 + nI 1).toNatClampNeg) G) (G, N, 0) = some (r, u1) := e1
  obtain ⟨G1, e3, hu1⟩ := cN_inv e4
  rw [hu1] at hI1 hb1 hb2
  refine lx_cX B hG hP hS [.int (xs (x3 + nI 1).toNatClampNeg)] hO (tX9_counted e3) qlX9_31 ⟨rfl, rfl, Nat.le_of_ble_eq_true rfl, Nat.le_of_ble_eq_true rfl⟩ ⟨by show _ + 0 ≤ 600000; omega, by show _ + 0 ≤ 7302250; omega⟩ rfl hl.1 rfl (Nat.le_of_ble_eq_true rfl) dL_law_1285 (fun H locs hG hP hS => ?_)
  refine W.widen (k := cB + 64 * k + 64) (n := sB + 1000 * k + 1000) (by show cB + 64 * k + 0 ≤ _; omega) (by show sB + 1000 * k + 0 ≤ _; omega) ?_
  refine lv_aload_n hx hb dL_law_1288 rfl (lv_at hl 2 rfl) ?_
  refine lv_aload_n hx hb dL_law_1289 rfl (lv_at hl 0 rfl) ?_
  refine lv_iload_n hx hb dL_law_1290 rfl (lv_at hl 3 rfl) ?_
  refine lv_iconst (v := nI 1) hx hb dL_law_1291 (by decide) ?_
  refine lv_iadd hx hb dL_law_1292 ?_
  refine lx_ld B hS (lx_in hk hL hx3 (by decide : 1 < 6)) dL_law_1293 ?_
  have e5 : fX10_counted (xs (x3 + nI 1).toNatClampNeg) v = some (r, v1) := e2
  refine lx_cM B hG hP hS [.int (xs (x3 + nI 1).toNatClampNeg)] (tX10_counted e5) qlX10_31 ⟨rfl, rfl, Nat.le_of_ble_eq_true rfl, Nat.le_of_ble_eq_true rfl⟩ ⟨by show _ ≤ 600000; omega, by show _ ≤ 7302250; omega⟩ rfl hl.1 rfl (Nat.le_of_ble_eq_true rfl) dL_law_1294 (fun H locs N1 hN1 hG hP hS => ?_)
  refine lv_icmp_eq (tgt := 1427) hx hb dL_law_1297 (by decide) (fun _ => ?_) (fun hc => absurd rfl hc)
  refine W.widen (k := cB + 64 * (k + 1)) (n := sB + 1000 * (k + 1)) (by omega) (by omega) ?_
  exact kk v1 _ N1 H locs (B.2.2.2.2.2.2.2.1 _ _ _ _ _ hI1 hN1) hG hP hS
set_option maxHeartbeats 4000000 in
set_option maxRecDepth 20000 in
theorem lc_32 (B : lB p s m meth c b L xs Γ h o ad Inv) (hL : L ≤ 3072) {cB sB k : Nat} {x3 : Int32} (hk : 6 * k + 6 ≤ L) (hcB : cB ≤ 1000) (hsB : sB ≤ 100000) (hx3 : x3 = nI (6 * k)) {v : mS} {G : gM} {N : Nat} {H : Heap} {locs : List Loc} {ls : Array Slot} (hI : Inv k v G N) (hG : gAg Γ G N H) (hP : lE Γ o ad v H) (hS : va_S (fun q => s.heap.size ≤ q) s.heap H locs) (hl : lv_has ls 4 [(0, .ref b), (1, .ref h), (2, .ref o), (3, .int x3)])
    (kk : ∀ (v : mS) (G : gM) (N : Nat) (H : Heap) (locs : List Loc), Inv (k + 1) v G N → gAg Γ G N H → lE Γ o ad v H → va_S (fun q => s.heap.size ≤ q) s.heap H locs → W p l e room_1 s m #[Value.ref b] below meth c H locs (cB + 64 * (k + 1)) (sB + 1000 * (k + 1)) Q (F0 m 1427 ls [])) : W p l e room_1 s m #[Value.ref b] below meth c H locs (cB + 64 * k) (sB + 1000 * k) Q (F0 m 1302 ls []) := by
  have hx := B.1.1
  have hb := B.1.2.1
  obtain ⟨oc, hO⟩ := B.2.2.2.2.2.2.1 k v G N hI
  obtain ⟨r, v1, u1, e2, e1, hI1, hb1, hb2⟩ := B.2.2.2.2.2.2.2.2.2 32 (by decide) (xs (x3 + nI 1).toNatClampNeg) (xs (x3 + nI 2).toNatClampNeg) (xs (x3 + nI 3).toNatClampNeg) 0 0 k v G N (by omega) hI
  refine lv_aload_n hx hb dL_law_1302 rfl (lv_at hl 1 rfl) ?_
  refine lv_aload_n hx hb dL_law_1303 rfl (lv_at hl 0 rfl) ?_
  refine lv_iload_n hx hb dL_law_1304 rfl (lv_at hl 3 rfl) ?_
  refine lv_iconst (v := nI 1) hx hb dL_law_1305 (by decide) ?_
  refine lv_iadd hx hb dL_law_1306 ?_
  refine lx_ld B hS (lx_in hk hL hx3 (by decide : 1 < 6)) dL_law_1307 ?_
  refine lv_aload_n hx hb dL_law_1308 rfl (lv_at hl 0 rfl) ?_
  refine lv_iload_n hx hb dL_law_1309 rfl (lv_at hl 3 rfl) ?_
  refine lv_iconst (v := nI 2) hx hb dL_law_1310 (by decide) ?_
  refine lv_iadd hx hb dL_law_1311 ?_
  refine lx_ld B hS (lx_in hk hL hx3 (by decide : 2 < 6)) dL_law_1312 ?_
  refine lv_aload_n hx hb dL_law_1313 rfl (lv_at hl 0 rfl) ?_
  refine lv_iload_n hx hb dL_law_1314 rfl (lv_at hl 3 rfl) ?_
  refine lv_iconst (v := nI 3) hx hb dL_law_1315 (by decide) ?_
  refine lv_iadd hx hb dL_law_1316 ?_
  refine lx_ld B hS (lx_in hk hL hx3 (by decide : 3 < 6)) dL_law_1317 ?_
  have e3 : fX9_burst Γ.2.2.2 h (xs (x3 + nI 1).toNatClampNeg) (xs (x3 + nI 2).toNatClampNeg) (xs (x3 + nI 3).toNatClampNeg) (G, N, 0) = some (r, u1) := e1
  refine lx_cX B hG hP hS [.int (xs (x3 + nI 1).toNatClampNeg), .int (xs (x3 + nI 2).toNatClampNeg), .int (xs (x3 + nI 3).toNatClampNeg)] hO (tX9_burst rfl e3) qlX9_32 ⟨rfl, rfl, Nat.le_of_ble_eq_true rfl, Nat.le_of_ble_eq_true rfl⟩ ⟨by show _ + (u1.2.1 - N) ≤ 600000; omega, by show _ + (u1.2.2 - 0) ≤ 7302250; omega⟩ rfl hl.1 rfl (Nat.le_of_ble_eq_true rfl) dL_law_1318 (fun H locs hG hP hS => ?_)
  refine W.widen (k := cB + 64 * k + 64) (n := sB + 1000 * k + 1000) (by show cB + 64 * k + (u1.2.1 - N) ≤ _; omega) (by show sB + 1000 * k + (u1.2.2 - 0) ≤ _; omega) ?_
  refine lv_aload_n hx hb dL_law_1321 rfl (lv_at hl 2 rfl) ?_
  refine lv_aload_n hx hb dL_law_1322 rfl (lv_at hl 0 rfl) ?_
  refine lv_iload_n hx hb dL_law_1323 rfl (lv_at hl 3 rfl) ?_
  refine lv_iconst (v := nI 1) hx hb dL_law_1324 (by decide) ?_
  refine lv_iadd hx hb dL_law_1325 ?_
  refine lx_ld B hS (lx_in hk hL hx3 (by decide : 1 < 6)) dL_law_1326 ?_
  refine lv_aload_n hx hb dL_law_1327 rfl (lv_at hl 0 rfl) ?_
  refine lv_iload_n hx hb dL_law_1328 rfl (lv_at hl 3 rfl) ?_
  refine lv_iconst (v := nI 2) hx hb dL_law_1329 (by decide) ?_
  refine lv_iadd hx hb dL_law_1330 ?_
  refine lx_ld B hS (lx_in hk hL hx3 (by decide : 2 < 6)) dL_law_1331 ?_
  refine lv_aload_n hx hb dL_law_1332 rfl (lv_at hl 0 rfl) ?_
  refine lv_iload_n hx hb dL_law_1333 rfl (lv_at hl 3 rfl) ?_
  refine lv_iconst (v := nI 3) hx hb dL_law_1334 (by decide) ?_
  refine lv_iadd hx hb dL_law_1335 ?_
  refine lx_ld B hS (lx_in hk hL hx3 (by decide : 3 < 6)) dL_law_1336 ?_
  have e5 : fX10_burst (xs (x3 + nI 1).toNatClampNeg) (xs (x3 + nI 2).toNatClampNeg) (xs (x3 + nI 3).toNatClampNeg) v = some (r, v1) := e2
  refine lx_cM B hG hP hS [.int (xs (x3 + nI 1).toNatClampNeg), .int (xs (x3 + nI 2).toNatClampNeg), .int (xs (x3 + nI 3).toNatClampNeg)] (tX10_burst e5) qlX10_32 ⟨rfl, rfl, Nat.le_of_ble_eq_true rfl, Nat.le_of_ble_eq_true rfl⟩ ⟨by show _ ≤ 600000; omega, by show _ ≤ 7302250; omega⟩ rfl hl.1 rfl (Nat.le_of_ble_eq_true rfl) dL_law_1337 (fun H locs N1 hN1 hG hP hS => ?_)
  refine lv_icmp_eq (tgt := 1427) hx hb dL_law_1340 (by decide) (fun _ => ?_) (fun hc => absurd rfl hc)
  refine W.widen (k := cB + 64 * (k + 1)) (n := sB + 1000 * (k + 1)) (by omega) (by omega) ?_
  exact kk v1 _ N1 H locs (B.2.2.2.2.2.2.2.1 _ _ _ _ _ hI1 hN1) hG hP hS
set_option maxHeartbeats 4000000 in
set_option maxRecDepth 20000 in
theorem lc_33 (B : lB p s m meth c b L xs Γ h o ad Inv) (hL : L ≤ 3072) {cB sB k : Nat} {x3 : Int32} (hk : 6 * k + 6 ≤ L) (hcB : cB ≤ 1000) (hsB : sB ≤ 100000) (hx3 : x3 = nI (6 * k)) {v : mS} {G : gM} {N : Nat} {H : Heap} {locs : List Loc} {ls : Array Slot} (hI : Inv k v G N) (hG : gAg Γ G N H) (hP : lE Γ o ad v H) (hS : va_S (fun q => s.heap.size ≤ q) s.heap H locs) (hl : lv_has ls 4 [(0, .ref b), (1, .ref h), (2, .ref o), (3, .int x3)])
    (kk : ∀ (v : mS) (G : gM) (N : Nat) (H : Heap) (locs : List Loc), Inv (k + 1) v G N → gAg Γ G N H → lE Γ o ad v H → va_S (fun q => s.heap.size ≤ q) s.heap H locs → W p l e room_1 s m #[Value.ref b] below meth c H locs (cB + 64 * (k + 1)) (sB + 1000 * (k + 1)) Q (F0 m 1427 ls [])) : W p l e room_1 s m #[Value.ref b] below meth c H locs (cB + 64 * k) (sB + 1000 * k) Q (F0 m 1345 ls []) := by
  have hx := B.1.1
  have hb := B.1.2.1
  obtain ⟨oc, hO⟩ := B.2.2.2.2.2.2.1 k v G N hI
  obtain ⟨r, v1, u1, e2, e1, hI1, hb1, hb2⟩ := B.2.2.2.2.2.2.2.2.2 33 (by decide) (xs (x3 + nI 1).toNatClampNeg) 0 0 0 0 k v G N (by omega) hI
  refine lv_aload_n hx hb dL_law_1345 rfl (lv_at hl 1 rfl) ?_
  refine lv_aload_n hx hb dL_law_1346 rfl (lv_at hl 0 rfl) ?_
  refine lv_iload_n hx hb dL_law_1347 rfl (lv_at hl 3 rfl) ?_
  refine lv_iconst (v := nI 1) hx hb dL_law_1348 (by decide) ?_
  refine lv_iadd hx hb dL_law_1349 ?_
  refine lx_ld B hS (lx_in hk hL hx3 (by decide : 1 < 6)) dL_law_1350 ?_
  have e4 : cN (fX9_tell h (xs (x3 + nI 1).toNatClampNeg) G) (G, N, 0) = some (r, u1) := e1
  obtain ⟨G1, e3, hu1⟩ := cN_inv e4
  rw [hu1] at hI1 hb1 hb2
  refine lx_cX B hG hP hS [.int (xs (x3 + nI 1).toNatClampNeg)] hO (tX9_tell e3) qlX9_33 ⟨rfl, rfl, Nat.le_of_ble_eq_true rfl, Nat.le_of_ble_eq_true rfl⟩ ⟨by show _ + 0 ≤ 600000; omega, by show _ + 0 ≤ 7302250; omega⟩ rfl hl.1 rfl (Nat.le_of_ble_eq_true rfl) dL_law_1351 (fun H locs hG hP hS => ?_)
  refine W.widen (k := cB + 64 * k + 64) (n := sB + 1000 * k + 1000) (by show cB + 64 * k + 0 ≤ _; omega) (by show sB + 1000 * k + 0 ≤ _; omega) ?_
  refine lv_aload_n hx hb dL_law_1354 rfl (lv_at hl 2 rfl) ?_
  refine lv_aload_n hx hb dL_law_1355 rfl (lv_at hl 0 rfl) ?_
  refine lv_iload_n hx hb dL_law_1356 rfl (lv_at hl 3 rfl) ?_
  refine lv_iconst (v := nI 1) hx hb dL_law_1357 (by decide) ?_
  refine lv_iadd hx hb dL_law_1358 ?_
  refine lx_ld B hS (lx_in hk hL hx3 (by decide : 1 < 6)) dL_law_1359 ?_
  have e5 : fX10_tell (xs (x3 + nI 1).toNatClampNeg) v = some (r, v1) := e2
  refine lx_cM B hG hP hS [.int (xs (x3 + nI 1).toNatClampNeg)] (tX10_tell e5) qlX10_33 ⟨rfl, rfl, Nat.le_of_ble_eq_true rfl, Nat.le_of_ble_eq_true rfl⟩ ⟨by show _ ≤ 600000; omega, by show _ ≤ 7302250; omega⟩ rfl hl.1 rfl (Nat.le_of_ble_eq_true rfl) dL_law_1360 (fun H locs N1 hN1 hG hP hS => ?_)
  refine lv_icmp_eq (tgt := 1427) hx hb dL_law_1363 (by decide) (fun _ => ?_) (fun hc => absurd rfl hc)
  refine W.widen (k := cB + 64 * (k + 1)) (n := sB + 1000 * (k + 1)) (by omega) (by omega) ?_
  exact kk v1 _ N1 H locs (B.2.2.2.2.2.2.2.1 _ _ _ _ _ hI1 hN1) hG hP hS
set_option maxHeartbeats 4000000 in
set_option maxRecDepth 20000 in
theorem lc_34 (B : lB p s m meth c b L xs Γ h o ad Inv) (hL : L ≤ 3072) {cB sB k : Nat} {x3 : Int32} (hk : 6 * k + 6 ≤ L) (hcB : cB ≤ 1000) (hsB : sB ≤ 100000) (hx3 : x3 = nI (6 * k)) {v : mS} {G : gM} {N : Nat} {H : Heap} {locs : List Loc} {ls : Array Slot} (hI : Inv k v G N) (hG : gAg Γ G N H) (hP : lE Γ o ad v H) (hS : va_S (fun q => s.heap.size ≤ q) s.heap H locs) (hl : lv_has ls 4 [(0, .ref b), (1, .ref h), (2, .ref o), (3, .int x3)])
    (kk : ∀ (v : mS) (G : gM) (N : Nat) (H : Heap) (locs : List Loc), Inv (k + 1) v G N → gAg Γ G N H → lE Γ o ad v H → va_S (fun q => s.heap.size ≤ q) s.heap H locs → W p l e room_1 s m #[Value.ref b] below meth c H locs (cB + 64 * (k + 1)) (sB + 1000 * (k + 1)) Q (F0 m 1427 ls [])) : W p l e room_1 s m #[Value.ref b] below meth c H locs (cB + 64 * k) (sB + 1000 * k) Q (F0 m 1368 ls []) := by
  have hx := B.1.1
  have hb := B.1.2.1
  obtain ⟨oc, hO⟩ := B.2.2.2.2.2.2.1 k v G N hI
  obtain ⟨r, v1, u1, e2, e1, hI1, hb1, hb2⟩ := B.2.2.2.2.2.2.2.2.2 34 (by decide) 0 0 0 0 0 k v G N (by omega) hI
  refine lv_aload_n hx hb dL_law_1368 rfl (lv_at hl 1 rfl) ?_
  have e4 : cN (fX9_check h  G) (G, N, 0) = some (r, u1) := e1
  obtain ⟨G1, e3, hu1⟩ := cN_inv e4
  rw [hu1] at hI1 hb1 hb2
  refine lx_cX B hG hP hS [] hO (tX9_check e3) qlX9_34 ⟨rfl, rfl, Nat.le_of_ble_eq_true rfl, Nat.le_of_ble_eq_true rfl⟩ ⟨by show _ + 0 ≤ 600000; omega, by show _ + 0 ≤ 7302250; omega⟩ rfl hl.1 rfl (Nat.le_of_ble_eq_true rfl) dL_law_1369 (fun H locs hG hP hS => ?_)
  refine W.widen (k := cB + 64 * k + 64) (n := sB + 1000 * k + 1000) (by show cB + 64 * k + 0 ≤ _; omega) (by show sB + 1000 * k + 0 ≤ _; omega) ?_
  refine lv_aload_n hx hb dL_law_1372 rfl (lv_at hl 2 rfl) ?_
  have e5 : fX10_check  v = some (r, v1) := e2
  refine lx_cM B hG hP hS [] (tX10_check e5) qlX10_34 ⟨rfl, rfl, Nat.le_of_ble_eq_true rfl, Nat.le_of_ble_eq_true rfl⟩ ⟨by show _ ≤ 600000; omega, by show _ ≤ 7302250; omega⟩ rfl hl.1 rfl (Nat.le_of_ble_eq_true rfl) dL_law_1373 (fun H locs N1 hN1 hG hP hS => ?_)
  refine lv_icmp_eq (tgt := 1427) hx hb dL_law_1376 (by decide) (fun _ => ?_) (fun hc => absurd rfl hc)
  refine W.widen (k := cB + 64 * (k + 1)) (n := sB + 1000 * (k + 1)) (by omega) (by omega) ?_
  exact kk v1 _ N1 H locs (B.2.2.2.2.2.2.2.1 _ _ _ _ _ hI1 hN1) hG hP hS
set_option maxHeartbeats 4000000 in
set_option maxRecDepth 20000 in
theorem lc_35 (B : lB p s m meth c b L xs Γ h o ad Inv) (hL : L ≤ 3072) {cB sB k : Nat} {x3 : Int32} (hk : 6 * k + 6 ≤ L) (hcB : cB ≤ 1000) (hsB : sB ≤ 100000) (hx3 : x3 = nI (6 * k)) {v : mS} {G : gM} {N : Nat} {H : Heap} {locs : List Loc} {ls : Array Slot} (hI : Inv k v G N) (hG : gAg Γ G N H) (hP : lE Γ o ad v H) (hS : va_S (fun q => s.heap.size ≤ q) s.heap H locs) (hl : lv_has ls 4 [(0, .ref b), (1, .ref h), (2, .ref o), (3, .int x3)])
    (kk : ∀ (v : mS) (G : gM) (N : Nat) (H : Heap) (locs : List Loc), Inv (k + 1) v G N → gAg Γ G N H → lE Γ o ad v H → va_S (fun q => s.heap.size ≤ q) s.heap H locs → W p l e room_1 s m #[Value.ref b] below meth c H locs (cB + 64 * (k + 1)) (sB + 1000 * (k + 1)) Q (F0 m 1427 ls [])) : W p l e room_1 s m #[Value.ref b] below meth c H locs (cB + 64 * k) (sB + 1000 * k) Q (F0 m 1381 ls []) := by
  have hx := B.1.1
  have hb := B.1.2.1
  obtain ⟨oc, hO⟩ := B.2.2.2.2.2.2.1 k v G N hI
  obtain ⟨r, v1, u1, e2, e1, hI1, hb1, hb2⟩ := B.2.2.2.2.2.2.2.2.2 35 (by decide) (xs (x3 + nI 1).toNatClampNeg) 0 0 0 0 k v G N (by omega) hI
  refine lv_aload_n hx hb dL_law_1381 rfl (lv_at hl 1 rfl) ?_
  refine lv_aload_n hx hb dL_law_1382 rfl (lv_at hl 0 rfl) ?_
  refine lv_iload_n hx hb dL_law_1383 rfl (lv_at hl 3 rfl) ?_
  refine lv_iconst (v := nI 1) hx hb dL_law_1384 (by decide) ?_
  refine lv_iadd hx hb dL_law_1385 ?_
  refine lx_ld B hS (lx_in hk hL hx3 (by decide : 1 < 6)) dL_law_1386 ?_
  have e4 : cN (fX9_count h (xs (x3 + nI 1).toNatClampNeg) G) (G, N, 0) = some (r, u1) := e1
  obtain ⟨G1, e3, hu1⟩ := cN_inv e4
  rw [hu1] at hI1 hb1 hb2
  refine lx_cX B hG hP hS [.int (xs (x3 + nI 1).toNatClampNeg)] hO (tX9_count e3) qlX9_35 ⟨rfl, rfl, Nat.le_of_ble_eq_true rfl, Nat.le_of_ble_eq_true rfl⟩ ⟨by show _ + 0 ≤ 600000; omega, by show _ + 0 ≤ 7302250; omega⟩ rfl hl.1 rfl (Nat.le_of_ble_eq_true rfl) dL_law_1387 (fun H locs hG hP hS => ?_)
  refine W.widen (k := cB + 64 * k + 64) (n := sB + 1000 * k + 1000) (by show cB + 64 * k + 0 ≤ _; omega) (by show sB + 1000 * k + 0 ≤ _; omega) ?_
  refine lv_aload_n hx hb dL_law_1390 rfl (lv_at hl 2 rfl) ?_
  refine lv_aload_n hx hb dL_law_1391 rfl (lv_at hl 0 rfl) ?_
  refine lv_iload_n hx hb dL_law_1392 rfl (lv_at hl 3 rfl) ?_
  refine lv_iconst (v := nI 1) hx hb dL_law_1393 (by decide) ?_
  refine lv_iadd hx hb dL_law_1394 ?_
  refine lx_ld B hS (lx_in hk hL hx3 (by decide : 1 < 6)) dL_law_1395 ?_
  have e5 : fX10_count (xs (x3 + nI 1).toNatClampNeg) v = some (r, v1) := e2
  refine lx_cM B hG hP hS [.int (xs (x3 + nI 1).toNatClampNeg)] (tX10_count e5) qlX10_35 ⟨rfl, rfl, Nat.le_of_ble_eq_true rfl, Nat.le_of_ble_eq_true rfl⟩ ⟨by show _ ≤ 600000; omega, by show _ ≤ 7302250; omega⟩ rfl hl.1 rfl (Nat.le_of_ble_eq_true rfl) dL_law_1396 (fun H locs N1 hN1 hG hP hS => ?_)
  refine lv_icmp_eq (tgt := 1427) hx hb dL_law_1399 (by decide) (fun _ => ?_) (fun hc => absurd rfl hc)
  refine W.widen (k := cB + 64 * (k + 1)) (n := sB + 1000 * (k + 1)) (by omega) (by omega) ?_
  exact kk v1 _ N1 H locs (B.2.2.2.2.2.2.2.1 _ _ _ _ _ hI1 hN1) hG hP hS
set_option maxHeartbeats 4000000 in
set_option maxRecDepth 20000 in
theorem lc_36 (B : lB p s m meth c b L xs Γ h o ad Inv) (hL : L ≤ 3072) {cB sB k : Nat} {x3 : Int32} (hk : 6 * k + 6 ≤ L) (hcB : cB ≤ 1000) (hsB : sB ≤ 100000) (hx3 : x3 = nI (6 * k)) {v : mS} {G : gM} {N : Nat} {H : Heap} {locs : List Loc} {ls : Array Slot} (hI : Inv k v G N) (hG : gAg Γ G N H) (hP : lE Γ o ad v H) (hS : va_S (fun q => s.heap.size ≤ q) s.heap H locs) (hl : lv_has ls 4 [(0, .ref b), (1, .ref h), (2, .ref o), (3, .int x3)])
    (kk : ∀ (v : mS) (G : gM) (N : Nat) (H : Heap) (locs : List Loc), Inv (k + 1) v G N → gAg Γ G N H → lE Γ o ad v H → va_S (fun q => s.heap.size ≤ q) s.heap H locs → W p l e room_1 s m #[Value.ref b] below meth c H locs (cB + 64 * (k + 1)) (sB + 1000 * (k + 1)) Q (F0 m 1427 ls [])) : W p l e room_1 s m #[Value.ref b] below meth c H locs (cB + 64 * k) (sB + 1000 * k) Q (F0 m 1404 ls []) := by
  have hx := B.1.1
  have hb := B.1.2.1
  obtain ⟨oc, hO⟩ := B.2.2.2.2.2.2.1 k v G N hI
  obtain ⟨r, v1, u1, e2, e1, hI1, hb1, hb2⟩ := B.2.2.2.2.2.2.2.2.2 36 (by decide) (xs (x3 + nI 1).toNatClampNeg) 0 0 0 0 k v G N (by omega) hI
  refine lv_aload_n hx hb dL_law_1404 rfl (lv_at hl 1 rfl) ?_
  refine lv_aload_n hx hb dL_law_1405 rfl (lv_at hl 0 rfl) ?_
  refine lv_iload_n hx hb dL_law_1406 rfl (lv_at hl 3 rfl) ?_
  refine lv_iconst (v := nI 1) hx hb dL_law_1407 (by decide) ?_
  refine lv_iadd hx hb dL_law_1408 ?_
  refine lx_ld B hS (lx_in hk hL hx3 (by decide : 1 < 6)) dL_law_1409 ?_
  have e4 : cN (fX9_found h (xs (x3 + nI 1).toNatClampNeg) G) (G, N, 0) = some (r, u1) := e1
  obtain ⟨G1, e3, hu1⟩ := cN_inv e4
  rw [hu1] at hI1 hb1 hb2
  refine lx_cX B hG hP hS [.int (xs (x3 + nI 1).toNatClampNeg)] hO (tX9_found e3) qlX9_36 ⟨rfl, rfl, Nat.le_of_ble_eq_true rfl, Nat.le_of_ble_eq_true rfl⟩ ⟨by show _ + 0 ≤ 600000; omega, by show _ + 0 ≤ 7302250; omega⟩ rfl hl.1 rfl (Nat.le_of_ble_eq_true rfl) dL_law_1410 (fun H locs hG hP hS => ?_)
  refine W.widen (k := cB + 64 * k + 64) (n := sB + 1000 * k + 1000) (by show cB + 64 * k + 0 ≤ _; omega) (by show sB + 1000 * k + 0 ≤ _; omega) ?_
  refine lv_aload_n hx hb dL_law_1413 rfl (lv_at hl 2 rfl) ?_
  refine lv_aload_n hx hb dL_law_1414 rfl (lv_at hl 0 rfl) ?_
  refine lv_iload_n hx hb dL_law_1415 rfl (lv_at hl 3 rfl) ?_
  refine lv_iconst (v := nI 1) hx hb dL_law_1416 (by decide) ?_
  refine lv_iadd hx hb dL_law_1417 ?_
  refine lx_ld B hS (lx_in hk hL hx3 (by decide : 1 < 6)) dL_law_1418 ?_
  have e5 : fX10_found (xs (x3 + nI 1).toNatClampNeg) v = some (r, v1) := e2
  refine lx_cM B hG hP hS [.int (xs (x3 + nI 1).toNatClampNeg)] (tX10_found e5) qlX10_36 ⟨rfl, rfl, Nat.le_of_ble_eq_true rfl, Nat.le_of_ble_eq_true rfl⟩ ⟨by show _ ≤ 600000; omega, by show _ ≤ 7302250; omega⟩ rfl hl.1 rfl (Nat.le_of_ble_eq_true rfl) dL_law_1419 (fun H locs N1 hN1 hG hP hS => ?_)
  refine lv_icmp_eq (tgt := 1427) hx hb dL_law_1422 (by decide) (fun _ => ?_) (fun hc => absurd rfl hc)
  refine W.widen (k := cB + 64 * (k + 1)) (n := sB + 1000 * (k + 1)) (by omega) (by omega) ?_
  exact kk v1 _ N1 H locs (B.2.2.2.2.2.2.2.1 _ _ _ _ _ hI1 hN1) hG hP hS
set_option maxHeartbeats 4000000 in
set_option maxRecDepth 20000 in
theorem law_loop (B : lB p s m meth c b L xs Γ h o ad Inv) (hL : L ≤ 3072) {cB sB : Nat} (hcB : cB ≤ 1000) (hsB : sB ≤ 100000) : ∀ (n k : Nat) {x3 : Int32}, L < 6 * (k + n) → 6 * k ≤ L → x3 = nI (6 * k) → ∀ {v : mS} {G : gM} {N : Nat} {H : Heap} {locs : List Loc} {ls : Array Slot}, Inv k v G N → gAg Γ G N H → lE Γ o ad v H → va_S (fun q => s.heap.size ≤ q) s.heap H locs → lv_has ls 4 [(0, .ref b), (1, .ref h), (2, .ref o), (3, .int x3)] →
    W p l e room_1 s m #[Value.ref b] below meth c H locs (cB + 64 * k) (sB + 1000 * k) (lw_Z below #[Value.ref b] s) (F0 m 18 ls []) := by
  have hx := B.1.1
  have hb := B.1.2.1
  intro n
  induction n with
  | zero => intro k x3 h1 h2; exact absurd h1 (by omega)
  | succ n ih =>
    intro k x3 hn hkL hx3 v G N H locs ls hI hG hP hS hl
    obtain ⟨-, -, hr, hml, hown, hts0, hX, hbl, hlocks, hgv⟩ := id B.1
    refine lv_iload_n hx hb dL_law_18 rfl (lv_at hl 3 rfl) ?_
    refine lv_aload_n hx hb dL_law_19 rfl (lv_at hl 0 rfl) ?_
    refine va_slen hx hb hX hbl (Nat.not_le.mpr hbl) hS dL_law_20 ?_
    refine lv_bipush (v := nI 6) hx hb dL_law_21 (by decide) ?_
    refine lv_isub hx hb dL_law_23 ?_
    refine lv_icmp_gt (tgt := 1433) hx hb dL_law_24 (by decide) (fun hc => ?_) (fun hc => ?_)
    · refine lv_iconst (v := 1) hx hb dL_law_1433 (by decide) ?_
      refine va_forget (fun q hq => hS.2.2 q hq) ?_
      refine W.widen (k := 600000) (n := 7302250) (by omega) (by omega) ?_
      exact lw_ret hx hb hr hlocks dL_law_1434
    · have hk : 6 * k + 6 ≤ L := by
        rcases Nat.lt_or_ge L (6 * k + 6) with q | q
        · refine absurd ?_ hc
          rw [hx3, Int32.lt_iff_toInt_lt]
          show (nI L - nI 6).toInt < _
          rw [pk_sub_toInt (by omega) (by decide), nI_toInt (by omega)]
          omega
        · exact q
      refine lv_aload_n hx hb dL_law_27 rfl (lv_at hl 0 rfl) ?_
      refine lv_iload_n hx hb dL_law_28 rfl (lv_at hl 3 rfl) ?_
      refine lx_ld B hS (by have := lx_in hk hL hx3 (by decide : 0 < 6); rw [show nI 0 = 0 from rfl, Int32.add_zero] at this; exact this) dL_law_29 ?_
      refine lv_bipush (v := 63) hx hb dL_law_30 (by decide) ?_
      refine lv_iand hx hb dL_law_32 ?_
      have nxt : ∀ (v : mS) (G : gM) (N : Nat) (H : Heap) (locs : List Loc), Inv (k + 1) v G N → gAg Γ G N H → lE Γ o ad v H → va_S (fun q => s.heap.size ≤ q) s.heap H locs → W p l e room_1 s m #[Value.ref b] below meth c H locs (cB + 64 * (k + 1)) (sB + 1000 * (k + 1)) (lw_Z below #[Value.ref b] s) (F0 m 1427 ls []) := by
        intro v G N H locs hI hG hP hS
        refine lv_iinc (v := nI (6 * (k + 1))) (lv' := [(3, .int (nI (6 * (k + 1)))), (0, .ref b), (1, .ref h), (2, .ref o)]) hx hb dL_law_1427 hl (k := 3) rfl (by rw [hx3]; exact nI_add (6 * k) 6) (by decide) rfl (fun ls hl => ?_)
        refine lv_goto (tgt := 18) hx hb dL_law_1430 (by decide) ?_
        exact ih (k + 1) (by omega) (by omega) rfl hI hG hP hS (lv_sub hl [1, 2, 3, 0] rfl)
      generalize xs (x3.toNatClampNeg) &&& 63 = op
      by_cases hc0 : op = 0
      · refine lv_tableIn (tgt := 196) (off := 163) hx hb dL_law_33 (by rw [hc0]; decide) (by rw [hc0]; decide) (by rw [hc0]; rfl) (by decide) ?_
        exact lc_0 B hL hk hcB hsB hx3 hI hG hP hS hl nxt
      by_cases hc1 : op = 1
      · refine lv_tableIn (tgt := 259) (off := 226) hx hb dL_law_33 (by rw [hc1]; decide) (by rw [hc1]; decide) (by rw [hc1]; rfl) (by decide) ?_
        exact lc_1 B hL hk hcB hsB hx3 hI hG hP hS hl nxt
      by_cases hc2 : op = 2
      · refine lv_tableIn (tgt := 292) (off := 259) hx hb dL_law_33 (by rw [hc2]; decide) (by rw [hc2]; decide) (by rw [hc2]; rfl) (by decide) ?_
        exact lc_2 B hL hk hcB hsB hx3 hI hG hP hS hl nxt
      by_cases hc3 : op = 3
      · refine lv_tableIn (tgt := 335) (off := 302) hx hb dL_law_33 (by rw [hc3]; decide) (by rw [hc3]; decide) (by rw [hc3]; rfl) (by decide) ?_
        exact lc_3 B hL hk hcB hsB hx3 hI hG hP hS hl nxt
      by_cases hc4 : op = 4
      · refine lv_tableIn (tgt := 368) (off := 335) hx hb dL_law_33 (by rw [hc4]; decide) (by rw [hc4]; decide) (by rw [hc4]; rfl) (by decide) ?_
        exact lc_4 B hL hk hcB hsB hx3 hI hG hP hS hl nxt
      by_cases hc5 : op = 5
      · refine lv_tableIn (tgt := 391) (off := 358) hx hb dL_law_33 (by rw [hc5]; decide) (by rw [hc5]; decide) (by rw [hc5]; rfl) (by decide) ?_
        exact lc_5 B hL hk hcB hsB hx3 hI hG hP hS hl nxt
      by_cases hc6 : op = 6
      · refine lv_tableIn (tgt := 414) (off := 381) hx hb dL_law_33 (by rw [hc6]; decide) (by rw [hc6]; decide) (by rw [hc6]; rfl) (by decide) ?_
        exact lc_6 B hL hk hcB hsB hx3 hI hG hP hS hl nxt
      by_cases hc7 : op = 7
      · refine lv_tableIn (tgt := 447) (off := 414) hx hb dL_law_33 (by rw [hc7]; decide) (by rw [hc7]; decide) (by rw [hc7]; rfl) (by decide) ?_
        exact lc_7 B hL hk hcB hsB hx3 hI hG hP hS hl nxt
      by_cases hc8 : op = 8
      · refine lv_tableIn (tgt := 470) (off := 437) hx hb dL_law_33 (by rw [hc8]; decide) (by rw [hc8]; decide) (by rw [hc8]; rfl) (by decide) ?_
        exact lc_8 B hL hk hcB hsB hx3 hI hG hP hS hl nxt
      by_cases hc9 : op = 9
      · refine lv_tableIn (tgt := 513) (off := 480) hx hb dL_law_33 (by rw [hc9]; decide) (by rw [hc9]; decide) (by rw [hc9]; rfl) (by decide) ?_
        exact lc_9 B hL hk hcB hsB hx3 hI hG hP hS hl nxt
      by_cases hc10 : op = 10
      · refine lv_tableIn (tgt := 556) (off := 523) hx hb dL_law_33 (by rw [hc10]; decide) (by rw [hc10]; decide) (by rw [hc10]; rfl) (by decide) ?_
        exact lc_10 B hL hk hcB hsB hx3 hI hG hP hS hl nxt
      by_cases hc11 : op = 11
      · refine lv_tableIn (tgt := 589) (off := 556) hx hb dL_law_33 (by rw [hc11]; decide) (by rw [hc11]; decide) (by rw [hc11]; rfl) (by decide) ?_
        exact lc_11 B hL hk hcB hsB hx3 hI hG hP hS hl nxt
      by_cases hc12 : op = 12
      · refine lv_tableIn (tgt := 622) (off := 589) hx hb dL_law_33 (by rw [hc12]; decide) (by rw [hc12]; decide) (by rw [hc12]; rfl) (by decide) ?_
        exact lc_12 B hL hk hcB hsB hx3 hI hG hP hS hl nxt
      by_cases hc13 : op = 13
      · refine lv_tableIn (tgt := 655) (off := 622) hx hb dL_law_33 (by rw [hc13]; decide) (by rw [hc13]; decide) (by rw [hc13]; rfl) (by decide) ?_
        exact lc_13 B hL hk hcB hsB hx3 hI hG hP hS hl nxt
      by_cases hc14 : op = 14
      · refine lv_tableIn (tgt := 678) (off := 645) hx hb dL_law_33 (by rw [hc14]; decide) (by rw [hc14]; decide) (by rw [hc14]; rfl) (by decide) ?_
        exact lc_14 B hL hk hcB hsB hx3 hI hG hP hS hl nxt
      by_cases hc15 : op = 15
      · refine lv_tableIn (tgt := 711) (off := 678) hx hb dL_law_33 (by rw [hc15]; decide) (by rw [hc15]; decide) (by rw [hc15]; rfl) (by decide) ?_
        exact lc_15 B hL hk hcB hsB hx3 hI hG hP hS hl nxt
      by_cases hc16 : op = 16
      · refine lv_tableIn (tgt := 754) (off := 721) hx hb dL_law_33 (by rw [hc16]; decide) (by rw [hc16]; decide) (by rw [hc16]; rfl) (by decide) ?_
        exact lc_16 B hL hk hcB hsB hx3 hI hG hP hS hl nxt
      by_cases hc17 : op = 17
      · refine lv_tableIn (tgt := 777) (off := 744) hx hb dL_law_33 (by rw [hc17]; decide) (by rw [hc17]; decide) (by rw [hc17]; rfl) (by decide) ?_
        exact lc_17 B hL hk hcB hsB hx3 hI hG hP hS hl nxt
      by_cases hc18 : op = 18
      · refine lv_tableIn (tgt := 810) (off := 777) hx hb dL_law_33 (by rw [hc18]; decide) (by rw [hc18]; decide) (by rw [hc18]; rfl) (by decide) ?_
        exact lc_18 B hL hk hcB hsB hx3 hI hG hP hS hl nxt
      by_cases hc19 : op = 19
      · refine lv_tableIn (tgt := 843) (off := 810) hx hb dL_law_33 (by rw [hc19]; decide) (by rw [hc19]; decide) (by rw [hc19]; rfl) (by decide) ?_
        exact lc_19 B hL hk hcB hsB hx3 hI hG hP hS hl nxt
      by_cases hc20 : op = 20
      · refine lv_tableIn (tgt := 886) (off := 853) hx hb dL_law_33 (by rw [hc20]; decide) (by rw [hc20]; decide) (by rw [hc20]; rfl) (by decide) ?_
        exact lc_20 B hL hk hcB hsB hx3 hI hG hP hS hl nxt
      by_cases hc21 : op = 21
      · refine lv_tableIn (tgt := 929) (off := 896) hx hb dL_law_33 (by rw [hc21]; decide) (by rw [hc21]; decide) (by rw [hc21]; rfl) (by decide) ?_
        exact lc_21 B hL hk hcB hsB hx3 hI hG hP hS hl nxt
      by_cases hc22 : op = 22
      · refine lv_tableIn (tgt := 972) (off := 939) hx hb dL_law_33 (by rw [hc22]; decide) (by rw [hc22]; decide) (by rw [hc22]; rfl) (by decide) ?_
        exact lc_22 B hL hk hcB hsB hx3 hI hG hP hS hl nxt
      by_cases hc23 : op = 23
      · refine lv_tableIn (tgt := 1005) (off := 972) hx hb dL_law_33 (by rw [hc23]; decide) (by rw [hc23]; decide) (by rw [hc23]; rfl) (by decide) ?_
        exact lc_23 B hL hk hcB hsB hx3 hI hG hP hS hl nxt
      by_cases hc24 : op = 24
      · refine lv_tableIn (tgt := 1018) (off := 985) hx hb dL_law_33 (by rw [hc24]; decide) (by rw [hc24]; decide) (by rw [hc24]; rfl) (by decide) ?_
        exact lc_24 B hL hk hcB hsB hx3 hI hG hP hS hl nxt
      by_cases hc25 : op = 25
      · refine lv_tableIn (tgt := 1051) (off := 1018) hx hb dL_law_33 (by rw [hc25]; decide) (by rw [hc25]; decide) (by rw [hc25]; rfl) (by decide) ?_
        exact lc_25 B hL hk hcB hsB hx3 hI hG hP hS hl nxt
      by_cases hc26 : op = 26
      · refine lv_tableIn (tgt := 1074) (off := 1041) hx hb dL_law_33 (by rw [hc26]; decide) (by rw [hc26]; decide) (by rw [hc26]; rfl) (by decide) ?_
        exact lc_26 B hL hk hcB hsB hx3 hI hG hP hS hl nxt
      by_cases hc27 : op = 27
      · refine lv_tableIn (tgt := 1117) (off := 1084) hx hb dL_law_33 (by rw [hc27]; decide) (by rw [hc27]; decide) (by rw [hc27]; rfl) (by decide) ?_
        exact lc_27 B hL hk hcB hsB hx3 hI hG hP hS hl nxt
      by_cases hc28 : op = 28
      · refine lv_tableIn (tgt := 1170) (off := 1137) hx hb dL_law_33 (by rw [hc28]; decide) (by rw [hc28]; decide) (by rw [hc28]; rfl) (by decide) ?_
        exact lc_28 B hL hk hcB hsB hx3 hI hG hP hS hl nxt
      by_cases hc29 : op = 29
      · refine lv_tableIn (tgt := 1203) (off := 1170) hx hb dL_law_33 (by rw [hc29]; decide) (by rw [hc29]; decide) (by rw [hc29]; rfl) (by decide) ?_
        exact lc_29 B hL hk hcB hsB hx3 hI hG hP hS hl nxt
      by_cases hc30 : op = 30
      · refine lv_tableIn (tgt := 1236) (off := 1203) hx hb dL_law_33 (by rw [hc30]; decide) (by rw [hc30]; decide) (by rw [hc30]; rfl) (by decide) ?_
        exact lc_30 B hL hk hcB hsB hx3 hI hG hP hS hl nxt
      by_cases hc31 : op = 31
      · refine lv_tableIn (tgt := 1279) (off := 1246) hx hb dL_law_33 (by rw [hc31]; decide) (by rw [hc31]; decide) (by rw [hc31]; rfl) (by decide) ?_
        exact lc_31 B hL hk hcB hsB hx3 hI hG hP hS hl nxt
      by_cases hc32 : op = 32
      · refine lv_tableIn (tgt := 1302) (off := 1269) hx hb dL_law_33 (by rw [hc32]; decide) (by rw [hc32]; decide) (by rw [hc32]; rfl) (by decide) ?_
        exact lc_32 B hL hk hcB hsB hx3 hI hG hP hS hl nxt
      by_cases hc33 : op = 33
      · refine lv_tableIn (tgt := 1345) (off := 1312) hx hb dL_law_33 (by rw [hc33]; decide) (by rw [hc33]; decide) (by rw [hc33]; rfl) (by decide) ?_
        exact lc_33 B hL hk hcB hsB hx3 hI hG hP hS hl nxt
      by_cases hc34 : op = 34
      · refine lv_tableIn (tgt := 1368) (off := 1335) hx hb dL_law_33 (by rw [hc34]; decide) (by rw [hc34]; decide) (by rw [hc34]; rfl) (by decide) ?_
        exact lc_34 B hL hk hcB hsB hx3 hI hG hP hS hl nxt
      by_cases hc35 : op = 35
      · refine lv_tableIn (tgt := 1381) (off := 1348) hx hb dL_law_33 (by rw [hc35]; decide) (by rw [hc35]; decide) (by rw [hc35]; rfl) (by decide) ?_
        exact lc_35 B hL hk hcB hsB hx3 hI hG hP hS hl nxt
      by_cases hc36 : op = 36
      · refine lv_tableIn (tgt := 1404) (off := 1371) hx hb dL_law_33 (by rw [hc36]; decide) (by rw [hc36]; decide) (by rw [hc36]; rfl) (by decide) ?_
        exact lc_36 B hL hk hcB hsB hx3 hI hG hP hS hl nxt
      have hn0 := lv_neT hc0 (show (0 : Int32).toInt = 0 by decide)
      have hn1 := lv_neT hc1 (show (1 : Int32).toInt = 1 by decide)
      have hn2 := lv_neT hc2 (show (2 : Int32).toInt = 2 by decide)
      have hn3 := lv_neT hc3 (show (3 : Int32).toInt = 3 by decide)
      have hn4 := lv_neT hc4 (show (4 : Int32).toInt = 4 by decide)
      have hn5 := lv_neT hc5 (show (5 : Int32).toInt = 5 by decide)
      have hn6 := lv_neT hc6 (show (6 : Int32).toInt = 6 by decide)
      have hn7 := lv_neT hc7 (show (7 : Int32).toInt = 7 by decide)
      have hn8 := lv_neT hc8 (show (8 : Int32).toInt = 8 by decide)
      have hn9 := lv_neT hc9 (show (9 : Int32).toInt = 9 by decide)
      have hn10 := lv_neT hc10 (show (10 : Int32).toInt = 10 by decide)
      have hn11 := lv_neT hc11 (show (11 : Int32).toInt = 11 by decide)
      have hn12 := lv_neT hc12 (show (12 : Int32).toInt = 12 by decide)
      have hn13 := lv_neT hc13 (show (13 : Int32).toInt = 13 by decide)
      have hn14 := lv_neT hc14 (show (14 : Int32).toInt = 14 by decide)
      have hn15 := lv_neT hc15 (show (15 : Int32).toInt = 15 by decide)
      have hn16 := lv_neT hc16 (show (16 : Int32).toInt = 16 by decide)
      have hn17 := lv_neT hc17 (show (17 : Int32).toInt = 17 by decide)
      have hn18 := lv_neT hc18 (show (18 : Int32).toInt = 18 by decide)
      have hn19 := lv_neT hc19 (show (19 : Int32).toInt = 19 by decide)
      have hn20 := lv_neT hc20 (show (20 : Int32).toInt = 20 by decide)
      have hn21 := lv_neT hc21 (show (21 : Int32).toInt = 21 by decide)
      have hn22 := lv_neT hc22 (show (22 : Int32).toInt = 22 by decide)
      have hn23 := lv_neT hc23 (show (23 : Int32).toInt = 23 by decide)
      have hn24 := lv_neT hc24 (show (24 : Int32).toInt = 24 by decide)
      have hn25 := lv_neT hc25 (show (25 : Int32).toInt = 25 by decide)
      have hn26 := lv_neT hc26 (show (26 : Int32).toInt = 26 by decide)
      have hn27 := lv_neT hc27 (show (27 : Int32).toInt = 27 by decide)
      have hn28 := lv_neT hc28 (show (28 : Int32).toInt = 28 by decide)
      have hn29 := lv_neT hc29 (show (29 : Int32).toInt = 29 by decide)
      have hn30 := lv_neT hc30 (show (30 : Int32).toInt = 30 by decide)
      have hn31 := lv_neT hc31 (show (31 : Int32).toInt = 31 by decide)
      have hn32 := lv_neT hc32 (show (32 : Int32).toInt = 32 by decide)
      have hn33 := lv_neT hc33 (show (33 : Int32).toInt = 33 by decide)
      have hn34 := lv_neT hc34 (show (34 : Int32).toInt = 34 by decide)
      have hn35 := lv_neT hc35 (show (35 : Int32).toInt = 35 by decide)
      have hn36 := lv_neT hc36 (show (36 : Int32).toInt = 36 by decide)
      refine lv_tableOut (tgt := 1427) hx hb dL_law_33 (by omega) (by decide) ?_
      refine W.widen (k := cB + 64 * (k + 1)) (n := sB + 1000 * (k + 1)) (by omega) (by omega) ?_
      exact nxt v G N H locs (B.2.2.2.2.2.2.2.2.1 _ _ _ _ hI) hG hP hS
end LC
