theorem lw_sub : ∀ w ∈ xU, w ∈ lw_tbl := fun _ h => (List.mem_filter.mp h).1
set_option maxHeartbeats 4000000 in
set_option maxRecDepth 100000 in
theorem law_0 {p : Program} (l : Launch) {e : Env} {s : State} {m : MethodId} {args : Array Value} {below : List Frame} {meth : Method} {c : Code} {H : Heap} {locs : List Loc} {cells slots : Nat} {Q : State → Prop} {ls : Array Slot} {Γ : xG} {a : Nat → Nat} {M R : xM} {N b L i : Nat} {xs : Nat → Int32} {q : xM × xM} {v1 v2 v3 v4 v5 v6 : Int32}
    (hlt : l.stackTraces = false) (S9 : CallFix p m c cL_law 9 s args lw_tbl RL) (hd : zD Γ a s.heap.size) (hz : zZ s) (hX : va_X b L xs s s.heap) (hbl : b < s.heap.size) (hL : L ≤ 3584) (hi : i + 7 ≤ L) (hv1 : xs (i + 1) = v1) (hv2 : xs (i + 2) = v2) (hv3 : xs (i + 3) = v3) (hv4 : xs (i + 4) = v4) (hv5 : xs (i + 5) = v5) (hv6 : xs (i + 6) = v6) (hc : cells + 5 ≤ 603072) (hs : slots + 30 ≤ 7190634)
    (hf : zOp_0 N v1 v2 v3 v4 v5 v6 M R = some q) (h : zH Γ a s M R H locs) (hl : lv_has ls 9 [(5, .int (Int32.ofNat i)), (4, .ref (Γ.2.1 1482)), (3, .ref (Γ.2.1 1481)), (2, .ref (a 0)), (1, .ref (Γ.2.1 1470)), (0, .ref b)])
    (kk : ∀ (H : Heap) (locs : List Loc) (ls : Array Slot), zH Γ a s q.1 q.2 H locs → lv_has ls 9 [(5, .int (Int32.ofNat i)), (4, .ref (Γ.2.1 1482)), (3, .ref (Γ.2.1 1481)), (2, .ref (a 0)), (1, .ref (Γ.2.1 1470)), (0, .ref b)] → W p l e room_1 s m args below meth c H locs (cells + 5) (slots + 30) Q (F0 m 2488 ls [])) : W p l e room_1 s m args below meth c H locs cells slots Q (F0 m 204 ls []) := by
  obtain ⟨hx, hb, hml, hown, hts⟩ := id S9
  refine lv_aload_n hx hb dL_law_204 rfl (lv_at hl 4 rfl) ?_
  refine lv_aload_n hx hb dL_law_205 rfl (lv_at hl 5 rfl) ?_
  refine lv_iload hx hb dL_law_206 (lv_at hl 0 rfl) ?_
  refine lv_iconst (v := 1) hx hb dL_law_208 (by decide) ?_
  refine lv_iadd hx hb dL_law_209 ?_
  refine z_sld hx hb hX hbl hL hi h.2.2.2 (k := 1) (by decide) hv1 dL_law_210 ?_
  refine lv_aload_n hx hb dL_law_211 rfl (lv_at hl 5 rfl) ?_
  refine lv_iload hx hb dL_law_212 (lv_at hl 0 rfl) ?_
  refine lv_iconst (v := 2) hx hb dL_law_214 (by decide) ?_
  refine lv_iadd hx hb dL_law_215 ?_
  refine z_sld hx hb hX hbl hL hi h.2.2.2 (k := 2) (by decide) hv2 dL_law_216 ?_
  refine lv_aload_n hx hb dL_law_217 rfl (lv_at hl 5 rfl) ?_
  refine lv_iload hx hb dL_law_218 (lv_at hl 0 rfl) ?_
  refine lv_iconst (v := 3) hx hb dL_law_220 (by decide) ?_
  refine lv_iadd hx hb dL_law_221 ?_
  refine z_sld hx hb hX hbl hL hi h.2.2.2 (k := 3) (by decide) hv3 dL_law_222 ?_
  refine lv_aload_n hx hb dL_law_223 rfl (lv_at hl 2 rfl) ?_
  obtain ⟨r1, er1, hf⟩ := xbd_s hf
  refine z_L (Γ := Γ) (a := a) (As := [.ref (Γ.2.1 1470), .int v1, .int v2, .int v3, .ref (Γ.2.1 1481)]) (rest := []) S9 (m_L_addColorant l hlt er1) (vx_cwSW 5 hts (zgS lw_sub q142 q143 q144 q145) rfl rfl rfl hdL_addColorant ⟨Nat.le_of_ble_eq_true rfl, Nat.le_of_ble_eq_true rfl⟩) hd hz h rfl hl.1 rfl (Nat.le_of_ble_eq_true rfl) dL_law_224 ⟨by show cells + 4 ≤ 603072; omega, by show slots + 24 ≤ 7190634; omega⟩ (fun H locs h => ?_)
  refine lv_istore (lv' := [(6, .int r1.2), (5, .int (Int32.ofNat i)), (4, .ref (Γ.2.1 1482)), (3, .ref (Γ.2.1 1481)), (2, .ref (a 0)), (1, .ref (Γ.2.1 1470)), (0, .ref b)]) hx hb dL_law_227 hl (by decide) rfl (fun ls hl => ?_)
  refine lv_aload_n hx hb dL_law_229 rfl (lv_at hl 4 rfl) ?_
  refine lv_aload_n hx hb dL_law_230 rfl (lv_at hl 6 rfl) ?_
  refine lv_iload hx hb dL_law_231 (lv_at hl 1 rfl) ?_
  refine lv_iconst (v := 1) hx hb dL_law_233 (by decide) ?_
  refine lv_iadd hx hb dL_law_234 ?_
  refine z_sld hx hb hX hbl hL hi h.2.2.2 (k := 1) (by decide) hv1 dL_law_235 ?_
  refine lv_aload_n hx hb dL_law_236 rfl (lv_at hl 6 rfl) ?_
  refine lv_iload hx hb dL_law_237 (lv_at hl 1 rfl) ?_
  refine lv_iconst (v := 2) hx hb dL_law_239 (by decide) ?_
  refine lv_iadd hx hb dL_law_240 ?_
  refine z_sld hx hb hX hbl hL hi h.2.2.2 (k := 2) (by decide) hv2 dL_law_241 ?_
  refine lv_aload_n hx hb dL_law_242 rfl (lv_at hl 6 rfl) ?_
  refine lv_iload hx hb dL_law_243 (lv_at hl 1 rfl) ?_
  refine lv_iconst (v := 3) hx hb dL_law_245 (by decide) ?_
  refine lv_iadd hx hb dL_law_246 ?_
  refine z_sld hx hb hX hbl hL hi h.2.2.2 (k := 3) (by decide) hv3 dL_law_247 ?_
  obtain ⟨r2, er2, hf⟩ := xbd_s hf
  refine z_Ri (Γ := Γ) (a := a) (As := [.int v1, .int v2, .int v3]) (rest := []) S9 (m_X10_addColorant l (Γ := gR Γ a) er2) (cwV 3 hts (xgV lw_sub q201 q202 q203 q5 q204) rfl rfl rfl hdX10_addColorant ⟨Nat.le_of_ble_eq_true rfl, Nat.le_of_ble_eq_true rfl⟩) hd h rfl hl.1 rfl (Nat.le_of_ble_eq_true rfl) dL_law_248 ⟨by show cells + 4 + 0 ≤ 603072; omega, by show slots + 24 + 0 ≤ 7190634; omega⟩ (fun H locs h => ?_)
  refine lv_istore (lv' := [(7, .int r2.2), (6, .int r1.2), (5, .int (Int32.ofNat i)), (4, .ref (Γ.2.1 1482)), (3, .ref (Γ.2.1 1481)), (2, .ref (a 0)), (1, .ref (Γ.2.1 1470)), (0, .ref b)]) hx hb dL_law_251 hl (by decide) rfl (fun ls hl => ?_)
  refine lv_aload_n hx hb dL_law_253 rfl (lv_at hl 5 rfl) ?_
  obtain ⟨r3, er3, hf⟩ := xbd_s hf
  refine z_Ri (Γ := Γ) (a := a) (As := []) (rest := []) S9 (m_X10_thrown l (Γ := gR Γ a) er3) (cwV 0 hts (xgV lw_sub q225 q226 q227 q5 q228) rfl rfl rfl hdX10_thrown ⟨Nat.le_of_ble_eq_true rfl, Nat.le_of_ble_eq_true rfl⟩) hd h rfl hl.1 rfl (Nat.le_of_ble_eq_true rfl) dL_law_254 ⟨by show cells + 4 + 0 + 0 ≤ 603072; omega, by show slots + 24 + 0 + 0 ≤ 7190634; omega⟩ (fun H locs h => ?_)
  refine lv_iload hx hb dL_law_257 (lv_at hl 1 rfl) ?_
  refine lv_icmp_eq (tgt := 264) hx hb dL_law_259 (by decide) (fun c4 => ?_) (fun c4 => ?_)
  · replace hf := xif_t hf c4
    refine lv_iload hx hb dL_law_264 (lv_at hl 1 rfl) ?_
    refine lv_if_ne (tgt := 281) hx hb dL_law_266 (by decide) (fun c5 => ?_) (fun c5 => ?_)
    · replace hf := xif_f hf c5
      refine lv_goto (tgt := 2488) hx hb dL_law_281 (by decide) ?_
      obtain rfl := Option.some.inj hf
      refine W.widen (k := cells + 5) (n := slots + 30) (by omega) (by omega) ?_
      exact kk _ _ _ h (lv_sub hl [2, 3, 4, 5, 6, 7] rfl)
    · replace hf := xif_t hf c5
      refine lv_aload_n hx hb dL_law_269 rfl (lv_at hl 4 rfl) ?_
      refine lv_iconst (v := 0) hx hb dL_law_270 (by decide) ?_
      refine x_lald hx hb (zH_X hd h) kX_out (xin_in (by decide)) dL_law_271 ?_
      refine lv_iload hx hb dL_law_272 (lv_at hl 0 rfl) ?_
      refine lv_i2l (v := (r2.2).toInt64) hx hb dL_law_274 rfl ?_
      refine W.lcmp hx hb dL_law_275 ?_
      refine lv_if_eq (tgt := 281) hx hb dL_law_276 (by decide) (fun c6 => ?_) (fun c6 => ?_)
      · replace hf := xif_t hf c6
        refine lv_goto (tgt := 2488) hx hb dL_law_281 (by decide) ?_
        obtain rfl := Option.some.inj hf
        refine W.widen (k := cells + 5) (n := slots + 30) (by omega) (by omega) ?_
        exact kk _ _ _ h (lv_sub hl [2, 3, 4, 5, 6, 7] rfl)
      · replace hf := xif_f hf c6
        refine lv_iconst (v := 0) hx hb dL_law_279 (by decide) ?_
        cases hf
  · replace hf := xif_f hf c4
    refine lv_iconst (v := 0) hx hb dL_law_262 (by decide) ?_
    cases hf
set_option maxHeartbeats 4000000 in
set_option maxRecDepth 100000 in
theorem law_1 {p : Program} (l : Launch) {e : Env} {s : State} {m : MethodId} {args : Array Value} {below : List Frame} {meth : Method} {c : Code} {H : Heap} {locs : List Loc} {cells slots : Nat} {Q : State → Prop} {ls : Array Slot} {Γ : xG} {a : Nat → Nat} {M R : xM} {N b L i : Nat} {xs : Nat → Int32} {q : xM × xM} {v1 v2 v3 v4 v5 v6 : Int32}
    (hlt : l.stackTraces = false) (S9 : CallFix p m c cL_law 9 s args lw_tbl RL) (hd : zD Γ a s.heap.size) (hz : zZ s) (hX : va_X b L xs s s.heap) (hbl : b < s.heap.size) (hL : L ≤ 3584) (hi : i + 7 ≤ L) (hv1 : xs (i + 1) = v1) (hv2 : xs (i + 2) = v2) (hv3 : xs (i + 3) = v3) (hv4 : xs (i + 4) = v4) (hv5 : xs (i + 5) = v5) (hv6 : xs (i + 6) = v6) (hc : cells + 5 ≤ 603072) (hs : slots + 30 ≤ 7190634)
    (hf : zOp_1 N v1 v2 v3 v4 v5 v6 M R = some q) (h : zH Γ a s M R H locs) (hl : lv_has ls 9 [(5, .int (Int32.ofNat i)), (4, .ref (Γ.2.1 1482)), (3, .ref (Γ.2.1 1481)), (2, .ref (a 0)), (1, .ref (Γ.2.1 1470)), (0, .ref b)])
    (kk : ∀ (H : Heap) (locs : List Loc) (ls : Array Slot), zH Γ a s q.1 q.2 H locs → lv_has ls 9 [(5, .int (Int32.ofNat i)), (4, .ref (Γ.2.1 1482)), (3, .ref (Γ.2.1 1481)), (2, .ref (a 0)), (1, .ref (Γ.2.1 1470)), (0, .ref b)] → W p l e room_1 s m args below meth c H locs (cells + 5) (slots + 30) Q (F0 m 2488 ls [])) : W p l e room_1 s m args below meth c H locs cells slots Q (F0 m 284 ls []) := by
  obtain ⟨hx, hb, hml, hown, hts⟩ := id S9
  refine lv_aload_n hx hb dL_law_284 rfl (lv_at hl 4 rfl) ?_
  refine lv_aload_n hx hb dL_law_285 rfl (lv_at hl 5 rfl) ?_
  refine lv_iload hx hb dL_law_286 (lv_at hl 0 rfl) ?_
  refine lv_iconst (v := 1) hx hb dL_law_288 (by decide) ?_
  refine lv_iadd hx hb dL_law_289 ?_
  refine z_sld hx hb hX hbl hL hi h.2.2.2 (k := 1) (by decide) hv1 dL_law_290 ?_
  refine lv_aload_n hx hb dL_law_291 rfl (lv_at hl 5 rfl) ?_
  refine lv_iload hx hb dL_law_292 (lv_at hl 0 rfl) ?_
  refine lv_iconst (v := 2) hx hb dL_law_294 (by decide) ?_
  refine lv_iadd hx hb dL_law_295 ?_
  refine z_sld hx hb hX hbl hL hi h.2.2.2 (k := 2) (by decide) hv2 dL_law_296 ?_
  refine lv_aload_n hx hb dL_law_297 rfl (lv_at hl 2 rfl) ?_
  obtain ⟨r1, er1, hf⟩ := xbd_s hf
  refine z_L (Γ := Γ) (a := a) (As := [.ref (Γ.2.1 1470), .int v1, .int v2, .ref (Γ.2.1 1481)]) (rest := []) S9 (m_L_setLife l hlt er1) (vx_cwSW 4 hts (zgS lw_sub q229 q230 q144 q231) rfl rfl rfl hdL_setLife ⟨Nat.le_of_ble_eq_true rfl, Nat.le_of_ble_eq_true rfl⟩) hd hz h rfl hl.1 rfl (Nat.le_of_ble_eq_true rfl) dL_law_298 ⟨by show cells + 2 ≤ 603072; omega, by show slots + 12 ≤ 7190634; omega⟩ (fun H locs h => ?_)
  refine lv_istore (lv' := [(6, .int r1.2), (5, .int (Int32.ofNat i)), (4, .ref (Γ.2.1 1482)), (3, .ref (Γ.2.1 1481)), (2, .ref (a 0)), (1, .ref (Γ.2.1 1470)), (0, .ref b)]) hx hb dL_law_301 hl (by decide) rfl (fun ls hl => ?_)
  refine lv_aload_n hx hb dL_law_303 rfl (lv_at hl 4 rfl) ?_
  refine lv_aload_n hx hb dL_law_304 rfl (lv_at hl 6 rfl) ?_
  refine lv_iload hx hb dL_law_305 (lv_at hl 1 rfl) ?_
  refine lv_iconst (v := 1) hx hb dL_law_307 (by decide) ?_
  refine lv_iadd hx hb dL_law_308 ?_
  refine z_sld hx hb hX hbl hL hi h.2.2.2 (k := 1) (by decide) hv1 dL_law_309 ?_
  refine lv_aload_n hx hb dL_law_310 rfl (lv_at hl 6 rfl) ?_
  refine lv_iload hx hb dL_law_311 (lv_at hl 1 rfl) ?_
  refine lv_iconst (v := 2) hx hb dL_law_313 (by decide) ?_
  refine lv_iadd hx hb dL_law_314 ?_
  refine z_sld hx hb hX hbl hL hi h.2.2.2 (k := 2) (by decide) hv2 dL_law_315 ?_
  obtain ⟨r2, er2, hf⟩ := xbd_s hf
  refine z_Ri (Γ := Γ) (a := a) (As := [.int v1, .int v2]) (rest := []) S9 (m_X10_setLife l (Γ := gR Γ a) er2) (cwV 2 hts (xgV lw_sub q245 q246 q247 q5 q248) rfl rfl rfl hdX10_setLife ⟨Nat.le_of_ble_eq_true rfl, Nat.le_of_ble_eq_true rfl⟩) hd h rfl hl.1 rfl (Nat.le_of_ble_eq_true rfl) dL_law_316 ⟨by show cells + 2 + 0 ≤ 603072; omega, by show slots + 12 + 0 ≤ 7190634; omega⟩ (fun H locs h => ?_)
  refine lv_istore (lv' := [(7, .int r2.2), (6, .int r1.2), (5, .int (Int32.ofNat i)), (4, .ref (Γ.2.1 1482)), (3, .ref (Γ.2.1 1481)), (2, .ref (a 0)), (1, .ref (Γ.2.1 1470)), (0, .ref b)]) hx hb dL_law_319 hl (by decide) rfl (fun ls hl => ?_)
  refine lv_aload_n hx hb dL_law_321 rfl (lv_at hl 5 rfl) ?_
  obtain ⟨r3, er3, hf⟩ := xbd_s hf
  refine z_Ri (Γ := Γ) (a := a) (As := []) (rest := []) S9 (m_X10_thrown l (Γ := gR Γ a) er3) (cwV 0 hts (xgV lw_sub q225 q226 q227 q5 q228) rfl rfl rfl hdX10_thrown ⟨Nat.le_of_ble_eq_true rfl, Nat.le_of_ble_eq_true rfl⟩) hd h rfl hl.1 rfl (Nat.le_of_ble_eq_true rfl) dL_law_322 ⟨by show cells + 2 + 0 + 0 ≤ 603072; omega, by show slots + 12 + 0 + 0 ≤ 7190634; omega⟩ (fun H locs h => ?_)
  refine lv_iload hx hb dL_law_325 (lv_at hl 1 rfl) ?_
  refine lv_icmp_eq (tgt := 332) hx hb dL_law_327 (by decide) (fun c4 => ?_) (fun c4 => ?_)
  · replace hf := xif_t hf c4
    refine lv_iload hx hb dL_law_332 (lv_at hl 1 rfl) ?_
    refine lv_if_ne (tgt := 349) hx hb dL_law_334 (by decide) (fun c5 => ?_) (fun c5 => ?_)
    · replace hf := xif_f hf c5
      refine lv_goto (tgt := 2488) hx hb dL_law_349 (by decide) ?_
      obtain rfl := Option.some.inj hf
      refine W.widen (k := cells + 5) (n := slots + 30) (by omega) (by omega) ?_
      exact kk _ _ _ h (lv_sub hl [2, 3, 4, 5, 6, 7] rfl)
    · replace hf := xif_t hf c5
      refine lv_aload_n hx hb dL_law_337 rfl (lv_at hl 4 rfl) ?_
      refine lv_iconst (v := 0) hx hb dL_law_338 (by decide) ?_
      refine x_lald hx hb (zH_X hd h) kX_out (xin_in (by decide)) dL_law_339 ?_
      refine lv_iload hx hb dL_law_340 (lv_at hl 0 rfl) ?_
      refine lv_i2l (v := (r2.2).toInt64) hx hb dL_law_342 rfl ?_
      refine W.lcmp hx hb dL_law_343 ?_
      refine lv_if_eq (tgt := 349) hx hb dL_law_344 (by decide) (fun c6 => ?_) (fun c6 => ?_)
      · replace hf := xif_t hf c6
        refine lv_goto (tgt := 2488) hx hb dL_law_349 (by decide) ?_
        obtain rfl := Option.some.inj hf
        refine W.widen (k := cells + 5) (n := slots + 30) (by omega) (by omega) ?_
        exact kk _ _ _ h (lv_sub hl [2, 3, 4, 5, 6, 7] rfl)
      · replace hf := xif_f hf c6
        refine lv_iconst (v := 0) hx hb dL_law_347 (by decide) ?_
        cases hf
  · replace hf := xif_f hf c4
    refine lv_iconst (v := 0) hx hb dL_law_330 (by decide) ?_
    cases hf
set_option maxHeartbeats 4000000 in
set_option maxRecDepth 100000 in
theorem law_2 {p : Program} (l : Launch) {e : Env} {s : State} {m : MethodId} {args : Array Value} {below : List Frame} {meth : Method} {c : Code} {H : Heap} {locs : List Loc} {cells slots : Nat} {Q : State → Prop} {ls : Array Slot} {Γ : xG} {a : Nat → Nat} {M R : xM} {N b L i : Nat} {xs : Nat → Int32} {q : xM × xM} {v1 v2 v3 v4 v5 v6 : Int32}
    (hlt : l.stackTraces = false) (S9 : CallFix p m c cL_law 9 s args lw_tbl RL) (hd : zD Γ a s.heap.size) (hz : zZ s) (hX : va_X b L xs s s.heap) (hbl : b < s.heap.size) (hL : L ≤ 3584) (hi : i + 7 ≤ L) (hv1 : xs (i + 1) = v1) (hv2 : xs (i + 2) = v2) (hv3 : xs (i + 3) = v3) (hv4 : xs (i + 4) = v4) (hv5 : xs (i + 5) = v5) (hv6 : xs (i + 6) = v6) (hc : cells + 5 ≤ 603072) (hs : slots + 30 ≤ 7190634)
    (hf : zOp_2 N v1 v2 v3 v4 v5 v6 M R = some q) (h : zH Γ a s M R H locs) (hl : lv_has ls 9 [(5, .int (Int32.ofNat i)), (4, .ref (Γ.2.1 1482)), (3, .ref (Γ.2.1 1481)), (2, .ref (a 0)), (1, .ref (Γ.2.1 1470)), (0, .ref b)])
    (kk : ∀ (H : Heap) (locs : List Loc) (ls : Array Slot), zH Γ a s q.1 q.2 H locs → lv_has ls 9 [(5, .int (Int32.ofNat i)), (4, .ref (Γ.2.1 1482)), (3, .ref (Γ.2.1 1481)), (2, .ref (a 0)), (1, .ref (Γ.2.1 1470)), (0, .ref b)] → W p l e room_1 s m args below meth c H locs (cells + 5) (slots + 30) Q (F0 m 2488 ls [])) : W p l e room_1 s m args below meth c H locs cells slots Q (F0 m 352 ls []) := by
  obtain ⟨hx, hb, hml, hown, hts⟩ := id S9
  refine lv_aload_n hx hb dL_law_352 rfl (lv_at hl 4 rfl) ?_
  refine lv_aload_n hx hb dL_law_353 rfl (lv_at hl 5 rfl) ?_
  refine lv_iload hx hb dL_law_354 (lv_at hl 0 rfl) ?_
  refine lv_iconst (v := 1) hx hb dL_law_356 (by decide) ?_
  refine lv_iadd hx hb dL_law_357 ?_
  refine z_sld hx hb hX hbl hL hi h.2.2.2 (k := 1) (by decide) hv1 dL_law_358 ?_
  refine lv_aload_n hx hb dL_law_359 rfl (lv_at hl 5 rfl) ?_
  refine lv_iload hx hb dL_law_360 (lv_at hl 0 rfl) ?_
  refine lv_iconst (v := 2) hx hb dL_law_362 (by decide) ?_
  refine lv_iadd hx hb dL_law_363 ?_
  refine z_sld hx hb hX hbl hL hi h.2.2.2 (k := 2) (by decide) hv2 dL_law_364 ?_
  refine lv_aload_n hx hb dL_law_365 rfl (lv_at hl 5 rfl) ?_
  refine lv_iload hx hb dL_law_366 (lv_at hl 0 rfl) ?_
  refine lv_iconst (v := 3) hx hb dL_law_368 (by decide) ?_
  refine lv_iadd hx hb dL_law_369 ?_
  refine z_sld hx hb hX hbl hL hi h.2.2.2 (k := 3) (by decide) hv3 dL_law_370 ?_
  refine lv_aload_n hx hb dL_law_371 rfl (lv_at hl 2 rfl) ?_
  obtain ⟨r1, er1, hf⟩ := xbd_s hf
  refine z_L (Γ := Γ) (a := a) (As := [.ref (Γ.2.1 1470), .int v1, .int v2, .int v3, .ref (Γ.2.1 1481)]) (rest := []) S9 (m_L_refill l hlt er1) (vx_cwSW 5 hts (zgS lw_sub q257 q258 q144 q259) rfl rfl rfl hdL_refill ⟨Nat.le_of_ble_eq_true rfl, Nat.le_of_ble_eq_true rfl⟩) hd hz h rfl hl.1 rfl (Nat.le_of_ble_eq_true rfl) dL_law_372 ⟨by show cells + 4 ≤ 603072; omega, by show slots + 24 ≤ 7190634; omega⟩ (fun H locs h => ?_)
  refine lv_istore (lv' := [(6, .int r1.2), (5, .int (Int32.ofNat i)), (4, .ref (Γ.2.1 1482)), (3, .ref (Γ.2.1 1481)), (2, .ref (a 0)), (1, .ref (Γ.2.1 1470)), (0, .ref b)]) hx hb dL_law_375 hl (by decide) rfl (fun ls hl => ?_)
  refine lv_aload_n hx hb dL_law_377 rfl (lv_at hl 4 rfl) ?_
  refine lv_aload_n hx hb dL_law_378 rfl (lv_at hl 6 rfl) ?_
  refine lv_iload hx hb dL_law_379 (lv_at hl 1 rfl) ?_
  refine lv_iconst (v := 1) hx hb dL_law_381 (by decide) ?_
  refine lv_iadd hx hb dL_law_382 ?_
  refine z_sld hx hb hX hbl hL hi h.2.2.2 (k := 1) (by decide) hv1 dL_law_383 ?_
  refine lv_aload_n hx hb dL_law_384 rfl (lv_at hl 6 rfl) ?_
  refine lv_iload hx hb dL_law_385 (lv_at hl 1 rfl) ?_
  refine lv_iconst (v := 2) hx hb dL_law_387 (by decide) ?_
  refine lv_iadd hx hb dL_law_388 ?_
  refine z_sld hx hb hX hbl hL hi h.2.2.2 (k := 2) (by decide) hv2 dL_law_389 ?_
  refine lv_aload_n hx hb dL_law_390 rfl (lv_at hl 6 rfl) ?_
  refine lv_iload hx hb dL_law_391 (lv_at hl 1 rfl) ?_
  refine lv_iconst (v := 3) hx hb dL_law_393 (by decide) ?_
  refine lv_iadd hx hb dL_law_394 ?_
  refine z_sld hx hb hX hbl hL hi h.2.2.2 (k := 3) (by decide) hv3 dL_law_395 ?_
  obtain ⟨r2, er2, hf⟩ := xbd_s hf
  refine z_Ri (Γ := Γ) (a := a) (As := [.int v1, .int v2, .int v3]) (rest := []) S9 (m_X10_refill l (Γ := gR Γ a) er2) (cwV 3 hts (xgV lw_sub q281 q282 q283 q5 q284) rfl rfl rfl hdX10_refill ⟨Nat.le_of_ble_eq_true rfl, Nat.le_of_ble_eq_true rfl⟩) hd h rfl hl.1 rfl (Nat.le_of_ble_eq_true rfl) dL_law_396 ⟨by show cells + 4 + 0 ≤ 603072; omega, by show slots + 24 + 0 ≤ 7190634; omega⟩ (fun H locs h => ?_)
  refine lv_istore (lv' := [(7, .int r2.2), (6, .int r1.2), (5, .int (Int32.ofNat i)), (4, .ref (Γ.2.1 1482)), (3, .ref (Γ.2.1 1481)), (2, .ref (a 0)), (1, .ref (Γ.2.1 1470)), (0, .ref b)]) hx hb dL_law_399 hl (by decide) rfl (fun ls hl => ?_)
  refine lv_aload_n hx hb dL_law_401 rfl (lv_at hl 5 rfl) ?_
  obtain ⟨r3, er3, hf⟩ := xbd_s hf
  refine z_Ri (Γ := Γ) (a := a) (As := []) (rest := []) S9 (m_X10_thrown l (Γ := gR Γ a) er3) (cwV 0 hts (xgV lw_sub q225 q226 q227 q5 q228) rfl rfl rfl hdX10_thrown ⟨Nat.le_of_ble_eq_true rfl, Nat.le_of_ble_eq_true rfl⟩) hd h rfl hl.1 rfl (Nat.le_of_ble_eq_true rfl) dL_law_402 ⟨by show cells + 4 + 0 + 0 ≤ 603072; omega, by show slots + 24 + 0 + 0 ≤ 7190634; omega⟩ (fun H locs h => ?_)
  refine lv_iload hx hb dL_law_405 (lv_at hl 1 rfl) ?_
  refine lv_icmp_eq (tgt := 412) hx hb dL_law_407 (by decide) (fun c4 => ?_) (fun c4 => ?_)
  · replace hf := xif_t hf c4
    refine lv_iload hx hb dL_law_412 (lv_at hl 1 rfl) ?_
    refine lv_if_ne (tgt := 429) hx hb dL_law_414 (by decide) (fun c5 => ?_) (fun c5 => ?_)
    · replace hf := xif_f hf c5
      refine lv_goto (tgt := 2488) hx hb dL_law_429 (by decide) ?_
      obtain rfl := Option.some.inj hf
      refine W.widen (k := cells + 5) (n := slots + 30) (by omega) (by omega) ?_
      exact kk _ _ _ h (lv_sub hl [2, 3, 4, 5, 6, 7] rfl)
    · replace hf := xif_t hf c5
      refine lv_aload_n hx hb dL_law_417 rfl (lv_at hl 4 rfl) ?_
      refine lv_iconst (v := 0) hx hb dL_law_418 (by decide) ?_
      refine x_lald hx hb (zH_X hd h) kX_out (xin_in (by decide)) dL_law_419 ?_
      refine lv_iload hx hb dL_law_420 (lv_at hl 0 rfl) ?_
      refine lv_i2l (v := (r2.2).toInt64) hx hb dL_law_422 rfl ?_
      refine W.lcmp hx hb dL_law_423 ?_
      refine lv_if_eq (tgt := 429) hx hb dL_law_424 (by decide) (fun c6 => ?_) (fun c6 => ?_)
      · replace hf := xif_t hf c6
        refine lv_goto (tgt := 2488) hx hb dL_law_429 (by decide) ?_
        obtain rfl := Option.some.inj hf
        refine W.widen (k := cells + 5) (n := slots + 30) (by omega) (by omega) ?_
        exact kk _ _ _ h (lv_sub hl [2, 3, 4, 5, 6, 7] rfl)
      · replace hf := xif_f hf c6
        refine lv_iconst (v := 0) hx hb dL_law_427 (by decide) ?_
        cases hf
  · replace hf := xif_f hf c4
    refine lv_iconst (v := 0) hx hb dL_law_410 (by decide) ?_
    cases hf
set_option maxHeartbeats 4000000 in
set_option maxRecDepth 100000 in
theorem law_3 {p : Program} (l : Launch) {e : Env} {s : State} {m : MethodId} {args : Array Value} {below : List Frame} {meth : Method} {c : Code} {H : Heap} {locs : List Loc} {cells slots : Nat} {Q : State → Prop} {ls : Array Slot} {Γ : xG} {a : Nat → Nat} {M R : xM} {N b L i : Nat} {xs : Nat → Int32} {q : xM × xM} {v1 v2 v3 v4 v5 v6 : Int32}
    (hlt : l.stackTraces = false) (S9 : CallFix p m c cL_law 9 s args lw_tbl RL) (hd : zD Γ a s.heap.size) (hz : zZ s) (hX : va_X b L xs s s.heap) (hbl : b < s.heap.size) (hL : L ≤ 3584) (hi : i + 7 ≤ L) (hv1 : xs (i + 1) = v1) (hv2 : xs (i + 2) = v2) (hv3 : xs (i + 3) = v3) (hv4 : xs (i + 4) = v4) (hv5 : xs (i + 5) = v5) (hv6 : xs (i + 6) = v6) (hc : cells + 5 ≤ 603072) (hs : slots + 30 ≤ 7190634)
    (hf : zOp_3 N v1 v2 v3 v4 v5 v6 M R = some q) (h : zH Γ a s M R H locs) (hl : lv_has ls 9 [(5, .int (Int32.ofNat i)), (4, .ref (Γ.2.1 1482)), (3, .ref (Γ.2.1 1481)), (2, .ref (a 0)), (1, .ref (Γ.2.1 1470)), (0, .ref b)])
    (kk : ∀ (H : Heap) (locs : List Loc) (ls : Array Slot), zH Γ a s q.1 q.2 H locs → lv_has ls 9 [(5, .int (Int32.ofNat i)), (4, .ref (Γ.2.1 1482)), (3, .ref (Γ.2.1 1481)), (2, .ref (a 0)), (1, .ref (Γ.2.1 1470)), (0, .ref b)] → W p l e room_1 s m args below meth c H locs (cells + 5) (slots + 30) Q (F0 m 2488 ls [])) : W p l e room_1 s m args below meth c H locs cells slots Q (F0 m 432 ls []) := by
  obtain ⟨hx, hb, hml, hown, hts⟩ := id S9
  refine lv_aload_n hx hb dL_law_432 rfl (lv_at hl 4 rfl) ?_
  refine lv_aload_n hx hb dL_law_433 rfl (lv_at hl 5 rfl) ?_
  refine lv_iload hx hb dL_law_434 (lv_at hl 0 rfl) ?_
  refine lv_iconst (v := 1) hx hb dL_law_436 (by decide) ?_
  refine lv_iadd hx hb dL_law_437 ?_
  refine z_sld hx hb hX hbl hL hi h.2.2.2 (k := 1) (by decide) hv1 dL_law_438 ?_
  refine lv_aload_n hx hb dL_law_439 rfl (lv_at hl 5 rfl) ?_
  refine lv_iload hx hb dL_law_440 (lv_at hl 0 rfl) ?_
  refine lv_iconst (v := 2) hx hb dL_law_442 (by decide) ?_
  refine lv_iadd hx hb dL_law_443 ?_
  refine z_sld hx hb hX hbl hL hi h.2.2.2 (k := 2) (by decide) hv2 dL_law_444 ?_
  refine lv_aload_n hx hb dL_law_445 rfl (lv_at hl 2 rfl) ?_
  obtain ⟨r1, er1, hf⟩ := xbd_s hf
  refine z_L (Γ := Γ) (a := a) (As := [.ref (Γ.2.1 1470), .int v1, .int v2, .ref (Γ.2.1 1481)]) (rest := []) S9 (m_L_recall l hlt er1) (vx_cwSW 4 hts (zgS lw_sub q297 q298 q144 q299) rfl rfl rfl hdL_recall ⟨Nat.le_of_ble_eq_true rfl, Nat.le_of_ble_eq_true rfl⟩) hd hz h rfl hl.1 rfl (Nat.le_of_ble_eq_true rfl) dL_law_446 ⟨by show cells + 2 ≤ 603072; omega, by show slots + 12 ≤ 7190634; omega⟩ (fun H locs h => ?_)
  refine lv_istore (lv' := [(6, .int r1.2), (5, .int (Int32.ofNat i)), (4, .ref (Γ.2.1 1482)), (3, .ref (Γ.2.1 1481)), (2, .ref (a 0)), (1, .ref (Γ.2.1 1470)), (0, .ref b)]) hx hb dL_law_449 hl (by decide) rfl (fun ls hl => ?_)
  refine lv_aload_n hx hb dL_law_451 rfl (lv_at hl 4 rfl) ?_
  refine lv_aload_n hx hb dL_law_452 rfl (lv_at hl 6 rfl) ?_
  refine lv_iload hx hb dL_law_453 (lv_at hl 1 rfl) ?_
  refine lv_iconst (v := 1) hx hb dL_law_455 (by decide) ?_
  refine lv_iadd hx hb dL_law_456 ?_
  refine z_sld hx hb hX hbl hL hi h.2.2.2 (k := 1) (by decide) hv1 dL_law_457 ?_
  refine lv_aload_n hx hb dL_law_458 rfl (lv_at hl 6 rfl) ?_
  refine lv_iload hx hb dL_law_459 (lv_at hl 1 rfl) ?_
  refine lv_iconst (v := 2) hx hb dL_law_461 (by decide) ?_
  refine lv_iadd hx hb dL_law_462 ?_
  refine z_sld hx hb hX hbl hL hi h.2.2.2 (k := 2) (by decide) hv2 dL_law_463 ?_
  obtain ⟨r2, er2, hf⟩ := xbd_s hf
  refine z_Ri (Γ := Γ) (a := a) (As := [.int v1, .int v2]) (rest := []) S9 (m_X10_recall l (Γ := gR Γ a) er2) (cwV 2 hts (xgV lw_sub q312 q313 q314 q5 q315) rfl rfl rfl hdX10_recall ⟨Nat.le_of_ble_eq_true rfl, Nat.le_of_ble_eq_true rfl⟩) hd h rfl hl.1 rfl (Nat.le_of_ble_eq_true rfl) dL_law_464 ⟨by show cells + 2 + 0 ≤ 603072; omega, by show slots + 12 + 0 ≤ 7190634; omega⟩ (fun H locs h => ?_)
  refine lv_istore (lv' := [(7, .int r2.2), (6, .int r1.2), (5, .int (Int32.ofNat i)), (4, .ref (Γ.2.1 1482)), (3, .ref (Γ.2.1 1481)), (2, .ref (a 0)), (1, .ref (Γ.2.1 1470)), (0, .ref b)]) hx hb dL_law_467 hl (by decide) rfl (fun ls hl => ?_)
  refine lv_aload_n hx hb dL_law_469 rfl (lv_at hl 5 rfl) ?_
  obtain ⟨r3, er3, hf⟩ := xbd_s hf
  refine z_Ri (Γ := Γ) (a := a) (As := []) (rest := []) S9 (m_X10_thrown l (Γ := gR Γ a) er3) (cwV 0 hts (xgV lw_sub q225 q226 q227 q5 q228) rfl rfl rfl hdX10_thrown ⟨Nat.le_of_ble_eq_true rfl, Nat.le_of_ble_eq_true rfl⟩) hd h rfl hl.1 rfl (Nat.le_of_ble_eq_true rfl) dL_law_470 ⟨by show cells + 2 + 0 + 0 ≤ 603072; omega, by show slots + 12 + 0 + 0 ≤ 7190634; omega⟩ (fun H locs h => ?_)
  refine lv_iload hx hb dL_law_473 (lv_at hl 1 rfl) ?_
  refine lv_icmp_eq (tgt := 480) hx hb dL_law_475 (by decide) (fun c4 => ?_) (fun c4 => ?_)
  · replace hf := xif_t hf c4
    refine lv_iload hx hb dL_law_480 (lv_at hl 1 rfl) ?_
    refine lv_if_ne (tgt := 497) hx hb dL_law_482 (by decide) (fun c5 => ?_) (fun c5 => ?_)
    · replace hf := xif_f hf c5
      refine lv_goto (tgt := 2488) hx hb dL_law_497 (by decide) ?_
      obtain rfl := Option.some.inj hf
      refine W.widen (k := cells + 5) (n := slots + 30) (by omega) (by omega) ?_
      exact kk _ _ _ h (lv_sub hl [2, 3, 4, 5, 6, 7] rfl)
    · replace hf := xif_t hf c5
      refine lv_aload_n hx hb dL_law_485 rfl (lv_at hl 4 rfl) ?_
      refine lv_iconst (v := 0) hx hb dL_law_486 (by decide) ?_
      refine x_lald hx hb (zH_X hd h) kX_out (xin_in (by decide)) dL_law_487 ?_
      refine lv_iload hx hb dL_law_488 (lv_at hl 0 rfl) ?_
      refine lv_i2l (v := (r2.2).toInt64) hx hb dL_law_490 rfl ?_
      refine W.lcmp hx hb dL_law_491 ?_
      refine lv_if_eq (tgt := 497) hx hb dL_law_492 (by decide) (fun c6 => ?_) (fun c6 => ?_)
      · replace hf := xif_t hf c6
        refine lv_goto (tgt := 2488) hx hb dL_law_497 (by decide) ?_
        obtain rfl := Option.some.inj hf
        refine W.widen (k := cells + 5) (n := slots + 30) (by omega) (by omega) ?_
        exact kk _ _ _ h (lv_sub hl [2, 3, 4, 5, 6, 7] rfl)
      · replace hf := xif_f hf c6
        refine lv_iconst (v := 0) hx hb dL_law_495 (by decide) ?_
        cases hf
  · replace hf := xif_f hf c4
    refine lv_iconst (v := 0) hx hb dL_law_478 (by decide) ?_
    cases hf
set_option maxHeartbeats 4000000 in
set_option maxRecDepth 100000 in
theorem law_4 {p : Program} (l : Launch) {e : Env} {s : State} {m : MethodId} {args : Array Value} {below : List Frame} {meth : Method} {c : Code} {H : Heap} {locs : List Loc} {cells slots : Nat} {Q : State → Prop} {ls : Array Slot} {Γ : xG} {a : Nat → Nat} {M R : xM} {N b L i : Nat} {xs : Nat → Int32} {q : xM × xM} {v1 v2 v3 v4 v5 v6 : Int32}
    (hlt : l.stackTraces = false) (S9 : CallFix p m c cL_law 9 s args lw_tbl RL) (hd : zD Γ a s.heap.size) (hz : zZ s) (hX : va_X b L xs s s.heap) (hbl : b < s.heap.size) (hL : L ≤ 3584) (hi : i + 7 ≤ L) (hv1 : xs (i + 1) = v1) (hv2 : xs (i + 2) = v2) (hv3 : xs (i + 3) = v3) (hv4 : xs (i + 4) = v4) (hv5 : xs (i + 5) = v5) (hv6 : xs (i + 6) = v6) (hc : cells + 5 ≤ 603072) (hs : slots + 30 ≤ 7190634)
    (hf : zOp_4 N v1 v2 v3 v4 v5 v6 M R = some q) (h : zH Γ a s M R H locs) (hl : lv_has ls 9 [(5, .int (Int32.ofNat i)), (4, .ref (Γ.2.1 1482)), (3, .ref (Γ.2.1 1481)), (2, .ref (a 0)), (1, .ref (Γ.2.1 1470)), (0, .ref b)])
    (kk : ∀ (H : Heap) (locs : List Loc) (ls : Array Slot), zH Γ a s q.1 q.2 H locs → lv_has ls 9 [(5, .int (Int32.ofNat i)), (4, .ref (Γ.2.1 1482)), (3, .ref (Γ.2.1 1481)), (2, .ref (a 0)), (1, .ref (Γ.2.1 1470)), (0, .ref b)] → W p l e room_1 s m args below meth c H locs (cells + 5) (slots + 30) Q (F0 m 2488 ls [])) : W p l e room_1 s m args below meth c H locs cells slots Q (F0 m 500 ls []) := by
  obtain ⟨hx, hb, hml, hown, hts⟩ := id S9
  refine lv_aload_n hx hb dL_law_500 rfl (lv_at hl 4 rfl) ?_
  refine lv_aload_n hx hb dL_law_501 rfl (lv_at hl 5 rfl) ?_
  refine lv_iload hx hb dL_law_502 (lv_at hl 0 rfl) ?_
  refine lv_iconst (v := 1) hx hb dL_law_504 (by decide) ?_
  refine lv_iadd hx hb dL_law_505 ?_
  refine z_sld hx hb hX hbl hL hi h.2.2.2 (k := 1) (by decide) hv1 dL_law_506 ?_
  refine lv_aload_n hx hb dL_law_507 rfl (lv_at hl 5 rfl) ?_
  refine lv_iload hx hb dL_law_508 (lv_at hl 0 rfl) ?_
  refine lv_iconst (v := 2) hx hb dL_law_510 (by decide) ?_
  refine lv_iadd hx hb dL_law_511 ?_
  refine z_sld hx hb hX hbl hL hi h.2.2.2 (k := 2) (by decide) hv2 dL_law_512 ?_
  refine lv_aload_n hx hb dL_law_513 rfl (lv_at hl 2 rfl) ?_
  obtain ⟨r1, er1, hf⟩ := xbd_s hf
  refine z_L (Γ := Γ) (a := a) (As := [.ref (Γ.2.1 1470), .int v1, .int v2, .ref (Γ.2.1 1481)]) (rest := []) S9 (m_L_colorant l hlt er1) (vx_cwSW 4 hts (zgS lw_sub q320 q321 q144 q322) rfl rfl rfl hdL_colorant ⟨Nat.le_of_ble_eq_true rfl, Nat.le_of_ble_eq_true rfl⟩) hd hz h rfl hl.1 rfl (Nat.le_of_ble_eq_true rfl) dL_law_514 ⟨by show cells + 2 ≤ 603072; omega, by show slots + 12 ≤ 7190634; omega⟩ (fun H locs h => ?_)
  refine lv_istore (lv' := [(6, .int r1.2), (5, .int (Int32.ofNat i)), (4, .ref (Γ.2.1 1482)), (3, .ref (Γ.2.1 1481)), (2, .ref (a 0)), (1, .ref (Γ.2.1 1470)), (0, .ref b)]) hx hb dL_law_517 hl (by decide) rfl (fun ls hl => ?_)
  refine lv_aload_n hx hb dL_law_519 rfl (lv_at hl 4 rfl) ?_
  refine lv_aload_n hx hb dL_law_520 rfl (lv_at hl 6 rfl) ?_
  refine lv_iload hx hb dL_law_521 (lv_at hl 1 rfl) ?_
  refine lv_iconst (v := 1) hx hb dL_law_523 (by decide) ?_
  refine lv_iadd hx hb dL_law_524 ?_
  refine z_sld hx hb hX hbl hL hi h.2.2.2 (k := 1) (by decide) hv1 dL_law_525 ?_
  refine lv_aload_n hx hb dL_law_526 rfl (lv_at hl 6 rfl) ?_
  refine lv_iload hx hb dL_law_527 (lv_at hl 1 rfl) ?_
  refine lv_iconst (v := 2) hx hb dL_law_529 (by decide) ?_
  refine lv_iadd hx hb dL_law_530 ?_
  refine z_sld hx hb hX hbl hL hi h.2.2.2 (k := 2) (by decide) hv2 dL_law_531 ?_
  obtain ⟨r2, er2, hf⟩ := xbd_s hf
  refine z_Ri (Γ := Γ) (a := a) (As := [.int v1, .int v2]) (rest := []) S9 (m_X10_colorant l (Γ := gR Γ a) er2) (cwV 2 hts (xgV lw_sub q332 q333 q334 q5 q335) rfl rfl rfl hdX10_colorant ⟨Nat.le_of_ble_eq_true rfl, Nat.le_of_ble_eq_true rfl⟩) hd h rfl hl.1 rfl (Nat.le_of_ble_eq_true rfl) dL_law_532 ⟨by show cells + 2 + 0 ≤ 603072; omega, by show slots + 12 + 0 ≤ 7190634; omega⟩ (fun H locs h => ?_)
  refine lv_istore (lv' := [(7, .int r2.2), (6, .int r1.2), (5, .int (Int32.ofNat i)), (4, .ref (Γ.2.1 1482)), (3, .ref (Γ.2.1 1481)), (2, .ref (a 0)), (1, .ref (Γ.2.1 1470)), (0, .ref b)]) hx hb dL_law_535 hl (by decide) rfl (fun ls hl => ?_)
  refine lv_aload_n hx hb dL_law_537 rfl (lv_at hl 5 rfl) ?_
  obtain ⟨r3, er3, hf⟩ := xbd_s hf
  refine z_Ri (Γ := Γ) (a := a) (As := []) (rest := []) S9 (m_X10_thrown l (Γ := gR Γ a) er3) (cwV 0 hts (xgV lw_sub q225 q226 q227 q5 q228) rfl rfl rfl hdX10_thrown ⟨Nat.le_of_ble_eq_true rfl, Nat.le_of_ble_eq_true rfl⟩) hd h rfl hl.1 rfl (Nat.le_of_ble_eq_true rfl) dL_law_538 ⟨by show cells + 2 + 0 + 0 ≤ 603072; omega, by show slots + 12 + 0 + 0 ≤ 7190634; omega⟩ (fun H locs h => ?_)
  refine lv_iload hx hb dL_law_541 (lv_at hl 1 rfl) ?_
  refine lv_icmp_eq (tgt := 548) hx hb dL_law_543 (by decide) (fun c4 => ?_) (fun c4 => ?_)
  · replace hf := xif_t hf c4
    refine lv_iload hx hb dL_law_548 (lv_at hl 1 rfl) ?_
    refine lv_if_ne (tgt := 565) hx hb dL_law_550 (by decide) (fun c5 => ?_) (fun c5 => ?_)
    · replace hf := xif_f hf c5
      refine lv_goto (tgt := 2488) hx hb dL_law_565 (by decide) ?_
      obtain rfl := Option.some.inj hf
      refine W.widen (k := cells + 5) (n := slots + 30) (by omega) (by omega) ?_
      exact kk _ _ _ h (lv_sub hl [2, 3, 4, 5, 6, 7] rfl)
    · replace hf := xif_t hf c5
      refine lv_aload_n hx hb dL_law_553 rfl (lv_at hl 4 rfl) ?_
      refine lv_iconst (v := 0) hx hb dL_law_554 (by decide) ?_
      refine x_lald hx hb (zH_X hd h) kX_out (xin_in (by decide)) dL_law_555 ?_
      refine lv_iload hx hb dL_law_556 (lv_at hl 0 rfl) ?_
      refine lv_i2l (v := (r2.2).toInt64) hx hb dL_law_558 rfl ?_
      refine W.lcmp hx hb dL_law_559 ?_
      refine lv_if_eq (tgt := 565) hx hb dL_law_560 (by decide) (fun c6 => ?_) (fun c6 => ?_)
      · replace hf := xif_t hf c6
        refine lv_goto (tgt := 2488) hx hb dL_law_565 (by decide) ?_
        obtain rfl := Option.some.inj hf
        refine W.widen (k := cells + 5) (n := slots + 30) (by omega) (by omega) ?_
        exact kk _ _ _ h (lv_sub hl [2, 3, 4, 5, 6, 7] rfl)
      · replace hf := xif_f hf c6
        refine lv_iconst (v := 0) hx hb dL_law_563 (by decide) ?_
        cases hf
  · replace hf := xif_f hf c4
    refine lv_iconst (v := 0) hx hb dL_law_546 (by decide) ?_
    cases hf
set_option maxHeartbeats 4000000 in
set_option maxRecDepth 100000 in
theorem law_5 {p : Program} (l : Launch) {e : Env} {s : State} {m : MethodId} {args : Array Value} {below : List Frame} {meth : Method} {c : Code} {H : Heap} {locs : List Loc} {cells slots : Nat} {Q : State → Prop} {ls : Array Slot} {Γ : xG} {a : Nat → Nat} {M R : xM} {N b L i : Nat} {xs : Nat → Int32} {q : xM × xM} {v1 v2 v3 v4 v5 v6 : Int32}
    (hlt : l.stackTraces = false) (S9 : CallFix p m c cL_law 9 s args lw_tbl RL) (hd : zD Γ a s.heap.size) (hz : zZ s) (hX : va_X b L xs s s.heap) (hbl : b < s.heap.size) (hL : L ≤ 3584) (hi : i + 7 ≤ L) (hv1 : xs (i + 1) = v1) (hv2 : xs (i + 2) = v2) (hv3 : xs (i + 3) = v3) (hv4 : xs (i + 4) = v4) (hv5 : xs (i + 5) = v5) (hv6 : xs (i + 6) = v6) (hc : cells + 5 ≤ 603072) (hs : slots + 30 ≤ 7190634)
    (hf : zOp_5 N v1 v2 v3 v4 v5 v6 M R = some q) (h : zH Γ a s M R H locs) (hl : lv_has ls 9 [(5, .int (Int32.ofNat i)), (4, .ref (Γ.2.1 1482)), (3, .ref (Γ.2.1 1481)), (2, .ref (a 0)), (1, .ref (Γ.2.1 1470)), (0, .ref b)])
    (kk : ∀ (H : Heap) (locs : List Loc) (ls : Array Slot), zH Γ a s q.1 q.2 H locs → lv_has ls 9 [(5, .int (Int32.ofNat i)), (4, .ref (Γ.2.1 1482)), (3, .ref (Γ.2.1 1481)), (2, .ref (a 0)), (1, .ref (Γ.2.1 1470)), (0, .ref b)] → W p l e room_1 s m args below meth c H locs (cells + 5) (slots + 30) Q (F0 m 2488 ls [])) : W p l e room_1 s m args below meth c H locs cells slots Q (F0 m 568 ls []) := by
  obtain ⟨hx, hb, hml, hown, hts⟩ := id S9
  refine lv_aload_n hx hb dL_law_568 rfl (lv_at hl 4 rfl) ?_
  refine lv_aload_n hx hb dL_law_569 rfl (lv_at hl 5 rfl) ?_
  refine lv_iload hx hb dL_law_570 (lv_at hl 0 rfl) ?_
  refine lv_iconst (v := 1) hx hb dL_law_572 (by decide) ?_
  refine lv_iadd hx hb dL_law_573 ?_
  refine z_sld hx hb hX hbl hL hi h.2.2.2 (k := 1) (by decide) hv1 dL_law_574 ?_
  refine lv_aload_n hx hb dL_law_575 rfl (lv_at hl 5 rfl) ?_
  refine lv_iload hx hb dL_law_576 (lv_at hl 0 rfl) ?_
  refine lv_iconst (v := 2) hx hb dL_law_578 (by decide) ?_
  refine lv_iadd hx hb dL_law_579 ?_
  refine z_sld hx hb hX hbl hL hi h.2.2.2 (k := 2) (by decide) hv2 dL_law_580 ?_
  refine lv_aload_n hx hb dL_law_581 rfl (lv_at hl 5 rfl) ?_
  refine lv_iload hx hb dL_law_582 (lv_at hl 0 rfl) ?_
  refine lv_iconst (v := 3) hx hb dL_law_584 (by decide) ?_
  refine lv_iadd hx hb dL_law_585 ?_
  refine z_sld hx hb hX hbl hL hi h.2.2.2 (k := 3) (by decide) hv3 dL_law_586 ?_
  refine lv_aload_n hx hb dL_law_587 rfl (lv_at hl 2 rfl) ?_
  obtain ⟨r1, er1, hf⟩ := xbd_s hf
  refine z_L (Γ := Γ) (a := a) (As := [.ref (Γ.2.1 1470), .int v1, .int v2, .int v3, .ref (Γ.2.1 1481)]) (rest := []) S9 (m_L_lot l hlt er1) (vx_cwSW 5 hts (zgS lw_sub q336 q337 q144 q338) rfl rfl rfl hdL_lot ⟨Nat.le_of_ble_eq_true rfl, Nat.le_of_ble_eq_true rfl⟩) hd hz h rfl hl.1 rfl (Nat.le_of_ble_eq_true rfl) dL_law_588 ⟨by show cells + 2 ≤ 603072; omega, by show slots + 12 ≤ 7190634; omega⟩ (fun H locs h => ?_)
  refine lv_istore (lv' := [(6, .int r1.2), (5, .int (Int32.ofNat i)), (4, .ref (Γ.2.1 1482)), (3, .ref (Γ.2.1 1481)), (2, .ref (a 0)), (1, .ref (Γ.2.1 1470)), (0, .ref b)]) hx hb dL_law_591 hl (by decide) rfl (fun ls hl => ?_)
  refine lv_aload_n hx hb dL_law_593 rfl (lv_at hl 4 rfl) ?_
  refine lv_aload_n hx hb dL_law_594 rfl (lv_at hl 6 rfl) ?_
  refine lv_iload hx hb dL_law_595 (lv_at hl 1 rfl) ?_
  refine lv_iconst (v := 1) hx hb dL_law_597 (by decide) ?_
  refine lv_iadd hx hb dL_law_598 ?_
  refine z_sld hx hb hX hbl hL hi h.2.2.2 (k := 1) (by decide) hv1 dL_law_599 ?_
  refine lv_aload_n hx hb dL_law_600 rfl (lv_at hl 6 rfl) ?_
  refine lv_iload hx hb dL_law_601 (lv_at hl 1 rfl) ?_
  refine lv_iconst (v := 2) hx hb dL_law_603 (by decide) ?_
  refine lv_iadd hx hb dL_law_604 ?_
  refine z_sld hx hb hX hbl hL hi h.2.2.2 (k := 2) (by decide) hv2 dL_law_605 ?_
  refine lv_aload_n hx hb dL_law_606 rfl (lv_at hl 6 rfl) ?_
  refine lv_iload hx hb dL_law_607 (lv_at hl 1 rfl) ?_
  refine lv_iconst (v := 3) hx hb dL_law_609 (by decide) ?_
  refine lv_iadd hx hb dL_law_610 ?_
  refine z_sld hx hb hX hbl hL hi h.2.2.2 (k := 3) (by decide) hv3 dL_law_611 ?_
  obtain ⟨r2, er2, hf⟩ := xbd_s hf
  refine z_Ri (Γ := Γ) (a := a) (As := [.int v1, .int v2, .int v3]) (rest := []) S9 (m_X10_lot l (Γ := gR Γ a) er2) (cwV 3 hts (xgV lw_sub q350 q351 q352 q5 q353) rfl rfl rfl hdX10_lot ⟨Nat.le_of_ble_eq_true rfl, Nat.le_of_ble_eq_true rfl⟩) hd h rfl hl.1 rfl (Nat.le_of_ble_eq_true rfl) dL_law_612 ⟨by show cells + 2 + 0 ≤ 603072; omega, by show slots + 12 + 0 ≤ 7190634; omega⟩ (fun H locs h => ?_)
  refine lv_istore (lv' := [(7, .int r2.2), (6, .int r1.2), (5, .int (Int32.ofNat i)), (4, .ref (Γ.2.1 1482)), (3, .ref (Γ.2.1 1481)), (2, .ref (a 0)), (1, .ref (Γ.2.1 1470)), (0, .ref b)]) hx hb dL_law_615 hl (by decide) rfl (fun ls hl => ?_)
  refine lv_aload_n hx hb dL_law_617 rfl (lv_at hl 5 rfl) ?_
  obtain ⟨r3, er3, hf⟩ := xbd_s hf
  refine z_Ri (Γ := Γ) (a := a) (As := []) (rest := []) S9 (m_X10_thrown l (Γ := gR Γ a) er3) (cwV 0 hts (xgV lw_sub q225 q226 q227 q5 q228) rfl rfl rfl hdX10_thrown ⟨Nat.le_of_ble_eq_true rfl, Nat.le_of_ble_eq_true rfl⟩) hd h rfl hl.1 rfl (Nat.le_of_ble_eq_true rfl) dL_law_618 ⟨by show cells + 2 + 0 + 0 ≤ 603072; omega, by show slots + 12 + 0 + 0 ≤ 7190634; omega⟩ (fun H locs h => ?_)
  refine lv_iload hx hb dL_law_621 (lv_at hl 1 rfl) ?_
  refine lv_icmp_eq (tgt := 628) hx hb dL_law_623 (by decide) (fun c4 => ?_) (fun c4 => ?_)
  · replace hf := xif_t hf c4
    refine lv_iload hx hb dL_law_628 (lv_at hl 1 rfl) ?_
    refine lv_if_ne (tgt := 645) hx hb dL_law_630 (by decide) (fun c5 => ?_) (fun c5 => ?_)
    · replace hf := xif_f hf c5
      refine lv_goto (tgt := 2488) hx hb dL_law_645 (by decide) ?_
      obtain rfl := Option.some.inj hf
      refine W.widen (k := cells + 5) (n := slots + 30) (by omega) (by omega) ?_
      exact kk _ _ _ h (lv_sub hl [2, 3, 4, 5, 6, 7] rfl)
    · replace hf := xif_t hf c5
      refine lv_aload_n hx hb dL_law_633 rfl (lv_at hl 4 rfl) ?_
      refine lv_iconst (v := 0) hx hb dL_law_634 (by decide) ?_
      refine x_lald hx hb (zH_X hd h) kX_out (xin_in (by decide)) dL_law_635 ?_
      refine lv_iload hx hb dL_law_636 (lv_at hl 0 rfl) ?_
      refine lv_i2l (v := (r2.2).toInt64) hx hb dL_law_638 rfl ?_
      refine W.lcmp hx hb dL_law_639 ?_
      refine lv_if_eq (tgt := 645) hx hb dL_law_640 (by decide) (fun c6 => ?_) (fun c6 => ?_)
      · replace hf := xif_t hf c6
        refine lv_goto (tgt := 2488) hx hb dL_law_645 (by decide) ?_
        obtain rfl := Option.some.inj hf
        refine W.widen (k := cells + 5) (n := slots + 30) (by omega) (by omega) ?_
        exact kk _ _ _ h (lv_sub hl [2, 3, 4, 5, 6, 7] rfl)
      · replace hf := xif_f hf c6
        refine lv_iconst (v := 0) hx hb dL_law_643 (by decide) ?_
        cases hf
  · replace hf := xif_f hf c4
    refine lv_iconst (v := 0) hx hb dL_law_626 (by decide) ?_
    cases hf
set_option maxHeartbeats 4000000 in
set_option maxRecDepth 100000 in
theorem law_6 {p : Program} (l : Launch) {e : Env} {s : State} {m : MethodId} {args : Array Value} {below : List Frame} {meth : Method} {c : Code} {H : Heap} {locs : List Loc} {cells slots : Nat} {Q : State → Prop} {ls : Array Slot} {Γ : xG} {a : Nat → Nat} {M R : xM} {N b L i : Nat} {xs : Nat → Int32} {q : xM × xM} {v1 v2 v3 v4 v5 v6 : Int32}
    (hlt : l.stackTraces = false) (S9 : CallFix p m c cL_law 9 s args lw_tbl RL) (hd : zD Γ a s.heap.size) (hz : zZ s) (hX : va_X b L xs s s.heap) (hbl : b < s.heap.size) (hL : L ≤ 3584) (hi : i + 7 ≤ L) (hv1 : xs (i + 1) = v1) (hv2 : xs (i + 2) = v2) (hv3 : xs (i + 3) = v3) (hv4 : xs (i + 4) = v4) (hv5 : xs (i + 5) = v5) (hv6 : xs (i + 6) = v6) (hc : cells + 5 ≤ 603072) (hs : slots + 30 ≤ 7190634)
    (hf : zOp_6 N v1 v2 v3 v4 v5 v6 M R = some q) (h : zH Γ a s M R H locs) (hl : lv_has ls 9 [(5, .int (Int32.ofNat i)), (4, .ref (Γ.2.1 1482)), (3, .ref (Γ.2.1 1481)), (2, .ref (a 0)), (1, .ref (Γ.2.1 1470)), (0, .ref b)])
    (kk : ∀ (H : Heap) (locs : List Loc) (ls : Array Slot), zH Γ a s q.1 q.2 H locs → lv_has ls 9 [(5, .int (Int32.ofNat i)), (4, .ref (Γ.2.1 1482)), (3, .ref (Γ.2.1 1481)), (2, .ref (a 0)), (1, .ref (Γ.2.1 1470)), (0, .ref b)] → W p l e room_1 s m args below meth c H locs (cells + 5) (slots + 30) Q (F0 m 2488 ls [])) : W p l e room_1 s m args below meth c H locs cells slots Q (F0 m 648 ls []) := by
  obtain ⟨hx, hb, hml, hown, hts⟩ := id S9
  refine lv_aload_n hx hb dL_law_648 rfl (lv_at hl 4 rfl) ?_
  refine lv_aload_n hx hb dL_law_649 rfl (lv_at hl 5 rfl) ?_
  refine lv_iload hx hb dL_law_650 (lv_at hl 0 rfl) ?_
  refine lv_iconst (v := 1) hx hb dL_law_652 (by decide) ?_
  refine lv_iadd hx hb dL_law_653 ?_
  refine z_sld hx hb hX hbl hL hi h.2.2.2 (k := 1) (by decide) hv1 dL_law_654 ?_
  refine lv_aload_n hx hb dL_law_655 rfl (lv_at hl 2 rfl) ?_
  obtain ⟨r1, er1, hf⟩ := xbd_s hf
  refine z_L (Γ := Γ) (a := a) (As := [.ref (Γ.2.1 1470), .int v1, .ref (Γ.2.1 1481)]) (rest := []) S9 (m_L_pass l hlt er1) (vx_cwSW 3 hts (zgS lw_sub q354 q355 q144 q356) rfl rfl rfl hdL_pass ⟨Nat.le_of_ble_eq_true rfl, Nat.le_of_ble_eq_true rfl⟩) hd hz h rfl hl.1 rfl (Nat.le_of_ble_eq_true rfl) dL_law_656 ⟨by show cells + 2 ≤ 603072; omega, by show slots + 12 ≤ 7190634; omega⟩ (fun H locs h => ?_)
  refine lv_istore (lv' := [(6, .int r1.2), (5, .int (Int32.ofNat i)), (4, .ref (Γ.2.1 1482)), (3, .ref (Γ.2.1 1481)), (2, .ref (a 0)), (1, .ref (Γ.2.1 1470)), (0, .ref b)]) hx hb dL_law_659 hl (by decide) rfl (fun ls hl => ?_)
  refine lv_aload_n hx hb dL_law_661 rfl (lv_at hl 4 rfl) ?_
  refine lv_aload_n hx hb dL_law_662 rfl (lv_at hl 6 rfl) ?_
  refine lv_iload hx hb dL_law_663 (lv_at hl 1 rfl) ?_
  refine lv_iconst (v := 1) hx hb dL_law_665 (by decide) ?_
  refine lv_iadd hx hb dL_law_666 ?_
  refine z_sld hx hb hX hbl hL hi h.2.2.2 (k := 1) (by decide) hv1 dL_law_667 ?_
  obtain ⟨r2, er2, hf⟩ := xbd_s hf
  refine z_Ri (Γ := Γ) (a := a) (As := [.int v1]) (rest := []) S9 (m_X10_pass l (Γ := gR Γ a) er2) (cwV 1 hts (xgV lw_sub q369 q370 q371 q5 q372) rfl rfl rfl hdX10_pass ⟨Nat.le_of_ble_eq_true rfl, Nat.le_of_ble_eq_true rfl⟩) hd h rfl hl.1 rfl (Nat.le_of_ble_eq_true rfl) dL_law_668 ⟨by show cells + 2 + 0 ≤ 603072; omega, by show slots + 12 + 0 ≤ 7190634; omega⟩ (fun H locs h => ?_)
  refine lv_istore (lv' := [(7, .int r2.2), (6, .int r1.2), (5, .int (Int32.ofNat i)), (4, .ref (Γ.2.1 1482)), (3, .ref (Γ.2.1 1481)), (2, .ref (a 0)), (1, .ref (Γ.2.1 1470)), (0, .ref b)]) hx hb dL_law_671 hl (by decide) rfl (fun ls hl => ?_)
  refine lv_aload_n hx hb dL_law_673 rfl (lv_at hl 5 rfl) ?_
  obtain ⟨r3, er3, hf⟩ := xbd_s hf
  refine z_Ri (Γ := Γ) (a := a) (As := []) (rest := []) S9 (m_X10_thrown l (Γ := gR Γ a) er3) (cwV 0 hts (xgV lw_sub q225 q226 q227 q5 q228) rfl rfl rfl hdX10_thrown ⟨Nat.le_of_ble_eq_true rfl, Nat.le_of_ble_eq_true rfl⟩) hd h rfl hl.1 rfl (Nat.le_of_ble_eq_true rfl) dL_law_674 ⟨by show cells + 2 + 0 + 0 ≤ 603072; omega, by show slots + 12 + 0 + 0 ≤ 7190634; omega⟩ (fun H locs h => ?_)
  refine lv_iload hx hb dL_law_677 (lv_at hl 1 rfl) ?_
  refine lv_icmp_eq (tgt := 684) hx hb dL_law_679 (by decide) (fun c4 => ?_) (fun c4 => ?_)
  · replace hf := xif_t hf c4
    refine lv_iload hx hb dL_law_684 (lv_at hl 1 rfl) ?_
    refine lv_if_ne (tgt := 701) hx hb dL_law_686 (by decide) (fun c5 => ?_) (fun c5 => ?_)
    · replace hf := xif_f hf c5
      refine lv_goto (tgt := 2488) hx hb dL_law_701 (by decide) ?_
      obtain rfl := Option.some.inj hf
      refine W.widen (k := cells + 5) (n := slots + 30) (by omega) (by omega) ?_
      exact kk _ _ _ h (lv_sub hl [2, 3, 4, 5, 6, 7] rfl)
    · replace hf := xif_t hf c5
      refine lv_aload_n hx hb dL_law_689 rfl (lv_at hl 4 rfl) ?_
      refine lv_iconst (v := 0) hx hb dL_law_690 (by decide) ?_
      refine x_lald hx hb (zH_X hd h) kX_out (xin_in (by decide)) dL_law_691 ?_
      refine lv_iload hx hb dL_law_692 (lv_at hl 0 rfl) ?_
      refine lv_i2l (v := (r2.2).toInt64) hx hb dL_law_694 rfl ?_
      refine W.lcmp hx hb dL_law_695 ?_
      refine lv_if_eq (tgt := 701) hx hb dL_law_696 (by decide) (fun c6 => ?_) (fun c6 => ?_)
      · replace hf := xif_t hf c6
        refine lv_goto (tgt := 2488) hx hb dL_law_701 (by decide) ?_
        obtain rfl := Option.some.inj hf
        refine W.widen (k := cells + 5) (n := slots + 30) (by omega) (by omega) ?_
        exact kk _ _ _ h (lv_sub hl [2, 3, 4, 5, 6, 7] rfl)
      · replace hf := xif_f hf c6
        refine lv_iconst (v := 0) hx hb dL_law_699 (by decide) ?_
        cases hf
  · replace hf := xif_f hf c4
    refine lv_iconst (v := 0) hx hb dL_law_682 (by decide) ?_
    cases hf
set_option maxHeartbeats 4000000 in
set_option maxRecDepth 100000 in
theorem law_7 {p : Program} (l : Launch) {e : Env} {s : State} {m : MethodId} {args : Array Value} {below : List Frame} {meth : Method} {c : Code} {H : Heap} {locs : List Loc} {cells slots : Nat} {Q : State → Prop} {ls : Array Slot} {Γ : xG} {a : Nat → Nat} {M R : xM} {N b L i : Nat} {xs : Nat → Int32} {q : xM × xM} {v1 v2 v3 v4 v5 v6 : Int32}
    (hlt : l.stackTraces = false) (S9 : CallFix p m c cL_law 9 s args lw_tbl RL) (hd : zD Γ a s.heap.size) (hz : zZ s) (hX : va_X b L xs s s.heap) (hbl : b < s.heap.size) (hL : L ≤ 3584) (hi : i + 7 ≤ L) (hv1 : xs (i + 1) = v1) (hv2 : xs (i + 2) = v2) (hv3 : xs (i + 3) = v3) (hv4 : xs (i + 4) = v4) (hv5 : xs (i + 5) = v5) (hv6 : xs (i + 6) = v6) (hc : cells + 5 ≤ 603072) (hs : slots + 30 ≤ 7190634)
    (hf : zOp_7 N v1 v2 v3 v4 v5 v6 M R = some q) (h : zH Γ a s M R H locs) (hl : lv_has ls 9 [(5, .int (Int32.ofNat i)), (4, .ref (Γ.2.1 1482)), (3, .ref (Γ.2.1 1481)), (2, .ref (a 0)), (1, .ref (Γ.2.1 1470)), (0, .ref b)])
    (kk : ∀ (H : Heap) (locs : List Loc) (ls : Array Slot), zH Γ a s q.1 q.2 H locs → lv_has ls 9 [(5, .int (Int32.ofNat i)), (4, .ref (Γ.2.1 1482)), (3, .ref (Γ.2.1 1481)), (2, .ref (a 0)), (1, .ref (Γ.2.1 1470)), (0, .ref b)] → W p l e room_1 s m args below meth c H locs (cells + 5) (slots + 30) Q (F0 m 2488 ls [])) : W p l e room_1 s m args below meth c H locs cells slots Q (F0 m 704 ls []) := by
  obtain ⟨hx, hb, hml, hown, hts⟩ := id S9
  refine lv_aload_n hx hb dL_law_704 rfl (lv_at hl 4 rfl) ?_
  refine lv_aload_n hx hb dL_law_705 rfl (lv_at hl 5 rfl) ?_
  refine lv_iload hx hb dL_law_706 (lv_at hl 0 rfl) ?_
  refine lv_iconst (v := 1) hx hb dL_law_708 (by decide) ?_
  refine lv_iadd hx hb dL_law_709 ?_
  refine z_sld hx hb hX hbl hL hi h.2.2.2 (k := 1) (by decide) hv1 dL_law_710 ?_
  refine lv_aload_n hx hb dL_law_711 rfl (lv_at hl 5 rfl) ?_
  refine lv_iload hx hb dL_law_712 (lv_at hl 0 rfl) ?_
  refine lv_iconst (v := 2) hx hb dL_law_714 (by decide) ?_
  refine lv_iadd hx hb dL_law_715 ?_
  refine z_sld hx hb hX hbl hL hi h.2.2.2 (k := 2) (by decide) hv2 dL_law_716 ?_
  refine lv_aload_n hx hb dL_law_717 rfl (lv_at hl 5 rfl) ?_
  refine lv_iload hx hb dL_law_718 (lv_at hl 0 rfl) ?_
  refine lv_iconst (v := 3) hx hb dL_law_720 (by decide) ?_
  refine lv_iadd hx hb dL_law_721 ?_
  refine z_sld hx hb hX hbl hL hi h.2.2.2 (k := 3) (by decide) hv3 dL_law_722 ?_
  refine lv_aload_n hx hb dL_law_723 rfl (lv_at hl 5 rfl) ?_
  refine lv_iload hx hb dL_law_724 (lv_at hl 0 rfl) ?_
  refine lv_iconst (v := 4) hx hb dL_law_726 (by decide) ?_
  refine lv_iadd hx hb dL_law_727 ?_
  refine z_sld hx hb hX hbl hL hi h.2.2.2 (k := 4) (by decide) hv4 dL_law_728 ?_
  refine lv_aload_n hx hb dL_law_729 rfl (lv_at hl 2 rfl) ?_
  obtain ⟨r1, er1, hf⟩ := xbd_s hf
  refine z_L (Γ := Γ) (a := a) (As := [.ref (Γ.2.1 1470), .int v1, .int v2, .int v3, .int v4, .ref (Γ.2.1 1481)]) (rest := []) S9 (m_L_addBase l hlt er1) (vx_cwSW 6 hts (zgS lw_sub q377 q378 q144 q379) rfl rfl rfl hdL_addBase ⟨Nat.le_of_ble_eq_true rfl, Nat.le_of_ble_eq_true rfl⟩) hd hz h rfl hl.1 rfl (Nat.le_of_ble_eq_true rfl) dL_law_730 ⟨by show cells + 5 ≤ 603072; omega, by show slots + 30 ≤ 7190634; omega⟩ (fun H locs h => ?_)
  refine lv_istore (lv' := [(6, .int r1.2), (5, .int (Int32.ofNat i)), (4, .ref (Γ.2.1 1482)), (3, .ref (Γ.2.1 1481)), (2, .ref (a 0)), (1, .ref (Γ.2.1 1470)), (0, .ref b)]) hx hb dL_law_733 hl (by decide) rfl (fun ls hl => ?_)
  refine lv_aload_n hx hb dL_law_735 rfl (lv_at hl 4 rfl) ?_
  refine lv_aload_n hx hb dL_law_736 rfl (lv_at hl 6 rfl) ?_
  refine lv_iload hx hb dL_law_737 (lv_at hl 1 rfl) ?_
  refine lv_iconst (v := 1) hx hb dL_law_739 (by decide) ?_
  refine lv_iadd hx hb dL_law_740 ?_
  refine z_sld hx hb hX hbl hL hi h.2.2.2 (k := 1) (by decide) hv1 dL_law_741 ?_
  refine lv_aload_n hx hb dL_law_742 rfl (lv_at hl 6 rfl) ?_
  refine lv_iload hx hb dL_law_743 (lv_at hl 1 rfl) ?_
  refine lv_iconst (v := 2) hx hb dL_law_745 (by decide) ?_
  refine lv_iadd hx hb dL_law_746 ?_
  refine z_sld hx hb hX hbl hL hi h.2.2.2 (k := 2) (by decide) hv2 dL_law_747 ?_
  refine lv_aload_n hx hb dL_law_748 rfl (lv_at hl 6 rfl) ?_
  refine lv_iload hx hb dL_law_749 (lv_at hl 1 rfl) ?_
  refine lv_iconst (v := 3) hx hb dL_law_751 (by decide) ?_
  refine lv_iadd hx hb dL_law_752 ?_
  refine z_sld hx hb hX hbl hL hi h.2.2.2 (k := 3) (by decide) hv3 dL_law_753 ?_
  refine lv_aload_n hx hb dL_law_754 rfl (lv_at hl 6 rfl) ?_
  refine lv_iload hx hb dL_law_755 (lv_at hl 1 rfl) ?_
  refine lv_iconst (v := 4) hx hb dL_law_757 (by decide) ?_
  refine lv_iadd hx hb dL_law_758 ?_
  refine z_sld hx hb hX hbl hL hi h.2.2.2 (k := 4) (by decide) hv4 dL_law_759 ?_
  obtain ⟨r2, er2, hf⟩ := xbd_s hf
  refine z_Ri (Γ := Γ) (a := a) (As := [.int v1, .int v2, .int v3, .int v4]) (rest := []) S9 (m_X10_addBase l (Γ := gR Γ a) er2) (cwV 4 hts (xgV lw_sub q391 q392 q393 q5 q394) rfl rfl rfl hdX10_addBase ⟨Nat.le_of_ble_eq_true rfl, Nat.le_of_ble_eq_true rfl⟩) hd h rfl hl.1 rfl (Nat.le_of_ble_eq_true rfl) dL_law_760 ⟨by show cells + 5 + 0 ≤ 603072; omega, by show slots + 30 + 0 ≤ 7190634; omega⟩ (fun H locs h => ?_)
  refine lv_istore (lv' := [(7, .int r2.2), (6, .int r1.2), (5, .int (Int32.ofNat i)), (4, .ref (Γ.2.1 1482)), (3, .ref (Γ.2.1 1481)), (2, .ref (a 0)), (1, .ref (Γ.2.1 1470)), (0, .ref b)]) hx hb dL_law_763 hl (by decide) rfl (fun ls hl => ?_)
  refine lv_aload_n hx hb dL_law_765 rfl (lv_at hl 5 rfl) ?_
  obtain ⟨r3, er3, hf⟩ := xbd_s hf
  refine z_Ri (Γ := Γ) (a := a) (As := []) (rest := []) S9 (m_X10_thrown l (Γ := gR Γ a) er3) (cwV 0 hts (xgV lw_sub q225 q226 q227 q5 q228) rfl rfl rfl hdX10_thrown ⟨Nat.le_of_ble_eq_true rfl, Nat.le_of_ble_eq_true rfl⟩) hd h rfl hl.1 rfl (Nat.le_of_ble_eq_true rfl) dL_law_766 ⟨by show cells + 5 + 0 + 0 ≤ 603072; omega, by show slots + 30 + 0 + 0 ≤ 7190634; omega⟩ (fun H locs h => ?_)
  refine lv_iload hx hb dL_law_769 (lv_at hl 1 rfl) ?_
  refine lv_icmp_eq (tgt := 776) hx hb dL_law_771 (by decide) (fun c4 => ?_) (fun c4 => ?_)
  · replace hf := xif_t hf c4
    refine lv_iload hx hb dL_law_776 (lv_at hl 1 rfl) ?_
    refine lv_if_ne (tgt := 793) hx hb dL_law_778 (by decide) (fun c5 => ?_) (fun c5 => ?_)
    · replace hf := xif_f hf c5
      refine lv_goto (tgt := 2488) hx hb dL_law_793 (by decide) ?_
      obtain rfl := Option.some.inj hf
      refine W.widen (k := cells + 5) (n := slots + 30) (by omega) (by omega) ?_
      exact kk _ _ _ h (lv_sub hl [2, 3, 4, 5, 6, 7] rfl)
    · replace hf := xif_t hf c5
      refine lv_aload_n hx hb dL_law_781 rfl (lv_at hl 4 rfl) ?_
      refine lv_iconst (v := 0) hx hb dL_law_782 (by decide) ?_
      refine x_lald hx hb (zH_X hd h) kX_out (xin_in (by decide)) dL_law_783 ?_
      refine lv_iload hx hb dL_law_784 (lv_at hl 0 rfl) ?_
      refine lv_i2l (v := (r2.2).toInt64) hx hb dL_law_786 rfl ?_
      refine W.lcmp hx hb dL_law_787 ?_
      refine lv_if_eq (tgt := 793) hx hb dL_law_788 (by decide) (fun c6 => ?_) (fun c6 => ?_)
      · replace hf := xif_t hf c6
        refine lv_goto (tgt := 2488) hx hb dL_law_793 (by decide) ?_
        obtain rfl := Option.some.inj hf
        refine W.widen (k := cells + 5) (n := slots + 30) (by omega) (by omega) ?_
        exact kk _ _ _ h (lv_sub hl [2, 3, 4, 5, 6, 7] rfl)
      · replace hf := xif_f hf c6
        refine lv_iconst (v := 0) hx hb dL_law_791 (by decide) ?_
        cases hf
  · replace hf := xif_f hf c4
    refine lv_iconst (v := 0) hx hb dL_law_774 (by decide) ?_
    cases hf
set_option maxHeartbeats 4000000 in
set_option maxRecDepth 100000 in
theorem law_8 {p : Program} (l : Launch) {e : Env} {s : State} {m : MethodId} {args : Array Value} {below : List Frame} {meth : Method} {c : Code} {H : Heap} {locs : List Loc} {cells slots : Nat} {Q : State → Prop} {ls : Array Slot} {Γ : xG} {a : Nat → Nat} {M R : xM} {N b L i : Nat} {xs : Nat → Int32} {q : xM × xM} {v1 v2 v3 v4 v5 v6 : Int32}
    (hlt : l.stackTraces = false) (S9 : CallFix p m c cL_law 9 s args lw_tbl RL) (hd : zD Γ a s.heap.size) (hz : zZ s) (hX : va_X b L xs s s.heap) (hbl : b < s.heap.size) (hL : L ≤ 3584) (hi : i + 7 ≤ L) (hv1 : xs (i + 1) = v1) (hv2 : xs (i + 2) = v2) (hv3 : xs (i + 3) = v3) (hv4 : xs (i + 4) = v4) (hv5 : xs (i + 5) = v5) (hv6 : xs (i + 6) = v6) (hc : cells + 5 ≤ 603072) (hs : slots + 30 ≤ 7190634)
    (hf : zOp_8 N v1 v2 v3 v4 v5 v6 M R = some q) (h : zH Γ a s M R H locs) (hl : lv_has ls 9 [(5, .int (Int32.ofNat i)), (4, .ref (Γ.2.1 1482)), (3, .ref (Γ.2.1 1481)), (2, .ref (a 0)), (1, .ref (Γ.2.1 1470)), (0, .ref b)])
    (kk : ∀ (H : Heap) (locs : List Loc) (ls : Array Slot), zH Γ a s q.1 q.2 H locs → lv_has ls 9 [(5, .int (Int32.ofNat i)), (4, .ref (Γ.2.1 1482)), (3, .ref (Γ.2.1 1481)), (2, .ref (a 0)), (1, .ref (Γ.2.1 1470)), (0, .ref b)] → W p l e room_1 s m args below meth c H locs (cells + 5) (slots + 30) Q (F0 m 2488 ls [])) : W p l e room_1 s m args below meth c H locs cells slots Q (F0 m 796 ls []) := by
  obtain ⟨hx, hb, hml, hown, hts⟩ := id S9
  refine lv_aload_n hx hb dL_law_796 rfl (lv_at hl 4 rfl) ?_
  refine lv_aload_n hx hb dL_law_797 rfl (lv_at hl 5 rfl) ?_
  refine lv_iload hx hb dL_law_798 (lv_at hl 0 rfl) ?_
  refine lv_iconst (v := 1) hx hb dL_law_800 (by decide) ?_
  refine lv_iadd hx hb dL_law_801 ?_
  refine z_sld hx hb hX hbl hL hi h.2.2.2 (k := 1) (by decide) hv1 dL_law_802 ?_
  refine lv_aload_n hx hb dL_law_803 rfl (lv_at hl 5 rfl) ?_
  refine lv_iload hx hb dL_law_804 (lv_at hl 0 rfl) ?_
  refine lv_iconst (v := 2) hx hb dL_law_806 (by decide) ?_
  refine lv_iadd hx hb dL_law_807 ?_
  refine z_sld hx hb hX hbl hL hi h.2.2.2 (k := 2) (by decide) hv2 dL_law_808 ?_
  refine lv_aload_n hx hb dL_law_809 rfl (lv_at hl 2 rfl) ?_
  obtain ⟨r1, er1, hf⟩ := xbd_s hf
  refine z_L (Γ := Γ) (a := a) (As := [.ref (Γ.2.1 1470), .int v1, .int v2, .ref (Γ.2.1 1481)]) (rest := []) S9 (m_L_setStock l hlt er1) (vx_cwSW 4 hts (zgS lw_sub q395 q396 q144 q397) rfl rfl rfl hdL_setStock ⟨Nat.le_of_ble_eq_true rfl, Nat.le_of_ble_eq_true rfl⟩) hd hz h rfl hl.1 rfl (Nat.le_of_ble_eq_true rfl) dL_law_810 ⟨by show cells + 2 ≤ 603072; omega, by show slots + 12 ≤ 7190634; omega⟩ (fun H locs h => ?_)
  refine lv_istore (lv' := [(6, .int r1.2), (5, .int (Int32.ofNat i)), (4, .ref (Γ.2.1 1482)), (3, .ref (Γ.2.1 1481)), (2, .ref (a 0)), (1, .ref (Γ.2.1 1470)), (0, .ref b)]) hx hb dL_law_813 hl (by decide) rfl (fun ls hl => ?_)
  refine lv_aload_n hx hb dL_law_815 rfl (lv_at hl 4 rfl) ?_
  refine lv_aload_n hx hb dL_law_816 rfl (lv_at hl 6 rfl) ?_
  refine lv_iload hx hb dL_law_817 (lv_at hl 1 rfl) ?_
  refine lv_iconst (v := 1) hx hb dL_law_819 (by decide) ?_
  refine lv_iadd hx hb dL_law_820 ?_
  refine z_sld hx hb hX hbl hL hi h.2.2.2 (k := 1) (by decide) hv1 dL_law_821 ?_
  refine lv_aload_n hx hb dL_law_822 rfl (lv_at hl 6 rfl) ?_
  refine lv_iload hx hb dL_law_823 (lv_at hl 1 rfl) ?_
  refine lv_iconst (v := 2) hx hb dL_law_825 (by decide) ?_
  refine lv_iadd hx hb dL_law_826 ?_
  refine z_sld hx hb hX hbl hL hi h.2.2.2 (k := 2) (by decide) hv2 dL_law_827 ?_
  obtain ⟨r2, er2, hf⟩ := xbd_s hf
  refine z_Ri (Γ := Γ) (a := a) (As := [.int v1, .int v2]) (rest := []) S9 (m_X10_setStock l (Γ := gR Γ a) er2) (cwV 2 hts (xgV lw_sub q408 q409 q410 q5 q411) rfl rfl rfl hdX10_setStock ⟨Nat.le_of_ble_eq_true rfl, Nat.le_of_ble_eq_true rfl⟩) hd h rfl hl.1 rfl (Nat.le_of_ble_eq_true rfl) dL_law_828 ⟨by show cells + 2 + 0 ≤ 603072; omega, by show slots + 12 + 0 ≤ 7190634; omega⟩ (fun H locs h => ?_)
  refine lv_istore (lv' := [(7, .int r2.2), (6, .int r1.2), (5, .int (Int32.ofNat i)), (4, .ref (Γ.2.1 1482)), (3, .ref (Γ.2.1 1481)), (2, .ref (a 0)), (1, .ref (Γ.2.1 1470)), (0, .ref b)]) hx hb dL_law_831 hl (by decide) rfl (fun ls hl => ?_)
  refine lv_aload_n hx hb dL_law_833 rfl (lv_at hl 5 rfl) ?_
  obtain ⟨r3, er3, hf⟩ := xbd_s hf
  refine z_Ri (Γ := Γ) (a := a) (As := []) (rest := []) S9 (m_X10_thrown l (Γ := gR Γ a) er3) (cwV 0 hts (xgV lw_sub q225 q226 q227 q5 q228) rfl rfl rfl hdX10_thrown ⟨Nat.le_of_ble_eq_true rfl, Nat.le_of_ble_eq_true rfl⟩) hd h rfl hl.1 rfl (Nat.le_of_ble_eq_true rfl) dL_law_834 ⟨by show cells + 2 + 0 + 0 ≤ 603072; omega, by show slots + 12 + 0 + 0 ≤ 7190634; omega⟩ (fun H locs h => ?_)
  refine lv_iload hx hb dL_law_837 (lv_at hl 1 rfl) ?_
  refine lv_icmp_eq (tgt := 844) hx hb dL_law_839 (by decide) (fun c4 => ?_) (fun c4 => ?_)
  · replace hf := xif_t hf c4
    refine lv_iload hx hb dL_law_844 (lv_at hl 1 rfl) ?_
    refine lv_if_ne (tgt := 861) hx hb dL_law_846 (by decide) (fun c5 => ?_) (fun c5 => ?_)
    · replace hf := xif_f hf c5
      refine lv_goto (tgt := 2488) hx hb dL_law_861 (by decide) ?_
      obtain rfl := Option.some.inj hf
      refine W.widen (k := cells + 5) (n := slots + 30) (by omega) (by omega) ?_
      exact kk _ _ _ h (lv_sub hl [2, 3, 4, 5, 6, 7] rfl)
    · replace hf := xif_t hf c5
      refine lv_aload_n hx hb dL_law_849 rfl (lv_at hl 4 rfl) ?_
      refine lv_iconst (v := 0) hx hb dL_law_850 (by decide) ?_
      refine x_lald hx hb (zH_X hd h) kX_out (xin_in (by decide)) dL_law_851 ?_
      refine lv_iload hx hb dL_law_852 (lv_at hl 0 rfl) ?_
      refine lv_i2l (v := (r2.2).toInt64) hx hb dL_law_854 rfl ?_
      refine W.lcmp hx hb dL_law_855 ?_
      refine lv_if_eq (tgt := 861) hx hb dL_law_856 (by decide) (fun c6 => ?_) (fun c6 => ?_)
      · replace hf := xif_t hf c6
        refine lv_goto (tgt := 2488) hx hb dL_law_861 (by decide) ?_
        obtain rfl := Option.some.inj hf
        refine W.widen (k := cells + 5) (n := slots + 30) (by omega) (by omega) ?_
        exact kk _ _ _ h (lv_sub hl [2, 3, 4, 5, 6, 7] rfl)
      · replace hf := xif_f hf c6
        refine lv_iconst (v := 0) hx hb dL_law_859 (by decide) ?_
        cases hf
  · replace hf := xif_f hf c4
    refine lv_iconst (v := 0) hx hb dL_law_842 (by decide) ?_
    cases hf
set_option maxHeartbeats 4000000 in
set_option maxRecDepth 100000 in
theorem law_9 {p : Program} (l : Launch) {e : Env} {s : State} {m : MethodId} {args : Array Value} {below : List Frame} {meth : Method} {c : Code} {H : Heap} {locs : List Loc} {cells slots : Nat} {Q : State → Prop} {ls : Array Slot} {Γ : xG} {a : Nat → Nat} {M R : xM} {N b L i : Nat} {xs : Nat → Int32} {q : xM × xM} {v1 v2 v3 v4 v5 v6 : Int32}
    (hlt : l.stackTraces = false) (S9 : CallFix p m c cL_law 9 s args lw_tbl RL) (hd : zD Γ a s.heap.size) (hz : zZ s) (hX : va_X b L xs s s.heap) (hbl : b < s.heap.size) (hL : L ≤ 3584) (hi : i + 7 ≤ L) (hv1 : xs (i + 1) = v1) (hv2 : xs (i + 2) = v2) (hv3 : xs (i + 3) = v3) (hv4 : xs (i + 4) = v4) (hv5 : xs (i + 5) = v5) (hv6 : xs (i + 6) = v6) (hc : cells + 5 ≤ 603072) (hs : slots + 30 ≤ 7190634)
    (hf : zOp_9 N v1 v2 v3 v4 v5 v6 M R = some q) (h : zH Γ a s M R H locs) (hl : lv_has ls 9 [(5, .int (Int32.ofNat i)), (4, .ref (Γ.2.1 1482)), (3, .ref (Γ.2.1 1481)), (2, .ref (a 0)), (1, .ref (Γ.2.1 1470)), (0, .ref b)])
    (kk : ∀ (H : Heap) (locs : List Loc) (ls : Array Slot), zH Γ a s q.1 q.2 H locs → lv_has ls 9 [(5, .int (Int32.ofNat i)), (4, .ref (Γ.2.1 1482)), (3, .ref (Γ.2.1 1481)), (2, .ref (a 0)), (1, .ref (Γ.2.1 1470)), (0, .ref b)] → W p l e room_1 s m args below meth c H locs (cells + 5) (slots + 30) Q (F0 m 2488 ls [])) : W p l e room_1 s m args below meth c H locs cells slots Q (F0 m 864 ls []) := by
  obtain ⟨hx, hb, hml, hown, hts⟩ := id S9
  refine lv_aload_n hx hb dL_law_864 rfl (lv_at hl 4 rfl) ?_
  refine lv_aload_n hx hb dL_law_865 rfl (lv_at hl 5 rfl) ?_
  refine lv_iload hx hb dL_law_866 (lv_at hl 0 rfl) ?_
  refine lv_iconst (v := 1) hx hb dL_law_868 (by decide) ?_
  refine lv_iadd hx hb dL_law_869 ?_
  refine z_sld hx hb hX hbl hL hi h.2.2.2 (k := 1) (by decide) hv1 dL_law_870 ?_
  refine lv_aload_n hx hb dL_law_871 rfl (lv_at hl 5 rfl) ?_
  refine lv_iload hx hb dL_law_872 (lv_at hl 0 rfl) ?_
  refine lv_iconst (v := 2) hx hb dL_law_874 (by decide) ?_
  refine lv_iadd hx hb dL_law_875 ?_
  refine z_sld hx hb hX hbl hL hi h.2.2.2 (k := 2) (by decide) hv2 dL_law_876 ?_
  refine lv_aload_n hx hb dL_law_877 rfl (lv_at hl 2 rfl) ?_
  obtain ⟨r1, er1, hf⟩ := xbd_s hf
  refine z_L (Γ := Γ) (a := a) (As := [.ref (Γ.2.1 1470), .int v1, .int v2, .ref (Γ.2.1 1481)]) (rest := []) S9 (m_L_base l hlt er1) (vx_cwSW 4 hts (zgS lw_sub q416 q417 q144 q418) rfl rfl rfl hdL_base ⟨Nat.le_of_ble_eq_true rfl, Nat.le_of_ble_eq_true rfl⟩) hd hz h rfl hl.1 rfl (Nat.le_of_ble_eq_true rfl) dL_law_878 ⟨by show cells + 2 ≤ 603072; omega, by show slots + 12 ≤ 7190634; omega⟩ (fun H locs h => ?_)
  refine lv_istore (lv' := [(6, .int r1.2), (5, .int (Int32.ofNat i)), (4, .ref (Γ.2.1 1482)), (3, .ref (Γ.2.1 1481)), (2, .ref (a 0)), (1, .ref (Γ.2.1 1470)), (0, .ref b)]) hx hb dL_law_881 hl (by decide) rfl (fun ls hl => ?_)
  refine lv_aload_n hx hb dL_law_883 rfl (lv_at hl 4 rfl) ?_
  refine lv_aload_n hx hb dL_law_884 rfl (lv_at hl 6 rfl) ?_
  refine lv_iload hx hb dL_law_885 (lv_at hl 1 rfl) ?_
  refine lv_iconst (v := 1) hx hb dL_law_887 (by decide) ?_
  refine lv_iadd hx hb dL_law_888 ?_
  refine z_sld hx hb hX hbl hL hi h.2.2.2 (k := 1) (by decide) hv1 dL_law_889 ?_
  refine lv_aload_n hx hb dL_law_890 rfl (lv_at hl 6 rfl) ?_
  refine lv_iload hx hb dL_law_891 (lv_at hl 1 rfl) ?_
  refine lv_iconst (v := 2) hx hb dL_law_893 (by decide) ?_
  refine lv_iadd hx hb dL_law_894 ?_
  refine z_sld hx hb hX hbl hL hi h.2.2.2 (k := 2) (by decide) hv2 dL_law_895 ?_
  obtain ⟨r2, er2, hf⟩ := xbd_s hf
  refine z_Ri (Γ := Γ) (a := a) (As := [.int v1, .int v2]) (rest := []) S9 (m_X10_base l (Γ := gR Γ a) er2) (cwV 2 hts (xgV lw_sub q433 q434 q435 q5 q436) rfl rfl rfl hdX10_base ⟨Nat.le_of_ble_eq_true rfl, Nat.le_of_ble_eq_true rfl⟩) hd h rfl hl.1 rfl (Nat.le_of_ble_eq_true rfl) dL_law_896 ⟨by show cells + 2 + 0 ≤ 603072; omega, by show slots + 12 + 0 ≤ 7190634; omega⟩ (fun H locs h => ?_)
  refine lv_istore (lv' := [(7, .int r2.2), (6, .int r1.2), (5, .int (Int32.ofNat i)), (4, .ref (Γ.2.1 1482)), (3, .ref (Γ.2.1 1481)), (2, .ref (a 0)), (1, .ref (Γ.2.1 1470)), (0, .ref b)]) hx hb dL_law_899 hl (by decide) rfl (fun ls hl => ?_)
  refine lv_aload_n hx hb dL_law_901 rfl (lv_at hl 5 rfl) ?_
  obtain ⟨r3, er3, hf⟩ := xbd_s hf
  refine z_Ri (Γ := Γ) (a := a) (As := []) (rest := []) S9 (m_X10_thrown l (Γ := gR Γ a) er3) (cwV 0 hts (xgV lw_sub q225 q226 q227 q5 q228) rfl rfl rfl hdX10_thrown ⟨Nat.le_of_ble_eq_true rfl, Nat.le_of_ble_eq_true rfl⟩) hd h rfl hl.1 rfl (Nat.le_of_ble_eq_true rfl) dL_law_902 ⟨by show cells + 2 + 0 + 0 ≤ 603072; omega, by show slots + 12 + 0 + 0 ≤ 7190634; omega⟩ (fun H locs h => ?_)
  refine lv_iload hx hb dL_law_905 (lv_at hl 1 rfl) ?_
  refine lv_icmp_eq (tgt := 912) hx hb dL_law_907 (by decide) (fun c4 => ?_) (fun c4 => ?_)
  · replace hf := xif_t hf c4
    refine lv_iload hx hb dL_law_912 (lv_at hl 1 rfl) ?_
    refine lv_if_ne (tgt := 929) hx hb dL_law_914 (by decide) (fun c5 => ?_) (fun c5 => ?_)
    · replace hf := xif_f hf c5
      refine lv_goto (tgt := 2488) hx hb dL_law_929 (by decide) ?_
      obtain rfl := Option.some.inj hf
      refine W.widen (k := cells + 5) (n := slots + 30) (by omega) (by omega) ?_
      exact kk _ _ _ h (lv_sub hl [2, 3, 4, 5, 6, 7] rfl)
    · replace hf := xif_t hf c5
      refine lv_aload_n hx hb dL_law_917 rfl (lv_at hl 4 rfl) ?_
      refine lv_iconst (v := 0) hx hb dL_law_918 (by decide) ?_
      refine x_lald hx hb (zH_X hd h) kX_out (xin_in (by decide)) dL_law_919 ?_
      refine lv_iload hx hb dL_law_920 (lv_at hl 0 rfl) ?_
      refine lv_i2l (v := (r2.2).toInt64) hx hb dL_law_922 rfl ?_
      refine W.lcmp hx hb dL_law_923 ?_
      refine lv_if_eq (tgt := 929) hx hb dL_law_924 (by decide) (fun c6 => ?_) (fun c6 => ?_)
      · replace hf := xif_t hf c6
        refine lv_goto (tgt := 2488) hx hb dL_law_929 (by decide) ?_
        obtain rfl := Option.some.inj hf
        refine W.widen (k := cells + 5) (n := slots + 30) (by omega) (by omega) ?_
        exact kk _ _ _ h (lv_sub hl [2, 3, 4, 5, 6, 7] rfl)
      · replace hf := xif_f hf c6
        refine lv_iconst (v := 0) hx hb dL_law_927 (by decide) ?_
        cases hf
  · replace hf := xif_f hf c4
    refine lv_iconst (v := 0) hx hb dL_law_910 (by decide) ?_
    cases hf
set_option maxHeartbeats 4000000 in
set_option maxRecDepth 100000 in
theorem law_10 {p : Program} (l : Launch) {e : Env} {s : State} {m : MethodId} {args : Array Value} {below : List Frame} {meth : Method} {c : Code} {H : Heap} {locs : List Loc} {cells slots : Nat} {Q : State → Prop} {ls : Array Slot} {Γ : xG} {a : Nat → Nat} {M R : xM} {N b L i : Nat} {xs : Nat → Int32} {q : xM × xM} {v1 v2 v3 v4 v5 v6 : Int32}
    (hlt : l.stackTraces = false) (S9 : CallFix p m c cL_law 9 s args lw_tbl RL) (hd : zD Γ a s.heap.size) (hz : zZ s) (hX : va_X b L xs s s.heap) (hbl : b < s.heap.size) (hL : L ≤ 3584) (hi : i + 7 ≤ L) (hv1 : xs (i + 1) = v1) (hv2 : xs (i + 2) = v2) (hv3 : xs (i + 3) = v3) (hv4 : xs (i + 4) = v4) (hv5 : xs (i + 5) = v5) (hv6 : xs (i + 6) = v6) (hc : cells + 5 ≤ 603072) (hs : slots + 30 ≤ 7190634)
    (hf : zOp_10 N v1 v2 v3 v4 v5 v6 M R = some q) (h : zH Γ a s M R H locs) (hl : lv_has ls 9 [(5, .int (Int32.ofNat i)), (4, .ref (Γ.2.1 1482)), (3, .ref (Γ.2.1 1481)), (2, .ref (a 0)), (1, .ref (Γ.2.1 1470)), (0, .ref b)])
    (kk : ∀ (H : Heap) (locs : List Loc) (ls : Array Slot), zH Γ a s q.1 q.2 H locs → lv_has ls 9 [(5, .int (Int32.ofNat i)), (4, .ref (Γ.2.1 1482)), (3, .ref (Γ.2.1 1481)), (2, .ref (a 0)), (1, .ref (Γ.2.1 1470)), (0, .ref b)] → W p l e room_1 s m args below meth c H locs (cells + 5) (slots + 30) Q (F0 m 2488 ls [])) : W p l e room_1 s m args below meth c H locs cells slots Q (F0 m 932 ls []) := by
  obtain ⟨hx, hb, hml, hown, hts⟩ := id S9
  refine lv_aload_n hx hb dL_law_932 rfl (lv_at hl 4 rfl) ?_
  refine lv_aload_n hx hb dL_law_933 rfl (lv_at hl 5 rfl) ?_
  refine lv_iload hx hb dL_law_934 (lv_at hl 0 rfl) ?_
  refine lv_iconst (v := 1) hx hb dL_law_936 (by decide) ?_
  refine lv_iadd hx hb dL_law_937 ?_
  refine z_sld hx hb hX hbl hL hi h.2.2.2 (k := 1) (by decide) hv1 dL_law_938 ?_
  refine lv_i2c (v := ((v1).toUInt32 % 65536).toInt32) hx hb dL_law_939 rfl ?_
  obtain ⟨r1, er1, hf⟩ := xbd_s hf
  refine z_L (Γ := Γ) (a := a) (As := [.ref (Γ.2.1 1470), .int ((v1).toUInt32 % 65536).toInt32]) (rest := []) S9 (m_L_append l hlt er1) (vx_cwSW 2 hts (zgS lw_sub q437 q438 q144 q439) rfl rfl rfl hdL_append ⟨Nat.le_of_ble_eq_true rfl, Nat.le_of_ble_eq_true rfl⟩) hd hz h rfl hl.1 rfl (Nat.le_of_ble_eq_true rfl) dL_law_940 ⟨by show cells + 1 ≤ 603072; omega, by show slots + 6 ≤ 7190634; omega⟩ (fun H locs h => ?_)
  refine lv_istore (lv' := [(6, .int r1.2), (5, .int (Int32.ofNat i)), (4, .ref (Γ.2.1 1482)), (3, .ref (Γ.2.1 1481)), (2, .ref (a 0)), (1, .ref (Γ.2.1 1470)), (0, .ref b)]) hx hb dL_law_943 hl (by decide) rfl (fun ls hl => ?_)
  refine lv_aload_n hx hb dL_law_945 rfl (lv_at hl 4 rfl) ?_
  refine lv_aload_n hx hb dL_law_946 rfl (lv_at hl 6 rfl) ?_
  refine lv_iload hx hb dL_law_947 (lv_at hl 1 rfl) ?_
  refine lv_iconst (v := 1) hx hb dL_law_949 (by decide) ?_
  refine lv_iadd hx hb dL_law_950 ?_
  refine z_sld hx hb hX hbl hL hi h.2.2.2 (k := 1) (by decide) hv1 dL_law_951 ?_
  refine lv_i2c (v := ((v1).toUInt32 % 65536).toInt32) hx hb dL_law_952 rfl ?_
  obtain ⟨r2, er2, hf⟩ := xbd_s hf
  refine z_Rv (Γ := Γ) (a := a) (As := [.int ((v1).toUInt32 % 65536).toInt32]) (rest := []) S9 (m_X10_append l (Γ := gR Γ a) er2) (cwV 1 hts (xgV lw_sub q449 q450 q451 q5 q452) rfl rfl rfl hdX10_append ⟨Nat.le_of_ble_eq_true rfl, Nat.le_of_ble_eq_true rfl⟩) hd h rfl hl.1 rfl (Nat.le_of_ble_eq_true rfl) dL_law_953 ⟨by show cells + 1 + 0 ≤ 603072; omega, by show slots + 6 + 0 ≤ 7190634; omega⟩ (fun H locs h => ?_)
  refine lv_aload_n hx hb dL_law_956 rfl (lv_at hl 4 rfl) ?_
  obtain ⟨r3, er3, hf⟩ := xbd_s hf
  refine z_Ri (Γ := Γ) (a := a) (As := []) (rest := []) S9 (m_X10_thrown l (Γ := gR Γ a) er3) (cwV 0 hts (xgV lw_sub q225 q226 q227 q5 q228) rfl rfl rfl hdX10_thrown ⟨Nat.le_of_ble_eq_true rfl, Nat.le_of_ble_eq_true rfl⟩) hd h rfl hl.1 rfl (Nat.le_of_ble_eq_true rfl) dL_law_957 ⟨by show cells + 1 + 0 + 0 ≤ 603072; omega, by show slots + 6 + 0 + 0 ≤ 7190634; omega⟩ (fun H locs h => ?_)
  refine lv_iload hx hb dL_law_960 (lv_at hl 0 rfl) ?_
  refine lv_icmp_eq (tgt := 967) hx hb dL_law_962 (by decide) (fun c4 => ?_) (fun c4 => ?_)
  · replace hf := xif_t hf c4
    refine lv_goto (tgt := 2488) hx hb dL_law_967 (by decide) ?_
    obtain rfl := Option.some.inj hf
    refine W.widen (k := cells + 5) (n := slots + 30) (by omega) (by omega) ?_
    exact kk _ _ _ h (lv_sub hl [1, 2, 3, 4, 5, 6] rfl)
  · replace hf := xif_f hf c4
    refine lv_iconst (v := 0) hx hb dL_law_965 (by decide) ?_
    cases hf
set_option maxHeartbeats 4000000 in
set_option maxRecDepth 100000 in
theorem law_11 {p : Program} (l : Launch) {e : Env} {s : State} {m : MethodId} {args : Array Value} {below : List Frame} {meth : Method} {c : Code} {H : Heap} {locs : List Loc} {cells slots : Nat} {Q : State → Prop} {ls : Array Slot} {Γ : xG} {a : Nat → Nat} {M R : xM} {N b L i : Nat} {xs : Nat → Int32} {q : xM × xM} {v1 v2 v3 v4 v5 v6 : Int32}
    (hlt : l.stackTraces = false) (S9 : CallFix p m c cL_law 9 s args lw_tbl RL) (hd : zD Γ a s.heap.size) (hz : zZ s) (hX : va_X b L xs s s.heap) (hbl : b < s.heap.size) (hL : L ≤ 3584) (hi : i + 7 ≤ L) (hv1 : xs (i + 1) = v1) (hv2 : xs (i + 2) = v2) (hv3 : xs (i + 3) = v3) (hv4 : xs (i + 4) = v4) (hv5 : xs (i + 5) = v5) (hv6 : xs (i + 6) = v6) (hc : cells + 5 ≤ 603072) (hs : slots + 30 ≤ 7190634)
    (hf : zOp_11 N v1 v2 v3 v4 v5 v6 M R = some q) (h : zH Γ a s M R H locs) (hl : lv_has ls 9 [(5, .int (Int32.ofNat i)), (4, .ref (Γ.2.1 1482)), (3, .ref (Γ.2.1 1481)), (2, .ref (a 0)), (1, .ref (Γ.2.1 1470)), (0, .ref b)])
    (kk : ∀ (H : Heap) (locs : List Loc) (ls : Array Slot), zH Γ a s q.1 q.2 H locs → lv_has ls 9 [(5, .int (Int32.ofNat i)), (4, .ref (Γ.2.1 1482)), (3, .ref (Γ.2.1 1481)), (2, .ref (a 0)), (1, .ref (Γ.2.1 1470)), (0, .ref b)] → W p l e room_1 s m args below meth c H locs (cells + 5) (slots + 30) Q (F0 m 2488 ls [])) : W p l e room_1 s m args below meth c H locs cells slots Q (F0 m 970 ls []) := by
  obtain ⟨hx, hb, hml, hown, hts⟩ := id S9
  refine lv_aload_n hx hb dL_law_970 rfl (lv_at hl 4 rfl) ?_
  refine lv_aload_n hx hb dL_law_971 rfl (lv_at hl 2 rfl) ?_
  obtain ⟨r1, er1, hf⟩ := xbd_s hf
  refine z_L (Γ := Γ) (a := a) (As := [.ref (Γ.2.1 1470), .ref (Γ.2.1 1481)]) (rest := []) S9 (m_L_readFormula l hlt er1) (vx_cwSW 2 hts (zgS lw_sub q454 q455 q144 q456) rfl rfl rfl hdL_readFormula ⟨Nat.le_of_ble_eq_true rfl, Nat.le_of_ble_eq_true rfl⟩) hd hz h rfl hl.1 rfl (Nat.le_of_ble_eq_true rfl) dL_law_972 ⟨by show cells + 1 ≤ 603072; omega, by show slots + 6 ≤ 7190634; omega⟩ (fun H locs h => ?_)
  refine lv_istore (lv' := [(6, .int r1.2), (5, .int (Int32.ofNat i)), (4, .ref (Γ.2.1 1482)), (3, .ref (Γ.2.1 1481)), (2, .ref (a 0)), (1, .ref (Γ.2.1 1470)), (0, .ref b)]) hx hb dL_law_975 hl (by decide) rfl (fun ls hl => ?_)
  refine lv_aload_n hx hb dL_law_977 rfl (lv_at hl 4 rfl) ?_
  obtain ⟨r2, er2, hf⟩ := xbd_s hf
  refine z_Ri (Γ := Γ) (a := a) (As := []) (rest := []) S9 (m_X10_readFormula l (Γ := gR Γ a) er2) (cwV 0 hts (xgV lw_sub q516 q517 q518 q5 q519) rfl rfl rfl hdX10_readFormula ⟨Nat.le_of_ble_eq_true rfl, Nat.le_of_ble_eq_true rfl⟩) hd h rfl hl.1 rfl (Nat.le_of_ble_eq_true rfl) dL_law_978 ⟨by show cells + 1 + 0 ≤ 603072; omega, by show slots + 6 + 0 ≤ 7190634; omega⟩ (fun H locs h => ?_)
  refine lv_istore (lv' := [(7, .int r2.2), (6, .int r1.2), (5, .int (Int32.ofNat i)), (4, .ref (Γ.2.1 1482)), (3, .ref (Γ.2.1 1481)), (2, .ref (a 0)), (1, .ref (Γ.2.1 1470)), (0, .ref b)]) hx hb dL_law_981 hl (by decide) rfl (fun ls hl => ?_)
  refine lv_aload_n hx hb dL_law_983 rfl (lv_at hl 5 rfl) ?_
  obtain ⟨r3, er3, hf⟩ := xbd_s hf
  refine z_Ri (Γ := Γ) (a := a) (As := []) (rest := []) S9 (m_X10_thrown l (Γ := gR Γ a) er3) (cwV 0 hts (xgV lw_sub q225 q226 q227 q5 q228) rfl rfl rfl hdX10_thrown ⟨Nat.le_of_ble_eq_true rfl, Nat.le_of_ble_eq_true rfl⟩) hd h rfl hl.1 rfl (Nat.le_of_ble_eq_true rfl) dL_law_984 ⟨by show cells + 1 + 0 + 0 ≤ 603072; omega, by show slots + 6 + 0 + 0 ≤ 7190634; omega⟩ (fun H locs h => ?_)
  refine lv_iload hx hb dL_law_987 (lv_at hl 1 rfl) ?_
  refine lv_icmp_eq (tgt := 994) hx hb dL_law_989 (by decide) (fun c4 => ?_) (fun c4 => ?_)
  · replace hf := xif_t hf c4
    refine lv_iload hx hb dL_law_994 (lv_at hl 1 rfl) ?_
    refine lv_if_ne (tgt := 1011) hx hb dL_law_996 (by decide) (fun c5 => ?_) (fun c5 => ?_)
    · replace hf := xif_f hf c5
      refine lv_goto (tgt := 2488) hx hb dL_law_1011 (by decide) ?_
      obtain rfl := Option.some.inj hf
      refine W.widen (k := cells + 5) (n := slots + 30) (by omega) (by omega) ?_
      exact kk _ _ _ h (lv_sub hl [2, 3, 4, 5, 6, 7] rfl)
    · replace hf := xif_t hf c5
      refine lv_aload_n hx hb dL_law_999 rfl (lv_at hl 4 rfl) ?_
      refine lv_iconst (v := 0) hx hb dL_law_1000 (by decide) ?_
      refine x_lald hx hb (zH_X hd h) kX_out (xin_in (by decide)) dL_law_1001 ?_
      refine lv_iload hx hb dL_law_1002 (lv_at hl 0 rfl) ?_
      refine lv_i2l (v := (r2.2).toInt64) hx hb dL_law_1004 rfl ?_
      refine W.lcmp hx hb dL_law_1005 ?_
      refine lv_if_eq (tgt := 1011) hx hb dL_law_1006 (by decide) (fun c6 => ?_) (fun c6 => ?_)
      · replace hf := xif_t hf c6
        refine lv_goto (tgt := 2488) hx hb dL_law_1011 (by decide) ?_
        obtain rfl := Option.some.inj hf
        refine W.widen (k := cells + 5) (n := slots + 30) (by omega) (by omega) ?_
        exact kk _ _ _ h (lv_sub hl [2, 3, 4, 5, 6, 7] rfl)
      · replace hf := xif_f hf c6
        refine lv_iconst (v := 0) hx hb dL_law_1009 (by decide) ?_
        cases hf
  · replace hf := xif_f hf c4
    refine lv_iconst (v := 0) hx hb dL_law_992 (by decide) ?_
    cases hf
set_option maxHeartbeats 4000000 in
set_option maxRecDepth 100000 in
theorem law_12 {p : Program} (l : Launch) {e : Env} {s : State} {m : MethodId} {args : Array Value} {below : List Frame} {meth : Method} {c : Code} {H : Heap} {locs : List Loc} {cells slots : Nat} {Q : State → Prop} {ls : Array Slot} {Γ : xG} {a : Nat → Nat} {M R : xM} {N b L i : Nat} {xs : Nat → Int32} {q : xM × xM} {v1 v2 v3 v4 v5 v6 : Int32}
    (hlt : l.stackTraces = false) (S9 : CallFix p m c cL_law 9 s args lw_tbl RL) (hd : zD Γ a s.heap.size) (hz : zZ s) (hX : va_X b L xs s s.heap) (hbl : b < s.heap.size) (hL : L ≤ 3584) (hi : i + 7 ≤ L) (hv1 : xs (i + 1) = v1) (hv2 : xs (i + 2) = v2) (hv3 : xs (i + 3) = v3) (hv4 : xs (i + 4) = v4) (hv5 : xs (i + 5) = v5) (hv6 : xs (i + 6) = v6) (hc : cells + 5 ≤ 603072) (hs : slots + 30 ≤ 7190634)
    (hf : zOp_12 N v1 v2 v3 v4 v5 v6 M R = some q) (h : zH Γ a s M R H locs) (hl : lv_has ls 9 [(5, .int (Int32.ofNat i)), (4, .ref (Γ.2.1 1482)), (3, .ref (Γ.2.1 1481)), (2, .ref (a 0)), (1, .ref (Γ.2.1 1470)), (0, .ref b)])
    (kk : ∀ (H : Heap) (locs : List Loc) (ls : Array Slot), zH Γ a s q.1 q.2 H locs → lv_has ls 9 [(5, .int (Int32.ofNat i)), (4, .ref (Γ.2.1 1482)), (3, .ref (Γ.2.1 1481)), (2, .ref (a 0)), (1, .ref (Γ.2.1 1470)), (0, .ref b)] → W p l e room_1 s m args below meth c H locs (cells + 5) (slots + 30) Q (F0 m 2488 ls [])) : W p l e room_1 s m args below meth c H locs cells slots Q (F0 m 1014 ls []) := by
  obtain ⟨hx, hb, hml, hown, hts⟩ := id S9
  refine lv_aload_n hx hb dL_law_1014 rfl (lv_at hl 4 rfl) ?_
  obtain ⟨r1, er1, hf⟩ := xbd_s hf
  refine z_Xi (Γ := Γ) (a := a) (As := []) (rest := []) S9 (m_X9_faultPosition l (Γ := Γ) er1) (cwV 0 hts (xgV lw_sub q542 q543 q544 q2 q545) rfl rfl rfl hdX9_faultPosition ⟨Nat.le_of_ble_eq_true rfl, Nat.le_of_ble_eq_true rfl⟩) hd h rfl hl.1 rfl (Nat.le_of_ble_eq_true rfl) dL_law_1015 ⟨by show cells + 0 ≤ 603072; omega, by show slots + 0 ≤ 7190634; omega⟩ (fun H locs h => ?_)
  refine lv_aload_n hx hb dL_law_1018 rfl (lv_at hl 3 rfl) ?_
  obtain ⟨r2, er2, hf⟩ := xbd_s hf
  refine z_Ri (Γ := Γ) (a := a) (As := []) (rest := [.int r1.2]) S9 (m_X10_faultPosition l (Γ := gR Γ a) er2) (cwV 0 hts (xgV lw_sub q546 q547 q548 q5 q549) rfl rfl rfl hdX10_faultPosition ⟨Nat.le_of_ble_eq_true rfl, Nat.le_of_ble_eq_true rfl⟩) hd h rfl hl.1 rfl (Nat.le_of_ble_eq_true rfl) dL_law_1019 ⟨by show cells + 0 + 0 ≤ 603072; omega, by show slots + 0 + 0 ≤ 7190634; omega⟩ (fun H locs h => ?_)
  refine lv_icmp_eq (tgt := 2488) hx hb dL_law_1022 (by decide) (fun c3 => ?_) (fun c3 => ?_)
  · replace hf := xif_t hf c3
    obtain rfl := Option.some.inj hf
    refine W.widen (k := cells + 5) (n := slots + 30) (by omega) (by omega) ?_
    exact kk _ _ _ h (lv_sub hl [0, 1, 2, 3, 4, 5] rfl)
  · replace hf := xif_f hf c3
    refine lv_iconst (v := 0) hx hb dL_law_1025 (by decide) ?_
    cases hf
set_option maxHeartbeats 4000000 in
set_option maxRecDepth 100000 in
theorem law_13 {p : Program} (l : Launch) {e : Env} {s : State} {m : MethodId} {args : Array Value} {below : List Frame} {meth : Method} {c : Code} {H : Heap} {locs : List Loc} {cells slots : Nat} {Q : State → Prop} {ls : Array Slot} {Γ : xG} {a : Nat → Nat} {M R : xM} {N b L i : Nat} {xs : Nat → Int32} {q : xM × xM} {v1 v2 v3 v4 v5 v6 : Int32}
    (hlt : l.stackTraces = false) (S9 : CallFix p m c cL_law 9 s args lw_tbl RL) (hd : zD Γ a s.heap.size) (hz : zZ s) (hX : va_X b L xs s s.heap) (hbl : b < s.heap.size) (hL : L ≤ 3584) (hi : i + 7 ≤ L) (hv1 : xs (i + 1) = v1) (hv2 : xs (i + 2) = v2) (hv3 : xs (i + 3) = v3) (hv4 : xs (i + 4) = v4) (hv5 : xs (i + 5) = v5) (hv6 : xs (i + 6) = v6) (hc : cells + 5 ≤ 603072) (hs : slots + 30 ≤ 7190634)
    (hf : zOp_13 N v1 v2 v3 v4 v5 v6 M R = some q) (h : zH Γ a s M R H locs) (hl : lv_has ls 9 [(5, .int (Int32.ofNat i)), (4, .ref (Γ.2.1 1482)), (3, .ref (Γ.2.1 1481)), (2, .ref (a 0)), (1, .ref (Γ.2.1 1470)), (0, .ref b)])
    (kk : ∀ (H : Heap) (locs : List Loc) (ls : Array Slot), zH Γ a s q.1 q.2 H locs → lv_has ls 9 [(5, .int (Int32.ofNat i)), (4, .ref (Γ.2.1 1482)), (3, .ref (Γ.2.1 1481)), (2, .ref (a 0)), (1, .ref (Γ.2.1 1470)), (0, .ref b)] → W p l e room_1 s m args below meth c H locs (cells + 5) (slots + 30) Q (F0 m 2488 ls [])) : W p l e room_1 s m args below meth c H locs cells slots Q (F0 m 1027 ls []) := by
  obtain ⟨hx, hb, hml, hown, hts⟩ := id S9
  refine lv_aload_n hx hb dL_law_1027 rfl (lv_at hl 4 rfl) ?_
  refine lv_aload_n hx hb dL_law_1028 rfl (lv_at hl 5 rfl) ?_
  refine lv_iload hx hb dL_law_1029 (lv_at hl 0 rfl) ?_
  refine lv_iconst (v := 1) hx hb dL_law_1031 (by decide) ?_
  refine lv_iadd hx hb dL_law_1032 ?_
  refine z_sld hx hb hX hbl hL hi h.2.2.2 (k := 1) (by decide) hv1 dL_law_1033 ?_
  refine lv_aload_n hx hb dL_law_1034 rfl (lv_at hl 5 rfl) ?_
  refine lv_iload hx hb dL_law_1035 (lv_at hl 0 rfl) ?_
  refine lv_iconst (v := 2) hx hb dL_law_1037 (by decide) ?_
  refine lv_iadd hx hb dL_law_1038 ?_
  refine z_sld hx hb hX hbl hL hi h.2.2.2 (k := 2) (by decide) hv2 dL_law_1039 ?_
  refine lv_aload_n hx hb dL_law_1040 rfl (lv_at hl 5 rfl) ?_
  refine lv_iload hx hb dL_law_1041 (lv_at hl 0 rfl) ?_
  refine lv_iconst (v := 3) hx hb dL_law_1043 (by decide) ?_
  refine lv_iadd hx hb dL_law_1044 ?_
  refine z_sld hx hb hX hbl hL hi h.2.2.2 (k := 3) (by decide) hv3 dL_law_1045 ?_
  refine lv_aload_n hx hb dL_law_1046 rfl (lv_at hl 2 rfl) ?_
  obtain ⟨r1, er1, hf⟩ := xbd_s hf
  refine z_L (Γ := Γ) (a := a) (As := [.ref (Γ.2.1 1470), .int v1, .int v2, .int v3, .ref (Γ.2.1 1481)]) (rest := []) S9 (m_L_setAmount l hlt er1) (vx_cwSW 5 hts (zgS lw_sub q550 q551 q144 q552) rfl rfl rfl hdL_setAmount ⟨Nat.le_of_ble_eq_true rfl, Nat.le_of_ble_eq_true rfl⟩) hd hz h rfl hl.1 rfl (Nat.le_of_ble_eq_true rfl) dL_law_1047 ⟨by show cells + 3 ≤ 603072; omega, by show slots + 18 ≤ 7190634; omega⟩ (fun H locs h => ?_)
  refine lv_istore (lv' := [(6, .int r1.2), (5, .int (Int32.ofNat i)), (4, .ref (Γ.2.1 1482)), (3, .ref (Γ.2.1 1481)), (2, .ref (a 0)), (1, .ref (Γ.2.1 1470)), (0, .ref b)]) hx hb dL_law_1050 hl (by decide) rfl (fun ls hl => ?_)
  refine lv_aload_n hx hb dL_law_1052 rfl (lv_at hl 4 rfl) ?_
  refine lv_aload_n hx hb dL_law_1053 rfl (lv_at hl 6 rfl) ?_
  refine lv_iload hx hb dL_law_1054 (lv_at hl 1 rfl) ?_
  refine lv_iconst (v := 1) hx hb dL_law_1056 (by decide) ?_
  refine lv_iadd hx hb dL_law_1057 ?_
  refine z_sld hx hb hX hbl hL hi h.2.2.2 (k := 1) (by decide) hv1 dL_law_1058 ?_
  refine lv_aload_n hx hb dL_law_1059 rfl (lv_at hl 6 rfl) ?_
  refine lv_iload hx hb dL_law_1060 (lv_at hl 1 rfl) ?_
  refine lv_iconst (v := 2) hx hb dL_law_1062 (by decide) ?_
  refine lv_iadd hx hb dL_law_1063 ?_
  refine z_sld hx hb hX hbl hL hi h.2.2.2 (k := 2) (by decide) hv2 dL_law_1064 ?_
  refine lv_aload_n hx hb dL_law_1065 rfl (lv_at hl 6 rfl) ?_
  refine lv_iload hx hb dL_law_1066 (lv_at hl 1 rfl) ?_
  refine lv_iconst (v := 3) hx hb dL_law_1068 (by decide) ?_
  refine lv_iadd hx hb dL_law_1069 ?_
  refine z_sld hx hb hX hbl hL hi h.2.2.2 (k := 3) (by decide) hv3 dL_law_1070 ?_
  obtain ⟨r2, er2, hf⟩ := xbd_s hf
  refine z_Ri (Γ := Γ) (a := a) (As := [.int v1, .int v2, .int v3]) (rest := []) S9 (m_X10_setAmount l (Γ := gR Γ a) er2) (cwV 3 hts (xgV lw_sub q565 q566 q567 q5 q568) rfl rfl rfl hdX10_setAmount ⟨Nat.le_of_ble_eq_true rfl, Nat.le_of_ble_eq_true rfl⟩) hd h rfl hl.1 rfl (Nat.le_of_ble_eq_true rfl) dL_law_1071 ⟨by show cells + 3 + 0 ≤ 603072; omega, by show slots + 18 + 0 ≤ 7190634; omega⟩ (fun H locs h => ?_)
  refine lv_istore (lv' := [(7, .int r2.2), (6, .int r1.2), (5, .int (Int32.ofNat i)), (4, .ref (Γ.2.1 1482)), (3, .ref (Γ.2.1 1481)), (2, .ref (a 0)), (1, .ref (Γ.2.1 1470)), (0, .ref b)]) hx hb dL_law_1074 hl (by decide) rfl (fun ls hl => ?_)
  refine lv_aload_n hx hb dL_law_1076 rfl (lv_at hl 5 rfl) ?_
  obtain ⟨r3, er3, hf⟩ := xbd_s hf
  refine z_Ri (Γ := Γ) (a := a) (As := []) (rest := []) S9 (m_X10_thrown l (Γ := gR Γ a) er3) (cwV 0 hts (xgV lw_sub q225 q226 q227 q5 q228) rfl rfl rfl hdX10_thrown ⟨Nat.le_of_ble_eq_true rfl, Nat.le_of_ble_eq_true rfl⟩) hd h rfl hl.1 rfl (Nat.le_of_ble_eq_true rfl) dL_law_1077 ⟨by show cells + 3 + 0 + 0 ≤ 603072; omega, by show slots + 18 + 0 + 0 ≤ 7190634; omega⟩ (fun H locs h => ?_)
  refine lv_iload hx hb dL_law_1080 (lv_at hl 1 rfl) ?_
  refine lv_icmp_eq (tgt := 1087) hx hb dL_law_1082 (by decide) (fun c4 => ?_) (fun c4 => ?_)
  · replace hf := xif_t hf c4
    refine lv_iload hx hb dL_law_1087 (lv_at hl 1 rfl) ?_
    refine lv_if_ne (tgt := 1104) hx hb dL_law_1089 (by decide) (fun c5 => ?_) (fun c5 => ?_)
    · replace hf := xif_f hf c5
      refine lv_goto (tgt := 2488) hx hb dL_law_1104 (by decide) ?_
      obtain rfl := Option.some.inj hf
      refine W.widen (k := cells + 5) (n := slots + 30) (by omega) (by omega) ?_
      exact kk _ _ _ h (lv_sub hl [2, 3, 4, 5, 6, 7] rfl)
    · replace hf := xif_t hf c5
      refine lv_aload_n hx hb dL_law_1092 rfl (lv_at hl 4 rfl) ?_
      refine lv_iconst (v := 0) hx hb dL_law_1093 (by decide) ?_
      refine x_lald hx hb (zH_X hd h) kX_out (xin_in (by decide)) dL_law_1094 ?_
      refine lv_iload hx hb dL_law_1095 (lv_at hl 0 rfl) ?_
      refine lv_i2l (v := (r2.2).toInt64) hx hb dL_law_1097 rfl ?_
      refine W.lcmp hx hb dL_law_1098 ?_
      refine lv_if_eq (tgt := 1104) hx hb dL_law_1099 (by decide) (fun c6 => ?_) (fun c6 => ?_)
      · replace hf := xif_t hf c6
        refine lv_goto (tgt := 2488) hx hb dL_law_1104 (by decide) ?_
        obtain rfl := Option.some.inj hf
        refine W.widen (k := cells + 5) (n := slots + 30) (by omega) (by omega) ?_
        exact kk _ _ _ h (lv_sub hl [2, 3, 4, 5, 6, 7] rfl)
      · replace hf := xif_f hf c6
        refine lv_iconst (v := 0) hx hb dL_law_1102 (by decide) ?_
        cases hf
  · replace hf := xif_f hf c4
    refine lv_iconst (v := 0) hx hb dL_law_1085 (by decide) ?_
    cases hf
set_option maxHeartbeats 4000000 in
set_option maxRecDepth 100000 in
theorem law_14 {p : Program} (l : Launch) {e : Env} {s : State} {m : MethodId} {args : Array Value} {below : List Frame} {meth : Method} {c : Code} {H : Heap} {locs : List Loc} {cells slots : Nat} {Q : State → Prop} {ls : Array Slot} {Γ : xG} {a : Nat → Nat} {M R : xM} {N b L i : Nat} {xs : Nat → Int32} {q : xM × xM} {v1 v2 v3 v4 v5 v6 : Int32}
    (hlt : l.stackTraces = false) (S9 : CallFix p m c cL_law 9 s args lw_tbl RL) (hd : zD Γ a s.heap.size) (hz : zZ s) (hX : va_X b L xs s s.heap) (hbl : b < s.heap.size) (hL : L ≤ 3584) (hi : i + 7 ≤ L) (hv1 : xs (i + 1) = v1) (hv2 : xs (i + 2) = v2) (hv3 : xs (i + 3) = v3) (hv4 : xs (i + 4) = v4) (hv5 : xs (i + 5) = v5) (hv6 : xs (i + 6) = v6) (hc : cells + 5 ≤ 603072) (hs : slots + 30 ≤ 7190634)
    (hf : zOp_14 N v1 v2 v3 v4 v5 v6 M R = some q) (h : zH Γ a s M R H locs) (hl : lv_has ls 9 [(5, .int (Int32.ofNat i)), (4, .ref (Γ.2.1 1482)), (3, .ref (Γ.2.1 1481)), (2, .ref (a 0)), (1, .ref (Γ.2.1 1470)), (0, .ref b)])
    (kk : ∀ (H : Heap) (locs : List Loc) (ls : Array Slot), zH Γ a s q.1 q.2 H locs → lv_has ls 9 [(5, .int (Int32.ofNat i)), (4, .ref (Γ.2.1 1482)), (3, .ref (Γ.2.1 1481)), (2, .ref (a 0)), (1, .ref (Γ.2.1 1470)), (0, .ref b)] → W p l e room_1 s m args below meth c H locs (cells + 5) (slots + 30) Q (F0 m 2488 ls [])) : W p l e room_1 s m args below meth c H locs cells slots Q (F0 m 1107 ls []) := by
  obtain ⟨hx, hb, hml, hown, hts⟩ := id S9
  refine lv_aload_n hx hb dL_law_1107 rfl (lv_at hl 4 rfl) ?_
  refine lv_aload_n hx hb dL_law_1108 rfl (lv_at hl 5 rfl) ?_
  refine lv_iload hx hb dL_law_1109 (lv_at hl 0 rfl) ?_
  refine lv_iconst (v := 1) hx hb dL_law_1111 (by decide) ?_
  refine lv_iadd hx hb dL_law_1112 ?_
  refine z_sld hx hb hX hbl hL hi h.2.2.2 (k := 1) (by decide) hv1 dL_law_1113 ?_
  refine lv_aload_n hx hb dL_law_1114 rfl (lv_at hl 5 rfl) ?_
  refine lv_iload hx hb dL_law_1115 (lv_at hl 0 rfl) ?_
  refine lv_iconst (v := 2) hx hb dL_law_1117 (by decide) ?_
  refine lv_iadd hx hb dL_law_1118 ?_
  refine z_sld hx hb hX hbl hL hi h.2.2.2 (k := 2) (by decide) hv2 dL_law_1119 ?_
  refine lv_aload_n hx hb dL_law_1120 rfl (lv_at hl 5 rfl) ?_
  refine lv_iload hx hb dL_law_1121 (lv_at hl 0 rfl) ?_
  refine lv_iconst (v := 3) hx hb dL_law_1123 (by decide) ?_
  refine lv_iadd hx hb dL_law_1124 ?_
  refine z_sld hx hb hX hbl hL hi h.2.2.2 (k := 3) (by decide) hv3 dL_law_1125 ?_
  refine lv_if_eq (tgt := 1133) hx hb dL_law_1126 (by decide) (fun c1 => ?_) (fun c1 => ?_)
  · replace hf := xif_t hf c1
    refine lv_iconst (v := 0) hx hb dL_law_1133 (by decide) ?_
    refine lv_aload_n hx hb dL_law_1134 rfl (lv_at hl 2 rfl) ?_
    obtain ⟨r2, er2, hf⟩ := xbd_s hf
    refine z_L (Γ := Γ) (a := a) (As := [.ref (Γ.2.1 1470), .int v1, .int v2, .int 0, .ref (Γ.2.1 1481)]) (rest := []) S9 (m_L_amount l hlt er2) (vx_cwSW 5 hts (zgS lw_sub q573 q574 q144 q575) rfl rfl rfl hdL_amount ⟨Nat.le_of_ble_eq_true rfl, Nat.le_of_ble_eq_true rfl⟩) hd hz h rfl hl.1 rfl (Nat.le_of_ble_eq_true rfl) dL_law_1135 ⟨by show cells + 2 ≤ 603072; omega, by show slots + 12 ≤ 7190634; omega⟩ (fun H locs h => ?_)
    refine lv_istore (lv' := [(6, .int r2.2), (5, .int (Int32.ofNat i)), (4, .ref (Γ.2.1 1482)), (3, .ref (Γ.2.1 1481)), (2, .ref (a 0)), (1, .ref (Γ.2.1 1470)), (0, .ref b)]) hx hb dL_law_1138 hl (by decide) rfl (fun ls hl => ?_)
    refine lv_aload_n hx hb dL_law_1140 rfl (lv_at hl 4 rfl) ?_
    refine lv_aload_n hx hb dL_law_1141 rfl (lv_at hl 6 rfl) ?_
    refine lv_iload hx hb dL_law_1142 (lv_at hl 1 rfl) ?_
    refine lv_iconst (v := 1) hx hb dL_law_1144 (by decide) ?_
    refine lv_iadd hx hb dL_law_1145 ?_
    refine z_sld hx hb hX hbl hL hi h.2.2.2 (k := 1) (by decide) hv1 dL_law_1146 ?_
    refine lv_aload_n hx hb dL_law_1147 rfl (lv_at hl 6 rfl) ?_
    refine lv_iload hx hb dL_law_1148 (lv_at hl 1 rfl) ?_
    refine lv_iconst (v := 2) hx hb dL_law_1150 (by decide) ?_
    refine lv_iadd hx hb dL_law_1151 ?_
    refine z_sld hx hb hX hbl hL hi h.2.2.2 (k := 2) (by decide) hv2 dL_law_1152 ?_
    refine lv_aload_n hx hb dL_law_1153 rfl (lv_at hl 6 rfl) ?_
    refine lv_iload hx hb dL_law_1154 (lv_at hl 1 rfl) ?_
    refine lv_iconst (v := 3) hx hb dL_law_1156 (by decide) ?_
    refine lv_iadd hx hb dL_law_1157 ?_
    refine z_sld hx hb hX hbl hL hi h.2.2.2 (k := 3) (by decide) hv3 dL_law_1158 ?_
    refine lv_if_eq (tgt := 1166) hx hb dL_law_1159 (by decide) (fun c3 => ?_) (fun c3 => ?_)
    · replace hf := xif_t hf c3
      refine lv_iconst (v := 0) hx hb dL_law_1166 (by decide) ?_
      obtain ⟨r4, er4, hf⟩ := xbd_s hf
      refine z_Ri (Γ := Γ) (a := a) (As := [.int v1, .int v2, .int 0]) (rest := []) S9 (m_X10_amount l (Γ := gR Γ a) er4) (cwV 3 hts (xgV lw_sub q580 q581 q582 q5 q583) rfl rfl rfl hdX10_amount ⟨Nat.le_of_ble_eq_true rfl, Nat.le_of_ble_eq_true rfl⟩) hd h rfl hl.1 rfl (Nat.le_of_ble_eq_true rfl) dL_law_1167 ⟨by show cells + 2 + 0 ≤ 603072; omega, by show slots + 12 + 0 ≤ 7190634; omega⟩ (fun H locs h => ?_)
      refine lv_istore (lv' := [(7, .int r4.2), (6, .int r2.2), (5, .int (Int32.ofNat i)), (4, .ref (Γ.2.1 1482)), (3, .ref (Γ.2.1 1481)), (2, .ref (a 0)), (1, .ref (Γ.2.1 1470)), (0, .ref b)]) hx hb dL_law_1170 hl (by decide) rfl (fun ls hl => ?_)
      refine lv_aload_n hx hb dL_law_1172 rfl (lv_at hl 5 rfl) ?_
      obtain ⟨r5, er5, hf⟩ := xbd_s hf
      refine z_Ri (Γ := Γ) (a := a) (As := []) (rest := []) S9 (m_X10_thrown l (Γ := gR Γ a) er5) (cwV 0 hts (xgV lw_sub q225 q226 q227 q5 q228) rfl rfl rfl hdX10_thrown ⟨Nat.le_of_ble_eq_true rfl, Nat.le_of_ble_eq_true rfl⟩) hd h rfl hl.1 rfl (Nat.le_of_ble_eq_true rfl) dL_law_1173 ⟨by show cells + 2 + 0 + 0 ≤ 603072; omega, by show slots + 12 + 0 + 0 ≤ 7190634; omega⟩ (fun H locs h => ?_)
      refine lv_iload hx hb dL_law_1176 (lv_at hl 1 rfl) ?_
      refine lv_icmp_eq (tgt := 1183) hx hb dL_law_1178 (by decide) (fun c6 => ?_) (fun c6 => ?_)
      · replace hf := xif_t hf c6
        refine lv_iload hx hb dL_law_1183 (lv_at hl 1 rfl) ?_
        refine lv_if_ne (tgt := 1200) hx hb dL_law_1185 (by decide) (fun c7 => ?_) (fun c7 => ?_)
        · replace hf := xif_f hf c7
          refine lv_goto (tgt := 2488) hx hb dL_law_1200 (by decide) ?_
          obtain rfl := Option.some.inj hf
          refine W.widen (k := cells + 5) (n := slots + 30) (by omega) (by omega) ?_
          exact kk _ _ _ h (lv_sub hl [2, 3, 4, 5, 6, 7] rfl)
        · replace hf := xif_t hf c7
          refine lv_aload_n hx hb dL_law_1188 rfl (lv_at hl 4 rfl) ?_
          refine lv_iconst (v := 0) hx hb dL_law_1189 (by decide) ?_
          refine x_lald hx hb (zH_X hd h) kX_out (xin_in (by decide)) dL_law_1190 ?_
          refine lv_iload hx hb dL_law_1191 (lv_at hl 0 rfl) ?_
          refine lv_i2l (v := (r4.2).toInt64) hx hb dL_law_1193 rfl ?_
          refine W.lcmp hx hb dL_law_1194 ?_
          refine lv_if_eq (tgt := 1200) hx hb dL_law_1195 (by decide) (fun c8 => ?_) (fun c8 => ?_)
          · replace hf := xif_t hf c8
            refine lv_goto (tgt := 2488) hx hb dL_law_1200 (by decide) ?_
            obtain rfl := Option.some.inj hf
            refine W.widen (k := cells + 5) (n := slots + 30) (by omega) (by omega) ?_
            exact kk _ _ _ h (lv_sub hl [2, 3, 4, 5, 6, 7] rfl)
          · replace hf := xif_f hf c8
            refine lv_iconst (v := 0) hx hb dL_law_1198 (by decide) ?_
            cases hf
      · replace hf := xif_f hf c6
        refine lv_iconst (v := 0) hx hb dL_law_1181 (by decide) ?_
        cases hf
    · replace hf := xif_f hf c3
      refine lv_iconst (v := 1) hx hb dL_law_1162 (by decide) ?_
      refine lv_goto (tgt := 1167) hx hb dL_law_1163 (by decide) ?_
      obtain ⟨r9, er9, hf⟩ := xbd_s hf
      refine z_Ri (Γ := Γ) (a := a) (As := [.int v1, .int v2, .int 1]) (rest := []) S9 (m_X10_amount l (Γ := gR Γ a) er9) (cwV 3 hts (xgV lw_sub q580 q581 q582 q5 q583) rfl rfl rfl hdX10_amount ⟨Nat.le_of_ble_eq_true rfl, Nat.le_of_ble_eq_true rfl⟩) hd h rfl hl.1 rfl (Nat.le_of_ble_eq_true rfl) dL_law_1167 ⟨by show cells + 2 + 0 ≤ 603072; omega, by show slots + 12 + 0 ≤ 7190634; omega⟩ (fun H locs h => ?_)
      refine lv_istore (lv' := [(7, .int r9.2), (6, .int r2.2), (5, .int (Int32.ofNat i)), (4, .ref (Γ.2.1 1482)), (3, .ref (Γ.2.1 1481)), (2, .ref (a 0)), (1, .ref (Γ.2.1 1470)), (0, .ref b)]) hx hb dL_law_1170 hl (by decide) rfl (fun ls hl => ?_)
      refine lv_aload_n hx hb dL_law_1172 rfl (lv_at hl 5 rfl) ?_
      obtain ⟨r10, er10, hf⟩ := xbd_s hf
      refine z_Ri (Γ := Γ) (a := a) (As := []) (rest := []) S9 (m_X10_thrown l (Γ := gR Γ a) er10) (cwV 0 hts (xgV lw_sub q225 q226 q227 q5 q228) rfl rfl rfl hdX10_thrown ⟨Nat.le_of_ble_eq_true rfl, Nat.le_of_ble_eq_true rfl⟩) hd h rfl hl.1 rfl (Nat.le_of_ble_eq_true rfl) dL_law_1173 ⟨by show cells + 2 + 0 + 0 ≤ 603072; omega, by show slots + 12 + 0 + 0 ≤ 7190634; omega⟩ (fun H locs h => ?_)
      refine lv_iload hx hb dL_law_1176 (lv_at hl 1 rfl) ?_
      refine lv_icmp_eq (tgt := 1183) hx hb dL_law_1178 (by decide) (fun c11 => ?_) (fun c11 => ?_)
      · replace hf := xif_t hf c11
        refine lv_iload hx hb dL_law_1183 (lv_at hl 1 rfl) ?_
        refine lv_if_ne (tgt := 1200) hx hb dL_law_1185 (by decide) (fun c12 => ?_) (fun c12 => ?_)
        · replace hf := xif_f hf c12
          refine lv_goto (tgt := 2488) hx hb dL_law_1200 (by decide) ?_
          obtain rfl := Option.some.inj hf
          refine W.widen (k := cells + 5) (n := slots + 30) (by omega) (by omega) ?_
          exact kk _ _ _ h (lv_sub hl [2, 3, 4, 5, 6, 7] rfl)
        · replace hf := xif_t hf c12
          refine lv_aload_n hx hb dL_law_1188 rfl (lv_at hl 4 rfl) ?_
          refine lv_iconst (v := 0) hx hb dL_law_1189 (by decide) ?_
          refine x_lald hx hb (zH_X hd h) kX_out (xin_in (by decide)) dL_law_1190 ?_
          refine lv_iload hx hb dL_law_1191 (lv_at hl 0 rfl) ?_
          refine lv_i2l (v := (r9.2).toInt64) hx hb dL_law_1193 rfl ?_
          refine W.lcmp hx hb dL_law_1194 ?_
          refine lv_if_eq (tgt := 1200) hx hb dL_law_1195 (by decide) (fun c13 => ?_) (fun c13 => ?_)
          · replace hf := xif_t hf c13
            refine lv_goto (tgt := 2488) hx hb dL_law_1200 (by decide) ?_
            obtain rfl := Option.some.inj hf
            refine W.widen (k := cells + 5) (n := slots + 30) (by omega) (by omega) ?_
            exact kk _ _ _ h (lv_sub hl [2, 3, 4, 5, 6, 7] rfl)
          · replace hf := xif_f hf c13
            refine lv_iconst (v := 0) hx hb dL_law_1198 (by decide) ?_
            cases hf
      · replace hf := xif_f hf c11
        refine lv_iconst (v := 0) hx hb dL_law_1181 (by decide) ?_
        cases hf
  · replace hf := xif_f hf c1
    refine lv_iconst (v := 1) hx hb dL_law_1129 (by decide) ?_
    refine lv_goto (tgt := 1134) hx hb dL_law_1130 (by decide) ?_
    refine lv_aload_n hx hb dL_law_1134 rfl (lv_at hl 2 rfl) ?_
    obtain ⟨r14, er14, hf⟩ := xbd_s hf
    refine z_L (Γ := Γ) (a := a) (As := [.ref (Γ.2.1 1470), .int v1, .int v2, .int 1, .ref (Γ.2.1 1481)]) (rest := []) S9 (m_L_amount l hlt er14) (vx_cwSW 5 hts (zgS lw_sub q573 q574 q144 q575) rfl rfl rfl hdL_amount ⟨Nat.le_of_ble_eq_true rfl, Nat.le_of_ble_eq_true rfl⟩) hd hz h rfl hl.1 rfl (Nat.le_of_ble_eq_true rfl) dL_law_1135 ⟨by show cells + 2 ≤ 603072; omega, by show slots + 12 ≤ 7190634; omega⟩ (fun H locs h => ?_)
    refine lv_istore (lv' := [(6, .int r14.2), (5, .int (Int32.ofNat i)), (4, .ref (Γ.2.1 1482)), (3, .ref (Γ.2.1 1481)), (2, .ref (a 0)), (1, .ref (Γ.2.1 1470)), (0, .ref b)]) hx hb dL_law_1138 hl (by decide) rfl (fun ls hl => ?_)
    refine lv_aload_n hx hb dL_law_1140 rfl (lv_at hl 4 rfl) ?_
    refine lv_aload_n hx hb dL_law_1141 rfl (lv_at hl 6 rfl) ?_
    refine lv_iload hx hb dL_law_1142 (lv_at hl 1 rfl) ?_
    refine lv_iconst (v := 1) hx hb dL_law_1144 (by decide) ?_
    refine lv_iadd hx hb dL_law_1145 ?_
    refine z_sld hx hb hX hbl hL hi h.2.2.2 (k := 1) (by decide) hv1 dL_law_1146 ?_
    refine lv_aload_n hx hb dL_law_1147 rfl (lv_at hl 6 rfl) ?_
    refine lv_iload hx hb dL_law_1148 (lv_at hl 1 rfl) ?_
    refine lv_iconst (v := 2) hx hb dL_law_1150 (by decide) ?_
    refine lv_iadd hx hb dL_law_1151 ?_
    refine z_sld hx hb hX hbl hL hi h.2.2.2 (k := 2) (by decide) hv2 dL_law_1152 ?_
    refine lv_aload_n hx hb dL_law_1153 rfl (lv_at hl 6 rfl) ?_
    refine lv_iload hx hb dL_law_1154 (lv_at hl 1 rfl) ?_
    refine lv_iconst (v := 3) hx hb dL_law_1156 (by decide) ?_
    refine lv_iadd hx hb dL_law_1157 ?_
    refine z_sld hx hb hX hbl hL hi h.2.2.2 (k := 3) (by decide) hv3 dL_law_1158 ?_
    refine lv_if_eq (tgt := 1166) hx hb dL_law_1159 (by decide) (fun c15 => ?_) (fun c15 => ?_)
    · replace hf := xif_t hf c15
      refine lv_iconst (v := 0) hx hb dL_law_1166 (by decide) ?_
      obtain ⟨r16, er16, hf⟩ := xbd_s hf
      refine z_Ri (Γ := Γ) (a := a) (As := [.int v1, .int v2, .int 0]) (rest := []) S9 (m_X10_amount l (Γ := gR Γ a) er16) (cwV 3 hts (xgV lw_sub q580 q581 q582 q5 q583) rfl rfl rfl hdX10_amount ⟨Nat.le_of_ble_eq_true rfl, Nat.le_of_ble_eq_true rfl⟩) hd h rfl hl.1 rfl (Nat.le_of_ble_eq_true rfl) dL_law_1167 ⟨by show cells + 2 + 0 ≤ 603072; omega, by show slots + 12 + 0 ≤ 7190634; omega⟩ (fun H locs h => ?_)
      refine lv_istore (lv' := [(7, .int r16.2), (6, .int r14.2), (5, .int (Int32.ofNat i)), (4, .ref (Γ.2.1 1482)), (3, .ref (Γ.2.1 1481)), (2, .ref (a 0)), (1, .ref (Γ.2.1 1470)), (0, .ref b)]) hx hb dL_law_1170 hl (by decide) rfl (fun ls hl => ?_)
      refine lv_aload_n hx hb dL_law_1172 rfl (lv_at hl 5 rfl) ?_
      obtain ⟨r17, er17, hf⟩ := xbd_s hf
      refine z_Ri (Γ := Γ) (a := a) (As := []) (rest := []) S9 (m_X10_thrown l (Γ := gR Γ a) er17) (cwV 0 hts (xgV lw_sub q225 q226 q227 q5 q228) rfl rfl rfl hdX10_thrown ⟨Nat.le_of_ble_eq_true rfl, Nat.le_of_ble_eq_true rfl⟩) hd h rfl hl.1 rfl (Nat.le_of_ble_eq_true rfl) dL_law_1173 ⟨by show cells + 2 + 0 + 0 ≤ 603072; omega, by show slots + 12 + 0 + 0 ≤ 7190634; omega⟩ (fun H locs h => ?_)
      refine lv_iload hx hb dL_law_1176 (lv_at hl 1 rfl) ?_
      refine lv_icmp_eq (tgt := 1183) hx hb dL_law_1178 (by decide) (fun c18 => ?_) (fun c18 => ?_)
      · replace hf := xif_t hf c18
        refine lv_iload hx hb dL_law_1183 (lv_at hl 1 rfl) ?_
        refine lv_if_ne (tgt := 1200) hx hb dL_law_1185 (by decide) (fun c19 => ?_) (fun c19 => ?_)
        · replace hf := xif_f hf c19
          refine lv_goto (tgt := 2488) hx hb dL_law_1200 (by decide) ?_
          obtain rfl := Option.some.inj hf
          refine W.widen (k := cells + 5) (n := slots + 30) (by omega) (by omega) ?_
          exact kk _ _ _ h (lv_sub hl [2, 3, 4, 5, 6, 7] rfl)
        · replace hf := xif_t hf c19
          refine lv_aload_n hx hb dL_law_1188 rfl (lv_at hl 4 rfl) ?_
          refine lv_iconst (v := 0) hx hb dL_law_1189 (by decide) ?_
          refine x_lald hx hb (zH_X hd h) kX_out (xin_in (by decide)) dL_law_1190 ?_
          refine lv_iload hx hb dL_law_1191 (lv_at hl 0 rfl) ?_
          refine lv_i2l (v := (r16.2).toInt64) hx hb dL_law_1193 rfl ?_
          refine W.lcmp hx hb dL_law_1194 ?_
          refine lv_if_eq (tgt := 1200) hx hb dL_law_1195 (by decide) (fun c20 => ?_) (fun c20 => ?_)
          · replace hf := xif_t hf c20
            refine lv_goto (tgt := 2488) hx hb dL_law_1200 (by decide) ?_
            obtain rfl := Option.some.inj hf
            refine W.widen (k := cells + 5) (n := slots + 30) (by omega) (by omega) ?_
            exact kk _ _ _ h (lv_sub hl [2, 3, 4, 5, 6, 7] rfl)
          · replace hf := xif_f hf c20
            refine lv_iconst (v := 0) hx hb dL_law_1198 (by decide) ?_
            cases hf
      · replace hf := xif_f hf c18
        refine lv_iconst (v := 0) hx hb dL_law_1181 (by decide) ?_
        cases hf
    · replace hf := xif_f hf c15
      refine lv_iconst (v := 1) hx hb dL_law_1162 (by decide) ?_
      refine lv_goto (tgt := 1167) hx hb dL_law_1163 (by decide) ?_
      obtain ⟨r21, er21, hf⟩ := xbd_s hf
      refine z_Ri (Γ := Γ) (a := a) (As := [.int v1, .int v2, .int 1]) (rest := []) S9 (m_X10_amount l (Γ := gR Γ a) er21) (cwV 3 hts (xgV lw_sub q580 q581 q582 q5 q583) rfl rfl rfl hdX10_amount ⟨Nat.le_of_ble_eq_true rfl, Nat.le_of_ble_eq_true rfl⟩) hd h rfl hl.1 rfl (Nat.le_of_ble_eq_true rfl) dL_law_1167 ⟨by show cells + 2 + 0 ≤ 603072; omega, by show slots + 12 + 0 ≤ 7190634; omega⟩ (fun H locs h => ?_)
      refine lv_istore (lv' := [(7, .int r21.2), (6, .int r14.2), (5, .int (Int32.ofNat i)), (4, .ref (Γ.2.1 1482)), (3, .ref (Γ.2.1 1481)), (2, .ref (a 0)), (1, .ref (Γ.2.1 1470)), (0, .ref b)]) hx hb dL_law_1170 hl (by decide) rfl (fun ls hl => ?_)
      refine lv_aload_n hx hb dL_law_1172 rfl (lv_at hl 5 rfl) ?_
      obtain ⟨r22, er22, hf⟩ := xbd_s hf
      refine z_Ri (Γ := Γ) (a := a) (As := []) (rest := []) S9 (m_X10_thrown l (Γ := gR Γ a) er22) (cwV 0 hts (xgV lw_sub q225 q226 q227 q5 q228) rfl rfl rfl hdX10_thrown ⟨Nat.le_of_ble_eq_true rfl, Nat.le_of_ble_eq_true rfl⟩) hd h rfl hl.1 rfl (Nat.le_of_ble_eq_true rfl) dL_law_1173 ⟨by show cells + 2 + 0 + 0 ≤ 603072; omega, by show slots + 12 + 0 + 0 ≤ 7190634; omega⟩ (fun H locs h => ?_)
      refine lv_iload hx hb dL_law_1176 (lv_at hl 1 rfl) ?_
      refine lv_icmp_eq (tgt := 1183) hx hb dL_law_1178 (by decide) (fun c23 => ?_) (fun c23 => ?_)
      · replace hf := xif_t hf c23
        refine lv_iload hx hb dL_law_1183 (lv_at hl 1 rfl) ?_
        refine lv_if_ne (tgt := 1200) hx hb dL_law_1185 (by decide) (fun c24 => ?_) (fun c24 => ?_)
        · replace hf := xif_f hf c24
          refine lv_goto (tgt := 2488) hx hb dL_law_1200 (by decide) ?_
          obtain rfl := Option.some.inj hf
          refine W.widen (k := cells + 5) (n := slots + 30) (by omega) (by omega) ?_
          exact kk _ _ _ h (lv_sub hl [2, 3, 4, 5, 6, 7] rfl)
        · replace hf := xif_t hf c24
          refine lv_aload_n hx hb dL_law_1188 rfl (lv_at hl 4 rfl) ?_
          refine lv_iconst (v := 0) hx hb dL_law_1189 (by decide) ?_
          refine x_lald hx hb (zH_X hd h) kX_out (xin_in (by decide)) dL_law_1190 ?_
          refine lv_iload hx hb dL_law_1191 (lv_at hl 0 rfl) ?_
          refine lv_i2l (v := (r21.2).toInt64) hx hb dL_law_1193 rfl ?_
          refine W.lcmp hx hb dL_law_1194 ?_
          refine lv_if_eq (tgt := 1200) hx hb dL_law_1195 (by decide) (fun c25 => ?_) (fun c25 => ?_)
          · replace hf := xif_t hf c25
            refine lv_goto (tgt := 2488) hx hb dL_law_1200 (by decide) ?_
            obtain rfl := Option.some.inj hf
            refine W.widen (k := cells + 5) (n := slots + 30) (by omega) (by omega) ?_
            exact kk _ _ _ h (lv_sub hl [2, 3, 4, 5, 6, 7] rfl)
          · replace hf := xif_f hf c25
            refine lv_iconst (v := 0) hx hb dL_law_1198 (by decide) ?_
            cases hf
      · replace hf := xif_f hf c23
        refine lv_iconst (v := 0) hx hb dL_law_1181 (by decide) ?_
        cases hf
set_option maxHeartbeats 4000000 in
set_option maxRecDepth 100000 in
theorem law_15 {p : Program} (l : Launch) {e : Env} {s : State} {m : MethodId} {args : Array Value} {below : List Frame} {meth : Method} {c : Code} {H : Heap} {locs : List Loc} {cells slots : Nat} {Q : State → Prop} {ls : Array Slot} {Γ : xG} {a : Nat → Nat} {M R : xM} {N b L i : Nat} {xs : Nat → Int32} {q : xM × xM} {v1 v2 v3 v4 v5 v6 : Int32}
    (hlt : l.stackTraces = false) (S9 : CallFix p m c cL_law 9 s args lw_tbl RL) (hd : zD Γ a s.heap.size) (hz : zZ s) (hX : va_X b L xs s s.heap) (hbl : b < s.heap.size) (hL : L ≤ 3584) (hi : i + 7 ≤ L) (hv1 : xs (i + 1) = v1) (hv2 : xs (i + 2) = v2) (hv3 : xs (i + 3) = v3) (hv4 : xs (i + 4) = v4) (hv5 : xs (i + 5) = v5) (hv6 : xs (i + 6) = v6) (hc : cells + 5 ≤ 603072) (hs : slots + 30 ≤ 7190634)
    (hf : zOp_15 N v1 v2 v3 v4 v5 v6 M R = some q) (h : zH Γ a s M R H locs) (hl : lv_has ls 9 [(5, .int (Int32.ofNat i)), (4, .ref (Γ.2.1 1482)), (3, .ref (Γ.2.1 1481)), (2, .ref (a 0)), (1, .ref (Γ.2.1 1470)), (0, .ref b)])
    (kk : ∀ (H : Heap) (locs : List Loc) (ls : Array Slot), zH Γ a s q.1 q.2 H locs → lv_has ls 9 [(5, .int (Int32.ofNat i)), (4, .ref (Γ.2.1 1482)), (3, .ref (Γ.2.1 1481)), (2, .ref (a 0)), (1, .ref (Γ.2.1 1470)), (0, .ref b)] → W p l e room_1 s m args below meth c H locs (cells + 5) (slots + 30) Q (F0 m 2488 ls [])) : W p l e room_1 s m args below meth c H locs cells slots Q (F0 m 1203 ls []) := by
  obtain ⟨hx, hb, hml, hown, hts⟩ := id S9
  refine lv_aload_n hx hb dL_law_1203 rfl (lv_at hl 4 rfl) ?_
  refine lv_aload_n hx hb dL_law_1204 rfl (lv_at hl 5 rfl) ?_
  refine lv_iload hx hb dL_law_1205 (lv_at hl 0 rfl) ?_
  refine lv_iconst (v := 1) hx hb dL_law_1207 (by decide) ?_
  refine lv_iadd hx hb dL_law_1208 ?_
  refine z_sld hx hb hX hbl hL hi h.2.2.2 (k := 1) (by decide) hv1 dL_law_1209 ?_
  refine lv_aload_n hx hb dL_law_1210 rfl (lv_at hl 2 rfl) ?_
  obtain ⟨r1, er1, hf⟩ := xbd_s hf
  refine z_L (Γ := Γ) (a := a) (As := [.ref (Γ.2.1 1470), .int v1, .ref (Γ.2.1 1481)]) (rest := []) S9 (m_L_baseOf l hlt er1) (vx_cwSW 3 hts (zgS lw_sub q584 q585 q144 q586) rfl rfl rfl hdL_baseOf ⟨Nat.le_of_ble_eq_true rfl, Nat.le_of_ble_eq_true rfl⟩) hd hz h rfl hl.1 rfl (Nat.le_of_ble_eq_true rfl) dL_law_1211 ⟨by show cells + 1 ≤ 603072; omega, by show slots + 6 ≤ 7190634; omega⟩ (fun H locs h => ?_)
  refine lv_istore (lv' := [(6, .int r1.2), (5, .int (Int32.ofNat i)), (4, .ref (Γ.2.1 1482)), (3, .ref (Γ.2.1 1481)), (2, .ref (a 0)), (1, .ref (Γ.2.1 1470)), (0, .ref b)]) hx hb dL_law_1214 hl (by decide) rfl (fun ls hl => ?_)
  refine lv_aload_n hx hb dL_law_1216 rfl (lv_at hl 4 rfl) ?_
  refine lv_aload_n hx hb dL_law_1217 rfl (lv_at hl 6 rfl) ?_
  refine lv_iload hx hb dL_law_1218 (lv_at hl 1 rfl) ?_
  refine lv_iconst (v := 1) hx hb dL_law_1220 (by decide) ?_
  refine lv_iadd hx hb dL_law_1221 ?_
  refine z_sld hx hb hX hbl hL hi h.2.2.2 (k := 1) (by decide) hv1 dL_law_1222 ?_
  obtain ⟨r2, er2, hf⟩ := xbd_s hf
  refine z_Ri (Γ := Γ) (a := a) (As := [.int v1]) (rest := []) S9 (m_X10_baseOf l (Γ := gR Γ a) er2) (cwV 1 hts (xgV lw_sub q592 q593 q594 q5 q595) rfl rfl rfl hdX10_baseOf ⟨Nat.le_of_ble_eq_true rfl, Nat.le_of_ble_eq_true rfl⟩) hd h rfl hl.1 rfl (Nat.le_of_ble_eq_true rfl) dL_law_1223 ⟨by show cells + 1 + 0 ≤ 603072; omega, by show slots + 6 + 0 ≤ 7190634; omega⟩ (fun H locs h => ?_)
  refine lv_istore (lv' := [(7, .int r2.2), (6, .int r1.2), (5, .int (Int32.ofNat i)), (4, .ref (Γ.2.1 1482)), (3, .ref (Γ.2.1 1481)), (2, .ref (a 0)), (1, .ref (Γ.2.1 1470)), (0, .ref b)]) hx hb dL_law_1226 hl (by decide) rfl (fun ls hl => ?_)
  refine lv_aload_n hx hb dL_law_1228 rfl (lv_at hl 5 rfl) ?_
  obtain ⟨r3, er3, hf⟩ := xbd_s hf
  refine z_Ri (Γ := Γ) (a := a) (As := []) (rest := []) S9 (m_X10_thrown l (Γ := gR Γ a) er3) (cwV 0 hts (xgV lw_sub q225 q226 q227 q5 q228) rfl rfl rfl hdX10_thrown ⟨Nat.le_of_ble_eq_true rfl, Nat.le_of_ble_eq_true rfl⟩) hd h rfl hl.1 rfl (Nat.le_of_ble_eq_true rfl) dL_law_1229 ⟨by show cells + 1 + 0 + 0 ≤ 603072; omega, by show slots + 6 + 0 + 0 ≤ 7190634; omega⟩ (fun H locs h => ?_)
  refine lv_iload hx hb dL_law_1232 (lv_at hl 1 rfl) ?_
  refine lv_icmp_eq (tgt := 1239) hx hb dL_law_1234 (by decide) (fun c4 => ?_) (fun c4 => ?_)
  · replace hf := xif_t hf c4
    refine lv_iload hx hb dL_law_1239 (lv_at hl 1 rfl) ?_
    refine lv_if_ne (tgt := 1256) hx hb dL_law_1241 (by decide) (fun c5 => ?_) (fun c5 => ?_)
    · replace hf := xif_f hf c5
      refine lv_goto (tgt := 2488) hx hb dL_law_1256 (by decide) ?_
      obtain rfl := Option.some.inj hf
      refine W.widen (k := cells + 5) (n := slots + 30) (by omega) (by omega) ?_
      exact kk _ _ _ h (lv_sub hl [2, 3, 4, 5, 6, 7] rfl)
    · replace hf := xif_t hf c5
      refine lv_aload_n hx hb dL_law_1244 rfl (lv_at hl 4 rfl) ?_
      refine lv_iconst (v := 0) hx hb dL_law_1245 (by decide) ?_
      refine x_lald hx hb (zH_X hd h) kX_out (xin_in (by decide)) dL_law_1246 ?_
      refine lv_iload hx hb dL_law_1247 (lv_at hl 0 rfl) ?_
      refine lv_i2l (v := (r2.2).toInt64) hx hb dL_law_1249 rfl ?_
      refine W.lcmp hx hb dL_law_1250 ?_
      refine lv_if_eq (tgt := 1256) hx hb dL_law_1251 (by decide) (fun c6 => ?_) (fun c6 => ?_)
      · replace hf := xif_t hf c6
        refine lv_goto (tgt := 2488) hx hb dL_law_1256 (by decide) ?_
        obtain rfl := Option.some.inj hf
        refine W.widen (k := cells + 5) (n := slots + 30) (by omega) (by omega) ?_
        exact kk _ _ _ h (lv_sub hl [2, 3, 4, 5, 6, 7] rfl)
      · replace hf := xif_f hf c6
        refine lv_iconst (v := 0) hx hb dL_law_1254 (by decide) ?_
        cases hf
  · replace hf := xif_f hf c4
    refine lv_iconst (v := 0) hx hb dL_law_1237 (by decide) ?_
    cases hf
set_option maxHeartbeats 4000000 in
set_option maxRecDepth 100000 in
theorem law_16 {p : Program} (l : Launch) {e : Env} {s : State} {m : MethodId} {args : Array Value} {below : List Frame} {meth : Method} {c : Code} {H : Heap} {locs : List Loc} {cells slots : Nat} {Q : State → Prop} {ls : Array Slot} {Γ : xG} {a : Nat → Nat} {M R : xM} {N b L i : Nat} {xs : Nat → Int32} {q : xM × xM} {v1 v2 v3 v4 v5 v6 : Int32}
    (hlt : l.stackTraces = false) (S9 : CallFix p m c cL_law 9 s args lw_tbl RL) (hd : zD Γ a s.heap.size) (hz : zZ s) (hX : va_X b L xs s s.heap) (hbl : b < s.heap.size) (hL : L ≤ 3584) (hi : i + 7 ≤ L) (hv1 : xs (i + 1) = v1) (hv2 : xs (i + 2) = v2) (hv3 : xs (i + 3) = v3) (hv4 : xs (i + 4) = v4) (hv5 : xs (i + 5) = v5) (hv6 : xs (i + 6) = v6) (hc : cells + 5 ≤ 603072) (hs : slots + 30 ≤ 7190634)
    (hf : zOp_16 N v1 v2 v3 v4 v5 v6 M R = some q) (h : zH Γ a s M R H locs) (hl : lv_has ls 9 [(5, .int (Int32.ofNat i)), (4, .ref (Γ.2.1 1482)), (3, .ref (Γ.2.1 1481)), (2, .ref (a 0)), (1, .ref (Γ.2.1 1470)), (0, .ref b)])
    (kk : ∀ (H : Heap) (locs : List Loc) (ls : Array Slot), zH Γ a s q.1 q.2 H locs → lv_has ls 9 [(5, .int (Int32.ofNat i)), (4, .ref (Γ.2.1 1482)), (3, .ref (Γ.2.1 1481)), (2, .ref (a 0)), (1, .ref (Γ.2.1 1470)), (0, .ref b)] → W p l e room_1 s m args below meth c H locs (cells + 5) (slots + 30) Q (F0 m 2488 ls [])) : W p l e room_1 s m args below meth c H locs cells slots Q (F0 m 1259 ls []) := by
  obtain ⟨hx, hb, hml, hown, hts⟩ := id S9
  refine lv_aload_n hx hb dL_law_1259 rfl (lv_at hl 4 rfl) ?_
  refine lv_aload_n hx hb dL_law_1260 rfl (lv_at hl 5 rfl) ?_
  refine lv_iload hx hb dL_law_1261 (lv_at hl 0 rfl) ?_
  refine lv_iconst (v := 1) hx hb dL_law_1263 (by decide) ?_
  refine lv_iadd hx hb dL_law_1264 ?_
  refine z_sld hx hb hX hbl hL hi h.2.2.2 (k := 1) (by decide) hv1 dL_law_1265 ?_
  refine lv_aload_n hx hb dL_law_1266 rfl (lv_at hl 2 rfl) ?_
  obtain ⟨r1, er1, hf⟩ := xbd_s hf
  refine z_L (Γ := Γ) (a := a) (As := [.ref (Γ.2.1 1470), .int v1, .ref (Γ.2.1 1481)]) (rest := []) S9 (m_L_closest l hlt er1) (vx_cwSW 3 hts (zgS lw_sub q596 q597 q144 q598) rfl rfl rfl hdL_closest ⟨Nat.le_of_ble_eq_true rfl, Nat.le_of_ble_eq_true rfl⟩) hd hz h rfl hl.1 rfl (Nat.le_of_ble_eq_true rfl) dL_law_1267 ⟨by show cells + 1 ≤ 603072; omega, by show slots + 6 ≤ 7190634; omega⟩ (fun H locs h => ?_)
  refine lv_istore (lv' := [(6, .int r1.2), (5, .int (Int32.ofNat i)), (4, .ref (Γ.2.1 1482)), (3, .ref (Γ.2.1 1481)), (2, .ref (a 0)), (1, .ref (Γ.2.1 1470)), (0, .ref b)]) hx hb dL_law_1270 hl (by decide) rfl (fun ls hl => ?_)
  refine lv_aload_n hx hb dL_law_1272 rfl (lv_at hl 4 rfl) ?_
  refine lv_aload_n hx hb dL_law_1273 rfl (lv_at hl 6 rfl) ?_
  refine lv_iload hx hb dL_law_1274 (lv_at hl 1 rfl) ?_
  refine lv_iconst (v := 1) hx hb dL_law_1276 (by decide) ?_
  refine lv_iadd hx hb dL_law_1277 ?_
  refine z_sld hx hb hX hbl hL hi h.2.2.2 (k := 1) (by decide) hv1 dL_law_1278 ?_
  obtain ⟨r2, er2, hf⟩ := xbd_s hf
  refine z_Ri (Γ := Γ) (a := a) (As := [.int v1]) (rest := []) S9 (m_X10_closest l (Γ := gR Γ a) er2) (cwV 1 hts (xgV lw_sub q622 q623 q624 q5 q625) rfl rfl rfl hdX10_closest ⟨Nat.le_of_ble_eq_true rfl, Nat.le_of_ble_eq_true rfl⟩) hd h rfl hl.1 rfl (Nat.le_of_ble_eq_true rfl) dL_law_1279 ⟨by show cells + 1 + 0 ≤ 603072; omega, by show slots + 6 + 0 ≤ 7190634; omega⟩ (fun H locs h => ?_)
  refine lv_istore (lv' := [(7, .int r2.2), (6, .int r1.2), (5, .int (Int32.ofNat i)), (4, .ref (Γ.2.1 1482)), (3, .ref (Γ.2.1 1481)), (2, .ref (a 0)), (1, .ref (Γ.2.1 1470)), (0, .ref b)]) hx hb dL_law_1282 hl (by decide) rfl (fun ls hl => ?_)
  refine lv_aload_n hx hb dL_law_1284 rfl (lv_at hl 5 rfl) ?_
  obtain ⟨r3, er3, hf⟩ := xbd_s hf
  refine z_Ri (Γ := Γ) (a := a) (As := []) (rest := []) S9 (m_X10_thrown l (Γ := gR Γ a) er3) (cwV 0 hts (xgV lw_sub q225 q226 q227 q5 q228) rfl rfl rfl hdX10_thrown ⟨Nat.le_of_ble_eq_true rfl, Nat.le_of_ble_eq_true rfl⟩) hd h rfl hl.1 rfl (Nat.le_of_ble_eq_true rfl) dL_law_1285 ⟨by show cells + 1 + 0 + 0 ≤ 603072; omega, by show slots + 6 + 0 + 0 ≤ 7190634; omega⟩ (fun H locs h => ?_)
  refine lv_iload hx hb dL_law_1288 (lv_at hl 1 rfl) ?_
  refine lv_icmp_eq (tgt := 1295) hx hb dL_law_1290 (by decide) (fun c4 => ?_) (fun c4 => ?_)
  · replace hf := xif_t hf c4
    refine lv_iload hx hb dL_law_1295 (lv_at hl 1 rfl) ?_
    refine lv_if_ne (tgt := 1312) hx hb dL_law_1297 (by decide) (fun c5 => ?_) (fun c5 => ?_)
    · replace hf := xif_f hf c5
      refine lv_goto (tgt := 2488) hx hb dL_law_1312 (by decide) ?_
      obtain rfl := Option.some.inj hf
      refine W.widen (k := cells + 5) (n := slots + 30) (by omega) (by omega) ?_
      exact kk _ _ _ h (lv_sub hl [2, 3, 4, 5, 6, 7] rfl)
    · replace hf := xif_t hf c5
      refine lv_aload_n hx hb dL_law_1300 rfl (lv_at hl 4 rfl) ?_
      refine lv_iconst (v := 0) hx hb dL_law_1301 (by decide) ?_
      refine x_lald hx hb (zH_X hd h) kX_out (xin_in (by decide)) dL_law_1302 ?_
      refine lv_iload hx hb dL_law_1303 (lv_at hl 0 rfl) ?_
      refine lv_i2l (v := (r2.2).toInt64) hx hb dL_law_1305 rfl ?_
      refine W.lcmp hx hb dL_law_1306 ?_
      refine lv_if_eq (tgt := 1312) hx hb dL_law_1307 (by decide) (fun c6 => ?_) (fun c6 => ?_)
      · replace hf := xif_t hf c6
        refine lv_goto (tgt := 2488) hx hb dL_law_1312 (by decide) ?_
        obtain rfl := Option.some.inj hf
        refine W.widen (k := cells + 5) (n := slots + 30) (by omega) (by omega) ?_
        exact kk _ _ _ h (lv_sub hl [2, 3, 4, 5, 6, 7] rfl)
      · replace hf := xif_f hf c6
        refine lv_iconst (v := 0) hx hb dL_law_1310 (by decide) ?_
        cases hf
  · replace hf := xif_f hf c4
    refine lv_iconst (v := 0) hx hb dL_law_1293 (by decide) ?_
    cases hf
set_option maxHeartbeats 4000000 in
set_option maxRecDepth 100000 in
theorem law_17 {p : Program} (l : Launch) {e : Env} {s : State} {m : MethodId} {args : Array Value} {below : List Frame} {meth : Method} {c : Code} {H : Heap} {locs : List Loc} {cells slots : Nat} {Q : State → Prop} {ls : Array Slot} {Γ : xG} {a : Nat → Nat} {M R : xM} {N b L i : Nat} {xs : Nat → Int32} {q : xM × xM} {v1 v2 v3 v4 v5 v6 : Int32}
    (hlt : l.stackTraces = false) (S9 : CallFix p m c cL_law 9 s args lw_tbl RL) (hd : zD Γ a s.heap.size) (hz : zZ s) (hX : va_X b L xs s s.heap) (hbl : b < s.heap.size) (hL : L ≤ 3584) (hi : i + 7 ≤ L) (hv1 : xs (i + 1) = v1) (hv2 : xs (i + 2) = v2) (hv3 : xs (i + 3) = v3) (hv4 : xs (i + 4) = v4) (hv5 : xs (i + 5) = v5) (hv6 : xs (i + 6) = v6) (hc : cells + 5 ≤ 603072) (hs : slots + 30 ≤ 7190634)
    (hf : zOp_17 N v1 v2 v3 v4 v5 v6 M R = some q) (h : zH Γ a s M R H locs) (hl : lv_has ls 9 [(5, .int (Int32.ofNat i)), (4, .ref (Γ.2.1 1482)), (3, .ref (Γ.2.1 1481)), (2, .ref (a 0)), (1, .ref (Γ.2.1 1470)), (0, .ref b)])
    (kk : ∀ (H : Heap) (locs : List Loc) (ls : Array Slot), zH Γ a s q.1 q.2 H locs → lv_has ls 9 [(5, .int (Int32.ofNat i)), (4, .ref (Γ.2.1 1482)), (3, .ref (Γ.2.1 1481)), (2, .ref (a 0)), (1, .ref (Γ.2.1 1470)), (0, .ref b)] → W p l e room_1 s m args below meth c H locs (cells + 5) (slots + 30) Q (F0 m 2488 ls [])) : W p l e room_1 s m args below meth c H locs cells slots Q (F0 m 1315 ls []) := by
  obtain ⟨hx, hb, hml, hown, hts⟩ := id S9
  refine lv_aload_n hx hb dL_law_1315 rfl (lv_at hl 4 rfl) ?_
  refine lv_aload_n hx hb dL_law_1316 rfl (lv_at hl 5 rfl) ?_
  refine lv_iload hx hb dL_law_1317 (lv_at hl 0 rfl) ?_
  refine lv_iconst (v := 1) hx hb dL_law_1319 (by decide) ?_
  refine lv_iadd hx hb dL_law_1320 ?_
  refine z_sld hx hb hX hbl hL hi h.2.2.2 (k := 1) (by decide) hv1 dL_law_1321 ?_
  refine lv_aload_n hx hb dL_law_1322 rfl (lv_at hl 2 rfl) ?_
  obtain ⟨r1, er1, hf⟩ := xbd_s hf
  refine z_L (Γ := Γ) (a := a) (As := [.ref (Γ.2.1 1470), .int v1, .ref (Γ.2.1 1481)]) (rest := []) S9 (m_L_mix l hlt er1) (vx_cwSW 3 hts (zgS lw_sub q634 q635 q144 q636) rfl rfl rfl hdL_mix ⟨Nat.le_of_ble_eq_true rfl, Nat.le_of_ble_eq_true rfl⟩) hd hz h rfl hl.1 rfl (Nat.le_of_ble_eq_true rfl) dL_law_1323 ⟨by show cells + 2 ≤ 603072; omega, by show slots + 12 ≤ 7190634; omega⟩ (fun H locs h => ?_)
  refine lv_istore (lv' := [(6, .int r1.2), (5, .int (Int32.ofNat i)), (4, .ref (Γ.2.1 1482)), (3, .ref (Γ.2.1 1481)), (2, .ref (a 0)), (1, .ref (Γ.2.1 1470)), (0, .ref b)]) hx hb dL_law_1326 hl (by decide) rfl (fun ls hl => ?_)
  refine lv_aload_n hx hb dL_law_1328 rfl (lv_at hl 4 rfl) ?_
  refine lv_aload_n hx hb dL_law_1329 rfl (lv_at hl 6 rfl) ?_
  refine lv_iload hx hb dL_law_1330 (lv_at hl 1 rfl) ?_
  refine lv_iconst (v := 1) hx hb dL_law_1332 (by decide) ?_
  refine lv_iadd hx hb dL_law_1333 ?_
  refine z_sld hx hb hX hbl hL hi h.2.2.2 (k := 1) (by decide) hv1 dL_law_1334 ?_
  obtain ⟨r2, er2, hf⟩ := xbd_s hf
  refine z_Ri (Γ := Γ) (a := a) (As := [.int v1]) (rest := []) S9 (m_X10_mix l (Γ := gR Γ a) er2) (cwV 1 hts (xgV lw_sub q677 q678 q679 q5 q680) rfl rfl rfl hdX10_mix ⟨Nat.le_of_ble_eq_true rfl, Nat.le_of_ble_eq_true rfl⟩) hd h rfl hl.1 rfl (Nat.le_of_ble_eq_true rfl) dL_law_1335 ⟨by show cells + 2 + 0 ≤ 603072; omega, by show slots + 12 + 0 ≤ 7190634; omega⟩ (fun H locs h => ?_)
  refine lv_istore (lv' := [(7, .int r2.2), (6, .int r1.2), (5, .int (Int32.ofNat i)), (4, .ref (Γ.2.1 1482)), (3, .ref (Γ.2.1 1481)), (2, .ref (a 0)), (1, .ref (Γ.2.1 1470)), (0, .ref b)]) hx hb dL_law_1338 hl (by decide) rfl (fun ls hl => ?_)
  refine lv_aload_n hx hb dL_law_1340 rfl (lv_at hl 5 rfl) ?_
  obtain ⟨r3, er3, hf⟩ := xbd_s hf
  refine z_Ri (Γ := Γ) (a := a) (As := []) (rest := []) S9 (m_X10_thrown l (Γ := gR Γ a) er3) (cwV 0 hts (xgV lw_sub q225 q226 q227 q5 q228) rfl rfl rfl hdX10_thrown ⟨Nat.le_of_ble_eq_true rfl, Nat.le_of_ble_eq_true rfl⟩) hd h rfl hl.1 rfl (Nat.le_of_ble_eq_true rfl) dL_law_1341 ⟨by show cells + 2 + 0 + 0 ≤ 603072; omega, by show slots + 12 + 0 + 0 ≤ 7190634; omega⟩ (fun H locs h => ?_)
  refine lv_iload hx hb dL_law_1344 (lv_at hl 1 rfl) ?_
  refine lv_icmp_eq (tgt := 1351) hx hb dL_law_1346 (by decide) (fun c4 => ?_) (fun c4 => ?_)
  · replace hf := xif_t hf c4
    refine lv_iload hx hb dL_law_1351 (lv_at hl 1 rfl) ?_
    refine lv_if_ne (tgt := 1368) hx hb dL_law_1353 (by decide) (fun c5 => ?_) (fun c5 => ?_)
    · replace hf := xif_f hf c5
      refine lv_goto (tgt := 2488) hx hb dL_law_1368 (by decide) ?_
      obtain rfl := Option.some.inj hf
      refine W.widen (k := cells + 5) (n := slots + 30) (by omega) (by omega) ?_
      exact kk _ _ _ h (lv_sub hl [2, 3, 4, 5, 6, 7] rfl)
    · replace hf := xif_t hf c5
      refine lv_aload_n hx hb dL_law_1356 rfl (lv_at hl 4 rfl) ?_
      refine lv_iconst (v := 0) hx hb dL_law_1357 (by decide) ?_
      refine x_lald hx hb (zH_X hd h) kX_out (xin_in (by decide)) dL_law_1358 ?_
      refine lv_iload hx hb dL_law_1359 (lv_at hl 0 rfl) ?_
      refine lv_i2l (v := (r2.2).toInt64) hx hb dL_law_1361 rfl ?_
      refine W.lcmp hx hb dL_law_1362 ?_
      refine lv_if_eq (tgt := 1368) hx hb dL_law_1363 (by decide) (fun c6 => ?_) (fun c6 => ?_)
      · replace hf := xif_t hf c6
        refine lv_goto (tgt := 2488) hx hb dL_law_1368 (by decide) ?_
        obtain rfl := Option.some.inj hf
        refine W.widen (k := cells + 5) (n := slots + 30) (by omega) (by omega) ?_
        exact kk _ _ _ h (lv_sub hl [2, 3, 4, 5, 6, 7] rfl)
      · replace hf := xif_f hf c6
        refine lv_iconst (v := 0) hx hb dL_law_1366 (by decide) ?_
        cases hf
  · replace hf := xif_f hf c4
    refine lv_iconst (v := 0) hx hb dL_law_1349 (by decide) ?_
    cases hf
set_option maxHeartbeats 4000000 in
set_option maxRecDepth 100000 in
theorem law_18 {p : Program} (l : Launch) {e : Env} {s : State} {m : MethodId} {args : Array Value} {below : List Frame} {meth : Method} {c : Code} {H : Heap} {locs : List Loc} {cells slots : Nat} {Q : State → Prop} {ls : Array Slot} {Γ : xG} {a : Nat → Nat} {M R : xM} {N b L i : Nat} {xs : Nat → Int32} {q : xM × xM} {v1 v2 v3 v4 v5 v6 : Int32}
    (hlt : l.stackTraces = false) (S9 : CallFix p m c cL_law 9 s args lw_tbl RL) (hd : zD Γ a s.heap.size) (hz : zZ s) (hX : va_X b L xs s s.heap) (hbl : b < s.heap.size) (hL : L ≤ 3584) (hi : i + 7 ≤ L) (hv1 : xs (i + 1) = v1) (hv2 : xs (i + 2) = v2) (hv3 : xs (i + 3) = v3) (hv4 : xs (i + 4) = v4) (hv5 : xs (i + 5) = v5) (hv6 : xs (i + 6) = v6) (hc : cells + 5 ≤ 603072) (hs : slots + 30 ≤ 7190634)
    (hf : zOp_18 N v1 v2 v3 v4 v5 v6 M R = some q) (h : zH Γ a s M R H locs) (hl : lv_has ls 9 [(5, .int (Int32.ofNat i)), (4, .ref (Γ.2.1 1482)), (3, .ref (Γ.2.1 1481)), (2, .ref (a 0)), (1, .ref (Γ.2.1 1470)), (0, .ref b)])
    (kk : ∀ (H : Heap) (locs : List Loc) (ls : Array Slot), zH Γ a s q.1 q.2 H locs → lv_has ls 9 [(5, .int (Int32.ofNat i)), (4, .ref (Γ.2.1 1482)), (3, .ref (Γ.2.1 1481)), (2, .ref (a 0)), (1, .ref (Γ.2.1 1470)), (0, .ref b)] → W p l e room_1 s m args below meth c H locs (cells + 5) (slots + 30) Q (F0 m 2488 ls [])) : W p l e room_1 s m args below meth c H locs cells slots Q (F0 m 1371 ls []) := by
  obtain ⟨hx, hb, hml, hown, hts⟩ := id S9
  refine lv_aload_n hx hb dL_law_1371 rfl (lv_at hl 4 rfl) ?_
  refine lv_aload_n hx hb dL_law_1372 rfl (lv_at hl 5 rfl) ?_
  refine lv_iload hx hb dL_law_1373 (lv_at hl 0 rfl) ?_
  refine lv_iconst (v := 1) hx hb dL_law_1375 (by decide) ?_
  refine lv_iadd hx hb dL_law_1376 ?_
  refine z_sld hx hb hX hbl hL hi h.2.2.2 (k := 1) (by decide) hv1 dL_law_1377 ?_
  refine lv_aload_n hx hb dL_law_1378 rfl (lv_at hl 2 rfl) ?_
  obtain ⟨r1, er1, hf⟩ := xbd_s hf
  refine z_L (Γ := Γ) (a := a) (As := [.ref (Γ.2.1 1470), .int v1, .ref (Γ.2.1 1481)]) (rest := []) S9 (m_L_possible l hlt er1) (vx_cwSW 3 hts (zgS lw_sub q699 q700 q144 q701) rfl rfl rfl hdL_possible ⟨Nat.le_of_ble_eq_true rfl, Nat.le_of_ble_eq_true rfl⟩) hd hz h rfl hl.1 rfl (Nat.le_of_ble_eq_true rfl) dL_law_1379 ⟨by show cells + 1 ≤ 603072; omega, by show slots + 6 ≤ 7190634; omega⟩ (fun H locs h => ?_)
  refine lv_istore (lv' := [(6, .int r1.2), (5, .int (Int32.ofNat i)), (4, .ref (Γ.2.1 1482)), (3, .ref (Γ.2.1 1481)), (2, .ref (a 0)), (1, .ref (Γ.2.1 1470)), (0, .ref b)]) hx hb dL_law_1382 hl (by decide) rfl (fun ls hl => ?_)
  refine lv_aload_n hx hb dL_law_1384 rfl (lv_at hl 4 rfl) ?_
  refine lv_aload_n hx hb dL_law_1385 rfl (lv_at hl 6 rfl) ?_
  refine lv_iload hx hb dL_law_1386 (lv_at hl 1 rfl) ?_
  refine lv_iconst (v := 1) hx hb dL_law_1388 (by decide) ?_
  refine lv_iadd hx hb dL_law_1389 ?_
  refine z_sld hx hb hX hbl hL hi h.2.2.2 (k := 1) (by decide) hv1 dL_law_1390 ?_
  obtain ⟨r2, er2, hf⟩ := xbd_s hf
  refine z_Ri (Γ := Γ) (a := a) (As := [.int v1]) (rest := []) S9 (m_X10_possible l (Γ := gR Γ a) er2) (cwV 1 hts (xgV lw_sub q711 q712 q713 q5 q714) rfl rfl rfl hdX10_possible ⟨Nat.le_of_ble_eq_true rfl, Nat.le_of_ble_eq_true rfl⟩) hd h rfl hl.1 rfl (Nat.le_of_ble_eq_true rfl) dL_law_1391 ⟨by show cells + 1 + 0 ≤ 603072; omega, by show slots + 6 + 0 ≤ 7190634; omega⟩ (fun H locs h => ?_)
  refine lv_istore (lv' := [(7, .int r2.2), (6, .int r1.2), (5, .int (Int32.ofNat i)), (4, .ref (Γ.2.1 1482)), (3, .ref (Γ.2.1 1481)), (2, .ref (a 0)), (1, .ref (Γ.2.1 1470)), (0, .ref b)]) hx hb dL_law_1394 hl (by decide) rfl (fun ls hl => ?_)
  refine lv_aload_n hx hb dL_law_1396 rfl (lv_at hl 5 rfl) ?_
  obtain ⟨r3, er3, hf⟩ := xbd_s hf
  refine z_Ri (Γ := Γ) (a := a) (As := []) (rest := []) S9 (m_X10_thrown l (Γ := gR Γ a) er3) (cwV 0 hts (xgV lw_sub q225 q226 q227 q5 q228) rfl rfl rfl hdX10_thrown ⟨Nat.le_of_ble_eq_true rfl, Nat.le_of_ble_eq_true rfl⟩) hd h rfl hl.1 rfl (Nat.le_of_ble_eq_true rfl) dL_law_1397 ⟨by show cells + 1 + 0 + 0 ≤ 603072; omega, by show slots + 6 + 0 + 0 ≤ 7190634; omega⟩ (fun H locs h => ?_)
  refine lv_iload hx hb dL_law_1400 (lv_at hl 1 rfl) ?_
  refine lv_icmp_eq (tgt := 1407) hx hb dL_law_1402 (by decide) (fun c4 => ?_) (fun c4 => ?_)
  · replace hf := xif_t hf c4
    refine lv_iload hx hb dL_law_1407 (lv_at hl 1 rfl) ?_
    refine lv_if_ne (tgt := 1424) hx hb dL_law_1409 (by decide) (fun c5 => ?_) (fun c5 => ?_)
    · replace hf := xif_f hf c5
      refine lv_goto (tgt := 2488) hx hb dL_law_1424 (by decide) ?_
      obtain rfl := Option.some.inj hf
      refine W.widen (k := cells + 5) (n := slots + 30) (by omega) (by omega) ?_
      exact kk _ _ _ h (lv_sub hl [2, 3, 4, 5, 6, 7] rfl)
    · replace hf := xif_t hf c5
      refine lv_aload_n hx hb dL_law_1412 rfl (lv_at hl 4 rfl) ?_
      refine lv_iconst (v := 0) hx hb dL_law_1413 (by decide) ?_
      refine x_lald hx hb (zH_X hd h) kX_out (xin_in (by decide)) dL_law_1414 ?_
      refine lv_iload hx hb dL_law_1415 (lv_at hl 0 rfl) ?_
      refine lv_i2l (v := (r2.2).toInt64) hx hb dL_law_1417 rfl ?_
      refine W.lcmp hx hb dL_law_1418 ?_
      refine lv_if_eq (tgt := 1424) hx hb dL_law_1419 (by decide) (fun c6 => ?_) (fun c6 => ?_)
      · replace hf := xif_t hf c6
        refine lv_goto (tgt := 2488) hx hb dL_law_1424 (by decide) ?_
        obtain rfl := Option.some.inj hf
        refine W.widen (k := cells + 5) (n := slots + 30) (by omega) (by omega) ?_
        exact kk _ _ _ h (lv_sub hl [2, 3, 4, 5, 6, 7] rfl)
      · replace hf := xif_f hf c6
        refine lv_iconst (v := 0) hx hb dL_law_1422 (by decide) ?_
        cases hf
  · replace hf := xif_f hf c4
    refine lv_iconst (v := 0) hx hb dL_law_1405 (by decide) ?_
    cases hf
set_option maxHeartbeats 4000000 in
set_option maxRecDepth 100000 in
theorem law_19 {p : Program} (l : Launch) {e : Env} {s : State} {m : MethodId} {args : Array Value} {below : List Frame} {meth : Method} {c : Code} {H : Heap} {locs : List Loc} {cells slots : Nat} {Q : State → Prop} {ls : Array Slot} {Γ : xG} {a : Nat → Nat} {M R : xM} {N b L i : Nat} {xs : Nat → Int32} {q : xM × xM} {v1 v2 v3 v4 v5 v6 : Int32}
    (hlt : l.stackTraces = false) (S9 : CallFix p m c cL_law 9 s args lw_tbl RL) (hd : zD Γ a s.heap.size) (hz : zZ s) (hX : va_X b L xs s s.heap) (hbl : b < s.heap.size) (hL : L ≤ 3584) (hi : i + 7 ≤ L) (hv1 : xs (i + 1) = v1) (hv2 : xs (i + 2) = v2) (hv3 : xs (i + 3) = v3) (hv4 : xs (i + 4) = v4) (hv5 : xs (i + 5) = v5) (hv6 : xs (i + 6) = v6) (hc : cells + 5 ≤ 603072) (hs : slots + 30 ≤ 7190634)
    (hf : zOp_19 N v1 v2 v3 v4 v5 v6 M R = some q) (h : zH Γ a s M R H locs) (hl : lv_has ls 9 [(5, .int (Int32.ofNat i)), (4, .ref (Γ.2.1 1482)), (3, .ref (Γ.2.1 1481)), (2, .ref (a 0)), (1, .ref (Γ.2.1 1470)), (0, .ref b)])
    (kk : ∀ (H : Heap) (locs : List Loc) (ls : Array Slot), zH Γ a s q.1 q.2 H locs → lv_has ls 9 [(5, .int (Int32.ofNat i)), (4, .ref (Γ.2.1 1482)), (3, .ref (Γ.2.1 1481)), (2, .ref (a 0)), (1, .ref (Γ.2.1 1470)), (0, .ref b)] → W p l e room_1 s m args below meth c H locs (cells + 5) (slots + 30) Q (F0 m 2488 ls [])) : W p l e room_1 s m args below meth c H locs cells slots Q (F0 m 1427 ls []) := by
  obtain ⟨hx, hb, hml, hown, hts⟩ := id S9
  refine lv_aload_n hx hb dL_law_1427 rfl (lv_at hl 4 rfl) ?_
  refine lv_aload_n hx hb dL_law_1428 rfl (lv_at hl 2 rfl) ?_
  obtain ⟨r1, er1, hf⟩ := xbd_s hf
  refine z_L (Γ := Γ) (a := a) (As := [.ref (Γ.2.1 1470), .ref (Γ.2.1 1481)]) (rest := []) S9 (m_L_refusal l hlt er1) (vx_cwSW 2 hts (zgS lw_sub q715 q716 q144 q717) rfl rfl rfl hdL_refusal ⟨Nat.le_of_ble_eq_true rfl, Nat.le_of_ble_eq_true rfl⟩) hd hz h rfl hl.1 rfl (Nat.le_of_ble_eq_true rfl) dL_law_1429 ⟨by show cells + 1 ≤ 603072; omega, by show slots + 6 ≤ 7190634; omega⟩ (fun H locs h => ?_)
  refine lv_istore (lv' := [(6, .int r1.2), (5, .int (Int32.ofNat i)), (4, .ref (Γ.2.1 1482)), (3, .ref (Γ.2.1 1481)), (2, .ref (a 0)), (1, .ref (Γ.2.1 1470)), (0, .ref b)]) hx hb dL_law_1432 hl (by decide) rfl (fun ls hl => ?_)
  refine lv_aload_n hx hb dL_law_1434 rfl (lv_at hl 4 rfl) ?_
  obtain ⟨r2, er2, hf⟩ := xbd_s hf
  refine z_Ri (Γ := Γ) (a := a) (As := []) (rest := []) S9 (m_X10_refusal l (Γ := gR Γ a) er2) (cwV 0 hts (xgV lw_sub q722 q723 q724 q5 q725) rfl rfl rfl hdX10_refusal ⟨Nat.le_of_ble_eq_true rfl, Nat.le_of_ble_eq_true rfl⟩) hd h rfl hl.1 rfl (Nat.le_of_ble_eq_true rfl) dL_law_1435 ⟨by show cells + 1 + 0 ≤ 603072; omega, by show slots + 6 + 0 ≤ 7190634; omega⟩ (fun H locs h => ?_)
  refine lv_istore (lv' := [(7, .int r2.2), (6, .int r1.2), (5, .int (Int32.ofNat i)), (4, .ref (Γ.2.1 1482)), (3, .ref (Γ.2.1 1481)), (2, .ref (a 0)), (1, .ref (Γ.2.1 1470)), (0, .ref b)]) hx hb dL_law_1438 hl (by decide) rfl (fun ls hl => ?_)
  refine lv_aload_n hx hb dL_law_1440 rfl (lv_at hl 5 rfl) ?_
  obtain ⟨r3, er3, hf⟩ := xbd_s hf
  refine z_Ri (Γ := Γ) (a := a) (As := []) (rest := []) S9 (m_X10_thrown l (Γ := gR Γ a) er3) (cwV 0 hts (xgV lw_sub q225 q226 q227 q5 q228) rfl rfl rfl hdX10_thrown ⟨Nat.le_of_ble_eq_true rfl, Nat.le_of_ble_eq_true rfl⟩) hd h rfl hl.1 rfl (Nat.le_of_ble_eq_true rfl) dL_law_1441 ⟨by show cells + 1 + 0 + 0 ≤ 603072; omega, by show slots + 6 + 0 + 0 ≤ 7190634; omega⟩ (fun H locs h => ?_)
  refine lv_iload hx hb dL_law_1444 (lv_at hl 1 rfl) ?_
  refine lv_icmp_eq (tgt := 1451) hx hb dL_law_1446 (by decide) (fun c4 => ?_) (fun c4 => ?_)
  · replace hf := xif_t hf c4
    refine lv_iload hx hb dL_law_1451 (lv_at hl 1 rfl) ?_
    refine lv_if_ne (tgt := 1468) hx hb dL_law_1453 (by decide) (fun c5 => ?_) (fun c5 => ?_)
    · replace hf := xif_f hf c5
      refine lv_goto (tgt := 2488) hx hb dL_law_1468 (by decide) ?_
      obtain rfl := Option.some.inj hf
      refine W.widen (k := cells + 5) (n := slots + 30) (by omega) (by omega) ?_
      exact kk _ _ _ h (lv_sub hl [2, 3, 4, 5, 6, 7] rfl)
    · replace hf := xif_t hf c5
      refine lv_aload_n hx hb dL_law_1456 rfl (lv_at hl 4 rfl) ?_
      refine lv_iconst (v := 0) hx hb dL_law_1457 (by decide) ?_
      refine x_lald hx hb (zH_X hd h) kX_out (xin_in (by decide)) dL_law_1458 ?_
      refine lv_iload hx hb dL_law_1459 (lv_at hl 0 rfl) ?_
      refine lv_i2l (v := (r2.2).toInt64) hx hb dL_law_1461 rfl ?_
      refine W.lcmp hx hb dL_law_1462 ?_
      refine lv_if_eq (tgt := 1468) hx hb dL_law_1463 (by decide) (fun c6 => ?_) (fun c6 => ?_)
      · replace hf := xif_t hf c6
        refine lv_goto (tgt := 2488) hx hb dL_law_1468 (by decide) ?_
        obtain rfl := Option.some.inj hf
        refine W.widen (k := cells + 5) (n := slots + 30) (by omega) (by omega) ?_
        exact kk _ _ _ h (lv_sub hl [2, 3, 4, 5, 6, 7] rfl)
      · replace hf := xif_f hf c6
        refine lv_iconst (v := 0) hx hb dL_law_1466 (by decide) ?_
        cases hf
  · replace hf := xif_f hf c4
    refine lv_iconst (v := 0) hx hb dL_law_1449 (by decide) ?_
    cases hf
set_option maxHeartbeats 4000000 in
set_option maxRecDepth 100000 in
theorem law_20 {p : Program} (l : Launch) {e : Env} {s : State} {m : MethodId} {args : Array Value} {below : List Frame} {meth : Method} {c : Code} {H : Heap} {locs : List Loc} {cells slots : Nat} {Q : State → Prop} {ls : Array Slot} {Γ : xG} {a : Nat → Nat} {M R : xM} {N b L i : Nat} {xs : Nat → Int32} {q : xM × xM} {v1 v2 v3 v4 v5 v6 : Int32}
    (hlt : l.stackTraces = false) (S9 : CallFix p m c cL_law 9 s args lw_tbl RL) (hd : zD Γ a s.heap.size) (hz : zZ s) (hX : va_X b L xs s s.heap) (hbl : b < s.heap.size) (hL : L ≤ 3584) (hi : i + 7 ≤ L) (hv1 : xs (i + 1) = v1) (hv2 : xs (i + 2) = v2) (hv3 : xs (i + 3) = v3) (hv4 : xs (i + 4) = v4) (hv5 : xs (i + 5) = v5) (hv6 : xs (i + 6) = v6) (hc : cells + 5 ≤ 603072) (hs : slots + 30 ≤ 7190634)
    (hf : zOp_20 N v1 v2 v3 v4 v5 v6 M R = some q) (h : zH Γ a s M R H locs) (hl : lv_has ls 9 [(5, .int (Int32.ofNat i)), (4, .ref (Γ.2.1 1482)), (3, .ref (Γ.2.1 1481)), (2, .ref (a 0)), (1, .ref (Γ.2.1 1470)), (0, .ref b)])
    (kk : ∀ (H : Heap) (locs : List Loc) (ls : Array Slot), zH Γ a s q.1 q.2 H locs → lv_has ls 9 [(5, .int (Int32.ofNat i)), (4, .ref (Γ.2.1 1482)), (3, .ref (Γ.2.1 1481)), (2, .ref (a 0)), (1, .ref (Γ.2.1 1470)), (0, .ref b)] → W p l e room_1 s m args below meth c H locs (cells + 5) (slots + 30) Q (F0 m 2488 ls [])) : W p l e room_1 s m args below meth c H locs cells slots Q (F0 m 1471 ls []) := by
  obtain ⟨hx, hb, hml, hown, hts⟩ := id S9
  refine lv_aload_n hx hb dL_law_1471 rfl (lv_at hl 4 rfl) ?_
  refine lv_aload_n hx hb dL_law_1472 rfl (lv_at hl 2 rfl) ?_
  obtain ⟨r1, er1, hf⟩ := xbd_s hf
  refine z_L (Γ := Γ) (a := a) (As := [.ref (Γ.2.1 1470), .ref (Γ.2.1 1481)]) (rest := []) S9 (m_L_lacking l hlt er1) (vx_cwSW 2 hts (zgS lw_sub q726 q727 q144 q728) rfl rfl rfl hdL_lacking ⟨Nat.le_of_ble_eq_true rfl, Nat.le_of_ble_eq_true rfl⟩) hd hz h rfl hl.1 rfl (Nat.le_of_ble_eq_true rfl) dL_law_1473 ⟨by show cells + 1 ≤ 603072; omega, by show slots + 6 ≤ 7190634; omega⟩ (fun H locs h => ?_)
  refine lv_istore (lv' := [(6, .int r1.2), (5, .int (Int32.ofNat i)), (4, .ref (Γ.2.1 1482)), (3, .ref (Γ.2.1 1481)), (2, .ref (a 0)), (1, .ref (Γ.2.1 1470)), (0, .ref b)]) hx hb dL_law_1476 hl (by decide) rfl (fun ls hl => ?_)
  refine lv_aload_n hx hb dL_law_1478 rfl (lv_at hl 4 rfl) ?_
  obtain ⟨r2, er2, hf⟩ := xbd_s hf
  refine z_Ri (Γ := Γ) (a := a) (As := []) (rest := []) S9 (m_X10_lacking l (Γ := gR Γ a) er2) (cwV 0 hts (xgV lw_sub q733 q734 q735 q5 q736) rfl rfl rfl hdX10_lacking ⟨Nat.le_of_ble_eq_true rfl, Nat.le_of_ble_eq_true rfl⟩) hd h rfl hl.1 rfl (Nat.le_of_ble_eq_true rfl) dL_law_1479 ⟨by show cells + 1 + 0 ≤ 603072; omega, by show slots + 6 + 0 ≤ 7190634; omega⟩ (fun H locs h => ?_)
  refine lv_istore (lv' := [(7, .int r2.2), (6, .int r1.2), (5, .int (Int32.ofNat i)), (4, .ref (Γ.2.1 1482)), (3, .ref (Γ.2.1 1481)), (2, .ref (a 0)), (1, .ref (Γ.2.1 1470)), (0, .ref b)]) hx hb dL_law_1482 hl (by decide) rfl (fun ls hl => ?_)
  refine lv_aload_n hx hb dL_law_1484 rfl (lv_at hl 5 rfl) ?_
  obtain ⟨r3, er3, hf⟩ := xbd_s hf
  refine z_Ri (Γ := Γ) (a := a) (As := []) (rest := []) S9 (m_X10_thrown l (Γ := gR Γ a) er3) (cwV 0 hts (xgV lw_sub q225 q226 q227 q5 q228) rfl rfl rfl hdX10_thrown ⟨Nat.le_of_ble_eq_true rfl, Nat.le_of_ble_eq_true rfl⟩) hd h rfl hl.1 rfl (Nat.le_of_ble_eq_true rfl) dL_law_1485 ⟨by show cells + 1 + 0 + 0 ≤ 603072; omega, by show slots + 6 + 0 + 0 ≤ 7190634; omega⟩ (fun H locs h => ?_)
  refine lv_iload hx hb dL_law_1488 (lv_at hl 1 rfl) ?_
  refine lv_icmp_eq (tgt := 1495) hx hb dL_law_1490 (by decide) (fun c4 => ?_) (fun c4 => ?_)
  · replace hf := xif_t hf c4
    refine lv_iload hx hb dL_law_1495 (lv_at hl 1 rfl) ?_
    refine lv_if_ne (tgt := 1512) hx hb dL_law_1497 (by decide) (fun c5 => ?_) (fun c5 => ?_)
    · replace hf := xif_f hf c5
      refine lv_goto (tgt := 2488) hx hb dL_law_1512 (by decide) ?_
      obtain rfl := Option.some.inj hf
      refine W.widen (k := cells + 5) (n := slots + 30) (by omega) (by omega) ?_
      exact kk _ _ _ h (lv_sub hl [2, 3, 4, 5, 6, 7] rfl)
    · replace hf := xif_t hf c5
      refine lv_aload_n hx hb dL_law_1500 rfl (lv_at hl 4 rfl) ?_
      refine lv_iconst (v := 0) hx hb dL_law_1501 (by decide) ?_
      refine x_lald hx hb (zH_X hd h) kX_out (xin_in (by decide)) dL_law_1502 ?_
      refine lv_iload hx hb dL_law_1503 (lv_at hl 0 rfl) ?_
      refine lv_i2l (v := (r2.2).toInt64) hx hb dL_law_1505 rfl ?_
      refine W.lcmp hx hb dL_law_1506 ?_
      refine lv_if_eq (tgt := 1512) hx hb dL_law_1507 (by decide) (fun c6 => ?_) (fun c6 => ?_)
      · replace hf := xif_t hf c6
        refine lv_goto (tgt := 2488) hx hb dL_law_1512 (by decide) ?_
        obtain rfl := Option.some.inj hf
        refine W.widen (k := cells + 5) (n := slots + 30) (by omega) (by omega) ?_
        exact kk _ _ _ h (lv_sub hl [2, 3, 4, 5, 6, 7] rfl)
      · replace hf := xif_f hf c6
        refine lv_iconst (v := 0) hx hb dL_law_1510 (by decide) ?_
        cases hf
  · replace hf := xif_f hf c4
    refine lv_iconst (v := 0) hx hb dL_law_1493 (by decide) ?_
    cases hf
set_option maxHeartbeats 4000000 in
set_option maxRecDepth 100000 in
theorem law_21 {p : Program} (l : Launch) {e : Env} {s : State} {m : MethodId} {args : Array Value} {below : List Frame} {meth : Method} {c : Code} {H : Heap} {locs : List Loc} {cells slots : Nat} {Q : State → Prop} {ls : Array Slot} {Γ : xG} {a : Nat → Nat} {M R : xM} {N b L i : Nat} {xs : Nat → Int32} {q : xM × xM} {v1 v2 v3 v4 v5 v6 : Int32}
    (hlt : l.stackTraces = false) (S9 : CallFix p m c cL_law 9 s args lw_tbl RL) (hd : zD Γ a s.heap.size) (hz : zZ s) (hX : va_X b L xs s s.heap) (hbl : b < s.heap.size) (hL : L ≤ 3584) (hi : i + 7 ≤ L) (hv1 : xs (i + 1) = v1) (hv2 : xs (i + 2) = v2) (hv3 : xs (i + 3) = v3) (hv4 : xs (i + 4) = v4) (hv5 : xs (i + 5) = v5) (hv6 : xs (i + 6) = v6) (hc : cells + 5 ≤ 603072) (hs : slots + 30 ≤ 7190634)
    (hf : zOp_21 N v1 v2 v3 v4 v5 v6 M R = some q) (h : zH Γ a s M R H locs) (hl : lv_has ls 9 [(5, .int (Int32.ofNat i)), (4, .ref (Γ.2.1 1482)), (3, .ref (Γ.2.1 1481)), (2, .ref (a 0)), (1, .ref (Γ.2.1 1470)), (0, .ref b)])
    (kk : ∀ (H : Heap) (locs : List Loc) (ls : Array Slot), zH Γ a s q.1 q.2 H locs → lv_has ls 9 [(5, .int (Int32.ofNat i)), (4, .ref (Γ.2.1 1482)), (3, .ref (Γ.2.1 1481)), (2, .ref (a 0)), (1, .ref (Γ.2.1 1470)), (0, .ref b)] → W p l e room_1 s m args below meth c H locs (cells + 5) (slots + 30) Q (F0 m 2488 ls [])) : W p l e room_1 s m args below meth c H locs cells slots Q (F0 m 1515 ls []) := by
  obtain ⟨hx, hb, hml, hown, hts⟩ := id S9
  refine lv_aload_n hx hb dL_law_1515 rfl (lv_at hl 4 rfl) ?_
  refine lv_aload_n hx hb dL_law_1516 rfl (lv_at hl 5 rfl) ?_
  refine lv_iload hx hb dL_law_1517 (lv_at hl 0 rfl) ?_
  refine lv_iconst (v := 1) hx hb dL_law_1519 (by decide) ?_
  refine lv_iadd hx hb dL_law_1520 ?_
  refine z_sld hx hb hX hbl hL hi h.2.2.2 (k := 1) (by decide) hv1 dL_law_1521 ?_
  refine lv_aload_n hx hb dL_law_1522 rfl (lv_at hl 5 rfl) ?_
  refine lv_iload hx hb dL_law_1523 (lv_at hl 0 rfl) ?_
  refine lv_iconst (v := 2) hx hb dL_law_1525 (by decide) ?_
  refine lv_iadd hx hb dL_law_1526 ?_
  refine z_sld hx hb hX hbl hL hi h.2.2.2 (k := 2) (by decide) hv2 dL_law_1527 ?_
  refine lv_aload_n hx hb dL_law_1528 rfl (lv_at hl 2 rfl) ?_
  obtain ⟨r1, er1, hf⟩ := xbd_s hf
  refine z_L (Γ := Γ) (a := a) (As := [.ref (Γ.2.1 1470), .int v1, .int v2, .ref (Γ.2.1 1481)]) (rest := []) S9 (m_L_steps l hlt er1) (vx_cwSW 4 hts (zgS lw_sub q737 q738 q144 q739) rfl rfl rfl hdL_steps ⟨Nat.le_of_ble_eq_true rfl, Nat.le_of_ble_eq_true rfl⟩) hd hz h rfl hl.1 rfl (Nat.le_of_ble_eq_true rfl) dL_law_1529 ⟨by show cells + 2 ≤ 603072; omega, by show slots + 12 ≤ 7190634; omega⟩ (fun H locs h => ?_)
  refine lv_istore (lv' := [(6, .int r1.2), (5, .int (Int32.ofNat i)), (4, .ref (Γ.2.1 1482)), (3, .ref (Γ.2.1 1481)), (2, .ref (a 0)), (1, .ref (Γ.2.1 1470)), (0, .ref b)]) hx hb dL_law_1532 hl (by decide) rfl (fun ls hl => ?_)
  refine lv_aload_n hx hb dL_law_1534 rfl (lv_at hl 4 rfl) ?_
  refine lv_aload_n hx hb dL_law_1535 rfl (lv_at hl 6 rfl) ?_
  refine lv_iload hx hb dL_law_1536 (lv_at hl 1 rfl) ?_
  refine lv_iconst (v := 1) hx hb dL_law_1538 (by decide) ?_
  refine lv_iadd hx hb dL_law_1539 ?_
  refine z_sld hx hb hX hbl hL hi h.2.2.2 (k := 1) (by decide) hv1 dL_law_1540 ?_
  refine lv_aload_n hx hb dL_law_1541 rfl (lv_at hl 6 rfl) ?_
  refine lv_iload hx hb dL_law_1542 (lv_at hl 1 rfl) ?_
  refine lv_iconst (v := 2) hx hb dL_law_1544 (by decide) ?_
  refine lv_iadd hx hb dL_law_1545 ?_
  refine z_sld hx hb hX hbl hL hi h.2.2.2 (k := 2) (by decide) hv2 dL_law_1546 ?_
  obtain ⟨r2, er2, hf⟩ := xbd_s hf
  refine z_Ri (Γ := Γ) (a := a) (As := [.int v1, .int v2]) (rest := []) S9 (m_X10_steps l (Γ := gR Γ a) er2) (cwV 2 hts (xgV lw_sub q745 q746 q747 q5 q748) rfl rfl rfl hdX10_steps ⟨Nat.le_of_ble_eq_true rfl, Nat.le_of_ble_eq_true rfl⟩) hd h rfl hl.1 rfl (Nat.le_of_ble_eq_true rfl) dL_law_1547 ⟨by show cells + 2 + 0 ≤ 603072; omega, by show slots + 12 + 0 ≤ 7190634; omega⟩ (fun H locs h => ?_)
  refine lv_istore (lv' := [(7, .int r2.2), (6, .int r1.2), (5, .int (Int32.ofNat i)), (4, .ref (Γ.2.1 1482)), (3, .ref (Γ.2.1 1481)), (2, .ref (a 0)), (1, .ref (Γ.2.1 1470)), (0, .ref b)]) hx hb dL_law_1550 hl (by decide) rfl (fun ls hl => ?_)
  refine lv_aload_n hx hb dL_law_1552 rfl (lv_at hl 5 rfl) ?_
  obtain ⟨r3, er3, hf⟩ := xbd_s hf
  refine z_Ri (Γ := Γ) (a := a) (As := []) (rest := []) S9 (m_X10_thrown l (Γ := gR Γ a) er3) (cwV 0 hts (xgV lw_sub q225 q226 q227 q5 q228) rfl rfl rfl hdX10_thrown ⟨Nat.le_of_ble_eq_true rfl, Nat.le_of_ble_eq_true rfl⟩) hd h rfl hl.1 rfl (Nat.le_of_ble_eq_true rfl) dL_law_1553 ⟨by show cells + 2 + 0 + 0 ≤ 603072; omega, by show slots + 12 + 0 + 0 ≤ 7190634; omega⟩ (fun H locs h => ?_)
  refine lv_iload hx hb dL_law_1556 (lv_at hl 1 rfl) ?_
  refine lv_icmp_eq (tgt := 1563) hx hb dL_law_1558 (by decide) (fun c4 => ?_) (fun c4 => ?_)
  · replace hf := xif_t hf c4
    refine lv_iload hx hb dL_law_1563 (lv_at hl 1 rfl) ?_
    refine lv_if_ne (tgt := 1580) hx hb dL_law_1565 (by decide) (fun c5 => ?_) (fun c5 => ?_)
    · replace hf := xif_f hf c5
      refine lv_goto (tgt := 2488) hx hb dL_law_1580 (by decide) ?_
      obtain rfl := Option.some.inj hf
      refine W.widen (k := cells + 5) (n := slots + 30) (by omega) (by omega) ?_
      exact kk _ _ _ h (lv_sub hl [2, 3, 4, 5, 6, 7] rfl)
    · replace hf := xif_t hf c5
      refine lv_aload_n hx hb dL_law_1568 rfl (lv_at hl 4 rfl) ?_
      refine lv_iconst (v := 0) hx hb dL_law_1569 (by decide) ?_
      refine x_lald hx hb (zH_X hd h) kX_out (xin_in (by decide)) dL_law_1570 ?_
      refine lv_iload hx hb dL_law_1571 (lv_at hl 0 rfl) ?_
      refine lv_i2l (v := (r2.2).toInt64) hx hb dL_law_1573 rfl ?_
      refine W.lcmp hx hb dL_law_1574 ?_
      refine lv_if_eq (tgt := 1580) hx hb dL_law_1575 (by decide) (fun c6 => ?_) (fun c6 => ?_)
      · replace hf := xif_t hf c6
        refine lv_goto (tgt := 2488) hx hb dL_law_1580 (by decide) ?_
        obtain rfl := Option.some.inj hf
        refine W.widen (k := cells + 5) (n := slots + 30) (by omega) (by omega) ?_
        exact kk _ _ _ h (lv_sub hl [2, 3, 4, 5, 6, 7] rfl)
      · replace hf := xif_f hf c6
        refine lv_iconst (v := 0) hx hb dL_law_1578 (by decide) ?_
        cases hf
  · replace hf := xif_f hf c4
    refine lv_iconst (v := 0) hx hb dL_law_1561 (by decide) ?_
    cases hf
set_option maxHeartbeats 4000000 in
set_option maxRecDepth 100000 in
theorem law_22 {p : Program} (l : Launch) {e : Env} {s : State} {m : MethodId} {args : Array Value} {below : List Frame} {meth : Method} {c : Code} {H : Heap} {locs : List Loc} {cells slots : Nat} {Q : State → Prop} {ls : Array Slot} {Γ : xG} {a : Nat → Nat} {M R : xM} {N b L i : Nat} {xs : Nat → Int32} {q : xM × xM} {v1 v2 v3 v4 v5 v6 : Int32}
    (hlt : l.stackTraces = false) (S9 : CallFix p m c cL_law 9 s args lw_tbl RL) (hd : zD Γ a s.heap.size) (hz : zZ s) (hX : va_X b L xs s s.heap) (hbl : b < s.heap.size) (hL : L ≤ 3584) (hi : i + 7 ≤ L) (hv1 : xs (i + 1) = v1) (hv2 : xs (i + 2) = v2) (hv3 : xs (i + 3) = v3) (hv4 : xs (i + 4) = v4) (hv5 : xs (i + 5) = v5) (hv6 : xs (i + 6) = v6) (hc : cells + 5 ≤ 603072) (hs : slots + 30 ≤ 7190634)
    (hf : zOp_22 N v1 v2 v3 v4 v5 v6 M R = some q) (h : zH Γ a s M R H locs) (hl : lv_has ls 9 [(5, .int (Int32.ofNat i)), (4, .ref (Γ.2.1 1482)), (3, .ref (Γ.2.1 1481)), (2, .ref (a 0)), (1, .ref (Γ.2.1 1470)), (0, .ref b)])
    (kk : ∀ (H : Heap) (locs : List Loc) (ls : Array Slot), zH Γ a s q.1 q.2 H locs → lv_has ls 9 [(5, .int (Int32.ofNat i)), (4, .ref (Γ.2.1 1482)), (3, .ref (Γ.2.1 1481)), (2, .ref (a 0)), (1, .ref (Γ.2.1 1470)), (0, .ref b)] → W p l e room_1 s m args below meth c H locs (cells + 5) (slots + 30) Q (F0 m 2488 ls [])) : W p l e room_1 s m args below meth c H locs cells slots Q (F0 m 1583 ls []) := by
  obtain ⟨hx, hb, hml, hown, hts⟩ := id S9
  refine lv_aload_n hx hb dL_law_1583 rfl (lv_at hl 4 rfl) ?_
  refine lv_aload_n hx hb dL_law_1584 rfl (lv_at hl 5 rfl) ?_
  refine lv_iload hx hb dL_law_1585 (lv_at hl 0 rfl) ?_
  refine lv_iconst (v := 1) hx hb dL_law_1587 (by decide) ?_
  refine lv_iadd hx hb dL_law_1588 ?_
  refine z_sld hx hb hX hbl hL hi h.2.2.2 (k := 1) (by decide) hv1 dL_law_1589 ?_
  refine lv_aload_n hx hb dL_law_1590 rfl (lv_at hl 5 rfl) ?_
  refine lv_iload hx hb dL_law_1591 (lv_at hl 0 rfl) ?_
  refine lv_iconst (v := 2) hx hb dL_law_1593 (by decide) ?_
  refine lv_iadd hx hb dL_law_1594 ?_
  refine z_sld hx hb hX hbl hL hi h.2.2.2 (k := 2) (by decide) hv2 dL_law_1595 ?_
  refine lv_aload_n hx hb dL_law_1596 rfl (lv_at hl 2 rfl) ?_
  obtain ⟨r1, er1, hf⟩ := xbd_s hf
  refine z_L (Γ := Γ) (a := a) (As := [.ref (Γ.2.1 1470), .int v1, .int v2, .ref (Γ.2.1 1481)]) (rest := []) S9 (m_L_can l hlt er1) (vx_cwSW 4 hts (zgS lw_sub q749 q750 q144 q751) rfl rfl rfl hdL_can ⟨Nat.le_of_ble_eq_true rfl, Nat.le_of_ble_eq_true rfl⟩) hd hz h rfl hl.1 rfl (Nat.le_of_ble_eq_true rfl) dL_law_1597 ⟨by show cells + 2 ≤ 603072; omega, by show slots + 12 ≤ 7190634; omega⟩ (fun H locs h => ?_)
  refine lv_istore (lv' := [(6, .int r1.2), (5, .int (Int32.ofNat i)), (4, .ref (Γ.2.1 1482)), (3, .ref (Γ.2.1 1481)), (2, .ref (a 0)), (1, .ref (Γ.2.1 1470)), (0, .ref b)]) hx hb dL_law_1600 hl (by decide) rfl (fun ls hl => ?_)
  refine lv_aload_n hx hb dL_law_1602 rfl (lv_at hl 4 rfl) ?_
  refine lv_aload_n hx hb dL_law_1603 rfl (lv_at hl 6 rfl) ?_
  refine lv_iload hx hb dL_law_1604 (lv_at hl 1 rfl) ?_
  refine lv_iconst (v := 1) hx hb dL_law_1606 (by decide) ?_
  refine lv_iadd hx hb dL_law_1607 ?_
  refine z_sld hx hb hX hbl hL hi h.2.2.2 (k := 1) (by decide) hv1 dL_law_1608 ?_
  refine lv_aload_n hx hb dL_law_1609 rfl (lv_at hl 6 rfl) ?_
  refine lv_iload hx hb dL_law_1610 (lv_at hl 1 rfl) ?_
  refine lv_iconst (v := 2) hx hb dL_law_1612 (by decide) ?_
  refine lv_iadd hx hb dL_law_1613 ?_
  refine z_sld hx hb hX hbl hL hi h.2.2.2 (k := 2) (by decide) hv2 dL_law_1614 ?_
  obtain ⟨r2, er2, hf⟩ := xbd_s hf
  refine z_Ri (Γ := Γ) (a := a) (As := [.int v1, .int v2]) (rest := []) S9 (m_X10_can l (Γ := gR Γ a) er2) (cwV 2 hts (xgV lw_sub q770 q771 q772 q5 q773) rfl rfl rfl hdX10_can ⟨Nat.le_of_ble_eq_true rfl, Nat.le_of_ble_eq_true rfl⟩) hd h rfl hl.1 rfl (Nat.le_of_ble_eq_true rfl) dL_law_1615 ⟨by show cells + 2 + 0 ≤ 603072; omega, by show slots + 12 + 0 ≤ 7190634; omega⟩ (fun H locs h => ?_)
  refine lv_istore (lv' := [(7, .int r2.2), (6, .int r1.2), (5, .int (Int32.ofNat i)), (4, .ref (Γ.2.1 1482)), (3, .ref (Γ.2.1 1481)), (2, .ref (a 0)), (1, .ref (Γ.2.1 1470)), (0, .ref b)]) hx hb dL_law_1618 hl (by decide) rfl (fun ls hl => ?_)
  refine lv_aload_n hx hb dL_law_1620 rfl (lv_at hl 5 rfl) ?_
  obtain ⟨r3, er3, hf⟩ := xbd_s hf
  refine z_Ri (Γ := Γ) (a := a) (As := []) (rest := []) S9 (m_X10_thrown l (Γ := gR Γ a) er3) (cwV 0 hts (xgV lw_sub q225 q226 q227 q5 q228) rfl rfl rfl hdX10_thrown ⟨Nat.le_of_ble_eq_true rfl, Nat.le_of_ble_eq_true rfl⟩) hd h rfl hl.1 rfl (Nat.le_of_ble_eq_true rfl) dL_law_1621 ⟨by show cells + 2 + 0 + 0 ≤ 603072; omega, by show slots + 12 + 0 + 0 ≤ 7190634; omega⟩ (fun H locs h => ?_)
  refine lv_iload hx hb dL_law_1624 (lv_at hl 1 rfl) ?_
  refine lv_icmp_eq (tgt := 1631) hx hb dL_law_1626 (by decide) (fun c4 => ?_) (fun c4 => ?_)
  · replace hf := xif_t hf c4
    refine lv_iload hx hb dL_law_1631 (lv_at hl 1 rfl) ?_
    refine lv_if_ne (tgt := 1648) hx hb dL_law_1633 (by decide) (fun c5 => ?_) (fun c5 => ?_)
    · replace hf := xif_f hf c5
      refine lv_goto (tgt := 2488) hx hb dL_law_1648 (by decide) ?_
      obtain rfl := Option.some.inj hf
      refine W.widen (k := cells + 5) (n := slots + 30) (by omega) (by omega) ?_
      exact kk _ _ _ h (lv_sub hl [2, 3, 4, 5, 6, 7] rfl)
    · replace hf := xif_t hf c5
      refine lv_aload_n hx hb dL_law_1636 rfl (lv_at hl 4 rfl) ?_
      refine lv_iconst (v := 0) hx hb dL_law_1637 (by decide) ?_
      refine x_lald hx hb (zH_X hd h) kX_out (xin_in (by decide)) dL_law_1638 ?_
      refine lv_iload hx hb dL_law_1639 (lv_at hl 0 rfl) ?_
      refine lv_i2l (v := (r2.2).toInt64) hx hb dL_law_1641 rfl ?_
      refine W.lcmp hx hb dL_law_1642 ?_
      refine lv_if_eq (tgt := 1648) hx hb dL_law_1643 (by decide) (fun c6 => ?_) (fun c6 => ?_)
      · replace hf := xif_t hf c6
        refine lv_goto (tgt := 2488) hx hb dL_law_1648 (by decide) ?_
        obtain rfl := Option.some.inj hf
        refine W.widen (k := cells + 5) (n := slots + 30) (by omega) (by omega) ?_
        exact kk _ _ _ h (lv_sub hl [2, 3, 4, 5, 6, 7] rfl)
      · replace hf := xif_f hf c6
        refine lv_iconst (v := 0) hx hb dL_law_1646 (by decide) ?_
        cases hf
  · replace hf := xif_f hf c4
    refine lv_iconst (v := 0) hx hb dL_law_1629 (by decide) ?_
    cases hf
set_option maxHeartbeats 4000000 in
set_option maxRecDepth 100000 in
theorem law_23 {p : Program} (l : Launch) {e : Env} {s : State} {m : MethodId} {args : Array Value} {below : List Frame} {meth : Method} {c : Code} {H : Heap} {locs : List Loc} {cells slots : Nat} {Q : State → Prop} {ls : Array Slot} {Γ : xG} {a : Nat → Nat} {M R : xM} {N b L i : Nat} {xs : Nat → Int32} {q : xM × xM} {v1 v2 v3 v4 v5 v6 : Int32}
    (hlt : l.stackTraces = false) (S9 : CallFix p m c cL_law 9 s args lw_tbl RL) (hd : zD Γ a s.heap.size) (hz : zZ s) (hX : va_X b L xs s s.heap) (hbl : b < s.heap.size) (hL : L ≤ 3584) (hi : i + 7 ≤ L) (hv1 : xs (i + 1) = v1) (hv2 : xs (i + 2) = v2) (hv3 : xs (i + 3) = v3) (hv4 : xs (i + 4) = v4) (hv5 : xs (i + 5) = v5) (hv6 : xs (i + 6) = v6) (hc : cells + 5 ≤ 603072) (hs : slots + 30 ≤ 7190634)
    (hf : zOp_23 N v1 v2 v3 v4 v5 v6 M R = some q) (h : zH Γ a s M R H locs) (hl : lv_has ls 9 [(5, .int (Int32.ofNat i)), (4, .ref (Γ.2.1 1482)), (3, .ref (Γ.2.1 1481)), (2, .ref (a 0)), (1, .ref (Γ.2.1 1470)), (0, .ref b)])
    (kk : ∀ (H : Heap) (locs : List Loc) (ls : Array Slot), zH Γ a s q.1 q.2 H locs → lv_has ls 9 [(5, .int (Int32.ofNat i)), (4, .ref (Γ.2.1 1482)), (3, .ref (Γ.2.1 1481)), (2, .ref (a 0)), (1, .ref (Γ.2.1 1470)), (0, .ref b)] → W p l e room_1 s m args below meth c H locs (cells + 5) (slots + 30) Q (F0 m 2488 ls [])) : W p l e room_1 s m args below meth c H locs cells slots Q (F0 m 1651 ls []) := by
  obtain ⟨hx, hb, hml, hown, hts⟩ := id S9
  refine lv_aload_n hx hb dL_law_1651 rfl (lv_at hl 4 rfl) ?_
  refine lv_aload_n hx hb dL_law_1652 rfl (lv_at hl 5 rfl) ?_
  refine lv_iload hx hb dL_law_1653 (lv_at hl 0 rfl) ?_
  refine lv_iconst (v := 1) hx hb dL_law_1655 (by decide) ?_
  refine lv_iadd hx hb dL_law_1656 ?_
  refine z_sld hx hb hX hbl hL hi h.2.2.2 (k := 1) (by decide) hv1 dL_law_1657 ?_
  refine lv_aload_n hx hb dL_law_1658 rfl (lv_at hl 5 rfl) ?_
  refine lv_iload hx hb dL_law_1659 (lv_at hl 0 rfl) ?_
  refine lv_iconst (v := 2) hx hb dL_law_1661 (by decide) ?_
  refine lv_iadd hx hb dL_law_1662 ?_
  refine z_sld hx hb hX hbl hL hi h.2.2.2 (k := 2) (by decide) hv2 dL_law_1663 ?_
  refine lv_aload_n hx hb dL_law_1664 rfl (lv_at hl 2 rfl) ?_
  obtain ⟨r1, er1, hf⟩ := xbd_s hf
  refine z_L (Γ := Γ) (a := a) (As := [.ref (Γ.2.1 1470), .int v1, .int v2, .ref (Γ.2.1 1481)]) (rest := []) S9 (m_L_colour l hlt er1) (vx_cwSW 4 hts (zgS lw_sub q782 q783 q144 q784) rfl rfl rfl hdL_colour ⟨Nat.le_of_ble_eq_true rfl, Nat.le_of_ble_eq_true rfl⟩) hd hz h rfl hl.1 rfl (Nat.le_of_ble_eq_true rfl) dL_law_1665 ⟨by show cells + 2 ≤ 603072; omega, by show slots + 12 ≤ 7190634; omega⟩ (fun H locs h => ?_)
  refine lv_istore (lv' := [(6, .int r1.2), (5, .int (Int32.ofNat i)), (4, .ref (Γ.2.1 1482)), (3, .ref (Γ.2.1 1481)), (2, .ref (a 0)), (1, .ref (Γ.2.1 1470)), (0, .ref b)]) hx hb dL_law_1668 hl (by decide) rfl (fun ls hl => ?_)
  refine lv_aload_n hx hb dL_law_1670 rfl (lv_at hl 4 rfl) ?_
  refine lv_aload_n hx hb dL_law_1671 rfl (lv_at hl 6 rfl) ?_
  refine lv_iload hx hb dL_law_1672 (lv_at hl 1 rfl) ?_
  refine lv_iconst (v := 1) hx hb dL_law_1674 (by decide) ?_
  refine lv_iadd hx hb dL_law_1675 ?_
  refine z_sld hx hb hX hbl hL hi h.2.2.2 (k := 1) (by decide) hv1 dL_law_1676 ?_
  refine lv_aload_n hx hb dL_law_1677 rfl (lv_at hl 6 rfl) ?_
  refine lv_iload hx hb dL_law_1678 (lv_at hl 1 rfl) ?_
  refine lv_iconst (v := 2) hx hb dL_law_1680 (by decide) ?_
  refine lv_iadd hx hb dL_law_1681 ?_
  refine z_sld hx hb hX hbl hL hi h.2.2.2 (k := 2) (by decide) hv2 dL_law_1682 ?_
  obtain ⟨r2, er2, hf⟩ := xbd_s hf
  refine z_Ri (Γ := Γ) (a := a) (As := [.int v1, .int v2]) (rest := []) S9 (m_X10_colour l (Γ := gR Γ a) er2) (cwV 2 hts (xgV lw_sub q794 q795 q796 q5 q797) rfl rfl rfl hdX10_colour ⟨Nat.le_of_ble_eq_true rfl, Nat.le_of_ble_eq_true rfl⟩) hd h rfl hl.1 rfl (Nat.le_of_ble_eq_true rfl) dL_law_1683 ⟨by show cells + 2 + 0 ≤ 603072; omega, by show slots + 12 + 0 ≤ 7190634; omega⟩ (fun H locs h => ?_)
  refine lv_istore (lv' := [(7, .int r2.2), (6, .int r1.2), (5, .int (Int32.ofNat i)), (4, .ref (Γ.2.1 1482)), (3, .ref (Γ.2.1 1481)), (2, .ref (a 0)), (1, .ref (Γ.2.1 1470)), (0, .ref b)]) hx hb dL_law_1686 hl (by decide) rfl (fun ls hl => ?_)
  refine lv_aload_n hx hb dL_law_1688 rfl (lv_at hl 5 rfl) ?_
  obtain ⟨r3, er3, hf⟩ := xbd_s hf
  refine z_Ri (Γ := Γ) (a := a) (As := []) (rest := []) S9 (m_X10_thrown l (Γ := gR Γ a) er3) (cwV 0 hts (xgV lw_sub q225 q226 q227 q5 q228) rfl rfl rfl hdX10_thrown ⟨Nat.le_of_ble_eq_true rfl, Nat.le_of_ble_eq_true rfl⟩) hd h rfl hl.1 rfl (Nat.le_of_ble_eq_true rfl) dL_law_1689 ⟨by show cells + 2 + 0 + 0 ≤ 603072; omega, by show slots + 12 + 0 + 0 ≤ 7190634; omega⟩ (fun H locs h => ?_)
  refine lv_iload hx hb dL_law_1692 (lv_at hl 1 rfl) ?_
  refine lv_icmp_eq (tgt := 1699) hx hb dL_law_1694 (by decide) (fun c4 => ?_) (fun c4 => ?_)
  · replace hf := xif_t hf c4
    refine lv_iload hx hb dL_law_1699 (lv_at hl 1 rfl) ?_
    refine lv_if_ne (tgt := 1716) hx hb dL_law_1701 (by decide) (fun c5 => ?_) (fun c5 => ?_)
    · replace hf := xif_f hf c5
      refine lv_goto (tgt := 2488) hx hb dL_law_1716 (by decide) ?_
      obtain rfl := Option.some.inj hf
      refine W.widen (k := cells + 5) (n := slots + 30) (by omega) (by omega) ?_
      exact kk _ _ _ h (lv_sub hl [2, 3, 4, 5, 6, 7] rfl)
    · replace hf := xif_t hf c5
      refine lv_aload_n hx hb dL_law_1704 rfl (lv_at hl 4 rfl) ?_
      refine lv_iconst (v := 0) hx hb dL_law_1705 (by decide) ?_
      refine x_lald hx hb (zH_X hd h) kX_out (xin_in (by decide)) dL_law_1706 ?_
      refine lv_iload hx hb dL_law_1707 (lv_at hl 0 rfl) ?_
      refine lv_i2l (v := (r2.2).toInt64) hx hb dL_law_1709 rfl ?_
      refine W.lcmp hx hb dL_law_1710 ?_
      refine lv_if_eq (tgt := 1716) hx hb dL_law_1711 (by decide) (fun c6 => ?_) (fun c6 => ?_)
      · replace hf := xif_t hf c6
        refine lv_goto (tgt := 2488) hx hb dL_law_1716 (by decide) ?_
        obtain rfl := Option.some.inj hf
        refine W.widen (k := cells + 5) (n := slots + 30) (by omega) (by omega) ?_
        exact kk _ _ _ h (lv_sub hl [2, 3, 4, 5, 6, 7] rfl)
      · replace hf := xif_f hf c6
        refine lv_iconst (v := 0) hx hb dL_law_1714 (by decide) ?_
        cases hf
  · replace hf := xif_f hf c4
    refine lv_iconst (v := 0) hx hb dL_law_1697 (by decide) ?_
    cases hf
set_option maxHeartbeats 4000000 in
set_option maxRecDepth 100000 in
theorem law_24 {p : Program} (l : Launch) {e : Env} {s : State} {m : MethodId} {args : Array Value} {below : List Frame} {meth : Method} {c : Code} {H : Heap} {locs : List Loc} {cells slots : Nat} {Q : State → Prop} {ls : Array Slot} {Γ : xG} {a : Nat → Nat} {M R : xM} {N b L i : Nat} {xs : Nat → Int32} {q : xM × xM} {v1 v2 v3 v4 v5 v6 : Int32}
    (hlt : l.stackTraces = false) (S9 : CallFix p m c cL_law 9 s args lw_tbl RL) (hd : zD Γ a s.heap.size) (hz : zZ s) (hX : va_X b L xs s s.heap) (hbl : b < s.heap.size) (hL : L ≤ 3584) (hi : i + 7 ≤ L) (hv1 : xs (i + 1) = v1) (hv2 : xs (i + 2) = v2) (hv3 : xs (i + 3) = v3) (hv4 : xs (i + 4) = v4) (hv5 : xs (i + 5) = v5) (hv6 : xs (i + 6) = v6) (hc : cells + 5 ≤ 603072) (hs : slots + 30 ≤ 7190634)
    (hf : zOp_24 N v1 v2 v3 v4 v5 v6 M R = some q) (h : zH Γ a s M R H locs) (hl : lv_has ls 9 [(5, .int (Int32.ofNat i)), (4, .ref (Γ.2.1 1482)), (3, .ref (Γ.2.1 1481)), (2, .ref (a 0)), (1, .ref (Γ.2.1 1470)), (0, .ref b)])
    (kk : ∀ (H : Heap) (locs : List Loc) (ls : Array Slot), zH Γ a s q.1 q.2 H locs → lv_has ls 9 [(5, .int (Int32.ofNat i)), (4, .ref (Γ.2.1 1482)), (3, .ref (Γ.2.1 1481)), (2, .ref (a 0)), (1, .ref (Γ.2.1 1470)), (0, .ref b)] → W p l e room_1 s m args below meth c H locs (cells + 5) (slots + 30) Q (F0 m 2488 ls [])) : W p l e room_1 s m args below meth c H locs cells slots Q (F0 m 1719 ls []) := by
  obtain ⟨hx, hb, hml, hown, hts⟩ := id S9
  refine lv_aload_n hx hb dL_law_1719 rfl (lv_at hl 4 rfl) ?_
  refine lv_aload_n hx hb dL_law_1720 rfl (lv_at hl 5 rfl) ?_
  refine lv_iload hx hb dL_law_1721 (lv_at hl 0 rfl) ?_
  refine lv_iconst (v := 1) hx hb dL_law_1723 (by decide) ?_
  refine lv_iadd hx hb dL_law_1724 ?_
  refine z_sld hx hb hX hbl hL hi h.2.2.2 (k := 1) (by decide) hv1 dL_law_1725 ?_
  refine lv_aload_n hx hb dL_law_1726 rfl (lv_at hl 5 rfl) ?_
  refine lv_iload hx hb dL_law_1727 (lv_at hl 0 rfl) ?_
  refine lv_iconst (v := 2) hx hb dL_law_1729 (by decide) ?_
  refine lv_iadd hx hb dL_law_1730 ?_
  refine z_sld hx hb hX hbl hL hi h.2.2.2 (k := 2) (by decide) hv2 dL_law_1731 ?_
  refine lv_aload_n hx hb dL_law_1732 rfl (lv_at hl 5 rfl) ?_
  refine lv_iload hx hb dL_law_1733 (lv_at hl 0 rfl) ?_
  refine lv_iconst (v := 3) hx hb dL_law_1735 (by decide) ?_
  refine lv_iadd hx hb dL_law_1736 ?_
  refine z_sld hx hb hX hbl hL hi h.2.2.2 (k := 3) (by decide) hv3 dL_law_1737 ?_
  refine lv_aload_n hx hb dL_law_1738 rfl (lv_at hl 2 rfl) ?_
  obtain ⟨r1, er1, hf⟩ := xbd_s hf
  refine z_L (Γ := Γ) (a := a) (As := [.ref (Γ.2.1 1470), .int v1, .int v2, .int v3, .ref (Γ.2.1 1481)]) (rest := []) S9 (m_L_correct l hlt er1) (vx_cwSW 5 hts (zgS lw_sub q802 q803 q144 q804) rfl rfl rfl hdL_correct ⟨Nat.le_of_ble_eq_true rfl, Nat.le_of_ble_eq_true rfl⟩) hd hz h rfl hl.1 rfl (Nat.le_of_ble_eq_true rfl) dL_law_1739 ⟨by show cells + 4 ≤ 603072; omega, by show slots + 24 ≤ 7190634; omega⟩ (fun H locs h => ?_)
  refine lv_istore (lv' := [(6, .int r1.2), (5, .int (Int32.ofNat i)), (4, .ref (Γ.2.1 1482)), (3, .ref (Γ.2.1 1481)), (2, .ref (a 0)), (1, .ref (Γ.2.1 1470)), (0, .ref b)]) hx hb dL_law_1742 hl (by decide) rfl (fun ls hl => ?_)
  refine lv_aload_n hx hb dL_law_1744 rfl (lv_at hl 4 rfl) ?_
  refine lv_aload_n hx hb dL_law_1745 rfl (lv_at hl 6 rfl) ?_
  refine lv_iload hx hb dL_law_1746 (lv_at hl 1 rfl) ?_
  refine lv_iconst (v := 1) hx hb dL_law_1748 (by decide) ?_
  refine lv_iadd hx hb dL_law_1749 ?_
  refine z_sld hx hb hX hbl hL hi h.2.2.2 (k := 1) (by decide) hv1 dL_law_1750 ?_
  refine lv_aload_n hx hb dL_law_1751 rfl (lv_at hl 6 rfl) ?_
  refine lv_iload hx hb dL_law_1752 (lv_at hl 1 rfl) ?_
  refine lv_iconst (v := 2) hx hb dL_law_1754 (by decide) ?_
  refine lv_iadd hx hb dL_law_1755 ?_
  refine z_sld hx hb hX hbl hL hi h.2.2.2 (k := 2) (by decide) hv2 dL_law_1756 ?_
  refine lv_aload_n hx hb dL_law_1757 rfl (lv_at hl 6 rfl) ?_
  refine lv_iload hx hb dL_law_1758 (lv_at hl 1 rfl) ?_
  refine lv_iconst (v := 3) hx hb dL_law_1760 (by decide) ?_
  refine lv_iadd hx hb dL_law_1761 ?_
  refine z_sld hx hb hX hbl hL hi h.2.2.2 (k := 3) (by decide) hv3 dL_law_1762 ?_
  obtain ⟨r2, er2, hf⟩ := xbd_s hf
  refine z_Ri (Γ := Γ) (a := a) (As := [.int v1, .int v2, .int v3]) (rest := []) S9 (m_X10_correct l (Γ := gR Γ a) er2) (cwV 3 hts (xgV lw_sub q817 q818 q819 q5 q820) rfl rfl rfl hdX10_correct ⟨Nat.le_of_ble_eq_true rfl, Nat.le_of_ble_eq_true rfl⟩) hd h rfl hl.1 rfl (Nat.le_of_ble_eq_true rfl) dL_law_1763 ⟨by show cells + 4 + 0 ≤ 603072; omega, by show slots + 24 + 0 ≤ 7190634; omega⟩ (fun H locs h => ?_)
  refine lv_istore (lv' := [(7, .int r2.2), (6, .int r1.2), (5, .int (Int32.ofNat i)), (4, .ref (Γ.2.1 1482)), (3, .ref (Γ.2.1 1481)), (2, .ref (a 0)), (1, .ref (Γ.2.1 1470)), (0, .ref b)]) hx hb dL_law_1766 hl (by decide) rfl (fun ls hl => ?_)
  refine lv_aload_n hx hb dL_law_1768 rfl (lv_at hl 5 rfl) ?_
  obtain ⟨r3, er3, hf⟩ := xbd_s hf
  refine z_Ri (Γ := Γ) (a := a) (As := []) (rest := []) S9 (m_X10_thrown l (Γ := gR Γ a) er3) (cwV 0 hts (xgV lw_sub q225 q226 q227 q5 q228) rfl rfl rfl hdX10_thrown ⟨Nat.le_of_ble_eq_true rfl, Nat.le_of_ble_eq_true rfl⟩) hd h rfl hl.1 rfl (Nat.le_of_ble_eq_true rfl) dL_law_1769 ⟨by show cells + 4 + 0 + 0 ≤ 603072; omega, by show slots + 24 + 0 + 0 ≤ 7190634; omega⟩ (fun H locs h => ?_)
  refine lv_iload hx hb dL_law_1772 (lv_at hl 1 rfl) ?_
  refine lv_icmp_eq (tgt := 1779) hx hb dL_law_1774 (by decide) (fun c4 => ?_) (fun c4 => ?_)
  · replace hf := xif_t hf c4
    refine lv_iload hx hb dL_law_1779 (lv_at hl 1 rfl) ?_
    refine lv_if_ne (tgt := 1796) hx hb dL_law_1781 (by decide) (fun c5 => ?_) (fun c5 => ?_)
    · replace hf := xif_f hf c5
      refine lv_goto (tgt := 2488) hx hb dL_law_1796 (by decide) ?_
      obtain rfl := Option.some.inj hf
      refine W.widen (k := cells + 5) (n := slots + 30) (by omega) (by omega) ?_
      exact kk _ _ _ h (lv_sub hl [2, 3, 4, 5, 6, 7] rfl)
    · replace hf := xif_t hf c5
      refine lv_aload_n hx hb dL_law_1784 rfl (lv_at hl 4 rfl) ?_
      refine lv_iconst (v := 0) hx hb dL_law_1785 (by decide) ?_
      refine x_lald hx hb (zH_X hd h) kX_out (xin_in (by decide)) dL_law_1786 ?_
      refine lv_iload hx hb dL_law_1787 (lv_at hl 0 rfl) ?_
      refine lv_i2l (v := (r2.2).toInt64) hx hb dL_law_1789 rfl ?_
      refine W.lcmp hx hb dL_law_1790 ?_
      refine lv_if_eq (tgt := 1796) hx hb dL_law_1791 (by decide) (fun c6 => ?_) (fun c6 => ?_)
      · replace hf := xif_t hf c6
        refine lv_goto (tgt := 2488) hx hb dL_law_1796 (by decide) ?_
        obtain rfl := Option.some.inj hf
        refine W.widen (k := cells + 5) (n := slots + 30) (by omega) (by omega) ?_
        exact kk _ _ _ h (lv_sub hl [2, 3, 4, 5, 6, 7] rfl)
      · replace hf := xif_f hf c6
        refine lv_iconst (v := 0) hx hb dL_law_1794 (by decide) ?_
        cases hf
  · replace hf := xif_f hf c4
    refine lv_iconst (v := 0) hx hb dL_law_1777 (by decide) ?_
    cases hf
set_option maxHeartbeats 4000000 in
set_option maxRecDepth 100000 in
theorem law_25 {p : Program} (l : Launch) {e : Env} {s : State} {m : MethodId} {args : Array Value} {below : List Frame} {meth : Method} {c : Code} {H : Heap} {locs : List Loc} {cells slots : Nat} {Q : State → Prop} {ls : Array Slot} {Γ : xG} {a : Nat → Nat} {M R : xM} {N b L i : Nat} {xs : Nat → Int32} {q : xM × xM} {v1 v2 v3 v4 v5 v6 : Int32}
    (hlt : l.stackTraces = false) (S9 : CallFix p m c cL_law 9 s args lw_tbl RL) (hd : zD Γ a s.heap.size) (hz : zZ s) (hX : va_X b L xs s s.heap) (hbl : b < s.heap.size) (hL : L ≤ 3584) (hi : i + 7 ≤ L) (hv1 : xs (i + 1) = v1) (hv2 : xs (i + 2) = v2) (hv3 : xs (i + 3) = v3) (hv4 : xs (i + 4) = v4) (hv5 : xs (i + 5) = v5) (hv6 : xs (i + 6) = v6) (hc : cells + 5 ≤ 603072) (hs : slots + 30 ≤ 7190634)
    (hf : zOp_25 N v1 v2 v3 v4 v5 v6 M R = some q) (h : zH Γ a s M R H locs) (hl : lv_has ls 9 [(5, .int (Int32.ofNat i)), (4, .ref (Γ.2.1 1482)), (3, .ref (Γ.2.1 1481)), (2, .ref (a 0)), (1, .ref (Γ.2.1 1470)), (0, .ref b)])
    (kk : ∀ (H : Heap) (locs : List Loc) (ls : Array Slot), zH Γ a s q.1 q.2 H locs → lv_has ls 9 [(5, .int (Int32.ofNat i)), (4, .ref (Γ.2.1 1482)), (3, .ref (Γ.2.1 1481)), (2, .ref (a 0)), (1, .ref (Γ.2.1 1470)), (0, .ref b)] → W p l e room_1 s m args below meth c H locs (cells + 5) (slots + 30) Q (F0 m 2488 ls [])) : W p l e room_1 s m args below meth c H locs cells slots Q (F0 m 1799 ls []) := by
  obtain ⟨hx, hb, hml, hown, hts⟩ := id S9
  refine lv_aload_n hx hb dL_law_1799 rfl (lv_at hl 4 rfl) ?_
  refine lv_aload_n hx hb dL_law_1800 rfl (lv_at hl 5 rfl) ?_
  refine lv_iload hx hb dL_law_1801 (lv_at hl 0 rfl) ?_
  refine lv_iconst (v := 1) hx hb dL_law_1803 (by decide) ?_
  refine lv_iadd hx hb dL_law_1804 ?_
  refine z_sld hx hb hX hbl hL hi h.2.2.2 (k := 1) (by decide) hv1 dL_law_1805 ?_
  refine lv_aload_n hx hb dL_law_1806 rfl (lv_at hl 5 rfl) ?_
  refine lv_iload hx hb dL_law_1807 (lv_at hl 0 rfl) ?_
  refine lv_iconst (v := 2) hx hb dL_law_1809 (by decide) ?_
  refine lv_iadd hx hb dL_law_1810 ?_
  refine z_sld hx hb hX hbl hL hi h.2.2.2 (k := 2) (by decide) hv2 dL_law_1811 ?_
  refine lv_aload_n hx hb dL_law_1812 rfl (lv_at hl 5 rfl) ?_
  refine lv_iload hx hb dL_law_1813 (lv_at hl 0 rfl) ?_
  refine lv_iconst (v := 3) hx hb dL_law_1815 (by decide) ?_
  refine lv_iadd hx hb dL_law_1816 ?_
  refine z_sld hx hb hX hbl hL hi h.2.2.2 (k := 3) (by decide) hv3 dL_law_1817 ?_
  refine lv_aload_n hx hb dL_law_1818 rfl (lv_at hl 5 rfl) ?_
  refine lv_iload hx hb dL_law_1819 (lv_at hl 0 rfl) ?_
  refine lv_iconst (v := 4) hx hb dL_law_1821 (by decide) ?_
  refine lv_iadd hx hb dL_law_1822 ?_
  refine z_sld hx hb hX hbl hL hi h.2.2.2 (k := 4) (by decide) hv4 dL_law_1823 ?_
  refine lv_aload_n hx hb dL_law_1824 rfl (lv_at hl 5 rfl) ?_
  refine lv_iload hx hb dL_law_1825 (lv_at hl 0 rfl) ?_
  refine lv_iconst (v := 5) hx hb dL_law_1827 (by decide) ?_
  refine lv_iadd hx hb dL_law_1828 ?_
  refine z_sld hx hb hX hbl hL hi h.2.2.2 (k := 5) (by decide) hv5 dL_law_1829 ?_
  refine lv_aload_n hx hb dL_law_1830 rfl (lv_at hl 5 rfl) ?_
  refine lv_iload hx hb dL_law_1831 (lv_at hl 0 rfl) ?_
  refine lv_bipush (v := 6) hx hb dL_law_1833 (by decide) ?_
  refine lv_iadd hx hb dL_law_1835 ?_
  refine z_sld hx hb hX hbl hL hi h.2.2.2 (k := 6) (by decide) hv6 dL_law_1836 ?_
  refine lv_aload_n hx hb dL_law_1837 rfl (lv_at hl 2 rfl) ?_
  obtain ⟨r1, er1, hf⟩ := xbd_s hf
  refine z_L (Γ := Γ) (a := a) (As := [.ref (Γ.2.1 1470), .int v1, .int v2, .int v3, .int v4, .int v5, .int v6, .ref (Γ.2.1 1481)]) (rest := []) S9 (m_L_least l hlt er1) (vx_cwSW 8 hts (zgS lw_sub q821 q822 q144 q823) rfl rfl rfl hdL_least ⟨Nat.le_of_ble_eq_true rfl, Nat.le_of_ble_eq_true rfl⟩) hd hz h rfl hl.1 rfl (Nat.le_of_ble_eq_true rfl) dL_law_1838 ⟨by show cells + 4 ≤ 603072; omega, by show slots + 24 ≤ 7190634; omega⟩ (fun H locs h => ?_)
  refine lv_istore (lv' := [(6, .int r1.2), (5, .int (Int32.ofNat i)), (4, .ref (Γ.2.1 1482)), (3, .ref (Γ.2.1 1481)), (2, .ref (a 0)), (1, .ref (Γ.2.1 1470)), (0, .ref b)]) hx hb dL_law_1841 hl (by decide) rfl (fun ls hl => ?_)
  refine lv_aload_n hx hb dL_law_1843 rfl (lv_at hl 4 rfl) ?_
  refine lv_aload_n hx hb dL_law_1844 rfl (lv_at hl 6 rfl) ?_
  refine lv_iload hx hb dL_law_1845 (lv_at hl 1 rfl) ?_
  refine lv_iconst (v := 1) hx hb dL_law_1847 (by decide) ?_
  refine lv_iadd hx hb dL_law_1848 ?_
  refine z_sld hx hb hX hbl hL hi h.2.2.2 (k := 1) (by decide) hv1 dL_law_1849 ?_
  refine lv_aload_n hx hb dL_law_1850 rfl (lv_at hl 6 rfl) ?_
  refine lv_iload hx hb dL_law_1851 (lv_at hl 1 rfl) ?_
  refine lv_iconst (v := 2) hx hb dL_law_1853 (by decide) ?_
  refine lv_iadd hx hb dL_law_1854 ?_
  refine z_sld hx hb hX hbl hL hi h.2.2.2 (k := 2) (by decide) hv2 dL_law_1855 ?_
  refine lv_aload_n hx hb dL_law_1856 rfl (lv_at hl 6 rfl) ?_
  refine lv_iload hx hb dL_law_1857 (lv_at hl 1 rfl) ?_
  refine lv_iconst (v := 3) hx hb dL_law_1859 (by decide) ?_
  refine lv_iadd hx hb dL_law_1860 ?_
  refine z_sld hx hb hX hbl hL hi h.2.2.2 (k := 3) (by decide) hv3 dL_law_1861 ?_
  refine lv_aload_n hx hb dL_law_1862 rfl (lv_at hl 6 rfl) ?_
  refine lv_iload hx hb dL_law_1863 (lv_at hl 1 rfl) ?_
  refine lv_iconst (v := 4) hx hb dL_law_1865 (by decide) ?_
  refine lv_iadd hx hb dL_law_1866 ?_
  refine z_sld hx hb hX hbl hL hi h.2.2.2 (k := 4) (by decide) hv4 dL_law_1867 ?_
  refine lv_aload_n hx hb dL_law_1868 rfl (lv_at hl 6 rfl) ?_
  refine lv_iload hx hb dL_law_1869 (lv_at hl 1 rfl) ?_
  refine lv_iconst (v := 5) hx hb dL_law_1871 (by decide) ?_
  refine lv_iadd hx hb dL_law_1872 ?_
  refine z_sld hx hb hX hbl hL hi h.2.2.2 (k := 5) (by decide) hv5 dL_law_1873 ?_
  refine lv_aload_n hx hb dL_law_1874 rfl (lv_at hl 6 rfl) ?_
  refine lv_iload hx hb dL_law_1875 (lv_at hl 1 rfl) ?_
  refine lv_bipush (v := 6) hx hb dL_law_1877 (by decide) ?_
  refine lv_iadd hx hb dL_law_1879 ?_
  refine z_sld hx hb hX hbl hL hi h.2.2.2 (k := 6) (by decide) hv6 dL_law_1880 ?_
  obtain ⟨r2, er2, hf⟩ := xbd_s hf
  refine z_Ri (Γ := Γ) (a := a) (As := [.int v1, .int v2, .int v3, .int v4, .int v5, .int v6]) (rest := []) S9 (m_X10_least l (Γ := gR Γ a) er2) (cwV 6 hts (xgV lw_sub q853 q854 q855 q5 q856) rfl rfl rfl hdX10_least ⟨Nat.le_of_ble_eq_true rfl, Nat.le_of_ble_eq_true rfl⟩) hd h rfl hl.1 rfl (Nat.le_of_ble_eq_true rfl) dL_law_1881 ⟨by show cells + 4 + 0 ≤ 603072; omega, by show slots + 24 + 0 ≤ 7190634; omega⟩ (fun H locs h => ?_)
  refine lv_istore (lv' := [(7, .int r2.2), (6, .int r1.2), (5, .int (Int32.ofNat i)), (4, .ref (Γ.2.1 1482)), (3, .ref (Γ.2.1 1481)), (2, .ref (a 0)), (1, .ref (Γ.2.1 1470)), (0, .ref b)]) hx hb dL_law_1884 hl (by decide) rfl (fun ls hl => ?_)
  refine lv_aload_n hx hb dL_law_1886 rfl (lv_at hl 5 rfl) ?_
  obtain ⟨r3, er3, hf⟩ := xbd_s hf
  refine z_Ri (Γ := Γ) (a := a) (As := []) (rest := []) S9 (m_X10_thrown l (Γ := gR Γ a) er3) (cwV 0 hts (xgV lw_sub q225 q226 q227 q5 q228) rfl rfl rfl hdX10_thrown ⟨Nat.le_of_ble_eq_true rfl, Nat.le_of_ble_eq_true rfl⟩) hd h rfl hl.1 rfl (Nat.le_of_ble_eq_true rfl) dL_law_1887 ⟨by show cells + 4 + 0 + 0 ≤ 603072; omega, by show slots + 24 + 0 + 0 ≤ 7190634; omega⟩ (fun H locs h => ?_)
  refine lv_iload hx hb dL_law_1890 (lv_at hl 1 rfl) ?_
  refine lv_icmp_eq (tgt := 1897) hx hb dL_law_1892 (by decide) (fun c4 => ?_) (fun c4 => ?_)
  · replace hf := xif_t hf c4
    refine lv_iload hx hb dL_law_1897 (lv_at hl 1 rfl) ?_
    refine lv_if_ne (tgt := 1914) hx hb dL_law_1899 (by decide) (fun c5 => ?_) (fun c5 => ?_)
    · replace hf := xif_f hf c5
      refine lv_goto (tgt := 2488) hx hb dL_law_1914 (by decide) ?_
      obtain rfl := Option.some.inj hf
      refine W.widen (k := cells + 5) (n := slots + 30) (by omega) (by omega) ?_
      exact kk _ _ _ h (lv_sub hl [2, 3, 4, 5, 6, 7] rfl)
    · replace hf := xif_t hf c5
      refine lv_aload_n hx hb dL_law_1902 rfl (lv_at hl 4 rfl) ?_
      refine lv_iconst (v := 0) hx hb dL_law_1903 (by decide) ?_
      refine x_lald hx hb (zH_X hd h) kX_out (xin_in (by decide)) dL_law_1904 ?_
      refine lv_iload hx hb dL_law_1905 (lv_at hl 0 rfl) ?_
      refine lv_i2l (v := (r2.2).toInt64) hx hb dL_law_1907 rfl ?_
      refine W.lcmp hx hb dL_law_1908 ?_
      refine lv_if_eq (tgt := 1914) hx hb dL_law_1909 (by decide) (fun c6 => ?_) (fun c6 => ?_)
      · replace hf := xif_t hf c6
        refine lv_goto (tgt := 2488) hx hb dL_law_1914 (by decide) ?_
        obtain rfl := Option.some.inj hf
        refine W.widen (k := cells + 5) (n := slots + 30) (by omega) (by omega) ?_
        exact kk _ _ _ h (lv_sub hl [2, 3, 4, 5, 6, 7] rfl)
      · replace hf := xif_f hf c6
        refine lv_iconst (v := 0) hx hb dL_law_1912 (by decide) ?_
        cases hf
  · replace hf := xif_f hf c4
    refine lv_iconst (v := 0) hx hb dL_law_1895 (by decide) ?_
    cases hf
set_option maxHeartbeats 4000000 in
set_option maxRecDepth 100000 in
theorem law_26 {p : Program} (l : Launch) {e : Env} {s : State} {m : MethodId} {args : Array Value} {below : List Frame} {meth : Method} {c : Code} {H : Heap} {locs : List Loc} {cells slots : Nat} {Q : State → Prop} {ls : Array Slot} {Γ : xG} {a : Nat → Nat} {M R : xM} {N b L i : Nat} {xs : Nat → Int32} {q : xM × xM} {v1 v2 v3 v4 v5 v6 : Int32}
    (hlt : l.stackTraces = false) (S9 : CallFix p m c cL_law 9 s args lw_tbl RL) (hd : zD Γ a s.heap.size) (hz : zZ s) (hX : va_X b L xs s s.heap) (hbl : b < s.heap.size) (hL : L ≤ 3584) (hi : i + 7 ≤ L) (hv1 : xs (i + 1) = v1) (hv2 : xs (i + 2) = v2) (hv3 : xs (i + 3) = v3) (hv4 : xs (i + 4) = v4) (hv5 : xs (i + 5) = v5) (hv6 : xs (i + 6) = v6) (hc : cells + 5 ≤ 603072) (hs : slots + 30 ≤ 7190634)
    (hf : zOp_26 N v1 v2 v3 v4 v5 v6 M R = some q) (h : zH Γ a s M R H locs) (hl : lv_has ls 9 [(5, .int (Int32.ofNat i)), (4, .ref (Γ.2.1 1482)), (3, .ref (Γ.2.1 1481)), (2, .ref (a 0)), (1, .ref (Γ.2.1 1470)), (0, .ref b)])
    (kk : ∀ (H : Heap) (locs : List Loc) (ls : Array Slot), zH Γ a s q.1 q.2 H locs → lv_has ls 9 [(5, .int (Int32.ofNat i)), (4, .ref (Γ.2.1 1482)), (3, .ref (Γ.2.1 1481)), (2, .ref (a 0)), (1, .ref (Γ.2.1 1470)), (0, .ref b)] → W p l e room_1 s m args below meth c H locs (cells + 5) (slots + 30) Q (F0 m 2488 ls [])) : W p l e room_1 s m args below meth c H locs cells slots Q (F0 m 1917 ls []) := by
  obtain ⟨hx, hb, hml, hown, hts⟩ := id S9
  refine lv_aload_n hx hb dL_law_1917 rfl (lv_at hl 4 rfl) ?_
  refine lv_aload_n hx hb dL_law_1918 rfl (lv_at hl 5 rfl) ?_
  refine lv_iload hx hb dL_law_1919 (lv_at hl 0 rfl) ?_
  refine lv_iconst (v := 1) hx hb dL_law_1921 (by decide) ?_
  refine lv_iadd hx hb dL_law_1922 ?_
  refine z_sld hx hb hX hbl hL hi h.2.2.2 (k := 1) (by decide) hv1 dL_law_1923 ?_
  refine lv_aload_n hx hb dL_law_1924 rfl (lv_at hl 5 rfl) ?_
  refine lv_iload hx hb dL_law_1925 (lv_at hl 0 rfl) ?_
  refine lv_iconst (v := 2) hx hb dL_law_1927 (by decide) ?_
  refine lv_iadd hx hb dL_law_1928 ?_
  refine z_sld hx hb hX hbl hL hi h.2.2.2 (k := 2) (by decide) hv2 dL_law_1929 ?_
  refine lv_aload_n hx hb dL_law_1930 rfl (lv_at hl 5 rfl) ?_
  refine lv_iload hx hb dL_law_1931 (lv_at hl 0 rfl) ?_
  refine lv_iconst (v := 3) hx hb dL_law_1933 (by decide) ?_
  refine lv_iadd hx hb dL_law_1934 ?_
  refine z_sld hx hb hX hbl hL hi h.2.2.2 (k := 3) (by decide) hv3 dL_law_1935 ?_
  refine lv_aload_n hx hb dL_law_1936 rfl (lv_at hl 2 rfl) ?_
  obtain ⟨r1, er1, hf⟩ := xbd_s hf
  refine z_L (Γ := Γ) (a := a) (As := [.ref (Γ.2.1 1470), .int v1, .int v2, .int v3, .ref (Γ.2.1 1481)]) (rest := []) S9 (m_L_hasLot l hlt er1) (vx_cwSW 5 hts (zgS lw_sub q869 q870 q144 q871) rfl rfl rfl hdL_hasLot ⟨Nat.le_of_ble_eq_true rfl, Nat.le_of_ble_eq_true rfl⟩) hd hz h rfl hl.1 rfl (Nat.le_of_ble_eq_true rfl) dL_law_1937 ⟨by show cells + 3 ≤ 603072; omega, by show slots + 18 ≤ 7190634; omega⟩ (fun H locs h => ?_)
  refine lv_istore (lv' := [(6, .int r1.2), (5, .int (Int32.ofNat i)), (4, .ref (Γ.2.1 1482)), (3, .ref (Γ.2.1 1481)), (2, .ref (a 0)), (1, .ref (Γ.2.1 1470)), (0, .ref b)]) hx hb dL_law_1940 hl (by decide) rfl (fun ls hl => ?_)
  refine lv_aload_n hx hb dL_law_1942 rfl (lv_at hl 4 rfl) ?_
  refine lv_aload_n hx hb dL_law_1943 rfl (lv_at hl 6 rfl) ?_
  refine lv_iload hx hb dL_law_1944 (lv_at hl 1 rfl) ?_
  refine lv_iconst (v := 1) hx hb dL_law_1946 (by decide) ?_
  refine lv_iadd hx hb dL_law_1947 ?_
  refine z_sld hx hb hX hbl hL hi h.2.2.2 (k := 1) (by decide) hv1 dL_law_1948 ?_
  refine lv_aload_n hx hb dL_law_1949 rfl (lv_at hl 6 rfl) ?_
  refine lv_iload hx hb dL_law_1950 (lv_at hl 1 rfl) ?_
  refine lv_iconst (v := 2) hx hb dL_law_1952 (by decide) ?_
  refine lv_iadd hx hb dL_law_1953 ?_
  refine z_sld hx hb hX hbl hL hi h.2.2.2 (k := 2) (by decide) hv2 dL_law_1954 ?_
  refine lv_aload_n hx hb dL_law_1955 rfl (lv_at hl 6 rfl) ?_
  refine lv_iload hx hb dL_law_1956 (lv_at hl 1 rfl) ?_
  refine lv_iconst (v := 3) hx hb dL_law_1958 (by decide) ?_
  refine lv_iadd hx hb dL_law_1959 ?_
  refine z_sld hx hb hX hbl hL hi h.2.2.2 (k := 3) (by decide) hv3 dL_law_1960 ?_
  obtain ⟨r2, er2, hf⟩ := xbd_s hf
  refine z_Ri (Γ := Γ) (a := a) (As := [.int v1, .int v2, .int v3]) (rest := []) S9 (m_X10_hasLot l (Γ := gR Γ a) er2) (cwV 3 hts (xgV lw_sub q880 q881 q882 q5 q883) rfl rfl rfl hdX10_hasLot ⟨Nat.le_of_ble_eq_true rfl, Nat.le_of_ble_eq_true rfl⟩) hd h rfl hl.1 rfl (Nat.le_of_ble_eq_true rfl) dL_law_1961 ⟨by show cells + 3 + 0 ≤ 603072; omega, by show slots + 18 + 0 ≤ 7190634; omega⟩ (fun H locs h => ?_)
  refine lv_istore (lv' := [(7, .int r2.2), (6, .int r1.2), (5, .int (Int32.ofNat i)), (4, .ref (Γ.2.1 1482)), (3, .ref (Γ.2.1 1481)), (2, .ref (a 0)), (1, .ref (Γ.2.1 1470)), (0, .ref b)]) hx hb dL_law_1964 hl (by decide) rfl (fun ls hl => ?_)
  refine lv_aload_n hx hb dL_law_1966 rfl (lv_at hl 5 rfl) ?_
  obtain ⟨r3, er3, hf⟩ := xbd_s hf
  refine z_Ri (Γ := Γ) (a := a) (As := []) (rest := []) S9 (m_X10_thrown l (Γ := gR Γ a) er3) (cwV 0 hts (xgV lw_sub q225 q226 q227 q5 q228) rfl rfl rfl hdX10_thrown ⟨Nat.le_of_ble_eq_true rfl, Nat.le_of_ble_eq_true rfl⟩) hd h rfl hl.1 rfl (Nat.le_of_ble_eq_true rfl) dL_law_1967 ⟨by show cells + 3 + 0 + 0 ≤ 603072; omega, by show slots + 18 + 0 + 0 ≤ 7190634; omega⟩ (fun H locs h => ?_)
  refine lv_iload hx hb dL_law_1970 (lv_at hl 1 rfl) ?_
  refine lv_icmp_eq (tgt := 1977) hx hb dL_law_1972 (by decide) (fun c4 => ?_) (fun c4 => ?_)
  · replace hf := xif_t hf c4
    refine lv_iload hx hb dL_law_1977 (lv_at hl 1 rfl) ?_
    refine lv_if_ne (tgt := 2001) hx hb dL_law_1979 (by decide) (fun c5 => ?_) (fun c5 => ?_)
    · replace hf := xif_f hf c5
      refine lv_goto (tgt := 2488) hx hb dL_law_2001 (by decide) ?_
      obtain rfl := Option.some.inj hf
      refine W.widen (k := cells + 5) (n := slots + 30) (by omega) (by omega) ?_
      exact kk _ _ _ h (lv_sub hl [2, 3, 4, 5, 6, 7] rfl)
    · replace hf := xif_t hf c5
      refine lv_aload_n hx hb dL_law_1982 rfl (lv_at hl 4 rfl) ?_
      refine lv_iconst (v := 0) hx hb dL_law_1983 (by decide) ?_
      refine x_lald hx hb (zH_X hd h) kX_out (xin_in (by decide)) dL_law_1984 ?_
      refine lv_iload hx hb dL_law_1985 (lv_at hl 0 rfl) ?_
      refine lv_if_eq (tgt := 1994) hx hb dL_law_1987 (by decide) (fun c6 => ?_) (fun c6 => ?_)
      · replace hf := xif_t hf c6
        refine lv_lconst (v := 0) hx hb dL_law_1994 (by decide) ?_
        refine W.lcmp hx hb dL_law_1995 ?_
        refine lv_if_eq (tgt := 2001) hx hb dL_law_1996 (by decide) (fun c7 => ?_) (fun c7 => ?_)
        · replace hf := xif_t hf c7
          refine lv_goto (tgt := 2488) hx hb dL_law_2001 (by decide) ?_
          obtain rfl := Option.some.inj hf
          refine W.widen (k := cells + 5) (n := slots + 30) (by omega) (by omega) ?_
          exact kk _ _ _ h (lv_sub hl [2, 3, 4, 5, 6, 7] rfl)
        · replace hf := xif_f hf c7
          refine lv_iconst (v := 0) hx hb dL_law_1999 (by decide) ?_
          cases hf
      · replace hf := xif_f hf c6
        refine lv_lconst (v := 1) hx hb dL_law_1990 (by decide) ?_
        refine lv_goto (tgt := 1995) hx hb dL_law_1991 (by decide) ?_
        refine W.lcmp hx hb dL_law_1995 ?_
        refine lv_if_eq (tgt := 2001) hx hb dL_law_1996 (by decide) (fun c8 => ?_) (fun c8 => ?_)
        · replace hf := xif_t hf c8
          refine lv_goto (tgt := 2488) hx hb dL_law_2001 (by decide) ?_
          obtain rfl := Option.some.inj hf
          refine W.widen (k := cells + 5) (n := slots + 30) (by omega) (by omega) ?_
          exact kk _ _ _ h (lv_sub hl [2, 3, 4, 5, 6, 7] rfl)
        · replace hf := xif_f hf c8
          refine lv_iconst (v := 0) hx hb dL_law_1999 (by decide) ?_
          cases hf
  · replace hf := xif_f hf c4
    refine lv_iconst (v := 0) hx hb dL_law_1975 (by decide) ?_
    cases hf
set_option maxHeartbeats 4000000 in
set_option maxRecDepth 100000 in
theorem law_27 {p : Program} (l : Launch) {e : Env} {s : State} {m : MethodId} {args : Array Value} {below : List Frame} {meth : Method} {c : Code} {H : Heap} {locs : List Loc} {cells slots : Nat} {Q : State → Prop} {ls : Array Slot} {Γ : xG} {a : Nat → Nat} {M R : xM} {N b L i : Nat} {xs : Nat → Int32} {q : xM × xM} {v1 v2 v3 v4 v5 v6 : Int32}
    (hlt : l.stackTraces = false) (S9 : CallFix p m c cL_law 9 s args lw_tbl RL) (hd : zD Γ a s.heap.size) (hz : zZ s) (hX : va_X b L xs s s.heap) (hbl : b < s.heap.size) (hL : L ≤ 3584) (hi : i + 7 ≤ L) (hv1 : xs (i + 1) = v1) (hv2 : xs (i + 2) = v2) (hv3 : xs (i + 3) = v3) (hv4 : xs (i + 4) = v4) (hv5 : xs (i + 5) = v5) (hv6 : xs (i + 6) = v6) (hc : cells + 5 ≤ 603072) (hs : slots + 30 ≤ 7190634)
    (hf : zOp_27 N v1 v2 v3 v4 v5 v6 M R = some q) (h : zH Γ a s M R H locs) (hl : lv_has ls 9 [(5, .int (Int32.ofNat i)), (4, .ref (Γ.2.1 1482)), (3, .ref (Γ.2.1 1481)), (2, .ref (a 0)), (1, .ref (Γ.2.1 1470)), (0, .ref b)])
    (kk : ∀ (H : Heap) (locs : List Loc) (ls : Array Slot), zH Γ a s q.1 q.2 H locs → lv_has ls 9 [(5, .int (Int32.ofNat i)), (4, .ref (Γ.2.1 1482)), (3, .ref (Γ.2.1 1481)), (2, .ref (a 0)), (1, .ref (Γ.2.1 1470)), (0, .ref b)] → W p l e room_1 s m args below meth c H locs (cells + 5) (slots + 30) Q (F0 m 2488 ls [])) : W p l e room_1 s m args below meth c H locs cells slots Q (F0 m 2004 ls []) := by
  obtain ⟨hx, hb, hml, hown, hts⟩ := id S9
  refine lv_aload_n hx hb dL_law_2004 rfl (lv_at hl 4 rfl) ?_
  refine lv_aload_n hx hb dL_law_2005 rfl (lv_at hl 5 rfl) ?_
  refine lv_iload hx hb dL_law_2006 (lv_at hl 0 rfl) ?_
  refine lv_iconst (v := 1) hx hb dL_law_2008 (by decide) ?_
  refine lv_iadd hx hb dL_law_2009 ?_
  refine z_sld hx hb hX hbl hL hi h.2.2.2 (k := 1) (by decide) hv1 dL_law_2010 ?_
  refine lv_aload_n hx hb dL_law_2011 rfl (lv_at hl 5 rfl) ?_
  refine lv_iload hx hb dL_law_2012 (lv_at hl 0 rfl) ?_
  refine lv_iconst (v := 2) hx hb dL_law_2014 (by decide) ?_
  refine lv_iadd hx hb dL_law_2015 ?_
  refine z_sld hx hb hX hbl hL hi h.2.2.2 (k := 2) (by decide) hv2 dL_law_2016 ?_
  refine lv_aload_n hx hb dL_law_2017 rfl (lv_at hl 5 rfl) ?_
  refine lv_iload hx hb dL_law_2018 (lv_at hl 0 rfl) ?_
  refine lv_iconst (v := 3) hx hb dL_law_2020 (by decide) ?_
  refine lv_iadd hx hb dL_law_2021 ?_
  refine z_sld hx hb hX hbl hL hi h.2.2.2 (k := 3) (by decide) hv3 dL_law_2022 ?_
  refine lv_aload_n hx hb dL_law_2023 rfl (lv_at hl 2 rfl) ?_
  obtain ⟨r1, er1, hf⟩ := xbd_s hf
  refine z_L (Γ := Γ) (a := a) (As := [.ref (Γ.2.1 1470), .int v1, .int v2, .int v3, .ref (Γ.2.1 1481)]) (rest := []) S9 (m_L_canWith l hlt er1) (vx_cwSW 5 hts (zgS lw_sub q888 q889 q144 q890) rfl rfl rfl hdL_canWith ⟨Nat.le_of_ble_eq_true rfl, Nat.le_of_ble_eq_true rfl⟩) hd hz h rfl hl.1 rfl (Nat.le_of_ble_eq_true rfl) dL_law_2024 ⟨by show cells + 3 ≤ 603072; omega, by show slots + 18 ≤ 7190634; omega⟩ (fun H locs h => ?_)
  refine lv_istore (lv' := [(6, .int r1.2), (5, .int (Int32.ofNat i)), (4, .ref (Γ.2.1 1482)), (3, .ref (Γ.2.1 1481)), (2, .ref (a 0)), (1, .ref (Γ.2.1 1470)), (0, .ref b)]) hx hb dL_law_2027 hl (by decide) rfl (fun ls hl => ?_)
  refine lv_aload_n hx hb dL_law_2029 rfl (lv_at hl 4 rfl) ?_
  refine lv_aload_n hx hb dL_law_2030 rfl (lv_at hl 6 rfl) ?_
  refine lv_iload hx hb dL_law_2031 (lv_at hl 1 rfl) ?_
  refine lv_iconst (v := 1) hx hb dL_law_2033 (by decide) ?_
  refine lv_iadd hx hb dL_law_2034 ?_
  refine z_sld hx hb hX hbl hL hi h.2.2.2 (k := 1) (by decide) hv1 dL_law_2035 ?_
  refine lv_aload_n hx hb dL_law_2036 rfl (lv_at hl 6 rfl) ?_
  refine lv_iload hx hb dL_law_2037 (lv_at hl 1 rfl) ?_
  refine lv_iconst (v := 2) hx hb dL_law_2039 (by decide) ?_
  refine lv_iadd hx hb dL_law_2040 ?_
  refine z_sld hx hb hX hbl hL hi h.2.2.2 (k := 2) (by decide) hv2 dL_law_2041 ?_
  refine lv_aload_n hx hb dL_law_2042 rfl (lv_at hl 6 rfl) ?_
  refine lv_iload hx hb dL_law_2043 (lv_at hl 1 rfl) ?_
  refine lv_iconst (v := 3) hx hb dL_law_2045 (by decide) ?_
  refine lv_iadd hx hb dL_law_2046 ?_
  refine z_sld hx hb hX hbl hL hi h.2.2.2 (k := 3) (by decide) hv3 dL_law_2047 ?_
  obtain ⟨r2, er2, hf⟩ := xbd_s hf
  refine z_Ri (Γ := Γ) (a := a) (As := [.int v1, .int v2, .int v3]) (rest := []) S9 (m_X10_canWith l (Γ := gR Γ a) er2) (cwV 3 hts (xgV lw_sub q900 q901 q902 q5 q903) rfl rfl rfl hdX10_canWith ⟨Nat.le_of_ble_eq_true rfl, Nat.le_of_ble_eq_true rfl⟩) hd h rfl hl.1 rfl (Nat.le_of_ble_eq_true rfl) dL_law_2048 ⟨by show cells + 3 + 0 ≤ 603072; omega, by show slots + 18 + 0 ≤ 7190634; omega⟩ (fun H locs h => ?_)
  refine lv_istore (lv' := [(7, .int r2.2), (6, .int r1.2), (5, .int (Int32.ofNat i)), (4, .ref (Γ.2.1 1482)), (3, .ref (Γ.2.1 1481)), (2, .ref (a 0)), (1, .ref (Γ.2.1 1470)), (0, .ref b)]) hx hb dL_law_2051 hl (by decide) rfl (fun ls hl => ?_)
  refine lv_aload_n hx hb dL_law_2053 rfl (lv_at hl 5 rfl) ?_
  obtain ⟨r3, er3, hf⟩ := xbd_s hf
  refine z_Ri (Γ := Γ) (a := a) (As := []) (rest := []) S9 (m_X10_thrown l (Γ := gR Γ a) er3) (cwV 0 hts (xgV lw_sub q225 q226 q227 q5 q228) rfl rfl rfl hdX10_thrown ⟨Nat.le_of_ble_eq_true rfl, Nat.le_of_ble_eq_true rfl⟩) hd h rfl hl.1 rfl (Nat.le_of_ble_eq_true rfl) dL_law_2054 ⟨by show cells + 3 + 0 + 0 ≤ 603072; omega, by show slots + 18 + 0 + 0 ≤ 7190634; omega⟩ (fun H locs h => ?_)
  refine lv_iload hx hb dL_law_2057 (lv_at hl 1 rfl) ?_
  refine lv_icmp_eq (tgt := 2064) hx hb dL_law_2059 (by decide) (fun c4 => ?_) (fun c4 => ?_)
  · replace hf := xif_t hf c4
    refine lv_iload hx hb dL_law_2064 (lv_at hl 1 rfl) ?_
    refine lv_if_ne (tgt := 2081) hx hb dL_law_2066 (by decide) (fun c5 => ?_) (fun c5 => ?_)
    · replace hf := xif_f hf c5
      refine lv_goto (tgt := 2488) hx hb dL_law_2081 (by decide) ?_
      obtain rfl := Option.some.inj hf
      refine W.widen (k := cells + 5) (n := slots + 30) (by omega) (by omega) ?_
      exact kk _ _ _ h (lv_sub hl [2, 3, 4, 5, 6, 7] rfl)
    · replace hf := xif_t hf c5
      refine lv_aload_n hx hb dL_law_2069 rfl (lv_at hl 4 rfl) ?_
      refine lv_iconst (v := 0) hx hb dL_law_2070 (by decide) ?_
      refine x_lald hx hb (zH_X hd h) kX_out (xin_in (by decide)) dL_law_2071 ?_
      refine lv_iload hx hb dL_law_2072 (lv_at hl 0 rfl) ?_
      refine lv_i2l (v := (r2.2).toInt64) hx hb dL_law_2074 rfl ?_
      refine W.lcmp hx hb dL_law_2075 ?_
      refine lv_if_eq (tgt := 2081) hx hb dL_law_2076 (by decide) (fun c6 => ?_) (fun c6 => ?_)
      · replace hf := xif_t hf c6
        refine lv_goto (tgt := 2488) hx hb dL_law_2081 (by decide) ?_
        obtain rfl := Option.some.inj hf
        refine W.widen (k := cells + 5) (n := slots + 30) (by omega) (by omega) ?_
        exact kk _ _ _ h (lv_sub hl [2, 3, 4, 5, 6, 7] rfl)
      · replace hf := xif_f hf c6
        refine lv_iconst (v := 0) hx hb dL_law_2079 (by decide) ?_
        cases hf
  · replace hf := xif_f hf c4
    refine lv_iconst (v := 0) hx hb dL_law_2062 (by decide) ?_
    cases hf
set_option maxHeartbeats 4000000 in
set_option maxRecDepth 100000 in
theorem law_28 {p : Program} (l : Launch) {e : Env} {s : State} {m : MethodId} {args : Array Value} {below : List Frame} {meth : Method} {c : Code} {H : Heap} {locs : List Loc} {cells slots : Nat} {Q : State → Prop} {ls : Array Slot} {Γ : xG} {a : Nat → Nat} {M R : xM} {N b L i : Nat} {xs : Nat → Int32} {q : xM × xM} {v1 v2 v3 v4 v5 v6 : Int32}
    (hlt : l.stackTraces = false) (S9 : CallFix p m c cL_law 9 s args lw_tbl RL) (hd : zD Γ a s.heap.size) (hz : zZ s) (hX : va_X b L xs s s.heap) (hbl : b < s.heap.size) (hL : L ≤ 3584) (hi : i + 7 ≤ L) (hv1 : xs (i + 1) = v1) (hv2 : xs (i + 2) = v2) (hv3 : xs (i + 3) = v3) (hv4 : xs (i + 4) = v4) (hv5 : xs (i + 5) = v5) (hv6 : xs (i + 6) = v6) (hc : cells + 5 ≤ 603072) (hs : slots + 30 ≤ 7190634)
    (hf : zOp_28 N v1 v2 v3 v4 v5 v6 M R = some q) (h : zH Γ a s M R H locs) (hl : lv_has ls 9 [(5, .int (Int32.ofNat i)), (4, .ref (Γ.2.1 1482)), (3, .ref (Γ.2.1 1481)), (2, .ref (a 0)), (1, .ref (Γ.2.1 1470)), (0, .ref b)])
    (kk : ∀ (H : Heap) (locs : List Loc) (ls : Array Slot), zH Γ a s q.1 q.2 H locs → lv_has ls 9 [(5, .int (Int32.ofNat i)), (4, .ref (Γ.2.1 1482)), (3, .ref (Γ.2.1 1481)), (2, .ref (a 0)), (1, .ref (Γ.2.1 1470)), (0, .ref b)] → W p l e room_1 s m args below meth c H locs (cells + 5) (slots + 30) Q (F0 m 2488 ls [])) : W p l e room_1 s m args below meth c H locs cells slots Q (F0 m 2084 ls []) := by
  obtain ⟨hx, hb, hml, hown, hts⟩ := id S9
  refine lv_aload_n hx hb dL_law_2084 rfl (lv_at hl 4 rfl) ?_
  refine lv_aload_n hx hb dL_law_2085 rfl (lv_at hl 5 rfl) ?_
  refine lv_iload hx hb dL_law_2086 (lv_at hl 0 rfl) ?_
  refine lv_iconst (v := 1) hx hb dL_law_2088 (by decide) ?_
  refine lv_iadd hx hb dL_law_2089 ?_
  refine z_sld hx hb hX hbl hL hi h.2.2.2 (k := 1) (by decide) hv1 dL_law_2090 ?_
  refine lv_aload_n hx hb dL_law_2091 rfl (lv_at hl 5 rfl) ?_
  refine lv_iload hx hb dL_law_2092 (lv_at hl 0 rfl) ?_
  refine lv_iconst (v := 2) hx hb dL_law_2094 (by decide) ?_
  refine lv_iadd hx hb dL_law_2095 ?_
  refine z_sld hx hb hX hbl hL hi h.2.2.2 (k := 2) (by decide) hv2 dL_law_2096 ?_
  refine lv_aload_n hx hb dL_law_2097 rfl (lv_at hl 2 rfl) ?_
  obtain ⟨r1, er1, hf⟩ := xbd_s hf
  refine z_L (Γ := Γ) (a := a) (As := [.ref (Γ.2.1 1470), .int v1, .int v2, .ref (Γ.2.1 1481)]) (rest := []) S9 (m_L_formulasWith l hlt er1) (vx_cwSW 4 hts (zgS lw_sub q904 q905 q144 q906) rfl rfl rfl hdL_formulasWith ⟨Nat.le_of_ble_eq_true rfl, Nat.le_of_ble_eq_true rfl⟩) hd hz h rfl hl.1 rfl (Nat.le_of_ble_eq_true rfl) dL_law_2098 ⟨by show cells + 2 ≤ 603072; omega, by show slots + 12 ≤ 7190634; omega⟩ (fun H locs h => ?_)
  refine lv_istore (lv' := [(6, .int r1.2), (5, .int (Int32.ofNat i)), (4, .ref (Γ.2.1 1482)), (3, .ref (Γ.2.1 1481)), (2, .ref (a 0)), (1, .ref (Γ.2.1 1470)), (0, .ref b)]) hx hb dL_law_2101 hl (by decide) rfl (fun ls hl => ?_)
  refine lv_aload_n hx hb dL_law_2103 rfl (lv_at hl 4 rfl) ?_
  refine lv_aload_n hx hb dL_law_2104 rfl (lv_at hl 6 rfl) ?_
  refine lv_iload hx hb dL_law_2105 (lv_at hl 1 rfl) ?_
  refine lv_iconst (v := 1) hx hb dL_law_2107 (by decide) ?_
  refine lv_iadd hx hb dL_law_2108 ?_
  refine z_sld hx hb hX hbl hL hi h.2.2.2 (k := 1) (by decide) hv1 dL_law_2109 ?_
  refine lv_aload_n hx hb dL_law_2110 rfl (lv_at hl 6 rfl) ?_
  refine lv_iload hx hb dL_law_2111 (lv_at hl 1 rfl) ?_
  refine lv_iconst (v := 2) hx hb dL_law_2113 (by decide) ?_
  refine lv_iadd hx hb dL_law_2114 ?_
  refine z_sld hx hb hX hbl hL hi h.2.2.2 (k := 2) (by decide) hv2 dL_law_2115 ?_
  obtain ⟨r2, er2, hf⟩ := xbd_s hf
  refine z_Ri (Γ := Γ) (a := a) (As := [.int v1, .int v2]) (rest := []) S9 (m_X10_formulasWith l (Γ := gR Γ a) er2) (cwV 2 hts (xgV lw_sub q915 q916 q917 q5 q918) rfl rfl rfl hdX10_formulasWith ⟨Nat.le_of_ble_eq_true rfl, Nat.le_of_ble_eq_true rfl⟩) hd h rfl hl.1 rfl (Nat.le_of_ble_eq_true rfl) dL_law_2116 ⟨by show cells + 2 + 0 ≤ 603072; omega, by show slots + 12 + 0 ≤ 7190634; omega⟩ (fun H locs h => ?_)
  refine lv_istore (lv' := [(7, .int r2.2), (6, .int r1.2), (5, .int (Int32.ofNat i)), (4, .ref (Γ.2.1 1482)), (3, .ref (Γ.2.1 1481)), (2, .ref (a 0)), (1, .ref (Γ.2.1 1470)), (0, .ref b)]) hx hb dL_law_2119 hl (by decide) rfl (fun ls hl => ?_)
  refine lv_aload_n hx hb dL_law_2121 rfl (lv_at hl 5 rfl) ?_
  obtain ⟨r3, er3, hf⟩ := xbd_s hf
  refine z_Ri (Γ := Γ) (a := a) (As := []) (rest := []) S9 (m_X10_thrown l (Γ := gR Γ a) er3) (cwV 0 hts (xgV lw_sub q225 q226 q227 q5 q228) rfl rfl rfl hdX10_thrown ⟨Nat.le_of_ble_eq_true rfl, Nat.le_of_ble_eq_true rfl⟩) hd h rfl hl.1 rfl (Nat.le_of_ble_eq_true rfl) dL_law_2122 ⟨by show cells + 2 + 0 + 0 ≤ 603072; omega, by show slots + 12 + 0 + 0 ≤ 7190634; omega⟩ (fun H locs h => ?_)
  refine lv_iload hx hb dL_law_2125 (lv_at hl 1 rfl) ?_
  refine lv_icmp_eq (tgt := 2132) hx hb dL_law_2127 (by decide) (fun c4 => ?_) (fun c4 => ?_)
  · replace hf := xif_t hf c4
    refine lv_iload hx hb dL_law_2132 (lv_at hl 1 rfl) ?_
    refine lv_if_ne (tgt := 2149) hx hb dL_law_2134 (by decide) (fun c5 => ?_) (fun c5 => ?_)
    · replace hf := xif_f hf c5
      refine lv_goto (tgt := 2488) hx hb dL_law_2149 (by decide) ?_
      obtain rfl := Option.some.inj hf
      refine W.widen (k := cells + 5) (n := slots + 30) (by omega) (by omega) ?_
      exact kk _ _ _ h (lv_sub hl [2, 3, 4, 5, 6, 7] rfl)
    · replace hf := xif_t hf c5
      refine lv_aload_n hx hb dL_law_2137 rfl (lv_at hl 4 rfl) ?_
      refine lv_iconst (v := 0) hx hb dL_law_2138 (by decide) ?_
      refine x_lald hx hb (zH_X hd h) kX_out (xin_in (by decide)) dL_law_2139 ?_
      refine lv_iload hx hb dL_law_2140 (lv_at hl 0 rfl) ?_
      refine lv_i2l (v := (r2.2).toInt64) hx hb dL_law_2142 rfl ?_
      refine W.lcmp hx hb dL_law_2143 ?_
      refine lv_if_eq (tgt := 2149) hx hb dL_law_2144 (by decide) (fun c6 => ?_) (fun c6 => ?_)
      · replace hf := xif_t hf c6
        refine lv_goto (tgt := 2488) hx hb dL_law_2149 (by decide) ?_
        obtain rfl := Option.some.inj hf
        refine W.widen (k := cells + 5) (n := slots + 30) (by omega) (by omega) ?_
        exact kk _ _ _ h (lv_sub hl [2, 3, 4, 5, 6, 7] rfl)
      · replace hf := xif_f hf c6
        refine lv_iconst (v := 0) hx hb dL_law_2147 (by decide) ?_
        cases hf
  · replace hf := xif_f hf c4
    refine lv_iconst (v := 0) hx hb dL_law_2130 (by decide) ?_
    cases hf
set_option maxHeartbeats 4000000 in
set_option maxRecDepth 100000 in
theorem law_29 {p : Program} (l : Launch) {e : Env} {s : State} {m : MethodId} {args : Array Value} {below : List Frame} {meth : Method} {c : Code} {H : Heap} {locs : List Loc} {cells slots : Nat} {Q : State → Prop} {ls : Array Slot} {Γ : xG} {a : Nat → Nat} {M R : xM} {N b L i : Nat} {xs : Nat → Int32} {q : xM × xM} {v1 v2 v3 v4 v5 v6 : Int32}
    (hlt : l.stackTraces = false) (S9 : CallFix p m c cL_law 9 s args lw_tbl RL) (hd : zD Γ a s.heap.size) (hz : zZ s) (hX : va_X b L xs s s.heap) (hbl : b < s.heap.size) (hL : L ≤ 3584) (hi : i + 7 ≤ L) (hv1 : xs (i + 1) = v1) (hv2 : xs (i + 2) = v2) (hv3 : xs (i + 3) = v3) (hv4 : xs (i + 4) = v4) (hv5 : xs (i + 5) = v5) (hv6 : xs (i + 6) = v6) (hc : cells + 5 ≤ 603072) (hs : slots + 30 ≤ 7190634)
    (hf : zOp_29 N v1 v2 v3 v4 v5 v6 M R = some q) (h : zH Γ a s M R H locs) (hl : lv_has ls 9 [(5, .int (Int32.ofNat i)), (4, .ref (Γ.2.1 1482)), (3, .ref (Γ.2.1 1481)), (2, .ref (a 0)), (1, .ref (Γ.2.1 1470)), (0, .ref b)])
    (kk : ∀ (H : Heap) (locs : List Loc) (ls : Array Slot), zH Γ a s q.1 q.2 H locs → lv_has ls 9 [(5, .int (Int32.ofNat i)), (4, .ref (Γ.2.1 1482)), (3, .ref (Γ.2.1 1481)), (2, .ref (a 0)), (1, .ref (Γ.2.1 1470)), (0, .ref b)] → W p l e room_1 s m args below meth c H locs (cells + 5) (slots + 30) Q (F0 m 2488 ls [])) : W p l e room_1 s m args below meth c H locs cells slots Q (F0 m 2152 ls []) := by
  obtain ⟨hx, hb, hml, hown, hts⟩ := id S9
  refine lv_aload_n hx hb dL_law_2152 rfl (lv_at hl 4 rfl) ?_
  refine lv_aload_n hx hb dL_law_2153 rfl (lv_at hl 5 rfl) ?_
  refine lv_iload hx hb dL_law_2154 (lv_at hl 0 rfl) ?_
  refine lv_iconst (v := 1) hx hb dL_law_2156 (by decide) ?_
  refine lv_iadd hx hb dL_law_2157 ?_
  refine z_sld hx hb hX hbl hL hi h.2.2.2 (k := 1) (by decide) hv1 dL_law_2158 ?_
  refine lv_aload_n hx hb dL_law_2159 rfl (lv_at hl 2 rfl) ?_
  obtain ⟨r1, er1, hf⟩ := xbd_s hf
  refine z_L (Γ := Γ) (a := a) (As := [.ref (Γ.2.1 1470), .int v1, .ref (Γ.2.1 1481)]) (rest := []) S9 (m_L_labelLength l hlt er1) (vx_cwSW 3 hts (zgS lw_sub q919 q920 q144 q921) rfl rfl rfl hdL_labelLength ⟨Nat.le_of_ble_eq_true rfl, Nat.le_of_ble_eq_true rfl⟩) hd hz h rfl hl.1 rfl (Nat.le_of_ble_eq_true rfl) dL_law_2160 ⟨by show cells + 1 ≤ 603072; omega, by show slots + 6 ≤ 7190634; omega⟩ (fun H locs h => ?_)
  refine lv_istore (lv' := [(6, .int r1.2), (5, .int (Int32.ofNat i)), (4, .ref (Γ.2.1 1482)), (3, .ref (Γ.2.1 1481)), (2, .ref (a 0)), (1, .ref (Γ.2.1 1470)), (0, .ref b)]) hx hb dL_law_2163 hl (by decide) rfl (fun ls hl => ?_)
  refine lv_aload_n hx hb dL_law_2165 rfl (lv_at hl 4 rfl) ?_
  refine lv_aload_n hx hb dL_law_2166 rfl (lv_at hl 6 rfl) ?_
  refine lv_iload hx hb dL_law_2167 (lv_at hl 1 rfl) ?_
  refine lv_iconst (v := 1) hx hb dL_law_2169 (by decide) ?_
  refine lv_iadd hx hb dL_law_2170 ?_
  refine z_sld hx hb hX hbl hL hi h.2.2.2 (k := 1) (by decide) hv1 dL_law_2171 ?_
  obtain ⟨r2, er2, hf⟩ := xbd_s hf
  refine z_Ri (Γ := Γ) (a := a) (As := [.int v1]) (rest := []) S9 (m_X10_labelLength l (Γ := gR Γ a) er2) (cwV 1 hts (xgV lw_sub q948 q949 q950 q5 q951) rfl rfl rfl hdX10_labelLength ⟨Nat.le_of_ble_eq_true rfl, Nat.le_of_ble_eq_true rfl⟩) hd h rfl hl.1 rfl (Nat.le_of_ble_eq_true rfl) dL_law_2172 ⟨by show cells + 1 + 0 ≤ 603072; omega, by show slots + 6 + 0 ≤ 7190634; omega⟩ (fun H locs h => ?_)
  refine lv_istore (lv' := [(7, .int r2.2), (6, .int r1.2), (5, .int (Int32.ofNat i)), (4, .ref (Γ.2.1 1482)), (3, .ref (Γ.2.1 1481)), (2, .ref (a 0)), (1, .ref (Γ.2.1 1470)), (0, .ref b)]) hx hb dL_law_2175 hl (by decide) rfl (fun ls hl => ?_)
  refine lv_aload_n hx hb dL_law_2177 rfl (lv_at hl 5 rfl) ?_
  obtain ⟨r3, er3, hf⟩ := xbd_s hf
  refine z_Ri (Γ := Γ) (a := a) (As := []) (rest := []) S9 (m_X10_thrown l (Γ := gR Γ a) er3) (cwV 0 hts (xgV lw_sub q225 q226 q227 q5 q228) rfl rfl rfl hdX10_thrown ⟨Nat.le_of_ble_eq_true rfl, Nat.le_of_ble_eq_true rfl⟩) hd h rfl hl.1 rfl (Nat.le_of_ble_eq_true rfl) dL_law_2178 ⟨by show cells + 1 + 0 + 0 ≤ 603072; omega, by show slots + 6 + 0 + 0 ≤ 7190634; omega⟩ (fun H locs h => ?_)
  refine lv_iload hx hb dL_law_2181 (lv_at hl 1 rfl) ?_
  refine lv_icmp_eq (tgt := 2188) hx hb dL_law_2183 (by decide) (fun c4 => ?_) (fun c4 => ?_)
  · replace hf := xif_t hf c4
    refine lv_iload hx hb dL_law_2188 (lv_at hl 1 rfl) ?_
    refine lv_if_ne (tgt := 2205) hx hb dL_law_2190 (by decide) (fun c5 => ?_) (fun c5 => ?_)
    · replace hf := xif_f hf c5
      refine lv_goto (tgt := 2488) hx hb dL_law_2205 (by decide) ?_
      obtain rfl := Option.some.inj hf
      refine W.widen (k := cells + 5) (n := slots + 30) (by omega) (by omega) ?_
      exact kk _ _ _ h (lv_sub hl [2, 3, 4, 5, 6, 7] rfl)
    · replace hf := xif_t hf c5
      refine lv_aload_n hx hb dL_law_2193 rfl (lv_at hl 4 rfl) ?_
      refine lv_iconst (v := 0) hx hb dL_law_2194 (by decide) ?_
      refine x_lald hx hb (zH_X hd h) kX_out (xin_in (by decide)) dL_law_2195 ?_
      refine lv_iload hx hb dL_law_2196 (lv_at hl 0 rfl) ?_
      refine lv_i2l (v := (r2.2).toInt64) hx hb dL_law_2198 rfl ?_
      refine W.lcmp hx hb dL_law_2199 ?_
      refine lv_if_eq (tgt := 2205) hx hb dL_law_2200 (by decide) (fun c6 => ?_) (fun c6 => ?_)
      · replace hf := xif_t hf c6
        refine lv_goto (tgt := 2488) hx hb dL_law_2205 (by decide) ?_
        obtain rfl := Option.some.inj hf
        refine W.widen (k := cells + 5) (n := slots + 30) (by omega) (by omega) ?_
        exact kk _ _ _ h (lv_sub hl [2, 3, 4, 5, 6, 7] rfl)
      · replace hf := xif_f hf c6
        refine lv_iconst (v := 0) hx hb dL_law_2203 (by decide) ?_
        cases hf
  · replace hf := xif_f hf c4
    refine lv_iconst (v := 0) hx hb dL_law_2186 (by decide) ?_
    cases hf
set_option maxHeartbeats 4000000 in
set_option maxRecDepth 100000 in
theorem law_30 {p : Program} (l : Launch) {e : Env} {s : State} {m : MethodId} {args : Array Value} {below : List Frame} {meth : Method} {c : Code} {H : Heap} {locs : List Loc} {cells slots : Nat} {Q : State → Prop} {ls : Array Slot} {Γ : xG} {a : Nat → Nat} {M R : xM} {N b L i : Nat} {xs : Nat → Int32} {q : xM × xM} {v1 v2 v3 v4 v5 v6 : Int32}
    (hlt : l.stackTraces = false) (S9 : CallFix p m c cL_law 9 s args lw_tbl RL) (hd : zD Γ a s.heap.size) (hz : zZ s) (hX : va_X b L xs s s.heap) (hbl : b < s.heap.size) (hL : L ≤ 3584) (hi : i + 7 ≤ L) (hv1 : xs (i + 1) = v1) (hv2 : xs (i + 2) = v2) (hv3 : xs (i + 3) = v3) (hv4 : xs (i + 4) = v4) (hv5 : xs (i + 5) = v5) (hv6 : xs (i + 6) = v6) (hc : cells + 5 ≤ 603072) (hs : slots + 30 ≤ 7190634)
    (hf : zOp_30 N v1 v2 v3 v4 v5 v6 M R = some q) (h : zH Γ a s M R H locs) (hl : lv_has ls 9 [(5, .int (Int32.ofNat i)), (4, .ref (Γ.2.1 1482)), (3, .ref (Γ.2.1 1481)), (2, .ref (a 0)), (1, .ref (Γ.2.1 1470)), (0, .ref b)])
    (kk : ∀ (H : Heap) (locs : List Loc) (ls : Array Slot), zH Γ a s q.1 q.2 H locs → lv_has ls 9 [(5, .int (Int32.ofNat i)), (4, .ref (Γ.2.1 1482)), (3, .ref (Γ.2.1 1481)), (2, .ref (a 0)), (1, .ref (Γ.2.1 1470)), (0, .ref b)] → W p l e room_1 s m args below meth c H locs (cells + 5) (slots + 30) Q (F0 m 2488 ls [])) : W p l e room_1 s m args below meth c H locs cells slots Q (F0 m 2208 ls []) := by
  obtain ⟨hx, hb, hml, hown, hts⟩ := id S9
  refine lv_aload_n hx hb dL_law_2208 rfl (lv_at hl 4 rfl) ?_
  refine lv_aload_n hx hb dL_law_2209 rfl (lv_at hl 5 rfl) ?_
  refine lv_iload hx hb dL_law_2210 (lv_at hl 0 rfl) ?_
  refine lv_iconst (v := 1) hx hb dL_law_2212 (by decide) ?_
  refine lv_iadd hx hb dL_law_2213 ?_
  refine z_sld hx hb hX hbl hL hi h.2.2.2 (k := 1) (by decide) hv1 dL_law_2214 ?_
  refine lv_aload_n hx hb dL_law_2215 rfl (lv_at hl 5 rfl) ?_
  refine lv_iload hx hb dL_law_2216 (lv_at hl 0 rfl) ?_
  refine lv_iconst (v := 2) hx hb dL_law_2218 (by decide) ?_
  refine lv_iadd hx hb dL_law_2219 ?_
  refine z_sld hx hb hX hbl hL hi h.2.2.2 (k := 2) (by decide) hv2 dL_law_2220 ?_
  refine lv_aload_n hx hb dL_law_2221 rfl (lv_at hl 2 rfl) ?_
  obtain ⟨r1, er1, hf⟩ := xbd_s hf
  refine z_L (Γ := Γ) (a := a) (As := [.ref (Γ.2.1 1470), .int v1, .int v2, .ref (Γ.2.1 1481)]) (rest := []) S9 (m_L_label l hlt er1) (vx_cwSW 4 hts (zgS lw_sub q965 q966 q144 q967) rfl rfl rfl hdL_label ⟨Nat.le_of_ble_eq_true rfl, Nat.le_of_ble_eq_true rfl⟩) hd hz h rfl hl.1 rfl (Nat.le_of_ble_eq_true rfl) dL_law_2222 ⟨by show cells + 2 ≤ 603072; omega, by show slots + 12 ≤ 7190634; omega⟩ (fun H locs h => ?_)
  refine lv_istore (lv' := [(6, .int r1.2), (5, .int (Int32.ofNat i)), (4, .ref (Γ.2.1 1482)), (3, .ref (Γ.2.1 1481)), (2, .ref (a 0)), (1, .ref (Γ.2.1 1470)), (0, .ref b)]) hx hb dL_law_2225 hl (by decide) rfl (fun ls hl => ?_)
  refine lv_aload_n hx hb dL_law_2227 rfl (lv_at hl 4 rfl) ?_
  refine lv_aload_n hx hb dL_law_2228 rfl (lv_at hl 6 rfl) ?_
  refine lv_iload hx hb dL_law_2229 (lv_at hl 1 rfl) ?_
  refine lv_iconst (v := 1) hx hb dL_law_2231 (by decide) ?_
  refine lv_iadd hx hb dL_law_2232 ?_
  refine z_sld hx hb hX hbl hL hi h.2.2.2 (k := 1) (by decide) hv1 dL_law_2233 ?_
  refine lv_aload_n hx hb dL_law_2234 rfl (lv_at hl 6 rfl) ?_
  refine lv_iload hx hb dL_law_2235 (lv_at hl 1 rfl) ?_
  refine lv_iconst (v := 2) hx hb dL_law_2237 (by decide) ?_
  refine lv_iadd hx hb dL_law_2238 ?_
  refine z_sld hx hb hX hbl hL hi h.2.2.2 (k := 2) (by decide) hv2 dL_law_2239 ?_
  obtain ⟨r2, er2, hf⟩ := xbd_s hf
  refine z_Ri (Γ := Γ) (a := a) (As := [.int v1, .int v2]) (rest := []) S9 (m_X10_label l (Γ := gR Γ a) er2) (cwV 2 hts (xgV lw_sub q973 q974 q975 q5 q976) rfl rfl rfl hdX10_label ⟨Nat.le_of_ble_eq_true rfl, Nat.le_of_ble_eq_true rfl⟩) hd h rfl hl.1 rfl (Nat.le_of_ble_eq_true rfl) dL_law_2240 ⟨by show cells + 2 + 0 ≤ 603072; omega, by show slots + 12 + 0 ≤ 7190634; omega⟩ (fun H locs h => ?_)
  refine lv_istore (lv' := [(7, .int r2.2), (6, .int r1.2), (5, .int (Int32.ofNat i)), (4, .ref (Γ.2.1 1482)), (3, .ref (Γ.2.1 1481)), (2, .ref (a 0)), (1, .ref (Γ.2.1 1470)), (0, .ref b)]) hx hb dL_law_2243 hl (by decide) rfl (fun ls hl => ?_)
  refine lv_aload_n hx hb dL_law_2245 rfl (lv_at hl 5 rfl) ?_
  obtain ⟨r3, er3, hf⟩ := xbd_s hf
  refine z_Ri (Γ := Γ) (a := a) (As := []) (rest := []) S9 (m_X10_thrown l (Γ := gR Γ a) er3) (cwV 0 hts (xgV lw_sub q225 q226 q227 q5 q228) rfl rfl rfl hdX10_thrown ⟨Nat.le_of_ble_eq_true rfl, Nat.le_of_ble_eq_true rfl⟩) hd h rfl hl.1 rfl (Nat.le_of_ble_eq_true rfl) dL_law_2246 ⟨by show cells + 2 + 0 + 0 ≤ 603072; omega, by show slots + 12 + 0 + 0 ≤ 7190634; omega⟩ (fun H locs h => ?_)
  refine lv_iload hx hb dL_law_2249 (lv_at hl 1 rfl) ?_
  refine lv_icmp_eq (tgt := 2256) hx hb dL_law_2251 (by decide) (fun c4 => ?_) (fun c4 => ?_)
  · replace hf := xif_t hf c4
    refine lv_iload hx hb dL_law_2256 (lv_at hl 1 rfl) ?_
    refine lv_if_ne (tgt := 2273) hx hb dL_law_2258 (by decide) (fun c5 => ?_) (fun c5 => ?_)
    · replace hf := xif_f hf c5
      refine lv_goto (tgt := 2488) hx hb dL_law_2273 (by decide) ?_
      obtain rfl := Option.some.inj hf
      refine W.widen (k := cells + 5) (n := slots + 30) (by omega) (by omega) ?_
      exact kk _ _ _ h (lv_sub hl [2, 3, 4, 5, 6, 7] rfl)
    · replace hf := xif_t hf c5
      refine lv_aload_n hx hb dL_law_2261 rfl (lv_at hl 4 rfl) ?_
      refine lv_iconst (v := 0) hx hb dL_law_2262 (by decide) ?_
      refine x_lald hx hb (zH_X hd h) kX_out (xin_in (by decide)) dL_law_2263 ?_
      refine lv_iload hx hb dL_law_2264 (lv_at hl 0 rfl) ?_
      refine lv_i2l (v := (r2.2).toInt64) hx hb dL_law_2266 rfl ?_
      refine W.lcmp hx hb dL_law_2267 ?_
      refine lv_if_eq (tgt := 2273) hx hb dL_law_2268 (by decide) (fun c6 => ?_) (fun c6 => ?_)
      · replace hf := xif_t hf c6
        refine lv_goto (tgt := 2488) hx hb dL_law_2273 (by decide) ?_
        obtain rfl := Option.some.inj hf
        refine W.widen (k := cells + 5) (n := slots + 30) (by omega) (by omega) ?_
        exact kk _ _ _ h (lv_sub hl [2, 3, 4, 5, 6, 7] rfl)
      · replace hf := xif_f hf c6
        refine lv_iconst (v := 0) hx hb dL_law_2271 (by decide) ?_
        cases hf
  · replace hf := xif_f hf c4
    refine lv_iconst (v := 0) hx hb dL_law_2254 (by decide) ?_
    cases hf
set_option maxHeartbeats 4000000 in
set_option maxRecDepth 100000 in
theorem law_31 {p : Program} (l : Launch) {e : Env} {s : State} {m : MethodId} {args : Array Value} {below : List Frame} {meth : Method} {c : Code} {H : Heap} {locs : List Loc} {cells slots : Nat} {Q : State → Prop} {ls : Array Slot} {Γ : xG} {a : Nat → Nat} {M R : xM} {N b L i : Nat} {xs : Nat → Int32} {q : xM × xM} {v1 v2 v3 v4 v5 v6 : Int32}
    (hlt : l.stackTraces = false) (S9 : CallFix p m c cL_law 9 s args lw_tbl RL) (hd : zD Γ a s.heap.size) (hz : zZ s) (hX : va_X b L xs s s.heap) (hbl : b < s.heap.size) (hL : L ≤ 3584) (hi : i + 7 ≤ L) (hv1 : xs (i + 1) = v1) (hv2 : xs (i + 2) = v2) (hv3 : xs (i + 3) = v3) (hv4 : xs (i + 4) = v4) (hv5 : xs (i + 5) = v5) (hv6 : xs (i + 6) = v6) (hc : cells + 5 ≤ 603072) (hs : slots + 30 ≤ 7190634)
    (hf : zOp_31 N v1 v2 v3 v4 v5 v6 M R = some q) (h : zH Γ a s M R H locs) (hl : lv_has ls 9 [(5, .int (Int32.ofNat i)), (4, .ref (Γ.2.1 1482)), (3, .ref (Γ.2.1 1481)), (2, .ref (a 0)), (1, .ref (Γ.2.1 1470)), (0, .ref b)])
    (kk : ∀ (H : Heap) (locs : List Loc) (ls : Array Slot), zH Γ a s q.1 q.2 H locs → lv_has ls 9 [(5, .int (Int32.ofNat i)), (4, .ref (Γ.2.1 1482)), (3, .ref (Γ.2.1 1481)), (2, .ref (a 0)), (1, .ref (Γ.2.1 1470)), (0, .ref b)] → W p l e room_1 s m args below meth c H locs (cells + 5) (slots + 30) Q (F0 m 2488 ls [])) : W p l e room_1 s m args below meth c H locs cells slots Q (F0 m 2276 ls []) := by
  obtain ⟨hx, hb, hml, hown, hts⟩ := id S9
  refine lv_aload_n hx hb dL_law_2276 rfl (lv_at hl 4 rfl) ?_
  refine lv_aload_n hx hb dL_law_2277 rfl (lv_at hl 5 rfl) ?_
  refine lv_iload hx hb dL_law_2278 (lv_at hl 0 rfl) ?_
  refine lv_iconst (v := 1) hx hb dL_law_2280 (by decide) ?_
  refine lv_iadd hx hb dL_law_2281 ?_
  refine z_sld hx hb hX hbl hL hi h.2.2.2 (k := 1) (by decide) hv1 dL_law_2282 ?_
  refine lv_aload hx hb dL_law_2283 (lv_at hl 1 rfl) ?_
  obtain ⟨r1, er1, hf⟩ := xbd_s hf
  refine z_L (Γ := Γ) (a := a) (As := [.ref (Γ.2.1 1470), .int v1, .ref (Γ.2.1 1482)]) (rest := []) S9 (m_L_meanSteps l hlt er1) (vx_cwSW 3 hts (zgS lw_sub q977 q978 q144 q979) rfl rfl rfl hdL_meanSteps ⟨Nat.le_of_ble_eq_true rfl, Nat.le_of_ble_eq_true rfl⟩) hd hz h rfl hl.1 rfl (Nat.le_of_ble_eq_true rfl) dL_law_2285 ⟨by show cells + 2 ≤ 603072; omega, by show slots + 12 ≤ 7190634; omega⟩ (fun H locs h => ?_)
  refine lv_istore (lv' := [(6, .int r1.2), (5, .int (Int32.ofNat i)), (4, .ref (Γ.2.1 1482)), (3, .ref (Γ.2.1 1481)), (2, .ref (a 0)), (1, .ref (Γ.2.1 1470)), (0, .ref b)]) hx hb dL_law_2288 hl (by decide) rfl (fun ls hl => ?_)
  refine lv_aload_n hx hb dL_law_2290 rfl (lv_at hl 4 rfl) ?_
  refine lv_aload_n hx hb dL_law_2291 rfl (lv_at hl 6 rfl) ?_
  refine lv_iload hx hb dL_law_2292 (lv_at hl 1 rfl) ?_
  refine lv_iconst (v := 1) hx hb dL_law_2294 (by decide) ?_
  refine lv_iadd hx hb dL_law_2295 ?_
  refine z_sld hx hb hX hbl hL hi h.2.2.2 (k := 1) (by decide) hv1 dL_law_2296 ?_
  obtain ⟨r2, er2, hf⟩ := xbd_s hf
  refine z_Rd (Γ := Γ) (a := a) (As := [.int v1]) (rest := []) S9 (m_X10_meanSteps l (Γ := gR Γ a) er2) (cwV 1 hts (xgV lw_sub q995 q996 q997 q5 q998) rfl rfl rfl hdX10_meanSteps ⟨Nat.le_of_ble_eq_true rfl, Nat.le_of_ble_eq_true rfl⟩) hd h rfl hl.1 rfl (Nat.le_of_ble_eq_true rfl) dL_law_2297 ⟨by show cells + 2 + 0 ≤ 603072; omega, by show slots + 12 + 0 ≤ 7190634; omega⟩ (fun H locs h => ?_)
  refine lv_dstore (lv' := [(7, .double ((r2.1.2 5000 0).toUInt64)), (6, .int r1.2), (5, .int (Int32.ofNat i)), (4, .ref (Γ.2.1 1482)), (3, .ref (Γ.2.1 1481)), (2, .ref (a 0)), (1, .ref (Γ.2.1 1470)), (0, .ref b)]) hx hb dL_law_2300 hl (by decide) rfl (fun ls hl => ?_)
  refine lv_aload_n hx hb dL_law_2302 rfl (lv_at hl 5 rfl) ?_
  obtain ⟨r3, er3, hf⟩ := xbd_s hf
  refine z_Ri (Γ := Γ) (a := a) (As := []) (rest := []) S9 (m_X10_thrown l (Γ := gR Γ a) er3) (cwV 0 hts (xgV lw_sub q225 q226 q227 q5 q228) rfl rfl rfl hdX10_thrown ⟨Nat.le_of_ble_eq_true rfl, Nat.le_of_ble_eq_true rfl⟩) hd h rfl hl.1 rfl (Nat.le_of_ble_eq_true rfl) dL_law_2303 ⟨by show cells + 2 + 0 + 0 ≤ 603072; omega, by show slots + 12 + 0 + 0 ≤ 7190634; omega⟩ (fun H locs h => ?_)
  refine lv_iload hx hb dL_law_2306 (lv_at hl 1 rfl) ?_
  refine lv_icmp_eq (tgt := 2313) hx hb dL_law_2308 (by decide) (fun c4 => ?_) (fun c4 => ?_)
  · replace hf := xif_t hf c4
    refine lv_iload hx hb dL_law_2313 (lv_at hl 1 rfl) ?_
    refine lv_if_ne (tgt := 2350) hx hb dL_law_2315 (by decide) (fun c5 => ?_) (fun c5 => ?_)
    · replace hf := xif_f hf c5
      refine lv_goto (tgt := 2488) hx hb dL_law_2350 (by decide) ?_
      obtain rfl := Option.some.inj hf
      refine W.widen (k := cells + 5) (n := slots + 30) (by omega) (by omega) ?_
      exact kk _ _ _ h (lv_sub hl [2, 3, 4, 5, 6, 7] rfl)
    · replace hf := xif_t hf c5
      refine lv_aload hx hb dL_law_2318 (lv_at hl 3 rfl) ?_
      refine lv_iconst (v := 0) hx hb dL_law_2320 (by decide) ?_
      refine x_dald hx hb (zH_X hd h) kX_outD (xin_in (by decide)) dL_law_2321 ?_
      refine lv_dload hx hb dL_law_2322 (lv_at hl 0 rfl) ?_
      refine lv_dcmp hx hb dL_law_2324 ?_
      refine lv_if_eq (tgt := 2350) hx hb dL_law_2325 (by decide) (fun c6 => ?_) (fun c6 => ?_)
      · replace hf := xif_t hf c6
        refine lv_goto (tgt := 2488) hx hb dL_law_2350 (by decide) ?_
        obtain rfl := Option.some.inj hf
        refine W.widen (k := cells + 5) (n := slots + 30) (by omega) (by omega) ?_
        exact kk _ _ _ h (lv_sub hl [2, 3, 4, 5, 6, 7] rfl)
      · replace hf := xif_f hf c6
        refine lv_aload hx hb dL_law_2328 (lv_at hl 3 rfl) ?_
        refine lv_iconst (v := 0) hx hb dL_law_2330 (by decide) ?_
        refine x_dald hx hb (zH_X hd h) kX_outD (xin_in (by decide)) dL_law_2331 ?_
        refine lv_aload hx hb dL_law_2332 (lv_at hl 3 rfl) ?_
        refine lv_iconst (v := 0) hx hb dL_law_2334 (by decide) ?_
        refine x_dald hx hb (zH_X hd h) kX_outD (xin_in (by decide)) dL_law_2335 ?_
        refine lv_dcmp hx hb dL_law_2336 ?_
        refine lv_if_eq (tgt := 2348) hx hb dL_law_2337 (by decide) (fun c7 => ?_) (fun c7 => ?_)
        · replace hf := xif_t hf c7
          refine lv_iconst (v := 0) hx hb dL_law_2348 (by decide) ?_
          cases hf
        · replace hf := xif_f hf c7
          refine lv_dload hx hb dL_law_2340 (lv_at hl 0 rfl) ?_
          refine lv_dload hx hb dL_law_2342 (lv_at hl 0 rfl) ?_
          refine lv_dcmp hx hb dL_law_2344 ?_
          refine lv_if_ne (tgt := 2350) hx hb dL_law_2345 (by decide) (fun c8 => ?_) (fun c8 => ?_)
          · replace hf := xif_f hf c8
            refine lv_goto (tgt := 2488) hx hb dL_law_2350 (by decide) ?_
            obtain rfl := Option.some.inj hf
            refine W.widen (k := cells + 5) (n := slots + 30) (by omega) (by omega) ?_
            exact kk _ _ _ h (lv_sub hl [2, 3, 4, 5, 6, 7] rfl)
          · replace hf := xif_t hf c8
            refine lv_iconst (v := 0) hx hb dL_law_2348 (by decide) ?_
            cases hf
  · replace hf := xif_f hf c4
    refine lv_iconst (v := 0) hx hb dL_law_2311 (by decide) ?_
    cases hf
set_option maxHeartbeats 4000000 in
set_option maxRecDepth 100000 in
theorem law_32 {p : Program} (l : Launch) {e : Env} {s : State} {m : MethodId} {args : Array Value} {below : List Frame} {meth : Method} {c : Code} {H : Heap} {locs : List Loc} {cells slots : Nat} {Q : State → Prop} {ls : Array Slot} {Γ : xG} {a : Nat → Nat} {M R : xM} {N b L i : Nat} {xs : Nat → Int32} {q : xM × xM} {v1 v2 v3 v4 v5 v6 : Int32}
    (hlt : l.stackTraces = false) (S9 : CallFix p m c cL_law 9 s args lw_tbl RL) (hd : zD Γ a s.heap.size) (hz : zZ s) (hX : va_X b L xs s s.heap) (hbl : b < s.heap.size) (hL : L ≤ 3584) (hi : i + 7 ≤ L) (hv1 : xs (i + 1) = v1) (hv2 : xs (i + 2) = v2) (hv3 : xs (i + 3) = v3) (hv4 : xs (i + 4) = v4) (hv5 : xs (i + 5) = v5) (hv6 : xs (i + 6) = v6) (hc : cells + 5 ≤ 603072) (hs : slots + 30 ≤ 7190634)
    (hf : zOp_32 N v1 v2 v3 v4 v5 v6 M R = some q) (h : zH Γ a s M R H locs) (hl : lv_has ls 9 [(5, .int (Int32.ofNat i)), (4, .ref (Γ.2.1 1482)), (3, .ref (Γ.2.1 1481)), (2, .ref (a 0)), (1, .ref (Γ.2.1 1470)), (0, .ref b)])
    (kk : ∀ (H : Heap) (locs : List Loc) (ls : Array Slot), zH Γ a s q.1 q.2 H locs → lv_has ls 9 [(5, .int (Int32.ofNat i)), (4, .ref (Γ.2.1 1482)), (3, .ref (Γ.2.1 1481)), (2, .ref (a 0)), (1, .ref (Γ.2.1 1470)), (0, .ref b)] → W p l e room_1 s m args below meth c H locs (cells + 5) (slots + 30) Q (F0 m 2488 ls [])) : W p l e room_1 s m args below meth c H locs cells slots Q (F0 m 2353 ls []) := by
  obtain ⟨hx, hb, hml, hown, hts⟩ := id S9
  refine lv_aload_n hx hb dL_law_2353 rfl (lv_at hl 4 rfl) ?_
  refine lv_aload_n hx hb dL_law_2354 rfl (lv_at hl 5 rfl) ?_
  refine lv_iload hx hb dL_law_2355 (lv_at hl 0 rfl) ?_
  refine lv_iconst (v := 1) hx hb dL_law_2357 (by decide) ?_
  refine lv_iadd hx hb dL_law_2358 ?_
  refine z_sld hx hb hX hbl hL hi h.2.2.2 (k := 1) (by decide) hv1 dL_law_2359 ?_
  refine lv_aload_n hx hb dL_law_2360 rfl (lv_at hl 2 rfl) ?_
  obtain ⟨r1, er1, hf⟩ := xbd_s hf
  refine z_L (Γ := Γ) (a := a) (As := [.ref (Γ.2.1 1470), .int v1, .ref (Γ.2.1 1481)]) (rest := []) S9 (m_L_account l hlt er1) (vx_cwSW 3 hts (zgS lw_sub q999 q1000 q144 q1001) rfl rfl rfl hdL_account ⟨Nat.le_of_ble_eq_true rfl, Nat.le_of_ble_eq_true rfl⟩) hd hz h rfl hl.1 rfl (Nat.le_of_ble_eq_true rfl) dL_law_2361 ⟨by show cells + 1 ≤ 603072; omega, by show slots + 6 ≤ 7190634; omega⟩ (fun H locs h => ?_)
  refine lv_istore (lv' := [(6, .int r1.2), (5, .int (Int32.ofNat i)), (4, .ref (Γ.2.1 1482)), (3, .ref (Γ.2.1 1481)), (2, .ref (a 0)), (1, .ref (Γ.2.1 1470)), (0, .ref b)]) hx hb dL_law_2364 hl (by decide) rfl (fun ls hl => ?_)
  refine lv_aload_n hx hb dL_law_2366 rfl (lv_at hl 4 rfl) ?_
  refine lv_aload_n hx hb dL_law_2367 rfl (lv_at hl 6 rfl) ?_
  refine lv_iload hx hb dL_law_2368 (lv_at hl 1 rfl) ?_
  refine lv_iconst (v := 1) hx hb dL_law_2370 (by decide) ?_
  refine lv_iadd hx hb dL_law_2371 ?_
  refine z_sld hx hb hX hbl hL hi h.2.2.2 (k := 1) (by decide) hv1 dL_law_2372 ?_
  obtain ⟨r2, er2, hf⟩ := xbd_s hf
  refine z_Ri (Γ := Γ) (a := a) (As := [.int v1]) (rest := []) S9 (m_X10_account l (Γ := gR Γ a) er2) (cwV 1 hts (xgV lw_sub q1029 q1030 q1031 q5 q1032) rfl rfl rfl hdX10_account ⟨Nat.le_of_ble_eq_true rfl, Nat.le_of_ble_eq_true rfl⟩) hd h rfl hl.1 rfl (Nat.le_of_ble_eq_true rfl) dL_law_2373 ⟨by show cells + 1 + 0 ≤ 603072; omega, by show slots + 6 + 0 ≤ 7190634; omega⟩ (fun H locs h => ?_)
  refine lv_istore (lv' := [(7, .int r2.2), (6, .int r1.2), (5, .int (Int32.ofNat i)), (4, .ref (Γ.2.1 1482)), (3, .ref (Γ.2.1 1481)), (2, .ref (a 0)), (1, .ref (Γ.2.1 1470)), (0, .ref b)]) hx hb dL_law_2376 hl (by decide) rfl (fun ls hl => ?_)
  refine lv_aload_n hx hb dL_law_2378 rfl (lv_at hl 5 rfl) ?_
  obtain ⟨r3, er3, hf⟩ := xbd_s hf
  refine z_Ri (Γ := Γ) (a := a) (As := []) (rest := []) S9 (m_X10_thrown l (Γ := gR Γ a) er3) (cwV 0 hts (xgV lw_sub q225 q226 q227 q5 q228) rfl rfl rfl hdX10_thrown ⟨Nat.le_of_ble_eq_true rfl, Nat.le_of_ble_eq_true rfl⟩) hd h rfl hl.1 rfl (Nat.le_of_ble_eq_true rfl) dL_law_2379 ⟨by show cells + 1 + 0 + 0 ≤ 603072; omega, by show slots + 6 + 0 + 0 ≤ 7190634; omega⟩ (fun H locs h => ?_)
  refine lv_iload hx hb dL_law_2382 (lv_at hl 1 rfl) ?_
  refine lv_icmp_eq (tgt := 2389) hx hb dL_law_2384 (by decide) (fun c4 => ?_) (fun c4 => ?_)
  · replace hf := xif_t hf c4
    refine lv_iload hx hb dL_law_2389 (lv_at hl 1 rfl) ?_
    refine lv_if_ne (tgt := 2406) hx hb dL_law_2391 (by decide) (fun c5 => ?_) (fun c5 => ?_)
    · replace hf := xif_f hf c5
      refine lv_goto (tgt := 2488) hx hb dL_law_2406 (by decide) ?_
      obtain rfl := Option.some.inj hf
      refine W.widen (k := cells + 5) (n := slots + 30) (by omega) (by omega) ?_
      exact kk _ _ _ h (lv_sub hl [2, 3, 4, 5, 6, 7] rfl)
    · replace hf := xif_t hf c5
      refine lv_aload_n hx hb dL_law_2394 rfl (lv_at hl 4 rfl) ?_
      refine lv_iconst (v := 0) hx hb dL_law_2395 (by decide) ?_
      refine x_lald hx hb (zH_X hd h) kX_out (xin_in (by decide)) dL_law_2396 ?_
      refine lv_iload hx hb dL_law_2397 (lv_at hl 0 rfl) ?_
      refine lv_i2l (v := (r2.2).toInt64) hx hb dL_law_2399 rfl ?_
      refine W.lcmp hx hb dL_law_2400 ?_
      refine lv_if_eq (tgt := 2406) hx hb dL_law_2401 (by decide) (fun c6 => ?_) (fun c6 => ?_)
      · replace hf := xif_t hf c6
        refine lv_goto (tgt := 2488) hx hb dL_law_2406 (by decide) ?_
        obtain rfl := Option.some.inj hf
        refine W.widen (k := cells + 5) (n := slots + 30) (by omega) (by omega) ?_
        exact kk _ _ _ h (lv_sub hl [2, 3, 4, 5, 6, 7] rfl)
      · replace hf := xif_f hf c6
        refine lv_iconst (v := 0) hx hb dL_law_2404 (by decide) ?_
        cases hf
  · replace hf := xif_f hf c4
    refine lv_iconst (v := 0) hx hb dL_law_2387 (by decide) ?_
    cases hf
set_option maxHeartbeats 4000000 in
set_option maxRecDepth 100000 in
theorem law_33 {p : Program} (l : Launch) {e : Env} {s : State} {m : MethodId} {args : Array Value} {below : List Frame} {meth : Method} {c : Code} {H : Heap} {locs : List Loc} {cells slots : Nat} {Q : State → Prop} {ls : Array Slot} {Γ : xG} {a : Nat → Nat} {M R : xM} {N b L i : Nat} {xs : Nat → Int32} {q : xM × xM} {v1 v2 v3 v4 v5 v6 : Int32}
    (hlt : l.stackTraces = false) (S9 : CallFix p m c cL_law 9 s args lw_tbl RL) (hd : zD Γ a s.heap.size) (hz : zZ s) (hX : va_X b L xs s s.heap) (hbl : b < s.heap.size) (hL : L ≤ 3584) (hi : i + 7 ≤ L) (hv1 : xs (i + 1) = v1) (hv2 : xs (i + 2) = v2) (hv3 : xs (i + 3) = v3) (hv4 : xs (i + 4) = v4) (hv5 : xs (i + 5) = v5) (hv6 : xs (i + 6) = v6) (hc : cells + 5 ≤ 603072) (hs : slots + 30 ≤ 7190634)
    (hf : zOp_33 N v1 v2 v3 v4 v5 v6 M R = some q) (h : zH Γ a s M R H locs) (hl : lv_has ls 9 [(5, .int (Int32.ofNat i)), (4, .ref (Γ.2.1 1482)), (3, .ref (Γ.2.1 1481)), (2, .ref (a 0)), (1, .ref (Γ.2.1 1470)), (0, .ref b)])
    (kk : ∀ (H : Heap) (locs : List Loc) (ls : Array Slot), zH Γ a s q.1 q.2 H locs → lv_has ls 9 [(5, .int (Int32.ofNat i)), (4, .ref (Γ.2.1 1482)), (3, .ref (Γ.2.1 1481)), (2, .ref (a 0)), (1, .ref (Γ.2.1 1470)), (0, .ref b)] → W p l e room_1 s m args below meth c H locs (cells + 5) (slots + 30) Q (F0 m 2488 ls [])) : W p l e room_1 s m args below meth c H locs cells slots Q (F0 m 2409 ls []) := by
  obtain ⟨hx, hb, hml, hown, hts⟩ := id S9
  refine lv_aload_n hx hb dL_law_2409 rfl (lv_at hl 4 rfl) ?_
  refine lv_aload_n hx hb dL_law_2410 rfl (lv_at hl 2 rfl) ?_
  obtain ⟨r1, er1, hf⟩ := xbd_s hf
  refine z_L (Γ := Γ) (a := a) (As := [.ref (Γ.2.1 1470), .ref (Γ.2.1 1481)]) (rest := []) S9 (m_L_undo l hlt er1) (vx_cwSW 2 hts (zgS lw_sub q1037 q1038 q144 q1039) rfl rfl rfl hdL_undo ⟨Nat.le_of_ble_eq_true rfl, Nat.le_of_ble_eq_true rfl⟩) hd hz h rfl hl.1 rfl (Nat.le_of_ble_eq_true rfl) dL_law_2411 ⟨by show cells + 1 ≤ 603072; omega, by show slots + 6 ≤ 7190634; omega⟩ (fun H locs h => ?_)
  refine lv_istore (lv' := [(6, .int r1.2), (5, .int (Int32.ofNat i)), (4, .ref (Γ.2.1 1482)), (3, .ref (Γ.2.1 1481)), (2, .ref (a 0)), (1, .ref (Γ.2.1 1470)), (0, .ref b)]) hx hb dL_law_2414 hl (by decide) rfl (fun ls hl => ?_)
  refine lv_aload_n hx hb dL_law_2416 rfl (lv_at hl 4 rfl) ?_
  obtain ⟨r2, er2, hf⟩ := xbd_s hf
  refine z_Ri (Γ := Γ) (a := a) (As := []) (rest := []) S9 (m_X10_undo l (Γ := gR Γ a) er2) (cwV 0 hts (xgV lw_sub q1049 q1050 q1051 q5 q1052) rfl rfl rfl hdX10_undo ⟨Nat.le_of_ble_eq_true rfl, Nat.le_of_ble_eq_true rfl⟩) hd h rfl hl.1 rfl (Nat.le_of_ble_eq_true rfl) dL_law_2417 ⟨by show cells + 1 + 0 ≤ 603072; omega, by show slots + 6 + 0 ≤ 7190634; omega⟩ (fun H locs h => ?_)
  refine lv_istore (lv' := [(7, .int r2.2), (6, .int r1.2), (5, .int (Int32.ofNat i)), (4, .ref (Γ.2.1 1482)), (3, .ref (Γ.2.1 1481)), (2, .ref (a 0)), (1, .ref (Γ.2.1 1470)), (0, .ref b)]) hx hb dL_law_2420 hl (by decide) rfl (fun ls hl => ?_)
  refine lv_aload_n hx hb dL_law_2422 rfl (lv_at hl 5 rfl) ?_
  obtain ⟨r3, er3, hf⟩ := xbd_s hf
  refine z_Ri (Γ := Γ) (a := a) (As := []) (rest := []) S9 (m_X10_thrown l (Γ := gR Γ a) er3) (cwV 0 hts (xgV lw_sub q225 q226 q227 q5 q228) rfl rfl rfl hdX10_thrown ⟨Nat.le_of_ble_eq_true rfl, Nat.le_of_ble_eq_true rfl⟩) hd h rfl hl.1 rfl (Nat.le_of_ble_eq_true rfl) dL_law_2423 ⟨by show cells + 1 + 0 + 0 ≤ 603072; omega, by show slots + 6 + 0 + 0 ≤ 7190634; omega⟩ (fun H locs h => ?_)
  refine lv_iload hx hb dL_law_2426 (lv_at hl 1 rfl) ?_
  refine lv_icmp_eq (tgt := 2433) hx hb dL_law_2428 (by decide) (fun c4 => ?_) (fun c4 => ?_)
  · replace hf := xif_t hf c4
    refine lv_iload hx hb dL_law_2433 (lv_at hl 1 rfl) ?_
    refine lv_if_ne (tgt := 2450) hx hb dL_law_2435 (by decide) (fun c5 => ?_) (fun c5 => ?_)
    · replace hf := xif_f hf c5
      refine lv_goto (tgt := 2488) hx hb dL_law_2450 (by decide) ?_
      obtain rfl := Option.some.inj hf
      refine W.widen (k := cells + 5) (n := slots + 30) (by omega) (by omega) ?_
      exact kk _ _ _ h (lv_sub hl [2, 3, 4, 5, 6, 7] rfl)
    · replace hf := xif_t hf c5
      refine lv_aload_n hx hb dL_law_2438 rfl (lv_at hl 4 rfl) ?_
      refine lv_iconst (v := 0) hx hb dL_law_2439 (by decide) ?_
      refine x_lald hx hb (zH_X hd h) kX_out (xin_in (by decide)) dL_law_2440 ?_
      refine lv_iload hx hb dL_law_2441 (lv_at hl 0 rfl) ?_
      refine lv_i2l (v := (r2.2).toInt64) hx hb dL_law_2443 rfl ?_
      refine W.lcmp hx hb dL_law_2444 ?_
      refine lv_if_eq (tgt := 2450) hx hb dL_law_2445 (by decide) (fun c6 => ?_) (fun c6 => ?_)
      · replace hf := xif_t hf c6
        refine lv_goto (tgt := 2488) hx hb dL_law_2450 (by decide) ?_
        obtain rfl := Option.some.inj hf
        refine W.widen (k := cells + 5) (n := slots + 30) (by omega) (by omega) ?_
        exact kk _ _ _ h (lv_sub hl [2, 3, 4, 5, 6, 7] rfl)
      · replace hf := xif_f hf c6
        refine lv_iconst (v := 0) hx hb dL_law_2448 (by decide) ?_
        cases hf
  · replace hf := xif_f hf c4
    refine lv_iconst (v := 0) hx hb dL_law_2431 (by decide) ?_
    cases hf
set_option maxHeartbeats 4000000 in
set_option maxRecDepth 100000 in
theorem law_34 {p : Program} (l : Launch) {e : Env} {s : State} {m : MethodId} {args : Array Value} {below : List Frame} {meth : Method} {c : Code} {H : Heap} {locs : List Loc} {cells slots : Nat} {Q : State → Prop} {ls : Array Slot} {Γ : xG} {a : Nat → Nat} {M R : xM} {N b L i : Nat} {xs : Nat → Int32} {q : xM × xM} {v1 v2 v3 v4 v5 v6 : Int32}
    (hlt : l.stackTraces = false) (S9 : CallFix p m c cL_law 9 s args lw_tbl RL) (hd : zD Γ a s.heap.size) (hz : zZ s) (hX : va_X b L xs s s.heap) (hbl : b < s.heap.size) (hL : L ≤ 3584) (hi : i + 7 ≤ L) (hv1 : xs (i + 1) = v1) (hv2 : xs (i + 2) = v2) (hv3 : xs (i + 3) = v3) (hv4 : xs (i + 4) = v4) (hv5 : xs (i + 5) = v5) (hv6 : xs (i + 6) = v6) (hc : cells + 5 ≤ 603072) (hs : slots + 30 ≤ 7190634)
    (hf : zOp_34 N v1 v2 v3 v4 v5 v6 M R = some q) (h : zH Γ a s M R H locs) (hl : lv_has ls 9 [(5, .int (Int32.ofNat i)), (4, .ref (Γ.2.1 1482)), (3, .ref (Γ.2.1 1481)), (2, .ref (a 0)), (1, .ref (Γ.2.1 1470)), (0, .ref b)])
    (kk : ∀ (H : Heap) (locs : List Loc) (ls : Array Slot), zH Γ a s q.1 q.2 H locs → lv_has ls 9 [(5, .int (Int32.ofNat i)), (4, .ref (Γ.2.1 1482)), (3, .ref (Γ.2.1 1481)), (2, .ref (a 0)), (1, .ref (Γ.2.1 1470)), (0, .ref b)] → W p l e room_1 s m args below meth c H locs (cells + 5) (slots + 30) Q (F0 m 2488 ls [])) : W p l e room_1 s m args below meth c H locs cells slots Q (F0 m 2453 ls []) := by
  obtain ⟨hx, hb, hml, hown, hts⟩ := id S9
  refine lv_aload_n hx hb dL_law_2453 rfl (lv_at hl 4 rfl) ?_
  obtain ⟨r1, er1, hf⟩ := xbd_s hf
  refine z_Xv (Γ := Γ) (a := a) (As := []) (rest := []) S9 (m_X9_save l (Γ := Γ) er1) (cwV 0 hts (xgV lw_sub q1053 q1054 q1055 q2 q1056) rfl rfl rfl hdX9_save ⟨Nat.le_of_ble_eq_true rfl, Nat.le_of_ble_eq_true rfl⟩) hd h rfl hl.1 rfl (Nat.le_of_ble_eq_true rfl) dL_law_2454 ⟨by show cells + 0 ≤ 603072; omega, by show slots + 0 ≤ 7190634; omega⟩ (fun H locs h => ?_)
  refine lv_aload_n hx hb dL_law_2457 rfl (lv_at hl 3 rfl) ?_
  obtain ⟨r2, er2, hf⟩ := xbd_s hf
  refine z_Rv (Γ := Γ) (a := a) (As := []) (rest := []) S9 (m_X10_save l (Γ := gR Γ a) er2) (cwV 0 hts (xgV lw_sub q1058 q1059 q1060 q5 q1061) rfl rfl rfl hdX10_save ⟨Nat.le_of_ble_eq_true rfl, Nat.le_of_ble_eq_true rfl⟩) hd h rfl hl.1 rfl (Nat.le_of_ble_eq_true rfl) dL_law_2458 ⟨by show cells + 0 + 0 ≤ 603072; omega, by show slots + 0 + 0 ≤ 7190634; omega⟩ (fun H locs h => ?_)
  refine lv_goto (tgt := 2488) hx hb dL_law_2461 (by decide) ?_
  obtain rfl := Option.some.inj hf
  refine W.widen (k := cells + 5) (n := slots + 30) (by omega) (by omega) ?_
  exact kk _ _ _ h (lv_sub hl [0, 1, 2, 3, 4, 5] rfl)
set_option maxHeartbeats 4000000 in
set_option maxRecDepth 100000 in
theorem law_35 {p : Program} (l : Launch) {e : Env} {s : State} {m : MethodId} {args : Array Value} {below : List Frame} {meth : Method} {c : Code} {H : Heap} {locs : List Loc} {cells slots : Nat} {Q : State → Prop} {ls : Array Slot} {Γ : xG} {a : Nat → Nat} {M R : xM} {N b L i : Nat} {xs : Nat → Int32} {q : xM × xM} {v1 v2 v3 v4 v5 v6 : Int32}
    (hlt : l.stackTraces = false) (S9 : CallFix p m c cL_law 9 s args lw_tbl RL) (hd : zD Γ a s.heap.size) (hz : zZ s) (hX : va_X b L xs s s.heap) (hbl : b < s.heap.size) (hL : L ≤ 3584) (hi : i + 7 ≤ L) (hv1 : xs (i + 1) = v1) (hv2 : xs (i + 2) = v2) (hv3 : xs (i + 3) = v3) (hv4 : xs (i + 4) = v4) (hv5 : xs (i + 5) = v5) (hv6 : xs (i + 6) = v6) (hc : cells + 5 ≤ 603072) (hs : slots + 30 ≤ 7190634)
    (hf : zOp_35 N v1 v2 v3 v4 v5 v6 M R = some q) (h : zH Γ a s M R H locs) (hl : lv_has ls 9 [(5, .int (Int32.ofNat i)), (4, .ref (Γ.2.1 1482)), (3, .ref (Γ.2.1 1481)), (2, .ref (a 0)), (1, .ref (Γ.2.1 1470)), (0, .ref b)])
    (kk : ∀ (H : Heap) (locs : List Loc) (ls : Array Slot), zH Γ a s q.1 q.2 H locs → lv_has ls 9 [(5, .int (Int32.ofNat i)), (4, .ref (Γ.2.1 1482)), (3, .ref (Γ.2.1 1481)), (2, .ref (a 0)), (1, .ref (Γ.2.1 1470)), (0, .ref b)] → W p l e room_1 s m args below meth c H locs (cells + 5) (slots + 30) Q (F0 m 2488 ls [])) : W p l e room_1 s m args below meth c H locs cells slots Q (F0 m 2464 ls []) := by
  obtain ⟨hx, hb, hml, hown, hts⟩ := id S9
  refine lv_aload_n hx hb dL_law_2464 rfl (lv_at hl 4 rfl) ?_
  obtain ⟨r1, er1, hf⟩ := xbd_s hf
  refine z_L (Γ := Γ) (a := a) (As := [.ref (Γ.2.1 1470)]) (rest := []) S9 (m_L_restore l hlt er1) (vx_cwSW 1 hts (zgS lw_sub q1063 q1064 q144 q1065) rfl rfl rfl hdL_restore ⟨Nat.le_of_ble_eq_true rfl, Nat.le_of_ble_eq_true rfl⟩) hd hz h rfl hl.1 rfl (Nat.le_of_ble_eq_true rfl) dL_law_2465 ⟨by show cells + 1 ≤ 603072; omega, by show slots + 6 ≤ 7190634; omega⟩ (fun H locs h => ?_)
  refine lv_istore (lv' := [(6, .int r1.2), (5, .int (Int32.ofNat i)), (4, .ref (Γ.2.1 1482)), (3, .ref (Γ.2.1 1481)), (2, .ref (a 0)), (1, .ref (Γ.2.1 1470)), (0, .ref b)]) hx hb dL_law_2468 hl (by decide) rfl (fun ls hl => ?_)
  refine lv_aload_n hx hb dL_law_2470 rfl (lv_at hl 4 rfl) ?_
  obtain ⟨r2, er2, hf⟩ := xbd_s hf
  refine z_Rv (Γ := Γ) (a := a) (As := []) (rest := []) S9 (m_X10_restore l (Γ := gR Γ a) er2) (cwV 0 hts (xgV lw_sub q1074 q1075 q1076 q5 q1077) rfl rfl rfl hdX10_restore ⟨Nat.le_of_ble_eq_true rfl, Nat.le_of_ble_eq_true rfl⟩) hd h rfl hl.1 rfl (Nat.le_of_ble_eq_true rfl) dL_law_2471 ⟨by show cells + 1 + 0 ≤ 603072; omega, by show slots + 6 + 0 ≤ 7190634; omega⟩ (fun H locs h => ?_)
  refine lv_aload_n hx hb dL_law_2474 rfl (lv_at hl 4 rfl) ?_
  obtain ⟨r3, er3, hf⟩ := xbd_s hf
  refine z_Ri (Γ := Γ) (a := a) (As := []) (rest := []) S9 (m_X10_thrown l (Γ := gR Γ a) er3) (cwV 0 hts (xgV lw_sub q225 q226 q227 q5 q228) rfl rfl rfl hdX10_thrown ⟨Nat.le_of_ble_eq_true rfl, Nat.le_of_ble_eq_true rfl⟩) hd h rfl hl.1 rfl (Nat.le_of_ble_eq_true rfl) dL_law_2475 ⟨by show cells + 1 + 0 + 0 ≤ 603072; omega, by show slots + 6 + 0 + 0 ≤ 7190634; omega⟩ (fun H locs h => ?_)
  refine lv_iload hx hb dL_law_2478 (lv_at hl 0 rfl) ?_
  refine lv_icmp_eq (tgt := 2485) hx hb dL_law_2480 (by decide) (fun c4 => ?_) (fun c4 => ?_)
  · replace hf := xif_t hf c4
    refine lv_goto (tgt := 2488) hx hb dL_law_2485 (by decide) ?_
    obtain rfl := Option.some.inj hf
    refine W.widen (k := cells + 5) (n := slots + 30) (by omega) (by omega) ?_
    exact kk _ _ _ h (lv_sub hl [1, 2, 3, 4, 5, 6] rfl)
  · replace hf := xif_f hf c4
    refine lv_iconst (v := 0) hx hb dL_law_2483 (by decide) ?_
    cases hf
