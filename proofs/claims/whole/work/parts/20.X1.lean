theorem hdX1_noteLot : yX1_noteLot.cls = RX1 ∧ yX1_noteLot.cls ≠ "java/lang/invoke/MethodHandle" ∧ yX1_noteLot.cls ≠ "java/lang/invoke/VarHandle" ∧ (parseMethodDescriptor yX1_noteLot.desc).map (fun d => d.parameters.length) = some 2 := by decide +kernel
set_option maxHeartbeats 4000000 in
set_option maxRecDepth 100000 in
theorem m_X1_noteLot (l : Launch) {Γ : xG} {N : Nat} {k0 : Nat} (h0 : isCa k0) {v1 : Int32} {v2 : Int32} {M : xM} {res : xR} (hf : F_X1_noteLot N k0 v1 v2 M = some res) (sz : Nat) : Met l yX1_noteLot (xWs yX1_noteLot cX1_noteLot 3 none) ({ frames := 1, cells := 0, slots := 0, locals := 40 } : Room) (va_Pc [.ref (Γ.2.1 k0), .int v1, .int v2] (xPre Γ (wX Γ) M sz)) (xCv Γ (wX Γ) 1483 res sz) 0 0 (xAd Γ 1483 sz) := by
  refine x_met (Qc := fun sz => xCv Γ (wX Γ) 1483 res sz) pnX1 wG_W (Nat.le_of_ble_eq_true rfl) (fun p e s m args below meth c _ E h ls hl => ?_) sz
  obtain ⟨⟨hx, hb, hml, hown, hts⟩, hr, hlocks⟩ := id E
  have hl : lv_has ls 3 [(0, .ref (Γ.2.1 k0)), (1, .int v1), (2, .int v2)] := hl
  refine lv_aload_n hx hb dX1_noteLot_0 rfl (lv_at hl 0 rfl) ?_
  refine x_get (own := RX1) (ref := "TintDesk$Can") (C := RX1) (T := TX1) (n := 6) (index := 28) (v := .ref (Γ.2.1 (k0 + 2))) hx hb hts (fun w h => xU_sub w (inU1 w h)) hown h (kX_can h0) rfl 5 (by decide) (hts _ (xU_sub _ q97)) (fun _ h9 => h9) rfl dX1_noteLot_1 ?_
  refine lv_iload_n hx hb dX1_noteLot_4 rfl (lv_at hl 1 rfl) ?_
  refine lv_iconst (v := 2) hx hb dX1_noteLot_5 (by decide) ?_
  refine lv_imul hx hb dX1_noteLot_6 ?_
  refine lv_iload_n hx hb dX1_noteLot_7 rfl (lv_at hl 2 rfl) ?_
  refine lv_bipush (v := 64) hx hb dX1_noteLot_8 (by decide) ?_
  refine lv_idiv hx hb dX1_noteLot_10 (by decide) ?_
  refine lv_iadd hx hb dX1_noteLot_11 ?_
  refine lv_dup2_11 hx hb dX1_noteLot_12 rfl rfl ?_
  obtain ⟨c1, hf⟩ := xck_s hf
  refine x_lald hx hb h (kX_can_lotBits h0) (xin_in c1) dX1_noteLot_13 ?_
  refine lv_lconst (v := 1) hx hb dX1_noteLot_14 (by decide) ?_
  refine lv_iload_n hx hb dX1_noteLot_15 rfl (lv_at hl 2 rfl) ?_
  refine lv_bipush (v := 64) hx hb dX1_noteLot_16 (by decide) ?_
  refine lv_irem hx hb dX1_noteLot_18 (by decide) ?_
  refine lv_lshl (v := ((1 : Int64) <<< (((v2 - v2 / 64 * 64)).toInt64 &&& 63))) hx hb dX1_noteLot_19 rfl ?_
  refine lv_lor hx hb dX1_noteLot_20 ?_
  obtain ⟨c2, hf⟩ := xck_s hf
  obtain ⟨M3, eM3, hf⟩ := xl_s hf
  refine x_last hx hb h (kX_can_lotBits h0) (xin_in c2) eM3 dX1_noteLot_21 (fun H locs h => ?_)
  exact x_vret hx hb h (Option.some.inj hf) hr hlocks dX1_noteLot_22
theorem hdX1_holdsLot : yX1_holdsLot.cls = RX1 ∧ yX1_holdsLot.cls ≠ "java/lang/invoke/MethodHandle" ∧ yX1_holdsLot.cls ≠ "java/lang/invoke/VarHandle" ∧ (parseMethodDescriptor yX1_holdsLot.desc).map (fun d => d.parameters.length) = some 2 := by decide +kernel
set_option maxHeartbeats 4000000 in
set_option maxRecDepth 100000 in
theorem m_X1_holdsLot (l : Launch) {Γ : xG} {N : Nat} {k0 : Nat} (h0 : isCa k0) {v1 : Int32} {v2 : Int32} {M : xM} {res : xR} (hf : F_X1_holdsLot N k0 v1 v2 M = some res) (sz : Nat) : Met l yX1_holdsLot (xWs yX1_holdsLot cX1_holdsLot 5 (some .boolean)) ({ frames := 1, cells := 0, slots := 0, locals := 40 } : Room) (va_Pc [.ref (Γ.2.1 k0), .int v1, .int v2] (xPre Γ (wX Γ) M sz)) (xCi Γ (wX Γ) 1483 res sz) 0 0 (xAd Γ 1483 sz) := by
  refine x_met (Qc := fun sz => xCi Γ (wX Γ) 1483 res sz) pnX1 wG_W (Nat.le_of_ble_eq_true rfl) (fun p e s m args below meth c _ E h ls hl => ?_) sz
  obtain ⟨⟨hx, hb, hml, hown, hts⟩, hr, hlocks⟩ := id E
  have hl : lv_has ls 5 [(0, .ref (Γ.2.1 k0)), (1, .int v1), (2, .int v2)] := hl
  refine lv_aload_n hx hb dX1_holdsLot_0 rfl (lv_at hl 0 rfl) ?_
  refine x_get (own := RX1) (ref := "TintDesk$Can") (C := RX1) (T := TX1) (n := 6) (index := 28) (v := .ref (Γ.2.1 (k0 + 2))) hx hb hts (fun w h => xU_sub w (inU1 w h)) hown h (kX_can h0) rfl 5 (by decide) (hts _ (xU_sub _ q97)) (fun _ h9 => h9) rfl dX1_holdsLot_1 ?_
  refine lv_iload_n hx hb dX1_holdsLot_4 rfl (lv_at hl 1 rfl) ?_
  refine lv_iconst (v := 2) hx hb dX1_holdsLot_5 (by decide) ?_
  refine lv_imul hx hb dX1_holdsLot_6 ?_
  refine lv_iload_n hx hb dX1_holdsLot_7 rfl (lv_at hl 2 rfl) ?_
  refine lv_bipush (v := 64) hx hb dX1_holdsLot_8 (by decide) ?_
  refine lv_idiv hx hb dX1_holdsLot_10 (by decide) ?_
  refine lv_iadd hx hb dX1_holdsLot_11 ?_
  obtain ⟨c1, hf⟩ := xck_s hf
  refine x_lald hx hb h (kX_can_lotBits h0) (xin_in c1) dX1_holdsLot_12 ?_
  obtain ⟨y2, ey2, hf⟩ := xl_s hf
  refine x_nml ey2 ?_
  refine lv_lstore_n (lv' := [(3, .long y2), (0, .ref (Γ.2.1 k0)), (1, .int v1), (2, .int v2)]) hx hb dX1_holdsLot_13 rfl hl (by decide) rfl (fun ls hl => ?_)
  refine lv_lload_n hx hb dX1_holdsLot_14 rfl (lv_at hl 0 rfl) ?_
  refine lv_iload_n hx hb dX1_holdsLot_15 rfl (lv_at hl 3 rfl) ?_
  refine lv_bipush (v := 64) hx hb dX1_holdsLot_16 (by decide) ?_
  refine lv_irem hx hb dX1_holdsLot_18 (by decide) ?_
  refine lv_lushr (v := ((y2).toUInt64 >>> (((v2 - v2 / 64 * 64)).toInt64.toUInt64 &&& Int64.toUInt64 63)).toInt64) hx hb dX1_holdsLot_19 rfl ?_
  refine lv_lconst (v := 1) hx hb dX1_holdsLot_20 (by decide) ?_
  refine lv_land hx hb dX1_holdsLot_21 ?_
  refine lv_lconst (v := 1) hx hb dX1_holdsLot_22 (by decide) ?_
  refine W.lcmp hx hb dX1_holdsLot_23 ?_
  refine lv_if_ne (tgt := 31) hx hb dX1_holdsLot_24 (by decide) (fun c3 => ?_) (fun c3 => ?_)
  · replace hf := xif_f hf c3
    refine lv_iconst (v := 0) hx hb dX1_holdsLot_31 (by decide) ?_
    exact x_zret hx hb h (Option.some.inj hf) hr hlocks (by decide) dX1_holdsLot_32
  · replace hf := xif_t hf c3
    refine lv_iconst (v := 1) hx hb dX1_holdsLot_27 (by decide) ?_
    refine lv_goto (tgt := 32) hx hb dX1_holdsLot_28 (by decide) ?_
    exact x_zret hx hb h (Option.some.inj hf) hr hlocks (by decide) dX1_holdsLot_32
theorem hdX1_allSteps : yX1_allSteps.cls = RX1 ∧ yX1_allSteps.cls ≠ "java/lang/invoke/MethodHandle" ∧ yX1_allSteps.cls ≠ "java/lang/invoke/VarHandle" ∧ (parseMethodDescriptor yX1_allSteps.desc).map (fun d => d.parameters.length) = some 0 := by decide +kernel
set_option maxHeartbeats 4000000 in
set_option maxRecDepth 100000 in
theorem w_X1_allSteps_4 (l : Launch) {p : Program} {e : Env} {s : State} {m : MethodId} {args : Array Value} {below : List Frame} {meth : Method} {c : Code} {Γ : xG} {N : Nat} {k0 : Nat} {res : xR} (E : xEv p s m args meth c RX1 cX1_allSteps 3 (some .int) (xWs yX1_allSteps cX1_allSteps 3 (some .int))) (h0 : isCa k0) : ∀ (n : Nat) (v1 : Int32) (v2 : Int32) (M : xM), L_X1_allSteps_4 N k0 n v1 v2 M = some res → ∀ (H : Heap) (locs : List Loc) (ls : Array Slot), xH Γ (wX Γ) 1483 s M H locs → lv_has ls 3 [(0, .ref (Γ.2.1 k0)), (1, .int v1), (2, .int v2)] → W p l e ({ frames := 1, cells := 0, slots := 0, locals := 40 } : Room) s m args below meth c H locs 0 0 (MQ below (xCi Γ (wX Γ) 1483 res s.heap.size) args s 0 0 (xAd Γ 1483 s.heap.size)) (F0 m 4 ls []) := by
  obtain ⟨⟨hx, hb, hml, hown, hts⟩, hr, hlocks⟩ := id E
  intro n
  induction n with
  | zero => intro v1 v2 M hf; cases hf
  | succ n ih =>
    intro v1 v2 M hf H locs ls h hl
    refine lv_iload_n hx hb dX1_allSteps_4 rfl (lv_at hl 2 rfl) ?_
    refine lv_bipush (v := 8) hx hb dX1_allSteps_5 (by decide) ?_
    refine lv_icmp_ge (tgt := 25) hx hb dX1_allSteps_7 (by decide) (fun c1 => ?_) (fun c1 => ?_)
    · replace hf := xif_t hf c1
      refine lv_iload_n hx hb dX1_allSteps_25 rfl (lv_at hl 1 rfl) ?_
      exact x_iret hx hb h (Option.some.inj hf) hr hlocks dX1_allSteps_26
    · replace hf := xif_f hf c1
      refine lv_iload_n hx hb dX1_allSteps_10 rfl (lv_at hl 1 rfl) ?_
      refine lv_aload_n hx hb dX1_allSteps_11 rfl (lv_at hl 0 rfl) ?_
      refine x_get (own := RX1) (ref := "TintDesk$Can") (C := RX1) (T := TX1) (n := 6) (index := 24) (v := .ref (Γ.2.1 (k0 + 1))) hx hb hts (fun w h => xU_sub w (inU1 w h)) hown h (kX_can h0) rfl 4 (by decide) (hts _ (xU_sub _ q96)) (fun _ h9 => h9) rfl dX1_allSteps_12 ?_
      refine lv_iload_n hx hb dX1_allSteps_15 rfl (lv_at hl 2 rfl) ?_
      obtain ⟨c2, hf⟩ := xck_s hf
      refine x_iald hx hb h (kX_can_steps h0) (xin_in c2) dX1_allSteps_16 ?_
      refine lv_iadd hx hb dX1_allSteps_17 ?_
      obtain ⟨y3, ey3, hf⟩ := xl_s hf
      refine x_nm ey3 ?_
      refine lv_istore_n (lv' := [(1, .int y3), (0, .ref (Γ.2.1 k0)), (2, .int v2)]) hx hb dX1_allSteps_18 rfl hl (by decide) rfl (fun ls hl => ?_)
      obtain ⟨y4, ey4, hf⟩ := xl_s hf
      refine lv_iinc (v := y4) (lv' := [(2, .int y4), (1, .int y3), (0, .ref (Γ.2.1 k0))]) hx hb dX1_allSteps_19 hl (k := 2) rfl (by rw [ey4]; rfl) (by decide) rfl (fun ls hl => ?_)
      refine lv_goto (tgt := 4) hx hb dX1_allSteps_22 (by decide) ?_
      exact ih y3 y4 M hf _ _ _ h (lv_sub hl [2, 1, 0] rfl)
set_option maxHeartbeats 4000000 in
set_option maxRecDepth 100000 in
theorem m_X1_allSteps (l : Launch) {Γ : xG} {N : Nat} {k0 : Nat} (h0 : isCa k0) {M : xM} {res : xR} (hf : F_X1_allSteps N k0 M = some res) (sz : Nat) : Met l yX1_allSteps (xWs yX1_allSteps cX1_allSteps 3 (some .int)) ({ frames := 1, cells := 0, slots := 0, locals := 40 } : Room) (va_Pc [.ref (Γ.2.1 k0)] (xPre Γ (wX Γ) M sz)) (xCi Γ (wX Γ) 1483 res sz) 0 0 (xAd Γ 1483 sz) := by
  refine x_met (Qc := fun sz => xCi Γ (wX Γ) 1483 res sz) pnX1 wG_W (Nat.le_of_ble_eq_true rfl) (fun p e s m args below meth c _ E h ls hl => ?_) sz
  obtain ⟨⟨hx, hb, hml, hown, hts⟩, hr, hlocks⟩ := id E
  have hl : lv_has ls 3 [(0, .ref (Γ.2.1 k0))] := hl
  refine lv_iconst (v := 0) hx hb dX1_allSteps_0 (by decide) ?_
  refine lv_istore_n (lv' := [(1, .int 0), (0, .ref (Γ.2.1 k0))]) hx hb dX1_allSteps_1 rfl hl (by decide) rfl (fun ls hl => ?_)
  refine lv_iconst (v := 0) hx hb dX1_allSteps_2 (by decide) ?_
  refine lv_istore_n (lv' := [(2, .int 0), (1, .int 0), (0, .ref (Γ.2.1 k0))]) hx hb dX1_allSteps_3 rfl hl (by decide) rfl (fun ls hl => ?_)
  exact w_X1_allSteps_4 l E h0 N 0 0 M hf _ _ _ h (lv_sub hl [2, 1, 0] rfl)
theorem hdX1_copyFrom : yX1_copyFrom.cls = RX1 ∧ yX1_copyFrom.cls ≠ "java/lang/invoke/MethodHandle" ∧ yX1_copyFrom.cls ≠ "java/lang/invoke/VarHandle" ∧ (parseMethodDescriptor yX1_copyFrom.desc).map (fun d => d.parameters.length) = some 1 := by decide +kernel
set_option maxHeartbeats 4000000 in
set_option maxRecDepth 100000 in
theorem m_X1_copyFrom (l : Launch) {Γ : xG} {N : Nat} {k0 : Nat} {k1 : Nat} (h0 : isCa k0) (h1 : isCa k1) {M : xM} {res : xR} (hf : F_X1_copyFrom N k0 k1 M = some res) (sz : Nat) : Met l yX1_copyFrom (xWs yX1_copyFrom cX1_copyFrom 2 none) ({ frames := 1, cells := 0, slots := 0, locals := 120 } : Room) (va_Pc [.ref (Γ.2.1 k0), .ref (Γ.2.1 k1)] (xPre Γ (wX Γ) M sz)) (xCv Γ (wX Γ) 1483 res sz) 0 0 (xAd Γ 1483 sz) := by
  refine x_met (Qc := fun sz => xCv Γ (wX Γ) 1483 res sz) pnX1 wG_W (Nat.le_of_ble_eq_true rfl) (fun p e s m args below meth c _ E h ls hl => ?_) sz
  obtain ⟨⟨hx, hb, hml, hown, hts⟩, hr, hlocks⟩ := id E
  have hl : lv_has ls 2 [(0, .ref (Γ.2.1 k0)), (1, .ref (Γ.2.1 k1))] := hl
  refine lv_aload_n hx hb dX1_copyFrom_0 rfl (lv_at hl 0 rfl) ?_
  refine lv_aload_n hx hb dX1_copyFrom_1 rfl (lv_at hl 1 rfl) ?_
  refine x_get (own := RX1) (ref := "TintDesk$Can") (C := RX1) (T := TX1) (n := 6) (index := 9) (v := .int (M.1 k1 0)) hx hb hts (fun w h => xU_sub w (inU1 w h)) hown h (kX_can h1) rfl 0 (by decide) (hts _ (xU_sub _ q92)) (fun _ h9 => h9) rfl dX1_copyFrom_2 ?_
  obtain ⟨M1, eM1, hf⟩ := xl_s hf
  refine x_put (own := RX1) (ref := "TintDesk$Can") (C := RX1) (T := TX1) (n := 6) (index := 9) (ty := .int) hx hb hts (fun w h => xU_sub w (inU1 w h)) tyX1 tyX1_ok nmX1 hown h (kX_can h0) rfl 0 (by decide) (hts _ (xU_sub _ q92)) (fun _ h9 => h9) rfl (by decide +kernel) rfl rfl (Nat.le_of_ble_eq_true rfl) rfl eM1 dX1_copyFrom_5 (fun H locs h => ?_)
  refine lv_aload_n hx hb dX1_copyFrom_8 rfl (lv_at hl 0 rfl) ?_
  refine lv_aload_n hx hb dX1_copyFrom_9 rfl (lv_at hl 1 rfl) ?_
  refine x_get (own := RX1) (ref := "TintDesk$Can") (C := RX1) (T := TX1) (n := 6) (index := 15) (v := .int (M1.1 k1 1)) hx hb hts (fun w h => xU_sub w (inU1 w h)) hown h (kX_can h1) rfl 1 (by decide) (hts _ (xU_sub _ q93)) (fun _ h9 => h9) rfl dX1_copyFrom_10 ?_
  obtain ⟨M2, eM2, hf⟩ := xl_s hf
  refine x_put (own := RX1) (ref := "TintDesk$Can") (C := RX1) (T := TX1) (n := 6) (index := 15) (ty := .int) hx hb hts (fun w h => xU_sub w (inU1 w h)) tyX1 tyX1_ok nmX1 hown h (kX_can h0) rfl 1 (by decide) (hts _ (xU_sub _ q93)) (fun _ h9 => h9) rfl (by decide +kernel) rfl rfl (Nat.le_of_ble_eq_true rfl) rfl eM2 dX1_copyFrom_13 (fun H locs h => ?_)
  refine lv_aload_n hx hb dX1_copyFrom_16 rfl (lv_at hl 0 rfl) ?_
  refine lv_aload_n hx hb dX1_copyFrom_17 rfl (lv_at hl 1 rfl) ?_
  refine x_get (own := RX1) (ref := "TintDesk$Can") (C := RX1) (T := TX1) (n := 6) (index := 18) (v := .int (M2.1 k1 2)) hx hb hts (fun w h => xU_sub w (inU1 w h)) hown h (kX_can h1) rfl 2 (by decide) (hts _ (xU_sub _ q94)) (fun _ h9 => h9) rfl dX1_copyFrom_18 ?_
  obtain ⟨M3, eM3, hf⟩ := xl_s hf
  refine x_put (own := RX1) (ref := "TintDesk$Can") (C := RX1) (T := TX1) (n := 6) (index := 18) (ty := .int) hx hb hts (fun w h => xU_sub w (inU1 w h)) tyX1 tyX1_ok nmX1 hown h (kX_can h0) rfl 2 (by decide) (hts _ (xU_sub _ q94)) (fun _ h9 => h9) rfl (by decide +kernel) rfl rfl (Nat.le_of_ble_eq_true rfl) rfl eM3 dX1_copyFrom_21 (fun H locs h => ?_)
  refine lv_aload_n hx hb dX1_copyFrom_24 rfl (lv_at hl 0 rfl) ?_
  refine lv_aload_n hx hb dX1_copyFrom_25 rfl (lv_at hl 1 rfl) ?_
  refine x_get (own := RX1) (ref := "TintDesk$Can") (C := RX1) (T := TX1) (n := 6) (index := 21) (v := .int (M3.1 k1 3)) hx hb hts (fun w h => xU_sub w (inU1 w h)) hown h (kX_can h1) rfl 3 (by decide) (hts _ (xU_sub _ q95)) (fun _ h9 => h9) rfl dX1_copyFrom_26 ?_
  obtain ⟨M4, eM4, hf⟩ := xl_s hf
  refine x_put (own := RX1) (ref := "TintDesk$Can") (C := RX1) (T := TX1) (n := 6) (index := 21) (ty := .int) hx hb hts (fun w h => xU_sub w (inU1 w h)) tyX1 tyX1_ok nmX1 hown h (kX_can h0) rfl 3 (by decide) (hts _ (xU_sub _ q95)) (fun _ h9 => h9) rfl (by decide +kernel) rfl rfl (Nat.le_of_ble_eq_true rfl) rfl eM4 dX1_copyFrom_29 (fun H locs h => ?_)
  refine lv_aload_n hx hb dX1_copyFrom_32 rfl (lv_at hl 1 rfl) ?_
  refine x_get (own := RX1) (ref := "TintDesk$Can") (C := RX1) (T := TX1) (n := 6) (index := 24) (v := .ref (Γ.2.1 (k1 + 1))) hx hb hts (fun w h => xU_sub w (inU1 w h)) hown h (kX_can h1) rfl 4 (by decide) (hts _ (xU_sub _ q96)) (fun _ h9 => h9) rfl dX1_copyFrom_33 ?_
  refine lv_iconst (v := 0) hx hb dX1_copyFrom_36 (by decide) ?_
  refine lv_aload_n hx hb dX1_copyFrom_37 rfl (lv_at hl 0 rfl) ?_
  refine x_get (own := RX1) (ref := "TintDesk$Can") (C := RX1) (T := TX1) (n := 6) (index := 24) (v := .ref (Γ.2.1 (k0 + 1))) hx hb hts (fun w h => xU_sub w (inU1 w h)) hown h (kX_can h0) rfl 4 (by decide) (hts _ (xU_sub _ q96)) (fun _ h9 => h9) rfl dX1_copyFrom_38 ?_
  refine lv_iconst (v := 0) hx hb dX1_copyFrom_41 (by decide) ?_
  refine lv_bipush (v := 8) hx hb dX1_copyFrom_42 (by decide) ?_
  obtain ⟨M5, eM5, hf⟩ := xl_s hf
  refine x_copyi hx hb (hml.trans hl.1.symm) hown (hts _ (xU_sub _ q194)) (hts _ (xU_sub _ q177)) (hts _ (xU_sub _ q178)) (hts _ (xU_sub _ q179)) h (kX_can_steps h1) (kX_can_steps h0) (by decide) (by decide) (by decide) (by decide) (by decide) (Nat.le_of_ble_eq_true rfl) (by decide +kernel) eM5 dX1_copyFrom_44 (fun H locs h => ?_)
  refine lv_aload_n hx hb dX1_copyFrom_47 rfl (lv_at hl 1 rfl) ?_
  refine x_get (own := RX1) (ref := "TintDesk$Can") (C := RX1) (T := TX1) (n := 6) (index := 28) (v := .ref (Γ.2.1 (k1 + 2))) hx hb hts (fun w h => xU_sub w (inU1 w h)) hown h (kX_can h1) rfl 5 (by decide) (hts _ (xU_sub _ q97)) (fun _ h9 => h9) rfl dX1_copyFrom_48 ?_
  refine lv_iconst (v := 0) hx hb dX1_copyFrom_51 (by decide) ?_
  refine lv_aload_n hx hb dX1_copyFrom_52 rfl (lv_at hl 0 rfl) ?_
  refine x_get (own := RX1) (ref := "TintDesk$Can") (C := RX1) (T := TX1) (n := 6) (index := 28) (v := .ref (Γ.2.1 (k0 + 2))) hx hb hts (fun w h => xU_sub w (inU1 w h)) hown h (kX_can h0) rfl 5 (by decide) (hts _ (xU_sub _ q97)) (fun _ h9 => h9) rfl dX1_copyFrom_53 ?_
  refine lv_iconst (v := 0) hx hb dX1_copyFrom_56 (by decide) ?_
  refine lv_bipush (v := 16) hx hb dX1_copyFrom_57 (by decide) ?_
  obtain ⟨M6, eM6, hf⟩ := xl_s hf
  refine x_copyl hx hb (hml.trans hl.1.symm) hown (hts _ (xU_sub _ q194)) (hts _ (xU_sub _ q177)) (hts _ (xU_sub _ q178)) (hts _ (xU_sub _ q179)) h (kX_can_lotBits h1) (kX_can_lotBits h0) (by decide) (by decide) (by decide) (by decide) (by decide) (Nat.le_of_ble_eq_true rfl) (by decide +kernel) eM6 dX1_copyFrom_59 (fun H locs h => ?_)
  exact x_vret hx hb h (Option.some.inj hf) hr hlocks dX1_copyFrom_62
