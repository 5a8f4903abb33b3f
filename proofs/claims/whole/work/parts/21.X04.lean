theorem hdX0_copyFrom : yX0_copyFrom.cls = RX0 ∧ yX0_copyFrom.cls ≠ "java/lang/invoke/MethodHandle" ∧ yX0_copyFrom.cls ≠ "java/lang/invoke/VarHandle" ∧ (parseMethodDescriptor yX0_copyFrom.desc).map (fun d => d.parameters.length) = some 1 := by decide +kernel
set_option maxHeartbeats 4000000 in
set_option maxRecDepth 100000 in
theorem m_X0_copyFrom (l : Launch) {Γ : xG} {N : Nat} {k0 : Nat} {k1 : Nat} (h0 : isBa k0) (h1 : isBa k1) {M : xM} {res : xR} (hf : F_X0_copyFrom N k0 k1 M = some res) (sz : Nat) : Met l yX0_copyFrom (xWs yX0_copyFrom cX0_copyFrom 2 none) ({ frames := 1, cells := 0, slots := 0, locals := 120 } : Room) (va_Pc [.ref (Γ.2.1 k0), .ref (Γ.2.1 k1)] (xPre Γ (wX Γ) M sz)) (xCv Γ (wX Γ) 1483 res sz) 0 0 (xAd Γ 1483 sz) := by
  refine x_met (Qc := fun sz => xCv Γ (wX Γ) 1483 res sz) pnX0 wG_W (Nat.le_of_ble_eq_true rfl) (fun p e s m args below meth c _ E h ls hl => ?_) sz
  obtain ⟨⟨hx, hb, hml, hown, hts⟩, hr, hlocks⟩ := id E
  have hl : lv_has ls 2 [(0, .ref (Γ.2.1 k0)), (1, .ref (Γ.2.1 k1))] := hl
  refine lv_aload_n hx hb dX0_copyFrom_0 rfl (lv_at hl 1 rfl) ?_
  refine x_get (own := RX0) (ref := "TintDesk$Base") (C := RX0) (T := TX0) (n := 3) (index := 9) (v := .ref (Γ.2.1 (k1 + 1))) hx hb hts (fun w h => xU_sub w (inU0 w h)) hown h (kX_base h1) rfl 0 (by decide) (hts _ (xU_sub _ q80)) (fun _ h9 => h9) rfl dX0_copyFrom_1 ?_
  refine lv_iconst (v := 0) hx hb dX0_copyFrom_4 (by decide) ?_
  refine lv_aload_n hx hb dX0_copyFrom_5 rfl (lv_at hl 0 rfl) ?_
  refine x_get (own := RX0) (ref := "TintDesk$Base") (C := RX0) (T := TX0) (n := 3) (index := 9) (v := .ref (Γ.2.1 (k0 + 1))) hx hb hts (fun w h => xU_sub w (inU0 w h)) hown h (kX_base h0) rfl 0 (by decide) (hts _ (xU_sub _ q80)) (fun _ h9 => h9) rfl dX0_copyFrom_6 ?_
  refine lv_iconst (v := 0) hx hb dX0_copyFrom_9 (by decide) ?_
  refine lv_iconst (v := 3) hx hb dX0_copyFrom_10 (by decide) ?_
  obtain ⟨M1, eM1, hf⟩ := xl_s hf
  refine x_copyi hx hb (hml.trans hl.1.symm) hown (hts _ (xU_sub _ q184)) (hts _ (xU_sub _ q177)) (hts _ (xU_sub _ q178)) (hts _ (xU_sub _ q179)) h (kX_base_values h1) (kX_base_values h0) (by decide) (by decide) (by decide) (by decide) (by decide) (Nat.le_of_ble_eq_true rfl) (by decide +kernel) eM1 dX0_copyFrom_11 (fun H locs h => ?_)
  refine lv_aload_n hx hb dX0_copyFrom_14 rfl (lv_at hl 0 rfl) ?_
  refine lv_aload_n hx hb dX0_copyFrom_15 rfl (lv_at hl 1 rfl) ?_
  refine x_get (own := RX0) (ref := "TintDesk$Base") (C := RX0) (T := TX0) (n := 3) (index := 15) (v := .int (M1.1 k1 1)) hx hb hts (fun w h => xU_sub w (inU0 w h)) hown h (kX_base h1) rfl 1 (by decide) (hts _ (xU_sub _ q81)) (fun _ h9 => h9) rfl dX0_copyFrom_16 ?_
  obtain ⟨M2, eM2, hf⟩ := xl_s hf
  refine x_put (own := RX0) (ref := "TintDesk$Base") (C := RX0) (T := TX0) (n := 3) (index := 15) (ty := .int) hx hb hts (fun w h => xU_sub w (inU0 w h)) tyX0 tyX0_ok nmX0 hown h (kX_base h0) rfl 1 (by decide) (hts _ (xU_sub _ q81)) (fun _ h9 => h9) rfl (by decide +kernel) rfl rfl (Nat.le_of_ble_eq_true rfl) rfl eM2 dX0_copyFrom_19 (fun H locs h => ?_)
  refine lv_aload_n hx hb dX0_copyFrom_22 rfl (lv_at hl 0 rfl) ?_
  refine lv_aload_n hx hb dX0_copyFrom_23 rfl (lv_at hl 1 rfl) ?_
  refine x_get (own := RX0) (ref := "TintDesk$Base") (C := RX0) (T := TX0) (n := 3) (index := 19) (v := .int (M2.1 k1 2)) hx hb hts (fun w h => xU_sub w (inU0 w h)) hown h (kX_base h1) rfl 2 (by decide) (hts _ (xU_sub _ q82)) (fun _ h9 => h9) rfl dX0_copyFrom_24 ?_
  obtain ⟨M3, eM3, hf⟩ := xl_s hf
  refine x_put (own := RX0) (ref := "TintDesk$Base") (C := RX0) (T := TX0) (n := 3) (index := 19) (ty := .int) hx hb hts (fun w h => xU_sub w (inU0 w h)) tyX0 tyX0_ok nmX0 hown h (kX_base h0) rfl 2 (by decide) (hts _ (xU_sub _ q82)) (fun _ h9 => h9) rfl (by decide +kernel) rfl rfl (Nat.le_of_ble_eq_true rfl) rfl eM3 dX0_copyFrom_27 (fun H locs h => ?_)
  exact x_vret hx hb h (Option.some.inj hf) hr hlocks dX0_copyFrom_30
theorem hdX4_copyFrom : yX4_copyFrom.cls = RX4 ∧ yX4_copyFrom.cls ≠ "java/lang/invoke/MethodHandle" ∧ yX4_copyFrom.cls ≠ "java/lang/invoke/VarHandle" ∧ (parseMethodDescriptor yX4_copyFrom.desc).map (fun d => d.parameters.length) = some 1 := by decide +kernel
set_option maxHeartbeats 4000000 in
set_option maxRecDepth 100000 in
theorem m_X4_copyFrom (l : Launch) {Γ : xG} {N : Nat} {k0 : Nat} {k1 : Nat} (h0 : isFo k0) (h1 : isFo k1) {M : xM} {res : xR} (hf : F_X4_copyFrom N k0 k1 M = some res) (sz : Nat) : Met l yX4_copyFrom (xWs yX4_copyFrom cX4_copyFrom 2 none) ({ frames := 1, cells := 0, slots := 0, locals := 120 } : Room) (va_Pc [.ref (Γ.2.1 k0), .ref (Γ.2.1 k1)] (xPre Γ (wX Γ) M sz)) (xCv Γ (wX Γ) 1483 res sz) 0 0 (xAd Γ 1483 sz) := by
  refine x_met (Qc := fun sz => xCv Γ (wX Γ) 1483 res sz) pnX4 wG_W (Nat.le_of_ble_eq_true rfl) (fun p e s m args below meth c _ E h ls hl => ?_) sz
  obtain ⟨⟨hx, hb, hml, hown, hts⟩, hr, hlocks⟩ := id E
  have hl : lv_has ls 2 [(0, .ref (Γ.2.1 k0)), (1, .ref (Γ.2.1 k1))] := hl
  refine lv_aload_n hx hb dX4_copyFrom_0 rfl (lv_at hl 0 rfl) ?_
  refine lv_aload_n hx hb dX4_copyFrom_1 rfl (lv_at hl 1 rfl) ?_
  refine x_get (own := RX4) (ref := "TintDesk$Formula") (C := RX4) (T := TX4) (n := 3) (index := 9) (v := .int (M.1 k1 0)) hx hb hts (fun w h => xU_sub w (inU4 w h)) hown h (kX_formula h1) rfl 0 (by decide) (hts _ (xU_sub _ q86)) (fun _ h9 => h9) rfl dX4_copyFrom_2 ?_
  obtain ⟨M1, eM1, hf⟩ := xl_s hf
  refine x_put (own := RX4) (ref := "TintDesk$Formula") (C := RX4) (T := TX4) (n := 3) (index := 9) (ty := .int) hx hb hts (fun w h => xU_sub w (inU4 w h)) tyX4 tyX4_ok nmX4 hown h (kX_formula h0) rfl 0 (by decide) (hts _ (xU_sub _ q86)) (fun _ h9 => h9) rfl (by decide +kernel) rfl rfl (Nat.le_of_ble_eq_true rfl) rfl eM1 dX4_copyFrom_5 (fun H locs h => ?_)
  refine lv_aload_n hx hb dX4_copyFrom_8 rfl (lv_at hl 1 rfl) ?_
  refine x_get (own := RX4) (ref := "TintDesk$Formula") (C := RX4) (T := TX4) (n := 3) (index := 15) (v := .ref (Γ.2.1 (k1 + 1))) hx hb hts (fun w h => xU_sub w (inU4 w h)) hown h (kX_formula h1) rfl 1 (by decide) (hts _ (xU_sub _ q87)) (fun _ h9 => h9) rfl dX4_copyFrom_9 ?_
  refine lv_iconst (v := 0) hx hb dX4_copyFrom_12 (by decide) ?_
  refine lv_aload_n hx hb dX4_copyFrom_13 rfl (lv_at hl 0 rfl) ?_
  refine x_get (own := RX4) (ref := "TintDesk$Formula") (C := RX4) (T := TX4) (n := 3) (index := 15) (v := .ref (Γ.2.1 (k0 + 1))) hx hb hts (fun w h => xU_sub w (inU4 w h)) hown h (kX_formula h0) rfl 1 (by decide) (hts _ (xU_sub _ q87)) (fun _ h9 => h9) rfl dX4_copyFrom_14 ?_
  refine lv_iconst (v := 0) hx hb dX4_copyFrom_17 (by decide) ?_
  refine lv_bipush (v := 8) hx hb dX4_copyFrom_18 (by decide) ?_
  obtain ⟨M2, eM2, hf⟩ := xl_s hf
  refine x_copyi hx hb (hml.trans hl.1.symm) hown (hts _ (xU_sub _ q189)) (hts _ (xU_sub _ q177)) (hts _ (xU_sub _ q178)) (hts _ (xU_sub _ q179)) h (kX_formula_amounts h1) (kX_formula_amounts h0) (by decide) (by decide) (by decide) (by decide) (by decide) (Nat.le_of_ble_eq_true rfl) (by decide +kernel) eM2 dX4_copyFrom_20 (fun H locs h => ?_)
  refine lv_aload_n hx hb dX4_copyFrom_23 rfl (lv_at hl 1 rfl) ?_
  refine x_get (own := RX4) (ref := "TintDesk$Formula") (C := RX4) (T := TX4) (n := 3) (index := 19) (v := .ref (Γ.2.1 (k1 + 2))) hx hb hts (fun w h => xU_sub w (inU4 w h)) hown h (kX_formula h1) rfl 2 (by decide) (hts _ (xU_sub _ q88)) (fun _ h9 => h9) rfl dX4_copyFrom_24 ?_
  refine lv_iconst (v := 0) hx hb dX4_copyFrom_27 (by decide) ?_
  refine lv_aload_n hx hb dX4_copyFrom_28 rfl (lv_at hl 0 rfl) ?_
  refine x_get (own := RX4) (ref := "TintDesk$Formula") (C := RX4) (T := TX4) (n := 3) (index := 19) (v := .ref (Γ.2.1 (k0 + 2))) hx hb hts (fun w h => xU_sub w (inU4 w h)) hown h (kX_formula h0) rfl 2 (by decide) (hts _ (xU_sub _ q88)) (fun _ h9 => h9) rfl dX4_copyFrom_29 ?_
  refine lv_iconst (v := 0) hx hb dX4_copyFrom_32 (by decide) ?_
  refine lv_bipush (v := 8) hx hb dX4_copyFrom_33 (by decide) ?_
  obtain ⟨M3, eM3, hf⟩ := xl_s hf
  refine x_copyi hx hb (hml.trans hl.1.symm) hown (hts _ (xU_sub _ q189)) (hts _ (xU_sub _ q177)) (hts _ (xU_sub _ q178)) (hts _ (xU_sub _ q179)) h (kX_formula_carries h1) (kX_formula_carries h0) (by decide) (by decide) (by decide) (by decide) (by decide) (Nat.le_of_ble_eq_true rfl) (by decide +kernel) eM3 dX4_copyFrom_35 (fun H locs h => ?_)
  exact x_vret hx hb h (Option.some.inj hf) hr hlocks dX4_copyFrom_38
theorem hdX4_stepsForCans : yX4_stepsForCans.cls = RX4 ∧ yX4_stepsForCans.cls ≠ "java/lang/invoke/MethodHandle" ∧ yX4_stepsForCans.cls ≠ "java/lang/invoke/VarHandle" ∧ (parseMethodDescriptor yX4_stepsForCans.desc).map (fun d => d.parameters.length) = some 2 := by decide +kernel
set_option maxHeartbeats 4000000 in
set_option maxRecDepth 100000 in
theorem m_X4_stepsForCans (l : Launch) {Γ : xG} {N : Nat} {k0 : Nat} (h0 : isFo k0) {v1 : Int32} {v2 : Int32} {M : xM} {res : xR} (hf : F_X4_stepsForCans N k0 v1 v2 M = some res) (sz : Nat) : Met l yX4_stepsForCans (xWs yX4_stepsForCans cX4_stepsForCans 3 (some .int)) ({ frames := 1, cells := 0, slots := 0, locals := 40 } : Room) (va_Pc [.ref (Γ.2.1 k0), .int v1, .int v2] (xPre Γ (wX Γ) M sz)) (xCi Γ (wX Γ) 1483 res sz) 0 0 (xAd Γ 1483 sz) := by
  refine x_met (Qc := fun sz => xCi Γ (wX Γ) 1483 res sz) pnX4 wG_W (Nat.le_of_ble_eq_true rfl) (fun p e s m args below meth c _ E h ls hl => ?_) sz
  obtain ⟨⟨hx, hb, hml, hown, hts⟩, hr, hlocks⟩ := id E
  have hl : lv_has ls 3 [(0, .ref (Γ.2.1 k0)), (1, .int v1), (2, .int v2)] := hl
  refine lv_aload_n hx hb dX4_stepsForCans_0 rfl (lv_at hl 0 rfl) ?_
  refine x_get (own := RX4) (ref := "TintDesk$Formula") (C := RX4) (T := TX4) (n := 3) (index := 15) (v := .ref (Γ.2.1 (k0 + 1))) hx hb hts (fun w h => xU_sub w (inU4 w h)) hown h (kX_formula h0) rfl 1 (by decide) (hts _ (xU_sub _ q87)) (fun _ h9 => h9) rfl dX4_stepsForCans_1 ?_
  refine lv_iload_n hx hb dX4_stepsForCans_4 rfl (lv_at hl 1 rfl) ?_
  obtain ⟨c1, hf⟩ := xck_s hf
  refine x_iald hx hb h (kX_formula_amounts h0) (xin_in c1) dX4_stepsForCans_5 ?_
  refine lv_iload_n hx hb dX4_stepsForCans_6 rfl (lv_at hl 2 rfl) ?_
  refine lv_imul hx hb dX4_stepsForCans_7 ?_
  refine lv_aload_n hx hb dX4_stepsForCans_8 rfl (lv_at hl 0 rfl) ?_
  refine x_get (own := RX4) (ref := "TintDesk$Formula") (C := RX4) (T := TX4) (n := 3) (index := 19) (v := .ref (Γ.2.1 (k0 + 2))) hx hb hts (fun w h => xU_sub w (inU4 w h)) hown h (kX_formula h0) rfl 2 (by decide) (hts _ (xU_sub _ q88)) (fun _ h9 => h9) rfl dX4_stepsForCans_9 ?_
  refine lv_iload_n hx hb dX4_stepsForCans_12 rfl (lv_at hl 1 rfl) ?_
  obtain ⟨c2, hf⟩ := xck_s hf
  refine x_iald hx hb h (kX_formula_carries h0) (xin_in c2) dX4_stepsForCans_13 ?_
  refine lv_iadd hx hb dX4_stepsForCans_14 ?_
  refine lv_bipush (v := 100) hx hb dX4_stepsForCans_15 (by decide) ?_
  refine lv_idiv hx hb dX4_stepsForCans_17 (by decide) ?_
  exact x_iret hx hb h (Option.some.inj hf) hr hlocks dX4_stepsForCans_18
theorem hdX4_carryOn : yX4_carryOn.cls = RX4 ∧ yX4_carryOn.cls ≠ "java/lang/invoke/MethodHandle" ∧ yX4_carryOn.cls ≠ "java/lang/invoke/VarHandle" ∧ (parseMethodDescriptor yX4_carryOn.desc).map (fun d => d.parameters.length) = some 1 := by decide +kernel
set_option maxHeartbeats 4000000 in
set_option maxRecDepth 100000 in
theorem m_X4_carryOn (l : Launch) {Γ : xG} {N : Nat} {k0 : Nat} (h0 : isFo k0) {v1 : Int32} {M : xM} {res : xR} (hf : F_X4_carryOn N k0 v1 M = some res) (sz : Nat) : Met l yX4_carryOn (xWs yX4_carryOn cX4_carryOn 2 none) ({ frames := 1, cells := 0, slots := 0, locals := 40 } : Room) (va_Pc [.ref (Γ.2.1 k0), .int v1] (xPre Γ (wX Γ) M sz)) (xCv Γ (wX Γ) 1483 res sz) 0 0 (xAd Γ 1483 sz) := by
  refine x_met (Qc := fun sz => xCv Γ (wX Γ) 1483 res sz) pnX4 wG_W (Nat.le_of_ble_eq_true rfl) (fun p e s m args below meth c _ E h ls hl => ?_) sz
  obtain ⟨⟨hx, hb, hml, hown, hts⟩, hr, hlocks⟩ := id E
  have hl : lv_has ls 2 [(0, .ref (Γ.2.1 k0)), (1, .int v1)] := hl
  refine lv_aload_n hx hb dX4_carryOn_0 rfl (lv_at hl 0 rfl) ?_
  refine x_get (own := RX4) (ref := "TintDesk$Formula") (C := RX4) (T := TX4) (n := 3) (index := 19) (v := .ref (Γ.2.1 (k0 + 2))) hx hb hts (fun w h => xU_sub w (inU4 w h)) hown h (kX_formula h0) rfl 2 (by decide) (hts _ (xU_sub _ q88)) (fun _ h9 => h9) rfl dX4_carryOn_1 ?_
  refine lv_iload_n hx hb dX4_carryOn_4 rfl (lv_at hl 1 rfl) ?_
  refine lv_aload_n hx hb dX4_carryOn_5 rfl (lv_at hl 0 rfl) ?_
  refine x_get (own := RX4) (ref := "TintDesk$Formula") (C := RX4) (T := TX4) (n := 3) (index := 15) (v := .ref (Γ.2.1 (k0 + 1))) hx hb hts (fun w h => xU_sub w (inU4 w h)) hown h (kX_formula h0) rfl 1 (by decide) (hts _ (xU_sub _ q87)) (fun _ h9 => h9) rfl dX4_carryOn_6 ?_
  refine lv_iload_n hx hb dX4_carryOn_9 rfl (lv_at hl 1 rfl) ?_
  obtain ⟨c1, hf⟩ := xck_s hf
  refine x_iald hx hb h (kX_formula_amounts h0) (xin_in c1) dX4_carryOn_10 ?_
  refine lv_aload_n hx hb dX4_carryOn_11 rfl (lv_at hl 0 rfl) ?_
  refine x_get (own := RX4) (ref := "TintDesk$Formula") (C := RX4) (T := TX4) (n := 3) (index := 19) (v := .ref (Γ.2.1 (k0 + 2))) hx hb hts (fun w h => xU_sub w (inU4 w h)) hown h (kX_formula h0) rfl 2 (by decide) (hts _ (xU_sub _ q88)) (fun _ h9 => h9) rfl dX4_carryOn_12 ?_
  refine lv_iload_n hx hb dX4_carryOn_15 rfl (lv_at hl 1 rfl) ?_
  obtain ⟨c2, hf⟩ := xck_s hf
  refine x_iald hx hb h (kX_formula_carries h0) (xin_in c2) dX4_carryOn_16 ?_
  refine lv_iadd hx hb dX4_carryOn_17 ?_
  refine lv_bipush (v := 100) hx hb dX4_carryOn_18 (by decide) ?_
  refine lv_irem hx hb dX4_carryOn_20 (by decide) ?_
  obtain ⟨c3, hf⟩ := xck_s hf
  obtain ⟨M4, eM4, hf⟩ := xl_s hf
  refine x_iast hx hb h (kX_formula_carries h0) (xin_in c3) eM4 dX4_carryOn_21 (fun H locs h => ?_)
  exact x_vret hx hb h (Option.some.inj hf) hr hlocks dX4_carryOn_22
theorem hdX4_differenceFrom : yX4_differenceFrom.cls = RX4 ∧ yX4_differenceFrom.cls ≠ "java/lang/invoke/MethodHandle" ∧ yX4_differenceFrom.cls ≠ "java/lang/invoke/VarHandle" ∧ (parseMethodDescriptor yX4_differenceFrom.desc).map (fun d => d.parameters.length) = some 1 := by decide +kernel
set_option maxHeartbeats 4000000 in
set_option maxRecDepth 100000 in
theorem w_X4_differenceFrom_4 (l : Launch) {p : Program} {e : Env} {s : State} {m : MethodId} {args : Array Value} {below : List Frame} {meth : Method} {c : Code} {Γ : xG} {N : Nat} {k0 : Nat} {k1 : Nat} {res : xR} (E : xEv p s m args meth c RX4 cX4_differenceFrom 4 (some .int) (xWs yX4_differenceFrom cX4_differenceFrom 4 (some .int))) (h0 : isFo k0) (h1 : isCa k1) : ∀ (n : Nat) (v2 : Int32) (v3 : Int32) (M : xM), L_X4_differenceFrom_4 N k0 k1 n v2 v3 M = some res → ∀ (H : Heap) (locs : List Loc) (ls : Array Slot), xH Γ (wX Γ) 1483 s M H locs → lv_has ls 4 [(0, .ref (Γ.2.1 k0)), (1, .ref (Γ.2.1 k1)), (2, .int v2), (3, .int v3)] → W p l e ({ frames := 1, cells := 0, slots := 0, locals := 40 } : Room) s m args below meth c H locs 0 0 (MQ below (xCi Γ (wX Γ) 1483 res s.heap.size) args s 0 0 (xAd Γ 1483 s.heap.size)) (F0 m 4 ls []) := by
  obtain ⟨⟨hx, hb, hml, hown, hts⟩, hr, hlocks⟩ := id E
  intro n
  induction n with
  | zero => intro v2 v3 M hf; cases hf
  | succ n ih =>
    intro v2 v3 M hf H locs ls h hl
    refine lv_iload_n hx hb dX4_differenceFrom_4 rfl (lv_at hl 3 rfl) ?_
    refine lv_bipush (v := 8) hx hb dX4_differenceFrom_5 (by decide) ?_
    refine lv_icmp_ge (tgt := 38) hx hb dX4_differenceFrom_7 (by decide) (fun c1 => ?_) (fun c1 => ?_)
    · replace hf := xif_t hf c1
      refine lv_iload_n hx hb dX4_differenceFrom_38 rfl (lv_at hl 2 rfl) ?_
      exact x_iret hx hb h (Option.some.inj hf) hr hlocks dX4_differenceFrom_39
    · replace hf := xif_f hf c1
      refine lv_iload_n hx hb dX4_differenceFrom_10 rfl (lv_at hl 2 rfl) ?_
      refine lv_aload_n hx hb dX4_differenceFrom_11 rfl (lv_at hl 0 rfl) ?_
      refine x_get (own := RX4) (ref := "TintDesk$Formula") (C := RX4) (T := TX4) (n := 3) (index := 15) (v := .ref (Γ.2.1 (k0 + 1))) hx hb hts (fun w h => xU_sub w (inU4 w h)) hown h (kX_formula h0) rfl 1 (by decide) (hts _ (xU_sub _ q87)) (fun _ h9 => h9) rfl dX4_differenceFrom_12 ?_
      refine lv_iload_n hx hb dX4_differenceFrom_15 rfl (lv_at hl 3 rfl) ?_
      obtain ⟨c2, hf⟩ := xck_s hf
      refine x_iald hx hb h (kX_formula_amounts h0) (xin_in c2) dX4_differenceFrom_16 ?_
      refine lv_aload_n hx hb dX4_differenceFrom_17 rfl (lv_at hl 1 rfl) ?_
      refine x_get (own := RX4) (ref := "TintDesk$Can") (C := RX1) (T := TX1) (n := 6) (index := 28) (v := .ref (Γ.2.1 (k1 + 1))) hx hb hts (fun w h => xU_sub w (inU1 w h)) hown h (kX_can h1) rfl 4 (by decide) (hts _ (xU_sub _ q618)) (fun _ h9 => h9) rfl dX4_differenceFrom_18 ?_
      refine lv_iload_n hx hb dX4_differenceFrom_21 rfl (lv_at hl 3 rfl) ?_
      obtain ⟨c3, hf⟩ := xck_s hf
      refine x_iald hx hb h (kX_can_steps h1) (xin_in c3) dX4_differenceFrom_22 ?_
      refine lv_bipush (v := 100) hx hb dX4_differenceFrom_23 (by decide) ?_
      refine lv_imul hx hb dX4_differenceFrom_25 ?_
      refine lv_isub hx hb dX4_differenceFrom_26 ?_
      refine va_mabs hx hb (hml.trans hl.1.symm) hown (hts _ (xU_sub _ q619)) (hts _ (xU_sub _ q620)) (hts _ (xU_sub _ q166)) (hts _ (xU_sub _ q621)) (Nat.le_of_ble_eq_true rfl) (Nat.le_of_ble_eq_true rfl) (Nat.le_of_ble_eq_true rfl) (Nat.le_of_ble_eq_true rfl) dX4_differenceFrom_27 ?_
      refine lv_iadd hx hb dX4_differenceFrom_30 ?_
      obtain ⟨y4, ey4, hf⟩ := xl_s hf
      refine x_nm ey4 ?_
      refine lv_istore_n (lv' := [(2, .int y4), (0, .ref (Γ.2.1 k0)), (1, .ref (Γ.2.1 k1)), (3, .int v3)]) hx hb dX4_differenceFrom_31 rfl hl (by decide) rfl (fun ls hl => ?_)
      obtain ⟨y5, ey5, hf⟩ := xl_s hf
      refine lv_iinc (v := y5) (lv' := [(3, .int y5), (2, .int y4), (0, .ref (Γ.2.1 k0)), (1, .ref (Γ.2.1 k1))]) hx hb dX4_differenceFrom_32 hl (k := 3) rfl (by rw [ey5]; rfl) (by decide) rfl (fun ls hl => ?_)
      refine lv_goto (tgt := 4) hx hb dX4_differenceFrom_35 (by decide) ?_
      exact ih y4 y5 M hf _ _ _ h (lv_sub hl [2, 3, 1, 0] rfl)
set_option maxHeartbeats 4000000 in
set_option maxRecDepth 100000 in
theorem m_X4_differenceFrom (l : Launch) {Γ : xG} {N : Nat} {k0 : Nat} {k1 : Nat} (h0 : isFo k0) (h1 : isCa k1) {M : xM} {res : xR} (hf : F_X4_differenceFrom N k0 k1 M = some res) (sz : Nat) : Met l yX4_differenceFrom (xWs yX4_differenceFrom cX4_differenceFrom 4 (some .int)) ({ frames := 1, cells := 0, slots := 0, locals := 40 } : Room) (va_Pc [.ref (Γ.2.1 k0), .ref (Γ.2.1 k1)] (xPre Γ (wX Γ) M sz)) (xCi Γ (wX Γ) 1483 res sz) 0 0 (xAd Γ 1483 sz) := by
  refine x_met (Qc := fun sz => xCi Γ (wX Γ) 1483 res sz) pnX4 wG_W (Nat.le_of_ble_eq_true rfl) (fun p e s m args below meth c _ E h ls hl => ?_) sz
  obtain ⟨⟨hx, hb, hml, hown, hts⟩, hr, hlocks⟩ := id E
  have hl : lv_has ls 4 [(0, .ref (Γ.2.1 k0)), (1, .ref (Γ.2.1 k1))] := hl
  refine lv_iconst (v := 0) hx hb dX4_differenceFrom_0 (by decide) ?_
  refine lv_istore_n (lv' := [(2, .int 0), (0, .ref (Γ.2.1 k0)), (1, .ref (Γ.2.1 k1))]) hx hb dX4_differenceFrom_1 rfl hl (by decide) rfl (fun ls hl => ?_)
  refine lv_iconst (v := 0) hx hb dX4_differenceFrom_2 (by decide) ?_
  refine lv_istore_n (lv' := [(3, .int 0), (2, .int 0), (0, .ref (Γ.2.1 k0)), (1, .ref (Γ.2.1 k1))]) hx hb dX4_differenceFrom_3 rfl hl (by decide) rfl (fun ls hl => ?_)
  exact w_X4_differenceFrom_4 l E h0 h1 N 0 0 M hf _ _ _ h (lv_sub hl [2, 3, 1, 0] rfl)
