theorem hdX6_keep : yX6_keep.cls = RX6 ∧ yX6_keep.cls ≠ "java/lang/invoke/MethodHandle" ∧ yX6_keep.cls ≠ "java/lang/invoke/VarHandle" ∧ (parseMethodDescriptor yX6_keep.desc).map (fun d => d.parameters.length) = some 1 := by decide +kernel
set_option maxHeartbeats 4000000 in
set_option maxRecDepth 100000 in
theorem m_X6_keep (l : Launch) {Γ : xG} {N : Nat} {k1 : Nat} (h1 : isDk k1) {M : xM} {res : xR} (hf : F_X6_keep N k1 M = some res) (sz : Nat) : Met l yX6_keep (xWs yX6_keep cX6_keep 2 none) ({ frames := 3, cells := 0, slots := 0, locals := 163 } : Room) (va_Pc [.ref (Γ.2.1 1471), .ref (Γ.2.1 k1)] (xPre Γ (wX Γ) M sz)) (xCv Γ (wX Γ) 1483 res sz) 0 0 (xAd Γ 1483 sz) := by
  refine x_met (Qc := fun sz => xCv Γ (wX Γ) 1483 res sz) pnX6 wG_W (Nat.le_of_ble_eq_true rfl) (fun p e s m args below meth c _ E h ls hl => ?_) sz
  obtain ⟨⟨hx, hb, hml, hown, hts⟩, hr, hlocks⟩ := id E
  have hl : lv_has ls 2 [(0, .ref (Γ.2.1 1471)), (1, .ref (Γ.2.1 k1))] := hl
  refine lv_aload_n hx hb dX6_keep_0 rfl (lv_at hl 0 rfl) ?_
  refine x_get (own := RX6) (ref := "TintDesk$History") (C := RX6) (T := TX6) (n := 3) (index := 11) (v := .ref (Γ.2.1 1472)) hx hb hts (fun w h => xU_sub w (inU6 w h)) hown h kX_hist rfl 0 (by decide) (hts _ (xU_sub _ q103)) (fun _ h9 => h9) rfl dX6_keep_1 ?_
  refine lv_aload_n hx hb dX6_keep_4 rfl (lv_at hl 0 rfl) ?_
  refine x_get (own := RX6) (ref := "TintDesk$History") (C := RX6) (T := TX6) (n := 3) (index := 21) (v := .int (M.1 1471 2)) hx hb hts (fun w h => xU_sub w (inU6 w h)) hown h kX_hist rfl 2 (by decide) (hts _ (xU_sub _ q105)) (fun _ h9 => h9) rfl dX6_keep_5 ?_
  obtain ⟨c1, hf⟩ := xck_s hf
  refine x_aald (C := "TintDesk$Desk") hx hb h rfl kX_hist_ring c1 dX6_keep_8 ?_
  refine lv_aload_n hx hb dX6_keep_9 rfl (lv_at hl 1 rfl) ?_
  obtain ⟨r2, er2, hf⟩ := xbd_s hf
  refine x_Vv (As := [.ref (Γ.2.1 k1)]) (rest := []) E.1 (m_X3_copyFrom l (isDk_ring c1) h1 er2) (cwV 1 hts (xgV xU_sub q168 q169 q170 q15 q171) rfl rfl rfl hdX3_copyFrom ⟨Nat.le_of_ble_eq_true rfl, Nat.le_of_ble_eq_true rfl⟩) h (kX_desk (isDk_ring c1)) rfl rfl hl.1 rfl (Nat.le_of_ble_eq_true rfl) dX6_keep_10 ⟨Nat.le_of_ble_eq_true rfl, Nat.le_of_ble_eq_true rfl⟩ (fun H locs h => ?_)
  refine lv_aload_n hx hb dX6_keep_13 rfl (lv_at hl 0 rfl) ?_
  refine lv_aload_n hx hb dX6_keep_14 rfl (lv_at hl 0 rfl) ?_
  refine x_get (own := RX6) (ref := "TintDesk$History") (C := RX6) (T := TX6) (n := 3) (index := 21) (v := .int (r2.1.1 1471 2)) hx hb hts (fun w h => xU_sub w (inU6 w h)) hown h kX_hist rfl 2 (by decide) (hts _ (xU_sub _ q105)) (fun _ h9 => h9) rfl dX6_keep_15 ?_
  refine lv_iconst (v := 1) hx hb dX6_keep_18 (by decide) ?_
  refine lv_iadd hx hb dX6_keep_19 ?_
  refine lv_bipush (v := 8) hx hb dX6_keep_20 (by decide) ?_
  refine lv_irem hx hb dX6_keep_22 (by decide) ?_
  obtain ⟨M3, eM3, hf⟩ := xl_s hf
  refine x_put (own := RX6) (ref := "TintDesk$History") (C := RX6) (T := TX6) (n := 3) (index := 21) (ty := .int) hx hb hts (fun w h => xU_sub w (inU6 w h)) tyX6 tyX6_ok nmX6 hown h kX_hist rfl 2 (by decide) (hts _ (xU_sub _ q105)) (fun _ h9 => h9) rfl (by decide +kernel) rfl rfl (Nat.le_of_ble_eq_true rfl) rfl eM3 dX6_keep_23 (fun H locs h => ?_)
  refine lv_aload_n hx hb dX6_keep_26 rfl (lv_at hl 0 rfl) ?_
  refine lv_aload_n hx hb dX6_keep_27 rfl (lv_at hl 0 rfl) ?_
  refine x_get (own := RX6) (ref := "TintDesk$History") (C := RX6) (T := TX6) (n := 3) (index := 17) (v := .int (M3.1 1471 1)) hx hb hts (fun w h => xU_sub w (inU6 w h)) hown h kX_hist rfl 1 (by decide) (hts _ (xU_sub _ q104)) (fun _ h9 => h9) rfl dX6_keep_28 ?_
  refine lv_iconst (v := 1) hx hb dX6_keep_31 (by decide) ?_
  refine lv_iadd hx hb dX6_keep_32 ?_
  refine lv_bipush (v := 8) hx hb dX6_keep_33 (by decide) ?_
  refine va_mmin hx hb (hml.trans hl.1.symm) hown (hts _ (xU_sub _ q164)) (hts _ (xU_sub _ q165)) (hts _ (xU_sub _ q166)) (hts _ (xU_sub _ q167)) (Nat.le_of_ble_eq_true rfl) (Nat.le_of_ble_eq_true rfl) (Nat.le_of_ble_eq_true rfl) (Nat.le_of_ble_eq_true rfl) dX6_keep_35 ?_
  obtain ⟨M4, eM4, hf⟩ := xl_s hf
  refine x_put (own := RX6) (ref := "TintDesk$History") (C := RX6) (T := TX6) (n := 3) (index := 17) (ty := .int) hx hb hts (fun w h => xU_sub w (inU6 w h)) tyX6 tyX6_ok nmX6 hown h kX_hist rfl 1 (by decide) (hts _ (xU_sub _ q104)) (fun _ h9 => h9) rfl (by decide +kernel) rfl rfl (Nat.le_of_ble_eq_true rfl) rfl eM4 dX6_keep_38 (fun H locs h => ?_)
  exact x_vret hx hb h (Option.some.inj hf) hr hlocks dX6_keep_41
theorem hdX6_giveBack : yX6_giveBack.cls = RX6 ∧ yX6_giveBack.cls ≠ "java/lang/invoke/MethodHandle" ∧ yX6_giveBack.cls ≠ "java/lang/invoke/VarHandle" ∧ (parseMethodDescriptor yX6_giveBack.desc).map (fun d => d.parameters.length) = some 1 := by decide +kernel
set_option maxHeartbeats 4000000 in
set_option maxRecDepth 100000 in
theorem m_X6_giveBack (l : Launch) {Γ : xG} {N : Nat} {k1 : Nat} (h1 : isDk k1) {M : xM} {res : xR} (hf : F_X6_giveBack N k1 M = some res) (sz : Nat) : Met l yX6_giveBack (xWs yX6_giveBack cX6_giveBack 2 none) ({ frames := 3, cells := 0, slots := 0, locals := 163 } : Room) (va_Pc [.ref (Γ.2.1 1471), .ref (Γ.2.1 k1)] (xPre Γ (wX Γ) M sz)) (xCv Γ (wX Γ) 1483 res sz) 0 0 (xAd Γ 1483 sz) := by
  refine x_met (Qc := fun sz => xCv Γ (wX Γ) 1483 res sz) pnX6 wG_W (Nat.le_of_ble_eq_true rfl) (fun p e s m args below meth c _ E h ls hl => ?_) sz
  obtain ⟨⟨hx, hb, hml, hown, hts⟩, hr, hlocks⟩ := id E
  have hl : lv_has ls 2 [(0, .ref (Γ.2.1 1471)), (1, .ref (Γ.2.1 k1))] := hl
  refine lv_aload_n hx hb dX6_giveBack_0 rfl (lv_at hl 0 rfl) ?_
  refine lv_aload_n hx hb dX6_giveBack_1 rfl (lv_at hl 0 rfl) ?_
  refine x_get (own := RX6) (ref := "TintDesk$History") (C := RX6) (T := TX6) (n := 3) (index := 21) (v := .int (M.1 1471 2)) hx hb hts (fun w h => xU_sub w (inU6 w h)) hown h kX_hist rfl 2 (by decide) (hts _ (xU_sub _ q105)) (fun _ h9 => h9) rfl dX6_giveBack_2 ?_
  refine lv_bipush (v := 8) hx hb dX6_giveBack_5 (by decide) ?_
  refine lv_iadd hx hb dX6_giveBack_7 ?_
  refine lv_iconst (v := 1) hx hb dX6_giveBack_8 (by decide) ?_
  refine lv_isub hx hb dX6_giveBack_9 ?_
  refine lv_bipush (v := 8) hx hb dX6_giveBack_10 (by decide) ?_
  refine lv_irem hx hb dX6_giveBack_12 (by decide) ?_
  obtain ⟨M1, eM1, hf⟩ := xl_s hf
  refine x_put (own := RX6) (ref := "TintDesk$History") (C := RX6) (T := TX6) (n := 3) (index := 21) (ty := .int) hx hb hts (fun w h => xU_sub w (inU6 w h)) tyX6 tyX6_ok nmX6 hown h kX_hist rfl 2 (by decide) (hts _ (xU_sub _ q105)) (fun _ h9 => h9) rfl (by decide +kernel) rfl rfl (Nat.le_of_ble_eq_true rfl) rfl eM1 dX6_giveBack_13 (fun H locs h => ?_)
  refine lv_aload_n hx hb dX6_giveBack_16 rfl (lv_at hl 0 rfl) ?_
  refine lv_dup hx hb dX6_giveBack_17 rfl ?_
  refine x_get (own := RX6) (ref := "TintDesk$History") (C := RX6) (T := TX6) (n := 3) (index := 17) (v := .int (M1.1 1471 1)) hx hb hts (fun w h => xU_sub w (inU6 w h)) hown h kX_hist rfl 1 (by decide) (hts _ (xU_sub _ q104)) (fun _ h9 => h9) rfl dX6_giveBack_18 ?_
  refine lv_iconst (v := 1) hx hb dX6_giveBack_21 (by decide) ?_
  refine lv_isub hx hb dX6_giveBack_22 ?_
  obtain ⟨M2, eM2, hf⟩ := xl_s hf
  refine x_put (own := RX6) (ref := "TintDesk$History") (C := RX6) (T := TX6) (n := 3) (index := 17) (ty := .int) hx hb hts (fun w h => xU_sub w (inU6 w h)) tyX6 tyX6_ok nmX6 hown h kX_hist rfl 1 (by decide) (hts _ (xU_sub _ q104)) (fun _ h9 => h9) rfl (by decide +kernel) rfl rfl (Nat.le_of_ble_eq_true rfl) rfl eM2 dX6_giveBack_23 (fun H locs h => ?_)
  refine lv_aload_n hx hb dX6_giveBack_26 rfl (lv_at hl 1 rfl) ?_
  refine lv_aload_n hx hb dX6_giveBack_27 rfl (lv_at hl 0 rfl) ?_
  refine x_get (own := RX6) (ref := "TintDesk$History") (C := RX6) (T := TX6) (n := 3) (index := 11) (v := .ref (Γ.2.1 1472)) hx hb hts (fun w h => xU_sub w (inU6 w h)) hown h kX_hist rfl 0 (by decide) (hts _ (xU_sub _ q103)) (fun _ h9 => h9) rfl dX6_giveBack_28 ?_
  refine lv_aload_n hx hb dX6_giveBack_31 rfl (lv_at hl 0 rfl) ?_
  refine x_get (own := RX6) (ref := "TintDesk$History") (C := RX6) (T := TX6) (n := 3) (index := 21) (v := .int (M2.1 1471 2)) hx hb hts (fun w h => xU_sub w (inU6 w h)) hown h kX_hist rfl 2 (by decide) (hts _ (xU_sub _ q105)) (fun _ h9 => h9) rfl dX6_giveBack_32 ?_
  obtain ⟨c3, hf⟩ := xck_s hf
  refine x_aald (C := "TintDesk$Desk") hx hb h rfl kX_hist_ring c3 dX6_giveBack_35 ?_
  obtain ⟨r4, er4, hf⟩ := xbd_s hf
  refine x_Vv (As := [.ref (Γ.2.1 (294 + 147 * (M2.1 1471 2).toNatClampNeg))]) (rest := []) E.1 (m_X3_copyFrom l h1 (isDk_ring c3) er4) (cwV 1 hts (xgV xU_sub q168 q169 q170 q15 q171) rfl rfl rfl hdX3_copyFrom ⟨Nat.le_of_ble_eq_true rfl, Nat.le_of_ble_eq_true rfl⟩) h (kX_desk h1) rfl rfl hl.1 rfl (Nat.le_of_ble_eq_true rfl) dX6_giveBack_36 ⟨Nat.le_of_ble_eq_true rfl, Nat.le_of_ble_eq_true rfl⟩ (fun H locs h => ?_)
  exact x_vret hx hb h (Option.some.inj hf) hr hlocks dX6_giveBack_39
theorem hdX6_forget : yX6_forget.cls = RX6 ∧ yX6_forget.cls ≠ "java/lang/invoke/MethodHandle" ∧ yX6_forget.cls ≠ "java/lang/invoke/VarHandle" ∧ (parseMethodDescriptor yX6_forget.desc).map (fun d => d.parameters.length) = some 0 := by decide +kernel
set_option maxHeartbeats 4000000 in
set_option maxRecDepth 100000 in
theorem m_X6_forget (l : Launch) {Γ : xG} {N : Nat} {M : xM} {res : xR} (hf : F_X6_forget N M = some res) (sz : Nat) : Met l yX6_forget (xWs yX6_forget cX6_forget 1 none) ({ frames := 1, cells := 0, slots := 0, locals := 40 } : Room) (va_Pc [.ref (Γ.2.1 1471)] (xPre Γ (wX Γ) M sz)) (xCv Γ (wX Γ) 1483 res sz) 0 0 (xAd Γ 1483 sz) := by
  refine x_met (Qc := fun sz => xCv Γ (wX Γ) 1483 res sz) pnX6 wG_W (Nat.le_of_ble_eq_true rfl) (fun p e s m args below meth c _ E h ls hl => ?_) sz
  obtain ⟨⟨hx, hb, hml, hown, hts⟩, hr, hlocks⟩ := id E
  have hl : lv_has ls 1 [(0, .ref (Γ.2.1 1471))] := hl
  refine lv_aload_n hx hb dX6_forget_0 rfl (lv_at hl 0 rfl) ?_
  refine lv_iconst (v := 0) hx hb dX6_forget_1 (by decide) ?_
  obtain ⟨M1, eM1, hf⟩ := xl_s hf
  refine x_put (own := RX6) (ref := "TintDesk$History") (C := RX6) (T := TX6) (n := 3) (index := 17) (ty := .int) hx hb hts (fun w h => xU_sub w (inU6 w h)) tyX6 tyX6_ok nmX6 hown h kX_hist rfl 1 (by decide) (hts _ (xU_sub _ q104)) (fun _ h9 => h9) rfl (by decide +kernel) rfl rfl (Nat.le_of_ble_eq_true rfl) rfl eM1 dX6_forget_2 (fun H locs h => ?_)
  exact x_vret hx hb h (Option.some.inj hf) hr hlocks dX6_forget_5
theorem hdX7_put : yX7_put.cls = RX7 ∧ yX7_put.cls ≠ "java/lang/invoke/MethodHandle" ∧ yX7_put.cls ≠ "java/lang/invoke/VarHandle" ∧ (parseMethodDescriptor yX7_put.desc).map (fun d => d.parameters.length) = some 1 := by decide +kernel
set_option maxHeartbeats 4000000 in
set_option maxRecDepth 100000 in
theorem m_X7_put (l : Launch) {Γ : xG} {N : Nat} {v1 : Int32} {M : xM} {res : xR} (hf : F_X7_put N v1 M = some res) (sz : Nat) : Met l yX7_put (xWs yX7_put cX7_put 2 none) ({ frames := 1, cells := 0, slots := 0, locals := 40 } : Room) (va_Pc [.ref (Γ.2.1 1479), .int v1] (xPre Γ (wX Γ) M sz)) (xCv Γ (wX Γ) 1483 res sz) 0 0 (xAd Γ 1483 sz) := by
  refine x_met (Qc := fun sz => xCv Γ (wX Γ) 1483 res sz) pnX7 wG_W (Nat.le_of_ble_eq_true rfl) (fun p e s m args below meth c _ E h ls hl => ?_) sz
  obtain ⟨⟨hx, hb, hml, hown, hts⟩, hr, hlocks⟩ := id E
  have hl : lv_has ls 2 [(0, .ref (Γ.2.1 1479)), (1, .int v1)] := hl
  refine lv_aload_n hx hb dX7_put_0 rfl (lv_at hl 0 rfl) ?_
  refine x_get (own := RX7) (ref := "TintDesk$LabelWriter") (C := RX7) (T := TX7) (n := 2) (index := 15) (v := .int (M.1 1479 1)) hx hb hts (fun w h => xU_sub w (inU7 w h)) hown h kX_label rfl 1 (by decide) (hts _ (xU_sub _ q127)) (fun _ h9 => h9) rfl dX7_put_1 ?_
  refine lv_sipush (v := 654) hx hb dX7_put_4 (by decide) ?_
  refine lv_icmp_ge (tgt := 30) hx hb dX7_put_7 (by decide) (fun c1 => ?_) (fun c1 => ?_)
  · replace hf := xif_t hf c1
    exact x_vret hx hb h (Option.some.inj hf) hr hlocks dX7_put_30
  · replace hf := xif_f hf c1
    refine lv_aload_n hx hb dX7_put_10 rfl (lv_at hl 0 rfl) ?_
    refine x_get (own := RX7) (ref := "TintDesk$LabelWriter") (C := RX7) (T := TX7) (n := 2) (index := 9) (v := .ref (Γ.2.1 1480)) hx hb hts (fun w h => xU_sub w (inU7 w h)) hown h kX_label rfl 0 (by decide) (hts _ (xU_sub _ q126)) (fun _ h9 => h9) rfl dX7_put_11 ?_
    refine lv_aload_n hx hb dX7_put_14 rfl (lv_at hl 0 rfl) ?_
    refine x_get (own := RX7) (ref := "TintDesk$LabelWriter") (C := RX7) (T := TX7) (n := 2) (index := 15) (v := .int (M.1 1479 1)) hx hb hts (fun w h => xU_sub w (inU7 w h)) hown h kX_label rfl 1 (by decide) (hts _ (xU_sub _ q127)) (fun _ h9 => h9) rfl dX7_put_15 ?_
    refine lv_iload_n hx hb dX7_put_18 rfl (lv_at hl 1 rfl) ?_
    obtain ⟨c2, hf⟩ := xck_s hf
    obtain ⟨M3, eM3, hf⟩ := xl_s hf
    refine x_cast hx hb h kX_label_signs (xin_in c2) eM3 dX7_put_19 (fun H locs h => ?_)
    refine lv_aload_n hx hb dX7_put_20 rfl (lv_at hl 0 rfl) ?_
    refine lv_dup hx hb dX7_put_21 rfl ?_
    refine x_get (own := RX7) (ref := "TintDesk$LabelWriter") (C := RX7) (T := TX7) (n := 2) (index := 15) (v := .int (M3.1 1479 1)) hx hb hts (fun w h => xU_sub w (inU7 w h)) hown h kX_label rfl 1 (by decide) (hts _ (xU_sub _ q127)) (fun _ h9 => h9) rfl dX7_put_22 ?_
    refine lv_iconst (v := 1) hx hb dX7_put_25 (by decide) ?_
    refine lv_iadd hx hb dX7_put_26 ?_
    obtain ⟨M4, eM4, hf⟩ := xl_s hf
    refine x_put (own := RX7) (ref := "TintDesk$LabelWriter") (C := RX7) (T := TX7) (n := 2) (index := 15) (ty := .int) hx hb hts (fun w h => xU_sub w (inU7 w h)) tyX7 tyX7_ok nmX7 hown h kX_label rfl 1 (by decide) (hts _ (xU_sub _ q127)) (fun _ h9 => h9) rfl (by decide +kernel) rfl rfl (Nat.le_of_ble_eq_true rfl) rfl eM4 dX7_put_27 (fun H locs h => ?_)
    exact x_vret hx hb h (Option.some.inj hf) hr hlocks dX7_put_30
theorem hdX7_putNumber : yX7_putNumber.cls = RX7 ∧ yX7_putNumber.cls ≠ "java/lang/invoke/MethodHandle" ∧ yX7_putNumber.cls ≠ "java/lang/invoke/VarHandle" ∧ (parseMethodDescriptor yX7_putNumber.desc).map (fun d => d.parameters.length) = some 1 := by decide +kernel
set_option maxHeartbeats 4000000 in
set_option maxRecDepth 100000 in
theorem w_X7_putNumber_32 (l : Launch) {p : Program} {e : Env} {s : State} {m : MethodId} {args : Array Value} {below : List Frame} {meth : Method} {c : Code} {Γ : xG} {N : Nat} {res : xR} (E : xEv p s m args meth c RX7 cX7_putNumber 3 none (xWs yX7_putNumber cX7_putNumber 3 none)) {K_3 : Int32 → Int32 → xM → Option xR} (hK_3 : ∀ (v1 : Int32) (v2 : Int32) (M : xM), K_3 v1 v2 M = some res → ∀ (H : Heap) (locs : List Loc) (ls : Array Slot), xH Γ (wX Γ) 1483 s M H locs → lv_has ls 3 [(0, .ref (Γ.2.1 1479)), (1, .int v1), (2, .int v2)] → W p l e ({ frames := 2, cells := 0, slots := 0, locals := 61 } : Room) s m args below meth c H locs 0 0 (MQ below (xCv Γ (wX Γ) 1483 res s.heap.size) args s 0 0 (xAd Γ 1483 s.heap.size)) (F0 m 3 ls [])) : ∀ (v1 : Int32) (v2 : Int32) (M : xM), L_X7_putNumber_32 N K_3 v1 v2 M = some res → ∀ (H : Heap) (locs : List Loc) (ls : Array Slot), xH Γ (wX Γ) 1483 s M H locs → lv_has ls 3 [(0, .ref (Γ.2.1 1479)), (1, .int v1), (2, .int v2)] → W p l e ({ frames := 2, cells := 0, slots := 0, locals := 61 } : Room) s m args below meth c H locs 0 0 (MQ below (xCv Γ (wX Γ) 1483 res s.heap.size) args s 0 0 (xAd Γ 1483 s.heap.size)) (F0 m 32 ls []) := by
  obtain ⟨⟨hx, hb, hml, hown, hts⟩, hr, hlocks⟩ := id E
  intro v1 v2 M hf H locs ls h hl
  refine lv_iload_n hx hb dX7_putNumber_32 rfl (lv_at hl 2 rfl) ?_
  refine lv_bipush (v := 10) hx hb dX7_putNumber_33 (by decide) ?_
  refine lv_idiv hx hb dX7_putNumber_35 (by decide) ?_
  obtain ⟨y1, ey1, hf⟩ := xl_s hf
  refine x_nm ey1 ?_
  refine lv_istore_n (lv' := [(2, .int y1), (0, .ref (Γ.2.1 1479)), (1, .int v1)]) hx hb dX7_putNumber_36 rfl hl (by decide) rfl (fun ls hl => ?_)
  refine lv_goto (tgt := 3) hx hb dX7_putNumber_37 (by decide) ?_
  exact hK_3 v1 y1 M hf _ _ _ h (lv_sub hl [1, 2, 0] rfl)
set_option maxHeartbeats 4000000 in
set_option maxRecDepth 100000 in
theorem w_X7_putNumber_18 (l : Launch) {p : Program} {e : Env} {s : State} {m : MethodId} {args : Array Value} {below : List Frame} {meth : Method} {c : Code} {Γ : xG} {N : Nat} {res : xR} (E : xEv p s m args meth c RX7 cX7_putNumber 3 none (xWs yX7_putNumber cX7_putNumber 3 none)) {K_32 : Int32 → Int32 → xM → Option xR} (hK_32 : ∀ (v1 : Int32) (v2 : Int32) (M : xM), K_32 v1 v2 M = some res → ∀ (H : Heap) (locs : List Loc) (ls : Array Slot), xH Γ (wX Γ) 1483 s M H locs → lv_has ls 3 [(0, .ref (Γ.2.1 1479)), (1, .int v1), (2, .int v2)] → W p l e ({ frames := 2, cells := 0, slots := 0, locals := 61 } : Room) s m args below meth c H locs 0 0 (MQ below (xCv Γ (wX Γ) 1483 res s.heap.size) args s 0 0 (xAd Γ 1483 s.heap.size)) (F0 m 32 ls [])) : ∀ (v1 : Int32) (v2 : Int32) (M : xM), L_X7_putNumber_18 N K_32 v1 v2 M = some res → ∀ (H : Heap) (locs : List Loc) (ls : Array Slot), xH Γ (wX Γ) 1483 s M H locs → lv_has ls 3 [(0, .ref (Γ.2.1 1479)), (1, .int v1), (2, .int v2)] → W p l e ({ frames := 2, cells := 0, slots := 0, locals := 61 } : Room) s m args below meth c H locs 0 0 (MQ below (xCv Γ (wX Γ) 1483 res s.heap.size) args s 0 0 (xAd Γ 1483 s.heap.size)) (F0 m 18 ls []) := by
  obtain ⟨⟨hx, hb, hml, hown, hts⟩, hr, hlocks⟩ := id E
  intro v1 v2 M hf H locs ls h hl
  refine lv_aload_n hx hb dX7_putNumber_18 rfl (lv_at hl 0 rfl) ?_
  refine lv_bipush (v := 48) hx hb dX7_putNumber_19 (by decide) ?_
  refine lv_iload_n hx hb dX7_putNumber_21 rfl (lv_at hl 1 rfl) ?_
  refine lv_iload_n hx hb dX7_putNumber_22 rfl (lv_at hl 2 rfl) ?_
  obtain ⟨c1, hf⟩ := xck_s hf
  refine lv_idiv hx hb dX7_putNumber_23 (xnz c1) ?_
  refine lv_bipush (v := 10) hx hb dX7_putNumber_24 (by decide) ?_
  refine lv_irem hx hb dX7_putNumber_26 (by decide) ?_
  refine lv_iadd hx hb dX7_putNumber_27 ?_
  refine lv_i2c (v := (((48 + ((v1 / v2) - (v1 / v2) / 10 * 10))).toUInt32 % 65536).toInt32) hx hb dX7_putNumber_28 rfl ?_
  obtain ⟨r2, er2, hf⟩ := xbd_s hf
  refine x_Vv (As := [.int (((48 + ((v1 / v2) - (v1 / v2) / 10 * 10))).toUInt32 % 65536).toInt32]) (rest := []) E.1 (m_X7_put l er2) (cwV 1 hts (xgV xU_sub q935 q936 q937 q36 q938) rfl rfl rfl hdX7_put ⟨Nat.le_of_ble_eq_true rfl, Nat.le_of_ble_eq_true rfl⟩) h kX_label rfl rfl hl.1 rfl (Nat.le_of_ble_eq_true rfl) dX7_putNumber_29 ⟨Nat.le_of_ble_eq_true rfl, Nat.le_of_ble_eq_true rfl⟩ (fun H locs h => ?_)
  exact hK_32 v1 v2 r2.1 hf _ _ _ h (lv_sub hl [0, 1, 2] rfl)
set_option maxHeartbeats 4000000 in
set_option maxRecDepth 100000 in
theorem w_X7_putNumber_3 (l : Launch) {p : Program} {e : Env} {s : State} {m : MethodId} {args : Array Value} {below : List Frame} {meth : Method} {c : Code} {Γ : xG} {N : Nat} {res : xR} (E : xEv p s m args meth c RX7 cX7_putNumber 3 none (xWs yX7_putNumber cX7_putNumber 3 none)) : ∀ (n : Nat) (v1 : Int32) (v2 : Int32) (M : xM), L_X7_putNumber_3 N n v1 v2 M = some res → ∀ (H : Heap) (locs : List Loc) (ls : Array Slot), xH Γ (wX Γ) 1483 s M H locs → lv_has ls 3 [(0, .ref (Γ.2.1 1479)), (1, .int v1), (2, .int v2)] → W p l e ({ frames := 2, cells := 0, slots := 0, locals := 61 } : Room) s m args below meth c H locs 0 0 (MQ below (xCv Γ (wX Γ) 1483 res s.heap.size) args s 0 0 (xAd Γ 1483 s.heap.size)) (F0 m 3 ls []) := by
  obtain ⟨⟨hx, hb, hml, hown, hts⟩, hr, hlocks⟩ := id E
  intro n
  induction n with
  | zero => intro v1 v2 M hf; cases hf
  | succ n ih =>
    intro v1 v2 M hf H locs ls h hl
    refine lv_iload_n hx hb dX7_putNumber_3 rfl (lv_at hl 2 rfl) ?_
    refine lv_iconst (v := 1) hx hb dX7_putNumber_4 (by decide) ?_
    refine lv_icmp_lt (tgt := 40) hx hb dX7_putNumber_5 (by decide) (fun c1 => ?_) (fun c1 => ?_)
    · replace hf := xif_t hf c1
      exact x_vret hx hb h (Option.some.inj hf) hr hlocks dX7_putNumber_40
    · replace hf := xif_f hf c1
      refine lv_iload_n hx hb dX7_putNumber_8 rfl (lv_at hl 1 rfl) ?_
      refine lv_iload_n hx hb dX7_putNumber_9 rfl (lv_at hl 2 rfl) ?_
      refine lv_icmp_ge (tgt := 18) hx hb dX7_putNumber_10 (by decide) (fun c2 => ?_) (fun c2 => ?_)
      · replace hf := xif_t hf c2
        exact w_X7_putNumber_18 l E (w_X7_putNumber_32 l E (ih)) v1 v2 M hf _ _ _ h (lv_sub hl [0, 1, 2] rfl)
      · replace hf := xif_f hf c2
        refine lv_iload_n hx hb dX7_putNumber_13 rfl (lv_at hl 2 rfl) ?_
        refine lv_iconst (v := 1) hx hb dX7_putNumber_14 (by decide) ?_
        refine lv_icmp_ne (tgt := 32) hx hb dX7_putNumber_15 (by decide) (fun c3 => ?_) (fun c3 => ?_)
        · replace hf := xif_f hf c3
          exact w_X7_putNumber_32 l E (ih) v1 v2 M hf _ _ _ h (lv_sub hl [0, 1, 2] rfl)
        · replace hf := xif_t hf c3
          exact w_X7_putNumber_18 l E (w_X7_putNumber_32 l E (ih)) v1 v2 M hf _ _ _ h (lv_sub hl [0, 1, 2] rfl)
set_option maxHeartbeats 4000000 in
set_option maxRecDepth 100000 in
theorem m_X7_putNumber (l : Launch) {Γ : xG} {N : Nat} {v1 : Int32} {M : xM} {res : xR} (hf : F_X7_putNumber N v1 M = some res) (sz : Nat) : Met l yX7_putNumber (xWs yX7_putNumber cX7_putNumber 3 none) ({ frames := 2, cells := 0, slots := 0, locals := 61 } : Room) (va_Pc [.ref (Γ.2.1 1479), .int v1] (xPre Γ (wX Γ) M sz)) (xCv Γ (wX Γ) 1483 res sz) 0 0 (xAd Γ 1483 sz) := by
  refine x_met (Qc := fun sz => xCv Γ (wX Γ) 1483 res sz) pnX7 wG_W (Nat.le_of_ble_eq_true rfl) (fun p e s m args below meth c _ E h ls hl => ?_) sz
  obtain ⟨⟨hx, hb, hml, hown, hts⟩, hr, hlocks⟩ := id E
  have hl : lv_has ls 3 [(0, .ref (Γ.2.1 1479)), (1, .int v1)] := hl
  refine lv_bipush (v := 100) hx hb dX7_putNumber_0 (by decide) ?_
  refine lv_istore_n (lv' := [(2, .int 100), (0, .ref (Γ.2.1 1479)), (1, .int v1)]) hx hb dX7_putNumber_2 rfl hl (by decide) rfl (fun ls hl => ?_)
  exact w_X7_putNumber_3 l E N v1 100 M hf _ _ _ h (lv_sub hl [1, 2, 0] rfl)
theorem hdX7_putColorant : yX7_putColorant.cls = RX7 ∧ yX7_putColorant.cls ≠ "java/lang/invoke/MethodHandle" ∧ yX7_putColorant.cls ≠ "java/lang/invoke/VarHandle" ∧ (parseMethodDescriptor yX7_putColorant.desc).map (fun d => d.parameters.length) = some 2 := by decide +kernel
set_option maxHeartbeats 4000000 in
set_option maxRecDepth 100000 in
theorem w_X7_putColorant_55 (l : Launch) {p : Program} {e : Env} {s : State} {m : MethodId} {args : Array Value} {below : List Frame} {meth : Method} {c : Code} {Γ : xG} {N : Nat} {k1 : Nat} {res : xR} (E : xEv p s m args meth c RX7 cX7_putColorant 4 none (xWs yX7_putColorant cX7_putColorant 4 none)) (h1 : isCa k1) {K_29 : Int32 → Int32 → xM → Option xR} (hK_29 : ∀ (v2 : Int32) (v3 : Int32) (M : xM), K_29 v2 v3 M = some res → ∀ (H : Heap) (locs : List Loc) (ls : Array Slot), xH Γ (wX Γ) 1483 s M H locs → lv_has ls 4 [(0, .ref (Γ.2.1 1479)), (1, .ref (Γ.2.1 k1)), (2, .int v2), (3, .int v3)] → W p l e ({ frames := 3, cells := 0, slots := 0, locals := 83 } : Room) s m args below meth c H locs 0 0 (MQ below (xCv Γ (wX Γ) 1483 res s.heap.size) args s 0 0 (xAd Γ 1483 s.heap.size)) (F0 m 29 ls [])) : ∀ (v2 : Int32) (v3 : Int32) (M : xM), L_X7_putColorant_55 N k1 K_29 v2 v3 M = some res → ∀ (H : Heap) (locs : List Loc) (ls : Array Slot), xH Γ (wX Γ) 1483 s M H locs → lv_has ls 4 [(0, .ref (Γ.2.1 1479)), (1, .ref (Γ.2.1 k1)), (2, .int v2), (3, .int v3)] → W p l e ({ frames := 3, cells := 0, slots := 0, locals := 83 } : Room) s m args below meth c H locs 0 0 (MQ below (xCv Γ (wX Γ) 1483 res s.heap.size) args s 0 0 (xAd Γ 1483 s.heap.size)) (F0 m 55 ls []) := by
  obtain ⟨⟨hx, hb, hml, hown, hts⟩, hr, hlocks⟩ := id E
  intro v2 v3 M hf H locs ls h hl
  obtain ⟨y1, ey1, hf⟩ := xl_s hf
  refine lv_iinc (v := y1) (lv' := [(3, .int y1), (0, .ref (Γ.2.1 1479)), (1, .ref (Γ.2.1 k1)), (2, .int v2)]) hx hb dX7_putColorant_55 hl (k := 3) rfl (by rw [ey1]; rfl) (by decide) rfl (fun ls hl => ?_)
  refine lv_goto (tgt := 29) hx hb dX7_putColorant_58 (by decide) ?_
  exact hK_29 v2 y1 M hf _ _ _ h (lv_sub hl [1, 2, 3, 0] rfl)
set_option maxHeartbeats 4000000 in
set_option maxRecDepth 100000 in
theorem w_X7_putColorant_29 (l : Launch) {p : Program} {e : Env} {s : State} {m : MethodId} {args : Array Value} {below : List Frame} {meth : Method} {c : Code} {Γ : xG} {N : Nat} {k1 : Nat} {res : xR} (E : xEv p s m args meth c RX7 cX7_putColorant 4 none (xWs yX7_putColorant cX7_putColorant 4 none)) (h1 : isCa k1) : ∀ (n : Nat) (v2 : Int32) (v3 : Int32) (M : xM), L_X7_putColorant_29 N k1 n v2 v3 M = some res → ∀ (H : Heap) (locs : List Loc) (ls : Array Slot), xH Γ (wX Γ) 1483 s M H locs → lv_has ls 4 [(0, .ref (Γ.2.1 1479)), (1, .ref (Γ.2.1 k1)), (2, .int v2), (3, .int v3)] → W p l e ({ frames := 3, cells := 0, slots := 0, locals := 83 } : Room) s m args below meth c H locs 0 0 (MQ below (xCv Γ (wX Γ) 1483 res s.heap.size) args s 0 0 (xAd Γ 1483 s.heap.size)) (F0 m 29 ls []) := by
  obtain ⟨⟨hx, hb, hml, hown, hts⟩, hr, hlocks⟩ := id E
  intro n
  induction n with
  | zero => intro v2 v3 M hf; cases hf
  | succ n ih =>
    intro v2 v3 M hf H locs ls h hl
    refine lv_iload_n hx hb dX7_putColorant_29 rfl (lv_at hl 3 rfl) ?_
    refine lv_bipush (v := 99) hx hb dX7_putColorant_30 (by decide) ?_
    refine lv_icmp_gt (tgt := 61) hx hb dX7_putColorant_32 (by decide) (fun c1 => ?_) (fun c1 => ?_)
    · replace hf := xif_t hf c1
      exact x_vret hx hb h (Option.some.inj hf) hr hlocks dX7_putColorant_61
    · replace hf := xif_f hf c1
      refine lv_aload_n hx hb dX7_putColorant_35 rfl (lv_at hl 1 rfl) ?_
      refine lv_iload_n hx hb dX7_putColorant_36 rfl (lv_at hl 2 rfl) ?_
      refine lv_iload_n hx hb dX7_putColorant_37 rfl (lv_at hl 3 rfl) ?_
      obtain ⟨r2, er2, hf⟩ := xbd_s hf
      refine x_Vi (As := [.int v2, .int v3]) (rest := []) E.1 (m_X1_holdsLot l h1 er2) (cwV 2 hts (xgV xU_sub q947 q877 q878 q62 q879) rfl rfl rfl hdX1_holdsLot ⟨Nat.le_of_ble_eq_true rfl, Nat.le_of_ble_eq_true rfl⟩) h (kX_can h1) rfl rfl hl.1 rfl (Nat.le_of_ble_eq_true rfl) dX7_putColorant_38 ⟨Nat.le_of_ble_eq_true rfl, Nat.le_of_ble_eq_true rfl⟩ (fun H locs h => ?_)
      refine lv_if_eq (tgt := 55) hx hb dX7_putColorant_41 (by decide) (fun c3 => ?_) (fun c3 => ?_)
      · replace hf := xif_t hf c3
        exact w_X7_putColorant_55 l E h1 (ih) v2 v3 r2.1 hf _ _ _ h (lv_sub hl [0, 1, 2, 3] rfl)
      · replace hf := xif_f hf c3
        refine lv_aload_n hx hb dX7_putColorant_44 rfl (lv_at hl 0 rfl) ?_
        refine lv_bipush (v := 58) hx hb dX7_putColorant_45 (by decide) ?_
        obtain ⟨r4, er4, hf⟩ := xbd_s hf
        refine x_Vv (As := [.int 58]) (rest := []) E.1 (m_X7_put l er4) (cwV 1 hts (xgV xU_sub q935 q936 q937 q36 q938) rfl rfl rfl hdX7_put ⟨Nat.le_of_ble_eq_true rfl, Nat.le_of_ble_eq_true rfl⟩) h kX_label rfl rfl hl.1 rfl (Nat.le_of_ble_eq_true rfl) dX7_putColorant_47 ⟨Nat.le_of_ble_eq_true rfl, Nat.le_of_ble_eq_true rfl⟩ (fun H locs h => ?_)
        refine lv_aload_n hx hb dX7_putColorant_50 rfl (lv_at hl 0 rfl) ?_
        refine lv_iload_n hx hb dX7_putColorant_51 rfl (lv_at hl 3 rfl) ?_
        obtain ⟨r5, er5, hf⟩ := xbd_s hf
        refine x_Vv (As := [.int v3]) (rest := []) E.1 (m_X7_putNumber l er5) (cwV 1 hts (xgV xU_sub q939 q940 q941 q36 q942) rfl rfl rfl hdX7_putNumber ⟨Nat.le_of_ble_eq_true rfl, Nat.le_of_ble_eq_true rfl⟩) h kX_label rfl rfl hl.1 rfl (Nat.le_of_ble_eq_true rfl) dX7_putColorant_52 ⟨Nat.le_of_ble_eq_true rfl, Nat.le_of_ble_eq_true rfl⟩ (fun H locs h => ?_)
        exact w_X7_putColorant_55 l E h1 (ih) v2 v3 r5.1 hf _ _ _ h (lv_sub hl [0, 1, 2, 3] rfl)
set_option maxHeartbeats 4000000 in
set_option maxRecDepth 100000 in
theorem m_X7_putColorant (l : Launch) {Γ : xG} {N : Nat} {k1 : Nat} (h1 : isCa k1) {v2 : Int32} {M : xM} {res : xR} (hf : F_X7_putColorant N k1 v2 M = some res) (sz : Nat) : Met l yX7_putColorant (xWs yX7_putColorant cX7_putColorant 4 none) ({ frames := 3, cells := 0, slots := 0, locals := 83 } : Room) (va_Pc [.ref (Γ.2.1 1479), .ref (Γ.2.1 k1), .int v2] (xPre Γ (wX Γ) M sz)) (xCv Γ (wX Γ) 1483 res sz) 0 0 (xAd Γ 1483 sz) := by
  refine x_met (Qc := fun sz => xCv Γ (wX Γ) 1483 res sz) pnX7 wG_W (Nat.le_of_ble_eq_true rfl) (fun p e s m args below meth c _ E h ls hl => ?_) sz
  obtain ⟨⟨hx, hb, hml, hown, hts⟩, hr, hlocks⟩ := id E
  have hl : lv_has ls 4 [(0, .ref (Γ.2.1 1479)), (1, .ref (Γ.2.1 k1)), (2, .int v2)] := hl
  refine lv_aload_n hx hb dX7_putColorant_0 rfl (lv_at hl 0 rfl) ?_
  refine lv_bipush (v := 44) hx hb dX7_putColorant_1 (by decide) ?_
  obtain ⟨r1, er1, hf⟩ := xbd_s hf
  refine x_Vv (As := [.int 44]) (rest := []) E.1 (m_X7_put l er1) (cwV 1 hts (xgV xU_sub q935 q936 q937 q36 q938) rfl rfl rfl hdX7_put ⟨Nat.le_of_ble_eq_true rfl, Nat.le_of_ble_eq_true rfl⟩) h kX_label rfl rfl hl.1 rfl (Nat.le_of_ble_eq_true rfl) dX7_putColorant_3 ⟨Nat.le_of_ble_eq_true rfl, Nat.le_of_ble_eq_true rfl⟩ (fun H locs h => ?_)
  refine lv_aload_n hx hb dX7_putColorant_6 rfl (lv_at hl 0 rfl) ?_
  refine lv_iload_n hx hb dX7_putColorant_7 rfl (lv_at hl 2 rfl) ?_
  obtain ⟨r2, er2, hf⟩ := xbd_s hf
  refine x_Vv (As := [.int v2]) (rest := []) E.1 (m_X7_putNumber l er2) (cwV 1 hts (xgV xU_sub q939 q940 q941 q36 q942) rfl rfl rfl hdX7_putNumber ⟨Nat.le_of_ble_eq_true rfl, Nat.le_of_ble_eq_true rfl⟩) h kX_label rfl rfl hl.1 rfl (Nat.le_of_ble_eq_true rfl) dX7_putColorant_8 ⟨Nat.le_of_ble_eq_true rfl, Nat.le_of_ble_eq_true rfl⟩ (fun H locs h => ?_)
  refine lv_aload_n hx hb dX7_putColorant_11 rfl (lv_at hl 0 rfl) ?_
  refine lv_bipush (v := 61) hx hb dX7_putColorant_12 (by decide) ?_
  obtain ⟨r3, er3, hf⟩ := xbd_s hf
  refine x_Vv (As := [.int 61]) (rest := []) E.1 (m_X7_put l er3) (cwV 1 hts (xgV xU_sub q935 q936 q937 q36 q938) rfl rfl rfl hdX7_put ⟨Nat.le_of_ble_eq_true rfl, Nat.le_of_ble_eq_true rfl⟩) h kX_label rfl rfl hl.1 rfl (Nat.le_of_ble_eq_true rfl) dX7_putColorant_14 ⟨Nat.le_of_ble_eq_true rfl, Nat.le_of_ble_eq_true rfl⟩ (fun H locs h => ?_)
  refine lv_aload_n hx hb dX7_putColorant_17 rfl (lv_at hl 0 rfl) ?_
  refine lv_aload_n hx hb dX7_putColorant_18 rfl (lv_at hl 1 rfl) ?_
  refine x_get (own := RX7) (ref := "TintDesk$Can") (C := RX1) (T := TX1) (n := 6) (index := 32) (v := .ref (Γ.2.1 (k1 + 1))) hx hb hts (fun w h => xU_sub w (inU1 w h)) hown h (kX_can h1) rfl 4 (by decide) (hts _ (xU_sub _ q932)) (fun _ h9 => h9) rfl dX7_putColorant_19 ?_
  refine lv_iload_n hx hb dX7_putColorant_22 rfl (lv_at hl 2 rfl) ?_
  obtain ⟨c4, hf⟩ := xck_s hf
  refine x_iald hx hb h (kX_can_steps h1) (xin_in c4) dX7_putColorant_23 ?_
  obtain ⟨r5, er5, hf⟩ := xbd_s hf
  refine x_Vv (As := [.int (r3.1.1 (k1 + 1) v2.toNatClampNeg)]) (rest := []) E.1 (m_X7_putNumber l er5) (cwV 1 hts (xgV xU_sub q939 q940 q941 q36 q942) rfl rfl rfl hdX7_putNumber ⟨Nat.le_of_ble_eq_true rfl, Nat.le_of_ble_eq_true rfl⟩) h kX_label rfl rfl hl.1 rfl (Nat.le_of_ble_eq_true rfl) dX7_putColorant_24 ⟨Nat.le_of_ble_eq_true rfl, Nat.le_of_ble_eq_true rfl⟩ (fun H locs h => ?_)
  refine lv_iconst (v := 0) hx hb dX7_putColorant_27 (by decide) ?_
  refine lv_istore_n (lv' := [(3, .int 0), (0, .ref (Γ.2.1 1479)), (1, .ref (Γ.2.1 k1)), (2, .int v2)]) hx hb dX7_putColorant_28 rfl hl (by decide) rfl (fun ls hl => ?_)
  exact w_X7_putColorant_29 l E h1 N v2 0 r5.1 hf _ _ _ h (lv_sub hl [1, 2, 3, 0] rfl)
theorem hdX7_write : yX7_write.cls = RX7 ∧ yX7_write.cls ≠ "java/lang/invoke/MethodHandle" ∧ yX7_write.cls ≠ "java/lang/invoke/VarHandle" ∧ (parseMethodDescriptor yX7_write.desc).map (fun d => d.parameters.length) = some 1 := by decide +kernel
set_option maxHeartbeats 4000000 in
set_option maxRecDepth 100000 in
theorem w_X7_write_42 (l : Launch) {p : Program} {e : Env} {s : State} {m : MethodId} {args : Array Value} {below : List Frame} {meth : Method} {c : Code} {Γ : xG} {N : Nat} {k1 : Nat} {res : xR} (E : xEv p s m args meth c RX7 cX7_write 3 none (xWs yX7_write cX7_write 3 none)) (h1 : isCa k1) {K_21 : Int32 → xM → Option xR} (hK_21 : ∀ (v2 : Int32) (M : xM), K_21 v2 M = some res → ∀ (H : Heap) (locs : List Loc) (ls : Array Slot), xH Γ (wX Γ) 1483 s M H locs → lv_has ls 3 [(0, .ref (Γ.2.1 1479)), (1, .ref (Γ.2.1 k1)), (2, .int v2)] → W p l e ({ frames := 4, cells := 0, slots := 0, locals := 106 } : Room) s m args below meth c H locs 0 0 (MQ below (xCv Γ (wX Γ) 1483 res s.heap.size) args s 0 0 (xAd Γ 1483 s.heap.size)) (F0 m 21 ls [])) : ∀ (v2 : Int32) (M : xM), L_X7_write_42 N k1 K_21 v2 M = some res → ∀ (H : Heap) (locs : List Loc) (ls : Array Slot), xH Γ (wX Γ) 1483 s M H locs → lv_has ls 3 [(0, .ref (Γ.2.1 1479)), (1, .ref (Γ.2.1 k1)), (2, .int v2)] → W p l e ({ frames := 4, cells := 0, slots := 0, locals := 106 } : Room) s m args below meth c H locs 0 0 (MQ below (xCv Γ (wX Γ) 1483 res s.heap.size) args s 0 0 (xAd Γ 1483 s.heap.size)) (F0 m 42 ls []) := by
  obtain ⟨⟨hx, hb, hml, hown, hts⟩, hr, hlocks⟩ := id E
  intro v2 M hf H locs ls h hl
  obtain ⟨y1, ey1, hf⟩ := xl_s hf
  refine lv_iinc (v := y1) (lv' := [(2, .int y1), (0, .ref (Γ.2.1 1479)), (1, .ref (Γ.2.1 k1))]) hx hb dX7_write_42 hl (k := 2) rfl (by rw [ey1]; rfl) (by decide) rfl (fun ls hl => ?_)
  refine lv_goto (tgt := 21) hx hb dX7_write_45 (by decide) ?_
  exact hK_21 y1 M hf _ _ _ h (lv_sub hl [1, 2, 0] rfl)
set_option maxHeartbeats 4000000 in
set_option maxRecDepth 100000 in
theorem w_X7_write_21 (l : Launch) {p : Program} {e : Env} {s : State} {m : MethodId} {args : Array Value} {below : List Frame} {meth : Method} {c : Code} {Γ : xG} {N : Nat} {k1 : Nat} {res : xR} (E : xEv p s m args meth c RX7 cX7_write 3 none (xWs yX7_write cX7_write 3 none)) (h1 : isCa k1) : ∀ (n : Nat) (v2 : Int32) (M : xM), L_X7_write_21 N k1 n v2 M = some res → ∀ (H : Heap) (locs : List Loc) (ls : Array Slot), xH Γ (wX Γ) 1483 s M H locs → lv_has ls 3 [(0, .ref (Γ.2.1 1479)), (1, .ref (Γ.2.1 k1)), (2, .int v2)] → W p l e ({ frames := 4, cells := 0, slots := 0, locals := 106 } : Room) s m args below meth c H locs 0 0 (MQ below (xCv Γ (wX Γ) 1483 res s.heap.size) args s 0 0 (xAd Γ 1483 s.heap.size)) (F0 m 21 ls []) := by
  obtain ⟨⟨hx, hb, hml, hown, hts⟩, hr, hlocks⟩ := id E
  intro n
  induction n with
  | zero => intro v2 M hf; cases hf
  | succ n ih =>
    intro v2 M hf H locs ls h hl
    refine lv_iload_n hx hb dX7_write_21 rfl (lv_at hl 2 rfl) ?_
    refine lv_bipush (v := 8) hx hb dX7_write_22 (by decide) ?_
    refine lv_icmp_ge (tgt := 48) hx hb dX7_write_24 (by decide) (fun c1 => ?_) (fun c1 => ?_)
    · replace hf := xif_t hf c1
      refine lv_aload_n hx hb dX7_write_48 rfl (lv_at hl 1 rfl) ?_
      refine x_get (own := RX7) (ref := "TintDesk$Can") (C := RX1) (T := TX1) (n := 6) (index := 40) (v := .int (M.1 k1 2)) hx hb hts (fun w h => xU_sub w (inU1 w h)) hown h (kX_can h1) rfl 2 (by decide) (hts _ (xU_sub _ q933)) (fun _ h9 => h9) rfl dX7_write_49 ?_
      refine lv_if_le (tgt := 69) hx hb dX7_write_52 (by decide) (fun c2 => ?_) (fun c2 => ?_)
      · replace hf := xif_t hf c2
        exact x_vret hx hb h (Option.some.inj hf) hr hlocks dX7_write_69
      · replace hf := xif_f hf c2
        refine lv_aload_n hx hb dX7_write_55 rfl (lv_at hl 0 rfl) ?_
        refine lv_bipush (v := 43) hx hb dX7_write_56 (by decide) ?_
        obtain ⟨r3, er3, hf⟩ := xbd_s hf
        refine x_Vv (As := [.int 43]) (rest := []) E.1 (m_X7_put l er3) (cwV 1 hts (xgV xU_sub q935 q936 q937 q36 q938) rfl rfl rfl hdX7_put ⟨Nat.le_of_ble_eq_true rfl, Nat.le_of_ble_eq_true rfl⟩) h kX_label rfl rfl hl.1 rfl (Nat.le_of_ble_eq_true rfl) dX7_write_58 ⟨Nat.le_of_ble_eq_true rfl, Nat.le_of_ble_eq_true rfl⟩ (fun H locs h => ?_)
        refine lv_aload_n hx hb dX7_write_61 rfl (lv_at hl 0 rfl) ?_
        refine lv_aload_n hx hb dX7_write_62 rfl (lv_at hl 1 rfl) ?_
        refine x_get (own := RX7) (ref := "TintDesk$Can") (C := RX1) (T := TX1) (n := 6) (index := 43) (v := .int (r3.1.1 k1 3)) hx hb hts (fun w h => xU_sub w (inU1 w h)) hown h (kX_can h1) rfl 3 (by decide) (hts _ (xU_sub _ q934)) (fun _ h9 => h9) rfl dX7_write_63 ?_
        obtain ⟨r4, er4, hf⟩ := xbd_s hf
        refine x_Vv (As := [.int (r3.1.1 k1 3)]) (rest := []) E.1 (m_X7_putNumber l er4) (cwV 1 hts (xgV xU_sub q939 q940 q941 q36 q942) rfl rfl rfl hdX7_putNumber ⟨Nat.le_of_ble_eq_true rfl, Nat.le_of_ble_eq_true rfl⟩) h kX_label rfl rfl hl.1 rfl (Nat.le_of_ble_eq_true rfl) dX7_write_66 ⟨Nat.le_of_ble_eq_true rfl, Nat.le_of_ble_eq_true rfl⟩ (fun H locs h => ?_)
        exact x_vret hx hb h (Option.some.inj hf) hr hlocks dX7_write_69
    · replace hf := xif_f hf c1
      refine lv_aload_n hx hb dX7_write_27 rfl (lv_at hl 1 rfl) ?_
      refine x_get (own := RX7) (ref := "TintDesk$Can") (C := RX1) (T := TX1) (n := 6) (index := 32) (v := .ref (Γ.2.1 (k1 + 1))) hx hb hts (fun w h => xU_sub w (inU1 w h)) hown h (kX_can h1) rfl 4 (by decide) (hts _ (xU_sub _ q932)) (fun _ h9 => h9) rfl dX7_write_28 ?_
      refine lv_iload_n hx hb dX7_write_31 rfl (lv_at hl 2 rfl) ?_
      obtain ⟨c5, hf⟩ := xck_s hf
      refine x_iald hx hb h (kX_can_steps h1) (xin_in c5) dX7_write_32 ?_
      refine lv_if_le (tgt := 42) hx hb dX7_write_33 (by decide) (fun c6 => ?_) (fun c6 => ?_)
      · replace hf := xif_t hf c6
        exact w_X7_write_42 l E h1 (ih) v2 M hf _ _ _ h (lv_sub hl [0, 1, 2] rfl)
      · replace hf := xif_f hf c6
        refine lv_aload_n hx hb dX7_write_36 rfl (lv_at hl 0 rfl) ?_
        refine lv_aload_n hx hb dX7_write_37 rfl (lv_at hl 1 rfl) ?_
        refine lv_iload_n hx hb dX7_write_38 rfl (lv_at hl 2 rfl) ?_
        obtain ⟨r7, er7, hf⟩ := xbd_s hf
        refine x_Vv (As := [.ref (Γ.2.1 k1), .int v2]) (rest := []) E.1 (m_X7_putColorant l h1 er7) (cwV 2 hts (xgV xU_sub q943 q944 q945 q36 q946) rfl rfl rfl hdX7_putColorant ⟨Nat.le_of_ble_eq_true rfl, Nat.le_of_ble_eq_true rfl⟩) h kX_label rfl rfl hl.1 rfl (Nat.le_of_ble_eq_true rfl) dX7_write_39 ⟨Nat.le_of_ble_eq_true rfl, Nat.le_of_ble_eq_true rfl⟩ (fun H locs h => ?_)
        exact w_X7_write_42 l E h1 (ih) v2 r7.1 hf _ _ _ h (lv_sub hl [0, 1, 2] rfl)
set_option maxHeartbeats 4000000 in
set_option maxRecDepth 100000 in
theorem m_X7_write (l : Launch) {Γ : xG} {N : Nat} {k1 : Nat} (h1 : isCa k1) {M : xM} {res : xR} (hf : F_X7_write N k1 M = some res) (sz : Nat) : Met l yX7_write (xWs yX7_write cX7_write 3 none) ({ frames := 4, cells := 0, slots := 0, locals := 106 } : Room) (va_Pc [.ref (Γ.2.1 1479), .ref (Γ.2.1 k1)] (xPre Γ (wX Γ) M sz)) (xCv Γ (wX Γ) 1483 res sz) 0 0 (xAd Γ 1483 sz) := by
  refine x_met (Qc := fun sz => xCv Γ (wX Γ) 1483 res sz) pnX7 wG_W (Nat.le_of_ble_eq_true rfl) (fun p e s m args below meth c _ E h ls hl => ?_) sz
  obtain ⟨⟨hx, hb, hml, hown, hts⟩, hr, hlocks⟩ := id E
  have hl : lv_has ls 3 [(0, .ref (Γ.2.1 1479)), (1, .ref (Γ.2.1 k1))] := hl
  refine lv_aload_n hx hb dX7_write_0 rfl (lv_at hl 0 rfl) ?_
  refine lv_iconst (v := 0) hx hb dX7_write_1 (by decide) ?_
  obtain ⟨M1, eM1, hf⟩ := xl_s hf
  refine x_put (own := RX7) (ref := "TintDesk$LabelWriter") (C := RX7) (T := TX7) (n := 2) (index := 15) (ty := .int) hx hb hts (fun w h => xU_sub w (inU7 w h)) tyX7 tyX7_ok nmX7 hown h kX_label rfl 1 (by decide) (hts _ (xU_sub _ q127)) (fun _ h9 => h9) rfl (by decide +kernel) rfl rfl (Nat.le_of_ble_eq_true rfl) rfl eM1 dX7_write_2 (fun H locs h => ?_)
  refine lv_aload_n hx hb dX7_write_5 rfl (lv_at hl 0 rfl) ?_
  refine lv_bipush (v := 98) hx hb dX7_write_6 (by decide) ?_
  obtain ⟨r2, er2, hf⟩ := xbd_s hf
  refine x_Vv (As := [.int 98]) (rest := []) E.1 (m_X7_put l er2) (cwV 1 hts (xgV xU_sub q935 q936 q937 q36 q938) rfl rfl rfl hdX7_put ⟨Nat.le_of_ble_eq_true rfl, Nat.le_of_ble_eq_true rfl⟩) h kX_label rfl rfl hl.1 rfl (Nat.le_of_ble_eq_true rfl) dX7_write_8 ⟨Nat.le_of_ble_eq_true rfl, Nat.le_of_ble_eq_true rfl⟩ (fun H locs h => ?_)
  refine lv_aload_n hx hb dX7_write_11 rfl (lv_at hl 0 rfl) ?_
  refine lv_aload_n hx hb dX7_write_12 rfl (lv_at hl 1 rfl) ?_
  refine x_get (own := RX7) (ref := "TintDesk$Can") (C := RX1) (T := TX1) (n := 6) (index := 23) (v := .int (r2.1.1 k1 1)) hx hb hts (fun w h => xU_sub w (inU1 w h)) hown h (kX_can h1) rfl 1 (by decide) (hts _ (xU_sub _ q931)) (fun _ h9 => h9) rfl dX7_write_13 ?_
  obtain ⟨r3, er3, hf⟩ := xbd_s hf
  refine x_Vv (As := [.int (r2.1.1 k1 1)]) (rest := []) E.1 (m_X7_putNumber l er3) (cwV 1 hts (xgV xU_sub q939 q940 q941 q36 q942) rfl rfl rfl hdX7_putNumber ⟨Nat.le_of_ble_eq_true rfl, Nat.le_of_ble_eq_true rfl⟩) h kX_label rfl rfl hl.1 rfl (Nat.le_of_ble_eq_true rfl) dX7_write_16 ⟨Nat.le_of_ble_eq_true rfl, Nat.le_of_ble_eq_true rfl⟩ (fun H locs h => ?_)
  refine lv_iconst (v := 0) hx hb dX7_write_19 (by decide) ?_
  refine lv_istore_n (lv' := [(2, .int 0), (0, .ref (Γ.2.1 1479)), (1, .ref (Γ.2.1 k1))]) hx hb dX7_write_20 rfl hl (by decide) rfl (fun ls hl => ?_)
  exact w_X7_write_21 l E h1 N 0 r3.1 hf _ _ _ h (lv_sub hl [1, 2, 0] rfl)
theorem hdX8_isInReach : yX8_isInReach.cls = RX8 ∧ yX8_isInReach.cls ≠ "java/lang/invoke/MethodHandle" ∧ yX8_isInReach.cls ≠ "java/lang/invoke/VarHandle" ∧ (parseMethodDescriptor yX8_isInReach.desc).map (fun d => d.parameters.length) = some 1 := by decide +kernel
set_option maxHeartbeats 4000000 in
set_option maxRecDepth 100000 in
theorem w_X8_isInReach_2 (l : Launch) {p : Program} {e : Env} {s : State} {m : MethodId} {args : Array Value} {below : List Frame} {meth : Method} {c : Code} {Γ : xG} {N : Nat} {res : xR} (E : xEv p s m args meth c RX8 cX8_isInReach 3 (some .boolean) (xWs yX8_isInReach cX8_isInReach 3 (some .boolean))) : ∀ (n : Nat) (v1 : Int32) (v2 : Int32) (M : xM), L_X8_isInReach_2 N n v1 v2 M = some res → ∀ (H : Heap) (locs : List Loc) (ls : Array Slot), xH Γ (wX Γ) 1483 s M H locs → lv_has ls 3 [(0, .ref (Γ.2.1 1476)), (1, .int v1), (2, .int v2)] → W p l e ({ frames := 1, cells := 0, slots := 0, locals := 40 } : Room) s m args below meth c H locs 0 0 (MQ below (xCi Γ (wX Γ) 1483 res s.heap.size) args s 0 0 (xAd Γ 1483 s.heap.size)) (F0 m 2 ls []) := by
  obtain ⟨⟨hx, hb, hml, hown, hts⟩, hr, hlocks⟩ := id E
  intro n
  induction n with
  | zero => intro v1 v2 M hf; cases hf
  | succ n ih =>
    intro v1 v2 M hf H locs ls h hl
    refine lv_iload_n hx hb dX8_isInReach_2 rfl (lv_at hl 2 rfl) ?_
    refine lv_iconst (v := 3) hx hb dX8_isInReach_3 (by decide) ?_
    refine lv_icmp_ge (tgt := 51) hx hb dX8_isInReach_4 (by decide) (fun c1 => ?_) (fun c1 => ?_)
    · replace hf := xif_t hf c1
      refine lv_iconst (v := 1) hx hb dX8_isInReach_51 (by decide) ?_
      exact x_zret hx hb h (Option.some.inj hf) hr hlocks (by decide) dX8_isInReach_52
    · replace hf := xif_f hf c1
      refine lv_aload_n hx hb dX8_isInReach_7 rfl (lv_at hl 0 rfl) ?_
      refine x_get (own := RX8) (ref := "TintDesk$LeastCorrection") (C := RX8) (T := TX8) (n := 4) (index := 9) (v := .ref (Γ.2.1 1477)) hx hb hts (fun w h => xU_sub w (inU8 w h)) hown h kX_least rfl 0 (by decide) (hts _ (xU_sub _ q119)) (fun _ h9 => h9) rfl dX8_isInReach_8 ?_
      refine lv_iload_n hx hb dX8_isInReach_11 rfl (lv_at hl 2 rfl) ?_
      obtain ⟨c2, hf⟩ := xck_s hf
      refine x_lald hx hb h kX_least_gaps (xin_in c2) dX8_isInReach_12 ?_
      refine lv_aload_n hx hb dX8_isInReach_13 rfl (lv_at hl 0 rfl) ?_
      refine x_get (own := RX8) (ref := "TintDesk$LeastCorrection") (C := RX8) (T := TX8) (n := 4) (index := 15) (v := .int (M.1 1476 1)) hx hb hts (fun w h => xU_sub w (inU8 w h)) hown h kX_least rfl 1 (by decide) (hts _ (xU_sub _ q120)) (fun _ h9 => h9) rfl dX8_isInReach_14 ?_
      refine lv_ineg hx hb dX8_isInReach_17 ?_
      refine lv_i2l (v := ((-(M.1 1476 1))).toInt64) hx hb dX8_isInReach_18 rfl ?_
      refine W.lcmp hx hb dX8_isInReach_19 ?_
      refine lv_if_lt (tgt := 43) hx hb dX8_isInReach_20 (by decide) (fun c3 => ?_) (fun c3 => ?_)
      · replace hf := xif_t hf c3
        refine lv_iconst (v := 0) hx hb dX8_isInReach_43 (by decide) ?_
        exact x_zret hx hb h (Option.some.inj hf) hr hlocks (by decide) dX8_isInReach_44
      · replace hf := xif_f hf c3
        refine lv_aload_n hx hb dX8_isInReach_23 rfl (lv_at hl 0 rfl) ?_
        refine x_get (own := RX8) (ref := "TintDesk$LeastCorrection") (C := RX8) (T := TX8) (n := 4) (index := 9) (v := .ref (Γ.2.1 1477)) hx hb hts (fun w h => xU_sub w (inU8 w h)) hown h kX_least rfl 0 (by decide) (hts _ (xU_sub _ q119)) (fun _ h9 => h9) rfl dX8_isInReach_24 ?_
        refine lv_iload_n hx hb dX8_isInReach_27 rfl (lv_at hl 2 rfl) ?_
        obtain ⟨c4, hf⟩ := xck_s hf
        refine x_lald hx hb h kX_least_gaps (xin_in c4) dX8_isInReach_28 ?_
        refine lv_aload_n hx hb dX8_isInReach_29 rfl (lv_at hl 0 rfl) ?_
        refine x_get (own := RX8) (ref := "TintDesk$LeastCorrection") (C := RX8) (T := TX8) (n := 4) (index := 15) (v := .int (M.1 1476 1)) hx hb hts (fun w h => xU_sub w (inU8 w h)) hown h kX_least rfl 1 (by decide) (hts _ (xU_sub _ q120)) (fun _ h9 => h9) rfl dX8_isInReach_30 ?_
        refine lv_iload_n hx hb dX8_isInReach_33 rfl (lv_at hl 1 rfl) ?_
        refine lv_bipush (v := 9) hx hb dX8_isInReach_34 (by decide) ?_
        refine lv_imul hx hb dX8_isInReach_36 ?_
        refine lv_iadd hx hb dX8_isInReach_37 ?_
        refine lv_i2l (v := (((M.1 1476 1) + (v1 * 9))).toInt64) hx hb dX8_isInReach_38 rfl ?_
        refine W.lcmp hx hb dX8_isInReach_39 ?_
        refine lv_if_le (tgt := 45) hx hb dX8_isInReach_40 (by decide) (fun c5 => ?_) (fun c5 => ?_)
        · replace hf := xif_t hf c5
          obtain ⟨y6, ey6, hf⟩ := xl_s hf
          refine lv_iinc (v := y6) (lv' := [(2, .int y6), (0, .ref (Γ.2.1 1476)), (1, .int v1)]) hx hb dX8_isInReach_45 hl (k := 2) rfl (by rw [ey6]; rfl) (by decide) rfl (fun ls hl => ?_)
          refine lv_goto (tgt := 2) hx hb dX8_isInReach_48 (by decide) ?_
          exact ih v1 y6 M hf _ _ _ h (lv_sub hl [1, 2, 0] rfl)
        · replace hf := xif_f hf c5
          refine lv_iconst (v := 0) hx hb dX8_isInReach_43 (by decide) ?_
          exact x_zret hx hb h (Option.some.inj hf) hr hlocks (by decide) dX8_isInReach_44
set_option maxHeartbeats 4000000 in
set_option maxRecDepth 100000 in
theorem m_X8_isInReach (l : Launch) {Γ : xG} {N : Nat} {v1 : Int32} {M : xM} {res : xR} (hf : F_X8_isInReach N v1 M = some res) (sz : Nat) : Met l yX8_isInReach (xWs yX8_isInReach cX8_isInReach 3 (some .boolean)) ({ frames := 1, cells := 0, slots := 0, locals := 40 } : Room) (va_Pc [.ref (Γ.2.1 1476), .int v1] (xPre Γ (wX Γ) M sz)) (xCi Γ (wX Γ) 1483 res sz) 0 0 (xAd Γ 1483 sz) := by
  refine x_met (Qc := fun sz => xCi Γ (wX Γ) 1483 res sz) pnX8 wG_W (Nat.le_of_ble_eq_true rfl) (fun p e s m args below meth c _ E h ls hl => ?_) sz
  obtain ⟨⟨hx, hb, hml, hown, hts⟩, hr, hlocks⟩ := id E
  have hl : lv_has ls 3 [(0, .ref (Γ.2.1 1476)), (1, .int v1)] := hl
  refine lv_iconst (v := 0) hx hb dX8_isInReach_0 (by decide) ?_
  refine lv_istore_n (lv' := [(2, .int 0), (0, .ref (Γ.2.1 1476)), (1, .int v1)]) hx hb dX8_isInReach_1 rfl hl (by decide) rfl (fun ls hl => ?_)
  exact w_X8_isInReach_2 l E N v1 0 M hf _ _ _ h (lv_sub hl [1, 2, 0] rfl)
theorem hdX8_choose : yX8_choose.cls = RX8 ∧ yX8_choose.cls ≠ "java/lang/invoke/MethodHandle" ∧ yX8_choose.cls ≠ "java/lang/invoke/VarHandle" ∧ (parseMethodDescriptor yX8_choose.desc).map (fun d => d.parameters.length) = some 3 := by decide +kernel
set_option maxHeartbeats 4000000 in
set_option maxRecDepth 100000 in
theorem w_X8_choose_13 (l : Launch) {p : Program} {e : Env} {s : State} {m : MethodId} {args : Array Value} {below : List Frame} {meth : Method} {c : Code} {Γ : xG} {N : Nat} {k1 : Nat} {res : xR} (E : xEv p s m args meth c RX8 cX8_choose 6 none (xWs yX8_choose cX8_choose 6 none)) (h1 : isCo k1) : ∀ (n : Nat) (v2 : Int32) (v3 : Int32) (v4 : Int32) (v5 : Int32) (M : xM), L_X8_choose_13 N k1 n v2 v3 v4 v5 M = some res → ∀ (H : Heap) (locs : List Loc) (ls : Array Slot), xH Γ (wX Γ) 1483 s M H locs → lv_has ls 6 [(0, .ref (Γ.2.1 1476)), (1, .ref (Γ.2.1 k1)), (2, .int v2), (3, .int v3), (4, .int v4), (5, .int v5)] → W p l e ({ frames := 1, cells := 0, slots := 0, locals := 40 } : Room) s m args below meth c H locs 0 0 (MQ below (xCv Γ (wX Γ) 1483 res s.heap.size) args s 0 0 (xAd Γ 1483 s.heap.size)) (F0 m 13 ls []) := by
  obtain ⟨⟨hx, hb, hml, hown, hts⟩, hr, hlocks⟩ := id E
  intro n
  induction n with
  | zero => intro v2 v3 v4 v5 M hf; cases hf
  | succ n ih =>
    intro v2 v3 v4 v5 M hf H locs ls h hl
    refine lv_iload hx hb dX8_choose_13 (lv_at hl 5 rfl) ?_
    refine lv_iconst (v := 3) hx hb dX8_choose_15 (by decide) ?_
    refine lv_icmp_ge (tgt := 47) hx hb dX8_choose_16 (by decide) (fun c1 => ?_) (fun c1 => ?_)
    · replace hf := xif_t hf c1
      refine lv_aload_n hx hb dX8_choose_47 rfl (lv_at hl 0 rfl) ?_
      refine x_get (own := RX8) (ref := "TintDesk$LeastCorrection") (C := RX8) (T := TX8) (n := 4) (index := 22) (v := .ref (Γ.2.1 1478)) hx hb hts (fun w h => xU_sub w (inU8 w h)) hown h kX_least rfl 3 (by decide) (hts _ (xU_sub _ q122)) (fun _ h9 => h9) rfl dX8_choose_48 ?_
      refine lv_iload_n hx hb dX8_choose_51 rfl (lv_at hl 2 rfl) ?_
      refine lv_iload_n hx hb dX8_choose_52 rfl (lv_at hl 3 rfl) ?_
      obtain ⟨c2, hf⟩ := xck_s hf
      obtain ⟨M3, eM3, hf⟩ := xl_s hf
      refine x_iast hx hb h kX_least_chosen (xin_in c2) eM3 dX8_choose_53 (fun H locs h => ?_)
      exact x_vret hx hb h (Option.some.inj hf) hr hlocks dX8_choose_54
    · replace hf := xif_f hf c1
      refine lv_aload_n hx hb dX8_choose_19 rfl (lv_at hl 0 rfl) ?_
      refine x_get (own := RX8) (ref := "TintDesk$LeastCorrection") (C := RX8) (T := TX8) (n := 4) (index := 9) (v := .ref (Γ.2.1 1477)) hx hb hts (fun w h => xU_sub w (inU8 w h)) hown h kX_least rfl 0 (by decide) (hts _ (xU_sub _ q119)) (fun _ h9 => h9) rfl dX8_choose_20 ?_
      refine lv_iload hx hb dX8_choose_23 (lv_at hl 5 rfl) ?_
      refine lv_dup2_11 hx hb dX8_choose_25 rfl rfl ?_
      obtain ⟨c4, hf⟩ := xck_s hf
      refine x_lald hx hb h kX_least_gaps (xin_in c4) dX8_choose_26 ?_
      refine lv_aload_n hx hb dX8_choose_27 rfl (lv_at hl 1 rfl) ?_
      refine x_get (own := RX8) (ref := "TintDesk$Colorant") (C := RX2) (T := TX2) (n := 10) (index := 59) (v := .ref (Γ.2.1 (k1 + 1))) hx hb hts (fun w h => xU_sub w (inU2 w h)) hown h (kX_colorant h1) rfl 0 (by decide) (hts _ (xU_sub _ q852)) (fun _ h9 => h9) rfl dX8_choose_28 ?_
      refine lv_iload hx hb dX8_choose_31 (lv_at hl 5 rfl) ?_
      obtain ⟨c5, hf⟩ := xck_s hf
      refine x_iald hx hb h (kX_colorant_values h1) (xin_in c5) dX8_choose_33 ?_
      refine lv_i2l (v := ((M.1 (k1 + 1) v5.toNatClampNeg)).toInt64) hx hb dX8_choose_34 rfl ?_
      refine lv_iload hx hb dX8_choose_35 (lv_at hl 4 rfl) ?_
      refine lv_i2l (v := (v4).toInt64) hx hb dX8_choose_37 rfl ?_
      refine lv_lmul hx hb dX8_choose_38 ?_
      refine lv_lsub hx hb dX8_choose_39 ?_
      obtain ⟨c6, hf⟩ := xck_s hf
      obtain ⟨M7, eM7, hf⟩ := xl_s hf
      refine x_last hx hb h kX_least_gaps (xin_in c6) eM7 dX8_choose_40 (fun H locs h => ?_)
      obtain ⟨y8, ey8, hf⟩ := xl_s hf
      refine lv_iinc (v := y8) (lv' := [(5, .int y8), (0, .ref (Γ.2.1 1476)), (1, .ref (Γ.2.1 k1)), (2, .int v2), (3, .int v3), (4, .int v4)]) hx hb dX8_choose_41 hl (k := 5) rfl (by rw [ey8]; rfl) (by decide) rfl (fun ls hl => ?_)
      refine lv_goto (tgt := 13) hx hb dX8_choose_44 (by decide) ?_
      exact ih v2 v3 v4 y8 M7 hf _ _ _ h (lv_sub hl [1, 2, 3, 4, 5, 0] rfl)
set_option maxHeartbeats 4000000 in
set_option maxRecDepth 100000 in
theorem m_X8_choose (l : Launch) {Γ : xG} {N : Nat} {k1 : Nat} (h1 : isCo k1) {v2 : Int32} {v3 : Int32} {M : xM} {res : xR} (hf : F_X8_choose N k1 v2 v3 M = some res) (sz : Nat) : Met l yX8_choose (xWs yX8_choose cX8_choose 6 none) ({ frames := 1, cells := 0, slots := 0, locals := 40 } : Room) (va_Pc [.ref (Γ.2.1 1476), .ref (Γ.2.1 k1), .int v2, .int v3] (xPre Γ (wX Γ) M sz)) (xCv Γ (wX Γ) 1483 res sz) 0 0 (xAd Γ 1483 sz) := by
  refine x_met (Qc := fun sz => xCv Γ (wX Γ) 1483 res sz) pnX8 wG_W (Nat.le_of_ble_eq_true rfl) (fun p e s m args below meth c _ E h ls hl => ?_) sz
  obtain ⟨⟨hx, hb, hml, hown, hts⟩, hr, hlocks⟩ := id E
  have hl : lv_has ls 6 [(0, .ref (Γ.2.1 1476)), (1, .ref (Γ.2.1 k1)), (2, .int v2), (3, .int v3)] := hl
  refine lv_iload_n hx hb dX8_choose_0 rfl (lv_at hl 3 rfl) ?_
  refine lv_aload_n hx hb dX8_choose_1 rfl (lv_at hl 0 rfl) ?_
  refine x_get (own := RX8) (ref := "TintDesk$LeastCorrection") (C := RX8) (T := TX8) (n := 4) (index := 22) (v := .ref (Γ.2.1 1478)) hx hb hts (fun w h => xU_sub w (inU8 w h)) hown h kX_least rfl 3 (by decide) (hts _ (xU_sub _ q122)) (fun _ h9 => h9) rfl dX8_choose_2 ?_
  refine lv_iload_n hx hb dX8_choose_5 rfl (lv_at hl 2 rfl) ?_
  obtain ⟨c1, hf⟩ := xck_s hf
  refine x_iald hx hb h kX_least_chosen (xin_in c1) dX8_choose_6 ?_
  refine lv_isub hx hb dX8_choose_7 ?_
  obtain ⟨y2, ey2, hf⟩ := xl_s hf
  refine x_nm ey2 ?_
  refine lv_istore (lv' := [(4, .int y2), (0, .ref (Γ.2.1 1476)), (1, .ref (Γ.2.1 k1)), (2, .int v2), (3, .int v3)]) hx hb dX8_choose_8 hl (by decide) rfl (fun ls hl => ?_)
  refine lv_iconst (v := 0) hx hb dX8_choose_10 (by decide) ?_
  refine lv_istore (lv' := [(5, .int 0), (4, .int y2), (0, .ref (Γ.2.1 1476)), (1, .ref (Γ.2.1 k1)), (2, .int v2), (3, .int v3)]) hx hb dX8_choose_11 hl (by decide) rfl (fun ls hl => ?_)
  exact w_X8_choose_13 l E h1 N v2 v3 y2 0 M hf _ _ _ h (lv_sub hl [2, 3, 4, 5, 1, 0] rfl)
theorem hdX8_reaches0 : yX8_reaches.cls = RX8 ∧ yX8_reaches.cls ≠ "java/lang/invoke/MethodHandle" ∧ yX8_reaches.cls ≠ "java/lang/invoke/VarHandle" ∧ (parseMethodDescriptor yX8_reaches.desc).map (fun d => d.parameters.length) = some 4 := by decide +kernel
set_option maxHeartbeats 4000000 in
set_option maxRecDepth 100000 in
theorem w_X8_reaches0_45 (l : Launch) {p : Program} {e : Env} {s : State} {m : MethodId} {args : Array Value} {below : List Frame} {meth : Method} {c : Code} {Γ : xG} {N : Nat} {k1 : Nat} {k4 : Nat} {res : xR} (E : xEv p s m args meth c RX8 cX8_reaches 6 (some .boolean) (xWs yX8_reaches cX8_reaches 6 (some .boolean))) (h1 : isDk k1) (h4 : isCo k4) : ∀ (n : Nat) (v2 : Int32) (v3 : Int32) (v5 : Int32) (M : xM), L_X8_reaches0_45 N k1 k4 n v2 v3 v5 M = some res → ∀ (H : Heap) (locs : List Loc) (ls : Array Slot), xH Γ (wX Γ) 1483 s M H locs → lv_has ls 6 [(0, .ref (Γ.2.1 1476)), (1, .ref (Γ.2.1 k1)), (2, .int v2), (3, .int v3), (4, .ref (Γ.2.1 k4)), (5, .int v5)] → W p l e ({ frames := 2, cells := 0, slots := 0, locals := 65 } : Room) s m args below meth c H locs 0 0 (MQ below (xCi Γ (wX Γ) 1483 res s.heap.size) args s 0 0 (xAd Γ 1483 s.heap.size)) (F0 m 45 ls []) := by
  obtain ⟨⟨hx, hb, hml, hown, hts⟩, hr, hlocks⟩ := id E
  intro n
  induction n with
  | zero => intro v2 v3 v5 M hf; cases hf
  | succ n ih =>
    intro v2 v3 v5 M hf H locs ls h hl
    refine lv_iload hx hb dX8_reaches_45 (lv_at hl 5 rfl) ?_
    refine lv_if_lt (tgt := 82) hx hb dX8_reaches_47 (by decide) (fun c1 => ?_) (fun c1 => ?_)
    · replace hf := xif_t hf c1
      refine lv_iconst (v := 0) hx hb dX8_reaches_82 (by decide) ?_
      exact x_zret hx hb h (Option.some.inj hf) hr hlocks (by decide) dX8_reaches_83
    · replace hf := xif_f hf c1
      refine lv_aload_n hx hb dX8_reaches_50 rfl (lv_at hl 0 rfl) ?_
      refine lv_aload hx hb dX8_reaches_51 (lv_at hl 4 rfl) ?_
      refine lv_iload_n hx hb dX8_reaches_53 rfl (lv_at hl 2 rfl) ?_
      refine lv_iload hx hb dX8_reaches_54 (lv_at hl 5 rfl) ?_
      obtain ⟨r2, er2, hf⟩ := xbd_s hf
      refine x_Vv (As := [.ref (Γ.2.1 k4), .int v2, .int v5]) (rest := []) E.1 (m_X8_choose l h4 er2) (cwV 3 hts (xgV xU_sub q848 q849 q850 q32 q851) rfl rfl rfl hdX8_choose ⟨Nat.le_of_ble_eq_true rfl, Nat.le_of_ble_eq_true rfl⟩) h kX_least rfl rfl hl.1 rfl (Nat.le_of_ble_eq_true rfl) dX8_reaches_56 ⟨Nat.le_of_ble_eq_true rfl, Nat.le_of_ble_eq_true rfl⟩ (fun H locs h => ?_)
      refine lv_aload_n hx hb dX8_reaches_59 rfl (lv_at hl 0 rfl) ?_
      refine lv_aload_n hx hb dX8_reaches_60 rfl (lv_at hl 1 rfl) ?_
      refine lv_iload_n hx hb dX8_reaches_61 rfl (lv_at hl 2 rfl) ?_
      refine lv_iconst (v := 1) hx hb dX8_reaches_62 (by decide) ?_
      refine lv_iadd hx hb dX8_reaches_63 ?_
      refine lv_iload_n hx hb dX8_reaches_64 rfl (lv_at hl 3 rfl) ?_
      refine lv_iload hx hb dX8_reaches_65 (lv_at hl 5 rfl) ?_
      refine lv_isub hx hb dX8_reaches_67 ?_
      cases hf
set_option maxHeartbeats 4000000 in
set_option maxRecDepth 100000 in
theorem m_X8_reaches0 (l : Launch) {Γ : xG} {N : Nat} {k1 : Nat} (h1 : isDk k1) {v2 : Int32} {v3 : Int32} {M : xM} {res : xR} (hf : F_X8_reaches0 N k1 v2 v3 M = some res) (sz : Nat) : Met l yX8_reaches (xWs yX8_reaches cX8_reaches 6 (some .boolean)) ({ frames := 2, cells := 0, slots := 0, locals := 65 } : Room) (va_Pc [.ref (Γ.2.1 1476), .ref (Γ.2.1 k1), .int v2, .int v3] (xPre Γ (wX Γ) M sz)) (xCi Γ (wX Γ) 1483 res sz) 0 0 (xAd Γ 1483 sz) := by
  refine x_met (Qc := fun sz => xCi Γ (wX Γ) 1483 res sz) pnX8 wG_W (Nat.le_of_ble_eq_true rfl) (fun p e s m args below meth c _ E h ls hl => ?_) sz
  obtain ⟨⟨hx, hb, hml, hown, hts⟩, hr, hlocks⟩ := id E
  have hl : lv_has ls 6 [(0, .ref (Γ.2.1 1476)), (1, .ref (Γ.2.1 k1)), (2, .int v2), (3, .int v3)] := hl
  refine lv_aload_n hx hb dX8_reaches_0 rfl (lv_at hl 0 rfl) ?_
  refine lv_iload_n hx hb dX8_reaches_1 rfl (lv_at hl 3 rfl) ?_
  obtain ⟨r1, er1, hf⟩ := xbd_s hf
  refine x_Vi (As := [.int v3]) (rest := []) E.1 (m_X8_isInReach l er1) (cwV 1 hts (xgV xU_sub q843 q844 q845 q32 q846) rfl rfl rfl hdX8_isInReach ⟨Nat.le_of_ble_eq_true rfl, Nat.le_of_ble_eq_true rfl⟩) h kX_least rfl rfl hl.1 rfl (Nat.le_of_ble_eq_true rfl) dX8_reaches_2 ⟨Nat.le_of_ble_eq_true rfl, Nat.le_of_ble_eq_true rfl⟩ (fun H locs h => ?_)
  refine lv_if_ne (tgt := 10) hx hb dX8_reaches_5 (by decide) (fun c2 => ?_) (fun c2 => ?_)
  · replace hf := xif_f hf c2
    refine lv_iload_n hx hb dX8_reaches_10 rfl (lv_at hl 3 rfl) ?_
    refine lv_if_ne (tgt := 16) hx hb dX8_reaches_11 (by decide) (fun c3 => ?_) (fun c3 => ?_)
    · replace hf := xif_f hf c3
      refine lv_iload_n hx hb dX8_reaches_16 rfl (lv_at hl 2 rfl) ?_
      refine lv_aload_n hx hb dX8_reaches_17 rfl (lv_at hl 1 rfl) ?_
      refine x_get (own := RX8) (ref := "TintDesk$Desk") (C := RX3) (T := TX3) (n := 9) (index := 40) (v := .int (r1.1.1 k1 4)) hx hb hts (fun w h => xU_sub w (inU3 w h)) hown h (kX_desk h1) rfl 4 (by decide) (hts _ (xU_sub _ q841)) (fun _ h9 => h9) rfl dX8_reaches_18 ?_
      refine lv_icmp_lt (tgt := 26) hx hb dX8_reaches_21 (by decide) (fun c4 => ?_) (fun c4 => ?_)
      · replace hf := xif_t hf c4
        refine lv_aload_n hx hb dX8_reaches_26 rfl (lv_at hl 1 rfl) ?_
        refine x_get (own := RX8) (ref := "TintDesk$Desk") (C := RX3) (T := TX3) (n := 9) (index := 45) (v := .ref (Γ.2.1 (k1 + 1))) hx hb hts (fun w h => xU_sub w (inU3 w h)) hown h (kX_desk h1) rfl 0 (by decide) (hts _ (xU_sub _ q842)) (fun _ h9 => h9) rfl dX8_reaches_27 ?_
        refine lv_iload_n hx hb dX8_reaches_30 rfl (lv_at hl 2 rfl) ?_
        obtain ⟨c5, hf⟩ := xck_s hf
        refine x_aald (C := "TintDesk$Colorant") hx hb h rfl (kX_desk_colorants h1) c5 dX8_reaches_31 ?_
        refine lv_astore (lv' := [(4, .ref (Γ.2.1 (k1 + 5 + 5 * v2.toNatClampNeg))), (0, .ref (Γ.2.1 1476)), (1, .ref (Γ.2.1 k1)), (2, .int v2), (3, .int v3)]) hx hb dX8_reaches_32 hl (by decide) rfl (fun ls hl => ?_)
        refine lv_iload_n hx hb dX8_reaches_34 rfl (lv_at hl 4 rfl) ?_
        refine lv_aload hx hb dX8_reaches_35 (lv_at hl 0 rfl) ?_
        obtain ⟨r6, er6, hf⟩ := xbd_s hf
        refine x_Vi (As := []) (rest := [.int v3]) E.1 (m_X2_stepsInside l (isCo_of h1 c5) er6) (cwV 0 hts (xgV xU_sub q847 q278 q279 q56 q280) rfl rfl rfl hdX2_stepsInside ⟨Nat.le_of_ble_eq_true rfl, Nat.le_of_ble_eq_true rfl⟩) h (kX_colorant (isCo_of h1 c5)) rfl rfl hl.1 rfl (Nat.le_of_ble_eq_true rfl) dX8_reaches_37 ⟨Nat.le_of_ble_eq_true rfl, Nat.le_of_ble_eq_true rfl⟩ (fun H locs h => ?_)
        refine va_mmin hx hb (hml.trans hl.1.symm) hown (hts _ (xU_sub _ q837)) (hts _ (xU_sub _ q165)) (hts _ (xU_sub _ q166)) (hts _ (xU_sub _ q167)) (Nat.le_of_ble_eq_true rfl) (Nat.le_of_ble_eq_true rfl) (Nat.le_of_ble_eq_true rfl) (Nat.le_of_ble_eq_true rfl) dX8_reaches_40 ?_
        obtain ⟨y7, ey7, hf⟩ := xl_s hf
        refine x_nm ey7 ?_
        refine lv_istore (lv' := [(5, .int y7), (4, .ref (Γ.2.1 (k1 + 5 + 5 * v2.toNatClampNeg))), (0, .ref (Γ.2.1 1476)), (1, .ref (Γ.2.1 k1)), (2, .int v2), (3, .int v3)]) hx hb dX8_reaches_43 hl (by decide) rfl (fun ls hl => ?_)
        exact w_X8_reaches0_45 l E h1 (isCo_of h1 c5) N v2 v3 y7 r6.1 hf _ _ _ h (lv_sub hl [2, 3, 4, 5, 1, 0] rfl)
      · replace hf := xif_f hf c4
        refine lv_iconst (v := 0) hx hb dX8_reaches_24 (by decide) ?_
        exact x_zret hx hb h (Option.some.inj hf) hr hlocks (by decide) dX8_reaches_25
    · replace hf := xif_t hf c3
      refine lv_iconst (v := 1) hx hb dX8_reaches_14 (by decide) ?_
      exact x_zret hx hb h (Option.some.inj hf) hr hlocks (by decide) dX8_reaches_15
  · replace hf := xif_t hf c2
    refine lv_iconst (v := 0) hx hb dX8_reaches_8 (by decide) ?_
    exact x_zret hx hb h (Option.some.inj hf) hr hlocks (by decide) dX8_reaches_9
theorem hdX8_reaches1 : yX8_reaches.cls = RX8 ∧ yX8_reaches.cls ≠ "java/lang/invoke/MethodHandle" ∧ yX8_reaches.cls ≠ "java/lang/invoke/VarHandle" ∧ (parseMethodDescriptor yX8_reaches.desc).map (fun d => d.parameters.length) = some 4 := by decide +kernel
set_option maxHeartbeats 4000000 in
set_option maxRecDepth 100000 in
theorem w_X8_reaches1_45 (l : Launch) {p : Program} {e : Env} {s : State} {m : MethodId} {args : Array Value} {below : List Frame} {meth : Method} {c : Code} {Γ : xG} {N : Nat} {k1 : Nat} {k4 : Nat} {res : xR} (E : xEv p s m args meth c RX8 cX8_reaches 6 (some .boolean) (xWs yX8_reaches cX8_reaches 6 (some .boolean))) (h1 : isDk k1) (h4 : isCo k4) : ∀ (n : Nat) (v2 : Int32) (v3 : Int32) (v5 : Int32) (M : xM), L_X8_reaches1_45 N k1 k4 n v2 v3 v5 M = some res → ∀ (H : Heap) (locs : List Loc) (ls : Array Slot), xH Γ (wX Γ) 1483 s M H locs → lv_has ls 6 [(0, .ref (Γ.2.1 1476)), (1, .ref (Γ.2.1 k1)), (2, .int v2), (3, .int v3), (4, .ref (Γ.2.1 k4)), (5, .int v5)] → W p l e ({ frames := 3, cells := 0, slots := 0, locals := 90 } : Room) s m args below meth c H locs 0 0 (MQ below (xCi Γ (wX Γ) 1483 res s.heap.size) args s 0 0 (xAd Γ 1483 s.heap.size)) (F0 m 45 ls []) := by
  obtain ⟨⟨hx, hb, hml, hown, hts⟩, hr, hlocks⟩ := id E
  intro n
  induction n with
  | zero => intro v2 v3 v5 M hf; cases hf
  | succ n ih =>
    intro v2 v3 v5 M hf H locs ls h hl
    refine lv_iload hx hb dX8_reaches_45 (lv_at hl 5 rfl) ?_
    refine lv_if_lt (tgt := 82) hx hb dX8_reaches_47 (by decide) (fun c1 => ?_) (fun c1 => ?_)
    · replace hf := xif_t hf c1
      refine lv_iconst (v := 0) hx hb dX8_reaches_82 (by decide) ?_
      exact x_zret hx hb h (Option.some.inj hf) hr hlocks (by decide) dX8_reaches_83
    · replace hf := xif_f hf c1
      refine lv_aload_n hx hb dX8_reaches_50 rfl (lv_at hl 0 rfl) ?_
      refine lv_aload hx hb dX8_reaches_51 (lv_at hl 4 rfl) ?_
      refine lv_iload_n hx hb dX8_reaches_53 rfl (lv_at hl 2 rfl) ?_
      refine lv_iload hx hb dX8_reaches_54 (lv_at hl 5 rfl) ?_
      obtain ⟨r2, er2, hf⟩ := xbd_s hf
      refine x_Vv (As := [.ref (Γ.2.1 k4), .int v2, .int v5]) (rest := []) E.1 (m_X8_choose l h4 er2) (cwV 3 hts (xgV xU_sub q848 q849 q850 q32 q851) rfl rfl rfl hdX8_choose ⟨Nat.le_of_ble_eq_true rfl, Nat.le_of_ble_eq_true rfl⟩) h kX_least rfl rfl hl.1 rfl (Nat.le_of_ble_eq_true rfl) dX8_reaches_56 ⟨Nat.le_of_ble_eq_true rfl, Nat.le_of_ble_eq_true rfl⟩ (fun H locs h => ?_)
      refine lv_aload_n hx hb dX8_reaches_59 rfl (lv_at hl 0 rfl) ?_
      refine lv_aload_n hx hb dX8_reaches_60 rfl (lv_at hl 1 rfl) ?_
      refine lv_iload_n hx hb dX8_reaches_61 rfl (lv_at hl 2 rfl) ?_
      refine lv_iconst (v := 1) hx hb dX8_reaches_62 (by decide) ?_
      refine lv_iadd hx hb dX8_reaches_63 ?_
      refine lv_iload_n hx hb dX8_reaches_64 rfl (lv_at hl 3 rfl) ?_
      refine lv_iload hx hb dX8_reaches_65 (lv_at hl 5 rfl) ?_
      refine lv_isub hx hb dX8_reaches_67 ?_
      obtain ⟨r3, er3, hf⟩ := xbd_s hf
      refine x_Si (As := [.ref (Γ.2.1 1476), .ref (Γ.2.1 k1), .int (v2 + 1), .int (v3 - v5)]) (rest := []) E.1 (m_X8_reaches0 l h1 er3) (cwS 4 hts (xgS xU_sub q838 q839 q32 q840) rfl rfl rfl hdX8_reaches0 ⟨Nat.le_of_ble_eq_true rfl, Nat.le_of_ble_eq_true rfl⟩) h rfl hl.1 rfl (Nat.le_of_ble_eq_true rfl) dX8_reaches_68 ⟨Nat.le_of_ble_eq_true rfl, Nat.le_of_ble_eq_true rfl⟩ (fun H locs h => ?_)
      refine lv_if_eq (tgt := 76) hx hb dX8_reaches_71 (by decide) (fun c4 => ?_) (fun c4 => ?_)
      · replace hf := xif_t hf c4
        obtain ⟨y5, ey5, hf⟩ := xl_s hf
        refine lv_iinc (v := y5) (lv' := [(5, .int y5), (0, .ref (Γ.2.1 1476)), (1, .ref (Γ.2.1 k1)), (2, .int v2), (3, .int v3), (4, .ref (Γ.2.1 k4))]) hx hb dX8_reaches_76 hl (k := 5) rfl (by rw [ey5]; rfl) (by decide) rfl (fun ls hl => ?_)
        refine lv_goto (tgt := 45) hx hb dX8_reaches_79 (by decide) ?_
        exact ih v2 v3 y5 r3.1 hf _ _ _ h (lv_sub hl [1, 2, 3, 4, 5, 0] rfl)
      · replace hf := xif_f hf c4
        refine lv_iconst (v := 1) hx hb dX8_reaches_74 (by decide) ?_
        exact x_zret hx hb h (Option.some.inj hf) hr hlocks (by decide) dX8_reaches_75
set_option maxHeartbeats 4000000 in
set_option maxRecDepth 100000 in
theorem m_X8_reaches1 (l : Launch) {Γ : xG} {N : Nat} {k1 : Nat} (h1 : isDk k1) {v2 : Int32} {v3 : Int32} {M : xM} {res : xR} (hf : F_X8_reaches1 N k1 v2 v3 M = some res) (sz : Nat) : Met l yX8_reaches (xWs yX8_reaches cX8_reaches 6 (some .boolean)) ({ frames := 3, cells := 0, slots := 0, locals := 90 } : Room) (va_Pc [.ref (Γ.2.1 1476), .ref (Γ.2.1 k1), .int v2, .int v3] (xPre Γ (wX Γ) M sz)) (xCi Γ (wX Γ) 1483 res sz) 0 0 (xAd Γ 1483 sz) := by
  refine x_met (Qc := fun sz => xCi Γ (wX Γ) 1483 res sz) pnX8 wG_W (Nat.le_of_ble_eq_true rfl) (fun p e s m args below meth c _ E h ls hl => ?_) sz
  obtain ⟨⟨hx, hb, hml, hown, hts⟩, hr, hlocks⟩ := id E
  have hl : lv_has ls 6 [(0, .ref (Γ.2.1 1476)), (1, .ref (Γ.2.1 k1)), (2, .int v2), (3, .int v3)] := hl
  refine lv_aload_n hx hb dX8_reaches_0 rfl (lv_at hl 0 rfl) ?_
  refine lv_iload_n hx hb dX8_reaches_1 rfl (lv_at hl 3 rfl) ?_
  obtain ⟨r1, er1, hf⟩ := xbd_s hf
  refine x_Vi (As := [.int v3]) (rest := []) E.1 (m_X8_isInReach l er1) (cwV 1 hts (xgV xU_sub q843 q844 q845 q32 q846) rfl rfl rfl hdX8_isInReach ⟨Nat.le_of_ble_eq_true rfl, Nat.le_of_ble_eq_true rfl⟩) h kX_least rfl rfl hl.1 rfl (Nat.le_of_ble_eq_true rfl) dX8_reaches_2 ⟨Nat.le_of_ble_eq_true rfl, Nat.le_of_ble_eq_true rfl⟩ (fun H locs h => ?_)
  refine lv_if_ne (tgt := 10) hx hb dX8_reaches_5 (by decide) (fun c2 => ?_) (fun c2 => ?_)
  · replace hf := xif_f hf c2
    refine lv_iload_n hx hb dX8_reaches_10 rfl (lv_at hl 3 rfl) ?_
    refine lv_if_ne (tgt := 16) hx hb dX8_reaches_11 (by decide) (fun c3 => ?_) (fun c3 => ?_)
    · replace hf := xif_f hf c3
      refine lv_iload_n hx hb dX8_reaches_16 rfl (lv_at hl 2 rfl) ?_
      refine lv_aload_n hx hb dX8_reaches_17 rfl (lv_at hl 1 rfl) ?_
      refine x_get (own := RX8) (ref := "TintDesk$Desk") (C := RX3) (T := TX3) (n := 9) (index := 40) (v := .int (r1.1.1 k1 4)) hx hb hts (fun w h => xU_sub w (inU3 w h)) hown h (kX_desk h1) rfl 4 (by decide) (hts _ (xU_sub _ q841)) (fun _ h9 => h9) rfl dX8_reaches_18 ?_
      refine lv_icmp_lt (tgt := 26) hx hb dX8_reaches_21 (by decide) (fun c4 => ?_) (fun c4 => ?_)
      · replace hf := xif_t hf c4
        refine lv_aload_n hx hb dX8_reaches_26 rfl (lv_at hl 1 rfl) ?_
        refine x_get (own := RX8) (ref := "TintDesk$Desk") (C := RX3) (T := TX3) (n := 9) (index := 45) (v := .ref (Γ.2.1 (k1 + 1))) hx hb hts (fun w h => xU_sub w (inU3 w h)) hown h (kX_desk h1) rfl 0 (by decide) (hts _ (xU_sub _ q842)) (fun _ h9 => h9) rfl dX8_reaches_27 ?_
        refine lv_iload_n hx hb dX8_reaches_30 rfl (lv_at hl 2 rfl) ?_
        obtain ⟨c5, hf⟩ := xck_s hf
        refine x_aald (C := "TintDesk$Colorant") hx hb h rfl (kX_desk_colorants h1) c5 dX8_reaches_31 ?_
        refine lv_astore (lv' := [(4, .ref (Γ.2.1 (k1 + 5 + 5 * v2.toNatClampNeg))), (0, .ref (Γ.2.1 1476)), (1, .ref (Γ.2.1 k1)), (2, .int v2), (3, .int v3)]) hx hb dX8_reaches_32 hl (by decide) rfl (fun ls hl => ?_)
        refine lv_iload_n hx hb dX8_reaches_34 rfl (lv_at hl 4 rfl) ?_
        refine lv_aload hx hb dX8_reaches_35 (lv_at hl 0 rfl) ?_
        obtain ⟨r6, er6, hf⟩ := xbd_s hf
        refine x_Vi (As := []) (rest := [.int v3]) E.1 (m_X2_stepsInside l (isCo_of h1 c5) er6) (cwV 0 hts (xgV xU_sub q847 q278 q279 q56 q280) rfl rfl rfl hdX2_stepsInside ⟨Nat.le_of_ble_eq_true rfl, Nat.le_of_ble_eq_true rfl⟩) h (kX_colorant (isCo_of h1 c5)) rfl rfl hl.1 rfl (Nat.le_of_ble_eq_true rfl) dX8_reaches_37 ⟨Nat.le_of_ble_eq_true rfl, Nat.le_of_ble_eq_true rfl⟩ (fun H locs h => ?_)
        refine va_mmin hx hb (hml.trans hl.1.symm) hown (hts _ (xU_sub _ q837)) (hts _ (xU_sub _ q165)) (hts _ (xU_sub _ q166)) (hts _ (xU_sub _ q167)) (Nat.le_of_ble_eq_true rfl) (Nat.le_of_ble_eq_true rfl) (Nat.le_of_ble_eq_true rfl) (Nat.le_of_ble_eq_true rfl) dX8_reaches_40 ?_
        obtain ⟨y7, ey7, hf⟩ := xl_s hf
        refine x_nm ey7 ?_
        refine lv_istore (lv' := [(5, .int y7), (4, .ref (Γ.2.1 (k1 + 5 + 5 * v2.toNatClampNeg))), (0, .ref (Γ.2.1 1476)), (1, .ref (Γ.2.1 k1)), (2, .int v2), (3, .int v3)]) hx hb dX8_reaches_43 hl (by decide) rfl (fun ls hl => ?_)
        exact w_X8_reaches1_45 l E h1 (isCo_of h1 c5) N v2 v3 y7 r6.1 hf _ _ _ h (lv_sub hl [2, 3, 4, 5, 1, 0] rfl)
      · replace hf := xif_f hf c4
        refine lv_iconst (v := 0) hx hb dX8_reaches_24 (by decide) ?_
        exact x_zret hx hb h (Option.some.inj hf) hr hlocks (by decide) dX8_reaches_25
    · replace hf := xif_t hf c3
      refine lv_iconst (v := 1) hx hb dX8_reaches_14 (by decide) ?_
      exact x_zret hx hb h (Option.some.inj hf) hr hlocks (by decide) dX8_reaches_15
  · replace hf := xif_t hf c2
    refine lv_iconst (v := 0) hx hb dX8_reaches_8 (by decide) ?_
    exact x_zret hx hb h (Option.some.inj hf) hr hlocks (by decide) dX8_reaches_9
theorem hdX8_reaches2 : yX8_reaches.cls = RX8 ∧ yX8_reaches.cls ≠ "java/lang/invoke/MethodHandle" ∧ yX8_reaches.cls ≠ "java/lang/invoke/VarHandle" ∧ (parseMethodDescriptor yX8_reaches.desc).map (fun d => d.parameters.length) = some 4 := by decide +kernel
set_option maxHeartbeats 4000000 in
set_option maxRecDepth 100000 in
theorem w_X8_reaches2_45 (l : Launch) {p : Program} {e : Env} {s : State} {m : MethodId} {args : Array Value} {below : List Frame} {meth : Method} {c : Code} {Γ : xG} {N : Nat} {k1 : Nat} {k4 : Nat} {res : xR} (E : xEv p s m args meth c RX8 cX8_reaches 6 (some .boolean) (xWs yX8_reaches cX8_reaches 6 (some .boolean))) (h1 : isDk k1) (h4 : isCo k4) : ∀ (n : Nat) (v2 : Int32) (v3 : Int32) (v5 : Int32) (M : xM), L_X8_reaches2_45 N k1 k4 n v2 v3 v5 M = some res → ∀ (H : Heap) (locs : List Loc) (ls : Array Slot), xH Γ (wX Γ) 1483 s M H locs → lv_has ls 6 [(0, .ref (Γ.2.1 1476)), (1, .ref (Γ.2.1 k1)), (2, .int v2), (3, .int v3), (4, .ref (Γ.2.1 k4)), (5, .int v5)] → W p l e ({ frames := 4, cells := 0, slots := 0, locals := 115 } : Room) s m args below meth c H locs 0 0 (MQ below (xCi Γ (wX Γ) 1483 res s.heap.size) args s 0 0 (xAd Γ 1483 s.heap.size)) (F0 m 45 ls []) := by
  obtain ⟨⟨hx, hb, hml, hown, hts⟩, hr, hlocks⟩ := id E
  intro n
  induction n with
  | zero => intro v2 v3 v5 M hf; cases hf
  | succ n ih =>
    intro v2 v3 v5 M hf H locs ls h hl
    refine lv_iload hx hb dX8_reaches_45 (lv_at hl 5 rfl) ?_
    refine lv_if_lt (tgt := 82) hx hb dX8_reaches_47 (by decide) (fun c1 => ?_) (fun c1 => ?_)
    · replace hf := xif_t hf c1
      refine lv_iconst (v := 0) hx hb dX8_reaches_82 (by decide) ?_
      exact x_zret hx hb h (Option.some.inj hf) hr hlocks (by decide) dX8_reaches_83
    · replace hf := xif_f hf c1
      refine lv_aload_n hx hb dX8_reaches_50 rfl (lv_at hl 0 rfl) ?_
      refine lv_aload hx hb dX8_reaches_51 (lv_at hl 4 rfl) ?_
      refine lv_iload_n hx hb dX8_reaches_53 rfl (lv_at hl 2 rfl) ?_
      refine lv_iload hx hb dX8_reaches_54 (lv_at hl 5 rfl) ?_
      obtain ⟨r2, er2, hf⟩ := xbd_s hf
      refine x_Vv (As := [.ref (Γ.2.1 k4), .int v2, .int v5]) (rest := []) E.1 (m_X8_choose l h4 er2) (cwV 3 hts (xgV xU_sub q848 q849 q850 q32 q851) rfl rfl rfl hdX8_choose ⟨Nat.le_of_ble_eq_true rfl, Nat.le_of_ble_eq_true rfl⟩) h kX_least rfl rfl hl.1 rfl (Nat.le_of_ble_eq_true rfl) dX8_reaches_56 ⟨Nat.le_of_ble_eq_true rfl, Nat.le_of_ble_eq_true rfl⟩ (fun H locs h => ?_)
      refine lv_aload_n hx hb dX8_reaches_59 rfl (lv_at hl 0 rfl) ?_
      refine lv_aload_n hx hb dX8_reaches_60 rfl (lv_at hl 1 rfl) ?_
      refine lv_iload_n hx hb dX8_reaches_61 rfl (lv_at hl 2 rfl) ?_
      refine lv_iconst (v := 1) hx hb dX8_reaches_62 (by decide) ?_
      refine lv_iadd hx hb dX8_reaches_63 ?_
      refine lv_iload_n hx hb dX8_reaches_64 rfl (lv_at hl 3 rfl) ?_
      refine lv_iload hx hb dX8_reaches_65 (lv_at hl 5 rfl) ?_
      refine lv_isub hx hb dX8_reaches_67 ?_
      obtain ⟨r3, er3, hf⟩ := xbd_s hf
      refine x_Si (As := [.ref (Γ.2.1 1476), .ref (Γ.2.1 k1), .int (v2 + 1), .int (v3 - v5)]) (rest := []) E.1 (m_X8_reaches1 l h1 er3) (cwS 4 hts (xgS xU_sub q838 q839 q32 q840) rfl rfl rfl hdX8_reaches1 ⟨Nat.le_of_ble_eq_true rfl, Nat.le_of_ble_eq_true rfl⟩) h rfl hl.1 rfl (Nat.le_of_ble_eq_true rfl) dX8_reaches_68 ⟨Nat.le_of_ble_eq_true rfl, Nat.le_of_ble_eq_true rfl⟩ (fun H locs h => ?_)
      refine lv_if_eq (tgt := 76) hx hb dX8_reaches_71 (by decide) (fun c4 => ?_) (fun c4 => ?_)
      · replace hf := xif_t hf c4
        obtain ⟨y5, ey5, hf⟩ := xl_s hf
        refine lv_iinc (v := y5) (lv' := [(5, .int y5), (0, .ref (Γ.2.1 1476)), (1, .ref (Γ.2.1 k1)), (2, .int v2), (3, .int v3), (4, .ref (Γ.2.1 k4))]) hx hb dX8_reaches_76 hl (k := 5) rfl (by rw [ey5]; rfl) (by decide) rfl (fun ls hl => ?_)
        refine lv_goto (tgt := 45) hx hb dX8_reaches_79 (by decide) ?_
        exact ih v2 v3 y5 r3.1 hf _ _ _ h (lv_sub hl [1, 2, 3, 4, 5, 0] rfl)
      · replace hf := xif_f hf c4
        refine lv_iconst (v := 1) hx hb dX8_reaches_74 (by decide) ?_
        exact x_zret hx hb h (Option.some.inj hf) hr hlocks (by decide) dX8_reaches_75
set_option maxHeartbeats 4000000 in
set_option maxRecDepth 100000 in
theorem m_X8_reaches2 (l : Launch) {Γ : xG} {N : Nat} {k1 : Nat} (h1 : isDk k1) {v2 : Int32} {v3 : Int32} {M : xM} {res : xR} (hf : F_X8_reaches2 N k1 v2 v3 M = some res) (sz : Nat) : Met l yX8_reaches (xWs yX8_reaches cX8_reaches 6 (some .boolean)) ({ frames := 4, cells := 0, slots := 0, locals := 115 } : Room) (va_Pc [.ref (Γ.2.1 1476), .ref (Γ.2.1 k1), .int v2, .int v3] (xPre Γ (wX Γ) M sz)) (xCi Γ (wX Γ) 1483 res sz) 0 0 (xAd Γ 1483 sz) := by
  refine x_met (Qc := fun sz => xCi Γ (wX Γ) 1483 res sz) pnX8 wG_W (Nat.le_of_ble_eq_true rfl) (fun p e s m args below meth c _ E h ls hl => ?_) sz
  obtain ⟨⟨hx, hb, hml, hown, hts⟩, hr, hlocks⟩ := id E
  have hl : lv_has ls 6 [(0, .ref (Γ.2.1 1476)), (1, .ref (Γ.2.1 k1)), (2, .int v2), (3, .int v3)] := hl
  refine lv_aload_n hx hb dX8_reaches_0 rfl (lv_at hl 0 rfl) ?_
  refine lv_iload_n hx hb dX8_reaches_1 rfl (lv_at hl 3 rfl) ?_
  obtain ⟨r1, er1, hf⟩ := xbd_s hf
  refine x_Vi (As := [.int v3]) (rest := []) E.1 (m_X8_isInReach l er1) (cwV 1 hts (xgV xU_sub q843 q844 q845 q32 q846) rfl rfl rfl hdX8_isInReach ⟨Nat.le_of_ble_eq_true rfl, Nat.le_of_ble_eq_true rfl⟩) h kX_least rfl rfl hl.1 rfl (Nat.le_of_ble_eq_true rfl) dX8_reaches_2 ⟨Nat.le_of_ble_eq_true rfl, Nat.le_of_ble_eq_true rfl⟩ (fun H locs h => ?_)
  refine lv_if_ne (tgt := 10) hx hb dX8_reaches_5 (by decide) (fun c2 => ?_) (fun c2 => ?_)
  · replace hf := xif_f hf c2
    refine lv_iload_n hx hb dX8_reaches_10 rfl (lv_at hl 3 rfl) ?_
    refine lv_if_ne (tgt := 16) hx hb dX8_reaches_11 (by decide) (fun c3 => ?_) (fun c3 => ?_)
    · replace hf := xif_f hf c3
      refine lv_iload_n hx hb dX8_reaches_16 rfl (lv_at hl 2 rfl) ?_
      refine lv_aload_n hx hb dX8_reaches_17 rfl (lv_at hl 1 rfl) ?_
      refine x_get (own := RX8) (ref := "TintDesk$Desk") (C := RX3) (T := TX3) (n := 9) (index := 40) (v := .int (r1.1.1 k1 4)) hx hb hts (fun w h => xU_sub w (inU3 w h)) hown h (kX_desk h1) rfl 4 (by decide) (hts _ (xU_sub _ q841)) (fun _ h9 => h9) rfl dX8_reaches_18 ?_
      refine lv_icmp_lt (tgt := 26) hx hb dX8_reaches_21 (by decide) (fun c4 => ?_) (fun c4 => ?_)
      · replace hf := xif_t hf c4
        refine lv_aload_n hx hb dX8_reaches_26 rfl (lv_at hl 1 rfl) ?_
        refine x_get (own := RX8) (ref := "TintDesk$Desk") (C := RX3) (T := TX3) (n := 9) (index := 45) (v := .ref (Γ.2.1 (k1 + 1))) hx hb hts (fun w h => xU_sub w (inU3 w h)) hown h (kX_desk h1) rfl 0 (by decide) (hts _ (xU_sub _ q842)) (fun _ h9 => h9) rfl dX8_reaches_27 ?_
        refine lv_iload_n hx hb dX8_reaches_30 rfl (lv_at hl 2 rfl) ?_
        obtain ⟨c5, hf⟩ := xck_s hf
        refine x_aald (C := "TintDesk$Colorant") hx hb h rfl (kX_desk_colorants h1) c5 dX8_reaches_31 ?_
        refine lv_astore (lv' := [(4, .ref (Γ.2.1 (k1 + 5 + 5 * v2.toNatClampNeg))), (0, .ref (Γ.2.1 1476)), (1, .ref (Γ.2.1 k1)), (2, .int v2), (3, .int v3)]) hx hb dX8_reaches_32 hl (by decide) rfl (fun ls hl => ?_)
        refine lv_iload_n hx hb dX8_reaches_34 rfl (lv_at hl 4 rfl) ?_
        refine lv_aload hx hb dX8_reaches_35 (lv_at hl 0 rfl) ?_
        obtain ⟨r6, er6, hf⟩ := xbd_s hf
        refine x_Vi (As := []) (rest := [.int v3]) E.1 (m_X2_stepsInside l (isCo_of h1 c5) er6) (cwV 0 hts (xgV xU_sub q847 q278 q279 q56 q280) rfl rfl rfl hdX2_stepsInside ⟨Nat.le_of_ble_eq_true rfl, Nat.le_of_ble_eq_true rfl⟩) h (kX_colorant (isCo_of h1 c5)) rfl rfl hl.1 rfl (Nat.le_of_ble_eq_true rfl) dX8_reaches_37 ⟨Nat.le_of_ble_eq_true rfl, Nat.le_of_ble_eq_true rfl⟩ (fun H locs h => ?_)
        refine va_mmin hx hb (hml.trans hl.1.symm) hown (hts _ (xU_sub _ q837)) (hts _ (xU_sub _ q165)) (hts _ (xU_sub _ q166)) (hts _ (xU_sub _ q167)) (Nat.le_of_ble_eq_true rfl) (Nat.le_of_ble_eq_true rfl) (Nat.le_of_ble_eq_true rfl) (Nat.le_of_ble_eq_true rfl) dX8_reaches_40 ?_
        obtain ⟨y7, ey7, hf⟩ := xl_s hf
        refine x_nm ey7 ?_
        refine lv_istore (lv' := [(5, .int y7), (4, .ref (Γ.2.1 (k1 + 5 + 5 * v2.toNatClampNeg))), (0, .ref (Γ.2.1 1476)), (1, .ref (Γ.2.1 k1)), (2, .int v2), (3, .int v3)]) hx hb dX8_reaches_43 hl (by decide) rfl (fun ls hl => ?_)
        exact w_X8_reaches2_45 l E h1 (isCo_of h1 c5) N v2 v3 y7 r6.1 hf _ _ _ h (lv_sub hl [2, 3, 4, 5, 1, 0] rfl)
      · replace hf := xif_f hf c4
        refine lv_iconst (v := 0) hx hb dX8_reaches_24 (by decide) ?_
        exact x_zret hx hb h (Option.some.inj hf) hr hlocks (by decide) dX8_reaches_25
    · replace hf := xif_t hf c3
      refine lv_iconst (v := 1) hx hb dX8_reaches_14 (by decide) ?_
      exact x_zret hx hb h (Option.some.inj hf) hr hlocks (by decide) dX8_reaches_15
  · replace hf := xif_t hf c2
    refine lv_iconst (v := 0) hx hb dX8_reaches_8 (by decide) ?_
    exact x_zret hx hb h (Option.some.inj hf) hr hlocks (by decide) dX8_reaches_9
theorem hdX8_reaches3 : yX8_reaches.cls = RX8 ∧ yX8_reaches.cls ≠ "java/lang/invoke/MethodHandle" ∧ yX8_reaches.cls ≠ "java/lang/invoke/VarHandle" ∧ (parseMethodDescriptor yX8_reaches.desc).map (fun d => d.parameters.length) = some 4 := by decide +kernel
set_option maxHeartbeats 4000000 in
set_option maxRecDepth 100000 in
theorem w_X8_reaches3_45 (l : Launch) {p : Program} {e : Env} {s : State} {m : MethodId} {args : Array Value} {below : List Frame} {meth : Method} {c : Code} {Γ : xG} {N : Nat} {k1 : Nat} {k4 : Nat} {res : xR} (E : xEv p s m args meth c RX8 cX8_reaches 6 (some .boolean) (xWs yX8_reaches cX8_reaches 6 (some .boolean))) (h1 : isDk k1) (h4 : isCo k4) : ∀ (n : Nat) (v2 : Int32) (v3 : Int32) (v5 : Int32) (M : xM), L_X8_reaches3_45 N k1 k4 n v2 v3 v5 M = some res → ∀ (H : Heap) (locs : List Loc) (ls : Array Slot), xH Γ (wX Γ) 1483 s M H locs → lv_has ls 6 [(0, .ref (Γ.2.1 1476)), (1, .ref (Γ.2.1 k1)), (2, .int v2), (3, .int v3), (4, .ref (Γ.2.1 k4)), (5, .int v5)] → W p l e ({ frames := 5, cells := 0, slots := 0, locals := 140 } : Room) s m args below meth c H locs 0 0 (MQ below (xCi Γ (wX Γ) 1483 res s.heap.size) args s 0 0 (xAd Γ 1483 s.heap.size)) (F0 m 45 ls []) := by
  obtain ⟨⟨hx, hb, hml, hown, hts⟩, hr, hlocks⟩ := id E
  intro n
  induction n with
  | zero => intro v2 v3 v5 M hf; cases hf
  | succ n ih =>
    intro v2 v3 v5 M hf H locs ls h hl
    refine lv_iload hx hb dX8_reaches_45 (lv_at hl 5 rfl) ?_
    refine lv_if_lt (tgt := 82) hx hb dX8_reaches_47 (by decide) (fun c1 => ?_) (fun c1 => ?_)
    · replace hf := xif_t hf c1
      refine lv_iconst (v := 0) hx hb dX8_reaches_82 (by decide) ?_
      exact x_zret hx hb h (Option.some.inj hf) hr hlocks (by decide) dX8_reaches_83
    · replace hf := xif_f hf c1
      refine lv_aload_n hx hb dX8_reaches_50 rfl (lv_at hl 0 rfl) ?_
      refine lv_aload hx hb dX8_reaches_51 (lv_at hl 4 rfl) ?_
      refine lv_iload_n hx hb dX8_reaches_53 rfl (lv_at hl 2 rfl) ?_
      refine lv_iload hx hb dX8_reaches_54 (lv_at hl 5 rfl) ?_
      obtain ⟨r2, er2, hf⟩ := xbd_s hf
      refine x_Vv (As := [.ref (Γ.2.1 k4), .int v2, .int v5]) (rest := []) E.1 (m_X8_choose l h4 er2) (cwV 3 hts (xgV xU_sub q848 q849 q850 q32 q851) rfl rfl rfl hdX8_choose ⟨Nat.le_of_ble_eq_true rfl, Nat.le_of_ble_eq_true rfl⟩) h kX_least rfl rfl hl.1 rfl (Nat.le_of_ble_eq_true rfl) dX8_reaches_56 ⟨Nat.le_of_ble_eq_true rfl, Nat.le_of_ble_eq_true rfl⟩ (fun H locs h => ?_)
      refine lv_aload_n hx hb dX8_reaches_59 rfl (lv_at hl 0 rfl) ?_
      refine lv_aload_n hx hb dX8_reaches_60 rfl (lv_at hl 1 rfl) ?_
      refine lv_iload_n hx hb dX8_reaches_61 rfl (lv_at hl 2 rfl) ?_
      refine lv_iconst (v := 1) hx hb dX8_reaches_62 (by decide) ?_
      refine lv_iadd hx hb dX8_reaches_63 ?_
      refine lv_iload_n hx hb dX8_reaches_64 rfl (lv_at hl 3 rfl) ?_
      refine lv_iload hx hb dX8_reaches_65 (lv_at hl 5 rfl) ?_
      refine lv_isub hx hb dX8_reaches_67 ?_
      obtain ⟨r3, er3, hf⟩ := xbd_s hf
      refine x_Si (As := [.ref (Γ.2.1 1476), .ref (Γ.2.1 k1), .int (v2 + 1), .int (v3 - v5)]) (rest := []) E.1 (m_X8_reaches2 l h1 er3) (cwS 4 hts (xgS xU_sub q838 q839 q32 q840) rfl rfl rfl hdX8_reaches2 ⟨Nat.le_of_ble_eq_true rfl, Nat.le_of_ble_eq_true rfl⟩) h rfl hl.1 rfl (Nat.le_of_ble_eq_true rfl) dX8_reaches_68 ⟨Nat.le_of_ble_eq_true rfl, Nat.le_of_ble_eq_true rfl⟩ (fun H locs h => ?_)
      refine lv_if_eq (tgt := 76) hx hb dX8_reaches_71 (by decide) (fun c4 => ?_) (fun c4 => ?_)
      · replace hf := xif_t hf c4
        obtain ⟨y5, ey5, hf⟩ := xl_s hf
        refine lv_iinc (v := y5) (lv' := [(5, .int y5), (0, .ref (Γ.2.1 1476)), (1, .ref (Γ.2.1 k1)), (2, .int v2), (3, .int v3), (4, .ref (Γ.2.1 k4))]) hx hb dX8_reaches_76 hl (k := 5) rfl (by rw [ey5]; rfl) (by decide) rfl (fun ls hl => ?_)
        refine lv_goto (tgt := 45) hx hb dX8_reaches_79 (by decide) ?_
        exact ih v2 v3 y5 r3.1 hf _ _ _ h (lv_sub hl [1, 2, 3, 4, 5, 0] rfl)
      · replace hf := xif_f hf c4
        refine lv_iconst (v := 1) hx hb dX8_reaches_74 (by decide) ?_
        exact x_zret hx hb h (Option.some.inj hf) hr hlocks (by decide) dX8_reaches_75
set_option maxHeartbeats 4000000 in
set_option maxRecDepth 100000 in
theorem m_X8_reaches3 (l : Launch) {Γ : xG} {N : Nat} {k1 : Nat} (h1 : isDk k1) {v2 : Int32} {v3 : Int32} {M : xM} {res : xR} (hf : F_X8_reaches3 N k1 v2 v3 M = some res) (sz : Nat) : Met l yX8_reaches (xWs yX8_reaches cX8_reaches 6 (some .boolean)) ({ frames := 5, cells := 0, slots := 0, locals := 140 } : Room) (va_Pc [.ref (Γ.2.1 1476), .ref (Γ.2.1 k1), .int v2, .int v3] (xPre Γ (wX Γ) M sz)) (xCi Γ (wX Γ) 1483 res sz) 0 0 (xAd Γ 1483 sz) := by
  refine x_met (Qc := fun sz => xCi Γ (wX Γ) 1483 res sz) pnX8 wG_W (Nat.le_of_ble_eq_true rfl) (fun p e s m args below meth c _ E h ls hl => ?_) sz
  obtain ⟨⟨hx, hb, hml, hown, hts⟩, hr, hlocks⟩ := id E
  have hl : lv_has ls 6 [(0, .ref (Γ.2.1 1476)), (1, .ref (Γ.2.1 k1)), (2, .int v2), (3, .int v3)] := hl
  refine lv_aload_n hx hb dX8_reaches_0 rfl (lv_at hl 0 rfl) ?_
  refine lv_iload_n hx hb dX8_reaches_1 rfl (lv_at hl 3 rfl) ?_
  obtain ⟨r1, er1, hf⟩ := xbd_s hf
  refine x_Vi (As := [.int v3]) (rest := []) E.1 (m_X8_isInReach l er1) (cwV 1 hts (xgV xU_sub q843 q844 q845 q32 q846) rfl rfl rfl hdX8_isInReach ⟨Nat.le_of_ble_eq_true rfl, Nat.le_of_ble_eq_true rfl⟩) h kX_least rfl rfl hl.1 rfl (Nat.le_of_ble_eq_true rfl) dX8_reaches_2 ⟨Nat.le_of_ble_eq_true rfl, Nat.le_of_ble_eq_true rfl⟩ (fun H locs h => ?_)
  refine lv_if_ne (tgt := 10) hx hb dX8_reaches_5 (by decide) (fun c2 => ?_) (fun c2 => ?_)
  · replace hf := xif_f hf c2
    refine lv_iload_n hx hb dX8_reaches_10 rfl (lv_at hl 3 rfl) ?_
    refine lv_if_ne (tgt := 16) hx hb dX8_reaches_11 (by decide) (fun c3 => ?_) (fun c3 => ?_)
    · replace hf := xif_f hf c3
      refine lv_iload_n hx hb dX8_reaches_16 rfl (lv_at hl 2 rfl) ?_
      refine lv_aload_n hx hb dX8_reaches_17 rfl (lv_at hl 1 rfl) ?_
      refine x_get (own := RX8) (ref := "TintDesk$Desk") (C := RX3) (T := TX3) (n := 9) (index := 40) (v := .int (r1.1.1 k1 4)) hx hb hts (fun w h => xU_sub w (inU3 w h)) hown h (kX_desk h1) rfl 4 (by decide) (hts _ (xU_sub _ q841)) (fun _ h9 => h9) rfl dX8_reaches_18 ?_
      refine lv_icmp_lt (tgt := 26) hx hb dX8_reaches_21 (by decide) (fun c4 => ?_) (fun c4 => ?_)
      · replace hf := xif_t hf c4
        refine lv_aload_n hx hb dX8_reaches_26 rfl (lv_at hl 1 rfl) ?_
        refine x_get (own := RX8) (ref := "TintDesk$Desk") (C := RX3) (T := TX3) (n := 9) (index := 45) (v := .ref (Γ.2.1 (k1 + 1))) hx hb hts (fun w h => xU_sub w (inU3 w h)) hown h (kX_desk h1) rfl 0 (by decide) (hts _ (xU_sub _ q842)) (fun _ h9 => h9) rfl dX8_reaches_27 ?_
        refine lv_iload_n hx hb dX8_reaches_30 rfl (lv_at hl 2 rfl) ?_
        obtain ⟨c5, hf⟩ := xck_s hf
        refine x_aald (C := "TintDesk$Colorant") hx hb h rfl (kX_desk_colorants h1) c5 dX8_reaches_31 ?_
        refine lv_astore (lv' := [(4, .ref (Γ.2.1 (k1 + 5 + 5 * v2.toNatClampNeg))), (0, .ref (Γ.2.1 1476)), (1, .ref (Γ.2.1 k1)), (2, .int v2), (3, .int v3)]) hx hb dX8_reaches_32 hl (by decide) rfl (fun ls hl => ?_)
        refine lv_iload_n hx hb dX8_reaches_34 rfl (lv_at hl 4 rfl) ?_
        refine lv_aload hx hb dX8_reaches_35 (lv_at hl 0 rfl) ?_
        obtain ⟨r6, er6, hf⟩ := xbd_s hf
        refine x_Vi (As := []) (rest := [.int v3]) E.1 (m_X2_stepsInside l (isCo_of h1 c5) er6) (cwV 0 hts (xgV xU_sub q847 q278 q279 q56 q280) rfl rfl rfl hdX2_stepsInside ⟨Nat.le_of_ble_eq_true rfl, Nat.le_of_ble_eq_true rfl⟩) h (kX_colorant (isCo_of h1 c5)) rfl rfl hl.1 rfl (Nat.le_of_ble_eq_true rfl) dX8_reaches_37 ⟨Nat.le_of_ble_eq_true rfl, Nat.le_of_ble_eq_true rfl⟩ (fun H locs h => ?_)
        refine va_mmin hx hb (hml.trans hl.1.symm) hown (hts _ (xU_sub _ q837)) (hts _ (xU_sub _ q165)) (hts _ (xU_sub _ q166)) (hts _ (xU_sub _ q167)) (Nat.le_of_ble_eq_true rfl) (Nat.le_of_ble_eq_true rfl) (Nat.le_of_ble_eq_true rfl) (Nat.le_of_ble_eq_true rfl) dX8_reaches_40 ?_
        obtain ⟨y7, ey7, hf⟩ := xl_s hf
        refine x_nm ey7 ?_
        refine lv_istore (lv' := [(5, .int y7), (4, .ref (Γ.2.1 (k1 + 5 + 5 * v2.toNatClampNeg))), (0, .ref (Γ.2.1 1476)), (1, .ref (Γ.2.1 k1)), (2, .int v2), (3, .int v3)]) hx hb dX8_reaches_43 hl (by decide) rfl (fun ls hl => ?_)
        exact w_X8_reaches3_45 l E h1 (isCo_of h1 c5) N v2 v3 y7 r6.1 hf _ _ _ h (lv_sub hl [2, 3, 4, 5, 1, 0] rfl)
      · replace hf := xif_f hf c4
        refine lv_iconst (v := 0) hx hb dX8_reaches_24 (by decide) ?_
        exact x_zret hx hb h (Option.some.inj hf) hr hlocks (by decide) dX8_reaches_25
    · replace hf := xif_t hf c3
      refine lv_iconst (v := 1) hx hb dX8_reaches_14 (by decide) ?_
      exact x_zret hx hb h (Option.some.inj hf) hr hlocks (by decide) dX8_reaches_15
  · replace hf := xif_t hf c2
    refine lv_iconst (v := 0) hx hb dX8_reaches_8 (by decide) ?_
    exact x_zret hx hb h (Option.some.inj hf) hr hlocks (by decide) dX8_reaches_9
theorem hdX8_reaches4 : yX8_reaches.cls = RX8 ∧ yX8_reaches.cls ≠ "java/lang/invoke/MethodHandle" ∧ yX8_reaches.cls ≠ "java/lang/invoke/VarHandle" ∧ (parseMethodDescriptor yX8_reaches.desc).map (fun d => d.parameters.length) = some 4 := by decide +kernel
set_option maxHeartbeats 4000000 in
set_option maxRecDepth 100000 in
theorem w_X8_reaches4_45 (l : Launch) {p : Program} {e : Env} {s : State} {m : MethodId} {args : Array Value} {below : List Frame} {meth : Method} {c : Code} {Γ : xG} {N : Nat} {k1 : Nat} {k4 : Nat} {res : xR} (E : xEv p s m args meth c RX8 cX8_reaches 6 (some .boolean) (xWs yX8_reaches cX8_reaches 6 (some .boolean))) (h1 : isDk k1) (h4 : isCo k4) : ∀ (n : Nat) (v2 : Int32) (v3 : Int32) (v5 : Int32) (M : xM), L_X8_reaches4_45 N k1 k4 n v2 v3 v5 M = some res → ∀ (H : Heap) (locs : List Loc) (ls : Array Slot), xH Γ (wX Γ) 1483 s M H locs → lv_has ls 6 [(0, .ref (Γ.2.1 1476)), (1, .ref (Γ.2.1 k1)), (2, .int v2), (3, .int v3), (4, .ref (Γ.2.1 k4)), (5, .int v5)] → W p l e ({ frames := 6, cells := 0, slots := 0, locals := 165 } : Room) s m args below meth c H locs 0 0 (MQ below (xCi Γ (wX Γ) 1483 res s.heap.size) args s 0 0 (xAd Γ 1483 s.heap.size)) (F0 m 45 ls []) := by
  obtain ⟨⟨hx, hb, hml, hown, hts⟩, hr, hlocks⟩ := id E
  intro n
  induction n with
  | zero => intro v2 v3 v5 M hf; cases hf
  | succ n ih =>
    intro v2 v3 v5 M hf H locs ls h hl
    refine lv_iload hx hb dX8_reaches_45 (lv_at hl 5 rfl) ?_
    refine lv_if_lt (tgt := 82) hx hb dX8_reaches_47 (by decide) (fun c1 => ?_) (fun c1 => ?_)
    · replace hf := xif_t hf c1
      refine lv_iconst (v := 0) hx hb dX8_reaches_82 (by decide) ?_
      exact x_zret hx hb h (Option.some.inj hf) hr hlocks (by decide) dX8_reaches_83
    · replace hf := xif_f hf c1
      refine lv_aload_n hx hb dX8_reaches_50 rfl (lv_at hl 0 rfl) ?_
      refine lv_aload hx hb dX8_reaches_51 (lv_at hl 4 rfl) ?_
      refine lv_iload_n hx hb dX8_reaches_53 rfl (lv_at hl 2 rfl) ?_
      refine lv_iload hx hb dX8_reaches_54 (lv_at hl 5 rfl) ?_
      obtain ⟨r2, er2, hf⟩ := xbd_s hf
      refine x_Vv (As := [.ref (Γ.2.1 k4), .int v2, .int v5]) (rest := []) E.1 (m_X8_choose l h4 er2) (cwV 3 hts (xgV xU_sub q848 q849 q850 q32 q851) rfl rfl rfl hdX8_choose ⟨Nat.le_of_ble_eq_true rfl, Nat.le_of_ble_eq_true rfl⟩) h kX_least rfl rfl hl.1 rfl (Nat.le_of_ble_eq_true rfl) dX8_reaches_56 ⟨Nat.le_of_ble_eq_true rfl, Nat.le_of_ble_eq_true rfl⟩ (fun H locs h => ?_)
      refine lv_aload_n hx hb dX8_reaches_59 rfl (lv_at hl 0 rfl) ?_
      refine lv_aload_n hx hb dX8_reaches_60 rfl (lv_at hl 1 rfl) ?_
      refine lv_iload_n hx hb dX8_reaches_61 rfl (lv_at hl 2 rfl) ?_
      refine lv_iconst (v := 1) hx hb dX8_reaches_62 (by decide) ?_
      refine lv_iadd hx hb dX8_reaches_63 ?_
      refine lv_iload_n hx hb dX8_reaches_64 rfl (lv_at hl 3 rfl) ?_
      refine lv_iload hx hb dX8_reaches_65 (lv_at hl 5 rfl) ?_
      refine lv_isub hx hb dX8_reaches_67 ?_
      obtain ⟨r3, er3, hf⟩ := xbd_s hf
      refine x_Si (As := [.ref (Γ.2.1 1476), .ref (Γ.2.1 k1), .int (v2 + 1), .int (v3 - v5)]) (rest := []) E.1 (m_X8_reaches3 l h1 er3) (cwS 4 hts (xgS xU_sub q838 q839 q32 q840) rfl rfl rfl hdX8_reaches3 ⟨Nat.le_of_ble_eq_true rfl, Nat.le_of_ble_eq_true rfl⟩) h rfl hl.1 rfl (Nat.le_of_ble_eq_true rfl) dX8_reaches_68 ⟨Nat.le_of_ble_eq_true rfl, Nat.le_of_ble_eq_true rfl⟩ (fun H locs h => ?_)
      refine lv_if_eq (tgt := 76) hx hb dX8_reaches_71 (by decide) (fun c4 => ?_) (fun c4 => ?_)
      · replace hf := xif_t hf c4
        obtain ⟨y5, ey5, hf⟩ := xl_s hf
        refine lv_iinc (v := y5) (lv' := [(5, .int y5), (0, .ref (Γ.2.1 1476)), (1, .ref (Γ.2.1 k1)), (2, .int v2), (3, .int v3), (4, .ref (Γ.2.1 k4))]) hx hb dX8_reaches_76 hl (k := 5) rfl (by rw [ey5]; rfl) (by decide) rfl (fun ls hl => ?_)
        refine lv_goto (tgt := 45) hx hb dX8_reaches_79 (by decide) ?_
        exact ih v2 v3 y5 r3.1 hf _ _ _ h (lv_sub hl [1, 2, 3, 4, 5, 0] rfl)
      · replace hf := xif_f hf c4
        refine lv_iconst (v := 1) hx hb dX8_reaches_74 (by decide) ?_
        exact x_zret hx hb h (Option.some.inj hf) hr hlocks (by decide) dX8_reaches_75
set_option maxHeartbeats 4000000 in
set_option maxRecDepth 100000 in
theorem m_X8_reaches4 (l : Launch) {Γ : xG} {N : Nat} {k1 : Nat} (h1 : isDk k1) {v2 : Int32} {v3 : Int32} {M : xM} {res : xR} (hf : F_X8_reaches4 N k1 v2 v3 M = some res) (sz : Nat) : Met l yX8_reaches (xWs yX8_reaches cX8_reaches 6 (some .boolean)) ({ frames := 6, cells := 0, slots := 0, locals := 165 } : Room) (va_Pc [.ref (Γ.2.1 1476), .ref (Γ.2.1 k1), .int v2, .int v3] (xPre Γ (wX Γ) M sz)) (xCi Γ (wX Γ) 1483 res sz) 0 0 (xAd Γ 1483 sz) := by
  refine x_met (Qc := fun sz => xCi Γ (wX Γ) 1483 res sz) pnX8 wG_W (Nat.le_of_ble_eq_true rfl) (fun p e s m args below meth c _ E h ls hl => ?_) sz
  obtain ⟨⟨hx, hb, hml, hown, hts⟩, hr, hlocks⟩ := id E
  have hl : lv_has ls 6 [(0, .ref (Γ.2.1 1476)), (1, .ref (Γ.2.1 k1)), (2, .int v2), (3, .int v3)] := hl
  refine lv_aload_n hx hb dX8_reaches_0 rfl (lv_at hl 0 rfl) ?_
  refine lv_iload_n hx hb dX8_reaches_1 rfl (lv_at hl 3 rfl) ?_
  obtain ⟨r1, er1, hf⟩ := xbd_s hf
  refine x_Vi (As := [.int v3]) (rest := []) E.1 (m_X8_isInReach l er1) (cwV 1 hts (xgV xU_sub q843 q844 q845 q32 q846) rfl rfl rfl hdX8_isInReach ⟨Nat.le_of_ble_eq_true rfl, Nat.le_of_ble_eq_true rfl⟩) h kX_least rfl rfl hl.1 rfl (Nat.le_of_ble_eq_true rfl) dX8_reaches_2 ⟨Nat.le_of_ble_eq_true rfl, Nat.le_of_ble_eq_true rfl⟩ (fun H locs h => ?_)
  refine lv_if_ne (tgt := 10) hx hb dX8_reaches_5 (by decide) (fun c2 => ?_) (fun c2 => ?_)
  · replace hf := xif_f hf c2
    refine lv_iload_n hx hb dX8_reaches_10 rfl (lv_at hl 3 rfl) ?_
    refine lv_if_ne (tgt := 16) hx hb dX8_reaches_11 (by decide) (fun c3 => ?_) (fun c3 => ?_)
    · replace hf := xif_f hf c3
      refine lv_iload_n hx hb dX8_reaches_16 rfl (lv_at hl 2 rfl) ?_
      refine lv_aload_n hx hb dX8_reaches_17 rfl (lv_at hl 1 rfl) ?_
      refine x_get (own := RX8) (ref := "TintDesk$Desk") (C := RX3) (T := TX3) (n := 9) (index := 40) (v := .int (r1.1.1 k1 4)) hx hb hts (fun w h => xU_sub w (inU3 w h)) hown h (kX_desk h1) rfl 4 (by decide) (hts _ (xU_sub _ q841)) (fun _ h9 => h9) rfl dX8_reaches_18 ?_
      refine lv_icmp_lt (tgt := 26) hx hb dX8_reaches_21 (by decide) (fun c4 => ?_) (fun c4 => ?_)
      · replace hf := xif_t hf c4
        refine lv_aload_n hx hb dX8_reaches_26 rfl (lv_at hl 1 rfl) ?_
        refine x_get (own := RX8) (ref := "TintDesk$Desk") (C := RX3) (T := TX3) (n := 9) (index := 45) (v := .ref (Γ.2.1 (k1 + 1))) hx hb hts (fun w h => xU_sub w (inU3 w h)) hown h (kX_desk h1) rfl 0 (by decide) (hts _ (xU_sub _ q842)) (fun _ h9 => h9) rfl dX8_reaches_27 ?_
        refine lv_iload_n hx hb dX8_reaches_30 rfl (lv_at hl 2 rfl) ?_
        obtain ⟨c5, hf⟩ := xck_s hf
        refine x_aald (C := "TintDesk$Colorant") hx hb h rfl (kX_desk_colorants h1) c5 dX8_reaches_31 ?_
        refine lv_astore (lv' := [(4, .ref (Γ.2.1 (k1 + 5 + 5 * v2.toNatClampNeg))), (0, .ref (Γ.2.1 1476)), (1, .ref (Γ.2.1 k1)), (2, .int v2), (3, .int v3)]) hx hb dX8_reaches_32 hl (by decide) rfl (fun ls hl => ?_)
        refine lv_iload_n hx hb dX8_reaches_34 rfl (lv_at hl 4 rfl) ?_
        refine lv_aload hx hb dX8_reaches_35 (lv_at hl 0 rfl) ?_
        obtain ⟨r6, er6, hf⟩ := xbd_s hf
        refine x_Vi (As := []) (rest := [.int v3]) E.1 (m_X2_stepsInside l (isCo_of h1 c5) er6) (cwV 0 hts (xgV xU_sub q847 q278 q279 q56 q280) rfl rfl rfl hdX2_stepsInside ⟨Nat.le_of_ble_eq_true rfl, Nat.le_of_ble_eq_true rfl⟩) h (kX_colorant (isCo_of h1 c5)) rfl rfl hl.1 rfl (Nat.le_of_ble_eq_true rfl) dX8_reaches_37 ⟨Nat.le_of_ble_eq_true rfl, Nat.le_of_ble_eq_true rfl⟩ (fun H locs h => ?_)
        refine va_mmin hx hb (hml.trans hl.1.symm) hown (hts _ (xU_sub _ q837)) (hts _ (xU_sub _ q165)) (hts _ (xU_sub _ q166)) (hts _ (xU_sub _ q167)) (Nat.le_of_ble_eq_true rfl) (Nat.le_of_ble_eq_true rfl) (Nat.le_of_ble_eq_true rfl) (Nat.le_of_ble_eq_true rfl) dX8_reaches_40 ?_
        obtain ⟨y7, ey7, hf⟩ := xl_s hf
        refine x_nm ey7 ?_
        refine lv_istore (lv' := [(5, .int y7), (4, .ref (Γ.2.1 (k1 + 5 + 5 * v2.toNatClampNeg))), (0, .ref (Γ.2.1 1476)), (1, .ref (Γ.2.1 k1)), (2, .int v2), (3, .int v3)]) hx hb dX8_reaches_43 hl (by decide) rfl (fun ls hl => ?_)
        exact w_X8_reaches4_45 l E h1 (isCo_of h1 c5) N v2 v3 y7 r6.1 hf _ _ _ h (lv_sub hl [2, 3, 4, 5, 1, 0] rfl)
      · replace hf := xif_f hf c4
        refine lv_iconst (v := 0) hx hb dX8_reaches_24 (by decide) ?_
        exact x_zret hx hb h (Option.some.inj hf) hr hlocks (by decide) dX8_reaches_25
    · replace hf := xif_t hf c3
      refine lv_iconst (v := 1) hx hb dX8_reaches_14 (by decide) ?_
      exact x_zret hx hb h (Option.some.inj hf) hr hlocks (by decide) dX8_reaches_15
  · replace hf := xif_t hf c2
    refine lv_iconst (v := 0) hx hb dX8_reaches_8 (by decide) ?_
    exact x_zret hx hb h (Option.some.inj hf) hr hlocks (by decide) dX8_reaches_9
theorem hdX8_reaches5 : yX8_reaches.cls = RX8 ∧ yX8_reaches.cls ≠ "java/lang/invoke/MethodHandle" ∧ yX8_reaches.cls ≠ "java/lang/invoke/VarHandle" ∧ (parseMethodDescriptor yX8_reaches.desc).map (fun d => d.parameters.length) = some 4 := by decide +kernel
set_option maxHeartbeats 4000000 in
set_option maxRecDepth 100000 in
theorem w_X8_reaches5_45 (l : Launch) {p : Program} {e : Env} {s : State} {m : MethodId} {args : Array Value} {below : List Frame} {meth : Method} {c : Code} {Γ : xG} {N : Nat} {k1 : Nat} {k4 : Nat} {res : xR} (E : xEv p s m args meth c RX8 cX8_reaches 6 (some .boolean) (xWs yX8_reaches cX8_reaches 6 (some .boolean))) (h1 : isDk k1) (h4 : isCo k4) : ∀ (n : Nat) (v2 : Int32) (v3 : Int32) (v5 : Int32) (M : xM), L_X8_reaches5_45 N k1 k4 n v2 v3 v5 M = some res → ∀ (H : Heap) (locs : List Loc) (ls : Array Slot), xH Γ (wX Γ) 1483 s M H locs → lv_has ls 6 [(0, .ref (Γ.2.1 1476)), (1, .ref (Γ.2.1 k1)), (2, .int v2), (3, .int v3), (4, .ref (Γ.2.1 k4)), (5, .int v5)] → W p l e ({ frames := 7, cells := 0, slots := 0, locals := 190 } : Room) s m args below meth c H locs 0 0 (MQ below (xCi Γ (wX Γ) 1483 res s.heap.size) args s 0 0 (xAd Γ 1483 s.heap.size)) (F0 m 45 ls []) := by
  obtain ⟨⟨hx, hb, hml, hown, hts⟩, hr, hlocks⟩ := id E
  intro n
  induction n with
  | zero => intro v2 v3 v5 M hf; cases hf
  | succ n ih =>
    intro v2 v3 v5 M hf H locs ls h hl
    refine lv_iload hx hb dX8_reaches_45 (lv_at hl 5 rfl) ?_
    refine lv_if_lt (tgt := 82) hx hb dX8_reaches_47 (by decide) (fun c1 => ?_) (fun c1 => ?_)
    · replace hf := xif_t hf c1
      refine lv_iconst (v := 0) hx hb dX8_reaches_82 (by decide) ?_
      exact x_zret hx hb h (Option.some.inj hf) hr hlocks (by decide) dX8_reaches_83
    · replace hf := xif_f hf c1
      refine lv_aload_n hx hb dX8_reaches_50 rfl (lv_at hl 0 rfl) ?_
      refine lv_aload hx hb dX8_reaches_51 (lv_at hl 4 rfl) ?_
      refine lv_iload_n hx hb dX8_reaches_53 rfl (lv_at hl 2 rfl) ?_
      refine lv_iload hx hb dX8_reaches_54 (lv_at hl 5 rfl) ?_
      obtain ⟨r2, er2, hf⟩ := xbd_s hf
      refine x_Vv (As := [.ref (Γ.2.1 k4), .int v2, .int v5]) (rest := []) E.1 (m_X8_choose l h4 er2) (cwV 3 hts (xgV xU_sub q848 q849 q850 q32 q851) rfl rfl rfl hdX8_choose ⟨Nat.le_of_ble_eq_true rfl, Nat.le_of_ble_eq_true rfl⟩) h kX_least rfl rfl hl.1 rfl (Nat.le_of_ble_eq_true rfl) dX8_reaches_56 ⟨Nat.le_of_ble_eq_true rfl, Nat.le_of_ble_eq_true rfl⟩ (fun H locs h => ?_)
      refine lv_aload_n hx hb dX8_reaches_59 rfl (lv_at hl 0 rfl) ?_
      refine lv_aload_n hx hb dX8_reaches_60 rfl (lv_at hl 1 rfl) ?_
      refine lv_iload_n hx hb dX8_reaches_61 rfl (lv_at hl 2 rfl) ?_
      refine lv_iconst (v := 1) hx hb dX8_reaches_62 (by decide) ?_
      refine lv_iadd hx hb dX8_reaches_63 ?_
      refine lv_iload_n hx hb dX8_reaches_64 rfl (lv_at hl 3 rfl) ?_
      refine lv_iload hx hb dX8_reaches_65 (lv_at hl 5 rfl) ?_
      refine lv_isub hx hb dX8_reaches_67 ?_
      obtain ⟨r3, er3, hf⟩ := xbd_s hf
      refine x_Si (As := [.ref (Γ.2.1 1476), .ref (Γ.2.1 k1), .int (v2 + 1), .int (v3 - v5)]) (rest := []) E.1 (m_X8_reaches4 l h1 er3) (cwS 4 hts (xgS xU_sub q838 q839 q32 q840) rfl rfl rfl hdX8_reaches4 ⟨Nat.le_of_ble_eq_true rfl, Nat.le_of_ble_eq_true rfl⟩) h rfl hl.1 rfl (Nat.le_of_ble_eq_true rfl) dX8_reaches_68 ⟨Nat.le_of_ble_eq_true rfl, Nat.le_of_ble_eq_true rfl⟩ (fun H locs h => ?_)
      refine lv_if_eq (tgt := 76) hx hb dX8_reaches_71 (by decide) (fun c4 => ?_) (fun c4 => ?_)
      · replace hf := xif_t hf c4
        obtain ⟨y5, ey5, hf⟩ := xl_s hf
        refine lv_iinc (v := y5) (lv' := [(5, .int y5), (0, .ref (Γ.2.1 1476)), (1, .ref (Γ.2.1 k1)), (2, .int v2), (3, .int v3), (4, .ref (Γ.2.1 k4))]) hx hb dX8_reaches_76 hl (k := 5) rfl (by rw [ey5]; rfl) (by decide) rfl (fun ls hl => ?_)
        refine lv_goto (tgt := 45) hx hb dX8_reaches_79 (by decide) ?_
        exact ih v2 v3 y5 r3.1 hf _ _ _ h (lv_sub hl [1, 2, 3, 4, 5, 0] rfl)
      · replace hf := xif_f hf c4
        refine lv_iconst (v := 1) hx hb dX8_reaches_74 (by decide) ?_
        exact x_zret hx hb h (Option.some.inj hf) hr hlocks (by decide) dX8_reaches_75
set_option maxHeartbeats 4000000 in
set_option maxRecDepth 100000 in
theorem m_X8_reaches5 (l : Launch) {Γ : xG} {N : Nat} {k1 : Nat} (h1 : isDk k1) {v2 : Int32} {v3 : Int32} {M : xM} {res : xR} (hf : F_X8_reaches5 N k1 v2 v3 M = some res) (sz : Nat) : Met l yX8_reaches (xWs yX8_reaches cX8_reaches 6 (some .boolean)) ({ frames := 7, cells := 0, slots := 0, locals := 190 } : Room) (va_Pc [.ref (Γ.2.1 1476), .ref (Γ.2.1 k1), .int v2, .int v3] (xPre Γ (wX Γ) M sz)) (xCi Γ (wX Γ) 1483 res sz) 0 0 (xAd Γ 1483 sz) := by
  refine x_met (Qc := fun sz => xCi Γ (wX Γ) 1483 res sz) pnX8 wG_W (Nat.le_of_ble_eq_true rfl) (fun p e s m args below meth c _ E h ls hl => ?_) sz
  obtain ⟨⟨hx, hb, hml, hown, hts⟩, hr, hlocks⟩ := id E
  have hl : lv_has ls 6 [(0, .ref (Γ.2.1 1476)), (1, .ref (Γ.2.1 k1)), (2, .int v2), (3, .int v3)] := hl
  refine lv_aload_n hx hb dX8_reaches_0 rfl (lv_at hl 0 rfl) ?_
  refine lv_iload_n hx hb dX8_reaches_1 rfl (lv_at hl 3 rfl) ?_
  obtain ⟨r1, er1, hf⟩ := xbd_s hf
  refine x_Vi (As := [.int v3]) (rest := []) E.1 (m_X8_isInReach l er1) (cwV 1 hts (xgV xU_sub q843 q844 q845 q32 q846) rfl rfl rfl hdX8_isInReach ⟨Nat.le_of_ble_eq_true rfl, Nat.le_of_ble_eq_true rfl⟩) h kX_least rfl rfl hl.1 rfl (Nat.le_of_ble_eq_true rfl) dX8_reaches_2 ⟨Nat.le_of_ble_eq_true rfl, Nat.le_of_ble_eq_true rfl⟩ (fun H locs h => ?_)
  refine lv_if_ne (tgt := 10) hx hb dX8_reaches_5 (by decide) (fun c2 => ?_) (fun c2 => ?_)
  · replace hf := xif_f hf c2
    refine lv_iload_n hx hb dX8_reaches_10 rfl (lv_at hl 3 rfl) ?_
    refine lv_if_ne (tgt := 16) hx hb dX8_reaches_11 (by decide) (fun c3 => ?_) (fun c3 => ?_)
    · replace hf := xif_f hf c3
      refine lv_iload_n hx hb dX8_reaches_16 rfl (lv_at hl 2 rfl) ?_
      refine lv_aload_n hx hb dX8_reaches_17 rfl (lv_at hl 1 rfl) ?_
      refine x_get (own := RX8) (ref := "TintDesk$Desk") (C := RX3) (T := TX3) (n := 9) (index := 40) (v := .int (r1.1.1 k1 4)) hx hb hts (fun w h => xU_sub w (inU3 w h)) hown h (kX_desk h1) rfl 4 (by decide) (hts _ (xU_sub _ q841)) (fun _ h9 => h9) rfl dX8_reaches_18 ?_
      refine lv_icmp_lt (tgt := 26) hx hb dX8_reaches_21 (by decide) (fun c4 => ?_) (fun c4 => ?_)
      · replace hf := xif_t hf c4
        refine lv_aload_n hx hb dX8_reaches_26 rfl (lv_at hl 1 rfl) ?_
        refine x_get (own := RX8) (ref := "TintDesk$Desk") (C := RX3) (T := TX3) (n := 9) (index := 45) (v := .ref (Γ.2.1 (k1 + 1))) hx hb hts (fun w h => xU_sub w (inU3 w h)) hown h (kX_desk h1) rfl 0 (by decide) (hts _ (xU_sub _ q842)) (fun _ h9 => h9) rfl dX8_reaches_27 ?_
        refine lv_iload_n hx hb dX8_reaches_30 rfl (lv_at hl 2 rfl) ?_
        obtain ⟨c5, hf⟩ := xck_s hf
        refine x_aald (C := "TintDesk$Colorant") hx hb h rfl (kX_desk_colorants h1) c5 dX8_reaches_31 ?_
        refine lv_astore (lv' := [(4, .ref (Γ.2.1 (k1 + 5 + 5 * v2.toNatClampNeg))), (0, .ref (Γ.2.1 1476)), (1, .ref (Γ.2.1 k1)), (2, .int v2), (3, .int v3)]) hx hb dX8_reaches_32 hl (by decide) rfl (fun ls hl => ?_)
        refine lv_iload_n hx hb dX8_reaches_34 rfl (lv_at hl 4 rfl) ?_
        refine lv_aload hx hb dX8_reaches_35 (lv_at hl 0 rfl) ?_
        obtain ⟨r6, er6, hf⟩ := xbd_s hf
        refine x_Vi (As := []) (rest := [.int v3]) E.1 (m_X2_stepsInside l (isCo_of h1 c5) er6) (cwV 0 hts (xgV xU_sub q847 q278 q279 q56 q280) rfl rfl rfl hdX2_stepsInside ⟨Nat.le_of_ble_eq_true rfl, Nat.le_of_ble_eq_true rfl⟩) h (kX_colorant (isCo_of h1 c5)) rfl rfl hl.1 rfl (Nat.le_of_ble_eq_true rfl) dX8_reaches_37 ⟨Nat.le_of_ble_eq_true rfl, Nat.le_of_ble_eq_true rfl⟩ (fun H locs h => ?_)
        refine va_mmin hx hb (hml.trans hl.1.symm) hown (hts _ (xU_sub _ q837)) (hts _ (xU_sub _ q165)) (hts _ (xU_sub _ q166)) (hts _ (xU_sub _ q167)) (Nat.le_of_ble_eq_true rfl) (Nat.le_of_ble_eq_true rfl) (Nat.le_of_ble_eq_true rfl) (Nat.le_of_ble_eq_true rfl) dX8_reaches_40 ?_
        obtain ⟨y7, ey7, hf⟩ := xl_s hf
        refine x_nm ey7 ?_
        refine lv_istore (lv' := [(5, .int y7), (4, .ref (Γ.2.1 (k1 + 5 + 5 * v2.toNatClampNeg))), (0, .ref (Γ.2.1 1476)), (1, .ref (Γ.2.1 k1)), (2, .int v2), (3, .int v3)]) hx hb dX8_reaches_43 hl (by decide) rfl (fun ls hl => ?_)
        exact w_X8_reaches5_45 l E h1 (isCo_of h1 c5) N v2 v3 y7 r6.1 hf _ _ _ h (lv_sub hl [2, 3, 4, 5, 1, 0] rfl)
      · replace hf := xif_f hf c4
        refine lv_iconst (v := 0) hx hb dX8_reaches_24 (by decide) ?_
        exact x_zret hx hb h (Option.some.inj hf) hr hlocks (by decide) dX8_reaches_25
    · replace hf := xif_t hf c3
      refine lv_iconst (v := 1) hx hb dX8_reaches_14 (by decide) ?_
      exact x_zret hx hb h (Option.some.inj hf) hr hlocks (by decide) dX8_reaches_15
  · replace hf := xif_t hf c2
    refine lv_iconst (v := 0) hx hb dX8_reaches_8 (by decide) ?_
    exact x_zret hx hb h (Option.some.inj hf) hr hlocks (by decide) dX8_reaches_9
theorem hdX8_reaches6 : yX8_reaches.cls = RX8 ∧ yX8_reaches.cls ≠ "java/lang/invoke/MethodHandle" ∧ yX8_reaches.cls ≠ "java/lang/invoke/VarHandle" ∧ (parseMethodDescriptor yX8_reaches.desc).map (fun d => d.parameters.length) = some 4 := by decide +kernel
set_option maxHeartbeats 4000000 in
set_option maxRecDepth 100000 in
theorem w_X8_reaches6_45 (l : Launch) {p : Program} {e : Env} {s : State} {m : MethodId} {args : Array Value} {below : List Frame} {meth : Method} {c : Code} {Γ : xG} {N : Nat} {k1 : Nat} {k4 : Nat} {res : xR} (E : xEv p s m args meth c RX8 cX8_reaches 6 (some .boolean) (xWs yX8_reaches cX8_reaches 6 (some .boolean))) (h1 : isDk k1) (h4 : isCo k4) : ∀ (n : Nat) (v2 : Int32) (v3 : Int32) (v5 : Int32) (M : xM), L_X8_reaches6_45 N k1 k4 n v2 v3 v5 M = some res → ∀ (H : Heap) (locs : List Loc) (ls : Array Slot), xH Γ (wX Γ) 1483 s M H locs → lv_has ls 6 [(0, .ref (Γ.2.1 1476)), (1, .ref (Γ.2.1 k1)), (2, .int v2), (3, .int v3), (4, .ref (Γ.2.1 k4)), (5, .int v5)] → W p l e ({ frames := 8, cells := 0, slots := 0, locals := 215 } : Room) s m args below meth c H locs 0 0 (MQ below (xCi Γ (wX Γ) 1483 res s.heap.size) args s 0 0 (xAd Γ 1483 s.heap.size)) (F0 m 45 ls []) := by
  obtain ⟨⟨hx, hb, hml, hown, hts⟩, hr, hlocks⟩ := id E
  intro n
  induction n with
  | zero => intro v2 v3 v5 M hf; cases hf
  | succ n ih =>
    intro v2 v3 v5 M hf H locs ls h hl
    refine lv_iload hx hb dX8_reaches_45 (lv_at hl 5 rfl) ?_
    refine lv_if_lt (tgt := 82) hx hb dX8_reaches_47 (by decide) (fun c1 => ?_) (fun c1 => ?_)
    · replace hf := xif_t hf c1
      refine lv_iconst (v := 0) hx hb dX8_reaches_82 (by decide) ?_
      exact x_zret hx hb h (Option.some.inj hf) hr hlocks (by decide) dX8_reaches_83
    · replace hf := xif_f hf c1
      refine lv_aload_n hx hb dX8_reaches_50 rfl (lv_at hl 0 rfl) ?_
      refine lv_aload hx hb dX8_reaches_51 (lv_at hl 4 rfl) ?_
      refine lv_iload_n hx hb dX8_reaches_53 rfl (lv_at hl 2 rfl) ?_
      refine lv_iload hx hb dX8_reaches_54 (lv_at hl 5 rfl) ?_
      obtain ⟨r2, er2, hf⟩ := xbd_s hf
      refine x_Vv (As := [.ref (Γ.2.1 k4), .int v2, .int v5]) (rest := []) E.1 (m_X8_choose l h4 er2) (cwV 3 hts (xgV xU_sub q848 q849 q850 q32 q851) rfl rfl rfl hdX8_choose ⟨Nat.le_of_ble_eq_true rfl, Nat.le_of_ble_eq_true rfl⟩) h kX_least rfl rfl hl.1 rfl (Nat.le_of_ble_eq_true rfl) dX8_reaches_56 ⟨Nat.le_of_ble_eq_true rfl, Nat.le_of_ble_eq_true rfl⟩ (fun H locs h => ?_)
      refine lv_aload_n hx hb dX8_reaches_59 rfl (lv_at hl 0 rfl) ?_
      refine lv_aload_n hx hb dX8_reaches_60 rfl (lv_at hl 1 rfl) ?_
      refine lv_iload_n hx hb dX8_reaches_61 rfl (lv_at hl 2 rfl) ?_
      refine lv_iconst (v := 1) hx hb dX8_reaches_62 (by decide) ?_
      refine lv_iadd hx hb dX8_reaches_63 ?_
      refine lv_iload_n hx hb dX8_reaches_64 rfl (lv_at hl 3 rfl) ?_
      refine lv_iload hx hb dX8_reaches_65 (lv_at hl 5 rfl) ?_
      refine lv_isub hx hb dX8_reaches_67 ?_
      obtain ⟨r3, er3, hf⟩ := xbd_s hf
      refine x_Si (As := [.ref (Γ.2.1 1476), .ref (Γ.2.1 k1), .int (v2 + 1), .int (v3 - v5)]) (rest := []) E.1 (m_X8_reaches5 l h1 er3) (cwS 4 hts (xgS xU_sub q838 q839 q32 q840) rfl rfl rfl hdX8_reaches5 ⟨Nat.le_of_ble_eq_true rfl, Nat.le_of_ble_eq_true rfl⟩) h rfl hl.1 rfl (Nat.le_of_ble_eq_true rfl) dX8_reaches_68 ⟨Nat.le_of_ble_eq_true rfl, Nat.le_of_ble_eq_true rfl⟩ (fun H locs h => ?_)
      refine lv_if_eq (tgt := 76) hx hb dX8_reaches_71 (by decide) (fun c4 => ?_) (fun c4 => ?_)
      · replace hf := xif_t hf c4
        obtain ⟨y5, ey5, hf⟩ := xl_s hf
        refine lv_iinc (v := y5) (lv' := [(5, .int y5), (0, .ref (Γ.2.1 1476)), (1, .ref (Γ.2.1 k1)), (2, .int v2), (3, .int v3), (4, .ref (Γ.2.1 k4))]) hx hb dX8_reaches_76 hl (k := 5) rfl (by rw [ey5]; rfl) (by decide) rfl (fun ls hl => ?_)
        refine lv_goto (tgt := 45) hx hb dX8_reaches_79 (by decide) ?_
        exact ih v2 v3 y5 r3.1 hf _ _ _ h (lv_sub hl [1, 2, 3, 4, 5, 0] rfl)
      · replace hf := xif_f hf c4
        refine lv_iconst (v := 1) hx hb dX8_reaches_74 (by decide) ?_
        exact x_zret hx hb h (Option.some.inj hf) hr hlocks (by decide) dX8_reaches_75
set_option maxHeartbeats 4000000 in
set_option maxRecDepth 100000 in
theorem m_X8_reaches6 (l : Launch) {Γ : xG} {N : Nat} {k1 : Nat} (h1 : isDk k1) {v2 : Int32} {v3 : Int32} {M : xM} {res : xR} (hf : F_X8_reaches6 N k1 v2 v3 M = some res) (sz : Nat) : Met l yX8_reaches (xWs yX8_reaches cX8_reaches 6 (some .boolean)) ({ frames := 8, cells := 0, slots := 0, locals := 215 } : Room) (va_Pc [.ref (Γ.2.1 1476), .ref (Γ.2.1 k1), .int v2, .int v3] (xPre Γ (wX Γ) M sz)) (xCi Γ (wX Γ) 1483 res sz) 0 0 (xAd Γ 1483 sz) := by
  refine x_met (Qc := fun sz => xCi Γ (wX Γ) 1483 res sz) pnX8 wG_W (Nat.le_of_ble_eq_true rfl) (fun p e s m args below meth c _ E h ls hl => ?_) sz
  obtain ⟨⟨hx, hb, hml, hown, hts⟩, hr, hlocks⟩ := id E
  have hl : lv_has ls 6 [(0, .ref (Γ.2.1 1476)), (1, .ref (Γ.2.1 k1)), (2, .int v2), (3, .int v3)] := hl
  refine lv_aload_n hx hb dX8_reaches_0 rfl (lv_at hl 0 rfl) ?_
  refine lv_iload_n hx hb dX8_reaches_1 rfl (lv_at hl 3 rfl) ?_
  obtain ⟨r1, er1, hf⟩ := xbd_s hf
  refine x_Vi (As := [.int v3]) (rest := []) E.1 (m_X8_isInReach l er1) (cwV 1 hts (xgV xU_sub q843 q844 q845 q32 q846) rfl rfl rfl hdX8_isInReach ⟨Nat.le_of_ble_eq_true rfl, Nat.le_of_ble_eq_true rfl⟩) h kX_least rfl rfl hl.1 rfl (Nat.le_of_ble_eq_true rfl) dX8_reaches_2 ⟨Nat.le_of_ble_eq_true rfl, Nat.le_of_ble_eq_true rfl⟩ (fun H locs h => ?_)
  refine lv_if_ne (tgt := 10) hx hb dX8_reaches_5 (by decide) (fun c2 => ?_) (fun c2 => ?_)
  · replace hf := xif_f hf c2
    refine lv_iload_n hx hb dX8_reaches_10 rfl (lv_at hl 3 rfl) ?_
    refine lv_if_ne (tgt := 16) hx hb dX8_reaches_11 (by decide) (fun c3 => ?_) (fun c3 => ?_)
    · replace hf := xif_f hf c3
      refine lv_iload_n hx hb dX8_reaches_16 rfl (lv_at hl 2 rfl) ?_
      refine lv_aload_n hx hb dX8_reaches_17 rfl (lv_at hl 1 rfl) ?_
      refine x_get (own := RX8) (ref := "TintDesk$Desk") (C := RX3) (T := TX3) (n := 9) (index := 40) (v := .int (r1.1.1 k1 4)) hx hb hts (fun w h => xU_sub w (inU3 w h)) hown h (kX_desk h1) rfl 4 (by decide) (hts _ (xU_sub _ q841)) (fun _ h9 => h9) rfl dX8_reaches_18 ?_
      refine lv_icmp_lt (tgt := 26) hx hb dX8_reaches_21 (by decide) (fun c4 => ?_) (fun c4 => ?_)
      · replace hf := xif_t hf c4
        refine lv_aload_n hx hb dX8_reaches_26 rfl (lv_at hl 1 rfl) ?_
        refine x_get (own := RX8) (ref := "TintDesk$Desk") (C := RX3) (T := TX3) (n := 9) (index := 45) (v := .ref (Γ.2.1 (k1 + 1))) hx hb hts (fun w h => xU_sub w (inU3 w h)) hown h (kX_desk h1) rfl 0 (by decide) (hts _ (xU_sub _ q842)) (fun _ h9 => h9) rfl dX8_reaches_27 ?_
        refine lv_iload_n hx hb dX8_reaches_30 rfl (lv_at hl 2 rfl) ?_
        obtain ⟨c5, hf⟩ := xck_s hf
        refine x_aald (C := "TintDesk$Colorant") hx hb h rfl (kX_desk_colorants h1) c5 dX8_reaches_31 ?_
        refine lv_astore (lv' := [(4, .ref (Γ.2.1 (k1 + 5 + 5 * v2.toNatClampNeg))), (0, .ref (Γ.2.1 1476)), (1, .ref (Γ.2.1 k1)), (2, .int v2), (3, .int v3)]) hx hb dX8_reaches_32 hl (by decide) rfl (fun ls hl => ?_)
        refine lv_iload_n hx hb dX8_reaches_34 rfl (lv_at hl 4 rfl) ?_
        refine lv_aload hx hb dX8_reaches_35 (lv_at hl 0 rfl) ?_
        obtain ⟨r6, er6, hf⟩ := xbd_s hf
        refine x_Vi (As := []) (rest := [.int v3]) E.1 (m_X2_stepsInside l (isCo_of h1 c5) er6) (cwV 0 hts (xgV xU_sub q847 q278 q279 q56 q280) rfl rfl rfl hdX2_stepsInside ⟨Nat.le_of_ble_eq_true rfl, Nat.le_of_ble_eq_true rfl⟩) h (kX_colorant (isCo_of h1 c5)) rfl rfl hl.1 rfl (Nat.le_of_ble_eq_true rfl) dX8_reaches_37 ⟨Nat.le_of_ble_eq_true rfl, Nat.le_of_ble_eq_true rfl⟩ (fun H locs h => ?_)
        refine va_mmin hx hb (hml.trans hl.1.symm) hown (hts _ (xU_sub _ q837)) (hts _ (xU_sub _ q165)) (hts _ (xU_sub _ q166)) (hts _ (xU_sub _ q167)) (Nat.le_of_ble_eq_true rfl) (Nat.le_of_ble_eq_true rfl) (Nat.le_of_ble_eq_true rfl) (Nat.le_of_ble_eq_true rfl) dX8_reaches_40 ?_
        obtain ⟨y7, ey7, hf⟩ := xl_s hf
        refine x_nm ey7 ?_
        refine lv_istore (lv' := [(5, .int y7), (4, .ref (Γ.2.1 (k1 + 5 + 5 * v2.toNatClampNeg))), (0, .ref (Γ.2.1 1476)), (1, .ref (Γ.2.1 k1)), (2, .int v2), (3, .int v3)]) hx hb dX8_reaches_43 hl (by decide) rfl (fun ls hl => ?_)
        exact w_X8_reaches6_45 l E h1 (isCo_of h1 c5) N v2 v3 y7 r6.1 hf _ _ _ h (lv_sub hl [2, 3, 4, 5, 1, 0] rfl)
      · replace hf := xif_f hf c4
        refine lv_iconst (v := 0) hx hb dX8_reaches_24 (by decide) ?_
        exact x_zret hx hb h (Option.some.inj hf) hr hlocks (by decide) dX8_reaches_25
    · replace hf := xif_t hf c3
      refine lv_iconst (v := 1) hx hb dX8_reaches_14 (by decide) ?_
      exact x_zret hx hb h (Option.some.inj hf) hr hlocks (by decide) dX8_reaches_15
  · replace hf := xif_t hf c2
    refine lv_iconst (v := 0) hx hb dX8_reaches_8 (by decide) ?_
    exact x_zret hx hb h (Option.some.inj hf) hr hlocks (by decide) dX8_reaches_9
theorem hdX8_reaches7 : yX8_reaches.cls = RX8 ∧ yX8_reaches.cls ≠ "java/lang/invoke/MethodHandle" ∧ yX8_reaches.cls ≠ "java/lang/invoke/VarHandle" ∧ (parseMethodDescriptor yX8_reaches.desc).map (fun d => d.parameters.length) = some 4 := by decide +kernel
set_option maxHeartbeats 4000000 in
set_option maxRecDepth 100000 in
theorem w_X8_reaches7_45 (l : Launch) {p : Program} {e : Env} {s : State} {m : MethodId} {args : Array Value} {below : List Frame} {meth : Method} {c : Code} {Γ : xG} {N : Nat} {k1 : Nat} {k4 : Nat} {res : xR} (E : xEv p s m args meth c RX8 cX8_reaches 6 (some .boolean) (xWs yX8_reaches cX8_reaches 6 (some .boolean))) (h1 : isDk k1) (h4 : isCo k4) : ∀ (n : Nat) (v2 : Int32) (v3 : Int32) (v5 : Int32) (M : xM), L_X8_reaches7_45 N k1 k4 n v2 v3 v5 M = some res → ∀ (H : Heap) (locs : List Loc) (ls : Array Slot), xH Γ (wX Γ) 1483 s M H locs → lv_has ls 6 [(0, .ref (Γ.2.1 1476)), (1, .ref (Γ.2.1 k1)), (2, .int v2), (3, .int v3), (4, .ref (Γ.2.1 k4)), (5, .int v5)] → W p l e ({ frames := 9, cells := 0, slots := 0, locals := 240 } : Room) s m args below meth c H locs 0 0 (MQ below (xCi Γ (wX Γ) 1483 res s.heap.size) args s 0 0 (xAd Γ 1483 s.heap.size)) (F0 m 45 ls []) := by
  obtain ⟨⟨hx, hb, hml, hown, hts⟩, hr, hlocks⟩ := id E
  intro n
  induction n with
  | zero => intro v2 v3 v5 M hf; cases hf
  | succ n ih =>
    intro v2 v3 v5 M hf H locs ls h hl
    refine lv_iload hx hb dX8_reaches_45 (lv_at hl 5 rfl) ?_
    refine lv_if_lt (tgt := 82) hx hb dX8_reaches_47 (by decide) (fun c1 => ?_) (fun c1 => ?_)
    · replace hf := xif_t hf c1
      refine lv_iconst (v := 0) hx hb dX8_reaches_82 (by decide) ?_
      exact x_zret hx hb h (Option.some.inj hf) hr hlocks (by decide) dX8_reaches_83
    · replace hf := xif_f hf c1
      refine lv_aload_n hx hb dX8_reaches_50 rfl (lv_at hl 0 rfl) ?_
      refine lv_aload hx hb dX8_reaches_51 (lv_at hl 4 rfl) ?_
      refine lv_iload_n hx hb dX8_reaches_53 rfl (lv_at hl 2 rfl) ?_
      refine lv_iload hx hb dX8_reaches_54 (lv_at hl 5 rfl) ?_
      obtain ⟨r2, er2, hf⟩ := xbd_s hf
      refine x_Vv (As := [.ref (Γ.2.1 k4), .int v2, .int v5]) (rest := []) E.1 (m_X8_choose l h4 er2) (cwV 3 hts (xgV xU_sub q848 q849 q850 q32 q851) rfl rfl rfl hdX8_choose ⟨Nat.le_of_ble_eq_true rfl, Nat.le_of_ble_eq_true rfl⟩) h kX_least rfl rfl hl.1 rfl (Nat.le_of_ble_eq_true rfl) dX8_reaches_56 ⟨Nat.le_of_ble_eq_true rfl, Nat.le_of_ble_eq_true rfl⟩ (fun H locs h => ?_)
      refine lv_aload_n hx hb dX8_reaches_59 rfl (lv_at hl 0 rfl) ?_
      refine lv_aload_n hx hb dX8_reaches_60 rfl (lv_at hl 1 rfl) ?_
      refine lv_iload_n hx hb dX8_reaches_61 rfl (lv_at hl 2 rfl) ?_
      refine lv_iconst (v := 1) hx hb dX8_reaches_62 (by decide) ?_
      refine lv_iadd hx hb dX8_reaches_63 ?_
      refine lv_iload_n hx hb dX8_reaches_64 rfl (lv_at hl 3 rfl) ?_
      refine lv_iload hx hb dX8_reaches_65 (lv_at hl 5 rfl) ?_
      refine lv_isub hx hb dX8_reaches_67 ?_
      obtain ⟨r3, er3, hf⟩ := xbd_s hf
      refine x_Si (As := [.ref (Γ.2.1 1476), .ref (Γ.2.1 k1), .int (v2 + 1), .int (v3 - v5)]) (rest := []) E.1 (m_X8_reaches6 l h1 er3) (cwS 4 hts (xgS xU_sub q838 q839 q32 q840) rfl rfl rfl hdX8_reaches6 ⟨Nat.le_of_ble_eq_true rfl, Nat.le_of_ble_eq_true rfl⟩) h rfl hl.1 rfl (Nat.le_of_ble_eq_true rfl) dX8_reaches_68 ⟨Nat.le_of_ble_eq_true rfl, Nat.le_of_ble_eq_true rfl⟩ (fun H locs h => ?_)
      refine lv_if_eq (tgt := 76) hx hb dX8_reaches_71 (by decide) (fun c4 => ?_) (fun c4 => ?_)
      · replace hf := xif_t hf c4
        obtain ⟨y5, ey5, hf⟩ := xl_s hf
        refine lv_iinc (v := y5) (lv' := [(5, .int y5), (0, .ref (Γ.2.1 1476)), (1, .ref (Γ.2.1 k1)), (2, .int v2), (3, .int v3), (4, .ref (Γ.2.1 k4))]) hx hb dX8_reaches_76 hl (k := 5) rfl (by rw [ey5]; rfl) (by decide) rfl (fun ls hl => ?_)
        refine lv_goto (tgt := 45) hx hb dX8_reaches_79 (by decide) ?_
        exact ih v2 v3 y5 r3.1 hf _ _ _ h (lv_sub hl [1, 2, 3, 4, 5, 0] rfl)
      · replace hf := xif_f hf c4
        refine lv_iconst (v := 1) hx hb dX8_reaches_74 (by decide) ?_
        exact x_zret hx hb h (Option.some.inj hf) hr hlocks (by decide) dX8_reaches_75
set_option maxHeartbeats 4000000 in
set_option maxRecDepth 100000 in
theorem m_X8_reaches7 (l : Launch) {Γ : xG} {N : Nat} {k1 : Nat} (h1 : isDk k1) {v2 : Int32} {v3 : Int32} {M : xM} {res : xR} (hf : F_X8_reaches7 N k1 v2 v3 M = some res) (sz : Nat) : Met l yX8_reaches (xWs yX8_reaches cX8_reaches 6 (some .boolean)) ({ frames := 9, cells := 0, slots := 0, locals := 240 } : Room) (va_Pc [.ref (Γ.2.1 1476), .ref (Γ.2.1 k1), .int v2, .int v3] (xPre Γ (wX Γ) M sz)) (xCi Γ (wX Γ) 1483 res sz) 0 0 (xAd Γ 1483 sz) := by
  refine x_met (Qc := fun sz => xCi Γ (wX Γ) 1483 res sz) pnX8 wG_W (Nat.le_of_ble_eq_true rfl) (fun p e s m args below meth c _ E h ls hl => ?_) sz
  obtain ⟨⟨hx, hb, hml, hown, hts⟩, hr, hlocks⟩ := id E
  have hl : lv_has ls 6 [(0, .ref (Γ.2.1 1476)), (1, .ref (Γ.2.1 k1)), (2, .int v2), (3, .int v3)] := hl
  refine lv_aload_n hx hb dX8_reaches_0 rfl (lv_at hl 0 rfl) ?_
  refine lv_iload_n hx hb dX8_reaches_1 rfl (lv_at hl 3 rfl) ?_
  obtain ⟨r1, er1, hf⟩ := xbd_s hf
  refine x_Vi (As := [.int v3]) (rest := []) E.1 (m_X8_isInReach l er1) (cwV 1 hts (xgV xU_sub q843 q844 q845 q32 q846) rfl rfl rfl hdX8_isInReach ⟨Nat.le_of_ble_eq_true rfl, Nat.le_of_ble_eq_true rfl⟩) h kX_least rfl rfl hl.1 rfl (Nat.le_of_ble_eq_true rfl) dX8_reaches_2 ⟨Nat.le_of_ble_eq_true rfl, Nat.le_of_ble_eq_true rfl⟩ (fun H locs h => ?_)
  refine lv_if_ne (tgt := 10) hx hb dX8_reaches_5 (by decide) (fun c2 => ?_) (fun c2 => ?_)
  · replace hf := xif_f hf c2
    refine lv_iload_n hx hb dX8_reaches_10 rfl (lv_at hl 3 rfl) ?_
    refine lv_if_ne (tgt := 16) hx hb dX8_reaches_11 (by decide) (fun c3 => ?_) (fun c3 => ?_)
    · replace hf := xif_f hf c3
      refine lv_iload_n hx hb dX8_reaches_16 rfl (lv_at hl 2 rfl) ?_
      refine lv_aload_n hx hb dX8_reaches_17 rfl (lv_at hl 1 rfl) ?_
      refine x_get (own := RX8) (ref := "TintDesk$Desk") (C := RX3) (T := TX3) (n := 9) (index := 40) (v := .int (r1.1.1 k1 4)) hx hb hts (fun w h => xU_sub w (inU3 w h)) hown h (kX_desk h1) rfl 4 (by decide) (hts _ (xU_sub _ q841)) (fun _ h9 => h9) rfl dX8_reaches_18 ?_
      refine lv_icmp_lt (tgt := 26) hx hb dX8_reaches_21 (by decide) (fun c4 => ?_) (fun c4 => ?_)
      · replace hf := xif_t hf c4
        refine lv_aload_n hx hb dX8_reaches_26 rfl (lv_at hl 1 rfl) ?_
        refine x_get (own := RX8) (ref := "TintDesk$Desk") (C := RX3) (T := TX3) (n := 9) (index := 45) (v := .ref (Γ.2.1 (k1 + 1))) hx hb hts (fun w h => xU_sub w (inU3 w h)) hown h (kX_desk h1) rfl 0 (by decide) (hts _ (xU_sub _ q842)) (fun _ h9 => h9) rfl dX8_reaches_27 ?_
        refine lv_iload_n hx hb dX8_reaches_30 rfl (lv_at hl 2 rfl) ?_
        obtain ⟨c5, hf⟩ := xck_s hf
        refine x_aald (C := "TintDesk$Colorant") hx hb h rfl (kX_desk_colorants h1) c5 dX8_reaches_31 ?_
        refine lv_astore (lv' := [(4, .ref (Γ.2.1 (k1 + 5 + 5 * v2.toNatClampNeg))), (0, .ref (Γ.2.1 1476)), (1, .ref (Γ.2.1 k1)), (2, .int v2), (3, .int v3)]) hx hb dX8_reaches_32 hl (by decide) rfl (fun ls hl => ?_)
        refine lv_iload_n hx hb dX8_reaches_34 rfl (lv_at hl 4 rfl) ?_
        refine lv_aload hx hb dX8_reaches_35 (lv_at hl 0 rfl) ?_
        obtain ⟨r6, er6, hf⟩ := xbd_s hf
        refine x_Vi (As := []) (rest := [.int v3]) E.1 (m_X2_stepsInside l (isCo_of h1 c5) er6) (cwV 0 hts (xgV xU_sub q847 q278 q279 q56 q280) rfl rfl rfl hdX2_stepsInside ⟨Nat.le_of_ble_eq_true rfl, Nat.le_of_ble_eq_true rfl⟩) h (kX_colorant (isCo_of h1 c5)) rfl rfl hl.1 rfl (Nat.le_of_ble_eq_true rfl) dX8_reaches_37 ⟨Nat.le_of_ble_eq_true rfl, Nat.le_of_ble_eq_true rfl⟩ (fun H locs h => ?_)
        refine va_mmin hx hb (hml.trans hl.1.symm) hown (hts _ (xU_sub _ q837)) (hts _ (xU_sub _ q165)) (hts _ (xU_sub _ q166)) (hts _ (xU_sub _ q167)) (Nat.le_of_ble_eq_true rfl) (Nat.le_of_ble_eq_true rfl) (Nat.le_of_ble_eq_true rfl) (Nat.le_of_ble_eq_true rfl) dX8_reaches_40 ?_
        obtain ⟨y7, ey7, hf⟩ := xl_s hf
        refine x_nm ey7 ?_
        refine lv_istore (lv' := [(5, .int y7), (4, .ref (Γ.2.1 (k1 + 5 + 5 * v2.toNatClampNeg))), (0, .ref (Γ.2.1 1476)), (1, .ref (Γ.2.1 k1)), (2, .int v2), (3, .int v3)]) hx hb dX8_reaches_43 hl (by decide) rfl (fun ls hl => ?_)
        exact w_X8_reaches7_45 l E h1 (isCo_of h1 c5) N v2 v3 y7 r6.1 hf _ _ _ h (lv_sub hl [2, 3, 4, 5, 1, 0] rfl)
      · replace hf := xif_f hf c4
        refine lv_iconst (v := 0) hx hb dX8_reaches_24 (by decide) ?_
        exact x_zret hx hb h (Option.some.inj hf) hr hlocks (by decide) dX8_reaches_25
    · replace hf := xif_t hf c3
      refine lv_iconst (v := 1) hx hb dX8_reaches_14 (by decide) ?_
      exact x_zret hx hb h (Option.some.inj hf) hr hlocks (by decide) dX8_reaches_15
  · replace hf := xif_t hf c2
    refine lv_iconst (v := 0) hx hb dX8_reaches_8 (by decide) ?_
    exact x_zret hx hb h (Option.some.inj hf) hr hlocks (by decide) dX8_reaches_9
theorem hdX8_reaches8 : yX8_reaches.cls = RX8 ∧ yX8_reaches.cls ≠ "java/lang/invoke/MethodHandle" ∧ yX8_reaches.cls ≠ "java/lang/invoke/VarHandle" ∧ (parseMethodDescriptor yX8_reaches.desc).map (fun d => d.parameters.length) = some 4 := by decide +kernel
set_option maxHeartbeats 4000000 in
set_option maxRecDepth 100000 in
theorem w_X8_reaches8_45 (l : Launch) {p : Program} {e : Env} {s : State} {m : MethodId} {args : Array Value} {below : List Frame} {meth : Method} {c : Code} {Γ : xG} {N : Nat} {k1 : Nat} {k4 : Nat} {res : xR} (E : xEv p s m args meth c RX8 cX8_reaches 6 (some .boolean) (xWs yX8_reaches cX8_reaches 6 (some .boolean))) (h1 : isDk k1) (h4 : isCo k4) : ∀ (n : Nat) (v2 : Int32) (v3 : Int32) (v5 : Int32) (M : xM), L_X8_reaches8_45 N k1 k4 n v2 v3 v5 M = some res → ∀ (H : Heap) (locs : List Loc) (ls : Array Slot), xH Γ (wX Γ) 1483 s M H locs → lv_has ls 6 [(0, .ref (Γ.2.1 1476)), (1, .ref (Γ.2.1 k1)), (2, .int v2), (3, .int v3), (4, .ref (Γ.2.1 k4)), (5, .int v5)] → W p l e ({ frames := 10, cells := 0, slots := 0, locals := 265 } : Room) s m args below meth c H locs 0 0 (MQ below (xCi Γ (wX Γ) 1483 res s.heap.size) args s 0 0 (xAd Γ 1483 s.heap.size)) (F0 m 45 ls []) := by
  obtain ⟨⟨hx, hb, hml, hown, hts⟩, hr, hlocks⟩ := id E
  intro n
  induction n with
  | zero => intro v2 v3 v5 M hf; cases hf
  | succ n ih =>
    intro v2 v3 v5 M hf H locs ls h hl
    refine lv_iload hx hb dX8_reaches_45 (lv_at hl 5 rfl) ?_
    refine lv_if_lt (tgt := 82) hx hb dX8_reaches_47 (by decide) (fun c1 => ?_) (fun c1 => ?_)
    · replace hf := xif_t hf c1
      refine lv_iconst (v := 0) hx hb dX8_reaches_82 (by decide) ?_
      exact x_zret hx hb h (Option.some.inj hf) hr hlocks (by decide) dX8_reaches_83
    · replace hf := xif_f hf c1
      refine lv_aload_n hx hb dX8_reaches_50 rfl (lv_at hl 0 rfl) ?_
      refine lv_aload hx hb dX8_reaches_51 (lv_at hl 4 rfl) ?_
      refine lv_iload_n hx hb dX8_reaches_53 rfl (lv_at hl 2 rfl) ?_
      refine lv_iload hx hb dX8_reaches_54 (lv_at hl 5 rfl) ?_
      obtain ⟨r2, er2, hf⟩ := xbd_s hf
      refine x_Vv (As := [.ref (Γ.2.1 k4), .int v2, .int v5]) (rest := []) E.1 (m_X8_choose l h4 er2) (cwV 3 hts (xgV xU_sub q848 q849 q850 q32 q851) rfl rfl rfl hdX8_choose ⟨Nat.le_of_ble_eq_true rfl, Nat.le_of_ble_eq_true rfl⟩) h kX_least rfl rfl hl.1 rfl (Nat.le_of_ble_eq_true rfl) dX8_reaches_56 ⟨Nat.le_of_ble_eq_true rfl, Nat.le_of_ble_eq_true rfl⟩ (fun H locs h => ?_)
      refine lv_aload_n hx hb dX8_reaches_59 rfl (lv_at hl 0 rfl) ?_
      refine lv_aload_n hx hb dX8_reaches_60 rfl (lv_at hl 1 rfl) ?_
      refine lv_iload_n hx hb dX8_reaches_61 rfl (lv_at hl 2 rfl) ?_
      refine lv_iconst (v := 1) hx hb dX8_reaches_62 (by decide) ?_
      refine lv_iadd hx hb dX8_reaches_63 ?_
      refine lv_iload_n hx hb dX8_reaches_64 rfl (lv_at hl 3 rfl) ?_
      refine lv_iload hx hb dX8_reaches_65 (lv_at hl 5 rfl) ?_
      refine lv_isub hx hb dX8_reaches_67 ?_
      obtain ⟨r3, er3, hf⟩ := xbd_s hf
      refine x_Si (As := [.ref (Γ.2.1 1476), .ref (Γ.2.1 k1), .int (v2 + 1), .int (v3 - v5)]) (rest := []) E.1 (m_X8_reaches7 l h1 er3) (cwS 4 hts (xgS xU_sub q838 q839 q32 q840) rfl rfl rfl hdX8_reaches7 ⟨Nat.le_of_ble_eq_true rfl, Nat.le_of_ble_eq_true rfl⟩) h rfl hl.1 rfl (Nat.le_of_ble_eq_true rfl) dX8_reaches_68 ⟨Nat.le_of_ble_eq_true rfl, Nat.le_of_ble_eq_true rfl⟩ (fun H locs h => ?_)
      refine lv_if_eq (tgt := 76) hx hb dX8_reaches_71 (by decide) (fun c4 => ?_) (fun c4 => ?_)
      · replace hf := xif_t hf c4
        obtain ⟨y5, ey5, hf⟩ := xl_s hf
        refine lv_iinc (v := y5) (lv' := [(5, .int y5), (0, .ref (Γ.2.1 1476)), (1, .ref (Γ.2.1 k1)), (2, .int v2), (3, .int v3), (4, .ref (Γ.2.1 k4))]) hx hb dX8_reaches_76 hl (k := 5) rfl (by rw [ey5]; rfl) (by decide) rfl (fun ls hl => ?_)
        refine lv_goto (tgt := 45) hx hb dX8_reaches_79 (by decide) ?_
        exact ih v2 v3 y5 r3.1 hf _ _ _ h (lv_sub hl [1, 2, 3, 4, 5, 0] rfl)
      · replace hf := xif_f hf c4
        refine lv_iconst (v := 1) hx hb dX8_reaches_74 (by decide) ?_
        exact x_zret hx hb h (Option.some.inj hf) hr hlocks (by decide) dX8_reaches_75
set_option maxHeartbeats 4000000 in
set_option maxRecDepth 100000 in
theorem m_X8_reaches8 (l : Launch) {Γ : xG} {N : Nat} {k1 : Nat} (h1 : isDk k1) {v2 : Int32} {v3 : Int32} {M : xM} {res : xR} (hf : F_X8_reaches8 N k1 v2 v3 M = some res) (sz : Nat) : Met l yX8_reaches (xWs yX8_reaches cX8_reaches 6 (some .boolean)) ({ frames := 10, cells := 0, slots := 0, locals := 265 } : Room) (va_Pc [.ref (Γ.2.1 1476), .ref (Γ.2.1 k1), .int v2, .int v3] (xPre Γ (wX Γ) M sz)) (xCi Γ (wX Γ) 1483 res sz) 0 0 (xAd Γ 1483 sz) := by
  refine x_met (Qc := fun sz => xCi Γ (wX Γ) 1483 res sz) pnX8 wG_W (Nat.le_of_ble_eq_true rfl) (fun p e s m args below meth c _ E h ls hl => ?_) sz
  obtain ⟨⟨hx, hb, hml, hown, hts⟩, hr, hlocks⟩ := id E
  have hl : lv_has ls 6 [(0, .ref (Γ.2.1 1476)), (1, .ref (Γ.2.1 k1)), (2, .int v2), (3, .int v3)] := hl
  refine lv_aload_n hx hb dX8_reaches_0 rfl (lv_at hl 0 rfl) ?_
  refine lv_iload_n hx hb dX8_reaches_1 rfl (lv_at hl 3 rfl) ?_
  obtain ⟨r1, er1, hf⟩ := xbd_s hf
  refine x_Vi (As := [.int v3]) (rest := []) E.1 (m_X8_isInReach l er1) (cwV 1 hts (xgV xU_sub q843 q844 q845 q32 q846) rfl rfl rfl hdX8_isInReach ⟨Nat.le_of_ble_eq_true rfl, Nat.le_of_ble_eq_true rfl⟩) h kX_least rfl rfl hl.1 rfl (Nat.le_of_ble_eq_true rfl) dX8_reaches_2 ⟨Nat.le_of_ble_eq_true rfl, Nat.le_of_ble_eq_true rfl⟩ (fun H locs h => ?_)
  refine lv_if_ne (tgt := 10) hx hb dX8_reaches_5 (by decide) (fun c2 => ?_) (fun c2 => ?_)
  · replace hf := xif_f hf c2
    refine lv_iload_n hx hb dX8_reaches_10 rfl (lv_at hl 3 rfl) ?_
    refine lv_if_ne (tgt := 16) hx hb dX8_reaches_11 (by decide) (fun c3 => ?_) (fun c3 => ?_)
    · replace hf := xif_f hf c3
      refine lv_iload_n hx hb dX8_reaches_16 rfl (lv_at hl 2 rfl) ?_
      refine lv_aload_n hx hb dX8_reaches_17 rfl (lv_at hl 1 rfl) ?_
      refine x_get (own := RX8) (ref := "TintDesk$Desk") (C := RX3) (T := TX3) (n := 9) (index := 40) (v := .int (r1.1.1 k1 4)) hx hb hts (fun w h => xU_sub w (inU3 w h)) hown h (kX_desk h1) rfl 4 (by decide) (hts _ (xU_sub _ q841)) (fun _ h9 => h9) rfl dX8_reaches_18 ?_
      refine lv_icmp_lt (tgt := 26) hx hb dX8_reaches_21 (by decide) (fun c4 => ?_) (fun c4 => ?_)
      · replace hf := xif_t hf c4
        refine lv_aload_n hx hb dX8_reaches_26 rfl (lv_at hl 1 rfl) ?_
        refine x_get (own := RX8) (ref := "TintDesk$Desk") (C := RX3) (T := TX3) (n := 9) (index := 45) (v := .ref (Γ.2.1 (k1 + 1))) hx hb hts (fun w h => xU_sub w (inU3 w h)) hown h (kX_desk h1) rfl 0 (by decide) (hts _ (xU_sub _ q842)) (fun _ h9 => h9) rfl dX8_reaches_27 ?_
        refine lv_iload_n hx hb dX8_reaches_30 rfl (lv_at hl 2 rfl) ?_
        obtain ⟨c5, hf⟩ := xck_s hf
        refine x_aald (C := "TintDesk$Colorant") hx hb h rfl (kX_desk_colorants h1) c5 dX8_reaches_31 ?_
        refine lv_astore (lv' := [(4, .ref (Γ.2.1 (k1 + 5 + 5 * v2.toNatClampNeg))), (0, .ref (Γ.2.1 1476)), (1, .ref (Γ.2.1 k1)), (2, .int v2), (3, .int v3)]) hx hb dX8_reaches_32 hl (by decide) rfl (fun ls hl => ?_)
        refine lv_iload_n hx hb dX8_reaches_34 rfl (lv_at hl 4 rfl) ?_
        refine lv_aload hx hb dX8_reaches_35 (lv_at hl 0 rfl) ?_
        obtain ⟨r6, er6, hf⟩ := xbd_s hf
        refine x_Vi (As := []) (rest := [.int v3]) E.1 (m_X2_stepsInside l (isCo_of h1 c5) er6) (cwV 0 hts (xgV xU_sub q847 q278 q279 q56 q280) rfl rfl rfl hdX2_stepsInside ⟨Nat.le_of_ble_eq_true rfl, Nat.le_of_ble_eq_true rfl⟩) h (kX_colorant (isCo_of h1 c5)) rfl rfl hl.1 rfl (Nat.le_of_ble_eq_true rfl) dX8_reaches_37 ⟨Nat.le_of_ble_eq_true rfl, Nat.le_of_ble_eq_true rfl⟩ (fun H locs h => ?_)
        refine va_mmin hx hb (hml.trans hl.1.symm) hown (hts _ (xU_sub _ q837)) (hts _ (xU_sub _ q165)) (hts _ (xU_sub _ q166)) (hts _ (xU_sub _ q167)) (Nat.le_of_ble_eq_true rfl) (Nat.le_of_ble_eq_true rfl) (Nat.le_of_ble_eq_true rfl) (Nat.le_of_ble_eq_true rfl) dX8_reaches_40 ?_
        obtain ⟨y7, ey7, hf⟩ := xl_s hf
        refine x_nm ey7 ?_
        refine lv_istore (lv' := [(5, .int y7), (4, .ref (Γ.2.1 (k1 + 5 + 5 * v2.toNatClampNeg))), (0, .ref (Γ.2.1 1476)), (1, .ref (Γ.2.1 k1)), (2, .int v2), (3, .int v3)]) hx hb dX8_reaches_43 hl (by decide) rfl (fun ls hl => ?_)
        exact w_X8_reaches8_45 l E h1 (isCo_of h1 c5) N v2 v3 y7 r6.1 hf _ _ _ h (lv_sub hl [2, 3, 4, 5, 1, 0] rfl)
      · replace hf := xif_f hf c4
        refine lv_iconst (v := 0) hx hb dX8_reaches_24 (by decide) ?_
        exact x_zret hx hb h (Option.some.inj hf) hr hlocks (by decide) dX8_reaches_25
    · replace hf := xif_t hf c3
      refine lv_iconst (v := 1) hx hb dX8_reaches_14 (by decide) ?_
      exact x_zret hx hb h (Option.some.inj hf) hr hlocks (by decide) dX8_reaches_15
  · replace hf := xif_t hf c2
    refine lv_iconst (v := 0) hx hb dX8_reaches_8 (by decide) ?_
    exact x_zret hx hb h (Option.some.inj hf) hr hlocks (by decide) dX8_reaches_9
theorem hdX8_succeeds : yX8_succeeds.cls = RX8 ∧ yX8_succeeds.cls ≠ "java/lang/invoke/MethodHandle" ∧ yX8_succeeds.cls ≠ "java/lang/invoke/VarHandle" ∧ (parseMethodDescriptor yX8_succeeds.desc).map (fun d => d.parameters.length) = some 2 := by decide +kernel
set_option maxHeartbeats 4000000 in
set_option maxRecDepth 100000 in
theorem w_X8_succeeds_31 (l : Launch) {p : Program} {e : Env} {s : State} {m : MethodId} {args : Array Value} {below : List Frame} {meth : Method} {c : Code} {Γ : xG} {N : Nat} {k1 : Nat} {res : xR} (E : xEv p s m args meth c RX8 cX8_succeeds 5 (some .boolean) (xWs yX8_succeeds cX8_succeeds 5 (some .boolean))) (h1 : isDk k1) : ∀ (n : Nat) (v3 : Int32) (v4 : Int32) (M : xM), L_X8_succeeds_31 N k1 n v3 v4 M = some res → ∀ (H : Heap) (locs : List Loc) (ls : Array Slot), xH Γ (wX Γ) 1483 s M H locs → lv_has ls 5 [(0, .ref (Γ.2.1 1476)), (1, .ref (Γ.2.1 k1)), (3, .int v3), (4, .int v4)] → W p l e ({ frames := 11, cells := 0, slots := 0, locals := 290 } : Room) s m args below meth c H locs 0 0 (MQ below (xCi Γ (wX Γ) 1483 res s.heap.size) args s 0 0 (xAd Γ 1483 s.heap.size)) (F0 m 31 ls []) := by
  obtain ⟨⟨hx, hb, hml, hown, hts⟩, hr, hlocks⟩ := id E
  intro n
  induction n with
  | zero => intro v3 v4 M hf; cases hf
  | succ n ih =>
    intro v3 v4 M hf H locs ls h hl
    refine lv_iload hx hb dX8_succeeds_31 (lv_at hl 3 rfl) ?_
    refine lv_iload_n hx hb dX8_succeeds_33 rfl (lv_at hl 2 rfl) ?_
    refine lv_icmp_gt (tgt := 62) hx hb dX8_succeeds_34 (by decide) (fun c1 => ?_) (fun c1 => ?_)
    · replace hf := xif_t hf c1
      refine lv_iconst (v := 0) hx hb dX8_succeeds_62 (by decide) ?_
      exact x_zret hx hb h (Option.some.inj hf) hr hlocks (by decide) dX8_succeeds_63
    · replace hf := xif_f hf c1
      refine lv_aload_n hx hb dX8_succeeds_37 rfl (lv_at hl 0 rfl) ?_
      refine lv_aload_n hx hb dX8_succeeds_38 rfl (lv_at hl 1 rfl) ?_
      refine lv_iconst (v := 0) hx hb dX8_succeeds_39 (by decide) ?_
      refine lv_iload hx hb dX8_succeeds_40 (lv_at hl 3 rfl) ?_
      obtain ⟨r2, er2, hf⟩ := xbd_s hf
      refine x_Si (As := [.ref (Γ.2.1 1476), .ref (Γ.2.1 k1), .int 0, .int v4]) (rest := []) E.1 (m_X8_reaches8 l h1 er2) (cwS 4 hts (xgS xU_sub q838 q839 q32 q840) rfl rfl rfl hdX8_reaches8 ⟨Nat.le_of_ble_eq_true rfl, Nat.le_of_ble_eq_true rfl⟩) h rfl hl.1 rfl (Nat.le_of_ble_eq_true rfl) dX8_succeeds_42 ⟨Nat.le_of_ble_eq_true rfl, Nat.le_of_ble_eq_true rfl⟩ (fun H locs h => ?_)
      refine lv_if_eq (tgt := 56) hx hb dX8_succeeds_45 (by decide) (fun c3 => ?_) (fun c3 => ?_)
      · replace hf := xif_t hf c3
        obtain ⟨y4, ey4, hf⟩ := xl_s hf
        refine lv_iinc (v := y4) (lv' := [(4, .int y4), (0, .ref (Γ.2.1 1476)), (1, .ref (Γ.2.1 k1)), (3, .int v3)]) hx hb dX8_succeeds_56 hl (k := 3) rfl (by rw [ey4]; rfl) (by decide) rfl (fun ls hl => ?_)
        refine lv_goto (tgt := 31) hx hb dX8_succeeds_59 (by decide) ?_
        exact ih v3 y4 r2.1 hf _ _ _ h (lv_sub hl [1, 2, 3, 0] rfl)
      · replace hf := xif_f hf c3
        refine lv_aload_n hx hb dX8_succeeds_48 rfl (lv_at hl 0 rfl) ?_
        refine lv_iload hx hb dX8_succeeds_49 (lv_at hl 3 rfl) ?_
        obtain ⟨M5, eM5, hf⟩ := xl_s hf
        refine x_put (own := RX8) (ref := "TintDesk$LeastCorrection") (C := RX8) (T := TX8) (n := 4) (index := 19) (ty := .int) hx hb hts (fun w h => xU_sub w (inU8 w h)) tyX8 tyX8_ok nmX8 hown h kX_least rfl 2 (by decide) (hts _ (xU_sub _ q121)) (fun _ h9 => h9) rfl (by decide +kernel) rfl rfl (Nat.le_of_ble_eq_true rfl) rfl eM5 dX8_succeeds_51 (fun H locs h => ?_)
        refine lv_iconst (v := 1) hx hb dX8_succeeds_54 (by decide) ?_
        exact x_zret hx hb h (Option.some.inj hf) hr hlocks (by decide) dX8_succeeds_55
set_option maxHeartbeats 4000000 in
set_option maxRecDepth 100000 in
theorem w_X8_succeeds_2 (l : Launch) {p : Program} {e : Env} {s : State} {m : MethodId} {args : Array Value} {below : List Frame} {meth : Method} {c : Code} {Γ : xG} {N : Nat} {k1 : Nat} {res : xR} (E : xEv p s m args meth c RX8 cX8_succeeds 5 (some .boolean) (xWs yX8_succeeds cX8_succeeds 5 (some .boolean))) (h1 : isDk k1) : ∀ (n : Nat) (v2 : Int32) (v3 : Int32) (M : xM), L_X8_succeeds_2 N k1 n v2 v3 M = some res → ∀ (H : Heap) (locs : List Loc) (ls : Array Slot), xH Γ (wX Γ) 1483 s M H locs → lv_has ls 5 [(0, .ref (Γ.2.1 1476)), (1, .ref (Γ.2.1 k1)), (2, .int v2), (3, .int v3)] → W p l e ({ frames := 11, cells := 0, slots := 0, locals := 290 } : Room) s m args below meth c H locs 0 0 (MQ below (xCi Γ (wX Γ) 1483 res s.heap.size) args s 0 0 (xAd Γ 1483 s.heap.size)) (F0 m 2 ls []) := by
  obtain ⟨⟨hx, hb, hml, hown, hts⟩, hr, hlocks⟩ := id E
  intro n
  induction n with
  | zero => intro v2 v3 M hf; cases hf
  | succ n ih =>
    intro v2 v3 M hf H locs ls h hl
    refine lv_iload_n hx hb dX8_succeeds_2 rfl (lv_at hl 3 rfl) ?_
    refine lv_bipush (v := 8) hx hb dX8_succeeds_3 (by decide) ?_
    refine lv_icmp_ge (tgt := 21) hx hb dX8_succeeds_5 (by decide) (fun c1 => ?_) (fun c1 => ?_)
    · replace hf := xif_t hf c1
      refine lv_iload_n hx hb dX8_succeeds_21 rfl (lv_at hl 2 rfl) ?_
      refine lv_bipush (v := 6) hx hb dX8_succeeds_22 (by decide) ?_
      refine va_mmin hx hb (hml.trans hl.1.symm) hown (hts _ (xU_sub _ q837)) (hts _ (xU_sub _ q165)) (hts _ (xU_sub _ q166)) (hts _ (xU_sub _ q167)) (Nat.le_of_ble_eq_true rfl) (Nat.le_of_ble_eq_true rfl) (Nat.le_of_ble_eq_true rfl) (Nat.le_of_ble_eq_true rfl) dX8_succeeds_24 ?_
      obtain ⟨y2, ey2, hf⟩ := xl_s hf
      refine x_nm ey2 ?_
      refine lv_istore_n (lv' := [(3, .int y2), (0, .ref (Γ.2.1 1476)), (1, .ref (Γ.2.1 k1)), (2, .int v2)]) hx hb dX8_succeeds_27 rfl hl (by decide) rfl (fun ls hl => ?_)
      refine lv_iconst (v := 0) hx hb dX8_succeeds_28 (by decide) ?_
      refine lv_istore (lv' := [(4, .int 0), (3, .int y2), (0, .ref (Γ.2.1 1476)), (1, .ref (Γ.2.1 k1)), (2, .int v2)]) hx hb dX8_succeeds_29 hl (by decide) rfl (fun ls hl => ?_)
      exact w_X8_succeeds_31 l E h1 N y2 0 M hf _ _ _ h (lv_sub hl [2, 3, 1, 0] rfl)
    · replace hf := xif_f hf c1
      refine lv_aload_n hx hb dX8_succeeds_8 rfl (lv_at hl 0 rfl) ?_
      refine x_get (own := RX8) (ref := "TintDesk$LeastCorrection") (C := RX8) (T := TX8) (n := 4) (index := 22) (v := .ref (Γ.2.1 1478)) hx hb hts (fun w h => xU_sub w (inU8 w h)) hown h kX_least rfl 3 (by decide) (hts _ (xU_sub _ q122)) (fun _ h9 => h9) rfl dX8_succeeds_9 ?_
      refine lv_iload_n hx hb dX8_succeeds_12 rfl (lv_at hl 3 rfl) ?_
      refine lv_iconst (v := 0) hx hb dX8_succeeds_13 (by decide) ?_
      obtain ⟨c3, hf⟩ := xck_s hf
      obtain ⟨M4, eM4, hf⟩ := xl_s hf
      refine x_iast hx hb h kX_least_chosen (xin_in c3) eM4 dX8_succeeds_14 (fun H locs h => ?_)
      obtain ⟨y5, ey5, hf⟩ := xl_s hf
      refine lv_iinc (v := y5) (lv' := [(3, .int y5), (0, .ref (Γ.2.1 1476)), (1, .ref (Γ.2.1 k1)), (2, .int v2)]) hx hb dX8_succeeds_15 hl (k := 3) rfl (by rw [ey5]; rfl) (by decide) rfl (fun ls hl => ?_)
      refine lv_goto (tgt := 2) hx hb dX8_succeeds_18 (by decide) ?_
      exact ih v2 y5 M4 hf _ _ _ h (lv_sub hl [1, 2, 3, 0] rfl)
set_option maxHeartbeats 4000000 in
set_option maxRecDepth 100000 in
theorem m_X8_succeeds (l : Launch) {Γ : xG} {N : Nat} {k1 : Nat} (h1 : isDk k1) {v2 : Int32} {M : xM} {res : xR} (hf : F_X8_succeeds N k1 v2 M = some res) (sz : Nat) : Met l yX8_succeeds (xWs yX8_succeeds cX8_succeeds 5 (some .boolean)) ({ frames := 11, cells := 0, slots := 0, locals := 290 } : Room) (va_Pc [.ref (Γ.2.1 1476), .ref (Γ.2.1 k1), .int v2] (xPre Γ (wX Γ) M sz)) (xCi Γ (wX Γ) 1483 res sz) 0 0 (xAd Γ 1483 sz) := by
  refine x_met (Qc := fun sz => xCi Γ (wX Γ) 1483 res sz) pnX8 wG_W (Nat.le_of_ble_eq_true rfl) (fun p e s m args below meth c _ E h ls hl => ?_) sz
  obtain ⟨⟨hx, hb, hml, hown, hts⟩, hr, hlocks⟩ := id E
  have hl : lv_has ls 5 [(0, .ref (Γ.2.1 1476)), (1, .ref (Γ.2.1 k1)), (2, .int v2)] := hl
  refine lv_iconst (v := 0) hx hb dX8_succeeds_0 (by decide) ?_
  refine lv_istore_n (lv' := [(3, .int 0), (0, .ref (Γ.2.1 1476)), (1, .ref (Γ.2.1 k1)), (2, .int v2)]) hx hb dX8_succeeds_1 rfl hl (by decide) rfl (fun ls hl => ?_)
  exact w_X8_succeeds_2 l E h1 N v2 0 M hf _ _ _ h (lv_sub hl [1, 2, 3, 0] rfl)
