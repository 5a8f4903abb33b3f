def cBase (Γ : xG) (ad : Nat → Nat) : Nat → va_E := fun k => match k with
  | 0 => .inr (2, [.ref (ad 1), .int 0, .int 0])
  | _ => .inl (Γ.2.2 1, 3, .inl (fun _ => 0))
theorem hdX0_init : yX0_init.cls ≠ "java/lang/invoke/MethodHandle" ∧ yX0_init.cls ≠ "java/lang/invoke/VarHandle" ∧ (parseMethodDescriptor yX0_init.desc).map (fun d => d.parameters.length) = some 0 := by decide +kernel
set_option maxHeartbeats 4000000 in
set_option maxRecDepth 100000 in
theorem m_X0_init (l : Launch) {Γ : xG} {h0 : Nat} (sz : Nat) : Met l yX0_init (xWs yX0_init cX0_init 1 none) ({ frames := 2, cells := 1, slots := 3, locals := 40 } : Room) (va_Pc [.ref h0] (yPre Γ h0 (.inr (2, [.null, .int 0, .int 0])) sz)) (yQ Γ h0 2 (cBase Γ) sz) 1 3 (yA h0 sz) := by
  refine y_met pnX0 rfl (by decide) (fun p e s m args below meth c E hN hin h ls hl => ?_) sz
  obtain ⟨⟨hx, hb, hml, hown, hts⟩, hr, hlocks⟩ := id E
  have hA : ∀ q, s.heap.size ≤ q → yA h0 s.heap.size q := fun q hq => Or.inr hq
  refine lv_aload_n hx hb dX0_init_0 rfl (lv_at hl 0 rfl) ?_
  refine W.objInit hx hb hown (hts _ (xU_sub _ q79)) (hts _ (xU_sub _ q12)) (hts _ (xU_sub _ qOI)) rfl (by rw [hml]; exact hl.1) rfl dX0_init_1 (Nat.le_of_ble_eq_true rfl) (Nat.le_of_ble_eq_true rfl) ?_
  refine W.eq (g2 := F0 m 4 ls []) rfl ?_
  refine lv_aload_n hx hb dX0_init_4 rfl (lv_at hl 0 rfl) ?_
  refine lv_iconst (v := 3) hx hb dX0_init_5 (by decide) ?_
  refine y_newa (a0 := (3, .inl (fun _ => 0))) (ty := .int) hx hb 1 rfl (hts _ (xU_sub _ q66)) h hA rfl (fun _ => rfl) (by decide) (by decide) (by decide) (Nat.le_of_ble_eq_true rfl) (Nat.le_of_ble_eq_true rfl) dX0_init_6 (fun q6 H h => ?_)
  have h : yH Γ _ s [(h0, .inr (2, [.null, .int 0, .int 0])), (q6, .inl (Γ.2.2 1, 3, .inl (fun _ => 0)))] H _ := h
  refine y_putF (own := RX0) (ref := "TintDesk$Base") (C := RX0) (T := TX0) (N := 3) (index := 9) (v := .ref q6) (ty := .array .int) hx hb hts (fun w h => xU_sub w (inU0 w h)) tyX0 tyX0_ok nmX0 hown h 0 rfl rfl 0 (by decide) (hts _ (xU_sub _ q80)) (fun _ h9 => h9) rfl hin rfl rfl rfl rfl (Nat.le_of_ble_eq_true rfl) dX0_init_8 (fun H locs h => ?_)
  have h : yH Γ _ s [(h0, .inr (2, [.ref q6, .int 0, .int 0])), (q6, .inl (Γ.2.2 1, 3, .inl (fun _ => 0)))] H _ := h
  refine lv_aload_n hx hb dX0_init_11 rfl (lv_at hl 0 rfl) ?_
  refine lv_iconst (v := 0) hx hb dX0_init_12 (by decide) ?_
  refine y_put (own := RX0) (ref := "TintDesk$Base") (C := RX0) (T := TX0) (N := 3) (index := 15) (v := .int 0) (ty := .int) hx hb hts (fun w h => xU_sub w (inU0 w h)) tyX0 tyX0_ok nmX0 hown h 0 rfl rfl 1 (by decide) (hts _ (xU_sub _ q81)) (fun _ h9 => h9) rfl rfl rfl rfl (Nat.le_of_ble_eq_true rfl) dX0_init_13 (fun H locs h => ?_)
  have h : yH Γ _ s [(h0, .inr (2, [.ref q6, .int 0, .int 0])), (q6, .inl (Γ.2.2 1, 3, .inl (fun _ => 0)))] H _ := h
  refine lv_aload_n hx hb dX0_init_16 rfl (lv_at hl 0 rfl) ?_
  refine lv_iconst (v := 0) hx hb dX0_init_17 (by decide) ?_
  refine y_put (own := RX0) (ref := "TintDesk$Base") (C := RX0) (T := TX0) (N := 3) (index := 19) (v := .int 0) (ty := .int) hx hb hts (fun w h => xU_sub w (inU0 w h)) tyX0 tyX0_ok nmX0 hown h 0 rfl rfl 2 (by decide) (hts _ (xU_sub _ q82)) (fun _ h9 => h9) rfl rfl rfl rfl (Nat.le_of_ble_eq_true rfl) dX0_init_18 (fun H locs h => ?_)
  have h : yH Γ _ s [(h0, .inr (2, [.ref q6, .int 0, .int 0])), (q6, .inl (Γ.2.2 1, 3, .inl (fun _ => 0)))] H _ := h
  exact y_ret (cf := cBase Γ) (fun k => match k with | 0 => h0 | _ => q6) hx hb h rfl rfl hr hlocks dX0_init_21
theorem cBase_cong {Γ : xG} {f g : Nat → Nat} (h : ∀ j, j < 2 → f j = g j) (r : Nat) : cBase Γ f r = cBase Γ g r := by
  have h1 := h 1 (by decide)
  unfold cBase
  rw [h1]
def cCan (Γ : xG) (ad : Nat → Nat) : Nat → va_E := fun k => match k with
  | 0 => .inr (3, [.int 0, .int 0, .int 0, .int 0, .ref (ad 1), .ref (ad 2)])
  | 1 => .inl (Γ.2.2 1, 8, .inl (fun _ => 0))
  | _ => .inl (Γ.2.2 2, 16, .inr (.inl (fun _ => 0)))
theorem hdX1_init : yX1_init.cls ≠ "java/lang/invoke/MethodHandle" ∧ yX1_init.cls ≠ "java/lang/invoke/VarHandle" ∧ (parseMethodDescriptor yX1_init.desc).map (fun d => d.parameters.length) = some 0 := by decide +kernel
set_option maxHeartbeats 4000000 in
set_option maxRecDepth 100000 in
theorem m_X1_init (l : Launch) {Γ : xG} {h0 : Nat} (sz : Nat) : Met l yX1_init (xWs yX1_init cX1_init 1 none) ({ frames := 2, cells := 2, slots := 24, locals := 40 } : Room) (va_Pc [.ref h0] (yPre Γ h0 (.inr (3, [.int 0, .int 0, .int 0, .int 0, .null, .null])) sz)) (yQ Γ h0 3 (cCan Γ) sz) 2 24 (yA h0 sz) := by
  refine y_met pnX1 rfl (by decide) (fun p e s m args below meth c E hN hin h ls hl => ?_) sz
  obtain ⟨⟨hx, hb, hml, hown, hts⟩, hr, hlocks⟩ := id E
  have hA : ∀ q, s.heap.size ≤ q → yA h0 s.heap.size q := fun q hq => Or.inr hq
  refine lv_aload_n hx hb dX1_init_0 rfl (lv_at hl 0 rfl) ?_
  refine W.objInit hx hb hown (hts _ (xU_sub _ q91)) (hts _ (xU_sub _ q12)) (hts _ (xU_sub _ qOI)) rfl (by rw [hml]; exact hl.1) rfl dX1_init_1 (Nat.le_of_ble_eq_true rfl) (Nat.le_of_ble_eq_true rfl) ?_
  refine W.eq (g2 := F0 m 4 ls []) rfl ?_
  refine lv_aload_n hx hb dX1_init_4 rfl (lv_at hl 0 rfl) ?_
  refine lv_iconst (v := 0) hx hb dX1_init_5 (by decide) ?_
  refine y_put (own := RX1) (ref := "TintDesk$Can") (C := RX1) (T := TX1) (N := 6) (index := 9) (v := .int 0) (ty := .int) hx hb hts (fun w h => xU_sub w (inU1 w h)) tyX1 tyX1_ok nmX1 hown h 0 rfl rfl 0 (by decide) (hts _ (xU_sub _ q92)) (fun _ h9 => h9) rfl rfl rfl rfl (Nat.le_of_ble_eq_true rfl) dX1_init_6 (fun H locs h => ?_)
  have h : yH Γ _ s [(h0, .inr (3, [.int 0, .int 0, .int 0, .int 0, .null, .null]))] H _ := h
  refine lv_aload_n hx hb dX1_init_9 rfl (lv_at hl 0 rfl) ?_
  refine lv_iconst (v := 0) hx hb dX1_init_10 (by decide) ?_
  refine y_put (own := RX1) (ref := "TintDesk$Can") (C := RX1) (T := TX1) (N := 6) (index := 15) (v := .int 0) (ty := .int) hx hb hts (fun w h => xU_sub w (inU1 w h)) tyX1 tyX1_ok nmX1 hown h 0 rfl rfl 1 (by decide) (hts _ (xU_sub _ q93)) (fun _ h9 => h9) rfl rfl rfl rfl (Nat.le_of_ble_eq_true rfl) dX1_init_11 (fun H locs h => ?_)
  have h : yH Γ _ s [(h0, .inr (3, [.int 0, .int 0, .int 0, .int 0, .null, .null]))] H _ := h
  refine lv_aload_n hx hb dX1_init_14 rfl (lv_at hl 0 rfl) ?_
  refine lv_iconst (v := 0) hx hb dX1_init_15 (by decide) ?_
  refine y_put (own := RX1) (ref := "TintDesk$Can") (C := RX1) (T := TX1) (N := 6) (index := 18) (v := .int 0) (ty := .int) hx hb hts (fun w h => xU_sub w (inU1 w h)) tyX1 tyX1_ok nmX1 hown h 0 rfl rfl 2 (by decide) (hts _ (xU_sub _ q94)) (fun _ h9 => h9) rfl rfl rfl rfl (Nat.le_of_ble_eq_true rfl) dX1_init_16 (fun H locs h => ?_)
  have h : yH Γ _ s [(h0, .inr (3, [.int 0, .int 0, .int 0, .int 0, .null, .null]))] H _ := h
  refine lv_aload_n hx hb dX1_init_19 rfl (lv_at hl 0 rfl) ?_
  refine lv_iconst (v := 0) hx hb dX1_init_20 (by decide) ?_
  refine y_put (own := RX1) (ref := "TintDesk$Can") (C := RX1) (T := TX1) (N := 6) (index := 21) (v := .int 0) (ty := .int) hx hb hts (fun w h => xU_sub w (inU1 w h)) tyX1 tyX1_ok nmX1 hown h 0 rfl rfl 3 (by decide) (hts _ (xU_sub _ q95)) (fun _ h9 => h9) rfl rfl rfl rfl (Nat.le_of_ble_eq_true rfl) dX1_init_21 (fun H locs h => ?_)
  have h : yH Γ _ s [(h0, .inr (3, [.int 0, .int 0, .int 0, .int 0, .null, .null]))] H _ := h
  refine lv_aload_n hx hb dX1_init_24 rfl (lv_at hl 0 rfl) ?_
  refine lv_bipush (v := 8) hx hb dX1_init_25 (by decide) ?_
  refine y_newa (a0 := (8, .inl (fun _ => 0))) (ty := .int) hx hb 1 rfl (hts _ (xU_sub _ q66)) h hA rfl (fun _ => rfl) (by decide) (by decide) (by decide) (Nat.le_of_ble_eq_true rfl) (Nat.le_of_ble_eq_true rfl) dX1_init_27 (fun q27 H h => ?_)
  have h : yH Γ _ s [(h0, .inr (3, [.int 0, .int 0, .int 0, .int 0, .null, .null])), (q27, .inl (Γ.2.2 1, 8, .inl (fun _ => 0)))] H _ := h
  refine y_putF (own := RX1) (ref := "TintDesk$Can") (C := RX1) (T := TX1) (N := 6) (index := 24) (v := .ref q27) (ty := .array .int) hx hb hts (fun w h => xU_sub w (inU1 w h)) tyX1 tyX1_ok nmX1 hown h 0 rfl rfl 4 (by decide) (hts _ (xU_sub _ q96)) (fun _ h9 => h9) rfl hin rfl rfl rfl rfl (Nat.le_of_ble_eq_true rfl) dX1_init_29 (fun H locs h => ?_)
  have h : yH Γ _ s [(h0, .inr (3, [.int 0, .int 0, .int 0, .int 0, .ref q27, .null])), (q27, .inl (Γ.2.2 1, 8, .inl (fun _ => 0)))] H _ := h
  refine lv_aload_n hx hb dX1_init_32 rfl (lv_at hl 0 rfl) ?_
  refine lv_bipush (v := 16) hx hb dX1_init_33 (by decide) ?_
  refine y_newa (a0 := (16, .inr (.inl (fun _ => 0)))) (ty := .long) hx hb 2 rfl (hts _ (xU_sub _ q6)) h hA rfl (fun _ => rfl) (by decide) (by decide) (by decide) (Nat.le_of_ble_eq_true rfl) (Nat.le_of_ble_eq_true rfl) dX1_init_35 (fun q35 H h => ?_)
  have h : yH Γ _ s [(h0, .inr (3, [.int 0, .int 0, .int 0, .int 0, .ref q27, .null])), (q27, .inl (Γ.2.2 1, 8, .inl (fun _ => 0))), (q35, .inl (Γ.2.2 2, 16, .inr (.inl (fun _ => 0))))] H _ := h
  refine y_putF (own := RX1) (ref := "TintDesk$Can") (C := RX1) (T := TX1) (N := 6) (index := 28) (v := .ref q35) (ty := .array .long) hx hb hts (fun w h => xU_sub w (inU1 w h)) tyX1 tyX1_ok nmX1 hown h 0 rfl rfl 5 (by decide) (hts _ (xU_sub _ q97)) (fun _ h9 => h9) rfl hin rfl rfl rfl rfl (Nat.le_of_ble_eq_true rfl) dX1_init_37 (fun H locs h => ?_)
  have h : yH Γ _ s [(h0, .inr (3, [.int 0, .int 0, .int 0, .int 0, .ref q27, .ref q35])), (q27, .inl (Γ.2.2 1, 8, .inl (fun _ => 0))), (q35, .inl (Γ.2.2 2, 16, .inr (.inl (fun _ => 0))))] H _ := h
  exact y_ret (cf := cCan Γ) (fun k => match k with | 0 => h0 | 1 => q27 | _ => q35) hx hb h rfl rfl hr hlocks dX1_init_40
theorem cCan_cong {Γ : xG} {f g : Nat → Nat} (h : ∀ j, j < 3 → f j = g j) (r : Nat) : cCan Γ f r = cCan Γ g r := by
  have h1 := h 1 (by decide)
  have h2 := h 2 (by decide)
  unfold cCan
  rw [h1, h2]
def cColorant (Γ : xG) (ad : Nat → Nat) : Nat → va_E := fun k => match k with
  | 0 => .inr (4, [.ref (ad 1), .int 0, .int 0, .int 0, .int 0, .int 0, .int 0, .ref (ad 2), .ref (ad 3), .ref (ad 4)])
  | 1 => .inl (Γ.2.2 1, 3, .inl (fun _ => 0))
  | 2 => .inl (Γ.2.2 1, 12, .inl (fun _ => 0))
  | 3 => .inl (Γ.2.2 1, 12, .inl (fun _ => 0))
  | _ => .inl (Γ.2.2 1, 12, .inl (fun _ => 0))
theorem hdX2_init : yX2_init.cls ≠ "java/lang/invoke/MethodHandle" ∧ yX2_init.cls ≠ "java/lang/invoke/VarHandle" ∧ (parseMethodDescriptor yX2_init.desc).map (fun d => d.parameters.length) = some 0 := by decide +kernel
set_option maxHeartbeats 4000000 in
set_option maxRecDepth 100000 in
theorem m_X2_init (l : Launch) {Γ : xG} {h0 : Nat} (sz : Nat) : Met l yX2_init (xWs yX2_init cX2_init 1 none) ({ frames := 2, cells := 4, slots := 39, locals := 40 } : Room) (va_Pc [.ref h0] (yPre Γ h0 (.inr (4, [.null, .int 0, .int 0, .int 0, .int 0, .int 0, .int 0, .null, .null, .null])) sz)) (yQ Γ h0 5 (cColorant Γ) sz) 4 39 (yA h0 sz) := by
  refine y_met pnX2 rfl (by decide) (fun p e s m args below meth c E hN hin h ls hl => ?_) sz
  obtain ⟨⟨hx, hb, hml, hown, hts⟩, hr, hlocks⟩ := id E
  have hA : ∀ q, s.heap.size ≤ q → yA h0 s.heap.size q := fun q hq => Or.inr hq
  refine lv_aload_n hx hb dX2_init_0 rfl (lv_at hl 0 rfl) ?_
  refine W.objInit hx hb hown (hts _ (xU_sub _ q65)) (hts _ (xU_sub _ q12)) (hts _ (xU_sub _ qOI)) rfl (by rw [hml]; exact hl.1) rfl dX2_init_1 (Nat.le_of_ble_eq_true rfl) (Nat.le_of_ble_eq_true rfl) ?_
  refine W.eq (g2 := F0 m 4 ls []) rfl ?_
  refine lv_aload_n hx hb dX2_init_4 rfl (lv_at hl 0 rfl) ?_
  refine lv_iconst (v := 3) hx hb dX2_init_5 (by decide) ?_
  refine y_newa (a0 := (3, .inl (fun _ => 0))) (ty := .int) hx hb 1 rfl (hts _ (xU_sub _ q66)) h hA rfl (fun _ => rfl) (by decide) (by decide) (by decide) (Nat.le_of_ble_eq_true rfl) (Nat.le_of_ble_eq_true rfl) dX2_init_6 (fun q6 H h => ?_)
  have h : yH Γ _ s [(h0, .inr (4, [.null, .int 0, .int 0, .int 0, .int 0, .int 0, .int 0, .null, .null, .null])), (q6, .inl (Γ.2.2 1, 3, .inl (fun _ => 0)))] H _ := h
  refine y_putF (own := RX2) (ref := "TintDesk$Colorant") (C := RX2) (T := TX2) (N := 10) (index := 9) (v := .ref q6) (ty := .array .int) hx hb hts (fun w h => xU_sub w (inU2 w h)) tyX2 tyX2_ok nmX2 hown h 0 rfl rfl 0 (by decide) (hts _ (xU_sub _ q67)) (fun _ h9 => h9) rfl hin rfl rfl rfl rfl (Nat.le_of_ble_eq_true rfl) dX2_init_8 (fun H locs h => ?_)
  have h : yH Γ _ s [(h0, .inr (4, [.ref q6, .int 0, .int 0, .int 0, .int 0, .int 0, .int 0, .null, .null, .null])), (q6, .inl (Γ.2.2 1, 3, .inl (fun _ => 0)))] H _ := h
  refine lv_aload_n hx hb dX2_init_11 rfl (lv_at hl 0 rfl) ?_
  refine lv_iconst (v := 0) hx hb dX2_init_12 (by decide) ?_
  refine y_put (own := RX2) (ref := "TintDesk$Colorant") (C := RX2) (T := TX2) (N := 10) (index := 15) (v := .int 0) (ty := .int) hx hb hts (fun w h => xU_sub w (inU2 w h)) tyX2 tyX2_ok nmX2 hown h 0 rfl rfl 1 (by decide) (hts _ (xU_sub _ q68)) (fun _ h9 => h9) rfl rfl rfl rfl (Nat.le_of_ble_eq_true rfl) dX2_init_13 (fun H locs h => ?_)
  have h : yH Γ _ s [(h0, .inr (4, [.ref q6, .int 0, .int 0, .int 0, .int 0, .int 0, .int 0, .null, .null, .null])), (q6, .inl (Γ.2.2 1, 3, .inl (fun _ => 0)))] H _ := h
  refine lv_aload_n hx hb dX2_init_16 rfl (lv_at hl 0 rfl) ?_
  refine lv_iconst (v := 0) hx hb dX2_init_17 (by decide) ?_
  refine y_put (own := RX2) (ref := "TintDesk$Colorant") (C := RX2) (T := TX2) (N := 10) (index := 19) (v := .int 0) (ty := .int) hx hb hts (fun w h => xU_sub w (inU2 w h)) tyX2 tyX2_ok nmX2 hown h 0 rfl rfl 2 (by decide) (hts _ (xU_sub _ q69)) (fun _ h9 => h9) rfl rfl rfl rfl (Nat.le_of_ble_eq_true rfl) dX2_init_18 (fun H locs h => ?_)
  have h : yH Γ _ s [(h0, .inr (4, [.ref q6, .int 0, .int 0, .int 0, .int 0, .int 0, .int 0, .null, .null, .null])), (q6, .inl (Γ.2.2 1, 3, .inl (fun _ => 0)))] H _ := h
  refine lv_aload_n hx hb dX2_init_21 rfl (lv_at hl 0 rfl) ?_
  refine lv_iconst (v := 0) hx hb dX2_init_22 (by decide) ?_
  refine y_put (own := RX2) (ref := "TintDesk$Colorant") (C := RX2) (T := TX2) (N := 10) (index := 22) (v := .int 0) (ty := .int) hx hb hts (fun w h => xU_sub w (inU2 w h)) tyX2 tyX2_ok nmX2 hown h 0 rfl rfl 3 (by decide) (hts _ (xU_sub _ q70)) (fun _ h9 => h9) rfl rfl rfl rfl (Nat.le_of_ble_eq_true rfl) dX2_init_23 (fun H locs h => ?_)
  have h : yH Γ _ s [(h0, .inr (4, [.ref q6, .int 0, .int 0, .int 0, .int 0, .int 0, .int 0, .null, .null, .null])), (q6, .inl (Γ.2.2 1, 3, .inl (fun _ => 0)))] H _ := h
  refine lv_aload_n hx hb dX2_init_26 rfl (lv_at hl 0 rfl) ?_
  refine lv_iconst (v := 0) hx hb dX2_init_27 (by decide) ?_
  refine y_put (own := RX2) (ref := "TintDesk$Colorant") (C := RX2) (T := TX2) (N := 10) (index := 25) (v := .int 0) (ty := .int) hx hb hts (fun w h => xU_sub w (inU2 w h)) tyX2 tyX2_ok nmX2 hown h 0 rfl rfl 4 (by decide) (hts _ (xU_sub _ q71)) (fun _ h9 => h9) rfl rfl rfl rfl (Nat.le_of_ble_eq_true rfl) dX2_init_28 (fun H locs h => ?_)
  have h : yH Γ _ s [(h0, .inr (4, [.ref q6, .int 0, .int 0, .int 0, .int 0, .int 0, .int 0, .null, .null, .null])), (q6, .inl (Γ.2.2 1, 3, .inl (fun _ => 0)))] H _ := h
  refine lv_aload_n hx hb dX2_init_31 rfl (lv_at hl 0 rfl) ?_
  refine lv_iconst (v := 0) hx hb dX2_init_32 (by decide) ?_
  refine y_put (own := RX2) (ref := "TintDesk$Colorant") (C := RX2) (T := TX2) (N := 10) (index := 28) (v := .int 0) (ty := .int) hx hb hts (fun w h => xU_sub w (inU2 w h)) tyX2 tyX2_ok nmX2 hown h 0 rfl rfl 5 (by decide) (hts _ (xU_sub _ q72)) (fun _ h9 => h9) rfl rfl rfl rfl (Nat.le_of_ble_eq_true rfl) dX2_init_33 (fun H locs h => ?_)
  have h : yH Γ _ s [(h0, .inr (4, [.ref q6, .int 0, .int 0, .int 0, .int 0, .int 0, .int 0, .null, .null, .null])), (q6, .inl (Γ.2.2 1, 3, .inl (fun _ => 0)))] H _ := h
  refine lv_aload_n hx hb dX2_init_36 rfl (lv_at hl 0 rfl) ?_
  refine lv_iconst (v := 0) hx hb dX2_init_37 (by decide) ?_
  refine y_put (own := RX2) (ref := "TintDesk$Colorant") (C := RX2) (T := TX2) (N := 10) (index := 31) (v := .int 0) (ty := .int) hx hb hts (fun w h => xU_sub w (inU2 w h)) tyX2 tyX2_ok nmX2 hown h 0 rfl rfl 6 (by decide) (hts _ (xU_sub _ q73)) (fun _ h9 => h9) rfl rfl rfl rfl (Nat.le_of_ble_eq_true rfl) dX2_init_38 (fun H locs h => ?_)
  have h : yH Γ _ s [(h0, .inr (4, [.ref q6, .int 0, .int 0, .int 0, .int 0, .int 0, .int 0, .null, .null, .null])), (q6, .inl (Γ.2.2 1, 3, .inl (fun _ => 0)))] H _ := h
  refine lv_aload_n hx hb dX2_init_41 rfl (lv_at hl 0 rfl) ?_
  refine lv_bipush (v := 12) hx hb dX2_init_42 (by decide) ?_
  refine y_newa (a0 := (12, .inl (fun _ => 0))) (ty := .int) hx hb 1 rfl (hts _ (xU_sub _ q66)) h hA rfl (fun _ => rfl) (by decide) (by decide) (by decide) (Nat.le_of_ble_eq_true rfl) (Nat.le_of_ble_eq_true rfl) dX2_init_44 (fun q44 H h => ?_)
  have h : yH Γ _ s [(h0, .inr (4, [.ref q6, .int 0, .int 0, .int 0, .int 0, .int 0, .int 0, .null, .null, .null])), (q6, .inl (Γ.2.2 1, 3, .inl (fun _ => 0))), (q44, .inl (Γ.2.2 1, 12, .inl (fun _ => 0)))] H _ := h
  refine y_putF (own := RX2) (ref := "TintDesk$Colorant") (C := RX2) (T := TX2) (N := 10) (index := 34) (v := .ref q44) (ty := .array .int) hx hb hts (fun w h => xU_sub w (inU2 w h)) tyX2 tyX2_ok nmX2 hown h 0 rfl rfl 7 (by decide) (hts _ (xU_sub _ q74)) (fun _ h9 => h9) rfl hin rfl rfl rfl rfl (Nat.le_of_ble_eq_true rfl) dX2_init_46 (fun H locs h => ?_)
  have h : yH Γ _ s [(h0, .inr (4, [.ref q6, .int 0, .int 0, .int 0, .int 0, .int 0, .int 0, .ref q44, .null, .null])), (q6, .inl (Γ.2.2 1, 3, .inl (fun _ => 0))), (q44, .inl (Γ.2.2 1, 12, .inl (fun _ => 0)))] H _ := h
  refine lv_aload_n hx hb dX2_init_49 rfl (lv_at hl 0 rfl) ?_
  refine lv_bipush (v := 12) hx hb dX2_init_50 (by decide) ?_
  refine y_newa (a0 := (12, .inl (fun _ => 0))) (ty := .int) hx hb 1 rfl (hts _ (xU_sub _ q66)) h hA rfl (fun _ => rfl) (by decide) (by decide) (by decide) (Nat.le_of_ble_eq_true rfl) (Nat.le_of_ble_eq_true rfl) dX2_init_52 (fun q52 H h => ?_)
  have h : yH Γ _ s [(h0, .inr (4, [.ref q6, .int 0, .int 0, .int 0, .int 0, .int 0, .int 0, .ref q44, .null, .null])), (q6, .inl (Γ.2.2 1, 3, .inl (fun _ => 0))), (q44, .inl (Γ.2.2 1, 12, .inl (fun _ => 0))), (q52, .inl (Γ.2.2 1, 12, .inl (fun _ => 0)))] H _ := h
  refine y_putF (own := RX2) (ref := "TintDesk$Colorant") (C := RX2) (T := TX2) (N := 10) (index := 37) (v := .ref q52) (ty := .array .int) hx hb hts (fun w h => xU_sub w (inU2 w h)) tyX2 tyX2_ok nmX2 hown h 0 rfl rfl 8 (by decide) (hts _ (xU_sub _ q75)) (fun _ h9 => h9) rfl hin rfl rfl rfl rfl (Nat.le_of_ble_eq_true rfl) dX2_init_54 (fun H locs h => ?_)
  have h : yH Γ _ s [(h0, .inr (4, [.ref q6, .int 0, .int 0, .int 0, .int 0, .int 0, .int 0, .ref q44, .ref q52, .null])), (q6, .inl (Γ.2.2 1, 3, .inl (fun _ => 0))), (q44, .inl (Γ.2.2 1, 12, .inl (fun _ => 0))), (q52, .inl (Γ.2.2 1, 12, .inl (fun _ => 0)))] H _ := h
  refine lv_aload_n hx hb dX2_init_57 rfl (lv_at hl 0 rfl) ?_
  refine lv_bipush (v := 12) hx hb dX2_init_58 (by decide) ?_
  refine y_newa (a0 := (12, .inl (fun _ => 0))) (ty := .int) hx hb 1 rfl (hts _ (xU_sub _ q66)) h hA rfl (fun _ => rfl) (by decide) (by decide) (by decide) (Nat.le_of_ble_eq_true rfl) (Nat.le_of_ble_eq_true rfl) dX2_init_60 (fun q60 H h => ?_)
  have h : yH Γ _ s [(h0, .inr (4, [.ref q6, .int 0, .int 0, .int 0, .int 0, .int 0, .int 0, .ref q44, .ref q52, .null])), (q6, .inl (Γ.2.2 1, 3, .inl (fun _ => 0))), (q44, .inl (Γ.2.2 1, 12, .inl (fun _ => 0))), (q52, .inl (Γ.2.2 1, 12, .inl (fun _ => 0))), (q60, .inl (Γ.2.2 1, 12, .inl (fun _ => 0)))] H _ := h
  refine y_putF (own := RX2) (ref := "TintDesk$Colorant") (C := RX2) (T := TX2) (N := 10) (index := 40) (v := .ref q60) (ty := .array .int) hx hb hts (fun w h => xU_sub w (inU2 w h)) tyX2 tyX2_ok nmX2 hown h 0 rfl rfl 9 (by decide) (hts _ (xU_sub _ q76)) (fun _ h9 => h9) rfl hin rfl rfl rfl rfl (Nat.le_of_ble_eq_true rfl) dX2_init_62 (fun H locs h => ?_)
  have h : yH Γ _ s [(h0, .inr (4, [.ref q6, .int 0, .int 0, .int 0, .int 0, .int 0, .int 0, .ref q44, .ref q52, .ref q60])), (q6, .inl (Γ.2.2 1, 3, .inl (fun _ => 0))), (q44, .inl (Γ.2.2 1, 12, .inl (fun _ => 0))), (q52, .inl (Γ.2.2 1, 12, .inl (fun _ => 0))), (q60, .inl (Γ.2.2 1, 12, .inl (fun _ => 0)))] H _ := h
  exact y_ret (cf := cColorant Γ) (fun k => match k with | 0 => h0 | 1 => q6 | 2 => q44 | 3 => q52 | _ => q60) hx hb h rfl rfl hr hlocks dX2_init_65
theorem cColorant_cong {Γ : xG} {f g : Nat → Nat} (h : ∀ j, j < 5 → f j = g j) (r : Nat) : cColorant Γ f r = cColorant Γ g r := by
  have h1 := h 1 (by decide)
  have h2 := h 2 (by decide)
  have h3 := h 3 (by decide)
  have h4 := h 4 (by decide)
  unfold cColorant
  rw [h1, h2, h3, h4]
def cFormula (Γ : xG) (ad : Nat → Nat) : Nat → va_E := fun k => match k with
  | 0 => .inr (6, [.int 0, .ref (ad 1), .ref (ad 2)])
  | 1 => .inl (Γ.2.2 1, 8, .inl (fun _ => 0))
  | _ => .inl (Γ.2.2 1, 8, .inl (fun _ => 0))
theorem hdX4_init : yX4_init.cls ≠ "java/lang/invoke/MethodHandle" ∧ yX4_init.cls ≠ "java/lang/invoke/VarHandle" ∧ (parseMethodDescriptor yX4_init.desc).map (fun d => d.parameters.length) = some 0 := by decide +kernel
set_option maxHeartbeats 4000000 in
set_option maxRecDepth 100000 in
theorem m_X4_init (l : Launch) {Γ : xG} {h0 : Nat} (sz : Nat) : Met l yX4_init (xWs yX4_init cX4_init 1 none) ({ frames := 2, cells := 2, slots := 16, locals := 40 } : Room) (va_Pc [.ref h0] (yPre Γ h0 (.inr (6, [.int 0, .null, .null])) sz)) (yQ Γ h0 3 (cFormula Γ) sz) 2 16 (yA h0 sz) := by
  refine y_met pnX4 rfl (by decide) (fun p e s m args below meth c E hN hin h ls hl => ?_) sz
  obtain ⟨⟨hx, hb, hml, hown, hts⟩, hr, hlocks⟩ := id E
  have hA : ∀ q, s.heap.size ≤ q → yA h0 s.heap.size q := fun q hq => Or.inr hq
  refine lv_aload_n hx hb dX4_init_0 rfl (lv_at hl 0 rfl) ?_
  refine W.objInit hx hb hown (hts _ (xU_sub _ q85)) (hts _ (xU_sub _ q12)) (hts _ (xU_sub _ qOI)) rfl (by rw [hml]; exact hl.1) rfl dX4_init_1 (Nat.le_of_ble_eq_true rfl) (Nat.le_of_ble_eq_true rfl) ?_
  refine W.eq (g2 := F0 m 4 ls []) rfl ?_
  refine lv_aload_n hx hb dX4_init_4 rfl (lv_at hl 0 rfl) ?_
  refine lv_iconst (v := 0) hx hb dX4_init_5 (by decide) ?_
  refine y_put (own := RX4) (ref := "TintDesk$Formula") (C := RX4) (T := TX4) (N := 3) (index := 9) (v := .int 0) (ty := .int) hx hb hts (fun w h => xU_sub w (inU4 w h)) tyX4 tyX4_ok nmX4 hown h 0 rfl rfl 0 (by decide) (hts _ (xU_sub _ q86)) (fun _ h9 => h9) rfl rfl rfl rfl (Nat.le_of_ble_eq_true rfl) dX4_init_6 (fun H locs h => ?_)
  have h : yH Γ _ s [(h0, .inr (6, [.int 0, .null, .null]))] H _ := h
  refine lv_aload_n hx hb dX4_init_9 rfl (lv_at hl 0 rfl) ?_
  refine lv_bipush (v := 8) hx hb dX4_init_10 (by decide) ?_
  refine y_newa (a0 := (8, .inl (fun _ => 0))) (ty := .int) hx hb 1 rfl (hts _ (xU_sub _ q66)) h hA rfl (fun _ => rfl) (by decide) (by decide) (by decide) (Nat.le_of_ble_eq_true rfl) (Nat.le_of_ble_eq_true rfl) dX4_init_12 (fun q12 H h => ?_)
  have h : yH Γ _ s [(h0, .inr (6, [.int 0, .null, .null])), (q12, .inl (Γ.2.2 1, 8, .inl (fun _ => 0)))] H _ := h
  refine y_putF (own := RX4) (ref := "TintDesk$Formula") (C := RX4) (T := TX4) (N := 3) (index := 15) (v := .ref q12) (ty := .array .int) hx hb hts (fun w h => xU_sub w (inU4 w h)) tyX4 tyX4_ok nmX4 hown h 0 rfl rfl 1 (by decide) (hts _ (xU_sub _ q87)) (fun _ h9 => h9) rfl hin rfl rfl rfl rfl (Nat.le_of_ble_eq_true rfl) dX4_init_14 (fun H locs h => ?_)
  have h : yH Γ _ s [(h0, .inr (6, [.int 0, .ref q12, .null])), (q12, .inl (Γ.2.2 1, 8, .inl (fun _ => 0)))] H _ := h
  refine lv_aload_n hx hb dX4_init_17 rfl (lv_at hl 0 rfl) ?_
  refine lv_bipush (v := 8) hx hb dX4_init_18 (by decide) ?_
  refine y_newa (a0 := (8, .inl (fun _ => 0))) (ty := .int) hx hb 1 rfl (hts _ (xU_sub _ q66)) h hA rfl (fun _ => rfl) (by decide) (by decide) (by decide) (Nat.le_of_ble_eq_true rfl) (Nat.le_of_ble_eq_true rfl) dX4_init_20 (fun q20 H h => ?_)
  have h : yH Γ _ s [(h0, .inr (6, [.int 0, .ref q12, .null])), (q12, .inl (Γ.2.2 1, 8, .inl (fun _ => 0))), (q20, .inl (Γ.2.2 1, 8, .inl (fun _ => 0)))] H _ := h
  refine y_putF (own := RX4) (ref := "TintDesk$Formula") (C := RX4) (T := TX4) (N := 3) (index := 19) (v := .ref q20) (ty := .array .int) hx hb hts (fun w h => xU_sub w (inU4 w h)) tyX4 tyX4_ok nmX4 hown h 0 rfl rfl 2 (by decide) (hts _ (xU_sub _ q88)) (fun _ h9 => h9) rfl hin rfl rfl rfl rfl (Nat.le_of_ble_eq_true rfl) dX4_init_22 (fun H locs h => ?_)
  have h : yH Γ _ s [(h0, .inr (6, [.int 0, .ref q12, .ref q20])), (q12, .inl (Γ.2.2 1, 8, .inl (fun _ => 0))), (q20, .inl (Γ.2.2 1, 8, .inl (fun _ => 0)))] H _ := h
  exact y_ret (cf := cFormula Γ) (fun k => match k with | 0 => h0 | 1 => q12 | _ => q20) hx hb h rfl rfl hr hlocks dX4_init_25
theorem cFormula_cong {Γ : xG} {f g : Nat → Nat} (h : ∀ j, j < 3 → f j = g j) (r : Nat) : cFormula Γ f r = cFormula Γ g r := by
  have h1 := h 1 (by decide)
  have h2 := h 2 (by decide)
  unfold cFormula
  rw [h1, h2]
def cFormulaText (Γ : xG) (ad : Nat → Nat) : Nat → va_E := fun k => match k with
  | 0 => .inr (7, [.ref (ad 1), .int 0, .int 0, .int 0, .ref (ad 2)])
  | 1 => .inl (Γ.2.2 0, 60, .inl (fun _ => 0))
  | _ => .inl (Γ.2.2 1, 10, .inl (fun _ => 0))
theorem hdX5_init : yX5_init.cls ≠ "java/lang/invoke/MethodHandle" ∧ yX5_init.cls ≠ "java/lang/invoke/VarHandle" ∧ (parseMethodDescriptor yX5_init.desc).map (fun d => d.parameters.length) = some 0 := by decide +kernel
set_option maxHeartbeats 4000000 in
set_option maxRecDepth 100000 in
theorem m_X5_init (l : Launch) {Γ : xG} {h0 : Nat} (sz : Nat) : Met l yX5_init (xWs yX5_init cX5_init 1 none) ({ frames := 2, cells := 2, slots := 70, locals := 40 } : Room) (va_Pc [.ref h0] (yPre Γ h0 (.inr (7, [.null, .int 0, .int 0, .int 0, .null])) sz)) (yQ Γ h0 3 (cFormulaText Γ) sz) 2 70 (yA h0 sz) := by
  refine y_met pnX5 rfl (by decide) (fun p e s m args below meth c E hN hin h ls hl => ?_) sz
  obtain ⟨⟨hx, hb, hml, hown, hts⟩, hr, hlocks⟩ := id E
  have hA : ∀ q, s.heap.size ≤ q → yA h0 s.heap.size q := fun q hq => Or.inr hq
  refine lv_aload_n hx hb dX5_init_0 rfl (lv_at hl 0 rfl) ?_
  refine W.objInit hx hb hown (hts _ (xU_sub _ q109)) (hts _ (xU_sub _ q12)) (hts _ (xU_sub _ qOI)) rfl (by rw [hml]; exact hl.1) rfl dX5_init_1 (Nat.le_of_ble_eq_true rfl) (Nat.le_of_ble_eq_true rfl) ?_
  refine W.eq (g2 := F0 m 4 ls []) rfl ?_
  refine lv_aload_n hx hb dX5_init_4 rfl (lv_at hl 0 rfl) ?_
  refine lv_bipush (v := 60) hx hb dX5_init_5 (by decide) ?_
  refine y_newa (a0 := (60, .inl (fun _ => 0))) (ty := .char) hx hb 0 rfl (hts _ (xU_sub _ q110)) h hA rfl (fun _ => rfl) (by decide) (by decide) (by decide) (Nat.le_of_ble_eq_true rfl) (Nat.le_of_ble_eq_true rfl) dX5_init_7 (fun q7 H h => ?_)
  have h : yH Γ _ s [(h0, .inr (7, [.null, .int 0, .int 0, .int 0, .null])), (q7, .inl (Γ.2.2 0, 60, .inl (fun _ => 0)))] H _ := h
  refine y_putF (own := RX5) (ref := "TintDesk$FormulaText") (C := RX5) (T := TX5) (N := 5) (index := 9) (v := .ref q7) (ty := .array .char) hx hb hts (fun w h => xU_sub w (inU5 w h)) tyX5 tyX5_ok nmX5 hown h 0 rfl rfl 0 (by decide) (hts _ (xU_sub _ q111)) (fun _ h9 => h9) rfl hin rfl rfl rfl rfl (Nat.le_of_ble_eq_true rfl) dX5_init_9 (fun H locs h => ?_)
  have h : yH Γ _ s [(h0, .inr (7, [.ref q7, .int 0, .int 0, .int 0, .null])), (q7, .inl (Γ.2.2 0, 60, .inl (fun _ => 0)))] H _ := h
  refine lv_aload_n hx hb dX5_init_12 rfl (lv_at hl 0 rfl) ?_
  refine lv_iconst (v := 0) hx hb dX5_init_13 (by decide) ?_
  refine y_put (own := RX5) (ref := "TintDesk$FormulaText") (C := RX5) (T := TX5) (N := 5) (index := 15) (v := .int 0) (ty := .int) hx hb hts (fun w h => xU_sub w (inU5 w h)) tyX5 tyX5_ok nmX5 hown h 0 rfl rfl 1 (by decide) (hts _ (xU_sub _ q112)) (fun _ h9 => h9) rfl rfl rfl rfl (Nat.le_of_ble_eq_true rfl) dX5_init_14 (fun H locs h => ?_)
  have h : yH Γ _ s [(h0, .inr (7, [.ref q7, .int 0, .int 0, .int 0, .null])), (q7, .inl (Γ.2.2 0, 60, .inl (fun _ => 0)))] H _ := h
  refine lv_aload_n hx hb dX5_init_17 rfl (lv_at hl 0 rfl) ?_
  refine lv_iconst (v := 0) hx hb dX5_init_18 (by decide) ?_
  refine y_put (own := RX5) (ref := "TintDesk$FormulaText") (C := RX5) (T := TX5) (N := 5) (index := 19) (v := .int 0) (ty := .int) hx hb hts (fun w h => xU_sub w (inU5 w h)) tyX5 tyX5_ok nmX5 hown h 0 rfl rfl 2 (by decide) (hts _ (xU_sub _ q113)) (fun _ h9 => h9) rfl rfl rfl rfl (Nat.le_of_ble_eq_true rfl) dX5_init_19 (fun H locs h => ?_)
  have h : yH Γ _ s [(h0, .inr (7, [.ref q7, .int 0, .int 0, .int 0, .null])), (q7, .inl (Γ.2.2 0, 60, .inl (fun _ => 0)))] H _ := h
  refine lv_aload_n hx hb dX5_init_22 rfl (lv_at hl 0 rfl) ?_
  refine lv_iconst (v := 0) hx hb dX5_init_23 (by decide) ?_
  refine y_put (own := RX5) (ref := "TintDesk$FormulaText") (C := RX5) (T := TX5) (N := 5) (index := 22) (v := .int 0) (ty := .int) hx hb hts (fun w h => xU_sub w (inU5 w h)) tyX5 tyX5_ok nmX5 hown h 0 rfl rfl 3 (by decide) (hts _ (xU_sub _ q114)) (fun _ h9 => h9) rfl rfl rfl rfl (Nat.le_of_ble_eq_true rfl) dX5_init_24 (fun H locs h => ?_)
  have h : yH Γ _ s [(h0, .inr (7, [.ref q7, .int 0, .int 0, .int 0, .null])), (q7, .inl (Γ.2.2 0, 60, .inl (fun _ => 0)))] H _ := h
  refine lv_aload_n hx hb dX5_init_27 rfl (lv_at hl 0 rfl) ?_
  refine lv_bipush (v := 10) hx hb dX5_init_28 (by decide) ?_
  refine y_newa (a0 := (10, .inl (fun _ => 0))) (ty := .int) hx hb 1 rfl (hts _ (xU_sub _ q66)) h hA rfl (fun _ => rfl) (by decide) (by decide) (by decide) (Nat.le_of_ble_eq_true rfl) (Nat.le_of_ble_eq_true rfl) dX5_init_30 (fun q30 H h => ?_)
  have h : yH Γ _ s [(h0, .inr (7, [.ref q7, .int 0, .int 0, .int 0, .null])), (q7, .inl (Γ.2.2 0, 60, .inl (fun _ => 0))), (q30, .inl (Γ.2.2 1, 10, .inl (fun _ => 0)))] H _ := h
  refine y_putF (own := RX5) (ref := "TintDesk$FormulaText") (C := RX5) (T := TX5) (N := 5) (index := 25) (v := .ref q30) (ty := .array .int) hx hb hts (fun w h => xU_sub w (inU5 w h)) tyX5 tyX5_ok nmX5 hown h 0 rfl rfl 4 (by decide) (hts _ (xU_sub _ q115)) (fun _ h9 => h9) rfl hin rfl rfl rfl rfl (Nat.le_of_ble_eq_true rfl) dX5_init_32 (fun H locs h => ?_)
  have h : yH Γ _ s [(h0, .inr (7, [.ref q7, .int 0, .int 0, .int 0, .ref q30])), (q7, .inl (Γ.2.2 0, 60, .inl (fun _ => 0))), (q30, .inl (Γ.2.2 1, 10, .inl (fun _ => 0)))] H _ := h
  exact y_ret (cf := cFormulaText Γ) (fun k => match k with | 0 => h0 | 1 => q7 | _ => q30) hx hb h rfl rfl hr hlocks dX5_init_35
theorem cFormulaText_cong {Γ : xG} {f g : Nat → Nat} (h : ∀ j, j < 3 → f j = g j) (r : Nat) : cFormulaText Γ f r = cFormulaText Γ g r := by
  have h1 := h 1 (by decide)
  have h2 := h 2 (by decide)
  unfold cFormulaText
  rw [h1, h2]
def cLabelWriter (Γ : xG) (ad : Nat → Nat) : Nat → va_E := fun k => match k with
  | 0 => .inr (9, [.ref (ad 1), .int 0])
  | _ => .inl (Γ.2.2 0, 654, .inl (fun _ => 0))
theorem hdX7_init : yX7_init.cls ≠ "java/lang/invoke/MethodHandle" ∧ yX7_init.cls ≠ "java/lang/invoke/VarHandle" ∧ (parseMethodDescriptor yX7_init.desc).map (fun d => d.parameters.length) = some 0 := by decide +kernel
set_option maxHeartbeats 4000000 in
set_option maxRecDepth 100000 in
theorem m_X7_init (l : Launch) {Γ : xG} {h0 : Nat} (sz : Nat) : Met l yX7_init (xWs yX7_init cX7_init 1 none) ({ frames := 2, cells := 1, slots := 654, locals := 40 } : Room) (va_Pc [.ref h0] (yPre Γ h0 (.inr (9, [.null, .int 0])) sz)) (yQ Γ h0 2 (cLabelWriter Γ) sz) 1 654 (yA h0 sz) := by
  refine y_met pnX7 rfl (by decide) (fun p e s m args below meth c E hN hin h ls hl => ?_) sz
  obtain ⟨⟨hx, hb, hml, hown, hts⟩, hr, hlocks⟩ := id E
  have hA : ∀ q, s.heap.size ≤ q → yA h0 s.heap.size q := fun q hq => Or.inr hq
  refine lv_aload_n hx hb dX7_init_0 rfl (lv_at hl 0 rfl) ?_
  refine W.objInit hx hb hown (hts _ (xU_sub _ q125)) (hts _ (xU_sub _ q12)) (hts _ (xU_sub _ qOI)) rfl (by rw [hml]; exact hl.1) rfl dX7_init_1 (Nat.le_of_ble_eq_true rfl) (Nat.le_of_ble_eq_true rfl) ?_
  refine W.eq (g2 := F0 m 4 ls []) rfl ?_
  refine lv_aload_n hx hb dX7_init_4 rfl (lv_at hl 0 rfl) ?_
  refine lv_sipush (v := 654) hx hb dX7_init_5 (by decide) ?_
  refine y_newa (a0 := (654, .inl (fun _ => 0))) (ty := .char) hx hb 0 rfl (hts _ (xU_sub _ q110)) h hA rfl (fun _ => rfl) (by decide) (by decide) (by decide) (Nat.le_of_ble_eq_true rfl) (Nat.le_of_ble_eq_true rfl) dX7_init_8 (fun q8 H h => ?_)
  have h : yH Γ _ s [(h0, .inr (9, [.null, .int 0])), (q8, .inl (Γ.2.2 0, 654, .inl (fun _ => 0)))] H _ := h
  refine y_putF (own := RX7) (ref := "TintDesk$LabelWriter") (C := RX7) (T := TX7) (N := 2) (index := 9) (v := .ref q8) (ty := .array .char) hx hb hts (fun w h => xU_sub w (inU7 w h)) tyX7 tyX7_ok nmX7 hown h 0 rfl rfl 0 (by decide) (hts _ (xU_sub _ q126)) (fun _ h9 => h9) rfl hin rfl rfl rfl rfl (Nat.le_of_ble_eq_true rfl) dX7_init_10 (fun H locs h => ?_)
  have h : yH Γ _ s [(h0, .inr (9, [.ref q8, .int 0])), (q8, .inl (Γ.2.2 0, 654, .inl (fun _ => 0)))] H _ := h
  refine lv_aload_n hx hb dX7_init_13 rfl (lv_at hl 0 rfl) ?_
  refine lv_iconst (v := 0) hx hb dX7_init_14 (by decide) ?_
  refine y_put (own := RX7) (ref := "TintDesk$LabelWriter") (C := RX7) (T := TX7) (N := 2) (index := 15) (v := .int 0) (ty := .int) hx hb hts (fun w h => xU_sub w (inU7 w h)) tyX7 tyX7_ok nmX7 hown h 0 rfl rfl 1 (by decide) (hts _ (xU_sub _ q127)) (fun _ h9 => h9) rfl rfl rfl rfl (Nat.le_of_ble_eq_true rfl) dX7_init_15 (fun H locs h => ?_)
  have h : yH Γ _ s [(h0, .inr (9, [.ref q8, .int 0])), (q8, .inl (Γ.2.2 0, 654, .inl (fun _ => 0)))] H _ := h
  exact y_ret (cf := cLabelWriter Γ) (fun k => match k with | 0 => h0 | _ => q8) hx hb h rfl rfl hr hlocks dX7_init_18
theorem cLabelWriter_cong {Γ : xG} {f g : Nat → Nat} (h : ∀ j, j < 2 → f j = g j) (r : Nat) : cLabelWriter Γ f r = cLabelWriter Γ g r := by
  have h1 := h 1 (by decide)
  unfold cLabelWriter
  rw [h1]
def cLeastCorrection (Γ : xG) (ad : Nat → Nat) : Nat → va_E := fun k => match k with
  | 0 => .inr (10, [.ref (ad 1), .int 0, .int 0, .ref (ad 2)])
  | 1 => .inl (Γ.2.2 2, 3, .inr (.inl (fun _ => 0)))
  | _ => .inl (Γ.2.2 1, 8, .inl (fun _ => 0))
theorem hdX8_init : yX8_init.cls ≠ "java/lang/invoke/MethodHandle" ∧ yX8_init.cls ≠ "java/lang/invoke/VarHandle" ∧ (parseMethodDescriptor yX8_init.desc).map (fun d => d.parameters.length) = some 0 := by decide +kernel
set_option maxHeartbeats 4000000 in
set_option maxRecDepth 100000 in
theorem m_X8_init (l : Launch) {Γ : xG} {h0 : Nat} (sz : Nat) : Met l yX8_init (xWs yX8_init cX8_init 1 none) ({ frames := 2, cells := 2, slots := 11, locals := 40 } : Room) (va_Pc [.ref h0] (yPre Γ h0 (.inr (10, [.null, .int 0, .int 0, .null])) sz)) (yQ Γ h0 3 (cLeastCorrection Γ) sz) 2 11 (yA h0 sz) := by
  refine y_met pnX8 rfl (by decide) (fun p e s m args below meth c E hN hin h ls hl => ?_) sz
  obtain ⟨⟨hx, hb, hml, hown, hts⟩, hr, hlocks⟩ := id E
  have hA : ∀ q, s.heap.size ≤ q → yA h0 s.heap.size q := fun q hq => Or.inr hq
  refine lv_aload_n hx hb dX8_init_0 rfl (lv_at hl 0 rfl) ?_
  refine W.objInit hx hb hown (hts _ (xU_sub _ q118)) (hts _ (xU_sub _ q12)) (hts _ (xU_sub _ qOI)) rfl (by rw [hml]; exact hl.1) rfl dX8_init_1 (Nat.le_of_ble_eq_true rfl) (Nat.le_of_ble_eq_true rfl) ?_
  refine W.eq (g2 := F0 m 4 ls []) rfl ?_
  refine lv_aload_n hx hb dX8_init_4 rfl (lv_at hl 0 rfl) ?_
  refine lv_iconst (v := 3) hx hb dX8_init_5 (by decide) ?_
  refine y_newa (a0 := (3, .inr (.inl (fun _ => 0)))) (ty := .long) hx hb 2 rfl (hts _ (xU_sub _ q6)) h hA rfl (fun _ => rfl) (by decide) (by decide) (by decide) (Nat.le_of_ble_eq_true rfl) (Nat.le_of_ble_eq_true rfl) dX8_init_6 (fun q6 H h => ?_)
  have h : yH Γ _ s [(h0, .inr (10, [.null, .int 0, .int 0, .null])), (q6, .inl (Γ.2.2 2, 3, .inr (.inl (fun _ => 0))))] H _ := h
  refine y_putF (own := RX8) (ref := "TintDesk$LeastCorrection") (C := RX8) (T := TX8) (N := 4) (index := 9) (v := .ref q6) (ty := .array .long) hx hb hts (fun w h => xU_sub w (inU8 w h)) tyX8 tyX8_ok nmX8 hown h 0 rfl rfl 0 (by decide) (hts _ (xU_sub _ q119)) (fun _ h9 => h9) rfl hin rfl rfl rfl rfl (Nat.le_of_ble_eq_true rfl) dX8_init_8 (fun H locs h => ?_)
  have h : yH Γ _ s [(h0, .inr (10, [.ref q6, .int 0, .int 0, .null])), (q6, .inl (Γ.2.2 2, 3, .inr (.inl (fun _ => 0))))] H _ := h
  refine lv_aload_n hx hb dX8_init_11 rfl (lv_at hl 0 rfl) ?_
  refine lv_iconst (v := 0) hx hb dX8_init_12 (by decide) ?_
  refine y_put (own := RX8) (ref := "TintDesk$LeastCorrection") (C := RX8) (T := TX8) (N := 4) (index := 15) (v := .int 0) (ty := .int) hx hb hts (fun w h => xU_sub w (inU8 w h)) tyX8 tyX8_ok nmX8 hown h 0 rfl rfl 1 (by decide) (hts _ (xU_sub _ q120)) (fun _ h9 => h9) rfl rfl rfl rfl (Nat.le_of_ble_eq_true rfl) dX8_init_13 (fun H locs h => ?_)
  have h : yH Γ _ s [(h0, .inr (10, [.ref q6, .int 0, .int 0, .null])), (q6, .inl (Γ.2.2 2, 3, .inr (.inl (fun _ => 0))))] H _ := h
  refine lv_aload_n hx hb dX8_init_16 rfl (lv_at hl 0 rfl) ?_
  refine lv_iconst (v := 0) hx hb dX8_init_17 (by decide) ?_
  refine y_put (own := RX8) (ref := "TintDesk$LeastCorrection") (C := RX8) (T := TX8) (N := 4) (index := 19) (v := .int 0) (ty := .int) hx hb hts (fun w h => xU_sub w (inU8 w h)) tyX8 tyX8_ok nmX8 hown h 0 rfl rfl 2 (by decide) (hts _ (xU_sub _ q121)) (fun _ h9 => h9) rfl rfl rfl rfl (Nat.le_of_ble_eq_true rfl) dX8_init_18 (fun H locs h => ?_)
  have h : yH Γ _ s [(h0, .inr (10, [.ref q6, .int 0, .int 0, .null])), (q6, .inl (Γ.2.2 2, 3, .inr (.inl (fun _ => 0))))] H _ := h
  refine lv_aload_n hx hb dX8_init_21 rfl (lv_at hl 0 rfl) ?_
  refine lv_bipush (v := 8) hx hb dX8_init_22 (by decide) ?_
  refine y_newa (a0 := (8, .inl (fun _ => 0))) (ty := .int) hx hb 1 rfl (hts _ (xU_sub _ q66)) h hA rfl (fun _ => rfl) (by decide) (by decide) (by decide) (Nat.le_of_ble_eq_true rfl) (Nat.le_of_ble_eq_true rfl) dX8_init_24 (fun q24 H h => ?_)
  have h : yH Γ _ s [(h0, .inr (10, [.ref q6, .int 0, .int 0, .null])), (q6, .inl (Γ.2.2 2, 3, .inr (.inl (fun _ => 0)))), (q24, .inl (Γ.2.2 1, 8, .inl (fun _ => 0)))] H _ := h
  refine y_putF (own := RX8) (ref := "TintDesk$LeastCorrection") (C := RX8) (T := TX8) (N := 4) (index := 22) (v := .ref q24) (ty := .array .int) hx hb hts (fun w h => xU_sub w (inU8 w h)) tyX8 tyX8_ok nmX8 hown h 0 rfl rfl 3 (by decide) (hts _ (xU_sub _ q122)) (fun _ h9 => h9) rfl hin rfl rfl rfl rfl (Nat.le_of_ble_eq_true rfl) dX8_init_26 (fun H locs h => ?_)
  have h : yH Γ _ s [(h0, .inr (10, [.ref q6, .int 0, .int 0, .ref q24])), (q6, .inl (Γ.2.2 2, 3, .inr (.inl (fun _ => 0)))), (q24, .inl (Γ.2.2 1, 8, .inl (fun _ => 0)))] H _ := h
  exact y_ret (cf := cLeastCorrection Γ) (fun k => match k with | 0 => h0 | 1 => q6 | _ => q24) hx hb h rfl rfl hr hlocks dX8_init_29
theorem cLeastCorrection_cong {Γ : xG} {f g : Nat → Nat} (h : ∀ j, j < 3 → f j = g j) (r : Nat) : cLeastCorrection Γ f r = cLeastCorrection Γ g r := by
  have h1 := h 1 (by decide)
  have h2 := h 2 (by decide)
  unfold cLeastCorrection
  rw [h1, h2]
def cModel (Γ : xG) (ad : Nat → Nat) : Nat → va_E := fun k => match k with
  | 0 => .inr (12, [.int 0, .ref (ad 1), .ref (ad 2), .int 0, .ref (ad 3), .int 0, .ref (ad 4), .int 0, .int 0, .ref (ad 5), .int 0, .int (-1), .int 0, .int 0, .ref (ad 6), .int 0, .ref (ad 7), .ref (ad 8), .ref (ad 9), .int 0])
  | 1 => .inl (Γ.2.2 1, 1460, .inl (fun _ => 0))
  | 2 => .inl (Γ.2.2 1, 11680, .inl (fun _ => 0))
  | 3 => .inl (Γ.2.2 1, 1460, .inl (fun _ => 0))
  | 4 => .inl (Γ.2.2 1, 1460, .inl (fun _ => 0))
  | 5 => .inl (Γ.2.2 0, 60, .inl (fun _ => 0))
  | 6 => .inl (Γ.2.2 1, 10, .inl (fun _ => 0))
  | 7 => .inl (Γ.2.2 1, 8, .inl (fun _ => 0))
  | 8 => .inl (Γ.2.2 1, 3, .inl (fun _ => 0))
  | _ => .inl (Γ.2.2 0, 1200, .inl (fun _ => 0))
theorem hdX10_init : yX10_init.cls ≠ "java/lang/invoke/MethodHandle" ∧ yX10_init.cls ≠ "java/lang/invoke/VarHandle" ∧ (parseMethodDescriptor yX10_init.desc).map (fun d => d.parameters.length) = some 0 := by decide +kernel
set_option maxHeartbeats 4000000 in
set_option maxRecDepth 100000 in
theorem m_X10_init (l : Launch) {Γ : xG} {h0 : Nat} (sz : Nat) : Met l yX10_init (xWs yX10_init cX10_init 1 none) ({ frames := 2, cells := 9, slots := 17341, locals := 40 } : Room) (va_Pc [.ref h0] (yPre Γ h0 (.inr (12, [.int 0, .null, .null, .int 0, .null, .int 0, .null, .int 0, .int 0, .null, .int 0, .int 0, .int 0, .int 0, .null, .int 0, .null, .null, .null, .int 0])) sz)) (yQ Γ h0 10 (cModel Γ) sz) 9 17341 (yA h0 sz) := by
  refine y_met pnX10 rfl (by decide) (fun p e s m args below meth c E hN hin h ls hl => ?_) sz
  obtain ⟨⟨hx, hb, hml, hown, hts⟩, hr, hlocks⟩ := id E
  have hA : ∀ q, s.heap.size ≤ q → yA h0 s.heap.size q := fun q hq => Or.inr hq
  refine lv_aload_n hx hb dX10_init_0 rfl (lv_at hl 0 rfl) ?_
  refine W.objInit hx hb hown (hts _ (xU_sub _ q131)) (hts _ (xU_sub _ q12)) (hts _ (xU_sub _ qOI)) rfl (by rw [hml]; exact hl.1) rfl dX10_init_1 (Nat.le_of_ble_eq_true rfl) (Nat.le_of_ble_eq_true rfl) ?_
  refine W.eq (g2 := F0 m 4 ls []) rfl ?_
  refine lv_aload_n hx hb dX10_init_4 rfl (lv_at hl 0 rfl) ?_
  refine lv_sipush (v := 1460) hx hb dX10_init_5 (by decide) ?_
  refine y_newa (a0 := (1460, .inl (fun _ => 0))) (ty := .int) hx hb 1 rfl (hts _ (xU_sub _ q66)) h hA rfl (fun _ => rfl) (by decide) (by decide) (by decide) (Nat.le_of_ble_eq_true rfl) (Nat.le_of_ble_eq_true rfl) dX10_init_8 (fun q8 H h => ?_)
  have h : yH Γ _ s [(h0, .inr (12, [.int 0, .null, .null, .int 0, .null, .int 0, .null, .int 0, .int 0, .null, .int 0, .int 0, .int 0, .int 0, .null, .int 0, .null, .null, .null, .int 0])), (q8, .inl (Γ.2.2 1, 1460, .inl (fun _ => 0)))] H _ := h
  refine y_putF (own := RX10) (ref := "TintDeskModel") (C := RX10) (T := TX10) (N := 20) (index := 9) (v := .ref q8) (ty := .array .int) hx hb hts (fun w h => xU_sub w (inU10 w h)) tyX10 tyX10_ok nmX10 hown h 0 rfl rfl 1 (by decide) (hts _ (xU_sub _ q132)) (fun _ h9 => h9) rfl hin rfl rfl rfl rfl (Nat.le_of_ble_eq_true rfl) dX10_init_10 (fun H locs h => ?_)
  have h : yH Γ _ s [(h0, .inr (12, [.int 0, .ref q8, .null, .int 0, .null, .int 0, .null, .int 0, .int 0, .null, .int 0, .int 0, .int 0, .int 0, .null, .int 0, .null, .null, .null, .int 0])), (q8, .inl (Γ.2.2 1, 1460, .inl (fun _ => 0)))] H _ := h
  refine lv_aload_n hx hb dX10_init_13 rfl (lv_at hl 0 rfl) ?_
  refine lv_sipush (v := 11680) hx hb dX10_init_14 (by decide) ?_
  refine y_newa (a0 := (11680, .inl (fun _ => 0))) (ty := .int) hx hb 1 rfl (hts _ (xU_sub _ q66)) h hA rfl (fun _ => rfl) (by decide) (by decide) (by decide) (Nat.le_of_ble_eq_true rfl) (Nat.le_of_ble_eq_true rfl) dX10_init_17 (fun q17 H h => ?_)
  have h : yH Γ _ s [(h0, .inr (12, [.int 0, .ref q8, .null, .int 0, .null, .int 0, .null, .int 0, .int 0, .null, .int 0, .int 0, .int 0, .int 0, .null, .int 0, .null, .null, .null, .int 0])), (q8, .inl (Γ.2.2 1, 1460, .inl (fun _ => 0))), (q17, .inl (Γ.2.2 1, 11680, .inl (fun _ => 0)))] H _ := h
  refine y_putF (own := RX10) (ref := "TintDeskModel") (C := RX10) (T := TX10) (N := 20) (index := 13) (v := .ref q17) (ty := .array .int) hx hb hts (fun w h => xU_sub w (inU10 w h)) tyX10 tyX10_ok nmX10 hown h 0 rfl rfl 2 (by decide) (hts _ (xU_sub _ q133)) (fun _ h9 => h9) rfl hin rfl rfl rfl rfl (Nat.le_of_ble_eq_true rfl) dX10_init_19 (fun H locs h => ?_)
  have h : yH Γ _ s [(h0, .inr (12, [.int 0, .ref q8, .ref q17, .int 0, .null, .int 0, .null, .int 0, .int 0, .null, .int 0, .int 0, .int 0, .int 0, .null, .int 0, .null, .null, .null, .int 0])), (q8, .inl (Γ.2.2 1, 1460, .inl (fun _ => 0))), (q17, .inl (Γ.2.2 1, 11680, .inl (fun _ => 0)))] H _ := h
  refine lv_aload_n hx hb dX10_init_22 rfl (lv_at hl 0 rfl) ?_
  refine lv_sipush (v := 1460) hx hb dX10_init_23 (by decide) ?_
  refine y_newa (a0 := (1460, .inl (fun _ => 0))) (ty := .int) hx hb 1 rfl (hts _ (xU_sub _ q66)) h hA rfl (fun _ => rfl) (by decide) (by decide) (by decide) (Nat.le_of_ble_eq_true rfl) (Nat.le_of_ble_eq_true rfl) dX10_init_26 (fun q26 H h => ?_)
  have h : yH Γ _ s [(h0, .inr (12, [.int 0, .ref q8, .ref q17, .int 0, .null, .int 0, .null, .int 0, .int 0, .null, .int 0, .int 0, .int 0, .int 0, .null, .int 0, .null, .null, .null, .int 0])), (q8, .inl (Γ.2.2 1, 1460, .inl (fun _ => 0))), (q17, .inl (Γ.2.2 1, 11680, .inl (fun _ => 0))), (q26, .inl (Γ.2.2 1, 1460, .inl (fun _ => 0)))] H _ := h
  refine y_putF (own := RX10) (ref := "TintDeskModel") (C := RX10) (T := TX10) (N := 20) (index := 16) (v := .ref q26) (ty := .array .int) hx hb hts (fun w h => xU_sub w (inU10 w h)) tyX10 tyX10_ok nmX10 hown h 0 rfl rfl 4 (by decide) (hts _ (xU_sub _ q134)) (fun _ h9 => h9) rfl hin rfl rfl rfl rfl (Nat.le_of_ble_eq_true rfl) dX10_init_28 (fun H locs h => ?_)
  have h : yH Γ _ s [(h0, .inr (12, [.int 0, .ref q8, .ref q17, .int 0, .ref q26, .int 0, .null, .int 0, .int 0, .null, .int 0, .int 0, .int 0, .int 0, .null, .int 0, .null, .null, .null, .int 0])), (q8, .inl (Γ.2.2 1, 1460, .inl (fun _ => 0))), (q17, .inl (Γ.2.2 1, 11680, .inl (fun _ => 0))), (q26, .inl (Γ.2.2 1, 1460, .inl (fun _ => 0)))] H _ := h
  refine lv_aload_n hx hb dX10_init_31 rfl (lv_at hl 0 rfl) ?_
  refine lv_sipush (v := 1460) hx hb dX10_init_32 (by decide) ?_
  refine y_newa (a0 := (1460, .inl (fun _ => 0))) (ty := .int) hx hb 1 rfl (hts _ (xU_sub _ q66)) h hA rfl (fun _ => rfl) (by decide) (by decide) (by decide) (Nat.le_of_ble_eq_true rfl) (Nat.le_of_ble_eq_true rfl) dX10_init_35 (fun q35 H h => ?_)
  have h : yH Γ _ s [(h0, .inr (12, [.int 0, .ref q8, .ref q17, .int 0, .ref q26, .int 0, .null, .int 0, .int 0, .null, .int 0, .int 0, .int 0, .int 0, .null, .int 0, .null, .null, .null, .int 0])), (q8, .inl (Γ.2.2 1, 1460, .inl (fun _ => 0))), (q17, .inl (Γ.2.2 1, 11680, .inl (fun _ => 0))), (q26, .inl (Γ.2.2 1, 1460, .inl (fun _ => 0))), (q35, .inl (Γ.2.2 1, 1460, .inl (fun _ => 0)))] H _ := h
  refine y_putF (own := RX10) (ref := "TintDeskModel") (C := RX10) (T := TX10) (N := 20) (index := 19) (v := .ref q35) (ty := .array .int) hx hb hts (fun w h => xU_sub w (inU10 w h)) tyX10 tyX10_ok nmX10 hown h 0 rfl rfl 6 (by decide) (hts _ (xU_sub _ q135)) (fun _ h9 => h9) rfl hin rfl rfl rfl rfl (Nat.le_of_ble_eq_true rfl) dX10_init_37 (fun H locs h => ?_)
  have h : yH Γ _ s [(h0, .inr (12, [.int 0, .ref q8, .ref q17, .int 0, .ref q26, .int 0, .ref q35, .int 0, .int 0, .null, .int 0, .int 0, .int 0, .int 0, .null, .int 0, .null, .null, .null, .int 0])), (q8, .inl (Γ.2.2 1, 1460, .inl (fun _ => 0))), (q17, .inl (Γ.2.2 1, 11680, .inl (fun _ => 0))), (q26, .inl (Γ.2.2 1, 1460, .inl (fun _ => 0))), (q35, .inl (Γ.2.2 1, 1460, .inl (fun _ => 0)))] H _ := h
  refine lv_aload_n hx hb dX10_init_40 rfl (lv_at hl 0 rfl) ?_
  refine lv_bipush (v := 60) hx hb dX10_init_41 (by decide) ?_
  refine y_newa (a0 := (60, .inl (fun _ => 0))) (ty := .char) hx hb 0 rfl (hts _ (xU_sub _ q110)) h hA rfl (fun _ => rfl) (by decide) (by decide) (by decide) (Nat.le_of_ble_eq_true rfl) (Nat.le_of_ble_eq_true rfl) dX10_init_43 (fun q43 H h => ?_)
  have h : yH Γ _ s [(h0, .inr (12, [.int 0, .ref q8, .ref q17, .int 0, .ref q26, .int 0, .ref q35, .int 0, .int 0, .null, .int 0, .int 0, .int 0, .int 0, .null, .int 0, .null, .null, .null, .int 0])), (q8, .inl (Γ.2.2 1, 1460, .inl (fun _ => 0))), (q17, .inl (Γ.2.2 1, 11680, .inl (fun _ => 0))), (q26, .inl (Γ.2.2 1, 1460, .inl (fun _ => 0))), (q35, .inl (Γ.2.2 1, 1460, .inl (fun _ => 0))), (q43, .inl (Γ.2.2 0, 60, .inl (fun _ => 0)))] H _ := h
  refine y_putF (own := RX10) (ref := "TintDeskModel") (C := RX10) (T := TX10) (N := 20) (index := 22) (v := .ref q43) (ty := .array .char) hx hb hts (fun w h => xU_sub w (inU10 w h)) tyX10 tyX10_ok nmX10 hown h 0 rfl rfl 9 (by decide) (hts _ (xU_sub _ q136)) (fun _ h9 => h9) rfl hin rfl rfl rfl rfl (Nat.le_of_ble_eq_true rfl) dX10_init_45 (fun H locs h => ?_)
  have h : yH Γ _ s [(h0, .inr (12, [.int 0, .ref q8, .ref q17, .int 0, .ref q26, .int 0, .ref q35, .int 0, .int 0, .ref q43, .int 0, .int 0, .int 0, .int 0, .null, .int 0, .null, .null, .null, .int 0])), (q8, .inl (Γ.2.2 1, 1460, .inl (fun _ => 0))), (q17, .inl (Γ.2.2 1, 11680, .inl (fun _ => 0))), (q26, .inl (Γ.2.2 1, 1460, .inl (fun _ => 0))), (q35, .inl (Γ.2.2 1, 1460, .inl (fun _ => 0))), (q43, .inl (Γ.2.2 0, 60, .inl (fun _ => 0)))] H _ := h
  refine lv_aload_n hx hb dX10_init_48 rfl (lv_at hl 0 rfl) ?_
  refine lv_iconst (v := (-1)) hx hb dX10_init_49 (by decide) ?_
  refine y_put (own := RX10) (ref := "TintDeskModel") (C := RX10) (T := TX10) (N := 20) (index := 26) (v := .int (-1)) (ty := .int) hx hb hts (fun w h => xU_sub w (inU10 w h)) tyX10 tyX10_ok nmX10 hown h 0 rfl rfl 11 (by decide) (hts _ (xU_sub _ q137)) (fun _ h9 => h9) rfl rfl rfl rfl (Nat.le_of_ble_eq_true rfl) dX10_init_50 (fun H locs h => ?_)
  have h : yH Γ _ s [(h0, .inr (12, [.int 0, .ref q8, .ref q17, .int 0, .ref q26, .int 0, .ref q35, .int 0, .int 0, .ref q43, .int 0, .int (-1), .int 0, .int 0, .null, .int 0, .null, .null, .null, .int 0])), (q8, .inl (Γ.2.2 1, 1460, .inl (fun _ => 0))), (q17, .inl (Γ.2.2 1, 11680, .inl (fun _ => 0))), (q26, .inl (Γ.2.2 1, 1460, .inl (fun _ => 0))), (q35, .inl (Γ.2.2 1, 1460, .inl (fun _ => 0))), (q43, .inl (Γ.2.2 0, 60, .inl (fun _ => 0)))] H _ := h
  refine lv_aload_n hx hb dX10_init_53 rfl (lv_at hl 0 rfl) ?_
  refine lv_bipush (v := 10) hx hb dX10_init_54 (by decide) ?_
  refine y_newa (a0 := (10, .inl (fun _ => 0))) (ty := .int) hx hb 1 rfl (hts _ (xU_sub _ q66)) h hA rfl (fun _ => rfl) (by decide) (by decide) (by decide) (Nat.le_of_ble_eq_true rfl) (Nat.le_of_ble_eq_true rfl) dX10_init_56 (fun q56 H h => ?_)
  have h : yH Γ _ s [(h0, .inr (12, [.int 0, .ref q8, .ref q17, .int 0, .ref q26, .int 0, .ref q35, .int 0, .int 0, .ref q43, .int 0, .int (-1), .int 0, .int 0, .null, .int 0, .null, .null, .null, .int 0])), (q8, .inl (Γ.2.2 1, 1460, .inl (fun _ => 0))), (q17, .inl (Γ.2.2 1, 11680, .inl (fun _ => 0))), (q26, .inl (Γ.2.2 1, 1460, .inl (fun _ => 0))), (q35, .inl (Γ.2.2 1, 1460, .inl (fun _ => 0))), (q43, .inl (Γ.2.2 0, 60, .inl (fun _ => 0))), (q56, .inl (Γ.2.2 1, 10, .inl (fun _ => 0)))] H _ := h
  refine y_putF (own := RX10) (ref := "TintDeskModel") (C := RX10) (T := TX10) (N := 20) (index := 30) (v := .ref q56) (ty := .array .int) hx hb hts (fun w h => xU_sub w (inU10 w h)) tyX10 tyX10_ok nmX10 hown h 0 rfl rfl 14 (by decide) (hts _ (xU_sub _ q138)) (fun _ h9 => h9) rfl hin rfl rfl rfl rfl (Nat.le_of_ble_eq_true rfl) dX10_init_58 (fun H locs h => ?_)
  have h : yH Γ _ s [(h0, .inr (12, [.int 0, .ref q8, .ref q17, .int 0, .ref q26, .int 0, .ref q35, .int 0, .int 0, .ref q43, .int 0, .int (-1), .int 0, .int 0, .ref q56, .int 0, .null, .null, .null, .int 0])), (q8, .inl (Γ.2.2 1, 1460, .inl (fun _ => 0))), (q17, .inl (Γ.2.2 1, 11680, .inl (fun _ => 0))), (q26, .inl (Γ.2.2 1, 1460, .inl (fun _ => 0))), (q35, .inl (Γ.2.2 1, 1460, .inl (fun _ => 0))), (q43, .inl (Γ.2.2 0, 60, .inl (fun _ => 0))), (q56, .inl (Γ.2.2 1, 10, .inl (fun _ => 0)))] H _ := h
  refine lv_aload_n hx hb dX10_init_61 rfl (lv_at hl 0 rfl) ?_
  refine lv_bipush (v := 8) hx hb dX10_init_62 (by decide) ?_
  refine y_newa (a0 := (8, .inl (fun _ => 0))) (ty := .int) hx hb 1 rfl (hts _ (xU_sub _ q66)) h hA rfl (fun _ => rfl) (by decide) (by decide) (by decide) (Nat.le_of_ble_eq_true rfl) (Nat.le_of_ble_eq_true rfl) dX10_init_64 (fun q64 H h => ?_)
  have h : yH Γ _ s [(h0, .inr (12, [.int 0, .ref q8, .ref q17, .int 0, .ref q26, .int 0, .ref q35, .int 0, .int 0, .ref q43, .int 0, .int (-1), .int 0, .int 0, .ref q56, .int 0, .null, .null, .null, .int 0])), (q8, .inl (Γ.2.2 1, 1460, .inl (fun _ => 0))), (q17, .inl (Γ.2.2 1, 11680, .inl (fun _ => 0))), (q26, .inl (Γ.2.2 1, 1460, .inl (fun _ => 0))), (q35, .inl (Γ.2.2 1, 1460, .inl (fun _ => 0))), (q43, .inl (Γ.2.2 0, 60, .inl (fun _ => 0))), (q56, .inl (Γ.2.2 1, 10, .inl (fun _ => 0))), (q64, .inl (Γ.2.2 1, 8, .inl (fun _ => 0)))] H _ := h
  refine y_putF (own := RX10) (ref := "TintDeskModel") (C := RX10) (T := TX10) (N := 20) (index := 33) (v := .ref q64) (ty := .array .int) hx hb hts (fun w h => xU_sub w (inU10 w h)) tyX10 tyX10_ok nmX10 hown h 0 rfl rfl 16 (by decide) (hts _ (xU_sub _ q139)) (fun _ h9 => h9) rfl hin rfl rfl rfl rfl (Nat.le_of_ble_eq_true rfl) dX10_init_66 (fun H locs h => ?_)
  have h : yH Γ _ s [(h0, .inr (12, [.int 0, .ref q8, .ref q17, .int 0, .ref q26, .int 0, .ref q35, .int 0, .int 0, .ref q43, .int 0, .int (-1), .int 0, .int 0, .ref q56, .int 0, .ref q64, .null, .null, .int 0])), (q8, .inl (Γ.2.2 1, 1460, .inl (fun _ => 0))), (q17, .inl (Γ.2.2 1, 11680, .inl (fun _ => 0))), (q26, .inl (Γ.2.2 1, 1460, .inl (fun _ => 0))), (q35, .inl (Γ.2.2 1, 1460, .inl (fun _ => 0))), (q43, .inl (Γ.2.2 0, 60, .inl (fun _ => 0))), (q56, .inl (Γ.2.2 1, 10, .inl (fun _ => 0))), (q64, .inl (Γ.2.2 1, 8, .inl (fun _ => 0)))] H _ := h
  refine lv_aload_n hx hb dX10_init_69 rfl (lv_at hl 0 rfl) ?_
  refine lv_iconst (v := 3) hx hb dX10_init_70 (by decide) ?_
  refine y_newa (a0 := (3, .inl (fun _ => 0))) (ty := .int) hx hb 1 rfl (hts _ (xU_sub _ q66)) h hA rfl (fun _ => rfl) (by decide) (by decide) (by decide) (Nat.le_of_ble_eq_true rfl) (Nat.le_of_ble_eq_true rfl) dX10_init_71 (fun q71 H h => ?_)
  have h : yH Γ _ s [(h0, .inr (12, [.int 0, .ref q8, .ref q17, .int 0, .ref q26, .int 0, .ref q35, .int 0, .int 0, .ref q43, .int 0, .int (-1), .int 0, .int 0, .ref q56, .int 0, .ref q64, .null, .null, .int 0])), (q8, .inl (Γ.2.2 1, 1460, .inl (fun _ => 0))), (q17, .inl (Γ.2.2 1, 11680, .inl (fun _ => 0))), (q26, .inl (Γ.2.2 1, 1460, .inl (fun _ => 0))), (q35, .inl (Γ.2.2 1, 1460, .inl (fun _ => 0))), (q43, .inl (Γ.2.2 0, 60, .inl (fun _ => 0))), (q56, .inl (Γ.2.2 1, 10, .inl (fun _ => 0))), (q64, .inl (Γ.2.2 1, 8, .inl (fun _ => 0))), (q71, .inl (Γ.2.2 1, 3, .inl (fun _ => 0)))] H _ := h
  refine y_putF (own := RX10) (ref := "TintDeskModel") (C := RX10) (T := TX10) (N := 20) (index := 36) (v := .ref q71) (ty := .array .int) hx hb hts (fun w h => xU_sub w (inU10 w h)) tyX10 tyX10_ok nmX10 hown h 0 rfl rfl 17 (by decide) (hts _ (xU_sub _ q140)) (fun _ h9 => h9) rfl hin rfl rfl rfl rfl (Nat.le_of_ble_eq_true rfl) dX10_init_73 (fun H locs h => ?_)
  have h : yH Γ _ s [(h0, .inr (12, [.int 0, .ref q8, .ref q17, .int 0, .ref q26, .int 0, .ref q35, .int 0, .int 0, .ref q43, .int 0, .int (-1), .int 0, .int 0, .ref q56, .int 0, .ref q64, .ref q71, .null, .int 0])), (q8, .inl (Γ.2.2 1, 1460, .inl (fun _ => 0))), (q17, .inl (Γ.2.2 1, 11680, .inl (fun _ => 0))), (q26, .inl (Γ.2.2 1, 1460, .inl (fun _ => 0))), (q35, .inl (Γ.2.2 1, 1460, .inl (fun _ => 0))), (q43, .inl (Γ.2.2 0, 60, .inl (fun _ => 0))), (q56, .inl (Γ.2.2 1, 10, .inl (fun _ => 0))), (q64, .inl (Γ.2.2 1, 8, .inl (fun _ => 0))), (q71, .inl (Γ.2.2 1, 3, .inl (fun _ => 0)))] H _ := h
  refine lv_aload_n hx hb dX10_init_76 rfl (lv_at hl 0 rfl) ?_
  refine lv_sipush (v := 1200) hx hb dX10_init_77 (by decide) ?_
  refine y_newa (a0 := (1200, .inl (fun _ => 0))) (ty := .char) hx hb 0 rfl (hts _ (xU_sub _ q110)) h hA rfl (fun _ => rfl) (by decide) (by decide) (by decide) (Nat.le_of_ble_eq_true rfl) (Nat.le_of_ble_eq_true rfl) dX10_init_80 (fun q80 H h => ?_)
  have h : yH Γ _ s [(h0, .inr (12, [.int 0, .ref q8, .ref q17, .int 0, .ref q26, .int 0, .ref q35, .int 0, .int 0, .ref q43, .int 0, .int (-1), .int 0, .int 0, .ref q56, .int 0, .ref q64, .ref q71, .null, .int 0])), (q8, .inl (Γ.2.2 1, 1460, .inl (fun _ => 0))), (q17, .inl (Γ.2.2 1, 11680, .inl (fun _ => 0))), (q26, .inl (Γ.2.2 1, 1460, .inl (fun _ => 0))), (q35, .inl (Γ.2.2 1, 1460, .inl (fun _ => 0))), (q43, .inl (Γ.2.2 0, 60, .inl (fun _ => 0))), (q56, .inl (Γ.2.2 1, 10, .inl (fun _ => 0))), (q64, .inl (Γ.2.2 1, 8, .inl (fun _ => 0))), (q71, .inl (Γ.2.2 1, 3, .inl (fun _ => 0))), (q80, .inl (Γ.2.2 0, 1200, .inl (fun _ => 0)))] H _ := h
  refine y_putF (own := RX10) (ref := "TintDeskModel") (C := RX10) (T := TX10) (N := 20) (index := 39) (v := .ref q80) (ty := .array .char) hx hb hts (fun w h => xU_sub w (inU10 w h)) tyX10 tyX10_ok nmX10 hown h 0 rfl rfl 18 (by decide) (hts _ (xU_sub _ q141)) (fun _ h9 => h9) rfl hin rfl rfl rfl rfl (Nat.le_of_ble_eq_true rfl) dX10_init_82 (fun H locs h => ?_)
  have h : yH Γ _ s [(h0, .inr (12, [.int 0, .ref q8, .ref q17, .int 0, .ref q26, .int 0, .ref q35, .int 0, .int 0, .ref q43, .int 0, .int (-1), .int 0, .int 0, .ref q56, .int 0, .ref q64, .ref q71, .ref q80, .int 0])), (q8, .inl (Γ.2.2 1, 1460, .inl (fun _ => 0))), (q17, .inl (Γ.2.2 1, 11680, .inl (fun _ => 0))), (q26, .inl (Γ.2.2 1, 1460, .inl (fun _ => 0))), (q35, .inl (Γ.2.2 1, 1460, .inl (fun _ => 0))), (q43, .inl (Γ.2.2 0, 60, .inl (fun _ => 0))), (q56, .inl (Γ.2.2 1, 10, .inl (fun _ => 0))), (q64, .inl (Γ.2.2 1, 8, .inl (fun _ => 0))), (q71, .inl (Γ.2.2 1, 3, .inl (fun _ => 0))), (q80, .inl (Γ.2.2 0, 1200, .inl (fun _ => 0)))] H _ := h
  exact y_ret (cf := cModel Γ) (fun k => match k with | 0 => h0 | 1 => q8 | 2 => q17 | 3 => q26 | 4 => q35 | 5 => q43 | 6 => q56 | 7 => q64 | 8 => q71 | _ => q80) hx hb h rfl rfl hr hlocks dX10_init_85
def cDk (Γ : xG) (ad : Nat → Nat) (a b f c : Nat) : Nat → va_E := fun k =>
  if k = 0 then .inr (5, [.ref (ad 1), .ref (ad 2), .ref (ad 3), .ref (ad 4), .int 0, .int 0, .int 0, .int 0, .int 0])
  else if k = 1 then .inl (Γ.2.2 5, 8, .inr (.inr (.inr (.inr (fun j => if j < a then some (ad (5 + 5 * j)) else none)))))
  else if k = 2 then .inl (Γ.2.2 3, 6, .inr (.inr (.inr (.inr (fun j => if j < b then some (ad (45 + 2 * j)) else none)))))
  else if k = 3 then .inl (Γ.2.2 7, 10, .inr (.inr (.inr (.inr (fun j => if j < f then some (ad (57 + 3 * j)) else none)))))
  else if k = 4 then .inl (Γ.2.2 4, 20, .inr (.inr (.inr (.inr (fun j => if j < c then some (ad (87 + 3 * j)) else none)))))
  else if k < 45 then cColorant Γ (fun j => ad (k - (k - 5) % 5 + j)) ((k - 5) % 5)
  else if k < 57 then cBase Γ (fun j => ad (k - (k - 45) % 2 + j)) ((k - 45) % 2)
  else if k < 87 then cFormula Γ (fun j => ad (k - (k - 57) % 3 + j)) ((k - 57) % 3)
  else cCan Γ (fun j => ad (k - (k - 87) % 3 + j)) ((k - 87) % 3)
theorem yFn {ad ad' : Nat → Nat} {n a p z : Nat} (h : ∀ j, j < n → ad j = ad' j) (hz : ∀ j, j < a → p + z * j < n) : (fun j => if j < a then some (ad (p + z * j)) else none) = (fun j => if j < a then some (ad' (p + z * j)) else none) := by
  funext j
  by_cases hj : j < a
  · rw [if_pos hj, if_pos hj, h _ (hz j hj)]
  · rw [if_neg hj, if_neg hj]
theorem cDk_z1 {Γ : xG} {ad : Nat → Nat} {a b f c k : Nat} (h1 : 5 ≤ k) (h2 : k < 45) : cDk Γ ad a b f c k = cColorant Γ (fun j => ad (k - (k - 5) % 5 + j)) ((k - 5) % 5) := by
  unfold cDk
  rw [if_neg (by omega), if_neg (by omega), if_neg (by omega), if_neg (by omega), if_neg (by omega), if_pos h2]
theorem cDk_z2 {Γ : xG} {ad : Nat → Nat} {a b f c k : Nat} (h1 : 45 ≤ k) (h2 : k < 57) : cDk Γ ad a b f c k = cBase Γ (fun j => ad (k - (k - 45) % 2 + j)) ((k - 45) % 2) := by
  unfold cDk
  rw [if_neg (by omega), if_neg (by omega), if_neg (by omega), if_neg (by omega), if_neg (by omega), if_neg (by omega), if_pos h2]
theorem cDk_z3 {Γ : xG} {ad : Nat → Nat} {a b f c k : Nat} (h1 : 57 ≤ k) (h2 : k < 87) : cDk Γ ad a b f c k = cFormula Γ (fun j => ad (k - (k - 57) % 3 + j)) ((k - 57) % 3) := by
  unfold cDk
  rw [if_neg (by omega), if_neg (by omega), if_neg (by omega), if_neg (by omega), if_neg (by omega), if_neg (by omega), if_neg (by omega), if_pos h2]
theorem cDk_z4 {Γ : xG} {ad : Nat → Nat} {a b f c k : Nat} (h1 : 87 ≤ k) : cDk Γ ad a b f c k = cCan Γ (fun j => ad (k - (k - 87) % 3 + j)) ((k - 87) % 3) := by
  unfold cDk
  rw [if_neg (by omega), if_neg (by omega), if_neg (by omega), if_neg (by omega), if_neg (by omega), if_neg (by omega), if_neg (by omega), if_neg (by omega)]
theorem cDk_cnt {Γ : xG} {ad : Nat → Nat} {a b f c a' b' f' c' k : Nat} (h1 : 5 ≤ k) : cDk Γ ad a b f c k = cDk Γ ad a' b' f' c' k := by
  by_cases k45 : k < 45
  · rw [cDk_z1 h1 k45, cDk_z1 h1 k45]
  · by_cases k57 : k < 57
    · rw [cDk_z2 (by omega) k57, cDk_z2 (by omega) k57]
    · by_cases k87 : k < 87
      · rw [cDk_z3 (by omega) k87, cDk_z3 (by omega) k87]
      · rw [cDk_z4 (by omega), cDk_z4 (by omega)]
theorem cDk_low {Γ : xG} {ad ad' : Nat → Nat} {n a b f c k : Nat} (hk : k < n) (h : ∀ j, j < n → ad j = ad' j) (h5 : 5 ≤ n) (hA : ∀ j, j < a → 5 + 5 * j < n) (hB : ∀ j, j < b → 45 + 2 * j < n) (hF : ∀ j, j < f → 57 + 3 * j < n) (hC : ∀ j, j < c → 87 + 3 * j < n)
    (hn : (n ≤ 45 ∧ n % 5 = 0) ∨ (45 ≤ n ∧ n ≤ 57 ∧ n % 2 = 1) ∨ (57 ≤ n ∧ n % 3 = 0)) : cDk Γ ad a b f c k = cDk Γ ad' a b f c k := by
  by_cases k5 : k < 5
  · unfold cDk
    rw [h 1 (by omega), h 2 (by omega), h 3 (by omega), h 4 (by omega), yFn h hA, yFn h hB, yFn h hF, yFn h hC]
    have : k = 0 ∨ k = 1 ∨ k = 2 ∨ k = 3 ∨ k = 4 := by omega
    rcases this with rfl | rfl | rfl | rfl | rfl <;> rfl
  · by_cases k45 : k < 45
    · rw [cDk_z1 (by omega) k45, cDk_z1 (by omega) k45]
      exact cColorant_cong (fun j hj => h _ (by omega)) _
    · by_cases k57 : k < 57
      · rw [cDk_z2 (by omega) k57, cDk_z2 (by omega) k57]
        exact cBase_cong (fun j hj => h _ (by omega)) _
      · by_cases k87 : k < 87
        · rw [cDk_z3 (by omega) k87, cDk_z3 (by omega) k87]
          exact cFormula_cong (fun j hj => h _ (by omega)) _
        · rw [cDk_z4 (by omega), cDk_z4 (by omega)]
          exact cCan_cong (fun j hj => h _ (by omega)) _
theorem yFu {ad : Nat → Nat} {i p z v : Nat} (hv : v = ad (p + z * i)) : va_up (fun j => if j < i then some (ad (p + z * j)) else none) i (some v) = (fun j => if j < i + 1 then some (ad (p + z * j)) else none) := by
  funext j
  show (if j = i then some v else if j < i then some (ad (p + z * j)) else none) = if j < i + 1 then some (ad (p + z * j)) else none
  by_cases hj : j = i
  · subst hj
    rw [if_pos rfl, if_pos (Nat.lt_succ_self _), hv]
  · rw [if_neg hj]
    by_cases hj2 : j < i
    · rw [if_pos hj2, if_pos (by omega)]
    · rw [if_neg hj2, if_neg (by omega)]
theorem yO1 : ∀ i, i < 20 → Int32.ofNat i + 1 = Int32.ofNat (i + 1) := by decide
theorem yO2 : ∀ i, i < 20 → (Int32.ofNat i).toNatClampNeg = i := by decide
theorem yOi {i n : Nat} (h : i < n) (hn : n ≤ 20) : vp_in (Int32.ofNat i) n := by
  have h2 : ∀ i, i < 20 → (Int32.ofNat i).toInt = (i : Int) := by decide
  refine vp_in_iff.mpr ?_
  rw [h2 i (by omega)]
  omega
theorem yO8 : ∀ i, i < 8 → ¬ (8 : Int32) ≤ Int32.ofNat i := by decide
theorem yO6 : ∀ i, i < 6 → ¬ (6 : Int32) ≤ Int32.ofNat i := by decide
theorem yO10 : ∀ i, i < 10 → ¬ (10 : Int32) ≤ Int32.ofNat i := by decide
theorem yO20 : ∀ i, i < 20 → ¬ (20 : Int32) ≤ Int32.ofNat i := by decide
theorem cDk_cat_a {Γ : xG} {ad ad1 : Nat → Nat} {i : Nat} (hi : i < 8) : wS ad (5 + 5 * i) (cDk Γ ad i 0 0 0) ++ wS ad1 5 (cColorant Γ ad1) = wS (yCat (5 + 5 * i) ad ad1) (5 + 5 * (i + 1)) (cDk Γ (yCat (5 + 5 * i) ad ad1) i 0 0 0) := by
  rw [wS_cat, show 5 + 5 * i + 5 = (5 + 5 * (i + 1)) by omega]
  refine wS_ext (fun k hk => ⟨rfl, ?_⟩)
  by_cases h : k < (5 + 5 * i)
  · rw [show yCat (5 + 5 * i) (cDk Γ ad i 0 0 0) (cColorant Γ ad1) k = cDk Γ ad i 0 0 0 k from if_pos h]
    exact cDk_low h (fun j hj => (if_pos hj).symm) (by omega) (fun j hj => by omega) (fun j hj => by omega) (fun j hj => by omega) (fun j hj => by omega) (by omega)
  · rw [show yCat (5 + 5 * i) (cDk Γ ad i 0 0 0) (cColorant Γ ad1) k = cColorant Γ ad1 (k - (5 + 5 * i)) from if_neg h]
    have hr : (k - 5) % 5 = k - (5 + 5 * i) := by omega
    rw [cDk_z1 (by omega) (by omega), hr]
    exact cColorant_cong (fun j hj => by unfold yCat; rw [if_neg (by omega)]; congr 1; omega) _
theorem cDk_obj_a {Γ : xG} {ad : Nat → Nat} {a b f c i : Nat} (hi : i < 8) : cDk Γ ad a b f c (5 + 5 * i) = cColorant Γ (fun j => ad ((5 + 5 * i) + j)) 0 := by
  have hr : ((5 + 5 * i) - 5) % 5 = 0 := by omega
  rw [cDk_z1 (by omega) (by omega), hr]
  rfl
theorem cDk_st_a {Γ : xG} {ad : Nat → Nat} {i n v : Nat} (hv : v = ad (5 + 5 * i)) : wS ad n (fun j => if j = 1 then .inl (Γ.2.2 5, 8, .inr (.inr (.inr (.inr (va_up (fun j => if j < i then some (ad (5 + 5 * j)) else none) i (some v)))))) else cDk Γ ad i 0 0 0 j) = wS ad n (cDk Γ ad (i + 1) 0 0 0) := by
  refine wS_ext (fun k hk => ⟨rfl, ?_⟩)
  rw [yFu hv]
  by_cases h : k = 1
  · subst h
    rfl
  · rw [if_neg h]
    by_cases k5 : k < 5
    · have : k = 0 ∨ k = 1 ∨ k = 2 ∨ k = 3 ∨ k = 4 := by omega
      rcases this with rfl | rfl | rfl | rfl | rfl <;> first | rfl | exact absurd rfl h
    · exact cDk_cnt (by omega)
theorem cDk_cat_b {Γ : xG} {ad ad1 : Nat → Nat} {i : Nat} (hi : i < 6) : wS ad (45 + 2 * i) (cDk Γ ad 8 i 0 0) ++ wS ad1 2 (cBase Γ ad1) = wS (yCat (45 + 2 * i) ad ad1) (45 + 2 * (i + 1)) (cDk Γ (yCat (45 + 2 * i) ad ad1) 8 i 0 0) := by
  rw [wS_cat, show 45 + 2 * i + 2 = (45 + 2 * (i + 1)) by omega]
  refine wS_ext (fun k hk => ⟨rfl, ?_⟩)
  by_cases h : k < (45 + 2 * i)
  · rw [show yCat (45 + 2 * i) (cDk Γ ad 8 i 0 0) (cBase Γ ad1) k = cDk Γ ad 8 i 0 0 k from if_pos h]
    exact cDk_low h (fun j hj => (if_pos hj).symm) (by omega) (fun j hj => by omega) (fun j hj => by omega) (fun j hj => by omega) (fun j hj => by omega) (by omega)
  · rw [show yCat (45 + 2 * i) (cDk Γ ad 8 i 0 0) (cBase Γ ad1) k = cBase Γ ad1 (k - (45 + 2 * i)) from if_neg h]
    have hr : (k - 45) % 2 = k - (45 + 2 * i) := by omega
    rw [cDk_z2 (by omega) (by omega), hr]
    exact cBase_cong (fun j hj => by unfold yCat; rw [if_neg (by omega)]; congr 1; omega) _
theorem cDk_obj_b {Γ : xG} {ad : Nat → Nat} {a b f c i : Nat} (hi : i < 6) : cDk Γ ad a b f c (45 + 2 * i) = cBase Γ (fun j => ad ((45 + 2 * i) + j)) 0 := by
  have hr : ((45 + 2 * i) - 45) % 2 = 0 := by omega
  rw [cDk_z2 (by omega) (by omega), hr]
  rfl
theorem cDk_st_b {Γ : xG} {ad : Nat → Nat} {i n v : Nat} (hv : v = ad (45 + 2 * i)) : wS ad n (fun j => if j = 2 then .inl (Γ.2.2 3, 6, .inr (.inr (.inr (.inr (va_up (fun j => if j < i then some (ad (45 + 2 * j)) else none) i (some v)))))) else cDk Γ ad 8 i 0 0 j) = wS ad n (cDk Γ ad 8 (i + 1) 0 0) := by
  refine wS_ext (fun k hk => ⟨rfl, ?_⟩)
  rw [yFu hv]
  by_cases h : k = 2
  · subst h
    rfl
  · rw [if_neg h]
    by_cases k5 : k < 5
    · have : k = 0 ∨ k = 1 ∨ k = 2 ∨ k = 3 ∨ k = 4 := by omega
      rcases this with rfl | rfl | rfl | rfl | rfl <;> first | rfl | exact absurd rfl h
    · exact cDk_cnt (by omega)
theorem cDk_cat_f {Γ : xG} {ad ad1 : Nat → Nat} {i : Nat} (hi : i < 10) : wS ad (57 + 3 * i) (cDk Γ ad 8 6 i 0) ++ wS ad1 3 (cFormula Γ ad1) = wS (yCat (57 + 3 * i) ad ad1) (57 + 3 * (i + 1)) (cDk Γ (yCat (57 + 3 * i) ad ad1) 8 6 i 0) := by
  rw [wS_cat, show 57 + 3 * i + 3 = (57 + 3 * (i + 1)) by omega]
  refine wS_ext (fun k hk => ⟨rfl, ?_⟩)
  by_cases h : k < (57 + 3 * i)
  · rw [show yCat (57 + 3 * i) (cDk Γ ad 8 6 i 0) (cFormula Γ ad1) k = cDk Γ ad 8 6 i 0 k from if_pos h]
    exact cDk_low h (fun j hj => (if_pos hj).symm) (by omega) (fun j hj => by omega) (fun j hj => by omega) (fun j hj => by omega) (fun j hj => by omega) (by omega)
  · rw [show yCat (57 + 3 * i) (cDk Γ ad 8 6 i 0) (cFormula Γ ad1) k = cFormula Γ ad1 (k - (57 + 3 * i)) from if_neg h]
    have hr : (k - 57) % 3 = k - (57 + 3 * i) := by omega
    rw [cDk_z3 (by omega) (by omega), hr]
    exact cFormula_cong (fun j hj => by unfold yCat; rw [if_neg (by omega)]; congr 1; omega) _
theorem cDk_obj_f {Γ : xG} {ad : Nat → Nat} {a b f c i : Nat} (hi : i < 10) : cDk Γ ad a b f c (57 + 3 * i) = cFormula Γ (fun j => ad ((57 + 3 * i) + j)) 0 := by
  have hr : ((57 + 3 * i) - 57) % 3 = 0 := by omega
  rw [cDk_z3 (by omega) (by omega), hr]
  rfl
theorem cDk_st_f {Γ : xG} {ad : Nat → Nat} {i n v : Nat} (hv : v = ad (57 + 3 * i)) : wS ad n (fun j => if j = 3 then .inl (Γ.2.2 7, 10, .inr (.inr (.inr (.inr (va_up (fun j => if j < i then some (ad (57 + 3 * j)) else none) i (some v)))))) else cDk Γ ad 8 6 i 0 j) = wS ad n (cDk Γ ad 8 6 (i + 1) 0) := by
  refine wS_ext (fun k hk => ⟨rfl, ?_⟩)
  rw [yFu hv]
  by_cases h : k = 3
  · subst h
    rfl
  · rw [if_neg h]
    by_cases k5 : k < 5
    · have : k = 0 ∨ k = 1 ∨ k = 2 ∨ k = 3 ∨ k = 4 := by omega
      rcases this with rfl | rfl | rfl | rfl | rfl <;> first | rfl | exact absurd rfl h
    · exact cDk_cnt (by omega)
theorem cDk_cat_c {Γ : xG} {ad ad1 : Nat → Nat} {i : Nat} (hi : i < 20) : wS ad (87 + 3 * i) (cDk Γ ad 8 6 10 i) ++ wS ad1 3 (cCan Γ ad1) = wS (yCat (87 + 3 * i) ad ad1) (87 + 3 * (i + 1)) (cDk Γ (yCat (87 + 3 * i) ad ad1) 8 6 10 i) := by
  rw [wS_cat, show 87 + 3 * i + 3 = (87 + 3 * (i + 1)) by omega]
  refine wS_ext (fun k hk => ⟨rfl, ?_⟩)
  by_cases h : k < (87 + 3 * i)
  · rw [show yCat (87 + 3 * i) (cDk Γ ad 8 6 10 i) (cCan Γ ad1) k = cDk Γ ad 8 6 10 i k from if_pos h]
    exact cDk_low h (fun j hj => (if_pos hj).symm) (by omega) (fun j hj => by omega) (fun j hj => by omega) (fun j hj => by omega) (fun j hj => by omega) (by omega)
  · rw [show yCat (87 + 3 * i) (cDk Γ ad 8 6 10 i) (cCan Γ ad1) k = cCan Γ ad1 (k - (87 + 3 * i)) from if_neg h]
    have hr : (k - 87) % 3 = k - (87 + 3 * i) := by omega
    rw [cDk_z4 (by omega), hr]
    exact cCan_cong (fun j hj => by unfold yCat; rw [if_neg (by omega)]; congr 1; omega) _
theorem cDk_obj_c {Γ : xG} {ad : Nat → Nat} {a b f c i : Nat} (hi : i < 20) : cDk Γ ad a b f c (87 + 3 * i) = cCan Γ (fun j => ad ((87 + 3 * i) + j)) 0 := by
  have hr : ((87 + 3 * i) - 87) % 3 = 0 := by omega
  rw [cDk_z4 (by omega), hr]
  rfl
theorem cDk_st_c {Γ : xG} {ad : Nat → Nat} {i n v : Nat} (hv : v = ad (87 + 3 * i)) : wS ad n (fun j => if j = 4 then .inl (Γ.2.2 4, 20, .inr (.inr (.inr (.inr (va_up (fun j => if j < i then some (ad (87 + 3 * j)) else none) i (some v)))))) else cDk Γ ad 8 6 10 i j) = wS ad n (cDk Γ ad 8 6 10 (i + 1)) := by
  refine wS_ext (fun k hk => ⟨rfl, ?_⟩)
  rw [yFu hv]
  by_cases h : k = 4
  · subst h
    rfl
  · rw [if_neg h]
    by_cases k5 : k < 5
    · have : k = 0 ∨ k = 1 ∨ k = 2 ∨ k = 3 ∨ k = 4 := by omega
      rcases this with rfl | rfl | rfl | rfl | rfl <;> first | rfl | exact absurd rfl h
    · exact cDk_cnt (by omega)
set_option maxHeartbeats 4000000 in
set_option maxRecDepth 100000 in
theorem w_X3_init_148 (l : Launch) {p : Program} {e : Env} {s : State} {m : MethodId} {args : Array Value} {below : List Frame} {meth : Method} {c : Code} {Γ : xG} {h0 : Nat} (E : xEv p s m args meth c RX3 cX3_init 2 none (xWs yX3_init cX3_init 2 none)) (hN : yN s) : ∀ (n i : Nat), i + n = 20 → ∀ (ad : Nat → Nat) (H : Heap) (locs : List Loc) (ls : Array Slot), yH Γ (yA h0 s.heap.size) s (wS ad (87 + 3 * i) (cDk Γ ad 8 6 10 i)) H locs → ad 0 = h0 → lv_has ls 2 [(1, .int (Int32.ofNat i)), (0, .ref h0)] → W p l e ({ frames := 3, cells := 146, slots := 1262, locals := 100 } : Room) s m args below meth c H locs (86 + 3 * i) (662 + 30 * i) (MQ below (yQ Γ h0 147 (fun ad => cDk Γ ad 8 6 10 20) s.heap.size) args s 146 1262 (yA h0 s.heap.size)) (F0 m 148 ls []) := by
  obtain ⟨⟨hx, hb, hml, hown, hts⟩, hr, hlocks⟩ := id E
  have hA : ∀ q, s.heap.size ≤ q → yA h0 s.heap.size q := fun q hq => Or.inr hq
  intro n
  induction n with
  | zero =>
    intro i hi ad H locs ls h h00 hl
    have hi8 : i = 20 := by omega
    subst hi8
    refine lv_iload_n hx hb dX3_init_148 rfl (lv_at hl 0 rfl) ?_
    refine lv_bipush (v := 20) hx hb dX3_init_149 (by decide) ?_
    refine lv_icmp_ge (tgt := 173) hx hb dX3_init_151 (by decide) (fun c1 => ?_) (fun c1 => absurd (by decide) c1)
    exact y_ret (cf := fun ad => cDk Γ ad 8 6 10 20) ad hx hb h rfl h00 hr hlocks dX3_init_173
  | succ n ih =>
    intro i hi ad H locs ls h h00 hl
    have hi8 : i < 20 := by omega
    refine lv_iload_n hx hb dX3_init_148 rfl (lv_at hl 0 rfl) ?_
    refine lv_bipush (v := 20) hx hb dX3_init_149 (by decide) ?_
    refine lv_icmp_ge (tgt := 173) hx hb dX3_init_151 (by decide) (fun c1 => absurd c1 (yO20 i hi8)) (fun c1 => ?_)
    refine lv_aload_n hx hb dX3_init_154 rfl (lv_at hl 1 rfl) ?_
    refine y_get (own := RX3) (ref := "TintDesk$Desk") (C := RX3) (T := TX3) (N := 9) (index := 31) (ci := 5) (v := .ref (ad 4)) hx hb hts (fun w h => xU_sub w (inU3 w h)) hown h 0 (by rw [wS_get (by omega), h00]; rfl) rfl 3 (by decide) (hts _ (xU_sub _ q49)) (fun _ h9 => h9) rfl dX3_init_155 ?_
    refine lv_iload_n hx hb dX3_init_158 rfl (lv_at hl 0 rfl) ?_
    refine y_new (ci := 3) (fs := [.int 0, .int 0, .int 0, .int 0, .null, .null]) (C := RX1) (T := TX1) (N := 6) hx hb hts (fun w h => xU_sub w (inU1 w h)) tyX1 tyX1_ok hown (hts _ (xU_sub _ q48)) (hts _ (xU_sub _ q61)) (hts _ (xU_sub _ q62)) h hA rfl (by decide) (by show 86 + 3 * i + 1 ≤ 146; omega) (by show 662 + 30 * i + 6 ≤ 1262; omega) dX3_init_159 (fun q H h => ?_)
    refine lv_dup hx hb dX3_init_162 rfl ?_
    refine y_call hN h hA (fun hp9 => va_runIN (As := []) (rest := [.ref q, .int (Int32.ofNat i), .ref (ad 4)]) ⟨hx, hb, hml, hown, hts⟩ (m_X1_init l (h0 := q) H.size) ⟨y_cn hts xU_sub q90 rfl rfl (hN.2 ("TintDesk$Desk", 54, "TintDesk$Can") (by decide +kernel)) q62 hdX1_init ⟨Nat.le_of_ble_eq_true rfl, Nat.le_of_ble_eq_true rfl⟩, rfl, hts _ (xU_sub _ q89)⟩ hp9 rfl rfl hl.1 rfl (lv_room (Nat.le_of_ble_eq_true rfl)) dX3_init_163 ⟨by show 86 + 3 * i + 1 + 2 ≤ 146; omega, by show 662 + 30 * i + 6 + 24 ≤ 1262; omega⟩) (fun ad1 H locs h01 h9 => ?_)
    subst h01
    rw [cDk_cat_c hi8] at h9
    replace h := h9
    clear h9
    have e0 : ad1 0 = yCat (87 + 3 * i) ad ad1 (87 + 3 * i) := by unfold yCat; rw [if_neg (by omega), Nat.sub_self]
    have e1 : ad 4 = yCat (87 + 3 * i) ad ad1 4 := by unfold yCat; rw [if_pos (by omega)]
    have e2 : yCat (87 + 3 * i) ad ad1 0 = h0 := by unfold yCat; rw [if_pos (by omega), h00]
    rw [e1]
    generalize yCat (87 + 3 * i) ad ad1 = ad2 at h e0 e1 e2 ⊢
    refine y_astq hx hb h 4 4 (87 + 3 * i) 3 (wS_get (by omega)) rfl (by rw [wS_get (by omega), e0, cDk_obj_c hi8]; rfl) rfl (yOi hi8 (by decide)) dX3_init_166 (fun H locs h => ?_)
    rw [wS_set (by omega), yO2 i (by omega), cDk_st_c e0] at h
    refine lv_iinc (v := Int32.ofNat (i + 1)) (lv' := [(1, .int (Int32.ofNat (i + 1))), (0, .ref h0)]) hx hb dX3_init_167 hl (k := 0) rfl (by rw [← yO1 i (by omega)]; rfl) (by decide) rfl (fun ls hl => ?_)
    refine lv_goto (tgt := 148) hx hb dX3_init_170 (by decide) ?_
    have h9 := ih (i + 1) (by omega) ad2 H locs ls h e2 hl
    rw [show 86 + 3 * (i + 1) = 86 + 3 * i + 1 + 2 by omega, show 662 + 30 * (i + 1) = 662 + 30 * i + 6 + 24 by omega] at h9
    exact h9
set_option maxHeartbeats 4000000 in
set_option maxRecDepth 100000 in
theorem w_X3_init_121 (l : Launch) {p : Program} {e : Env} {s : State} {m : MethodId} {args : Array Value} {below : List Frame} {meth : Method} {c : Code} {Γ : xG} {h0 : Nat} (E : xEv p s m args meth c RX3 cX3_init 2 none (xWs yX3_init cX3_init 2 none)) (hN : yN s) : ∀ (n i : Nat), i + n = 10 → ∀ (ad : Nat → Nat) (H : Heap) (locs : List Loc) (ls : Array Slot), yH Γ (yA h0 s.heap.size) s (wS ad (57 + 3 * i) (cDk Γ ad 8 6 i 0)) H locs → ad 0 = h0 → lv_has ls 2 [(1, .int (Int32.ofNat i)), (0, .ref h0)] → W p l e ({ frames := 3, cells := 146, slots := 1262, locals := 100 } : Room) s m args below meth c H locs (56 + 3 * i) (472 + 19 * i) (MQ below (yQ Γ h0 147 (fun ad => cDk Γ ad 8 6 10 20) s.heap.size) args s 146 1262 (yA h0 s.heap.size)) (F0 m 121 ls []) := by
  obtain ⟨⟨hx, hb, hml, hown, hts⟩, hr, hlocks⟩ := id E
  have hA : ∀ q, s.heap.size ≤ q → yA h0 s.heap.size q := fun q hq => Or.inr hq
  intro n
  induction n with
  | zero =>
    intro i hi ad H locs ls h h00 hl
    have hi8 : i = 10 := by omega
    subst hi8
    refine lv_iload_n hx hb dX3_init_121 rfl (lv_at hl 0 rfl) ?_
    refine lv_bipush (v := 10) hx hb dX3_init_122 (by decide) ?_
    refine lv_icmp_ge (tgt := 146) hx hb dX3_init_124 (by decide) (fun c1 => ?_) (fun c1 => absurd (by decide) c1)
    refine lv_iconst (v := 0) hx hb dX3_init_146 (by decide) ?_
    refine lv_istore_n (lv' := [(1, .int 0), (0, .ref h0)]) hx hb dX3_init_147 rfl hl (by decide) rfl (fun ls hl => ?_)
    exact w_X3_init_148 l E hN 20 0 rfl ad H locs ls h h00 hl
  | succ n ih =>
    intro i hi ad H locs ls h h00 hl
    have hi8 : i < 10 := by omega
    refine lv_iload_n hx hb dX3_init_121 rfl (lv_at hl 0 rfl) ?_
    refine lv_bipush (v := 10) hx hb dX3_init_122 (by decide) ?_
    refine lv_icmp_ge (tgt := 146) hx hb dX3_init_124 (by decide) (fun c1 => absurd c1 (yO10 i hi8)) (fun c1 => ?_)
    refine lv_aload_n hx hb dX3_init_127 rfl (lv_at hl 1 rfl) ?_
    refine y_get (own := RX3) (ref := "TintDesk$Desk") (C := RX3) (T := TX3) (N := 9) (index := 25) (ci := 5) (v := .ref (ad 3)) hx hb hts (fun w h => xU_sub w (inU3 w h)) hown h 0 (by rw [wS_get (by omega), h00]; rfl) rfl 2 (by decide) (hts _ (xU_sub _ q47)) (fun _ h9 => h9) rfl dX3_init_128 ?_
    refine lv_iload_n hx hb dX3_init_131 rfl (lv_at hl 0 rfl) ?_
    refine y_new (ci := 6) (fs := [.int 0, .null, .null]) (C := RX4) (T := TX4) (N := 3) hx hb hts (fun w h => xU_sub w (inU4 w h)) tyX4 tyX4_ok hown (hts _ (xU_sub _ q46)) (hts _ (xU_sub _ q59)) (hts _ (xU_sub _ q60)) h hA rfl (by decide) (by show 56 + 3 * i + 1 ≤ 146; omega) (by show 472 + 19 * i + 3 ≤ 1262; omega) dX3_init_132 (fun q H h => ?_)
    refine lv_dup hx hb dX3_init_135 rfl ?_
    refine y_call hN h hA (fun hp9 => va_runIN (As := []) (rest := [.ref q, .int (Int32.ofNat i), .ref (ad 3)]) ⟨hx, hb, hml, hown, hts⟩ (m_X4_init l (h0 := q) H.size) ⟨y_cn hts xU_sub q84 rfl rfl (hN.2 ("TintDesk$Desk", 53, "TintDesk$Formula") (by decide +kernel)) q60 hdX4_init ⟨Nat.le_of_ble_eq_true rfl, Nat.le_of_ble_eq_true rfl⟩, rfl, hts _ (xU_sub _ q83)⟩ hp9 rfl rfl hl.1 rfl (lv_room (Nat.le_of_ble_eq_true rfl)) dX3_init_136 ⟨by show 56 + 3 * i + 1 + 2 ≤ 146; omega, by show 472 + 19 * i + 3 + 16 ≤ 1262; omega⟩) (fun ad1 H locs h01 h9 => ?_)
    subst h01
    rw [cDk_cat_f hi8] at h9
    replace h := h9
    clear h9
    have e0 : ad1 0 = yCat (57 + 3 * i) ad ad1 (57 + 3 * i) := by unfold yCat; rw [if_neg (by omega), Nat.sub_self]
    have e1 : ad 3 = yCat (57 + 3 * i) ad ad1 3 := by unfold yCat; rw [if_pos (by omega)]
    have e2 : yCat (57 + 3 * i) ad ad1 0 = h0 := by unfold yCat; rw [if_pos (by omega), h00]
    rw [e1]
    generalize yCat (57 + 3 * i) ad ad1 = ad2 at h e0 e1 e2 ⊢
    refine y_astq hx hb h 3 7 (57 + 3 * i) 6 (wS_get (by omega)) rfl (by rw [wS_get (by omega), e0, cDk_obj_f hi8]; rfl) rfl (yOi hi8 (by decide)) dX3_init_139 (fun H locs h => ?_)
    rw [wS_set (by omega), yO2 i (by omega), cDk_st_f e0] at h
    refine lv_iinc (v := Int32.ofNat (i + 1)) (lv' := [(1, .int (Int32.ofNat (i + 1))), (0, .ref h0)]) hx hb dX3_init_140 hl (k := 0) rfl (by rw [← yO1 i (by omega)]; rfl) (by decide) rfl (fun ls hl => ?_)
    refine lv_goto (tgt := 121) hx hb dX3_init_143 (by decide) ?_
    have h9 := ih (i + 1) (by omega) ad2 H locs ls h e2 hl
    rw [show 56 + 3 * (i + 1) = 56 + 3 * i + 1 + 2 by omega, show 472 + 19 * (i + 1) = 472 + 19 * i + 3 + 16 by omega] at h9
    exact h9
set_option maxHeartbeats 4000000 in
set_option maxRecDepth 100000 in
theorem w_X3_init_94 (l : Launch) {p : Program} {e : Env} {s : State} {m : MethodId} {args : Array Value} {below : List Frame} {meth : Method} {c : Code} {Γ : xG} {h0 : Nat} (E : xEv p s m args meth c RX3 cX3_init 2 none (xWs yX3_init cX3_init 2 none)) (hN : yN s) : ∀ (n i : Nat), i + n = 6 → ∀ (ad : Nat → Nat) (H : Heap) (locs : List Loc) (ls : Array Slot), yH Γ (yA h0 s.heap.size) s (wS ad (45 + 2 * i) (cDk Γ ad 8 i 0 0)) H locs → ad 0 = h0 → lv_has ls 2 [(1, .int (Int32.ofNat i)), (0, .ref h0)] → W p l e ({ frames := 3, cells := 146, slots := 1262, locals := 100 } : Room) s m args below meth c H locs (44 + 2 * i) (436 + 6 * i) (MQ below (yQ Γ h0 147 (fun ad => cDk Γ ad 8 6 10 20) s.heap.size) args s 146 1262 (yA h0 s.heap.size)) (F0 m 94 ls []) := by
  obtain ⟨⟨hx, hb, hml, hown, hts⟩, hr, hlocks⟩ := id E
  have hA : ∀ q, s.heap.size ≤ q → yA h0 s.heap.size q := fun q hq => Or.inr hq
  intro n
  induction n with
  | zero =>
    intro i hi ad H locs ls h h00 hl
    have hi8 : i = 6 := by omega
    subst hi8
    refine lv_iload_n hx hb dX3_init_94 rfl (lv_at hl 0 rfl) ?_
    refine lv_bipush (v := 6) hx hb dX3_init_95 (by decide) ?_
    refine lv_icmp_ge (tgt := 119) hx hb dX3_init_97 (by decide) (fun c1 => ?_) (fun c1 => absurd (by decide) c1)
    refine lv_iconst (v := 0) hx hb dX3_init_119 (by decide) ?_
    refine lv_istore_n (lv' := [(1, .int 0), (0, .ref h0)]) hx hb dX3_init_120 rfl hl (by decide) rfl (fun ls hl => ?_)
    exact w_X3_init_121 l E hN 10 0 rfl ad H locs ls h h00 hl
  | succ n ih =>
    intro i hi ad H locs ls h h00 hl
    have hi8 : i < 6 := by omega
    refine lv_iload_n hx hb dX3_init_94 rfl (lv_at hl 0 rfl) ?_
    refine lv_bipush (v := 6) hx hb dX3_init_95 (by decide) ?_
    refine lv_icmp_ge (tgt := 119) hx hb dX3_init_97 (by decide) (fun c1 => absurd c1 (yO6 i hi8)) (fun c1 => ?_)
    refine lv_aload_n hx hb dX3_init_100 rfl (lv_at hl 1 rfl) ?_
    refine y_get (own := RX3) (ref := "TintDesk$Desk") (C := RX3) (T := TX3) (N := 9) (index := 19) (ci := 5) (v := .ref (ad 2)) hx hb hts (fun w h => xU_sub w (inU3 w h)) hown h 0 (by rw [wS_get (by omega), h00]; rfl) rfl 1 (by decide) (hts _ (xU_sub _ q45)) (fun _ h9 => h9) rfl dX3_init_101 ?_
    refine lv_iload_n hx hb dX3_init_104 rfl (lv_at hl 0 rfl) ?_
    refine y_new (ci := 2) (fs := [.null, .int 0, .int 0]) (C := RX0) (T := TX0) (N := 3) hx hb hts (fun w h => xU_sub w (inU0 w h)) tyX0 tyX0_ok hown (hts _ (xU_sub _ q44)) (hts _ (xU_sub _ q57)) (hts _ (xU_sub _ q58)) h hA rfl (by decide) (by show 44 + 2 * i + 1 ≤ 146; omega) (by show 436 + 6 * i + 3 ≤ 1262; omega) dX3_init_105 (fun q H h => ?_)
    refine lv_dup hx hb dX3_init_108 rfl ?_
    refine y_call hN h hA (fun hp9 => va_runIN (As := []) (rest := [.ref q, .int (Int32.ofNat i), .ref (ad 2)]) ⟨hx, hb, hml, hown, hts⟩ (m_X0_init l (h0 := q) H.size) ⟨y_cn hts xU_sub q78 rfl rfl (hN.2 ("TintDesk$Desk", 52, "TintDesk$Base") (by decide +kernel)) q58 hdX0_init ⟨Nat.le_of_ble_eq_true rfl, Nat.le_of_ble_eq_true rfl⟩, rfl, hts _ (xU_sub _ q77)⟩ hp9 rfl rfl hl.1 rfl (lv_room (Nat.le_of_ble_eq_true rfl)) dX3_init_109 ⟨by show 44 + 2 * i + 1 + 1 ≤ 146; omega, by show 436 + 6 * i + 3 + 3 ≤ 1262; omega⟩) (fun ad1 H locs h01 h9 => ?_)
    subst h01
    rw [cDk_cat_b hi8] at h9
    replace h := h9
    clear h9
    have e0 : ad1 0 = yCat (45 + 2 * i) ad ad1 (45 + 2 * i) := by unfold yCat; rw [if_neg (by omega), Nat.sub_self]
    have e1 : ad 2 = yCat (45 + 2 * i) ad ad1 2 := by unfold yCat; rw [if_pos (by omega)]
    have e2 : yCat (45 + 2 * i) ad ad1 0 = h0 := by unfold yCat; rw [if_pos (by omega), h00]
    rw [e1]
    generalize yCat (45 + 2 * i) ad ad1 = ad2 at h e0 e1 e2 ⊢
    refine y_astq hx hb h 2 3 (45 + 2 * i) 2 (wS_get (by omega)) rfl (by rw [wS_get (by omega), e0, cDk_obj_b hi8]; rfl) rfl (yOi hi8 (by decide)) dX3_init_112 (fun H locs h => ?_)
    rw [wS_set (by omega), yO2 i (by omega), cDk_st_b e0] at h
    refine lv_iinc (v := Int32.ofNat (i + 1)) (lv' := [(1, .int (Int32.ofNat (i + 1))), (0, .ref h0)]) hx hb dX3_init_113 hl (k := 0) rfl (by rw [← yO1 i (by omega)]; rfl) (by decide) rfl (fun ls hl => ?_)
    refine lv_goto (tgt := 94) hx hb dX3_init_116 (by decide) ?_
    have h9 := ih (i + 1) (by omega) ad2 H locs ls h e2 hl
    rw [show 44 + 2 * (i + 1) = 44 + 2 * i + 1 + 1 by omega, show 436 + 6 * (i + 1) = 436 + 6 * i + 3 + 3 by omega] at h9
    exact h9
set_option maxHeartbeats 4000000 in
set_option maxRecDepth 100000 in
theorem w_X3_init_67 (l : Launch) {p : Program} {e : Env} {s : State} {m : MethodId} {args : Array Value} {below : List Frame} {meth : Method} {c : Code} {Γ : xG} {h0 : Nat} (E : xEv p s m args meth c RX3 cX3_init 2 none (xWs yX3_init cX3_init 2 none)) (hN : yN s) : ∀ (n i : Nat), i + n = 8 → ∀ (ad : Nat → Nat) (H : Heap) (locs : List Loc) (ls : Array Slot), yH Γ (yA h0 s.heap.size) s (wS ad (5 + 5 * i) (cDk Γ ad i 0 0 0)) H locs → ad 0 = h0 → lv_has ls 2 [(1, .int (Int32.ofNat i)), (0, .ref h0)] → W p l e ({ frames := 3, cells := 146, slots := 1262, locals := 100 } : Room) s m args below meth c H locs (4 + 5 * i) (44 + 49 * i) (MQ below (yQ Γ h0 147 (fun ad => cDk Γ ad 8 6 10 20) s.heap.size) args s 146 1262 (yA h0 s.heap.size)) (F0 m 67 ls []) := by
  obtain ⟨⟨hx, hb, hml, hown, hts⟩, hr, hlocks⟩ := id E
  have hA : ∀ q, s.heap.size ≤ q → yA h0 s.heap.size q := fun q hq => Or.inr hq
  intro n
  induction n with
  | zero =>
    intro i hi ad H locs ls h h00 hl
    have hi8 : i = 8 := by omega
    subst hi8
    refine lv_iload_n hx hb dX3_init_67 rfl (lv_at hl 0 rfl) ?_
    refine lv_bipush (v := 8) hx hb dX3_init_68 (by decide) ?_
    refine lv_icmp_ge (tgt := 92) hx hb dX3_init_70 (by decide) (fun c1 => ?_) (fun c1 => absurd (by decide) c1)
    refine lv_iconst (v := 0) hx hb dX3_init_92 (by decide) ?_
    refine lv_istore_n (lv' := [(1, .int 0), (0, .ref h0)]) hx hb dX3_init_93 rfl hl (by decide) rfl (fun ls hl => ?_)
    exact w_X3_init_94 l E hN 6 0 rfl ad H locs ls h h00 hl
  | succ n ih =>
    intro i hi ad H locs ls h h00 hl
    have hi8 : i < 8 := by omega
    refine lv_iload_n hx hb dX3_init_67 rfl (lv_at hl 0 rfl) ?_
    refine lv_bipush (v := 8) hx hb dX3_init_68 (by decide) ?_
    refine lv_icmp_ge (tgt := 92) hx hb dX3_init_70 (by decide) (fun c1 => absurd c1 (yO8 i hi8)) (fun c1 => ?_)
    refine lv_aload_n hx hb dX3_init_73 rfl (lv_at hl 1 rfl) ?_
    refine y_get (own := RX3) (ref := "TintDesk$Desk") (C := RX3) (T := TX3) (N := 9) (index := 11) (ci := 5) (v := .ref (ad 1)) hx hb hts (fun w h => xU_sub w (inU3 w h)) hown h 0 (by rw [wS_get (by omega), h00]; rfl) rfl 0 (by decide) (hts _ (xU_sub _ q43)) (fun _ h9 => h9) rfl dX3_init_74 ?_
    refine lv_iload_n hx hb dX3_init_77 rfl (lv_at hl 0 rfl) ?_
    refine y_new (ci := 4) (fs := [.null, .int 0, .int 0, .int 0, .int 0, .int 0, .int 0, .null, .null, .null]) (C := RX2) (T := TX2) (N := 10) hx hb hts (fun w h => xU_sub w (inU2 w h)) tyX2 tyX2_ok hown (hts _ (xU_sub _ q42)) (hts _ (xU_sub _ q55)) (hts _ (xU_sub _ q56)) h hA rfl (by decide) (by show 4 + 5 * i + 1 ≤ 146; omega) (by show 44 + 49 * i + 10 ≤ 1262; omega) dX3_init_78 (fun q H h => ?_)
    refine lv_dup hx hb dX3_init_81 rfl ?_
    refine y_call hN h hA (fun hp9 => va_runIN (As := []) (rest := [.ref q, .int (Int32.ofNat i), .ref (ad 1)]) ⟨hx, hb, hml, hown, hts⟩ (m_X2_init l (h0 := q) H.size) ⟨y_cn hts xU_sub q64 rfl rfl (hN.2 ("TintDesk$Desk", 51, "TintDesk$Colorant") (by decide +kernel)) q56 hdX2_init ⟨Nat.le_of_ble_eq_true rfl, Nat.le_of_ble_eq_true rfl⟩, rfl, hts _ (xU_sub _ q63)⟩ hp9 rfl rfl hl.1 rfl (lv_room (Nat.le_of_ble_eq_true rfl)) dX3_init_82 ⟨by show 4 + 5 * i + 1 + 4 ≤ 146; omega, by show 44 + 49 * i + 10 + 39 ≤ 1262; omega⟩) (fun ad1 H locs h01 h9 => ?_)
    subst h01
    rw [cDk_cat_a hi8] at h9
    replace h := h9
    clear h9
    have e0 : ad1 0 = yCat (5 + 5 * i) ad ad1 (5 + 5 * i) := by unfold yCat; rw [if_neg (by omega), Nat.sub_self]
    have e1 : ad 1 = yCat (5 + 5 * i) ad ad1 1 := by unfold yCat; rw [if_pos (by omega)]
    have e2 : yCat (5 + 5 * i) ad ad1 0 = h0 := by unfold yCat; rw [if_pos (by omega), h00]
    rw [e1]
    generalize yCat (5 + 5 * i) ad ad1 = ad2 at h e0 e1 e2 ⊢
    refine y_astq hx hb h 1 5 (5 + 5 * i) 4 (wS_get (by omega)) rfl (by rw [wS_get (by omega), e0, cDk_obj_a hi8]; rfl) rfl (yOi hi8 (by decide)) dX3_init_85 (fun H locs h => ?_)
    rw [wS_set (by omega), yO2 i (by omega), cDk_st_a e0] at h
    refine lv_iinc (v := Int32.ofNat (i + 1)) (lv' := [(1, .int (Int32.ofNat (i + 1))), (0, .ref h0)]) hx hb dX3_init_86 hl (k := 0) rfl (by rw [← yO1 i (by omega)]; rfl) (by decide) rfl (fun ls hl => ?_)
    refine lv_goto (tgt := 67) hx hb dX3_init_89 (by decide) ?_
    have h9 := ih (i + 1) (by omega) ad2 H locs ls h e2 hl
    rw [show 4 + 5 * (i + 1) = 4 + 5 * i + 1 + 4 by omega, show 44 + 49 * (i + 1) = 44 + 49 * i + 10 + 39 by omega] at h9
    exact h9
theorem hdX3_init : yX3_init.cls ≠ "java/lang/invoke/MethodHandle" ∧ yX3_init.cls ≠ "java/lang/invoke/VarHandle" ∧ (parseMethodDescriptor yX3_init.desc).map (fun d => d.parameters.length) = some 0 := by decide +kernel
set_option maxHeartbeats 4000000 in
set_option maxRecDepth 100000 in
theorem m_X3_init (l : Launch) {Γ : xG} {h0 : Nat} (sz : Nat) : Met l yX3_init (xWs yX3_init cX3_init 2 none) ({ frames := 3, cells := 146, slots := 1262, locals := 100 } : Room) (va_Pc [.ref h0] (yPre Γ h0 (.inr (5, [.null, .null, .null, .null, .int 0, .int 0, .int 0, .int 0, .int 0])) sz)) (yQ Γ h0 147 (fun ad => cDk Γ ad 8 6 10 20) sz) 146 1262 (yA h0 sz) := by
  refine y_met pnX3 rfl (by decide) (fun p e s m args below meth c E hN hin h ls hl => ?_) sz
  obtain ⟨⟨hx, hb, hml, hown, hts⟩, hr, hlocks⟩ := id E
  have hA : ∀ q, s.heap.size ≤ q → yA h0 s.heap.size q := fun q hq => Or.inr hq
  refine lv_aload_n hx hb dX3_init_0 rfl (lv_at hl 0 rfl) ?_
  refine W.objInit hx hb hown (hts _ (xU_sub _ q41)) (hts _ (xU_sub _ q12)) (hts _ (xU_sub _ qOI)) rfl (by rw [hml]; exact hl.1) rfl dX3_init_1 (Nat.le_of_ble_eq_true rfl) (Nat.le_of_ble_eq_true rfl) ?_
  refine W.eq (g2 := F0 m 4 ls []) rfl ?_
  refine lv_aload_n hx hb dX3_init_4 rfl (lv_at hl 0 rfl) ?_
  refine lv_bipush (v := 8) hx hb dX3_init_5 (by decide) ?_
  refine y_newq (N' := 8) hx hb 5 hown (hts _ (xU_sub _ q42)) (hN.1 _ (by decide +kernel)) h hA rfl (by decide) (by decide) (by decide) (Nat.le_of_ble_eq_true rfl) (Nat.le_of_ble_eq_true rfl) dX3_init_7 (fun q7 H h => ?_)
  have h : yH Γ _ s [(h0, .inr (5, [.null, .null, .null, .null, .int 0, .int 0, .int 0, .int 0, .int 0])), (q7, .inl (Γ.2.2 5, 8, .inr (.inr (.inr (.inr (fun _ => none))))))] H _ := h
  refine y_putF (own := RX3) (ref := "TintDesk$Desk") (C := RX3) (T := TX3) (N := 9) (index := 11) (v := .ref q7) (ty := .array (.object "TintDesk$Colorant")) hx hb hts (fun w h => xU_sub w (inU3 w h)) tyX3 tyX3_ok nmX3 hown h 0 rfl rfl 0 (by decide) (hts _ (xU_sub _ q43)) (fun _ h9 => h9) rfl hin rfl rfl rfl rfl (Nat.le_of_ble_eq_true rfl) dX3_init_10 (fun H locs h => ?_)
  have h : yH Γ _ s [(h0, .inr (5, [.ref q7, .null, .null, .null, .int 0, .int 0, .int 0, .int 0, .int 0])), (q7, .inl (Γ.2.2 5, 8, .inr (.inr (.inr (.inr (fun _ => none))))))] H _ := h
  refine lv_aload_n hx hb dX3_init_13 rfl (lv_at hl 0 rfl) ?_
  refine lv_bipush (v := 6) hx hb dX3_init_14 (by decide) ?_
  refine y_newq (N' := 6) hx hb 3 hown (hts _ (xU_sub _ q44)) (hN.1 _ (by decide +kernel)) h hA rfl (by decide) (by decide) (by decide) (Nat.le_of_ble_eq_true rfl) (Nat.le_of_ble_eq_true rfl) dX3_init_16 (fun q16 H h => ?_)
  have h : yH Γ _ s [(h0, .inr (5, [.ref q7, .null, .null, .null, .int 0, .int 0, .int 0, .int 0, .int 0])), (q7, .inl (Γ.2.2 5, 8, .inr (.inr (.inr (.inr (fun _ => none)))))), (q16, .inl (Γ.2.2 3, 6, .inr (.inr (.inr (.inr (fun _ => none))))))] H _ := h
  refine y_putF (own := RX3) (ref := "TintDesk$Desk") (C := RX3) (T := TX3) (N := 9) (index := 19) (v := .ref q16) (ty := .array (.object "TintDesk$Base")) hx hb hts (fun w h => xU_sub w (inU3 w h)) tyX3 tyX3_ok nmX3 hown h 0 rfl rfl 1 (by decide) (hts _ (xU_sub _ q45)) (fun _ h9 => h9) rfl hin rfl rfl rfl rfl (Nat.le_of_ble_eq_true rfl) dX3_init_19 (fun H locs h => ?_)
  have h : yH Γ _ s [(h0, .inr (5, [.ref q7, .ref q16, .null, .null, .int 0, .int 0, .int 0, .int 0, .int 0])), (q7, .inl (Γ.2.2 5, 8, .inr (.inr (.inr (.inr (fun _ => none)))))), (q16, .inl (Γ.2.2 3, 6, .inr (.inr (.inr (.inr (fun _ => none))))))] H _ := h
  refine lv_aload_n hx hb dX3_init_22 rfl (lv_at hl 0 rfl) ?_
  refine lv_bipush (v := 10) hx hb dX3_init_23 (by decide) ?_
  refine y_newq (N' := 10) hx hb 7 hown (hts _ (xU_sub _ q46)) (hN.1 _ (by decide +kernel)) h hA rfl (by decide) (by decide) (by decide) (Nat.le_of_ble_eq_true rfl) (Nat.le_of_ble_eq_true rfl) dX3_init_25 (fun q25 H h => ?_)
  have h : yH Γ _ s [(h0, .inr (5, [.ref q7, .ref q16, .null, .null, .int 0, .int 0, .int 0, .int 0, .int 0])), (q7, .inl (Γ.2.2 5, 8, .inr (.inr (.inr (.inr (fun _ => none)))))), (q16, .inl (Γ.2.2 3, 6, .inr (.inr (.inr (.inr (fun _ => none)))))), (q25, .inl (Γ.2.2 7, 10, .inr (.inr (.inr (.inr (fun _ => none))))))] H _ := h
  refine y_putF (own := RX3) (ref := "TintDesk$Desk") (C := RX3) (T := TX3) (N := 9) (index := 25) (v := .ref q25) (ty := .array (.object "TintDesk$Formula")) hx hb hts (fun w h => xU_sub w (inU3 w h)) tyX3 tyX3_ok nmX3 hown h 0 rfl rfl 2 (by decide) (hts _ (xU_sub _ q47)) (fun _ h9 => h9) rfl hin rfl rfl rfl rfl (Nat.le_of_ble_eq_true rfl) dX3_init_28 (fun H locs h => ?_)
  have h : yH Γ _ s [(h0, .inr (5, [.ref q7, .ref q16, .ref q25, .null, .int 0, .int 0, .int 0, .int 0, .int 0])), (q7, .inl (Γ.2.2 5, 8, .inr (.inr (.inr (.inr (fun _ => none)))))), (q16, .inl (Γ.2.2 3, 6, .inr (.inr (.inr (.inr (fun _ => none)))))), (q25, .inl (Γ.2.2 7, 10, .inr (.inr (.inr (.inr (fun _ => none))))))] H _ := h
  refine lv_aload_n hx hb dX3_init_31 rfl (lv_at hl 0 rfl) ?_
  refine lv_bipush (v := 20) hx hb dX3_init_32 (by decide) ?_
  refine y_newq (N' := 20) hx hb 4 hown (hts _ (xU_sub _ q48)) (hN.1 _ (by decide +kernel)) h hA rfl (by decide) (by decide) (by decide) (Nat.le_of_ble_eq_true rfl) (Nat.le_of_ble_eq_true rfl) dX3_init_34 (fun q34 H h => ?_)
  have h : yH Γ _ s [(h0, .inr (5, [.ref q7, .ref q16, .ref q25, .null, .int 0, .int 0, .int 0, .int 0, .int 0])), (q7, .inl (Γ.2.2 5, 8, .inr (.inr (.inr (.inr (fun _ => none)))))), (q16, .inl (Γ.2.2 3, 6, .inr (.inr (.inr (.inr (fun _ => none)))))), (q25, .inl (Γ.2.2 7, 10, .inr (.inr (.inr (.inr (fun _ => none)))))), (q34, .inl (Γ.2.2 4, 20, .inr (.inr (.inr (.inr (fun _ => none))))))] H _ := h
  refine y_putF (own := RX3) (ref := "TintDesk$Desk") (C := RX3) (T := TX3) (N := 9) (index := 31) (v := .ref q34) (ty := .array (.object "TintDesk$Can")) hx hb hts (fun w h => xU_sub w (inU3 w h)) tyX3 tyX3_ok nmX3 hown h 0 rfl rfl 3 (by decide) (hts _ (xU_sub _ q49)) (fun _ h9 => h9) rfl hin rfl rfl rfl rfl (Nat.le_of_ble_eq_true rfl) dX3_init_37 (fun H locs h => ?_)
  have h : yH Γ _ s [(h0, .inr (5, [.ref q7, .ref q16, .ref q25, .ref q34, .int 0, .int 0, .int 0, .int 0, .int 0])), (q7, .inl (Γ.2.2 5, 8, .inr (.inr (.inr (.inr (fun _ => none)))))), (q16, .inl (Γ.2.2 3, 6, .inr (.inr (.inr (.inr (fun _ => none)))))), (q25, .inl (Γ.2.2 7, 10, .inr (.inr (.inr (.inr (fun _ => none)))))), (q34, .inl (Γ.2.2 4, 20, .inr (.inr (.inr (.inr (fun _ => none))))))] H _ := h
  refine lv_aload_n hx hb dX3_init_40 rfl (lv_at hl 0 rfl) ?_
  refine lv_iconst (v := 0) hx hb dX3_init_41 (by decide) ?_
  refine y_put (own := RX3) (ref := "TintDesk$Desk") (C := RX3) (T := TX3) (N := 9) (index := 35) (v := .int 0) (ty := .int) hx hb hts (fun w h => xU_sub w (inU3 w h)) tyX3 tyX3_ok nmX3 hown h 0 rfl rfl 4 (by decide) (hts _ (xU_sub _ q50)) (fun _ h9 => h9) rfl rfl rfl rfl (Nat.le_of_ble_eq_true rfl) dX3_init_42 (fun H locs h => ?_)
  have h : yH Γ _ s [(h0, .inr (5, [.ref q7, .ref q16, .ref q25, .ref q34, .int 0, .int 0, .int 0, .int 0, .int 0])), (q7, .inl (Γ.2.2 5, 8, .inr (.inr (.inr (.inr (fun _ => none)))))), (q16, .inl (Γ.2.2 3, 6, .inr (.inr (.inr (.inr (fun _ => none)))))), (q25, .inl (Γ.2.2 7, 10, .inr (.inr (.inr (.inr (fun _ => none)))))), (q34, .inl (Γ.2.2 4, 20, .inr (.inr (.inr (.inr (fun _ => none))))))] H _ := h
  refine lv_aload_n hx hb dX3_init_45 rfl (lv_at hl 0 rfl) ?_
  refine lv_iconst (v := 0) hx hb dX3_init_46 (by decide) ?_
  refine y_put (own := RX3) (ref := "TintDesk$Desk") (C := RX3) (T := TX3) (N := 9) (index := 39) (v := .int 0) (ty := .int) hx hb hts (fun w h => xU_sub w (inU3 w h)) tyX3 tyX3_ok nmX3 hown h 0 rfl rfl 5 (by decide) (hts _ (xU_sub _ q51)) (fun _ h9 => h9) rfl rfl rfl rfl (Nat.le_of_ble_eq_true rfl) dX3_init_47 (fun H locs h => ?_)
  have h : yH Γ _ s [(h0, .inr (5, [.ref q7, .ref q16, .ref q25, .ref q34, .int 0, .int 0, .int 0, .int 0, .int 0])), (q7, .inl (Γ.2.2 5, 8, .inr (.inr (.inr (.inr (fun _ => none)))))), (q16, .inl (Γ.2.2 3, 6, .inr (.inr (.inr (.inr (fun _ => none)))))), (q25, .inl (Γ.2.2 7, 10, .inr (.inr (.inr (.inr (fun _ => none)))))), (q34, .inl (Γ.2.2 4, 20, .inr (.inr (.inr (.inr (fun _ => none))))))] H _ := h
  refine lv_aload_n hx hb dX3_init_50 rfl (lv_at hl 0 rfl) ?_
  refine lv_iconst (v := 0) hx hb dX3_init_51 (by decide) ?_
  refine y_put (own := RX3) (ref := "TintDesk$Desk") (C := RX3) (T := TX3) (N := 9) (index := 42) (v := .int 0) (ty := .int) hx hb hts (fun w h => xU_sub w (inU3 w h)) tyX3 tyX3_ok nmX3 hown h 0 rfl rfl 6 (by decide) (hts _ (xU_sub _ q52)) (fun _ h9 => h9) rfl rfl rfl rfl (Nat.le_of_ble_eq_true rfl) dX3_init_52 (fun H locs h => ?_)
  have h : yH Γ _ s [(h0, .inr (5, [.ref q7, .ref q16, .ref q25, .ref q34, .int 0, .int 0, .int 0, .int 0, .int 0])), (q7, .inl (Γ.2.2 5, 8, .inr (.inr (.inr (.inr (fun _ => none)))))), (q16, .inl (Γ.2.2 3, 6, .inr (.inr (.inr (.inr (fun _ => none)))))), (q25, .inl (Γ.2.2 7, 10, .inr (.inr (.inr (.inr (fun _ => none)))))), (q34, .inl (Γ.2.2 4, 20, .inr (.inr (.inr (.inr (fun _ => none))))))] H _ := h
  refine lv_aload_n hx hb dX3_init_55 rfl (lv_at hl 0 rfl) ?_
  refine lv_iconst (v := 0) hx hb dX3_init_56 (by decide) ?_
  refine y_put (own := RX3) (ref := "TintDesk$Desk") (C := RX3) (T := TX3) (N := 9) (index := 45) (v := .int 0) (ty := .int) hx hb hts (fun w h => xU_sub w (inU3 w h)) tyX3 tyX3_ok nmX3 hown h 0 rfl rfl 7 (by decide) (hts _ (xU_sub _ q53)) (fun _ h9 => h9) rfl rfl rfl rfl (Nat.le_of_ble_eq_true rfl) dX3_init_57 (fun H locs h => ?_)
  have h : yH Γ _ s [(h0, .inr (5, [.ref q7, .ref q16, .ref q25, .ref q34, .int 0, .int 0, .int 0, .int 0, .int 0])), (q7, .inl (Γ.2.2 5, 8, .inr (.inr (.inr (.inr (fun _ => none)))))), (q16, .inl (Γ.2.2 3, 6, .inr (.inr (.inr (.inr (fun _ => none)))))), (q25, .inl (Γ.2.2 7, 10, .inr (.inr (.inr (.inr (fun _ => none)))))), (q34, .inl (Γ.2.2 4, 20, .inr (.inr (.inr (.inr (fun _ => none))))))] H _ := h
  refine lv_aload_n hx hb dX3_init_60 rfl (lv_at hl 0 rfl) ?_
  refine lv_iconst (v := 0) hx hb dX3_init_61 (by decide) ?_
  refine y_put (own := RX3) (ref := "TintDesk$Desk") (C := RX3) (T := TX3) (N := 9) (index := 48) (v := .int 0) (ty := .int) hx hb hts (fun w h => xU_sub w (inU3 w h)) tyX3 tyX3_ok nmX3 hown h 0 rfl rfl 8 (by decide) (hts _ (xU_sub _ q54)) (fun _ h9 => h9) rfl rfl rfl rfl (Nat.le_of_ble_eq_true rfl) dX3_init_62 (fun H locs h => ?_)
  have h : yH Γ _ s [(h0, .inr (5, [.ref q7, .ref q16, .ref q25, .ref q34, .int 0, .int 0, .int 0, .int 0, .int 0])), (q7, .inl (Γ.2.2 5, 8, .inr (.inr (.inr (.inr (fun _ => none)))))), (q16, .inl (Γ.2.2 3, 6, .inr (.inr (.inr (.inr (fun _ => none)))))), (q25, .inl (Γ.2.2 7, 10, .inr (.inr (.inr (.inr (fun _ => none)))))), (q34, .inl (Γ.2.2 4, 20, .inr (.inr (.inr (.inr (fun _ => none))))))] H _ := h
  refine lv_iconst (v := 0) hx hb dX3_init_65 (by decide) ?_
  refine lv_istore_n (lv' := [(1, .int 0), (0, .ref h0)]) hx hb dX3_init_66 rfl hl (by decide) rfl (fun ls hl => ?_)
  exact w_X3_init_67 l E hN 8 0 rfl (fun k => match k with | 0 => h0 | 1 => q7 | 2 => q16 | 3 => q25 | _ => q34) _ _ ls h rfl hl
