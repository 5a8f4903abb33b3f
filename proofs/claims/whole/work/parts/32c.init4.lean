theorem hdX9_init : yX9_init.cls ≠ "java/lang/invoke/MethodHandle" ∧ yX9_init.cls ≠ "java/lang/invoke/VarHandle" ∧ (parseMethodDescriptor yX9_init.desc).map (fun d => d.parameters.length) = some 0 := by decide +kernel
set_option maxHeartbeats 4000000 in
set_option maxRecDepth 100000 in
theorem m_X9_init (l : Launch) {Γ : xG} {h0 : Nat} (sz : Nat) : Met l yX9_init (xWs yX9_init cX9_init 1 none) ({ frames := 5, cells := 1480, slots := 13467, locals := 220 } : Room) (va_Pc [.ref h0] (yPre Γ h0 (.inr (11, [.null, .null, .int 0, .null, .null, .int 0, .int 0, .int 0, .null, .null])) sz)) (yQ Γ h0 1481 (cTint Γ) sz) 1480 13467 (yA h0 sz) := by
  refine y_met pnX9 rfl (by decide) (fun p e s m args below meth c E hN hin h ls hl => ?_) sz
  obtain ⟨⟨hx, hb, hml, hown, hts⟩, hr, hlocks⟩ := id E
  have hA : ∀ q, s.heap.size ≤ q → yA h0 s.heap.size q := fun q hq => Or.inr hq
  refine lv_aload_n hx hb dX9_init_0 rfl (lv_at hl 0 rfl) ?_
  refine W.objInit hx hb hown (hts _ (xU_sub _ q11)) (hts _ (xU_sub _ q12)) (hts _ (xU_sub _ qOI)) rfl (by rw [hml]; exact hl.1) rfl dX9_init_1 (Nat.le_of_ble_eq_true rfl) (Nat.le_of_ble_eq_true rfl) ?_
  refine W.eq (g2 := F0 m 4 ls []) rfl ?_
  have h : yH Γ _ s ((h0, (.inr (11, [.null, .null, .int 0, .null, .null, .int 0, .int 0, .int 0, .null, .null]) : va_E)) :: []) _ _ := h
  refine lv_aload_n hx hb dX9_init_4 rfl (lv_at hl 0 rfl) ?_
  refine y_new (ci := 5) (fs := [.null, .null, .null, .null, .int 0, .int 0, .int 0, .int 0, .int 0]) (C := RX3) (T := TX3) (N := 9) hx hb hts (fun w h => xU_sub w (inU3 w h)) tyX3 tyX3_ok hown (hts _ (xU_sub _ q13)) (hts _ (xU_sub _ q14)) (hts _ (xU_sub _ q15)) h hA rfl (by decide) (Nat.le_of_ble_eq_true rfl) (Nat.le_of_ble_eq_true rfl) dX9_init_5 (fun q5 H h => ?_)
  refine lv_dup hx hb dX9_init_8 rfl ?_
  refine y_call hN h hA (fun hp9 => va_runI (As := []) (rest := [.ref q5, .ref h0]) ⟨hx, hb, hml, hown, hts⟩ (m_X3_init l (h0 := q5) H.size) (by exact y_ci hts xU_sub q40 rfl rfl q15 q38 q39 rfl hdX3_init ⟨Nat.le_of_ble_eq_true rfl, Nat.le_of_ble_eq_true rfl⟩) hp9 rfl rfl hl.1 rfl (lv_room (Nat.le_of_ble_eq_true rfl)) dX9_init_9 ⟨Nat.le_of_ble_eq_true rfl, Nat.le_of_ble_eq_true rfl⟩) (fun a1 H locs h01 h9 => ?_)
  subst h01
  replace h := h9
  clear h9
  have h : yH Γ _ s ((h0, (.inr (11, [.null, .null, .int 0, .null, .null, .int 0, .int 0, .int 0, .null, .null]) : va_E)) :: ([] ++ wS a1 147 (cDesk Γ a1))) _ _ := h
  refine y_putF (own := RX9) (ref := "TintDesk") (C := RX9) (T := TX9) (N := 10) (index := 12) (v := .ref (a1 0)) (ty := .object "TintDesk$Desk") hx hb hts (fun w h => xU_sub w (inU9 w h)) tyX9 tyX9_ok nmX9 hown h 0 rfl rfl 0 (by decide) (hts _ (xU_sub _ q16)) (fun _ h9 => h9) rfl hin rfl rfl rfl rfl (Nat.le_of_ble_eq_true rfl) dX9_init_12 (fun H locs h => ?_)
  have h : yH Γ _ s ((h0, (.inr (11, [.ref (a1 0), .null, .int 0, .null, .null, .int 0, .int 0, .int 0, .null, .null]) : va_E)) :: ([] ++ wS a1 147 (cDesk Γ a1))) _ _ := h
  refine lv_aload_n hx hb dX9_init_15 rfl (lv_at hl 0 rfl) ?_
  refine y_new (ci := 5) (fs := [.null, .null, .null, .null, .int 0, .int 0, .int 0, .int 0, .int 0]) (C := RX3) (T := TX3) (N := 9) hx hb hts (fun w h => xU_sub w (inU3 w h)) tyX3 tyX3_ok hown (hts _ (xU_sub _ q13)) (hts _ (xU_sub _ q14)) (hts _ (xU_sub _ q15)) h hA rfl (by decide) (Nat.le_of_ble_eq_true rfl) (Nat.le_of_ble_eq_true rfl) dX9_init_16 (fun q16 H h => ?_)
  refine lv_dup hx hb dX9_init_19 rfl ?_
  refine y_call hN h hA (fun hp9 => va_runI (As := []) (rest := [.ref q16, .ref h0]) ⟨hx, hb, hml, hown, hts⟩ (m_X3_init l (h0 := q16) H.size) (by exact y_ci hts xU_sub q40 rfl rfl q15 q38 q39 rfl hdX3_init ⟨Nat.le_of_ble_eq_true rfl, Nat.le_of_ble_eq_true rfl⟩) hp9 rfl rfl hl.1 rfl (lv_room (Nat.le_of_ble_eq_true rfl)) dX9_init_20 ⟨Nat.le_of_ble_eq_true rfl, Nat.le_of_ble_eq_true rfl⟩) (fun a2 H locs h01 h9 => ?_)
  subst h01
  replace h := h9
  clear h9
  have h : yH Γ _ s ((h0, (.inr (11, [.ref (a1 0), .null, .int 0, .null, .null, .int 0, .int 0, .int 0, .null, .null]) : va_E)) :: (([] ++ wS a1 147 (cDesk Γ a1)) ++ wS a2 147 (cDesk Γ a2))) _ _ := h
  refine y_putF (own := RX9) (ref := "TintDesk") (C := RX9) (T := TX9) (N := 10) (index := 16) (v := .ref (a2 0)) (ty := .object "TintDesk$Desk") hx hb hts (fun w h => xU_sub w (inU9 w h)) tyX9 tyX9_ok nmX9 hown h 0 rfl rfl 1 (by decide) (hts _ (xU_sub _ q17)) (fun _ h9 => h9) rfl hin rfl rfl rfl rfl (Nat.le_of_ble_eq_true rfl) dX9_init_23 (fun H locs h => ?_)
  have h : yH Γ _ s ((h0, (.inr (11, [.ref (a1 0), .ref (a2 0), .int 0, .null, .null, .int 0, .int 0, .int 0, .null, .null]) : va_E)) :: (([] ++ wS a1 147 (cDesk Γ a1)) ++ wS a2 147 (cDesk Γ a2))) _ _ := h
  refine lv_aload_n hx hb dX9_init_26 rfl (lv_at hl 0 rfl) ?_
  refine lv_iconst (v := 0) hx hb dX9_init_27 (by decide) ?_
  refine y_put (own := RX9) (ref := "TintDesk") (C := RX9) (T := TX9) (N := 10) (index := 19) (v := .int 0) (ty := .boolean) hx hb hts (fun w h => xU_sub w (inU9 w h)) tyX9 tyX9_ok nmX9 hown h 0 rfl rfl 2 (by decide) (hts _ (xU_sub _ q18)) (fun _ h9 => h9) rfl rfl rfl rfl (Nat.le_of_ble_eq_true rfl) dX9_init_28 (fun H locs h => ?_)
  have h : yH Γ _ s ((h0, (.inr (11, [.ref (a1 0), .ref (a2 0), .int 0, .null, .null, .int 0, .int 0, .int 0, .null, .null]) : va_E)) :: (([] ++ wS a1 147 (cDesk Γ a1)) ++ wS a2 147 (cDesk Γ a2))) _ _ := h
  refine lv_aload_n hx hb dX9_init_31 rfl (lv_at hl 0 rfl) ?_
  refine y_new (ci := 8) (fs := [.null, .int 0, .int 0]) (C := RX6) (T := TX6) (N := 3) hx hb hts (fun w h => xU_sub w (inU6 w h)) tyX6 tyX6_ok hown (hts _ (xU_sub _ q19)) (hts _ (xU_sub _ q20)) (hts _ (xU_sub _ q21)) h hA rfl (by decide) (Nat.le_of_ble_eq_true rfl) (Nat.le_of_ble_eq_true rfl) dX9_init_32 (fun q32 H h => ?_)
  refine lv_dup hx hb dX9_init_35 rfl ?_
  refine y_call hN h hA (fun hp9 => va_runI (As := []) (rest := [.ref q32, .ref h0]) ⟨hx, hb, hml, hown, hts⟩ (m_X6_init l (h0 := q32) H.size) (by exact y_ci hts xU_sub q100 rfl rfl q21 q98 q99 rfl hdX6_init ⟨Nat.le_of_ble_eq_true rfl, Nat.le_of_ble_eq_true rfl⟩) hp9 rfl rfl hl.1 rfl (lv_room (Nat.le_of_ble_eq_true rfl)) dX9_init_36 ⟨Nat.le_of_ble_eq_true rfl, Nat.le_of_ble_eq_true rfl⟩) (fun a3 H locs h01 h9 => ?_)
  subst h01
  replace h := h9
  clear h9
  have h : yH Γ _ s ((h0, (.inr (11, [.ref (a1 0), .ref (a2 0), .int 0, .null, .null, .int 0, .int 0, .int 0, .null, .null]) : va_E)) :: ((([] ++ wS a1 147 (cDesk Γ a1)) ++ wS a2 147 (cDesk Γ a2)) ++ wS a3 1178 (cHs Γ a3 8))) _ _ := h
  refine y_putF (own := RX9) (ref := "TintDesk") (C := RX9) (T := TX9) (N := 10) (index := 26) (v := .ref (a3 0)) (ty := .object "TintDesk$History") hx hb hts (fun w h => xU_sub w (inU9 w h)) tyX9 tyX9_ok nmX9 hown h 0 rfl rfl 3 (by decide) (hts _ (xU_sub _ q22)) (fun _ h9 => h9) rfl hin rfl rfl rfl rfl (Nat.le_of_ble_eq_true rfl) dX9_init_39 (fun H locs h => ?_)
  have h : yH Γ _ s ((h0, (.inr (11, [.ref (a1 0), .ref (a2 0), .int 0, .ref (a3 0), .null, .int 0, .int 0, .int 0, .null, .null]) : va_E)) :: ((([] ++ wS a1 147 (cDesk Γ a1)) ++ wS a2 147 (cDesk Γ a2)) ++ wS a3 1178 (cHs Γ a3 8))) _ _ := h
  refine lv_aload_n hx hb dX9_init_42 rfl (lv_at hl 0 rfl) ?_
  refine y_new (ci := 7) (fs := [.null, .int 0, .int 0, .int 0, .null]) (C := RX5) (T := TX5) (N := 5) hx hb hts (fun w h => xU_sub w (inU5 w h)) tyX5 tyX5_ok hown (hts _ (xU_sub _ q23)) (hts _ (xU_sub _ q24)) (hts _ (xU_sub _ q25)) h hA rfl (by decide) (Nat.le_of_ble_eq_true rfl) (Nat.le_of_ble_eq_true rfl) dX9_init_43 (fun q43 H h => ?_)
  refine lv_dup hx hb dX9_init_46 rfl ?_
  refine y_call hN h hA (fun hp9 => va_runIN (As := []) (rest := [.ref q43, .ref h0]) ⟨hx, hb, hml, hown, hts⟩ (m_X5_init l (h0 := q43) H.size) ⟨y_cn hts xU_sub q108 rfl rfl (hN.2 ("TintDesk", 32, "TintDesk$FormulaText") (by decide +kernel)) q25 hdX5_init ⟨Nat.le_of_ble_eq_true rfl, Nat.le_of_ble_eq_true rfl⟩, rfl, hts _ (xU_sub _ q107)⟩ hp9 rfl rfl hl.1 rfl (lv_room (Nat.le_of_ble_eq_true rfl)) dX9_init_47 ⟨Nat.le_of_ble_eq_true rfl, Nat.le_of_ble_eq_true rfl⟩) (fun a4 H locs h01 h9 => ?_)
  subst h01
  replace h := h9
  clear h9
  have h : yH Γ _ s ((h0, (.inr (11, [.ref (a1 0), .ref (a2 0), .int 0, .ref (a3 0), .null, .int 0, .int 0, .int 0, .null, .null]) : va_E)) :: (((([] ++ wS a1 147 (cDesk Γ a1)) ++ wS a2 147 (cDesk Γ a2)) ++ wS a3 1178 (cHs Γ a3 8)) ++ wS a4 3 (cFormulaText Γ a4))) _ _ := h
  refine y_putF (own := RX9) (ref := "TintDesk") (C := RX9) (T := TX9) (N := 10) (index := 33) (v := .ref (a4 0)) (ty := .object "TintDesk$FormulaText") hx hb hts (fun w h => xU_sub w (inU9 w h)) tyX9 tyX9_ok nmX9 hown h 0 rfl rfl 4 (by decide) (hts _ (xU_sub _ q26)) (fun _ h9 => h9) rfl hin rfl rfl rfl rfl (Nat.le_of_ble_eq_true rfl) dX9_init_50 (fun H locs h => ?_)
  have h : yH Γ _ s ((h0, (.inr (11, [.ref (a1 0), .ref (a2 0), .int 0, .ref (a3 0), .ref (a4 0), .int 0, .int 0, .int 0, .null, .null]) : va_E)) :: (((([] ++ wS a1 147 (cDesk Γ a1)) ++ wS a2 147 (cDesk Γ a2)) ++ wS a3 1178 (cHs Γ a3 8)) ++ wS a4 3 (cFormulaText Γ a4))) _ _ := h
  refine lv_aload_n hx hb dX9_init_53 rfl (lv_at hl 0 rfl) ?_
  refine lv_iconst (v := (-1)) hx hb dX9_init_54 (by decide) ?_
  refine y_put (own := RX9) (ref := "TintDesk") (C := RX9) (T := TX9) (N := 10) (index := 37) (v := .int (-1)) (ty := .int) hx hb hts (fun w h => xU_sub w (inU9 w h)) tyX9 tyX9_ok nmX9 hown h 0 rfl rfl 5 (by decide) (hts _ (xU_sub _ q27)) (fun _ h9 => h9) rfl rfl rfl rfl (Nat.le_of_ble_eq_true rfl) dX9_init_55 (fun H locs h => ?_)
  have h : yH Γ _ s ((h0, (.inr (11, [.ref (a1 0), .ref (a2 0), .int 0, .ref (a3 0), .ref (a4 0), .int (-1), .int 0, .int 0, .null, .null]) : va_E)) :: (((([] ++ wS a1 147 (cDesk Γ a1)) ++ wS a2 147 (cDesk Γ a2)) ++ wS a3 1178 (cHs Γ a3 8)) ++ wS a4 3 (cFormulaText Γ a4))) _ _ := h
  refine lv_aload_n hx hb dX9_init_58 rfl (lv_at hl 0 rfl) ?_
  refine lv_iconst (v := 0) hx hb dX9_init_59 (by decide) ?_
  refine y_put (own := RX9) (ref := "TintDesk") (C := RX9) (T := TX9) (N := 10) (index := 41) (v := .int 0) (ty := .int) hx hb hts (fun w h => xU_sub w (inU9 w h)) tyX9 tyX9_ok nmX9 hown h 0 rfl rfl 6 (by decide) (hts _ (xU_sub _ q28)) (fun _ h9 => h9) rfl rfl rfl rfl (Nat.le_of_ble_eq_true rfl) dX9_init_60 (fun H locs h => ?_)
  have h : yH Γ _ s ((h0, (.inr (11, [.ref (a1 0), .ref (a2 0), .int 0, .ref (a3 0), .ref (a4 0), .int (-1), .int 0, .int 0, .null, .null]) : va_E)) :: (((([] ++ wS a1 147 (cDesk Γ a1)) ++ wS a2 147 (cDesk Γ a2)) ++ wS a3 1178 (cHs Γ a3 8)) ++ wS a4 3 (cFormulaText Γ a4))) _ _ := h
  refine lv_aload_n hx hb dX9_init_63 rfl (lv_at hl 0 rfl) ?_
  refine lv_iconst (v := (-1)) hx hb dX9_init_64 (by decide) ?_
  refine y_put (own := RX9) (ref := "TintDesk") (C := RX9) (T := TX9) (N := 10) (index := 44) (v := .int (-1)) (ty := .int) hx hb hts (fun w h => xU_sub w (inU9 w h)) tyX9 tyX9_ok nmX9 hown h 0 rfl rfl 7 (by decide) (hts _ (xU_sub _ q29)) (fun _ h9 => h9) rfl rfl rfl rfl (Nat.le_of_ble_eq_true rfl) dX9_init_65 (fun H locs h => ?_)
  have h : yH Γ _ s ((h0, (.inr (11, [.ref (a1 0), .ref (a2 0), .int 0, .ref (a3 0), .ref (a4 0), .int (-1), .int 0, .int (-1), .null, .null]) : va_E)) :: (((([] ++ wS a1 147 (cDesk Γ a1)) ++ wS a2 147 (cDesk Γ a2)) ++ wS a3 1178 (cHs Γ a3 8)) ++ wS a4 3 (cFormulaText Γ a4))) _ _ := h
  refine lv_aload_n hx hb dX9_init_68 rfl (lv_at hl 0 rfl) ?_
  refine y_new (ci := 10) (fs := [.null, .int 0, .int 0, .null]) (C := RX8) (T := TX8) (N := 4) hx hb hts (fun w h => xU_sub w (inU8 w h)) tyX8 tyX8_ok hown (hts _ (xU_sub _ q30)) (hts _ (xU_sub _ q31)) (hts _ (xU_sub _ q32)) h hA rfl (by decide) (Nat.le_of_ble_eq_true rfl) (Nat.le_of_ble_eq_true rfl) dX9_init_69 (fun q69 H h => ?_)
  refine lv_dup hx hb dX9_init_72 rfl ?_
  refine y_call hN h hA (fun hp9 => va_runIN (As := []) (rest := [.ref q69, .ref h0]) ⟨hx, hb, hml, hown, hts⟩ (m_X8_init l (h0 := q69) H.size) ⟨y_cn hts xU_sub q117 rfl rfl (hN.2 ("TintDesk", 49, "TintDesk$LeastCorrection") (by decide +kernel)) q32 hdX8_init ⟨Nat.le_of_ble_eq_true rfl, Nat.le_of_ble_eq_true rfl⟩, rfl, hts _ (xU_sub _ q116)⟩ hp9 rfl rfl hl.1 rfl (lv_room (Nat.le_of_ble_eq_true rfl)) dX9_init_73 ⟨Nat.le_of_ble_eq_true rfl, Nat.le_of_ble_eq_true rfl⟩) (fun a5 H locs h01 h9 => ?_)
  subst h01
  replace h := h9
  clear h9
  have h : yH Γ _ s ((h0, (.inr (11, [.ref (a1 0), .ref (a2 0), .int 0, .ref (a3 0), .ref (a4 0), .int (-1), .int 0, .int (-1), .null, .null]) : va_E)) :: ((((([] ++ wS a1 147 (cDesk Γ a1)) ++ wS a2 147 (cDesk Γ a2)) ++ wS a3 1178 (cHs Γ a3 8)) ++ wS a4 3 (cFormulaText Γ a4)) ++ wS a5 3 (cLeastCorrection Γ a5))) _ _ := h
  refine y_putF (own := RX9) (ref := "TintDesk") (C := RX9) (T := TX9) (N := 10) (index := 50) (v := .ref (a5 0)) (ty := .object "TintDesk$LeastCorrection") hx hb hts (fun w h => xU_sub w (inU9 w h)) tyX9 tyX9_ok nmX9 hown h 0 rfl rfl 8 (by decide) (hts _ (xU_sub _ q33)) (fun _ h9 => h9) rfl hin rfl rfl rfl rfl (Nat.le_of_ble_eq_true rfl) dX9_init_76 (fun H locs h => ?_)
  have h : yH Γ _ s ((h0, (.inr (11, [.ref (a1 0), .ref (a2 0), .int 0, .ref (a3 0), .ref (a4 0), .int (-1), .int 0, .int (-1), .ref (a5 0), .null]) : va_E)) :: ((((([] ++ wS a1 147 (cDesk Γ a1)) ++ wS a2 147 (cDesk Γ a2)) ++ wS a3 1178 (cHs Γ a3 8)) ++ wS a4 3 (cFormulaText Γ a4)) ++ wS a5 3 (cLeastCorrection Γ a5))) _ _ := h
  refine lv_aload_n hx hb dX9_init_79 rfl (lv_at hl 0 rfl) ?_
  refine y_new (ci := 9) (fs := [.null, .int 0]) (C := RX7) (T := TX7) (N := 2) hx hb hts (fun w h => xU_sub w (inU7 w h)) tyX7 tyX7_ok hown (hts _ (xU_sub _ q34)) (hts _ (xU_sub _ q35)) (hts _ (xU_sub _ q36)) h hA rfl (by decide) (Nat.le_of_ble_eq_true rfl) (Nat.le_of_ble_eq_true rfl) dX9_init_80 (fun q80 H h => ?_)
  refine lv_dup hx hb dX9_init_83 rfl ?_
  refine y_call hN h hA (fun hp9 => va_runIN (As := []) (rest := [.ref q80, .ref h0]) ⟨hx, hb, hml, hown, hts⟩ (m_X7_init l (h0 := q80) H.size) ⟨y_cn hts xU_sub q124 rfl rfl (hN.2 ("TintDesk", 56, "TintDesk$LabelWriter") (by decide +kernel)) q36 hdX7_init ⟨Nat.le_of_ble_eq_true rfl, Nat.le_of_ble_eq_true rfl⟩, rfl, hts _ (xU_sub _ q123)⟩ hp9 rfl rfl hl.1 rfl (lv_room (Nat.le_of_ble_eq_true rfl)) dX9_init_84 ⟨Nat.le_of_ble_eq_true rfl, Nat.le_of_ble_eq_true rfl⟩) (fun a6 H locs h01 h9 => ?_)
  subst h01
  replace h := h9
  clear h9
  have h : yH Γ _ s ((h0, (.inr (11, [.ref (a1 0), .ref (a2 0), .int 0, .ref (a3 0), .ref (a4 0), .int (-1), .int 0, .int (-1), .ref (a5 0), .null]) : va_E)) :: (((((([] ++ wS a1 147 (cDesk Γ a1)) ++ wS a2 147 (cDesk Γ a2)) ++ wS a3 1178 (cHs Γ a3 8)) ++ wS a4 3 (cFormulaText Γ a4)) ++ wS a5 3 (cLeastCorrection Γ a5)) ++ wS a6 2 (cLabelWriter Γ a6))) _ _ := h
  refine y_putF (own := RX9) (ref := "TintDesk") (C := RX9) (T := TX9) (N := 10) (index := 57) (v := .ref (a6 0)) (ty := .object "TintDesk$LabelWriter") hx hb hts (fun w h => xU_sub w (inU9 w h)) tyX9 tyX9_ok nmX9 hown h 0 rfl rfl 9 (by decide) (hts _ (xU_sub _ q37)) (fun _ h9 => h9) rfl hin rfl rfl rfl rfl (Nat.le_of_ble_eq_true rfl) dX9_init_87 (fun H locs h => ?_)
  have h : yH Γ _ s ((h0, (.inr (11, [.ref (a1 0), .ref (a2 0), .int 0, .ref (a3 0), .ref (a4 0), .int (-1), .int 0, .int (-1), .ref (a5 0), .ref (a6 0)]) : va_E)) :: (((((([] ++ wS a1 147 (cDesk Γ a1)) ++ wS a2 147 (cDesk Γ a2)) ++ wS a3 1178 (cHs Γ a3 8)) ++ wS a4 3 (cFormulaText Γ a4)) ++ wS a5 3 (cLeastCorrection Γ a5)) ++ wS a6 2 (cLabelWriter Γ a6))) _ _ := h
  rw [cTint_cat] at h
  exact y_ret (cf := cTint Γ) _ hx hb h rfl (yA0 (by omega)) hr hlocks dX9_init_90
