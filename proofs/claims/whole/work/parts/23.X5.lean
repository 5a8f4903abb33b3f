theorem hdX5_put : yX5_put.cls = RX5 ∧ yX5_put.cls ≠ "java/lang/invoke/MethodHandle" ∧ yX5_put.cls ≠ "java/lang/invoke/VarHandle" ∧ (parseMethodDescriptor yX5_put.desc).map (fun d => d.parameters.length) = some 1 := by decide +kernel
set_option maxHeartbeats 4000000 in
set_option maxRecDepth 100000 in
theorem m_X5_put (l : Launch) {Γ : xG} {N : Nat} {v1 : Int32} {M : xM} {res : xR} (hf : F_X5_put N v1 M = some res) (sz : Nat) : Met l yX5_put (xWs yX5_put cX5_put 2 none) ({ frames := 1, cells := 0, slots := 0, locals := 40 } : Room) (va_Pc [.ref (Γ.2.1 1473), .int v1] (xPre Γ (wX Γ) M sz)) (xCv Γ (wX Γ) 1483 res sz) 0 0 (xAd Γ 1483 sz) := by
  refine x_met (Qc := fun sz => xCv Γ (wX Γ) 1483 res sz) pnX5 wG_W (Nat.le_of_ble_eq_true rfl) (fun p e s m args below meth c _ E h ls hl => ?_) sz
  obtain ⟨⟨hx, hb, hml, hown, hts⟩, hr, hlocks⟩ := id E
  have hl : lv_has ls 2 [(0, .ref (Γ.2.1 1473)), (1, .int v1)] := hl
  refine lv_aload_n hx hb dX5_put_0 rfl (lv_at hl 0 rfl) ?_
  refine x_get (own := RX5) (ref := "TintDesk$FormulaText") (C := RX5) (T := TX5) (n := 5) (index := 15) (v := .int (M.1 1473 1)) hx hb hts (fun w h => xU_sub w (inU5 w h)) hown h kX_text rfl 1 (by decide) (hts _ (xU_sub _ q112)) (fun _ h9 => h9) rfl dX5_put_1 ?_
  refine lv_bipush (v := 60) hx hb dX5_put_4 (by decide) ?_
  refine lv_icmp_ge (tgt := 29) hx hb dX5_put_6 (by decide) (fun c1 => ?_) (fun c1 => ?_)
  · replace hf := xif_t hf c1
    exact x_vret hx hb h (Option.some.inj hf) hr hlocks dX5_put_29
  · replace hf := xif_f hf c1
    refine lv_aload_n hx hb dX5_put_9 rfl (lv_at hl 0 rfl) ?_
    refine x_get (own := RX5) (ref := "TintDesk$FormulaText") (C := RX5) (T := TX5) (n := 5) (index := 9) (v := .ref (Γ.2.1 1474)) hx hb hts (fun w h => xU_sub w (inU5 w h)) hown h kX_text rfl 0 (by decide) (hts _ (xU_sub _ q111)) (fun _ h9 => h9) rfl dX5_put_10 ?_
    refine lv_aload_n hx hb dX5_put_13 rfl (lv_at hl 0 rfl) ?_
    refine x_get (own := RX5) (ref := "TintDesk$FormulaText") (C := RX5) (T := TX5) (n := 5) (index := 15) (v := .int (M.1 1473 1)) hx hb hts (fun w h => xU_sub w (inU5 w h)) hown h kX_text rfl 1 (by decide) (hts _ (xU_sub _ q112)) (fun _ h9 => h9) rfl dX5_put_14 ?_
    refine lv_iload_n hx hb dX5_put_17 rfl (lv_at hl 1 rfl) ?_
    obtain ⟨c2, hf⟩ := xck_s hf
    obtain ⟨M3, eM3, hf⟩ := xl_s hf
    refine x_cast hx hb h kX_text_signs (xin_in c2) eM3 dX5_put_18 (fun H locs h => ?_)
    refine lv_aload_n hx hb dX5_put_19 rfl (lv_at hl 0 rfl) ?_
    refine lv_dup hx hb dX5_put_20 rfl ?_
    refine x_get (own := RX5) (ref := "TintDesk$FormulaText") (C := RX5) (T := TX5) (n := 5) (index := 15) (v := .int (M3.1 1473 1)) hx hb hts (fun w h => xU_sub w (inU5 w h)) hown h kX_text rfl 1 (by decide) (hts _ (xU_sub _ q112)) (fun _ h9 => h9) rfl dX5_put_21 ?_
    refine lv_iconst (v := 1) hx hb dX5_put_24 (by decide) ?_
    refine lv_iadd hx hb dX5_put_25 ?_
    obtain ⟨M4, eM4, hf⟩ := xl_s hf
    refine x_put (own := RX5) (ref := "TintDesk$FormulaText") (C := RX5) (T := TX5) (n := 5) (index := 15) (ty := .int) hx hb hts (fun w h => xU_sub w (inU5 w h)) tyX5 tyX5_ok nmX5 hown h kX_text rfl 1 (by decide) (hts _ (xU_sub _ q112)) (fun _ h9 => h9) rfl (by decide +kernel) rfl rfl (Nat.le_of_ble_eq_true rfl) rfl eM4 dX5_put_26 (fun H locs h => ?_)
    exact x_vret hx hb h (Option.some.inj hf) hr hlocks dX5_put_29
theorem hdX5_empty : yX5_empty.cls = RX5 ∧ yX5_empty.cls ≠ "java/lang/invoke/MethodHandle" ∧ yX5_empty.cls ≠ "java/lang/invoke/VarHandle" ∧ (parseMethodDescriptor yX5_empty.desc).map (fun d => d.parameters.length) = some 0 := by decide +kernel
set_option maxHeartbeats 4000000 in
set_option maxRecDepth 100000 in
theorem m_X5_empty (l : Launch) {Γ : xG} {N : Nat} {M : xM} {res : xR} (hf : F_X5_empty N M = some res) (sz : Nat) : Met l yX5_empty (xWs yX5_empty cX5_empty 1 none) ({ frames := 1, cells := 0, slots := 0, locals := 40 } : Room) (va_Pc [.ref (Γ.2.1 1473)] (xPre Γ (wX Γ) M sz)) (xCv Γ (wX Γ) 1483 res sz) 0 0 (xAd Γ 1483 sz) := by
  refine x_met (Qc := fun sz => xCv Γ (wX Γ) 1483 res sz) pnX5 wG_W (Nat.le_of_ble_eq_true rfl) (fun p e s m args below meth c _ E h ls hl => ?_) sz
  obtain ⟨⟨hx, hb, hml, hown, hts⟩, hr, hlocks⟩ := id E
  have hl : lv_has ls 1 [(0, .ref (Γ.2.1 1473))] := hl
  refine lv_aload_n hx hb dX5_empty_0 rfl (lv_at hl 0 rfl) ?_
  refine lv_iconst (v := 0) hx hb dX5_empty_1 (by decide) ?_
  obtain ⟨M1, eM1, hf⟩ := xl_s hf
  refine x_put (own := RX5) (ref := "TintDesk$FormulaText") (C := RX5) (T := TX5) (n := 5) (index := 15) (ty := .int) hx hb hts (fun w h => xU_sub w (inU5 w h)) tyX5 tyX5_ok nmX5 hown h kX_text rfl 1 (by decide) (hts _ (xU_sub _ q112)) (fun _ h9 => h9) rfl (by decide +kernel) rfl rfl (Nat.le_of_ble_eq_true rfl) rfl eM1 dX5_empty_2 (fun H locs h => ?_)
  exact x_vret hx hb h (Option.some.inj hf) hr hlocks dX5_empty_5
theorem hdX5_namesFrom : yX5_namesFrom.cls = RX5 ∧ yX5_namesFrom.cls ≠ "java/lang/invoke/MethodHandle" ∧ yX5_namesFrom.cls ≠ "java/lang/invoke/VarHandle" ∧ (parseMethodDescriptor yX5_namesFrom.desc).map (fun d => d.parameters.length) = some 1 := by decide +kernel
set_option maxHeartbeats 4000000 in
set_option maxRecDepth 100000 in
theorem w_X5_namesFrom_2 (l : Launch) {p : Program} {e : Env} {s : State} {m : MethodId} {args : Array Value} {below : List Frame} {meth : Method} {c : Code} {Γ : xG} {N : Nat} {res : xR} (E : xEv p s m args meth c RX5 cX5_namesFrom 3 (some .boolean) (xWs yX5_namesFrom cX5_namesFrom 3 (some .boolean))) : ∀ (n : Nat) (v2 : Int32) (M : xM), L_X5_namesFrom_2 N n v2 M = some res → ∀ (H : Heap) (locs : List Loc) (ls : Array Slot), xH Γ (wX Γ) 1483 s M H locs → lv_has ls 3 [(0, .ref (Γ.2.1 1473)), (2, .int v2)] → W p l e ({ frames := 1, cells := 0, slots := 0, locals := 40 } : Room) s m args below meth c H locs 0 0 (MQ below (xCi Γ (wX Γ) 1483 res s.heap.size) args s 0 0 (xAd Γ 1483 s.heap.size)) (F0 m 2 ls []) := by
  obtain ⟨⟨hx, hb, hml, hown, hts⟩, hr, hlocks⟩ := id E
  intro n
  induction n with
  | zero => intro v2 M hf; cases hf
  | succ n ih =>
    intro v2 M hf H locs ls h hl
    refine lv_iload_n hx hb dX5_namesFrom_2 rfl (lv_at hl 1 rfl) ?_
    refine lv_bipush (v := 10) hx hb dX5_namesFrom_3 (by decide) ?_
    refine lv_icmp_ge (tgt := 26) hx hb dX5_namesFrom_5 (by decide) (fun c1 => ?_) (fun c1 => ?_)
    · replace hf := xif_t hf c1
      refine lv_iconst (v := 0) hx hb dX5_namesFrom_26 (by decide) ?_
      exact x_zret hx hb h (Option.some.inj hf) hr hlocks (by decide) dX5_namesFrom_27
    · replace hf := xif_f hf c1
      refine lv_aload_n hx hb dX5_namesFrom_8 rfl (lv_at hl 0 rfl) ?_
      refine x_get (own := RX5) (ref := "TintDesk$FormulaText") (C := RX5) (T := TX5) (n := 5) (index := 25) (v := .ref (Γ.2.1 1475)) hx hb hts (fun w h => xU_sub w (inU5 w h)) hown h kX_text rfl 4 (by decide) (hts _ (xU_sub _ q115)) (fun _ h9 => h9) rfl dX5_namesFrom_9 ?_
      refine lv_iload_n hx hb dX5_namesFrom_12 rfl (lv_at hl 1 rfl) ?_
      obtain ⟨c2, hf⟩ := xck_s hf
      refine x_iald hx hb h kX_text_amounts (xin_in c2) dX5_namesFrom_13 ?_
      refine lv_iconst (v := (-1)) hx hb dX5_namesFrom_14 (by decide) ?_
      refine lv_icmp_eq (tgt := 20) hx hb dX5_namesFrom_15 (by decide) (fun c3 => ?_) (fun c3 => ?_)
      · replace hf := xif_t hf c3
        obtain ⟨y4, ey4, hf⟩ := xl_s hf
        refine lv_iinc (v := y4) (lv' := [(2, .int y4), (0, .ref (Γ.2.1 1473))]) hx hb dX5_namesFrom_20 hl (k := 1) rfl (by rw [ey4]; rfl) (by decide) rfl (fun ls hl => ?_)
        refine lv_goto (tgt := 2) hx hb dX5_namesFrom_23 (by decide) ?_
        exact ih y4 M hf _ _ _ h (lv_sub hl [1, 0] rfl)
      · replace hf := xif_f hf c3
        refine lv_iconst (v := 1) hx hb dX5_namesFrom_18 (by decide) ?_
        exact x_zret hx hb h (Option.some.inj hf) hr hlocks (by decide) dX5_namesFrom_19
set_option maxHeartbeats 4000000 in
set_option maxRecDepth 100000 in
theorem m_X5_namesFrom (l : Launch) {Γ : xG} {N : Nat} {v1 : Int32} {M : xM} {res : xR} (hf : F_X5_namesFrom N v1 M = some res) (sz : Nat) : Met l yX5_namesFrom (xWs yX5_namesFrom cX5_namesFrom 3 (some .boolean)) ({ frames := 1, cells := 0, slots := 0, locals := 40 } : Room) (va_Pc [.ref (Γ.2.1 1473), .int v1] (xPre Γ (wX Γ) M sz)) (xCi Γ (wX Γ) 1483 res sz) 0 0 (xAd Γ 1483 sz) := by
  refine x_met (Qc := fun sz => xCi Γ (wX Γ) 1483 res sz) pnX5 wG_W (Nat.le_of_ble_eq_true rfl) (fun p e s m args below meth c _ E h ls hl => ?_) sz
  obtain ⟨⟨hx, hb, hml, hown, hts⟩, hr, hlocks⟩ := id E
  have hl : lv_has ls 3 [(0, .ref (Γ.2.1 1473)), (1, .int v1)] := hl
  refine lv_iload_n hx hb dX5_namesFrom_0 rfl (lv_at hl 1 rfl) ?_
  refine lv_istore_n (lv' := [(2, .int v1), (0, .ref (Γ.2.1 1473)), (1, .int v1)]) hx hb dX5_namesFrom_1 rfl hl (by decide) rfl (fun ls hl => ?_)
  exact w_X5_namesFrom_2 l E N v1 M hf _ _ _ h (lv_sub hl [1, 0] rfl)
theorem hdX5_takeSign : yX5_takeSign.cls = RX5 ∧ yX5_takeSign.cls ≠ "java/lang/invoke/MethodHandle" ∧ yX5_takeSign.cls ≠ "java/lang/invoke/VarHandle" ∧ (parseMethodDescriptor yX5_takeSign.desc).map (fun d => d.parameters.length) = some 1 := by decide +kernel
set_option maxHeartbeats 4000000 in
set_option maxRecDepth 100000 in
theorem m_X5_takeSign (l : Launch) {Γ : xG} {N : Nat} {v1 : Int32} {M : xM} {res : xR} (hf : F_X5_takeSign N v1 M = some res) (sz : Nat) : Met l yX5_takeSign (xWs yX5_takeSign cX5_takeSign 2 (some .boolean)) ({ frames := 1, cells := 0, slots := 0, locals := 40 } : Room) (va_Pc [.ref (Γ.2.1 1473), .int v1] (xPre Γ (wX Γ) M sz)) (xCi Γ (wX Γ) 1483 res sz) 0 0 (xAd Γ 1483 sz) := by
  refine x_met (Qc := fun sz => xCi Γ (wX Γ) 1483 res sz) pnX5 wG_W (Nat.le_of_ble_eq_true rfl) (fun p e s m args below meth c _ E h ls hl => ?_) sz
  obtain ⟨⟨hx, hb, hml, hown, hts⟩, hr, hlocks⟩ := id E
  have hl : lv_has ls 2 [(0, .ref (Γ.2.1 1473)), (1, .int v1)] := hl
  refine lv_aload_n hx hb dX5_takeSign_0 rfl (lv_at hl 0 rfl) ?_
  refine x_get (own := RX5) (ref := "TintDesk$FormulaText") (C := RX5) (T := TX5) (n := 5) (index := 19) (v := .int (M.1 1473 2)) hx hb hts (fun w h => xU_sub w (inU5 w h)) hown h kX_text rfl 2 (by decide) (hts _ (xU_sub _ q113)) (fun _ h9 => h9) rfl dX5_takeSign_1 ?_
  refine lv_aload_n hx hb dX5_takeSign_4 rfl (lv_at hl 0 rfl) ?_
  refine x_get (own := RX5) (ref := "TintDesk$FormulaText") (C := RX5) (T := TX5) (n := 5) (index := 15) (v := .int (M.1 1473 1)) hx hb hts (fun w h => xU_sub w (inU5 w h)) hown h kX_text rfl 1 (by decide) (hts _ (xU_sub _ q112)) (fun _ h9 => h9) rfl dX5_takeSign_5 ?_
  refine lv_icmp_ge (tgt := 24) hx hb dX5_takeSign_8 (by decide) (fun c1 => ?_) (fun c1 => ?_)
  · replace hf := xif_t hf c1
    refine lv_iconst (v := 0) hx hb dX5_takeSign_24 (by decide) ?_
    exact x_zret hx hb h (Option.some.inj hf) hr hlocks (by decide) dX5_takeSign_25
  · replace hf := xif_f hf c1
    refine lv_aload_n hx hb dX5_takeSign_11 rfl (lv_at hl 0 rfl) ?_
    refine x_get (own := RX5) (ref := "TintDesk$FormulaText") (C := RX5) (T := TX5) (n := 5) (index := 9) (v := .ref (Γ.2.1 1474)) hx hb hts (fun w h => xU_sub w (inU5 w h)) hown h kX_text rfl 0 (by decide) (hts _ (xU_sub _ q111)) (fun _ h9 => h9) rfl dX5_takeSign_12 ?_
    refine lv_aload_n hx hb dX5_takeSign_15 rfl (lv_at hl 0 rfl) ?_
    refine x_get (own := RX5) (ref := "TintDesk$FormulaText") (C := RX5) (T := TX5) (n := 5) (index := 19) (v := .int (M.1 1473 2)) hx hb hts (fun w h => xU_sub w (inU5 w h)) hown h kX_text rfl 2 (by decide) (hts _ (xU_sub _ q113)) (fun _ h9 => h9) rfl dX5_takeSign_16 ?_
    obtain ⟨c2, hf⟩ := xck_s hf
    refine x_cald hx hb h kX_text_signs (xin_in c2) dX5_takeSign_19 ?_
    refine lv_iload_n hx hb dX5_takeSign_20 rfl (lv_at hl 1 rfl) ?_
    refine lv_icmp_eq (tgt := 26) hx hb dX5_takeSign_21 (by decide) (fun c3 => ?_) (fun c3 => ?_)
    · replace hf := xif_t hf c3
      refine lv_aload_n hx hb dX5_takeSign_26 rfl (lv_at hl 0 rfl) ?_
      refine lv_dup hx hb dX5_takeSign_27 rfl ?_
      refine x_get (own := RX5) (ref := "TintDesk$FormulaText") (C := RX5) (T := TX5) (n := 5) (index := 19) (v := .int (M.1 1473 2)) hx hb hts (fun w h => xU_sub w (inU5 w h)) hown h kX_text rfl 2 (by decide) (hts _ (xU_sub _ q113)) (fun _ h9 => h9) rfl dX5_takeSign_28 ?_
      refine lv_iconst (v := 1) hx hb dX5_takeSign_31 (by decide) ?_
      refine lv_iadd hx hb dX5_takeSign_32 ?_
      obtain ⟨M4, eM4, hf⟩ := xl_s hf
      refine x_put (own := RX5) (ref := "TintDesk$FormulaText") (C := RX5) (T := TX5) (n := 5) (index := 19) (ty := .int) hx hb hts (fun w h => xU_sub w (inU5 w h)) tyX5 tyX5_ok nmX5 hown h kX_text rfl 2 (by decide) (hts _ (xU_sub _ q113)) (fun _ h9 => h9) rfl (by decide +kernel) rfl rfl (Nat.le_of_ble_eq_true rfl) rfl eM4 dX5_takeSign_33 (fun H locs h => ?_)
      refine lv_iconst (v := 1) hx hb dX5_takeSign_36 (by decide) ?_
      exact x_zret hx hb h (Option.some.inj hf) hr hlocks (by decide) dX5_takeSign_37
    · replace hf := xif_f hf c3
      refine lv_iconst (v := 0) hx hb dX5_takeSign_24 (by decide) ?_
      exact x_zret hx hb h (Option.some.inj hf) hr hlocks (by decide) dX5_takeSign_25
theorem hdX5_isAtDigit : yX5_isAtDigit.cls = RX5 ∧ yX5_isAtDigit.cls ≠ "java/lang/invoke/MethodHandle" ∧ yX5_isAtDigit.cls ≠ "java/lang/invoke/VarHandle" ∧ (parseMethodDescriptor yX5_isAtDigit.desc).map (fun d => d.parameters.length) = some 0 := by decide +kernel
set_option maxHeartbeats 4000000 in
set_option maxRecDepth 100000 in
theorem m_X5_isAtDigit (l : Launch) {Γ : xG} {N : Nat} {M : xM} {res : xR} (hf : F_X5_isAtDigit N M = some res) (sz : Nat) : Met l yX5_isAtDigit (xWs yX5_isAtDigit cX5_isAtDigit 1 (some .boolean)) ({ frames := 1, cells := 0, slots := 0, locals := 40 } : Room) (va_Pc [.ref (Γ.2.1 1473)] (xPre Γ (wX Γ) M sz)) (xCi Γ (wX Γ) 1483 res sz) 0 0 (xAd Γ 1483 sz) := by
  refine x_met (Qc := fun sz => xCi Γ (wX Γ) 1483 res sz) pnX5 wG_W (Nat.le_of_ble_eq_true rfl) (fun p e s m args below meth c _ E h ls hl => ?_) sz
  obtain ⟨⟨hx, hb, hml, hown, hts⟩, hr, hlocks⟩ := id E
  have hl : lv_has ls 1 [(0, .ref (Γ.2.1 1473))] := hl
  refine lv_aload_n hx hb dX5_isAtDigit_0 rfl (lv_at hl 0 rfl) ?_
  refine x_get (own := RX5) (ref := "TintDesk$FormulaText") (C := RX5) (T := TX5) (n := 5) (index := 19) (v := .int (M.1 1473 2)) hx hb hts (fun w h => xU_sub w (inU5 w h)) hown h kX_text rfl 2 (by decide) (hts _ (xU_sub _ q113)) (fun _ h9 => h9) rfl dX5_isAtDigit_1 ?_
  refine lv_aload_n hx hb dX5_isAtDigit_4 rfl (lv_at hl 0 rfl) ?_
  refine x_get (own := RX5) (ref := "TintDesk$FormulaText") (C := RX5) (T := TX5) (n := 5) (index := 15) (v := .int (M.1 1473 1)) hx hb hts (fun w h => xU_sub w (inU5 w h)) hown h kX_text rfl 1 (by decide) (hts _ (xU_sub _ q112)) (fun _ h9 => h9) rfl dX5_isAtDigit_5 ?_
  refine lv_icmp_ge (tgt := 43) hx hb dX5_isAtDigit_8 (by decide) (fun c1 => ?_) (fun c1 => ?_)
  · replace hf := xif_t hf c1
    refine lv_iconst (v := 0) hx hb dX5_isAtDigit_43 (by decide) ?_
    exact x_zret hx hb h (Option.some.inj hf) hr hlocks (by decide) dX5_isAtDigit_44
  · replace hf := xif_f hf c1
    refine lv_aload_n hx hb dX5_isAtDigit_11 rfl (lv_at hl 0 rfl) ?_
    refine x_get (own := RX5) (ref := "TintDesk$FormulaText") (C := RX5) (T := TX5) (n := 5) (index := 9) (v := .ref (Γ.2.1 1474)) hx hb hts (fun w h => xU_sub w (inU5 w h)) hown h kX_text rfl 0 (by decide) (hts _ (xU_sub _ q111)) (fun _ h9 => h9) rfl dX5_isAtDigit_12 ?_
    refine lv_aload_n hx hb dX5_isAtDigit_15 rfl (lv_at hl 0 rfl) ?_
    refine x_get (own := RX5) (ref := "TintDesk$FormulaText") (C := RX5) (T := TX5) (n := 5) (index := 19) (v := .int (M.1 1473 2)) hx hb hts (fun w h => xU_sub w (inU5 w h)) hown h kX_text rfl 2 (by decide) (hts _ (xU_sub _ q113)) (fun _ h9 => h9) rfl dX5_isAtDigit_16 ?_
    obtain ⟨c2, hf⟩ := xck_s hf
    refine x_cald hx hb h kX_text_signs (xin_in c2) dX5_isAtDigit_19 ?_
    refine lv_bipush (v := 48) hx hb dX5_isAtDigit_20 (by decide) ?_
    refine lv_icmp_lt (tgt := 43) hx hb dX5_isAtDigit_22 (by decide) (fun c3 => ?_) (fun c3 => ?_)
    · replace hf := xif_t hf c3
      refine lv_iconst (v := 0) hx hb dX5_isAtDigit_43 (by decide) ?_
      exact x_zret hx hb h (Option.some.inj hf) hr hlocks (by decide) dX5_isAtDigit_44
    · replace hf := xif_f hf c3
      refine lv_aload_n hx hb dX5_isAtDigit_25 rfl (lv_at hl 0 rfl) ?_
      refine x_get (own := RX5) (ref := "TintDesk$FormulaText") (C := RX5) (T := TX5) (n := 5) (index := 9) (v := .ref (Γ.2.1 1474)) hx hb hts (fun w h => xU_sub w (inU5 w h)) hown h kX_text rfl 0 (by decide) (hts _ (xU_sub _ q111)) (fun _ h9 => h9) rfl dX5_isAtDigit_26 ?_
      refine lv_aload_n hx hb dX5_isAtDigit_29 rfl (lv_at hl 0 rfl) ?_
      refine x_get (own := RX5) (ref := "TintDesk$FormulaText") (C := RX5) (T := TX5) (n := 5) (index := 19) (v := .int (M.1 1473 2)) hx hb hts (fun w h => xU_sub w (inU5 w h)) hown h kX_text rfl 2 (by decide) (hts _ (xU_sub _ q113)) (fun _ h9 => h9) rfl dX5_isAtDigit_30 ?_
      obtain ⟨c4, hf⟩ := xck_s hf
      refine x_cald hx hb h kX_text_signs (xin_in c4) dX5_isAtDigit_33 ?_
      refine lv_bipush (v := 57) hx hb dX5_isAtDigit_34 (by decide) ?_
      refine lv_icmp_gt (tgt := 43) hx hb dX5_isAtDigit_36 (by decide) (fun c5 => ?_) (fun c5 => ?_)
      · replace hf := xif_t hf c5
        refine lv_iconst (v := 0) hx hb dX5_isAtDigit_43 (by decide) ?_
        exact x_zret hx hb h (Option.some.inj hf) hr hlocks (by decide) dX5_isAtDigit_44
      · replace hf := xif_f hf c5
        refine lv_iconst (v := 1) hx hb dX5_isAtDigit_39 (by decide) ?_
        refine lv_goto (tgt := 44) hx hb dX5_isAtDigit_40 (by decide) ?_
        exact x_zret hx hb h (Option.some.inj hf) hr hlocks (by decide) dX5_isAtDigit_44
theorem hdX5_takeDigit : yX5_takeDigit.cls = RX5 ∧ yX5_takeDigit.cls ≠ "java/lang/invoke/MethodHandle" ∧ yX5_takeDigit.cls ≠ "java/lang/invoke/VarHandle" ∧ (parseMethodDescriptor yX5_takeDigit.desc).map (fun d => d.parameters.length) = some 0 := by decide +kernel
set_option maxHeartbeats 4000000 in
set_option maxRecDepth 100000 in
theorem m_X5_takeDigit (l : Launch) {Γ : xG} {N : Nat} {M : xM} {res : xR} (hf : F_X5_takeDigit N M = some res) (sz : Nat) : Met l yX5_takeDigit (xWs yX5_takeDigit cX5_takeDigit 2 (some .int)) ({ frames := 1, cells := 0, slots := 0, locals := 40 } : Room) (va_Pc [.ref (Γ.2.1 1473)] (xPre Γ (wX Γ) M sz)) (xCi Γ (wX Γ) 1483 res sz) 0 0 (xAd Γ 1483 sz) := by
  refine x_met (Qc := fun sz => xCi Γ (wX Γ) 1483 res sz) pnX5 wG_W (Nat.le_of_ble_eq_true rfl) (fun p e s m args below meth c _ E h ls hl => ?_) sz
  obtain ⟨⟨hx, hb, hml, hown, hts⟩, hr, hlocks⟩ := id E
  have hl : lv_has ls 2 [(0, .ref (Γ.2.1 1473))] := hl
  refine lv_aload_n hx hb dX5_takeDigit_0 rfl (lv_at hl 0 rfl) ?_
  refine x_get (own := RX5) (ref := "TintDesk$FormulaText") (C := RX5) (T := TX5) (n := 5) (index := 9) (v := .ref (Γ.2.1 1474)) hx hb hts (fun w h => xU_sub w (inU5 w h)) hown h kX_text rfl 0 (by decide) (hts _ (xU_sub _ q111)) (fun _ h9 => h9) rfl dX5_takeDigit_1 ?_
  refine lv_aload_n hx hb dX5_takeDigit_4 rfl (lv_at hl 0 rfl) ?_
  refine x_get (own := RX5) (ref := "TintDesk$FormulaText") (C := RX5) (T := TX5) (n := 5) (index := 19) (v := .int (M.1 1473 2)) hx hb hts (fun w h => xU_sub w (inU5 w h)) hown h kX_text rfl 2 (by decide) (hts _ (xU_sub _ q113)) (fun _ h9 => h9) rfl dX5_takeDigit_5 ?_
  obtain ⟨c1, hf⟩ := xck_s hf
  refine x_cald hx hb h kX_text_signs (xin_in c1) dX5_takeDigit_8 ?_
  refine lv_bipush (v := 48) hx hb dX5_takeDigit_9 (by decide) ?_
  refine lv_isub hx hb dX5_takeDigit_11 ?_
  obtain ⟨y2, ey2, hf⟩ := xl_s hf
  refine x_nm ey2 ?_
  refine lv_istore_n (lv' := [(1, .int y2), (0, .ref (Γ.2.1 1473))]) hx hb dX5_takeDigit_12 rfl hl (by decide) rfl (fun ls hl => ?_)
  refine lv_aload_n hx hb dX5_takeDigit_13 rfl (lv_at hl 1 rfl) ?_
  refine lv_dup hx hb dX5_takeDigit_14 rfl ?_
  refine x_get (own := RX5) (ref := "TintDesk$FormulaText") (C := RX5) (T := TX5) (n := 5) (index := 19) (v := .int (M.1 1473 2)) hx hb hts (fun w h => xU_sub w (inU5 w h)) hown h kX_text rfl 2 (by decide) (hts _ (xU_sub _ q113)) (fun _ h9 => h9) rfl dX5_takeDigit_15 ?_
  refine lv_iconst (v := 1) hx hb dX5_takeDigit_18 (by decide) ?_
  refine lv_iadd hx hb dX5_takeDigit_19 ?_
  obtain ⟨M3, eM3, hf⟩ := xl_s hf
  refine x_put (own := RX5) (ref := "TintDesk$FormulaText") (C := RX5) (T := TX5) (n := 5) (index := 19) (ty := .int) hx hb hts (fun w h => xU_sub w (inU5 w h)) tyX5 tyX5_ok nmX5 hown h kX_text rfl 2 (by decide) (hts _ (xU_sub _ q113)) (fun _ h9 => h9) rfl (by decide +kernel) rfl rfl (Nat.le_of_ble_eq_true rfl) rfl eM3 dX5_takeDigit_20 (fun H locs h => ?_)
  refine lv_iload_n hx hb dX5_takeDigit_23 rfl (lv_at hl 0 rfl) ?_
  exact x_iret hx hb h (Option.some.inj hf) hr hlocks dX5_takeDigit_24
theorem hdX5_takeAmount : yX5_takeAmount.cls = RX5 ∧ yX5_takeAmount.cls ≠ "java/lang/invoke/MethodHandle" ∧ yX5_takeAmount.cls ≠ "java/lang/invoke/VarHandle" ∧ (parseMethodDescriptor yX5_takeAmount.desc).map (fun d => d.parameters.length) = some 0 := by decide +kernel
set_option maxHeartbeats 4000000 in
set_option maxRecDepth 100000 in
theorem w_X5_takeAmount_17 (l : Launch) {p : Program} {e : Env} {s : State} {m : MethodId} {args : Array Value} {below : List Frame} {meth : Method} {c : Code} {Γ : xG} {N : Nat} {res : xR} (E : xEv p s m args meth c RX5 cX5_takeAmount 4 (some .int) (xWs yX5_takeAmount cX5_takeAmount 4 (some .int))) : ∀ (n : Nat) (v1 : Int32) (v2 : Int32) (v3 : Int32) (M : xM), L_X5_takeAmount_17 N n v1 v2 v3 M = some res → ∀ (H : Heap) (locs : List Loc) (ls : Array Slot), xH Γ (wX Γ) 1483 s M H locs → lv_has ls 4 [(0, .ref (Γ.2.1 1473)), (1, .int v1), (2, .int v2), (3, .int v3)] → W p l e ({ frames := 2, cells := 0, slots := 0, locals := 61 } : Room) s m args below meth c H locs 0 0 (MQ below (xCi Γ (wX Γ) 1483 res s.heap.size) args s 0 0 (xAd Γ 1483 s.heap.size)) (F0 m 17 ls []) := by
  obtain ⟨⟨hx, hb, hml, hown, hts⟩, hr, hlocks⟩ := id E
  intro n
  induction n with
  | zero => intro v1 v2 v3 M hf; cases hf
  | succ n ih =>
    intro v1 v2 v3 M hf H locs ls h hl
    refine lv_iload_n hx hb dX5_takeAmount_17 rfl (lv_at hl 3 rfl) ?_
    refine lv_iload_n hx hb dX5_takeAmount_18 rfl (lv_at hl 2 rfl) ?_
    refine lv_icmp_ge (tgt := 45) hx hb dX5_takeAmount_19 (by decide) (fun c1 => ?_) (fun c1 => ?_)
    · replace hf := xif_t hf c1
      refine lv_iload_n hx hb dX5_takeAmount_45 rfl (lv_at hl 1 rfl) ?_
      exact x_iret hx hb h (Option.some.inj hf) hr hlocks dX5_takeAmount_46
    · replace hf := xif_f hf c1
      refine lv_aload_n hx hb dX5_takeAmount_22 rfl (lv_at hl 0 rfl) ?_
      obtain ⟨r2, er2, hf⟩ := xbd_s hf
      refine x_Vi (As := []) (rest := []) E.1 (m_X5_isAtDigit l er2) (cwV 0 hts (xgV xU_sub q473 q474 q475 q25 q476) rfl rfl rfl hdX5_isAtDigit ⟨Nat.le_of_ble_eq_true rfl, Nat.le_of_ble_eq_true rfl⟩) h kX_text rfl rfl hl.1 rfl (Nat.le_of_ble_eq_true rfl) dX5_takeAmount_23 ⟨Nat.le_of_ble_eq_true rfl, Nat.le_of_ble_eq_true rfl⟩ (fun H locs h => ?_)
      refine lv_if_eq (tgt := 45) hx hb dX5_takeAmount_26 (by decide) (fun c3 => ?_) (fun c3 => ?_)
      · replace hf := xif_t hf c3
        refine lv_iload_n hx hb dX5_takeAmount_45 rfl (lv_at hl 1 rfl) ?_
        exact x_iret hx hb h (Option.some.inj hf) hr hlocks dX5_takeAmount_46
      · replace hf := xif_f hf c3
        refine lv_iload_n hx hb dX5_takeAmount_29 rfl (lv_at hl 1 rfl) ?_
        refine lv_bipush (v := 10) hx hb dX5_takeAmount_30 (by decide) ?_
        refine lv_imul hx hb dX5_takeAmount_32 ?_
        refine lv_aload_n hx hb dX5_takeAmount_33 rfl (lv_at hl 0 rfl) ?_
        obtain ⟨r4, er4, hf⟩ := xbd_s hf
        refine x_Vi (As := []) (rest := [.int (v1 * 10)]) E.1 (m_X5_takeDigit l er4) (cwV 0 hts (xgV xU_sub q477 q478 q479 q25 q480) rfl rfl rfl hdX5_takeDigit ⟨Nat.le_of_ble_eq_true rfl, Nat.le_of_ble_eq_true rfl⟩) h kX_text rfl rfl hl.1 rfl (Nat.le_of_ble_eq_true rfl) dX5_takeAmount_34 ⟨Nat.le_of_ble_eq_true rfl, Nat.le_of_ble_eq_true rfl⟩ (fun H locs h => ?_)
        refine lv_iadd hx hb dX5_takeAmount_37 ?_
        obtain ⟨y5, ey5, hf⟩ := xl_s hf
        refine x_nm ey5 ?_
        refine lv_istore_n (lv' := [(1, .int y5), (0, .ref (Γ.2.1 1473)), (2, .int v2), (3, .int v3)]) hx hb dX5_takeAmount_38 rfl hl (by decide) rfl (fun ls hl => ?_)
        obtain ⟨y6, ey6, hf⟩ := xl_s hf
        refine lv_iinc (v := y6) (lv' := [(3, .int y6), (1, .int y5), (0, .ref (Γ.2.1 1473)), (2, .int v2)]) hx hb dX5_takeAmount_39 hl (k := 3) rfl (by rw [ey6]; rfl) (by decide) rfl (fun ls hl => ?_)
        refine lv_goto (tgt := 17) hx hb dX5_takeAmount_42 (by decide) ?_
        exact ih y5 v2 y6 r4.1 hf _ _ _ h (lv_sub hl [2, 1, 3, 0] rfl)
set_option maxHeartbeats 4000000 in
set_option maxRecDepth 100000 in
theorem w_X5_takeAmount_14 (l : Launch) {p : Program} {e : Env} {s : State} {m : MethodId} {args : Array Value} {below : List Frame} {meth : Method} {c : Code} {Γ : xG} {N : Nat} {res : xR} (E : xEv p s m args meth c RX5 cX5_takeAmount 4 (some .int) (xWs yX5_takeAmount cX5_takeAmount 4 (some .int))) : ∀ (v1 : Int32) (t0 : Int32) (M : xM), L_X5_takeAmount_14 N v1 t0 M = some res → ∀ (H : Heap) (locs : List Loc) (ls : Array Slot), xH Γ (wX Γ) 1483 s M H locs → lv_has ls 4 [(0, .ref (Γ.2.1 1473)), (1, .int v1)] → W p l e ({ frames := 2, cells := 0, slots := 0, locals := 61 } : Room) s m args below meth c H locs 0 0 (MQ below (xCi Γ (wX Γ) 1483 res s.heap.size) args s 0 0 (xAd Γ 1483 s.heap.size)) (F0 m 14 ls [.int t0]) := by
  obtain ⟨⟨hx, hb, hml, hown, hts⟩, hr, hlocks⟩ := id E
  intro v1 t0 M hf H locs ls h hl
  refine lv_istore_n (lv' := [(2, .int t0), (0, .ref (Γ.2.1 1473)), (1, .int v1)]) hx hb dX5_takeAmount_14 rfl hl (by decide) rfl (fun ls hl => ?_)
  refine lv_iconst (v := 1) hx hb dX5_takeAmount_15 (by decide) ?_
  refine lv_istore_n (lv' := [(3, .int 1), (2, .int t0), (0, .ref (Γ.2.1 1473)), (1, .int v1)]) hx hb dX5_takeAmount_16 rfl hl (by decide) rfl (fun ls hl => ?_)
  exact w_X5_takeAmount_17 l E N v1 t0 1 M hf _ _ _ h (lv_sub hl [2, 3, 1, 0] rfl)
set_option maxHeartbeats 4000000 in
set_option maxRecDepth 100000 in
theorem m_X5_takeAmount (l : Launch) {Γ : xG} {N : Nat} {M : xM} {res : xR} (hf : F_X5_takeAmount N M = some res) (sz : Nat) : Met l yX5_takeAmount (xWs yX5_takeAmount cX5_takeAmount 4 (some .int)) ({ frames := 2, cells := 0, slots := 0, locals := 61 } : Room) (va_Pc [.ref (Γ.2.1 1473)] (xPre Γ (wX Γ) M sz)) (xCi Γ (wX Γ) 1483 res sz) 0 0 (xAd Γ 1483 sz) := by
  refine x_met (Qc := fun sz => xCi Γ (wX Γ) 1483 res sz) pnX5 wG_W (Nat.le_of_ble_eq_true rfl) (fun p e s m args below meth c _ E h ls hl => ?_) sz
  obtain ⟨⟨hx, hb, hml, hown, hts⟩, hr, hlocks⟩ := id E
  have hl : lv_has ls 4 [(0, .ref (Γ.2.1 1473))] := hl
  refine lv_aload_n hx hb dX5_takeAmount_0 rfl (lv_at hl 0 rfl) ?_
  obtain ⟨r1, er1, hf⟩ := xbd_s hf
  refine x_Vi (As := []) (rest := []) E.1 (m_X5_takeDigit l er1) (cwV 0 hts (xgV xU_sub q477 q478 q479 q25 q480) rfl rfl rfl hdX5_takeDigit ⟨Nat.le_of_ble_eq_true rfl, Nat.le_of_ble_eq_true rfl⟩) h kX_text rfl rfl hl.1 rfl (Nat.le_of_ble_eq_true rfl) dX5_takeAmount_1 ⟨Nat.le_of_ble_eq_true rfl, Nat.le_of_ble_eq_true rfl⟩ (fun H locs h => ?_)
  obtain ⟨y2, ey2, hf⟩ := xl_s hf
  refine x_nm ey2 ?_
  refine lv_istore_n (lv' := [(1, .int y2), (0, .ref (Γ.2.1 1473))]) hx hb dX5_takeAmount_4 rfl hl (by decide) rfl (fun ls hl => ?_)
  refine lv_iload_n hx hb dX5_takeAmount_5 rfl (lv_at hl 0 rfl) ?_
  refine lv_if_ne (tgt := 13) hx hb dX5_takeAmount_6 (by decide) (fun c3 => ?_) (fun c3 => ?_)
  · replace hf := xif_f hf c3
    refine lv_iconst (v := 4) hx hb dX5_takeAmount_13 (by decide) ?_
    exact w_X5_takeAmount_14 l E y2 4 r1.1 hf _ _ _ h (lv_sub hl [1, 0] rfl)
  · replace hf := xif_t hf c3
    refine lv_iconst (v := 1) hx hb dX5_takeAmount_9 (by decide) ?_
    refine lv_goto (tgt := 14) hx hb dX5_takeAmount_10 (by decide) ?_
    exact w_X5_takeAmount_14 l E y2 1 r1.1 hf _ _ _ h (lv_sub hl [1, 0] rfl)
theorem hdX5_takePart : yX5_takePart.cls = RX5 ∧ yX5_takePart.cls ≠ "java/lang/invoke/MethodHandle" ∧ yX5_takePart.cls ≠ "java/lang/invoke/VarHandle" ∧ (parseMethodDescriptor yX5_takePart.desc).map (fun d => d.parameters.length) = some 0 := by decide +kernel
set_option maxHeartbeats 4000000 in
set_option maxRecDepth 100000 in
theorem m_X5_takePart (l : Launch) {Γ : xG} {N : Nat} {M : xM} {res : xR} (hf : F_X5_takePart N M = some res) (sz : Nat) : Met l yX5_takePart (xWs yX5_takePart cX5_takePart 2 (some .boolean)) ({ frames := 3, cells := 0, slots := 0, locals := 84 } : Room) (va_Pc [.ref (Γ.2.1 1473)] (xPre Γ (wX Γ) M sz)) (xCi Γ (wX Γ) 1483 res sz) 0 0 (xAd Γ 1483 sz) := by
  refine x_met (Qc := fun sz => xCi Γ (wX Γ) 1483 res sz) pnX5 wG_W (Nat.le_of_ble_eq_true rfl) (fun p e s m args below meth c _ E h ls hl => ?_) sz
  obtain ⟨⟨hx, hb, hml, hown, hts⟩, hr, hlocks⟩ := id E
  have hl : lv_has ls 2 [(0, .ref (Γ.2.1 1473))] := hl
  refine lv_aload_n hx hb dX5_takePart_0 rfl (lv_at hl 0 rfl) ?_
  obtain ⟨r1, er1, hf⟩ := xbd_s hf
  refine x_Vi (As := []) (rest := []) E.1 (m_X5_isAtDigit l er1) (cwV 0 hts (xgV xU_sub q473 q474 q475 q25 q476) rfl rfl rfl hdX5_isAtDigit ⟨Nat.le_of_ble_eq_true rfl, Nat.le_of_ble_eq_true rfl⟩) h kX_text rfl rfl hl.1 rfl (Nat.le_of_ble_eq_true rfl) dX5_takePart_1 ⟨Nat.le_of_ble_eq_true rfl, Nat.le_of_ble_eq_true rfl⟩ (fun H locs h => ?_)
  refine lv_if_ne (tgt := 9) hx hb dX5_takePart_4 (by decide) (fun c2 => ?_) (fun c2 => ?_)
  · replace hf := xif_f hf c2
    refine lv_aload_n hx hb dX5_takePart_9 rfl (lv_at hl 0 rfl) ?_
    obtain ⟨r3, er3, hf⟩ := xbd_s hf
    refine x_Vi (As := []) (rest := []) E.1 (m_X5_takeDigit l er3) (cwV 0 hts (xgV xU_sub q477 q478 q479 q25 q480) rfl rfl rfl hdX5_takeDigit ⟨Nat.le_of_ble_eq_true rfl, Nat.le_of_ble_eq_true rfl⟩) h kX_text rfl rfl hl.1 rfl (Nat.le_of_ble_eq_true rfl) dX5_takePart_10 ⟨Nat.le_of_ble_eq_true rfl, Nat.le_of_ble_eq_true rfl⟩ (fun H locs h => ?_)
    obtain ⟨y4, ey4, hf⟩ := xl_s hf
    refine x_nm ey4 ?_
    refine lv_istore_n (lv' := [(1, .int y4), (0, .ref (Γ.2.1 1473))]) hx hb dX5_takePart_13 rfl hl (by decide) rfl (fun ls hl => ?_)
    refine lv_aload_n hx hb dX5_takePart_14 rfl (lv_at hl 1 rfl) ?_
    refine lv_bipush (v := 61) hx hb dX5_takePart_15 (by decide) ?_
    obtain ⟨r5, er5, hf⟩ := xbd_s hf
    refine x_Vi (As := [.int 61]) (rest := []) E.1 (m_X5_takeSign l er5) (cwV 1 hts (xgV xU_sub q469 q470 q471 q25 q472) rfl rfl rfl hdX5_takeSign ⟨Nat.le_of_ble_eq_true rfl, Nat.le_of_ble_eq_true rfl⟩) h kX_text rfl rfl hl.1 rfl (Nat.le_of_ble_eq_true rfl) dX5_takePart_17 ⟨Nat.le_of_ble_eq_true rfl, Nat.le_of_ble_eq_true rfl⟩ (fun H locs h => ?_)
    refine lv_if_eq (tgt := 30) hx hb dX5_takePart_20 (by decide) (fun c6 => ?_) (fun c6 => ?_)
    · replace hf := xif_t hf c6
      refine lv_iconst (v := 0) hx hb dX5_takePart_30 (by decide) ?_
      exact x_zret hx hb h (Option.some.inj hf) hr hlocks (by decide) dX5_takePart_31
    · replace hf := xif_f hf c6
      refine lv_aload_n hx hb dX5_takePart_23 rfl (lv_at hl 1 rfl) ?_
      obtain ⟨r7, er7, hf⟩ := xbd_s hf
      refine x_Vi (As := []) (rest := []) E.1 (m_X5_isAtDigit l er7) (cwV 0 hts (xgV xU_sub q473 q474 q475 q25 q476) rfl rfl rfl hdX5_isAtDigit ⟨Nat.le_of_ble_eq_true rfl, Nat.le_of_ble_eq_true rfl⟩) h kX_text rfl rfl hl.1 rfl (Nat.le_of_ble_eq_true rfl) dX5_takePart_24 ⟨Nat.le_of_ble_eq_true rfl, Nat.le_of_ble_eq_true rfl⟩ (fun H locs h => ?_)
      refine lv_if_ne (tgt := 32) hx hb dX5_takePart_27 (by decide) (fun c8 => ?_) (fun c8 => ?_)
      · replace hf := xif_f hf c8
        refine lv_aload_n hx hb dX5_takePart_32 rfl (lv_at hl 1 rfl) ?_
        refine x_get (own := RX5) (ref := "TintDesk$FormulaText") (C := RX5) (T := TX5) (n := 5) (index := 25) (v := .ref (Γ.2.1 1475)) hx hb hts (fun w h => xU_sub w (inU5 w h)) hown h kX_text rfl 4 (by decide) (hts _ (xU_sub _ q115)) (fun _ h9 => h9) rfl dX5_takePart_33 ?_
        refine lv_iload_n hx hb dX5_takePart_36 rfl (lv_at hl 0 rfl) ?_
        refine lv_aload_n hx hb dX5_takePart_37 rfl (lv_at hl 1 rfl) ?_
        obtain ⟨r9, er9, hf⟩ := xbd_s hf
        refine x_Vi (As := []) (rest := [.int y4, .ref (Γ.2.1 1475)]) E.1 (m_X5_takeAmount l er9) (cwV 0 hts (xgV xU_sub q489 q490 q491 q25 q492) rfl rfl rfl hdX5_takeAmount ⟨Nat.le_of_ble_eq_true rfl, Nat.le_of_ble_eq_true rfl⟩) h kX_text rfl rfl hl.1 rfl (Nat.le_of_ble_eq_true rfl) dX5_takePart_38 ⟨Nat.le_of_ble_eq_true rfl, Nat.le_of_ble_eq_true rfl⟩ (fun H locs h => ?_)
        obtain ⟨c10, hf⟩ := xck_s hf
        obtain ⟨M11, eM11, hf⟩ := xl_s hf
        refine x_iast hx hb h kX_text_amounts (xin_in c10) eM11 dX5_takePart_41 (fun H locs h => ?_)
        refine lv_iconst (v := 1) hx hb dX5_takePart_42 (by decide) ?_
        exact x_zret hx hb h (Option.some.inj hf) hr hlocks (by decide) dX5_takePart_43
      · replace hf := xif_t hf c8
        refine lv_iconst (v := 0) hx hb dX5_takePart_30 (by decide) ?_
        exact x_zret hx hb h (Option.some.inj hf) hr hlocks (by decide) dX5_takePart_31
  · replace hf := xif_t hf c2
    refine lv_iconst (v := 0) hx hb dX5_takePart_7 (by decide) ?_
    exact x_zret hx hb h (Option.some.inj hf) hr hlocks (by decide) dX5_takePart_8
theorem hdX5_takeParts : yX5_takeParts.cls = RX5 ∧ yX5_takeParts.cls ≠ "java/lang/invoke/MethodHandle" ∧ yX5_takeParts.cls ≠ "java/lang/invoke/VarHandle" ∧ (parseMethodDescriptor yX5_takeParts.desc).map (fun d => d.parameters.length) = some 0 := by decide +kernel
set_option maxHeartbeats 4000000 in
set_option maxRecDepth 100000 in
theorem w_X5_takeParts_49 (l : Launch) {p : Program} {e : Env} {s : State} {m : MethodId} {args : Array Value} {below : List Frame} {meth : Method} {c : Code} {Γ : xG} {N : Nat} {res : xR} (E : xEv p s m args meth c RX5 cX5_takeParts 3 (some .boolean) (xWs yX5_takeParts cX5_takeParts 3 (some .boolean))) {K_7 : Int32 → Int32 → xM → Option xR} (hK_7 : ∀ (v1 : Int32) (v2 : Int32) (M : xM), K_7 v1 v2 M = some res → ∀ (H : Heap) (locs : List Loc) (ls : Array Slot), xH Γ (wX Γ) 1483 s M H locs → lv_has ls 3 [(0, .ref (Γ.2.1 1473)), (1, .int v1), (2, .int v2)] → W p l e ({ frames := 4, cells := 0, slots := 0, locals := 105 } : Room) s m args below meth c H locs 0 0 (MQ below (xCi Γ (wX Γ) 1483 res s.heap.size) args s 0 0 (xAd Γ 1483 s.heap.size)) (F0 m 7 ls [])) : ∀ (v2 : Int32) (t0 : Int32) (M : xM), L_X5_takeParts_49 N K_7 v2 t0 M = some res → ∀ (H : Heap) (locs : List Loc) (ls : Array Slot), xH Γ (wX Γ) 1483 s M H locs → lv_has ls 3 [(0, .ref (Γ.2.1 1473)), (2, .int v2)] → W p l e ({ frames := 4, cells := 0, slots := 0, locals := 105 } : Room) s m args below meth c H locs 0 0 (MQ below (xCi Γ (wX Γ) 1483 res s.heap.size) args s 0 0 (xAd Γ 1483 s.heap.size)) (F0 m 49 ls [.int t0]) := by
  obtain ⟨⟨hx, hb, hml, hown, hts⟩, hr, hlocks⟩ := id E
  intro v2 t0 M hf H locs ls h hl
  refine lv_istore_n (lv' := [(1, .int t0), (0, .ref (Γ.2.1 1473)), (2, .int v2)]) hx hb dX5_takeParts_49 rfl hl (by decide) rfl (fun ls hl => ?_)
  obtain ⟨y1, ey1, hf⟩ := xl_s hf
  refine lv_iinc (v := y1) (lv' := [(2, .int y1), (1, .int t0), (0, .ref (Γ.2.1 1473))]) hx hb dX5_takeParts_50 hl (k := 2) rfl (by rw [ey1]; rfl) (by decide) rfl (fun ls hl => ?_)
  refine lv_goto (tgt := 7) hx hb dX5_takeParts_53 (by decide) ?_
  exact hK_7 t0 y1 M hf _ _ _ h (lv_sub hl [2, 1, 0] rfl)
set_option maxHeartbeats 4000000 in
set_option maxRecDepth 100000 in
theorem w_X5_takeParts_48 (l : Launch) {p : Program} {e : Env} {s : State} {m : MethodId} {args : Array Value} {below : List Frame} {meth : Method} {c : Code} {Γ : xG} {N : Nat} {res : xR} (E : xEv p s m args meth c RX5 cX5_takeParts 3 (some .boolean) (xWs yX5_takeParts cX5_takeParts 3 (some .boolean))) {K_49 : Int32 → Int32 → xM → Option xR} (hK_49 : ∀ (v2 : Int32) (t0 : Int32) (M : xM), K_49 v2 t0 M = some res → ∀ (H : Heap) (locs : List Loc) (ls : Array Slot), xH Γ (wX Γ) 1483 s M H locs → lv_has ls 3 [(0, .ref (Γ.2.1 1473)), (2, .int v2)] → W p l e ({ frames := 4, cells := 0, slots := 0, locals := 105 } : Room) s m args below meth c H locs 0 0 (MQ below (xCi Γ (wX Γ) 1483 res s.heap.size) args s 0 0 (xAd Γ 1483 s.heap.size)) (F0 m 49 ls [.int t0])) : ∀ (v2 : Int32) (M : xM), L_X5_takeParts_48 N K_49 v2 M = some res → ∀ (H : Heap) (locs : List Loc) (ls : Array Slot), xH Γ (wX Γ) 1483 s M H locs → lv_has ls 3 [(0, .ref (Γ.2.1 1473)), (2, .int v2)] → W p l e ({ frames := 4, cells := 0, slots := 0, locals := 105 } : Room) s m args below meth c H locs 0 0 (MQ below (xCi Γ (wX Γ) 1483 res s.heap.size) args s 0 0 (xAd Γ 1483 s.heap.size)) (F0 m 48 ls []) := by
  obtain ⟨⟨hx, hb, hml, hown, hts⟩, hr, hlocks⟩ := id E
  intro v2 M hf H locs ls h hl
  refine lv_iconst (v := 0) hx hb dX5_takeParts_48 (by decide) ?_
  exact hK_49 v2 0 M hf _ _ _ h (lv_sub hl [0, 1] rfl)
set_option maxHeartbeats 4000000 in
set_option maxRecDepth 100000 in
theorem w_X5_takeParts_7 (l : Launch) {p : Program} {e : Env} {s : State} {m : MethodId} {args : Array Value} {below : List Frame} {meth : Method} {c : Code} {Γ : xG} {N : Nat} {res : xR} (E : xEv p s m args meth c RX5 cX5_takeParts 3 (some .boolean) (xWs yX5_takeParts cX5_takeParts 3 (some .boolean))) : ∀ (n : Nat) (v1 : Int32) (v2 : Int32) (M : xM), L_X5_takeParts_7 N n v1 v2 M = some res → ∀ (H : Heap) (locs : List Loc) (ls : Array Slot), xH Γ (wX Γ) 1483 s M H locs → lv_has ls 3 [(0, .ref (Γ.2.1 1473)), (1, .int v1), (2, .int v2)] → W p l e ({ frames := 4, cells := 0, slots := 0, locals := 105 } : Room) s m args below meth c H locs 0 0 (MQ below (xCi Γ (wX Γ) 1483 res s.heap.size) args s 0 0 (xAd Γ 1483 s.heap.size)) (F0 m 7 ls []) := by
  obtain ⟨⟨hx, hb, hml, hown, hts⟩, hr, hlocks⟩ := id E
  intro n
  induction n with
  | zero => intro v1 v2 M hf; cases hf
  | succ n ih =>
    intro v1 v2 M hf H locs ls h hl
    refine lv_iload_n hx hb dX5_takeParts_7 rfl (lv_at hl 2 rfl) ?_
    refine lv_bipush (v := 60) hx hb dX5_takeParts_8 (by decide) ?_
    refine lv_icmp_ge (tgt := 56) hx hb dX5_takeParts_10 (by decide) (fun c1 => ?_) (fun c1 => ?_)
    · replace hf := xif_t hf c1
      refine lv_iload_n hx hb dX5_takeParts_56 rfl (lv_at hl 1 rfl) ?_
      obtain ⟨c2, hf⟩ := xck_s hf
      exact x_zret hx hb h (Option.some.inj hf) hr hlocks (xz_n c2) dX5_takeParts_57
    · replace hf := xif_f hf c1
      refine lv_iload_n hx hb dX5_takeParts_13 rfl (lv_at hl 1 rfl) ?_
      refine lv_if_eq (tgt := 56) hx hb dX5_takeParts_14 (by decide) (fun c3 => ?_) (fun c3 => ?_)
      · replace hf := xif_t hf c3
        refine lv_iload_n hx hb dX5_takeParts_56 rfl (lv_at hl 1 rfl) ?_
        obtain ⟨c4, hf⟩ := xck_s hf
        exact x_zret hx hb h (Option.some.inj hf) hr hlocks (xz_n c4) dX5_takeParts_57
      · replace hf := xif_f hf c3
        refine lv_aload_n hx hb dX5_takeParts_17 rfl (lv_at hl 0 rfl) ?_
        refine x_get (own := RX5) (ref := "TintDesk$FormulaText") (C := RX5) (T := TX5) (n := 5) (index := 19) (v := .int (M.1 1473 2)) hx hb hts (fun w h => xU_sub w (inU5 w h)) hown h kX_text rfl 2 (by decide) (hts _ (xU_sub _ q113)) (fun _ h9 => h9) rfl dX5_takeParts_18 ?_
        refine lv_aload_n hx hb dX5_takeParts_21 rfl (lv_at hl 0 rfl) ?_
        refine x_get (own := RX5) (ref := "TintDesk$FormulaText") (C := RX5) (T := TX5) (n := 5) (index := 15) (v := .int (M.1 1473 1)) hx hb hts (fun w h => xU_sub w (inU5 w h)) hown h kX_text rfl 1 (by decide) (hts _ (xU_sub _ q112)) (fun _ h9 => h9) rfl dX5_takeParts_22 ?_
        refine lv_icmp_ge (tgt := 56) hx hb dX5_takeParts_25 (by decide) (fun c5 => ?_) (fun c5 => ?_)
        · replace hf := xif_t hf c5
          refine lv_iload_n hx hb dX5_takeParts_56 rfl (lv_at hl 1 rfl) ?_
          obtain ⟨c6, hf⟩ := xck_s hf
          exact x_zret hx hb h (Option.some.inj hf) hr hlocks (xz_n c6) dX5_takeParts_57
        · replace hf := xif_f hf c5
          refine lv_aload_n hx hb dX5_takeParts_28 rfl (lv_at hl 0 rfl) ?_
          refine lv_bipush (v := 44) hx hb dX5_takeParts_29 (by decide) ?_
          obtain ⟨r7, er7, hf⟩ := xbd_s hf
          refine x_Vi (As := [.int 44]) (rest := []) E.1 (m_X5_takeSign l er7) (cwV 1 hts (xgV xU_sub q469 q470 q471 q25 q472) rfl rfl rfl hdX5_takeSign ⟨Nat.le_of_ble_eq_true rfl, Nat.le_of_ble_eq_true rfl⟩) h kX_text rfl rfl hl.1 rfl (Nat.le_of_ble_eq_true rfl) dX5_takeParts_31 ⟨Nat.le_of_ble_eq_true rfl, Nat.le_of_ble_eq_true rfl⟩ (fun H locs h => ?_)
          refine lv_if_eq (tgt := 48) hx hb dX5_takeParts_34 (by decide) (fun c8 => ?_) (fun c8 => ?_)
          · replace hf := xif_t hf c8
            exact w_X5_takeParts_48 l E (w_X5_takeParts_49 l E (ih)) v2 r7.1 hf _ _ _ h (lv_sub hl [0, 2] rfl)
          · replace hf := xif_f hf c8
            refine lv_aload_n hx hb dX5_takeParts_37 rfl (lv_at hl 0 rfl) ?_
            obtain ⟨r9, er9, hf⟩ := xbd_s hf
            refine x_Vi (As := []) (rest := []) E.1 (m_X5_takePart l er9) (cwV 0 hts (xgV xU_sub q485 q486 q487 q25 q488) rfl rfl rfl hdX5_takePart ⟨Nat.le_of_ble_eq_true rfl, Nat.le_of_ble_eq_true rfl⟩) h kX_text rfl rfl hl.1 rfl (Nat.le_of_ble_eq_true rfl) dX5_takeParts_38 ⟨Nat.le_of_ble_eq_true rfl, Nat.le_of_ble_eq_true rfl⟩ (fun H locs h => ?_)
            refine lv_if_eq (tgt := 48) hx hb dX5_takeParts_41 (by decide) (fun c10 => ?_) (fun c10 => ?_)
            · replace hf := xif_t hf c10
              exact w_X5_takeParts_48 l E (w_X5_takeParts_49 l E (ih)) v2 r9.1 hf _ _ _ h (lv_sub hl [0, 2] rfl)
            · replace hf := xif_f hf c10
              refine lv_iconst (v := 1) hx hb dX5_takeParts_44 (by decide) ?_
              refine lv_goto (tgt := 49) hx hb dX5_takeParts_45 (by decide) ?_
              exact w_X5_takeParts_49 l E (ih) v2 1 r9.1 hf _ _ _ h (lv_sub hl [0, 2] rfl)
set_option maxHeartbeats 4000000 in
set_option maxRecDepth 100000 in
theorem m_X5_takeParts (l : Launch) {Γ : xG} {N : Nat} {M : xM} {res : xR} (hf : F_X5_takeParts N M = some res) (sz : Nat) : Met l yX5_takeParts (xWs yX5_takeParts cX5_takeParts 3 (some .boolean)) ({ frames := 4, cells := 0, slots := 0, locals := 105 } : Room) (va_Pc [.ref (Γ.2.1 1473)] (xPre Γ (wX Γ) M sz)) (xCi Γ (wX Γ) 1483 res sz) 0 0 (xAd Γ 1483 sz) := by
  refine x_met (Qc := fun sz => xCi Γ (wX Γ) 1483 res sz) pnX5 wG_W (Nat.le_of_ble_eq_true rfl) (fun p e s m args below meth c _ E h ls hl => ?_) sz
  obtain ⟨⟨hx, hb, hml, hown, hts⟩, hr, hlocks⟩ := id E
  have hl : lv_has ls 3 [(0, .ref (Γ.2.1 1473))] := hl
  refine lv_aload_n hx hb dX5_takeParts_0 rfl (lv_at hl 0 rfl) ?_
  obtain ⟨r1, er1, hf⟩ := xbd_s hf
  refine x_Vi (As := []) (rest := []) E.1 (m_X5_takePart l er1) (cwV 0 hts (xgV xU_sub q485 q486 q487 q25 q488) rfl rfl rfl hdX5_takePart ⟨Nat.le_of_ble_eq_true rfl, Nat.le_of_ble_eq_true rfl⟩) h kX_text rfl rfl hl.1 rfl (Nat.le_of_ble_eq_true rfl) dX5_takeParts_1 ⟨Nat.le_of_ble_eq_true rfl, Nat.le_of_ble_eq_true rfl⟩ (fun H locs h => ?_)
  obtain ⟨y2, ey2, hf⟩ := xl_s hf
  refine x_nm ey2 ?_
  refine lv_istore_n (lv' := [(1, .int y2), (0, .ref (Γ.2.1 1473))]) hx hb dX5_takeParts_4 rfl hl (by decide) rfl (fun ls hl => ?_)
  refine lv_iconst (v := 1) hx hb dX5_takeParts_5 (by decide) ?_
  refine lv_istore_n (lv' := [(2, .int 1), (1, .int y2), (0, .ref (Γ.2.1 1473))]) hx hb dX5_takeParts_6 rfl hl (by decide) rfl (fun ls hl => ?_)
  exact w_X5_takeParts_7 l E N y2 1 r1.1 hf _ _ _ h (lv_sub hl [2, 1, 0] rfl)
theorem hdX5_takeBase : yX5_takeBase.cls = RX5 ∧ yX5_takeBase.cls ≠ "java/lang/invoke/MethodHandle" ∧ yX5_takeBase.cls ≠ "java/lang/invoke/VarHandle" ∧ (parseMethodDescriptor yX5_takeBase.desc).map (fun d => d.parameters.length) = some 0 := by decide +kernel
set_option maxHeartbeats 4000000 in
set_option maxRecDepth 100000 in
theorem m_X5_takeBase (l : Launch) {Γ : xG} {N : Nat} {M : xM} {res : xR} (hf : F_X5_takeBase N M = some res) (sz : Nat) : Met l yX5_takeBase (xWs yX5_takeBase cX5_takeBase 1 (some .boolean)) ({ frames := 2, cells := 0, slots := 0, locals := 61 } : Room) (va_Pc [.ref (Γ.2.1 1473)] (xPre Γ (wX Γ) M sz)) (xCi Γ (wX Γ) 1483 res sz) 0 0 (xAd Γ 1483 sz) := by
  refine x_met (Qc := fun sz => xCi Γ (wX Γ) 1483 res sz) pnX5 wG_W (Nat.le_of_ble_eq_true rfl) (fun p e s m args below meth c _ E h ls hl => ?_) sz
  obtain ⟨⟨hx, hb, hml, hown, hts⟩, hr, hlocks⟩ := id E
  have hl : lv_has ls 1 [(0, .ref (Γ.2.1 1473))] := hl
  refine lv_aload_n hx hb dX5_takeBase_0 rfl (lv_at hl 0 rfl) ?_
  refine lv_bipush (v := 98) hx hb dX5_takeBase_1 (by decide) ?_
  obtain ⟨r1, er1, hf⟩ := xbd_s hf
  refine x_Vi (As := [.int 98]) (rest := []) E.1 (m_X5_takeSign l er1) (cwV 1 hts (xgV xU_sub q469 q470 q471 q25 q472) rfl rfl rfl hdX5_takeSign ⟨Nat.le_of_ble_eq_true rfl, Nat.le_of_ble_eq_true rfl⟩) h kX_text rfl rfl hl.1 rfl (Nat.le_of_ble_eq_true rfl) dX5_takeBase_3 ⟨Nat.le_of_ble_eq_true rfl, Nat.le_of_ble_eq_true rfl⟩ (fun H locs h => ?_)
  refine lv_if_eq (tgt := 16) hx hb dX5_takeBase_6 (by decide) (fun c2 => ?_) (fun c2 => ?_)
  · replace hf := xif_t hf c2
    refine lv_iconst (v := 0) hx hb dX5_takeBase_16 (by decide) ?_
    exact x_zret hx hb h (Option.some.inj hf) hr hlocks (by decide) dX5_takeBase_17
  · replace hf := xif_f hf c2
    refine lv_aload_n hx hb dX5_takeBase_9 rfl (lv_at hl 0 rfl) ?_
    obtain ⟨r3, er3, hf⟩ := xbd_s hf
    refine x_Vi (As := []) (rest := []) E.1 (m_X5_isAtDigit l er3) (cwV 0 hts (xgV xU_sub q473 q474 q475 q25 q476) rfl rfl rfl hdX5_isAtDigit ⟨Nat.le_of_ble_eq_true rfl, Nat.le_of_ble_eq_true rfl⟩) h kX_text rfl rfl hl.1 rfl (Nat.le_of_ble_eq_true rfl) dX5_takeBase_10 ⟨Nat.le_of_ble_eq_true rfl, Nat.le_of_ble_eq_true rfl⟩ (fun H locs h => ?_)
    refine lv_if_ne (tgt := 18) hx hb dX5_takeBase_13 (by decide) (fun c4 => ?_) (fun c4 => ?_)
    · replace hf := xif_f hf c4
      refine lv_aload_n hx hb dX5_takeBase_18 rfl (lv_at hl 0 rfl) ?_
      refine lv_aload_n hx hb dX5_takeBase_19 rfl (lv_at hl 0 rfl) ?_
      obtain ⟨r5, er5, hf⟩ := xbd_s hf
      refine x_Vi (As := []) (rest := [.ref (Γ.2.1 1473)]) E.1 (m_X5_takeDigit l er5) (cwV 0 hts (xgV xU_sub q477 q478 q479 q25 q480) rfl rfl rfl hdX5_takeDigit ⟨Nat.le_of_ble_eq_true rfl, Nat.le_of_ble_eq_true rfl⟩) h kX_text rfl rfl hl.1 rfl (Nat.le_of_ble_eq_true rfl) dX5_takeBase_20 ⟨Nat.le_of_ble_eq_true rfl, Nat.le_of_ble_eq_true rfl⟩ (fun H locs h => ?_)
      obtain ⟨M6, eM6, hf⟩ := xl_s hf
      refine x_put (own := RX5) (ref := "TintDesk$FormulaText") (C := RX5) (T := TX5) (n := 5) (index := 22) (ty := .int) hx hb hts (fun w h => xU_sub w (inU5 w h)) tyX5 tyX5_ok nmX5 hown h kX_text rfl 3 (by decide) (hts _ (xU_sub _ q114)) (fun _ h9 => h9) rfl (by decide +kernel) rfl rfl (Nat.le_of_ble_eq_true rfl) rfl eM6 dX5_takeBase_23 (fun H locs h => ?_)
      refine lv_aload_n hx hb dX5_takeBase_26 rfl (lv_at hl 0 rfl) ?_
      refine lv_bipush (v := 58) hx hb dX5_takeBase_27 (by decide) ?_
      obtain ⟨r7, er7, hf⟩ := xbd_s hf
      refine x_Vi (As := [.int 58]) (rest := []) E.1 (m_X5_takeSign l er7) (cwV 1 hts (xgV xU_sub q469 q470 q471 q25 q472) rfl rfl rfl hdX5_takeSign ⟨Nat.le_of_ble_eq_true rfl, Nat.le_of_ble_eq_true rfl⟩) h kX_text rfl rfl hl.1 rfl (Nat.le_of_ble_eq_true rfl) dX5_takeBase_29 ⟨Nat.le_of_ble_eq_true rfl, Nat.le_of_ble_eq_true rfl⟩ (fun H locs h => ?_)
      obtain ⟨c8, hf⟩ := xck_s hf
      exact x_zret hx hb h (Option.some.inj hf) hr hlocks (xz_n c8) dX5_takeBase_32
    · replace hf := xif_t hf c4
      refine lv_iconst (v := 0) hx hb dX5_takeBase_16 (by decide) ?_
      exact x_zret hx hb h (Option.some.inj hf) hr hlocks (by decide) dX5_takeBase_17
theorem hdX5_readAll : yX5_readAll.cls = RX5 ∧ yX5_readAll.cls ≠ "java/lang/invoke/MethodHandle" ∧ yX5_readAll.cls ≠ "java/lang/invoke/VarHandle" ∧ (parseMethodDescriptor yX5_readAll.desc).map (fun d => d.parameters.length) = some 0 := by decide +kernel
set_option maxHeartbeats 4000000 in
set_option maxRecDepth 100000 in
theorem w_X5_readAll_7 (l : Launch) {p : Program} {e : Env} {s : State} {m : MethodId} {args : Array Value} {below : List Frame} {meth : Method} {c : Code} {Γ : xG} {N : Nat} {res : xR} (E : xEv p s m args meth c RX5 cX5_readAll 2 (some .int) (xWs yX5_readAll cX5_readAll 2 (some .int))) : ∀ (n : Nat) (v1 : Int32) (M : xM), L_X5_readAll_7 N n v1 M = some res → ∀ (H : Heap) (locs : List Loc) (ls : Array Slot), xH Γ (wX Γ) 1483 s M H locs → lv_has ls 2 [(0, .ref (Γ.2.1 1473)), (1, .int v1)] → W p l e ({ frames := 5, cells := 0, slots := 0, locals := 127 } : Room) s m args below meth c H locs 0 0 (MQ below (xCi Γ (wX Γ) 1483 res s.heap.size) args s 0 0 (xAd Γ 1483 s.heap.size)) (F0 m 7 ls []) := by
  obtain ⟨⟨hx, hb, hml, hown, hts⟩, hr, hlocks⟩ := id E
  intro n
  induction n with
  | zero => intro v1 M hf; cases hf
  | succ n ih =>
    intro v1 M hf H locs ls h hl
    refine lv_iload_n hx hb dX5_readAll_7 rfl (lv_at hl 1 rfl) ?_
    refine lv_bipush (v := 10) hx hb dX5_readAll_8 (by decide) ?_
    refine lv_icmp_ge (tgt := 26) hx hb dX5_readAll_10 (by decide) (fun c1 => ?_) (fun c1 => ?_)
    · replace hf := xif_t hf c1
      refine lv_aload_n hx hb dX5_readAll_26 rfl (lv_at hl 0 rfl) ?_
      obtain ⟨r2, er2, hf⟩ := xbd_s hf
      refine x_Vi (As := []) (rest := []) E.1 (m_X5_takeBase l er2) (cwV 0 hts (xgV xU_sub q465 q466 q467 q25 q468) rfl rfl rfl hdX5_takeBase ⟨Nat.le_of_ble_eq_true rfl, Nat.le_of_ble_eq_true rfl⟩) h kX_text rfl rfl hl.1 rfl (Nat.le_of_ble_eq_true rfl) dX5_readAll_27 ⟨Nat.le_of_ble_eq_true rfl, Nat.le_of_ble_eq_true rfl⟩ (fun H locs h => ?_)
      refine lv_if_eq (tgt := 44) hx hb dX5_readAll_30 (by decide) (fun c3 => ?_) (fun c3 => ?_)
      · replace hf := xif_t hf c3
        refine lv_aload_n hx hb dX5_readAll_44 rfl (lv_at hl 0 rfl) ?_
        refine x_get (own := RX5) (ref := "TintDesk$FormulaText") (C := RX5) (T := TX5) (n := 5) (index := 19) (v := .int (r2.1.1 1473 2)) hx hb hts (fun w h => xU_sub w (inU5 w h)) hown h kX_text rfl 2 (by decide) (hts _ (xU_sub _ q113)) (fun _ h9 => h9) rfl dX5_readAll_45 ?_
        exact x_iret hx hb h (Option.some.inj hf) hr hlocks dX5_readAll_48
      · replace hf := xif_f hf c3
        refine lv_aload_n hx hb dX5_readAll_33 rfl (lv_at hl 0 rfl) ?_
        obtain ⟨r4, er4, hf⟩ := xbd_s hf
        refine x_Vi (As := []) (rest := []) E.1 (m_X5_takeParts l er4) (cwV 0 hts (xgV xU_sub q481 q482 q483 q25 q484) rfl rfl rfl hdX5_takeParts ⟨Nat.le_of_ble_eq_true rfl, Nat.le_of_ble_eq_true rfl⟩) h kX_text rfl rfl hl.1 rfl (Nat.le_of_ble_eq_true rfl) dX5_readAll_34 ⟨Nat.le_of_ble_eq_true rfl, Nat.le_of_ble_eq_true rfl⟩ (fun H locs h => ?_)
        refine lv_if_eq (tgt := 44) hx hb dX5_readAll_37 (by decide) (fun c5 => ?_) (fun c5 => ?_)
        · replace hf := xif_t hf c5
          refine lv_aload_n hx hb dX5_readAll_44 rfl (lv_at hl 0 rfl) ?_
          refine x_get (own := RX5) (ref := "TintDesk$FormulaText") (C := RX5) (T := TX5) (n := 5) (index := 19) (v := .int (r4.1.1 1473 2)) hx hb hts (fun w h => xU_sub w (inU5 w h)) hown h kX_text rfl 2 (by decide) (hts _ (xU_sub _ q113)) (fun _ h9 => h9) rfl dX5_readAll_45 ?_
          exact x_iret hx hb h (Option.some.inj hf) hr hlocks dX5_readAll_48
        · replace hf := xif_f hf c5
          refine lv_iconst (v := (-1)) hx hb dX5_readAll_40 (by decide) ?_
          refine lv_goto (tgt := 48) hx hb dX5_readAll_41 (by decide) ?_
          exact x_iret hx hb h (Option.some.inj hf) hr hlocks dX5_readAll_48
    · replace hf := xif_f hf c1
      refine lv_aload_n hx hb dX5_readAll_13 rfl (lv_at hl 0 rfl) ?_
      refine x_get (own := RX5) (ref := "TintDesk$FormulaText") (C := RX5) (T := TX5) (n := 5) (index := 25) (v := .ref (Γ.2.1 1475)) hx hb hts (fun w h => xU_sub w (inU5 w h)) hown h kX_text rfl 4 (by decide) (hts _ (xU_sub _ q115)) (fun _ h9 => h9) rfl dX5_readAll_14 ?_
      refine lv_iload_n hx hb dX5_readAll_17 rfl (lv_at hl 1 rfl) ?_
      refine lv_iconst (v := (-1)) hx hb dX5_readAll_18 (by decide) ?_
      obtain ⟨c6, hf⟩ := xck_s hf
      obtain ⟨M7, eM7, hf⟩ := xl_s hf
      refine x_iast hx hb h kX_text_amounts (xin_in c6) eM7 dX5_readAll_19 (fun H locs h => ?_)
      obtain ⟨y8, ey8, hf⟩ := xl_s hf
      refine lv_iinc (v := y8) (lv' := [(1, .int y8), (0, .ref (Γ.2.1 1473))]) hx hb dX5_readAll_20 hl (k := 1) rfl (by rw [ey8]; rfl) (by decide) rfl (fun ls hl => ?_)
      refine lv_goto (tgt := 7) hx hb dX5_readAll_23 (by decide) ?_
      exact ih y8 M7 hf _ _ _ h (lv_sub hl [1, 0] rfl)
set_option maxHeartbeats 4000000 in
set_option maxRecDepth 100000 in
theorem m_X5_readAll (l : Launch) {Γ : xG} {N : Nat} {M : xM} {res : xR} (hf : F_X5_readAll N M = some res) (sz : Nat) : Met l yX5_readAll (xWs yX5_readAll cX5_readAll 2 (some .int)) ({ frames := 5, cells := 0, slots := 0, locals := 127 } : Room) (va_Pc [.ref (Γ.2.1 1473)] (xPre Γ (wX Γ) M sz)) (xCi Γ (wX Γ) 1483 res sz) 0 0 (xAd Γ 1483 sz) := by
  refine x_met (Qc := fun sz => xCi Γ (wX Γ) 1483 res sz) pnX5 wG_W (Nat.le_of_ble_eq_true rfl) (fun p e s m args below meth c _ E h ls hl => ?_) sz
  obtain ⟨⟨hx, hb, hml, hown, hts⟩, hr, hlocks⟩ := id E
  have hl : lv_has ls 2 [(0, .ref (Γ.2.1 1473))] := hl
  refine lv_aload_n hx hb dX5_readAll_0 rfl (lv_at hl 0 rfl) ?_
  refine lv_iconst (v := 0) hx hb dX5_readAll_1 (by decide) ?_
  obtain ⟨M1, eM1, hf⟩ := xl_s hf
  refine x_put (own := RX5) (ref := "TintDesk$FormulaText") (C := RX5) (T := TX5) (n := 5) (index := 19) (ty := .int) hx hb hts (fun w h => xU_sub w (inU5 w h)) tyX5 tyX5_ok nmX5 hown h kX_text rfl 2 (by decide) (hts _ (xU_sub _ q113)) (fun _ h9 => h9) rfl (by decide +kernel) rfl rfl (Nat.le_of_ble_eq_true rfl) rfl eM1 dX5_readAll_2 (fun H locs h => ?_)
  refine lv_iconst (v := 0) hx hb dX5_readAll_5 (by decide) ?_
  refine lv_istore_n (lv' := [(1, .int 0), (0, .ref (Γ.2.1 1473))]) hx hb dX5_readAll_6 rfl hl (by decide) rfl (fun ls hl => ?_)
  exact w_X5_readAll_7 l E N 0 M1 hf _ _ _ h (lv_sub hl [1, 0] rfl)
