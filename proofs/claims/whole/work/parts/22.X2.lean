theorem hdX2_copyFrom : yX2_copyFrom.cls = RX2 ∧ yX2_copyFrom.cls ≠ "java/lang/invoke/MethodHandle" ∧ yX2_copyFrom.cls ≠ "java/lang/invoke/VarHandle" ∧ (parseMethodDescriptor yX2_copyFrom.desc).map (fun d => d.parameters.length) = some 1 := by decide +kernel
set_option maxHeartbeats 4000000 in
set_option maxRecDepth 100000 in
theorem m_X2_copyFrom (l : Launch) {Γ : xG} {N : Nat} {k0 : Nat} {k1 : Nat} (h0 : isCo k0) (h1 : isCo k1) {M : xM} {res : xR} (hf : F_X2_copyFrom N k0 k1 M = some res) (sz : Nat) : Met l yX2_copyFrom (xWs yX2_copyFrom cX2_copyFrom 2 none) ({ frames := 1, cells := 0, slots := 0, locals := 120 } : Room) (va_Pc [.ref (Γ.2.1 k0), .ref (Γ.2.1 k1)] (xPre Γ (wX Γ) M sz)) (xCv Γ (wX Γ) 1483 res sz) 0 0 (xAd Γ 1483 sz) := by
  refine x_met (Qc := fun sz => xCv Γ (wX Γ) 1483 res sz) pnX2 wG_W (Nat.le_of_ble_eq_true rfl) (fun p e s m args below meth c _ E h ls hl => ?_) sz
  obtain ⟨⟨hx, hb, hml, hown, hts⟩, hr, hlocks⟩ := id E
  have hl : lv_has ls 2 [(0, .ref (Γ.2.1 k0)), (1, .ref (Γ.2.1 k1))] := hl
  refine lv_aload_n hx hb dX2_copyFrom_0 rfl (lv_at hl 1 rfl) ?_
  refine x_get (own := RX2) (ref := "TintDesk$Colorant") (C := RX2) (T := TX2) (n := 10) (index := 9) (v := .ref (Γ.2.1 (k1 + 1))) hx hb hts (fun w h => xU_sub w (inU2 w h)) hown h (kX_colorant h1) rfl 0 (by decide) (hts _ (xU_sub _ q67)) (fun _ h9 => h9) rfl dX2_copyFrom_1 ?_
  refine lv_iconst (v := 0) hx hb dX2_copyFrom_4 (by decide) ?_
  refine lv_aload_n hx hb dX2_copyFrom_5 rfl (lv_at hl 0 rfl) ?_
  refine x_get (own := RX2) (ref := "TintDesk$Colorant") (C := RX2) (T := TX2) (n := 10) (index := 9) (v := .ref (Γ.2.1 (k0 + 1))) hx hb hts (fun w h => xU_sub w (inU2 w h)) hown h (kX_colorant h0) rfl 0 (by decide) (hts _ (xU_sub _ q67)) (fun _ h9 => h9) rfl dX2_copyFrom_6 ?_
  refine lv_iconst (v := 0) hx hb dX2_copyFrom_9 (by decide) ?_
  refine lv_iconst (v := 3) hx hb dX2_copyFrom_10 (by decide) ?_
  obtain ⟨M1, eM1, hf⟩ := xl_s hf
  refine x_copyi hx hb (hml.trans hl.1.symm) hown (hts _ (xU_sub _ q176)) (hts _ (xU_sub _ q177)) (hts _ (xU_sub _ q178)) (hts _ (xU_sub _ q179)) h (kX_colorant_values h1) (kX_colorant_values h0) (by decide) (by decide) (by decide) (by decide) (by decide) (Nat.le_of_ble_eq_true rfl) (by decide +kernel) eM1 dX2_copyFrom_11 (fun H locs h => ?_)
  refine lv_aload_n hx hb dX2_copyFrom_14 rfl (lv_at hl 0 rfl) ?_
  refine lv_aload_n hx hb dX2_copyFrom_15 rfl (lv_at hl 1 rfl) ?_
  refine x_get (own := RX2) (ref := "TintDesk$Colorant") (C := RX2) (T := TX2) (n := 10) (index := 15) (v := .int (M1.1 k1 1)) hx hb hts (fun w h => xU_sub w (inU2 w h)) hown h (kX_colorant h1) rfl 1 (by decide) (hts _ (xU_sub _ q68)) (fun _ h9 => h9) rfl dX2_copyFrom_16 ?_
  obtain ⟨M2, eM2, hf⟩ := xl_s hf
  refine x_put (own := RX2) (ref := "TintDesk$Colorant") (C := RX2) (T := TX2) (n := 10) (index := 15) (ty := .int) hx hb hts (fun w h => xU_sub w (inU2 w h)) tyX2 tyX2_ok nmX2 hown h (kX_colorant h0) rfl 1 (by decide) (hts _ (xU_sub _ q68)) (fun _ h9 => h9) rfl (by decide +kernel) rfl rfl (Nat.le_of_ble_eq_true rfl) rfl eM2 dX2_copyFrom_19 (fun H locs h => ?_)
  refine lv_aload_n hx hb dX2_copyFrom_22 rfl (lv_at hl 0 rfl) ?_
  refine lv_aload_n hx hb dX2_copyFrom_23 rfl (lv_at hl 1 rfl) ?_
  refine x_get (own := RX2) (ref := "TintDesk$Colorant") (C := RX2) (T := TX2) (n := 10) (index := 19) (v := .int (M2.1 k1 2)) hx hb hts (fun w h => xU_sub w (inU2 w h)) hown h (kX_colorant h1) rfl 2 (by decide) (hts _ (xU_sub _ q69)) (fun _ h9 => h9) rfl dX2_copyFrom_24 ?_
  obtain ⟨M3, eM3, hf⟩ := xl_s hf
  refine x_put (own := RX2) (ref := "TintDesk$Colorant") (C := RX2) (T := TX2) (n := 10) (index := 19) (ty := .int) hx hb hts (fun w h => xU_sub w (inU2 w h)) tyX2 tyX2_ok nmX2 hown h (kX_colorant h0) rfl 2 (by decide) (hts _ (xU_sub _ q69)) (fun _ h9 => h9) rfl (by decide +kernel) rfl rfl (Nat.le_of_ble_eq_true rfl) rfl eM3 dX2_copyFrom_27 (fun H locs h => ?_)
  refine lv_aload_n hx hb dX2_copyFrom_30 rfl (lv_at hl 0 rfl) ?_
  refine lv_aload_n hx hb dX2_copyFrom_31 rfl (lv_at hl 1 rfl) ?_
  refine x_get (own := RX2) (ref := "TintDesk$Colorant") (C := RX2) (T := TX2) (n := 10) (index := 22) (v := .int (M3.1 k1 3)) hx hb hts (fun w h => xU_sub w (inU2 w h)) hown h (kX_colorant h1) rfl 3 (by decide) (hts _ (xU_sub _ q70)) (fun _ h9 => h9) rfl dX2_copyFrom_32 ?_
  obtain ⟨M4, eM4, hf⟩ := xl_s hf
  refine x_put (own := RX2) (ref := "TintDesk$Colorant") (C := RX2) (T := TX2) (n := 10) (index := 22) (ty := .int) hx hb hts (fun w h => xU_sub w (inU2 w h)) tyX2 tyX2_ok nmX2 hown h (kX_colorant h0) rfl 3 (by decide) (hts _ (xU_sub _ q70)) (fun _ h9 => h9) rfl (by decide +kernel) rfl rfl (Nat.le_of_ble_eq_true rfl) rfl eM4 dX2_copyFrom_35 (fun H locs h => ?_)
  refine lv_aload_n hx hb dX2_copyFrom_38 rfl (lv_at hl 0 rfl) ?_
  refine lv_aload_n hx hb dX2_copyFrom_39 rfl (lv_at hl 1 rfl) ?_
  refine x_get (own := RX2) (ref := "TintDesk$Colorant") (C := RX2) (T := TX2) (n := 10) (index := 25) (v := .int (M4.1 k1 4)) hx hb hts (fun w h => xU_sub w (inU2 w h)) hown h (kX_colorant h1) rfl 4 (by decide) (hts _ (xU_sub _ q71)) (fun _ h9 => h9) rfl dX2_copyFrom_40 ?_
  obtain ⟨M5, eM5, hf⟩ := xl_s hf
  refine x_put (own := RX2) (ref := "TintDesk$Colorant") (C := RX2) (T := TX2) (n := 10) (index := 25) (ty := .int) hx hb hts (fun w h => xU_sub w (inU2 w h)) tyX2 tyX2_ok nmX2 hown h (kX_colorant h0) rfl 4 (by decide) (hts _ (xU_sub _ q71)) (fun _ h9 => h9) rfl (by decide +kernel) rfl rfl (Nat.le_of_ble_eq_true rfl) rfl eM5 dX2_copyFrom_43 (fun H locs h => ?_)
  refine lv_aload_n hx hb dX2_copyFrom_46 rfl (lv_at hl 0 rfl) ?_
  refine lv_aload_n hx hb dX2_copyFrom_47 rfl (lv_at hl 1 rfl) ?_
  refine x_get (own := RX2) (ref := "TintDesk$Colorant") (C := RX2) (T := TX2) (n := 10) (index := 28) (v := .int (M5.1 k1 5)) hx hb hts (fun w h => xU_sub w (inU2 w h)) hown h (kX_colorant h1) rfl 5 (by decide) (hts _ (xU_sub _ q72)) (fun _ h9 => h9) rfl dX2_copyFrom_48 ?_
  obtain ⟨M6, eM6, hf⟩ := xl_s hf
  refine x_put (own := RX2) (ref := "TintDesk$Colorant") (C := RX2) (T := TX2) (n := 10) (index := 28) (ty := .int) hx hb hts (fun w h => xU_sub w (inU2 w h)) tyX2 tyX2_ok nmX2 hown h (kX_colorant h0) rfl 5 (by decide) (hts _ (xU_sub _ q72)) (fun _ h9 => h9) rfl (by decide +kernel) rfl rfl (Nat.le_of_ble_eq_true rfl) rfl eM6 dX2_copyFrom_51 (fun H locs h => ?_)
  refine lv_aload_n hx hb dX2_copyFrom_54 rfl (lv_at hl 0 rfl) ?_
  refine lv_aload_n hx hb dX2_copyFrom_55 rfl (lv_at hl 1 rfl) ?_
  refine x_get (own := RX2) (ref := "TintDesk$Colorant") (C := RX2) (T := TX2) (n := 10) (index := 31) (v := .int (M6.1 k1 6)) hx hb hts (fun w h => xU_sub w (inU2 w h)) hown h (kX_colorant h1) rfl 6 (by decide) (hts _ (xU_sub _ q73)) (fun _ h9 => h9) rfl dX2_copyFrom_56 ?_
  obtain ⟨M7, eM7, hf⟩ := xl_s hf
  refine x_put (own := RX2) (ref := "TintDesk$Colorant") (C := RX2) (T := TX2) (n := 10) (index := 31) (ty := .int) hx hb hts (fun w h => xU_sub w (inU2 w h)) tyX2 tyX2_ok nmX2 hown h (kX_colorant h0) rfl 6 (by decide) (hts _ (xU_sub _ q73)) (fun _ h9 => h9) rfl (by decide +kernel) rfl rfl (Nat.le_of_ble_eq_true rfl) rfl eM7 dX2_copyFrom_59 (fun H locs h => ?_)
  refine lv_aload_n hx hb dX2_copyFrom_62 rfl (lv_at hl 1 rfl) ?_
  refine x_get (own := RX2) (ref := "TintDesk$Colorant") (C := RX2) (T := TX2) (n := 10) (index := 34) (v := .ref (Γ.2.1 (k1 + 2))) hx hb hts (fun w h => xU_sub w (inU2 w h)) hown h (kX_colorant h1) rfl 7 (by decide) (hts _ (xU_sub _ q74)) (fun _ h9 => h9) rfl dX2_copyFrom_63 ?_
  refine lv_iconst (v := 0) hx hb dX2_copyFrom_66 (by decide) ?_
  refine lv_aload_n hx hb dX2_copyFrom_67 rfl (lv_at hl 0 rfl) ?_
  refine x_get (own := RX2) (ref := "TintDesk$Colorant") (C := RX2) (T := TX2) (n := 10) (index := 34) (v := .ref (Γ.2.1 (k0 + 2))) hx hb hts (fun w h => xU_sub w (inU2 w h)) hown h (kX_colorant h0) rfl 7 (by decide) (hts _ (xU_sub _ q74)) (fun _ h9 => h9) rfl dX2_copyFrom_68 ?_
  refine lv_iconst (v := 0) hx hb dX2_copyFrom_71 (by decide) ?_
  refine lv_bipush (v := 12) hx hb dX2_copyFrom_72 (by decide) ?_
  obtain ⟨M8, eM8, hf⟩ := xl_s hf
  refine x_copyi hx hb (hml.trans hl.1.symm) hown (hts _ (xU_sub _ q176)) (hts _ (xU_sub _ q177)) (hts _ (xU_sub _ q178)) (hts _ (xU_sub _ q179)) h (kX_colorant_lotNumbers h1) (kX_colorant_lotNumbers h0) (by decide) (by decide) (by decide) (by decide) (by decide) (Nat.le_of_ble_eq_true rfl) (by decide +kernel) eM8 dX2_copyFrom_74 (fun H locs h => ?_)
  refine lv_aload_n hx hb dX2_copyFrom_77 rfl (lv_at hl 1 rfl) ?_
  refine x_get (own := RX2) (ref := "TintDesk$Colorant") (C := RX2) (T := TX2) (n := 10) (index := 37) (v := .ref (Γ.2.1 (k1 + 3))) hx hb hts (fun w h => xU_sub w (inU2 w h)) hown h (kX_colorant h1) rfl 8 (by decide) (hts _ (xU_sub _ q75)) (fun _ h9 => h9) rfl dX2_copyFrom_78 ?_
  refine lv_iconst (v := 0) hx hb dX2_copyFrom_81 (by decide) ?_
  refine lv_aload_n hx hb dX2_copyFrom_82 rfl (lv_at hl 0 rfl) ?_
  refine x_get (own := RX2) (ref := "TintDesk$Colorant") (C := RX2) (T := TX2) (n := 10) (index := 37) (v := .ref (Γ.2.1 (k0 + 3))) hx hb hts (fun w h => xU_sub w (inU2 w h)) hown h (kX_colorant h0) rfl 8 (by decide) (hts _ (xU_sub _ q75)) (fun _ h9 => h9) rfl dX2_copyFrom_83 ?_
  refine lv_iconst (v := 0) hx hb dX2_copyFrom_86 (by decide) ?_
  refine lv_bipush (v := 12) hx hb dX2_copyFrom_87 (by decide) ?_
  obtain ⟨M9, eM9, hf⟩ := xl_s hf
  refine x_copyi hx hb (hml.trans hl.1.symm) hown (hts _ (xU_sub _ q176)) (hts _ (xU_sub _ q177)) (hts _ (xU_sub _ q178)) (hts _ (xU_sub _ q179)) h (kX_colorant_lotSteps h1) (kX_colorant_lotSteps h0) (by decide) (by decide) (by decide) (by decide) (by decide) (Nat.le_of_ble_eq_true rfl) (by decide +kernel) eM9 dX2_copyFrom_89 (fun H locs h => ?_)
  refine lv_aload_n hx hb dX2_copyFrom_92 rfl (lv_at hl 1 rfl) ?_
  refine x_get (own := RX2) (ref := "TintDesk$Colorant") (C := RX2) (T := TX2) (n := 10) (index := 40) (v := .ref (Γ.2.1 (k1 + 4))) hx hb hts (fun w h => xU_sub w (inU2 w h)) hown h (kX_colorant h1) rfl 9 (by decide) (hts _ (xU_sub _ q76)) (fun _ h9 => h9) rfl dX2_copyFrom_93 ?_
  refine lv_iconst (v := 0) hx hb dX2_copyFrom_96 (by decide) ?_
  refine lv_aload_n hx hb dX2_copyFrom_97 rfl (lv_at hl 0 rfl) ?_
  refine x_get (own := RX2) (ref := "TintDesk$Colorant") (C := RX2) (T := TX2) (n := 10) (index := 40) (v := .ref (Γ.2.1 (k0 + 4))) hx hb hts (fun w h => xU_sub w (inU2 w h)) hown h (kX_colorant h0) rfl 9 (by decide) (hts _ (xU_sub _ q76)) (fun _ h9 => h9) rfl dX2_copyFrom_98 ?_
  refine lv_iconst (v := 0) hx hb dX2_copyFrom_101 (by decide) ?_
  refine lv_bipush (v := 12) hx hb dX2_copyFrom_102 (by decide) ?_
  obtain ⟨M10, eM10, hf⟩ := xl_s hf
  refine x_copyi hx hb (hml.trans hl.1.symm) hown (hts _ (xU_sub _ q176)) (hts _ (xU_sub _ q177)) (hts _ (xU_sub _ q178)) (hts _ (xU_sub _ q179)) h (kX_colorant_lotLastDays h1) (kX_colorant_lotLastDays h0) (by decide) (by decide) (by decide) (by decide) (by decide) (Nat.le_of_ble_eq_true rfl) (by decide +kernel) eM10 dX2_copyFrom_104 (fun H locs h => ?_)
  exact x_vret hx hb h (Option.some.inj hf) hr hlocks dX2_copyFrom_107
theorem hdX2_stepsInside : yX2_stepsInside.cls = RX2 ∧ yX2_stepsInside.cls ≠ "java/lang/invoke/MethodHandle" ∧ yX2_stepsInside.cls ≠ "java/lang/invoke/VarHandle" ∧ (parseMethodDescriptor yX2_stepsInside.desc).map (fun d => d.parameters.length) = some 0 := by decide +kernel
set_option maxHeartbeats 4000000 in
set_option maxRecDepth 100000 in
theorem w_X2_stepsInside_4 (l : Launch) {p : Program} {e : Env} {s : State} {m : MethodId} {args : Array Value} {below : List Frame} {meth : Method} {c : Code} {Γ : xG} {N : Nat} {k0 : Nat} {res : xR} (E : xEv p s m args meth c RX2 cX2_stepsInside 3 (some .int) (xWs yX2_stepsInside cX2_stepsInside 3 (some .int))) (h0 : isCo k0) : ∀ (n : Nat) (v1 : Int32) (v2 : Int32) (M : xM), L_X2_stepsInside_4 N k0 n v1 v2 M = some res → ∀ (H : Heap) (locs : List Loc) (ls : Array Slot), xH Γ (wX Γ) 1483 s M H locs → lv_has ls 3 [(0, .ref (Γ.2.1 k0)), (1, .int v1), (2, .int v2)] → W p l e ({ frames := 1, cells := 0, slots := 0, locals := 40 } : Room) s m args below meth c H locs 0 0 (MQ below (xCi Γ (wX Γ) 1483 res s.heap.size) args s 0 0 (xAd Γ 1483 s.heap.size)) (F0 m 4 ls []) := by
  obtain ⟨⟨hx, hb, hml, hown, hts⟩, hr, hlocks⟩ := id E
  intro n
  induction n with
  | zero => intro v1 v2 M hf; cases hf
  | succ n ih =>
    intro v1 v2 M hf H locs ls h hl
    refine lv_iload_n hx hb dX2_stepsInside_4 rfl (lv_at hl 2 rfl) ?_
    refine lv_aload_n hx hb dX2_stepsInside_5 rfl (lv_at hl 0 rfl) ?_
    refine x_get (own := RX2) (ref := "TintDesk$Colorant") (C := RX2) (T := TX2) (n := 10) (index := 31) (v := .int (M.1 k0 6)) hx hb hts (fun w h => xU_sub w (inU2 w h)) hown h (kX_colorant h0) rfl 6 (by decide) (hts _ (xU_sub _ q73)) (fun _ h9 => h9) rfl dX2_stepsInside_6 ?_
    refine lv_icmp_ge (tgt := 27) hx hb dX2_stepsInside_9 (by decide) (fun c1 => ?_) (fun c1 => ?_)
    · replace hf := xif_t hf c1
      refine lv_iload_n hx hb dX2_stepsInside_27 rfl (lv_at hl 1 rfl) ?_
      exact x_iret hx hb h (Option.some.inj hf) hr hlocks dX2_stepsInside_28
    · replace hf := xif_f hf c1
      refine lv_iload_n hx hb dX2_stepsInside_12 rfl (lv_at hl 1 rfl) ?_
      refine lv_aload_n hx hb dX2_stepsInside_13 rfl (lv_at hl 0 rfl) ?_
      refine x_get (own := RX2) (ref := "TintDesk$Colorant") (C := RX2) (T := TX2) (n := 10) (index := 37) (v := .ref (Γ.2.1 (k0 + 3))) hx hb hts (fun w h => xU_sub w (inU2 w h)) hown h (kX_colorant h0) rfl 8 (by decide) (hts _ (xU_sub _ q75)) (fun _ h9 => h9) rfl dX2_stepsInside_14 ?_
      refine lv_iload_n hx hb dX2_stepsInside_17 rfl (lv_at hl 2 rfl) ?_
      obtain ⟨c2, hf⟩ := xck_s hf
      refine x_iald hx hb h (kX_colorant_lotSteps h0) (xin_in c2) dX2_stepsInside_18 ?_
      refine lv_iadd hx hb dX2_stepsInside_19 ?_
      obtain ⟨y3, ey3, hf⟩ := xl_s hf
      refine x_nm ey3 ?_
      refine lv_istore_n (lv' := [(1, .int y3), (0, .ref (Γ.2.1 k0)), (2, .int v2)]) hx hb dX2_stepsInside_20 rfl hl (by decide) rfl (fun ls hl => ?_)
      obtain ⟨y4, ey4, hf⟩ := xl_s hf
      refine lv_iinc (v := y4) (lv' := [(2, .int y4), (1, .int y3), (0, .ref (Γ.2.1 k0))]) hx hb dX2_stepsInside_21 hl (k := 2) rfl (by rw [ey4]; rfl) (by decide) rfl (fun ls hl => ?_)
      refine lv_goto (tgt := 4) hx hb dX2_stepsInside_24 (by decide) ?_
      exact ih y3 y4 M hf _ _ _ h (lv_sub hl [2, 1, 0] rfl)
set_option maxHeartbeats 4000000 in
set_option maxRecDepth 100000 in
theorem m_X2_stepsInside (l : Launch) {Γ : xG} {N : Nat} {k0 : Nat} (h0 : isCo k0) {M : xM} {res : xR} (hf : F_X2_stepsInside N k0 M = some res) (sz : Nat) : Met l yX2_stepsInside (xWs yX2_stepsInside cX2_stepsInside 3 (some .int)) ({ frames := 1, cells := 0, slots := 0, locals := 40 } : Room) (va_Pc [.ref (Γ.2.1 k0)] (xPre Γ (wX Γ) M sz)) (xCi Γ (wX Γ) 1483 res sz) 0 0 (xAd Γ 1483 sz) := by
  refine x_met (Qc := fun sz => xCi Γ (wX Γ) 1483 res sz) pnX2 wG_W (Nat.le_of_ble_eq_true rfl) (fun p e s m args below meth c _ E h ls hl => ?_) sz
  obtain ⟨⟨hx, hb, hml, hown, hts⟩, hr, hlocks⟩ := id E
  have hl : lv_has ls 3 [(0, .ref (Γ.2.1 k0))] := hl
  refine lv_iconst (v := 0) hx hb dX2_stepsInside_0 (by decide) ?_
  refine lv_istore_n (lv' := [(1, .int 0), (0, .ref (Γ.2.1 k0))]) hx hb dX2_stepsInside_1 rfl hl (by decide) rfl (fun ls hl => ?_)
  refine lv_iconst (v := 0) hx hb dX2_stepsInside_2 (by decide) ?_
  refine lv_istore_n (lv' := [(2, .int 0), (1, .int 0), (0, .ref (Γ.2.1 k0))]) hx hb dX2_stepsInside_3 rfl hl (by decide) rfl (fun ls hl => ?_)
  exact w_X2_stepsInside_4 l E h0 N 0 0 M hf _ _ _ h (lv_sub hl [2, 1, 0] rfl)
theorem hdX2_putLot : yX2_putLot.cls = RX2 ∧ yX2_putLot.cls ≠ "java/lang/invoke/MethodHandle" ∧ yX2_putLot.cls ≠ "java/lang/invoke/VarHandle" ∧ (parseMethodDescriptor yX2_putLot.desc).map (fun d => d.parameters.length) = some 3 := by decide +kernel
set_option maxHeartbeats 4000000 in
set_option maxRecDepth 100000 in
theorem m_X2_putLot (l : Launch) {Γ : xG} {N : Nat} {k0 : Nat} (h0 : isCo k0) {v1 : Int32} {v2 : Int32} {v3 : Int32} {M : xM} {res : xR} (hf : F_X2_putLot N k0 v1 v2 v3 M = some res) (sz : Nat) : Met l yX2_putLot (xWs yX2_putLot cX2_putLot 4 none) ({ frames := 1, cells := 0, slots := 0, locals := 40 } : Room) (va_Pc [.ref (Γ.2.1 k0), .int v1, .int v2, .int v3] (xPre Γ (wX Γ) M sz)) (xCv Γ (wX Γ) 1483 res sz) 0 0 (xAd Γ 1483 sz) := by
  refine x_met (Qc := fun sz => xCv Γ (wX Γ) 1483 res sz) pnX2 wG_W (Nat.le_of_ble_eq_true rfl) (fun p e s m args below meth c _ E h ls hl => ?_) sz
  obtain ⟨⟨hx, hb, hml, hown, hts⟩, hr, hlocks⟩ := id E
  have hl : lv_has ls 4 [(0, .ref (Γ.2.1 k0)), (1, .int v1), (2, .int v2), (3, .int v3)] := hl
  refine lv_aload_n hx hb dX2_putLot_0 rfl (lv_at hl 0 rfl) ?_
  refine x_get (own := RX2) (ref := "TintDesk$Colorant") (C := RX2) (T := TX2) (n := 10) (index := 31) (v := .int (M.1 k0 6)) hx hb hts (fun w h => xU_sub w (inU2 w h)) hown h (kX_colorant h0) rfl 6 (by decide) (hts _ (xU_sub _ q73)) (fun _ h9 => h9) rfl dX2_putLot_1 ?_
  refine lv_bipush (v := 12) hx hb dX2_putLot_4 (by decide) ?_
  refine lv_icmp_lt (tgt := 10) hx hb dX2_putLot_6 (by decide) (fun c1 => ?_) (fun c1 => ?_)
  · replace hf := xif_t hf c1
    refine lv_aload_n hx hb dX2_putLot_10 rfl (lv_at hl 0 rfl) ?_
    refine x_get (own := RX2) (ref := "TintDesk$Colorant") (C := RX2) (T := TX2) (n := 10) (index := 34) (v := .ref (Γ.2.1 (k0 + 2))) hx hb hts (fun w h => xU_sub w (inU2 w h)) hown h (kX_colorant h0) rfl 7 (by decide) (hts _ (xU_sub _ q74)) (fun _ h9 => h9) rfl dX2_putLot_11 ?_
    refine lv_aload_n hx hb dX2_putLot_14 rfl (lv_at hl 0 rfl) ?_
    refine x_get (own := RX2) (ref := "TintDesk$Colorant") (C := RX2) (T := TX2) (n := 10) (index := 31) (v := .int (M.1 k0 6)) hx hb hts (fun w h => xU_sub w (inU2 w h)) hown h (kX_colorant h0) rfl 6 (by decide) (hts _ (xU_sub _ q73)) (fun _ h9 => h9) rfl dX2_putLot_15 ?_
    refine lv_iload_n hx hb dX2_putLot_18 rfl (lv_at hl 1 rfl) ?_
    obtain ⟨c2, hf⟩ := xck_s hf
    obtain ⟨M3, eM3, hf⟩ := xl_s hf
    refine x_iast hx hb h (kX_colorant_lotNumbers h0) (xin_in c2) eM3 dX2_putLot_19 (fun H locs h => ?_)
    refine lv_aload_n hx hb dX2_putLot_20 rfl (lv_at hl 0 rfl) ?_
    refine x_get (own := RX2) (ref := "TintDesk$Colorant") (C := RX2) (T := TX2) (n := 10) (index := 37) (v := .ref (Γ.2.1 (k0 + 3))) hx hb hts (fun w h => xU_sub w (inU2 w h)) hown h (kX_colorant h0) rfl 8 (by decide) (hts _ (xU_sub _ q75)) (fun _ h9 => h9) rfl dX2_putLot_21 ?_
    refine lv_aload_n hx hb dX2_putLot_24 rfl (lv_at hl 0 rfl) ?_
    refine x_get (own := RX2) (ref := "TintDesk$Colorant") (C := RX2) (T := TX2) (n := 10) (index := 31) (v := .int (M3.1 k0 6)) hx hb hts (fun w h => xU_sub w (inU2 w h)) hown h (kX_colorant h0) rfl 6 (by decide) (hts _ (xU_sub _ q73)) (fun _ h9 => h9) rfl dX2_putLot_25 ?_
    refine lv_iload_n hx hb dX2_putLot_28 rfl (lv_at hl 2 rfl) ?_
    obtain ⟨c4, hf⟩ := xck_s hf
    obtain ⟨M5, eM5, hf⟩ := xl_s hf
    refine x_iast hx hb h (kX_colorant_lotSteps h0) (xin_in c4) eM5 dX2_putLot_29 (fun H locs h => ?_)
    refine lv_aload_n hx hb dX2_putLot_30 rfl (lv_at hl 0 rfl) ?_
    refine x_get (own := RX2) (ref := "TintDesk$Colorant") (C := RX2) (T := TX2) (n := 10) (index := 40) (v := .ref (Γ.2.1 (k0 + 4))) hx hb hts (fun w h => xU_sub w (inU2 w h)) hown h (kX_colorant h0) rfl 9 (by decide) (hts _ (xU_sub _ q76)) (fun _ h9 => h9) rfl dX2_putLot_31 ?_
    refine lv_aload_n hx hb dX2_putLot_34 rfl (lv_at hl 0 rfl) ?_
    refine x_get (own := RX2) (ref := "TintDesk$Colorant") (C := RX2) (T := TX2) (n := 10) (index := 31) (v := .int (M5.1 k0 6)) hx hb hts (fun w h => xU_sub w (inU2 w h)) hown h (kX_colorant h0) rfl 6 (by decide) (hts _ (xU_sub _ q73)) (fun _ h9 => h9) rfl dX2_putLot_35 ?_
    refine lv_iload_n hx hb dX2_putLot_38 rfl (lv_at hl 3 rfl) ?_
    refine lv_aload_n hx hb dX2_putLot_39 rfl (lv_at hl 0 rfl) ?_
    refine x_get (own := RX2) (ref := "TintDesk$Colorant") (C := RX2) (T := TX2) (n := 10) (index := 15) (v := .int (M5.1 k0 1)) hx hb hts (fun w h => xU_sub w (inU2 w h)) hown h (kX_colorant h0) rfl 1 (by decide) (hts _ (xU_sub _ q68)) (fun _ h9 => h9) rfl dX2_putLot_40 ?_
    refine lv_iadd hx hb dX2_putLot_43 ?_
    obtain ⟨c6, hf⟩ := xck_s hf
    obtain ⟨M7, eM7, hf⟩ := xl_s hf
    refine x_iast hx hb h (kX_colorant_lotLastDays h0) (xin_in c6) eM7 dX2_putLot_44 (fun H locs h => ?_)
    refine lv_aload_n hx hb dX2_putLot_45 rfl (lv_at hl 0 rfl) ?_
    refine lv_dup hx hb dX2_putLot_46 rfl ?_
    refine x_get (own := RX2) (ref := "TintDesk$Colorant") (C := RX2) (T := TX2) (n := 10) (index := 31) (v := .int (M7.1 k0 6)) hx hb hts (fun w h => xU_sub w (inU2 w h)) hown h (kX_colorant h0) rfl 6 (by decide) (hts _ (xU_sub _ q73)) (fun _ h9 => h9) rfl dX2_putLot_47 ?_
    refine lv_iconst (v := 1) hx hb dX2_putLot_50 (by decide) ?_
    refine lv_iadd hx hb dX2_putLot_51 ?_
    obtain ⟨M8, eM8, hf⟩ := xl_s hf
    refine x_put (own := RX2) (ref := "TintDesk$Colorant") (C := RX2) (T := TX2) (n := 10) (index := 31) (ty := .int) hx hb hts (fun w h => xU_sub w (inU2 w h)) tyX2 tyX2_ok nmX2 hown h (kX_colorant h0) rfl 6 (by decide) (hts _ (xU_sub _ q73)) (fun _ h9 => h9) rfl (by decide +kernel) rfl rfl (Nat.le_of_ble_eq_true rfl) rfl eM8 dX2_putLot_52 (fun H locs h => ?_)
    refine lv_aload_n hx hb dX2_putLot_55 rfl (lv_at hl 0 rfl) ?_
    refine lv_dup hx hb dX2_putLot_56 rfl ?_
    refine x_get (own := RX2) (ref := "TintDesk$Colorant") (C := RX2) (T := TX2) (n := 10) (index := 19) (v := .int (M8.1 k0 2)) hx hb hts (fun w h => xU_sub w (inU2 w h)) hown h (kX_colorant h0) rfl 2 (by decide) (hts _ (xU_sub _ q69)) (fun _ h9 => h9) rfl dX2_putLot_57 ?_
    refine lv_iload_n hx hb dX2_putLot_60 rfl (lv_at hl 2 rfl) ?_
    refine lv_iadd hx hb dX2_putLot_61 ?_
    obtain ⟨M9, eM9, hf⟩ := xl_s hf
    refine x_put (own := RX2) (ref := "TintDesk$Colorant") (C := RX2) (T := TX2) (n := 10) (index := 19) (ty := .int) hx hb hts (fun w h => xU_sub w (inU2 w h)) tyX2 tyX2_ok nmX2 hown h (kX_colorant h0) rfl 2 (by decide) (hts _ (xU_sub _ q69)) (fun _ h9 => h9) rfl (by decide +kernel) rfl rfl (Nat.le_of_ble_eq_true rfl) rfl eM9 dX2_putLot_62 (fun H locs h => ?_)
    exact x_vret hx hb h (Option.some.inj hf) hr hlocks dX2_putLot_65
  · replace hf := xif_f hf c1
    exact x_vret hx hb h (Option.some.inj hf) hr hlocks dX2_putLot_9
theorem hdX2_dropLot : yX2_dropLot.cls = RX2 ∧ yX2_dropLot.cls ≠ "java/lang/invoke/MethodHandle" ∧ yX2_dropLot.cls ≠ "java/lang/invoke/VarHandle" ∧ (parseMethodDescriptor yX2_dropLot.desc).map (fun d => d.parameters.length) = some 1 := by decide +kernel
set_option maxHeartbeats 4000000 in
set_option maxRecDepth 100000 in
theorem w_X2_dropLot_2 (l : Launch) {p : Program} {e : Env} {s : State} {m : MethodId} {args : Array Value} {below : List Frame} {meth : Method} {c : Code} {Γ : xG} {N : Nat} {k0 : Nat} {res : xR} (E : xEv p s m args meth c RX2 cX2_dropLot 3 none (xWs yX2_dropLot cX2_dropLot 3 none)) (h0 : isCo k0) : ∀ (n : Nat) (v2 : Int32) (M : xM), L_X2_dropLot_2 N k0 n v2 M = some res → ∀ (H : Heap) (locs : List Loc) (ls : Array Slot), xH Γ (wX Γ) 1483 s M H locs → lv_has ls 3 [(0, .ref (Γ.2.1 k0)), (2, .int v2)] → W p l e ({ frames := 1, cells := 0, slots := 0, locals := 40 } : Room) s m args below meth c H locs 0 0 (MQ below (xCv Γ (wX Γ) 1483 res s.heap.size) args s 0 0 (xAd Γ 1483 s.heap.size)) (F0 m 2 ls []) := by
  obtain ⟨⟨hx, hb, hml, hown, hts⟩, hr, hlocks⟩ := id E
  intro n
  induction n with
  | zero => intro v2 M hf; cases hf
  | succ n ih =>
    intro v2 M hf H locs ls h hl
    refine lv_iload_n hx hb dX2_dropLot_2 rfl (lv_at hl 1 rfl) ?_
    refine lv_aload_n hx hb dX2_dropLot_3 rfl (lv_at hl 0 rfl) ?_
    refine x_get (own := RX2) (ref := "TintDesk$Colorant") (C := RX2) (T := TX2) (n := 10) (index := 31) (v := .int (M.1 k0 6)) hx hb hts (fun w h => xU_sub w (inU2 w h)) hown h (kX_colorant h0) rfl 6 (by decide) (hts _ (xU_sub _ q73)) (fun _ h9 => h9) rfl dX2_dropLot_4 ?_
    refine lv_iconst (v := 1) hx hb dX2_dropLot_7 (by decide) ?_
    refine lv_isub hx hb dX2_dropLot_8 ?_
    refine lv_icmp_ge (tgt := 60) hx hb dX2_dropLot_9 (by decide) (fun c1 => ?_) (fun c1 => ?_)
    · replace hf := xif_t hf c1
      refine lv_aload_n hx hb dX2_dropLot_60 rfl (lv_at hl 0 rfl) ?_
      refine lv_dup hx hb dX2_dropLot_61 rfl ?_
      refine x_get (own := RX2) (ref := "TintDesk$Colorant") (C := RX2) (T := TX2) (n := 10) (index := 31) (v := .int (M.1 k0 6)) hx hb hts (fun w h => xU_sub w (inU2 w h)) hown h (kX_colorant h0) rfl 6 (by decide) (hts _ (xU_sub _ q73)) (fun _ h9 => h9) rfl dX2_dropLot_62 ?_
      refine lv_iconst (v := 1) hx hb dX2_dropLot_65 (by decide) ?_
      refine lv_isub hx hb dX2_dropLot_66 ?_
      obtain ⟨M2, eM2, hf⟩ := xl_s hf
      refine x_put (own := RX2) (ref := "TintDesk$Colorant") (C := RX2) (T := TX2) (n := 10) (index := 31) (ty := .int) hx hb hts (fun w h => xU_sub w (inU2 w h)) tyX2 tyX2_ok nmX2 hown h (kX_colorant h0) rfl 6 (by decide) (hts _ (xU_sub _ q73)) (fun _ h9 => h9) rfl (by decide +kernel) rfl rfl (Nat.le_of_ble_eq_true rfl) rfl eM2 dX2_dropLot_67 (fun H locs h => ?_)
      exact x_vret hx hb h (Option.some.inj hf) hr hlocks dX2_dropLot_70
    · replace hf := xif_f hf c1
      refine lv_aload_n hx hb dX2_dropLot_12 rfl (lv_at hl 0 rfl) ?_
      refine x_get (own := RX2) (ref := "TintDesk$Colorant") (C := RX2) (T := TX2) (n := 10) (index := 34) (v := .ref (Γ.2.1 (k0 + 2))) hx hb hts (fun w h => xU_sub w (inU2 w h)) hown h (kX_colorant h0) rfl 7 (by decide) (hts _ (xU_sub _ q74)) (fun _ h9 => h9) rfl dX2_dropLot_13 ?_
      refine lv_iload_n hx hb dX2_dropLot_16 rfl (lv_at hl 1 rfl) ?_
      refine lv_aload_n hx hb dX2_dropLot_17 rfl (lv_at hl 0 rfl) ?_
      refine x_get (own := RX2) (ref := "TintDesk$Colorant") (C := RX2) (T := TX2) (n := 10) (index := 34) (v := .ref (Γ.2.1 (k0 + 2))) hx hb hts (fun w h => xU_sub w (inU2 w h)) hown h (kX_colorant h0) rfl 7 (by decide) (hts _ (xU_sub _ q74)) (fun _ h9 => h9) rfl dX2_dropLot_18 ?_
      refine lv_iload_n hx hb dX2_dropLot_21 rfl (lv_at hl 1 rfl) ?_
      refine lv_iconst (v := 1) hx hb dX2_dropLot_22 (by decide) ?_
      refine lv_iadd hx hb dX2_dropLot_23 ?_
      obtain ⟨c3, hf⟩ := xck_s hf
      refine x_iald hx hb h (kX_colorant_lotNumbers h0) (xin_in c3) dX2_dropLot_24 ?_
      obtain ⟨c4, hf⟩ := xck_s hf
      obtain ⟨M5, eM5, hf⟩ := xl_s hf
      refine x_iast hx hb h (kX_colorant_lotNumbers h0) (xin_in c4) eM5 dX2_dropLot_25 (fun H locs h => ?_)
      refine lv_aload_n hx hb dX2_dropLot_26 rfl (lv_at hl 0 rfl) ?_
      refine x_get (own := RX2) (ref := "TintDesk$Colorant") (C := RX2) (T := TX2) (n := 10) (index := 37) (v := .ref (Γ.2.1 (k0 + 3))) hx hb hts (fun w h => xU_sub w (inU2 w h)) hown h (kX_colorant h0) rfl 8 (by decide) (hts _ (xU_sub _ q75)) (fun _ h9 => h9) rfl dX2_dropLot_27 ?_
      refine lv_iload_n hx hb dX2_dropLot_30 rfl (lv_at hl 1 rfl) ?_
      refine lv_aload_n hx hb dX2_dropLot_31 rfl (lv_at hl 0 rfl) ?_
      refine x_get (own := RX2) (ref := "TintDesk$Colorant") (C := RX2) (T := TX2) (n := 10) (index := 37) (v := .ref (Γ.2.1 (k0 + 3))) hx hb hts (fun w h => xU_sub w (inU2 w h)) hown h (kX_colorant h0) rfl 8 (by decide) (hts _ (xU_sub _ q75)) (fun _ h9 => h9) rfl dX2_dropLot_32 ?_
      refine lv_iload_n hx hb dX2_dropLot_35 rfl (lv_at hl 1 rfl) ?_
      refine lv_iconst (v := 1) hx hb dX2_dropLot_36 (by decide) ?_
      refine lv_iadd hx hb dX2_dropLot_37 ?_
      obtain ⟨c6, hf⟩ := xck_s hf
      refine x_iald hx hb h (kX_colorant_lotSteps h0) (xin_in c6) dX2_dropLot_38 ?_
      obtain ⟨c7, hf⟩ := xck_s hf
      obtain ⟨M8, eM8, hf⟩ := xl_s hf
      refine x_iast hx hb h (kX_colorant_lotSteps h0) (xin_in c7) eM8 dX2_dropLot_39 (fun H locs h => ?_)
      refine lv_aload_n hx hb dX2_dropLot_40 rfl (lv_at hl 0 rfl) ?_
      refine x_get (own := RX2) (ref := "TintDesk$Colorant") (C := RX2) (T := TX2) (n := 10) (index := 40) (v := .ref (Γ.2.1 (k0 + 4))) hx hb hts (fun w h => xU_sub w (inU2 w h)) hown h (kX_colorant h0) rfl 9 (by decide) (hts _ (xU_sub _ q76)) (fun _ h9 => h9) rfl dX2_dropLot_41 ?_
      refine lv_iload_n hx hb dX2_dropLot_44 rfl (lv_at hl 1 rfl) ?_
      refine lv_aload_n hx hb dX2_dropLot_45 rfl (lv_at hl 0 rfl) ?_
      refine x_get (own := RX2) (ref := "TintDesk$Colorant") (C := RX2) (T := TX2) (n := 10) (index := 40) (v := .ref (Γ.2.1 (k0 + 4))) hx hb hts (fun w h => xU_sub w (inU2 w h)) hown h (kX_colorant h0) rfl 9 (by decide) (hts _ (xU_sub _ q76)) (fun _ h9 => h9) rfl dX2_dropLot_46 ?_
      refine lv_iload_n hx hb dX2_dropLot_49 rfl (lv_at hl 1 rfl) ?_
      refine lv_iconst (v := 1) hx hb dX2_dropLot_50 (by decide) ?_
      refine lv_iadd hx hb dX2_dropLot_51 ?_
      obtain ⟨c9, hf⟩ := xck_s hf
      refine x_iald hx hb h (kX_colorant_lotLastDays h0) (xin_in c9) dX2_dropLot_52 ?_
      obtain ⟨c10, hf⟩ := xck_s hf
      obtain ⟨M11, eM11, hf⟩ := xl_s hf
      refine x_iast hx hb h (kX_colorant_lotLastDays h0) (xin_in c10) eM11 dX2_dropLot_53 (fun H locs h => ?_)
      obtain ⟨y12, ey12, hf⟩ := xl_s hf
      refine lv_iinc (v := y12) (lv' := [(2, .int y12), (0, .ref (Γ.2.1 k0))]) hx hb dX2_dropLot_54 hl (k := 1) rfl (by rw [ey12]; rfl) (by decide) rfl (fun ls hl => ?_)
      refine lv_goto (tgt := 2) hx hb dX2_dropLot_57 (by decide) ?_
      exact ih y12 M11 hf _ _ _ h (lv_sub hl [1, 0] rfl)
set_option maxHeartbeats 4000000 in
set_option maxRecDepth 100000 in
theorem m_X2_dropLot (l : Launch) {Γ : xG} {N : Nat} {k0 : Nat} (h0 : isCo k0) {v1 : Int32} {M : xM} {res : xR} (hf : F_X2_dropLot N k0 v1 M = some res) (sz : Nat) : Met l yX2_dropLot (xWs yX2_dropLot cX2_dropLot 3 none) ({ frames := 1, cells := 0, slots := 0, locals := 40 } : Room) (va_Pc [.ref (Γ.2.1 k0), .int v1] (xPre Γ (wX Γ) M sz)) (xCv Γ (wX Γ) 1483 res sz) 0 0 (xAd Γ 1483 sz) := by
  refine x_met (Qc := fun sz => xCv Γ (wX Γ) 1483 res sz) pnX2 wG_W (Nat.le_of_ble_eq_true rfl) (fun p e s m args below meth c _ E h ls hl => ?_) sz
  obtain ⟨⟨hx, hb, hml, hown, hts⟩, hr, hlocks⟩ := id E
  have hl : lv_has ls 3 [(0, .ref (Γ.2.1 k0)), (1, .int v1)] := hl
  refine lv_iload_n hx hb dX2_dropLot_0 rfl (lv_at hl 1 rfl) ?_
  refine lv_istore_n (lv' := [(2, .int v1), (0, .ref (Γ.2.1 k0)), (1, .int v1)]) hx hb dX2_dropLot_1 rfl hl (by decide) rfl (fun ls hl => ?_)
  exact w_X2_dropLot_2 l E h0 N v1 M hf _ _ _ h (lv_sub hl [1, 0] rfl)
theorem hdX2_takeBackLots : yX2_takeBackLots.cls = RX2 ∧ yX2_takeBackLots.cls ≠ "java/lang/invoke/MethodHandle" ∧ yX2_takeBackLots.cls ≠ "java/lang/invoke/VarHandle" ∧ (parseMethodDescriptor yX2_takeBackLots.desc).map (fun d => d.parameters.length) = some 1 := by decide +kernel
set_option maxHeartbeats 4000000 in
set_option maxRecDepth 100000 in
theorem w_X2_takeBackLots_37 (l : Launch) {p : Program} {e : Env} {s : State} {m : MethodId} {args : Array Value} {below : List Frame} {meth : Method} {c : Code} {Γ : xG} {N : Nat} {k0 : Nat} {res : xR} (E : xEv p s m args meth c RX2 cX2_takeBackLots 4 (some .int) (xWs yX2_takeBackLots cX2_takeBackLots 4 (some .int))) (h0 : isCo k0) {K_9 : Int32 → Int32 → Int32 → xM → Option xR} (hK_9 : ∀ (v1 : Int32) (v2 : Int32) (v3 : Int32) (M : xM), K_9 v1 v2 v3 M = some res → ∀ (H : Heap) (locs : List Loc) (ls : Array Slot), xH Γ (wX Γ) 1483 s M H locs → lv_has ls 4 [(0, .ref (Γ.2.1 k0)), (1, .int v1), (2, .int v2), (3, .int v3)] → W p l e ({ frames := 2, cells := 0, slots := 0, locals := 62 } : Room) s m args below meth c H locs 0 0 (MQ below (xCi Γ (wX Γ) 1483 res s.heap.size) args s 0 0 (xAd Γ 1483 s.heap.size)) (F0 m 9 ls [])) : ∀ (v1 : Int32) (v2 : Int32) (v3 : Int32) (M : xM), L_X2_takeBackLots_37 N k0 K_9 v1 v2 v3 M = some res → ∀ (H : Heap) (locs : List Loc) (ls : Array Slot), xH Γ (wX Γ) 1483 s M H locs → lv_has ls 4 [(0, .ref (Γ.2.1 k0)), (1, .int v1), (2, .int v2), (3, .int v3)] → W p l e ({ frames := 2, cells := 0, slots := 0, locals := 62 } : Room) s m args below meth c H locs 0 0 (MQ below (xCi Γ (wX Γ) 1483 res s.heap.size) args s 0 0 (xAd Γ 1483 s.heap.size)) (F0 m 37 ls []) := by
  obtain ⟨⟨hx, hb, hml, hown, hts⟩, hr, hlocks⟩ := id E
  intro v1 v2 v3 M hf H locs ls h hl
  obtain ⟨y1, ey1, hf⟩ := xl_s hf
  refine lv_iinc (v := y1) (lv' := [(3, .int y1), (0, .ref (Γ.2.1 k0)), (1, .int v1), (2, .int v2)]) hx hb dX2_takeBackLots_37 hl (k := 3) rfl (by rw [ey1]; rfl) (by decide) rfl (fun ls hl => ?_)
  refine lv_goto (tgt := 9) hx hb dX2_takeBackLots_40 (by decide) ?_
  exact hK_9 v1 v2 y1 M hf _ _ _ h (lv_sub hl [1, 2, 3, 0] rfl)
set_option maxHeartbeats 4000000 in
set_option maxRecDepth 100000 in
theorem w_X2_takeBackLots_9 (l : Launch) {p : Program} {e : Env} {s : State} {m : MethodId} {args : Array Value} {below : List Frame} {meth : Method} {c : Code} {Γ : xG} {N : Nat} {k0 : Nat} {res : xR} (E : xEv p s m args meth c RX2 cX2_takeBackLots 4 (some .int) (xWs yX2_takeBackLots cX2_takeBackLots 4 (some .int))) (h0 : isCo k0) : ∀ (n : Nat) (v1 : Int32) (v2 : Int32) (v3 : Int32) (M : xM), L_X2_takeBackLots_9 N k0 n v1 v2 v3 M = some res → ∀ (H : Heap) (locs : List Loc) (ls : Array Slot), xH Γ (wX Γ) 1483 s M H locs → lv_has ls 4 [(0, .ref (Γ.2.1 k0)), (1, .int v1), (2, .int v2), (3, .int v3)] → W p l e ({ frames := 2, cells := 0, slots := 0, locals := 62 } : Room) s m args below meth c H locs 0 0 (MQ below (xCi Γ (wX Γ) 1483 res s.heap.size) args s 0 0 (xAd Γ 1483 s.heap.size)) (F0 m 9 ls []) := by
  obtain ⟨⟨hx, hb, hml, hown, hts⟩, hr, hlocks⟩ := id E
  intro n
  induction n with
  | zero => intro v1 v2 v3 M hf; cases hf
  | succ n ih =>
    intro v1 v2 v3 M hf H locs ls h hl
    refine lv_iload_n hx hb dX2_takeBackLots_9 rfl (lv_at hl 3 rfl) ?_
    refine lv_if_lt (tgt := 43) hx hb dX2_takeBackLots_10 (by decide) (fun c1 => ?_) (fun c1 => ?_)
    · replace hf := xif_t hf c1
      refine lv_aload_n hx hb dX2_takeBackLots_43 rfl (lv_at hl 0 rfl) ?_
      refine lv_dup hx hb dX2_takeBackLots_44 rfl ?_
      refine x_get (own := RX2) (ref := "TintDesk$Colorant") (C := RX2) (T := TX2) (n := 10) (index := 25) (v := .int (M.1 k0 4)) hx hb hts (fun w h => xU_sub w (inU2 w h)) hown h (kX_colorant h0) rfl 4 (by decide) (hts _ (xU_sub _ q71)) (fun _ h9 => h9) rfl dX2_takeBackLots_45 ?_
      refine lv_iload_n hx hb dX2_takeBackLots_48 rfl (lv_at hl 2 rfl) ?_
      refine lv_iadd hx hb dX2_takeBackLots_49 ?_
      obtain ⟨M2, eM2, hf⟩ := xl_s hf
      refine x_put (own := RX2) (ref := "TintDesk$Colorant") (C := RX2) (T := TX2) (n := 10) (index := 25) (ty := .int) hx hb hts (fun w h => xU_sub w (inU2 w h)) tyX2 tyX2_ok nmX2 hown h (kX_colorant h0) rfl 4 (by decide) (hts _ (xU_sub _ q71)) (fun _ h9 => h9) rfl (by decide +kernel) rfl rfl (Nat.le_of_ble_eq_true rfl) rfl eM2 dX2_takeBackLots_50 (fun H locs h => ?_)
      refine lv_iload_n hx hb dX2_takeBackLots_53 rfl (lv_at hl 2 rfl) ?_
      exact x_iret hx hb h (Option.some.inj hf) hr hlocks dX2_takeBackLots_54
    · replace hf := xif_f hf c1
      refine lv_aload_n hx hb dX2_takeBackLots_13 rfl (lv_at hl 0 rfl) ?_
      refine x_get (own := RX2) (ref := "TintDesk$Colorant") (C := RX2) (T := TX2) (n := 10) (index := 34) (v := .ref (Γ.2.1 (k0 + 2))) hx hb hts (fun w h => xU_sub w (inU2 w h)) hown h (kX_colorant h0) rfl 7 (by decide) (hts _ (xU_sub _ q74)) (fun _ h9 => h9) rfl dX2_takeBackLots_14 ?_
      refine lv_iload_n hx hb dX2_takeBackLots_17 rfl (lv_at hl 3 rfl) ?_
      obtain ⟨c3, hf⟩ := xck_s hf
      refine x_iald hx hb h (kX_colorant_lotNumbers h0) (xin_in c3) dX2_takeBackLots_18 ?_
      refine lv_iload_n hx hb dX2_takeBackLots_19 rfl (lv_at hl 1 rfl) ?_
      refine lv_icmp_ne (tgt := 37) hx hb dX2_takeBackLots_20 (by decide) (fun c4 => ?_) (fun c4 => ?_)
      · replace hf := xif_f hf c4
        exact w_X2_takeBackLots_37 l E h0 (ih) v1 v2 v3 M hf _ _ _ h (lv_sub hl [0, 1, 2, 3] rfl)
      · replace hf := xif_t hf c4
        refine lv_iload_n hx hb dX2_takeBackLots_23 rfl (lv_at hl 2 rfl) ?_
        refine lv_aload_n hx hb dX2_takeBackLots_24 rfl (lv_at hl 0 rfl) ?_
        refine x_get (own := RX2) (ref := "TintDesk$Colorant") (C := RX2) (T := TX2) (n := 10) (index := 37) (v := .ref (Γ.2.1 (k0 + 3))) hx hb hts (fun w h => xU_sub w (inU2 w h)) hown h (kX_colorant h0) rfl 8 (by decide) (hts _ (xU_sub _ q75)) (fun _ h9 => h9) rfl dX2_takeBackLots_25 ?_
        refine lv_iload_n hx hb dX2_takeBackLots_28 rfl (lv_at hl 3 rfl) ?_
        obtain ⟨c5, hf⟩ := xck_s hf
        refine x_iald hx hb h (kX_colorant_lotSteps h0) (xin_in c5) dX2_takeBackLots_29 ?_
        refine lv_iadd hx hb dX2_takeBackLots_30 ?_
        obtain ⟨y6, ey6, hf⟩ := xl_s hf
        refine x_nm ey6 ?_
        refine lv_istore_n (lv' := [(2, .int y6), (0, .ref (Γ.2.1 k0)), (1, .int v1), (3, .int v3)]) hx hb dX2_takeBackLots_31 rfl hl (by decide) rfl (fun ls hl => ?_)
        refine lv_aload_n hx hb dX2_takeBackLots_32 rfl (lv_at hl 1 rfl) ?_
        refine lv_iload_n hx hb dX2_takeBackLots_33 rfl (lv_at hl 3 rfl) ?_
        obtain ⟨r7, er7, hf⟩ := xbd_s hf
        refine x_Vv (As := [.int v3]) (rest := []) E.1 (m_X2_dropLot l h0 er7) (cwV 1 hts (xgV xU_sub q308 q309 q310 q56 q311) rfl rfl rfl hdX2_dropLot ⟨Nat.le_of_ble_eq_true rfl, Nat.le_of_ble_eq_true rfl⟩) h (kX_colorant h0) rfl rfl hl.1 rfl (Nat.le_of_ble_eq_true rfl) dX2_takeBackLots_34 ⟨Nat.le_of_ble_eq_true rfl, Nat.le_of_ble_eq_true rfl⟩ (fun H locs h => ?_)
        exact w_X2_takeBackLots_37 l E h0 (ih) v1 y6 v3 r7.1 hf _ _ _ h (lv_sub hl [1, 2, 0, 3] rfl)
set_option maxHeartbeats 4000000 in
set_option maxRecDepth 100000 in
theorem m_X2_takeBackLots (l : Launch) {Γ : xG} {N : Nat} {k0 : Nat} (h0 : isCo k0) {v1 : Int32} {M : xM} {res : xR} (hf : F_X2_takeBackLots N k0 v1 M = some res) (sz : Nat) : Met l yX2_takeBackLots (xWs yX2_takeBackLots cX2_takeBackLots 4 (some .int)) ({ frames := 2, cells := 0, slots := 0, locals := 62 } : Room) (va_Pc [.ref (Γ.2.1 k0), .int v1] (xPre Γ (wX Γ) M sz)) (xCi Γ (wX Γ) 1483 res sz) 0 0 (xAd Γ 1483 sz) := by
  refine x_met (Qc := fun sz => xCi Γ (wX Γ) 1483 res sz) pnX2 wG_W (Nat.le_of_ble_eq_true rfl) (fun p e s m args below meth c _ E h ls hl => ?_) sz
  obtain ⟨⟨hx, hb, hml, hown, hts⟩, hr, hlocks⟩ := id E
  have hl : lv_has ls 4 [(0, .ref (Γ.2.1 k0)), (1, .int v1)] := hl
  refine lv_iconst (v := 0) hx hb dX2_takeBackLots_0 (by decide) ?_
  refine lv_istore_n (lv' := [(2, .int 0), (0, .ref (Γ.2.1 k0)), (1, .int v1)]) hx hb dX2_takeBackLots_1 rfl hl (by decide) rfl (fun ls hl => ?_)
  refine lv_aload_n hx hb dX2_takeBackLots_2 rfl (lv_at hl 1 rfl) ?_
  refine x_get (own := RX2) (ref := "TintDesk$Colorant") (C := RX2) (T := TX2) (n := 10) (index := 31) (v := .int (M.1 k0 6)) hx hb hts (fun w h => xU_sub w (inU2 w h)) hown h (kX_colorant h0) rfl 6 (by decide) (hts _ (xU_sub _ q73)) (fun _ h9 => h9) rfl dX2_takeBackLots_3 ?_
  refine lv_iconst (v := 1) hx hb dX2_takeBackLots_6 (by decide) ?_
  refine lv_isub hx hb dX2_takeBackLots_7 ?_
  obtain ⟨y1, ey1, hf⟩ := xl_s hf
  refine x_nm ey1 ?_
  refine lv_istore_n (lv' := [(3, .int y1), (2, .int 0), (0, .ref (Γ.2.1 k0)), (1, .int v1)]) hx hb dX2_takeBackLots_8 rfl hl (by decide) rfl (fun ls hl => ?_)
  exact w_X2_takeBackLots_9 l E h0 N v1 0 y1 M hf _ _ _ h (lv_sub hl [2, 3, 1, 0] rfl)
theorem hdX2_wasteOldLots : yX2_wasteOldLots.cls = RX2 ∧ yX2_wasteOldLots.cls ≠ "java/lang/invoke/MethodHandle" ∧ yX2_wasteOldLots.cls ≠ "java/lang/invoke/VarHandle" ∧ (parseMethodDescriptor yX2_wasteOldLots.desc).map (fun d => d.parameters.length) = some 1 := by decide +kernel
set_option maxHeartbeats 4000000 in
set_option maxRecDepth 100000 in
theorem w_X2_wasteOldLots_37 (l : Launch) {p : Program} {e : Env} {s : State} {m : MethodId} {args : Array Value} {below : List Frame} {meth : Method} {c : Code} {Γ : xG} {N : Nat} {k0 : Nat} {res : xR} (E : xEv p s m args meth c RX2 cX2_wasteOldLots 4 (some .int) (xWs yX2_wasteOldLots cX2_wasteOldLots 4 (some .int))) (h0 : isCo k0) {K_9 : Int32 → Int32 → Int32 → xM → Option xR} (hK_9 : ∀ (v1 : Int32) (v2 : Int32) (v3 : Int32) (M : xM), K_9 v1 v2 v3 M = some res → ∀ (H : Heap) (locs : List Loc) (ls : Array Slot), xH Γ (wX Γ) 1483 s M H locs → lv_has ls 4 [(0, .ref (Γ.2.1 k0)), (1, .int v1), (2, .int v2), (3, .int v3)] → W p l e ({ frames := 2, cells := 0, slots := 0, locals := 62 } : Room) s m args below meth c H locs 0 0 (MQ below (xCi Γ (wX Γ) 1483 res s.heap.size) args s 0 0 (xAd Γ 1483 s.heap.size)) (F0 m 9 ls [])) : ∀ (v1 : Int32) (v2 : Int32) (v3 : Int32) (M : xM), L_X2_wasteOldLots_37 N k0 K_9 v1 v2 v3 M = some res → ∀ (H : Heap) (locs : List Loc) (ls : Array Slot), xH Γ (wX Γ) 1483 s M H locs → lv_has ls 4 [(0, .ref (Γ.2.1 k0)), (1, .int v1), (2, .int v2), (3, .int v3)] → W p l e ({ frames := 2, cells := 0, slots := 0, locals := 62 } : Room) s m args below meth c H locs 0 0 (MQ below (xCi Γ (wX Γ) 1483 res s.heap.size) args s 0 0 (xAd Γ 1483 s.heap.size)) (F0 m 37 ls []) := by
  obtain ⟨⟨hx, hb, hml, hown, hts⟩, hr, hlocks⟩ := id E
  intro v1 v2 v3 M hf H locs ls h hl
  obtain ⟨y1, ey1, hf⟩ := xl_s hf
  refine lv_iinc (v := y1) (lv' := [(3, .int y1), (0, .ref (Γ.2.1 k0)), (1, .int v1), (2, .int v2)]) hx hb dX2_wasteOldLots_37 hl (k := 3) rfl (by rw [ey1]; rfl) (by decide) rfl (fun ls hl => ?_)
  refine lv_goto (tgt := 9) hx hb dX2_wasteOldLots_40 (by decide) ?_
  exact hK_9 v1 v2 y1 M hf _ _ _ h (lv_sub hl [1, 2, 3, 0] rfl)
set_option maxHeartbeats 4000000 in
set_option maxRecDepth 100000 in
theorem w_X2_wasteOldLots_9 (l : Launch) {p : Program} {e : Env} {s : State} {m : MethodId} {args : Array Value} {below : List Frame} {meth : Method} {c : Code} {Γ : xG} {N : Nat} {k0 : Nat} {res : xR} (E : xEv p s m args meth c RX2 cX2_wasteOldLots 4 (some .int) (xWs yX2_wasteOldLots cX2_wasteOldLots 4 (some .int))) (h0 : isCo k0) : ∀ (n : Nat) (v1 : Int32) (v2 : Int32) (v3 : Int32) (M : xM), L_X2_wasteOldLots_9 N k0 n v1 v2 v3 M = some res → ∀ (H : Heap) (locs : List Loc) (ls : Array Slot), xH Γ (wX Γ) 1483 s M H locs → lv_has ls 4 [(0, .ref (Γ.2.1 k0)), (1, .int v1), (2, .int v2), (3, .int v3)] → W p l e ({ frames := 2, cells := 0, slots := 0, locals := 62 } : Room) s m args below meth c H locs 0 0 (MQ below (xCi Γ (wX Γ) 1483 res s.heap.size) args s 0 0 (xAd Γ 1483 s.heap.size)) (F0 m 9 ls []) := by
  obtain ⟨⟨hx, hb, hml, hown, hts⟩, hr, hlocks⟩ := id E
  intro n
  induction n with
  | zero => intro v1 v2 v3 M hf; cases hf
  | succ n ih =>
    intro v1 v2 v3 M hf H locs ls h hl
    refine lv_iload_n hx hb dX2_wasteOldLots_9 rfl (lv_at hl 3 rfl) ?_
    refine lv_if_lt (tgt := 43) hx hb dX2_wasteOldLots_10 (by decide) (fun c1 => ?_) (fun c1 => ?_)
    · replace hf := xif_t hf c1
      refine lv_aload_n hx hb dX2_wasteOldLots_43 rfl (lv_at hl 0 rfl) ?_
      refine lv_dup hx hb dX2_wasteOldLots_44 rfl ?_
      refine x_get (own := RX2) (ref := "TintDesk$Colorant") (C := RX2) (T := TX2) (n := 10) (index := 28) (v := .int (M.1 k0 5)) hx hb hts (fun w h => xU_sub w (inU2 w h)) hown h (kX_colorant h0) rfl 5 (by decide) (hts _ (xU_sub _ q72)) (fun _ h9 => h9) rfl dX2_wasteOldLots_45 ?_
      refine lv_iload_n hx hb dX2_wasteOldLots_48 rfl (lv_at hl 2 rfl) ?_
      refine lv_iadd hx hb dX2_wasteOldLots_49 ?_
      obtain ⟨M2, eM2, hf⟩ := xl_s hf
      refine x_put (own := RX2) (ref := "TintDesk$Colorant") (C := RX2) (T := TX2) (n := 10) (index := 28) (ty := .int) hx hb hts (fun w h => xU_sub w (inU2 w h)) tyX2 tyX2_ok nmX2 hown h (kX_colorant h0) rfl 5 (by decide) (hts _ (xU_sub _ q72)) (fun _ h9 => h9) rfl (by decide +kernel) rfl rfl (Nat.le_of_ble_eq_true rfl) rfl eM2 dX2_wasteOldLots_50 (fun H locs h => ?_)
      refine lv_iload_n hx hb dX2_wasteOldLots_53 rfl (lv_at hl 2 rfl) ?_
      exact x_iret hx hb h (Option.some.inj hf) hr hlocks dX2_wasteOldLots_54
    · replace hf := xif_f hf c1
      refine lv_aload_n hx hb dX2_wasteOldLots_13 rfl (lv_at hl 0 rfl) ?_
      refine x_get (own := RX2) (ref := "TintDesk$Colorant") (C := RX2) (T := TX2) (n := 10) (index := 40) (v := .ref (Γ.2.1 (k0 + 4))) hx hb hts (fun w h => xU_sub w (inU2 w h)) hown h (kX_colorant h0) rfl 9 (by decide) (hts _ (xU_sub _ q76)) (fun _ h9 => h9) rfl dX2_wasteOldLots_14 ?_
      refine lv_iload_n hx hb dX2_wasteOldLots_17 rfl (lv_at hl 3 rfl) ?_
      obtain ⟨c3, hf⟩ := xck_s hf
      refine x_iald hx hb h (kX_colorant_lotLastDays h0) (xin_in c3) dX2_wasteOldLots_18 ?_
      refine lv_iload_n hx hb dX2_wasteOldLots_19 rfl (lv_at hl 1 rfl) ?_
      refine lv_icmp_ge (tgt := 37) hx hb dX2_wasteOldLots_20 (by decide) (fun c4 => ?_) (fun c4 => ?_)
      · replace hf := xif_t hf c4
        exact w_X2_wasteOldLots_37 l E h0 (ih) v1 v2 v3 M hf _ _ _ h (lv_sub hl [0, 1, 2, 3] rfl)
      · replace hf := xif_f hf c4
        refine lv_iload_n hx hb dX2_wasteOldLots_23 rfl (lv_at hl 2 rfl) ?_
        refine lv_aload_n hx hb dX2_wasteOldLots_24 rfl (lv_at hl 0 rfl) ?_
        refine x_get (own := RX2) (ref := "TintDesk$Colorant") (C := RX2) (T := TX2) (n := 10) (index := 37) (v := .ref (Γ.2.1 (k0 + 3))) hx hb hts (fun w h => xU_sub w (inU2 w h)) hown h (kX_colorant h0) rfl 8 (by decide) (hts _ (xU_sub _ q75)) (fun _ h9 => h9) rfl dX2_wasteOldLots_25 ?_
        refine lv_iload_n hx hb dX2_wasteOldLots_28 rfl (lv_at hl 3 rfl) ?_
        obtain ⟨c5, hf⟩ := xck_s hf
        refine x_iald hx hb h (kX_colorant_lotSteps h0) (xin_in c5) dX2_wasteOldLots_29 ?_
        refine lv_iadd hx hb dX2_wasteOldLots_30 ?_
        obtain ⟨y6, ey6, hf⟩ := xl_s hf
        refine x_nm ey6 ?_
        refine lv_istore_n (lv' := [(2, .int y6), (0, .ref (Γ.2.1 k0)), (1, .int v1), (3, .int v3)]) hx hb dX2_wasteOldLots_31 rfl hl (by decide) rfl (fun ls hl => ?_)
        refine lv_aload_n hx hb dX2_wasteOldLots_32 rfl (lv_at hl 1 rfl) ?_
        refine lv_iload_n hx hb dX2_wasteOldLots_33 rfl (lv_at hl 3 rfl) ?_
        obtain ⟨r7, er7, hf⟩ := xbd_s hf
        refine x_Vv (As := [.int v3]) (rest := []) E.1 (m_X2_dropLot l h0 er7) (cwV 1 hts (xgV xU_sub q308 q309 q310 q56 q311) rfl rfl rfl hdX2_dropLot ⟨Nat.le_of_ble_eq_true rfl, Nat.le_of_ble_eq_true rfl⟩) h (kX_colorant h0) rfl rfl hl.1 rfl (Nat.le_of_ble_eq_true rfl) dX2_wasteOldLots_34 ⟨Nat.le_of_ble_eq_true rfl, Nat.le_of_ble_eq_true rfl⟩ (fun H locs h => ?_)
        exact w_X2_wasteOldLots_37 l E h0 (ih) v1 y6 v3 r7.1 hf _ _ _ h (lv_sub hl [1, 2, 0, 3] rfl)
set_option maxHeartbeats 4000000 in
set_option maxRecDepth 100000 in
theorem m_X2_wasteOldLots (l : Launch) {Γ : xG} {N : Nat} {k0 : Nat} (h0 : isCo k0) {v1 : Int32} {M : xM} {res : xR} (hf : F_X2_wasteOldLots N k0 v1 M = some res) (sz : Nat) : Met l yX2_wasteOldLots (xWs yX2_wasteOldLots cX2_wasteOldLots 4 (some .int)) ({ frames := 2, cells := 0, slots := 0, locals := 62 } : Room) (va_Pc [.ref (Γ.2.1 k0), .int v1] (xPre Γ (wX Γ) M sz)) (xCi Γ (wX Γ) 1483 res sz) 0 0 (xAd Γ 1483 sz) := by
  refine x_met (Qc := fun sz => xCi Γ (wX Γ) 1483 res sz) pnX2 wG_W (Nat.le_of_ble_eq_true rfl) (fun p e s m args below meth c _ E h ls hl => ?_) sz
  obtain ⟨⟨hx, hb, hml, hown, hts⟩, hr, hlocks⟩ := id E
  have hl : lv_has ls 4 [(0, .ref (Γ.2.1 k0)), (1, .int v1)] := hl
  refine lv_iconst (v := 0) hx hb dX2_wasteOldLots_0 (by decide) ?_
  refine lv_istore_n (lv' := [(2, .int 0), (0, .ref (Γ.2.1 k0)), (1, .int v1)]) hx hb dX2_wasteOldLots_1 rfl hl (by decide) rfl (fun ls hl => ?_)
  refine lv_aload_n hx hb dX2_wasteOldLots_2 rfl (lv_at hl 1 rfl) ?_
  refine x_get (own := RX2) (ref := "TintDesk$Colorant") (C := RX2) (T := TX2) (n := 10) (index := 31) (v := .int (M.1 k0 6)) hx hb hts (fun w h => xU_sub w (inU2 w h)) hown h (kX_colorant h0) rfl 6 (by decide) (hts _ (xU_sub _ q73)) (fun _ h9 => h9) rfl dX2_wasteOldLots_3 ?_
  refine lv_iconst (v := 1) hx hb dX2_wasteOldLots_6 (by decide) ?_
  refine lv_isub hx hb dX2_wasteOldLots_7 ?_
  obtain ⟨y1, ey1, hf⟩ := xl_s hf
  refine x_nm ey1 ?_
  refine lv_istore_n (lv' := [(3, .int y1), (2, .int 0), (0, .ref (Γ.2.1 k0)), (1, .int v1)]) hx hb dX2_wasteOldLots_8 rfl hl (by decide) rfl (fun ls hl => ?_)
  exact w_X2_wasteOldLots_9 l E h0 N v1 0 y1 M hf _ _ _ h (lv_sub hl [2, 3, 1, 0] rfl)
theorem hdX2_pumpInto : yX2_pumpInto.cls = RX2 ∧ yX2_pumpInto.cls ≠ "java/lang/invoke/MethodHandle" ∧ yX2_pumpInto.cls ≠ "java/lang/invoke/VarHandle" ∧ (parseMethodDescriptor yX2_pumpInto.desc).map (fun d => d.parameters.length) = some 3 := by decide +kernel
set_option maxHeartbeats 4000000 in
set_option maxRecDepth 100000 in
theorem w_X2_pumpInto_75 (l : Launch) {p : Program} {e : Env} {s : State} {m : MethodId} {args : Array Value} {below : List Frame} {meth : Method} {c : Code} {Γ : xG} {N : Nat} {k0 : Nat} {k1 : Nat} {res : xR} (E : xEv p s m args meth c RX2 cX2_pumpInto 7 none (xWs yX2_pumpInto cX2_pumpInto 7 none)) (h0 : isCo k0) (h1 : isCa k1) {K_9 : Int32 → Int32 → Int32 → Int32 → xM → Option xR} (hK_9 : ∀ (v2 : Int32) (v3 : Int32) (v4 : Int32) (v5 : Int32) (M : xM), K_9 v2 v3 v4 v5 M = some res → ∀ (H : Heap) (locs : List Loc) (ls : Array Slot), xH Γ (wX Γ) 1483 s M H locs → lv_has ls 7 [(0, .ref (Γ.2.1 k0)), (1, .ref (Γ.2.1 k1)), (2, .int v2), (3, .int v3), (4, .int v4), (5, .int v5)] → W p l e ({ frames := 2, cells := 0, slots := 0, locals := 62 } : Room) s m args below meth c H locs 0 0 (MQ below (xCv Γ (wX Γ) 1483 res s.heap.size) args s 0 0 (xAd Γ 1483 s.heap.size)) (F0 m 9 ls [])) : ∀ (v2 : Int32) (v3 : Int32) (v4 : Int32) (v5 : Int32) (M : xM), L_X2_pumpInto_75 N k0 k1 K_9 v2 v3 v4 v5 M = some res → ∀ (H : Heap) (locs : List Loc) (ls : Array Slot), xH Γ (wX Γ) 1483 s M H locs → lv_has ls 7 [(0, .ref (Γ.2.1 k0)), (1, .ref (Γ.2.1 k1)), (2, .int v2), (3, .int v3), (4, .int v4), (5, .int v5)] → W p l e ({ frames := 2, cells := 0, slots := 0, locals := 62 } : Room) s m args below meth c H locs 0 0 (MQ below (xCv Γ (wX Γ) 1483 res s.heap.size) args s 0 0 (xAd Γ 1483 s.heap.size)) (F0 m 75 ls []) := by
  obtain ⟨⟨hx, hb, hml, hown, hts⟩, hr, hlocks⟩ := id E
  intro v2 v3 v4 v5 M hf H locs ls h hl
  obtain ⟨y1, ey1, hf⟩ := xl_s hf
  refine lv_iinc (v := y1) (lv' := [(5, .int y1), (0, .ref (Γ.2.1 k0)), (1, .ref (Γ.2.1 k1)), (2, .int v2), (3, .int v3), (4, .int v4)]) hx hb dX2_pumpInto_75 hl (k := 5) rfl (by rw [ey1]; rfl) (by decide) rfl (fun ls hl => ?_)
  refine lv_goto (tgt := 9) hx hb dX2_pumpInto_78 (by decide) ?_
  exact hK_9 v2 v3 v4 y1 M hf _ _ _ h (lv_sub hl [1, 2, 3, 4, 5, 0] rfl)
set_option maxHeartbeats 4000000 in
set_option maxRecDepth 100000 in
theorem w_X2_pumpInto_81 (l : Launch) {p : Program} {e : Env} {s : State} {m : MethodId} {args : Array Value} {below : List Frame} {meth : Method} {c : Code} {Γ : xG} {N : Nat} {k0 : Nat} {k1 : Nat} {res : xR} (E : xEv p s m args meth c RX2 cX2_pumpInto 7 none (xWs yX2_pumpInto cX2_pumpInto 7 none)) (h0 : isCo k0) (h1 : isCa k1) : ∀ (v2 : Int32) (v3 : Int32) (M : xM), L_X2_pumpInto_81 N k0 k1 v2 v3 M = some res → ∀ (H : Heap) (locs : List Loc) (ls : Array Slot), xH Γ (wX Γ) 1483 s M H locs → lv_has ls 7 [(0, .ref (Γ.2.1 k0)), (1, .ref (Γ.2.1 k1)), (2, .int v2), (3, .int v3)] → W p l e ({ frames := 2, cells := 0, slots := 0, locals := 62 } : Room) s m args below meth c H locs 0 0 (MQ below (xCv Γ (wX Γ) 1483 res s.heap.size) args s 0 0 (xAd Γ 1483 s.heap.size)) (F0 m 81 ls []) := by
  obtain ⟨⟨hx, hb, hml, hown, hts⟩, hr, hlocks⟩ := id E
  intro v2 v3 M hf H locs ls h hl
  refine lv_aload_n hx hb dX2_pumpInto_81 rfl (lv_at hl 1 rfl) ?_
  refine x_get (own := RX2) (ref := "TintDesk$Can") (C := RX1) (T := TX1) (n := 6) (index := 65) (v := .ref (Γ.2.1 (k1 + 1))) hx hb hts (fun w h => xU_sub w (inU1 w h)) hown h (kX_can h1) rfl 4 (by decide) (hts _ (xU_sub _ q668)) (fun _ h9 => h9) rfl dX2_pumpInto_82 ?_
  refine lv_iload_n hx hb dX2_pumpInto_85 rfl (lv_at hl 2 rfl) ?_
  refine lv_dup2_11 hx hb dX2_pumpInto_86 rfl rfl ?_
  obtain ⟨c1, hf⟩ := xck_s hf
  refine x_iald hx hb h (kX_can_steps h1) (xin_in c1) dX2_pumpInto_87 ?_
  refine lv_iload_n hx hb dX2_pumpInto_88 rfl (lv_at hl 3 rfl) ?_
  refine lv_iadd hx hb dX2_pumpInto_89 ?_
  obtain ⟨c2, hf⟩ := xck_s hf
  obtain ⟨M3, eM3, hf⟩ := xl_s hf
  refine x_iast hx hb h (kX_can_steps h1) (xin_in c2) eM3 dX2_pumpInto_90 (fun H locs h => ?_)
  refine lv_aload_n hx hb dX2_pumpInto_91 rfl (lv_at hl 0 rfl) ?_
  refine lv_dup hx hb dX2_pumpInto_92 rfl ?_
  refine x_get (own := RX2) (ref := "TintDesk$Colorant") (C := RX2) (T := TX2) (n := 10) (index := 22) (v := .int (M3.1 k0 3)) hx hb hts (fun w h => xU_sub w (inU2 w h)) hown h (kX_colorant h0) rfl 3 (by decide) (hts _ (xU_sub _ q70)) (fun _ h9 => h9) rfl dX2_pumpInto_93 ?_
  refine lv_iload_n hx hb dX2_pumpInto_96 rfl (lv_at hl 3 rfl) ?_
  refine lv_iadd hx hb dX2_pumpInto_97 ?_
  obtain ⟨M4, eM4, hf⟩ := xl_s hf
  refine x_put (own := RX2) (ref := "TintDesk$Colorant") (C := RX2) (T := TX2) (n := 10) (index := 22) (ty := .int) hx hb hts (fun w h => xU_sub w (inU2 w h)) tyX2 tyX2_ok nmX2 hown h (kX_colorant h0) rfl 3 (by decide) (hts _ (xU_sub _ q70)) (fun _ h9 => h9) rfl (by decide +kernel) rfl rfl (Nat.le_of_ble_eq_true rfl) rfl eM4 dX2_pumpInto_98 (fun H locs h => ?_)
  exact x_vret hx hb h (Option.some.inj hf) hr hlocks dX2_pumpInto_101
set_option maxHeartbeats 4000000 in
set_option maxRecDepth 100000 in
theorem w_X2_pumpInto_9 (l : Launch) {p : Program} {e : Env} {s : State} {m : MethodId} {args : Array Value} {below : List Frame} {meth : Method} {c : Code} {Γ : xG} {N : Nat} {k0 : Nat} {k1 : Nat} {res : xR} (E : xEv p s m args meth c RX2 cX2_pumpInto 7 none (xWs yX2_pumpInto cX2_pumpInto 7 none)) (h0 : isCo k0) (h1 : isCa k1) : ∀ (n : Nat) (v2 : Int32) (v3 : Int32) (v4 : Int32) (v5 : Int32) (M : xM), L_X2_pumpInto_9 N k0 k1 n v2 v3 v4 v5 M = some res → ∀ (H : Heap) (locs : List Loc) (ls : Array Slot), xH Γ (wX Γ) 1483 s M H locs → lv_has ls 7 [(0, .ref (Γ.2.1 k0)), (1, .ref (Γ.2.1 k1)), (2, .int v2), (3, .int v3), (4, .int v4), (5, .int v5)] → W p l e ({ frames := 2, cells := 0, slots := 0, locals := 62 } : Room) s m args below meth c H locs 0 0 (MQ below (xCv Γ (wX Γ) 1483 res s.heap.size) args s 0 0 (xAd Γ 1483 s.heap.size)) (F0 m 9 ls []) := by
  obtain ⟨⟨hx, hb, hml, hown, hts⟩, hr, hlocks⟩ := id E
  intro n
  induction n with
  | zero => intro v2 v3 v4 v5 M hf; cases hf
  | succ n ih =>
    intro v2 v3 v4 v5 M hf H locs ls h hl
    refine lv_iload hx hb dX2_pumpInto_9 (lv_at hl 5 rfl) ?_
    refine lv_if_le (tgt := 81) hx hb dX2_pumpInto_11 (by decide) (fun c1 => ?_) (fun c1 => ?_)
    · replace hf := xif_t hf c1
      exact w_X2_pumpInto_81 l E h0 h1 v2 v3 M hf _ _ _ h (lv_sub hl [0, 1, 2, 3] rfl)
    · replace hf := xif_f hf c1
      refine lv_iload hx hb dX2_pumpInto_14 (lv_at hl 4 rfl) ?_
      refine lv_if_le (tgt := 81) hx hb dX2_pumpInto_16 (by decide) (fun c2 => ?_) (fun c2 => ?_)
      · replace hf := xif_t hf c2
        exact w_X2_pumpInto_81 l E h0 h1 v2 v3 M hf _ _ _ h (lv_sub hl [0, 1, 2, 3] rfl)
      · replace hf := xif_f hf c2
        refine lv_iload hx hb dX2_pumpInto_19 (lv_at hl 4 rfl) ?_
        refine lv_aload_n hx hb dX2_pumpInto_21 rfl (lv_at hl 0 rfl) ?_
        refine x_get (own := RX2) (ref := "TintDesk$Colorant") (C := RX2) (T := TX2) (n := 10) (index := 37) (v := .ref (Γ.2.1 (k0 + 3))) hx hb hts (fun w h => xU_sub w (inU2 w h)) hown h (kX_colorant h0) rfl 8 (by decide) (hts _ (xU_sub _ q75)) (fun _ h9 => h9) rfl dX2_pumpInto_22 ?_
        refine lv_iconst (v := 0) hx hb dX2_pumpInto_25 (by decide) ?_
        refine x_iald hx hb h (kX_colorant_lotSteps h0) (xin_in (by decide)) dX2_pumpInto_26 ?_
        refine va_mmin hx hb (hml.trans hl.1.symm) hown (hts _ (xU_sub _ q667)) (hts _ (xU_sub _ q165)) (hts _ (xU_sub _ q166)) (hts _ (xU_sub _ q167)) (Nat.le_of_ble_eq_true rfl) (Nat.le_of_ble_eq_true rfl) (Nat.le_of_ble_eq_true rfl) (Nat.le_of_ble_eq_true rfl) dX2_pumpInto_27 ?_
        obtain ⟨y3, ey3, hf⟩ := xl_s hf
        refine x_nm ey3 ?_
        refine lv_istore (lv' := [(6, .int y3), (0, .ref (Γ.2.1 k0)), (1, .ref (Γ.2.1 k1)), (2, .int v2), (3, .int v3), (4, .int v4), (5, .int v5)]) hx hb dX2_pumpInto_30 hl (by decide) rfl (fun ls hl => ?_)
        refine lv_aload_n hx hb dX2_pumpInto_32 rfl (lv_at hl 2 rfl) ?_
        refine lv_iload_n hx hb dX2_pumpInto_33 rfl (lv_at hl 3 rfl) ?_
        refine lv_aload_n hx hb dX2_pumpInto_34 rfl (lv_at hl 1 rfl) ?_
        refine x_get (own := RX2) (ref := "TintDesk$Colorant") (C := RX2) (T := TX2) (n := 10) (index := 34) (v := .ref (Γ.2.1 (k0 + 2))) hx hb hts (fun w h => xU_sub w (inU2 w h)) hown h (kX_colorant h0) rfl 7 (by decide) (hts _ (xU_sub _ q74)) (fun _ h9 => h9) rfl dX2_pumpInto_35 ?_
        refine lv_iconst (v := 0) hx hb dX2_pumpInto_38 (by decide) ?_
        refine x_iald hx hb h (kX_colorant_lotNumbers h0) (xin_in (by decide)) dX2_pumpInto_39 ?_
        obtain ⟨r4, er4, hf⟩ := xbd_s hf
        refine x_Vv (As := [.int v2, .int (M.1 (k0 + 2) (0 : Int32).toNatClampNeg)]) (rest := []) E.1 (m_X1_noteLot l h1 er4) (cwV 2 hts (xgV xU_sub q669 q670 q671 q62 q672) rfl rfl rfl hdX1_noteLot ⟨Nat.le_of_ble_eq_true rfl, Nat.le_of_ble_eq_true rfl⟩) h (kX_can h1) rfl rfl hl.1 rfl (Nat.le_of_ble_eq_true rfl) dX2_pumpInto_40 ⟨Nat.le_of_ble_eq_true rfl, Nat.le_of_ble_eq_true rfl⟩ (fun H locs h => ?_)
        refine lv_aload_n hx hb dX2_pumpInto_43 rfl (lv_at hl 1 rfl) ?_
        refine x_get (own := RX2) (ref := "TintDesk$Colorant") (C := RX2) (T := TX2) (n := 10) (index := 37) (v := .ref (Γ.2.1 (k0 + 3))) hx hb hts (fun w h => xU_sub w (inU2 w h)) hown h (kX_colorant h0) rfl 8 (by decide) (hts _ (xU_sub _ q75)) (fun _ h9 => h9) rfl dX2_pumpInto_44 ?_
        refine lv_iconst (v := 0) hx hb dX2_pumpInto_47 (by decide) ?_
        refine lv_dup2_11 hx hb dX2_pumpInto_48 rfl rfl ?_
        refine x_iald hx hb h (kX_colorant_lotSteps h0) (xin_in (by decide)) dX2_pumpInto_49 ?_
        refine lv_iload hx hb dX2_pumpInto_50 (lv_at hl 0 rfl) ?_
        refine lv_isub hx hb dX2_pumpInto_52 ?_
        obtain ⟨M5, eM5, hf⟩ := xl_s hf
        refine x_iast hx hb h (kX_colorant_lotSteps h0) (xin_in (by decide)) eM5 dX2_pumpInto_53 (fun H locs h => ?_)
        refine lv_iload hx hb dX2_pumpInto_54 (lv_at hl 5 rfl) ?_
        refine lv_iload hx hb dX2_pumpInto_56 (lv_at hl 0 rfl) ?_
        refine lv_isub hx hb dX2_pumpInto_58 ?_
        obtain ⟨y6, ey6, hf⟩ := xl_s hf
        refine x_nm ey6 ?_
        refine lv_istore (lv' := [(4, .int y6), (6, .int y3), (0, .ref (Γ.2.1 k0)), (1, .ref (Γ.2.1 k1)), (2, .int v2), (3, .int v3), (5, .int v5)]) hx hb dX2_pumpInto_59 hl (by decide) rfl (fun ls hl => ?_)
        refine lv_aload_n hx hb dX2_pumpInto_61 rfl (lv_at hl 2 rfl) ?_
        refine x_get (own := RX2) (ref := "TintDesk$Colorant") (C := RX2) (T := TX2) (n := 10) (index := 37) (v := .ref (Γ.2.1 (k0 + 3))) hx hb hts (fun w h => xU_sub w (inU2 w h)) hown h (kX_colorant h0) rfl 8 (by decide) (hts _ (xU_sub _ q75)) (fun _ h9 => h9) rfl dX2_pumpInto_62 ?_
        refine lv_iconst (v := 0) hx hb dX2_pumpInto_65 (by decide) ?_
        refine x_iald hx hb h (kX_colorant_lotSteps h0) (xin_in (by decide)) dX2_pumpInto_66 ?_
        refine lv_if_ne (tgt := 75) hx hb dX2_pumpInto_67 (by decide) (fun c7 => ?_) (fun c7 => ?_)
        · replace hf := xif_f hf c7
          exact w_X2_pumpInto_75 l E h0 h1 (ih) v2 v3 y6 v5 M5 hf _ _ _ h (lv_sub hl [2, 3, 4, 5, 0, 6] rfl)
        · replace hf := xif_t hf c7
          refine lv_aload_n hx hb dX2_pumpInto_70 rfl (lv_at hl 2 rfl) ?_
          refine lv_iconst (v := 0) hx hb dX2_pumpInto_71 (by decide) ?_
          obtain ⟨r8, er8, hf⟩ := xbd_s hf
          refine x_Vv (As := [.int 0]) (rest := []) E.1 (m_X2_dropLot l h0 er8) (cwV 1 hts (xgV xU_sub q308 q309 q310 q56 q311) rfl rfl rfl hdX2_dropLot ⟨Nat.le_of_ble_eq_true rfl, Nat.le_of_ble_eq_true rfl⟩) h (kX_colorant h0) rfl rfl hl.1 rfl (Nat.le_of_ble_eq_true rfl) dX2_pumpInto_72 ⟨Nat.le_of_ble_eq_true rfl, Nat.le_of_ble_eq_true rfl⟩ (fun H locs h => ?_)
          exact w_X2_pumpInto_75 l E h0 h1 (ih) v2 v3 y6 v5 r8.1 hf _ _ _ h (lv_sub hl [2, 3, 4, 5, 0, 6] rfl)
set_option maxHeartbeats 4000000 in
set_option maxRecDepth 100000 in
theorem m_X2_pumpInto (l : Launch) {Γ : xG} {N : Nat} {k0 : Nat} {k1 : Nat} (h0 : isCo k0) (h1 : isCa k1) {v2 : Int32} {v3 : Int32} {M : xM} {res : xR} (hf : F_X2_pumpInto N k0 k1 v2 v3 M = some res) (sz : Nat) : Met l yX2_pumpInto (xWs yX2_pumpInto cX2_pumpInto 7 none) ({ frames := 2, cells := 0, slots := 0, locals := 62 } : Room) (va_Pc [.ref (Γ.2.1 k0), .ref (Γ.2.1 k1), .int v2, .int v3] (xPre Γ (wX Γ) M sz)) (xCv Γ (wX Γ) 1483 res sz) 0 0 (xAd Γ 1483 sz) := by
  refine x_met (Qc := fun sz => xCv Γ (wX Γ) 1483 res sz) pnX2 wG_W (Nat.le_of_ble_eq_true rfl) (fun p e s m args below meth c _ E h ls hl => ?_) sz
  obtain ⟨⟨hx, hb, hml, hown, hts⟩, hr, hlocks⟩ := id E
  have hl : lv_has ls 7 [(0, .ref (Γ.2.1 k0)), (1, .ref (Γ.2.1 k1)), (2, .int v2), (3, .int v3)] := hl
  refine lv_iload_n hx hb dX2_pumpInto_0 rfl (lv_at hl 3 rfl) ?_
  refine lv_istore (lv' := [(4, .int v3), (0, .ref (Γ.2.1 k0)), (1, .ref (Γ.2.1 k1)), (2, .int v2), (3, .int v3)]) hx hb dX2_pumpInto_1 hl (by decide) rfl (fun ls hl => ?_)
  refine lv_aload_n hx hb dX2_pumpInto_3 rfl (lv_at hl 1 rfl) ?_
  refine x_get (own := RX2) (ref := "TintDesk$Colorant") (C := RX2) (T := TX2) (n := 10) (index := 31) (v := .int (M.1 k0 6)) hx hb hts (fun w h => xU_sub w (inU2 w h)) hown h (kX_colorant h0) rfl 6 (by decide) (hts _ (xU_sub _ q73)) (fun _ h9 => h9) rfl dX2_pumpInto_4 ?_
  obtain ⟨y1, ey1, hf⟩ := xl_s hf
  refine x_nm ey1 ?_
  refine lv_istore (lv' := [(5, .int y1), (4, .int v3), (0, .ref (Γ.2.1 k0)), (1, .ref (Γ.2.1 k1)), (2, .int v2), (3, .int v3)]) hx hb dX2_pumpInto_7 hl (by decide) rfl (fun ls hl => ?_)
  exact w_X2_pumpInto_9 l E h0 h1 N v2 v3 v3 y1 M hf _ _ _ h (lv_sub hl [2, 3, 4, 5, 1, 0] rfl)
theorem hdX2_numberFor : yX2_numberFor.cls = RX2 ∧ yX2_numberFor.cls ≠ "java/lang/invoke/MethodHandle" ∧ yX2_numberFor.cls ≠ "java/lang/invoke/VarHandle" ∧ (parseMethodDescriptor yX2_numberFor.desc).map (fun d => d.parameters.length) = some 1 := by decide +kernel
set_option maxHeartbeats 4000000 in
set_option maxRecDepth 100000 in
theorem m_X2_numberFor (l : Launch) {Γ : xG} {N : Nat} {k0 : Nat} (h0 : isCo k0) {v1 : Int32} {M : xM} {res : xR} (hf : F_X2_numberFor N k0 v1 M = some res) (sz : Nat) : Met l yX2_numberFor (xWs yX2_numberFor cX2_numberFor 2 (some .int)) ({ frames := 2, cells := 0, slots := 0, locals := 62 } : Room) (va_Pc [.ref (Γ.2.1 k0), .int v1] (xPre Γ (wX Γ) M sz)) (xCi Γ (wX Γ) 1483 res sz) 0 0 (xAd Γ 1483 sz) := by
  refine x_met (Qc := fun sz => xCi Γ (wX Γ) 1483 res sz) pnX2 wG_W (Nat.le_of_ble_eq_true rfl) (fun p e s m args below meth c _ E h ls hl => ?_) sz
  obtain ⟨⟨hx, hb, hml, hown, hts⟩, hr, hlocks⟩ := id E
  have hl : lv_has ls 2 [(0, .ref (Γ.2.1 k0)), (1, .int v1)] := hl
  refine lv_iload_n hx hb dX2_numberFor_0 rfl (lv_at hl 1 rfl) ?_
  by_cases c1 : v1 = 0
  · replace hf := xif_t hf c1
    refine lv_tableIn (off := 51) (tgt := 52) hx hb dX2_numberFor_1 (by rw [c1]; decide) (by rw [c1]; decide) (by rw [c1]; rfl) (by decide) ?_
    refine lv_aload_n hx hb dX2_numberFor_52 rfl (lv_at hl 0 rfl) ?_
    refine x_get (own := RX2) (ref := "TintDesk$Colorant") (C := RX2) (T := TX2) (n := 10) (index := 9) (v := .ref (Γ.2.1 (k0 + 1))) hx hb hts (fun w h => xU_sub w (inU2 w h)) hown h (kX_colorant h0) rfl 0 (by decide) (hts _ (xU_sub _ q67)) (fun _ h9 => h9) rfl dX2_numberFor_53 ?_
    refine lv_iconst (v := 0) hx hb dX2_numberFor_56 (by decide) ?_
    refine x_iald hx hb h (kX_colorant_values h0) (xin_in (by decide)) dX2_numberFor_57 ?_
    exact x_iret hx hb h (Option.some.inj hf) hr hlocks dX2_numberFor_58
  replace hf := xif_f hf c1
  by_cases c2 : v1 = 1
  · replace hf := xif_t hf c2
    refine lv_tableIn (off := 58) (tgt := 59) hx hb dX2_numberFor_1 (by rw [c2]; decide) (by rw [c2]; decide) (by rw [c2]; rfl) (by decide) ?_
    refine lv_aload_n hx hb dX2_numberFor_59 rfl (lv_at hl 0 rfl) ?_
    refine x_get (own := RX2) (ref := "TintDesk$Colorant") (C := RX2) (T := TX2) (n := 10) (index := 9) (v := .ref (Γ.2.1 (k0 + 1))) hx hb hts (fun w h => xU_sub w (inU2 w h)) hown h (kX_colorant h0) rfl 0 (by decide) (hts _ (xU_sub _ q67)) (fun _ h9 => h9) rfl dX2_numberFor_60 ?_
    refine lv_iconst (v := 1) hx hb dX2_numberFor_63 (by decide) ?_
    refine x_iald hx hb h (kX_colorant_values h0) (xin_in (by decide)) dX2_numberFor_64 ?_
    exact x_iret hx hb h (Option.some.inj hf) hr hlocks dX2_numberFor_65
  replace hf := xif_f hf c2
  by_cases c3 : v1 = 2
  · replace hf := xif_t hf c3
    refine lv_tableIn (off := 65) (tgt := 66) hx hb dX2_numberFor_1 (by rw [c3]; decide) (by rw [c3]; decide) (by rw [c3]; rfl) (by decide) ?_
    refine lv_aload_n hx hb dX2_numberFor_66 rfl (lv_at hl 0 rfl) ?_
    refine x_get (own := RX2) (ref := "TintDesk$Colorant") (C := RX2) (T := TX2) (n := 10) (index := 9) (v := .ref (Γ.2.1 (k0 + 1))) hx hb hts (fun w h => xU_sub w (inU2 w h)) hown h (kX_colorant h0) rfl 0 (by decide) (hts _ (xU_sub _ q67)) (fun _ h9 => h9) rfl dX2_numberFor_67 ?_
    refine lv_iconst (v := 2) hx hb dX2_numberFor_70 (by decide) ?_
    refine x_iald hx hb h (kX_colorant_values h0) (xin_in (by decide)) dX2_numberFor_71 ?_
    exact x_iret hx hb h (Option.some.inj hf) hr hlocks dX2_numberFor_72
  replace hf := xif_f hf c3
  by_cases c4 : v1 = 3
  · replace hf := xif_t hf c4
    refine lv_tableIn (off := 72) (tgt := 73) hx hb dX2_numberFor_1 (by rw [c4]; decide) (by rw [c4]; decide) (by rw [c4]; rfl) (by decide) ?_
    refine lv_aload_n hx hb dX2_numberFor_73 rfl (lv_at hl 0 rfl) ?_
    obtain ⟨r5, er5, hf⟩ := xbd_s hf
    refine x_Vi (As := []) (rest := []) E.1 (m_X2_stepsInside l h0 er5) (cwV 0 hts (xgV xU_sub q331 q278 q279 q56 q280) rfl rfl rfl hdX2_stepsInside ⟨Nat.le_of_ble_eq_true rfl, Nat.le_of_ble_eq_true rfl⟩) h (kX_colorant h0) rfl rfl hl.1 rfl (Nat.le_of_ble_eq_true rfl) dX2_numberFor_74 ⟨Nat.le_of_ble_eq_true rfl, Nat.le_of_ble_eq_true rfl⟩ (fun H locs h => ?_)
    exact x_iret hx hb h (Option.some.inj hf) hr hlocks dX2_numberFor_77
  replace hf := xif_f hf c4
  by_cases c6 : v1 = 4
  · replace hf := xif_t hf c6
    refine lv_tableIn (off := 77) (tgt := 78) hx hb dX2_numberFor_1 (by rw [c6]; decide) (by rw [c6]; decide) (by rw [c6]; rfl) (by decide) ?_
    refine lv_aload_n hx hb dX2_numberFor_78 rfl (lv_at hl 0 rfl) ?_
    refine x_get (own := RX2) (ref := "TintDesk$Colorant") (C := RX2) (T := TX2) (n := 10) (index := 31) (v := .int (M.1 k0 6)) hx hb hts (fun w h => xU_sub w (inU2 w h)) hown h (kX_colorant h0) rfl 6 (by decide) (hts _ (xU_sub _ q73)) (fun _ h9 => h9) rfl dX2_numberFor_79 ?_
    exact x_iret hx hb h (Option.some.inj hf) hr hlocks dX2_numberFor_82
  replace hf := xif_f hf c6
  by_cases c7 : v1 = 5
  · replace hf := xif_t hf c7
    refine lv_tableIn (off := 82) (tgt := 83) hx hb dX2_numberFor_1 (by rw [c7]; decide) (by rw [c7]; decide) (by rw [c7]; rfl) (by decide) ?_
    refine lv_aload_n hx hb dX2_numberFor_83 rfl (lv_at hl 0 rfl) ?_
    refine x_get (own := RX2) (ref := "TintDesk$Colorant") (C := RX2) (T := TX2) (n := 10) (index := 19) (v := .int (M.1 k0 2)) hx hb hts (fun w h => xU_sub w (inU2 w h)) hown h (kX_colorant h0) rfl 2 (by decide) (hts _ (xU_sub _ q69)) (fun _ h9 => h9) rfl dX2_numberFor_84 ?_
    exact x_iret hx hb h (Option.some.inj hf) hr hlocks dX2_numberFor_87
  replace hf := xif_f hf c7
  by_cases c8 : v1 = 6
  · replace hf := xif_t hf c8
    refine lv_tableIn (off := 87) (tgt := 88) hx hb dX2_numberFor_1 (by rw [c8]; decide) (by rw [c8]; decide) (by rw [c8]; rfl) (by decide) ?_
    refine lv_aload_n hx hb dX2_numberFor_88 rfl (lv_at hl 0 rfl) ?_
    refine x_get (own := RX2) (ref := "TintDesk$Colorant") (C := RX2) (T := TX2) (n := 10) (index := 22) (v := .int (M.1 k0 3)) hx hb hts (fun w h => xU_sub w (inU2 w h)) hown h (kX_colorant h0) rfl 3 (by decide) (hts _ (xU_sub _ q70)) (fun _ h9 => h9) rfl dX2_numberFor_89 ?_
    exact x_iret hx hb h (Option.some.inj hf) hr hlocks dX2_numberFor_92
  replace hf := xif_f hf c8
  by_cases c9 : v1 = 7
  · replace hf := xif_t hf c9
    refine lv_tableIn (off := 92) (tgt := 93) hx hb dX2_numberFor_1 (by rw [c9]; decide) (by rw [c9]; decide) (by rw [c9]; rfl) (by decide) ?_
    refine lv_aload_n hx hb dX2_numberFor_93 rfl (lv_at hl 0 rfl) ?_
    refine x_get (own := RX2) (ref := "TintDesk$Colorant") (C := RX2) (T := TX2) (n := 10) (index := 25) (v := .int (M.1 k0 4)) hx hb hts (fun w h => xU_sub w (inU2 w h)) hown h (kX_colorant h0) rfl 4 (by decide) (hts _ (xU_sub _ q71)) (fun _ h9 => h9) rfl dX2_numberFor_94 ?_
    exact x_iret hx hb h (Option.some.inj hf) hr hlocks dX2_numberFor_97
  replace hf := xif_f hf c9
  by_cases c10 : v1 = 8
  · replace hf := xif_t hf c10
    refine lv_tableIn (off := 97) (tgt := 98) hx hb dX2_numberFor_1 (by rw [c10]; decide) (by rw [c10]; decide) (by rw [c10]; rfl) (by decide) ?_
    refine lv_aload_n hx hb dX2_numberFor_98 rfl (lv_at hl 0 rfl) ?_
    refine x_get (own := RX2) (ref := "TintDesk$Colorant") (C := RX2) (T := TX2) (n := 10) (index := 28) (v := .int (M.1 k0 5)) hx hb hts (fun w h => xU_sub w (inU2 w h)) hown h (kX_colorant h0) rfl 5 (by decide) (hts _ (xU_sub _ q72)) (fun _ h9 => h9) rfl dX2_numberFor_99 ?_
    exact x_iret hx hb h (Option.some.inj hf) hr hlocks dX2_numberFor_102
  replace hf := xif_f hf c10
  refine lv_tableOut (tgt := 103) hx hb dX2_numberFor_1 (xsw_out (fun j hj1 hj2 hj => by
    have hj9 : j = 0 ∨ j = 1 ∨ j = 2 ∨ j = 3 ∨ j = 4 ∨ j = 5 ∨ j = 6 ∨ j = 7 ∨ j = 8 := by omega
    rcases hj9 with rfl | rfl | rfl | rfl | rfl | rfl | rfl | rfl | rfl
    · exact c1 hj
    · exact c2 hj
    · exact c3 hj
    · exact c4 hj
    · exact c6 hj
    · exact c7 hj
    · exact c8 hj
    · exact c9 hj
    · exact c10 hj
    )) (by decide) ?_
  refine lv_aload_n hx hb dX2_numberFor_103 rfl (lv_at hl 0 rfl) ?_
  refine x_get (own := RX2) (ref := "TintDesk$Colorant") (C := RX2) (T := TX2) (n := 10) (index := 15) (v := .int (M.1 k0 1)) hx hb hts (fun w h => xU_sub w (inU2 w h)) hown h (kX_colorant h0) rfl 1 (by decide) (hts _ (xU_sub _ q68)) (fun _ h9 => h9) rfl dX2_numberFor_104 ?_
  exact x_iret hx hb h (Option.some.inj hf) hr hlocks dX2_numberFor_107
theorem hdX2_lotNumberFor : yX2_lotNumberFor.cls = RX2 ∧ yX2_lotNumberFor.cls ≠ "java/lang/invoke/MethodHandle" ∧ yX2_lotNumberFor.cls ≠ "java/lang/invoke/VarHandle" ∧ (parseMethodDescriptor yX2_lotNumberFor.desc).map (fun d => d.parameters.length) = some 2 := by decide +kernel
set_option maxHeartbeats 4000000 in
set_option maxRecDepth 100000 in
theorem m_X2_lotNumberFor (l : Launch) {Γ : xG} {N : Nat} {k0 : Nat} (h0 : isCo k0) {v1 : Int32} {v2 : Int32} {M : xM} {res : xR} (hf : F_X2_lotNumberFor N k0 v1 v2 M = some res) (sz : Nat) : Met l yX2_lotNumberFor (xWs yX2_lotNumberFor cX2_lotNumberFor 3 (some .int)) ({ frames := 1, cells := 0, slots := 0, locals := 40 } : Room) (va_Pc [.ref (Γ.2.1 k0), .int v1, .int v2] (xPre Γ (wX Γ) M sz)) (xCi Γ (wX Γ) 1483 res sz) 0 0 (xAd Γ 1483 sz) := by
  refine x_met (Qc := fun sz => xCi Γ (wX Γ) 1483 res sz) pnX2 wG_W (Nat.le_of_ble_eq_true rfl) (fun p e s m args below meth c _ E h ls hl => ?_) sz
  obtain ⟨⟨hx, hb, hml, hown, hts⟩, hr, hlocks⟩ := id E
  have hl : lv_has ls 3 [(0, .ref (Γ.2.1 k0)), (1, .int v1), (2, .int v2)] := hl
  refine lv_iload_n hx hb dX2_lotNumberFor_0 rfl (lv_at hl 2 rfl) ?_
  by_cases c1 : v2 = 0
  · replace hf := xif_t hf c1
    refine lv_lookup (off := 27) (tgt := 28) hx hb dX2_lotNumberFor_1 (by decide) (by rw [c1]; decide) (by decide) ?_
    refine lv_aload_n hx hb dX2_lotNumberFor_28 rfl (lv_at hl 0 rfl) ?_
    refine x_get (own := RX2) (ref := "TintDesk$Colorant") (C := RX2) (T := TX2) (n := 10) (index := 34) (v := .ref (Γ.2.1 (k0 + 2))) hx hb hts (fun w h => xU_sub w (inU2 w h)) hown h (kX_colorant h0) rfl 7 (by decide) (hts _ (xU_sub _ q74)) (fun _ h9 => h9) rfl dX2_lotNumberFor_29 ?_
    refine lv_iload_n hx hb dX2_lotNumberFor_32 rfl (lv_at hl 1 rfl) ?_
    obtain ⟨c2, hf⟩ := xck_s hf
    refine x_iald hx hb h (kX_colorant_lotNumbers h0) (xin_in c2) dX2_lotNumberFor_33 ?_
    exact x_iret hx hb h (Option.some.inj hf) hr hlocks dX2_lotNumberFor_34
  replace hf := xif_f hf c1
  by_cases c3 : v2 = 1
  · replace hf := xif_t hf c3
    refine lv_lookup (off := 34) (tgt := 35) hx hb dX2_lotNumberFor_1 (by decide) (by rw [c3]; decide) (by decide) ?_
    refine lv_aload_n hx hb dX2_lotNumberFor_35 rfl (lv_at hl 0 rfl) ?_
    refine x_get (own := RX2) (ref := "TintDesk$Colorant") (C := RX2) (T := TX2) (n := 10) (index := 37) (v := .ref (Γ.2.1 (k0 + 3))) hx hb hts (fun w h => xU_sub w (inU2 w h)) hown h (kX_colorant h0) rfl 8 (by decide) (hts _ (xU_sub _ q75)) (fun _ h9 => h9) rfl dX2_lotNumberFor_36 ?_
    refine lv_iload_n hx hb dX2_lotNumberFor_39 rfl (lv_at hl 1 rfl) ?_
    obtain ⟨c4, hf⟩ := xck_s hf
    refine x_iald hx hb h (kX_colorant_lotSteps h0) (xin_in c4) dX2_lotNumberFor_40 ?_
    exact x_iret hx hb h (Option.some.inj hf) hr hlocks dX2_lotNumberFor_41
  replace hf := xif_f hf c3
  refine lv_lookup (off := 41) (tgt := 42) hx hb dX2_lotNumberFor_1 (by decide) (by show Op.lookupswitch.offset [(0, 27), (1, 34)] 41 _ = 41; rw [lv_osw c1 (by decide), lv_osw c3 (by decide)]; rfl) (by decide) ?_
  refine lv_aload_n hx hb dX2_lotNumberFor_42 rfl (lv_at hl 0 rfl) ?_
  refine x_get (own := RX2) (ref := "TintDesk$Colorant") (C := RX2) (T := TX2) (n := 10) (index := 40) (v := .ref (Γ.2.1 (k0 + 4))) hx hb hts (fun w h => xU_sub w (inU2 w h)) hown h (kX_colorant h0) rfl 9 (by decide) (hts _ (xU_sub _ q76)) (fun _ h9 => h9) rfl dX2_lotNumberFor_43 ?_
  refine lv_iload_n hx hb dX2_lotNumberFor_46 rfl (lv_at hl 1 rfl) ?_
  obtain ⟨c5, hf⟩ := xck_s hf
  refine x_iald hx hb h (kX_colorant_lotLastDays h0) (xin_in c5) dX2_lotNumberFor_47 ?_
  exact x_iret hx hb h (Option.some.inj hf) hr hlocks dX2_lotNumberFor_48
