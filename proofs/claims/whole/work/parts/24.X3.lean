theorem hdX3_copyFrom : yX3_copyFrom.cls = RX3 ∧ yX3_copyFrom.cls ≠ "java/lang/invoke/MethodHandle" ∧ yX3_copyFrom.cls ≠ "java/lang/invoke/VarHandle" ∧ (parseMethodDescriptor yX3_copyFrom.desc).map (fun d => d.parameters.length) = some 1 := by decide +kernel
set_option maxHeartbeats 4000000 in
set_option maxRecDepth 100000 in
theorem w_X3_copyFrom_89 (l : Launch) {p : Program} {e : Env} {s : State} {m : MethodId} {args : Array Value} {below : List Frame} {meth : Method} {c : Code} {Γ : xG} {N : Nat} {k0 : Nat} {k1 : Nat} {res : xR} (E : xEv p s m args meth c RX3 cX3_copyFrom 3 none (xWs yX3_copyFrom cX3_copyFrom 3 none)) (h0 : isDk k0) (h1 : isDk k1) : ∀ (n : Nat) (v2 : Int32) (M : xM), L_X3_copyFrom_89 N k0 k1 n v2 M = some res → ∀ (H : Heap) (locs : List Loc) (ls : Array Slot), xH Γ (wX Γ) 1483 s M H locs → lv_has ls 3 [(0, .ref (Γ.2.1 k0)), (1, .ref (Γ.2.1 k1)), (2, .int v2)] → W p l e ({ frames := 2, cells := 0, slots := 0, locals := 141 } : Room) s m args below meth c H locs 0 0 (MQ below (xCv Γ (wX Γ) 1483 res s.heap.size) args s 0 0 (xAd Γ 1483 s.heap.size)) (F0 m 89 ls []) := by
  obtain ⟨⟨hx, hb, hml, hown, hts⟩, hr, hlocks⟩ := id E
  intro n
  induction n with
  | zero => intro v2 M hf; cases hf
  | succ n ih =>
    intro v2 M hf H locs ls h hl
    refine lv_iload_n hx hb dX3_copyFrom_89 rfl (lv_at hl 2 rfl) ?_
    refine lv_bipush (v := 20) hx hb dX3_copyFrom_90 (by decide) ?_
    refine lv_icmp_ge (tgt := 116) hx hb dX3_copyFrom_92 (by decide) (fun c1 => ?_) (fun c1 => ?_)
    · replace hf := xif_t hf c1
      refine lv_aload_n hx hb dX3_copyFrom_116 rfl (lv_at hl 0 rfl) ?_
      refine lv_aload_n hx hb dX3_copyFrom_117 rfl (lv_at hl 1 rfl) ?_
      refine x_get (own := RX3) (ref := "TintDesk$Desk") (C := RX3) (T := TX3) (n := 9) (index := 35) (v := .int (M.1 k1 4)) hx hb hts (fun w h => xU_sub w (inU3 w h)) hown h (kX_desk h1) rfl 4 (by decide) (hts _ (xU_sub _ q50)) (fun _ h9 => h9) rfl dX3_copyFrom_118 ?_
      obtain ⟨M2, eM2, hf⟩ := xl_s hf
      refine x_put (own := RX3) (ref := "TintDesk$Desk") (C := RX3) (T := TX3) (n := 9) (index := 35) (ty := .int) hx hb hts (fun w h => xU_sub w (inU3 w h)) tyX3 tyX3_ok nmX3 hown h (kX_desk h0) rfl 4 (by decide) (hts _ (xU_sub _ q50)) (fun _ h9 => h9) rfl (by decide +kernel) rfl rfl (Nat.le_of_ble_eq_true rfl) rfl eM2 dX3_copyFrom_121 (fun H locs h => ?_)
      refine lv_aload_n hx hb dX3_copyFrom_124 rfl (lv_at hl 0 rfl) ?_
      refine lv_aload_n hx hb dX3_copyFrom_125 rfl (lv_at hl 1 rfl) ?_
      refine x_get (own := RX3) (ref := "TintDesk$Desk") (C := RX3) (T := TX3) (n := 9) (index := 39) (v := .int (M2.1 k1 5)) hx hb hts (fun w h => xU_sub w (inU3 w h)) hown h (kX_desk h1) rfl 5 (by decide) (hts _ (xU_sub _ q51)) (fun _ h9 => h9) rfl dX3_copyFrom_126 ?_
      obtain ⟨M3, eM3, hf⟩ := xl_s hf
      refine x_put (own := RX3) (ref := "TintDesk$Desk") (C := RX3) (T := TX3) (n := 9) (index := 39) (ty := .int) hx hb hts (fun w h => xU_sub w (inU3 w h)) tyX3 tyX3_ok nmX3 hown h (kX_desk h0) rfl 5 (by decide) (hts _ (xU_sub _ q51)) (fun _ h9 => h9) rfl (by decide +kernel) rfl rfl (Nat.le_of_ble_eq_true rfl) rfl eM3 dX3_copyFrom_129 (fun H locs h => ?_)
      refine lv_aload_n hx hb dX3_copyFrom_132 rfl (lv_at hl 0 rfl) ?_
      refine lv_aload_n hx hb dX3_copyFrom_133 rfl (lv_at hl 1 rfl) ?_
      refine x_get (own := RX3) (ref := "TintDesk$Desk") (C := RX3) (T := TX3) (n := 9) (index := 42) (v := .int (M3.1 k1 6)) hx hb hts (fun w h => xU_sub w (inU3 w h)) hown h (kX_desk h1) rfl 6 (by decide) (hts _ (xU_sub _ q52)) (fun _ h9 => h9) rfl dX3_copyFrom_134 ?_
      obtain ⟨M4, eM4, hf⟩ := xl_s hf
      refine x_put (own := RX3) (ref := "TintDesk$Desk") (C := RX3) (T := TX3) (n := 9) (index := 42) (ty := .int) hx hb hts (fun w h => xU_sub w (inU3 w h)) tyX3 tyX3_ok nmX3 hown h (kX_desk h0) rfl 6 (by decide) (hts _ (xU_sub _ q52)) (fun _ h9 => h9) rfl (by decide +kernel) rfl rfl (Nat.le_of_ble_eq_true rfl) rfl eM4 dX3_copyFrom_137 (fun H locs h => ?_)
      refine lv_aload_n hx hb dX3_copyFrom_140 rfl (lv_at hl 0 rfl) ?_
      refine lv_aload_n hx hb dX3_copyFrom_141 rfl (lv_at hl 1 rfl) ?_
      refine x_get (own := RX3) (ref := "TintDesk$Desk") (C := RX3) (T := TX3) (n := 9) (index := 45) (v := .int (M4.1 k1 7)) hx hb hts (fun w h => xU_sub w (inU3 w h)) hown h (kX_desk h1) rfl 7 (by decide) (hts _ (xU_sub _ q53)) (fun _ h9 => h9) rfl dX3_copyFrom_142 ?_
      obtain ⟨M5, eM5, hf⟩ := xl_s hf
      refine x_put (own := RX3) (ref := "TintDesk$Desk") (C := RX3) (T := TX3) (n := 9) (index := 45) (ty := .int) hx hb hts (fun w h => xU_sub w (inU3 w h)) tyX3 tyX3_ok nmX3 hown h (kX_desk h0) rfl 7 (by decide) (hts _ (xU_sub _ q53)) (fun _ h9 => h9) rfl (by decide +kernel) rfl rfl (Nat.le_of_ble_eq_true rfl) rfl eM5 dX3_copyFrom_145 (fun H locs h => ?_)
      refine lv_aload_n hx hb dX3_copyFrom_148 rfl (lv_at hl 0 rfl) ?_
      refine lv_aload_n hx hb dX3_copyFrom_149 rfl (lv_at hl 1 rfl) ?_
      refine x_get (own := RX3) (ref := "TintDesk$Desk") (C := RX3) (T := TX3) (n := 9) (index := 48) (v := .int (M5.1 k1 8)) hx hb hts (fun w h => xU_sub w (inU3 w h)) hown h (kX_desk h1) rfl 8 (by decide) (hts _ (xU_sub _ q54)) (fun _ h9 => h9) rfl dX3_copyFrom_150 ?_
      obtain ⟨M6, eM6, hf⟩ := xl_s hf
      refine x_put (own := RX3) (ref := "TintDesk$Desk") (C := RX3) (T := TX3) (n := 9) (index := 48) (ty := .int) hx hb hts (fun w h => xU_sub w (inU3 w h)) tyX3 tyX3_ok nmX3 hown h (kX_desk h0) rfl 8 (by decide) (hts _ (xU_sub _ q54)) (fun _ h9 => h9) rfl (by decide +kernel) rfl rfl (Nat.le_of_ble_eq_true rfl) rfl eM6 dX3_copyFrom_153 (fun H locs h => ?_)
      exact x_vret hx hb h (Option.some.inj hf) hr hlocks dX3_copyFrom_156
    · replace hf := xif_f hf c1
      refine lv_aload_n hx hb dX3_copyFrom_95 rfl (lv_at hl 0 rfl) ?_
      refine x_get (own := RX3) (ref := "TintDesk$Desk") (C := RX3) (T := TX3) (n := 9) (index := 31) (v := .ref (Γ.2.1 (k0 + 4))) hx hb hts (fun w h => xU_sub w (inU3 w h)) hown h (kX_desk h0) rfl 3 (by decide) (hts _ (xU_sub _ q49)) (fun _ h9 => h9) rfl dX3_copyFrom_96 ?_
      refine lv_iload_n hx hb dX3_copyFrom_99 rfl (lv_at hl 2 rfl) ?_
      obtain ⟨c7, hf⟩ := xck_s hf
      refine x_aald (C := "TintDesk$Can") hx hb h rfl (kX_desk_cans h0) c7 dX3_copyFrom_100 ?_
      refine lv_aload_n hx hb dX3_copyFrom_101 rfl (lv_at hl 1 rfl) ?_
      refine x_get (own := RX3) (ref := "TintDesk$Desk") (C := RX3) (T := TX3) (n := 9) (index := 31) (v := .ref (Γ.2.1 (k1 + 4))) hx hb hts (fun w h => xU_sub w (inU3 w h)) hown h (kX_desk h1) rfl 3 (by decide) (hts _ (xU_sub _ q49)) (fun _ h9 => h9) rfl dX3_copyFrom_102 ?_
      refine lv_iload_n hx hb dX3_copyFrom_105 rfl (lv_at hl 2 rfl) ?_
      obtain ⟨c8, hf⟩ := xck_s hf
      refine x_aald (C := "TintDesk$Can") hx hb h rfl (kX_desk_cans h1) c8 dX3_copyFrom_106 ?_
      obtain ⟨r9, er9, hf⟩ := xbd_s hf
      refine x_Vv (As := [.ref (Γ.2.1 (k1 + 87 + 3 * v2.toNatClampNeg))]) (rest := []) E.1 (m_X1_copyFrom l (isCa_of h0 c7) (isCa_of h1 c8) er9) (cwV 1 hts (xgV xU_sub q190 q191 q192 q62 q193) rfl rfl rfl hdX1_copyFrom ⟨Nat.le_of_ble_eq_true rfl, Nat.le_of_ble_eq_true rfl⟩) h (kX_can (isCa_of h0 c7)) rfl rfl hl.1 rfl (Nat.le_of_ble_eq_true rfl) dX3_copyFrom_107 ⟨Nat.le_of_ble_eq_true rfl, Nat.le_of_ble_eq_true rfl⟩ (fun H locs h => ?_)
      obtain ⟨y10, ey10, hf⟩ := xl_s hf
      refine lv_iinc (v := y10) (lv' := [(2, .int y10), (0, .ref (Γ.2.1 k0)), (1, .ref (Γ.2.1 k1))]) hx hb dX3_copyFrom_110 hl (k := 2) rfl (by rw [ey10]; rfl) (by decide) rfl (fun ls hl => ?_)
      refine lv_goto (tgt := 89) hx hb dX3_copyFrom_113 (by decide) ?_
      exact ih y10 r9.1 hf _ _ _ h (lv_sub hl [1, 2, 0] rfl)
set_option maxHeartbeats 4000000 in
set_option maxRecDepth 100000 in
theorem w_X3_copyFrom_60 (l : Launch) {p : Program} {e : Env} {s : State} {m : MethodId} {args : Array Value} {below : List Frame} {meth : Method} {c : Code} {Γ : xG} {N : Nat} {k0 : Nat} {k1 : Nat} {res : xR} (E : xEv p s m args meth c RX3 cX3_copyFrom 3 none (xWs yX3_copyFrom cX3_copyFrom 3 none)) (h0 : isDk k0) (h1 : isDk k1) : ∀ (n : Nat) (v2 : Int32) (M : xM), L_X3_copyFrom_60 N k0 k1 n v2 M = some res → ∀ (H : Heap) (locs : List Loc) (ls : Array Slot), xH Γ (wX Γ) 1483 s M H locs → lv_has ls 3 [(0, .ref (Γ.2.1 k0)), (1, .ref (Γ.2.1 k1)), (2, .int v2)] → W p l e ({ frames := 2, cells := 0, slots := 0, locals := 141 } : Room) s m args below meth c H locs 0 0 (MQ below (xCv Γ (wX Γ) 1483 res s.heap.size) args s 0 0 (xAd Γ 1483 s.heap.size)) (F0 m 60 ls []) := by
  obtain ⟨⟨hx, hb, hml, hown, hts⟩, hr, hlocks⟩ := id E
  intro n
  induction n with
  | zero => intro v2 M hf; cases hf
  | succ n ih =>
    intro v2 M hf H locs ls h hl
    refine lv_iload_n hx hb dX3_copyFrom_60 rfl (lv_at hl 2 rfl) ?_
    refine lv_bipush (v := 10) hx hb dX3_copyFrom_61 (by decide) ?_
    refine lv_icmp_ge (tgt := 87) hx hb dX3_copyFrom_63 (by decide) (fun c1 => ?_) (fun c1 => ?_)
    · replace hf := xif_t hf c1
      refine lv_iconst (v := 0) hx hb dX3_copyFrom_87 (by decide) ?_
      refine lv_istore_n (lv' := [(2, .int 0), (0, .ref (Γ.2.1 k0)), (1, .ref (Γ.2.1 k1))]) hx hb dX3_copyFrom_88 rfl hl (by decide) rfl (fun ls hl => ?_)
      exact w_X3_copyFrom_89 l E h0 h1 N 0 M hf _ _ _ h (lv_sub hl [1, 2, 0] rfl)
    · replace hf := xif_f hf c1
      refine lv_aload_n hx hb dX3_copyFrom_66 rfl (lv_at hl 0 rfl) ?_
      refine x_get (own := RX3) (ref := "TintDesk$Desk") (C := RX3) (T := TX3) (n := 9) (index := 25) (v := .ref (Γ.2.1 (k0 + 3))) hx hb hts (fun w h => xU_sub w (inU3 w h)) hown h (kX_desk h0) rfl 2 (by decide) (hts _ (xU_sub _ q47)) (fun _ h9 => h9) rfl dX3_copyFrom_67 ?_
      refine lv_iload_n hx hb dX3_copyFrom_70 rfl (lv_at hl 2 rfl) ?_
      obtain ⟨c2, hf⟩ := xck_s hf
      refine x_aald (C := "TintDesk$Formula") hx hb h rfl (kX_desk_formulas h0) c2 dX3_copyFrom_71 ?_
      refine lv_aload_n hx hb dX3_copyFrom_72 rfl (lv_at hl 1 rfl) ?_
      refine x_get (own := RX3) (ref := "TintDesk$Desk") (C := RX3) (T := TX3) (n := 9) (index := 25) (v := .ref (Γ.2.1 (k1 + 3))) hx hb hts (fun w h => xU_sub w (inU3 w h)) hown h (kX_desk h1) rfl 2 (by decide) (hts _ (xU_sub _ q47)) (fun _ h9 => h9) rfl dX3_copyFrom_73 ?_
      refine lv_iload_n hx hb dX3_copyFrom_76 rfl (lv_at hl 2 rfl) ?_
      obtain ⟨c3, hf⟩ := xck_s hf
      refine x_aald (C := "TintDesk$Formula") hx hb h rfl (kX_desk_formulas h1) c3 dX3_copyFrom_77 ?_
      obtain ⟨r4, er4, hf⟩ := xbd_s hf
      refine x_Vv (As := [.ref (Γ.2.1 (k1 + 57 + 3 * v2.toNatClampNeg))]) (rest := []) E.1 (m_X4_copyFrom l (isFo_of h0 c2) (isFo_of h1 c3) er4) (cwV 1 hts (xgV xU_sub q185 q186 q187 q60 q188) rfl rfl rfl hdX4_copyFrom ⟨Nat.le_of_ble_eq_true rfl, Nat.le_of_ble_eq_true rfl⟩) h (kX_formula (isFo_of h0 c2)) rfl rfl hl.1 rfl (Nat.le_of_ble_eq_true rfl) dX3_copyFrom_78 ⟨Nat.le_of_ble_eq_true rfl, Nat.le_of_ble_eq_true rfl⟩ (fun H locs h => ?_)
      obtain ⟨y5, ey5, hf⟩ := xl_s hf
      refine lv_iinc (v := y5) (lv' := [(2, .int y5), (0, .ref (Γ.2.1 k0)), (1, .ref (Γ.2.1 k1))]) hx hb dX3_copyFrom_81 hl (k := 2) rfl (by rw [ey5]; rfl) (by decide) rfl (fun ls hl => ?_)
      refine lv_goto (tgt := 60) hx hb dX3_copyFrom_84 (by decide) ?_
      exact ih y5 r4.1 hf _ _ _ h (lv_sub hl [1, 2, 0] rfl)
set_option maxHeartbeats 4000000 in
set_option maxRecDepth 100000 in
theorem w_X3_copyFrom_31 (l : Launch) {p : Program} {e : Env} {s : State} {m : MethodId} {args : Array Value} {below : List Frame} {meth : Method} {c : Code} {Γ : xG} {N : Nat} {k0 : Nat} {k1 : Nat} {res : xR} (E : xEv p s m args meth c RX3 cX3_copyFrom 3 none (xWs yX3_copyFrom cX3_copyFrom 3 none)) (h0 : isDk k0) (h1 : isDk k1) : ∀ (n : Nat) (v2 : Int32) (M : xM), L_X3_copyFrom_31 N k0 k1 n v2 M = some res → ∀ (H : Heap) (locs : List Loc) (ls : Array Slot), xH Γ (wX Γ) 1483 s M H locs → lv_has ls 3 [(0, .ref (Γ.2.1 k0)), (1, .ref (Γ.2.1 k1)), (2, .int v2)] → W p l e ({ frames := 2, cells := 0, slots := 0, locals := 141 } : Room) s m args below meth c H locs 0 0 (MQ below (xCv Γ (wX Γ) 1483 res s.heap.size) args s 0 0 (xAd Γ 1483 s.heap.size)) (F0 m 31 ls []) := by
  obtain ⟨⟨hx, hb, hml, hown, hts⟩, hr, hlocks⟩ := id E
  intro n
  induction n with
  | zero => intro v2 M hf; cases hf
  | succ n ih =>
    intro v2 M hf H locs ls h hl
    refine lv_iload_n hx hb dX3_copyFrom_31 rfl (lv_at hl 2 rfl) ?_
    refine lv_bipush (v := 6) hx hb dX3_copyFrom_32 (by decide) ?_
    refine lv_icmp_ge (tgt := 58) hx hb dX3_copyFrom_34 (by decide) (fun c1 => ?_) (fun c1 => ?_)
    · replace hf := xif_t hf c1
      refine lv_iconst (v := 0) hx hb dX3_copyFrom_58 (by decide) ?_
      refine lv_istore_n (lv' := [(2, .int 0), (0, .ref (Γ.2.1 k0)), (1, .ref (Γ.2.1 k1))]) hx hb dX3_copyFrom_59 rfl hl (by decide) rfl (fun ls hl => ?_)
      exact w_X3_copyFrom_60 l E h0 h1 N 0 M hf _ _ _ h (lv_sub hl [1, 2, 0] rfl)
    · replace hf := xif_f hf c1
      refine lv_aload_n hx hb dX3_copyFrom_37 rfl (lv_at hl 0 rfl) ?_
      refine x_get (own := RX3) (ref := "TintDesk$Desk") (C := RX3) (T := TX3) (n := 9) (index := 19) (v := .ref (Γ.2.1 (k0 + 2))) hx hb hts (fun w h => xU_sub w (inU3 w h)) hown h (kX_desk h0) rfl 1 (by decide) (hts _ (xU_sub _ q45)) (fun _ h9 => h9) rfl dX3_copyFrom_38 ?_
      refine lv_iload_n hx hb dX3_copyFrom_41 rfl (lv_at hl 2 rfl) ?_
      obtain ⟨c2, hf⟩ := xck_s hf
      refine x_aald (C := "TintDesk$Base") hx hb h rfl (kX_desk_bases h0) c2 dX3_copyFrom_42 ?_
      refine lv_aload_n hx hb dX3_copyFrom_43 rfl (lv_at hl 1 rfl) ?_
      refine x_get (own := RX3) (ref := "TintDesk$Desk") (C := RX3) (T := TX3) (n := 9) (index := 19) (v := .ref (Γ.2.1 (k1 + 2))) hx hb hts (fun w h => xU_sub w (inU3 w h)) hown h (kX_desk h1) rfl 1 (by decide) (hts _ (xU_sub _ q45)) (fun _ h9 => h9) rfl dX3_copyFrom_44 ?_
      refine lv_iload_n hx hb dX3_copyFrom_47 rfl (lv_at hl 2 rfl) ?_
      obtain ⟨c3, hf⟩ := xck_s hf
      refine x_aald (C := "TintDesk$Base") hx hb h rfl (kX_desk_bases h1) c3 dX3_copyFrom_48 ?_
      obtain ⟨r4, er4, hf⟩ := xbd_s hf
      refine x_Vv (As := [.ref (Γ.2.1 (k1 + 45 + 2 * v2.toNatClampNeg))]) (rest := []) E.1 (m_X0_copyFrom l (isBa_of h0 c2) (isBa_of h1 c3) er4) (cwV 1 hts (xgV xU_sub q180 q181 q182 q58 q183) rfl rfl rfl hdX0_copyFrom ⟨Nat.le_of_ble_eq_true rfl, Nat.le_of_ble_eq_true rfl⟩) h (kX_base (isBa_of h0 c2)) rfl rfl hl.1 rfl (Nat.le_of_ble_eq_true rfl) dX3_copyFrom_49 ⟨Nat.le_of_ble_eq_true rfl, Nat.le_of_ble_eq_true rfl⟩ (fun H locs h => ?_)
      obtain ⟨y5, ey5, hf⟩ := xl_s hf
      refine lv_iinc (v := y5) (lv' := [(2, .int y5), (0, .ref (Γ.2.1 k0)), (1, .ref (Γ.2.1 k1))]) hx hb dX3_copyFrom_52 hl (k := 2) rfl (by rw [ey5]; rfl) (by decide) rfl (fun ls hl => ?_)
      refine lv_goto (tgt := 31) hx hb dX3_copyFrom_55 (by decide) ?_
      exact ih y5 r4.1 hf _ _ _ h (lv_sub hl [1, 2, 0] rfl)
set_option maxHeartbeats 4000000 in
set_option maxRecDepth 100000 in
theorem w_X3_copyFrom_2 (l : Launch) {p : Program} {e : Env} {s : State} {m : MethodId} {args : Array Value} {below : List Frame} {meth : Method} {c : Code} {Γ : xG} {N : Nat} {k0 : Nat} {k1 : Nat} {res : xR} (E : xEv p s m args meth c RX3 cX3_copyFrom 3 none (xWs yX3_copyFrom cX3_copyFrom 3 none)) (h0 : isDk k0) (h1 : isDk k1) : ∀ (n : Nat) (v2 : Int32) (M : xM), L_X3_copyFrom_2 N k0 k1 n v2 M = some res → ∀ (H : Heap) (locs : List Loc) (ls : Array Slot), xH Γ (wX Γ) 1483 s M H locs → lv_has ls 3 [(0, .ref (Γ.2.1 k0)), (1, .ref (Γ.2.1 k1)), (2, .int v2)] → W p l e ({ frames := 2, cells := 0, slots := 0, locals := 141 } : Room) s m args below meth c H locs 0 0 (MQ below (xCv Γ (wX Γ) 1483 res s.heap.size) args s 0 0 (xAd Γ 1483 s.heap.size)) (F0 m 2 ls []) := by
  obtain ⟨⟨hx, hb, hml, hown, hts⟩, hr, hlocks⟩ := id E
  intro n
  induction n with
  | zero => intro v2 M hf; cases hf
  | succ n ih =>
    intro v2 M hf H locs ls h hl
    refine lv_iload_n hx hb dX3_copyFrom_2 rfl (lv_at hl 2 rfl) ?_
    refine lv_bipush (v := 8) hx hb dX3_copyFrom_3 (by decide) ?_
    refine lv_icmp_ge (tgt := 29) hx hb dX3_copyFrom_5 (by decide) (fun c1 => ?_) (fun c1 => ?_)
    · replace hf := xif_t hf c1
      refine lv_iconst (v := 0) hx hb dX3_copyFrom_29 (by decide) ?_
      refine lv_istore_n (lv' := [(2, .int 0), (0, .ref (Γ.2.1 k0)), (1, .ref (Γ.2.1 k1))]) hx hb dX3_copyFrom_30 rfl hl (by decide) rfl (fun ls hl => ?_)
      exact w_X3_copyFrom_31 l E h0 h1 N 0 M hf _ _ _ h (lv_sub hl [1, 2, 0] rfl)
    · replace hf := xif_f hf c1
      refine lv_aload_n hx hb dX3_copyFrom_8 rfl (lv_at hl 0 rfl) ?_
      refine x_get (own := RX3) (ref := "TintDesk$Desk") (C := RX3) (T := TX3) (n := 9) (index := 11) (v := .ref (Γ.2.1 (k0 + 1))) hx hb hts (fun w h => xU_sub w (inU3 w h)) hown h (kX_desk h0) rfl 0 (by decide) (hts _ (xU_sub _ q43)) (fun _ h9 => h9) rfl dX3_copyFrom_9 ?_
      refine lv_iload_n hx hb dX3_copyFrom_12 rfl (lv_at hl 2 rfl) ?_
      obtain ⟨c2, hf⟩ := xck_s hf
      refine x_aald (C := "TintDesk$Colorant") hx hb h rfl (kX_desk_colorants h0) c2 dX3_copyFrom_13 ?_
      refine lv_aload_n hx hb dX3_copyFrom_14 rfl (lv_at hl 1 rfl) ?_
      refine x_get (own := RX3) (ref := "TintDesk$Desk") (C := RX3) (T := TX3) (n := 9) (index := 11) (v := .ref (Γ.2.1 (k1 + 1))) hx hb hts (fun w h => xU_sub w (inU3 w h)) hown h (kX_desk h1) rfl 0 (by decide) (hts _ (xU_sub _ q43)) (fun _ h9 => h9) rfl dX3_copyFrom_15 ?_
      refine lv_iload_n hx hb dX3_copyFrom_18 rfl (lv_at hl 2 rfl) ?_
      obtain ⟨c3, hf⟩ := xck_s hf
      refine x_aald (C := "TintDesk$Colorant") hx hb h rfl (kX_desk_colorants h1) c3 dX3_copyFrom_19 ?_
      obtain ⟨r4, er4, hf⟩ := xbd_s hf
      refine x_Vv (As := [.ref (Γ.2.1 (k1 + 5 + 5 * v2.toNatClampNeg))]) (rest := []) E.1 (m_X2_copyFrom l (isCo_of h0 c2) (isCo_of h1 c3) er4) (cwV 1 hts (xgV xU_sub q172 q173 q174 q56 q175) rfl rfl rfl hdX2_copyFrom ⟨Nat.le_of_ble_eq_true rfl, Nat.le_of_ble_eq_true rfl⟩) h (kX_colorant (isCo_of h0 c2)) rfl rfl hl.1 rfl (Nat.le_of_ble_eq_true rfl) dX3_copyFrom_20 ⟨Nat.le_of_ble_eq_true rfl, Nat.le_of_ble_eq_true rfl⟩ (fun H locs h => ?_)
      obtain ⟨y5, ey5, hf⟩ := xl_s hf
      refine lv_iinc (v := y5) (lv' := [(2, .int y5), (0, .ref (Γ.2.1 k0)), (1, .ref (Γ.2.1 k1))]) hx hb dX3_copyFrom_23 hl (k := 2) rfl (by rw [ey5]; rfl) (by decide) rfl (fun ls hl => ?_)
      refine lv_goto (tgt := 2) hx hb dX3_copyFrom_26 (by decide) ?_
      exact ih y5 r4.1 hf _ _ _ h (lv_sub hl [1, 2, 0] rfl)
set_option maxHeartbeats 4000000 in
set_option maxRecDepth 100000 in
theorem m_X3_copyFrom (l : Launch) {Γ : xG} {N : Nat} {k0 : Nat} {k1 : Nat} (h0 : isDk k0) (h1 : isDk k1) {M : xM} {res : xR} (hf : F_X3_copyFrom N k0 k1 M = some res) (sz : Nat) : Met l yX3_copyFrom (xWs yX3_copyFrom cX3_copyFrom 3 none) ({ frames := 2, cells := 0, slots := 0, locals := 141 } : Room) (va_Pc [.ref (Γ.2.1 k0), .ref (Γ.2.1 k1)] (xPre Γ (wX Γ) M sz)) (xCv Γ (wX Γ) 1483 res sz) 0 0 (xAd Γ 1483 sz) := by
  refine x_met (Qc := fun sz => xCv Γ (wX Γ) 1483 res sz) pnX3 wG_W (Nat.le_of_ble_eq_true rfl) (fun p e s m args below meth c _ E h ls hl => ?_) sz
  obtain ⟨⟨hx, hb, hml, hown, hts⟩, hr, hlocks⟩ := id E
  have hl : lv_has ls 3 [(0, .ref (Γ.2.1 k0)), (1, .ref (Γ.2.1 k1))] := hl
  refine lv_iconst (v := 0) hx hb dX3_copyFrom_0 (by decide) ?_
  refine lv_istore_n (lv' := [(2, .int 0), (0, .ref (Γ.2.1 k0)), (1, .ref (Γ.2.1 k1))]) hx hb dX3_copyFrom_1 rfl hl (by decide) rfl (fun ls hl => ?_)
  exact w_X3_copyFrom_2 l E h0 h1 N 0 M hf _ _ _ h (lv_sub hl [1, 2, 0] rfl)
theorem hdX3_makeColorant : yX3_makeColorant.cls = RX3 ∧ yX3_makeColorant.cls ≠ "java/lang/invoke/MethodHandle" ∧ yX3_makeColorant.cls ≠ "java/lang/invoke/VarHandle" ∧ (parseMethodDescriptor yX3_makeColorant.desc).map (fun d => d.parameters.length) = some 3 := by decide +kernel
set_option maxHeartbeats 4000000 in
set_option maxRecDepth 100000 in
theorem m_X3_makeColorant (l : Launch) {Γ : xG} {N : Nat} {k0 : Nat} (h0 : isDk k0) {v1 : Int32} {v2 : Int32} {v3 : Int32} {M : xM} {res : xR} (hf : F_X3_makeColorant N k0 v1 v2 v3 M = some res) (sz : Nat) : Met l yX3_makeColorant (xWs yX3_makeColorant cX3_makeColorant 5 (some .int)) ({ frames := 1, cells := 0, slots := 0, locals := 40 } : Room) (va_Pc [.ref (Γ.2.1 k0), .int v1, .int v2, .int v3] (xPre Γ (wX Γ) M sz)) (xCi Γ (wX Γ) 1483 res sz) 0 0 (xAd Γ 1483 sz) := by
  refine x_met (Qc := fun sz => xCi Γ (wX Γ) 1483 res sz) pnX3 wG_W (Nat.le_of_ble_eq_true rfl) (fun p e s m args below meth c _ E h ls hl => ?_) sz
  obtain ⟨⟨hx, hb, hml, hown, hts⟩, hr, hlocks⟩ := id E
  have hl : lv_has ls 5 [(0, .ref (Γ.2.1 k0)), (1, .int v1), (2, .int v2), (3, .int v3)] := hl
  refine lv_aload_n hx hb dX3_makeColorant_0 rfl (lv_at hl 0 rfl) ?_
  refine x_get (own := RX3) (ref := "TintDesk$Desk") (C := RX3) (T := TX3) (n := 9) (index := 11) (v := .ref (Γ.2.1 (k0 + 1))) hx hb hts (fun w h => xU_sub w (inU3 w h)) hown h (kX_desk h0) rfl 0 (by decide) (hts _ (xU_sub _ q43)) (fun _ h9 => h9) rfl dX3_makeColorant_1 ?_
  refine lv_aload_n hx hb dX3_makeColorant_4 rfl (lv_at hl 0 rfl) ?_
  refine x_get (own := RX3) (ref := "TintDesk$Desk") (C := RX3) (T := TX3) (n := 9) (index := 35) (v := .int (M.1 k0 4)) hx hb hts (fun w h => xU_sub w (inU3 w h)) hown h (kX_desk h0) rfl 4 (by decide) (hts _ (xU_sub _ q50)) (fun _ h9 => h9) rfl dX3_makeColorant_5 ?_
  obtain ⟨c1, hf⟩ := xck_s hf
  refine x_aald (C := "TintDesk$Colorant") hx hb h rfl (kX_desk_colorants h0) c1 dX3_makeColorant_8 ?_
  refine lv_astore (lv' := [(4, .ref (Γ.2.1 (k0 + 5 + 5 * (M.1 k0 4).toNatClampNeg))), (0, .ref (Γ.2.1 k0)), (1, .int v1), (2, .int v2), (3, .int v3)]) hx hb dX3_makeColorant_9 hl (by decide) rfl (fun ls hl => ?_)
  refine lv_aload hx hb dX3_makeColorant_11 (lv_at hl 0 rfl) ?_
  refine x_get (own := RX3) (ref := "TintDesk$Colorant") (C := RX2) (T := TX2) (n := 10) (index := 68) (v := .ref (Γ.2.1 ((k0 + 5 + 5 * (M.1 k0 4).toNatClampNeg) + 1))) hx hb hts (fun w h => xU_sub w (inU2 w h)) hown h (kX_colorant (isCo_of h0 c1)) rfl 0 (by decide) (hts _ (xU_sub _ q199)) (fun _ h9 => h9) rfl dX3_makeColorant_13 ?_
  refine lv_iconst (v := 0) hx hb dX3_makeColorant_16 (by decide) ?_
  refine lv_iload_n hx hb dX3_makeColorant_17 rfl (lv_at hl 2 rfl) ?_
  obtain ⟨M2, eM2, hf⟩ := xl_s hf
  refine x_iast hx hb h (kX_colorant_values (isCo_of h0 c1)) (xin_in (by decide)) eM2 dX3_makeColorant_18 (fun H locs h => ?_)
  refine lv_aload hx hb dX3_makeColorant_19 (lv_at hl 0 rfl) ?_
  refine x_get (own := RX3) (ref := "TintDesk$Colorant") (C := RX2) (T := TX2) (n := 10) (index := 68) (v := .ref (Γ.2.1 ((k0 + 5 + 5 * (M.1 k0 4).toNatClampNeg) + 1))) hx hb hts (fun w h => xU_sub w (inU2 w h)) hown h (kX_colorant (isCo_of h0 c1)) rfl 0 (by decide) (hts _ (xU_sub _ q199)) (fun _ h9 => h9) rfl dX3_makeColorant_21 ?_
  refine lv_iconst (v := 1) hx hb dX3_makeColorant_24 (by decide) ?_
  refine lv_iload_n hx hb dX3_makeColorant_25 rfl (lv_at hl 3 rfl) ?_
  obtain ⟨M3, eM3, hf⟩ := xl_s hf
  refine x_iast hx hb h (kX_colorant_values (isCo_of h0 c1)) (xin_in (by decide)) eM3 dX3_makeColorant_26 (fun H locs h => ?_)
  refine lv_aload hx hb dX3_makeColorant_27 (lv_at hl 0 rfl) ?_
  refine x_get (own := RX3) (ref := "TintDesk$Colorant") (C := RX2) (T := TX2) (n := 10) (index := 68) (v := .ref (Γ.2.1 ((k0 + 5 + 5 * (M.1 k0 4).toNatClampNeg) + 1))) hx hb hts (fun w h => xU_sub w (inU2 w h)) hown h (kX_colorant (isCo_of h0 c1)) rfl 0 (by decide) (hts _ (xU_sub _ q199)) (fun _ h9 => h9) rfl dX3_makeColorant_29 ?_
  refine lv_iconst (v := 2) hx hb dX3_makeColorant_32 (by decide) ?_
  refine lv_iload_n hx hb dX3_makeColorant_33 rfl (lv_at hl 4 rfl) ?_
  obtain ⟨M4, eM4, hf⟩ := xl_s hf
  refine x_iast hx hb h (kX_colorant_values (isCo_of h0 c1)) (xin_in (by decide)) eM4 dX3_makeColorant_34 (fun H locs h => ?_)
  refine lv_aload hx hb dX3_makeColorant_35 (lv_at hl 0 rfl) ?_
  refine lv_bipush (v := 60) hx hb dX3_makeColorant_37 (by decide) ?_
  obtain ⟨M5, eM5, hf⟩ := xl_s hf
  refine x_put (own := RX3) (ref := "TintDesk$Colorant") (C := RX2) (T := TX2) (n := 10) (index := 72) (ty := .int) hx hb hts (fun w h => xU_sub w (inU2 w h)) tyX2 tyX2_ok nmX2 hown h (kX_colorant (isCo_of h0 c1)) rfl 1 (by decide) (hts _ (xU_sub _ q200)) (fun _ h9 => h9) rfl (by decide +kernel) rfl rfl (Nat.le_of_ble_eq_true rfl) rfl eM5 dX3_makeColorant_39 (fun H locs h => ?_)
  refine lv_aload_n hx hb dX3_makeColorant_42 rfl (lv_at hl 1 rfl) ?_
  refine lv_dup hx hb dX3_makeColorant_43 rfl ?_
  refine x_get (own := RX3) (ref := "TintDesk$Desk") (C := RX3) (T := TX3) (n := 9) (index := 35) (v := .int (M5.1 k0 4)) hx hb hts (fun w h => xU_sub w (inU3 w h)) hown h (kX_desk h0) rfl 4 (by decide) (hts _ (xU_sub _ q50)) (fun _ h9 => h9) rfl dX3_makeColorant_44 ?_
  refine lv_iconst (v := 1) hx hb dX3_makeColorant_47 (by decide) ?_
  refine lv_iadd hx hb dX3_makeColorant_48 ?_
  obtain ⟨M6, eM6, hf⟩ := xl_s hf
  refine x_put (own := RX3) (ref := "TintDesk$Desk") (C := RX3) (T := TX3) (n := 9) (index := 35) (ty := .int) hx hb hts (fun w h => xU_sub w (inU3 w h)) tyX3 tyX3_ok nmX3 hown h (kX_desk h0) rfl 4 (by decide) (hts _ (xU_sub _ q50)) (fun _ h9 => h9) rfl (by decide +kernel) rfl rfl (Nat.le_of_ble_eq_true rfl) rfl eM6 dX3_makeColorant_49 (fun H locs h => ?_)
  refine lv_aload_n hx hb dX3_makeColorant_52 rfl (lv_at hl 1 rfl) ?_
  refine x_get (own := RX3) (ref := "TintDesk$Desk") (C := RX3) (T := TX3) (n := 9) (index := 35) (v := .int (M6.1 k0 4)) hx hb hts (fun w h => xU_sub w (inU3 w h)) hown h (kX_desk h0) rfl 4 (by decide) (hts _ (xU_sub _ q50)) (fun _ h9 => h9) rfl dX3_makeColorant_53 ?_
  refine lv_iconst (v := 1) hx hb dX3_makeColorant_56 (by decide) ?_
  refine lv_isub hx hb dX3_makeColorant_57 ?_
  exact x_iret hx hb h (Option.some.inj hf) hr hlocks dX3_makeColorant_58
theorem hdX3_makeBase : yX3_makeBase.cls = RX3 ∧ yX3_makeBase.cls ≠ "java/lang/invoke/MethodHandle" ∧ yX3_makeBase.cls ≠ "java/lang/invoke/VarHandle" ∧ (parseMethodDescriptor yX3_makeBase.desc).map (fun d => d.parameters.length) = some 4 := by decide +kernel
set_option maxHeartbeats 4000000 in
set_option maxRecDepth 100000 in
theorem m_X3_makeBase (l : Launch) {Γ : xG} {N : Nat} {k0 : Nat} (h0 : isDk k0) {v1 : Int32} {v2 : Int32} {v3 : Int32} {v4 : Int32} {M : xM} {res : xR} (hf : F_X3_makeBase N k0 v1 v2 v3 v4 M = some res) (sz : Nat) : Met l yX3_makeBase (xWs yX3_makeBase cX3_makeBase 6 (some .int)) ({ frames := 1, cells := 0, slots := 0, locals := 40 } : Room) (va_Pc [.ref (Γ.2.1 k0), .int v1, .int v2, .int v3, .int v4] (xPre Γ (wX Γ) M sz)) (xCi Γ (wX Γ) 1483 res sz) 0 0 (xAd Γ 1483 sz) := by
  refine x_met (Qc := fun sz => xCi Γ (wX Γ) 1483 res sz) pnX3 wG_W (Nat.le_of_ble_eq_true rfl) (fun p e s m args below meth c _ E h ls hl => ?_) sz
  obtain ⟨⟨hx, hb, hml, hown, hts⟩, hr, hlocks⟩ := id E
  have hl : lv_has ls 6 [(0, .ref (Γ.2.1 k0)), (1, .int v1), (2, .int v2), (3, .int v3), (4, .int v4)] := hl
  refine lv_aload_n hx hb dX3_makeBase_0 rfl (lv_at hl 0 rfl) ?_
  refine x_get (own := RX3) (ref := "TintDesk$Desk") (C := RX3) (T := TX3) (n := 9) (index := 19) (v := .ref (Γ.2.1 (k0 + 2))) hx hb hts (fun w h => xU_sub w (inU3 w h)) hown h (kX_desk h0) rfl 1 (by decide) (hts _ (xU_sub _ q45)) (fun _ h9 => h9) rfl dX3_makeBase_1 ?_
  refine lv_aload_n hx hb dX3_makeBase_4 rfl (lv_at hl 0 rfl) ?_
  refine x_get (own := RX3) (ref := "TintDesk$Desk") (C := RX3) (T := TX3) (n := 9) (index := 39) (v := .int (M.1 k0 5)) hx hb hts (fun w h => xU_sub w (inU3 w h)) hown h (kX_desk h0) rfl 5 (by decide) (hts _ (xU_sub _ q51)) (fun _ h9 => h9) rfl dX3_makeBase_5 ?_
  obtain ⟨c1, hf⟩ := xck_s hf
  refine x_aald (C := "TintDesk$Base") hx hb h rfl (kX_desk_bases h0) c1 dX3_makeBase_8 ?_
  refine lv_astore (lv' := [(5, .ref (Γ.2.1 (k0 + 45 + 2 * (M.1 k0 5).toNatClampNeg))), (0, .ref (Γ.2.1 k0)), (1, .int v1), (2, .int v2), (3, .int v3), (4, .int v4)]) hx hb dX3_makeBase_9 hl (by decide) rfl (fun ls hl => ?_)
  refine lv_aload hx hb dX3_makeBase_11 (lv_at hl 0 rfl) ?_
  refine x_get (own := RX3) (ref := "TintDesk$Base") (C := RX0) (T := TX0) (n := 3) (index := 75) (v := .ref (Γ.2.1 ((k0 + 45 + 2 * (M.1 k0 5).toNatClampNeg) + 1))) hx hb hts (fun w h => xU_sub w (inU0 w h)) hown h (kX_base (isBa_of h0 c1)) rfl 0 (by decide) (hts _ (xU_sub _ q389)) (fun _ h9 => h9) rfl dX3_makeBase_13 ?_
  refine lv_iconst (v := 0) hx hb dX3_makeBase_16 (by decide) ?_
  refine lv_iload_n hx hb dX3_makeBase_17 rfl (lv_at hl 2 rfl) ?_
  obtain ⟨M2, eM2, hf⟩ := xl_s hf
  refine x_iast hx hb h (kX_base_values (isBa_of h0 c1)) (xin_in (by decide)) eM2 dX3_makeBase_18 (fun H locs h => ?_)
  refine lv_aload hx hb dX3_makeBase_19 (lv_at hl 0 rfl) ?_
  refine x_get (own := RX3) (ref := "TintDesk$Base") (C := RX0) (T := TX0) (n := 3) (index := 75) (v := .ref (Γ.2.1 ((k0 + 45 + 2 * (M.1 k0 5).toNatClampNeg) + 1))) hx hb hts (fun w h => xU_sub w (inU0 w h)) hown h (kX_base (isBa_of h0 c1)) rfl 0 (by decide) (hts _ (xU_sub _ q389)) (fun _ h9 => h9) rfl dX3_makeBase_21 ?_
  refine lv_iconst (v := 1) hx hb dX3_makeBase_24 (by decide) ?_
  refine lv_iload_n hx hb dX3_makeBase_25 rfl (lv_at hl 3 rfl) ?_
  obtain ⟨M3, eM3, hf⟩ := xl_s hf
  refine x_iast hx hb h (kX_base_values (isBa_of h0 c1)) (xin_in (by decide)) eM3 dX3_makeBase_26 (fun H locs h => ?_)
  refine lv_aload hx hb dX3_makeBase_27 (lv_at hl 0 rfl) ?_
  refine x_get (own := RX3) (ref := "TintDesk$Base") (C := RX0) (T := TX0) (n := 3) (index := 75) (v := .ref (Γ.2.1 ((k0 + 45 + 2 * (M.1 k0 5).toNatClampNeg) + 1))) hx hb hts (fun w h => xU_sub w (inU0 w h)) hown h (kX_base (isBa_of h0 c1)) rfl 0 (by decide) (hts _ (xU_sub _ q389)) (fun _ h9 => h9) rfl dX3_makeBase_29 ?_
  refine lv_iconst (v := 2) hx hb dX3_makeBase_32 (by decide) ?_
  refine lv_iload_n hx hb dX3_makeBase_33 rfl (lv_at hl 4 rfl) ?_
  obtain ⟨M4, eM4, hf⟩ := xl_s hf
  refine x_iast hx hb h (kX_base_values (isBa_of h0 c1)) (xin_in (by decide)) eM4 dX3_makeBase_34 (fun H locs h => ?_)
  refine lv_aload hx hb dX3_makeBase_35 (lv_at hl 0 rfl) ?_
  refine lv_iload hx hb dX3_makeBase_37 (lv_at hl 5 rfl) ?_
  obtain ⟨M5, eM5, hf⟩ := xl_s hf
  refine x_put (own := RX3) (ref := "TintDesk$Base") (C := RX0) (T := TX0) (n := 3) (index := 76) (ty := .int) hx hb hts (fun w h => xU_sub w (inU0 w h)) tyX0 tyX0_ok nmX0 hown h (kX_base (isBa_of h0 c1)) rfl 1 (by decide) (hts _ (xU_sub _ q390)) (fun _ h9 => h9) rfl (by decide +kernel) rfl rfl (Nat.le_of_ble_eq_true rfl) rfl eM5 dX3_makeBase_39 (fun H locs h => ?_)
  refine lv_aload_n hx hb dX3_makeBase_42 rfl (lv_at hl 1 rfl) ?_
  refine lv_dup hx hb dX3_makeBase_43 rfl ?_
  refine x_get (own := RX3) (ref := "TintDesk$Desk") (C := RX3) (T := TX3) (n := 9) (index := 39) (v := .int (M5.1 k0 5)) hx hb hts (fun w h => xU_sub w (inU3 w h)) hown h (kX_desk h0) rfl 5 (by decide) (hts _ (xU_sub _ q51)) (fun _ h9 => h9) rfl dX3_makeBase_44 ?_
  refine lv_iconst (v := 1) hx hb dX3_makeBase_47 (by decide) ?_
  refine lv_iadd hx hb dX3_makeBase_48 ?_
  obtain ⟨M6, eM6, hf⟩ := xl_s hf
  refine x_put (own := RX3) (ref := "TintDesk$Desk") (C := RX3) (T := TX3) (n := 9) (index := 39) (ty := .int) hx hb hts (fun w h => xU_sub w (inU3 w h)) tyX3 tyX3_ok nmX3 hown h (kX_desk h0) rfl 5 (by decide) (hts _ (xU_sub _ q51)) (fun _ h9 => h9) rfl (by decide +kernel) rfl rfl (Nat.le_of_ble_eq_true rfl) rfl eM6 dX3_makeBase_49 (fun H locs h => ?_)
  refine lv_aload_n hx hb dX3_makeBase_52 rfl (lv_at hl 1 rfl) ?_
  refine x_get (own := RX3) (ref := "TintDesk$Desk") (C := RX3) (T := TX3) (n := 9) (index := 39) (v := .int (M6.1 k0 5)) hx hb hts (fun w h => xU_sub w (inU3 w h)) hown h (kX_desk h0) rfl 5 (by decide) (hts _ (xU_sub _ q51)) (fun _ h9 => h9) rfl dX3_makeBase_53 ?_
  refine lv_iconst (v := 1) hx hb dX3_makeBase_56 (by decide) ?_
  refine lv_isub hx hb dX3_makeBase_57 ?_
  exact x_iret hx hb h (Option.some.inj hf) hr hlocks dX3_makeBase_58
theorem hdX3_makeFormula : yX3_makeFormula.cls = RX3 ∧ yX3_makeFormula.cls ≠ "java/lang/invoke/MethodHandle" ∧ yX3_makeFormula.cls ≠ "java/lang/invoke/VarHandle" ∧ (parseMethodDescriptor yX3_makeFormula.desc).map (fun d => d.parameters.length) = some 1 := by decide +kernel
set_option maxHeartbeats 4000000 in
set_option maxRecDepth 100000 in
theorem w_X3_makeFormula_20 (l : Launch) {p : Program} {e : Env} {s : State} {m : MethodId} {args : Array Value} {below : List Frame} {meth : Method} {c : Code} {Γ : xG} {N : Nat} {k0 : Nat} {k2 : Nat} {res : xR} (E : xEv p s m args meth c RX3 cX3_makeFormula 4 (some .int) (xWs yX3_makeFormula cX3_makeFormula 4 (some .int))) (h0 : isDk k0) (h2 : isFo k2) : ∀ (n : Nat) (v3 : Int32) (M : xM), L_X3_makeFormula_20 N k0 k2 n v3 M = some res → ∀ (H : Heap) (locs : List Loc) (ls : Array Slot), xH Γ (wX Γ) 1483 s M H locs → lv_has ls 4 [(0, .ref (Γ.2.1 k0)), (1, .ref (Γ.2.1 1473)), (2, .ref (Γ.2.1 k2)), (3, .int v3)] → W p l e ({ frames := 1, cells := 0, slots := 0, locals := 40 } : Room) s m args below meth c H locs 0 0 (MQ below (xCi Γ (wX Γ) 1483 res s.heap.size) args s 0 0 (xAd Γ 1483 s.heap.size)) (F0 m 20 ls []) := by
  obtain ⟨⟨hx, hb, hml, hown, hts⟩, hr, hlocks⟩ := id E
  intro n
  induction n with
  | zero => intro v3 M hf; cases hf
  | succ n ih =>
    intro v3 M hf H locs ls h hl
    refine lv_iload_n hx hb dX3_makeFormula_20 rfl (lv_at hl 3 rfl) ?_
    refine lv_aload_n hx hb dX3_makeFormula_21 rfl (lv_at hl 0 rfl) ?_
    refine x_get (own := RX3) (ref := "TintDesk$Desk") (C := RX3) (T := TX3) (n := 9) (index := 35) (v := .int (M.1 k0 4)) hx hb hts (fun w h => xU_sub w (inU3 w h)) hown h (kX_desk h0) rfl 4 (by decide) (hts _ (xU_sub _ q50)) (fun _ h9 => h9) rfl dX3_makeFormula_22 ?_
    refine lv_icmp_ge (tgt := 50) hx hb dX3_makeFormula_25 (by decide) (fun c1 => ?_) (fun c1 => ?_)
    · replace hf := xif_t hf c1
      refine lv_aload_n hx hb dX3_makeFormula_50 rfl (lv_at hl 0 rfl) ?_
      refine lv_dup hx hb dX3_makeFormula_51 rfl ?_
      refine x_get (own := RX3) (ref := "TintDesk$Desk") (C := RX3) (T := TX3) (n := 9) (index := 42) (v := .int (M.1 k0 6)) hx hb hts (fun w h => xU_sub w (inU3 w h)) hown h (kX_desk h0) rfl 6 (by decide) (hts _ (xU_sub _ q52)) (fun _ h9 => h9) rfl dX3_makeFormula_52 ?_
      refine lv_iconst (v := 1) hx hb dX3_makeFormula_55 (by decide) ?_
      refine lv_iadd hx hb dX3_makeFormula_56 ?_
      obtain ⟨M2, eM2, hf⟩ := xl_s hf
      refine x_put (own := RX3) (ref := "TintDesk$Desk") (C := RX3) (T := TX3) (n := 9) (index := 42) (ty := .int) hx hb hts (fun w h => xU_sub w (inU3 w h)) tyX3 tyX3_ok nmX3 hown h (kX_desk h0) rfl 6 (by decide) (hts _ (xU_sub _ q52)) (fun _ h9 => h9) rfl (by decide +kernel) rfl rfl (Nat.le_of_ble_eq_true rfl) rfl eM2 dX3_makeFormula_57 (fun H locs h => ?_)
      refine lv_aload_n hx hb dX3_makeFormula_60 rfl (lv_at hl 0 rfl) ?_
      refine x_get (own := RX3) (ref := "TintDesk$Desk") (C := RX3) (T := TX3) (n := 9) (index := 42) (v := .int (M2.1 k0 6)) hx hb hts (fun w h => xU_sub w (inU3 w h)) hown h (kX_desk h0) rfl 6 (by decide) (hts _ (xU_sub _ q52)) (fun _ h9 => h9) rfl dX3_makeFormula_61 ?_
      refine lv_iconst (v := 1) hx hb dX3_makeFormula_64 (by decide) ?_
      refine lv_isub hx hb dX3_makeFormula_65 ?_
      exact x_iret hx hb h (Option.some.inj hf) hr hlocks dX3_makeFormula_66
    · replace hf := xif_f hf c1
      refine lv_aload_n hx hb dX3_makeFormula_28 rfl (lv_at hl 2 rfl) ?_
      refine x_get (own := RX3) (ref := "TintDesk$Formula") (C := RX4) (T := TX4) (n := 3) (index := 85) (v := .ref (Γ.2.1 (k2 + 1))) hx hb hts (fun w h => xU_sub w (inU4 w h)) hown h (kX_formula h2) rfl 1 (by decide) (hts _ (xU_sub _ q511)) (fun _ h9 => h9) rfl dX3_makeFormula_29 ?_
      refine lv_iload_n hx hb dX3_makeFormula_32 rfl (lv_at hl 3 rfl) ?_
      refine lv_aload_n hx hb dX3_makeFormula_33 rfl (lv_at hl 1 rfl) ?_
      refine x_get (own := RX3) (ref := "TintDesk$FormulaText") (C := RX5) (T := TX5) (n := 5) (index := 88) (v := .ref (Γ.2.1 1475)) hx hb hts (fun w h => xU_sub w (inU5 w h)) hown h kX_text rfl 4 (by decide) (hts _ (xU_sub _ q512)) (fun _ h9 => h9) rfl dX3_makeFormula_34 ?_
      refine lv_iload_n hx hb dX3_makeFormula_37 rfl (lv_at hl 3 rfl) ?_
      obtain ⟨c3, hf⟩ := xck_s hf
      refine x_iald hx hb h kX_text_amounts (xin_in c3) dX3_makeFormula_38 ?_
      refine lv_iconst (v := 0) hx hb dX3_makeFormula_39 (by decide) ?_
      refine va_mmax hx hb (hml.trans hl.1.symm) hown (hts _ (xU_sub _ q513)) (hts _ (xU_sub _ q514)) (hts _ (xU_sub _ q166)) (hts _ (xU_sub _ q515)) (Nat.le_of_ble_eq_true rfl) (Nat.le_of_ble_eq_true rfl) (Nat.le_of_ble_eq_true rfl) (Nat.le_of_ble_eq_true rfl) dX3_makeFormula_40 ?_
      obtain ⟨c4, hf⟩ := xck_s hf
      obtain ⟨M5, eM5, hf⟩ := xl_s hf
      refine x_iast hx hb h (kX_formula_amounts h2) (xin_in c4) eM5 dX3_makeFormula_43 (fun H locs h => ?_)
      obtain ⟨y6, ey6, hf⟩ := xl_s hf
      refine lv_iinc (v := y6) (lv' := [(3, .int y6), (0, .ref (Γ.2.1 k0)), (1, .ref (Γ.2.1 1473)), (2, .ref (Γ.2.1 k2))]) hx hb dX3_makeFormula_44 hl (k := 3) rfl (by rw [ey6]; rfl) (by decide) rfl (fun ls hl => ?_)
      refine lv_goto (tgt := 20) hx hb dX3_makeFormula_47 (by decide) ?_
      exact ih y6 M5 hf _ _ _ h (lv_sub hl [1, 2, 3, 0] rfl)
set_option maxHeartbeats 4000000 in
set_option maxRecDepth 100000 in
theorem m_X3_makeFormula (l : Launch) {Γ : xG} {N : Nat} {k0 : Nat} (h0 : isDk k0) {M : xM} {res : xR} (hf : F_X3_makeFormula N k0 M = some res) (sz : Nat) : Met l yX3_makeFormula (xWs yX3_makeFormula cX3_makeFormula 4 (some .int)) ({ frames := 1, cells := 0, slots := 0, locals := 40 } : Room) (va_Pc [.ref (Γ.2.1 k0), .ref (Γ.2.1 1473)] (xPre Γ (wX Γ) M sz)) (xCi Γ (wX Γ) 1483 res sz) 0 0 (xAd Γ 1483 sz) := by
  refine x_met (Qc := fun sz => xCi Γ (wX Γ) 1483 res sz) pnX3 wG_W (Nat.le_of_ble_eq_true rfl) (fun p e s m args below meth c _ E h ls hl => ?_) sz
  obtain ⟨⟨hx, hb, hml, hown, hts⟩, hr, hlocks⟩ := id E
  have hl : lv_has ls 4 [(0, .ref (Γ.2.1 k0)), (1, .ref (Γ.2.1 1473))] := hl
  refine lv_aload_n hx hb dX3_makeFormula_0 rfl (lv_at hl 0 rfl) ?_
  refine x_get (own := RX3) (ref := "TintDesk$Desk") (C := RX3) (T := TX3) (n := 9) (index := 25) (v := .ref (Γ.2.1 (k0 + 3))) hx hb hts (fun w h => xU_sub w (inU3 w h)) hown h (kX_desk h0) rfl 2 (by decide) (hts _ (xU_sub _ q47)) (fun _ h9 => h9) rfl dX3_makeFormula_1 ?_
  refine lv_aload_n hx hb dX3_makeFormula_4 rfl (lv_at hl 0 rfl) ?_
  refine x_get (own := RX3) (ref := "TintDesk$Desk") (C := RX3) (T := TX3) (n := 9) (index := 42) (v := .int (M.1 k0 6)) hx hb hts (fun w h => xU_sub w (inU3 w h)) hown h (kX_desk h0) rfl 6 (by decide) (hts _ (xU_sub _ q52)) (fun _ h9 => h9) rfl dX3_makeFormula_5 ?_
  obtain ⟨c1, hf⟩ := xck_s hf
  refine x_aald (C := "TintDesk$Formula") hx hb h rfl (kX_desk_formulas h0) c1 dX3_makeFormula_8 ?_
  refine lv_astore_n (lv' := [(2, .ref (Γ.2.1 (k0 + 57 + 3 * (M.1 k0 6).toNatClampNeg))), (0, .ref (Γ.2.1 k0)), (1, .ref (Γ.2.1 1473))]) hx hb dX3_makeFormula_9 rfl hl (by decide) rfl (fun ls hl => ?_)
  refine lv_aload_n hx hb dX3_makeFormula_10 rfl (lv_at hl 0 rfl) ?_
  refine lv_aload_n hx hb dX3_makeFormula_11 rfl (lv_at hl 2 rfl) ?_
  refine x_get (own := RX3) (ref := "TintDesk$FormulaText") (C := RX5) (T := TX5) (n := 5) (index := 79) (v := .int (M.1 1473 3)) hx hb hts (fun w h => xU_sub w (inU5 w h)) hown h kX_text rfl 3 (by decide) (hts _ (xU_sub _ q501)) (fun _ h9 => h9) rfl dX3_makeFormula_12 ?_
  obtain ⟨M2, eM2, hf⟩ := xl_s hf
  refine x_put (own := RX3) (ref := "TintDesk$Formula") (C := RX4) (T := TX4) (n := 3) (index := 84) (ty := .int) hx hb hts (fun w h => xU_sub w (inU4 w h)) tyX4 tyX4_ok nmX4 hown h (kX_formula (isFo_of h0 c1)) rfl 0 (by decide) (hts _ (xU_sub _ q510)) (fun _ h9 => h9) rfl (by decide +kernel) rfl rfl (Nat.le_of_ble_eq_true rfl) rfl eM2 dX3_makeFormula_15 (fun H locs h => ?_)
  refine lv_iconst (v := 0) hx hb dX3_makeFormula_18 (by decide) ?_
  refine lv_istore_n (lv' := [(3, .int 0), (2, .ref (Γ.2.1 (k0 + 57 + 3 * (M.1 k0 6).toNatClampNeg))), (0, .ref (Γ.2.1 k0)), (1, .ref (Γ.2.1 1473))]) hx hb dX3_makeFormula_19 rfl hl (by decide) rfl (fun ls hl => ?_)
  exact w_X3_makeFormula_20 l E h0 (isFo_of h0 c1) N 0 M2 hf _ _ _ h (lv_sub hl [2, 3, 1, 0] rfl)
theorem hdX3_makeCan : yX3_makeCan.cls = RX3 ∧ yX3_makeCan.cls ≠ "java/lang/invoke/MethodHandle" ∧ yX3_makeCan.cls ≠ "java/lang/invoke/VarHandle" ∧ (parseMethodDescriptor yX3_makeCan.desc).map (fun d => d.parameters.length) = some 1 := by decide +kernel
set_option maxHeartbeats 4000000 in
set_option maxRecDepth 100000 in
theorem w_X3_makeCan_33 (l : Launch) {p : Program} {e : Env} {s : State} {m : MethodId} {args : Array Value} {below : List Frame} {meth : Method} {c : Code} {Γ : xG} {N : Nat} {k0 : Nat} {k2 : Nat} {k3 : Nat} {res : xR} (E : xEv p s m args meth c RX3 cX3_makeCan 5 (some .int) (xWs yX3_makeCan cX3_makeCan 5 (some .int))) (h0 : isDk k0) (h2 : isFo k2) (h3 : isCa k3) : ∀ (n : Nat) (v4 : Int32) (M : xM), L_X3_makeCan_33 N k0 k2 k3 n v4 M = some res → ∀ (H : Heap) (locs : List Loc) (ls : Array Slot), xH Γ (wX Γ) 1483 s M H locs → lv_has ls 5 [(0, .ref (Γ.2.1 k0)), (2, .ref (Γ.2.1 k2)), (3, .ref (Γ.2.1 k3)), (4, .int v4)] → W p l e ({ frames := 3, cells := 0, slots := 0, locals := 88 } : Room) s m args below meth c H locs 0 0 (MQ below (xCi Γ (wX Γ) 1483 res s.heap.size) args s 0 0 (xAd Γ 1483 s.heap.size)) (F0 m 33 ls []) := by
  obtain ⟨⟨hx, hb, hml, hown, hts⟩, hr, hlocks⟩ := id E
  intro n
  induction n with
  | zero => intro v4 M hf; cases hf
  | succ n ih =>
    intro v4 M hf H locs ls h hl
    refine lv_iload hx hb dX3_makeCan_33 (lv_at hl 3 rfl) ?_
    refine lv_aload_n hx hb dX3_makeCan_35 rfl (lv_at hl 0 rfl) ?_
    refine x_get (own := RX3) (ref := "TintDesk$Desk") (C := RX3) (T := TX3) (n := 9) (index := 35) (v := .int (M.1 k0 4)) hx hb hts (fun w h => xU_sub w (inU3 w h)) hown h (kX_desk h0) rfl 4 (by decide) (hts _ (xU_sub _ q50)) (fun _ h9 => h9) rfl dX3_makeCan_36 ?_
    refine lv_icmp_ge (tgt := 74) hx hb dX3_makeCan_39 (by decide) (fun c1 => ?_) (fun c1 => ?_)
    · replace hf := xif_t hf c1
      refine lv_aload_n hx hb dX3_makeCan_74 rfl (lv_at hl 0 rfl) ?_
      refine x_get (own := RX3) (ref := "TintDesk$Desk") (C := RX3) (T := TX3) (n := 9) (index := 19) (v := .ref (Γ.2.1 (k0 + 2))) hx hb hts (fun w h => xU_sub w (inU3 w h)) hown h (kX_desk h0) rfl 1 (by decide) (hts _ (xU_sub _ q45)) (fun _ h9 => h9) rfl dX3_makeCan_75 ?_
      refine lv_aload_n hx hb dX3_makeCan_78 rfl (lv_at hl 1 rfl) ?_
      refine x_get (own := RX3) (ref := "TintDesk$Formula") (C := RX4) (T := TX4) (n := 3) (index := 84) (v := .int (M.1 k2 0)) hx hb hts (fun w h => xU_sub w (inU4 w h)) hown h (kX_formula h2) rfl 0 (by decide) (hts _ (xU_sub _ q510)) (fun _ h9 => h9) rfl dX3_makeCan_79 ?_
      obtain ⟨c2, hf⟩ := xck_s hf
      refine x_aald (C := "TintDesk$Base") hx hb h rfl (kX_desk_bases h0) c2 dX3_makeCan_82 ?_
      refine lv_dup hx hb dX3_makeCan_83 rfl ?_
      refine x_get (own := RX3) (ref := "TintDesk$Base") (C := RX0) (T := TX0) (n := 3) (index := 110) (v := .int (M.1 (k0 + 45 + 2 * (M.1 k2 0).toNatClampNeg) 2)) hx hb hts (fun w h => xU_sub w (inU0 w h)) hown h (kX_base (isBa_of h0 c2)) rfl 2 (by decide) (hts _ (xU_sub _ q427)) (fun _ h9 => h9) rfl dX3_makeCan_84 ?_
      refine lv_iconst (v := 1) hx hb dX3_makeCan_87 (by decide) ?_
      refine lv_isub hx hb dX3_makeCan_88 ?_
      obtain ⟨M3, eM3, hf⟩ := xl_s hf
      refine x_put (own := RX3) (ref := "TintDesk$Base") (C := RX0) (T := TX0) (n := 3) (index := 110) (ty := .int) hx hb hts (fun w h => xU_sub w (inU0 w h)) tyX0 tyX0_ok nmX0 hown h (kX_base (isBa_of h0 c2)) rfl 2 (by decide) (hts _ (xU_sub _ q427)) (fun _ h9 => h9) rfl (by decide +kernel) rfl rfl (Nat.le_of_ble_eq_true rfl) rfl eM3 dX3_makeCan_89 (fun H locs h => ?_)
      refine lv_aload_n hx hb dX3_makeCan_92 rfl (lv_at hl 0 rfl) ?_
      refine lv_dup hx hb dX3_makeCan_93 rfl ?_
      refine x_get (own := RX3) (ref := "TintDesk$Desk") (C := RX3) (T := TX3) (n := 9) (index := 45) (v := .int (M3.1 k0 7)) hx hb hts (fun w h => xU_sub w (inU3 w h)) hown h (kX_desk h0) rfl 7 (by decide) (hts _ (xU_sub _ q53)) (fun _ h9 => h9) rfl dX3_makeCan_94 ?_
      refine lv_iconst (v := 1) hx hb dX3_makeCan_97 (by decide) ?_
      refine lv_iadd hx hb dX3_makeCan_98 ?_
      obtain ⟨M4, eM4, hf⟩ := xl_s hf
      refine x_put (own := RX3) (ref := "TintDesk$Desk") (C := RX3) (T := TX3) (n := 9) (index := 45) (ty := .int) hx hb hts (fun w h => xU_sub w (inU3 w h)) tyX3 tyX3_ok nmX3 hown h (kX_desk h0) rfl 7 (by decide) (hts _ (xU_sub _ q53)) (fun _ h9 => h9) rfl (by decide +kernel) rfl rfl (Nat.le_of_ble_eq_true rfl) rfl eM4 dX3_makeCan_99 (fun H locs h => ?_)
      refine lv_aload_n hx hb dX3_makeCan_102 rfl (lv_at hl 0 rfl) ?_
      refine x_get (own := RX3) (ref := "TintDesk$Desk") (C := RX3) (T := TX3) (n := 9) (index := 45) (v := .int (M4.1 k0 7)) hx hb hts (fun w h => xU_sub w (inU3 w h)) hown h (kX_desk h0) rfl 7 (by decide) (hts _ (xU_sub _ q53)) (fun _ h9 => h9) rfl dX3_makeCan_103 ?_
      refine lv_iconst (v := 1) hx hb dX3_makeCan_106 (by decide) ?_
      refine lv_isub hx hb dX3_makeCan_107 ?_
      exact x_iret hx hb h (Option.some.inj hf) hr hlocks dX3_makeCan_108
    · replace hf := xif_f hf c1
      refine lv_aload_n hx hb dX3_makeCan_42 rfl (lv_at hl 0 rfl) ?_
      refine x_get (own := RX3) (ref := "TintDesk$Desk") (C := RX3) (T := TX3) (n := 9) (index := 11) (v := .ref (Γ.2.1 (k0 + 1))) hx hb hts (fun w h => xU_sub w (inU3 w h)) hown h (kX_desk h0) rfl 0 (by decide) (hts _ (xU_sub _ q43)) (fun _ h9 => h9) rfl dX3_makeCan_43 ?_
      refine lv_iload hx hb dX3_makeCan_46 (lv_at hl 3 rfl) ?_
      obtain ⟨c5, hf⟩ := xck_s hf
      refine x_aald (C := "TintDesk$Colorant") hx hb h rfl (kX_desk_colorants h0) c5 dX3_makeCan_48 ?_
      refine lv_aload_n hx hb dX3_makeCan_49 rfl (lv_at hl 2 rfl) ?_
      refine lv_iload hx hb dX3_makeCan_50 (lv_at hl 3 rfl) ?_
      refine lv_aload_n hx hb dX3_makeCan_52 rfl (lv_at hl 1 rfl) ?_
      refine lv_iload hx hb dX3_makeCan_53 (lv_at hl 3 rfl) ?_
      refine lv_iconst (v := 1) hx hb dX3_makeCan_55 (by decide) ?_
      obtain ⟨r6, er6, hf⟩ := xbd_s hf
      refine x_Vi (As := [.int v4, .int 1]) (rest := [.int v4, .ref (Γ.2.1 k3), .ref (Γ.2.1 (k0 + 5 + 5 * v4.toNatClampNeg))]) E.1 (m_X4_stepsForCans l h2 er6) (cwV 2 hts (xgV xU_sub q649 q650 q651 q60 q652) rfl rfl rfl hdX4_stepsForCans ⟨Nat.le_of_ble_eq_true rfl, Nat.le_of_ble_eq_true rfl⟩) h (kX_formula h2) rfl rfl hl.1 rfl (Nat.le_of_ble_eq_true rfl) dX3_makeCan_56 ⟨Nat.le_of_ble_eq_true rfl, Nat.le_of_ble_eq_true rfl⟩ (fun H locs h => ?_)
      obtain ⟨r7, er7, hf⟩ := xbd_s hf
      refine x_Vv (As := [.ref (Γ.2.1 k3), .int v4, .int r6.2]) (rest := []) E.1 (m_X2_pumpInto l (isCo_of h0 c5) h3 er7) (cwV 3 hts (xgV xU_sub q663 q664 q665 q56 q666) rfl rfl rfl hdX2_pumpInto ⟨Nat.le_of_ble_eq_true rfl, Nat.le_of_ble_eq_true rfl⟩) h (kX_colorant (isCo_of h0 c5)) rfl rfl hl.1 rfl (Nat.le_of_ble_eq_true rfl) dX3_makeCan_59 ⟨Nat.le_of_ble_eq_true rfl, Nat.le_of_ble_eq_true rfl⟩ (fun H locs h => ?_)
      refine lv_aload_n hx hb dX3_makeCan_62 rfl (lv_at hl 1 rfl) ?_
      refine lv_iload hx hb dX3_makeCan_63 (lv_at hl 3 rfl) ?_
      obtain ⟨r8, er8, hf⟩ := xbd_s hf
      refine x_Vv (As := [.int v4]) (rest := []) E.1 (m_X4_carryOn l h2 er8) (cwV 1 hts (xgV xU_sub q673 q674 q675 q60 q676) rfl rfl rfl hdX4_carryOn ⟨Nat.le_of_ble_eq_true rfl, Nat.le_of_ble_eq_true rfl⟩) h (kX_formula h2) rfl rfl hl.1 rfl (Nat.le_of_ble_eq_true rfl) dX3_makeCan_65 ⟨Nat.le_of_ble_eq_true rfl, Nat.le_of_ble_eq_true rfl⟩ (fun H locs h => ?_)
      obtain ⟨y9, ey9, hf⟩ := xl_s hf
      refine lv_iinc (v := y9) (lv' := [(4, .int y9), (0, .ref (Γ.2.1 k0)), (2, .ref (Γ.2.1 k2)), (3, .ref (Γ.2.1 k3))]) hx hb dX3_makeCan_68 hl (k := 3) rfl (by rw [ey9]; rfl) (by decide) rfl (fun ls hl => ?_)
      refine lv_goto (tgt := 33) hx hb dX3_makeCan_71 (by decide) ?_
      exact ih y9 r8.1 hf _ _ _ h (lv_sub hl [1, 2, 3, 0] rfl)
set_option maxHeartbeats 4000000 in
set_option maxRecDepth 100000 in
theorem m_X3_makeCan (l : Launch) {Γ : xG} {N : Nat} {k0 : Nat} (h0 : isDk k0) {v1 : Int32} {M : xM} {res : xR} (hf : F_X3_makeCan N k0 v1 M = some res) (sz : Nat) : Met l yX3_makeCan (xWs yX3_makeCan cX3_makeCan 5 (some .int)) ({ frames := 3, cells := 0, slots := 0, locals := 88 } : Room) (va_Pc [.ref (Γ.2.1 k0), .int v1] (xPre Γ (wX Γ) M sz)) (xCi Γ (wX Γ) 1483 res sz) 0 0 (xAd Γ 1483 sz) := by
  refine x_met (Qc := fun sz => xCi Γ (wX Γ) 1483 res sz) pnX3 wG_W (Nat.le_of_ble_eq_true rfl) (fun p e s m args below meth c _ E h ls hl => ?_) sz
  obtain ⟨⟨hx, hb, hml, hown, hts⟩, hr, hlocks⟩ := id E
  have hl : lv_has ls 5 [(0, .ref (Γ.2.1 k0)), (1, .int v1)] := hl
  refine lv_aload_n hx hb dX3_makeCan_0 rfl (lv_at hl 0 rfl) ?_
  refine x_get (own := RX3) (ref := "TintDesk$Desk") (C := RX3) (T := TX3) (n := 9) (index := 25) (v := .ref (Γ.2.1 (k0 + 3))) hx hb hts (fun w h => xU_sub w (inU3 w h)) hown h (kX_desk h0) rfl 2 (by decide) (hts _ (xU_sub _ q47)) (fun _ h9 => h9) rfl dX3_makeCan_1 ?_
  refine lv_iload_n hx hb dX3_makeCan_4 rfl (lv_at hl 1 rfl) ?_
  obtain ⟨c1, hf⟩ := xck_s hf
  refine x_aald (C := "TintDesk$Formula") hx hb h rfl (kX_desk_formulas h0) c1 dX3_makeCan_5 ?_
  refine lv_astore_n (lv' := [(2, .ref (Γ.2.1 (k0 + 57 + 3 * v1.toNatClampNeg))), (0, .ref (Γ.2.1 k0)), (1, .int v1)]) hx hb dX3_makeCan_6 rfl hl (by decide) rfl (fun ls hl => ?_)
  refine lv_aload_n hx hb dX3_makeCan_7 rfl (lv_at hl 1 rfl) ?_
  refine x_get (own := RX3) (ref := "TintDesk$Desk") (C := RX3) (T := TX3) (n := 9) (index := 31) (v := .ref (Γ.2.1 (k0 + 4))) hx hb hts (fun w h => xU_sub w (inU3 w h)) hown h (kX_desk h0) rfl 3 (by decide) (hts _ (xU_sub _ q49)) (fun _ h9 => h9) rfl dX3_makeCan_8 ?_
  refine lv_aload_n hx hb dX3_makeCan_11 rfl (lv_at hl 1 rfl) ?_
  refine x_get (own := RX3) (ref := "TintDesk$Desk") (C := RX3) (T := TX3) (n := 9) (index := 45) (v := .int (M.1 k0 7)) hx hb hts (fun w h => xU_sub w (inU3 w h)) hown h (kX_desk h0) rfl 7 (by decide) (hts _ (xU_sub _ q53)) (fun _ h9 => h9) rfl dX3_makeCan_12 ?_
  obtain ⟨c2, hf⟩ := xck_s hf
  refine x_aald (C := "TintDesk$Can") hx hb h rfl (kX_desk_cans h0) c2 dX3_makeCan_15 ?_
  refine lv_astore_n (lv' := [(3, .ref (Γ.2.1 (k0 + 87 + 3 * (M.1 k0 7).toNatClampNeg))), (2, .ref (Γ.2.1 (k0 + 57 + 3 * v1.toNatClampNeg))), (0, .ref (Γ.2.1 k0)), (1, .int v1)]) hx hb dX3_makeCan_16 rfl hl (by decide) rfl (fun ls hl => ?_)
  refine lv_aload_n hx hb dX3_makeCan_17 rfl (lv_at hl 0 rfl) ?_
  refine lv_iload_n hx hb dX3_makeCan_18 rfl (lv_at hl 3 rfl) ?_
  obtain ⟨M3, eM3, hf⟩ := xl_s hf
  refine x_put (own := RX3) (ref := "TintDesk$Can") (C := RX1) (T := TX1) (n := 6) (index := 95) (ty := .int) hx hb hts (fun w h => xU_sub w (inU1 w h)) tyX1 tyX1_ok nmX1 hown h (kX_can (isCa_of h0 c2)) rfl 0 (by decide) (hts _ (xU_sub _ q613)) (fun _ h9 => h9) rfl (by decide +kernel) rfl rfl (Nat.le_of_ble_eq_true rfl) rfl eM3 dX3_makeCan_19 (fun H locs h => ?_)
  refine lv_aload_n hx hb dX3_makeCan_22 rfl (lv_at hl 0 rfl) ?_
  refine lv_aload_n hx hb dX3_makeCan_23 rfl (lv_at hl 1 rfl) ?_
  refine x_get (own := RX3) (ref := "TintDesk$Formula") (C := RX4) (T := TX4) (n := 3) (index := 84) (v := .int (M3.1 (k0 + 57 + 3 * v1.toNatClampNeg) 0)) hx hb hts (fun w h => xU_sub w (inU4 w h)) hown h (kX_formula (isFo_of h0 c1)) rfl 0 (by decide) (hts _ (xU_sub _ q510)) (fun _ h9 => h9) rfl dX3_makeCan_24 ?_
  obtain ⟨M4, eM4, hf⟩ := xl_s hf
  refine x_put (own := RX3) (ref := "TintDesk$Can") (C := RX1) (T := TX1) (n := 6) (index := 98) (ty := .int) hx hb hts (fun w h => xU_sub w (inU1 w h)) tyX1 tyX1_ok nmX1 hown h (kX_can (isCa_of h0 c2)) rfl 1 (by decide) (hts _ (xU_sub _ q432)) (fun _ h9 => h9) rfl (by decide +kernel) rfl rfl (Nat.le_of_ble_eq_true rfl) rfl eM4 dX3_makeCan_27 (fun H locs h => ?_)
  refine lv_iconst (v := 0) hx hb dX3_makeCan_30 (by decide) ?_
  refine lv_istore (lv' := [(4, .int 0), (3, .ref (Γ.2.1 (k0 + 87 + 3 * (M.1 k0 7).toNatClampNeg))), (2, .ref (Γ.2.1 (k0 + 57 + 3 * v1.toNatClampNeg))), (0, .ref (Γ.2.1 k0)), (1, .int v1)]) hx hb dX3_makeCan_31 hl (by decide) rfl (fun ls hl => ?_)
  exact w_X3_makeCan_33 l E h0 (isFo_of h0 c1) (isCa_of h0 c2) N 0 M4 hf _ _ _ h (lv_sub hl [3, 2, 1, 0] rfl)
theorem hdX3_whyNoFormula : yX3_whyNoFormula.cls = RX3 ∧ yX3_whyNoFormula.cls ≠ "java/lang/invoke/MethodHandle" ∧ yX3_whyNoFormula.cls ≠ "java/lang/invoke/VarHandle" ∧ (parseMethodDescriptor yX3_whyNoFormula.desc).map (fun d => d.parameters.length) = some 1 := by decide +kernel
set_option maxHeartbeats 4000000 in
set_option maxRecDepth 100000 in
theorem m_X3_whyNoFormula (l : Launch) {Γ : xG} {N : Nat} {k0 : Nat} (h0 : isDk k0) {M : xM} {res : xR} (hf : F_X3_whyNoFormula N k0 M = some res) (sz : Nat) : Met l yX3_whyNoFormula (xWs yX3_whyNoFormula cX3_whyNoFormula 2 (some .int)) ({ frames := 2, cells := 0, slots := 0, locals := 62 } : Room) (va_Pc [.ref (Γ.2.1 k0), .ref (Γ.2.1 1473)] (xPre Γ (wX Γ) M sz)) (xCi Γ (wX Γ) 1483 res sz) 0 0 (xAd Γ 1483 sz) := by
  refine x_met (Qc := fun sz => xCi Γ (wX Γ) 1483 res sz) pnX3 wG_W (Nat.le_of_ble_eq_true rfl) (fun p e s m args below meth c _ E h ls hl => ?_) sz
  obtain ⟨⟨hx, hb, hml, hown, hts⟩, hr, hlocks⟩ := id E
  have hl : lv_has ls 2 [(0, .ref (Γ.2.1 k0)), (1, .ref (Γ.2.1 1473))] := hl
  refine lv_aload_n hx hb dX3_whyNoFormula_0 rfl (lv_at hl 1 rfl) ?_
  refine x_get (own := RX3) (ref := "TintDesk$FormulaText") (C := RX5) (T := TX5) (n := 5) (index := 79) (v := .int (M.1 1473 3)) hx hb hts (fun w h => xU_sub w (inU5 w h)) hown h kX_text rfl 3 (by decide) (hts _ (xU_sub _ q501)) (fun _ h9 => h9) rfl dX3_whyNoFormula_1 ?_
  refine lv_aload_n hx hb dX3_whyNoFormula_4 rfl (lv_at hl 0 rfl) ?_
  refine x_get (own := RX3) (ref := "TintDesk$Desk") (C := RX3) (T := TX3) (n := 9) (index := 39) (v := .int (M.1 k0 5)) hx hb hts (fun w h => xU_sub w (inU3 w h)) hown h (kX_desk h0) rfl 5 (by decide) (hts _ (xU_sub _ q51)) (fun _ h9 => h9) rfl dX3_whyNoFormula_5 ?_
  refine lv_icmp_ge (tgt := 22) hx hb dX3_whyNoFormula_8 (by decide) (fun c1 => ?_) (fun c1 => ?_)
  · replace hf := xif_t hf c1
    refine lv_iconst (v := 1) hx hb dX3_whyNoFormula_22 (by decide) ?_
    exact x_iret hx hb h (Option.some.inj hf) hr hlocks dX3_whyNoFormula_23
  · replace hf := xif_f hf c1
    refine lv_aload_n hx hb dX3_whyNoFormula_11 rfl (lv_at hl 1 rfl) ?_
    refine lv_aload_n hx hb dX3_whyNoFormula_12 rfl (lv_at hl 0 rfl) ?_
    refine x_get (own := RX3) (ref := "TintDesk$Desk") (C := RX3) (T := TX3) (n := 9) (index := 35) (v := .int (M.1 k0 4)) hx hb hts (fun w h => xU_sub w (inU3 w h)) hown h (kX_desk h0) rfl 4 (by decide) (hts _ (xU_sub _ q50)) (fun _ h9 => h9) rfl dX3_whyNoFormula_13 ?_
    obtain ⟨r2, er2, hf⟩ := xbd_s hf
    refine x_Vi (As := [.int (M.1 k0 4)]) (rest := []) E.1 (m_X5_namesFrom l er2) (cwV 1 hts (xgV xU_sub q502 q503 q504 q25 q505) rfl rfl rfl hdX5_namesFrom ⟨Nat.le_of_ble_eq_true rfl, Nat.le_of_ble_eq_true rfl⟩) h kX_text rfl rfl hl.1 rfl (Nat.le_of_ble_eq_true rfl) dX3_whyNoFormula_16 ⟨Nat.le_of_ble_eq_true rfl, Nat.le_of_ble_eq_true rfl⟩ (fun H locs h => ?_)
    refine lv_if_eq (tgt := 24) hx hb dX3_whyNoFormula_19 (by decide) (fun c3 => ?_) (fun c3 => ?_)
    · replace hf := xif_t hf c3
      refine lv_aload_n hx hb dX3_whyNoFormula_24 rfl (lv_at hl 0 rfl) ?_
      refine x_get (own := RX3) (ref := "TintDesk$Desk") (C := RX3) (T := TX3) (n := 9) (index := 42) (v := .int (r2.1.1 k0 6)) hx hb hts (fun w h => xU_sub w (inU3 w h)) hown h (kX_desk h0) rfl 6 (by decide) (hts _ (xU_sub _ q52)) (fun _ h9 => h9) rfl dX3_whyNoFormula_25 ?_
      refine lv_bipush (v := 10) hx hb dX3_whyNoFormula_28 (by decide) ?_
      refine lv_icmp_lt (tgt := 37) hx hb dX3_whyNoFormula_30 (by decide) (fun c4 => ?_) (fun c4 => ?_)
      · replace hf := xif_t hf c4
        refine lv_iconst (v := 0) hx hb dX3_whyNoFormula_37 (by decide) ?_
        exact x_iret hx hb h (Option.some.inj hf) hr hlocks dX3_whyNoFormula_38
      · replace hf := xif_f hf c4
        refine lv_iconst (v := 2) hx hb dX3_whyNoFormula_33 (by decide) ?_
        refine lv_goto (tgt := 38) hx hb dX3_whyNoFormula_34 (by decide) ?_
        exact x_iret hx hb h (Option.some.inj hf) hr hlocks dX3_whyNoFormula_38
    · replace hf := xif_f hf c3
      refine lv_iconst (v := 1) hx hb dX3_whyNoFormula_22 (by decide) ?_
      exact x_iret hx hb h (Option.some.inj hf) hr hlocks dX3_whyNoFormula_23
theorem hdX3_staysInLimit : yX3_staysInLimit.cls = RX3 ∧ yX3_staysInLimit.cls ≠ "java/lang/invoke/MethodHandle" ∧ yX3_staysInLimit.cls ≠ "java/lang/invoke/VarHandle" ∧ (parseMethodDescriptor yX3_staysInLimit.desc).map (fun d => d.parameters.length) = some 2 := by decide +kernel
set_option maxHeartbeats 4000000 in
set_option maxRecDepth 100000 in
theorem w_X3_staysInLimit_5 (l : Launch) {p : Program} {e : Env} {s : State} {m : MethodId} {args : Array Value} {below : List Frame} {meth : Method} {c : Code} {Γ : xG} {N : Nat} {k0 : Nat} {k1 : Nat} {res : xR} (E : xEv p s m args meth c RX3 cX3_staysInLimit 5 (some .boolean) (xWs yX3_staysInLimit cX3_staysInLimit 5 (some .boolean))) (h0 : isDk k0) (h1 : isFo k1) : ∀ (n : Nat) (v2 : Int32) (v3 : Int32) (v4 : Int32) (M : xM), L_X3_staysInLimit_5 N k0 k1 n v2 v3 v4 M = some res → ∀ (H : Heap) (locs : List Loc) (ls : Array Slot), xH Γ (wX Γ) 1483 s M H locs → lv_has ls 5 [(0, .ref (Γ.2.1 k0)), (1, .ref (Γ.2.1 k1)), (2, .int v2), (3, .int v3), (4, .int v4)] → W p l e ({ frames := 2, cells := 0, slots := 0, locals := 62 } : Room) s m args below meth c H locs 0 0 (MQ below (xCi Γ (wX Γ) 1483 res s.heap.size) args s 0 0 (xAd Γ 1483 s.heap.size)) (F0 m 5 ls []) := by
  obtain ⟨⟨hx, hb, hml, hown, hts⟩, hr, hlocks⟩ := id E
  intro n
  induction n with
  | zero => intro v2 v3 v4 M hf; cases hf
  | succ n ih =>
    intro v2 v3 v4 M hf H locs ls h hl
    refine lv_iload hx hb dX3_staysInLimit_5 (lv_at hl 4 rfl) ?_
    refine lv_aload_n hx hb dX3_staysInLimit_7 rfl (lv_at hl 0 rfl) ?_
    refine x_get (own := RX3) (ref := "TintDesk$Desk") (C := RX3) (T := TX3) (n := 9) (index := 35) (v := .int (M.1 k0 4)) hx hb hts (fun w h => xU_sub w (inU3 w h)) hown h (kX_desk h0) rfl 4 (by decide) (hts _ (xU_sub _ q50)) (fun _ h9 => h9) rfl dX3_staysInLimit_8 ?_
    refine lv_icmp_ge (tgt := 40) hx hb dX3_staysInLimit_11 (by decide) (fun c1 => ?_) (fun c1 => ?_)
    · replace hf := xif_t hf c1
      refine lv_iload_n hx hb dX3_staysInLimit_40 rfl (lv_at hl 3 rfl) ?_
      refine lv_aload_n hx hb dX3_staysInLimit_41 rfl (lv_at hl 0 rfl) ?_
      refine x_get (own := RX3) (ref := "TintDesk$Desk") (C := RX3) (T := TX3) (n := 9) (index := 19) (v := .ref (Γ.2.1 (k0 + 2))) hx hb hts (fun w h => xU_sub w (inU3 w h)) hown h (kX_desk h0) rfl 1 (by decide) (hts _ (xU_sub _ q45)) (fun _ h9 => h9) rfl dX3_staysInLimit_42 ?_
      refine lv_aload_n hx hb dX3_staysInLimit_45 rfl (lv_at hl 1 rfl) ?_
      refine x_get (own := RX3) (ref := "TintDesk$Formula") (C := RX4) (T := TX4) (n := 3) (index := 84) (v := .int (M.1 k1 0)) hx hb hts (fun w h => xU_sub w (inU4 w h)) hown h (kX_formula h1) rfl 0 (by decide) (hts _ (xU_sub _ q510)) (fun _ h9 => h9) rfl dX3_staysInLimit_46 ?_
      obtain ⟨c2, hf⟩ := xck_s hf
      refine x_aald (C := "TintDesk$Base") hx hb h rfl (kX_desk_bases h0) c2 dX3_staysInLimit_49 ?_
      refine x_get (own := RX3) (ref := "TintDesk$Base") (C := RX0) (T := TX0) (n := 3) (index := 76) (v := .int (M.1 (k0 + 45 + 2 * (M.1 k1 0).toNatClampNeg) 1)) hx hb hts (fun w h => xU_sub w (inU0 w h)) hown h (kX_base (isBa_of h0 c2)) rfl 1 (by decide) (hts _ (xU_sub _ q390)) (fun _ h9 => h9) rfl dX3_staysInLimit_50 ?_
      refine lv_icmp_gt (tgt := 60) hx hb dX3_staysInLimit_53 (by decide) (fun c3 => ?_) (fun c3 => ?_)
      · replace hf := xif_t hf c3
        refine lv_iconst (v := 0) hx hb dX3_staysInLimit_60 (by decide) ?_
        exact x_zret hx hb h (Option.some.inj hf) hr hlocks (by decide) dX3_staysInLimit_61
      · replace hf := xif_f hf c3
        refine lv_iconst (v := 1) hx hb dX3_staysInLimit_56 (by decide) ?_
        refine lv_goto (tgt := 61) hx hb dX3_staysInLimit_57 (by decide) ?_
        exact x_zret hx hb h (Option.some.inj hf) hr hlocks (by decide) dX3_staysInLimit_61
    · replace hf := xif_f hf c1
      refine lv_iload_n hx hb dX3_staysInLimit_14 rfl (lv_at hl 3 rfl) ?_
      refine lv_aload_n hx hb dX3_staysInLimit_15 rfl (lv_at hl 1 rfl) ?_
      refine lv_iload hx hb dX3_staysInLimit_16 (lv_at hl 4 rfl) ?_
      refine lv_iload_n hx hb dX3_staysInLimit_18 rfl (lv_at hl 2 rfl) ?_
      obtain ⟨r4, er4, hf⟩ := xbd_s hf
      refine x_Vi (As := [.int v4, .int v2]) (rest := [.int v3]) E.1 (m_X4_stepsForCans l h1 er4) (cwV 2 hts (xgV xU_sub q649 q650 q651 q60 q652) rfl rfl rfl hdX4_stepsForCans ⟨Nat.le_of_ble_eq_true rfl, Nat.le_of_ble_eq_true rfl⟩) h (kX_formula h1) rfl rfl hl.1 rfl (Nat.le_of_ble_eq_true rfl) dX3_staysInLimit_19 ⟨Nat.le_of_ble_eq_true rfl, Nat.le_of_ble_eq_true rfl⟩ (fun H locs h => ?_)
      refine lv_aload_n hx hb dX3_staysInLimit_22 rfl (lv_at hl 1 rfl) ?_
      refine lv_iload hx hb dX3_staysInLimit_23 (lv_at hl 4 rfl) ?_
      refine lv_iload_n hx hb dX3_staysInLimit_25 rfl (lv_at hl 2 rfl) ?_
      refine lv_iconst (v := 1) hx hb dX3_staysInLimit_26 (by decide) ?_
      refine lv_isub hx hb dX3_staysInLimit_27 ?_
      obtain ⟨r5, er5, hf⟩ := xbd_s hf
      refine x_Vi (As := [.int v4, .int (v2 - 1)]) (rest := [.int r4.2, .int v3]) E.1 (m_X4_stepsForCans l h1 er5) (cwV 2 hts (xgV xU_sub q649 q650 q651 q60 q652) rfl rfl rfl hdX4_stepsForCans ⟨Nat.le_of_ble_eq_true rfl, Nat.le_of_ble_eq_true rfl⟩) h (kX_formula h1) rfl rfl hl.1 rfl (Nat.le_of_ble_eq_true rfl) dX3_staysInLimit_28 ⟨Nat.le_of_ble_eq_true rfl, Nat.le_of_ble_eq_true rfl⟩ (fun H locs h => ?_)
      refine lv_isub hx hb dX3_staysInLimit_31 ?_
      refine lv_iadd hx hb dX3_staysInLimit_32 ?_
      obtain ⟨y6, ey6, hf⟩ := xl_s hf
      refine x_nm ey6 ?_
      refine lv_istore_n (lv' := [(3, .int y6), (0, .ref (Γ.2.1 k0)), (1, .ref (Γ.2.1 k1)), (2, .int v2), (4, .int v4)]) hx hb dX3_staysInLimit_33 rfl hl (by decide) rfl (fun ls hl => ?_)
      obtain ⟨y7, ey7, hf⟩ := xl_s hf
      refine lv_iinc (v := y7) (lv' := [(4, .int y7), (3, .int y6), (0, .ref (Γ.2.1 k0)), (1, .ref (Γ.2.1 k1)), (2, .int v2)]) hx hb dX3_staysInLimit_34 hl (k := 4) rfl (by rw [ey7]; rfl) (by decide) rfl (fun ls hl => ?_)
      refine lv_goto (tgt := 5) hx hb dX3_staysInLimit_37 (by decide) ?_
      exact ih v2 y6 y7 r5.1 hf _ _ _ h (lv_sub hl [2, 3, 4, 1, 0] rfl)
set_option maxHeartbeats 4000000 in
set_option maxRecDepth 100000 in
theorem m_X3_staysInLimit (l : Launch) {Γ : xG} {N : Nat} {k0 : Nat} {k1 : Nat} (h0 : isDk k0) (h1 : isFo k1) {v2 : Int32} {M : xM} {res : xR} (hf : F_X3_staysInLimit N k0 k1 v2 M = some res) (sz : Nat) : Met l yX3_staysInLimit (xWs yX3_staysInLimit cX3_staysInLimit 5 (some .boolean)) ({ frames := 2, cells := 0, slots := 0, locals := 62 } : Room) (va_Pc [.ref (Γ.2.1 k0), .ref (Γ.2.1 k1), .int v2] (xPre Γ (wX Γ) M sz)) (xCi Γ (wX Γ) 1483 res sz) 0 0 (xAd Γ 1483 sz) := by
  refine x_met (Qc := fun sz => xCi Γ (wX Γ) 1483 res sz) pnX3 wG_W (Nat.le_of_ble_eq_true rfl) (fun p e s m args below meth c _ E h ls hl => ?_) sz
  obtain ⟨⟨hx, hb, hml, hown, hts⟩, hr, hlocks⟩ := id E
  have hl : lv_has ls 5 [(0, .ref (Γ.2.1 k0)), (1, .ref (Γ.2.1 k1)), (2, .int v2)] := hl
  refine lv_iconst (v := 0) hx hb dX3_staysInLimit_0 (by decide) ?_
  refine lv_istore_n (lv' := [(3, .int 0), (0, .ref (Γ.2.1 k0)), (1, .ref (Γ.2.1 k1)), (2, .int v2)]) hx hb dX3_staysInLimit_1 rfl hl (by decide) rfl (fun ls hl => ?_)
  refine lv_iconst (v := 0) hx hb dX3_staysInLimit_2 (by decide) ?_
  refine lv_istore (lv' := [(4, .int 0), (3, .int 0), (0, .ref (Γ.2.1 k0)), (1, .ref (Γ.2.1 k1)), (2, .int v2)]) hx hb dX3_staysInLimit_3 hl (by decide) rfl (fun ls hl => ?_)
  exact w_X3_staysInLimit_5 l E h0 h1 N v2 0 0 M hf _ _ _ h (lv_sub hl [2, 3, 4, 1, 0] rfl)
theorem hdX3_firstLacking : yX3_firstLacking.cls = RX3 ∧ yX3_firstLacking.cls ≠ "java/lang/invoke/MethodHandle" ∧ yX3_firstLacking.cls ≠ "java/lang/invoke/VarHandle" ∧ (parseMethodDescriptor yX3_firstLacking.desc).map (fun d => d.parameters.length) = some 2 := by decide +kernel
set_option maxHeartbeats 4000000 in
set_option maxRecDepth 100000 in
theorem w_X3_firstLacking_2 (l : Launch) {p : Program} {e : Env} {s : State} {m : MethodId} {args : Array Value} {below : List Frame} {meth : Method} {c : Code} {Γ : xG} {N : Nat} {k0 : Nat} {k1 : Nat} {res : xR} (E : xEv p s m args meth c RX3 cX3_firstLacking 4 (some .int) (xWs yX3_firstLacking cX3_firstLacking 4 (some .int))) (h0 : isDk k0) (h1 : isFo k1) : ∀ (n : Nat) (v2 : Int32) (v3 : Int32) (M : xM), L_X3_firstLacking_2 N k0 k1 n v2 v3 M = some res → ∀ (H : Heap) (locs : List Loc) (ls : Array Slot), xH Γ (wX Γ) 1483 s M H locs → lv_has ls 4 [(0, .ref (Γ.2.1 k0)), (1, .ref (Γ.2.1 k1)), (2, .int v2), (3, .int v3)] → W p l e ({ frames := 2, cells := 0, slots := 0, locals := 62 } : Room) s m args below meth c H locs 0 0 (MQ below (xCi Γ (wX Γ) 1483 res s.heap.size) args s 0 0 (xAd Γ 1483 s.heap.size)) (F0 m 2 ls []) := by
  obtain ⟨⟨hx, hb, hml, hown, hts⟩, hr, hlocks⟩ := id E
  intro n
  induction n with
  | zero => intro v2 v3 M hf; cases hf
  | succ n ih =>
    intro v2 v3 M hf H locs ls h hl
    refine lv_iload_n hx hb dX3_firstLacking_2 rfl (lv_at hl 3 rfl) ?_
    refine lv_aload_n hx hb dX3_firstLacking_3 rfl (lv_at hl 0 rfl) ?_
    refine x_get (own := RX3) (ref := "TintDesk$Desk") (C := RX3) (T := TX3) (n := 9) (index := 35) (v := .int (M.1 k0 4)) hx hb hts (fun w h => xU_sub w (inU3 w h)) hown h (kX_desk h0) rfl 4 (by decide) (hts _ (xU_sub _ q50)) (fun _ h9 => h9) rfl dX3_firstLacking_4 ?_
    refine lv_icmp_ge (tgt := 36) hx hb dX3_firstLacking_7 (by decide) (fun c1 => ?_) (fun c1 => ?_)
    · replace hf := xif_t hf c1
      refine lv_iconst (v := (-1)) hx hb dX3_firstLacking_36 (by decide) ?_
      exact x_iret hx hb h (Option.some.inj hf) hr hlocks dX3_firstLacking_37
    · replace hf := xif_f hf c1
      refine lv_aload_n hx hb dX3_firstLacking_10 rfl (lv_at hl 1 rfl) ?_
      refine lv_iload_n hx hb dX3_firstLacking_11 rfl (lv_at hl 3 rfl) ?_
      refine lv_iload_n hx hb dX3_firstLacking_12 rfl (lv_at hl 2 rfl) ?_
      obtain ⟨r2, er2, hf⟩ := xbd_s hf
      refine x_Vi (As := [.int v3, .int v2]) (rest := []) E.1 (m_X4_stepsForCans l h1 er2) (cwV 2 hts (xgV xU_sub q649 q650 q651 q60 q652) rfl rfl rfl hdX4_stepsForCans ⟨Nat.le_of_ble_eq_true rfl, Nat.le_of_ble_eq_true rfl⟩) h (kX_formula h1) rfl rfl hl.1 rfl (Nat.le_of_ble_eq_true rfl) dX3_firstLacking_13 ⟨Nat.le_of_ble_eq_true rfl, Nat.le_of_ble_eq_true rfl⟩ (fun H locs h => ?_)
      refine lv_aload_n hx hb dX3_firstLacking_16 rfl (lv_at hl 0 rfl) ?_
      refine x_get (own := RX3) (ref := "TintDesk$Desk") (C := RX3) (T := TX3) (n := 9) (index := 11) (v := .ref (Γ.2.1 (k0 + 1))) hx hb hts (fun w h => xU_sub w (inU3 w h)) hown h (kX_desk h0) rfl 0 (by decide) (hts _ (xU_sub _ q43)) (fun _ h9 => h9) rfl dX3_firstLacking_17 ?_
      refine lv_iload_n hx hb dX3_firstLacking_20 rfl (lv_at hl 3 rfl) ?_
      obtain ⟨c3, hf⟩ := xck_s hf
      refine x_aald (C := "TintDesk$Colorant") hx hb h rfl (kX_desk_colorants h0) c3 dX3_firstLacking_21 ?_
      obtain ⟨r4, er4, hf⟩ := xbd_s hf
      refine x_Vi (As := []) (rest := [.int r2.2]) E.1 (m_X2_stepsInside l (isCo_of h0 c3) er4) (cwV 0 hts (xgV xU_sub q657 q278 q279 q56 q280) rfl rfl rfl hdX2_stepsInside ⟨Nat.le_of_ble_eq_true rfl, Nat.le_of_ble_eq_true rfl⟩) h (kX_colorant (isCo_of h0 c3)) rfl rfl hl.1 rfl (Nat.le_of_ble_eq_true rfl) dX3_firstLacking_22 ⟨Nat.le_of_ble_eq_true rfl, Nat.le_of_ble_eq_true rfl⟩ (fun H locs h => ?_)
      refine lv_icmp_le (tgt := 30) hx hb dX3_firstLacking_25 (by decide) (fun c5 => ?_) (fun c5 => ?_)
      · replace hf := xif_t hf c5
        obtain ⟨y6, ey6, hf⟩ := xl_s hf
        refine lv_iinc (v := y6) (lv' := [(3, .int y6), (0, .ref (Γ.2.1 k0)), (1, .ref (Γ.2.1 k1)), (2, .int v2)]) hx hb dX3_firstLacking_30 hl (k := 3) rfl (by rw [ey6]; rfl) (by decide) rfl (fun ls hl => ?_)
        refine lv_goto (tgt := 2) hx hb dX3_firstLacking_33 (by decide) ?_
        exact ih v2 y6 r4.1 hf _ _ _ h (lv_sub hl [1, 2, 3, 0] rfl)
      · replace hf := xif_f hf c5
        refine lv_iload_n hx hb dX3_firstLacking_28 rfl (lv_at hl 3 rfl) ?_
        exact x_iret hx hb h (Option.some.inj hf) hr hlocks dX3_firstLacking_29
set_option maxHeartbeats 4000000 in
set_option maxRecDepth 100000 in
theorem m_X3_firstLacking (l : Launch) {Γ : xG} {N : Nat} {k0 : Nat} {k1 : Nat} (h0 : isDk k0) (h1 : isFo k1) {v2 : Int32} {M : xM} {res : xR} (hf : F_X3_firstLacking N k0 k1 v2 M = some res) (sz : Nat) : Met l yX3_firstLacking (xWs yX3_firstLacking cX3_firstLacking 4 (some .int)) ({ frames := 2, cells := 0, slots := 0, locals := 62 } : Room) (va_Pc [.ref (Γ.2.1 k0), .ref (Γ.2.1 k1), .int v2] (xPre Γ (wX Γ) M sz)) (xCi Γ (wX Γ) 1483 res sz) 0 0 (xAd Γ 1483 sz) := by
  refine x_met (Qc := fun sz => xCi Γ (wX Γ) 1483 res sz) pnX3 wG_W (Nat.le_of_ble_eq_true rfl) (fun p e s m args below meth c _ E h ls hl => ?_) sz
  obtain ⟨⟨hx, hb, hml, hown, hts⟩, hr, hlocks⟩ := id E
  have hl : lv_has ls 4 [(0, .ref (Γ.2.1 k0)), (1, .ref (Γ.2.1 k1)), (2, .int v2)] := hl
  refine lv_iconst (v := 0) hx hb dX3_firstLacking_0 (by decide) ?_
  refine lv_istore_n (lv' := [(3, .int 0), (0, .ref (Γ.2.1 k0)), (1, .ref (Γ.2.1 k1)), (2, .int v2)]) hx hb dX3_firstLacking_1 rfl hl (by decide) rfl (fun ls hl => ?_)
  exact w_X3_firstLacking_2 l E h0 h1 N v2 0 M hf _ _ _ h (lv_sub hl [1, 2, 3, 0] rfl)
theorem hdX3_whyNoMix : yX3_whyNoMix.cls = RX3 ∧ yX3_whyNoMix.cls ≠ "java/lang/invoke/MethodHandle" ∧ yX3_whyNoMix.cls ≠ "java/lang/invoke/VarHandle" ∧ (parseMethodDescriptor yX3_whyNoMix.desc).map (fun d => d.parameters.length) = some 1 := by decide +kernel
set_option maxHeartbeats 4000000 in
set_option maxRecDepth 100000 in
theorem m_X3_whyNoMix (l : Launch) {Γ : xG} {N : Nat} {k0 : Nat} {k1 : Nat} (h0 : isDk k0) (h1 : isFo k1) {M : xM} {res : xR} (hf : F_X3_whyNoMix N k0 k1 M = some res) (sz : Nat) : Met l yX3_whyNoMix (xWs yX3_whyNoMix cX3_whyNoMix 2 (some .int)) ({ frames := 3, cells := 0, slots := 0, locals := 86 } : Room) (va_Pc [.ref (Γ.2.1 k0), .ref (Γ.2.1 k1)] (xPre Γ (wX Γ) M sz)) (xCi Γ (wX Γ) 1483 res sz) 0 0 (xAd Γ 1483 sz) := by
  refine x_met (Qc := fun sz => xCi Γ (wX Γ) 1483 res sz) pnX3 wG_W (Nat.le_of_ble_eq_true rfl) (fun p e s m args below meth c _ E h ls hl => ?_) sz
  obtain ⟨⟨hx, hb, hml, hown, hts⟩, hr, hlocks⟩ := id E
  have hl : lv_has ls 2 [(0, .ref (Γ.2.1 k0)), (1, .ref (Γ.2.1 k1))] := hl
  refine lv_aload_n hx hb dX3_whyNoMix_0 rfl (lv_at hl 0 rfl) ?_
  refine x_get (own := RX3) (ref := "TintDesk$Desk") (C := RX3) (T := TX3) (n := 9) (index := 45) (v := .int (M.1 k0 7)) hx hb hts (fun w h => xU_sub w (inU3 w h)) hown h (kX_desk h0) rfl 7 (by decide) (hts _ (xU_sub _ q53)) (fun _ h9 => h9) rfl dX3_whyNoMix_1 ?_
  refine lv_bipush (v := 20) hx hb dX3_whyNoMix_4 (by decide) ?_
  refine lv_icmp_lt (tgt := 11) hx hb dX3_whyNoMix_6 (by decide) (fun c1 => ?_) (fun c1 => ?_)
  · replace hf := xif_t hf c1
    refine lv_aload_n hx hb dX3_whyNoMix_11 rfl (lv_at hl 0 rfl) ?_
    refine x_get (own := RX3) (ref := "TintDesk$Desk") (C := RX3) (T := TX3) (n := 9) (index := 19) (v := .ref (Γ.2.1 (k0 + 2))) hx hb hts (fun w h => xU_sub w (inU3 w h)) hown h (kX_desk h0) rfl 1 (by decide) (hts _ (xU_sub _ q45)) (fun _ h9 => h9) rfl dX3_whyNoMix_12 ?_
    refine lv_aload_n hx hb dX3_whyNoMix_15 rfl (lv_at hl 1 rfl) ?_
    refine x_get (own := RX3) (ref := "TintDesk$Formula") (C := RX4) (T := TX4) (n := 3) (index := 84) (v := .int (M.1 k1 0)) hx hb hts (fun w h => xU_sub w (inU4 w h)) hown h (kX_formula h1) rfl 0 (by decide) (hts _ (xU_sub _ q510)) (fun _ h9 => h9) rfl dX3_whyNoMix_16 ?_
    obtain ⟨c2, hf⟩ := xck_s hf
    refine x_aald (C := "TintDesk$Base") hx hb h rfl (kX_desk_bases h0) c2 dX3_whyNoMix_19 ?_
    refine x_get (own := RX3) (ref := "TintDesk$Base") (C := RX0) (T := TX0) (n := 3) (index := 110) (v := .int (M.1 (k0 + 45 + 2 * (M.1 k1 0).toNatClampNeg) 2)) hx hb hts (fun w h => xU_sub w (inU0 w h)) hown h (kX_base (isBa_of h0 c2)) rfl 2 (by decide) (hts _ (xU_sub _ q427)) (fun _ h9 => h9) rfl dX3_whyNoMix_20 ?_
    refine lv_if_ne (tgt := 28) hx hb dX3_whyNoMix_23 (by decide) (fun c3 => ?_) (fun c3 => ?_)
    · replace hf := xif_f hf c3
      refine lv_aload_n hx hb dX3_whyNoMix_28 rfl (lv_at hl 0 rfl) ?_
      refine lv_aload_n hx hb dX3_whyNoMix_29 rfl (lv_at hl 1 rfl) ?_
      refine lv_iconst (v := 1) hx hb dX3_whyNoMix_30 (by decide) ?_
      obtain ⟨r4, er4, hf⟩ := xbd_s hf
      refine x_Vi (As := [.ref (Γ.2.1 k1), .int 1]) (rest := []) E.1 (m_X3_staysInLimit l h0 h1 er4) (cwV 2 hts (xgV xU_sub q645 q646 q647 q15 q648) rfl rfl rfl hdX3_staysInLimit ⟨Nat.le_of_ble_eq_true rfl, Nat.le_of_ble_eq_true rfl⟩) h (kX_desk h0) rfl rfl hl.1 rfl (Nat.le_of_ble_eq_true rfl) dX3_whyNoMix_31 ⟨Nat.le_of_ble_eq_true rfl, Nat.le_of_ble_eq_true rfl⟩ (fun H locs h => ?_)
      refine lv_if_ne (tgt := 39) hx hb dX3_whyNoMix_34 (by decide) (fun c5 => ?_) (fun c5 => ?_)
      · replace hf := xif_f hf c5
        refine lv_aload_n hx hb dX3_whyNoMix_39 rfl (lv_at hl 0 rfl) ?_
        refine lv_aload_n hx hb dX3_whyNoMix_40 rfl (lv_at hl 1 rfl) ?_
        refine lv_iconst (v := 1) hx hb dX3_whyNoMix_41 (by decide) ?_
        obtain ⟨r6, er6, hf⟩ := xbd_s hf
        refine x_Vi (As := [.ref (Γ.2.1 k1), .int 1]) (rest := []) E.1 (m_X3_firstLacking l h0 h1 er6) (cwV 2 hts (xgV xU_sub q653 q654 q655 q15 q656) rfl rfl rfl hdX3_firstLacking ⟨Nat.le_of_ble_eq_true rfl, Nat.le_of_ble_eq_true rfl⟩) h (kX_desk h0) rfl rfl hl.1 rfl (Nat.le_of_ble_eq_true rfl) dX3_whyNoMix_42 ⟨Nat.le_of_ble_eq_true rfl, Nat.le_of_ble_eq_true rfl⟩ (fun H locs h => ?_)
        refine lv_iconst (v := (-1)) hx hb dX3_whyNoMix_45 (by decide) ?_
        refine lv_icmp_ne (tgt := 53) hx hb dX3_whyNoMix_46 (by decide) (fun c7 => ?_) (fun c7 => ?_)
        · replace hf := xif_f hf c7
          refine lv_iconst (v := 5) hx hb dX3_whyNoMix_53 (by decide) ?_
          exact x_iret hx hb h (Option.some.inj hf) hr hlocks dX3_whyNoMix_54
        · replace hf := xif_t hf c7
          refine lv_iconst (v := 0) hx hb dX3_whyNoMix_49 (by decide) ?_
          refine lv_goto (tgt := 54) hx hb dX3_whyNoMix_50 (by decide) ?_
          exact x_iret hx hb h (Option.some.inj hf) hr hlocks dX3_whyNoMix_54
      · replace hf := xif_t hf c5
        refine lv_iconst (v := 4) hx hb dX3_whyNoMix_37 (by decide) ?_
        exact x_iret hx hb h (Option.some.inj hf) hr hlocks dX3_whyNoMix_38
    · replace hf := xif_t hf c3
      refine lv_iconst (v := 3) hx hb dX3_whyNoMix_26 (by decide) ?_
      exact x_iret hx hb h (Option.some.inj hf) hr hlocks dX3_whyNoMix_27
  · replace hf := xif_f hf c1
    refine lv_iconst (v := 2) hx hb dX3_whyNoMix_9 (by decide) ?_
    exact x_iret hx hb h (Option.some.inj hf) hr hlocks dX3_whyNoMix_10
theorem hdX3_roomIn : yX3_roomIn.cls = RX3 ∧ yX3_roomIn.cls ≠ "java/lang/invoke/MethodHandle" ∧ yX3_roomIn.cls ≠ "java/lang/invoke/VarHandle" ∧ (parseMethodDescriptor yX3_roomIn.desc).map (fun d => d.parameters.length) = some 1 := by decide +kernel
set_option maxHeartbeats 4000000 in
set_option maxRecDepth 100000 in
theorem m_X3_roomIn (l : Launch) {Γ : xG} {N : Nat} {k0 : Nat} {k1 : Nat} (h0 : isDk k0) (h1 : isCa k1) {M : xM} {res : xR} (hf : F_X3_roomIn N k0 k1 M = some res) (sz : Nat) : Met l yX3_roomIn (xWs yX3_roomIn cX3_roomIn 2 (some .int)) ({ frames := 2, cells := 0, slots := 0, locals := 62 } : Room) (va_Pc [.ref (Γ.2.1 k0), .ref (Γ.2.1 k1)] (xPre Γ (wX Γ) M sz)) (xCi Γ (wX Γ) 1483 res sz) 0 0 (xAd Γ 1483 sz) := by
  refine x_met (Qc := fun sz => xCi Γ (wX Γ) 1483 res sz) pnX3 wG_W (Nat.le_of_ble_eq_true rfl) (fun p e s m args below meth c _ E h ls hl => ?_) sz
  obtain ⟨⟨hx, hb, hml, hown, hts⟩, hr, hlocks⟩ := id E
  have hl : lv_has ls 2 [(0, .ref (Γ.2.1 k0)), (1, .ref (Γ.2.1 k1))] := hl
  refine lv_aload_n hx hb dX3_roomIn_0 rfl (lv_at hl 0 rfl) ?_
  refine x_get (own := RX3) (ref := "TintDesk$Desk") (C := RX3) (T := TX3) (n := 9) (index := 19) (v := .ref (Γ.2.1 (k0 + 2))) hx hb hts (fun w h => xU_sub w (inU3 w h)) hown h (kX_desk h0) rfl 1 (by decide) (hts _ (xU_sub _ q45)) (fun _ h9 => h9) rfl dX3_roomIn_1 ?_
  refine lv_aload_n hx hb dX3_roomIn_4 rfl (lv_at hl 1 rfl) ?_
  refine x_get (own := RX3) (ref := "TintDesk$Can") (C := RX1) (T := TX1) (n := 6) (index := 98) (v := .int (M.1 k1 1)) hx hb hts (fun w h => xU_sub w (inU1 w h)) hown h (kX_can h1) rfl 1 (by decide) (hts _ (xU_sub _ q432)) (fun _ h9 => h9) rfl dX3_roomIn_5 ?_
  obtain ⟨c1, hf⟩ := xck_s hf
  refine x_aald (C := "TintDesk$Base") hx hb h rfl (kX_desk_bases h0) c1 dX3_roomIn_8 ?_
  refine x_get (own := RX3) (ref := "TintDesk$Base") (C := RX0) (T := TX0) (n := 3) (index := 76) (v := .int (M.1 (k0 + 45 + 2 * (M.1 k1 1).toNatClampNeg) 1)) hx hb hts (fun w h => xU_sub w (inU0 w h)) hown h (kX_base (isBa_of h0 c1)) rfl 1 (by decide) (hts _ (xU_sub _ q390)) (fun _ h9 => h9) rfl dX3_roomIn_9 ?_
  refine lv_aload_n hx hb dX3_roomIn_12 rfl (lv_at hl 1 rfl) ?_
  obtain ⟨r2, er2, hf⟩ := xbd_s hf
  refine x_Vi (As := []) (rest := [.int (M.1 (k0 + 45 + 2 * (M.1 k1 1).toNatClampNeg) 1)]) E.1 (m_X1_allSteps l h1 er2) (cwV 0 hts (xgV xU_sub q762 q763 q764 q62 q765) rfl rfl rfl hdX1_allSteps ⟨Nat.le_of_ble_eq_true rfl, Nat.le_of_ble_eq_true rfl⟩) h (kX_can h1) rfl rfl hl.1 rfl (Nat.le_of_ble_eq_true rfl) dX3_roomIn_13 ⟨Nat.le_of_ble_eq_true rfl, Nat.le_of_ble_eq_true rfl⟩ (fun H locs h => ?_)
  refine lv_isub hx hb dX3_roomIn_16 ?_
  exact x_iret hx hb h (Option.some.inj hf) hr hlocks dX3_roomIn_17
theorem hdX3_whyNoCorrection : yX3_whyNoCorrection.cls = RX3 ∧ yX3_whyNoCorrection.cls ≠ "java/lang/invoke/MethodHandle" ∧ yX3_whyNoCorrection.cls ≠ "java/lang/invoke/VarHandle" ∧ (parseMethodDescriptor yX3_whyNoCorrection.desc).map (fun d => d.parameters.length) = some 3 := by decide +kernel
set_option maxHeartbeats 4000000 in
set_option maxRecDepth 100000 in
theorem m_X3_whyNoCorrection (l : Launch) {Γ : xG} {N : Nat} {k0 : Nat} {k1 : Nat} (h0 : isDk k0) (h1 : isCa k1) {v2 : Int32} {v3 : Int32} {M : xM} {res : xR} (hf : F_X3_whyNoCorrection N k0 k1 v2 v3 M = some res) (sz : Nat) : Met l yX3_whyNoCorrection (xWs yX3_whyNoCorrection cX3_whyNoCorrection 4 (some .int)) ({ frames := 3, cells := 0, slots := 0, locals := 83 } : Room) (va_Pc [.ref (Γ.2.1 k0), .ref (Γ.2.1 k1), .int v2, .int v3] (xPre Γ (wX Γ) M sz)) (xCi Γ (wX Γ) 1483 res sz) 0 0 (xAd Γ 1483 sz) := by
  refine x_met (Qc := fun sz => xCi Γ (wX Γ) 1483 res sz) pnX3 wG_W (Nat.le_of_ble_eq_true rfl) (fun p e s m args below meth c _ E h ls hl => ?_) sz
  obtain ⟨⟨hx, hb, hml, hown, hts⟩, hr, hlocks⟩ := id E
  have hl : lv_has ls 4 [(0, .ref (Γ.2.1 k0)), (1, .ref (Γ.2.1 k1)), (2, .int v2), (3, .int v3)] := hl
  refine lv_iload_n hx hb dX3_whyNoCorrection_0 rfl (lv_at hl 3 rfl) ?_
  refine lv_aload_n hx hb dX3_whyNoCorrection_1 rfl (lv_at hl 0 rfl) ?_
  refine lv_aload_n hx hb dX3_whyNoCorrection_2 rfl (lv_at hl 1 rfl) ?_
  obtain ⟨r1, er1, hf⟩ := xbd_s hf
  refine x_Vi (As := [.ref (Γ.2.1 k1)]) (rest := [.int v3]) E.1 (m_X3_roomIn l h0 h1 er1) (cwV 1 hts (xgV xU_sub q766 q767 q768 q15 q769) rfl rfl rfl hdX3_roomIn ⟨Nat.le_of_ble_eq_true rfl, Nat.le_of_ble_eq_true rfl⟩) h (kX_desk h0) rfl rfl hl.1 rfl (Nat.le_of_ble_eq_true rfl) dX3_whyNoCorrection_3 ⟨Nat.le_of_ble_eq_true rfl, Nat.le_of_ble_eq_true rfl⟩ (fun H locs h => ?_)
  refine lv_icmp_le (tgt := 11) hx hb dX3_whyNoCorrection_6 (by decide) (fun c2 => ?_) (fun c2 => ?_)
  · replace hf := xif_t hf c2
    refine lv_iload_n hx hb dX3_whyNoCorrection_11 rfl (lv_at hl 3 rfl) ?_
    refine lv_aload_n hx hb dX3_whyNoCorrection_12 rfl (lv_at hl 0 rfl) ?_
    refine x_get (own := RX3) (ref := "TintDesk$Desk") (C := RX3) (T := TX3) (n := 9) (index := 11) (v := .ref (Γ.2.1 (k0 + 1))) hx hb hts (fun w h => xU_sub w (inU3 w h)) hown h (kX_desk h0) rfl 0 (by decide) (hts _ (xU_sub _ q43)) (fun _ h9 => h9) rfl dX3_whyNoCorrection_13 ?_
    refine lv_iload_n hx hb dX3_whyNoCorrection_16 rfl (lv_at hl 2 rfl) ?_
    obtain ⟨c3, hf⟩ := xck_s hf
    refine x_aald (C := "TintDesk$Colorant") hx hb h rfl (kX_desk_colorants h0) c3 dX3_whyNoCorrection_17 ?_
    obtain ⟨r4, er4, hf⟩ := xbd_s hf
    refine x_Vi (As := []) (rest := [.int v3]) E.1 (m_X2_stepsInside l (isCo_of h0 c3) er4) (cwV 0 hts (xgV xU_sub q657 q278 q279 q56 q280) rfl rfl rfl hdX2_stepsInside ⟨Nat.le_of_ble_eq_true rfl, Nat.le_of_ble_eq_true rfl⟩) h (kX_colorant (isCo_of h0 c3)) rfl rfl hl.1 rfl (Nat.le_of_ble_eq_true rfl) dX3_whyNoCorrection_18 ⟨Nat.le_of_ble_eq_true rfl, Nat.le_of_ble_eq_true rfl⟩ (fun H locs h => ?_)
    refine lv_icmp_le (tgt := 28) hx hb dX3_whyNoCorrection_21 (by decide) (fun c5 => ?_) (fun c5 => ?_)
    · replace hf := xif_t hf c5
      refine lv_iconst (v := 0) hx hb dX3_whyNoCorrection_28 (by decide) ?_
      exact x_iret hx hb h (Option.some.inj hf) hr hlocks dX3_whyNoCorrection_29
    · replace hf := xif_f hf c5
      refine lv_iconst (v := 5) hx hb dX3_whyNoCorrection_24 (by decide) ?_
      refine lv_goto (tgt := 29) hx hb dX3_whyNoCorrection_25 (by decide) ?_
      exact x_iret hx hb h (Option.some.inj hf) hr hlocks dX3_whyNoCorrection_29
  · replace hf := xif_f hf c2
    refine lv_iconst (v := 4) hx hb dX3_whyNoCorrection_9 (by decide) ?_
    exact x_iret hx hb h (Option.some.inj hf) hr hlocks dX3_whyNoCorrection_10
theorem hdX3_cansPossible : yX3_cansPossible.cls = RX3 ∧ yX3_cansPossible.cls ≠ "java/lang/invoke/MethodHandle" ∧ yX3_cansPossible.cls ≠ "java/lang/invoke/VarHandle" ∧ (parseMethodDescriptor yX3_cansPossible.desc).map (fun d => d.parameters.length) = some 1 := by decide +kernel
set_option maxHeartbeats 4000000 in
set_option maxRecDepth 100000 in
theorem w_X3_cansPossible_25 (l : Launch) {p : Program} {e : Env} {s : State} {m : MethodId} {args : Array Value} {below : List Frame} {meth : Method} {c : Code} {Γ : xG} {N : Nat} {k0 : Nat} {k1 : Nat} {res : xR} (E : xEv p s m args meth c RX3 cX3_cansPossible 4 (some .int) (xWs yX3_cansPossible cX3_cansPossible 4 (some .int))) (h0 : isDk k0) (h1 : isFo k1) : ∀ (n : Nat) (v2 : Int32) (v3 : Int32) (M : xM), L_X3_cansPossible_25 N k0 k1 n v2 v3 M = some res → ∀ (H : Heap) (locs : List Loc) (ls : Array Slot), xH Γ (wX Γ) 1483 s M H locs → lv_has ls 4 [(0, .ref (Γ.2.1 k0)), (1, .ref (Γ.2.1 k1)), (2, .int v2), (3, .int v3)] → W p l e ({ frames := 3, cells := 0, slots := 0, locals := 86 } : Room) s m args below meth c H locs 0 0 (MQ below (xCi Γ (wX Γ) 1483 res s.heap.size) args s 0 0 (xAd Γ 1483 s.heap.size)) (F0 m 25 ls []) := by
  obtain ⟨⟨hx, hb, hml, hown, hts⟩, hr, hlocks⟩ := id E
  intro n
  induction n with
  | zero => intro v2 v3 M hf; cases hf
  | succ n ih =>
    intro v2 v3 M hf H locs ls h hl
    refine lv_iload_n hx hb dX3_cansPossible_25 rfl (lv_at hl 3 rfl) ?_
    refine lv_iload_n hx hb dX3_cansPossible_26 rfl (lv_at hl 2 rfl) ?_
    refine lv_icmp_gt (tgt := 59) hx hb dX3_cansPossible_27 (by decide) (fun c1 => ?_) (fun c1 => ?_)
    · replace hf := xif_t hf c1
      refine lv_iload_n hx hb dX3_cansPossible_59 rfl (lv_at hl 2 rfl) ?_
      exact x_iret hx hb h (Option.some.inj hf) hr hlocks dX3_cansPossible_60
    · replace hf := xif_f hf c1
      refine lv_aload_n hx hb dX3_cansPossible_30 rfl (lv_at hl 0 rfl) ?_
      refine lv_aload_n hx hb dX3_cansPossible_31 rfl (lv_at hl 1 rfl) ?_
      refine lv_iload_n hx hb dX3_cansPossible_32 rfl (lv_at hl 3 rfl) ?_
      obtain ⟨r2, er2, hf⟩ := xbd_s hf
      refine x_Vi (As := [.ref (Γ.2.1 k1), .int v3]) (rest := []) E.1 (m_X3_staysInLimit l h0 h1 er2) (cwV 2 hts (xgV xU_sub q645 q646 q647 q15 q648) rfl rfl rfl hdX3_staysInLimit ⟨Nat.le_of_ble_eq_true rfl, Nat.le_of_ble_eq_true rfl⟩) h (kX_desk h0) rfl rfl hl.1 rfl (Nat.le_of_ble_eq_true rfl) dX3_cansPossible_33 ⟨Nat.le_of_ble_eq_true rfl, Nat.le_of_ble_eq_true rfl⟩ (fun H locs h => ?_)
      refine lv_if_eq (tgt := 49) hx hb dX3_cansPossible_36 (by decide) (fun c3 => ?_) (fun c3 => ?_)
      · replace hf := xif_t hf c3
        refine lv_iload_n hx hb dX3_cansPossible_49 rfl (lv_at hl 3 rfl) ?_
        refine lv_iconst (v := 1) hx hb dX3_cansPossible_50 (by decide) ?_
        refine lv_isub hx hb dX3_cansPossible_51 ?_
        exact x_iret hx hb h (Option.some.inj hf) hr hlocks dX3_cansPossible_52
      · replace hf := xif_f hf c3
        refine lv_aload_n hx hb dX3_cansPossible_39 rfl (lv_at hl 0 rfl) ?_
        refine lv_aload_n hx hb dX3_cansPossible_40 rfl (lv_at hl 1 rfl) ?_
        refine lv_iload_n hx hb dX3_cansPossible_41 rfl (lv_at hl 3 rfl) ?_
        obtain ⟨r4, er4, hf⟩ := xbd_s hf
        refine x_Vi (As := [.ref (Γ.2.1 k1), .int v3]) (rest := []) E.1 (m_X3_firstLacking l h0 h1 er4) (cwV 2 hts (xgV xU_sub q653 q654 q655 q15 q656) rfl rfl rfl hdX3_firstLacking ⟨Nat.le_of_ble_eq_true rfl, Nat.le_of_ble_eq_true rfl⟩) h (kX_desk h0) rfl rfl hl.1 rfl (Nat.le_of_ble_eq_true rfl) dX3_cansPossible_42 ⟨Nat.le_of_ble_eq_true rfl, Nat.le_of_ble_eq_true rfl⟩ (fun H locs h => ?_)
        refine lv_iconst (v := (-1)) hx hb dX3_cansPossible_45 (by decide) ?_
        refine lv_icmp_eq (tgt := 53) hx hb dX3_cansPossible_46 (by decide) (fun c5 => ?_) (fun c5 => ?_)
        · replace hf := xif_t hf c5
          obtain ⟨y6, ey6, hf⟩ := xl_s hf
          refine lv_iinc (v := y6) (lv' := [(3, .int y6), (0, .ref (Γ.2.1 k0)), (1, .ref (Γ.2.1 k1)), (2, .int v2)]) hx hb dX3_cansPossible_53 hl (k := 3) rfl (by rw [ey6]; rfl) (by decide) rfl (fun ls hl => ?_)
          refine lv_goto (tgt := 25) hx hb dX3_cansPossible_56 (by decide) ?_
          exact ih v2 y6 r4.1 hf _ _ _ h (lv_sub hl [1, 2, 3, 0] rfl)
        · replace hf := xif_f hf c5
          refine lv_iload_n hx hb dX3_cansPossible_49 rfl (lv_at hl 3 rfl) ?_
          refine lv_iconst (v := 1) hx hb dX3_cansPossible_50 (by decide) ?_
          refine lv_isub hx hb dX3_cansPossible_51 ?_
          exact x_iret hx hb h (Option.some.inj hf) hr hlocks dX3_cansPossible_52
set_option maxHeartbeats 4000000 in
set_option maxRecDepth 100000 in
theorem m_X3_cansPossible (l : Launch) {Γ : xG} {N : Nat} {k0 : Nat} {k1 : Nat} (h0 : isDk k0) (h1 : isFo k1) {M : xM} {res : xR} (hf : F_X3_cansPossible N k0 k1 M = some res) (sz : Nat) : Met l yX3_cansPossible (xWs yX3_cansPossible cX3_cansPossible 4 (some .int)) ({ frames := 3, cells := 0, slots := 0, locals := 86 } : Room) (va_Pc [.ref (Γ.2.1 k0), .ref (Γ.2.1 k1)] (xPre Γ (wX Γ) M sz)) (xCi Γ (wX Γ) 1483 res sz) 0 0 (xAd Γ 1483 sz) := by
  refine x_met (Qc := fun sz => xCi Γ (wX Γ) 1483 res sz) pnX3 wG_W (Nat.le_of_ble_eq_true rfl) (fun p e s m args below meth c _ E h ls hl => ?_) sz
  obtain ⟨⟨hx, hb, hml, hown, hts⟩, hr, hlocks⟩ := id E
  have hl : lv_has ls 4 [(0, .ref (Γ.2.1 k0)), (1, .ref (Γ.2.1 k1))] := hl
  refine lv_aload_n hx hb dX3_cansPossible_0 rfl (lv_at hl 0 rfl) ?_
  refine x_get (own := RX3) (ref := "TintDesk$Desk") (C := RX3) (T := TX3) (n := 9) (index := 19) (v := .ref (Γ.2.1 (k0 + 2))) hx hb hts (fun w h => xU_sub w (inU3 w h)) hown h (kX_desk h0) rfl 1 (by decide) (hts _ (xU_sub _ q45)) (fun _ h9 => h9) rfl dX3_cansPossible_1 ?_
  refine lv_aload_n hx hb dX3_cansPossible_4 rfl (lv_at hl 1 rfl) ?_
  refine x_get (own := RX3) (ref := "TintDesk$Formula") (C := RX4) (T := TX4) (n := 3) (index := 84) (v := .int (M.1 k1 0)) hx hb hts (fun w h => xU_sub w (inU4 w h)) hown h (kX_formula h1) rfl 0 (by decide) (hts _ (xU_sub _ q510)) (fun _ h9 => h9) rfl dX3_cansPossible_5 ?_
  obtain ⟨c1, hf⟩ := xck_s hf
  refine x_aald (C := "TintDesk$Base") hx hb h rfl (kX_desk_bases h0) c1 dX3_cansPossible_8 ?_
  refine x_get (own := RX3) (ref := "TintDesk$Base") (C := RX0) (T := TX0) (n := 3) (index := 110) (v := .int (M.1 (k0 + 45 + 2 * (M.1 k1 0).toNatClampNeg) 2)) hx hb hts (fun w h => xU_sub w (inU0 w h)) hown h (kX_base (isBa_of h0 c1)) rfl 2 (by decide) (hts _ (xU_sub _ q427)) (fun _ h9 => h9) rfl dX3_cansPossible_9 ?_
  refine lv_bipush (v := 20) hx hb dX3_cansPossible_12 (by decide) ?_
  refine lv_aload_n hx hb dX3_cansPossible_14 rfl (lv_at hl 0 rfl) ?_
  refine x_get (own := RX3) (ref := "TintDesk$Desk") (C := RX3) (T := TX3) (n := 9) (index := 45) (v := .int (M.1 k0 7)) hx hb hts (fun w h => xU_sub w (inU3 w h)) hown h (kX_desk h0) rfl 7 (by decide) (hts _ (xU_sub _ q53)) (fun _ h9 => h9) rfl dX3_cansPossible_15 ?_
  refine lv_isub hx hb dX3_cansPossible_18 ?_
  refine va_mmin hx hb (hml.trans hl.1.symm) hown (hts _ (xU_sub _ q710)) (hts _ (xU_sub _ q165)) (hts _ (xU_sub _ q166)) (hts _ (xU_sub _ q167)) (Nat.le_of_ble_eq_true rfl) (Nat.le_of_ble_eq_true rfl) (Nat.le_of_ble_eq_true rfl) (Nat.le_of_ble_eq_true rfl) dX3_cansPossible_19 ?_
  obtain ⟨y2, ey2, hf⟩ := xl_s hf
  refine x_nm ey2 ?_
  refine lv_istore_n (lv' := [(2, .int y2), (0, .ref (Γ.2.1 k0)), (1, .ref (Γ.2.1 k1))]) hx hb dX3_cansPossible_22 rfl hl (by decide) rfl (fun ls hl => ?_)
  refine lv_iconst (v := 1) hx hb dX3_cansPossible_23 (by decide) ?_
  refine lv_istore_n (lv' := [(3, .int 1), (2, .int y2), (0, .ref (Γ.2.1 k0)), (1, .ref (Γ.2.1 k1))]) hx hb dX3_cansPossible_24 rfl hl (by decide) rfl (fun ls hl => ?_)
  exact w_X3_cansPossible_25 l E h0 h1 N y2 1 M hf _ _ _ h (lv_sub hl [2, 3, 1, 0] rfl)
theorem hdX3_closestFormula : yX3_closestFormula.cls = RX3 ∧ yX3_closestFormula.cls ≠ "java/lang/invoke/MethodHandle" ∧ yX3_closestFormula.cls ≠ "java/lang/invoke/VarHandle" ∧ (parseMethodDescriptor yX3_closestFormula.desc).map (fun d => d.parameters.length) = some 1 := by decide +kernel
set_option maxHeartbeats 4000000 in
set_option maxRecDepth 100000 in
theorem w_X3_closestFormula_71 (l : Launch) {p : Program} {e : Env} {s : State} {m : MethodId} {args : Array Value} {below : List Frame} {meth : Method} {c : Code} {Γ : xG} {N : Nat} {k0 : Nat} {k1 : Nat} {res : xR} (E : xEv p s m args meth c RX3 cX3_closestFormula 6 (some .int) (xWs yX3_closestFormula cX3_closestFormula 6 (some .int))) (h0 : isDk k0) (h1 : isCa k1) {K_24 : Int32 → Int32 → Int32 → xM → Option xR} (hK_24 : ∀ (v2 : Int32) (v3 : Int32) (v4 : Int32) (M : xM), K_24 v2 v3 v4 M = some res → ∀ (H : Heap) (locs : List Loc) (ls : Array Slot), xH Γ (wX Γ) 1483 s M H locs → lv_has ls 6 [(0, .ref (Γ.2.1 k0)), (1, .ref (Γ.2.1 k1)), (2, .int v2), (3, .int v3), (4, .int v4)] → W p l e ({ frames := 2, cells := 0, slots := 0, locals := 63 } : Room) s m args below meth c H locs 0 0 (MQ below (xCi Γ (wX Γ) 1483 res s.heap.size) args s 0 0 (xAd Γ 1483 s.heap.size)) (F0 m 24 ls [])) : ∀ (v2 : Int32) (v3 : Int32) (v4 : Int32) (M : xM), L_X3_closestFormula_71 N k0 k1 K_24 v2 v3 v4 M = some res → ∀ (H : Heap) (locs : List Loc) (ls : Array Slot), xH Γ (wX Γ) 1483 s M H locs → lv_has ls 6 [(0, .ref (Γ.2.1 k0)), (1, .ref (Γ.2.1 k1)), (2, .int v2), (3, .int v3), (4, .int v4)] → W p l e ({ frames := 2, cells := 0, slots := 0, locals := 63 } : Room) s m args below meth c H locs 0 0 (MQ below (xCi Γ (wX Γ) 1483 res s.heap.size) args s 0 0 (xAd Γ 1483 s.heap.size)) (F0 m 71 ls []) := by
  obtain ⟨⟨hx, hb, hml, hown, hts⟩, hr, hlocks⟩ := id E
  intro v2 v3 v4 M hf H locs ls h hl
  obtain ⟨y1, ey1, hf⟩ := xl_s hf
  refine lv_iinc (v := y1) (lv' := [(4, .int y1), (0, .ref (Γ.2.1 k0)), (1, .ref (Γ.2.1 k1)), (2, .int v2), (3, .int v3)]) hx hb dX3_closestFormula_71 hl (k := 4) rfl (by rw [ey1]; rfl) (by decide) rfl (fun ls hl => ?_)
  refine lv_goto (tgt := 24) hx hb dX3_closestFormula_74 (by decide) ?_
  exact hK_24 v2 v3 y1 M hf _ _ _ h (lv_sub hl [1, 2, 3, 4, 0] rfl)
set_option maxHeartbeats 4000000 in
set_option maxRecDepth 100000 in
theorem w_X3_closestFormula_24 (l : Launch) {p : Program} {e : Env} {s : State} {m : MethodId} {args : Array Value} {below : List Frame} {meth : Method} {c : Code} {Γ : xG} {N : Nat} {k0 : Nat} {k1 : Nat} {res : xR} (E : xEv p s m args meth c RX3 cX3_closestFormula 6 (some .int) (xWs yX3_closestFormula cX3_closestFormula 6 (some .int))) (h0 : isDk k0) (h1 : isCa k1) : ∀ (n : Nat) (v2 : Int32) (v3 : Int32) (v4 : Int32) (M : xM), L_X3_closestFormula_24 N k0 k1 n v2 v3 v4 M = some res → ∀ (H : Heap) (locs : List Loc) (ls : Array Slot), xH Γ (wX Γ) 1483 s M H locs → lv_has ls 6 [(0, .ref (Γ.2.1 k0)), (1, .ref (Γ.2.1 k1)), (2, .int v2), (3, .int v3), (4, .int v4)] → W p l e ({ frames := 2, cells := 0, slots := 0, locals := 63 } : Room) s m args below meth c H locs 0 0 (MQ below (xCi Γ (wX Γ) 1483 res s.heap.size) args s 0 0 (xAd Γ 1483 s.heap.size)) (F0 m 24 ls []) := by
  obtain ⟨⟨hx, hb, hml, hown, hts⟩, hr, hlocks⟩ := id E
  intro n
  induction n with
  | zero => intro v2 v3 v4 M hf; cases hf
  | succ n ih =>
    intro v2 v3 v4 M hf H locs ls h hl
    refine lv_iload hx hb dX3_closestFormula_24 (lv_at hl 4 rfl) ?_
    refine lv_if_lt (tgt := 77) hx hb dX3_closestFormula_26 (by decide) (fun c1 => ?_) (fun c1 => ?_)
    · replace hf := xif_t hf c1
      refine lv_iload_n hx hb dX3_closestFormula_77 rfl (lv_at hl 2 rfl) ?_
      exact x_iret hx hb h (Option.some.inj hf) hr hlocks dX3_closestFormula_78
    · replace hf := xif_f hf c1
      refine lv_aload_n hx hb dX3_closestFormula_29 rfl (lv_at hl 0 rfl) ?_
      refine x_get (own := RX3) (ref := "TintDesk$Desk") (C := RX3) (T := TX3) (n := 9) (index := 25) (v := .ref (Γ.2.1 (k0 + 3))) hx hb hts (fun w h => xU_sub w (inU3 w h)) hown h (kX_desk h0) rfl 2 (by decide) (hts _ (xU_sub _ q47)) (fun _ h9 => h9) rfl dX3_closestFormula_30 ?_
      refine lv_iload hx hb dX3_closestFormula_33 (lv_at hl 4 rfl) ?_
      obtain ⟨c2, hf⟩ := xck_s hf
      refine x_aald (C := "TintDesk$Formula") hx hb h rfl (kX_desk_formulas h0) c2 dX3_closestFormula_35 ?_
      refine lv_aload_n hx hb dX3_closestFormula_36 rfl (lv_at hl 1 rfl) ?_
      obtain ⟨r3, er3, hf⟩ := xbd_s hf
      refine x_Vi (As := [.ref (Γ.2.1 k1)]) (rest := []) E.1 (m_X4_differenceFrom l (isFo_of h0 c2) h1 er3) (cwV 1 hts (xgV xU_sub q614 q615 q616 q60 q617) rfl rfl rfl hdX4_differenceFrom ⟨Nat.le_of_ble_eq_true rfl, Nat.le_of_ble_eq_true rfl⟩) h (kX_formula (isFo_of h0 c2)) rfl rfl hl.1 rfl (Nat.le_of_ble_eq_true rfl) dX3_closestFormula_37 ⟨Nat.le_of_ble_eq_true rfl, Nat.le_of_ble_eq_true rfl⟩ (fun H locs h => ?_)
      obtain ⟨y4, ey4, hf⟩ := xl_s hf
      refine x_nm ey4 ?_
      refine lv_istore (lv' := [(5, .int y4), (0, .ref (Γ.2.1 k0)), (1, .ref (Γ.2.1 k1)), (2, .int v2), (3, .int v3), (4, .int v4)]) hx hb dX3_closestFormula_40 hl (by decide) rfl (fun ls hl => ?_)
      refine lv_aload_n hx hb dX3_closestFormula_42 rfl (lv_at hl 1 rfl) ?_
      refine x_get (own := RX3) (ref := "TintDesk$Desk") (C := RX3) (T := TX3) (n := 9) (index := 25) (v := .ref (Γ.2.1 (k0 + 3))) hx hb hts (fun w h => xU_sub w (inU3 w h)) hown h (kX_desk h0) rfl 2 (by decide) (hts _ (xU_sub _ q47)) (fun _ h9 => h9) rfl dX3_closestFormula_43 ?_
      refine lv_iload hx hb dX3_closestFormula_46 (lv_at hl 5 rfl) ?_
      obtain ⟨c5, hf⟩ := xck_s hf
      refine x_aald (C := "TintDesk$Formula") hx hb h rfl (kX_desk_formulas h0) c5 dX3_closestFormula_48 ?_
      refine x_get (own := RX3) (ref := "TintDesk$Formula") (C := RX4) (T := TX4) (n := 3) (index := 84) (v := .int (r3.1.1 (k0 + 57 + 3 * v4.toNatClampNeg) 0)) hx hb hts (fun w h => xU_sub w (inU4 w h)) hown h (kX_formula (isFo_of h0 c5)) rfl 0 (by decide) (hts _ (xU_sub _ q510)) (fun _ h9 => h9) rfl dX3_closestFormula_49 ?_
      refine lv_aload_n hx hb dX3_closestFormula_52 rfl (lv_at hl 2 rfl) ?_
      refine x_get (own := RX3) (ref := "TintDesk$Can") (C := RX1) (T := TX1) (n := 6) (index := 98) (v := .int (r3.1.1 k1 1)) hx hb hts (fun w h => xU_sub w (inU1 w h)) hown h (kX_can h1) rfl 1 (by decide) (hts _ (xU_sub _ q432)) (fun _ h9 => h9) rfl dX3_closestFormula_53 ?_
      refine lv_icmp_ne (tgt := 71) hx hb dX3_closestFormula_56 (by decide) (fun c6 => ?_) (fun c6 => ?_)
      · replace hf := xif_f hf c6
        exact w_X3_closestFormula_71 l E h0 h1 (ih) v2 v3 v4 r3.1 hf _ _ _ h (lv_sub hl [1, 2, 3, 4, 5] rfl)
      · replace hf := xif_t hf c6
        refine lv_iload hx hb dX3_closestFormula_59 (lv_at hl 0 rfl) ?_
        refine lv_iload_n hx hb dX3_closestFormula_61 rfl (lv_at hl 4 rfl) ?_
        refine lv_icmp_gt (tgt := 71) hx hb dX3_closestFormula_62 (by decide) (fun c7 => ?_) (fun c7 => ?_)
        · replace hf := xif_t hf c7
          exact w_X3_closestFormula_71 l E h0 h1 (ih) v2 v3 v4 r3.1 hf _ _ _ h (lv_sub hl [1, 2, 3, 4, 5] rfl)
        · replace hf := xif_f hf c7
          refine lv_iload hx hb dX3_closestFormula_65 (lv_at hl 5 rfl) ?_
          refine lv_istore_n (lv' := [(2, .int v4), (5, .int y4), (0, .ref (Γ.2.1 k0)), (1, .ref (Γ.2.1 k1)), (3, .int v3), (4, .int v4)]) hx hb dX3_closestFormula_67 rfl hl (by decide) rfl (fun ls hl => ?_)
          refine lv_iload hx hb dX3_closestFormula_68 (lv_at hl 1 rfl) ?_
          refine lv_istore_n (lv' := [(3, .int y4), (2, .int v4), (5, .int y4), (0, .ref (Γ.2.1 k0)), (1, .ref (Γ.2.1 k1)), (4, .int v4)]) hx hb dX3_closestFormula_70 rfl hl (by decide) rfl (fun ls hl => ?_)
          exact w_X3_closestFormula_71 l E h0 h1 (ih) v4 y4 v4 r3.1 hf _ _ _ h (lv_sub hl [3, 4, 1, 0, 5] rfl)
set_option maxHeartbeats 4000000 in
set_option maxRecDepth 100000 in
theorem m_X3_closestFormula (l : Launch) {Γ : xG} {N : Nat} {k0 : Nat} {k1 : Nat} (h0 : isDk k0) (h1 : isCa k1) {M : xM} {res : xR} (hf : F_X3_closestFormula N k0 k1 M = some res) (sz : Nat) : Met l yX3_closestFormula (xWs yX3_closestFormula cX3_closestFormula 6 (some .int)) ({ frames := 2, cells := 0, slots := 0, locals := 63 } : Room) (va_Pc [.ref (Γ.2.1 k0), .ref (Γ.2.1 k1)] (xPre Γ (wX Γ) M sz)) (xCi Γ (wX Γ) 1483 res sz) 0 0 (xAd Γ 1483 sz) := by
  refine x_met (Qc := fun sz => xCi Γ (wX Γ) 1483 res sz) pnX3 wG_W (Nat.le_of_ble_eq_true rfl) (fun p e s m args below meth c _ E h ls hl => ?_) sz
  obtain ⟨⟨hx, hb, hml, hown, hts⟩, hr, hlocks⟩ := id E
  have hl : lv_has ls 6 [(0, .ref (Γ.2.1 k0)), (1, .ref (Γ.2.1 k1))] := hl
  refine lv_aload_n hx hb dX3_closestFormula_0 rfl (lv_at hl 1 rfl) ?_
  refine x_get (own := RX3) (ref := "TintDesk$Can") (C := RX1) (T := TX1) (n := 6) (index := 95) (v := .int (M.1 k1 0)) hx hb hts (fun w h => xU_sub w (inU1 w h)) hown h (kX_can h1) rfl 0 (by decide) (hts _ (xU_sub _ q613)) (fun _ h9 => h9) rfl dX3_closestFormula_1 ?_
  obtain ⟨y1, ey1, hf⟩ := xl_s hf
  refine x_nm ey1 ?_
  refine lv_istore_n (lv' := [(2, .int y1), (0, .ref (Γ.2.1 k0)), (1, .ref (Γ.2.1 k1))]) hx hb dX3_closestFormula_4 rfl hl (by decide) rfl (fun ls hl => ?_)
  refine lv_aload_n hx hb dX3_closestFormula_5 rfl (lv_at hl 1 rfl) ?_
  refine x_get (own := RX3) (ref := "TintDesk$Desk") (C := RX3) (T := TX3) (n := 9) (index := 25) (v := .ref (Γ.2.1 (k0 + 3))) hx hb hts (fun w h => xU_sub w (inU3 w h)) hown h (kX_desk h0) rfl 2 (by decide) (hts _ (xU_sub _ q47)) (fun _ h9 => h9) rfl dX3_closestFormula_6 ?_
  refine lv_iload_n hx hb dX3_closestFormula_9 rfl (lv_at hl 0 rfl) ?_
  obtain ⟨c2, hf⟩ := xck_s hf
  refine x_aald (C := "TintDesk$Formula") hx hb h rfl (kX_desk_formulas h0) c2 dX3_closestFormula_10 ?_
  refine lv_aload_n hx hb dX3_closestFormula_11 rfl (lv_at hl 2 rfl) ?_
  obtain ⟨r3, er3, hf⟩ := xbd_s hf
  refine x_Vi (As := [.ref (Γ.2.1 k1)]) (rest := []) E.1 (m_X4_differenceFrom l (isFo_of h0 c2) h1 er3) (cwV 1 hts (xgV xU_sub q614 q615 q616 q60 q617) rfl rfl rfl hdX4_differenceFrom ⟨Nat.le_of_ble_eq_true rfl, Nat.le_of_ble_eq_true rfl⟩) h (kX_formula (isFo_of h0 c2)) rfl rfl hl.1 rfl (Nat.le_of_ble_eq_true rfl) dX3_closestFormula_12 ⟨Nat.le_of_ble_eq_true rfl, Nat.le_of_ble_eq_true rfl⟩ (fun H locs h => ?_)
  obtain ⟨y4, ey4, hf⟩ := xl_s hf
  refine x_nm ey4 ?_
  refine lv_istore_n (lv' := [(3, .int y4), (2, .int y1), (0, .ref (Γ.2.1 k0)), (1, .ref (Γ.2.1 k1))]) hx hb dX3_closestFormula_15 rfl hl (by decide) rfl (fun ls hl => ?_)
  refine lv_aload_n hx hb dX3_closestFormula_16 rfl (lv_at hl 2 rfl) ?_
  refine x_get (own := RX3) (ref := "TintDesk$Desk") (C := RX3) (T := TX3) (n := 9) (index := 42) (v := .int (r3.1.1 k0 6)) hx hb hts (fun w h => xU_sub w (inU3 w h)) hown h (kX_desk h0) rfl 6 (by decide) (hts _ (xU_sub _ q52)) (fun _ h9 => h9) rfl dX3_closestFormula_17 ?_
  refine lv_iconst (v := 1) hx hb dX3_closestFormula_20 (by decide) ?_
  refine lv_isub hx hb dX3_closestFormula_21 ?_
  obtain ⟨y5, ey5, hf⟩ := xl_s hf
  refine x_nm ey5 ?_
  refine lv_istore (lv' := [(4, .int y5), (3, .int y4), (2, .int y1), (0, .ref (Γ.2.1 k0)), (1, .ref (Γ.2.1 k1))]) hx hb dX3_closestFormula_22 hl (by decide) rfl (fun ls hl => ?_)
  exact w_X3_closestFormula_24 l E h0 h1 N y1 y4 y5 r3.1 hf _ _ _ h (lv_sub hl [3, 4, 2, 1, 0] rfl)
theorem hdX3_colourOf : yX3_colourOf.cls = RX3 ∧ yX3_colourOf.cls ≠ "java/lang/invoke/MethodHandle" ∧ yX3_colourOf.cls ≠ "java/lang/invoke/VarHandle" ∧ (parseMethodDescriptor yX3_colourOf.desc).map (fun d => d.parameters.length) = some 2 := by decide +kernel
set_option maxHeartbeats 4000000 in
set_option maxRecDepth 100000 in
theorem w_X3_colourOf_18 (l : Launch) {p : Program} {e : Env} {s : State} {m : MethodId} {args : Array Value} {below : List Frame} {meth : Method} {c : Code} {Γ : xG} {N : Nat} {k0 : Nat} {k1 : Nat} {res : xR} (E : xEv p s m args meth c RX3 cX3_colourOf 5 (some .int) (xWs yX3_colourOf cX3_colourOf 5 (some .int))) (h0 : isDk k0) (h1 : isCa k1) : ∀ (n : Nat) (v2 : Int32) (v3 : Int32) (v4 : Int32) (M : xM), L_X3_colourOf_18 N k0 k1 n v2 v3 v4 M = some res → ∀ (H : Heap) (locs : List Loc) (ls : Array Slot), xH Γ (wX Γ) 1483 s M H locs → lv_has ls 5 [(0, .ref (Γ.2.1 k0)), (1, .ref (Γ.2.1 k1)), (2, .int v2), (3, .int v3), (4, .int v4)] → W p l e ({ frames := 1, cells := 0, slots := 0, locals := 40 } : Room) s m args below meth c H locs 0 0 (MQ below (xCi Γ (wX Γ) 1483 res s.heap.size) args s 0 0 (xAd Γ 1483 s.heap.size)) (F0 m 18 ls []) := by
  obtain ⟨⟨hx, hb, hml, hown, hts⟩, hr, hlocks⟩ := id E
  intro n
  induction n with
  | zero => intro v2 v3 v4 M hf; cases hf
  | succ n ih =>
    intro v2 v3 v4 M hf H locs ls h hl
    refine lv_iload hx hb dX3_colourOf_18 (lv_at hl 4 rfl) ?_
    refine lv_aload_n hx hb dX3_colourOf_20 rfl (lv_at hl 0 rfl) ?_
    refine x_get (own := RX3) (ref := "TintDesk$Desk") (C := RX3) (T := TX3) (n := 9) (index := 35) (v := .int (M.1 k0 4)) hx hb hts (fun w h => xU_sub w (inU3 w h)) hown h (kX_desk h0) rfl 4 (by decide) (hts _ (xU_sub _ q50)) (fun _ h9 => h9) rfl dX3_colourOf_21 ?_
    refine lv_icmp_ge (tgt := 56) hx hb dX3_colourOf_24 (by decide) (fun c1 => ?_) (fun c1 => ?_)
    · replace hf := xif_t hf c1
      refine lv_iload_n hx hb dX3_colourOf_56 rfl (lv_at hl 3 rfl) ?_
      exact x_iret hx hb h (Option.some.inj hf) hr hlocks dX3_colourOf_57
    · replace hf := xif_f hf c1
      refine lv_iload_n hx hb dX3_colourOf_27 rfl (lv_at hl 3 rfl) ?_
      refine lv_aload_n hx hb dX3_colourOf_28 rfl (lv_at hl 0 rfl) ?_
      refine x_get (own := RX3) (ref := "TintDesk$Desk") (C := RX3) (T := TX3) (n := 9) (index := 11) (v := .ref (Γ.2.1 (k0 + 1))) hx hb hts (fun w h => xU_sub w (inU3 w h)) hown h (kX_desk h0) rfl 0 (by decide) (hts _ (xU_sub _ q43)) (fun _ h9 => h9) rfl dX3_colourOf_29 ?_
      refine lv_iload hx hb dX3_colourOf_32 (lv_at hl 4 rfl) ?_
      obtain ⟨c2, hf⟩ := xck_s hf
      refine x_aald (C := "TintDesk$Colorant") hx hb h rfl (kX_desk_colorants h0) c2 dX3_colourOf_34 ?_
      refine x_get (own := RX3) (ref := "TintDesk$Colorant") (C := RX2) (T := TX2) (n := 10) (index := 68) (v := .ref (Γ.2.1 ((k0 + 5 + 5 * v4.toNatClampNeg) + 1))) hx hb hts (fun w h => xU_sub w (inU2 w h)) hown h (kX_colorant (isCo_of h0 c2)) rfl 0 (by decide) (hts _ (xU_sub _ q199)) (fun _ h9 => h9) rfl dX3_colourOf_35 ?_
      refine lv_iload_n hx hb dX3_colourOf_38 rfl (lv_at hl 2 rfl) ?_
      obtain ⟨c3, hf⟩ := xck_s hf
      refine x_iald hx hb h (kX_colorant_values (isCo_of h0 c2)) (xin_in c3) dX3_colourOf_39 ?_
      refine lv_aload_n hx hb dX3_colourOf_40 rfl (lv_at hl 1 rfl) ?_
      refine x_get (own := RX3) (ref := "TintDesk$Can") (C := RX1) (T := TX1) (n := 6) (index := 142) (v := .ref (Γ.2.1 (k1 + 1))) hx hb hts (fun w h => xU_sub w (inU1 w h)) hown h (kX_can h1) rfl 4 (by decide) (hts _ (xU_sub _ q793)) (fun _ h9 => h9) rfl dX3_colourOf_41 ?_
      refine lv_iload hx hb dX3_colourOf_44 (lv_at hl 4 rfl) ?_
      obtain ⟨c4, hf⟩ := xck_s hf
      refine x_iald hx hb h (kX_can_steps h1) (xin_in c4) dX3_colourOf_46 ?_
      refine lv_imul hx hb dX3_colourOf_47 ?_
      refine lv_iadd hx hb dX3_colourOf_48 ?_
      obtain ⟨y5, ey5, hf⟩ := xl_s hf
      refine x_nm ey5 ?_
      refine lv_istore_n (lv' := [(3, .int y5), (0, .ref (Γ.2.1 k0)), (1, .ref (Γ.2.1 k1)), (2, .int v2), (4, .int v4)]) hx hb dX3_colourOf_49 rfl hl (by decide) rfl (fun ls hl => ?_)
      obtain ⟨y6, ey6, hf⟩ := xl_s hf
      refine lv_iinc (v := y6) (lv' := [(4, .int y6), (3, .int y5), (0, .ref (Γ.2.1 k0)), (1, .ref (Γ.2.1 k1)), (2, .int v2)]) hx hb dX3_colourOf_50 hl (k := 4) rfl (by rw [ey6]; rfl) (by decide) rfl (fun ls hl => ?_)
      refine lv_goto (tgt := 18) hx hb dX3_colourOf_53 (by decide) ?_
      exact ih v2 y5 y6 M hf _ _ _ h (lv_sub hl [2, 3, 4, 1, 0] rfl)
set_option maxHeartbeats 4000000 in
set_option maxRecDepth 100000 in
theorem m_X3_colourOf (l : Launch) {Γ : xG} {N : Nat} {k0 : Nat} {k1 : Nat} (h0 : isDk k0) (h1 : isCa k1) {v2 : Int32} {M : xM} {res : xR} (hf : F_X3_colourOf N k0 k1 v2 M = some res) (sz : Nat) : Met l yX3_colourOf (xWs yX3_colourOf cX3_colourOf 5 (some .int)) ({ frames := 1, cells := 0, slots := 0, locals := 40 } : Room) (va_Pc [.ref (Γ.2.1 k0), .ref (Γ.2.1 k1), .int v2] (xPre Γ (wX Γ) M sz)) (xCi Γ (wX Γ) 1483 res sz) 0 0 (xAd Γ 1483 sz) := by
  refine x_met (Qc := fun sz => xCi Γ (wX Γ) 1483 res sz) pnX3 wG_W (Nat.le_of_ble_eq_true rfl) (fun p e s m args below meth c _ E h ls hl => ?_) sz
  obtain ⟨⟨hx, hb, hml, hown, hts⟩, hr, hlocks⟩ := id E
  have hl : lv_has ls 5 [(0, .ref (Γ.2.1 k0)), (1, .ref (Γ.2.1 k1)), (2, .int v2)] := hl
  refine lv_aload_n hx hb dX3_colourOf_0 rfl (lv_at hl 0 rfl) ?_
  refine x_get (own := RX3) (ref := "TintDesk$Desk") (C := RX3) (T := TX3) (n := 9) (index := 19) (v := .ref (Γ.2.1 (k0 + 2))) hx hb hts (fun w h => xU_sub w (inU3 w h)) hown h (kX_desk h0) rfl 1 (by decide) (hts _ (xU_sub _ q45)) (fun _ h9 => h9) rfl dX3_colourOf_1 ?_
  refine lv_aload_n hx hb dX3_colourOf_4 rfl (lv_at hl 1 rfl) ?_
  refine x_get (own := RX3) (ref := "TintDesk$Can") (C := RX1) (T := TX1) (n := 6) (index := 98) (v := .int (M.1 k1 1)) hx hb hts (fun w h => xU_sub w (inU1 w h)) hown h (kX_can h1) rfl 1 (by decide) (hts _ (xU_sub _ q432)) (fun _ h9 => h9) rfl dX3_colourOf_5 ?_
  obtain ⟨c1, hf⟩ := xck_s hf
  refine x_aald (C := "TintDesk$Base") hx hb h rfl (kX_desk_bases h0) c1 dX3_colourOf_8 ?_
  refine x_get (own := RX3) (ref := "TintDesk$Base") (C := RX0) (T := TX0) (n := 3) (index := 75) (v := .ref (Γ.2.1 ((k0 + 45 + 2 * (M.1 k1 1).toNatClampNeg) + 1))) hx hb hts (fun w h => xU_sub w (inU0 w h)) hown h (kX_base (isBa_of h0 c1)) rfl 0 (by decide) (hts _ (xU_sub _ q389)) (fun _ h9 => h9) rfl dX3_colourOf_9 ?_
  refine lv_iload_n hx hb dX3_colourOf_12 rfl (lv_at hl 2 rfl) ?_
  obtain ⟨c2, hf⟩ := xck_s hf
  refine x_iald hx hb h (kX_base_values (isBa_of h0 c1)) (xin_in c2) dX3_colourOf_13 ?_
  obtain ⟨y3, ey3, hf⟩ := xl_s hf
  refine x_nm ey3 ?_
  refine lv_istore_n (lv' := [(3, .int y3), (0, .ref (Γ.2.1 k0)), (1, .ref (Γ.2.1 k1)), (2, .int v2)]) hx hb dX3_colourOf_14 rfl hl (by decide) rfl (fun ls hl => ?_)
  refine lv_iconst (v := 0) hx hb dX3_colourOf_15 (by decide) ?_
  refine lv_istore (lv' := [(4, .int 0), (3, .int y3), (0, .ref (Γ.2.1 k0)), (1, .ref (Γ.2.1 k1)), (2, .int v2)]) hx hb dX3_colourOf_16 hl (by decide) rfl (fun ls hl => ?_)
  exact w_X3_colourOf_18 l E h0 h1 N v2 y3 0 M hf _ _ _ h (lv_sub hl [2, 3, 4, 1, 0] rfl)
theorem hdX3_canHolding : yX3_canHolding.cls = RX3 ∧ yX3_canHolding.cls ≠ "java/lang/invoke/MethodHandle" ∧ yX3_canHolding.cls ≠ "java/lang/invoke/VarHandle" ∧ (parseMethodDescriptor yX3_canHolding.desc).map (fun d => d.parameters.length) = some 3 := by decide +kernel
set_option maxHeartbeats 4000000 in
set_option maxRecDepth 100000 in
theorem w_X3_canHolding_42 (l : Launch) {p : Program} {e : Env} {s : State} {m : MethodId} {args : Array Value} {below : List Frame} {meth : Method} {c : Code} {Γ : xG} {N : Nat} {k0 : Nat} {res : xR} (E : xEv p s m args meth c RX3 cX3_canHolding 6 (some .int) (xWs yX3_canHolding cX3_canHolding 6 (some .int))) (h0 : isDk k0) {K_6 : Int32 → Int32 → Int32 → Int32 → Int32 → xM → Option xR} (hK_6 : ∀ (v1 : Int32) (v2 : Int32) (v3 : Int32) (v4 : Int32) (v5 : Int32) (M : xM), K_6 v1 v2 v3 v4 v5 M = some res → ∀ (H : Heap) (locs : List Loc) (ls : Array Slot), xH Γ (wX Γ) 1483 s M H locs → lv_has ls 6 [(0, .ref (Γ.2.1 k0)), (1, .int v1), (2, .int v2), (3, .int v3), (4, .int v4), (5, .int v5)] → W p l e ({ frames := 2, cells := 0, slots := 0, locals := 64 } : Room) s m args below meth c H locs 0 0 (MQ below (xCi Γ (wX Γ) 1483 res s.heap.size) args s 0 0 (xAd Γ 1483 s.heap.size)) (F0 m 6 ls [])) : ∀ (v1 : Int32) (v2 : Int32) (v3 : Int32) (v4 : Int32) (v5 : Int32) (M : xM), L_X3_canHolding_42 N k0 K_6 v1 v2 v3 v4 v5 M = some res → ∀ (H : Heap) (locs : List Loc) (ls : Array Slot), xH Γ (wX Γ) 1483 s M H locs → lv_has ls 6 [(0, .ref (Γ.2.1 k0)), (1, .int v1), (2, .int v2), (3, .int v3), (4, .int v4), (5, .int v5)] → W p l e ({ frames := 2, cells := 0, slots := 0, locals := 64 } : Room) s m args below meth c H locs 0 0 (MQ below (xCi Γ (wX Γ) 1483 res s.heap.size) args s 0 0 (xAd Γ 1483 s.heap.size)) (F0 m 42 ls []) := by
  obtain ⟨⟨hx, hb, hml, hown, hts⟩, hr, hlocks⟩ := id E
  intro v1 v2 v3 v4 v5 M hf H locs ls h hl
  obtain ⟨y1, ey1, hf⟩ := xl_s hf
  refine lv_iinc (v := y1) (lv' := [(5, .int y1), (0, .ref (Γ.2.1 k0)), (1, .int v1), (2, .int v2), (3, .int v3), (4, .int v4)]) hx hb dX3_canHolding_42 hl (k := 5) rfl (by rw [ey1]; rfl) (by decide) rfl (fun ls hl => ?_)
  refine lv_goto (tgt := 6) hx hb dX3_canHolding_45 (by decide) ?_
  exact hK_6 v1 v2 v3 v4 y1 M hf _ _ _ h (lv_sub hl [1, 2, 3, 4, 5, 0] rfl)
set_option maxHeartbeats 4000000 in
set_option maxRecDepth 100000 in
theorem w_X3_canHolding_6 (l : Launch) {p : Program} {e : Env} {s : State} {m : MethodId} {args : Array Value} {below : List Frame} {meth : Method} {c : Code} {Γ : xG} {N : Nat} {k0 : Nat} {res : xR} (E : xEv p s m args meth c RX3 cX3_canHolding 6 (some .int) (xWs yX3_canHolding cX3_canHolding 6 (some .int))) (h0 : isDk k0) : ∀ (n : Nat) (v1 : Int32) (v2 : Int32) (v3 : Int32) (v4 : Int32) (v5 : Int32) (M : xM), L_X3_canHolding_6 N k0 n v1 v2 v3 v4 v5 M = some res → ∀ (H : Heap) (locs : List Loc) (ls : Array Slot), xH Γ (wX Γ) 1483 s M H locs → lv_has ls 6 [(0, .ref (Γ.2.1 k0)), (1, .int v1), (2, .int v2), (3, .int v3), (4, .int v4), (5, .int v5)] → W p l e ({ frames := 2, cells := 0, slots := 0, locals := 64 } : Room) s m args below meth c H locs 0 0 (MQ below (xCi Γ (wX Γ) 1483 res s.heap.size) args s 0 0 (xAd Γ 1483 s.heap.size)) (F0 m 6 ls []) := by
  obtain ⟨⟨hx, hb, hml, hown, hts⟩, hr, hlocks⟩ := id E
  intro n
  induction n with
  | zero => intro v1 v2 v3 v4 v5 M hf; cases hf
  | succ n ih =>
    intro v1 v2 v3 v4 v5 M hf H locs ls h hl
    refine lv_iload hx hb dX3_canHolding_6 (lv_at hl 5 rfl) ?_
    refine lv_aload_n hx hb dX3_canHolding_8 rfl (lv_at hl 0 rfl) ?_
    refine x_get (own := RX3) (ref := "TintDesk$Desk") (C := RX3) (T := TX3) (n := 9) (index := 45) (v := .int (M.1 k0 7)) hx hb hts (fun w h => xU_sub w (inU3 w h)) hown h (kX_desk h0) rfl 7 (by decide) (hts _ (xU_sub _ q53)) (fun _ h9 => h9) rfl dX3_canHolding_9 ?_
    refine lv_icmp_ge (tgt := 48) hx hb dX3_canHolding_12 (by decide) (fun c1 => ?_) (fun c1 => ?_)
    · replace hf := xif_t hf c1
      refine lv_iconst (v := (-1)) hx hb dX3_canHolding_48 (by decide) ?_
      exact x_iret hx hb h (Option.some.inj hf) hr hlocks dX3_canHolding_49
    · replace hf := xif_f hf c1
      refine lv_aload_n hx hb dX3_canHolding_15 rfl (lv_at hl 0 rfl) ?_
      refine x_get (own := RX3) (ref := "TintDesk$Desk") (C := RX3) (T := TX3) (n := 9) (index := 31) (v := .ref (Γ.2.1 (k0 + 4))) hx hb hts (fun w h => xU_sub w (inU3 w h)) hown h (kX_desk h0) rfl 3 (by decide) (hts _ (xU_sub _ q49)) (fun _ h9 => h9) rfl dX3_canHolding_16 ?_
      refine lv_iload hx hb dX3_canHolding_19 (lv_at hl 5 rfl) ?_
      obtain ⟨c2, hf⟩ := xck_s hf
      refine x_aald (C := "TintDesk$Can") hx hb h rfl (kX_desk_cans h0) c2 dX3_canHolding_21 ?_
      refine lv_iload_n hx hb dX3_canHolding_22 rfl (lv_at hl 1 rfl) ?_
      refine lv_iload_n hx hb dX3_canHolding_23 rfl (lv_at hl 2 rfl) ?_
      obtain ⟨r3, er3, hf⟩ := xbd_s hf
      refine x_Vi (As := [.int v1, .int v2]) (rest := []) E.1 (m_X1_holdsLot l (isCa_of h0 c2) er3) (cwV 2 hts (xgV xU_sub q899 q877 q878 q62 q879) rfl rfl rfl hdX1_holdsLot ⟨Nat.le_of_ble_eq_true rfl, Nat.le_of_ble_eq_true rfl⟩) h (kX_can (isCa_of h0 c2)) rfl rfl hl.1 rfl (Nat.le_of_ble_eq_true rfl) dX3_canHolding_24 ⟨Nat.le_of_ble_eq_true rfl, Nat.le_of_ble_eq_true rfl⟩ (fun H locs h => ?_)
      refine lv_if_eq (tgt := 42) hx hb dX3_canHolding_27 (by decide) (fun c4 => ?_) (fun c4 => ?_)
      · replace hf := xif_t hf c4
        exact w_X3_canHolding_42 l E h0 (ih) v1 v2 v3 v4 v5 r3.1 hf _ _ _ h (lv_sub hl [0, 1, 2, 3, 4, 5] rfl)
      · replace hf := xif_f hf c4
        refine lv_iload hx hb dX3_canHolding_30 (lv_at hl 4 rfl) ?_
        refine lv_iload_n hx hb dX3_canHolding_32 rfl (lv_at hl 3 rfl) ?_
        refine lv_icmp_ne (tgt := 39) hx hb dX3_canHolding_33 (by decide) (fun c5 => ?_) (fun c5 => ?_)
        · replace hf := xif_f hf c5
          obtain ⟨y6, ey6, hf⟩ := xl_s hf
          refine lv_iinc (v := y6) (lv' := [(4, .int y6), (0, .ref (Γ.2.1 k0)), (1, .int v1), (2, .int v2), (3, .int v3), (5, .int v5)]) hx hb dX3_canHolding_39 hl (k := 4) rfl (by rw [ey6]; rfl) (by decide) rfl (fun ls hl => ?_)
          exact w_X3_canHolding_42 l E h0 (ih) v1 v2 v3 y6 v5 r3.1 hf _ _ _ h (lv_sub hl [1, 2, 3, 4, 0, 5] rfl)
        · replace hf := xif_t hf c5
          refine lv_iload hx hb dX3_canHolding_36 (lv_at hl 5 rfl) ?_
          exact x_iret hx hb h (Option.some.inj hf) hr hlocks dX3_canHolding_38
set_option maxHeartbeats 4000000 in
set_option maxRecDepth 100000 in
theorem m_X3_canHolding (l : Launch) {Γ : xG} {N : Nat} {k0 : Nat} (h0 : isDk k0) {v1 : Int32} {v2 : Int32} {v3 : Int32} {M : xM} {res : xR} (hf : F_X3_canHolding N k0 v1 v2 v3 M = some res) (sz : Nat) : Met l yX3_canHolding (xWs yX3_canHolding cX3_canHolding 6 (some .int)) ({ frames := 2, cells := 0, slots := 0, locals := 64 } : Room) (va_Pc [.ref (Γ.2.1 k0), .int v1, .int v2, .int v3] (xPre Γ (wX Γ) M sz)) (xCi Γ (wX Γ) 1483 res sz) 0 0 (xAd Γ 1483 sz) := by
  refine x_met (Qc := fun sz => xCi Γ (wX Γ) 1483 res sz) pnX3 wG_W (Nat.le_of_ble_eq_true rfl) (fun p e s m args below meth c _ E h ls hl => ?_) sz
  obtain ⟨⟨hx, hb, hml, hown, hts⟩, hr, hlocks⟩ := id E
  have hl : lv_has ls 6 [(0, .ref (Γ.2.1 k0)), (1, .int v1), (2, .int v2), (3, .int v3)] := hl
  refine lv_iconst (v := 0) hx hb dX3_canHolding_0 (by decide) ?_
  refine lv_istore (lv' := [(4, .int 0), (0, .ref (Γ.2.1 k0)), (1, .int v1), (2, .int v2), (3, .int v3)]) hx hb dX3_canHolding_1 hl (by decide) rfl (fun ls hl => ?_)
  refine lv_iconst (v := 0) hx hb dX3_canHolding_3 (by decide) ?_
  refine lv_istore (lv' := [(5, .int 0), (4, .int 0), (0, .ref (Γ.2.1 k0)), (1, .int v1), (2, .int v2), (3, .int v3)]) hx hb dX3_canHolding_4 hl (by decide) rfl (fun ls hl => ?_)
  exact w_X3_canHolding_6 l E h0 N v1 v2 v3 0 0 M hf _ _ _ h (lv_sub hl [2, 3, 4, 5, 1, 0] rfl)
theorem hdX3_formulasHolding : yX3_formulasHolding.cls = RX3 ∧ yX3_formulasHolding.cls ≠ "java/lang/invoke/MethodHandle" ∧ yX3_formulasHolding.cls ≠ "java/lang/invoke/VarHandle" ∧ (parseMethodDescriptor yX3_formulasHolding.desc).map (fun d => d.parameters.length) = some 2 := by decide +kernel
set_option maxHeartbeats 4000000 in
set_option maxRecDepth 100000 in
theorem w_X3_formulasHolding_44 (l : Launch) {p : Program} {e : Env} {s : State} {m : MethodId} {args : Array Value} {below : List Frame} {meth : Method} {c : Code} {Γ : xG} {N : Nat} {k0 : Nat} {res : xR} (E : xEv p s m args meth c RX3 cX3_formulasHolding 5 (some .int) (xWs yX3_formulasHolding cX3_formulasHolding 5 (some .int))) (h0 : isDk k0) {K_5 : Int32 → Int32 → Int32 → Int32 → xM → Option xR} (hK_5 : ∀ (v1 : Int32) (v2 : Int32) (v3 : Int32) (v4 : Int32) (M : xM), K_5 v1 v2 v3 v4 M = some res → ∀ (H : Heap) (locs : List Loc) (ls : Array Slot), xH Γ (wX Γ) 1483 s M H locs → lv_has ls 5 [(0, .ref (Γ.2.1 k0)), (1, .int v1), (2, .int v2), (3, .int v3), (4, .int v4)] → W p l e ({ frames := 2, cells := 0, slots := 0, locals := 64 } : Room) s m args below meth c H locs 0 0 (MQ below (xCi Γ (wX Γ) 1483 res s.heap.size) args s 0 0 (xAd Γ 1483 s.heap.size)) (F0 m 5 ls [])) : ∀ (v1 : Int32) (v2 : Int32) (v3 : Int32) (v4 : Int32) (M : xM), L_X3_formulasHolding_44 N k0 K_5 v1 v2 v3 v4 M = some res → ∀ (H : Heap) (locs : List Loc) (ls : Array Slot), xH Γ (wX Γ) 1483 s M H locs → lv_has ls 5 [(0, .ref (Γ.2.1 k0)), (1, .int v1), (2, .int v2), (3, .int v3), (4, .int v4)] → W p l e ({ frames := 2, cells := 0, slots := 0, locals := 64 } : Room) s m args below meth c H locs 0 0 (MQ below (xCi Γ (wX Γ) 1483 res s.heap.size) args s 0 0 (xAd Γ 1483 s.heap.size)) (F0 m 44 ls []) := by
  obtain ⟨⟨hx, hb, hml, hown, hts⟩, hr, hlocks⟩ := id E
  intro v1 v2 v3 v4 M hf H locs ls h hl
  obtain ⟨y1, ey1, hf⟩ := xl_s hf
  refine lv_iinc (v := y1) (lv' := [(4, .int y1), (0, .ref (Γ.2.1 k0)), (1, .int v1), (2, .int v2), (3, .int v3)]) hx hb dX3_formulasHolding_44 hl (k := 4) rfl (by rw [ey1]; rfl) (by decide) rfl (fun ls hl => ?_)
  refine lv_goto (tgt := 5) hx hb dX3_formulasHolding_47 (by decide) ?_
  exact hK_5 v1 v2 v3 y1 M hf _ _ _ h (lv_sub hl [1, 2, 3, 4, 0] rfl)
set_option maxHeartbeats 4000000 in
set_option maxRecDepth 100000 in
theorem w_X3_formulasHolding_5 (l : Launch) {p : Program} {e : Env} {s : State} {m : MethodId} {args : Array Value} {below : List Frame} {meth : Method} {c : Code} {Γ : xG} {N : Nat} {k0 : Nat} {res : xR} (E : xEv p s m args meth c RX3 cX3_formulasHolding 5 (some .int) (xWs yX3_formulasHolding cX3_formulasHolding 5 (some .int))) (h0 : isDk k0) : ∀ (n : Nat) (v1 : Int32) (v2 : Int32) (v3 : Int32) (v4 : Int32) (M : xM), L_X3_formulasHolding_5 N k0 n v1 v2 v3 v4 M = some res → ∀ (H : Heap) (locs : List Loc) (ls : Array Slot), xH Γ (wX Γ) 1483 s M H locs → lv_has ls 5 [(0, .ref (Γ.2.1 k0)), (1, .int v1), (2, .int v2), (3, .int v3), (4, .int v4)] → W p l e ({ frames := 2, cells := 0, slots := 0, locals := 64 } : Room) s m args below meth c H locs 0 0 (MQ below (xCi Γ (wX Γ) 1483 res s.heap.size) args s 0 0 (xAd Γ 1483 s.heap.size)) (F0 m 5 ls []) := by
  obtain ⟨⟨hx, hb, hml, hown, hts⟩, hr, hlocks⟩ := id E
  intro n
  induction n with
  | zero => intro v1 v2 v3 v4 M hf; cases hf
  | succ n ih =>
    intro v1 v2 v3 v4 M hf H locs ls h hl
    refine lv_iload hx hb dX3_formulasHolding_5 (lv_at hl 4 rfl) ?_
    refine lv_aload_n hx hb dX3_formulasHolding_7 rfl (lv_at hl 0 rfl) ?_
    refine x_get (own := RX3) (ref := "TintDesk$Desk") (C := RX3) (T := TX3) (n := 9) (index := 45) (v := .int (M.1 k0 7)) hx hb hts (fun w h => xU_sub w (inU3 w h)) hown h (kX_desk h0) rfl 7 (by decide) (hts _ (xU_sub _ q53)) (fun _ h9 => h9) rfl dX3_formulasHolding_8 ?_
    refine lv_icmp_ge (tgt := 50) hx hb dX3_formulasHolding_11 (by decide) (fun c1 => ?_) (fun c1 => ?_)
    · replace hf := xif_t hf c1
      refine lv_iload_n hx hb dX3_formulasHolding_50 rfl (lv_at hl 3 rfl) ?_
      exact x_iret hx hb h (Option.some.inj hf) hr hlocks dX3_formulasHolding_51
    · replace hf := xif_f hf c1
      refine lv_aload_n hx hb dX3_formulasHolding_14 rfl (lv_at hl 0 rfl) ?_
      refine x_get (own := RX3) (ref := "TintDesk$Desk") (C := RX3) (T := TX3) (n := 9) (index := 31) (v := .ref (Γ.2.1 (k0 + 4))) hx hb hts (fun w h => xU_sub w (inU3 w h)) hown h (kX_desk h0) rfl 3 (by decide) (hts _ (xU_sub _ q49)) (fun _ h9 => h9) rfl dX3_formulasHolding_15 ?_
      refine lv_iload hx hb dX3_formulasHolding_18 (lv_at hl 4 rfl) ?_
      obtain ⟨c2, hf⟩ := xck_s hf
      refine x_aald (C := "TintDesk$Can") hx hb h rfl (kX_desk_cans h0) c2 dX3_formulasHolding_20 ?_
      refine lv_iload_n hx hb dX3_formulasHolding_21 rfl (lv_at hl 1 rfl) ?_
      refine lv_iload_n hx hb dX3_formulasHolding_22 rfl (lv_at hl 2 rfl) ?_
      obtain ⟨r3, er3, hf⟩ := xbd_s hf
      refine x_Vi (As := [.int v1, .int v2]) (rest := []) E.1 (m_X1_holdsLot l (isCa_of h0 c2) er3) (cwV 2 hts (xgV xU_sub q899 q877 q878 q62 q879) rfl rfl rfl hdX1_holdsLot ⟨Nat.le_of_ble_eq_true rfl, Nat.le_of_ble_eq_true rfl⟩) h (kX_can (isCa_of h0 c2)) rfl rfl hl.1 rfl (Nat.le_of_ble_eq_true rfl) dX3_formulasHolding_23 ⟨Nat.le_of_ble_eq_true rfl, Nat.le_of_ble_eq_true rfl⟩ (fun H locs h => ?_)
      refine lv_if_eq (tgt := 44) hx hb dX3_formulasHolding_26 (by decide) (fun c4 => ?_) (fun c4 => ?_)
      · replace hf := xif_t hf c4
        exact w_X3_formulasHolding_44 l E h0 (ih) v1 v2 v3 v4 r3.1 hf _ _ _ h (lv_sub hl [0, 1, 2, 3, 4] rfl)
      · replace hf := xif_f hf c4
        refine lv_iload_n hx hb dX3_formulasHolding_29 rfl (lv_at hl 3 rfl) ?_
        refine lv_iconst (v := 1) hx hb dX3_formulasHolding_30 (by decide) ?_
        refine lv_aload_n hx hb dX3_formulasHolding_31 rfl (lv_at hl 0 rfl) ?_
        refine x_get (own := RX3) (ref := "TintDesk$Desk") (C := RX3) (T := TX3) (n := 9) (index := 31) (v := .ref (Γ.2.1 (k0 + 4))) hx hb hts (fun w h => xU_sub w (inU3 w h)) hown h (kX_desk h0) rfl 3 (by decide) (hts _ (xU_sub _ q49)) (fun _ h9 => h9) rfl dX3_formulasHolding_32 ?_
        refine lv_iload hx hb dX3_formulasHolding_35 (lv_at hl 4 rfl) ?_
        obtain ⟨c5, hf⟩ := xck_s hf
        refine x_aald (C := "TintDesk$Can") hx hb h rfl (kX_desk_cans h0) c5 dX3_formulasHolding_37 ?_
        refine x_get (own := RX3) (ref := "TintDesk$Can") (C := RX1) (T := TX1) (n := 6) (index := 95) (v := .int (r3.1.1 (k0 + 87 + 3 * v4.toNatClampNeg) 0)) hx hb hts (fun w h => xU_sub w (inU1 w h)) hown h (kX_can (isCa_of h0 c5)) rfl 0 (by decide) (hts _ (xU_sub _ q613)) (fun _ h9 => h9) rfl dX3_formulasHolding_38 ?_
        refine lv_ishl hx hb dX3_formulasHolding_41 ?_
        refine lv_ior hx hb dX3_formulasHolding_42 ?_
        obtain ⟨y6, ey6, hf⟩ := xl_s hf
        refine x_nm ey6 ?_
        refine lv_istore_n (lv' := [(3, .int y6), (0, .ref (Γ.2.1 k0)), (1, .int v1), (2, .int v2), (4, .int v4)]) hx hb dX3_formulasHolding_43 rfl hl (by decide) rfl (fun ls hl => ?_)
        exact w_X3_formulasHolding_44 l E h0 (ih) v1 v2 y6 v4 r3.1 hf _ _ _ h (lv_sub hl [1, 2, 3, 0, 4] rfl)
set_option maxHeartbeats 4000000 in
set_option maxRecDepth 100000 in
theorem m_X3_formulasHolding (l : Launch) {Γ : xG} {N : Nat} {k0 : Nat} (h0 : isDk k0) {v1 : Int32} {v2 : Int32} {M : xM} {res : xR} (hf : F_X3_formulasHolding N k0 v1 v2 M = some res) (sz : Nat) : Met l yX3_formulasHolding (xWs yX3_formulasHolding cX3_formulasHolding 5 (some .int)) ({ frames := 2, cells := 0, slots := 0, locals := 64 } : Room) (va_Pc [.ref (Γ.2.1 k0), .int v1, .int v2] (xPre Γ (wX Γ) M sz)) (xCi Γ (wX Γ) 1483 res sz) 0 0 (xAd Γ 1483 sz) := by
  refine x_met (Qc := fun sz => xCi Γ (wX Γ) 1483 res sz) pnX3 wG_W (Nat.le_of_ble_eq_true rfl) (fun p e s m args below meth c _ E h ls hl => ?_) sz
  obtain ⟨⟨hx, hb, hml, hown, hts⟩, hr, hlocks⟩ := id E
  have hl : lv_has ls 5 [(0, .ref (Γ.2.1 k0)), (1, .int v1), (2, .int v2)] := hl
  refine lv_iconst (v := 0) hx hb dX3_formulasHolding_0 (by decide) ?_
  refine lv_istore_n (lv' := [(3, .int 0), (0, .ref (Γ.2.1 k0)), (1, .int v1), (2, .int v2)]) hx hb dX3_formulasHolding_1 rfl hl (by decide) rfl (fun ls hl => ?_)
  refine lv_iconst (v := 0) hx hb dX3_formulasHolding_2 (by decide) ?_
  refine lv_istore (lv' := [(4, .int 0), (3, .int 0), (0, .ref (Γ.2.1 k0)), (1, .int v1), (2, .int v2)]) hx hb dX3_formulasHolding_3 hl (by decide) rfl (fun ls hl => ?_)
  exact w_X3_formulasHolding_5 l E h0 N v1 v2 0 0 M hf _ _ _ h (lv_sub hl [2, 3, 4, 1, 0] rfl)
theorem hdX3_countCansOfFormula : yX3_countCansOfFormula.cls = RX3 ∧ yX3_countCansOfFormula.cls ≠ "java/lang/invoke/MethodHandle" ∧ yX3_countCansOfFormula.cls ≠ "java/lang/invoke/VarHandle" ∧ (parseMethodDescriptor yX3_countCansOfFormula.desc).map (fun d => d.parameters.length) = some 1 := by decide +kernel
set_option maxHeartbeats 4000000 in
set_option maxRecDepth 100000 in
theorem w_X3_countCansOfFormula_28 (l : Launch) {p : Program} {e : Env} {s : State} {m : MethodId} {args : Array Value} {below : List Frame} {meth : Method} {c : Code} {Γ : xG} {N : Nat} {k0 : Nat} {res : xR} (E : xEv p s m args meth c RX3 cX3_countCansOfFormula 4 (some .int) (xWs yX3_countCansOfFormula cX3_countCansOfFormula 4 (some .int))) (h0 : isDk k0) {K_4 : Int32 → Int32 → Int32 → xM → Option xR} (hK_4 : ∀ (v1 : Int32) (v2 : Int32) (v3 : Int32) (M : xM), K_4 v1 v2 v3 M = some res → ∀ (H : Heap) (locs : List Loc) (ls : Array Slot), xH Γ (wX Γ) 1483 s M H locs → lv_has ls 4 [(0, .ref (Γ.2.1 k0)), (1, .int v1), (2, .int v2), (3, .int v3)] → W p l e ({ frames := 1, cells := 0, slots := 0, locals := 40 } : Room) s m args below meth c H locs 0 0 (MQ below (xCi Γ (wX Γ) 1483 res s.heap.size) args s 0 0 (xAd Γ 1483 s.heap.size)) (F0 m 4 ls [])) : ∀ (v1 : Int32) (v2 : Int32) (v3 : Int32) (M : xM), L_X3_countCansOfFormula_28 N k0 K_4 v1 v2 v3 M = some res → ∀ (H : Heap) (locs : List Loc) (ls : Array Slot), xH Γ (wX Γ) 1483 s M H locs → lv_has ls 4 [(0, .ref (Γ.2.1 k0)), (1, .int v1), (2, .int v2), (3, .int v3)] → W p l e ({ frames := 1, cells := 0, slots := 0, locals := 40 } : Room) s m args below meth c H locs 0 0 (MQ below (xCi Γ (wX Γ) 1483 res s.heap.size) args s 0 0 (xAd Γ 1483 s.heap.size)) (F0 m 28 ls []) := by
  obtain ⟨⟨hx, hb, hml, hown, hts⟩, hr, hlocks⟩ := id E
  intro v1 v2 v3 M hf H locs ls h hl
  obtain ⟨y1, ey1, hf⟩ := xl_s hf
  refine lv_iinc (v := y1) (lv' := [(3, .int y1), (0, .ref (Γ.2.1 k0)), (1, .int v1), (2, .int v2)]) hx hb dX3_countCansOfFormula_28 hl (k := 3) rfl (by rw [ey1]; rfl) (by decide) rfl (fun ls hl => ?_)
  refine lv_goto (tgt := 4) hx hb dX3_countCansOfFormula_31 (by decide) ?_
  exact hK_4 v1 v2 y1 M hf _ _ _ h (lv_sub hl [1, 2, 3, 0] rfl)
set_option maxHeartbeats 4000000 in
set_option maxRecDepth 100000 in
theorem w_X3_countCansOfFormula_4 (l : Launch) {p : Program} {e : Env} {s : State} {m : MethodId} {args : Array Value} {below : List Frame} {meth : Method} {c : Code} {Γ : xG} {N : Nat} {k0 : Nat} {res : xR} (E : xEv p s m args meth c RX3 cX3_countCansOfFormula 4 (some .int) (xWs yX3_countCansOfFormula cX3_countCansOfFormula 4 (some .int))) (h0 : isDk k0) : ∀ (n : Nat) (v1 : Int32) (v2 : Int32) (v3 : Int32) (M : xM), L_X3_countCansOfFormula_4 N k0 n v1 v2 v3 M = some res → ∀ (H : Heap) (locs : List Loc) (ls : Array Slot), xH Γ (wX Γ) 1483 s M H locs → lv_has ls 4 [(0, .ref (Γ.2.1 k0)), (1, .int v1), (2, .int v2), (3, .int v3)] → W p l e ({ frames := 1, cells := 0, slots := 0, locals := 40 } : Room) s m args below meth c H locs 0 0 (MQ below (xCi Γ (wX Γ) 1483 res s.heap.size) args s 0 0 (xAd Γ 1483 s.heap.size)) (F0 m 4 ls []) := by
  obtain ⟨⟨hx, hb, hml, hown, hts⟩, hr, hlocks⟩ := id E
  intro n
  induction n with
  | zero => intro v1 v2 v3 M hf; cases hf
  | succ n ih =>
    intro v1 v2 v3 M hf H locs ls h hl
    refine lv_iload_n hx hb dX3_countCansOfFormula_4 rfl (lv_at hl 3 rfl) ?_
    refine lv_aload_n hx hb dX3_countCansOfFormula_5 rfl (lv_at hl 0 rfl) ?_
    refine x_get (own := RX3) (ref := "TintDesk$Desk") (C := RX3) (T := TX3) (n := 9) (index := 45) (v := .int (M.1 k0 7)) hx hb hts (fun w h => xU_sub w (inU3 w h)) hown h (kX_desk h0) rfl 7 (by decide) (hts _ (xU_sub _ q53)) (fun _ h9 => h9) rfl dX3_countCansOfFormula_6 ?_
    refine lv_icmp_ge (tgt := 34) hx hb dX3_countCansOfFormula_9 (by decide) (fun c1 => ?_) (fun c1 => ?_)
    · replace hf := xif_t hf c1
      refine lv_iload_n hx hb dX3_countCansOfFormula_34 rfl (lv_at hl 2 rfl) ?_
      exact x_iret hx hb h (Option.some.inj hf) hr hlocks dX3_countCansOfFormula_35
    · replace hf := xif_f hf c1
      refine lv_aload_n hx hb dX3_countCansOfFormula_12 rfl (lv_at hl 0 rfl) ?_
      refine x_get (own := RX3) (ref := "TintDesk$Desk") (C := RX3) (T := TX3) (n := 9) (index := 31) (v := .ref (Γ.2.1 (k0 + 4))) hx hb hts (fun w h => xU_sub w (inU3 w h)) hown h (kX_desk h0) rfl 3 (by decide) (hts _ (xU_sub _ q49)) (fun _ h9 => h9) rfl dX3_countCansOfFormula_13 ?_
      refine lv_iload_n hx hb dX3_countCansOfFormula_16 rfl (lv_at hl 3 rfl) ?_
      obtain ⟨c2, hf⟩ := xck_s hf
      refine x_aald (C := "TintDesk$Can") hx hb h rfl (kX_desk_cans h0) c2 dX3_countCansOfFormula_17 ?_
      refine x_get (own := RX3) (ref := "TintDesk$Can") (C := RX1) (T := TX1) (n := 6) (index := 95) (v := .int (M.1 (k0 + 87 + 3 * v3.toNatClampNeg) 0)) hx hb hts (fun w h => xU_sub w (inU1 w h)) hown h (kX_can (isCa_of h0 c2)) rfl 0 (by decide) (hts _ (xU_sub _ q613)) (fun _ h9 => h9) rfl dX3_countCansOfFormula_18 ?_
      refine lv_iload_n hx hb dX3_countCansOfFormula_21 rfl (lv_at hl 1 rfl) ?_
      refine lv_icmp_ne (tgt := 28) hx hb dX3_countCansOfFormula_22 (by decide) (fun c3 => ?_) (fun c3 => ?_)
      · replace hf := xif_f hf c3
        exact w_X3_countCansOfFormula_28 l E h0 (ih) v1 v2 v3 M hf _ _ _ h (lv_sub hl [0, 1, 2, 3] rfl)
      · replace hf := xif_t hf c3
        obtain ⟨y4, ey4, hf⟩ := xl_s hf
        refine lv_iinc (v := y4) (lv' := [(2, .int y4), (0, .ref (Γ.2.1 k0)), (1, .int v1), (3, .int v3)]) hx hb dX3_countCansOfFormula_25 hl (k := 2) rfl (by rw [ey4]; rfl) (by decide) rfl (fun ls hl => ?_)
        exact w_X3_countCansOfFormula_28 l E h0 (ih) v1 y4 v3 M hf _ _ _ h (lv_sub hl [1, 2, 0, 3] rfl)
set_option maxHeartbeats 4000000 in
set_option maxRecDepth 100000 in
theorem m_X3_countCansOfFormula (l : Launch) {Γ : xG} {N : Nat} {k0 : Nat} (h0 : isDk k0) {v1 : Int32} {M : xM} {res : xR} (hf : F_X3_countCansOfFormula N k0 v1 M = some res) (sz : Nat) : Met l yX3_countCansOfFormula (xWs yX3_countCansOfFormula cX3_countCansOfFormula 4 (some .int)) ({ frames := 1, cells := 0, slots := 0, locals := 40 } : Room) (va_Pc [.ref (Γ.2.1 k0), .int v1] (xPre Γ (wX Γ) M sz)) (xCi Γ (wX Γ) 1483 res sz) 0 0 (xAd Γ 1483 sz) := by
  refine x_met (Qc := fun sz => xCi Γ (wX Γ) 1483 res sz) pnX3 wG_W (Nat.le_of_ble_eq_true rfl) (fun p e s m args below meth c _ E h ls hl => ?_) sz
  obtain ⟨⟨hx, hb, hml, hown, hts⟩, hr, hlocks⟩ := id E
  have hl : lv_has ls 4 [(0, .ref (Γ.2.1 k0)), (1, .int v1)] := hl
  refine lv_iconst (v := 0) hx hb dX3_countCansOfFormula_0 (by decide) ?_
  refine lv_istore_n (lv' := [(2, .int 0), (0, .ref (Γ.2.1 k0)), (1, .int v1)]) hx hb dX3_countCansOfFormula_1 rfl hl (by decide) rfl (fun ls hl => ?_)
  refine lv_iconst (v := 0) hx hb dX3_countCansOfFormula_2 (by decide) ?_
  refine lv_istore_n (lv' := [(3, .int 0), (2, .int 0), (0, .ref (Γ.2.1 k0)), (1, .int v1)]) hx hb dX3_countCansOfFormula_3 rfl hl (by decide) rfl (fun ls hl => ?_)
  exact w_X3_countCansOfFormula_4 l E h0 N v1 0 0 M hf _ _ _ h (lv_sub hl [2, 3, 1, 0] rfl)
theorem hdX3_stepsInCansOfFormula : yX3_stepsInCansOfFormula.cls = RX3 ∧ yX3_stepsInCansOfFormula.cls ≠ "java/lang/invoke/MethodHandle" ∧ yX3_stepsInCansOfFormula.cls ≠ "java/lang/invoke/VarHandle" ∧ (parseMethodDescriptor yX3_stepsInCansOfFormula.desc).map (fun d => d.parameters.length) = some 1 := by decide +kernel
set_option maxHeartbeats 4000000 in
set_option maxRecDepth 100000 in
theorem w_X3_stepsInCansOfFormula_37 (l : Launch) {p : Program} {e : Env} {s : State} {m : MethodId} {args : Array Value} {below : List Frame} {meth : Method} {c : Code} {Γ : xG} {N : Nat} {k0 : Nat} {res : xR} (E : xEv p s m args meth c RX3 cX3_stepsInCansOfFormula 4 (some .int) (xWs yX3_stepsInCansOfFormula cX3_stepsInCansOfFormula 4 (some .int))) (h0 : isDk k0) {K_4 : Int32 → Int32 → Int32 → xM → Option xR} (hK_4 : ∀ (v1 : Int32) (v2 : Int32) (v3 : Int32) (M : xM), K_4 v1 v2 v3 M = some res → ∀ (H : Heap) (locs : List Loc) (ls : Array Slot), xH Γ (wX Γ) 1483 s M H locs → lv_has ls 4 [(0, .ref (Γ.2.1 k0)), (1, .int v1), (2, .int v2), (3, .int v3)] → W p l e ({ frames := 2, cells := 0, slots := 0, locals := 62 } : Room) s m args below meth c H locs 0 0 (MQ below (xCi Γ (wX Γ) 1483 res s.heap.size) args s 0 0 (xAd Γ 1483 s.heap.size)) (F0 m 4 ls [])) : ∀ (v1 : Int32) (v2 : Int32) (v3 : Int32) (M : xM), L_X3_stepsInCansOfFormula_37 N k0 K_4 v1 v2 v3 M = some res → ∀ (H : Heap) (locs : List Loc) (ls : Array Slot), xH Γ (wX Γ) 1483 s M H locs → lv_has ls 4 [(0, .ref (Γ.2.1 k0)), (1, .int v1), (2, .int v2), (3, .int v3)] → W p l e ({ frames := 2, cells := 0, slots := 0, locals := 62 } : Room) s m args below meth c H locs 0 0 (MQ below (xCi Γ (wX Γ) 1483 res s.heap.size) args s 0 0 (xAd Γ 1483 s.heap.size)) (F0 m 37 ls []) := by
  obtain ⟨⟨hx, hb, hml, hown, hts⟩, hr, hlocks⟩ := id E
  intro v1 v2 v3 M hf H locs ls h hl
  obtain ⟨y1, ey1, hf⟩ := xl_s hf
  refine lv_iinc (v := y1) (lv' := [(3, .int y1), (0, .ref (Γ.2.1 k0)), (1, .int v1), (2, .int v2)]) hx hb dX3_stepsInCansOfFormula_37 hl (k := 3) rfl (by rw [ey1]; rfl) (by decide) rfl (fun ls hl => ?_)
  refine lv_goto (tgt := 4) hx hb dX3_stepsInCansOfFormula_40 (by decide) ?_
  exact hK_4 v1 v2 y1 M hf _ _ _ h (lv_sub hl [1, 2, 3, 0] rfl)
set_option maxHeartbeats 4000000 in
set_option maxRecDepth 100000 in
theorem w_X3_stepsInCansOfFormula_4 (l : Launch) {p : Program} {e : Env} {s : State} {m : MethodId} {args : Array Value} {below : List Frame} {meth : Method} {c : Code} {Γ : xG} {N : Nat} {k0 : Nat} {res : xR} (E : xEv p s m args meth c RX3 cX3_stepsInCansOfFormula 4 (some .int) (xWs yX3_stepsInCansOfFormula cX3_stepsInCansOfFormula 4 (some .int))) (h0 : isDk k0) : ∀ (n : Nat) (v1 : Int32) (v2 : Int32) (v3 : Int32) (M : xM), L_X3_stepsInCansOfFormula_4 N k0 n v1 v2 v3 M = some res → ∀ (H : Heap) (locs : List Loc) (ls : Array Slot), xH Γ (wX Γ) 1483 s M H locs → lv_has ls 4 [(0, .ref (Γ.2.1 k0)), (1, .int v1), (2, .int v2), (3, .int v3)] → W p l e ({ frames := 2, cells := 0, slots := 0, locals := 62 } : Room) s m args below meth c H locs 0 0 (MQ below (xCi Γ (wX Γ) 1483 res s.heap.size) args s 0 0 (xAd Γ 1483 s.heap.size)) (F0 m 4 ls []) := by
  obtain ⟨⟨hx, hb, hml, hown, hts⟩, hr, hlocks⟩ := id E
  intro n
  induction n with
  | zero => intro v1 v2 v3 M hf; cases hf
  | succ n ih =>
    intro v1 v2 v3 M hf H locs ls h hl
    refine lv_iload_n hx hb dX3_stepsInCansOfFormula_4 rfl (lv_at hl 3 rfl) ?_
    refine lv_aload_n hx hb dX3_stepsInCansOfFormula_5 rfl (lv_at hl 0 rfl) ?_
    refine x_get (own := RX3) (ref := "TintDesk$Desk") (C := RX3) (T := TX3) (n := 9) (index := 45) (v := .int (M.1 k0 7)) hx hb hts (fun w h => xU_sub w (inU3 w h)) hown h (kX_desk h0) rfl 7 (by decide) (hts _ (xU_sub _ q53)) (fun _ h9 => h9) rfl dX3_stepsInCansOfFormula_6 ?_
    refine lv_icmp_ge (tgt := 43) hx hb dX3_stepsInCansOfFormula_9 (by decide) (fun c1 => ?_) (fun c1 => ?_)
    · replace hf := xif_t hf c1
      refine lv_iload_n hx hb dX3_stepsInCansOfFormula_43 rfl (lv_at hl 2 rfl) ?_
      exact x_iret hx hb h (Option.some.inj hf) hr hlocks dX3_stepsInCansOfFormula_44
    · replace hf := xif_f hf c1
      refine lv_aload_n hx hb dX3_stepsInCansOfFormula_12 rfl (lv_at hl 0 rfl) ?_
      refine x_get (own := RX3) (ref := "TintDesk$Desk") (C := RX3) (T := TX3) (n := 9) (index := 31) (v := .ref (Γ.2.1 (k0 + 4))) hx hb hts (fun w h => xU_sub w (inU3 w h)) hown h (kX_desk h0) rfl 3 (by decide) (hts _ (xU_sub _ q49)) (fun _ h9 => h9) rfl dX3_stepsInCansOfFormula_13 ?_
      refine lv_iload_n hx hb dX3_stepsInCansOfFormula_16 rfl (lv_at hl 3 rfl) ?_
      obtain ⟨c2, hf⟩ := xck_s hf
      refine x_aald (C := "TintDesk$Can") hx hb h rfl (kX_desk_cans h0) c2 dX3_stepsInCansOfFormula_17 ?_
      refine x_get (own := RX3) (ref := "TintDesk$Can") (C := RX1) (T := TX1) (n := 6) (index := 95) (v := .int (M.1 (k0 + 87 + 3 * v3.toNatClampNeg) 0)) hx hb hts (fun w h => xU_sub w (inU1 w h)) hown h (kX_can (isCa_of h0 c2)) rfl 0 (by decide) (hts _ (xU_sub _ q613)) (fun _ h9 => h9) rfl dX3_stepsInCansOfFormula_18 ?_
      refine lv_iload_n hx hb dX3_stepsInCansOfFormula_21 rfl (lv_at hl 1 rfl) ?_
      refine lv_icmp_ne (tgt := 37) hx hb dX3_stepsInCansOfFormula_22 (by decide) (fun c3 => ?_) (fun c3 => ?_)
      · replace hf := xif_f hf c3
        exact w_X3_stepsInCansOfFormula_37 l E h0 (ih) v1 v2 v3 M hf _ _ _ h (lv_sub hl [0, 1, 2, 3] rfl)
      · replace hf := xif_t hf c3
        refine lv_iload_n hx hb dX3_stepsInCansOfFormula_25 rfl (lv_at hl 2 rfl) ?_
        refine lv_aload_n hx hb dX3_stepsInCansOfFormula_26 rfl (lv_at hl 0 rfl) ?_
        refine x_get (own := RX3) (ref := "TintDesk$Desk") (C := RX3) (T := TX3) (n := 9) (index := 31) (v := .ref (Γ.2.1 (k0 + 4))) hx hb hts (fun w h => xU_sub w (inU3 w h)) hown h (kX_desk h0) rfl 3 (by decide) (hts _ (xU_sub _ q49)) (fun _ h9 => h9) rfl dX3_stepsInCansOfFormula_27 ?_
        refine lv_iload_n hx hb dX3_stepsInCansOfFormula_30 rfl (lv_at hl 3 rfl) ?_
        obtain ⟨c4, hf⟩ := xck_s hf
        refine x_aald (C := "TintDesk$Can") hx hb h rfl (kX_desk_cans h0) c4 dX3_stepsInCansOfFormula_31 ?_
        obtain ⟨r5, er5, hf⟩ := xbd_s hf
        refine x_Vi (As := []) (rest := [.int v2]) E.1 (m_X1_allSteps l (isCa_of h0 c4) er5) (cwV 0 hts (xgV xU_sub q762 q763 q764 q62 q765) rfl rfl rfl hdX1_allSteps ⟨Nat.le_of_ble_eq_true rfl, Nat.le_of_ble_eq_true rfl⟩) h (kX_can (isCa_of h0 c4)) rfl rfl hl.1 rfl (Nat.le_of_ble_eq_true rfl) dX3_stepsInCansOfFormula_32 ⟨Nat.le_of_ble_eq_true rfl, Nat.le_of_ble_eq_true rfl⟩ (fun H locs h => ?_)
        refine lv_iadd hx hb dX3_stepsInCansOfFormula_35 ?_
        obtain ⟨y6, ey6, hf⟩ := xl_s hf
        refine x_nm ey6 ?_
        refine lv_istore_n (lv' := [(2, .int y6), (0, .ref (Γ.2.1 k0)), (1, .int v1), (3, .int v3)]) hx hb dX3_stepsInCansOfFormula_36 rfl hl (by decide) rfl (fun ls hl => ?_)
        exact w_X3_stepsInCansOfFormula_37 l E h0 (ih) v1 y6 v3 r5.1 hf _ _ _ h (lv_sub hl [1, 2, 0, 3] rfl)
set_option maxHeartbeats 4000000 in
set_option maxRecDepth 100000 in
theorem m_X3_stepsInCansOfFormula (l : Launch) {Γ : xG} {N : Nat} {k0 : Nat} (h0 : isDk k0) {v1 : Int32} {M : xM} {res : xR} (hf : F_X3_stepsInCansOfFormula N k0 v1 M = some res) (sz : Nat) : Met l yX3_stepsInCansOfFormula (xWs yX3_stepsInCansOfFormula cX3_stepsInCansOfFormula 4 (some .int)) ({ frames := 2, cells := 0, slots := 0, locals := 62 } : Room) (va_Pc [.ref (Γ.2.1 k0), .int v1] (xPre Γ (wX Γ) M sz)) (xCi Γ (wX Γ) 1483 res sz) 0 0 (xAd Γ 1483 sz) := by
  refine x_met (Qc := fun sz => xCi Γ (wX Γ) 1483 res sz) pnX3 wG_W (Nat.le_of_ble_eq_true rfl) (fun p e s m args below meth c _ E h ls hl => ?_) sz
  obtain ⟨⟨hx, hb, hml, hown, hts⟩, hr, hlocks⟩ := id E
  have hl : lv_has ls 4 [(0, .ref (Γ.2.1 k0)), (1, .int v1)] := hl
  refine lv_iconst (v := 0) hx hb dX3_stepsInCansOfFormula_0 (by decide) ?_
  refine lv_istore_n (lv' := [(2, .int 0), (0, .ref (Γ.2.1 k0)), (1, .int v1)]) hx hb dX3_stepsInCansOfFormula_1 rfl hl (by decide) rfl (fun ls hl => ?_)
  refine lv_iconst (v := 0) hx hb dX3_stepsInCansOfFormula_2 (by decide) ?_
  refine lv_istore_n (lv' := [(3, .int 0), (2, .int 0), (0, .ref (Γ.2.1 k0)), (1, .int v1)]) hx hb dX3_stepsInCansOfFormula_3 rfl hl (by decide) rfl (fun ls hl => ?_)
  exact w_X3_stepsInCansOfFormula_4 l E h0 N v1 0 0 M hf _ _ _ h (lv_sub hl [2, 3, 1, 0] rfl)
theorem hdX3_countCansOfBase : yX3_countCansOfBase.cls = RX3 ∧ yX3_countCansOfBase.cls ≠ "java/lang/invoke/MethodHandle" ∧ yX3_countCansOfBase.cls ≠ "java/lang/invoke/VarHandle" ∧ (parseMethodDescriptor yX3_countCansOfBase.desc).map (fun d => d.parameters.length) = some 1 := by decide +kernel
set_option maxHeartbeats 4000000 in
set_option maxRecDepth 100000 in
theorem w_X3_countCansOfBase_28 (l : Launch) {p : Program} {e : Env} {s : State} {m : MethodId} {args : Array Value} {below : List Frame} {meth : Method} {c : Code} {Γ : xG} {N : Nat} {k0 : Nat} {res : xR} (E : xEv p s m args meth c RX3 cX3_countCansOfBase 4 (some .int) (xWs yX3_countCansOfBase cX3_countCansOfBase 4 (some .int))) (h0 : isDk k0) {K_4 : Int32 → Int32 → Int32 → xM → Option xR} (hK_4 : ∀ (v1 : Int32) (v2 : Int32) (v3 : Int32) (M : xM), K_4 v1 v2 v3 M = some res → ∀ (H : Heap) (locs : List Loc) (ls : Array Slot), xH Γ (wX Γ) 1483 s M H locs → lv_has ls 4 [(0, .ref (Γ.2.1 k0)), (1, .int v1), (2, .int v2), (3, .int v3)] → W p l e ({ frames := 1, cells := 0, slots := 0, locals := 40 } : Room) s m args below meth c H locs 0 0 (MQ below (xCi Γ (wX Γ) 1483 res s.heap.size) args s 0 0 (xAd Γ 1483 s.heap.size)) (F0 m 4 ls [])) : ∀ (v1 : Int32) (v2 : Int32) (v3 : Int32) (M : xM), L_X3_countCansOfBase_28 N k0 K_4 v1 v2 v3 M = some res → ∀ (H : Heap) (locs : List Loc) (ls : Array Slot), xH Γ (wX Γ) 1483 s M H locs → lv_has ls 4 [(0, .ref (Γ.2.1 k0)), (1, .int v1), (2, .int v2), (3, .int v3)] → W p l e ({ frames := 1, cells := 0, slots := 0, locals := 40 } : Room) s m args below meth c H locs 0 0 (MQ below (xCi Γ (wX Γ) 1483 res s.heap.size) args s 0 0 (xAd Γ 1483 s.heap.size)) (F0 m 28 ls []) := by
  obtain ⟨⟨hx, hb, hml, hown, hts⟩, hr, hlocks⟩ := id E
  intro v1 v2 v3 M hf H locs ls h hl
  obtain ⟨y1, ey1, hf⟩ := xl_s hf
  refine lv_iinc (v := y1) (lv' := [(3, .int y1), (0, .ref (Γ.2.1 k0)), (1, .int v1), (2, .int v2)]) hx hb dX3_countCansOfBase_28 hl (k := 3) rfl (by rw [ey1]; rfl) (by decide) rfl (fun ls hl => ?_)
  refine lv_goto (tgt := 4) hx hb dX3_countCansOfBase_31 (by decide) ?_
  exact hK_4 v1 v2 y1 M hf _ _ _ h (lv_sub hl [1, 2, 3, 0] rfl)
set_option maxHeartbeats 4000000 in
set_option maxRecDepth 100000 in
theorem w_X3_countCansOfBase_4 (l : Launch) {p : Program} {e : Env} {s : State} {m : MethodId} {args : Array Value} {below : List Frame} {meth : Method} {c : Code} {Γ : xG} {N : Nat} {k0 : Nat} {res : xR} (E : xEv p s m args meth c RX3 cX3_countCansOfBase 4 (some .int) (xWs yX3_countCansOfBase cX3_countCansOfBase 4 (some .int))) (h0 : isDk k0) : ∀ (n : Nat) (v1 : Int32) (v2 : Int32) (v3 : Int32) (M : xM), L_X3_countCansOfBase_4 N k0 n v1 v2 v3 M = some res → ∀ (H : Heap) (locs : List Loc) (ls : Array Slot), xH Γ (wX Γ) 1483 s M H locs → lv_has ls 4 [(0, .ref (Γ.2.1 k0)), (1, .int v1), (2, .int v2), (3, .int v3)] → W p l e ({ frames := 1, cells := 0, slots := 0, locals := 40 } : Room) s m args below meth c H locs 0 0 (MQ below (xCi Γ (wX Γ) 1483 res s.heap.size) args s 0 0 (xAd Γ 1483 s.heap.size)) (F0 m 4 ls []) := by
  obtain ⟨⟨hx, hb, hml, hown, hts⟩, hr, hlocks⟩ := id E
  intro n
  induction n with
  | zero => intro v1 v2 v3 M hf; cases hf
  | succ n ih =>
    intro v1 v2 v3 M hf H locs ls h hl
    refine lv_iload_n hx hb dX3_countCansOfBase_4 rfl (lv_at hl 3 rfl) ?_
    refine lv_aload_n hx hb dX3_countCansOfBase_5 rfl (lv_at hl 0 rfl) ?_
    refine x_get (own := RX3) (ref := "TintDesk$Desk") (C := RX3) (T := TX3) (n := 9) (index := 45) (v := .int (M.1 k0 7)) hx hb hts (fun w h => xU_sub w (inU3 w h)) hown h (kX_desk h0) rfl 7 (by decide) (hts _ (xU_sub _ q53)) (fun _ h9 => h9) rfl dX3_countCansOfBase_6 ?_
    refine lv_icmp_ge (tgt := 34) hx hb dX3_countCansOfBase_9 (by decide) (fun c1 => ?_) (fun c1 => ?_)
    · replace hf := xif_t hf c1
      refine lv_iload_n hx hb dX3_countCansOfBase_34 rfl (lv_at hl 2 rfl) ?_
      exact x_iret hx hb h (Option.some.inj hf) hr hlocks dX3_countCansOfBase_35
    · replace hf := xif_f hf c1
      refine lv_aload_n hx hb dX3_countCansOfBase_12 rfl (lv_at hl 0 rfl) ?_
      refine x_get (own := RX3) (ref := "TintDesk$Desk") (C := RX3) (T := TX3) (n := 9) (index := 31) (v := .ref (Γ.2.1 (k0 + 4))) hx hb hts (fun w h => xU_sub w (inU3 w h)) hown h (kX_desk h0) rfl 3 (by decide) (hts _ (xU_sub _ q49)) (fun _ h9 => h9) rfl dX3_countCansOfBase_13 ?_
      refine lv_iload_n hx hb dX3_countCansOfBase_16 rfl (lv_at hl 3 rfl) ?_
      obtain ⟨c2, hf⟩ := xck_s hf
      refine x_aald (C := "TintDesk$Can") hx hb h rfl (kX_desk_cans h0) c2 dX3_countCansOfBase_17 ?_
      refine x_get (own := RX3) (ref := "TintDesk$Can") (C := RX1) (T := TX1) (n := 6) (index := 98) (v := .int (M.1 (k0 + 87 + 3 * v3.toNatClampNeg) 1)) hx hb hts (fun w h => xU_sub w (inU1 w h)) hown h (kX_can (isCa_of h0 c2)) rfl 1 (by decide) (hts _ (xU_sub _ q432)) (fun _ h9 => h9) rfl dX3_countCansOfBase_18 ?_
      refine lv_iload_n hx hb dX3_countCansOfBase_21 rfl (lv_at hl 1 rfl) ?_
      refine lv_icmp_ne (tgt := 28) hx hb dX3_countCansOfBase_22 (by decide) (fun c3 => ?_) (fun c3 => ?_)
      · replace hf := xif_f hf c3
        exact w_X3_countCansOfBase_28 l E h0 (ih) v1 v2 v3 M hf _ _ _ h (lv_sub hl [0, 1, 2, 3] rfl)
      · replace hf := xif_t hf c3
        obtain ⟨y4, ey4, hf⟩ := xl_s hf
        refine lv_iinc (v := y4) (lv' := [(2, .int y4), (0, .ref (Γ.2.1 k0)), (1, .int v1), (3, .int v3)]) hx hb dX3_countCansOfBase_25 hl (k := 2) rfl (by rw [ey4]; rfl) (by decide) rfl (fun ls hl => ?_)
        exact w_X3_countCansOfBase_28 l E h0 (ih) v1 y4 v3 M hf _ _ _ h (lv_sub hl [1, 2, 0, 3] rfl)
set_option maxHeartbeats 4000000 in
set_option maxRecDepth 100000 in
theorem m_X3_countCansOfBase (l : Launch) {Γ : xG} {N : Nat} {k0 : Nat} (h0 : isDk k0) {v1 : Int32} {M : xM} {res : xR} (hf : F_X3_countCansOfBase N k0 v1 M = some res) (sz : Nat) : Met l yX3_countCansOfBase (xWs yX3_countCansOfBase cX3_countCansOfBase 4 (some .int)) ({ frames := 1, cells := 0, slots := 0, locals := 40 } : Room) (va_Pc [.ref (Γ.2.1 k0), .int v1] (xPre Γ (wX Γ) M sz)) (xCi Γ (wX Γ) 1483 res sz) 0 0 (xAd Γ 1483 sz) := by
  refine x_met (Qc := fun sz => xCi Γ (wX Γ) 1483 res sz) pnX3 wG_W (Nat.le_of_ble_eq_true rfl) (fun p e s m args below meth c _ E h ls hl => ?_) sz
  obtain ⟨⟨hx, hb, hml, hown, hts⟩, hr, hlocks⟩ := id E
  have hl : lv_has ls 4 [(0, .ref (Γ.2.1 k0)), (1, .int v1)] := hl
  refine lv_iconst (v := 0) hx hb dX3_countCansOfBase_0 (by decide) ?_
  refine lv_istore_n (lv' := [(2, .int 0), (0, .ref (Γ.2.1 k0)), (1, .int v1)]) hx hb dX3_countCansOfBase_1 rfl hl (by decide) rfl (fun ls hl => ?_)
  refine lv_iconst (v := 0) hx hb dX3_countCansOfBase_2 (by decide) ?_
  refine lv_istore_n (lv' := [(3, .int 0), (2, .int 0), (0, .ref (Γ.2.1 k0)), (1, .int v1)]) hx hb dX3_countCansOfBase_3 rfl hl (by decide) rfl (fun ls hl => ?_)
  exact w_X3_countCansOfBase_4 l E h0 N v1 0 0 M hf _ _ _ h (lv_sub hl [2, 3, 1, 0] rfl)
theorem hdX3_goToDay : yX3_goToDay.cls = RX3 ∧ yX3_goToDay.cls ≠ "java/lang/invoke/MethodHandle" ∧ yX3_goToDay.cls ≠ "java/lang/invoke/VarHandle" ∧ (parseMethodDescriptor yX3_goToDay.desc).map (fun d => d.parameters.length) = some 1 := by decide +kernel
set_option maxHeartbeats 4000000 in
set_option maxRecDepth 100000 in
theorem w_X3_goToDay_9 (l : Launch) {p : Program} {e : Env} {s : State} {m : MethodId} {args : Array Value} {below : List Frame} {meth : Method} {c : Code} {Γ : xG} {N : Nat} {k0 : Nat} {res : xR} (E : xEv p s m args meth c RX3 cX3_goToDay 4 (some .int) (xWs yX3_goToDay cX3_goToDay 4 (some .int))) (h0 : isDk k0) : ∀ (n : Nat) (v2 : Int32) (v3 : Int32) (M : xM), L_X3_goToDay_9 N k0 n v2 v3 M = some res → ∀ (H : Heap) (locs : List Loc) (ls : Array Slot), xH Γ (wX Γ) 1483 s M H locs → lv_has ls 4 [(0, .ref (Γ.2.1 k0)), (2, .int v2), (3, .int v3)] → W p l e ({ frames := 3, cells := 0, slots := 0, locals := 85 } : Room) s m args below meth c H locs 0 0 (MQ below (xCi Γ (wX Γ) 1483 res s.heap.size) args s 0 0 (xAd Γ 1483 s.heap.size)) (F0 m 9 ls []) := by
  obtain ⟨⟨hx, hb, hml, hown, hts⟩, hr, hlocks⟩ := id E
  intro n
  induction n with
  | zero => intro v2 v3 M hf; cases hf
  | succ n ih =>
    intro v2 v3 M hf H locs ls h hl
    refine lv_iload_n hx hb dX3_goToDay_9 rfl (lv_at hl 2 rfl) ?_
    refine lv_aload_n hx hb dX3_goToDay_10 rfl (lv_at hl 0 rfl) ?_
    refine x_get (own := RX3) (ref := "TintDesk$Desk") (C := RX3) (T := TX3) (n := 9) (index := 35) (v := .int (M.1 k0 4)) hx hb hts (fun w h => xU_sub w (inU3 w h)) hown h (kX_desk h0) rfl 4 (by decide) (hts _ (xU_sub _ q50)) (fun _ h9 => h9) rfl dX3_goToDay_11 ?_
    refine lv_icmp_ge (tgt := 39) hx hb dX3_goToDay_14 (by decide) (fun c1 => ?_) (fun c1 => ?_)
    · replace hf := xif_t hf c1
      refine lv_iload_n hx hb dX3_goToDay_39 rfl (lv_at hl 1 rfl) ?_
      exact x_iret hx hb h (Option.some.inj hf) hr hlocks dX3_goToDay_40
    · replace hf := xif_f hf c1
      refine lv_iload_n hx hb dX3_goToDay_17 rfl (lv_at hl 1 rfl) ?_
      refine lv_aload_n hx hb dX3_goToDay_18 rfl (lv_at hl 0 rfl) ?_
      refine x_get (own := RX3) (ref := "TintDesk$Desk") (C := RX3) (T := TX3) (n := 9) (index := 11) (v := .ref (Γ.2.1 (k0 + 1))) hx hb hts (fun w h => xU_sub w (inU3 w h)) hown h (kX_desk h0) rfl 0 (by decide) (hts _ (xU_sub _ q43)) (fun _ h9 => h9) rfl dX3_goToDay_19 ?_
      refine lv_iload_n hx hb dX3_goToDay_22 rfl (lv_at hl 2 rfl) ?_
      obtain ⟨c2, hf⟩ := xck_s hf
      refine x_aald (C := "TintDesk$Colorant") hx hb h rfl (kX_desk_colorants h0) c2 dX3_goToDay_23 ?_
      refine lv_aload_n hx hb dX3_goToDay_24 rfl (lv_at hl 0 rfl) ?_
      refine x_get (own := RX3) (ref := "TintDesk$Desk") (C := RX3) (T := TX3) (n := 9) (index := 48) (v := .int (M.1 k0 8)) hx hb hts (fun w h => xU_sub w (inU3 w h)) hown h (kX_desk h0) rfl 8 (by decide) (hts _ (xU_sub _ q54)) (fun _ h9 => h9) rfl dX3_goToDay_25 ?_
      obtain ⟨r3, er3, hf⟩ := xbd_s hf
      refine x_Vi (As := [.int (M.1 k0 8)]) (rest := [.int v2]) E.1 (m_X2_wasteOldLots l (isCo_of h0 c2) er3) (cwV 1 hts (xgV xU_sub q365 q366 q367 q56 q368) rfl rfl rfl hdX2_wasteOldLots ⟨Nat.le_of_ble_eq_true rfl, Nat.le_of_ble_eq_true rfl⟩) h (kX_colorant (isCo_of h0 c2)) rfl rfl hl.1 rfl (Nat.le_of_ble_eq_true rfl) dX3_goToDay_28 ⟨Nat.le_of_ble_eq_true rfl, Nat.le_of_ble_eq_true rfl⟩ (fun H locs h => ?_)
      refine lv_iadd hx hb dX3_goToDay_31 ?_
      obtain ⟨y4, ey4, hf⟩ := xl_s hf
      refine x_nm ey4 ?_
      refine lv_istore_n (lv' := [(2, .int y4), (0, .ref (Γ.2.1 k0)), (3, .int v3)]) hx hb dX3_goToDay_32 rfl hl (by decide) rfl (fun ls hl => ?_)
      obtain ⟨y5, ey5, hf⟩ := xl_s hf
      refine lv_iinc (v := y5) (lv' := [(3, .int y5), (2, .int y4), (0, .ref (Γ.2.1 k0))]) hx hb dX3_goToDay_33 hl (k := 2) rfl (by rw [ey5]; rfl) (by decide) rfl (fun ls hl => ?_)
      refine lv_goto (tgt := 9) hx hb dX3_goToDay_36 (by decide) ?_
      exact ih y4 y5 r3.1 hf _ _ _ h (lv_sub hl [2, 1, 0] rfl)
set_option maxHeartbeats 4000000 in
set_option maxRecDepth 100000 in
theorem m_X3_goToDay (l : Launch) {Γ : xG} {N : Nat} {k0 : Nat} (h0 : isDk k0) {v1 : Int32} {M : xM} {res : xR} (hf : F_X3_goToDay N k0 v1 M = some res) (sz : Nat) : Met l yX3_goToDay (xWs yX3_goToDay cX3_goToDay 4 (some .int)) ({ frames := 3, cells := 0, slots := 0, locals := 85 } : Room) (va_Pc [.ref (Γ.2.1 k0), .int v1] (xPre Γ (wX Γ) M sz)) (xCi Γ (wX Γ) 1483 res sz) 0 0 (xAd Γ 1483 sz) := by
  refine x_met (Qc := fun sz => xCi Γ (wX Γ) 1483 res sz) pnX3 wG_W (Nat.le_of_ble_eq_true rfl) (fun p e s m args below meth c _ E h ls hl => ?_) sz
  obtain ⟨⟨hx, hb, hml, hown, hts⟩, hr, hlocks⟩ := id E
  have hl : lv_has ls 4 [(0, .ref (Γ.2.1 k0)), (1, .int v1)] := hl
  refine lv_aload_n hx hb dX3_goToDay_0 rfl (lv_at hl 0 rfl) ?_
  refine lv_iload_n hx hb dX3_goToDay_1 rfl (lv_at hl 1 rfl) ?_
  obtain ⟨M1, eM1, hf⟩ := xl_s hf
  refine x_put (own := RX3) (ref := "TintDesk$Desk") (C := RX3) (T := TX3) (n := 9) (index := 48) (ty := .int) hx hb hts (fun w h => xU_sub w (inU3 w h)) tyX3 tyX3_ok nmX3 hown h (kX_desk h0) rfl 8 (by decide) (hts _ (xU_sub _ q54)) (fun _ h9 => h9) rfl (by decide +kernel) rfl rfl (Nat.le_of_ble_eq_true rfl) rfl eM1 dX3_goToDay_2 (fun H locs h => ?_)
  refine lv_iconst (v := 0) hx hb dX3_goToDay_5 (by decide) ?_
  refine lv_istore_n (lv' := [(2, .int 0), (0, .ref (Γ.2.1 k0)), (1, .int v1)]) hx hb dX3_goToDay_6 rfl hl (by decide) rfl (fun ls hl => ?_)
  refine lv_iconst (v := 0) hx hb dX3_goToDay_7 (by decide) ?_
  refine lv_istore_n (lv' := [(3, .int 0), (2, .int 0), (0, .ref (Γ.2.1 k0)), (1, .int v1)]) hx hb dX3_goToDay_8 rfl hl (by decide) rfl (fun ls hl => ?_)
  exact w_X3_goToDay_9 l E h0 N 0 0 M1 hf _ _ _ h (lv_sub hl [2, 1, 0] rfl)
theorem hdX3_baseNumberFor : yX3_baseNumberFor.cls = RX3 ∧ yX3_baseNumberFor.cls ≠ "java/lang/invoke/MethodHandle" ∧ yX3_baseNumberFor.cls ≠ "java/lang/invoke/VarHandle" ∧ (parseMethodDescriptor yX3_baseNumberFor.desc).map (fun d => d.parameters.length) = some 2 := by decide +kernel
set_option maxHeartbeats 4000000 in
set_option maxRecDepth 100000 in
theorem m_X3_baseNumberFor (l : Launch) {Γ : xG} {N : Nat} {k0 : Nat} (h0 : isDk k0) {v1 : Int32} {v2 : Int32} {M : xM} {res : xR} (hf : F_X3_baseNumberFor N k0 v1 v2 M = some res) (sz : Nat) : Met l yX3_baseNumberFor (xWs yX3_baseNumberFor cX3_baseNumberFor 4 (some .int)) ({ frames := 2, cells := 0, slots := 0, locals := 63 } : Room) (va_Pc [.ref (Γ.2.1 k0), .int v1, .int v2] (xPre Γ (wX Γ) M sz)) (xCi Γ (wX Γ) 1483 res sz) 0 0 (xAd Γ 1483 sz) := by
  refine x_met (Qc := fun sz => xCi Γ (wX Γ) 1483 res sz) pnX3 wG_W (Nat.le_of_ble_eq_true rfl) (fun p e s m args below meth c _ E h ls hl => ?_) sz
  obtain ⟨⟨hx, hb, hml, hown, hts⟩, hr, hlocks⟩ := id E
  have hl : lv_has ls 4 [(0, .ref (Γ.2.1 k0)), (1, .int v1), (2, .int v2)] := hl
  refine lv_aload_n hx hb dX3_baseNumberFor_0 rfl (lv_at hl 0 rfl) ?_
  refine x_get (own := RX3) (ref := "TintDesk$Desk") (C := RX3) (T := TX3) (n := 9) (index := 19) (v := .ref (Γ.2.1 (k0 + 2))) hx hb hts (fun w h => xU_sub w (inU3 w h)) hown h (kX_desk h0) rfl 1 (by decide) (hts _ (xU_sub _ q45)) (fun _ h9 => h9) rfl dX3_baseNumberFor_1 ?_
  refine lv_iload_n hx hb dX3_baseNumberFor_4 rfl (lv_at hl 1 rfl) ?_
  obtain ⟨c1, hf⟩ := xck_s hf
  refine x_aald (C := "TintDesk$Base") hx hb h rfl (kX_desk_bases h0) c1 dX3_baseNumberFor_5 ?_
  refine lv_astore_n (lv' := [(3, .ref (Γ.2.1 (k0 + 45 + 2 * v1.toNatClampNeg))), (0, .ref (Γ.2.1 k0)), (1, .int v1), (2, .int v2)]) hx hb dX3_baseNumberFor_6 rfl hl (by decide) rfl (fun ls hl => ?_)
  refine lv_iload_n hx hb dX3_baseNumberFor_7 rfl (lv_at hl 3 rfl) ?_
  by_cases c2 : v2 = 0
  · replace hf := xif_t hf c2
    refine lv_tableIn (off := 36) (tgt := 44) hx hb dX3_baseNumberFor_8 (by rw [c2]; decide) (by rw [c2]; decide) (by rw [c2]; rfl) (by decide) ?_
    refine lv_aload_n hx hb dX3_baseNumberFor_44 rfl (lv_at hl 0 rfl) ?_
    refine x_get (own := RX3) (ref := "TintDesk$Base") (C := RX0) (T := TX0) (n := 3) (index := 75) (v := .ref (Γ.2.1 ((k0 + 45 + 2 * v1.toNatClampNeg) + 1))) hx hb hts (fun w h => xU_sub w (inU0 w h)) hown h (kX_base (isBa_of h0 c1)) rfl 0 (by decide) (hts _ (xU_sub _ q389)) (fun _ h9 => h9) rfl dX3_baseNumberFor_45 ?_
    refine lv_iconst (v := 0) hx hb dX3_baseNumberFor_48 (by decide) ?_
    refine x_iald hx hb h (kX_base_values (isBa_of h0 c1)) (xin_in (by decide)) dX3_baseNumberFor_49 ?_
    exact x_iret hx hb h (Option.some.inj hf) hr hlocks dX3_baseNumberFor_50
  replace hf := xif_f hf c2
  by_cases c3 : v2 = 1
  · replace hf := xif_t hf c3
    refine lv_tableIn (off := 43) (tgt := 51) hx hb dX3_baseNumberFor_8 (by rw [c3]; decide) (by rw [c3]; decide) (by rw [c3]; rfl) (by decide) ?_
    refine lv_aload_n hx hb dX3_baseNumberFor_51 rfl (lv_at hl 0 rfl) ?_
    refine x_get (own := RX3) (ref := "TintDesk$Base") (C := RX0) (T := TX0) (n := 3) (index := 75) (v := .ref (Γ.2.1 ((k0 + 45 + 2 * v1.toNatClampNeg) + 1))) hx hb hts (fun w h => xU_sub w (inU0 w h)) hown h (kX_base (isBa_of h0 c1)) rfl 0 (by decide) (hts _ (xU_sub _ q389)) (fun _ h9 => h9) rfl dX3_baseNumberFor_52 ?_
    refine lv_iconst (v := 1) hx hb dX3_baseNumberFor_55 (by decide) ?_
    refine x_iald hx hb h (kX_base_values (isBa_of h0 c1)) (xin_in (by decide)) dX3_baseNumberFor_56 ?_
    exact x_iret hx hb h (Option.some.inj hf) hr hlocks dX3_baseNumberFor_57
  replace hf := xif_f hf c3
  by_cases c4 : v2 = 2
  · replace hf := xif_t hf c4
    refine lv_tableIn (off := 50) (tgt := 58) hx hb dX3_baseNumberFor_8 (by rw [c4]; decide) (by rw [c4]; decide) (by rw [c4]; rfl) (by decide) ?_
    refine lv_aload_n hx hb dX3_baseNumberFor_58 rfl (lv_at hl 0 rfl) ?_
    refine x_get (own := RX3) (ref := "TintDesk$Base") (C := RX0) (T := TX0) (n := 3) (index := 75) (v := .ref (Γ.2.1 ((k0 + 45 + 2 * v1.toNatClampNeg) + 1))) hx hb hts (fun w h => xU_sub w (inU0 w h)) hown h (kX_base (isBa_of h0 c1)) rfl 0 (by decide) (hts _ (xU_sub _ q389)) (fun _ h9 => h9) rfl dX3_baseNumberFor_59 ?_
    refine lv_iconst (v := 2) hx hb dX3_baseNumberFor_62 (by decide) ?_
    refine x_iald hx hb h (kX_base_values (isBa_of h0 c1)) (xin_in (by decide)) dX3_baseNumberFor_63 ?_
    exact x_iret hx hb h (Option.some.inj hf) hr hlocks dX3_baseNumberFor_64
  replace hf := xif_f hf c4
  by_cases c5 : v2 = 3
  · replace hf := xif_t hf c5
    refine lv_tableIn (off := 57) (tgt := 65) hx hb dX3_baseNumberFor_8 (by rw [c5]; decide) (by rw [c5]; decide) (by rw [c5]; rfl) (by decide) ?_
    refine lv_aload_n hx hb dX3_baseNumberFor_65 rfl (lv_at hl 0 rfl) ?_
    refine x_get (own := RX3) (ref := "TintDesk$Base") (C := RX0) (T := TX0) (n := 3) (index := 76) (v := .int (M.1 (k0 + 45 + 2 * v1.toNatClampNeg) 1)) hx hb hts (fun w h => xU_sub w (inU0 w h)) hown h (kX_base (isBa_of h0 c1)) rfl 1 (by decide) (hts _ (xU_sub _ q390)) (fun _ h9 => h9) rfl dX3_baseNumberFor_66 ?_
    exact x_iret hx hb h (Option.some.inj hf) hr hlocks dX3_baseNumberFor_69
  replace hf := xif_f hf c5
  by_cases c6 : v2 = 4
  · replace hf := xif_t hf c6
    refine lv_tableIn (off := 62) (tgt := 70) hx hb dX3_baseNumberFor_8 (by rw [c6]; decide) (by rw [c6]; decide) (by rw [c6]; rfl) (by decide) ?_
    refine lv_aload_n hx hb dX3_baseNumberFor_70 rfl (lv_at hl 0 rfl) ?_
    refine x_get (own := RX3) (ref := "TintDesk$Base") (C := RX0) (T := TX0) (n := 3) (index := 110) (v := .int (M.1 (k0 + 45 + 2 * v1.toNatClampNeg) 2)) hx hb hts (fun w h => xU_sub w (inU0 w h)) hown h (kX_base (isBa_of h0 c1)) rfl 2 (by decide) (hts _ (xU_sub _ q427)) (fun _ h9 => h9) rfl dX3_baseNumberFor_71 ?_
    exact x_iret hx hb h (Option.some.inj hf) hr hlocks dX3_baseNumberFor_74
  replace hf := xif_f hf c6
  refine lv_tableOut (tgt := 75) hx hb dX3_baseNumberFor_8 (xsw_out (fun j hj1 hj2 hj => by
    have hj9 : j = 0 ∨ j = 1 ∨ j = 2 ∨ j = 3 ∨ j = 4 := by omega
    rcases hj9 with rfl | rfl | rfl | rfl | rfl
    · exact c2 hj
    · exact c3 hj
    · exact c4 hj
    · exact c5 hj
    · exact c6 hj
    )) (by decide) ?_
  refine lv_aload_n hx hb dX3_baseNumberFor_75 rfl (lv_at hl 1 rfl) ?_
  refine lv_iload_n hx hb dX3_baseNumberFor_76 rfl (lv_at hl 2 rfl) ?_
  obtain ⟨r7, er7, hf⟩ := xbd_s hf
  refine x_Vi (As := [.int v1]) (rest := []) E.1 (m_X3_countCansOfBase l h0 er7) (cwV 1 hts (xgV xU_sub q428 q429 q430 q15 q431) rfl rfl rfl hdX3_countCansOfBase ⟨Nat.le_of_ble_eq_true rfl, Nat.le_of_ble_eq_true rfl⟩) h (kX_desk h0) rfl rfl hl.1 rfl (Nat.le_of_ble_eq_true rfl) dX3_baseNumberFor_77 ⟨Nat.le_of_ble_eq_true rfl, Nat.le_of_ble_eq_true rfl⟩ (fun H locs h => ?_)
  exact x_iret hx hb h (Option.some.inj hf) hr hlocks dX3_baseNumberFor_80
theorem hdX3_canNumberFor : yX3_canNumberFor.cls = RX3 ∧ yX3_canNumberFor.cls ≠ "java/lang/invoke/MethodHandle" ∧ yX3_canNumberFor.cls ≠ "java/lang/invoke/VarHandle" ∧ (parseMethodDescriptor yX3_canNumberFor.desc).map (fun d => d.parameters.length) = some 2 := by decide +kernel
set_option maxHeartbeats 4000000 in
set_option maxRecDepth 100000 in
theorem m_X3_canNumberFor (l : Launch) {Γ : xG} {N : Nat} {k0 : Nat} {k1 : Nat} (h0 : isDk k0) (h1 : isCa k1) {v2 : Int32} {M : xM} {res : xR} (hf : F_X3_canNumberFor N k0 k1 v2 M = some res) (sz : Nat) : Met l yX3_canNumberFor (xWs yX3_canNumberFor cX3_canNumberFor 3 (some .int)) ({ frames := 3, cells := 0, slots := 0, locals := 83 } : Room) (va_Pc [.ref (Γ.2.1 k0), .ref (Γ.2.1 k1), .int v2] (xPre Γ (wX Γ) M sz)) (xCi Γ (wX Γ) 1483 res sz) 0 0 (xAd Γ 1483 sz) := by
  refine x_met (Qc := fun sz => xCi Γ (wX Γ) 1483 res sz) pnX3 wG_W (Nat.le_of_ble_eq_true rfl) (fun p e s m args below meth c _ E h ls hl => ?_) sz
  obtain ⟨⟨hx, hb, hml, hown, hts⟩, hr, hlocks⟩ := id E
  have hl : lv_has ls 3 [(0, .ref (Γ.2.1 k0)), (1, .ref (Γ.2.1 k1)), (2, .int v2)] := hl
  refine lv_iload_n hx hb dX3_canNumberFor_0 rfl (lv_at hl 2 rfl) ?_
  by_cases c1 : v2 = 0
  · replace hf := xif_t hf c1
    refine lv_tableIn (off := 35) (tgt := 36) hx hb dX3_canNumberFor_1 (by rw [c1]; decide) (by rw [c1]; decide) (by rw [c1]; rfl) (by decide) ?_
    refine lv_aload_n hx hb dX3_canNumberFor_36 rfl (lv_at hl 1 rfl) ?_
    refine x_get (own := RX3) (ref := "TintDesk$Can") (C := RX1) (T := TX1) (n := 6) (index := 95) (v := .int (M.1 k1 0)) hx hb hts (fun w h => xU_sub w (inU1 w h)) hown h (kX_can h1) rfl 0 (by decide) (hts _ (xU_sub _ q613)) (fun _ h9 => h9) rfl dX3_canNumberFor_37 ?_
    exact x_iret hx hb h (Option.some.inj hf) hr hlocks dX3_canNumberFor_40
  replace hf := xif_f hf c1
  by_cases c2 : v2 = 1
  · replace hf := xif_t hf c2
    refine lv_tableIn (off := 40) (tgt := 41) hx hb dX3_canNumberFor_1 (by rw [c2]; decide) (by rw [c2]; decide) (by rw [c2]; rfl) (by decide) ?_
    refine lv_aload_n hx hb dX3_canNumberFor_41 rfl (lv_at hl 1 rfl) ?_
    refine x_get (own := RX3) (ref := "TintDesk$Can") (C := RX1) (T := TX1) (n := 6) (index := 98) (v := .int (M.1 k1 1)) hx hb hts (fun w h => xU_sub w (inU1 w h)) hown h (kX_can h1) rfl 1 (by decide) (hts _ (xU_sub _ q432)) (fun _ h9 => h9) rfl dX3_canNumberFor_42 ?_
    exact x_iret hx hb h (Option.some.inj hf) hr hlocks dX3_canNumberFor_45
  replace hf := xif_f hf c2
  by_cases c3 : v2 = 2
  · replace hf := xif_t hf c3
    refine lv_tableIn (off := 45) (tgt := 46) hx hb dX3_canNumberFor_1 (by rw [c3]; decide) (by rw [c3]; decide) (by rw [c3]; rfl) (by decide) ?_
    refine lv_aload_n hx hb dX3_canNumberFor_46 rfl (lv_at hl 1 rfl) ?_
    obtain ⟨r4, er4, hf⟩ := xbd_s hf
    refine x_Vi (As := []) (rest := []) E.1 (m_X1_allSteps l h1 er4) (cwV 0 hts (xgV xU_sub q762 q763 q764 q62 q765) rfl rfl rfl hdX1_allSteps ⟨Nat.le_of_ble_eq_true rfl, Nat.le_of_ble_eq_true rfl⟩) h (kX_can h1) rfl rfl hl.1 rfl (Nat.le_of_ble_eq_true rfl) dX3_canNumberFor_47 ⟨Nat.le_of_ble_eq_true rfl, Nat.le_of_ble_eq_true rfl⟩ (fun H locs h => ?_)
    exact x_iret hx hb h (Option.some.inj hf) hr hlocks dX3_canNumberFor_50
  replace hf := xif_f hf c3
  by_cases c5 : v2 = 3
  · replace hf := xif_t hf c5
    refine lv_tableIn (off := 50) (tgt := 51) hx hb dX3_canNumberFor_1 (by rw [c5]; decide) (by rw [c5]; decide) (by rw [c5]; rfl) (by decide) ?_
    refine lv_aload_n hx hb dX3_canNumberFor_51 rfl (lv_at hl 1 rfl) ?_
    refine x_get (own := RX3) (ref := "TintDesk$Can") (C := RX1) (T := TX1) (n := 6) (index := 156) (v := .int (M.1 k1 2)) hx hb hts (fun w h => xU_sub w (inU1 w h)) hown h (kX_can h1) rfl 2 (by decide) (hts _ (xU_sub _ q760)) (fun _ h9 => h9) rfl dX3_canNumberFor_52 ?_
    exact x_iret hx hb h (Option.some.inj hf) hr hlocks dX3_canNumberFor_55
  replace hf := xif_f hf c5
  by_cases c6 : v2 = 4
  · replace hf := xif_t hf c6
    refine lv_tableIn (off := 55) (tgt := 56) hx hb dX3_canNumberFor_1 (by rw [c6]; decide) (by rw [c6]; decide) (by rw [c6]; rfl) (by decide) ?_
    refine lv_aload_n hx hb dX3_canNumberFor_56 rfl (lv_at hl 1 rfl) ?_
    refine x_get (own := RX3) (ref := "TintDesk$Can") (C := RX1) (T := TX1) (n := 6) (index := 159) (v := .int (M.1 k1 3)) hx hb hts (fun w h => xU_sub w (inU1 w h)) hown h (kX_can h1) rfl 3 (by decide) (hts _ (xU_sub _ q761)) (fun _ h9 => h9) rfl dX3_canNumberFor_57 ?_
    exact x_iret hx hb h (Option.some.inj hf) hr hlocks dX3_canNumberFor_60
  replace hf := xif_f hf c6
  refine lv_tableOut (tgt := 61) hx hb dX3_canNumberFor_1 (xsw_out (fun j hj1 hj2 hj => by
    have hj9 : j = 0 ∨ j = 1 ∨ j = 2 ∨ j = 3 ∨ j = 4 := by omega
    rcases hj9 with rfl | rfl | rfl | rfl | rfl
    · exact c1 hj
    · exact c2 hj
    · exact c3 hj
    · exact c5 hj
    · exact c6 hj
    )) (by decide) ?_
  refine lv_aload_n hx hb dX3_canNumberFor_61 rfl (lv_at hl 0 rfl) ?_
  refine lv_aload_n hx hb dX3_canNumberFor_62 rfl (lv_at hl 1 rfl) ?_
  obtain ⟨r7, er7, hf⟩ := xbd_s hf
  refine x_Vi (As := [.ref (Γ.2.1 k1)]) (rest := []) E.1 (m_X3_roomIn l h0 h1 er7) (cwV 1 hts (xgV xU_sub q766 q767 q768 q15 q769) rfl rfl rfl hdX3_roomIn ⟨Nat.le_of_ble_eq_true rfl, Nat.le_of_ble_eq_true rfl⟩) h (kX_desk h0) rfl rfl hl.1 rfl (Nat.le_of_ble_eq_true rfl) dX3_canNumberFor_63 ⟨Nat.le_of_ble_eq_true rfl, Nat.le_of_ble_eq_true rfl⟩ (fun H locs h => ?_)
  exact x_iret hx hb h (Option.some.inj hf) hr hlocks dX3_canNumberFor_66
theorem hdX3_sumOfColorants : yX3_sumOfColorants.cls = RX3 ∧ yX3_sumOfColorants.cls ≠ "java/lang/invoke/MethodHandle" ∧ yX3_sumOfColorants.cls ≠ "java/lang/invoke/VarHandle" ∧ (parseMethodDescriptor yX3_sumOfColorants.desc).map (fun d => d.parameters.length) = some 1 := by decide +kernel
set_option maxHeartbeats 4000000 in
set_option maxRecDepth 100000 in
theorem w_X3_sumOfColorants_4 (l : Launch) {p : Program} {e : Env} {s : State} {m : MethodId} {args : Array Value} {below : List Frame} {meth : Method} {c : Code} {Γ : xG} {N : Nat} {k0 : Nat} {res : xR} (E : xEv p s m args meth c RX3 cX3_sumOfColorants 4 (some .int) (xWs yX3_sumOfColorants cX3_sumOfColorants 4 (some .int))) (h0 : isDk k0) : ∀ (n : Nat) (v1 : Int32) (v2 : Int32) (v3 : Int32) (M : xM), L_X3_sumOfColorants_4 N k0 n v1 v2 v3 M = some res → ∀ (H : Heap) (locs : List Loc) (ls : Array Slot), xH Γ (wX Γ) 1483 s M H locs → lv_has ls 4 [(0, .ref (Γ.2.1 k0)), (1, .int v1), (2, .int v2), (3, .int v3)] → W p l e ({ frames := 3, cells := 0, slots := 0, locals := 83 } : Room) s m args below meth c H locs 0 0 (MQ below (xCi Γ (wX Γ) 1483 res s.heap.size) args s 0 0 (xAd Γ 1483 s.heap.size)) (F0 m 4 ls []) := by
  obtain ⟨⟨hx, hb, hml, hown, hts⟩, hr, hlocks⟩ := id E
  intro n
  induction n with
  | zero => intro v1 v2 v3 M hf; cases hf
  | succ n ih =>
    intro v1 v2 v3 M hf H locs ls h hl
    refine lv_iload_n hx hb dX3_sumOfColorants_4 rfl (lv_at hl 3 rfl) ?_
    refine lv_aload_n hx hb dX3_sumOfColorants_5 rfl (lv_at hl 0 rfl) ?_
    refine x_get (own := RX3) (ref := "TintDesk$Desk") (C := RX3) (T := TX3) (n := 9) (index := 35) (v := .int (M.1 k0 4)) hx hb hts (fun w h => xU_sub w (inU3 w h)) hown h (kX_desk h0) rfl 4 (by decide) (hts _ (xU_sub _ q50)) (fun _ h9 => h9) rfl dX3_sumOfColorants_6 ?_
    refine lv_icmp_ge (tgt := 31) hx hb dX3_sumOfColorants_9 (by decide) (fun c1 => ?_) (fun c1 => ?_)
    · replace hf := xif_t hf c1
      refine lv_iload_n hx hb dX3_sumOfColorants_31 rfl (lv_at hl 2 rfl) ?_
      exact x_iret hx hb h (Option.some.inj hf) hr hlocks dX3_sumOfColorants_32
    · replace hf := xif_f hf c1
      refine lv_iload_n hx hb dX3_sumOfColorants_12 rfl (lv_at hl 2 rfl) ?_
      refine lv_aload_n hx hb dX3_sumOfColorants_13 rfl (lv_at hl 0 rfl) ?_
      refine x_get (own := RX3) (ref := "TintDesk$Desk") (C := RX3) (T := TX3) (n := 9) (index := 11) (v := .ref (Γ.2.1 (k0 + 1))) hx hb hts (fun w h => xU_sub w (inU3 w h)) hown h (kX_desk h0) rfl 0 (by decide) (hts _ (xU_sub _ q43)) (fun _ h9 => h9) rfl dX3_sumOfColorants_14 ?_
      refine lv_iload_n hx hb dX3_sumOfColorants_17 rfl (lv_at hl 3 rfl) ?_
      obtain ⟨c2, hf⟩ := xck_s hf
      refine x_aald (C := "TintDesk$Colorant") hx hb h rfl (kX_desk_colorants h0) c2 dX3_sumOfColorants_18 ?_
      refine lv_iload_n hx hb dX3_sumOfColorants_19 rfl (lv_at hl 1 rfl) ?_
      obtain ⟨r3, er3, hf⟩ := xbd_s hf
      refine x_Vi (As := [.int v1]) (rest := [.int v2]) E.1 (m_X2_numberFor l (isCo_of h0 c2) er3) (cwV 1 hts (xgV xU_sub q1014 q328 q329 q56 q330) rfl rfl rfl hdX2_numberFor ⟨Nat.le_of_ble_eq_true rfl, Nat.le_of_ble_eq_true rfl⟩) h (kX_colorant (isCo_of h0 c2)) rfl rfl hl.1 rfl (Nat.le_of_ble_eq_true rfl) dX3_sumOfColorants_20 ⟨Nat.le_of_ble_eq_true rfl, Nat.le_of_ble_eq_true rfl⟩ (fun H locs h => ?_)
      refine lv_iadd hx hb dX3_sumOfColorants_23 ?_
      obtain ⟨y4, ey4, hf⟩ := xl_s hf
      refine x_nm ey4 ?_
      refine lv_istore_n (lv' := [(2, .int y4), (0, .ref (Γ.2.1 k0)), (1, .int v1), (3, .int v3)]) hx hb dX3_sumOfColorants_24 rfl hl (by decide) rfl (fun ls hl => ?_)
      obtain ⟨y5, ey5, hf⟩ := xl_s hf
      refine lv_iinc (v := y5) (lv' := [(3, .int y5), (2, .int y4), (0, .ref (Γ.2.1 k0)), (1, .int v1)]) hx hb dX3_sumOfColorants_25 hl (k := 3) rfl (by rw [ey5]; rfl) (by decide) rfl (fun ls hl => ?_)
      refine lv_goto (tgt := 4) hx hb dX3_sumOfColorants_28 (by decide) ?_
      exact ih v1 y4 y5 r3.1 hf _ _ _ h (lv_sub hl [2, 3, 1, 0] rfl)
set_option maxHeartbeats 4000000 in
set_option maxRecDepth 100000 in
theorem m_X3_sumOfColorants (l : Launch) {Γ : xG} {N : Nat} {k0 : Nat} (h0 : isDk k0) {v1 : Int32} {M : xM} {res : xR} (hf : F_X3_sumOfColorants N k0 v1 M = some res) (sz : Nat) : Met l yX3_sumOfColorants (xWs yX3_sumOfColorants cX3_sumOfColorants 4 (some .int)) ({ frames := 3, cells := 0, slots := 0, locals := 83 } : Room) (va_Pc [.ref (Γ.2.1 k0), .int v1] (xPre Γ (wX Γ) M sz)) (xCi Γ (wX Γ) 1483 res sz) 0 0 (xAd Γ 1483 sz) := by
  refine x_met (Qc := fun sz => xCi Γ (wX Γ) 1483 res sz) pnX3 wG_W (Nat.le_of_ble_eq_true rfl) (fun p e s m args below meth c _ E h ls hl => ?_) sz
  obtain ⟨⟨hx, hb, hml, hown, hts⟩, hr, hlocks⟩ := id E
  have hl : lv_has ls 4 [(0, .ref (Γ.2.1 k0)), (1, .int v1)] := hl
  refine lv_iconst (v := 0) hx hb dX3_sumOfColorants_0 (by decide) ?_
  refine lv_istore_n (lv' := [(2, .int 0), (0, .ref (Γ.2.1 k0)), (1, .int v1)]) hx hb dX3_sumOfColorants_1 rfl hl (by decide) rfl (fun ls hl => ?_)
  refine lv_iconst (v := 0) hx hb dX3_sumOfColorants_2 (by decide) ?_
  refine lv_istore_n (lv' := [(3, .int 0), (2, .int 0), (0, .ref (Γ.2.1 k0)), (1, .int v1)]) hx hb dX3_sumOfColorants_3 rfl hl (by decide) rfl (fun ls hl => ?_)
  exact w_X3_sumOfColorants_4 l E h0 N v1 0 0 M hf _ _ _ h (lv_sub hl [2, 3, 1, 0] rfl)
theorem hdX3_sumOfCans : yX3_sumOfCans.cls = RX3 ∧ yX3_sumOfCans.cls ≠ "java/lang/invoke/MethodHandle" ∧ yX3_sumOfCans.cls ≠ "java/lang/invoke/VarHandle" ∧ (parseMethodDescriptor yX3_sumOfCans.desc).map (fun d => d.parameters.length) = some 1 := by decide +kernel
set_option maxHeartbeats 4000000 in
set_option maxRecDepth 100000 in
theorem w_X3_sumOfCans_4 (l : Launch) {p : Program} {e : Env} {s : State} {m : MethodId} {args : Array Value} {below : List Frame} {meth : Method} {c : Code} {Γ : xG} {N : Nat} {k0 : Nat} {res : xR} (E : xEv p s m args meth c RX3 cX3_sumOfCans 4 (some .int) (xWs yX3_sumOfCans cX3_sumOfCans 4 (some .int))) (h0 : isDk k0) : ∀ (n : Nat) (v1 : Int32) (v2 : Int32) (v3 : Int32) (M : xM), L_X3_sumOfCans_4 N k0 n v1 v2 v3 M = some res → ∀ (H : Heap) (locs : List Loc) (ls : Array Slot), xH Γ (wX Γ) 1483 s M H locs → lv_has ls 4 [(0, .ref (Γ.2.1 k0)), (1, .int v1), (2, .int v2), (3, .int v3)] → W p l e ({ frames := 4, cells := 0, slots := 0, locals := 105 } : Room) s m args below meth c H locs 0 0 (MQ below (xCi Γ (wX Γ) 1483 res s.heap.size) args s 0 0 (xAd Γ 1483 s.heap.size)) (F0 m 4 ls []) := by
  obtain ⟨⟨hx, hb, hml, hown, hts⟩, hr, hlocks⟩ := id E
  intro n
  induction n with
  | zero => intro v1 v2 v3 M hf; cases hf
  | succ n ih =>
    intro v1 v2 v3 M hf H locs ls h hl
    refine lv_iload_n hx hb dX3_sumOfCans_4 rfl (lv_at hl 3 rfl) ?_
    refine lv_aload_n hx hb dX3_sumOfCans_5 rfl (lv_at hl 0 rfl) ?_
    refine x_get (own := RX3) (ref := "TintDesk$Desk") (C := RX3) (T := TX3) (n := 9) (index := 45) (v := .int (M.1 k0 7)) hx hb hts (fun w h => xU_sub w (inU3 w h)) hown h (kX_desk h0) rfl 7 (by decide) (hts _ (xU_sub _ q53)) (fun _ h9 => h9) rfl dX3_sumOfCans_6 ?_
    refine lv_icmp_ge (tgt := 32) hx hb dX3_sumOfCans_9 (by decide) (fun c1 => ?_) (fun c1 => ?_)
    · replace hf := xif_t hf c1
      refine lv_iload_n hx hb dX3_sumOfCans_32 rfl (lv_at hl 2 rfl) ?_
      exact x_iret hx hb h (Option.some.inj hf) hr hlocks dX3_sumOfCans_33
    · replace hf := xif_f hf c1
      refine lv_iload_n hx hb dX3_sumOfCans_12 rfl (lv_at hl 2 rfl) ?_
      refine lv_aload_n hx hb dX3_sumOfCans_13 rfl (lv_at hl 0 rfl) ?_
      refine lv_aload_n hx hb dX3_sumOfCans_14 rfl (lv_at hl 0 rfl) ?_
      refine x_get (own := RX3) (ref := "TintDesk$Desk") (C := RX3) (T := TX3) (n := 9) (index := 31) (v := .ref (Γ.2.1 (k0 + 4))) hx hb hts (fun w h => xU_sub w (inU3 w h)) hown h (kX_desk h0) rfl 3 (by decide) (hts _ (xU_sub _ q49)) (fun _ h9 => h9) rfl dX3_sumOfCans_15 ?_
      refine lv_iload_n hx hb dX3_sumOfCans_18 rfl (lv_at hl 3 rfl) ?_
      obtain ⟨c2, hf⟩ := xck_s hf
      refine x_aald (C := "TintDesk$Can") hx hb h rfl (kX_desk_cans h0) c2 dX3_sumOfCans_19 ?_
      refine lv_iload_n hx hb dX3_sumOfCans_20 rfl (lv_at hl 1 rfl) ?_
      obtain ⟨r3, er3, hf⟩ := xbd_s hf
      refine x_Vi (As := [.ref (Γ.2.1 (k0 + 87 + 3 * v3.toNatClampNeg)), .int v1]) (rest := [.int v2]) E.1 (m_X3_canNumberFor l h0 (isCa_of h0 c2) er3) (cwV 2 hts (xgV xU_sub q1019 q757 q758 q15 q759) rfl rfl rfl hdX3_canNumberFor ⟨Nat.le_of_ble_eq_true rfl, Nat.le_of_ble_eq_true rfl⟩) h (kX_desk h0) rfl rfl hl.1 rfl (Nat.le_of_ble_eq_true rfl) dX3_sumOfCans_21 ⟨Nat.le_of_ble_eq_true rfl, Nat.le_of_ble_eq_true rfl⟩ (fun H locs h => ?_)
      refine lv_iadd hx hb dX3_sumOfCans_24 ?_
      obtain ⟨y4, ey4, hf⟩ := xl_s hf
      refine x_nm ey4 ?_
      refine lv_istore_n (lv' := [(2, .int y4), (0, .ref (Γ.2.1 k0)), (1, .int v1), (3, .int v3)]) hx hb dX3_sumOfCans_25 rfl hl (by decide) rfl (fun ls hl => ?_)
      obtain ⟨y5, ey5, hf⟩ := xl_s hf
      refine lv_iinc (v := y5) (lv' := [(3, .int y5), (2, .int y4), (0, .ref (Γ.2.1 k0)), (1, .int v1)]) hx hb dX3_sumOfCans_26 hl (k := 3) rfl (by rw [ey5]; rfl) (by decide) rfl (fun ls hl => ?_)
      refine lv_goto (tgt := 4) hx hb dX3_sumOfCans_29 (by decide) ?_
      exact ih v1 y4 y5 r3.1 hf _ _ _ h (lv_sub hl [2, 3, 1, 0] rfl)
set_option maxHeartbeats 4000000 in
set_option maxRecDepth 100000 in
theorem m_X3_sumOfCans (l : Launch) {Γ : xG} {N : Nat} {k0 : Nat} (h0 : isDk k0) {v1 : Int32} {M : xM} {res : xR} (hf : F_X3_sumOfCans N k0 v1 M = some res) (sz : Nat) : Met l yX3_sumOfCans (xWs yX3_sumOfCans cX3_sumOfCans 4 (some .int)) ({ frames := 4, cells := 0, slots := 0, locals := 105 } : Room) (va_Pc [.ref (Γ.2.1 k0), .int v1] (xPre Γ (wX Γ) M sz)) (xCi Γ (wX Γ) 1483 res sz) 0 0 (xAd Γ 1483 sz) := by
  refine x_met (Qc := fun sz => xCi Γ (wX Γ) 1483 res sz) pnX3 wG_W (Nat.le_of_ble_eq_true rfl) (fun p e s m args below meth c _ E h ls hl => ?_) sz
  obtain ⟨⟨hx, hb, hml, hown, hts⟩, hr, hlocks⟩ := id E
  have hl : lv_has ls 4 [(0, .ref (Γ.2.1 k0)), (1, .int v1)] := hl
  refine lv_iconst (v := 0) hx hb dX3_sumOfCans_0 (by decide) ?_
  refine lv_istore_n (lv' := [(2, .int 0), (0, .ref (Γ.2.1 k0)), (1, .int v1)]) hx hb dX3_sumOfCans_1 rfl hl (by decide) rfl (fun ls hl => ?_)
  refine lv_iconst (v := 0) hx hb dX3_sumOfCans_2 (by decide) ?_
  refine lv_istore_n (lv' := [(3, .int 0), (2, .int 0), (0, .ref (Γ.2.1 k0)), (1, .int v1)]) hx hb dX3_sumOfCans_3 rfl hl (by decide) rfl (fun ls hl => ?_)
  exact w_X3_sumOfCans_4 l E h0 N v1 0 0 M hf _ _ _ h (lv_sub hl [2, 3, 1, 0] rfl)
theorem hdX3_sumOfStocks : yX3_sumOfStocks.cls = RX3 ∧ yX3_sumOfStocks.cls ≠ "java/lang/invoke/MethodHandle" ∧ yX3_sumOfStocks.cls ≠ "java/lang/invoke/VarHandle" ∧ (parseMethodDescriptor yX3_sumOfStocks.desc).map (fun d => d.parameters.length) = some 0 := by decide +kernel
set_option maxHeartbeats 4000000 in
set_option maxRecDepth 100000 in
theorem w_X3_sumOfStocks_4 (l : Launch) {p : Program} {e : Env} {s : State} {m : MethodId} {args : Array Value} {below : List Frame} {meth : Method} {c : Code} {Γ : xG} {N : Nat} {k0 : Nat} {res : xR} (E : xEv p s m args meth c RX3 cX3_sumOfStocks 3 (some .int) (xWs yX3_sumOfStocks cX3_sumOfStocks 3 (some .int))) (h0 : isDk k0) : ∀ (n : Nat) (v1 : Int32) (v2 : Int32) (M : xM), L_X3_sumOfStocks_4 N k0 n v1 v2 M = some res → ∀ (H : Heap) (locs : List Loc) (ls : Array Slot), xH Γ (wX Γ) 1483 s M H locs → lv_has ls 3 [(0, .ref (Γ.2.1 k0)), (1, .int v1), (2, .int v2)] → W p l e ({ frames := 1, cells := 0, slots := 0, locals := 40 } : Room) s m args below meth c H locs 0 0 (MQ below (xCi Γ (wX Γ) 1483 res s.heap.size) args s 0 0 (xAd Γ 1483 s.heap.size)) (F0 m 4 ls []) := by
  obtain ⟨⟨hx, hb, hml, hown, hts⟩, hr, hlocks⟩ := id E
  intro n
  induction n with
  | zero => intro v1 v2 M hf; cases hf
  | succ n ih =>
    intro v1 v2 M hf H locs ls h hl
    refine lv_iload_n hx hb dX3_sumOfStocks_4 rfl (lv_at hl 2 rfl) ?_
    refine lv_aload_n hx hb dX3_sumOfStocks_5 rfl (lv_at hl 0 rfl) ?_
    refine x_get (own := RX3) (ref := "TintDesk$Desk") (C := RX3) (T := TX3) (n := 9) (index := 39) (v := .int (M.1 k0 5)) hx hb hts (fun w h => xU_sub w (inU3 w h)) hown h (kX_desk h0) rfl 5 (by decide) (hts _ (xU_sub _ q51)) (fun _ h9 => h9) rfl dX3_sumOfStocks_6 ?_
    refine lv_icmp_ge (tgt := 30) hx hb dX3_sumOfStocks_9 (by decide) (fun c1 => ?_) (fun c1 => ?_)
    · replace hf := xif_t hf c1
      refine lv_iload_n hx hb dX3_sumOfStocks_30 rfl (lv_at hl 1 rfl) ?_
      exact x_iret hx hb h (Option.some.inj hf) hr hlocks dX3_sumOfStocks_31
    · replace hf := xif_f hf c1
      refine lv_iload_n hx hb dX3_sumOfStocks_12 rfl (lv_at hl 1 rfl) ?_
      refine lv_aload_n hx hb dX3_sumOfStocks_13 rfl (lv_at hl 0 rfl) ?_
      refine x_get (own := RX3) (ref := "TintDesk$Desk") (C := RX3) (T := TX3) (n := 9) (index := 19) (v := .ref (Γ.2.1 (k0 + 2))) hx hb hts (fun w h => xU_sub w (inU3 w h)) hown h (kX_desk h0) rfl 1 (by decide) (hts _ (xU_sub _ q45)) (fun _ h9 => h9) rfl dX3_sumOfStocks_14 ?_
      refine lv_iload_n hx hb dX3_sumOfStocks_17 rfl (lv_at hl 2 rfl) ?_
      obtain ⟨c2, hf⟩ := xck_s hf
      refine x_aald (C := "TintDesk$Base") hx hb h rfl (kX_desk_bases h0) c2 dX3_sumOfStocks_18 ?_
      refine x_get (own := RX3) (ref := "TintDesk$Base") (C := RX0) (T := TX0) (n := 3) (index := 110) (v := .int (M.1 (k0 + 45 + 2 * v2.toNatClampNeg) 2)) hx hb hts (fun w h => xU_sub w (inU0 w h)) hown h (kX_base (isBa_of h0 c2)) rfl 2 (by decide) (hts _ (xU_sub _ q427)) (fun _ h9 => h9) rfl dX3_sumOfStocks_19 ?_
      refine lv_iadd hx hb dX3_sumOfStocks_22 ?_
      obtain ⟨y3, ey3, hf⟩ := xl_s hf
      refine x_nm ey3 ?_
      refine lv_istore_n (lv' := [(1, .int y3), (0, .ref (Γ.2.1 k0)), (2, .int v2)]) hx hb dX3_sumOfStocks_23 rfl hl (by decide) rfl (fun ls hl => ?_)
      obtain ⟨y4, ey4, hf⟩ := xl_s hf
      refine lv_iinc (v := y4) (lv' := [(2, .int y4), (1, .int y3), (0, .ref (Γ.2.1 k0))]) hx hb dX3_sumOfStocks_24 hl (k := 2) rfl (by rw [ey4]; rfl) (by decide) rfl (fun ls hl => ?_)
      refine lv_goto (tgt := 4) hx hb dX3_sumOfStocks_27 (by decide) ?_
      exact ih y3 y4 M hf _ _ _ h (lv_sub hl [2, 1, 0] rfl)
set_option maxHeartbeats 4000000 in
set_option maxRecDepth 100000 in
theorem m_X3_sumOfStocks (l : Launch) {Γ : xG} {N : Nat} {k0 : Nat} (h0 : isDk k0) {M : xM} {res : xR} (hf : F_X3_sumOfStocks N k0 M = some res) (sz : Nat) : Met l yX3_sumOfStocks (xWs yX3_sumOfStocks cX3_sumOfStocks 3 (some .int)) ({ frames := 1, cells := 0, slots := 0, locals := 40 } : Room) (va_Pc [.ref (Γ.2.1 k0)] (xPre Γ (wX Γ) M sz)) (xCi Γ (wX Γ) 1483 res sz) 0 0 (xAd Γ 1483 sz) := by
  refine x_met (Qc := fun sz => xCi Γ (wX Γ) 1483 res sz) pnX3 wG_W (Nat.le_of_ble_eq_true rfl) (fun p e s m args below meth c _ E h ls hl => ?_) sz
  obtain ⟨⟨hx, hb, hml, hown, hts⟩, hr, hlocks⟩ := id E
  have hl : lv_has ls 3 [(0, .ref (Γ.2.1 k0))] := hl
  refine lv_iconst (v := 0) hx hb dX3_sumOfStocks_0 (by decide) ?_
  refine lv_istore_n (lv' := [(1, .int 0), (0, .ref (Γ.2.1 k0))]) hx hb dX3_sumOfStocks_1 rfl hl (by decide) rfl (fun ls hl => ?_)
  refine lv_iconst (v := 0) hx hb dX3_sumOfStocks_2 (by decide) ?_
  refine lv_istore_n (lv' := [(2, .int 0), (1, .int 0), (0, .ref (Γ.2.1 k0))]) hx hb dX3_sumOfStocks_3 rfl hl (by decide) rfl (fun ls hl => ?_)
  exact w_X3_sumOfStocks_4 l E h0 N 0 0 M hf _ _ _ h (lv_sub hl [2, 1, 0] rfl)
theorem hdX3_sumOfCarries : yX3_sumOfCarries.cls = RX3 ∧ yX3_sumOfCarries.cls ≠ "java/lang/invoke/MethodHandle" ∧ yX3_sumOfCarries.cls ≠ "java/lang/invoke/VarHandle" ∧ (parseMethodDescriptor yX3_sumOfCarries.desc).map (fun d => d.parameters.length) = some 0 := by decide +kernel
set_option maxHeartbeats 4000000 in
set_option maxRecDepth 100000 in
theorem w_X3_sumOfCarries_14 (l : Launch) {p : Program} {e : Env} {s : State} {m : MethodId} {args : Array Value} {below : List Frame} {meth : Method} {c : Code} {Γ : xG} {N : Nat} {k0 : Nat} {res : xR} (E : xEv p s m args meth c RX3 cX3_sumOfCarries 4 (some .int) (xWs yX3_sumOfCarries cX3_sumOfCarries 4 (some .int))) (h0 : isDk k0) {K_4 : Int32 → Int32 → xM → Option xR} (hK_4 : ∀ (v1 : Int32) (v2 : Int32) (M : xM), K_4 v1 v2 M = some res → ∀ (H : Heap) (locs : List Loc) (ls : Array Slot), xH Γ (wX Γ) 1483 s M H locs → lv_has ls 4 [(0, .ref (Γ.2.1 k0)), (1, .int v1), (2, .int v2)] → W p l e ({ frames := 1, cells := 0, slots := 0, locals := 40 } : Room) s m args below meth c H locs 0 0 (MQ below (xCi Γ (wX Γ) 1483 res s.heap.size) args s 0 0 (xAd Γ 1483 s.heap.size)) (F0 m 4 ls [])) : ∀ (n : Nat) (v1 : Int32) (v2 : Int32) (v3 : Int32) (M : xM), L_X3_sumOfCarries_14 N k0 K_4 n v1 v2 v3 M = some res → ∀ (H : Heap) (locs : List Loc) (ls : Array Slot), xH Γ (wX Γ) 1483 s M H locs → lv_has ls 4 [(0, .ref (Γ.2.1 k0)), (1, .int v1), (2, .int v2), (3, .int v3)] → W p l e ({ frames := 1, cells := 0, slots := 0, locals := 40 } : Room) s m args below meth c H locs 0 0 (MQ below (xCi Γ (wX Γ) 1483 res s.heap.size) args s 0 0 (xAd Γ 1483 s.heap.size)) (F0 m 14 ls []) := by
  obtain ⟨⟨hx, hb, hml, hown, hts⟩, hr, hlocks⟩ := id E
  intro n
  induction n with
  | zero => intro v1 v2 v3 M hf; cases hf
  | succ n ih =>
    intro v1 v2 v3 M hf H locs ls h hl
    refine lv_iload_n hx hb dX3_sumOfCarries_14 rfl (lv_at hl 3 rfl) ?_
    refine lv_aload_n hx hb dX3_sumOfCarries_15 rfl (lv_at hl 0 rfl) ?_
    refine x_get (own := RX3) (ref := "TintDesk$Desk") (C := RX3) (T := TX3) (n := 9) (index := 35) (v := .int (M.1 k0 4)) hx hb hts (fun w h => xU_sub w (inU3 w h)) hown h (kX_desk h0) rfl 4 (by decide) (hts _ (xU_sub _ q50)) (fun _ h9 => h9) rfl dX3_sumOfCarries_16 ?_
    refine lv_icmp_ge (tgt := 42) hx hb dX3_sumOfCarries_19 (by decide) (fun c1 => ?_) (fun c1 => ?_)
    · replace hf := xif_t hf c1
      obtain ⟨y2, ey2, hf⟩ := xl_s hf
      refine lv_iinc (v := y2) (lv' := [(2, .int y2), (0, .ref (Γ.2.1 k0)), (1, .int v1), (3, .int v3)]) hx hb dX3_sumOfCarries_42 hl (k := 2) rfl (by rw [ey2]; rfl) (by decide) rfl (fun ls hl => ?_)
      refine lv_goto (tgt := 4) hx hb dX3_sumOfCarries_45 (by decide) ?_
      exact hK_4 v1 y2 M hf _ _ _ h (lv_sub hl [1, 2, 0] rfl)
    · replace hf := xif_f hf c1
      refine lv_iload_n hx hb dX3_sumOfCarries_22 rfl (lv_at hl 1 rfl) ?_
      refine lv_aload_n hx hb dX3_sumOfCarries_23 rfl (lv_at hl 0 rfl) ?_
      refine x_get (own := RX3) (ref := "TintDesk$Desk") (C := RX3) (T := TX3) (n := 9) (index := 25) (v := .ref (Γ.2.1 (k0 + 3))) hx hb hts (fun w h => xU_sub w (inU3 w h)) hown h (kX_desk h0) rfl 2 (by decide) (hts _ (xU_sub _ q47)) (fun _ h9 => h9) rfl dX3_sumOfCarries_24 ?_
      refine lv_iload_n hx hb dX3_sumOfCarries_27 rfl (lv_at hl 2 rfl) ?_
      obtain ⟨c3, hf⟩ := xck_s hf
      refine x_aald (C := "TintDesk$Formula") hx hb h rfl (kX_desk_formulas h0) c3 dX3_sumOfCarries_28 ?_
      refine x_get (own := RX3) (ref := "TintDesk$Formula") (C := RX4) (T := TX4) (n := 3) (index := 181) (v := .ref (Γ.2.1 ((k0 + 57 + 3 * v2.toNatClampNeg) + 2))) hx hb hts (fun w h => xU_sub w (inU4 w h)) hown h (kX_formula (isFo_of h0 c3)) rfl 2 (by decide) (hts _ (xU_sub _ q1028)) (fun _ h9 => h9) rfl dX3_sumOfCarries_29 ?_
      refine lv_iload_n hx hb dX3_sumOfCarries_32 rfl (lv_at hl 3 rfl) ?_
      obtain ⟨c4, hf⟩ := xck_s hf
      refine x_iald hx hb h (kX_formula_carries (isFo_of h0 c3)) (xin_in c4) dX3_sumOfCarries_33 ?_
      refine lv_iadd hx hb dX3_sumOfCarries_34 ?_
      obtain ⟨y5, ey5, hf⟩ := xl_s hf
      refine x_nm ey5 ?_
      refine lv_istore_n (lv' := [(1, .int y5), (0, .ref (Γ.2.1 k0)), (2, .int v2), (3, .int v3)]) hx hb dX3_sumOfCarries_35 rfl hl (by decide) rfl (fun ls hl => ?_)
      obtain ⟨y6, ey6, hf⟩ := xl_s hf
      refine lv_iinc (v := y6) (lv' := [(3, .int y6), (1, .int y5), (0, .ref (Γ.2.1 k0)), (2, .int v2)]) hx hb dX3_sumOfCarries_36 hl (k := 3) rfl (by rw [ey6]; rfl) (by decide) rfl (fun ls hl => ?_)
      refine lv_goto (tgt := 14) hx hb dX3_sumOfCarries_39 (by decide) ?_
      exact ih y5 v2 y6 M hf _ _ _ h (lv_sub hl [2, 1, 3, 0] rfl)
set_option maxHeartbeats 4000000 in
set_option maxRecDepth 100000 in
theorem w_X3_sumOfCarries_4 (l : Launch) {p : Program} {e : Env} {s : State} {m : MethodId} {args : Array Value} {below : List Frame} {meth : Method} {c : Code} {Γ : xG} {N : Nat} {k0 : Nat} {res : xR} (E : xEv p s m args meth c RX3 cX3_sumOfCarries 4 (some .int) (xWs yX3_sumOfCarries cX3_sumOfCarries 4 (some .int))) (h0 : isDk k0) : ∀ (n : Nat) (v1 : Int32) (v2 : Int32) (M : xM), L_X3_sumOfCarries_4 N k0 n v1 v2 M = some res → ∀ (H : Heap) (locs : List Loc) (ls : Array Slot), xH Γ (wX Γ) 1483 s M H locs → lv_has ls 4 [(0, .ref (Γ.2.1 k0)), (1, .int v1), (2, .int v2)] → W p l e ({ frames := 1, cells := 0, slots := 0, locals := 40 } : Room) s m args below meth c H locs 0 0 (MQ below (xCi Γ (wX Γ) 1483 res s.heap.size) args s 0 0 (xAd Γ 1483 s.heap.size)) (F0 m 4 ls []) := by
  obtain ⟨⟨hx, hb, hml, hown, hts⟩, hr, hlocks⟩ := id E
  intro n
  induction n with
  | zero => intro v1 v2 M hf; cases hf
  | succ n ih =>
    intro v1 v2 M hf H locs ls h hl
    refine lv_iload_n hx hb dX3_sumOfCarries_4 rfl (lv_at hl 2 rfl) ?_
    refine lv_aload_n hx hb dX3_sumOfCarries_5 rfl (lv_at hl 0 rfl) ?_
    refine x_get (own := RX3) (ref := "TintDesk$Desk") (C := RX3) (T := TX3) (n := 9) (index := 42) (v := .int (M.1 k0 6)) hx hb hts (fun w h => xU_sub w (inU3 w h)) hown h (kX_desk h0) rfl 6 (by decide) (hts _ (xU_sub _ q52)) (fun _ h9 => h9) rfl dX3_sumOfCarries_6 ?_
    refine lv_icmp_ge (tgt := 48) hx hb dX3_sumOfCarries_9 (by decide) (fun c1 => ?_) (fun c1 => ?_)
    · replace hf := xif_t hf c1
      refine lv_iload_n hx hb dX3_sumOfCarries_48 rfl (lv_at hl 1 rfl) ?_
      exact x_iret hx hb h (Option.some.inj hf) hr hlocks dX3_sumOfCarries_49
    · replace hf := xif_f hf c1
      refine lv_iconst (v := 0) hx hb dX3_sumOfCarries_12 (by decide) ?_
      refine lv_istore_n (lv' := [(3, .int 0), (0, .ref (Γ.2.1 k0)), (1, .int v1), (2, .int v2)]) hx hb dX3_sumOfCarries_13 rfl hl (by decide) rfl (fun ls hl => ?_)
      exact w_X3_sumOfCarries_14 l E h0 (ih) N v1 v2 0 M hf _ _ _ h (lv_sub hl [1, 2, 3, 0] rfl)
set_option maxHeartbeats 4000000 in
set_option maxRecDepth 100000 in
theorem m_X3_sumOfCarries (l : Launch) {Γ : xG} {N : Nat} {k0 : Nat} (h0 : isDk k0) {M : xM} {res : xR} (hf : F_X3_sumOfCarries N k0 M = some res) (sz : Nat) : Met l yX3_sumOfCarries (xWs yX3_sumOfCarries cX3_sumOfCarries 4 (some .int)) ({ frames := 1, cells := 0, slots := 0, locals := 40 } : Room) (va_Pc [.ref (Γ.2.1 k0)] (xPre Γ (wX Γ) M sz)) (xCi Γ (wX Γ) 1483 res sz) 0 0 (xAd Γ 1483 sz) := by
  refine x_met (Qc := fun sz => xCi Γ (wX Γ) 1483 res sz) pnX3 wG_W (Nat.le_of_ble_eq_true rfl) (fun p e s m args below meth c _ E h ls hl => ?_) sz
  obtain ⟨⟨hx, hb, hml, hown, hts⟩, hr, hlocks⟩ := id E
  have hl : lv_has ls 4 [(0, .ref (Γ.2.1 k0))] := hl
  refine lv_iconst (v := 0) hx hb dX3_sumOfCarries_0 (by decide) ?_
  refine lv_istore_n (lv' := [(1, .int 0), (0, .ref (Γ.2.1 k0))]) hx hb dX3_sumOfCarries_1 rfl hl (by decide) rfl (fun ls hl => ?_)
  refine lv_iconst (v := 0) hx hb dX3_sumOfCarries_2 (by decide) ?_
  refine lv_istore_n (lv' := [(2, .int 0), (1, .int 0), (0, .ref (Γ.2.1 k0))]) hx hb dX3_sumOfCarries_3 rfl hl (by decide) rfl (fun ls hl => ?_)
  exact w_X3_sumOfCarries_4 l E h0 N 0 0 M hf _ _ _ h (lv_sub hl [2, 1, 0] rfl)
theorem hdX3_accountFor : yX3_accountFor.cls = RX3 ∧ yX3_accountFor.cls ≠ "java/lang/invoke/MethodHandle" ∧ yX3_accountFor.cls ≠ "java/lang/invoke/VarHandle" ∧ (parseMethodDescriptor yX3_accountFor.desc).map (fun d => d.parameters.length) = some 1 := by decide +kernel
set_option maxHeartbeats 4000000 in
set_option maxRecDepth 100000 in
theorem m_X3_accountFor (l : Launch) {Γ : xG} {N : Nat} {k0 : Nat} (h0 : isDk k0) {v1 : Int32} {M : xM} {res : xR} (hf : F_X3_accountFor N k0 v1 M = some res) (sz : Nat) : Met l yX3_accountFor (xWs yX3_accountFor cX3_accountFor 2 (some .int)) ({ frames := 5, cells := 0, slots := 0, locals := 128 } : Room) (va_Pc [.ref (Γ.2.1 k0), .int v1] (xPre Γ (wX Γ) M sz)) (xCi Γ (wX Γ) 1483 res sz) 0 0 (xAd Γ 1483 sz) := by
  refine x_met (Qc := fun sz => xCi Γ (wX Γ) 1483 res sz) pnX3 wG_W (Nat.le_of_ble_eq_true rfl) (fun p e s m args below meth c _ E h ls hl => ?_) sz
  obtain ⟨⟨hx, hb, hml, hown, hts⟩, hr, hlocks⟩ := id E
  have hl : lv_has ls 2 [(0, .ref (Γ.2.1 k0)), (1, .int v1)] := hl
  refine lv_iload_n hx hb dX3_accountFor_0 rfl (lv_at hl 1 rfl) ?_
  by_cases c1 : v1 = 0
  · replace hf := xif_t hf c1
    refine lv_tableIn (off := 63) (tgt := 64) hx hb dX3_accountFor_1 (by rw [c1]; decide) (by rw [c1]; decide) (by rw [c1]; rfl) (by decide) ?_
    refine lv_aload_n hx hb dX3_accountFor_64 rfl (lv_at hl 0 rfl) ?_
    refine x_get (own := RX3) (ref := "TintDesk$Desk") (C := RX3) (T := TX3) (n := 9) (index := 35) (v := .int (M.1 k0 4)) hx hb hts (fun w h => xU_sub w (inU3 w h)) hown h (kX_desk h0) rfl 4 (by decide) (hts _ (xU_sub _ q50)) (fun _ h9 => h9) rfl dX3_accountFor_65 ?_
    exact x_iret hx hb h (Option.some.inj hf) hr hlocks dX3_accountFor_68
  replace hf := xif_f hf c1
  by_cases c2 : v1 = 1
  · replace hf := xif_t hf c2
    refine lv_tableIn (off := 68) (tgt := 69) hx hb dX3_accountFor_1 (by rw [c2]; decide) (by rw [c2]; decide) (by rw [c2]; rfl) (by decide) ?_
    refine lv_aload_n hx hb dX3_accountFor_69 rfl (lv_at hl 0 rfl) ?_
    refine x_get (own := RX3) (ref := "TintDesk$Desk") (C := RX3) (T := TX3) (n := 9) (index := 39) (v := .int (M.1 k0 5)) hx hb hts (fun w h => xU_sub w (inU3 w h)) hown h (kX_desk h0) rfl 5 (by decide) (hts _ (xU_sub _ q51)) (fun _ h9 => h9) rfl dX3_accountFor_70 ?_
    exact x_iret hx hb h (Option.some.inj hf) hr hlocks dX3_accountFor_73
  replace hf := xif_f hf c2
  by_cases c3 : v1 = 2
  · replace hf := xif_t hf c3
    refine lv_tableIn (off := 73) (tgt := 74) hx hb dX3_accountFor_1 (by rw [c3]; decide) (by rw [c3]; decide) (by rw [c3]; rfl) (by decide) ?_
    refine lv_aload_n hx hb dX3_accountFor_74 rfl (lv_at hl 0 rfl) ?_
    refine x_get (own := RX3) (ref := "TintDesk$Desk") (C := RX3) (T := TX3) (n := 9) (index := 42) (v := .int (M.1 k0 6)) hx hb hts (fun w h => xU_sub w (inU3 w h)) hown h (kX_desk h0) rfl 6 (by decide) (hts _ (xU_sub _ q52)) (fun _ h9 => h9) rfl dX3_accountFor_75 ?_
    exact x_iret hx hb h (Option.some.inj hf) hr hlocks dX3_accountFor_78
  replace hf := xif_f hf c3
  by_cases c4 : v1 = 3
  · replace hf := xif_t hf c4
    refine lv_tableIn (off := 78) (tgt := 79) hx hb dX3_accountFor_1 (by rw [c4]; decide) (by rw [c4]; decide) (by rw [c4]; rfl) (by decide) ?_
    refine lv_aload_n hx hb dX3_accountFor_79 rfl (lv_at hl 0 rfl) ?_
    refine x_get (own := RX3) (ref := "TintDesk$Desk") (C := RX3) (T := TX3) (n := 9) (index := 45) (v := .int (M.1 k0 7)) hx hb hts (fun w h => xU_sub w (inU3 w h)) hown h (kX_desk h0) rfl 7 (by decide) (hts _ (xU_sub _ q53)) (fun _ h9 => h9) rfl dX3_accountFor_80 ?_
    exact x_iret hx hb h (Option.some.inj hf) hr hlocks dX3_accountFor_83
  replace hf := xif_f hf c4
  by_cases c5 : v1 = 4
  · replace hf := xif_t hf c5
    refine lv_tableIn (off := 83) (tgt := 84) hx hb dX3_accountFor_1 (by rw [c5]; decide) (by rw [c5]; decide) (by rw [c5]; rfl) (by decide) ?_
    refine lv_aload_n hx hb dX3_accountFor_84 rfl (lv_at hl 0 rfl) ?_
    refine lv_iconst (v := 3) hx hb dX3_accountFor_85 (by decide) ?_
    obtain ⟨r6, er6, hf⟩ := xbd_s hf
    refine x_Vi (As := [.int 3]) (rest := []) E.1 (m_X3_sumOfColorants l h0 er6) (cwV 1 hts (xgV xU_sub q1010 q1011 q1012 q15 q1013) rfl rfl rfl hdX3_sumOfColorants ⟨Nat.le_of_ble_eq_true rfl, Nat.le_of_ble_eq_true rfl⟩) h (kX_desk h0) rfl rfl hl.1 rfl (Nat.le_of_ble_eq_true rfl) dX3_accountFor_86 ⟨Nat.le_of_ble_eq_true rfl, Nat.le_of_ble_eq_true rfl⟩ (fun H locs h => ?_)
    exact x_iret hx hb h (Option.some.inj hf) hr hlocks dX3_accountFor_89
  replace hf := xif_f hf c5
  by_cases c7 : v1 = 5
  · replace hf := xif_t hf c7
    refine lv_tableIn (off := 89) (tgt := 90) hx hb dX3_accountFor_1 (by rw [c7]; decide) (by rw [c7]; decide) (by rw [c7]; rfl) (by decide) ?_
    refine lv_aload_n hx hb dX3_accountFor_90 rfl (lv_at hl 0 rfl) ?_
    refine lv_iconst (v := 2) hx hb dX3_accountFor_91 (by decide) ?_
    obtain ⟨r8, er8, hf⟩ := xbd_s hf
    refine x_Vi (As := [.int 2]) (rest := []) E.1 (m_X3_sumOfCans l h0 er8) (cwV 1 hts (xgV xU_sub q1015 q1016 q1017 q15 q1018) rfl rfl rfl hdX3_sumOfCans ⟨Nat.le_of_ble_eq_true rfl, Nat.le_of_ble_eq_true rfl⟩) h (kX_desk h0) rfl rfl hl.1 rfl (Nat.le_of_ble_eq_true rfl) dX3_accountFor_92 ⟨Nat.le_of_ble_eq_true rfl, Nat.le_of_ble_eq_true rfl⟩ (fun H locs h => ?_)
    exact x_iret hx hb h (Option.some.inj hf) hr hlocks dX3_accountFor_95
  replace hf := xif_f hf c7
  by_cases c9 : v1 = 6
  · replace hf := xif_t hf c9
    refine lv_tableIn (off := 95) (tgt := 96) hx hb dX3_accountFor_1 (by rw [c9]; decide) (by rw [c9]; decide) (by rw [c9]; rfl) (by decide) ?_
    refine lv_aload_n hx hb dX3_accountFor_96 rfl (lv_at hl 0 rfl) ?_
    refine lv_iconst (v := 5) hx hb dX3_accountFor_97 (by decide) ?_
    obtain ⟨r10, er10, hf⟩ := xbd_s hf
    refine x_Vi (As := [.int 5]) (rest := []) E.1 (m_X3_sumOfColorants l h0 er10) (cwV 1 hts (xgV xU_sub q1010 q1011 q1012 q15 q1013) rfl rfl rfl hdX3_sumOfColorants ⟨Nat.le_of_ble_eq_true rfl, Nat.le_of_ble_eq_true rfl⟩) h (kX_desk h0) rfl rfl hl.1 rfl (Nat.le_of_ble_eq_true rfl) dX3_accountFor_98 ⟨Nat.le_of_ble_eq_true rfl, Nat.le_of_ble_eq_true rfl⟩ (fun H locs h => ?_)
    exact x_iret hx hb h (Option.some.inj hf) hr hlocks dX3_accountFor_101
  replace hf := xif_f hf c9
  by_cases c11 : v1 = 7
  · replace hf := xif_t hf c11
    refine lv_tableIn (off := 101) (tgt := 102) hx hb dX3_accountFor_1 (by rw [c11]; decide) (by rw [c11]; decide) (by rw [c11]; rfl) (by decide) ?_
    refine lv_aload_n hx hb dX3_accountFor_102 rfl (lv_at hl 0 rfl) ?_
    refine lv_bipush (v := 7) hx hb dX3_accountFor_103 (by decide) ?_
    obtain ⟨r12, er12, hf⟩ := xbd_s hf
    refine x_Vi (As := [.int 7]) (rest := []) E.1 (m_X3_sumOfColorants l h0 er12) (cwV 1 hts (xgV xU_sub q1010 q1011 q1012 q15 q1013) rfl rfl rfl hdX3_sumOfColorants ⟨Nat.le_of_ble_eq_true rfl, Nat.le_of_ble_eq_true rfl⟩) h (kX_desk h0) rfl rfl hl.1 rfl (Nat.le_of_ble_eq_true rfl) dX3_accountFor_105 ⟨Nat.le_of_ble_eq_true rfl, Nat.le_of_ble_eq_true rfl⟩ (fun H locs h => ?_)
    exact x_iret hx hb h (Option.some.inj hf) hr hlocks dX3_accountFor_108
  replace hf := xif_f hf c11
  by_cases c13 : v1 = 8
  · replace hf := xif_t hf c13
    refine lv_tableIn (off := 108) (tgt := 109) hx hb dX3_accountFor_1 (by rw [c13]; decide) (by rw [c13]; decide) (by rw [c13]; rfl) (by decide) ?_
    refine lv_aload_n hx hb dX3_accountFor_109 rfl (lv_at hl 0 rfl) ?_
    obtain ⟨r14, er14, hf⟩ := xbd_s hf
    refine x_Vi (As := []) (rest := []) E.1 (m_X3_sumOfStocks l h0 er14) (cwV 0 hts (xgV xU_sub q1020 q1021 q1022 q15 q1023) rfl rfl rfl hdX3_sumOfStocks ⟨Nat.le_of_ble_eq_true rfl, Nat.le_of_ble_eq_true rfl⟩) h (kX_desk h0) rfl rfl hl.1 rfl (Nat.le_of_ble_eq_true rfl) dX3_accountFor_110 ⟨Nat.le_of_ble_eq_true rfl, Nat.le_of_ble_eq_true rfl⟩ (fun H locs h => ?_)
    exact x_iret hx hb h (Option.some.inj hf) hr hlocks dX3_accountFor_113
  replace hf := xif_f hf c13
  by_cases c15 : v1 = 9
  · replace hf := xif_t hf c15
    refine lv_tableIn (off := 113) (tgt := 114) hx hb dX3_accountFor_1 (by rw [c15]; decide) (by rw [c15]; decide) (by rw [c15]; rfl) (by decide) ?_
    refine lv_aload_n hx hb dX3_accountFor_114 rfl (lv_at hl 0 rfl) ?_
    refine lv_iconst (v := 3) hx hb dX3_accountFor_115 (by decide) ?_
    obtain ⟨r16, er16, hf⟩ := xbd_s hf
    refine x_Vi (As := [.int 3]) (rest := []) E.1 (m_X3_sumOfCans l h0 er16) (cwV 1 hts (xgV xU_sub q1015 q1016 q1017 q15 q1018) rfl rfl rfl hdX3_sumOfCans ⟨Nat.le_of_ble_eq_true rfl, Nat.le_of_ble_eq_true rfl⟩) h (kX_desk h0) rfl rfl hl.1 rfl (Nat.le_of_ble_eq_true rfl) dX3_accountFor_116 ⟨Nat.le_of_ble_eq_true rfl, Nat.le_of_ble_eq_true rfl⟩ (fun H locs h => ?_)
    exact x_iret hx hb h (Option.some.inj hf) hr hlocks dX3_accountFor_119
  replace hf := xif_f hf c15
  by_cases c17 : v1 = 10
  · replace hf := xif_t hf c17
    refine lv_tableIn (off := 119) (tgt := 120) hx hb dX3_accountFor_1 (by rw [c17]; decide) (by rw [c17]; decide) (by rw [c17]; rfl) (by decide) ?_
    refine lv_aload_n hx hb dX3_accountFor_120 rfl (lv_at hl 0 rfl) ?_
    obtain ⟨r18, er18, hf⟩ := xbd_s hf
    refine x_Vi (As := []) (rest := []) E.1 (m_X3_sumOfCarries l h0 er18) (cwV 0 hts (xgV xU_sub q1024 q1025 q1026 q15 q1027) rfl rfl rfl hdX3_sumOfCarries ⟨Nat.le_of_ble_eq_true rfl, Nat.le_of_ble_eq_true rfl⟩) h (kX_desk h0) rfl rfl hl.1 rfl (Nat.le_of_ble_eq_true rfl) dX3_accountFor_121 ⟨Nat.le_of_ble_eq_true rfl, Nat.le_of_ble_eq_true rfl⟩ (fun H locs h => ?_)
    exact x_iret hx hb h (Option.some.inj hf) hr hlocks dX3_accountFor_124
  replace hf := xif_f hf c17
  by_cases c19 : v1 = 11
  · replace hf := xif_t hf c19
    refine lv_tableIn (off := 124) (tgt := 125) hx hb dX3_accountFor_1 (by rw [c19]; decide) (by rw [c19]; decide) (by rw [c19]; rfl) (by decide) ?_
    refine lv_aload_n hx hb dX3_accountFor_125 rfl (lv_at hl 0 rfl) ?_
    refine lv_bipush (v := 8) hx hb dX3_accountFor_126 (by decide) ?_
    obtain ⟨r20, er20, hf⟩ := xbd_s hf
    refine x_Vi (As := [.int 8]) (rest := []) E.1 (m_X3_sumOfColorants l h0 er20) (cwV 1 hts (xgV xU_sub q1010 q1011 q1012 q15 q1013) rfl rfl rfl hdX3_sumOfColorants ⟨Nat.le_of_ble_eq_true rfl, Nat.le_of_ble_eq_true rfl⟩) h (kX_desk h0) rfl rfl hl.1 rfl (Nat.le_of_ble_eq_true rfl) dX3_accountFor_128 ⟨Nat.le_of_ble_eq_true rfl, Nat.le_of_ble_eq_true rfl⟩ (fun H locs h => ?_)
    exact x_iret hx hb h (Option.some.inj hf) hr hlocks dX3_accountFor_131
  replace hf := xif_f hf c19
  refine lv_tableOut (tgt := 132) hx hb dX3_accountFor_1 (xsw_out (fun j hj1 hj2 hj => by
    have hj9 : j = 0 ∨ j = 1 ∨ j = 2 ∨ j = 3 ∨ j = 4 ∨ j = 5 ∨ j = 6 ∨ j = 7 ∨ j = 8 ∨ j = 9 ∨ j = 10 ∨ j = 11 := by omega
    rcases hj9 with rfl | rfl | rfl | rfl | rfl | rfl | rfl | rfl | rfl | rfl | rfl | rfl
    · exact c1 hj
    · exact c2 hj
    · exact c3 hj
    · exact c4 hj
    · exact c5 hj
    · exact c7 hj
    · exact c9 hj
    · exact c11 hj
    · exact c13 hj
    · exact c15 hj
    · exact c17 hj
    · exact c19 hj
    )) (by decide) ?_
  refine lv_aload_n hx hb dX3_accountFor_132 rfl (lv_at hl 0 rfl) ?_
  refine x_get (own := RX3) (ref := "TintDesk$Desk") (C := RX3) (T := TX3) (n := 9) (index := 48) (v := .int (M.1 k0 8)) hx hb hts (fun w h => xU_sub w (inU3 w h)) hown h (kX_desk h0) rfl 8 (by decide) (hts _ (xU_sub _ q54)) (fun _ h9 => h9) rfl dX3_accountFor_133 ?_
  exact x_iret hx hb h (Option.some.inj hf) hr hlocks dX3_accountFor_136
