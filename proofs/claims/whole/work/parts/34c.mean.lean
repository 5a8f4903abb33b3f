theorem hdX10_meanSteps : yX10_meanSteps.cls = RX10 ∧ yX10_meanSteps.cls ≠ "java/lang/invoke/MethodHandle" ∧ yX10_meanSteps.cls ≠ "java/lang/invoke/VarHandle" ∧ (parseMethodDescriptor yX10_meanSteps.desc).map (fun d => d.parameters.length) = some 1 := by decide +kernel
set_option maxHeartbeats 4000000 in
set_option maxRecDepth 100000 in
theorem w_X10_meanSteps_80 (l : Launch) {p : Program} {e : Env} {s : State} {m : MethodId} {args : Array Value} {below : List Frame} {meth : Method} {c : Code} {Γ : xG} {N : Nat} {res : xR} (E : xEv p s m args meth c RX10 cX10_meanSteps 6 (some .double) (xWs yX10_meanSteps cX10_meanSteps 6 (some .double))) {K_22 : Int32 → Int32 → Int32 → Int32 → xM → Option xR} (hK_22 : ∀ (v1 : Int32) (v2 : Int32) (v3 : Int32) (v4 : Int32) (M : xM), K_22 v1 v2 v3 v4 M = some res → ∀ (H : Heap) (locs : List Loc) (ls : Array Slot), xH Γ (wR Γ) 10 s M H locs → lv_has ls 6 [(0, .ref (Γ.2.1 0)), (1, .int v1), (2, .int v2), (3, .int v3), (4, .int v4)] → W p l e ({ frames := 3, cells := 0, slots := 0, locals := 85 } : Room) s m args below meth c H locs 0 0 (MQ below (xCd Γ (wR Γ) 10 res s.heap.size) args s 0 0 (xAd Γ 10 s.heap.size)) (F0 m 22 ls [])) : ∀ (v1 : Int32) (v2 : Int32) (v4 : Int32) (t0 : Int32) (t1 : Int32) (M : xM), L_X10_meanSteps_80 N K_22 v1 v2 v4 t0 t1 M = some res → ∀ (H : Heap) (locs : List Loc) (ls : Array Slot), xH Γ (wR Γ) 10 s M H locs → lv_has ls 6 [(0, .ref (Γ.2.1 0)), (1, .int v1), (2, .int v2), (4, .int v4)] → W p l e ({ frames := 3, cells := 0, slots := 0, locals := 85 } : Room) s m args below meth c H locs 0 0 (MQ below (xCd Γ (wR Γ) 10 res s.heap.size) args s 0 0 (xAd Γ 10 s.heap.size)) (F0 m 80 ls [.int t0, .int t1]) := by
  obtain ⟨⟨hx, hb, hml, hown, hts⟩, hr, hlocks⟩ := id E
  intro v1 v2 v4 t0 t1 M hf H locs ls h hl
  refine lv_iadd hx hb dX10_meanSteps_80 ?_
  obtain ⟨y1, ey1, hf⟩ := xl_s hf
  refine x_nm ey1 ?_
  refine lv_istore_n (lv' := [(3, .int y1), (0, .ref (Γ.2.1 0)), (1, .int v1), (2, .int v2), (4, .int v4)]) hx hb dX10_meanSteps_81 rfl hl (by decide) rfl (fun ls hl => ?_)
  obtain ⟨y2, ey2, hf⟩ := xl_s hf
  refine lv_iinc (v := y2) (lv' := [(4, .int y2), (3, .int y1), (0, .ref (Γ.2.1 0)), (1, .int v1), (2, .int v2)]) hx hb dX10_meanSteps_82 hl (k := 4) rfl (by rw [ey2]; rfl) (by decide) rfl (fun ls hl => ?_)
  refine lv_goto (tgt := 22) hx hb dX10_meanSteps_85 (by decide) ?_
  exact hK_22 v1 v2 y1 y2 M hf _ _ _ h (lv_sub hl [2, 3, 4, 1, 0] rfl)
set_option maxHeartbeats 4000000 in
set_option maxRecDepth 100000 in
theorem w_X10_meanSteps_67 (l : Launch) {p : Program} {e : Env} {s : State} {m : MethodId} {args : Array Value} {below : List Frame} {meth : Method} {c : Code} {Γ : xG} {N : Nat} {res : xR} (E : xEv p s m args meth c RX10 cX10_meanSteps 6 (some .double) (xWs yX10_meanSteps cX10_meanSteps 6 (some .double))) {K_22 : Int32 → Int32 → Int32 → Int32 → xM → Option xR} (hK_22 : ∀ (v1 : Int32) (v2 : Int32) (v3 : Int32) (v4 : Int32) (M : xM), K_22 v1 v2 v3 v4 M = some res → ∀ (H : Heap) (locs : List Loc) (ls : Array Slot), xH Γ (wR Γ) 10 s M H locs → lv_has ls 6 [(0, .ref (Γ.2.1 0)), (1, .int v1), (2, .int v2), (3, .int v3), (4, .int v4)] → W p l e ({ frames := 3, cells := 0, slots := 0, locals := 85 } : Room) s m args below meth c H locs 0 0 (MQ below (xCd Γ (wR Γ) 10 res s.heap.size) args s 0 0 (xAd Γ 10 s.heap.size)) (F0 m 22 ls [])) : ∀ (v1 : Int32) (v3 : Int32) (v4 : Int32) (v5 : Int32) (t0 : Int32) (t1 : Int32) (M : xM), L_X10_meanSteps_67 N K_22 v1 v3 v4 v5 t0 t1 M = some res → ∀ (H : Heap) (locs : List Loc) (ls : Array Slot), xH Γ (wR Γ) 10 s M H locs → lv_has ls 6 [(0, .ref (Γ.2.1 0)), (1, .int v1), (3, .int v3), (4, .int v4), (5, .int v5)] → W p l e ({ frames := 3, cells := 0, slots := 0, locals := 85 } : Room) s m args below meth c H locs 0 0 (MQ below (xCd Γ (wR Γ) 10 res s.heap.size) args s 0 0 (xAd Γ 10 s.heap.size)) (F0 m 67 ls [.int t0, .int t1]) := by
  obtain ⟨⟨hx, hb, hml, hown, hts⟩, hr, hlocks⟩ := id E
  intro v1 v3 v4 v5 t0 t1 M hf H locs ls h hl
  refine lv_iadd hx hb dX10_meanSteps_67 ?_
  obtain ⟨y1, ey1, hf⟩ := xl_s hf
  refine x_nm ey1 ?_
  refine lv_istore_n (lv' := [(2, .int y1), (0, .ref (Γ.2.1 0)), (1, .int v1), (3, .int v3), (4, .int v4), (5, .int v5)]) hx hb dX10_meanSteps_68 rfl hl (by decide) rfl (fun ls hl => ?_)
  refine lv_iload_n hx hb dX10_meanSteps_69 rfl (lv_at hl 3 rfl) ?_
  refine lv_iload hx hb dX10_meanSteps_70 (lv_at hl 5 rfl) ?_
  refine lv_if_eq (tgt := 79) hx hb dX10_meanSteps_72 (by decide) (fun c2 => ?_) (fun c2 => ?_)
  · replace hf := xif_t hf c2
    refine lv_iconst (v := 0) hx hb dX10_meanSteps_79 (by decide) ?_
    exact w_X10_meanSteps_80 l E (hK_22) v1 y1 v4 0 v3 M hf _ _ _ h (lv_sub hl [1, 2, 0, 4] rfl)
  · replace hf := xif_f hf c2
    refine lv_iconst (v := 1) hx hb dX10_meanSteps_75 (by decide) ?_
    refine lv_goto (tgt := 80) hx hb dX10_meanSteps_76 (by decide) ?_
    exact w_X10_meanSteps_80 l E (hK_22) v1 y1 v4 1 v3 M hf _ _ _ h (lv_sub hl [1, 2, 0, 4] rfl)
set_option maxHeartbeats 4000000 in
set_option maxRecDepth 100000 in
theorem w_X10_meanSteps_49 (l : Launch) {p : Program} {e : Env} {s : State} {m : MethodId} {args : Array Value} {below : List Frame} {meth : Method} {c : Code} {Γ : xG} {N : Nat} {res : xR} (E : xEv p s m args meth c RX10 cX10_meanSteps 6 (some .double) (xWs yX10_meanSteps cX10_meanSteps 6 (some .double))) {K_22 : Int32 → Int32 → Int32 → Int32 → xM → Option xR} (hK_22 : ∀ (v1 : Int32) (v2 : Int32) (v3 : Int32) (v4 : Int32) (M : xM), K_22 v1 v2 v3 v4 M = some res → ∀ (H : Heap) (locs : List Loc) (ls : Array Slot), xH Γ (wR Γ) 10 s M H locs → lv_has ls 6 [(0, .ref (Γ.2.1 0)), (1, .int v1), (2, .int v2), (3, .int v3), (4, .int v4)] → W p l e ({ frames := 3, cells := 0, slots := 0, locals := 85 } : Room) s m args below meth c H locs 0 0 (MQ below (xCd Γ (wR Γ) 10 res s.heap.size) args s 0 0 (xAd Γ 10 s.heap.size)) (F0 m 22 ls [])) : ∀ (v1 : Int32) (v2 : Int32) (v3 : Int32) (v4 : Int32) (t0 : Int32) (M : xM), L_X10_meanSteps_49 N K_22 v1 v2 v3 v4 t0 M = some res → ∀ (H : Heap) (locs : List Loc) (ls : Array Slot), xH Γ (wR Γ) 10 s M H locs → lv_has ls 6 [(0, .ref (Γ.2.1 0)), (1, .int v1), (2, .int v2), (3, .int v3), (4, .int v4)] → W p l e ({ frames := 3, cells := 0, slots := 0, locals := 85 } : Room) s m args below meth c H locs 0 0 (MQ below (xCd Γ (wR Γ) 10 res s.heap.size) args s 0 0 (xAd Γ 10 s.heap.size)) (F0 m 49 ls [.int t0]) := by
  obtain ⟨⟨hx, hb, hml, hown, hts⟩, hr, hlocks⟩ := id E
  intro v1 v2 v3 v4 t0 M hf H locs ls h hl
  refine lv_istore (lv' := [(5, .int t0), (0, .ref (Γ.2.1 0)), (1, .int v1), (2, .int v2), (3, .int v3), (4, .int v4)]) hx hb dX10_meanSteps_49 hl (by decide) rfl (fun ls hl => ?_)
  refine lv_iload_n hx hb dX10_meanSteps_51 rfl (lv_at hl 3 rfl) ?_
  refine lv_iload hx hb dX10_meanSteps_52 (lv_at hl 0 rfl) ?_
  refine lv_if_eq (tgt := 66) hx hb dX10_meanSteps_54 (by decide) (fun c1 => ?_) (fun c1 => ?_)
  · replace hf := xif_t hf c1
    refine lv_iconst (v := 0) hx hb dX10_meanSteps_66 (by decide) ?_
    exact w_X10_meanSteps_67 l E (hK_22) v1 v3 v4 t0 0 v2 M hf _ _ _ h (lv_sub hl [1, 2, 4, 5, 0] rfl)
  · replace hf := xif_f hf c1
    refine lv_aload_n hx hb dX10_meanSteps_57 rfl (lv_at hl 1 rfl) ?_
    refine lv_iload hx hb dX10_meanSteps_58 (lv_at hl 5 rfl) ?_
    obtain ⟨r2, er2, hf⟩ := xbd_s hf
    refine x_Vi (As := [.int v4]) (rest := [.int v2]) E.1 (m_X10_allIn l er2) (cwV 1 hts (xgV xU_sub q774 q775 q776 q5 q777) rfl rfl rfl hdX10_allIn ⟨Nat.le_of_ble_eq_true rfl, Nat.le_of_ble_eq_true rfl⟩) h kR_model rfl rfl hl.1 rfl (Nat.le_of_ble_eq_true rfl) dX10_meanSteps_60 ⟨Nat.le_of_ble_eq_true rfl, Nat.le_of_ble_eq_true rfl⟩ (fun H locs h => ?_)
    refine lv_goto (tgt := 67) hx hb dX10_meanSteps_63 (by decide) ?_
    exact w_X10_meanSteps_67 l E (hK_22) v1 v3 v4 t0 (r2.2) v2 r2.1 hf _ _ _ h (lv_sub hl [1, 2, 4, 5, 0] rfl)
set_option maxHeartbeats 4000000 in
set_option maxRecDepth 100000 in
theorem w_X10_meanSteps_22 (l : Launch) {p : Program} {e : Env} {s : State} {m : MethodId} {args : Array Value} {below : List Frame} {meth : Method} {c : Code} {Γ : xG} {N : Nat} {res : xR} (E : xEv p s m args meth c RX10 cX10_meanSteps 6 (some .double) (xWs yX10_meanSteps cX10_meanSteps 6 (some .double))) : ∀ (n : Nat) (v1 : Int32) (v2 : Int32) (v3 : Int32) (v4 : Int32) (M : xM), L_X10_meanSteps_22 N n v1 v2 v3 v4 M = some res → ∀ (H : Heap) (locs : List Loc) (ls : Array Slot), xH Γ (wR Γ) 10 s M H locs → lv_has ls 6 [(0, .ref (Γ.2.1 0)), (1, .int v1), (2, .int v2), (3, .int v3), (4, .int v4)] → W p l e ({ frames := 3, cells := 0, slots := 0, locals := 85 } : Room) s m args below meth c H locs 0 0 (MQ below (xCd Γ (wR Γ) 10 res s.heap.size) args s 0 0 (xAd Γ 10 s.heap.size)) (F0 m 22 ls []) := by
  obtain ⟨⟨hx, hb, hml, hown, hts⟩, hr, hlocks⟩ := id E
  intro n
  induction n with
  | zero => intro v1 v2 v3 v4 M hf; cases hf
  | succ n ih =>
    intro v1 v2 v3 v4 M hf H locs ls h hl
    refine lv_iload hx hb dX10_meanSteps_22 (lv_at hl 4 rfl) ?_
    refine lv_aload_n hx hb dX10_meanSteps_24 rfl (lv_at hl 0 rfl) ?_
    refine x_get (own := RX10) (ref := "TintDeskModel") (C := RX10) (T := TX10) (n := 20) (index := 9) (v := .ref (Γ.2.1 1)) hx hb hts (fun w h => xU_sub w (inU10 w h)) hown h kR_model rfl 1 (by decide) (hts _ (xU_sub _ q132)) (fun _ h9 => h9) rfl dX10_meanSteps_25 ?_
    refine lv_iconst (v := 3) hx hb dX10_meanSteps_28 (by decide) ?_
    refine x_iald hx hb h kR_g (xin_in (by decide)) dX10_meanSteps_29 ?_
    refine lv_icmp_ge (tgt := 88) hx hb dX10_meanSteps_30 (by decide) (fun c1 => ?_) (fun c1 => ?_)
    · replace hf := xif_t hf c1
      refine lv_iload_n hx hb dX10_meanSteps_88 rfl (lv_at hl 3 rfl) ?_
      refine lv_if_ne (tgt := 99) hx hb dX10_meanSteps_89 (by decide) (fun c2 => ?_) (fun c2 => ?_)
      · replace hf := xif_f hf c2
        refine lv_aload_n hx hb dX10_meanSteps_99 rfl (lv_at hl 0 rfl) ?_
        refine lv_iconst (v := 0) hx hb dX10_meanSteps_100 (by decide) ?_
        obtain ⟨M3, eM3, hf⟩ := xl_s hf
        refine x_put (own := RX10) (ref := "TintDeskModel") (C := RX10) (T := TX10) (n := 20) (index := 42) (ty := .int) hx hb hts (fun w h => xU_sub w (inU10 w h)) tyX10 tyX10_ok nmX10 hown h kR_model rfl 0 (by decide) (hts _ (xU_sub _ q212)) (fun _ h9 => h9) rfl (by decide +kernel) rfl rfl (Nat.le_of_ble_eq_true rfl) rfl eM3 dX10_meanSteps_101 (fun H locs h => ?_)
        refine lv_iload_n hx hb dX10_meanSteps_104 rfl (lv_at hl 2 rfl) ?_
        refine lv_i2d hx hb dX10_meanSteps_105 ?_
        refine lv_iload_n hx hb dX10_meanSteps_106 rfl (lv_at hl 3 rfl) ?_
        refine lv_i2d hx hb dX10_meanSteps_107 ?_
        obtain ⟨c4, hf⟩ := xck_s hf
        refine lv_ddiv hx hb dX10_meanSteps_108 (xnn_n c4) ?_
        exact x_dret hx hb h (wG_far (by decide)) (Option.some.inj hf) hr hlocks dX10_meanSteps_109
      · replace hf := xif_t hf c2
        refine lv_aload_n hx hb dX10_meanSteps_92 rfl (lv_at hl 0 rfl) ?_
        refine lv_iconst (v := 2) hx hb dX10_meanSteps_93 (by decide) ?_
        obtain ⟨M5, eM5, hf⟩ := xl_s hf
        refine x_put (own := RX10) (ref := "TintDeskModel") (C := RX10) (T := TX10) (n := 20) (index := 42) (ty := .int) hx hb hts (fun w h => xU_sub w (inU10 w h)) tyX10 tyX10_ok nmX10 hown h kR_model rfl 0 (by decide) (hts _ (xU_sub _ q212)) (fun _ h9 => h9) rfl (by decide +kernel) rfl rfl (Nat.le_of_ble_eq_true rfl) rfl eM5 dX10_meanSteps_94 (fun H locs h => ?_)
        refine lv_dconst0 hx hb dX10_meanSteps_97 ?_
        exact x_dret hx hb h (wG_far (by decide)) (Option.some.inj hf) hr hlocks dX10_meanSteps_98
    · replace hf := xif_f hf c1
      refine lv_aload_n hx hb dX10_meanSteps_33 rfl (lv_at hl 0 rfl) ?_
      refine lv_iload hx hb dX10_meanSteps_34 (lv_at hl 4 rfl) ?_
      refine lv_iconst (v := 0) hx hb dX10_meanSteps_36 (by decide) ?_
      obtain ⟨r6, er6, hf⟩ := xbd_s hf
      refine x_Vi (As := [.int v4, .int 0]) (rest := []) E.1 (m_X10_canAt l er6) (cwV 2 hts (xgV xU_sub q630 q631 q632 q5 q633) rfl rfl rfl hdX10_canAt ⟨Nat.le_of_ble_eq_true rfl, Nat.le_of_ble_eq_true rfl⟩) h kR_model rfl rfl hl.1 rfl (Nat.le_of_ble_eq_true rfl) dX10_meanSteps_37 ⟨Nat.le_of_ble_eq_true rfl, Nat.le_of_ble_eq_true rfl⟩ (fun H locs h => ?_)
      refine lv_iload_n hx hb dX10_meanSteps_40 rfl (lv_at hl 1 rfl) ?_
      refine lv_icmp_ne (tgt := 48) hx hb dX10_meanSteps_41 (by decide) (fun c7 => ?_) (fun c7 => ?_)
      · replace hf := xif_f hf c7
        refine lv_iconst (v := 0) hx hb dX10_meanSteps_48 (by decide) ?_
        exact w_X10_meanSteps_49 l E (ih) v1 v2 v3 v4 0 r6.1 hf _ _ _ h (lv_sub hl [0, 1, 2, 3, 4] rfl)
      · replace hf := xif_t hf c7
        refine lv_iconst (v := 1) hx hb dX10_meanSteps_44 (by decide) ?_
        refine lv_goto (tgt := 49) hx hb dX10_meanSteps_45 (by decide) ?_
        exact w_X10_meanSteps_49 l E (ih) v1 v2 v3 v4 1 r6.1 hf _ _ _ h (lv_sub hl [0, 1, 2, 3, 4] rfl)
set_option maxHeartbeats 4000000 in
set_option maxRecDepth 100000 in
theorem m_X10_meanSteps (l : Launch) {Γ : xG} {N : Nat} {v1 : Int32} {M : xM} {res : xR} (hf : F_X10_meanSteps N v1 M = some res) (sz : Nat) : Met l yX10_meanSteps (xWs yX10_meanSteps cX10_meanSteps 6 (some .double)) ({ frames := 3, cells := 0, slots := 0, locals := 85 } : Room) (va_Pc [.ref (Γ.2.1 0), .int v1] (xPre Γ (wR Γ) M sz)) (xCd Γ (wR Γ) 10 res sz) 0 0 (xAd Γ 10 sz) := by
  refine x_met (Qc := fun sz => xCd Γ (wR Γ) 10 res sz) pnX10 wG_W (Nat.le_of_ble_eq_true rfl) (fun p e s m args below meth c _ E h ls hl => ?_) sz
  obtain ⟨⟨hx, hb, hml, hown, hts⟩, hr, hlocks⟩ := id E
  have hl : lv_has ls 6 [(0, .ref (Γ.2.1 0)), (1, .int v1)] := hl
  refine lv_aload_n hx hb dX10_meanSteps_0 rfl (lv_at hl 0 rfl) ?_
  refine lv_iload_n hx hb dX10_meanSteps_1 rfl (lv_at hl 1 rfl) ?_
  obtain ⟨r1, er1, hf⟩ := xbd_s hf
  refine x_Vi (As := [.int v1]) (rest := []) E.1 (m_X10_isFormula l er1) (cwV 1 hts (xgV xU_sub q569 q570 q571 q5 q572) rfl rfl rfl hdX10_isFormula ⟨Nat.le_of_ble_eq_true rfl, Nat.le_of_ble_eq_true rfl⟩) h kR_model rfl rfl hl.1 rfl (Nat.le_of_ble_eq_true rfl) dX10_meanSteps_2 ⟨Nat.le_of_ble_eq_true rfl, Nat.le_of_ble_eq_true rfl⟩ (fun H locs h => ?_)
  refine lv_if_ne (tgt := 15) hx hb dX10_meanSteps_5 (by decide) (fun c2 => ?_) (fun c2 => ?_)
  · replace hf := xif_f hf c2
    refine lv_iconst (v := 0) hx hb dX10_meanSteps_15 (by decide) ?_
    refine lv_istore_n (lv' := [(2, .int 0), (0, .ref (Γ.2.1 0)), (1, .int v1)]) hx hb dX10_meanSteps_16 rfl hl (by decide) rfl (fun ls hl => ?_)
    refine lv_iconst (v := 0) hx hb dX10_meanSteps_17 (by decide) ?_
    refine lv_istore_n (lv' := [(3, .int 0), (2, .int 0), (0, .ref (Γ.2.1 0)), (1, .int v1)]) hx hb dX10_meanSteps_18 rfl hl (by decide) rfl (fun ls hl => ?_)
    refine lv_iconst (v := 0) hx hb dX10_meanSteps_19 (by decide) ?_
    refine lv_istore (lv' := [(4, .int 0), (3, .int 0), (2, .int 0), (0, .ref (Γ.2.1 0)), (1, .int v1)]) hx hb dX10_meanSteps_20 hl (by decide) rfl (fun ls hl => ?_)
    exact w_X10_meanSteps_22 l E N v1 0 0 0 r1.1 hf _ _ _ h (lv_sub hl [3, 4, 2, 1, 0] rfl)
  · replace hf := xif_t hf c2
    refine lv_aload_n hx hb dX10_meanSteps_8 rfl (lv_at hl 0 rfl) ?_
    refine lv_iconst (v := 1) hx hb dX10_meanSteps_9 (by decide) ?_
    obtain ⟨M3, eM3, hf⟩ := xl_s hf
    refine x_put (own := RX10) (ref := "TintDeskModel") (C := RX10) (T := TX10) (n := 20) (index := 42) (ty := .int) hx hb hts (fun w h => xU_sub w (inU10 w h)) tyX10 tyX10_ok nmX10 hown h kR_model rfl 0 (by decide) (hts _ (xU_sub _ q212)) (fun _ h9 => h9) rfl (by decide +kernel) rfl rfl (Nat.le_of_ble_eq_true rfl) rfl eM3 dX10_meanSteps_10 (fun H locs h => ?_)
    refine lv_dconst0 hx hb dX10_meanSteps_13 ?_
    exact x_dret hx hb h (wG_far (by decide)) (Option.some.inj hf) hr hlocks dX10_meanSteps_14
theorem hdX9_meanSteps : yX9_meanSteps.cls = RX9 ∧ yX9_meanSteps.cls ≠ "java/lang/invoke/MethodHandle" ∧ yX9_meanSteps.cls ≠ "java/lang/invoke/VarHandle" ∧ (parseMethodDescriptor yX9_meanSteps.desc).map (fun d => d.parameters.length) = some 1 := by decide +kernel
set_option maxHeartbeats 4000000 in
set_option maxRecDepth 100000 in
theorem m_X9_meanSteps (l : Launch) {Γ : xG} {N : Nat} {v1 : Int32} {M : xM} {res : xE} (hlt : l.stackTraces = false) (hf : F_X9_meanSteps N v1 M = some res) (sz : Nat) : vx_Met l yX9_meanSteps (xWs yX9_meanSteps cX9_meanSteps 3 (some .double)) ({ frames := 7, cells := 2, slots := 12, locals := 141 } : Room) (va_Pc [.ref (Γ.2.1 1470), .int v1] (xPreZ Γ (wX Γ) 1483 M sz)) (xXd Γ (wX Γ) 1483 res sz) (xXX Γ (wX Γ) 1483 res sz) 2 12 (xAd Γ 1483 sz) := by
  refine x_Xmet (Qc := fun sz => xXd Γ (wX Γ) 1483 res sz) (XC := fun sz => xXX Γ (wX Γ) 1483 res sz) pnX9 wG_W (Nat.le_of_ble_eq_true rfl) (fun p e s m args below meth c E hex hz h ls hl => ?_) sz
  obtain ⟨⟨hx, hb, hml, hown, hts⟩, hr, hlocks⟩ := id E
  have hl : lv_has ls 3 [(0, .ref (Γ.2.1 1470)), (1, .int v1)] := hl
  refine lv_aload_n hx hb dX9_meanSteps_0 rfl (lv_at hl 0 rfl) ?_
  refine lv_iload_n hx hb dX9_meanSteps_1 rfl (lv_at hl 1 rfl) ?_
  obtain ⟨r1, er1, hf⟩ := xbd_s hf
  refine x_XVv (As := [.int v1]) (rest := []) E.1 (m_X9_requireFormula l hlt er1) (cwV 1 hts (xgV xU_sub q560 q561 q562 q2 q563) rfl rfl rfl hdX9_requireFormula ⟨Nat.le_of_ble_eq_true rfl, Nat.le_of_ble_eq_true rfl⟩) h hz kX_tint rfl rfl hl.1 rfl (Nat.le_of_ble_eq_true rfl) dX9_meanSteps_2 ⟨Nat.le_of_ble_eq_true rfl, Nat.le_of_ble_eq_true rfl⟩ (fun Ex M9 hv9 H locs q9 ce9 h hq9 hc9 hn9 => ?_) (fun M2 hvy3 H locs h => ?_)
  · subst hv9
    refine vx_widen (k := 2) (n := 12) (Nat.le_of_ble_eq_true rfl) (Nat.le_of_ble_eq_true rfl) ?_
    exact x_Xout h (Option.some.inj hf) hex hlocks hq9 hc9 hn9
  · subst hvy3
    replace hf := xth_l hf
    refine lv_aload_n hx hb dX9_meanSteps_5 rfl (lv_at hl 0 rfl) ?_
    refine x_get (own := RX9) (ref := "TintDesk") (C := RX9) (T := TX9) (n := 10) (index := 12) (v := .ref (Γ.2.1 0)) hx hb hts (fun w h => xU_sub w (inU9 w h)) hown h kX_tint rfl 0 (by decide) (hts _ (xU_sub _ q16)) (fun _ h9 => h9) rfl dX9_meanSteps_6 ?_
    refine lv_iload_n hx hb dX9_meanSteps_9 rfl (lv_at hl 1 rfl) ?_
    obtain ⟨r4, er4, hf⟩ := xbd_s hf
    refine x_Vi (As := [.int v1]) (rest := []) E.1 (m_X3_countCansOfFormula l isDk_0 er4) (cwV 1 hts (xgV xU_sub q987 q988 q989 q15 q990) rfl rfl rfl hdX3_countCansOfFormula ⟨Nat.le_of_ble_eq_true rfl, Nat.le_of_ble_eq_true rfl⟩) h (kX_desk isDk_0) rfl rfl hl.1 rfl (Nat.le_of_ble_eq_true rfl) dX9_meanSteps_10 ⟨Nat.le_of_ble_eq_true rfl, Nat.le_of_ble_eq_true rfl⟩ (fun H locs h => ?_)
    obtain ⟨y5, ey5, hf⟩ := xl_s hf
    refine x_nm ey5 ?_
    refine lv_istore_n (lv' := [(2, .int y5), (0, .ref (Γ.2.1 1470)), (1, .int v1)]) hx hb dX9_meanSteps_13 rfl hl (by decide) rfl (fun ls hl => ?_)
    refine lv_iload_n hx hb dX9_meanSteps_14 rfl (lv_at hl 0 rfl) ?_
    refine lv_if_ne (tgt := 29) hx hb dX9_meanSteps_15 (by decide) (fun c6 => ?_) (fun c6 => ?_)
    · replace hf := xif_f hf c6
      refine lv_aload_n hx hb dX9_meanSteps_29 rfl (lv_at hl 1 rfl) ?_
      refine x_get (own := RX9) (ref := "TintDesk") (C := RX9) (T := TX9) (n := 10) (index := 12) (v := .ref (Γ.2.1 0)) hx hb hts (fun w h => xU_sub w (inU9 w h)) hown h kX_tint rfl 0 (by decide) (hts _ (xU_sub _ q16)) (fun _ h9 => h9) rfl dX9_meanSteps_30 ?_
      refine lv_iload_n hx hb dX9_meanSteps_33 rfl (lv_at hl 2 rfl) ?_
      obtain ⟨r7, er7, hf⟩ := xbd_s hf
      refine x_Vi (As := [.int v1]) (rest := []) E.1 (m_X3_stepsInCansOfFormula l isDk_0 er7) (cwV 1 hts (xgV xU_sub q991 q992 q993 q15 q994) rfl rfl rfl hdX3_stepsInCansOfFormula ⟨Nat.le_of_ble_eq_true rfl, Nat.le_of_ble_eq_true rfl⟩) h (kX_desk isDk_0) rfl rfl hl.1 rfl (Nat.le_of_ble_eq_true rfl) dX9_meanSteps_34 ⟨Nat.le_of_ble_eq_true rfl, Nat.le_of_ble_eq_true rfl⟩ (fun H locs h => ?_)
      refine lv_i2d hx hb dX9_meanSteps_37 ?_
      refine lv_iload_n hx hb dX9_meanSteps_38 rfl (lv_at hl 0 rfl) ?_
      refine lv_i2d hx hb dX9_meanSteps_39 ?_
      obtain ⟨c8, hf⟩ := xck_s hf
      refine lv_ddiv hx hb dX9_meanSteps_40 (xnn_n c8) ?_
      refine W.widen (k := 2) (n := 12) (Nat.le_of_ble_eq_true rfl) (Nat.le_of_ble_eq_true rfl) ?_
      exact x_Xdret hx hb h (wG_far (by decide)) (Option.some.inj hf) hr hlocks dX9_meanSteps_41
    · replace hf := xif_t hf c6
      exact x_throwW (ik := 306) (is := 308) (ic := 310) (text := "no can of it was mixed") hx hb hlt hown ft_ArithmeticException (hts _ (xU_sub _ q985)) (hts _ (xU_sub _ q986)) hts xU_sub at_ArithmeticException gd_ArithmeticException hz h (Option.some.inj hf) hl.1 hml dX9_meanSteps_18 dX9_meanSteps_21 dX9_meanSteps_22 dX9_meanSteps_25 dX9_meanSteps_28 hex hlocks (by decide +kernel) (by decide) (by decide) (by decide) (by decide)
theorem hdL_meanSteps : yL_meanSteps.cls ≠ "java/lang/invoke/MethodHandle" ∧ yL_meanSteps.cls ≠ "java/lang/invoke/VarHandle" ∧ (parseMethodDescriptor yL_meanSteps.desc).map (fun d => d.parameters.length) = some 3 := by decide +kernel
set_option maxHeartbeats 4000000 in
set_option maxRecDepth 100000 in
theorem m_L_meanSteps (l : Launch) {Γ : xG} {N : Nat} {v1 : Int32} {M : xM} {res : xR} (hlt : l.stackTraces = false) (hf : F_L_meanSteps N v1 M = some res) (sz : Nat) : Met l yL_meanSteps (xWh yL_meanSteps cL_meanSteps 4 (some .int) [(0, 8, 11, 21), (0, 8, 14, 123)]) ({ frames := 8, cells := 2, slots := 12, locals := 163 } : Room) (va_Pc [.ref (Γ.2.1 1470), .int v1, .ref (Γ.2.1 1482)] (xPreL Γ (wX Γ) 1483 M sz)) (xCi Γ (wX Γ) 1483 res sz) 2 12 (xAd Γ 1483 sz) := by
  refine x_Lmet (Qc := fun sz => xCi Γ (wX Γ) 1483 res sz) pnL wG_W (Nat.le_of_ble_eq_true rfl) (fun p e s m args below meth c E htab hz hnc h ls hl => ?_) sz
  obtain ⟨⟨hx, hb, hml, hown, hts⟩, hr, hlocks⟩ := id E
  have hl : lv_has ls 4 [(0, .ref (Γ.2.1 1470)), (1, .int v1), (2, .ref (Γ.2.1 1482))] := hl
  refine lv_aload_n hx hb dL_meanSteps_0 rfl (lv_at hl 2 rfl) ?_
  refine lv_iconst (v := 0) hx hb dL_meanSteps_1 (by decide) ?_
  refine lv_aload_n hx hb dL_meanSteps_2 rfl (lv_at hl 0 rfl) ?_
  refine lv_iload_n hx hb dL_meanSteps_3 rfl (lv_at hl 1 rfl) ?_
  obtain ⟨r1, er1, hf⟩ := xbd_s hf
  refine x_XVd (As := [.int v1]) (rest := [.int 0, .ref (Γ.2.1 1482)]) E.1 (m_X9_meanSteps l hlt er1) (cwV 1 hts (xgV xWh_sub q981 q982 q983 q2 q984) rfl rfl rfl hdX9_meanSteps ⟨Nat.le_of_ble_eq_true rfl, Nat.le_of_ble_eq_true rfl⟩) h hz kX_tint rfl rfl hl.1 rfl (Nat.le_of_ble_eq_true rfl) dL_meanSteps_4 ⟨Nat.le_of_ble_eq_true rfl, Nat.le_of_ble_eq_true rfl⟩ (fun Ex M9 hv9 H locs q9 ce9 h hq9 hc9 hn9 => ?_) (fun M2 hv9 H locs h => ?_)
  · subst hv9
    replace hf := xthL_r hf
    by_cases c4 : Ex = "java/lang/IndexOutOfBoundsException"
    · subst c4
      replace hf := xif_t hf rfl
      refine vx_catch (E := "java/lang/IndexOutOfBoundsException") (name := "java/lang/IndexOutOfBoundsException") hown [] ⟨0, 8, 11, 21⟩ [⟨0, 8, 14, 123⟩] htab (fun z hz => absurd hz List.not_mem_nil) (by decide) (by decide) (hts _ (xWh_sub _ q232)) (va_Nw.use rfl (hz.2.2.1 _ (by decide +kernel))) hq9 hc9 hn9 ?_
      refine lv_astore_n (lv' := [(3, .ref q9), (0, .ref (Γ.2.1 1470)), (1, .int v1), (2, .ref (Γ.2.1 1482))]) hx hb dL_meanSteps_11 rfl hl (by decide) rfl (fun ls hl => ?_)
      refine lv_iconst (v := 1) hx hb dL_meanSteps_12 (by decide) ?_
      exact x_iret hx hb h (Option.some.inj hf) hr hlocks dL_meanSteps_13
    replace hf := xif_f hf c4
    by_cases c5 : Ex = "java/lang/ArithmeticException"
    · subst c5
      replace hf := xif_t hf rfl
      have hp9 : ∀ z ∈ ([⟨0, 8, 11, 21⟩] : List ExceptionTableEntry), covers z 4 = false ∨ (z.catchType ≠ 0 ∧ ∃ nm : String, (Cond.classLink RL z.catchType nm).before args s = true ∧ va_Nc "java/lang/ArithmeticException" nm s) := by
        intro z hz
        simp only [List.mem_cons, List.not_mem_nil, or_false] at hz
        rcases hz with rfl
        · exact Or.inr ⟨by decide, "java/lang/IndexOutOfBoundsException", hts _ (xWh_sub _ q232), hnc _ (by decide +kernel) _ (by decide +kernel) (by decide)⟩
      refine vx_catch (E := "java/lang/ArithmeticException") (name := "java/lang/ArithmeticException") hown [⟨0, 8, 11, 21⟩] ⟨0, 8, 14, 123⟩ [] htab hp9 (by decide) (by decide) (hts _ (xWh_sub _ q980)) (va_Nw.use rfl (hz.2.2.1 _ (by decide +kernel))) hq9 hc9 hn9 ?_
      refine lv_astore_n (lv' := [(3, .ref q9), (0, .ref (Γ.2.1 1470)), (1, .int v1), (2, .ref (Γ.2.1 1482))]) hx hb dL_meanSteps_14 rfl hl (by decide) rfl (fun ls hl => ?_)
      refine lv_iconst (v := 2) hx hb dL_meanSteps_15 (by decide) ?_
      exact x_iret hx hb h (Option.some.inj hf) hr hlocks dL_meanSteps_16
    replace hf := xif_f hf c5
    cases hf
  · subst hv9
    replace hf := xthL_l hf
    obtain ⟨M6, eM6, hf⟩ := xl_s hf
    refine x_dast hx hb h kX_outD (xin_in (by decide)) eM6 dL_meanSteps_7 (fun H locs h => ?_)
    refine lv_goto (tgt := 17) hx hb dL_meanSteps_8 (by decide) ?_
    refine lv_iconst (v := 0) hx hb dL_meanSteps_17 (by decide) ?_
    exact x_iret hx hb h (Option.some.inj hf) hr hlocks dL_meanSteps_18
