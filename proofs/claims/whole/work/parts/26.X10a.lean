theorem hdX10_thrown : yX10_thrown.cls = RX10 ∧ yX10_thrown.cls ≠ "java/lang/invoke/MethodHandle" ∧ yX10_thrown.cls ≠ "java/lang/invoke/VarHandle" ∧ (parseMethodDescriptor yX10_thrown.desc).map (fun d => d.parameters.length) = some 0 := by decide +kernel
set_option maxHeartbeats 4000000 in
set_option maxRecDepth 100000 in
theorem m_X10_thrown (l : Launch) {Γ : xG} {N : Nat} {M : xM} {res : xR} (hf : F_X10_thrown N M = some res) (sz : Nat) : Met l yX10_thrown (xWs yX10_thrown cX10_thrown 1 (some .int)) ({ frames := 1, cells := 0, slots := 0, locals := 40 } : Room) (va_Pc [.ref (Γ.2.1 0)] (xPre Γ (wR Γ) M sz)) (xCi Γ (wR Γ) 10 res sz) 0 0 (xAd Γ 10 sz) := by
  refine x_met (Qc := fun sz => xCi Γ (wR Γ) 10 res sz) pnX10 wG_W (Nat.le_of_ble_eq_true rfl) (fun p e s m args below meth c _ E h ls hl => ?_) sz
  obtain ⟨⟨hx, hb, hml, hown, hts⟩, hr, hlocks⟩ := id E
  have hl : lv_has ls 1 [(0, .ref (Γ.2.1 0))] := hl
  refine lv_aload_n hx hb dX10_thrown_0 rfl (lv_at hl 0 rfl) ?_
  refine x_get (own := RX10) (ref := "TintDeskModel") (C := RX10) (T := TX10) (n := 20) (index := 42) (v := .int (M.1 0 0)) hx hb hts (fun w h => xU_sub w (inU10 w h)) hown h kR_model rfl 0 (by decide) (hts _ (xU_sub _ q212)) (fun _ h9 => h9) rfl dX10_thrown_1 ?_
  exact x_iret hx hb h (Option.some.inj hf) hr hlocks dX10_thrown_4
theorem hdX10_in : yX10_in.cls = RX10 ∧ yX10_in.cls ≠ "java/lang/invoke/MethodHandle" ∧ yX10_in.cls ≠ "java/lang/invoke/VarHandle" ∧ (parseMethodDescriptor yX10_in.desc).map (fun d => d.parameters.length) = some 3 := by decide +kernel
set_option maxHeartbeats 4000000 in
set_option maxRecDepth 100000 in
theorem m_X10_in (l : Launch) {Γ : xG} {N : Nat} {v0 : Int32} {v1 : Int32} {v2 : Int32} {M : xM} {res : xR} (hf : F_X10_in N v0 v1 v2 M = some res) (sz : Nat) : Met l yX10_in (xWs yX10_in cX10_in 3 (some .boolean)) ({ frames := 1, cells := 0, slots := 0, locals := 40 } : Room) (va_Pc [.int v0, .int v1, .int v2] (xPre Γ (wR Γ) M sz)) (xCi Γ (wR Γ) 10 res sz) 0 0 (xAd Γ 10 sz) := by
  refine x_met (Qc := fun sz => xCi Γ (wR Γ) 10 res sz) pnX10 wG_W (Nat.le_of_ble_eq_true rfl) (fun p e s m args below meth c _ E h ls hl => ?_) sz
  obtain ⟨⟨hx, hb, hml, hown, hts⟩, hr, hlocks⟩ := id E
  have hl : lv_has ls 3 [(0, .int v0), (1, .int v1), (2, .int v2)] := hl
  refine lv_iload_n hx hb dX10_in_0 rfl (lv_at hl 0 rfl) ?_
  refine lv_iload_n hx hb dX10_in_1 rfl (lv_at hl 1 rfl) ?_
  refine lv_icmp_lt (tgt := 14) hx hb dX10_in_2 (by decide) (fun c1 => ?_) (fun c1 => ?_)
  · replace hf := xif_t hf c1
    refine lv_iconst (v := 0) hx hb dX10_in_14 (by decide) ?_
    exact x_zret hx hb h (Option.some.inj hf) hr hlocks (by decide) dX10_in_15
  · replace hf := xif_f hf c1
    refine lv_iload_n hx hb dX10_in_5 rfl (lv_at hl 0 rfl) ?_
    refine lv_iload_n hx hb dX10_in_6 rfl (lv_at hl 2 rfl) ?_
    refine lv_icmp_gt (tgt := 14) hx hb dX10_in_7 (by decide) (fun c2 => ?_) (fun c2 => ?_)
    · replace hf := xif_t hf c2
      refine lv_iconst (v := 0) hx hb dX10_in_14 (by decide) ?_
      exact x_zret hx hb h (Option.some.inj hf) hr hlocks (by decide) dX10_in_15
    · replace hf := xif_f hf c2
      refine lv_iconst (v := 1) hx hb dX10_in_10 (by decide) ?_
      refine lv_goto (tgt := 15) hx hb dX10_in_11 (by decide) ?_
      exact x_zret hx hb h (Option.some.inj hf) hr hlocks (by decide) dX10_in_15
theorem hdX10_fails : yX10_fails.cls = RX10 ∧ yX10_fails.cls ≠ "java/lang/invoke/MethodHandle" ∧ yX10_fails.cls ≠ "java/lang/invoke/VarHandle" ∧ (parseMethodDescriptor yX10_fails.desc).map (fun d => d.parameters.length) = some 1 := by decide +kernel
set_option maxHeartbeats 4000000 in
set_option maxRecDepth 100000 in
theorem m_X10_fails (l : Launch) {Γ : xG} {N : Nat} {v1 : Int32} {M : xM} {res : xR} (hf : F_X10_fails N v1 M = some res) (sz : Nat) : Met l yX10_fails (xWs yX10_fails cX10_fails 2 (some .int)) ({ frames := 1, cells := 0, slots := 0, locals := 40 } : Room) (va_Pc [.ref (Γ.2.1 0), .int v1] (xPre Γ (wR Γ) M sz)) (xCi Γ (wR Γ) 10 res sz) 0 0 (xAd Γ 10 sz) := by
  refine x_met (Qc := fun sz => xCi Γ (wR Γ) 10 res sz) pnX10 wG_W (Nat.le_of_ble_eq_true rfl) (fun p e s m args below meth c _ E h ls hl => ?_) sz
  obtain ⟨⟨hx, hb, hml, hown, hts⟩, hr, hlocks⟩ := id E
  have hl : lv_has ls 2 [(0, .ref (Γ.2.1 0)), (1, .int v1)] := hl
  refine lv_aload_n hx hb dX10_fails_0 rfl (lv_at hl 0 rfl) ?_
  refine lv_iload_n hx hb dX10_fails_1 rfl (lv_at hl 1 rfl) ?_
  obtain ⟨M1, eM1, hf⟩ := xl_s hf
  refine x_put (own := RX10) (ref := "TintDeskModel") (C := RX10) (T := TX10) (n := 20) (index := 42) (ty := .int) hx hb hts (fun w h => xU_sub w (inU10 w h)) tyX10 tyX10_ok nmX10 hown h kR_model rfl 0 (by decide) (hts _ (xU_sub _ q212)) (fun _ h9 => h9) rfl (by decide +kernel) rfl rfl (Nat.le_of_ble_eq_true rfl) rfl eM1 dX10_fails_2 (fun H locs h => ?_)
  refine lv_iconst (v := 0) hx hb dX10_fails_5 (by decide) ?_
  exact x_iret hx hb h (Option.some.inj hf) hr hlocks dX10_fails_6
theorem hdX10_done : yX10_done.cls = RX10 ∧ yX10_done.cls ≠ "java/lang/invoke/MethodHandle" ∧ yX10_done.cls ≠ "java/lang/invoke/VarHandle" ∧ (parseMethodDescriptor yX10_done.desc).map (fun d => d.parameters.length) = some 1 := by decide +kernel
set_option maxHeartbeats 4000000 in
set_option maxRecDepth 100000 in
theorem m_X10_done (l : Launch) {Γ : xG} {N : Nat} {v1 : Int32} {M : xM} {res : xR} (hf : F_X10_done N v1 M = some res) (sz : Nat) : Met l yX10_done (xWs yX10_done cX10_done 2 (some .int)) ({ frames := 1, cells := 0, slots := 0, locals := 40 } : Room) (va_Pc [.ref (Γ.2.1 0), .int v1] (xPre Γ (wR Γ) M sz)) (xCi Γ (wR Γ) 10 res sz) 0 0 (xAd Γ 10 sz) := by
  refine x_met (Qc := fun sz => xCi Γ (wR Γ) 10 res sz) pnX10 wG_W (Nat.le_of_ble_eq_true rfl) (fun p e s m args below meth c _ E h ls hl => ?_) sz
  obtain ⟨⟨hx, hb, hml, hown, hts⟩, hr, hlocks⟩ := id E
  have hl : lv_has ls 2 [(0, .ref (Γ.2.1 0)), (1, .int v1)] := hl
  refine lv_aload_n hx hb dX10_done_0 rfl (lv_at hl 0 rfl) ?_
  refine lv_iconst (v := 0) hx hb dX10_done_1 (by decide) ?_
  obtain ⟨M1, eM1, hf⟩ := xl_s hf
  refine x_put (own := RX10) (ref := "TintDeskModel") (C := RX10) (T := TX10) (n := 20) (index := 42) (ty := .int) hx hb hts (fun w h => xU_sub w (inU10 w h)) tyX10 tyX10_ok nmX10 hown h kR_model rfl 0 (by decide) (hts _ (xU_sub _ q212)) (fun _ h9 => h9) rfl (by decide +kernel) rfl rfl (Nat.le_of_ble_eq_true rfl) rfl eM1 dX10_done_2 (fun H locs h => ?_)
  refine lv_iload_n hx hb dX10_done_5 rfl (lv_at hl 1 rfl) ?_
  exact x_iret hx hb h (Option.some.inj hf) hr hlocks dX10_done_6
theorem hdX10_refuses : yX10_refuses.cls = RX10 ∧ yX10_refuses.cls ≠ "java/lang/invoke/MethodHandle" ∧ yX10_refuses.cls ≠ "java/lang/invoke/VarHandle" ∧ (parseMethodDescriptor yX10_refuses.desc).map (fun d => d.parameters.length) = some 2 := by decide +kernel
set_option maxHeartbeats 4000000 in
set_option maxRecDepth 100000 in
theorem m_X10_refuses (l : Launch) {Γ : xG} {N : Nat} {v1 : Int32} {v2 : Int32} {M : xM} {res : xR} (hf : F_X10_refuses N v1 v2 M = some res) (sz : Nat) : Met l yX10_refuses (xWs yX10_refuses cX10_refuses 3 (some .int)) ({ frames := 2, cells := 0, slots := 0, locals := 61 } : Room) (va_Pc [.ref (Γ.2.1 0), .int v1, .int v2] (xPre Γ (wR Γ) M sz)) (xCi Γ (wR Γ) 10 res sz) 0 0 (xAd Γ 10 sz) := by
  refine x_met (Qc := fun sz => xCi Γ (wR Γ) 10 res sz) pnX10 wG_W (Nat.le_of_ble_eq_true rfl) (fun p e s m args below meth c _ E h ls hl => ?_) sz
  obtain ⟨⟨hx, hb, hml, hown, hts⟩, hr, hlocks⟩ := id E
  have hl : lv_has ls 3 [(0, .ref (Γ.2.1 0)), (1, .int v1), (2, .int v2)] := hl
  refine lv_aload_n hx hb dX10_refuses_0 rfl (lv_at hl 0 rfl) ?_
  refine lv_iload_n hx hb dX10_refuses_1 rfl (lv_at hl 1 rfl) ?_
  obtain ⟨M1, eM1, hf⟩ := xl_s hf
  refine x_put (own := RX10) (ref := "TintDeskModel") (C := RX10) (T := TX10) (n := 20) (index := 45) (ty := .int) hx hb hts (fun w h => xU_sub w (inU10 w h)) tyX10 tyX10_ok nmX10 hown h kR_model rfl 7 (by decide) (hts _ (xU_sub _ q292)) (fun _ h9 => h9) rfl (by decide +kernel) rfl rfl (Nat.le_of_ble_eq_true rfl) rfl eM1 dX10_refuses_2 (fun H locs h => ?_)
  refine lv_aload_n hx hb dX10_refuses_5 rfl (lv_at hl 0 rfl) ?_
  refine lv_iload_n hx hb dX10_refuses_6 rfl (lv_at hl 2 rfl) ?_
  obtain ⟨r2, er2, hf⟩ := xbd_s hf
  refine x_Vi (As := [.int v2]) (rest := []) E.1 (m_X10_fails l er2) (cwV 1 hts (xgV xU_sub q208 q209 q210 q5 q211) rfl rfl rfl hdX10_fails ⟨Nat.le_of_ble_eq_true rfl, Nat.le_of_ble_eq_true rfl⟩) h kR_model rfl rfl hl.1 rfl (Nat.le_of_ble_eq_true rfl) dX10_refuses_7 ⟨Nat.le_of_ble_eq_true rfl, Nat.le_of_ble_eq_true rfl⟩ (fun H locs h => ?_)
  exact x_iret hx hb h (Option.some.inj hf) hr hlocks dX10_refuses_10
theorem hdX10_copy : yX10_copy.cls = RX10 ∧ yX10_copy.cls ≠ "java/lang/invoke/MethodHandle" ∧ yX10_copy.cls ≠ "java/lang/invoke/VarHandle" ∧ (parseMethodDescriptor yX10_copy.desc).map (fun d => d.parameters.length) = some 4 := by decide +kernel
set_option maxHeartbeats 4000000 in
set_option maxRecDepth 100000 in
theorem w_X10_copy_3 (l : Launch) {p : Program} {e : Env} {s : State} {m : MethodId} {args : Array Value} {below : List Frame} {meth : Method} {c : Code} {Γ : xG} {N : Nat} {k0 n0 : Nat} {k2 n2 : Nat} {res : xR} (E : xEv p s m args meth c RX10 cX10_copy 5 none (xWs yX10_copy cX10_copy 5 none)) (h0 : xI Γ (wR Γ) k0 n0) (h2 : xI Γ (wR Γ) k2 n2) : ∀ (n : Nat) (v1 : Int32) (v3 : Int32) (v4 : Int32) (M : xM), L_X10_copy_3 N k0 n0 k2 n2 n v1 v3 v4 M = some res → ∀ (H : Heap) (locs : List Loc) (ls : Array Slot), xH Γ (wR Γ) 10 s M H locs → lv_has ls 5 [(0, .ref (Γ.2.1 k0)), (1, .int v1), (2, .ref (Γ.2.1 k2)), (3, .int v3), (4, .int v4)] → W p l e ({ frames := 1, cells := 0, slots := 0, locals := 40 } : Room) s m args below meth c H locs 0 0 (MQ below (xCv Γ (wR Γ) 10 res s.heap.size) args s 0 0 (xAd Γ 10 s.heap.size)) (F0 m 3 ls []) := by
  obtain ⟨⟨hx, hb, hml, hown, hts⟩, hr, hlocks⟩ := id E
  intro n
  induction n with
  | zero => intro v1 v3 v4 M hf; cases hf
  | succ n ih =>
    intro v1 v3 v4 M hf H locs ls h hl
    refine lv_iload hx hb dX10_copy_3 (lv_at hl 4 rfl) ?_
    refine lv_sipush (v := 1460) hx hb dX10_copy_5 (by decide) ?_
    refine lv_icmp_ge (tgt := 29) hx hb dX10_copy_8 (by decide) (fun c1 => ?_) (fun c1 => ?_)
    · replace hf := xif_t hf c1
      exact x_vret hx hb h (Option.some.inj hf) hr hlocks dX10_copy_29
    · replace hf := xif_f hf c1
      refine lv_aload_n hx hb dX10_copy_11 rfl (lv_at hl 2 rfl) ?_
      refine lv_iload_n hx hb dX10_copy_12 rfl (lv_at hl 3 rfl) ?_
      refine lv_iload hx hb dX10_copy_13 (lv_at hl 4 rfl) ?_
      refine lv_iadd hx hb dX10_copy_15 ?_
      refine lv_aload_n hx hb dX10_copy_16 rfl (lv_at hl 0 rfl) ?_
      refine lv_iload_n hx hb dX10_copy_17 rfl (lv_at hl 1 rfl) ?_
      refine lv_iload hx hb dX10_copy_18 (lv_at hl 4 rfl) ?_
      refine lv_iadd hx hb dX10_copy_20 ?_
      obtain ⟨c2, hf⟩ := xck_s hf
      refine x_iald hx hb h h0 (xin_in c2) dX10_copy_21 ?_
      obtain ⟨c3, hf⟩ := xck_s hf
      obtain ⟨M4, eM4, hf⟩ := xl_s hf
      refine x_iast hx hb h h2 (xin_in c3) eM4 dX10_copy_22 (fun H locs h => ?_)
      obtain ⟨y5, ey5, hf⟩ := xl_s hf
      refine lv_iinc (v := y5) (lv' := [(4, .int y5), (0, .ref (Γ.2.1 k0)), (1, .int v1), (2, .ref (Γ.2.1 k2)), (3, .int v3)]) hx hb dX10_copy_23 hl (k := 4) rfl (by rw [ey5]; rfl) (by decide) rfl (fun ls hl => ?_)
      refine lv_goto (tgt := 3) hx hb dX10_copy_26 (by decide) ?_
      exact ih v1 v3 y5 M4 hf _ _ _ h (lv_sub hl [1, 2, 3, 4, 0] rfl)
set_option maxHeartbeats 4000000 in
set_option maxRecDepth 100000 in
theorem m_X10_copy (l : Launch) {Γ : xG} {N : Nat} {k0 n0 : Nat} {k2 n2 : Nat} (h0 : xI Γ (wR Γ) k0 n0) (h2 : xI Γ (wR Γ) k2 n2) {v1 : Int32} {v3 : Int32} {M : xM} {res : xR} (hf : F_X10_copy N k0 n0 k2 n2 v1 v3 M = some res) (sz : Nat) : Met l yX10_copy (xWs yX10_copy cX10_copy 5 none) ({ frames := 1, cells := 0, slots := 0, locals := 40 } : Room) (va_Pc [.ref (Γ.2.1 k0), .int v1, .ref (Γ.2.1 k2), .int v3] (xPre Γ (wR Γ) M sz)) (xCv Γ (wR Γ) 10 res sz) 0 0 (xAd Γ 10 sz) := by
  refine x_met (Qc := fun sz => xCv Γ (wR Γ) 10 res sz) pnX10 wG_W (Nat.le_of_ble_eq_true rfl) (fun p e s m args below meth c _ E h ls hl => ?_) sz
  obtain ⟨⟨hx, hb, hml, hown, hts⟩, hr, hlocks⟩ := id E
  have hl : lv_has ls 5 [(0, .ref (Γ.2.1 k0)), (1, .int v1), (2, .ref (Γ.2.1 k2)), (3, .int v3)] := hl
  refine lv_iconst (v := 0) hx hb dX10_copy_0 (by decide) ?_
  refine lv_istore (lv' := [(4, .int 0), (0, .ref (Γ.2.1 k0)), (1, .int v1), (2, .ref (Γ.2.1 k2)), (3, .int v3)]) hx hb dX10_copy_1 hl (by decide) rfl (fun ls hl => ?_)
  exact w_X10_copy_3 l E h0 h2 N v1 v3 0 M hf _ _ _ h (lv_sub hl [1, 2, 3, 4, 0] rfl)
theorem hdX10_remembers : yX10_remembers.cls = RX10 ∧ yX10_remembers.cls ≠ "java/lang/invoke/MethodHandle" ∧ yX10_remembers.cls ≠ "java/lang/invoke/VarHandle" ∧ (parseMethodDescriptor yX10_remembers.desc).map (fun d => d.parameters.length) = some 0 := by decide +kernel
set_option maxHeartbeats 4000000 in
set_option maxRecDepth 100000 in
theorem w_X10_remembers_11 (l : Launch) {p : Program} {e : Env} {s : State} {m : MethodId} {args : Array Value} {below : List Frame} {meth : Method} {c : Code} {Γ : xG} {N : Nat} {res : xR} (E : xEv p s m args meth c RX10 cX10_remembers 2 none (xWs yX10_remembers cX10_remembers 2 none)) {K_50 : xM → Option xR} (hK_50 : ∀ (M : xM), K_50  M = some res → ∀ (H : Heap) (locs : List Loc) (ls : Array Slot), xH Γ (wR Γ) 10 s M H locs → lv_has ls 2 [(0, .ref (Γ.2.1 0))] → W p l e ({ frames := 2, cells := 0, slots := 0, locals := 64 } : Room) s m args below meth c H locs 0 0 (MQ below (xCv Γ (wR Γ) 10 res s.heap.size) args s 0 0 (xAd Γ 10 s.heap.size)) (F0 m 50 ls [])) : ∀ (n : Nat) (v1 : Int32) (M : xM), L_X10_remembers_11 N K_50 n v1 M = some res → ∀ (H : Heap) (locs : List Loc) (ls : Array Slot), xH Γ (wR Γ) 10 s M H locs → lv_has ls 2 [(0, .ref (Γ.2.1 0)), (1, .int v1)] → W p l e ({ frames := 2, cells := 0, slots := 0, locals := 64 } : Room) s m args below meth c H locs 0 0 (MQ below (xCv Γ (wR Γ) 10 res s.heap.size) args s 0 0 (xAd Γ 10 s.heap.size)) (F0 m 11 ls []) := by
  obtain ⟨⟨hx, hb, hml, hown, hts⟩, hr, hlocks⟩ := id E
  intro n
  induction n with
  | zero => intro v1 M hf; cases hf
  | succ n ih =>
    intro v1 M hf H locs ls h hl
    refine lv_iload_n hx hb dX10_remembers_11 rfl (lv_at hl 1 rfl) ?_
    refine lv_sipush (v := 10220) hx hb dX10_remembers_12 (by decide) ?_
    refine lv_icmp_ge (tgt := 40) hx hb dX10_remembers_15 (by decide) (fun c1 => ?_) (fun c1 => ?_)
    · replace hf := xif_t hf c1
      refine lv_aload_n hx hb dX10_remembers_40 rfl (lv_at hl 0 rfl) ?_
      refine lv_dup hx hb dX10_remembers_41 rfl ?_
      refine x_get (own := RX10) (ref := "TintDeskModel") (C := RX10) (T := TX10) (n := 20) (index := 52) (v := .int (M.1 0 3)) hx hb hts (fun w h => xU_sub w (inU10 w h)) hown h kR_model rfl 3 (by decide) (hts _ (xU_sub _ q217)) (fun _ h9 => h9) rfl dX10_remembers_42 ?_
      refine lv_iconst (v := 1) hx hb dX10_remembers_45 (by decide) ?_
      refine lv_isub hx hb dX10_remembers_46 ?_
      obtain ⟨M2, eM2, hf⟩ := xl_s hf
      refine x_put (own := RX10) (ref := "TintDeskModel") (C := RX10) (T := TX10) (n := 20) (index := 52) (ty := .int) hx hb hts (fun w h => xU_sub w (inU10 w h)) tyX10 tyX10_ok nmX10 hown h kR_model rfl 3 (by decide) (hts _ (xU_sub _ q217)) (fun _ h9 => h9) rfl (by decide +kernel) rfl rfl (Nat.le_of_ble_eq_true rfl) rfl eM2 dX10_remembers_47 (fun H locs h => ?_)
      exact hK_50 M2 hf _ _ _ h (lv_sub hl [0] rfl)
    · replace hf := xif_f hf c1
      refine lv_aload_n hx hb dX10_remembers_18 rfl (lv_at hl 0 rfl) ?_
      refine x_get (own := RX10) (ref := "TintDeskModel") (C := RX10) (T := TX10) (n := 20) (index := 13) (v := .ref (Γ.2.1 2)) hx hb hts (fun w h => xU_sub w (inU10 w h)) hown h kR_model rfl 2 (by decide) (hts _ (xU_sub _ q133)) (fun _ h9 => h9) rfl dX10_remembers_19 ?_
      refine lv_iload_n hx hb dX10_remembers_22 rfl (lv_at hl 1 rfl) ?_
      refine lv_aload_n hx hb dX10_remembers_23 rfl (lv_at hl 0 rfl) ?_
      refine x_get (own := RX10) (ref := "TintDeskModel") (C := RX10) (T := TX10) (n := 20) (index := 13) (v := .ref (Γ.2.1 2)) hx hb hts (fun w h => xU_sub w (inU10 w h)) hown h kR_model rfl 2 (by decide) (hts _ (xU_sub _ q133)) (fun _ h9 => h9) rfl dX10_remembers_24 ?_
      refine lv_iload_n hx hb dX10_remembers_27 rfl (lv_at hl 1 rfl) ?_
      refine lv_sipush (v := 1460) hx hb dX10_remembers_28 (by decide) ?_
      refine lv_iadd hx hb dX10_remembers_31 ?_
      obtain ⟨c3, hf⟩ := xck_s hf
      refine x_iald hx hb h kR_history (xin_in c3) dX10_remembers_32 ?_
      obtain ⟨c4, hf⟩ := xck_s hf
      obtain ⟨M5, eM5, hf⟩ := xl_s hf
      refine x_iast hx hb h kR_history (xin_in c4) eM5 dX10_remembers_33 (fun H locs h => ?_)
      obtain ⟨y6, ey6, hf⟩ := xl_s hf
      refine lv_iinc (v := y6) (lv' := [(1, .int y6), (0, .ref (Γ.2.1 0))]) hx hb dX10_remembers_34 hl (k := 1) rfl (by rw [ey6]; rfl) (by decide) rfl (fun ls hl => ?_)
      refine lv_goto (tgt := 11) hx hb dX10_remembers_37 (by decide) ?_
      exact ih y6 M5 hf _ _ _ h (lv_sub hl [1, 0] rfl)
set_option maxHeartbeats 4000000 in
set_option maxRecDepth 100000 in
theorem w_X10_remembers_50 (l : Launch) {p : Program} {e : Env} {s : State} {m : MethodId} {args : Array Value} {below : List Frame} {meth : Method} {c : Code} {Γ : xG} {N : Nat} {res : xR} (E : xEv p s m args meth c RX10 cX10_remembers 2 none (xWs yX10_remembers cX10_remembers 2 none)) : ∀ (M : xM), L_X10_remembers_50 N M = some res → ∀ (H : Heap) (locs : List Loc) (ls : Array Slot), xH Γ (wR Γ) 10 s M H locs → lv_has ls 2 [(0, .ref (Γ.2.1 0))] → W p l e ({ frames := 2, cells := 0, slots := 0, locals := 64 } : Room) s m args below meth c H locs 0 0 (MQ below (xCv Γ (wR Γ) 10 res s.heap.size) args s 0 0 (xAd Γ 10 s.heap.size)) (F0 m 50 ls []) := by
  obtain ⟨⟨hx, hb, hml, hown, hts⟩, hr, hlocks⟩ := id E
  intro M hf H locs ls h hl
  refine lv_aload_n hx hb dX10_remembers_50 rfl (lv_at hl 0 rfl) ?_
  refine x_get (own := RX10) (ref := "TintDeskModel") (C := RX10) (T := TX10) (n := 20) (index := 9) (v := .ref (Γ.2.1 1)) hx hb hts (fun w h => xU_sub w (inU10 w h)) hown h kR_model rfl 1 (by decide) (hts _ (xU_sub _ q132)) (fun _ h9 => h9) rfl dX10_remembers_51 ?_
  refine lv_iconst (v := 0) hx hb dX10_remembers_54 (by decide) ?_
  refine lv_aload_n hx hb dX10_remembers_55 rfl (lv_at hl 0 rfl) ?_
  refine x_get (own := RX10) (ref := "TintDeskModel") (C := RX10) (T := TX10) (n := 20) (index := 13) (v := .ref (Γ.2.1 2)) hx hb hts (fun w h => xU_sub w (inU10 w h)) hown h kR_model rfl 2 (by decide) (hts _ (xU_sub _ q133)) (fun _ h9 => h9) rfl dX10_remembers_56 ?_
  refine lv_aload_n hx hb dX10_remembers_59 rfl (lv_at hl 0 rfl) ?_
  refine x_get (own := RX10) (ref := "TintDeskModel") (C := RX10) (T := TX10) (n := 20) (index := 52) (v := .int (M.1 0 3)) hx hb hts (fun w h => xU_sub w (inU10 w h)) hown h kR_model rfl 3 (by decide) (hts _ (xU_sub _ q217)) (fun _ h9 => h9) rfl dX10_remembers_60 ?_
  refine lv_sipush (v := 1460) hx hb dX10_remembers_63 (by decide) ?_
  refine lv_imul hx hb dX10_remembers_66 ?_
  obtain ⟨r1, er1, hf⟩ := xbd_s hf
  refine x_Sv (As := [.ref (Γ.2.1 1), .int 0, .ref (Γ.2.1 2), .int ((M.1 0 3) * 1460)]) (rest := []) E.1 (m_X10_copy l kR_g kR_history er1) (cwS 4 hts (xgS xU_sub q218 q219 q5 q220) rfl rfl rfl hdX10_copy ⟨Nat.le_of_ble_eq_true rfl, Nat.le_of_ble_eq_true rfl⟩) h rfl hl.1 rfl (Nat.le_of_ble_eq_true rfl) dX10_remembers_67 ⟨Nat.le_of_ble_eq_true rfl, Nat.le_of_ble_eq_true rfl⟩ (fun H locs h => ?_)
  refine lv_aload_n hx hb dX10_remembers_70 rfl (lv_at hl 0 rfl) ?_
  refine lv_dup hx hb dX10_remembers_71 rfl ?_
  refine x_get (own := RX10) (ref := "TintDeskModel") (C := RX10) (T := TX10) (n := 20) (index := 52) (v := .int (r1.1.1 0 3)) hx hb hts (fun w h => xU_sub w (inU10 w h)) hown h kR_model rfl 3 (by decide) (hts _ (xU_sub _ q217)) (fun _ h9 => h9) rfl dX10_remembers_72 ?_
  refine lv_iconst (v := 1) hx hb dX10_remembers_75 (by decide) ?_
  refine lv_iadd hx hb dX10_remembers_76 ?_
  obtain ⟨M2, eM2, hf⟩ := xl_s hf
  refine x_put (own := RX10) (ref := "TintDeskModel") (C := RX10) (T := TX10) (n := 20) (index := 52) (ty := .int) hx hb hts (fun w h => xU_sub w (inU10 w h)) tyX10 tyX10_ok nmX10 hown h kR_model rfl 3 (by decide) (hts _ (xU_sub _ q217)) (fun _ h9 => h9) rfl (by decide +kernel) rfl rfl (Nat.le_of_ble_eq_true rfl) rfl eM2 dX10_remembers_77 (fun H locs h => ?_)
  exact x_vret hx hb h (Option.some.inj hf) hr hlocks dX10_remembers_80
set_option maxHeartbeats 4000000 in
set_option maxRecDepth 100000 in
theorem m_X10_remembers (l : Launch) {Γ : xG} {N : Nat} {M : xM} {res : xR} (hf : F_X10_remembers N M = some res) (sz : Nat) : Met l yX10_remembers (xWs yX10_remembers cX10_remembers 2 none) ({ frames := 2, cells := 0, slots := 0, locals := 64 } : Room) (va_Pc [.ref (Γ.2.1 0)] (xPre Γ (wR Γ) M sz)) (xCv Γ (wR Γ) 10 res sz) 0 0 (xAd Γ 10 sz) := by
  refine x_met (Qc := fun sz => xCv Γ (wR Γ) 10 res sz) pnX10 wG_W (Nat.le_of_ble_eq_true rfl) (fun p e s m args below meth c _ E h ls hl => ?_) sz
  obtain ⟨⟨hx, hb, hml, hown, hts⟩, hr, hlocks⟩ := id E
  have hl : lv_has ls 2 [(0, .ref (Γ.2.1 0))] := hl
  refine lv_aload_n hx hb dX10_remembers_0 rfl (lv_at hl 0 rfl) ?_
  refine x_get (own := RX10) (ref := "TintDeskModel") (C := RX10) (T := TX10) (n := 20) (index := 52) (v := .int (M.1 0 3)) hx hb hts (fun w h => xU_sub w (inU10 w h)) hown h kR_model rfl 3 (by decide) (hts _ (xU_sub _ q217)) (fun _ h9 => h9) rfl dX10_remembers_1 ?_
  refine lv_bipush (v := 8) hx hb dX10_remembers_4 (by decide) ?_
  refine lv_icmp_ne (tgt := 50) hx hb dX10_remembers_6 (by decide) (fun c1 => ?_) (fun c1 => ?_)
  · replace hf := xif_f hf c1
    exact w_X10_remembers_50 l E M hf _ _ _ h (lv_sub hl [0] rfl)
  · replace hf := xif_t hf c1
    refine lv_iconst (v := 0) hx hb dX10_remembers_9 (by decide) ?_
    refine lv_istore_n (lv' := [(1, .int 0), (0, .ref (Γ.2.1 0))]) hx hb dX10_remembers_10 rfl hl (by decide) rfl (fun ls hl => ?_)
    exact w_X10_remembers_11 l E (w_X10_remembers_50 l E) N 0 M hf _ _ _ h (lv_sub hl [1, 0] rfl)
theorem hdX10_isColorant : yX10_isColorant.cls = RX10 ∧ yX10_isColorant.cls ≠ "java/lang/invoke/MethodHandle" ∧ yX10_isColorant.cls ≠ "java/lang/invoke/VarHandle" ∧ (parseMethodDescriptor yX10_isColorant.desc).map (fun d => d.parameters.length) = some 1 := by decide +kernel
set_option maxHeartbeats 4000000 in
set_option maxRecDepth 100000 in
theorem m_X10_isColorant (l : Launch) {Γ : xG} {N : Nat} {v1 : Int32} {M : xM} {res : xR} (hf : F_X10_isColorant N v1 M = some res) (sz : Nat) : Met l yX10_isColorant (xWs yX10_isColorant cX10_isColorant 2 (some .boolean)) ({ frames := 2, cells := 0, slots := 0, locals := 62 } : Room) (va_Pc [.ref (Γ.2.1 0), .int v1] (xPre Γ (wR Γ) M sz)) (xCi Γ (wR Γ) 10 res sz) 0 0 (xAd Γ 10 sz) := by
  refine x_met (Qc := fun sz => xCi Γ (wR Γ) 10 res sz) pnX10 wG_W (Nat.le_of_ble_eq_true rfl) (fun p e s m args below meth c _ E h ls hl => ?_) sz
  obtain ⟨⟨hx, hb, hml, hown, hts⟩, hr, hlocks⟩ := id E
  have hl : lv_has ls 2 [(0, .ref (Γ.2.1 0)), (1, .int v1)] := hl
  refine lv_iload_n hx hb dX10_isColorant_0 rfl (lv_at hl 1 rfl) ?_
  refine lv_iconst (v := 0) hx hb dX10_isColorant_1 (by decide) ?_
  refine lv_aload_n hx hb dX10_isColorant_2 rfl (lv_at hl 0 rfl) ?_
  refine x_get (own := RX10) (ref := "TintDeskModel") (C := RX10) (T := TX10) (n := 20) (index := 9) (v := .ref (Γ.2.1 1)) hx hb hts (fun w h => xU_sub w (inU10 w h)) hown h kR_model rfl 1 (by decide) (hts _ (xU_sub _ q132)) (fun _ h9 => h9) rfl dX10_isColorant_3 ?_
  refine lv_iconst (v := 0) hx hb dX10_isColorant_6 (by decide) ?_
  refine x_iald hx hb h kR_g (xin_in (by decide)) dX10_isColorant_7 ?_
  refine lv_iconst (v := 1) hx hb dX10_isColorant_8 (by decide) ?_
  refine lv_isub hx hb dX10_isColorant_9 ?_
  obtain ⟨r1, er1, hf⟩ := xbd_s hf
  refine x_Si (As := [.int v1, .int 0, .int ((M.1 1 (0 : Int32).toNatClampNeg) - 1)]) (rest := []) E.1 (m_X10_in l er1) (cwS 3 hts (xgS xU_sub q205 q206 q5 q207) rfl rfl rfl hdX10_in ⟨Nat.le_of_ble_eq_true rfl, Nat.le_of_ble_eq_true rfl⟩) h rfl hl.1 rfl (Nat.le_of_ble_eq_true rfl) dX10_isColorant_10 ⟨Nat.le_of_ble_eq_true rfl, Nat.le_of_ble_eq_true rfl⟩ (fun H locs h => ?_)
  obtain ⟨c2, hf⟩ := xck_s hf
  exact x_zret hx hb h (Option.some.inj hf) hr hlocks (xz_n c2) dX10_isColorant_13
theorem hdX10_isFormula : yX10_isFormula.cls = RX10 ∧ yX10_isFormula.cls ≠ "java/lang/invoke/MethodHandle" ∧ yX10_isFormula.cls ≠ "java/lang/invoke/VarHandle" ∧ (parseMethodDescriptor yX10_isFormula.desc).map (fun d => d.parameters.length) = some 1 := by decide +kernel
set_option maxHeartbeats 4000000 in
set_option maxRecDepth 100000 in
theorem m_X10_isFormula (l : Launch) {Γ : xG} {N : Nat} {v1 : Int32} {M : xM} {res : xR} (hf : F_X10_isFormula N v1 M = some res) (sz : Nat) : Met l yX10_isFormula (xWs yX10_isFormula cX10_isFormula 2 (some .boolean)) ({ frames := 2, cells := 0, slots := 0, locals := 62 } : Room) (va_Pc [.ref (Γ.2.1 0), .int v1] (xPre Γ (wR Γ) M sz)) (xCi Γ (wR Γ) 10 res sz) 0 0 (xAd Γ 10 sz) := by
  refine x_met (Qc := fun sz => xCi Γ (wR Γ) 10 res sz) pnX10 wG_W (Nat.le_of_ble_eq_true rfl) (fun p e s m args below meth c _ E h ls hl => ?_) sz
  obtain ⟨⟨hx, hb, hml, hown, hts⟩, hr, hlocks⟩ := id E
  have hl : lv_has ls 2 [(0, .ref (Γ.2.1 0)), (1, .int v1)] := hl
  refine lv_iload_n hx hb dX10_isFormula_0 rfl (lv_at hl 1 rfl) ?_
  refine lv_iconst (v := 0) hx hb dX10_isFormula_1 (by decide) ?_
  refine lv_aload_n hx hb dX10_isFormula_2 rfl (lv_at hl 0 rfl) ?_
  refine x_get (own := RX10) (ref := "TintDeskModel") (C := RX10) (T := TX10) (n := 20) (index := 9) (v := .ref (Γ.2.1 1)) hx hb hts (fun w h => xU_sub w (inU10 w h)) hown h kR_model rfl 1 (by decide) (hts _ (xU_sub _ q132)) (fun _ h9 => h9) rfl dX10_isFormula_3 ?_
  refine lv_iconst (v := 2) hx hb dX10_isFormula_6 (by decide) ?_
  refine x_iald hx hb h kR_g (xin_in (by decide)) dX10_isFormula_7 ?_
  refine lv_iconst (v := 1) hx hb dX10_isFormula_8 (by decide) ?_
  refine lv_isub hx hb dX10_isFormula_9 ?_
  obtain ⟨r1, er1, hf⟩ := xbd_s hf
  refine x_Si (As := [.int v1, .int 0, .int ((M.1 1 (2 : Int32).toNatClampNeg) - 1)]) (rest := []) E.1 (m_X10_in l er1) (cwS 3 hts (xgS xU_sub q205 q206 q5 q207) rfl rfl rfl hdX10_in ⟨Nat.le_of_ble_eq_true rfl, Nat.le_of_ble_eq_true rfl⟩) h rfl hl.1 rfl (Nat.le_of_ble_eq_true rfl) dX10_isFormula_10 ⟨Nat.le_of_ble_eq_true rfl, Nat.le_of_ble_eq_true rfl⟩ (fun H locs h => ?_)
  obtain ⟨c2, hf⟩ := xck_s hf
  exact x_zret hx hb h (Option.some.inj hf) hr hlocks (xz_n c2) dX10_isFormula_13
theorem hdX10_isCan : yX10_isCan.cls = RX10 ∧ yX10_isCan.cls ≠ "java/lang/invoke/MethodHandle" ∧ yX10_isCan.cls ≠ "java/lang/invoke/VarHandle" ∧ (parseMethodDescriptor yX10_isCan.desc).map (fun d => d.parameters.length) = some 1 := by decide +kernel
set_option maxHeartbeats 4000000 in
set_option maxRecDepth 100000 in
theorem m_X10_isCan (l : Launch) {Γ : xG} {N : Nat} {v1 : Int32} {M : xM} {res : xR} (hf : F_X10_isCan N v1 M = some res) (sz : Nat) : Met l yX10_isCan (xWs yX10_isCan cX10_isCan 2 (some .boolean)) ({ frames := 2, cells := 0, slots := 0, locals := 62 } : Room) (va_Pc [.ref (Γ.2.1 0), .int v1] (xPre Γ (wR Γ) M sz)) (xCi Γ (wR Γ) 10 res sz) 0 0 (xAd Γ 10 sz) := by
  refine x_met (Qc := fun sz => xCi Γ (wR Γ) 10 res sz) pnX10 wG_W (Nat.le_of_ble_eq_true rfl) (fun p e s m args below meth c _ E h ls hl => ?_) sz
  obtain ⟨⟨hx, hb, hml, hown, hts⟩, hr, hlocks⟩ := id E
  have hl : lv_has ls 2 [(0, .ref (Γ.2.1 0)), (1, .int v1)] := hl
  refine lv_iload_n hx hb dX10_isCan_0 rfl (lv_at hl 1 rfl) ?_
  refine lv_iconst (v := 0) hx hb dX10_isCan_1 (by decide) ?_
  refine lv_aload_n hx hb dX10_isCan_2 rfl (lv_at hl 0 rfl) ?_
  refine x_get (own := RX10) (ref := "TintDeskModel") (C := RX10) (T := TX10) (n := 20) (index := 9) (v := .ref (Γ.2.1 1)) hx hb hts (fun w h => xU_sub w (inU10 w h)) hown h kR_model rfl 1 (by decide) (hts _ (xU_sub _ q132)) (fun _ h9 => h9) rfl dX10_isCan_3 ?_
  refine lv_iconst (v := 3) hx hb dX10_isCan_6 (by decide) ?_
  refine x_iald hx hb h kR_g (xin_in (by decide)) dX10_isCan_7 ?_
  refine lv_iconst (v := 1) hx hb dX10_isCan_8 (by decide) ?_
  refine lv_isub hx hb dX10_isCan_9 ?_
  obtain ⟨r1, er1, hf⟩ := xbd_s hf
  refine x_Si (As := [.int v1, .int 0, .int ((M.1 1 (3 : Int32).toNatClampNeg) - 1)]) (rest := []) E.1 (m_X10_in l er1) (cwS 3 hts (xgS xU_sub q205 q206 q5 q207) rfl rfl rfl hdX10_in ⟨Nat.le_of_ble_eq_true rfl, Nat.le_of_ble_eq_true rfl⟩) h rfl hl.1 rfl (Nat.le_of_ble_eq_true rfl) dX10_isCan_10 ⟨Nat.le_of_ble_eq_true rfl, Nat.le_of_ble_eq_true rfl⟩ (fun H locs h => ?_)
  obtain ⟨c2, hf⟩ := xck_s hf
  exact x_zret hx hb h (Option.some.inj hf) hr hlocks (xz_n c2) dX10_isCan_13
theorem hdX10_isLot : yX10_isLot.cls = RX10 ∧ yX10_isLot.cls ≠ "java/lang/invoke/MethodHandle" ∧ yX10_isLot.cls ≠ "java/lang/invoke/VarHandle" ∧ (parseMethodDescriptor yX10_isLot.desc).map (fun d => d.parameters.length) = some 1 := by decide +kernel
set_option maxHeartbeats 4000000 in
set_option maxRecDepth 100000 in
theorem m_X10_isLot (l : Launch) {Γ : xG} {N : Nat} {v0 : Int32} {M : xM} {res : xR} (hf : F_X10_isLot N v0 M = some res) (sz : Nat) : Met l yX10_isLot (xWs yX10_isLot cX10_isLot 1 (some .boolean)) ({ frames := 2, cells := 0, slots := 0, locals := 62 } : Room) (va_Pc [.int v0] (xPre Γ (wR Γ) M sz)) (xCi Γ (wR Γ) 10 res sz) 0 0 (xAd Γ 10 sz) := by
  refine x_met (Qc := fun sz => xCi Γ (wR Γ) 10 res sz) pnX10 wG_W (Nat.le_of_ble_eq_true rfl) (fun p e s m args below meth c _ E h ls hl => ?_) sz
  obtain ⟨⟨hx, hb, hml, hown, hts⟩, hr, hlocks⟩ := id E
  have hl : lv_has ls 1 [(0, .int v0)] := hl
  refine lv_iload_n hx hb dX10_isLot_0 rfl (lv_at hl 0 rfl) ?_
  refine lv_iconst (v := 0) hx hb dX10_isLot_1 (by decide) ?_
  refine lv_bipush (v := 99) hx hb dX10_isLot_2 (by decide) ?_
  obtain ⟨r1, er1, hf⟩ := xbd_s hf
  refine x_Si (As := [.int v0, .int 0, .int 99]) (rest := []) E.1 (m_X10_in l er1) (cwS 3 hts (xgS xU_sub q205 q206 q5 q207) rfl rfl rfl hdX10_in ⟨Nat.le_of_ble_eq_true rfl, Nat.le_of_ble_eq_true rfl⟩) h rfl hl.1 rfl (Nat.le_of_ble_eq_true rfl) dX10_isLot_4 ⟨Nat.le_of_ble_eq_true rfl, Nat.le_of_ble_eq_true rfl⟩ (fun H locs h => ?_)
  obtain ⟨c2, hf⟩ := xck_s hf
  exact x_zret hx hb h (Option.some.inj hf) hr hlocks (xz_n c2) dX10_isLot_7
theorem hdX10_colorantAt : yX10_colorantAt.cls = RX10 ∧ yX10_colorantAt.cls ≠ "java/lang/invoke/MethodHandle" ∧ yX10_colorantAt.cls ≠ "java/lang/invoke/VarHandle" ∧ (parseMethodDescriptor yX10_colorantAt.desc).map (fun d => d.parameters.length) = some 2 := by decide +kernel
set_option maxHeartbeats 4000000 in
set_option maxRecDepth 100000 in
theorem m_X10_colorantAt (l : Launch) {Γ : xG} {N : Nat} {v1 : Int32} {v2 : Int32} {M : xM} {res : xR} (hf : F_X10_colorantAt N v1 v2 M = some res) (sz : Nat) : Met l yX10_colorantAt (xWs yX10_colorantAt cX10_colorantAt 3 (some .int)) ({ frames := 1, cells := 0, slots := 0, locals := 40 } : Room) (va_Pc [.ref (Γ.2.1 0), .int v1, .int v2] (xPre Γ (wR Γ) M sz)) (xCi Γ (wR Γ) 10 res sz) 0 0 (xAd Γ 10 sz) := by
  refine x_met (Qc := fun sz => xCi Γ (wR Γ) 10 res sz) pnX10 wG_W (Nat.le_of_ble_eq_true rfl) (fun p e s m args below meth c _ E h ls hl => ?_) sz
  obtain ⟨⟨hx, hb, hml, hown, hts⟩, hr, hlocks⟩ := id E
  have hl : lv_has ls 3 [(0, .ref (Γ.2.1 0)), (1, .int v1), (2, .int v2)] := hl
  refine lv_aload_n hx hb dX10_colorantAt_0 rfl (lv_at hl 0 rfl) ?_
  refine x_get (own := RX10) (ref := "TintDeskModel") (C := RX10) (T := TX10) (n := 20) (index := 9) (v := .ref (Γ.2.1 1)) hx hb hts (fun w h => xU_sub w (inU10 w h)) hown h kR_model rfl 1 (by decide) (hts _ (xU_sub _ q132)) (fun _ h9 => h9) rfl dX10_colorantAt_1 ?_
  refine lv_iconst (v := 5) hx hb dX10_colorantAt_4 (by decide) ?_
  refine lv_bipush (v := 46) hx hb dX10_colorantAt_5 (by decide) ?_
  refine lv_iload_n hx hb dX10_colorantAt_7 rfl (lv_at hl 1 rfl) ?_
  refine lv_imul hx hb dX10_colorantAt_8 ?_
  refine lv_iadd hx hb dX10_colorantAt_9 ?_
  refine lv_iload_n hx hb dX10_colorantAt_10 rfl (lv_at hl 2 rfl) ?_
  refine lv_iadd hx hb dX10_colorantAt_11 ?_
  obtain ⟨c1, hf⟩ := xck_s hf
  refine x_iald hx hb h kR_g (xin_in c1) dX10_colorantAt_12 ?_
  exact x_iret hx hb h (Option.some.inj hf) hr hlocks dX10_colorantAt_13
theorem hdX10_baseAt : yX10_baseAt.cls = RX10 ∧ yX10_baseAt.cls ≠ "java/lang/invoke/MethodHandle" ∧ yX10_baseAt.cls ≠ "java/lang/invoke/VarHandle" ∧ (parseMethodDescriptor yX10_baseAt.desc).map (fun d => d.parameters.length) = some 2 := by decide +kernel
set_option maxHeartbeats 4000000 in
set_option maxRecDepth 100000 in
theorem m_X10_baseAt (l : Launch) {Γ : xG} {N : Nat} {v1 : Int32} {v2 : Int32} {M : xM} {res : xR} (hf : F_X10_baseAt N v1 v2 M = some res) (sz : Nat) : Met l yX10_baseAt (xWs yX10_baseAt cX10_baseAt 3 (some .int)) ({ frames := 1, cells := 0, slots := 0, locals := 40 } : Room) (va_Pc [.ref (Γ.2.1 0), .int v1, .int v2] (xPre Γ (wR Γ) M sz)) (xCi Γ (wR Γ) 10 res sz) 0 0 (xAd Γ 10 sz) := by
  refine x_met (Qc := fun sz => xCi Γ (wR Γ) 10 res sz) pnX10 wG_W (Nat.le_of_ble_eq_true rfl) (fun p e s m args below meth c _ E h ls hl => ?_) sz
  obtain ⟨⟨hx, hb, hml, hown, hts⟩, hr, hlocks⟩ := id E
  have hl : lv_has ls 3 [(0, .ref (Γ.2.1 0)), (1, .int v1), (2, .int v2)] := hl
  refine lv_aload_n hx hb dX10_baseAt_0 rfl (lv_at hl 0 rfl) ?_
  refine x_get (own := RX10) (ref := "TintDeskModel") (C := RX10) (T := TX10) (n := 20) (index := 9) (v := .ref (Γ.2.1 1)) hx hb hts (fun w h => xU_sub w (inU10 w h)) hown h kR_model rfl 1 (by decide) (hts _ (xU_sub _ q132)) (fun _ h9 => h9) rfl dX10_baseAt_1 ?_
  refine lv_sipush (v := 373) hx hb dX10_baseAt_4 (by decide) ?_
  refine lv_bipush (v := 6) hx hb dX10_baseAt_7 (by decide) ?_
  refine lv_iload_n hx hb dX10_baseAt_9 rfl (lv_at hl 1 rfl) ?_
  refine lv_imul hx hb dX10_baseAt_10 ?_
  refine lv_iadd hx hb dX10_baseAt_11 ?_
  refine lv_iload_n hx hb dX10_baseAt_12 rfl (lv_at hl 2 rfl) ?_
  refine lv_iadd hx hb dX10_baseAt_13 ?_
  obtain ⟨c1, hf⟩ := xck_s hf
  refine x_iald hx hb h kR_g (xin_in c1) dX10_baseAt_14 ?_
  exact x_iret hx hb h (Option.some.inj hf) hr hlocks dX10_baseAt_15
theorem hdX10_canAt : yX10_canAt.cls = RX10 ∧ yX10_canAt.cls ≠ "java/lang/invoke/MethodHandle" ∧ yX10_canAt.cls ≠ "java/lang/invoke/VarHandle" ∧ (parseMethodDescriptor yX10_canAt.desc).map (fun d => d.parameters.length) = some 2 := by decide +kernel
set_option maxHeartbeats 4000000 in
set_option maxRecDepth 100000 in
theorem m_X10_canAt (l : Launch) {Γ : xG} {N : Nat} {v1 : Int32} {v2 : Int32} {M : xM} {res : xR} (hf : F_X10_canAt N v1 v2 M = some res) (sz : Nat) : Met l yX10_canAt (xWs yX10_canAt cX10_canAt 3 (some .int)) ({ frames := 1, cells := 0, slots := 0, locals := 40 } : Room) (va_Pc [.ref (Γ.2.1 0), .int v1, .int v2] (xPre Γ (wR Γ) M sz)) (xCi Γ (wR Γ) 10 res sz) 0 0 (xAd Γ 10 sz) := by
  refine x_met (Qc := fun sz => xCi Γ (wR Γ) 10 res sz) pnX10 wG_W (Nat.le_of_ble_eq_true rfl) (fun p e s m args below meth c _ E h ls hl => ?_) sz
  obtain ⟨⟨hx, hb, hml, hown, hts⟩, hr, hlocks⟩ := id E
  have hl : lv_has ls 3 [(0, .ref (Γ.2.1 0)), (1, .int v1), (2, .int v2)] := hl
  refine lv_aload_n hx hb dX10_canAt_0 rfl (lv_at hl 0 rfl) ?_
  refine x_get (own := RX10) (ref := "TintDeskModel") (C := RX10) (T := TX10) (n := 20) (index := 9) (v := .ref (Γ.2.1 1)) hx hb hts (fun w h => xU_sub w (inU10 w h)) hown h kR_model rfl 1 (by decide) (hts _ (xU_sub _ q132)) (fun _ h9 => h9) rfl dX10_canAt_1 ?_
  refine lv_sipush (v := 579) hx hb dX10_canAt_4 (by decide) ?_
  refine lv_bipush (v := 44) hx hb dX10_canAt_7 (by decide) ?_
  refine lv_iload_n hx hb dX10_canAt_9 rfl (lv_at hl 1 rfl) ?_
  refine lv_imul hx hb dX10_canAt_10 ?_
  refine lv_iadd hx hb dX10_canAt_11 ?_
  refine lv_iload_n hx hb dX10_canAt_12 rfl (lv_at hl 2 rfl) ?_
  refine lv_iadd hx hb dX10_canAt_13 ?_
  obtain ⟨c1, hf⟩ := xck_s hf
  refine x_iald hx hb h kR_g (xin_in c1) dX10_canAt_14 ?_
  exact x_iret hx hb h (Option.some.inj hf) hr hlocks dX10_canAt_15
theorem hdX10_addColorant : yX10_addColorant.cls = RX10 ∧ yX10_addColorant.cls ≠ "java/lang/invoke/MethodHandle" ∧ yX10_addColorant.cls ≠ "java/lang/invoke/VarHandle" ∧ (parseMethodDescriptor yX10_addColorant.desc).map (fun d => d.parameters.length) = some 3 := by decide +kernel
set_option maxHeartbeats 4000000 in
set_option maxRecDepth 100000 in
theorem m_X10_addColorant (l : Launch) {Γ : xG} {N : Nat} {v1 : Int32} {v2 : Int32} {v3 : Int32} {M : xM} {res : xR} (hf : F_X10_addColorant N v1 v2 v3 M = some res) (sz : Nat) : Met l yX10_addColorant (xWs yX10_addColorant cX10_addColorant 5 (some .int)) ({ frames := 3, cells := 0, slots := 0, locals := 85 } : Room) (va_Pc [.ref (Γ.2.1 0), .int v1, .int v2, .int v3] (xPre Γ (wR Γ) M sz)) (xCi Γ (wR Γ) 10 res sz) 0 0 (xAd Γ 10 sz) := by
  refine x_met (Qc := fun sz => xCi Γ (wR Γ) 10 res sz) pnX10 wG_W (Nat.le_of_ble_eq_true rfl) (fun p e s m args below meth c _ E h ls hl => ?_) sz
  obtain ⟨⟨hx, hb, hml, hown, hts⟩, hr, hlocks⟩ := id E
  have hl : lv_has ls 5 [(0, .ref (Γ.2.1 0)), (1, .int v1), (2, .int v2), (3, .int v3)] := hl
  refine lv_iload_n hx hb dX10_addColorant_0 rfl (lv_at hl 1 rfl) ?_
  refine lv_iconst (v := 0) hx hb dX10_addColorant_1 (by decide) ?_
  refine lv_bipush (v := 9) hx hb dX10_addColorant_2 (by decide) ?_
  obtain ⟨r1, er1, hf⟩ := xbd_s hf
  refine x_Si (As := [.int v1, .int 0, .int 9]) (rest := []) E.1 (m_X10_in l er1) (cwS 3 hts (xgS xU_sub q205 q206 q5 q207) rfl rfl rfl hdX10_in ⟨Nat.le_of_ble_eq_true rfl, Nat.le_of_ble_eq_true rfl⟩) h rfl hl.1 rfl (Nat.le_of_ble_eq_true rfl) dX10_addColorant_4 ⟨Nat.le_of_ble_eq_true rfl, Nat.le_of_ble_eq_true rfl⟩ (fun H locs h => ?_)
  refine lv_if_eq (tgt := 30) hx hb dX10_addColorant_7 (by decide) (fun c2 => ?_) (fun c2 => ?_)
  · replace hf := xif_t hf c2
    refine lv_aload_n hx hb dX10_addColorant_30 rfl (lv_at hl 0 rfl) ?_
    refine lv_iconst (v := 1) hx hb dX10_addColorant_31 (by decide) ?_
    obtain ⟨r3, er3, hf⟩ := xbd_s hf
    refine x_Vi (As := [.int 1]) (rest := []) E.1 (m_X10_fails l er3) (cwV 1 hts (xgV xU_sub q208 q209 q210 q5 q211) rfl rfl rfl hdX10_fails ⟨Nat.le_of_ble_eq_true rfl, Nat.le_of_ble_eq_true rfl⟩) h kR_model rfl rfl hl.1 rfl (Nat.le_of_ble_eq_true rfl) dX10_addColorant_32 ⟨Nat.le_of_ble_eq_true rfl, Nat.le_of_ble_eq_true rfl⟩ (fun H locs h => ?_)
    exact x_iret hx hb h (Option.some.inj hf) hr hlocks dX10_addColorant_35
  · replace hf := xif_f hf c2
    refine lv_iload_n hx hb dX10_addColorant_10 rfl (lv_at hl 2 rfl) ?_
    refine lv_iconst (v := 0) hx hb dX10_addColorant_11 (by decide) ?_
    refine lv_bipush (v := 9) hx hb dX10_addColorant_12 (by decide) ?_
    obtain ⟨r4, er4, hf⟩ := xbd_s hf
    refine x_Si (As := [.int v2, .int 0, .int 9]) (rest := []) E.1 (m_X10_in l er4) (cwS 3 hts (xgS xU_sub q205 q206 q5 q207) rfl rfl rfl hdX10_in ⟨Nat.le_of_ble_eq_true rfl, Nat.le_of_ble_eq_true rfl⟩) h rfl hl.1 rfl (Nat.le_of_ble_eq_true rfl) dX10_addColorant_14 ⟨Nat.le_of_ble_eq_true rfl, Nat.le_of_ble_eq_true rfl⟩ (fun H locs h => ?_)
    refine lv_if_eq (tgt := 30) hx hb dX10_addColorant_17 (by decide) (fun c5 => ?_) (fun c5 => ?_)
    · replace hf := xif_t hf c5
      refine lv_aload_n hx hb dX10_addColorant_30 rfl (lv_at hl 0 rfl) ?_
      refine lv_iconst (v := 1) hx hb dX10_addColorant_31 (by decide) ?_
      obtain ⟨r6, er6, hf⟩ := xbd_s hf
      refine x_Vi (As := [.int 1]) (rest := []) E.1 (m_X10_fails l er6) (cwV 1 hts (xgV xU_sub q208 q209 q210 q5 q211) rfl rfl rfl hdX10_fails ⟨Nat.le_of_ble_eq_true rfl, Nat.le_of_ble_eq_true rfl⟩) h kR_model rfl rfl hl.1 rfl (Nat.le_of_ble_eq_true rfl) dX10_addColorant_32 ⟨Nat.le_of_ble_eq_true rfl, Nat.le_of_ble_eq_true rfl⟩ (fun H locs h => ?_)
      exact x_iret hx hb h (Option.some.inj hf) hr hlocks dX10_addColorant_35
    · replace hf := xif_f hf c5
      refine lv_iload_n hx hb dX10_addColorant_20 rfl (lv_at hl 3 rfl) ?_
      refine lv_iconst (v := 0) hx hb dX10_addColorant_21 (by decide) ?_
      refine lv_bipush (v := 9) hx hb dX10_addColorant_22 (by decide) ?_
      obtain ⟨r7, er7, hf⟩ := xbd_s hf
      refine x_Si (As := [.int v3, .int 0, .int 9]) (rest := []) E.1 (m_X10_in l er7) (cwS 3 hts (xgS xU_sub q205 q206 q5 q207) rfl rfl rfl hdX10_in ⟨Nat.le_of_ble_eq_true rfl, Nat.le_of_ble_eq_true rfl⟩) h rfl hl.1 rfl (Nat.le_of_ble_eq_true rfl) dX10_addColorant_24 ⟨Nat.le_of_ble_eq_true rfl, Nat.le_of_ble_eq_true rfl⟩ (fun H locs h => ?_)
      refine lv_if_ne (tgt := 36) hx hb dX10_addColorant_27 (by decide) (fun c8 => ?_) (fun c8 => ?_)
      · replace hf := xif_f hf c8
        refine lv_aload_n hx hb dX10_addColorant_36 rfl (lv_at hl 0 rfl) ?_
        refine x_get (own := RX10) (ref := "TintDeskModel") (C := RX10) (T := TX10) (n := 20) (index := 9) (v := .ref (Γ.2.1 1)) hx hb hts (fun w h => xU_sub w (inU10 w h)) hown h kR_model rfl 1 (by decide) (hts _ (xU_sub _ q132)) (fun _ h9 => h9) rfl dX10_addColorant_37 ?_
        refine lv_iconst (v := 0) hx hb dX10_addColorant_40 (by decide) ?_
        refine x_iald hx hb h kR_g (xin_in (by decide)) dX10_addColorant_41 ?_
        refine lv_bipush (v := 8) hx hb dX10_addColorant_42 (by decide) ?_
        refine lv_icmp_ne (tgt := 53) hx hb dX10_addColorant_44 (by decide) (fun c9 => ?_) (fun c9 => ?_)
        · replace hf := xif_f hf c9
          refine lv_aload_n hx hb dX10_addColorant_53 rfl (lv_at hl 0 rfl) ?_
          obtain ⟨r10, er10, hf⟩ := xbd_s hf
          refine x_Vv (As := []) (rest := []) E.1 (m_X10_remembers l er10) (cwV 0 hts (xgV xU_sub q213 q214 q215 q5 q216) rfl rfl rfl hdX10_remembers ⟨Nat.le_of_ble_eq_true rfl, Nat.le_of_ble_eq_true rfl⟩) h kR_model rfl rfl hl.1 rfl (Nat.le_of_ble_eq_true rfl) dX10_addColorant_54 ⟨Nat.le_of_ble_eq_true rfl, Nat.le_of_ble_eq_true rfl⟩ (fun H locs h => ?_)
          refine lv_iconst (v := 5) hx hb dX10_addColorant_57 (by decide) ?_
          refine lv_bipush (v := 46) hx hb dX10_addColorant_58 (by decide) ?_
          refine lv_aload_n hx hb dX10_addColorant_60 rfl (lv_at hl 0 rfl) ?_
          refine x_get (own := RX10) (ref := "TintDeskModel") (C := RX10) (T := TX10) (n := 20) (index := 9) (v := .ref (Γ.2.1 1)) hx hb hts (fun w h => xU_sub w (inU10 w h)) hown h kR_model rfl 1 (by decide) (hts _ (xU_sub _ q132)) (fun _ h9 => h9) rfl dX10_addColorant_61 ?_
          refine lv_iconst (v := 0) hx hb dX10_addColorant_64 (by decide) ?_
          refine x_iald hx hb h kR_g (xin_in (by decide)) dX10_addColorant_65 ?_
          refine lv_imul hx hb dX10_addColorant_66 ?_
          refine lv_iadd hx hb dX10_addColorant_67 ?_
          obtain ⟨y11, ey11, hf⟩ := xl_s hf
          refine x_nm ey11 ?_
          refine lv_istore (lv' := [(4, .int y11), (0, .ref (Γ.2.1 0)), (1, .int v1), (2, .int v2), (3, .int v3)]) hx hb dX10_addColorant_68 hl (by decide) rfl (fun ls hl => ?_)
          refine lv_aload_n hx hb dX10_addColorant_70 rfl (lv_at hl 1 rfl) ?_
          refine x_get (own := RX10) (ref := "TintDeskModel") (C := RX10) (T := TX10) (n := 20) (index := 9) (v := .ref (Γ.2.1 1)) hx hb hts (fun w h => xU_sub w (inU10 w h)) hown h kR_model rfl 1 (by decide) (hts _ (xU_sub _ q132)) (fun _ h9 => h9) rfl dX10_addColorant_71 ?_
          refine lv_iload hx hb dX10_addColorant_74 (lv_at hl 0 rfl) ?_
          refine lv_iload_n hx hb dX10_addColorant_76 rfl (lv_at hl 2 rfl) ?_
          obtain ⟨c12, hf⟩ := xck_s hf
          obtain ⟨M13, eM13, hf⟩ := xl_s hf
          refine x_iast hx hb h kR_g (xin_in c12) eM13 dX10_addColorant_77 (fun H locs h => ?_)
          refine lv_aload_n hx hb dX10_addColorant_78 rfl (lv_at hl 1 rfl) ?_
          refine x_get (own := RX10) (ref := "TintDeskModel") (C := RX10) (T := TX10) (n := 20) (index := 9) (v := .ref (Γ.2.1 1)) hx hb hts (fun w h => xU_sub w (inU10 w h)) hown h kR_model rfl 1 (by decide) (hts _ (xU_sub _ q132)) (fun _ h9 => h9) rfl dX10_addColorant_79 ?_
          refine lv_iload hx hb dX10_addColorant_82 (lv_at hl 0 rfl) ?_
          refine lv_iconst (v := 1) hx hb dX10_addColorant_84 (by decide) ?_
          refine lv_iadd hx hb dX10_addColorant_85 ?_
          refine lv_iload_n hx hb dX10_addColorant_86 rfl (lv_at hl 3 rfl) ?_
          obtain ⟨c14, hf⟩ := xck_s hf
          obtain ⟨M15, eM15, hf⟩ := xl_s hf
          refine x_iast hx hb h kR_g (xin_in c14) eM15 dX10_addColorant_87 (fun H locs h => ?_)
          refine lv_aload_n hx hb dX10_addColorant_88 rfl (lv_at hl 1 rfl) ?_
          refine x_get (own := RX10) (ref := "TintDeskModel") (C := RX10) (T := TX10) (n := 20) (index := 9) (v := .ref (Γ.2.1 1)) hx hb hts (fun w h => xU_sub w (inU10 w h)) hown h kR_model rfl 1 (by decide) (hts _ (xU_sub _ q132)) (fun _ h9 => h9) rfl dX10_addColorant_89 ?_
          refine lv_iload hx hb dX10_addColorant_92 (lv_at hl 0 rfl) ?_
          refine lv_iconst (v := 2) hx hb dX10_addColorant_94 (by decide) ?_
          refine lv_iadd hx hb dX10_addColorant_95 ?_
          refine lv_iload_n hx hb dX10_addColorant_96 rfl (lv_at hl 4 rfl) ?_
          obtain ⟨c16, hf⟩ := xck_s hf
          obtain ⟨M17, eM17, hf⟩ := xl_s hf
          refine x_iast hx hb h kR_g (xin_in c16) eM17 dX10_addColorant_97 (fun H locs h => ?_)
          refine lv_aload_n hx hb dX10_addColorant_98 rfl (lv_at hl 1 rfl) ?_
          refine x_get (own := RX10) (ref := "TintDeskModel") (C := RX10) (T := TX10) (n := 20) (index := 9) (v := .ref (Γ.2.1 1)) hx hb hts (fun w h => xU_sub w (inU10 w h)) hown h kR_model rfl 1 (by decide) (hts _ (xU_sub _ q132)) (fun _ h9 => h9) rfl dX10_addColorant_99 ?_
          refine lv_iload hx hb dX10_addColorant_102 (lv_at hl 0 rfl) ?_
          refine lv_bipush (v := 44) hx hb dX10_addColorant_104 (by decide) ?_
          refine lv_iadd hx hb dX10_addColorant_106 ?_
          refine lv_bipush (v := 60) hx hb dX10_addColorant_107 (by decide) ?_
          obtain ⟨c18, hf⟩ := xck_s hf
          obtain ⟨M19, eM19, hf⟩ := xl_s hf
          refine x_iast hx hb h kR_g (xin_in c18) eM19 dX10_addColorant_109 (fun H locs h => ?_)
          refine lv_aload_n hx hb dX10_addColorant_110 rfl (lv_at hl 1 rfl) ?_
          refine x_get (own := RX10) (ref := "TintDeskModel") (C := RX10) (T := TX10) (n := 20) (index := 9) (v := .ref (Γ.2.1 1)) hx hb hts (fun w h => xU_sub w (inU10 w h)) hown h kR_model rfl 1 (by decide) (hts _ (xU_sub _ q132)) (fun _ h9 => h9) rfl dX10_addColorant_111 ?_
          refine lv_iconst (v := 0) hx hb dX10_addColorant_114 (by decide) ?_
          refine lv_dup2_11 hx hb dX10_addColorant_115 rfl rfl ?_
          refine x_iald hx hb h kR_g (xin_in (by decide)) dX10_addColorant_116 ?_
          refine lv_iconst (v := 1) hx hb dX10_addColorant_117 (by decide) ?_
          refine lv_iadd hx hb dX10_addColorant_118 ?_
          obtain ⟨M20, eM20, hf⟩ := xl_s hf
          refine x_iast hx hb h kR_g (xin_in (by decide)) eM20 dX10_addColorant_119 (fun H locs h => ?_)
          refine lv_aload_n hx hb dX10_addColorant_120 rfl (lv_at hl 1 rfl) ?_
          refine lv_aload_n hx hb dX10_addColorant_121 rfl (lv_at hl 1 rfl) ?_
          refine x_get (own := RX10) (ref := "TintDeskModel") (C := RX10) (T := TX10) (n := 20) (index := 9) (v := .ref (Γ.2.1 1)) hx hb hts (fun w h => xU_sub w (inU10 w h)) hown h kR_model rfl 1 (by decide) (hts _ (xU_sub _ q132)) (fun _ h9 => h9) rfl dX10_addColorant_122 ?_
          refine lv_iconst (v := 0) hx hb dX10_addColorant_125 (by decide) ?_
          refine x_iald hx hb h kR_g (xin_in (by decide)) dX10_addColorant_126 ?_
          refine lv_iconst (v := 1) hx hb dX10_addColorant_127 (by decide) ?_
          refine lv_isub hx hb dX10_addColorant_128 ?_
          obtain ⟨r21, er21, hf⟩ := xbd_s hf
          refine x_Vi (As := [.int ((M20.1 1 (0 : Int32).toNatClampNeg) - 1)]) (rest := []) E.1 (m_X10_done l er21) (cwV 1 hts (xgV xU_sub q221 q222 q223 q5 q224) rfl rfl rfl hdX10_done ⟨Nat.le_of_ble_eq_true rfl, Nat.le_of_ble_eq_true rfl⟩) h kR_model rfl rfl hl.1 rfl (Nat.le_of_ble_eq_true rfl) dX10_addColorant_129 ⟨Nat.le_of_ble_eq_true rfl, Nat.le_of_ble_eq_true rfl⟩ (fun H locs h => ?_)
          exact x_iret hx hb h (Option.some.inj hf) hr hlocks dX10_addColorant_132
        · replace hf := xif_t hf c9
          refine lv_aload_n hx hb dX10_addColorant_47 rfl (lv_at hl 0 rfl) ?_
          refine lv_iconst (v := 2) hx hb dX10_addColorant_48 (by decide) ?_
          obtain ⟨r22, er22, hf⟩ := xbd_s hf
          refine x_Vi (As := [.int 2]) (rest := []) E.1 (m_X10_fails l er22) (cwV 1 hts (xgV xU_sub q208 q209 q210 q5 q211) rfl rfl rfl hdX10_fails ⟨Nat.le_of_ble_eq_true rfl, Nat.le_of_ble_eq_true rfl⟩) h kR_model rfl rfl hl.1 rfl (Nat.le_of_ble_eq_true rfl) dX10_addColorant_49 ⟨Nat.le_of_ble_eq_true rfl, Nat.le_of_ble_eq_true rfl⟩ (fun H locs h => ?_)
          exact x_iret hx hb h (Option.some.inj hf) hr hlocks dX10_addColorant_52
      · replace hf := xif_t hf c8
        refine lv_aload_n hx hb dX10_addColorant_30 rfl (lv_at hl 0 rfl) ?_
        refine lv_iconst (v := 1) hx hb dX10_addColorant_31 (by decide) ?_
        obtain ⟨r23, er23, hf⟩ := xbd_s hf
        refine x_Vi (As := [.int 1]) (rest := []) E.1 (m_X10_fails l er23) (cwV 1 hts (xgV xU_sub q208 q209 q210 q5 q211) rfl rfl rfl hdX10_fails ⟨Nat.le_of_ble_eq_true rfl, Nat.le_of_ble_eq_true rfl⟩) h kR_model rfl rfl hl.1 rfl (Nat.le_of_ble_eq_true rfl) dX10_addColorant_32 ⟨Nat.le_of_ble_eq_true rfl, Nat.le_of_ble_eq_true rfl⟩ (fun H locs h => ?_)
        exact x_iret hx hb h (Option.some.inj hf) hr hlocks dX10_addColorant_35
theorem hdX10_inCanister : yX10_inCanister.cls = RX10 ∧ yX10_inCanister.cls ≠ "java/lang/invoke/MethodHandle" ∧ yX10_inCanister.cls ≠ "java/lang/invoke/VarHandle" ∧ (parseMethodDescriptor yX10_inCanister.desc).map (fun d => d.parameters.length) = some 1 := by decide +kernel
set_option maxHeartbeats 4000000 in
set_option maxRecDepth 100000 in
theorem w_X10_inCanister_4 (l : Launch) {p : Program} {e : Env} {s : State} {m : MethodId} {args : Array Value} {below : List Frame} {meth : Method} {c : Code} {Γ : xG} {N : Nat} {res : xR} (E : xEv p s m args meth c RX10 cX10_inCanister 4 (some .int) (xWs yX10_inCanister cX10_inCanister 4 (some .int))) : ∀ (n : Nat) (v1 : Int32) (v2 : Int32) (v3 : Int32) (M : xM), L_X10_inCanister_4 N n v1 v2 v3 M = some res → ∀ (H : Heap) (locs : List Loc) (ls : Array Slot), xH Γ (wR Γ) 10 s M H locs → lv_has ls 4 [(0, .ref (Γ.2.1 0)), (1, .int v1), (2, .int v2), (3, .int v3)] → W p l e ({ frames := 2, cells := 0, slots := 0, locals := 62 } : Room) s m args below meth c H locs 0 0 (MQ below (xCi Γ (wR Γ) 10 res s.heap.size) args s 0 0 (xAd Γ 10 s.heap.size)) (F0 m 4 ls []) := by
  obtain ⟨⟨hx, hb, hml, hown, hts⟩, hr, hlocks⟩ := id E
  intro n
  induction n with
  | zero => intro v1 v2 v3 M hf; cases hf
  | succ n ih =>
    intro v1 v2 v3 M hf H locs ls h hl
    refine lv_iload_n hx hb dX10_inCanister_4 rfl (lv_at hl 3 rfl) ?_
    refine lv_aload_n hx hb dX10_inCanister_5 rfl (lv_at hl 0 rfl) ?_
    refine lv_iload_n hx hb dX10_inCanister_6 rfl (lv_at hl 1 rfl) ?_
    refine lv_iconst (v := 3) hx hb dX10_inCanister_7 (by decide) ?_
    obtain ⟨r1, er1, hf⟩ := xbd_s hf
    refine x_Vi (As := [.int v1, .int 3]) (rest := [.int v3]) E.1 (m_X10_colorantAt l er1) (cwV 2 hts (xgV xU_sub q253 q254 q255 q5 q256) rfl rfl rfl hdX10_colorantAt ⟨Nat.le_of_ble_eq_true rfl, Nat.le_of_ble_eq_true rfl⟩) h kR_model rfl rfl hl.1 rfl (Nat.le_of_ble_eq_true rfl) dX10_inCanister_8 ⟨Nat.le_of_ble_eq_true rfl, Nat.le_of_ble_eq_true rfl⟩ (fun H locs h => ?_)
    refine lv_icmp_ge (tgt := 32) hx hb dX10_inCanister_11 (by decide) (fun c2 => ?_) (fun c2 => ?_)
    · replace hf := xif_t hf c2
      refine lv_iload_n hx hb dX10_inCanister_32 rfl (lv_at hl 2 rfl) ?_
      exact x_iret hx hb h (Option.some.inj hf) hr hlocks dX10_inCanister_33
    · replace hf := xif_f hf c2
      refine lv_iload_n hx hb dX10_inCanister_14 rfl (lv_at hl 2 rfl) ?_
      refine lv_aload_n hx hb dX10_inCanister_15 rfl (lv_at hl 0 rfl) ?_
      refine lv_iload_n hx hb dX10_inCanister_16 rfl (lv_at hl 1 rfl) ?_
      refine lv_bipush (v := 19) hx hb dX10_inCanister_17 (by decide) ?_
      refine lv_iload_n hx hb dX10_inCanister_19 rfl (lv_at hl 3 rfl) ?_
      refine lv_iadd hx hb dX10_inCanister_20 ?_
      obtain ⟨r3, er3, hf⟩ := xbd_s hf
      refine x_Vi (As := [.int v1, .int (19 + v3)]) (rest := [.int v2]) E.1 (m_X10_colorantAt l er3) (cwV 2 hts (xgV xU_sub q253 q254 q255 q5 q256) rfl rfl rfl hdX10_colorantAt ⟨Nat.le_of_ble_eq_true rfl, Nat.le_of_ble_eq_true rfl⟩) h kR_model rfl rfl hl.1 rfl (Nat.le_of_ble_eq_true rfl) dX10_inCanister_21 ⟨Nat.le_of_ble_eq_true rfl, Nat.le_of_ble_eq_true rfl⟩ (fun H locs h => ?_)
      refine lv_iadd hx hb dX10_inCanister_24 ?_
      obtain ⟨y4, ey4, hf⟩ := xl_s hf
      refine x_nm ey4 ?_
      refine lv_istore_n (lv' := [(2, .int y4), (0, .ref (Γ.2.1 0)), (1, .int v1), (3, .int v3)]) hx hb dX10_inCanister_25 rfl hl (by decide) rfl (fun ls hl => ?_)
      obtain ⟨y5, ey5, hf⟩ := xl_s hf
      refine lv_iinc (v := y5) (lv' := [(3, .int y5), (2, .int y4), (0, .ref (Γ.2.1 0)), (1, .int v1)]) hx hb dX10_inCanister_26 hl (k := 3) rfl (by rw [ey5]; rfl) (by decide) rfl (fun ls hl => ?_)
      refine lv_goto (tgt := 4) hx hb dX10_inCanister_29 (by decide) ?_
      exact ih v1 y4 y5 r3.1 hf _ _ _ h (lv_sub hl [2, 3, 1, 0] rfl)
set_option maxHeartbeats 4000000 in
set_option maxRecDepth 100000 in
theorem m_X10_inCanister (l : Launch) {Γ : xG} {N : Nat} {v1 : Int32} {M : xM} {res : xR} (hf : F_X10_inCanister N v1 M = some res) (sz : Nat) : Met l yX10_inCanister (xWs yX10_inCanister cX10_inCanister 4 (some .int)) ({ frames := 2, cells := 0, slots := 0, locals := 62 } : Room) (va_Pc [.ref (Γ.2.1 0), .int v1] (xPre Γ (wR Γ) M sz)) (xCi Γ (wR Γ) 10 res sz) 0 0 (xAd Γ 10 sz) := by
  refine x_met (Qc := fun sz => xCi Γ (wR Γ) 10 res sz) pnX10 wG_W (Nat.le_of_ble_eq_true rfl) (fun p e s m args below meth c _ E h ls hl => ?_) sz
  obtain ⟨⟨hx, hb, hml, hown, hts⟩, hr, hlocks⟩ := id E
  have hl : lv_has ls 4 [(0, .ref (Γ.2.1 0)), (1, .int v1)] := hl
  refine lv_iconst (v := 0) hx hb dX10_inCanister_0 (by decide) ?_
  refine lv_istore_n (lv' := [(2, .int 0), (0, .ref (Γ.2.1 0)), (1, .int v1)]) hx hb dX10_inCanister_1 rfl hl (by decide) rfl (fun ls hl => ?_)
  refine lv_iconst (v := 0) hx hb dX10_inCanister_2 (by decide) ?_
  refine lv_istore_n (lv' := [(3, .int 0), (2, .int 0), (0, .ref (Γ.2.1 0)), (1, .int v1)]) hx hb dX10_inCanister_3 rfl hl (by decide) rfl (fun ls hl => ?_)
  exact w_X10_inCanister_4 l E N v1 0 0 M hf _ _ _ h (lv_sub hl [2, 3, 1, 0] rfl)
theorem hdX10_refill : yX10_refill.cls = RX10 ∧ yX10_refill.cls ≠ "java/lang/invoke/MethodHandle" ∧ yX10_refill.cls ≠ "java/lang/invoke/VarHandle" ∧ (parseMethodDescriptor yX10_refill.desc).map (fun d => d.parameters.length) = some 3 := by decide +kernel
set_option maxHeartbeats 4000000 in
set_option maxRecDepth 100000 in
theorem m_X10_refill (l : Launch) {Γ : xG} {N : Nat} {v1 : Int32} {v2 : Int32} {v3 : Int32} {M : xM} {res : xR} (hf : F_X10_refill N v1 v2 v3 M = some res) (sz : Nat) : Met l yX10_refill (xWs yX10_refill cX10_refill 5 (some .int)) ({ frames := 3, cells := 0, slots := 0, locals := 85 } : Room) (va_Pc [.ref (Γ.2.1 0), .int v1, .int v2, .int v3] (xPre Γ (wR Γ) M sz)) (xCi Γ (wR Γ) 10 res sz) 0 0 (xAd Γ 10 sz) := by
  refine x_met (Qc := fun sz => xCi Γ (wR Γ) 10 res sz) pnX10 wG_W (Nat.le_of_ble_eq_true rfl) (fun p e s m args below meth c _ E h ls hl => ?_) sz
  obtain ⟨⟨hx, hb, hml, hown, hts⟩, hr, hlocks⟩ := id E
  have hl : lv_has ls 5 [(0, .ref (Γ.2.1 0)), (1, .int v1), (2, .int v2), (3, .int v3)] := hl
  refine lv_aload_n hx hb dX10_refill_0 rfl (lv_at hl 0 rfl) ?_
  refine lv_iload_n hx hb dX10_refill_1 rfl (lv_at hl 1 rfl) ?_
  obtain ⟨r1, er1, hf⟩ := xbd_s hf
  refine x_Vi (As := [.int v1]) (rest := []) E.1 (m_X10_isColorant l er1) (cwV 1 hts (xgV xU_sub q249 q250 q251 q5 q252) rfl rfl rfl hdX10_isColorant ⟨Nat.le_of_ble_eq_true rfl, Nat.le_of_ble_eq_true rfl⟩) h kR_model rfl rfl hl.1 rfl (Nat.le_of_ble_eq_true rfl) dX10_refill_2 ⟨Nat.le_of_ble_eq_true rfl, Nat.le_of_ble_eq_true rfl⟩ (fun H locs h => ?_)
  refine lv_if_ne (tgt := 14) hx hb dX10_refill_5 (by decide) (fun c2 => ?_) (fun c2 => ?_)
  · replace hf := xif_f hf c2
    refine lv_iload_n hx hb dX10_refill_14 rfl (lv_at hl 2 rfl) ?_
    obtain ⟨r3, er3, hf⟩ := xbd_s hf
    refine x_Si (As := [.int v2]) (rest := []) E.1 (m_X10_isLot l er3) (cwS 1 hts (xgS xU_sub q285 q286 q5 q287) rfl rfl rfl hdX10_isLot ⟨Nat.le_of_ble_eq_true rfl, Nat.le_of_ble_eq_true rfl⟩) h rfl hl.1 rfl (Nat.le_of_ble_eq_true rfl) dX10_refill_15 ⟨Nat.le_of_ble_eq_true rfl, Nat.le_of_ble_eq_true rfl⟩ (fun H locs h => ?_)
    refine lv_if_eq (tgt := 32) hx hb dX10_refill_18 (by decide) (fun c4 => ?_) (fun c4 => ?_)
    · replace hf := xif_t hf c4
      refine lv_aload_n hx hb dX10_refill_32 rfl (lv_at hl 0 rfl) ?_
      refine lv_iconst (v := 2) hx hb dX10_refill_33 (by decide) ?_
      obtain ⟨r5, er5, hf⟩ := xbd_s hf
      refine x_Vi (As := [.int 2]) (rest := []) E.1 (m_X10_fails l er5) (cwV 1 hts (xgV xU_sub q208 q209 q210 q5 q211) rfl rfl rfl hdX10_fails ⟨Nat.le_of_ble_eq_true rfl, Nat.le_of_ble_eq_true rfl⟩) h kR_model rfl rfl hl.1 rfl (Nat.le_of_ble_eq_true rfl) dX10_refill_34 ⟨Nat.le_of_ble_eq_true rfl, Nat.le_of_ble_eq_true rfl⟩ (fun H locs h => ?_)
      exact x_iret hx hb h (Option.some.inj hf) hr hlocks dX10_refill_37
    · replace hf := xif_f hf c4
      refine lv_iload_n hx hb dX10_refill_21 rfl (lv_at hl 3 rfl) ?_
      refine lv_iconst (v := 1) hx hb dX10_refill_22 (by decide) ?_
      refine lv_sipush (v := 500) hx hb dX10_refill_23 (by decide) ?_
      obtain ⟨r6, er6, hf⟩ := xbd_s hf
      refine x_Si (As := [.int v3, .int 1, .int 500]) (rest := []) E.1 (m_X10_in l er6) (cwS 3 hts (xgS xU_sub q205 q206 q5 q207) rfl rfl rfl hdX10_in ⟨Nat.le_of_ble_eq_true rfl, Nat.le_of_ble_eq_true rfl⟩) h rfl hl.1 rfl (Nat.le_of_ble_eq_true rfl) dX10_refill_26 ⟨Nat.le_of_ble_eq_true rfl, Nat.le_of_ble_eq_true rfl⟩ (fun H locs h => ?_)
      refine lv_if_ne (tgt := 38) hx hb dX10_refill_29 (by decide) (fun c7 => ?_) (fun c7 => ?_)
      · replace hf := xif_f hf c7
        refine lv_aload_n hx hb dX10_refill_38 rfl (lv_at hl 0 rfl) ?_
        refine lv_iload_n hx hb dX10_refill_39 rfl (lv_at hl 1 rfl) ?_
        refine lv_iconst (v := 3) hx hb dX10_refill_40 (by decide) ?_
        obtain ⟨r8, er8, hf⟩ := xbd_s hf
        refine x_Vi (As := [.int v1, .int 3]) (rest := []) E.1 (m_X10_colorantAt l er8) (cwV 2 hts (xgV xU_sub q253 q254 q255 q5 q256) rfl rfl rfl hdX10_colorantAt ⟨Nat.le_of_ble_eq_true rfl, Nat.le_of_ble_eq_true rfl⟩) h kR_model rfl rfl hl.1 rfl (Nat.le_of_ble_eq_true rfl) dX10_refill_41 ⟨Nat.le_of_ble_eq_true rfl, Nat.le_of_ble_eq_true rfl⟩ (fun H locs h => ?_)
        refine lv_bipush (v := 12) hx hb dX10_refill_44 (by decide) ?_
        refine lv_icmp_ne (tgt := 56) hx hb dX10_refill_46 (by decide) (fun c9 => ?_) (fun c9 => ?_)
        · replace hf := xif_f hf c9
          refine lv_aload_n hx hb dX10_refill_56 rfl (lv_at hl 0 rfl) ?_
          obtain ⟨r10, er10, hf⟩ := xbd_s hf
          refine x_Vv (As := []) (rest := []) E.1 (m_X10_remembers l er10) (cwV 0 hts (xgV xU_sub q213 q214 q215 q5 q216) rfl rfl rfl hdX10_remembers ⟨Nat.le_of_ble_eq_true rfl, Nat.le_of_ble_eq_true rfl⟩) h kR_model rfl rfl hl.1 rfl (Nat.le_of_ble_eq_true rfl) dX10_refill_57 ⟨Nat.le_of_ble_eq_true rfl, Nat.le_of_ble_eq_true rfl⟩ (fun H locs h => ?_)
          refine lv_iconst (v := 5) hx hb dX10_refill_60 (by decide) ?_
          refine lv_bipush (v := 46) hx hb dX10_refill_61 (by decide) ?_
          refine lv_iload_n hx hb dX10_refill_63 rfl (lv_at hl 1 rfl) ?_
          refine lv_imul hx hb dX10_refill_64 ?_
          refine lv_iadd hx hb dX10_refill_65 ?_
          obtain ⟨y11, ey11, hf⟩ := xl_s hf
          refine x_nm ey11 ?_
          refine lv_istore (lv' := [(4, .int y11), (0, .ref (Γ.2.1 0)), (1, .int v1), (2, .int v2), (3, .int v3)]) hx hb dX10_refill_66 hl (by decide) rfl (fun ls hl => ?_)
          refine lv_aload_n hx hb dX10_refill_68 rfl (lv_at hl 1 rfl) ?_
          refine x_get (own := RX10) (ref := "TintDeskModel") (C := RX10) (T := TX10) (n := 20) (index := 9) (v := .ref (Γ.2.1 1)) hx hb hts (fun w h => xU_sub w (inU10 w h)) hown h kR_model rfl 1 (by decide) (hts _ (xU_sub _ q132)) (fun _ h9 => h9) rfl dX10_refill_69 ?_
          refine lv_iload hx hb dX10_refill_72 (lv_at hl 0 rfl) ?_
          refine lv_bipush (v := 7) hx hb dX10_refill_74 (by decide) ?_
          refine lv_iadd hx hb dX10_refill_76 ?_
          refine lv_aload_n hx hb dX10_refill_77 rfl (lv_at hl 1 rfl) ?_
          refine x_get (own := RX10) (ref := "TintDeskModel") (C := RX10) (T := TX10) (n := 20) (index := 9) (v := .ref (Γ.2.1 1)) hx hb hts (fun w h => xU_sub w (inU10 w h)) hown h kR_model rfl 1 (by decide) (hts _ (xU_sub _ q132)) (fun _ h9 => h9) rfl dX10_refill_78 ?_
          refine lv_iload hx hb dX10_refill_81 (lv_at hl 0 rfl) ?_
          refine lv_iconst (v := 3) hx hb dX10_refill_83 (by decide) ?_
          refine lv_iadd hx hb dX10_refill_84 ?_
          obtain ⟨c12, hf⟩ := xck_s hf
          refine x_iald hx hb h kR_g (xin_in c12) dX10_refill_85 ?_
          refine lv_iadd hx hb dX10_refill_86 ?_
          refine lv_iload_n hx hb dX10_refill_87 rfl (lv_at hl 3 rfl) ?_
          obtain ⟨c13, hf⟩ := xck_s hf
          obtain ⟨M14, eM14, hf⟩ := xl_s hf
          refine x_iast hx hb h kR_g (xin_in c13) eM14 dX10_refill_88 (fun H locs h => ?_)
          refine lv_aload_n hx hb dX10_refill_89 rfl (lv_at hl 1 rfl) ?_
          refine x_get (own := RX10) (ref := "TintDeskModel") (C := RX10) (T := TX10) (n := 20) (index := 9) (v := .ref (Γ.2.1 1)) hx hb hts (fun w h => xU_sub w (inU10 w h)) hown h kR_model rfl 1 (by decide) (hts _ (xU_sub _ q132)) (fun _ h9 => h9) rfl dX10_refill_90 ?_
          refine lv_iload hx hb dX10_refill_93 (lv_at hl 0 rfl) ?_
          refine lv_bipush (v := 19) hx hb dX10_refill_95 (by decide) ?_
          refine lv_iadd hx hb dX10_refill_97 ?_
          refine lv_aload_n hx hb dX10_refill_98 rfl (lv_at hl 1 rfl) ?_
          refine x_get (own := RX10) (ref := "TintDeskModel") (C := RX10) (T := TX10) (n := 20) (index := 9) (v := .ref (Γ.2.1 1)) hx hb hts (fun w h => xU_sub w (inU10 w h)) hown h kR_model rfl 1 (by decide) (hts _ (xU_sub _ q132)) (fun _ h9 => h9) rfl dX10_refill_99 ?_
          refine lv_iload hx hb dX10_refill_102 (lv_at hl 0 rfl) ?_
          refine lv_iconst (v := 3) hx hb dX10_refill_104 (by decide) ?_
          refine lv_iadd hx hb dX10_refill_105 ?_
          obtain ⟨c15, hf⟩ := xck_s hf
          refine x_iald hx hb h kR_g (xin_in c15) dX10_refill_106 ?_
          refine lv_iadd hx hb dX10_refill_107 ?_
          refine lv_iload_n hx hb dX10_refill_108 rfl (lv_at hl 4 rfl) ?_
          obtain ⟨c16, hf⟩ := xck_s hf
          obtain ⟨M17, eM17, hf⟩ := xl_s hf
          refine x_iast hx hb h kR_g (xin_in c16) eM17 dX10_refill_109 (fun H locs h => ?_)
          refine lv_aload_n hx hb dX10_refill_110 rfl (lv_at hl 1 rfl) ?_
          refine x_get (own := RX10) (ref := "TintDeskModel") (C := RX10) (T := TX10) (n := 20) (index := 9) (v := .ref (Γ.2.1 1)) hx hb hts (fun w h => xU_sub w (inU10 w h)) hown h kR_model rfl 1 (by decide) (hts _ (xU_sub _ q132)) (fun _ h9 => h9) rfl dX10_refill_111 ?_
          refine lv_iload hx hb dX10_refill_114 (lv_at hl 0 rfl) ?_
          refine lv_bipush (v := 31) hx hb dX10_refill_116 (by decide) ?_
          refine lv_iadd hx hb dX10_refill_118 ?_
          refine lv_aload_n hx hb dX10_refill_119 rfl (lv_at hl 1 rfl) ?_
          refine x_get (own := RX10) (ref := "TintDeskModel") (C := RX10) (T := TX10) (n := 20) (index := 9) (v := .ref (Γ.2.1 1)) hx hb hts (fun w h => xU_sub w (inU10 w h)) hown h kR_model rfl 1 (by decide) (hts _ (xU_sub _ q132)) (fun _ h9 => h9) rfl dX10_refill_120 ?_
          refine lv_iload hx hb dX10_refill_123 (lv_at hl 0 rfl) ?_
          refine lv_iconst (v := 3) hx hb dX10_refill_125 (by decide) ?_
          refine lv_iadd hx hb dX10_refill_126 ?_
          obtain ⟨c18, hf⟩ := xck_s hf
          refine x_iald hx hb h kR_g (xin_in c18) dX10_refill_127 ?_
          refine lv_iadd hx hb dX10_refill_128 ?_
          refine lv_aload_n hx hb dX10_refill_129 rfl (lv_at hl 1 rfl) ?_
          refine x_get (own := RX10) (ref := "TintDeskModel") (C := RX10) (T := TX10) (n := 20) (index := 9) (v := .ref (Γ.2.1 1)) hx hb hts (fun w h => xU_sub w (inU10 w h)) hown h kR_model rfl 1 (by decide) (hts _ (xU_sub _ q132)) (fun _ h9 => h9) rfl dX10_refill_130 ?_
          refine lv_iconst (v := 4) hx hb dX10_refill_133 (by decide) ?_
          refine x_iald hx hb h kR_g (xin_in (by decide)) dX10_refill_134 ?_
          refine lv_aload_n hx hb dX10_refill_135 rfl (lv_at hl 1 rfl) ?_
          refine x_get (own := RX10) (ref := "TintDeskModel") (C := RX10) (T := TX10) (n := 20) (index := 9) (v := .ref (Γ.2.1 1)) hx hb hts (fun w h => xU_sub w (inU10 w h)) hown h kR_model rfl 1 (by decide) (hts _ (xU_sub _ q132)) (fun _ h9 => h9) rfl dX10_refill_136 ?_
          refine lv_iload hx hb dX10_refill_139 (lv_at hl 0 rfl) ?_
          refine lv_bipush (v := 44) hx hb dX10_refill_141 (by decide) ?_
          refine lv_iadd hx hb dX10_refill_143 ?_
          obtain ⟨c19, hf⟩ := xck_s hf
          refine x_iald hx hb h kR_g (xin_in c19) dX10_refill_144 ?_
          refine lv_iadd hx hb dX10_refill_145 ?_
          obtain ⟨c20, hf⟩ := xck_s hf
          obtain ⟨M21, eM21, hf⟩ := xl_s hf
          refine x_iast hx hb h kR_g (xin_in c20) eM21 dX10_refill_146 (fun H locs h => ?_)
          refine lv_aload_n hx hb dX10_refill_147 rfl (lv_at hl 1 rfl) ?_
          refine x_get (own := RX10) (ref := "TintDeskModel") (C := RX10) (T := TX10) (n := 20) (index := 9) (v := .ref (Γ.2.1 1)) hx hb hts (fun w h => xU_sub w (inU10 w h)) hown h kR_model rfl 1 (by decide) (hts _ (xU_sub _ q132)) (fun _ h9 => h9) rfl dX10_refill_148 ?_
          refine lv_iload hx hb dX10_refill_151 (lv_at hl 0 rfl) ?_
          refine lv_iconst (v := 3) hx hb dX10_refill_153 (by decide) ?_
          refine lv_iadd hx hb dX10_refill_154 ?_
          refine lv_dup2_11 hx hb dX10_refill_155 rfl rfl ?_
          obtain ⟨c22, hf⟩ := xck_s hf
          refine x_iald hx hb h kR_g (xin_in c22) dX10_refill_156 ?_
          refine lv_iconst (v := 1) hx hb dX10_refill_157 (by decide) ?_
          refine lv_iadd hx hb dX10_refill_158 ?_
          obtain ⟨c23, hf⟩ := xck_s hf
          obtain ⟨M24, eM24, hf⟩ := xl_s hf
          refine x_iast hx hb h kR_g (xin_in c23) eM24 dX10_refill_159 (fun H locs h => ?_)
          refine lv_aload_n hx hb dX10_refill_160 rfl (lv_at hl 1 rfl) ?_
          refine x_get (own := RX10) (ref := "TintDeskModel") (C := RX10) (T := TX10) (n := 20) (index := 9) (v := .ref (Γ.2.1 1)) hx hb hts (fun w h => xU_sub w (inU10 w h)) hown h kR_model rfl 1 (by decide) (hts _ (xU_sub _ q132)) (fun _ h9 => h9) rfl dX10_refill_161 ?_
          refine lv_iload hx hb dX10_refill_164 (lv_at hl 0 rfl) ?_
          refine lv_iconst (v := 4) hx hb dX10_refill_166 (by decide) ?_
          refine lv_iadd hx hb dX10_refill_167 ?_
          refine lv_dup2_11 hx hb dX10_refill_168 rfl rfl ?_
          obtain ⟨c25, hf⟩ := xck_s hf
          refine x_iald hx hb h kR_g (xin_in c25) dX10_refill_169 ?_
          refine lv_iload_n hx hb dX10_refill_170 rfl (lv_at hl 4 rfl) ?_
          refine lv_iadd hx hb dX10_refill_171 ?_
          obtain ⟨c26, hf⟩ := xck_s hf
          obtain ⟨M27, eM27, hf⟩ := xl_s hf
          refine x_iast hx hb h kR_g (xin_in c26) eM27 dX10_refill_172 (fun H locs h => ?_)
          refine lv_aload_n hx hb dX10_refill_173 rfl (lv_at hl 1 rfl) ?_
          refine lv_aload_n hx hb dX10_refill_174 rfl (lv_at hl 1 rfl) ?_
          refine lv_iload_n hx hb dX10_refill_175 rfl (lv_at hl 2 rfl) ?_
          obtain ⟨r28, er28, hf⟩ := xbd_s hf
          refine x_Vi (As := [.int v1]) (rest := [.ref (Γ.2.1 0)]) E.1 (m_X10_inCanister l er28) (cwV 1 hts (xgV xU_sub q293 q294 q295 q5 q296) rfl rfl rfl hdX10_inCanister ⟨Nat.le_of_ble_eq_true rfl, Nat.le_of_ble_eq_true rfl⟩) h kR_model rfl rfl hl.1 rfl (Nat.le_of_ble_eq_true rfl) dX10_refill_176 ⟨Nat.le_of_ble_eq_true rfl, Nat.le_of_ble_eq_true rfl⟩ (fun H locs h => ?_)
          obtain ⟨r29, er29, hf⟩ := xbd_s hf
          refine x_Vi (As := [.int r28.2]) (rest := []) E.1 (m_X10_done l er29) (cwV 1 hts (xgV xU_sub q221 q222 q223 q5 q224) rfl rfl rfl hdX10_done ⟨Nat.le_of_ble_eq_true rfl, Nat.le_of_ble_eq_true rfl⟩) h kR_model rfl rfl hl.1 rfl (Nat.le_of_ble_eq_true rfl) dX10_refill_179 ⟨Nat.le_of_ble_eq_true rfl, Nat.le_of_ble_eq_true rfl⟩ (fun H locs h => ?_)
          exact x_iret hx hb h (Option.some.inj hf) hr hlocks dX10_refill_182
        · replace hf := xif_t hf c9
          refine lv_aload_n hx hb dX10_refill_49 rfl (lv_at hl 0 rfl) ?_
          refine lv_iconst (v := 2) hx hb dX10_refill_50 (by decide) ?_
          refine lv_iconst (v := 3) hx hb dX10_refill_51 (by decide) ?_
          obtain ⟨r30, er30, hf⟩ := xbd_s hf
          refine x_Vi (As := [.int 2, .int 3]) (rest := []) E.1 (m_X10_refuses l er30) (cwV 2 hts (xgV xU_sub q288 q289 q290 q5 q291) rfl rfl rfl hdX10_refuses ⟨Nat.le_of_ble_eq_true rfl, Nat.le_of_ble_eq_true rfl⟩) h kR_model rfl rfl hl.1 rfl (Nat.le_of_ble_eq_true rfl) dX10_refill_52 ⟨Nat.le_of_ble_eq_true rfl, Nat.le_of_ble_eq_true rfl⟩ (fun H locs h => ?_)
          exact x_iret hx hb h (Option.some.inj hf) hr hlocks dX10_refill_55
      · replace hf := xif_t hf c7
        refine lv_aload_n hx hb dX10_refill_32 rfl (lv_at hl 0 rfl) ?_
        refine lv_iconst (v := 2) hx hb dX10_refill_33 (by decide) ?_
        obtain ⟨r31, er31, hf⟩ := xbd_s hf
        refine x_Vi (As := [.int 2]) (rest := []) E.1 (m_X10_fails l er31) (cwV 1 hts (xgV xU_sub q208 q209 q210 q5 q211) rfl rfl rfl hdX10_fails ⟨Nat.le_of_ble_eq_true rfl, Nat.le_of_ble_eq_true rfl⟩) h kR_model rfl rfl hl.1 rfl (Nat.le_of_ble_eq_true rfl) dX10_refill_34 ⟨Nat.le_of_ble_eq_true rfl, Nat.le_of_ble_eq_true rfl⟩ (fun H locs h => ?_)
        exact x_iret hx hb h (Option.some.inj hf) hr hlocks dX10_refill_37
  · replace hf := xif_t hf c2
    refine lv_aload_n hx hb dX10_refill_8 rfl (lv_at hl 0 rfl) ?_
    refine lv_iconst (v := 1) hx hb dX10_refill_9 (by decide) ?_
    obtain ⟨r32, er32, hf⟩ := xbd_s hf
    refine x_Vi (As := [.int 1]) (rest := []) E.1 (m_X10_fails l er32) (cwV 1 hts (xgV xU_sub q208 q209 q210 q5 q211) rfl rfl rfl hdX10_fails ⟨Nat.le_of_ble_eq_true rfl, Nat.le_of_ble_eq_true rfl⟩) h kR_model rfl rfl hl.1 rfl (Nat.le_of_ble_eq_true rfl) dX10_refill_10 ⟨Nat.le_of_ble_eq_true rfl, Nat.le_of_ble_eq_true rfl⟩ (fun H locs h => ?_)
    exact x_iret hx hb h (Option.some.inj hf) hr hlocks dX10_refill_13
theorem hdX10_goes : yX10_goes.cls = RX10 ∧ yX10_goes.cls ≠ "java/lang/invoke/MethodHandle" ∧ yX10_goes.cls ≠ "java/lang/invoke/VarHandle" ∧ (parseMethodDescriptor yX10_goes.desc).map (fun d => d.parameters.length) = some 2 := by decide +kernel
set_option maxHeartbeats 4000000 in
set_option maxRecDepth 100000 in
theorem w_X10_goes_10 (l : Launch) {p : Program} {e : Env} {s : State} {m : MethodId} {args : Array Value} {below : List Frame} {meth : Method} {c : Code} {Γ : xG} {N : Nat} {res : xR} (E : xEv p s m args meth c RX10 cX10_goes 5 none (xWs yX10_goes cX10_goes 5 none)) : ∀ (n : Nat) (v3 : Int32) (v4 : Int32) (M : xM), L_X10_goes_10 N n v3 v4 M = some res → ∀ (H : Heap) (locs : List Loc) (ls : Array Slot), xH Γ (wR Γ) 10 s M H locs → lv_has ls 5 [(0, .ref (Γ.2.1 0)), (3, .int v3), (4, .int v4)] → W p l e ({ frames := 1, cells := 0, slots := 0, locals := 40 } : Room) s m args below meth c H locs 0 0 (MQ below (xCv Γ (wR Γ) 10 res s.heap.size) args s 0 0 (xAd Γ 10 s.heap.size)) (F0 m 10 ls []) := by
  obtain ⟨⟨hx, hb, hml, hown, hts⟩, hr, hlocks⟩ := id E
  intro n
  induction n with
  | zero => intro v3 v4 M hf; cases hf
  | succ n ih =>
    intro v3 v4 M hf H locs ls h hl
    refine lv_iload hx hb dX10_goes_10 (lv_at hl 2 rfl) ?_
    refine lv_aload_n hx hb dX10_goes_12 rfl (lv_at hl 0 rfl) ?_
    refine x_get (own := RX10) (ref := "TintDeskModel") (C := RX10) (T := TX10) (n := 20) (index := 9) (v := .ref (Γ.2.1 1)) hx hb hts (fun w h => xU_sub w (inU10 w h)) hown h kR_model rfl 1 (by decide) (hts _ (xU_sub _ q132)) (fun _ h9 => h9) rfl dX10_goes_13 ?_
    refine lv_iload_n hx hb dX10_goes_16 rfl (lv_at hl 1 rfl) ?_
    refine lv_iconst (v := 3) hx hb dX10_goes_17 (by decide) ?_
    refine lv_iadd hx hb dX10_goes_18 ?_
    obtain ⟨c1, hf⟩ := xck_s hf
    refine x_iald hx hb h kR_g (xin_in c1) dX10_goes_19 ?_
    refine lv_iconst (v := 1) hx hb dX10_goes_20 (by decide) ?_
    refine lv_isub hx hb dX10_goes_21 ?_
    refine lv_icmp_ge (tgt := 109) hx hb dX10_goes_22 (by decide) (fun c2 => ?_) (fun c2 => ?_)
    · replace hf := xif_t hf c2
      refine lv_aload_n hx hb dX10_goes_109 rfl (lv_at hl 0 rfl) ?_
      refine x_get (own := RX10) (ref := "TintDeskModel") (C := RX10) (T := TX10) (n := 20) (index := 9) (v := .ref (Γ.2.1 1)) hx hb hts (fun w h => xU_sub w (inU10 w h)) hown h kR_model rfl 1 (by decide) (hts _ (xU_sub _ q132)) (fun _ h9 => h9) rfl dX10_goes_110 ?_
      refine lv_iload_n hx hb dX10_goes_113 rfl (lv_at hl 1 rfl) ?_
      refine lv_iconst (v := 3) hx hb dX10_goes_114 (by decide) ?_
      refine lv_iadd hx hb dX10_goes_115 ?_
      refine lv_dup2_11 hx hb dX10_goes_116 rfl rfl ?_
      obtain ⟨c3, hf⟩ := xck_s hf
      refine x_iald hx hb h kR_g (xin_in c3) dX10_goes_117 ?_
      refine lv_iconst (v := 1) hx hb dX10_goes_118 (by decide) ?_
      refine lv_isub hx hb dX10_goes_119 ?_
      obtain ⟨c4, hf⟩ := xck_s hf
      obtain ⟨M5, eM5, hf⟩ := xl_s hf
      refine x_iast hx hb h kR_g (xin_in c4) eM5 dX10_goes_120 (fun H locs h => ?_)
      exact x_vret hx hb h (Option.some.inj hf) hr hlocks dX10_goes_121
    · replace hf := xif_f hf c2
      refine lv_aload_n hx hb dX10_goes_25 rfl (lv_at hl 0 rfl) ?_
      refine x_get (own := RX10) (ref := "TintDeskModel") (C := RX10) (T := TX10) (n := 20) (index := 9) (v := .ref (Γ.2.1 1)) hx hb hts (fun w h => xU_sub w (inU10 w h)) hown h kR_model rfl 1 (by decide) (hts _ (xU_sub _ q132)) (fun _ h9 => h9) rfl dX10_goes_26 ?_
      refine lv_iload_n hx hb dX10_goes_29 rfl (lv_at hl 1 rfl) ?_
      refine lv_bipush (v := 7) hx hb dX10_goes_30 (by decide) ?_
      refine lv_iadd hx hb dX10_goes_32 ?_
      refine lv_iload hx hb dX10_goes_33 (lv_at hl 2 rfl) ?_
      refine lv_iadd hx hb dX10_goes_35 ?_
      refine lv_aload_n hx hb dX10_goes_36 rfl (lv_at hl 0 rfl) ?_
      refine x_get (own := RX10) (ref := "TintDeskModel") (C := RX10) (T := TX10) (n := 20) (index := 9) (v := .ref (Γ.2.1 1)) hx hb hts (fun w h => xU_sub w (inU10 w h)) hown h kR_model rfl 1 (by decide) (hts _ (xU_sub _ q132)) (fun _ h9 => h9) rfl dX10_goes_37 ?_
      refine lv_iload_n hx hb dX10_goes_40 rfl (lv_at hl 1 rfl) ?_
      refine lv_bipush (v := 7) hx hb dX10_goes_41 (by decide) ?_
      refine lv_iadd hx hb dX10_goes_43 ?_
      refine lv_iload hx hb dX10_goes_44 (lv_at hl 2 rfl) ?_
      refine lv_iadd hx hb dX10_goes_46 ?_
      refine lv_iconst (v := 1) hx hb dX10_goes_47 (by decide) ?_
      refine lv_iadd hx hb dX10_goes_48 ?_
      obtain ⟨c6, hf⟩ := xck_s hf
      refine x_iald hx hb h kR_g (xin_in c6) dX10_goes_49 ?_
      obtain ⟨c7, hf⟩ := xck_s hf
      obtain ⟨M8, eM8, hf⟩ := xl_s hf
      refine x_iast hx hb h kR_g (xin_in c7) eM8 dX10_goes_50 (fun H locs h => ?_)
      refine lv_aload_n hx hb dX10_goes_51 rfl (lv_at hl 0 rfl) ?_
      refine x_get (own := RX10) (ref := "TintDeskModel") (C := RX10) (T := TX10) (n := 20) (index := 9) (v := .ref (Γ.2.1 1)) hx hb hts (fun w h => xU_sub w (inU10 w h)) hown h kR_model rfl 1 (by decide) (hts _ (xU_sub _ q132)) (fun _ h9 => h9) rfl dX10_goes_52 ?_
      refine lv_iload_n hx hb dX10_goes_55 rfl (lv_at hl 1 rfl) ?_
      refine lv_bipush (v := 19) hx hb dX10_goes_56 (by decide) ?_
      refine lv_iadd hx hb dX10_goes_58 ?_
      refine lv_iload hx hb dX10_goes_59 (lv_at hl 2 rfl) ?_
      refine lv_iadd hx hb dX10_goes_61 ?_
      refine lv_aload_n hx hb dX10_goes_62 rfl (lv_at hl 0 rfl) ?_
      refine x_get (own := RX10) (ref := "TintDeskModel") (C := RX10) (T := TX10) (n := 20) (index := 9) (v := .ref (Γ.2.1 1)) hx hb hts (fun w h => xU_sub w (inU10 w h)) hown h kR_model rfl 1 (by decide) (hts _ (xU_sub _ q132)) (fun _ h9 => h9) rfl dX10_goes_63 ?_
      refine lv_iload_n hx hb dX10_goes_66 rfl (lv_at hl 1 rfl) ?_
      refine lv_bipush (v := 19) hx hb dX10_goes_67 (by decide) ?_
      refine lv_iadd hx hb dX10_goes_69 ?_
      refine lv_iload hx hb dX10_goes_70 (lv_at hl 2 rfl) ?_
      refine lv_iadd hx hb dX10_goes_72 ?_
      refine lv_iconst (v := 1) hx hb dX10_goes_73 (by decide) ?_
      refine lv_iadd hx hb dX10_goes_74 ?_
      obtain ⟨c9, hf⟩ := xck_s hf
      refine x_iald hx hb h kR_g (xin_in c9) dX10_goes_75 ?_
      obtain ⟨c10, hf⟩ := xck_s hf
      obtain ⟨M11, eM11, hf⟩ := xl_s hf
      refine x_iast hx hb h kR_g (xin_in c10) eM11 dX10_goes_76 (fun H locs h => ?_)
      refine lv_aload_n hx hb dX10_goes_77 rfl (lv_at hl 0 rfl) ?_
      refine x_get (own := RX10) (ref := "TintDeskModel") (C := RX10) (T := TX10) (n := 20) (index := 9) (v := .ref (Γ.2.1 1)) hx hb hts (fun w h => xU_sub w (inU10 w h)) hown h kR_model rfl 1 (by decide) (hts _ (xU_sub _ q132)) (fun _ h9 => h9) rfl dX10_goes_78 ?_
      refine lv_iload_n hx hb dX10_goes_81 rfl (lv_at hl 1 rfl) ?_
      refine lv_bipush (v := 31) hx hb dX10_goes_82 (by decide) ?_
      refine lv_iadd hx hb dX10_goes_84 ?_
      refine lv_iload hx hb dX10_goes_85 (lv_at hl 2 rfl) ?_
      refine lv_iadd hx hb dX10_goes_87 ?_
      refine lv_aload_n hx hb dX10_goes_88 rfl (lv_at hl 0 rfl) ?_
      refine x_get (own := RX10) (ref := "TintDeskModel") (C := RX10) (T := TX10) (n := 20) (index := 9) (v := .ref (Γ.2.1 1)) hx hb hts (fun w h => xU_sub w (inU10 w h)) hown h kR_model rfl 1 (by decide) (hts _ (xU_sub _ q132)) (fun _ h9 => h9) rfl dX10_goes_89 ?_
      refine lv_iload_n hx hb dX10_goes_92 rfl (lv_at hl 1 rfl) ?_
      refine lv_bipush (v := 31) hx hb dX10_goes_93 (by decide) ?_
      refine lv_iadd hx hb dX10_goes_95 ?_
      refine lv_iload hx hb dX10_goes_96 (lv_at hl 2 rfl) ?_
      refine lv_iadd hx hb dX10_goes_98 ?_
      refine lv_iconst (v := 1) hx hb dX10_goes_99 (by decide) ?_
      refine lv_iadd hx hb dX10_goes_100 ?_
      obtain ⟨c12, hf⟩ := xck_s hf
      refine x_iald hx hb h kR_g (xin_in c12) dX10_goes_101 ?_
      obtain ⟨c13, hf⟩ := xck_s hf
      obtain ⟨M14, eM14, hf⟩ := xl_s hf
      refine x_iast hx hb h kR_g (xin_in c13) eM14 dX10_goes_102 (fun H locs h => ?_)
      obtain ⟨y15, ey15, hf⟩ := xl_s hf
      refine lv_iinc (v := y15) (lv' := [(4, .int y15), (0, .ref (Γ.2.1 0)), (3, .int v3)]) hx hb dX10_goes_103 hl (k := 2) rfl (by rw [ey15]; rfl) (by decide) rfl (fun ls hl => ?_)
      refine lv_goto (tgt := 10) hx hb dX10_goes_106 (by decide) ?_
      exact ih v3 y15 M14 hf _ _ _ h (lv_sub hl [1, 2, 0] rfl)
set_option maxHeartbeats 4000000 in
set_option maxRecDepth 100000 in
theorem m_X10_goes (l : Launch) {Γ : xG} {N : Nat} {v1 : Int32} {v2 : Int32} {M : xM} {res : xR} (hf : F_X10_goes N v1 v2 M = some res) (sz : Nat) : Met l yX10_goes (xWs yX10_goes cX10_goes 5 none) ({ frames := 1, cells := 0, slots := 0, locals := 40 } : Room) (va_Pc [.ref (Γ.2.1 0), .int v1, .int v2] (xPre Γ (wR Γ) M sz)) (xCv Γ (wR Γ) 10 res sz) 0 0 (xAd Γ 10 sz) := by
  refine x_met (Qc := fun sz => xCv Γ (wR Γ) 10 res sz) pnX10 wG_W (Nat.le_of_ble_eq_true rfl) (fun p e s m args below meth c _ E h ls hl => ?_) sz
  obtain ⟨⟨hx, hb, hml, hown, hts⟩, hr, hlocks⟩ := id E
  have hl : lv_has ls 5 [(0, .ref (Γ.2.1 0)), (1, .int v1), (2, .int v2)] := hl
  refine lv_iconst (v := 5) hx hb dX10_goes_0 (by decide) ?_
  refine lv_bipush (v := 46) hx hb dX10_goes_1 (by decide) ?_
  refine lv_iload_n hx hb dX10_goes_3 rfl (lv_at hl 1 rfl) ?_
  refine lv_imul hx hb dX10_goes_4 ?_
  refine lv_iadd hx hb dX10_goes_5 ?_
  obtain ⟨y1, ey1, hf⟩ := xl_s hf
  refine x_nm ey1 ?_
  refine lv_istore_n (lv' := [(3, .int y1), (0, .ref (Γ.2.1 0)), (1, .int v1), (2, .int v2)]) hx hb dX10_goes_6 rfl hl (by decide) rfl (fun ls hl => ?_)
  refine lv_iload_n hx hb dX10_goes_7 rfl (lv_at hl 3 rfl) ?_
  refine lv_istore (lv' := [(4, .int v2), (3, .int y1), (0, .ref (Γ.2.1 0)), (1, .int v1), (2, .int v2)]) hx hb dX10_goes_8 hl (by decide) rfl (fun ls hl => ?_)
  exact w_X10_goes_10 l E N y1 v2 M hf _ _ _ h (lv_sub hl [2, 1, 0] rfl)
theorem hdX10_recall : yX10_recall.cls = RX10 ∧ yX10_recall.cls ≠ "java/lang/invoke/MethodHandle" ∧ yX10_recall.cls ≠ "java/lang/invoke/VarHandle" ∧ (parseMethodDescriptor yX10_recall.desc).map (fun d => d.parameters.length) = some 2 := by decide +kernel
set_option maxHeartbeats 4000000 in
set_option maxRecDepth 100000 in
theorem w_X10_recall_82 (l : Launch) {p : Program} {e : Env} {s : State} {m : MethodId} {args : Array Value} {below : List Frame} {meth : Method} {c : Code} {Γ : xG} {N : Nat} {res : xR} (E : xEv p s m args meth c RX10 cX10_recall 5 (some .int) (xWs yX10_recall cX10_recall 5 (some .int))) {K_43 : Int32 → Int32 → Int32 → Int32 → xM → Option xR} (hK_43 : ∀ (v1 : Int32) (v2 : Int32) (v3 : Int32) (v4 : Int32) (M : xM), K_43 v1 v2 v3 v4 M = some res → ∀ (H : Heap) (locs : List Loc) (ls : Array Slot), xH Γ (wR Γ) 10 s M H locs → lv_has ls 5 [(0, .ref (Γ.2.1 0)), (1, .int v1), (2, .int v2), (3, .int v3), (4, .int v4)] → W p l e ({ frames := 3, cells := 0, slots := 0, locals := 85 } : Room) s m args below meth c H locs 0 0 (MQ below (xCi Γ (wR Γ) 10 res s.heap.size) args s 0 0 (xAd Γ 10 s.heap.size)) (F0 m 43 ls [])) : ∀ (v1 : Int32) (v2 : Int32) (v3 : Int32) (v4 : Int32) (M : xM), L_X10_recall_82 N K_43 v1 v2 v3 v4 M = some res → ∀ (H : Heap) (locs : List Loc) (ls : Array Slot), xH Γ (wR Γ) 10 s M H locs → lv_has ls 5 [(0, .ref (Γ.2.1 0)), (1, .int v1), (2, .int v2), (3, .int v3), (4, .int v4)] → W p l e ({ frames := 3, cells := 0, slots := 0, locals := 85 } : Room) s m args below meth c H locs 0 0 (MQ below (xCi Γ (wR Γ) 10 res s.heap.size) args s 0 0 (xAd Γ 10 s.heap.size)) (F0 m 82 ls []) := by
  obtain ⟨⟨hx, hb, hml, hown, hts⟩, hr, hlocks⟩ := id E
  intro v1 v2 v3 v4 M hf H locs ls h hl
  obtain ⟨y1, ey1, hf⟩ := xl_s hf
  refine lv_iinc (v := y1) (lv' := [(4, .int y1), (0, .ref (Γ.2.1 0)), (1, .int v1), (2, .int v2), (3, .int v3)]) hx hb dX10_recall_82 hl (k := 4) rfl (by rw [ey1]; rfl) (by decide) rfl (fun ls hl => ?_)
  refine lv_goto (tgt := 43) hx hb dX10_recall_85 (by decide) ?_
  exact hK_43 v1 v2 v3 y1 M hf _ _ _ h (lv_sub hl [1, 2, 3, 4, 0] rfl)
set_option maxHeartbeats 4000000 in
set_option maxRecDepth 100000 in
theorem w_X10_recall_43 (l : Launch) {p : Program} {e : Env} {s : State} {m : MethodId} {args : Array Value} {below : List Frame} {meth : Method} {c : Code} {Γ : xG} {N : Nat} {res : xR} (E : xEv p s m args meth c RX10 cX10_recall 5 (some .int) (xWs yX10_recall cX10_recall 5 (some .int))) : ∀ (n : Nat) (v1 : Int32) (v2 : Int32) (v3 : Int32) (v4 : Int32) (M : xM), L_X10_recall_43 N n v1 v2 v3 v4 M = some res → ∀ (H : Heap) (locs : List Loc) (ls : Array Slot), xH Γ (wR Γ) 10 s M H locs → lv_has ls 5 [(0, .ref (Γ.2.1 0)), (1, .int v1), (2, .int v2), (3, .int v3), (4, .int v4)] → W p l e ({ frames := 3, cells := 0, slots := 0, locals := 85 } : Room) s m args below meth c H locs 0 0 (MQ below (xCi Γ (wR Γ) 10 res s.heap.size) args s 0 0 (xAd Γ 10 s.heap.size)) (F0 m 43 ls []) := by
  obtain ⟨⟨hx, hb, hml, hown, hts⟩, hr, hlocks⟩ := id E
  intro n
  induction n with
  | zero => intro v1 v2 v3 v4 M hf; cases hf
  | succ n ih =>
    intro v1 v2 v3 v4 M hf H locs ls h hl
    refine lv_iload hx hb dX10_recall_43 (lv_at hl 4 rfl) ?_
    refine lv_if_lt (tgt := 88) hx hb dX10_recall_45 (by decide) (fun c1 => ?_) (fun c1 => ?_)
    · replace hf := xif_t hf c1
      refine lv_aload_n hx hb dX10_recall_88 rfl (lv_at hl 0 rfl) ?_
      refine x_get (own := RX10) (ref := "TintDeskModel") (C := RX10) (T := TX10) (n := 20) (index := 9) (v := .ref (Γ.2.1 1)) hx hb hts (fun w h => xU_sub w (inU10 w h)) hown h kR_model rfl 1 (by decide) (hts _ (xU_sub _ q132)) (fun _ h9 => h9) rfl dX10_recall_89 ?_
      refine lv_iconst (v := 5) hx hb dX10_recall_92 (by decide) ?_
      refine lv_bipush (v := 46) hx hb dX10_recall_93 (by decide) ?_
      refine lv_iload_n hx hb dX10_recall_95 rfl (lv_at hl 1 rfl) ?_
      refine lv_imul hx hb dX10_recall_96 ?_
      refine lv_iadd hx hb dX10_recall_97 ?_
      refine lv_bipush (v := 6) hx hb dX10_recall_98 (by decide) ?_
      refine lv_iadd hx hb dX10_recall_100 ?_
      refine lv_dup2_11 hx hb dX10_recall_101 rfl rfl ?_
      obtain ⟨c2, hf⟩ := xck_s hf
      refine x_iald hx hb h kR_g (xin_in c2) dX10_recall_102 ?_
      refine lv_iload_n hx hb dX10_recall_103 rfl (lv_at hl 3 rfl) ?_
      refine lv_iadd hx hb dX10_recall_104 ?_
      obtain ⟨c3, hf⟩ := xck_s hf
      obtain ⟨M4, eM4, hf⟩ := xl_s hf
      refine x_iast hx hb h kR_g (xin_in c3) eM4 dX10_recall_105 (fun H locs h => ?_)
      refine lv_aload_n hx hb dX10_recall_106 rfl (lv_at hl 0 rfl) ?_
      refine lv_iload_n hx hb dX10_recall_107 rfl (lv_at hl 3 rfl) ?_
      obtain ⟨r5, er5, hf⟩ := xbd_s hf
      refine x_Vi (As := [.int v3]) (rest := []) E.1 (m_X10_done l er5) (cwV 1 hts (xgV xU_sub q221 q222 q223 q5 q224) rfl rfl rfl hdX10_done ⟨Nat.le_of_ble_eq_true rfl, Nat.le_of_ble_eq_true rfl⟩) h kR_model rfl rfl hl.1 rfl (Nat.le_of_ble_eq_true rfl) dX10_recall_108 ⟨Nat.le_of_ble_eq_true rfl, Nat.le_of_ble_eq_true rfl⟩ (fun H locs h => ?_)
      exact x_iret hx hb h (Option.some.inj hf) hr hlocks dX10_recall_111
    · replace hf := xif_f hf c1
      refine lv_aload_n hx hb dX10_recall_48 rfl (lv_at hl 0 rfl) ?_
      refine lv_iload_n hx hb dX10_recall_49 rfl (lv_at hl 1 rfl) ?_
      refine lv_bipush (v := 7) hx hb dX10_recall_50 (by decide) ?_
      refine lv_iload hx hb dX10_recall_52 (lv_at hl 4 rfl) ?_
      refine lv_iadd hx hb dX10_recall_54 ?_
      obtain ⟨r6, er6, hf⟩ := xbd_s hf
      refine x_Vi (As := [.int v1, .int (7 + v4)]) (rest := []) E.1 (m_X10_colorantAt l er6) (cwV 2 hts (xgV xU_sub q253 q254 q255 q5 q256) rfl rfl rfl hdX10_colorantAt ⟨Nat.le_of_ble_eq_true rfl, Nat.le_of_ble_eq_true rfl⟩) h kR_model rfl rfl hl.1 rfl (Nat.le_of_ble_eq_true rfl) dX10_recall_55 ⟨Nat.le_of_ble_eq_true rfl, Nat.le_of_ble_eq_true rfl⟩ (fun H locs h => ?_)
      refine lv_iload_n hx hb dX10_recall_58 rfl (lv_at hl 2 rfl) ?_
      refine lv_icmp_ne (tgt := 82) hx hb dX10_recall_59 (by decide) (fun c7 => ?_) (fun c7 => ?_)
      · replace hf := xif_f hf c7
        exact w_X10_recall_82 l E (ih) v1 v2 v3 v4 r6.1 hf _ _ _ h (lv_sub hl [0, 1, 2, 3, 4] rfl)
      · replace hf := xif_t hf c7
        refine lv_iload_n hx hb dX10_recall_62 rfl (lv_at hl 3 rfl) ?_
        refine lv_aload_n hx hb dX10_recall_63 rfl (lv_at hl 0 rfl) ?_
        refine lv_iload_n hx hb dX10_recall_64 rfl (lv_at hl 1 rfl) ?_
        refine lv_bipush (v := 19) hx hb dX10_recall_65 (by decide) ?_
        refine lv_iload hx hb dX10_recall_67 (lv_at hl 4 rfl) ?_
        refine lv_iadd hx hb dX10_recall_69 ?_
        obtain ⟨r8, er8, hf⟩ := xbd_s hf
        refine x_Vi (As := [.int v1, .int (19 + v4)]) (rest := [.int v3]) E.1 (m_X10_colorantAt l er8) (cwV 2 hts (xgV xU_sub q253 q254 q255 q5 q256) rfl rfl rfl hdX10_colorantAt ⟨Nat.le_of_ble_eq_true rfl, Nat.le_of_ble_eq_true rfl⟩) h kR_model rfl rfl hl.1 rfl (Nat.le_of_ble_eq_true rfl) dX10_recall_70 ⟨Nat.le_of_ble_eq_true rfl, Nat.le_of_ble_eq_true rfl⟩ (fun H locs h => ?_)
        refine lv_iadd hx hb dX10_recall_73 ?_
        obtain ⟨y9, ey9, hf⟩ := xl_s hf
        refine x_nm ey9 ?_
        refine lv_istore_n (lv' := [(3, .int y9), (0, .ref (Γ.2.1 0)), (1, .int v1), (2, .int v2), (4, .int v4)]) hx hb dX10_recall_74 rfl hl (by decide) rfl (fun ls hl => ?_)
        refine lv_aload_n hx hb dX10_recall_75 rfl (lv_at hl 1 rfl) ?_
        refine lv_iload_n hx hb dX10_recall_76 rfl (lv_at hl 2 rfl) ?_
        refine lv_iload hx hb dX10_recall_77 (lv_at hl 4 rfl) ?_
        obtain ⟨r10, er10, hf⟩ := xbd_s hf
        refine x_Vv (As := [.int v1, .int v4]) (rest := []) E.1 (m_X10_goes l er10) (cwV 2 hts (xgV xU_sub q316 q317 q318 q5 q319) rfl rfl rfl hdX10_goes ⟨Nat.le_of_ble_eq_true rfl, Nat.le_of_ble_eq_true rfl⟩) h kR_model rfl rfl hl.1 rfl (Nat.le_of_ble_eq_true rfl) dX10_recall_79 ⟨Nat.le_of_ble_eq_true rfl, Nat.le_of_ble_eq_true rfl⟩ (fun H locs h => ?_)
        exact w_X10_recall_82 l E (ih) v1 v2 y9 v4 r10.1 hf _ _ _ h (lv_sub hl [1, 2, 3, 0, 4] rfl)
set_option maxHeartbeats 4000000 in
set_option maxRecDepth 100000 in
theorem m_X10_recall (l : Launch) {Γ : xG} {N : Nat} {v1 : Int32} {v2 : Int32} {M : xM} {res : xR} (hf : F_X10_recall N v1 v2 M = some res) (sz : Nat) : Met l yX10_recall (xWs yX10_recall cX10_recall 5 (some .int)) ({ frames := 3, cells := 0, slots := 0, locals := 85 } : Room) (va_Pc [.ref (Γ.2.1 0), .int v1, .int v2] (xPre Γ (wR Γ) M sz)) (xCi Γ (wR Γ) 10 res sz) 0 0 (xAd Γ 10 sz) := by
  refine x_met (Qc := fun sz => xCi Γ (wR Γ) 10 res sz) pnX10 wG_W (Nat.le_of_ble_eq_true rfl) (fun p e s m args below meth c _ E h ls hl => ?_) sz
  obtain ⟨⟨hx, hb, hml, hown, hts⟩, hr, hlocks⟩ := id E
  have hl : lv_has ls 5 [(0, .ref (Γ.2.1 0)), (1, .int v1), (2, .int v2)] := hl
  refine lv_aload_n hx hb dX10_recall_0 rfl (lv_at hl 0 rfl) ?_
  refine lv_iload_n hx hb dX10_recall_1 rfl (lv_at hl 1 rfl) ?_
  obtain ⟨r1, er1, hf⟩ := xbd_s hf
  refine x_Vi (As := [.int v1]) (rest := []) E.1 (m_X10_isColorant l er1) (cwV 1 hts (xgV xU_sub q249 q250 q251 q5 q252) rfl rfl rfl hdX10_isColorant ⟨Nat.le_of_ble_eq_true rfl, Nat.le_of_ble_eq_true rfl⟩) h kR_model rfl rfl hl.1 rfl (Nat.le_of_ble_eq_true rfl) dX10_recall_2 ⟨Nat.le_of_ble_eq_true rfl, Nat.le_of_ble_eq_true rfl⟩ (fun H locs h => ?_)
  refine lv_if_ne (tgt := 14) hx hb dX10_recall_5 (by decide) (fun c2 => ?_) (fun c2 => ?_)
  · replace hf := xif_f hf c2
    refine lv_iload_n hx hb dX10_recall_14 rfl (lv_at hl 2 rfl) ?_
    obtain ⟨r3, er3, hf⟩ := xbd_s hf
    refine x_Si (As := [.int v2]) (rest := []) E.1 (m_X10_isLot l er3) (cwS 1 hts (xgS xU_sub q285 q286 q5 q287) rfl rfl rfl hdX10_isLot ⟨Nat.le_of_ble_eq_true rfl, Nat.le_of_ble_eq_true rfl⟩) h rfl hl.1 rfl (Nat.le_of_ble_eq_true rfl) dX10_recall_15 ⟨Nat.le_of_ble_eq_true rfl, Nat.le_of_ble_eq_true rfl⟩ (fun H locs h => ?_)
    refine lv_if_ne (tgt := 27) hx hb dX10_recall_18 (by decide) (fun c4 => ?_) (fun c4 => ?_)
    · replace hf := xif_f hf c4
      refine lv_aload_n hx hb dX10_recall_27 rfl (lv_at hl 0 rfl) ?_
      obtain ⟨r5, er5, hf⟩ := xbd_s hf
      refine x_Vv (As := []) (rest := []) E.1 (m_X10_remembers l er5) (cwV 0 hts (xgV xU_sub q213 q214 q215 q5 q216) rfl rfl rfl hdX10_remembers ⟨Nat.le_of_ble_eq_true rfl, Nat.le_of_ble_eq_true rfl⟩) h kR_model rfl rfl hl.1 rfl (Nat.le_of_ble_eq_true rfl) dX10_recall_28 ⟨Nat.le_of_ble_eq_true rfl, Nat.le_of_ble_eq_true rfl⟩ (fun H locs h => ?_)
      refine lv_iconst (v := 0) hx hb dX10_recall_31 (by decide) ?_
      refine lv_istore_n (lv' := [(3, .int 0), (0, .ref (Γ.2.1 0)), (1, .int v1), (2, .int v2)]) hx hb dX10_recall_32 rfl hl (by decide) rfl (fun ls hl => ?_)
      refine lv_aload_n hx hb dX10_recall_33 rfl (lv_at hl 1 rfl) ?_
      refine lv_iload_n hx hb dX10_recall_34 rfl (lv_at hl 2 rfl) ?_
      refine lv_iconst (v := 3) hx hb dX10_recall_35 (by decide) ?_
      obtain ⟨r6, er6, hf⟩ := xbd_s hf
      refine x_Vi (As := [.int v1, .int 3]) (rest := []) E.1 (m_X10_colorantAt l er6) (cwV 2 hts (xgV xU_sub q253 q254 q255 q5 q256) rfl rfl rfl hdX10_colorantAt ⟨Nat.le_of_ble_eq_true rfl, Nat.le_of_ble_eq_true rfl⟩) h kR_model rfl rfl hl.1 rfl (Nat.le_of_ble_eq_true rfl) dX10_recall_36 ⟨Nat.le_of_ble_eq_true rfl, Nat.le_of_ble_eq_true rfl⟩ (fun H locs h => ?_)
      refine lv_iconst (v := 1) hx hb dX10_recall_39 (by decide) ?_
      refine lv_isub hx hb dX10_recall_40 ?_
      obtain ⟨y7, ey7, hf⟩ := xl_s hf
      refine x_nm ey7 ?_
      refine lv_istore (lv' := [(4, .int y7), (3, .int 0), (0, .ref (Γ.2.1 0)), (1, .int v1), (2, .int v2)]) hx hb dX10_recall_41 hl (by decide) rfl (fun ls hl => ?_)
      exact w_X10_recall_43 l E N v1 v2 0 y7 r6.1 hf _ _ _ h (lv_sub hl [2, 3, 4, 1, 0] rfl)
    · replace hf := xif_t hf c4
      refine lv_aload_n hx hb dX10_recall_21 rfl (lv_at hl 0 rfl) ?_
      refine lv_iconst (v := 2) hx hb dX10_recall_22 (by decide) ?_
      obtain ⟨r8, er8, hf⟩ := xbd_s hf
      refine x_Vi (As := [.int 2]) (rest := []) E.1 (m_X10_fails l er8) (cwV 1 hts (xgV xU_sub q208 q209 q210 q5 q211) rfl rfl rfl hdX10_fails ⟨Nat.le_of_ble_eq_true rfl, Nat.le_of_ble_eq_true rfl⟩) h kR_model rfl rfl hl.1 rfl (Nat.le_of_ble_eq_true rfl) dX10_recall_23 ⟨Nat.le_of_ble_eq_true rfl, Nat.le_of_ble_eq_true rfl⟩ (fun H locs h => ?_)
      exact x_iret hx hb h (Option.some.inj hf) hr hlocks dX10_recall_26
  · replace hf := xif_t hf c2
    refine lv_aload_n hx hb dX10_recall_8 rfl (lv_at hl 0 rfl) ?_
    refine lv_iconst (v := 1) hx hb dX10_recall_9 (by decide) ?_
    obtain ⟨r9, er9, hf⟩ := xbd_s hf
    refine x_Vi (As := [.int 1]) (rest := []) E.1 (m_X10_fails l er9) (cwV 1 hts (xgV xU_sub q208 q209 q210 q5 q211) rfl rfl rfl hdX10_fails ⟨Nat.le_of_ble_eq_true rfl, Nat.le_of_ble_eq_true rfl⟩) h kR_model rfl rfl hl.1 rfl (Nat.le_of_ble_eq_true rfl) dX10_recall_10 ⟨Nat.le_of_ble_eq_true rfl, Nat.le_of_ble_eq_true rfl⟩ (fun H locs h => ?_)
    exact x_iret hx hb h (Option.some.inj hf) hr hlocks dX10_recall_13
theorem hdX10_colorant : yX10_colorant.cls = RX10 ∧ yX10_colorant.cls ≠ "java/lang/invoke/MethodHandle" ∧ yX10_colorant.cls ≠ "java/lang/invoke/VarHandle" ∧ (parseMethodDescriptor yX10_colorant.desc).map (fun d => d.parameters.length) = some 2 := by decide +kernel
set_option maxHeartbeats 4000000 in
set_option maxRecDepth 100000 in
theorem m_X10_colorant (l : Launch) {Γ : xG} {N : Nat} {v1 : Int32} {v2 : Int32} {M : xM} {res : xR} (hf : F_X10_colorant N v1 v2 M = some res) (sz : Nat) : Met l yX10_colorant (xWs yX10_colorant cX10_colorant 3 (some .int)) ({ frames := 3, cells := 0, slots := 0, locals := 85 } : Room) (va_Pc [.ref (Γ.2.1 0), .int v1, .int v2] (xPre Γ (wR Γ) M sz)) (xCi Γ (wR Γ) 10 res sz) 0 0 (xAd Γ 10 sz) := by
  refine x_met (Qc := fun sz => xCi Γ (wR Γ) 10 res sz) pnX10 wG_W (Nat.le_of_ble_eq_true rfl) (fun p e s m args below meth c _ E h ls hl => ?_) sz
  obtain ⟨⟨hx, hb, hml, hown, hts⟩, hr, hlocks⟩ := id E
  have hl : lv_has ls 3 [(0, .ref (Γ.2.1 0)), (1, .int v1), (2, .int v2)] := hl
  refine lv_aload_n hx hb dX10_colorant_0 rfl (lv_at hl 0 rfl) ?_
  refine lv_iload_n hx hb dX10_colorant_1 rfl (lv_at hl 1 rfl) ?_
  obtain ⟨r1, er1, hf⟩ := xbd_s hf
  refine x_Vi (As := [.int v1]) (rest := []) E.1 (m_X10_isColorant l er1) (cwV 1 hts (xgV xU_sub q249 q250 q251 q5 q252) rfl rfl rfl hdX10_isColorant ⟨Nat.le_of_ble_eq_true rfl, Nat.le_of_ble_eq_true rfl⟩) h kR_model rfl rfl hl.1 rfl (Nat.le_of_ble_eq_true rfl) dX10_colorant_2 ⟨Nat.le_of_ble_eq_true rfl, Nat.le_of_ble_eq_true rfl⟩ (fun H locs h => ?_)
  refine lv_if_ne (tgt := 14) hx hb dX10_colorant_5 (by decide) (fun c2 => ?_) (fun c2 => ?_)
  · replace hf := xif_f hf c2
    refine lv_iload_n hx hb dX10_colorant_14 rfl (lv_at hl 2 rfl) ?_
    refine lv_iconst (v := 0) hx hb dX10_colorant_15 (by decide) ?_
    refine lv_bipush (v := 9) hx hb dX10_colorant_16 (by decide) ?_
    obtain ⟨r3, er3, hf⟩ := xbd_s hf
    refine x_Si (As := [.int v2, .int 0, .int 9]) (rest := []) E.1 (m_X10_in l er3) (cwS 3 hts (xgS xU_sub q205 q206 q5 q207) rfl rfl rfl hdX10_in ⟨Nat.le_of_ble_eq_true rfl, Nat.le_of_ble_eq_true rfl⟩) h rfl hl.1 rfl (Nat.le_of_ble_eq_true rfl) dX10_colorant_18 ⟨Nat.le_of_ble_eq_true rfl, Nat.le_of_ble_eq_true rfl⟩ (fun H locs h => ?_)
    refine lv_if_ne (tgt := 30) hx hb dX10_colorant_21 (by decide) (fun c4 => ?_) (fun c4 => ?_)
    · replace hf := xif_f hf c4
      refine lv_iload_n hx hb dX10_colorant_30 rfl (lv_at hl 2 rfl) ?_
      refine lv_bipush (v := 7) hx hb dX10_colorant_31 (by decide) ?_
      refine lv_icmp_le (tgt := 59) hx hb dX10_colorant_33 (by decide) (fun c5 => ?_) (fun c5 => ?_)
      · replace hf := xif_t hf c5
        refine lv_aload_n hx hb dX10_colorant_59 rfl (lv_at hl 0 rfl) ?_
        refine lv_iload_n hx hb dX10_colorant_60 rfl (lv_at hl 2 rfl) ?_
        refine lv_iconst (v := 3) hx hb dX10_colorant_61 (by decide) ?_
        refine lv_icmp_ge (tgt := 74) hx hb dX10_colorant_62 (by decide) (fun c6 => ?_) (fun c6 => ?_)
        · replace hf := xif_t hf c6
          refine lv_iload_n hx hb dX10_colorant_74 rfl (lv_at hl 2 rfl) ?_
          refine lv_iconst (v := 3) hx hb dX10_colorant_75 (by decide) ?_
          refine lv_icmp_ne (tgt := 87) hx hb dX10_colorant_76 (by decide) (fun c7 => ?_) (fun c7 => ?_)
          · replace hf := xif_f hf c7
            refine lv_aload_n hx hb dX10_colorant_87 rfl (lv_at hl 0 rfl) ?_
            refine lv_iload_n hx hb dX10_colorant_88 rfl (lv_at hl 1 rfl) ?_
            refine lv_iconst (v := 3) hx hb dX10_colorant_89 (by decide) ?_
            refine lv_iload_n hx hb dX10_colorant_90 rfl (lv_at hl 2 rfl) ?_
            refine lv_iadd hx hb dX10_colorant_91 ?_
            refine lv_iconst (v := 4) hx hb dX10_colorant_92 (by decide) ?_
            refine lv_isub hx hb dX10_colorant_93 ?_
            obtain ⟨r8, er8, hf⟩ := xbd_s hf
            refine x_Vi (As := [.int v1, .int ((3 + v2) - 4)]) (rest := [.ref (Γ.2.1 0)]) E.1 (m_X10_colorantAt l er8) (cwV 2 hts (xgV xU_sub q253 q254 q255 q5 q256) rfl rfl rfl hdX10_colorantAt ⟨Nat.le_of_ble_eq_true rfl, Nat.le_of_ble_eq_true rfl⟩) h kR_model rfl rfl hl.1 rfl (Nat.le_of_ble_eq_true rfl) dX10_colorant_94 ⟨Nat.le_of_ble_eq_true rfl, Nat.le_of_ble_eq_true rfl⟩ (fun H locs h => ?_)
            obtain ⟨r9, er9, hf⟩ := xbd_s hf
            refine x_Vi (As := [.int r8.2]) (rest := []) E.1 (m_X10_done l er9) (cwV 1 hts (xgV xU_sub q221 q222 q223 q5 q224) rfl rfl rfl hdX10_done ⟨Nat.le_of_ble_eq_true rfl, Nat.le_of_ble_eq_true rfl⟩) h kR_model rfl rfl hl.1 rfl (Nat.le_of_ble_eq_true rfl) dX10_colorant_97 ⟨Nat.le_of_ble_eq_true rfl, Nat.le_of_ble_eq_true rfl⟩ (fun H locs h => ?_)
            exact x_iret hx hb h (Option.some.inj hf) hr hlocks dX10_colorant_100
          · replace hf := xif_t hf c7
            refine lv_aload_n hx hb dX10_colorant_79 rfl (lv_at hl 0 rfl) ?_
            refine lv_iload_n hx hb dX10_colorant_80 rfl (lv_at hl 1 rfl) ?_
            obtain ⟨r10, er10, hf⟩ := xbd_s hf
            refine x_Vi (As := [.int v1]) (rest := [.ref (Γ.2.1 0)]) E.1 (m_X10_inCanister l er10) (cwV 1 hts (xgV xU_sub q293 q294 q295 q5 q296) rfl rfl rfl hdX10_inCanister ⟨Nat.le_of_ble_eq_true rfl, Nat.le_of_ble_eq_true rfl⟩) h kR_model rfl rfl hl.1 rfl (Nat.le_of_ble_eq_true rfl) dX10_colorant_81 ⟨Nat.le_of_ble_eq_true rfl, Nat.le_of_ble_eq_true rfl⟩ (fun H locs h => ?_)
            refine lv_goto (tgt := 97) hx hb dX10_colorant_84 (by decide) ?_
            obtain ⟨r11, er11, hf⟩ := xbd_s hf
            refine x_Vi (As := [.int r10.2]) (rest := []) E.1 (m_X10_done l er11) (cwV 1 hts (xgV xU_sub q221 q222 q223 q5 q224) rfl rfl rfl hdX10_done ⟨Nat.le_of_ble_eq_true rfl, Nat.le_of_ble_eq_true rfl⟩) h kR_model rfl rfl hl.1 rfl (Nat.le_of_ble_eq_true rfl) dX10_colorant_97 ⟨Nat.le_of_ble_eq_true rfl, Nat.le_of_ble_eq_true rfl⟩ (fun H locs h => ?_)
            exact x_iret hx hb h (Option.some.inj hf) hr hlocks dX10_colorant_100
        · replace hf := xif_f hf c6
          refine lv_aload_n hx hb dX10_colorant_65 rfl (lv_at hl 0 rfl) ?_
          refine lv_iload_n hx hb dX10_colorant_66 rfl (lv_at hl 1 rfl) ?_
          refine lv_iload_n hx hb dX10_colorant_67 rfl (lv_at hl 2 rfl) ?_
          obtain ⟨r12, er12, hf⟩ := xbd_s hf
          refine x_Vi (As := [.int v1, .int v2]) (rest := [.ref (Γ.2.1 0)]) E.1 (m_X10_colorantAt l er12) (cwV 2 hts (xgV xU_sub q253 q254 q255 q5 q256) rfl rfl rfl hdX10_colorantAt ⟨Nat.le_of_ble_eq_true rfl, Nat.le_of_ble_eq_true rfl⟩) h kR_model rfl rfl hl.1 rfl (Nat.le_of_ble_eq_true rfl) dX10_colorant_68 ⟨Nat.le_of_ble_eq_true rfl, Nat.le_of_ble_eq_true rfl⟩ (fun H locs h => ?_)
          refine lv_goto (tgt := 97) hx hb dX10_colorant_71 (by decide) ?_
          obtain ⟨r13, er13, hf⟩ := xbd_s hf
          refine x_Vi (As := [.int r12.2]) (rest := []) E.1 (m_X10_done l er13) (cwV 1 hts (xgV xU_sub q221 q222 q223 q5 q224) rfl rfl rfl hdX10_done ⟨Nat.le_of_ble_eq_true rfl, Nat.le_of_ble_eq_true rfl⟩) h kR_model rfl rfl hl.1 rfl (Nat.le_of_ble_eq_true rfl) dX10_colorant_97 ⟨Nat.le_of_ble_eq_true rfl, Nat.le_of_ble_eq_true rfl⟩ (fun H locs h => ?_)
          exact x_iret hx hb h (Option.some.inj hf) hr hlocks dX10_colorant_100
      · replace hf := xif_f hf c5
        refine lv_aload_n hx hb dX10_colorant_36 rfl (lv_at hl 0 rfl) ?_
        refine lv_aload_n hx hb dX10_colorant_37 rfl (lv_at hl 0 rfl) ?_
        refine lv_iload_n hx hb dX10_colorant_38 rfl (lv_at hl 1 rfl) ?_
        refine lv_iload_n hx hb dX10_colorant_39 rfl (lv_at hl 2 rfl) ?_
        refine lv_bipush (v := 8) hx hb dX10_colorant_40 (by decide) ?_
        refine lv_icmp_ne (tgt := 50) hx hb dX10_colorant_42 (by decide) (fun c14 => ?_) (fun c14 => ?_)
        · replace hf := xif_f hf c14
          refine lv_bipush (v := 44) hx hb dX10_colorant_50 (by decide) ?_
          obtain ⟨r15, er15, hf⟩ := xbd_s hf
          refine x_Vi (As := [.int v1, .int 44]) (rest := [.ref (Γ.2.1 0)]) E.1 (m_X10_colorantAt l er15) (cwV 2 hts (xgV xU_sub q253 q254 q255 q5 q256) rfl rfl rfl hdX10_colorantAt ⟨Nat.le_of_ble_eq_true rfl, Nat.le_of_ble_eq_true rfl⟩) h kR_model rfl rfl hl.1 rfl (Nat.le_of_ble_eq_true rfl) dX10_colorant_52 ⟨Nat.le_of_ble_eq_true rfl, Nat.le_of_ble_eq_true rfl⟩ (fun H locs h => ?_)
          obtain ⟨r16, er16, hf⟩ := xbd_s hf
          refine x_Vi (As := [.int r15.2]) (rest := []) E.1 (m_X10_done l er16) (cwV 1 hts (xgV xU_sub q221 q222 q223 q5 q224) rfl rfl rfl hdX10_done ⟨Nat.le_of_ble_eq_true rfl, Nat.le_of_ble_eq_true rfl⟩) h kR_model rfl rfl hl.1 rfl (Nat.le_of_ble_eq_true rfl) dX10_colorant_55 ⟨Nat.le_of_ble_eq_true rfl, Nat.le_of_ble_eq_true rfl⟩ (fun H locs h => ?_)
          exact x_iret hx hb h (Option.some.inj hf) hr hlocks dX10_colorant_58
        · replace hf := xif_t hf c14
          refine lv_bipush (v := 43) hx hb dX10_colorant_45 (by decide) ?_
          refine lv_goto (tgt := 52) hx hb dX10_colorant_47 (by decide) ?_
          obtain ⟨r17, er17, hf⟩ := xbd_s hf
          refine x_Vi (As := [.int v1, .int 43]) (rest := [.ref (Γ.2.1 0)]) E.1 (m_X10_colorantAt l er17) (cwV 2 hts (xgV xU_sub q253 q254 q255 q5 q256) rfl rfl rfl hdX10_colorantAt ⟨Nat.le_of_ble_eq_true rfl, Nat.le_of_ble_eq_true rfl⟩) h kR_model rfl rfl hl.1 rfl (Nat.le_of_ble_eq_true rfl) dX10_colorant_52 ⟨Nat.le_of_ble_eq_true rfl, Nat.le_of_ble_eq_true rfl⟩ (fun H locs h => ?_)
          obtain ⟨r18, er18, hf⟩ := xbd_s hf
          refine x_Vi (As := [.int r17.2]) (rest := []) E.1 (m_X10_done l er18) (cwV 1 hts (xgV xU_sub q221 q222 q223 q5 q224) rfl rfl rfl hdX10_done ⟨Nat.le_of_ble_eq_true rfl, Nat.le_of_ble_eq_true rfl⟩) h kR_model rfl rfl hl.1 rfl (Nat.le_of_ble_eq_true rfl) dX10_colorant_55 ⟨Nat.le_of_ble_eq_true rfl, Nat.le_of_ble_eq_true rfl⟩ (fun H locs h => ?_)
          exact x_iret hx hb h (Option.some.inj hf) hr hlocks dX10_colorant_58
    · replace hf := xif_t hf c4
      refine lv_aload_n hx hb dX10_colorant_24 rfl (lv_at hl 0 rfl) ?_
      refine lv_iconst (v := 2) hx hb dX10_colorant_25 (by decide) ?_
      obtain ⟨r19, er19, hf⟩ := xbd_s hf
      refine x_Vi (As := [.int 2]) (rest := []) E.1 (m_X10_fails l er19) (cwV 1 hts (xgV xU_sub q208 q209 q210 q5 q211) rfl rfl rfl hdX10_fails ⟨Nat.le_of_ble_eq_true rfl, Nat.le_of_ble_eq_true rfl⟩) h kR_model rfl rfl hl.1 rfl (Nat.le_of_ble_eq_true rfl) dX10_colorant_26 ⟨Nat.le_of_ble_eq_true rfl, Nat.le_of_ble_eq_true rfl⟩ (fun H locs h => ?_)
      exact x_iret hx hb h (Option.some.inj hf) hr hlocks dX10_colorant_29
  · replace hf := xif_t hf c2
    refine lv_aload_n hx hb dX10_colorant_8 rfl (lv_at hl 0 rfl) ?_
    refine lv_iconst (v := 1) hx hb dX10_colorant_9 (by decide) ?_
    obtain ⟨r20, er20, hf⟩ := xbd_s hf
    refine x_Vi (As := [.int 1]) (rest := []) E.1 (m_X10_fails l er20) (cwV 1 hts (xgV xU_sub q208 q209 q210 q5 q211) rfl rfl rfl hdX10_fails ⟨Nat.le_of_ble_eq_true rfl, Nat.le_of_ble_eq_true rfl⟩) h kR_model rfl rfl hl.1 rfl (Nat.le_of_ble_eq_true rfl) dX10_colorant_10 ⟨Nat.le_of_ble_eq_true rfl, Nat.le_of_ble_eq_true rfl⟩ (fun H locs h => ?_)
    exact x_iret hx hb h (Option.some.inj hf) hr hlocks dX10_colorant_13
theorem hdX10_lot : yX10_lot.cls = RX10 ∧ yX10_lot.cls ≠ "java/lang/invoke/MethodHandle" ∧ yX10_lot.cls ≠ "java/lang/invoke/VarHandle" ∧ (parseMethodDescriptor yX10_lot.desc).map (fun d => d.parameters.length) = some 3 := by decide +kernel
set_option maxHeartbeats 4000000 in
set_option maxRecDepth 100000 in
theorem w_X10_lot_75 (l : Launch) {p : Program} {e : Env} {s : State} {m : MethodId} {args : Array Value} {below : List Frame} {meth : Method} {c : Code} {Γ : xG} {N : Nat} {res : xR} (E : xEv p s m args meth c RX10 cX10_lot 4 (some .int) (xWs yX10_lot cX10_lot 4 (some .int))) : ∀ (v2 : Int32) (t0 : Int32) (t1 : Int32) (M : xM), L_X10_lot_75 N v2 t0 t1 M = some res → ∀ (H : Heap) (locs : List Loc) (ls : Array Slot), xH Γ (wR Γ) 10 s M H locs → lv_has ls 4 [(2, .int v2)] → W p l e ({ frames := 3, cells := 0, slots := 0, locals := 83 } : Room) s m args below meth c H locs 0 0 (MQ below (xCi Γ (wR Γ) 10 res s.heap.size) args s 0 0 (xAd Γ 10 s.heap.size)) (F0 m 75 ls [.int t0, .int t1, .ref (Γ.2.1 0), .ref (Γ.2.1 0)]) := by
  obtain ⟨⟨hx, hb, hml, hown, hts⟩, hr, hlocks⟩ := id E
  intro v2 t0 t1 M hf H locs ls h hl
  refine lv_iload_n hx hb dX10_lot_75 rfl (lv_at hl 0 rfl) ?_
  refine lv_iadd hx hb dX10_lot_76 ?_
  obtain ⟨r1, er1, hf⟩ := xbd_s hf
  refine x_Vi (As := [.int t1, .int (t0 + v2)]) (rest := [.ref (Γ.2.1 0)]) E.1 (m_X10_colorantAt l er1) (cwV 2 hts (xgV xU_sub q253 q254 q255 q5 q256) rfl rfl rfl hdX10_colorantAt ⟨Nat.le_of_ble_eq_true rfl, Nat.le_of_ble_eq_true rfl⟩) h kR_model rfl rfl hl.1 rfl (Nat.le_of_ble_eq_true rfl) dX10_lot_77 ⟨Nat.le_of_ble_eq_true rfl, Nat.le_of_ble_eq_true rfl⟩ (fun H locs h => ?_)
  obtain ⟨r2, er2, hf⟩ := xbd_s hf
  refine x_Vi (As := [.int r1.2]) (rest := []) E.1 (m_X10_done l er2) (cwV 1 hts (xgV xU_sub q221 q222 q223 q5 q224) rfl rfl rfl hdX10_done ⟨Nat.le_of_ble_eq_true rfl, Nat.le_of_ble_eq_true rfl⟩) h kR_model rfl rfl hl.1 rfl (Nat.le_of_ble_eq_true rfl) dX10_lot_80 ⟨Nat.le_of_ble_eq_true rfl, Nat.le_of_ble_eq_true rfl⟩ (fun H locs h => ?_)
  exact x_iret hx hb h (Option.some.inj hf) hr hlocks dX10_lot_83
set_option maxHeartbeats 4000000 in
set_option maxRecDepth 100000 in
theorem m_X10_lot (l : Launch) {Γ : xG} {N : Nat} {v1 : Int32} {v2 : Int32} {v3 : Int32} {M : xM} {res : xR} (hf : F_X10_lot N v1 v2 v3 M = some res) (sz : Nat) : Met l yX10_lot (xWs yX10_lot cX10_lot 4 (some .int)) ({ frames := 3, cells := 0, slots := 0, locals := 83 } : Room) (va_Pc [.ref (Γ.2.1 0), .int v1, .int v2, .int v3] (xPre Γ (wR Γ) M sz)) (xCi Γ (wR Γ) 10 res sz) 0 0 (xAd Γ 10 sz) := by
  refine x_met (Qc := fun sz => xCi Γ (wR Γ) 10 res sz) pnX10 wG_W (Nat.le_of_ble_eq_true rfl) (fun p e s m args below meth c _ E h ls hl => ?_) sz
  obtain ⟨⟨hx, hb, hml, hown, hts⟩, hr, hlocks⟩ := id E
  have hl : lv_has ls 4 [(0, .ref (Γ.2.1 0)), (1, .int v1), (2, .int v2), (3, .int v3)] := hl
  refine lv_aload_n hx hb dX10_lot_0 rfl (lv_at hl 0 rfl) ?_
  refine lv_iload_n hx hb dX10_lot_1 rfl (lv_at hl 1 rfl) ?_
  obtain ⟨r1, er1, hf⟩ := xbd_s hf
  refine x_Vi (As := [.int v1]) (rest := []) E.1 (m_X10_isColorant l er1) (cwV 1 hts (xgV xU_sub q249 q250 q251 q5 q252) rfl rfl rfl hdX10_isColorant ⟨Nat.le_of_ble_eq_true rfl, Nat.le_of_ble_eq_true rfl⟩) h kR_model rfl rfl hl.1 rfl (Nat.le_of_ble_eq_true rfl) dX10_lot_2 ⟨Nat.le_of_ble_eq_true rfl, Nat.le_of_ble_eq_true rfl⟩ (fun H locs h => ?_)
  refine lv_if_ne (tgt := 14) hx hb dX10_lot_5 (by decide) (fun c2 => ?_) (fun c2 => ?_)
  · replace hf := xif_f hf c2
    refine lv_iload_n hx hb dX10_lot_14 rfl (lv_at hl 2 rfl) ?_
    refine lv_iconst (v := 0) hx hb dX10_lot_15 (by decide) ?_
    refine lv_aload_n hx hb dX10_lot_16 rfl (lv_at hl 0 rfl) ?_
    refine lv_iload_n hx hb dX10_lot_17 rfl (lv_at hl 1 rfl) ?_
    refine lv_iconst (v := 3) hx hb dX10_lot_18 (by decide) ?_
    obtain ⟨r3, er3, hf⟩ := xbd_s hf
    refine x_Vi (As := [.int v1, .int 3]) (rest := [.int 0, .int v2]) E.1 (m_X10_colorantAt l er3) (cwV 2 hts (xgV xU_sub q253 q254 q255 q5 q256) rfl rfl rfl hdX10_colorantAt ⟨Nat.le_of_ble_eq_true rfl, Nat.le_of_ble_eq_true rfl⟩) h kR_model rfl rfl hl.1 rfl (Nat.le_of_ble_eq_true rfl) dX10_lot_19 ⟨Nat.le_of_ble_eq_true rfl, Nat.le_of_ble_eq_true rfl⟩ (fun H locs h => ?_)
    refine lv_iconst (v := 1) hx hb dX10_lot_22 (by decide) ?_
    refine lv_isub hx hb dX10_lot_23 ?_
    obtain ⟨r4, er4, hf⟩ := xbd_s hf
    refine x_Si (As := [.int v2, .int 0, .int (r3.2 - 1)]) (rest := []) E.1 (m_X10_in l er4) (cwS 3 hts (xgS xU_sub q205 q206 q5 q207) rfl rfl rfl hdX10_in ⟨Nat.le_of_ble_eq_true rfl, Nat.le_of_ble_eq_true rfl⟩) h rfl hl.1 rfl (Nat.le_of_ble_eq_true rfl) dX10_lot_24 ⟨Nat.le_of_ble_eq_true rfl, Nat.le_of_ble_eq_true rfl⟩ (fun H locs h => ?_)
    refine lv_if_ne (tgt := 36) hx hb dX10_lot_27 (by decide) (fun c5 => ?_) (fun c5 => ?_)
    · replace hf := xif_f hf c5
      refine lv_iload_n hx hb dX10_lot_36 rfl (lv_at hl 3 rfl) ?_
      refine lv_iconst (v := 0) hx hb dX10_lot_37 (by decide) ?_
      refine lv_iconst (v := 2) hx hb dX10_lot_38 (by decide) ?_
      obtain ⟨r6, er6, hf⟩ := xbd_s hf
      refine x_Si (As := [.int v3, .int 0, .int 2]) (rest := []) E.1 (m_X10_in l er6) (cwS 3 hts (xgS xU_sub q205 q206 q5 q207) rfl rfl rfl hdX10_in ⟨Nat.le_of_ble_eq_true rfl, Nat.le_of_ble_eq_true rfl⟩) h rfl hl.1 rfl (Nat.le_of_ble_eq_true rfl) dX10_lot_39 ⟨Nat.le_of_ble_eq_true rfl, Nat.le_of_ble_eq_true rfl⟩ (fun H locs h => ?_)
      refine lv_if_ne (tgt := 51) hx hb dX10_lot_42 (by decide) (fun c7 => ?_) (fun c7 => ?_)
      · replace hf := xif_f hf c7
        refine lv_aload_n hx hb dX10_lot_51 rfl (lv_at hl 0 rfl) ?_
        refine lv_aload_n hx hb dX10_lot_52 rfl (lv_at hl 0 rfl) ?_
        refine lv_iload_n hx hb dX10_lot_53 rfl (lv_at hl 1 rfl) ?_
        refine lv_iload_n hx hb dX10_lot_54 rfl (lv_at hl 3 rfl) ?_
        refine lv_if_ne (tgt := 63) hx hb dX10_lot_55 (by decide) (fun c8 => ?_) (fun c8 => ?_)
        · replace hf := xif_f hf c8
          refine lv_iload_n hx hb dX10_lot_63 rfl (lv_at hl 3 rfl) ?_
          refine lv_iconst (v := 1) hx hb dX10_lot_64 (by decide) ?_
          refine lv_icmp_ne (tgt := 73) hx hb dX10_lot_65 (by decide) (fun c9 => ?_) (fun c9 => ?_)
          · replace hf := xif_f hf c9
            refine lv_bipush (v := 31) hx hb dX10_lot_73 (by decide) ?_
            exact w_X10_lot_75 l E v2 31 v1 r6.1 hf _ _ _ h (lv_sub hl [2] rfl)
          · replace hf := xif_t hf c9
            refine lv_bipush (v := 19) hx hb dX10_lot_68 (by decide) ?_
            refine lv_goto (tgt := 75) hx hb dX10_lot_70 (by decide) ?_
            exact w_X10_lot_75 l E v2 19 v1 r6.1 hf _ _ _ h (lv_sub hl [2] rfl)
        · replace hf := xif_t hf c8
          refine lv_bipush (v := 7) hx hb dX10_lot_58 (by decide) ?_
          refine lv_goto (tgt := 75) hx hb dX10_lot_60 (by decide) ?_
          exact w_X10_lot_75 l E v2 7 v1 r6.1 hf _ _ _ h (lv_sub hl [2] rfl)
      · replace hf := xif_t hf c7
        refine lv_aload_n hx hb dX10_lot_45 rfl (lv_at hl 0 rfl) ?_
        refine lv_iconst (v := 3) hx hb dX10_lot_46 (by decide) ?_
        obtain ⟨r10, er10, hf⟩ := xbd_s hf
        refine x_Vi (As := [.int 3]) (rest := []) E.1 (m_X10_fails l er10) (cwV 1 hts (xgV xU_sub q208 q209 q210 q5 q211) rfl rfl rfl hdX10_fails ⟨Nat.le_of_ble_eq_true rfl, Nat.le_of_ble_eq_true rfl⟩) h kR_model rfl rfl hl.1 rfl (Nat.le_of_ble_eq_true rfl) dX10_lot_47 ⟨Nat.le_of_ble_eq_true rfl, Nat.le_of_ble_eq_true rfl⟩ (fun H locs h => ?_)
        exact x_iret hx hb h (Option.some.inj hf) hr hlocks dX10_lot_50
    · replace hf := xif_t hf c5
      refine lv_aload_n hx hb dX10_lot_30 rfl (lv_at hl 0 rfl) ?_
      refine lv_iconst (v := 2) hx hb dX10_lot_31 (by decide) ?_
      obtain ⟨r11, er11, hf⟩ := xbd_s hf
      refine x_Vi (As := [.int 2]) (rest := []) E.1 (m_X10_fails l er11) (cwV 1 hts (xgV xU_sub q208 q209 q210 q5 q211) rfl rfl rfl hdX10_fails ⟨Nat.le_of_ble_eq_true rfl, Nat.le_of_ble_eq_true rfl⟩) h kR_model rfl rfl hl.1 rfl (Nat.le_of_ble_eq_true rfl) dX10_lot_32 ⟨Nat.le_of_ble_eq_true rfl, Nat.le_of_ble_eq_true rfl⟩ (fun H locs h => ?_)
      exact x_iret hx hb h (Option.some.inj hf) hr hlocks dX10_lot_35
  · replace hf := xif_t hf c2
    refine lv_aload_n hx hb dX10_lot_8 rfl (lv_at hl 0 rfl) ?_
    refine lv_iconst (v := 1) hx hb dX10_lot_9 (by decide) ?_
    obtain ⟨r12, er12, hf⟩ := xbd_s hf
    refine x_Vi (As := [.int 1]) (rest := []) E.1 (m_X10_fails l er12) (cwV 1 hts (xgV xU_sub q208 q209 q210 q5 q211) rfl rfl rfl hdX10_fails ⟨Nat.le_of_ble_eq_true rfl, Nat.le_of_ble_eq_true rfl⟩) h kR_model rfl rfl hl.1 rfl (Nat.le_of_ble_eq_true rfl) dX10_lot_10 ⟨Nat.le_of_ble_eq_true rfl, Nat.le_of_ble_eq_true rfl⟩ (fun H locs h => ?_)
    exact x_iret hx hb h (Option.some.inj hf) hr hlocks dX10_lot_13
theorem hdX10_setLife : yX10_setLife.cls = RX10 ∧ yX10_setLife.cls ≠ "java/lang/invoke/MethodHandle" ∧ yX10_setLife.cls ≠ "java/lang/invoke/VarHandle" ∧ (parseMethodDescriptor yX10_setLife.desc).map (fun d => d.parameters.length) = some 2 := by decide +kernel
set_option maxHeartbeats 4000000 in
set_option maxRecDepth 100000 in
theorem m_X10_setLife (l : Launch) {Γ : xG} {N : Nat} {v1 : Int32} {v2 : Int32} {M : xM} {res : xR} (hf : F_X10_setLife N v1 v2 M = some res) (sz : Nat) : Met l yX10_setLife (xWs yX10_setLife cX10_setLife 4 (some .int)) ({ frames := 3, cells := 0, slots := 0, locals := 85 } : Room) (va_Pc [.ref (Γ.2.1 0), .int v1, .int v2] (xPre Γ (wR Γ) M sz)) (xCi Γ (wR Γ) 10 res sz) 0 0 (xAd Γ 10 sz) := by
  refine x_met (Qc := fun sz => xCi Γ (wR Γ) 10 res sz) pnX10 wG_W (Nat.le_of_ble_eq_true rfl) (fun p e s m args below meth c _ E h ls hl => ?_) sz
  obtain ⟨⟨hx, hb, hml, hown, hts⟩, hr, hlocks⟩ := id E
  have hl : lv_has ls 4 [(0, .ref (Γ.2.1 0)), (1, .int v1), (2, .int v2)] := hl
  refine lv_aload_n hx hb dX10_setLife_0 rfl (lv_at hl 0 rfl) ?_
  refine lv_iload_n hx hb dX10_setLife_1 rfl (lv_at hl 1 rfl) ?_
  obtain ⟨r1, er1, hf⟩ := xbd_s hf
  refine x_Vi (As := [.int v1]) (rest := []) E.1 (m_X10_isColorant l er1) (cwV 1 hts (xgV xU_sub q249 q250 q251 q5 q252) rfl rfl rfl hdX10_isColorant ⟨Nat.le_of_ble_eq_true rfl, Nat.le_of_ble_eq_true rfl⟩) h kR_model rfl rfl hl.1 rfl (Nat.le_of_ble_eq_true rfl) dX10_setLife_2 ⟨Nat.le_of_ble_eq_true rfl, Nat.le_of_ble_eq_true rfl⟩ (fun H locs h => ?_)
  refine lv_if_ne (tgt := 14) hx hb dX10_setLife_5 (by decide) (fun c2 => ?_) (fun c2 => ?_)
  · replace hf := xif_f hf c2
    refine lv_iload_n hx hb dX10_setLife_14 rfl (lv_at hl 2 rfl) ?_
    refine lv_iconst (v := 1) hx hb dX10_setLife_15 (by decide) ?_
    refine lv_bipush (v := 99) hx hb dX10_setLife_16 (by decide) ?_
    obtain ⟨r3, er3, hf⟩ := xbd_s hf
    refine x_Si (As := [.int v2, .int 1, .int 99]) (rest := []) E.1 (m_X10_in l er3) (cwS 3 hts (xgS xU_sub q205 q206 q5 q207) rfl rfl rfl hdX10_in ⟨Nat.le_of_ble_eq_true rfl, Nat.le_of_ble_eq_true rfl⟩) h rfl hl.1 rfl (Nat.le_of_ble_eq_true rfl) dX10_setLife_18 ⟨Nat.le_of_ble_eq_true rfl, Nat.le_of_ble_eq_true rfl⟩ (fun H locs h => ?_)
    refine lv_if_ne (tgt := 30) hx hb dX10_setLife_21 (by decide) (fun c4 => ?_) (fun c4 => ?_)
    · replace hf := xif_f hf c4
      refine lv_aload_n hx hb dX10_setLife_30 rfl (lv_at hl 0 rfl) ?_
      obtain ⟨r5, er5, hf⟩ := xbd_s hf
      refine x_Vv (As := []) (rest := []) E.1 (m_X10_remembers l er5) (cwV 0 hts (xgV xU_sub q213 q214 q215 q5 q216) rfl rfl rfl hdX10_remembers ⟨Nat.le_of_ble_eq_true rfl, Nat.le_of_ble_eq_true rfl⟩) h kR_model rfl rfl hl.1 rfl (Nat.le_of_ble_eq_true rfl) dX10_setLife_31 ⟨Nat.le_of_ble_eq_true rfl, Nat.le_of_ble_eq_true rfl⟩ (fun H locs h => ?_)
      refine lv_aload_n hx hb dX10_setLife_34 rfl (lv_at hl 0 rfl) ?_
      refine lv_iload_n hx hb dX10_setLife_35 rfl (lv_at hl 1 rfl) ?_
      refine lv_bipush (v := 44) hx hb dX10_setLife_36 (by decide) ?_
      obtain ⟨r6, er6, hf⟩ := xbd_s hf
      refine x_Vi (As := [.int v1, .int 44]) (rest := []) E.1 (m_X10_colorantAt l er6) (cwV 2 hts (xgV xU_sub q253 q254 q255 q5 q256) rfl rfl rfl hdX10_colorantAt ⟨Nat.le_of_ble_eq_true rfl, Nat.le_of_ble_eq_true rfl⟩) h kR_model rfl rfl hl.1 rfl (Nat.le_of_ble_eq_true rfl) dX10_setLife_38 ⟨Nat.le_of_ble_eq_true rfl, Nat.le_of_ble_eq_true rfl⟩ (fun H locs h => ?_)
      obtain ⟨y7, ey7, hf⟩ := xl_s hf
      refine x_nm ey7 ?_
      refine lv_istore_n (lv' := [(3, .int y7), (0, .ref (Γ.2.1 0)), (1, .int v1), (2, .int v2)]) hx hb dX10_setLife_41 rfl hl (by decide) rfl (fun ls hl => ?_)
      refine lv_aload_n hx hb dX10_setLife_42 rfl (lv_at hl 1 rfl) ?_
      refine x_get (own := RX10) (ref := "TintDeskModel") (C := RX10) (T := TX10) (n := 20) (index := 9) (v := .ref (Γ.2.1 1)) hx hb hts (fun w h => xU_sub w (inU10 w h)) hown h kR_model rfl 1 (by decide) (hts _ (xU_sub _ q132)) (fun _ h9 => h9) rfl dX10_setLife_43 ?_
      refine lv_iconst (v := 5) hx hb dX10_setLife_46 (by decide) ?_
      refine lv_bipush (v := 46) hx hb dX10_setLife_47 (by decide) ?_
      refine lv_iload_n hx hb dX10_setLife_49 rfl (lv_at hl 2 rfl) ?_
      refine lv_imul hx hb dX10_setLife_50 ?_
      refine lv_iadd hx hb dX10_setLife_51 ?_
      refine lv_bipush (v := 44) hx hb dX10_setLife_52 (by decide) ?_
      refine lv_iadd hx hb dX10_setLife_54 ?_
      refine lv_iload_n hx hb dX10_setLife_55 rfl (lv_at hl 3 rfl) ?_
      obtain ⟨c8, hf⟩ := xck_s hf
      obtain ⟨M9, eM9, hf⟩ := xl_s hf
      refine x_iast hx hb h kR_g (xin_in c8) eM9 dX10_setLife_56 (fun H locs h => ?_)
      refine lv_aload_n hx hb dX10_setLife_57 rfl (lv_at hl 1 rfl) ?_
      refine lv_iload_n hx hb dX10_setLife_58 rfl (lv_at hl 0 rfl) ?_
      obtain ⟨r10, er10, hf⟩ := xbd_s hf
      refine x_Vi (As := [.int y7]) (rest := []) E.1 (m_X10_done l er10) (cwV 1 hts (xgV xU_sub q221 q222 q223 q5 q224) rfl rfl rfl hdX10_done ⟨Nat.le_of_ble_eq_true rfl, Nat.le_of_ble_eq_true rfl⟩) h kR_model rfl rfl hl.1 rfl (Nat.le_of_ble_eq_true rfl) dX10_setLife_59 ⟨Nat.le_of_ble_eq_true rfl, Nat.le_of_ble_eq_true rfl⟩ (fun H locs h => ?_)
      exact x_iret hx hb h (Option.some.inj hf) hr hlocks dX10_setLife_62
    · replace hf := xif_t hf c4
      refine lv_aload_n hx hb dX10_setLife_24 rfl (lv_at hl 0 rfl) ?_
      refine lv_iconst (v := 2) hx hb dX10_setLife_25 (by decide) ?_
      obtain ⟨r11, er11, hf⟩ := xbd_s hf
      refine x_Vi (As := [.int 2]) (rest := []) E.1 (m_X10_fails l er11) (cwV 1 hts (xgV xU_sub q208 q209 q210 q5 q211) rfl rfl rfl hdX10_fails ⟨Nat.le_of_ble_eq_true rfl, Nat.le_of_ble_eq_true rfl⟩) h kR_model rfl rfl hl.1 rfl (Nat.le_of_ble_eq_true rfl) dX10_setLife_26 ⟨Nat.le_of_ble_eq_true rfl, Nat.le_of_ble_eq_true rfl⟩ (fun H locs h => ?_)
      exact x_iret hx hb h (Option.some.inj hf) hr hlocks dX10_setLife_29
  · replace hf := xif_t hf c2
    refine lv_aload_n hx hb dX10_setLife_8 rfl (lv_at hl 0 rfl) ?_
    refine lv_iconst (v := 1) hx hb dX10_setLife_9 (by decide) ?_
    obtain ⟨r12, er12, hf⟩ := xbd_s hf
    refine x_Vi (As := [.int 1]) (rest := []) E.1 (m_X10_fails l er12) (cwV 1 hts (xgV xU_sub q208 q209 q210 q5 q211) rfl rfl rfl hdX10_fails ⟨Nat.le_of_ble_eq_true rfl, Nat.le_of_ble_eq_true rfl⟩) h kR_model rfl rfl hl.1 rfl (Nat.le_of_ble_eq_true rfl) dX10_setLife_10 ⟨Nat.le_of_ble_eq_true rfl, Nat.le_of_ble_eq_true rfl⟩ (fun H locs h => ?_)
    exact x_iret hx hb h (Option.some.inj hf) hr hlocks dX10_setLife_13
theorem hdX10_wastes : yX10_wastes.cls = RX10 ∧ yX10_wastes.cls ≠ "java/lang/invoke/MethodHandle" ∧ yX10_wastes.cls ≠ "java/lang/invoke/VarHandle" ∧ (parseMethodDescriptor yX10_wastes.desc).map (fun d => d.parameters.length) = some 1 := by decide +kernel
set_option maxHeartbeats 4000000 in
set_option maxRecDepth 100000 in
theorem w_X10_wastes_51 (l : Launch) {p : Program} {e : Env} {s : State} {m : MethodId} {args : Array Value} {below : List Frame} {meth : Method} {c : Code} {Γ : xG} {N : Nat} {res : xR} (E : xEv p s m args meth c RX10 cX10_wastes 4 (some .int) (xWs yX10_wastes cX10_wastes 4 (some .int))) {K_11 : Int32 → Int32 → Int32 → xM → Option xR} (hK_11 : ∀ (v1 : Int32) (v2 : Int32) (v3 : Int32) (M : xM), K_11 v1 v2 v3 M = some res → ∀ (H : Heap) (locs : List Loc) (ls : Array Slot), xH Γ (wR Γ) 10 s M H locs → lv_has ls 4 [(0, .ref (Γ.2.1 0)), (1, .int v1), (2, .int v2), (3, .int v3)] → W p l e ({ frames := 2, cells := 0, slots := 0, locals := 64 } : Room) s m args below meth c H locs 0 0 (MQ below (xCi Γ (wR Γ) 10 res s.heap.size) args s 0 0 (xAd Γ 10 s.heap.size)) (F0 m 11 ls [])) : ∀ (v1 : Int32) (v2 : Int32) (v3 : Int32) (M : xM), L_X10_wastes_51 N K_11 v1 v2 v3 M = some res → ∀ (H : Heap) (locs : List Loc) (ls : Array Slot), xH Γ (wR Γ) 10 s M H locs → lv_has ls 4 [(0, .ref (Γ.2.1 0)), (1, .int v1), (2, .int v2), (3, .int v3)] → W p l e ({ frames := 2, cells := 0, slots := 0, locals := 64 } : Room) s m args below meth c H locs 0 0 (MQ below (xCi Γ (wR Γ) 10 res s.heap.size) args s 0 0 (xAd Γ 10 s.heap.size)) (F0 m 51 ls []) := by
  obtain ⟨⟨hx, hb, hml, hown, hts⟩, hr, hlocks⟩ := id E
  intro v1 v2 v3 M hf H locs ls h hl
  obtain ⟨y1, ey1, hf⟩ := xl_s hf
  refine lv_iinc (v := y1) (lv' := [(3, .int y1), (0, .ref (Γ.2.1 0)), (1, .int v1), (2, .int v2)]) hx hb dX10_wastes_51 hl (k := 3) rfl (by rw [ey1]; rfl) (by decide) rfl (fun ls hl => ?_)
  refine lv_goto (tgt := 11) hx hb dX10_wastes_54 (by decide) ?_
  exact hK_11 v1 v2 y1 M hf _ _ _ h (lv_sub hl [1, 2, 3, 0] rfl)
set_option maxHeartbeats 4000000 in
set_option maxRecDepth 100000 in
theorem w_X10_wastes_11 (l : Launch) {p : Program} {e : Env} {s : State} {m : MethodId} {args : Array Value} {below : List Frame} {meth : Method} {c : Code} {Γ : xG} {N : Nat} {res : xR} (E : xEv p s m args meth c RX10 cX10_wastes 4 (some .int) (xWs yX10_wastes cX10_wastes 4 (some .int))) : ∀ (n : Nat) (v1 : Int32) (v2 : Int32) (v3 : Int32) (M : xM), L_X10_wastes_11 N n v1 v2 v3 M = some res → ∀ (H : Heap) (locs : List Loc) (ls : Array Slot), xH Γ (wR Γ) 10 s M H locs → lv_has ls 4 [(0, .ref (Γ.2.1 0)), (1, .int v1), (2, .int v2), (3, .int v3)] → W p l e ({ frames := 2, cells := 0, slots := 0, locals := 64 } : Room) s m args below meth c H locs 0 0 (MQ below (xCi Γ (wR Γ) 10 res s.heap.size) args s 0 0 (xAd Γ 10 s.heap.size)) (F0 m 11 ls []) := by
  obtain ⟨⟨hx, hb, hml, hown, hts⟩, hr, hlocks⟩ := id E
  intro n
  induction n with
  | zero => intro v1 v2 v3 M hf; cases hf
  | succ n ih =>
    intro v1 v2 v3 M hf H locs ls h hl
    refine lv_iload_n hx hb dX10_wastes_11 rfl (lv_at hl 3 rfl) ?_
    refine lv_if_lt (tgt := 57) hx hb dX10_wastes_12 (by decide) (fun c1 => ?_) (fun c1 => ?_)
    · replace hf := xif_t hf c1
      refine lv_aload_n hx hb dX10_wastes_57 rfl (lv_at hl 0 rfl) ?_
      refine x_get (own := RX10) (ref := "TintDeskModel") (C := RX10) (T := TX10) (n := 20) (index := 9) (v := .ref (Γ.2.1 1)) hx hb hts (fun w h => xU_sub w (inU10 w h)) hown h kR_model rfl 1 (by decide) (hts _ (xU_sub _ q132)) (fun _ h9 => h9) rfl dX10_wastes_58 ?_
      refine lv_iconst (v := 5) hx hb dX10_wastes_61 (by decide) ?_
      refine lv_bipush (v := 46) hx hb dX10_wastes_62 (by decide) ?_
      refine lv_iload_n hx hb dX10_wastes_64 rfl (lv_at hl 1 rfl) ?_
      refine lv_imul hx hb dX10_wastes_65 ?_
      refine lv_iadd hx hb dX10_wastes_66 ?_
      refine lv_bipush (v := 43) hx hb dX10_wastes_67 (by decide) ?_
      refine lv_iadd hx hb dX10_wastes_69 ?_
      refine lv_dup2_11 hx hb dX10_wastes_70 rfl rfl ?_
      obtain ⟨c2, hf⟩ := xck_s hf
      refine x_iald hx hb h kR_g (xin_in c2) dX10_wastes_71 ?_
      refine lv_iload_n hx hb dX10_wastes_72 rfl (lv_at hl 2 rfl) ?_
      refine lv_iadd hx hb dX10_wastes_73 ?_
      obtain ⟨c3, hf⟩ := xck_s hf
      obtain ⟨M4, eM4, hf⟩ := xl_s hf
      refine x_iast hx hb h kR_g (xin_in c3) eM4 dX10_wastes_74 (fun H locs h => ?_)
      refine lv_iload_n hx hb dX10_wastes_75 rfl (lv_at hl 2 rfl) ?_
      exact x_iret hx hb h (Option.some.inj hf) hr hlocks dX10_wastes_76
    · replace hf := xif_f hf c1
      refine lv_aload_n hx hb dX10_wastes_15 rfl (lv_at hl 0 rfl) ?_
      refine lv_iload_n hx hb dX10_wastes_16 rfl (lv_at hl 1 rfl) ?_
      refine lv_bipush (v := 31) hx hb dX10_wastes_17 (by decide) ?_
      refine lv_iload_n hx hb dX10_wastes_19 rfl (lv_at hl 3 rfl) ?_
      refine lv_iadd hx hb dX10_wastes_20 ?_
      obtain ⟨r5, er5, hf⟩ := xbd_s hf
      refine x_Vi (As := [.int v1, .int (31 + v3)]) (rest := []) E.1 (m_X10_colorantAt l er5) (cwV 2 hts (xgV xU_sub q253 q254 q255 q5 q256) rfl rfl rfl hdX10_colorantAt ⟨Nat.le_of_ble_eq_true rfl, Nat.le_of_ble_eq_true rfl⟩) h kR_model rfl rfl hl.1 rfl (Nat.le_of_ble_eq_true rfl) dX10_wastes_21 ⟨Nat.le_of_ble_eq_true rfl, Nat.le_of_ble_eq_true rfl⟩ (fun H locs h => ?_)
      refine lv_aload_n hx hb dX10_wastes_24 rfl (lv_at hl 0 rfl) ?_
      refine x_get (own := RX10) (ref := "TintDeskModel") (C := RX10) (T := TX10) (n := 20) (index := 9) (v := .ref (Γ.2.1 1)) hx hb hts (fun w h => xU_sub w (inU10 w h)) hown h kR_model rfl 1 (by decide) (hts _ (xU_sub _ q132)) (fun _ h9 => h9) rfl dX10_wastes_25 ?_
      refine lv_iconst (v := 4) hx hb dX10_wastes_28 (by decide) ?_
      refine x_iald hx hb h kR_g (xin_in (by decide)) dX10_wastes_29 ?_
      refine lv_icmp_ge (tgt := 51) hx hb dX10_wastes_30 (by decide) (fun c6 => ?_) (fun c6 => ?_)
      · replace hf := xif_t hf c6
        exact w_X10_wastes_51 l E (ih) v1 v2 v3 r5.1 hf _ _ _ h (lv_sub hl [0, 1, 2, 3] rfl)
      · replace hf := xif_f hf c6
        refine lv_iload_n hx hb dX10_wastes_33 rfl (lv_at hl 2 rfl) ?_
        refine lv_aload_n hx hb dX10_wastes_34 rfl (lv_at hl 0 rfl) ?_
        refine lv_iload_n hx hb dX10_wastes_35 rfl (lv_at hl 1 rfl) ?_
        refine lv_bipush (v := 19) hx hb dX10_wastes_36 (by decide) ?_
        refine lv_iload_n hx hb dX10_wastes_38 rfl (lv_at hl 3 rfl) ?_
        refine lv_iadd hx hb dX10_wastes_39 ?_
        obtain ⟨r7, er7, hf⟩ := xbd_s hf
        refine x_Vi (As := [.int v1, .int (19 + v3)]) (rest := [.int v2]) E.1 (m_X10_colorantAt l er7) (cwV 2 hts (xgV xU_sub q253 q254 q255 q5 q256) rfl rfl rfl hdX10_colorantAt ⟨Nat.le_of_ble_eq_true rfl, Nat.le_of_ble_eq_true rfl⟩) h kR_model rfl rfl hl.1 rfl (Nat.le_of_ble_eq_true rfl) dX10_wastes_40 ⟨Nat.le_of_ble_eq_true rfl, Nat.le_of_ble_eq_true rfl⟩ (fun H locs h => ?_)
        refine lv_iadd hx hb dX10_wastes_43 ?_
        obtain ⟨y8, ey8, hf⟩ := xl_s hf
        refine x_nm ey8 ?_
        refine lv_istore_n (lv' := [(2, .int y8), (0, .ref (Γ.2.1 0)), (1, .int v1), (3, .int v3)]) hx hb dX10_wastes_44 rfl hl (by decide) rfl (fun ls hl => ?_)
        refine lv_aload_n hx hb dX10_wastes_45 rfl (lv_at hl 1 rfl) ?_
        refine lv_iload_n hx hb dX10_wastes_46 rfl (lv_at hl 2 rfl) ?_
        refine lv_iload_n hx hb dX10_wastes_47 rfl (lv_at hl 3 rfl) ?_
        obtain ⟨r9, er9, hf⟩ := xbd_s hf
        refine x_Vv (As := [.int v1, .int v3]) (rest := []) E.1 (m_X10_goes l er9) (cwV 2 hts (xgV xU_sub q316 q317 q318 q5 q319) rfl rfl rfl hdX10_goes ⟨Nat.le_of_ble_eq_true rfl, Nat.le_of_ble_eq_true rfl⟩) h kR_model rfl rfl hl.1 rfl (Nat.le_of_ble_eq_true rfl) dX10_wastes_48 ⟨Nat.le_of_ble_eq_true rfl, Nat.le_of_ble_eq_true rfl⟩ (fun H locs h => ?_)
        exact w_X10_wastes_51 l E (ih) v1 y8 v3 r9.1 hf _ _ _ h (lv_sub hl [1, 2, 0, 3] rfl)
set_option maxHeartbeats 4000000 in
set_option maxRecDepth 100000 in
theorem m_X10_wastes (l : Launch) {Γ : xG} {N : Nat} {v1 : Int32} {M : xM} {res : xR} (hf : F_X10_wastes N v1 M = some res) (sz : Nat) : Met l yX10_wastes (xWs yX10_wastes cX10_wastes 4 (some .int)) ({ frames := 2, cells := 0, slots := 0, locals := 64 } : Room) (va_Pc [.ref (Γ.2.1 0), .int v1] (xPre Γ (wR Γ) M sz)) (xCi Γ (wR Γ) 10 res sz) 0 0 (xAd Γ 10 sz) := by
  refine x_met (Qc := fun sz => xCi Γ (wR Γ) 10 res sz) pnX10 wG_W (Nat.le_of_ble_eq_true rfl) (fun p e s m args below meth c _ E h ls hl => ?_) sz
  obtain ⟨⟨hx, hb, hml, hown, hts⟩, hr, hlocks⟩ := id E
  have hl : lv_has ls 4 [(0, .ref (Γ.2.1 0)), (1, .int v1)] := hl
  refine lv_iconst (v := 0) hx hb dX10_wastes_0 (by decide) ?_
  refine lv_istore_n (lv' := [(2, .int 0), (0, .ref (Γ.2.1 0)), (1, .int v1)]) hx hb dX10_wastes_1 rfl hl (by decide) rfl (fun ls hl => ?_)
  refine lv_aload_n hx hb dX10_wastes_2 rfl (lv_at hl 1 rfl) ?_
  refine lv_iload_n hx hb dX10_wastes_3 rfl (lv_at hl 2 rfl) ?_
  refine lv_iconst (v := 3) hx hb dX10_wastes_4 (by decide) ?_
  obtain ⟨r1, er1, hf⟩ := xbd_s hf
  refine x_Vi (As := [.int v1, .int 3]) (rest := []) E.1 (m_X10_colorantAt l er1) (cwV 2 hts (xgV xU_sub q253 q254 q255 q5 q256) rfl rfl rfl hdX10_colorantAt ⟨Nat.le_of_ble_eq_true rfl, Nat.le_of_ble_eq_true rfl⟩) h kR_model rfl rfl hl.1 rfl (Nat.le_of_ble_eq_true rfl) dX10_wastes_5 ⟨Nat.le_of_ble_eq_true rfl, Nat.le_of_ble_eq_true rfl⟩ (fun H locs h => ?_)
  refine lv_iconst (v := 1) hx hb dX10_wastes_8 (by decide) ?_
  refine lv_isub hx hb dX10_wastes_9 ?_
  obtain ⟨y2, ey2, hf⟩ := xl_s hf
  refine x_nm ey2 ?_
  refine lv_istore_n (lv' := [(3, .int y2), (2, .int 0), (0, .ref (Γ.2.1 0)), (1, .int v1)]) hx hb dX10_wastes_10 rfl hl (by decide) rfl (fun ls hl => ?_)
  exact w_X10_wastes_11 l E N v1 0 y2 r1.1 hf _ _ _ h (lv_sub hl [2, 3, 1, 0] rfl)
theorem hdX10_pass : yX10_pass.cls = RX10 ∧ yX10_pass.cls ≠ "java/lang/invoke/MethodHandle" ∧ yX10_pass.cls ≠ "java/lang/invoke/VarHandle" ∧ (parseMethodDescriptor yX10_pass.desc).map (fun d => d.parameters.length) = some 1 := by decide +kernel
set_option maxHeartbeats 4000000 in
set_option maxRecDepth 100000 in
theorem w_X10_pass_56 (l : Launch) {p : Program} {e : Env} {s : State} {m : MethodId} {args : Array Value} {below : List Frame} {meth : Method} {c : Code} {Γ : xG} {N : Nat} {res : xR} (E : xEv p s m args meth c RX10 cX10_pass 5 (some .int) (xWs yX10_pass cX10_pass 5 (some .int))) {K_38 : Int32 → Int32 → Int32 → xM → Option xR} (hK_38 : ∀ (v1 : Int32) (v2 : Int32) (v3 : Int32) (M : xM), K_38 v1 v2 v3 M = some res → ∀ (H : Heap) (locs : List Loc) (ls : Array Slot), xH Γ (wR Γ) 10 s M H locs → lv_has ls 5 [(0, .ref (Γ.2.1 0)), (1, .int v1), (2, .int v2), (3, .int v3)] → W p l e ({ frames := 3, cells := 0, slots := 0, locals := 87 } : Room) s m args below meth c H locs 0 0 (MQ below (xCi Γ (wR Γ) 10 res s.heap.size) args s 0 0 (xAd Γ 10 s.heap.size)) (F0 m 38 ls [])) : ∀ (n : Nat) (v1 : Int32) (v2 : Int32) (v3 : Int32) (v4 : Int32) (M : xM), L_X10_pass_56 N K_38 n v1 v2 v3 v4 M = some res → ∀ (H : Heap) (locs : List Loc) (ls : Array Slot), xH Γ (wR Γ) 10 s M H locs → lv_has ls 5 [(0, .ref (Γ.2.1 0)), (1, .int v1), (2, .int v2), (3, .int v3), (4, .int v4)] → W p l e ({ frames := 3, cells := 0, slots := 0, locals := 87 } : Room) s m args below meth c H locs 0 0 (MQ below (xCi Γ (wR Γ) 10 res s.heap.size) args s 0 0 (xAd Γ 10 s.heap.size)) (F0 m 56 ls []) := by
  obtain ⟨⟨hx, hb, hml, hown, hts⟩, hr, hlocks⟩ := id E
  intro n
  induction n with
  | zero => intro v1 v2 v3 v4 M hf; cases hf
  | succ n ih =>
    intro v1 v2 v3 v4 M hf H locs ls h hl
    refine lv_iload hx hb dX10_pass_56 (lv_at hl 4 rfl) ?_
    refine lv_aload_n hx hb dX10_pass_58 rfl (lv_at hl 0 rfl) ?_
    refine x_get (own := RX10) (ref := "TintDeskModel") (C := RX10) (T := TX10) (n := 20) (index := 9) (v := .ref (Γ.2.1 1)) hx hb hts (fun w h => xU_sub w (inU10 w h)) hown h kR_model rfl 1 (by decide) (hts _ (xU_sub _ q132)) (fun _ h9 => h9) rfl dX10_pass_59 ?_
    refine lv_iconst (v := 0) hx hb dX10_pass_62 (by decide) ?_
    refine x_iald hx hb h kR_g (xin_in (by decide)) dX10_pass_63 ?_
    refine lv_icmp_ge (tgt := 82) hx hb dX10_pass_64 (by decide) (fun c1 => ?_) (fun c1 => ?_)
    · replace hf := xif_t hf c1
      obtain ⟨y2, ey2, hf⟩ := xl_s hf
      refine lv_iinc (v := y2) (lv' := [(3, .int y2), (0, .ref (Γ.2.1 0)), (1, .int v1), (2, .int v2), (4, .int v4)]) hx hb dX10_pass_82 hl (k := 3) rfl (by rw [ey2]; rfl) (by decide) rfl (fun ls hl => ?_)
      refine lv_goto (tgt := 38) hx hb dX10_pass_85 (by decide) ?_
      exact hK_38 v1 v2 y2 M hf _ _ _ h (lv_sub hl [1, 2, 3, 0] rfl)
    · replace hf := xif_f hf c1
      refine lv_iload_n hx hb dX10_pass_67 rfl (lv_at hl 2 rfl) ?_
      refine lv_aload_n hx hb dX10_pass_68 rfl (lv_at hl 0 rfl) ?_
      refine lv_iload hx hb dX10_pass_69 (lv_at hl 4 rfl) ?_
      obtain ⟨r3, er3, hf⟩ := xbd_s hf
      refine x_Vi (As := [.int v4]) (rest := [.int v2]) E.1 (m_X10_wastes l er3) (cwV 1 hts (xgV xU_sub q373 q374 q375 q5 q376) rfl rfl rfl hdX10_wastes ⟨Nat.le_of_ble_eq_true rfl, Nat.le_of_ble_eq_true rfl⟩) h kR_model rfl rfl hl.1 rfl (Nat.le_of_ble_eq_true rfl) dX10_pass_71 ⟨Nat.le_of_ble_eq_true rfl, Nat.le_of_ble_eq_true rfl⟩ (fun H locs h => ?_)
      refine lv_iadd hx hb dX10_pass_74 ?_
      obtain ⟨y4, ey4, hf⟩ := xl_s hf
      refine x_nm ey4 ?_
      refine lv_istore_n (lv' := [(2, .int y4), (0, .ref (Γ.2.1 0)), (1, .int v1), (3, .int v3), (4, .int v4)]) hx hb dX10_pass_75 rfl hl (by decide) rfl (fun ls hl => ?_)
      obtain ⟨y5, ey5, hf⟩ := xl_s hf
      refine lv_iinc (v := y5) (lv' := [(4, .int y5), (2, .int y4), (0, .ref (Γ.2.1 0)), (1, .int v1), (3, .int v3)]) hx hb dX10_pass_76 hl (k := 4) rfl (by rw [ey5]; rfl) (by decide) rfl (fun ls hl => ?_)
      refine lv_goto (tgt := 56) hx hb dX10_pass_79 (by decide) ?_
      exact ih v1 y4 v3 y5 r3.1 hf _ _ _ h (lv_sub hl [2, 3, 1, 4, 0] rfl)
set_option maxHeartbeats 4000000 in
set_option maxRecDepth 100000 in
theorem w_X10_pass_38 (l : Launch) {p : Program} {e : Env} {s : State} {m : MethodId} {args : Array Value} {below : List Frame} {meth : Method} {c : Code} {Γ : xG} {N : Nat} {res : xR} (E : xEv p s m args meth c RX10 cX10_pass 5 (some .int) (xWs yX10_pass cX10_pass 5 (some .int))) : ∀ (n : Nat) (v1 : Int32) (v2 : Int32) (v3 : Int32) (M : xM), L_X10_pass_38 N n v1 v2 v3 M = some res → ∀ (H : Heap) (locs : List Loc) (ls : Array Slot), xH Γ (wR Γ) 10 s M H locs → lv_has ls 5 [(0, .ref (Γ.2.1 0)), (1, .int v1), (2, .int v2), (3, .int v3)] → W p l e ({ frames := 3, cells := 0, slots := 0, locals := 87 } : Room) s m args below meth c H locs 0 0 (MQ below (xCi Γ (wR Γ) 10 res s.heap.size) args s 0 0 (xAd Γ 10 s.heap.size)) (F0 m 38 ls []) := by
  obtain ⟨⟨hx, hb, hml, hown, hts⟩, hr, hlocks⟩ := id E
  intro n
  induction n with
  | zero => intro v1 v2 v3 M hf; cases hf
  | succ n ih =>
    intro v1 v2 v3 M hf H locs ls h hl
    refine lv_iload_n hx hb dX10_pass_38 rfl (lv_at hl 3 rfl) ?_
    refine lv_iload_n hx hb dX10_pass_39 rfl (lv_at hl 1 rfl) ?_
    refine lv_icmp_ge (tgt := 88) hx hb dX10_pass_40 (by decide) (fun c1 => ?_) (fun c1 => ?_)
    · replace hf := xif_t hf c1
      refine lv_aload_n hx hb dX10_pass_88 rfl (lv_at hl 0 rfl) ?_
      refine lv_iload_n hx hb dX10_pass_89 rfl (lv_at hl 2 rfl) ?_
      obtain ⟨r2, er2, hf⟩ := xbd_s hf
      refine x_Vi (As := [.int v2]) (rest := []) E.1 (m_X10_done l er2) (cwV 1 hts (xgV xU_sub q221 q222 q223 q5 q224) rfl rfl rfl hdX10_done ⟨Nat.le_of_ble_eq_true rfl, Nat.le_of_ble_eq_true rfl⟩) h kR_model rfl rfl hl.1 rfl (Nat.le_of_ble_eq_true rfl) dX10_pass_90 ⟨Nat.le_of_ble_eq_true rfl, Nat.le_of_ble_eq_true rfl⟩ (fun H locs h => ?_)
      exact x_iret hx hb h (Option.some.inj hf) hr hlocks dX10_pass_93
    · replace hf := xif_f hf c1
      refine lv_aload_n hx hb dX10_pass_43 rfl (lv_at hl 0 rfl) ?_
      refine x_get (own := RX10) (ref := "TintDeskModel") (C := RX10) (T := TX10) (n := 20) (index := 9) (v := .ref (Γ.2.1 1)) hx hb hts (fun w h => xU_sub w (inU10 w h)) hown h kR_model rfl 1 (by decide) (hts _ (xU_sub _ q132)) (fun _ h9 => h9) rfl dX10_pass_44 ?_
      refine lv_iconst (v := 4) hx hb dX10_pass_47 (by decide) ?_
      refine lv_dup2_11 hx hb dX10_pass_48 rfl rfl ?_
      refine x_iald hx hb h kR_g (xin_in (by decide)) dX10_pass_49 ?_
      refine lv_iconst (v := 1) hx hb dX10_pass_50 (by decide) ?_
      refine lv_iadd hx hb dX10_pass_51 ?_
      obtain ⟨M3, eM3, hf⟩ := xl_s hf
      refine x_iast hx hb h kR_g (xin_in (by decide)) eM3 dX10_pass_52 (fun H locs h => ?_)
      refine lv_iconst (v := 0) hx hb dX10_pass_53 (by decide) ?_
      refine lv_istore (lv' := [(4, .int 0), (0, .ref (Γ.2.1 0)), (1, .int v1), (2, .int v2), (3, .int v3)]) hx hb dX10_pass_54 hl (by decide) rfl (fun ls hl => ?_)
      exact w_X10_pass_56 l E (ih) N v1 v2 v3 0 M3 hf _ _ _ h (lv_sub hl [1, 2, 3, 4, 0] rfl)
set_option maxHeartbeats 4000000 in
set_option maxRecDepth 100000 in
theorem m_X10_pass (l : Launch) {Γ : xG} {N : Nat} {v1 : Int32} {M : xM} {res : xR} (hf : F_X10_pass N v1 M = some res) (sz : Nat) : Met l yX10_pass (xWs yX10_pass cX10_pass 5 (some .int)) ({ frames := 3, cells := 0, slots := 0, locals := 87 } : Room) (va_Pc [.ref (Γ.2.1 0), .int v1] (xPre Γ (wR Γ) M sz)) (xCi Γ (wR Γ) 10 res sz) 0 0 (xAd Γ 10 sz) := by
  refine x_met (Qc := fun sz => xCi Γ (wR Γ) 10 res sz) pnX10 wG_W (Nat.le_of_ble_eq_true rfl) (fun p e s m args below meth c _ E h ls hl => ?_) sz
  obtain ⟨⟨hx, hb, hml, hown, hts⟩, hr, hlocks⟩ := id E
  have hl : lv_has ls 5 [(0, .ref (Γ.2.1 0)), (1, .int v1)] := hl
  refine lv_iload_n hx hb dX10_pass_0 rfl (lv_at hl 1 rfl) ?_
  refine lv_iconst (v := 1) hx hb dX10_pass_1 (by decide) ?_
  refine lv_bipush (v := 99) hx hb dX10_pass_2 (by decide) ?_
  obtain ⟨r1, er1, hf⟩ := xbd_s hf
  refine x_Si (As := [.int v1, .int 1, .int 99]) (rest := []) E.1 (m_X10_in l er1) (cwS 3 hts (xgS xU_sub q205 q206 q5 q207) rfl rfl rfl hdX10_in ⟨Nat.le_of_ble_eq_true rfl, Nat.le_of_ble_eq_true rfl⟩) h rfl hl.1 rfl (Nat.le_of_ble_eq_true rfl) dX10_pass_4 ⟨Nat.le_of_ble_eq_true rfl, Nat.le_of_ble_eq_true rfl⟩ (fun H locs h => ?_)
  refine lv_if_eq (tgt := 24) hx hb dX10_pass_7 (by decide) (fun c2 => ?_) (fun c2 => ?_)
  · replace hf := xif_t hf c2
    refine lv_aload_n hx hb dX10_pass_24 rfl (lv_at hl 0 rfl) ?_
    refine lv_iconst (v := 1) hx hb dX10_pass_25 (by decide) ?_
    obtain ⟨r3, er3, hf⟩ := xbd_s hf
    refine x_Vi (As := [.int 1]) (rest := []) E.1 (m_X10_fails l er3) (cwV 1 hts (xgV xU_sub q208 q209 q210 q5 q211) rfl rfl rfl hdX10_fails ⟨Nat.le_of_ble_eq_true rfl, Nat.le_of_ble_eq_true rfl⟩) h kR_model rfl rfl hl.1 rfl (Nat.le_of_ble_eq_true rfl) dX10_pass_26 ⟨Nat.le_of_ble_eq_true rfl, Nat.le_of_ble_eq_true rfl⟩ (fun H locs h => ?_)
    exact x_iret hx hb h (Option.some.inj hf) hr hlocks dX10_pass_29
  · replace hf := xif_f hf c2
    refine lv_aload_n hx hb dX10_pass_10 rfl (lv_at hl 0 rfl) ?_
    refine x_get (own := RX10) (ref := "TintDeskModel") (C := RX10) (T := TX10) (n := 20) (index := 9) (v := .ref (Γ.2.1 1)) hx hb hts (fun w h => xU_sub w (inU10 w h)) hown h kR_model rfl 1 (by decide) (hts _ (xU_sub _ q132)) (fun _ h9 => h9) rfl dX10_pass_11 ?_
    refine lv_iconst (v := 4) hx hb dX10_pass_14 (by decide) ?_
    refine x_iald hx hb h kR_g (xin_in (by decide)) dX10_pass_15 ?_
    refine lv_iload_n hx hb dX10_pass_16 rfl (lv_at hl 1 rfl) ?_
    refine lv_iadd hx hb dX10_pass_17 ?_
    refine lv_sipush (v := 400) hx hb dX10_pass_18 (by decide) ?_
    refine lv_icmp_le (tgt := 30) hx hb dX10_pass_21 (by decide) (fun c4 => ?_) (fun c4 => ?_)
    · replace hf := xif_t hf c4
      refine lv_aload_n hx hb dX10_pass_30 rfl (lv_at hl 0 rfl) ?_
      obtain ⟨r5, er5, hf⟩ := xbd_s hf
      refine x_Vv (As := []) (rest := []) E.1 (m_X10_remembers l er5) (cwV 0 hts (xgV xU_sub q213 q214 q215 q5 q216) rfl rfl rfl hdX10_remembers ⟨Nat.le_of_ble_eq_true rfl, Nat.le_of_ble_eq_true rfl⟩) h kR_model rfl rfl hl.1 rfl (Nat.le_of_ble_eq_true rfl) dX10_pass_31 ⟨Nat.le_of_ble_eq_true rfl, Nat.le_of_ble_eq_true rfl⟩ (fun H locs h => ?_)
      refine lv_iconst (v := 0) hx hb dX10_pass_34 (by decide) ?_
      refine lv_istore_n (lv' := [(2, .int 0), (0, .ref (Γ.2.1 0)), (1, .int v1)]) hx hb dX10_pass_35 rfl hl (by decide) rfl (fun ls hl => ?_)
      refine lv_iconst (v := 0) hx hb dX10_pass_36 (by decide) ?_
      refine lv_istore_n (lv' := [(3, .int 0), (2, .int 0), (0, .ref (Γ.2.1 0)), (1, .int v1)]) hx hb dX10_pass_37 rfl hl (by decide) rfl (fun ls hl => ?_)
      exact w_X10_pass_38 l E N v1 0 0 r5.1 hf _ _ _ h (lv_sub hl [2, 3, 1, 0] rfl)
    · replace hf := xif_f hf c4
      refine lv_aload_n hx hb dX10_pass_24 rfl (lv_at hl 0 rfl) ?_
      refine lv_iconst (v := 1) hx hb dX10_pass_25 (by decide) ?_
      obtain ⟨r6, er6, hf⟩ := xbd_s hf
      refine x_Vi (As := [.int 1]) (rest := []) E.1 (m_X10_fails l er6) (cwV 1 hts (xgV xU_sub q208 q209 q210 q5 q211) rfl rfl rfl hdX10_fails ⟨Nat.le_of_ble_eq_true rfl, Nat.le_of_ble_eq_true rfl⟩) h kR_model rfl rfl hl.1 rfl (Nat.le_of_ble_eq_true rfl) dX10_pass_26 ⟨Nat.le_of_ble_eq_true rfl, Nat.le_of_ble_eq_true rfl⟩ (fun H locs h => ?_)
      exact x_iret hx hb h (Option.some.inj hf) hr hlocks dX10_pass_29
theorem hdX10_addBase : yX10_addBase.cls = RX10 ∧ yX10_addBase.cls ≠ "java/lang/invoke/MethodHandle" ∧ yX10_addBase.cls ≠ "java/lang/invoke/VarHandle" ∧ (parseMethodDescriptor yX10_addBase.desc).map (fun d => d.parameters.length) = some 4 := by decide +kernel
set_option maxHeartbeats 4000000 in
set_option maxRecDepth 100000 in
theorem m_X10_addBase (l : Launch) {Γ : xG} {N : Nat} {v1 : Int32} {v2 : Int32} {v3 : Int32} {v4 : Int32} {M : xM} {res : xR} (hf : F_X10_addBase N v1 v2 v3 v4 M = some res) (sz : Nat) : Met l yX10_addBase (xWs yX10_addBase cX10_addBase 6 (some .int)) ({ frames := 3, cells := 0, slots := 0, locals := 85 } : Room) (va_Pc [.ref (Γ.2.1 0), .int v1, .int v2, .int v3, .int v4] (xPre Γ (wR Γ) M sz)) (xCi Γ (wR Γ) 10 res sz) 0 0 (xAd Γ 10 sz) := by
  refine x_met (Qc := fun sz => xCi Γ (wR Γ) 10 res sz) pnX10 wG_W (Nat.le_of_ble_eq_true rfl) (fun p e s m args below meth c _ E h ls hl => ?_) sz
  obtain ⟨⟨hx, hb, hml, hown, hts⟩, hr, hlocks⟩ := id E
  have hl : lv_has ls 6 [(0, .ref (Γ.2.1 0)), (1, .int v1), (2, .int v2), (3, .int v3), (4, .int v4)] := hl
  refine lv_iload_n hx hb dX10_addBase_0 rfl (lv_at hl 1 rfl) ?_
  refine lv_iconst (v := 0) hx hb dX10_addBase_1 (by decide) ?_
  refine lv_bipush (v := 99) hx hb dX10_addBase_2 (by decide) ?_
  obtain ⟨r1, er1, hf⟩ := xbd_s hf
  refine x_Si (As := [.int v1, .int 0, .int 99]) (rest := []) E.1 (m_X10_in l er1) (cwS 3 hts (xgS xU_sub q205 q206 q5 q207) rfl rfl rfl hdX10_in ⟨Nat.le_of_ble_eq_true rfl, Nat.le_of_ble_eq_true rfl⟩) h rfl hl.1 rfl (Nat.le_of_ble_eq_true rfl) dX10_addBase_4 ⟨Nat.le_of_ble_eq_true rfl, Nat.le_of_ble_eq_true rfl⟩ (fun H locs h => ?_)
  refine lv_if_eq (tgt := 42) hx hb dX10_addBase_7 (by decide) (fun c2 => ?_) (fun c2 => ?_)
  · replace hf := xif_t hf c2
    refine lv_aload_n hx hb dX10_addBase_42 rfl (lv_at hl 0 rfl) ?_
    refine lv_iconst (v := 1) hx hb dX10_addBase_43 (by decide) ?_
    obtain ⟨r3, er3, hf⟩ := xbd_s hf
    refine x_Vi (As := [.int 1]) (rest := []) E.1 (m_X10_fails l er3) (cwV 1 hts (xgV xU_sub q208 q209 q210 q5 q211) rfl rfl rfl hdX10_fails ⟨Nat.le_of_ble_eq_true rfl, Nat.le_of_ble_eq_true rfl⟩) h kR_model rfl rfl hl.1 rfl (Nat.le_of_ble_eq_true rfl) dX10_addBase_44 ⟨Nat.le_of_ble_eq_true rfl, Nat.le_of_ble_eq_true rfl⟩ (fun H locs h => ?_)
    exact x_iret hx hb h (Option.some.inj hf) hr hlocks dX10_addBase_47
  · replace hf := xif_f hf c2
    refine lv_iload_n hx hb dX10_addBase_10 rfl (lv_at hl 2 rfl) ?_
    refine lv_iconst (v := 0) hx hb dX10_addBase_11 (by decide) ?_
    refine lv_bipush (v := 99) hx hb dX10_addBase_12 (by decide) ?_
    obtain ⟨r4, er4, hf⟩ := xbd_s hf
    refine x_Si (As := [.int v2, .int 0, .int 99]) (rest := []) E.1 (m_X10_in l er4) (cwS 3 hts (xgS xU_sub q205 q206 q5 q207) rfl rfl rfl hdX10_in ⟨Nat.le_of_ble_eq_true rfl, Nat.le_of_ble_eq_true rfl⟩) h rfl hl.1 rfl (Nat.le_of_ble_eq_true rfl) dX10_addBase_14 ⟨Nat.le_of_ble_eq_true rfl, Nat.le_of_ble_eq_true rfl⟩ (fun H locs h => ?_)
    refine lv_if_eq (tgt := 42) hx hb dX10_addBase_17 (by decide) (fun c5 => ?_) (fun c5 => ?_)
    · replace hf := xif_t hf c5
      refine lv_aload_n hx hb dX10_addBase_42 rfl (lv_at hl 0 rfl) ?_
      refine lv_iconst (v := 1) hx hb dX10_addBase_43 (by decide) ?_
      obtain ⟨r6, er6, hf⟩ := xbd_s hf
      refine x_Vi (As := [.int 1]) (rest := []) E.1 (m_X10_fails l er6) (cwV 1 hts (xgV xU_sub q208 q209 q210 q5 q211) rfl rfl rfl hdX10_fails ⟨Nat.le_of_ble_eq_true rfl, Nat.le_of_ble_eq_true rfl⟩) h kR_model rfl rfl hl.1 rfl (Nat.le_of_ble_eq_true rfl) dX10_addBase_44 ⟨Nat.le_of_ble_eq_true rfl, Nat.le_of_ble_eq_true rfl⟩ (fun H locs h => ?_)
      exact x_iret hx hb h (Option.some.inj hf) hr hlocks dX10_addBase_47
    · replace hf := xif_f hf c5
      refine lv_iload_n hx hb dX10_addBase_20 rfl (lv_at hl 3 rfl) ?_
      refine lv_iconst (v := 0) hx hb dX10_addBase_21 (by decide) ?_
      refine lv_bipush (v := 99) hx hb dX10_addBase_22 (by decide) ?_
      obtain ⟨r7, er7, hf⟩ := xbd_s hf
      refine x_Si (As := [.int v3, .int 0, .int 99]) (rest := []) E.1 (m_X10_in l er7) (cwS 3 hts (xgS xU_sub q205 q206 q5 q207) rfl rfl rfl hdX10_in ⟨Nat.le_of_ble_eq_true rfl, Nat.le_of_ble_eq_true rfl⟩) h rfl hl.1 rfl (Nat.le_of_ble_eq_true rfl) dX10_addBase_24 ⟨Nat.le_of_ble_eq_true rfl, Nat.le_of_ble_eq_true rfl⟩ (fun H locs h => ?_)
      refine lv_if_eq (tgt := 42) hx hb dX10_addBase_27 (by decide) (fun c8 => ?_) (fun c8 => ?_)
      · replace hf := xif_t hf c8
        refine lv_aload_n hx hb dX10_addBase_42 rfl (lv_at hl 0 rfl) ?_
        refine lv_iconst (v := 1) hx hb dX10_addBase_43 (by decide) ?_
        obtain ⟨r9, er9, hf⟩ := xbd_s hf
        refine x_Vi (As := [.int 1]) (rest := []) E.1 (m_X10_fails l er9) (cwV 1 hts (xgV xU_sub q208 q209 q210 q5 q211) rfl rfl rfl hdX10_fails ⟨Nat.le_of_ble_eq_true rfl, Nat.le_of_ble_eq_true rfl⟩) h kR_model rfl rfl hl.1 rfl (Nat.le_of_ble_eq_true rfl) dX10_addBase_44 ⟨Nat.le_of_ble_eq_true rfl, Nat.le_of_ble_eq_true rfl⟩ (fun H locs h => ?_)
        exact x_iret hx hb h (Option.some.inj hf) hr hlocks dX10_addBase_47
      · replace hf := xif_f hf c8
        refine lv_iload hx hb dX10_addBase_30 (lv_at hl 4 rfl) ?_
        refine lv_iconst (v := 0) hx hb dX10_addBase_32 (by decide) ?_
        refine lv_sipush (v := 200) hx hb dX10_addBase_33 (by decide) ?_
        obtain ⟨r10, er10, hf⟩ := xbd_s hf
        refine x_Si (As := [.int v4, .int 0, .int 200]) (rest := []) E.1 (m_X10_in l er10) (cwS 3 hts (xgS xU_sub q205 q206 q5 q207) rfl rfl rfl hdX10_in ⟨Nat.le_of_ble_eq_true rfl, Nat.le_of_ble_eq_true rfl⟩) h rfl hl.1 rfl (Nat.le_of_ble_eq_true rfl) dX10_addBase_36 ⟨Nat.le_of_ble_eq_true rfl, Nat.le_of_ble_eq_true rfl⟩ (fun H locs h => ?_)
        refine lv_if_ne (tgt := 48) hx hb dX10_addBase_39 (by decide) (fun c11 => ?_) (fun c11 => ?_)
        · replace hf := xif_f hf c11
          refine lv_aload_n hx hb dX10_addBase_48 rfl (lv_at hl 0 rfl) ?_
          refine x_get (own := RX10) (ref := "TintDeskModel") (C := RX10) (T := TX10) (n := 20) (index := 9) (v := .ref (Γ.2.1 1)) hx hb hts (fun w h => xU_sub w (inU10 w h)) hown h kR_model rfl 1 (by decide) (hts _ (xU_sub _ q132)) (fun _ h9 => h9) rfl dX10_addBase_49 ?_
          refine lv_iconst (v := 1) hx hb dX10_addBase_52 (by decide) ?_
          refine x_iald hx hb h kR_g (xin_in (by decide)) dX10_addBase_53 ?_
          refine lv_bipush (v := 6) hx hb dX10_addBase_54 (by decide) ?_
          refine lv_icmp_ne (tgt := 65) hx hb dX10_addBase_56 (by decide) (fun c12 => ?_) (fun c12 => ?_)
          · replace hf := xif_f hf c12
            refine lv_aload_n hx hb dX10_addBase_65 rfl (lv_at hl 0 rfl) ?_
            obtain ⟨r13, er13, hf⟩ := xbd_s hf
            refine x_Vv (As := []) (rest := []) E.1 (m_X10_remembers l er13) (cwV 0 hts (xgV xU_sub q213 q214 q215 q5 q216) rfl rfl rfl hdX10_remembers ⟨Nat.le_of_ble_eq_true rfl, Nat.le_of_ble_eq_true rfl⟩) h kR_model rfl rfl hl.1 rfl (Nat.le_of_ble_eq_true rfl) dX10_addBase_66 ⟨Nat.le_of_ble_eq_true rfl, Nat.le_of_ble_eq_true rfl⟩ (fun H locs h => ?_)
            refine lv_sipush (v := 373) hx hb dX10_addBase_69 (by decide) ?_
            refine lv_bipush (v := 6) hx hb dX10_addBase_72 (by decide) ?_
            refine lv_aload_n hx hb dX10_addBase_74 rfl (lv_at hl 0 rfl) ?_
            refine x_get (own := RX10) (ref := "TintDeskModel") (C := RX10) (T := TX10) (n := 20) (index := 9) (v := .ref (Γ.2.1 1)) hx hb hts (fun w h => xU_sub w (inU10 w h)) hown h kR_model rfl 1 (by decide) (hts _ (xU_sub _ q132)) (fun _ h9 => h9) rfl dX10_addBase_75 ?_
            refine lv_iconst (v := 1) hx hb dX10_addBase_78 (by decide) ?_
            refine x_iald hx hb h kR_g (xin_in (by decide)) dX10_addBase_79 ?_
            refine lv_imul hx hb dX10_addBase_80 ?_
            refine lv_iadd hx hb dX10_addBase_81 ?_
            obtain ⟨y14, ey14, hf⟩ := xl_s hf
            refine x_nm ey14 ?_
            refine lv_istore (lv' := [(5, .int y14), (0, .ref (Γ.2.1 0)), (1, .int v1), (2, .int v2), (3, .int v3), (4, .int v4)]) hx hb dX10_addBase_82 hl (by decide) rfl (fun ls hl => ?_)
            refine lv_aload_n hx hb dX10_addBase_84 rfl (lv_at hl 1 rfl) ?_
            refine x_get (own := RX10) (ref := "TintDeskModel") (C := RX10) (T := TX10) (n := 20) (index := 9) (v := .ref (Γ.2.1 1)) hx hb hts (fun w h => xU_sub w (inU10 w h)) hown h kR_model rfl 1 (by decide) (hts _ (xU_sub _ q132)) (fun _ h9 => h9) rfl dX10_addBase_85 ?_
            refine lv_iload hx hb dX10_addBase_88 (lv_at hl 0 rfl) ?_
            refine lv_iload_n hx hb dX10_addBase_90 rfl (lv_at hl 2 rfl) ?_
            obtain ⟨c15, hf⟩ := xck_s hf
            obtain ⟨M16, eM16, hf⟩ := xl_s hf
            refine x_iast hx hb h kR_g (xin_in c15) eM16 dX10_addBase_91 (fun H locs h => ?_)
            refine lv_aload_n hx hb dX10_addBase_92 rfl (lv_at hl 1 rfl) ?_
            refine x_get (own := RX10) (ref := "TintDeskModel") (C := RX10) (T := TX10) (n := 20) (index := 9) (v := .ref (Γ.2.1 1)) hx hb hts (fun w h => xU_sub w (inU10 w h)) hown h kR_model rfl 1 (by decide) (hts _ (xU_sub _ q132)) (fun _ h9 => h9) rfl dX10_addBase_93 ?_
            refine lv_iload hx hb dX10_addBase_96 (lv_at hl 0 rfl) ?_
            refine lv_iconst (v := 1) hx hb dX10_addBase_98 (by decide) ?_
            refine lv_iadd hx hb dX10_addBase_99 ?_
            refine lv_iload_n hx hb dX10_addBase_100 rfl (lv_at hl 3 rfl) ?_
            obtain ⟨c17, hf⟩ := xck_s hf
            obtain ⟨M18, eM18, hf⟩ := xl_s hf
            refine x_iast hx hb h kR_g (xin_in c17) eM18 dX10_addBase_101 (fun H locs h => ?_)
            refine lv_aload_n hx hb dX10_addBase_102 rfl (lv_at hl 1 rfl) ?_
            refine x_get (own := RX10) (ref := "TintDeskModel") (C := RX10) (T := TX10) (n := 20) (index := 9) (v := .ref (Γ.2.1 1)) hx hb hts (fun w h => xU_sub w (inU10 w h)) hown h kR_model rfl 1 (by decide) (hts _ (xU_sub _ q132)) (fun _ h9 => h9) rfl dX10_addBase_103 ?_
            refine lv_iload hx hb dX10_addBase_106 (lv_at hl 0 rfl) ?_
            refine lv_iconst (v := 2) hx hb dX10_addBase_108 (by decide) ?_
            refine lv_iadd hx hb dX10_addBase_109 ?_
            refine lv_iload_n hx hb dX10_addBase_110 rfl (lv_at hl 4 rfl) ?_
            obtain ⟨c19, hf⟩ := xck_s hf
            obtain ⟨M20, eM20, hf⟩ := xl_s hf
            refine x_iast hx hb h kR_g (xin_in c19) eM20 dX10_addBase_111 (fun H locs h => ?_)
            refine lv_aload_n hx hb dX10_addBase_112 rfl (lv_at hl 1 rfl) ?_
            refine x_get (own := RX10) (ref := "TintDeskModel") (C := RX10) (T := TX10) (n := 20) (index := 9) (v := .ref (Γ.2.1 1)) hx hb hts (fun w h => xU_sub w (inU10 w h)) hown h kR_model rfl 1 (by decide) (hts _ (xU_sub _ q132)) (fun _ h9 => h9) rfl dX10_addBase_113 ?_
            refine lv_iload hx hb dX10_addBase_116 (lv_at hl 0 rfl) ?_
            refine lv_iconst (v := 3) hx hb dX10_addBase_118 (by decide) ?_
            refine lv_iadd hx hb dX10_addBase_119 ?_
            refine lv_iload hx hb dX10_addBase_120 (lv_at hl 5 rfl) ?_
            obtain ⟨c21, hf⟩ := xck_s hf
            obtain ⟨M22, eM22, hf⟩ := xl_s hf
            refine x_iast hx hb h kR_g (xin_in c21) eM22 dX10_addBase_122 (fun H locs h => ?_)
            refine lv_aload_n hx hb dX10_addBase_123 rfl (lv_at hl 1 rfl) ?_
            refine x_get (own := RX10) (ref := "TintDeskModel") (C := RX10) (T := TX10) (n := 20) (index := 9) (v := .ref (Γ.2.1 1)) hx hb hts (fun w h => xU_sub w (inU10 w h)) hown h kR_model rfl 1 (by decide) (hts _ (xU_sub _ q132)) (fun _ h9 => h9) rfl dX10_addBase_124 ?_
            refine lv_iconst (v := 1) hx hb dX10_addBase_127 (by decide) ?_
            refine lv_dup2_11 hx hb dX10_addBase_128 rfl rfl ?_
            refine x_iald hx hb h kR_g (xin_in (by decide)) dX10_addBase_129 ?_
            refine lv_iconst (v := 1) hx hb dX10_addBase_130 (by decide) ?_
            refine lv_iadd hx hb dX10_addBase_131 ?_
            obtain ⟨M23, eM23, hf⟩ := xl_s hf
            refine x_iast hx hb h kR_g (xin_in (by decide)) eM23 dX10_addBase_132 (fun H locs h => ?_)
            refine lv_aload_n hx hb dX10_addBase_133 rfl (lv_at hl 1 rfl) ?_
            refine lv_aload_n hx hb dX10_addBase_134 rfl (lv_at hl 1 rfl) ?_
            refine x_get (own := RX10) (ref := "TintDeskModel") (C := RX10) (T := TX10) (n := 20) (index := 9) (v := .ref (Γ.2.1 1)) hx hb hts (fun w h => xU_sub w (inU10 w h)) hown h kR_model rfl 1 (by decide) (hts _ (xU_sub _ q132)) (fun _ h9 => h9) rfl dX10_addBase_135 ?_
            refine lv_iconst (v := 1) hx hb dX10_addBase_138 (by decide) ?_
            refine x_iald hx hb h kR_g (xin_in (by decide)) dX10_addBase_139 ?_
            refine lv_iconst (v := 1) hx hb dX10_addBase_140 (by decide) ?_
            refine lv_isub hx hb dX10_addBase_141 ?_
            obtain ⟨r24, er24, hf⟩ := xbd_s hf
            refine x_Vi (As := [.int ((M23.1 1 (1 : Int32).toNatClampNeg) - 1)]) (rest := []) E.1 (m_X10_done l er24) (cwV 1 hts (xgV xU_sub q221 q222 q223 q5 q224) rfl rfl rfl hdX10_done ⟨Nat.le_of_ble_eq_true rfl, Nat.le_of_ble_eq_true rfl⟩) h kR_model rfl rfl hl.1 rfl (Nat.le_of_ble_eq_true rfl) dX10_addBase_142 ⟨Nat.le_of_ble_eq_true rfl, Nat.le_of_ble_eq_true rfl⟩ (fun H locs h => ?_)
            exact x_iret hx hb h (Option.some.inj hf) hr hlocks dX10_addBase_145
          · replace hf := xif_t hf c12
            refine lv_aload_n hx hb dX10_addBase_59 rfl (lv_at hl 0 rfl) ?_
            refine lv_iconst (v := 2) hx hb dX10_addBase_60 (by decide) ?_
            obtain ⟨r25, er25, hf⟩ := xbd_s hf
            refine x_Vi (As := [.int 2]) (rest := []) E.1 (m_X10_fails l er25) (cwV 1 hts (xgV xU_sub q208 q209 q210 q5 q211) rfl rfl rfl hdX10_fails ⟨Nat.le_of_ble_eq_true rfl, Nat.le_of_ble_eq_true rfl⟩) h kR_model rfl rfl hl.1 rfl (Nat.le_of_ble_eq_true rfl) dX10_addBase_61 ⟨Nat.le_of_ble_eq_true rfl, Nat.le_of_ble_eq_true rfl⟩ (fun H locs h => ?_)
            exact x_iret hx hb h (Option.some.inj hf) hr hlocks dX10_addBase_64
        · replace hf := xif_t hf c11
          refine lv_aload_n hx hb dX10_addBase_42 rfl (lv_at hl 0 rfl) ?_
          refine lv_iconst (v := 1) hx hb dX10_addBase_43 (by decide) ?_
          obtain ⟨r26, er26, hf⟩ := xbd_s hf
          refine x_Vi (As := [.int 1]) (rest := []) E.1 (m_X10_fails l er26) (cwV 1 hts (xgV xU_sub q208 q209 q210 q5 q211) rfl rfl rfl hdX10_fails ⟨Nat.le_of_ble_eq_true rfl, Nat.le_of_ble_eq_true rfl⟩) h kR_model rfl rfl hl.1 rfl (Nat.le_of_ble_eq_true rfl) dX10_addBase_44 ⟨Nat.le_of_ble_eq_true rfl, Nat.le_of_ble_eq_true rfl⟩ (fun H locs h => ?_)
          exact x_iret hx hb h (Option.some.inj hf) hr hlocks dX10_addBase_47
theorem hdX10_setStock : yX10_setStock.cls = RX10 ∧ yX10_setStock.cls ≠ "java/lang/invoke/MethodHandle" ∧ yX10_setStock.cls ≠ "java/lang/invoke/VarHandle" ∧ (parseMethodDescriptor yX10_setStock.desc).map (fun d => d.parameters.length) = some 2 := by decide +kernel
set_option maxHeartbeats 4000000 in
set_option maxRecDepth 100000 in
theorem m_X10_setStock (l : Launch) {Γ : xG} {N : Nat} {v1 : Int32} {v2 : Int32} {M : xM} {res : xR} (hf : F_X10_setStock N v1 v2 M = some res) (sz : Nat) : Met l yX10_setStock (xWs yX10_setStock cX10_setStock 4 (some .int)) ({ frames := 3, cells := 0, slots := 0, locals := 85 } : Room) (va_Pc [.ref (Γ.2.1 0), .int v1, .int v2] (xPre Γ (wR Γ) M sz)) (xCi Γ (wR Γ) 10 res sz) 0 0 (xAd Γ 10 sz) := by
  refine x_met (Qc := fun sz => xCi Γ (wR Γ) 10 res sz) pnX10 wG_W (Nat.le_of_ble_eq_true rfl) (fun p e s m args below meth c _ E h ls hl => ?_) sz
  obtain ⟨⟨hx, hb, hml, hown, hts⟩, hr, hlocks⟩ := id E
  have hl : lv_has ls 4 [(0, .ref (Γ.2.1 0)), (1, .int v1), (2, .int v2)] := hl
  refine lv_iload_n hx hb dX10_setStock_0 rfl (lv_at hl 1 rfl) ?_
  refine lv_iconst (v := 0) hx hb dX10_setStock_1 (by decide) ?_
  refine lv_aload_n hx hb dX10_setStock_2 rfl (lv_at hl 0 rfl) ?_
  refine x_get (own := RX10) (ref := "TintDeskModel") (C := RX10) (T := TX10) (n := 20) (index := 9) (v := .ref (Γ.2.1 1)) hx hb hts (fun w h => xU_sub w (inU10 w h)) hown h kR_model rfl 1 (by decide) (hts _ (xU_sub _ q132)) (fun _ h9 => h9) rfl dX10_setStock_3 ?_
  refine lv_iconst (v := 1) hx hb dX10_setStock_6 (by decide) ?_
  refine x_iald hx hb h kR_g (xin_in (by decide)) dX10_setStock_7 ?_
  refine lv_iconst (v := 1) hx hb dX10_setStock_8 (by decide) ?_
  refine lv_isub hx hb dX10_setStock_9 ?_
  obtain ⟨r1, er1, hf⟩ := xbd_s hf
  refine x_Si (As := [.int v1, .int 0, .int ((M.1 1 (1 : Int32).toNatClampNeg) - 1)]) (rest := []) E.1 (m_X10_in l er1) (cwS 3 hts (xgS xU_sub q205 q206 q5 q207) rfl rfl rfl hdX10_in ⟨Nat.le_of_ble_eq_true rfl, Nat.le_of_ble_eq_true rfl⟩) h rfl hl.1 rfl (Nat.le_of_ble_eq_true rfl) dX10_setStock_10 ⟨Nat.le_of_ble_eq_true rfl, Nat.le_of_ble_eq_true rfl⟩ (fun H locs h => ?_)
  refine lv_if_ne (tgt := 22) hx hb dX10_setStock_13 (by decide) (fun c2 => ?_) (fun c2 => ?_)
  · replace hf := xif_f hf c2
    refine lv_iload_n hx hb dX10_setStock_22 rfl (lv_at hl 2 rfl) ?_
    refine lv_iconst (v := 0) hx hb dX10_setStock_23 (by decide) ?_
    refine lv_bipush (v := 99) hx hb dX10_setStock_24 (by decide) ?_
    obtain ⟨r3, er3, hf⟩ := xbd_s hf
    refine x_Si (As := [.int v2, .int 0, .int 99]) (rest := []) E.1 (m_X10_in l er3) (cwS 3 hts (xgS xU_sub q205 q206 q5 q207) rfl rfl rfl hdX10_in ⟨Nat.le_of_ble_eq_true rfl, Nat.le_of_ble_eq_true rfl⟩) h rfl hl.1 rfl (Nat.le_of_ble_eq_true rfl) dX10_setStock_26 ⟨Nat.le_of_ble_eq_true rfl, Nat.le_of_ble_eq_true rfl⟩ (fun H locs h => ?_)
    refine lv_if_ne (tgt := 38) hx hb dX10_setStock_29 (by decide) (fun c4 => ?_) (fun c4 => ?_)
    · replace hf := xif_f hf c4
      refine lv_aload_n hx hb dX10_setStock_38 rfl (lv_at hl 0 rfl) ?_
      obtain ⟨r5, er5, hf⟩ := xbd_s hf
      refine x_Vv (As := []) (rest := []) E.1 (m_X10_remembers l er5) (cwV 0 hts (xgV xU_sub q213 q214 q215 q5 q216) rfl rfl rfl hdX10_remembers ⟨Nat.le_of_ble_eq_true rfl, Nat.le_of_ble_eq_true rfl⟩) h kR_model rfl rfl hl.1 rfl (Nat.le_of_ble_eq_true rfl) dX10_setStock_39 ⟨Nat.le_of_ble_eq_true rfl, Nat.le_of_ble_eq_true rfl⟩ (fun H locs h => ?_)
      refine lv_aload_n hx hb dX10_setStock_42 rfl (lv_at hl 0 rfl) ?_
      refine lv_iload_n hx hb dX10_setStock_43 rfl (lv_at hl 1 rfl) ?_
      refine lv_iconst (v := 4) hx hb dX10_setStock_44 (by decide) ?_
      obtain ⟨r6, er6, hf⟩ := xbd_s hf
      refine x_Vi (As := [.int v1, .int 4]) (rest := []) E.1 (m_X10_baseAt l er6) (cwV 2 hts (xgV xU_sub q412 q413 q414 q5 q415) rfl rfl rfl hdX10_baseAt ⟨Nat.le_of_ble_eq_true rfl, Nat.le_of_ble_eq_true rfl⟩) h kR_model rfl rfl hl.1 rfl (Nat.le_of_ble_eq_true rfl) dX10_setStock_45 ⟨Nat.le_of_ble_eq_true rfl, Nat.le_of_ble_eq_true rfl⟩ (fun H locs h => ?_)
      obtain ⟨y7, ey7, hf⟩ := xl_s hf
      refine x_nm ey7 ?_
      refine lv_istore_n (lv' := [(3, .int y7), (0, .ref (Γ.2.1 0)), (1, .int v1), (2, .int v2)]) hx hb dX10_setStock_48 rfl hl (by decide) rfl (fun ls hl => ?_)
      refine lv_aload_n hx hb dX10_setStock_49 rfl (lv_at hl 1 rfl) ?_
      refine x_get (own := RX10) (ref := "TintDeskModel") (C := RX10) (T := TX10) (n := 20) (index := 9) (v := .ref (Γ.2.1 1)) hx hb hts (fun w h => xU_sub w (inU10 w h)) hown h kR_model rfl 1 (by decide) (hts _ (xU_sub _ q132)) (fun _ h9 => h9) rfl dX10_setStock_50 ?_
      refine lv_sipush (v := 373) hx hb dX10_setStock_53 (by decide) ?_
      refine lv_bipush (v := 6) hx hb dX10_setStock_56 (by decide) ?_
      refine lv_iload_n hx hb dX10_setStock_58 rfl (lv_at hl 2 rfl) ?_
      refine lv_imul hx hb dX10_setStock_59 ?_
      refine lv_iadd hx hb dX10_setStock_60 ?_
      refine lv_iconst (v := 4) hx hb dX10_setStock_61 (by decide) ?_
      refine lv_iadd hx hb dX10_setStock_62 ?_
      refine lv_iload_n hx hb dX10_setStock_63 rfl (lv_at hl 3 rfl) ?_
      obtain ⟨c8, hf⟩ := xck_s hf
      obtain ⟨M9, eM9, hf⟩ := xl_s hf
      refine x_iast hx hb h kR_g (xin_in c8) eM9 dX10_setStock_64 (fun H locs h => ?_)
      refine lv_aload_n hx hb dX10_setStock_65 rfl (lv_at hl 1 rfl) ?_
      refine lv_iload_n hx hb dX10_setStock_66 rfl (lv_at hl 0 rfl) ?_
      obtain ⟨r10, er10, hf⟩ := xbd_s hf
      refine x_Vi (As := [.int y7]) (rest := []) E.1 (m_X10_done l er10) (cwV 1 hts (xgV xU_sub q221 q222 q223 q5 q224) rfl rfl rfl hdX10_done ⟨Nat.le_of_ble_eq_true rfl, Nat.le_of_ble_eq_true rfl⟩) h kR_model rfl rfl hl.1 rfl (Nat.le_of_ble_eq_true rfl) dX10_setStock_67 ⟨Nat.le_of_ble_eq_true rfl, Nat.le_of_ble_eq_true rfl⟩ (fun H locs h => ?_)
      exact x_iret hx hb h (Option.some.inj hf) hr hlocks dX10_setStock_70
    · replace hf := xif_t hf c4
      refine lv_aload_n hx hb dX10_setStock_32 rfl (lv_at hl 0 rfl) ?_
      refine lv_iconst (v := 2) hx hb dX10_setStock_33 (by decide) ?_
      obtain ⟨r11, er11, hf⟩ := xbd_s hf
      refine x_Vi (As := [.int 2]) (rest := []) E.1 (m_X10_fails l er11) (cwV 1 hts (xgV xU_sub q208 q209 q210 q5 q211) rfl rfl rfl hdX10_fails ⟨Nat.le_of_ble_eq_true rfl, Nat.le_of_ble_eq_true rfl⟩) h kR_model rfl rfl hl.1 rfl (Nat.le_of_ble_eq_true rfl) dX10_setStock_34 ⟨Nat.le_of_ble_eq_true rfl, Nat.le_of_ble_eq_true rfl⟩ (fun H locs h => ?_)
      exact x_iret hx hb h (Option.some.inj hf) hr hlocks dX10_setStock_37
  · replace hf := xif_t hf c2
    refine lv_aload_n hx hb dX10_setStock_16 rfl (lv_at hl 0 rfl) ?_
    refine lv_iconst (v := 1) hx hb dX10_setStock_17 (by decide) ?_
    obtain ⟨r12, er12, hf⟩ := xbd_s hf
    refine x_Vi (As := [.int 1]) (rest := []) E.1 (m_X10_fails l er12) (cwV 1 hts (xgV xU_sub q208 q209 q210 q5 q211) rfl rfl rfl hdX10_fails ⟨Nat.le_of_ble_eq_true rfl, Nat.le_of_ble_eq_true rfl⟩) h kR_model rfl rfl hl.1 rfl (Nat.le_of_ble_eq_true rfl) dX10_setStock_18 ⟨Nat.le_of_ble_eq_true rfl, Nat.le_of_ble_eq_true rfl⟩ (fun H locs h => ?_)
    exact x_iret hx hb h (Option.some.inj hf) hr hlocks dX10_setStock_21
theorem hdX10_base : yX10_base.cls = RX10 ∧ yX10_base.cls ≠ "java/lang/invoke/MethodHandle" ∧ yX10_base.cls ≠ "java/lang/invoke/VarHandle" ∧ (parseMethodDescriptor yX10_base.desc).map (fun d => d.parameters.length) = some 2 := by decide +kernel
set_option maxHeartbeats 4000000 in
set_option maxRecDepth 100000 in
theorem m_X10_base (l : Launch) {Γ : xG} {N : Nat} {v1 : Int32} {v2 : Int32} {M : xM} {res : xR} (hf : F_X10_base N v1 v2 M = some res) (sz : Nat) : Met l yX10_base (xWs yX10_base cX10_base 3 (some .int)) ({ frames := 2, cells := 0, slots := 0, locals := 62 } : Room) (va_Pc [.ref (Γ.2.1 0), .int v1, .int v2] (xPre Γ (wR Γ) M sz)) (xCi Γ (wR Γ) 10 res sz) 0 0 (xAd Γ 10 sz) := by
  refine x_met (Qc := fun sz => xCi Γ (wR Γ) 10 res sz) pnX10 wG_W (Nat.le_of_ble_eq_true rfl) (fun p e s m args below meth c _ E h ls hl => ?_) sz
  obtain ⟨⟨hx, hb, hml, hown, hts⟩, hr, hlocks⟩ := id E
  have hl : lv_has ls 3 [(0, .ref (Γ.2.1 0)), (1, .int v1), (2, .int v2)] := hl
  refine lv_iload_n hx hb dX10_base_0 rfl (lv_at hl 1 rfl) ?_
  refine lv_iconst (v := 0) hx hb dX10_base_1 (by decide) ?_
  refine lv_aload_n hx hb dX10_base_2 rfl (lv_at hl 0 rfl) ?_
  refine x_get (own := RX10) (ref := "TintDeskModel") (C := RX10) (T := TX10) (n := 20) (index := 9) (v := .ref (Γ.2.1 1)) hx hb hts (fun w h => xU_sub w (inU10 w h)) hown h kR_model rfl 1 (by decide) (hts _ (xU_sub _ q132)) (fun _ h9 => h9) rfl dX10_base_3 ?_
  refine lv_iconst (v := 1) hx hb dX10_base_6 (by decide) ?_
  refine x_iald hx hb h kR_g (xin_in (by decide)) dX10_base_7 ?_
  refine lv_iconst (v := 1) hx hb dX10_base_8 (by decide) ?_
  refine lv_isub hx hb dX10_base_9 ?_
  obtain ⟨r1, er1, hf⟩ := xbd_s hf
  refine x_Si (As := [.int v1, .int 0, .int ((M.1 1 (1 : Int32).toNatClampNeg) - 1)]) (rest := []) E.1 (m_X10_in l er1) (cwS 3 hts (xgS xU_sub q205 q206 q5 q207) rfl rfl rfl hdX10_in ⟨Nat.le_of_ble_eq_true rfl, Nat.le_of_ble_eq_true rfl⟩) h rfl hl.1 rfl (Nat.le_of_ble_eq_true rfl) dX10_base_10 ⟨Nat.le_of_ble_eq_true rfl, Nat.le_of_ble_eq_true rfl⟩ (fun H locs h => ?_)
  refine lv_if_ne (tgt := 22) hx hb dX10_base_13 (by decide) (fun c2 => ?_) (fun c2 => ?_)
  · replace hf := xif_f hf c2
    refine lv_iload_n hx hb dX10_base_22 rfl (lv_at hl 2 rfl) ?_
    refine lv_iconst (v := 0) hx hb dX10_base_23 (by decide) ?_
    refine lv_iconst (v := 5) hx hb dX10_base_24 (by decide) ?_
    obtain ⟨r3, er3, hf⟩ := xbd_s hf
    refine x_Si (As := [.int v2, .int 0, .int 5]) (rest := []) E.1 (m_X10_in l er3) (cwS 3 hts (xgS xU_sub q205 q206 q5 q207) rfl rfl rfl hdX10_in ⟨Nat.le_of_ble_eq_true rfl, Nat.le_of_ble_eq_true rfl⟩) h rfl hl.1 rfl (Nat.le_of_ble_eq_true rfl) dX10_base_25 ⟨Nat.le_of_ble_eq_true rfl, Nat.le_of_ble_eq_true rfl⟩ (fun H locs h => ?_)
    refine lv_if_eq (tgt := 44) hx hb dX10_base_28 (by decide) (fun c4 => ?_) (fun c4 => ?_)
    · replace hf := xif_t hf c4
      refine lv_aload_n hx hb dX10_base_44 rfl (lv_at hl 0 rfl) ?_
      refine lv_iconst (v := 2) hx hb dX10_base_45 (by decide) ?_
      obtain ⟨r5, er5, hf⟩ := xbd_s hf
      refine x_Vi (As := [.int 2]) (rest := []) E.1 (m_X10_fails l er5) (cwV 1 hts (xgV xU_sub q208 q209 q210 q5 q211) rfl rfl rfl hdX10_fails ⟨Nat.le_of_ble_eq_true rfl, Nat.le_of_ble_eq_true rfl⟩) h kR_model rfl rfl hl.1 rfl (Nat.le_of_ble_eq_true rfl) dX10_base_46 ⟨Nat.le_of_ble_eq_true rfl, Nat.le_of_ble_eq_true rfl⟩ (fun H locs h => ?_)
      exact x_iret hx hb h (Option.some.inj hf) hr hlocks dX10_base_49
    · replace hf := xif_f hf c4
      refine lv_aload_n hx hb dX10_base_31 rfl (lv_at hl 0 rfl) ?_
      refine lv_aload_n hx hb dX10_base_32 rfl (lv_at hl 0 rfl) ?_
      refine lv_iload_n hx hb dX10_base_33 rfl (lv_at hl 1 rfl) ?_
      refine lv_iload_n hx hb dX10_base_34 rfl (lv_at hl 2 rfl) ?_
      obtain ⟨r6, er6, hf⟩ := xbd_s hf
      refine x_Vi (As := [.int v1, .int v2]) (rest := [.ref (Γ.2.1 0)]) E.1 (m_X10_baseAt l er6) (cwV 2 hts (xgV xU_sub q412 q413 q414 q5 q415) rfl rfl rfl hdX10_baseAt ⟨Nat.le_of_ble_eq_true rfl, Nat.le_of_ble_eq_true rfl⟩) h kR_model rfl rfl hl.1 rfl (Nat.le_of_ble_eq_true rfl) dX10_base_35 ⟨Nat.le_of_ble_eq_true rfl, Nat.le_of_ble_eq_true rfl⟩ (fun H locs h => ?_)
      obtain ⟨r7, er7, hf⟩ := xbd_s hf
      refine x_Vi (As := [.int r6.2]) (rest := []) E.1 (m_X10_done l er7) (cwV 1 hts (xgV xU_sub q221 q222 q223 q5 q224) rfl rfl rfl hdX10_done ⟨Nat.le_of_ble_eq_true rfl, Nat.le_of_ble_eq_true rfl⟩) h kR_model rfl rfl hl.1 rfl (Nat.le_of_ble_eq_true rfl) dX10_base_38 ⟨Nat.le_of_ble_eq_true rfl, Nat.le_of_ble_eq_true rfl⟩ (fun H locs h => ?_)
      refine lv_goto (tgt := 49) hx hb dX10_base_41 (by decide) ?_
      exact x_iret hx hb h (Option.some.inj hf) hr hlocks dX10_base_49
  · replace hf := xif_t hf c2
    refine lv_aload_n hx hb dX10_base_16 rfl (lv_at hl 0 rfl) ?_
    refine lv_iconst (v := 1) hx hb dX10_base_17 (by decide) ?_
    obtain ⟨r8, er8, hf⟩ := xbd_s hf
    refine x_Vi (As := [.int 1]) (rest := []) E.1 (m_X10_fails l er8) (cwV 1 hts (xgV xU_sub q208 q209 q210 q5 q211) rfl rfl rfl hdX10_fails ⟨Nat.le_of_ble_eq_true rfl, Nat.le_of_ble_eq_true rfl⟩) h kR_model rfl rfl hl.1 rfl (Nat.le_of_ble_eq_true rfl) dX10_base_18 ⟨Nat.le_of_ble_eq_true rfl, Nat.le_of_ble_eq_true rfl⟩ (fun H locs h => ?_)
    exact x_iret hx hb h (Option.some.inj hf) hr hlocks dX10_base_21
theorem hdX10_append : yX10_append.cls = RX10 ∧ yX10_append.cls ≠ "java/lang/invoke/MethodHandle" ∧ yX10_append.cls ≠ "java/lang/invoke/VarHandle" ∧ (parseMethodDescriptor yX10_append.desc).map (fun d => d.parameters.length) = some 1 := by decide +kernel
set_option maxHeartbeats 4000000 in
set_option maxRecDepth 100000 in
theorem m_X10_append (l : Launch) {Γ : xG} {N : Nat} {v1 : Int32} {M : xM} {res : xR} (hf : F_X10_append N v1 M = some res) (sz : Nat) : Met l yX10_append (xWs yX10_append cX10_append 2 none) ({ frames := 1, cells := 0, slots := 0, locals := 40 } : Room) (va_Pc [.ref (Γ.2.1 0), .int v1] (xPre Γ (wR Γ) M sz)) (xCv Γ (wR Γ) 10 res sz) 0 0 (xAd Γ 10 sz) := by
  refine x_met (Qc := fun sz => xCv Γ (wR Γ) 10 res sz) pnX10 wG_W (Nat.le_of_ble_eq_true rfl) (fun p e s m args below meth c _ E h ls hl => ?_) sz
  obtain ⟨⟨hx, hb, hml, hown, hts⟩, hr, hlocks⟩ := id E
  have hl : lv_has ls 2 [(0, .ref (Γ.2.1 0)), (1, .int v1)] := hl
  refine lv_aload_n hx hb dX10_append_0 rfl (lv_at hl 0 rfl) ?_
  refine x_get (own := RX10) (ref := "TintDeskModel") (C := RX10) (T := TX10) (n := 20) (index := 96) (v := .int (M.1 0 10)) hx hb hts (fun w h => xU_sub w (inU10 w h)) hown h kR_model rfl 10 (by decide) (hts _ (xU_sub _ q453)) (fun _ h9 => h9) rfl dX10_append_1 ?_
  refine lv_bipush (v := 60) hx hb dX10_append_4 (by decide) ?_
  refine lv_icmp_ne (tgt := 15) hx hb dX10_append_6 (by decide) (fun c1 => ?_) (fun c1 => ?_)
  · replace hf := xif_f hf c1
    refine lv_aload_n hx hb dX10_append_15 rfl (lv_at hl 0 rfl) ?_
    refine lv_iconst (v := 0) hx hb dX10_append_16 (by decide) ?_
    obtain ⟨M2, eM2, hf⟩ := xl_s hf
    refine x_put (own := RX10) (ref := "TintDeskModel") (C := RX10) (T := TX10) (n := 20) (index := 42) (ty := .int) hx hb hts (fun w h => xU_sub w (inU10 w h)) tyX10 tyX10_ok nmX10 hown h kR_model rfl 0 (by decide) (hts _ (xU_sub _ q212)) (fun _ h9 => h9) rfl (by decide +kernel) rfl rfl (Nat.le_of_ble_eq_true rfl) rfl eM2 dX10_append_17 (fun H locs h => ?_)
    refine lv_aload_n hx hb dX10_append_20 rfl (lv_at hl 0 rfl) ?_
    refine x_get (own := RX10) (ref := "TintDeskModel") (C := RX10) (T := TX10) (n := 20) (index := 22) (v := .ref (Γ.2.1 5)) hx hb hts (fun w h => xU_sub w (inU10 w h)) hown h kR_model rfl 9 (by decide) (hts _ (xU_sub _ q136)) (fun _ h9 => h9) rfl dX10_append_21 ?_
    refine lv_aload_n hx hb dX10_append_24 rfl (lv_at hl 0 rfl) ?_
    refine x_get (own := RX10) (ref := "TintDeskModel") (C := RX10) (T := TX10) (n := 20) (index := 96) (v := .int (M2.1 0 10)) hx hb hts (fun w h => xU_sub w (inU10 w h)) hown h kR_model rfl 10 (by decide) (hts _ (xU_sub _ q453)) (fun _ h9 => h9) rfl dX10_append_25 ?_
    refine lv_iload_n hx hb dX10_append_28 rfl (lv_at hl 1 rfl) ?_
    obtain ⟨c3, hf⟩ := xck_s hf
    obtain ⟨M4, eM4, hf⟩ := xl_s hf
    refine x_cast hx hb h kR_tape (xin_in c3) eM4 dX10_append_29 (fun H locs h => ?_)
    refine lv_aload_n hx hb dX10_append_30 rfl (lv_at hl 0 rfl) ?_
    refine lv_dup hx hb dX10_append_31 rfl ?_
    refine x_get (own := RX10) (ref := "TintDeskModel") (C := RX10) (T := TX10) (n := 20) (index := 96) (v := .int (M4.1 0 10)) hx hb hts (fun w h => xU_sub w (inU10 w h)) hown h kR_model rfl 10 (by decide) (hts _ (xU_sub _ q453)) (fun _ h9 => h9) rfl dX10_append_32 ?_
    refine lv_iconst (v := 1) hx hb dX10_append_35 (by decide) ?_
    refine lv_iadd hx hb dX10_append_36 ?_
    obtain ⟨M5, eM5, hf⟩ := xl_s hf
    refine x_put (own := RX10) (ref := "TintDeskModel") (C := RX10) (T := TX10) (n := 20) (index := 96) (ty := .int) hx hb hts (fun w h => xU_sub w (inU10 w h)) tyX10 tyX10_ok nmX10 hown h kR_model rfl 10 (by decide) (hts _ (xU_sub _ q453)) (fun _ h9 => h9) rfl (by decide +kernel) rfl rfl (Nat.le_of_ble_eq_true rfl) rfl eM5 dX10_append_37 (fun H locs h => ?_)
    exact x_vret hx hb h (Option.some.inj hf) hr hlocks dX10_append_40
  · replace hf := xif_t hf c1
    refine lv_aload_n hx hb dX10_append_9 rfl (lv_at hl 0 rfl) ?_
    refine lv_iconst (v := 1) hx hb dX10_append_10 (by decide) ?_
    obtain ⟨M6, eM6, hf⟩ := xl_s hf
    refine x_put (own := RX10) (ref := "TintDeskModel") (C := RX10) (T := TX10) (n := 20) (index := 42) (ty := .int) hx hb hts (fun w h => xU_sub w (inU10 w h)) tyX10 tyX10_ok nmX10 hown h kR_model rfl 0 (by decide) (hts _ (xU_sub _ q212)) (fun _ h9 => h9) rfl (by decide +kernel) rfl rfl (Nat.le_of_ble_eq_true rfl) rfl eM6 dX10_append_11 (fun H locs h => ?_)
    exact x_vret hx hb h (Option.some.inj hf) hr hlocks dX10_append_14
theorem hdX10_here : yX10_here.cls = RX10 ∧ yX10_here.cls ≠ "java/lang/invoke/MethodHandle" ∧ yX10_here.cls ≠ "java/lang/invoke/VarHandle" ∧ (parseMethodDescriptor yX10_here.desc).map (fun d => d.parameters.length) = some 0 := by decide +kernel
set_option maxHeartbeats 4000000 in
set_option maxRecDepth 100000 in
theorem m_X10_here (l : Launch) {Γ : xG} {N : Nat} {M : xM} {res : xR} (hf : F_X10_here N M = some res) (sz : Nat) : Met l yX10_here (xWs yX10_here cX10_here 1 (some .int)) ({ frames := 1, cells := 0, slots := 0, locals := 40 } : Room) (va_Pc [.ref (Γ.2.1 0)] (xPre Γ (wR Γ) M sz)) (xCi Γ (wR Γ) 10 res sz) 0 0 (xAd Γ 10 sz) := by
  refine x_met (Qc := fun sz => xCi Γ (wR Γ) 10 res sz) pnX10 wG_W (Nat.le_of_ble_eq_true rfl) (fun p e s m args below meth c _ E h ls hl => ?_) sz
  obtain ⟨⟨hx, hb, hml, hown, hts⟩, hr, hlocks⟩ := id E
  have hl : lv_has ls 1 [(0, .ref (Γ.2.1 0))] := hl
  refine lv_aload_n hx hb dX10_here_0 rfl (lv_at hl 0 rfl) ?_
  refine x_get (own := RX10) (ref := "TintDeskModel") (C := RX10) (T := TX10) (n := 20) (index := 99) (v := .int (M.1 0 12)) hx hb hts (fun w h => xU_sub w (inU10 w h)) hown h kR_model rfl 12 (by decide) (hts _ (xU_sub _ q521)) (fun _ h9 => h9) rfl dX10_here_1 ?_
  refine lv_aload_n hx hb dX10_here_4 rfl (lv_at hl 0 rfl) ?_
  refine x_get (own := RX10) (ref := "TintDeskModel") (C := RX10) (T := TX10) (n := 20) (index := 96) (v := .int (M.1 0 10)) hx hb hts (fun w h => xU_sub w (inU10 w h)) hown h kR_model rfl 10 (by decide) (hts _ (xU_sub _ q453)) (fun _ h9 => h9) rfl dX10_here_5 ?_
  refine lv_icmp_ge (tgt := 23) hx hb dX10_here_8 (by decide) (fun c1 => ?_) (fun c1 => ?_)
  · replace hf := xif_t hf c1
    refine lv_iconst (v := (-1)) hx hb dX10_here_23 (by decide) ?_
    exact x_iret hx hb h (Option.some.inj hf) hr hlocks dX10_here_24
  · replace hf := xif_f hf c1
    refine lv_aload_n hx hb dX10_here_11 rfl (lv_at hl 0 rfl) ?_
    refine x_get (own := RX10) (ref := "TintDeskModel") (C := RX10) (T := TX10) (n := 20) (index := 22) (v := .ref (Γ.2.1 5)) hx hb hts (fun w h => xU_sub w (inU10 w h)) hown h kR_model rfl 9 (by decide) (hts _ (xU_sub _ q136)) (fun _ h9 => h9) rfl dX10_here_12 ?_
    refine lv_aload_n hx hb dX10_here_15 rfl (lv_at hl 0 rfl) ?_
    refine x_get (own := RX10) (ref := "TintDeskModel") (C := RX10) (T := TX10) (n := 20) (index := 99) (v := .int (M.1 0 12)) hx hb hts (fun w h => xU_sub w (inU10 w h)) hown h kR_model rfl 12 (by decide) (hts _ (xU_sub _ q521)) (fun _ h9 => h9) rfl dX10_here_16 ?_
    obtain ⟨c2, hf⟩ := xck_s hf
    refine x_cald hx hb h kR_tape (xin_in c2) dX10_here_19 ?_
    refine lv_goto (tgt := 24) hx hb dX10_here_20 (by decide) ?_
    exact x_iret hx hb h (Option.some.inj hf) hr hlocks dX10_here_24
theorem hdX10_reads : yX10_reads.cls = RX10 ∧ yX10_reads.cls ≠ "java/lang/invoke/MethodHandle" ∧ yX10_reads.cls ≠ "java/lang/invoke/VarHandle" ∧ (parseMethodDescriptor yX10_reads.desc).map (fun d => d.parameters.length) = some 1 := by decide +kernel
set_option maxHeartbeats 4000000 in
set_option maxRecDepth 100000 in
theorem w_X10_reads_18 (l : Launch) {p : Program} {e : Env} {s : State} {m : MethodId} {args : Array Value} {below : List Frame} {meth : Method} {c : Code} {Γ : xG} {N : Nat} {res : xR} (E : xEv p s m args meth c RX10 cX10_reads 2 none (xWs yX10_reads cX10_reads 2 none)) : ∀ (t0 : Int32) (t1 : Int32) (M : xM), L_X10_reads_18 N t0 t1 M = some res → ∀ (H : Heap) (locs : List Loc) (ls : Array Slot), xH Γ (wR Γ) 10 s M H locs → lv_has ls 2 [(0, .ref (Γ.2.1 0))] → W p l e ({ frames := 2, cells := 0, slots := 0, locals := 60 } : Room) s m args below meth c H locs 0 0 (MQ below (xCv Γ (wR Γ) 10 res s.heap.size) args s 0 0 (xAd Γ 10 s.heap.size)) (F0 m 18 ls [.int t0, .int t1, .ref (Γ.2.1 0)]) := by
  obtain ⟨⟨hx, hb, hml, hown, hts⟩, hr, hlocks⟩ := id E
  intro t0 t1 M hf H locs ls h hl
  refine lv_ior hx hb dX10_reads_18 ?_
  obtain ⟨c1, hf⟩ := xck_s hf
  obtain ⟨M2, eM2, hf⟩ := xl_s hf
  refine x_put (own := RX10) (ref := "TintDeskModel") (C := RX10) (T := TX10) (n := 20) (index := 102) (ty := .boolean) hx hb hts (fun w h => xU_sub w (inU10 w h)) tyX10 tyX10_ok nmX10 hown h kR_model rfl 13 (by decide) (hts _ (xU_sub _ q520)) (fun _ h9 => h9) rfl (by decide +kernel) (xz_n c1) (xz_f c1) (Nat.le_of_ble_eq_true rfl) rfl eM2 dX10_reads_19 (fun H locs h => ?_)
  refine lv_aload_n hx hb dX10_reads_22 rfl (lv_at hl 0 rfl) ?_
  refine lv_dup hx hb dX10_reads_23 rfl ?_
  refine x_get (own := RX10) (ref := "TintDeskModel") (C := RX10) (T := TX10) (n := 20) (index := 99) (v := .int (M2.1 0 12)) hx hb hts (fun w h => xU_sub w (inU10 w h)) hown h kR_model rfl 12 (by decide) (hts _ (xU_sub _ q521)) (fun _ h9 => h9) rfl dX10_reads_24 ?_
  refine lv_aload_n hx hb dX10_reads_27 rfl (lv_at hl 0 rfl) ?_
  refine x_get (own := RX10) (ref := "TintDeskModel") (C := RX10) (T := TX10) (n := 20) (index := 102) (v := .int (M2.1 0 13)) hx hb hts (fun w h => xU_sub w (inU10 w h)) hown h kR_model rfl 13 (by decide) (hts _ (xU_sub _ q520)) (fun _ h9 => h9) rfl dX10_reads_28 ?_
  refine lv_if_eq (tgt := 38) hx hb dX10_reads_31 (by decide) (fun c3 => ?_) (fun c3 => ?_)
  · replace hf := xif_t hf c3
    refine lv_iconst (v := 1) hx hb dX10_reads_38 (by decide) ?_
    refine lv_iadd hx hb dX10_reads_39 ?_
    obtain ⟨M4, eM4, hf⟩ := xl_s hf
    refine x_put (own := RX10) (ref := "TintDeskModel") (C := RX10) (T := TX10) (n := 20) (index := 99) (ty := .int) hx hb hts (fun w h => xU_sub w (inU10 w h)) tyX10 tyX10_ok nmX10 hown h kR_model rfl 12 (by decide) (hts _ (xU_sub _ q521)) (fun _ h9 => h9) rfl (by decide +kernel) rfl rfl (Nat.le_of_ble_eq_true rfl) rfl eM4 dX10_reads_40 (fun H locs h => ?_)
    exact x_vret hx hb h (Option.some.inj hf) hr hlocks dX10_reads_43
  · replace hf := xif_f hf c3
    refine lv_iconst (v := 0) hx hb dX10_reads_34 (by decide) ?_
    refine lv_goto (tgt := 39) hx hb dX10_reads_35 (by decide) ?_
    refine lv_iadd hx hb dX10_reads_39 ?_
    obtain ⟨M5, eM5, hf⟩ := xl_s hf
    refine x_put (own := RX10) (ref := "TintDeskModel") (C := RX10) (T := TX10) (n := 20) (index := 99) (ty := .int) hx hb hts (fun w h => xU_sub w (inU10 w h)) tyX10 tyX10_ok nmX10 hown h kR_model rfl 12 (by decide) (hts _ (xU_sub _ q521)) (fun _ h9 => h9) rfl (by decide +kernel) rfl rfl (Nat.le_of_ble_eq_true rfl) rfl eM5 dX10_reads_40 (fun H locs h => ?_)
    exact x_vret hx hb h (Option.some.inj hf) hr hlocks dX10_reads_43
set_option maxHeartbeats 4000000 in
set_option maxRecDepth 100000 in
theorem m_X10_reads (l : Launch) {Γ : xG} {N : Nat} {v1 : Int32} {M : xM} {res : xR} (hf : F_X10_reads N v1 M = some res) (sz : Nat) : Met l yX10_reads (xWs yX10_reads cX10_reads 2 none) ({ frames := 2, cells := 0, slots := 0, locals := 60 } : Room) (va_Pc [.ref (Γ.2.1 0), .int v1] (xPre Γ (wR Γ) M sz)) (xCv Γ (wR Γ) 10 res sz) 0 0 (xAd Γ 10 sz) := by
  refine x_met (Qc := fun sz => xCv Γ (wR Γ) 10 res sz) pnX10 wG_W (Nat.le_of_ble_eq_true rfl) (fun p e s m args below meth c _ E h ls hl => ?_) sz
  obtain ⟨⟨hx, hb, hml, hown, hts⟩, hr, hlocks⟩ := id E
  have hl : lv_has ls 2 [(0, .ref (Γ.2.1 0)), (1, .int v1)] := hl
  refine lv_aload_n hx hb dX10_reads_0 rfl (lv_at hl 0 rfl) ?_
  refine lv_dup hx hb dX10_reads_1 rfl ?_
  refine x_get (own := RX10) (ref := "TintDeskModel") (C := RX10) (T := TX10) (n := 20) (index := 102) (v := .int (M.1 0 13)) hx hb hts (fun w h => xU_sub w (inU10 w h)) hown h kR_model rfl 13 (by decide) (hts _ (xU_sub _ q520)) (fun _ h9 => h9) rfl dX10_reads_2 ?_
  refine lv_aload_n hx hb dX10_reads_5 rfl (lv_at hl 0 rfl) ?_
  obtain ⟨r1, er1, hf⟩ := xbd_s hf
  refine x_Vi (As := []) (rest := [.int (M.1 0 13), .ref (Γ.2.1 0)]) E.1 (m_X10_here l er1) (cwV 0 hts (xgV xU_sub q530 q531 q532 q5 q533) rfl rfl rfl hdX10_here ⟨Nat.le_of_ble_eq_true rfl, Nat.le_of_ble_eq_true rfl⟩) h kR_model rfl rfl hl.1 rfl (Nat.le_of_ble_eq_true rfl) dX10_reads_6 ⟨Nat.le_of_ble_eq_true rfl, Nat.le_of_ble_eq_true rfl⟩ (fun H locs h => ?_)
  refine lv_iload_n hx hb dX10_reads_9 rfl (lv_at hl 1 rfl) ?_
  refine lv_icmp_eq (tgt := 17) hx hb dX10_reads_10 (by decide) (fun c2 => ?_) (fun c2 => ?_)
  · replace hf := xif_t hf c2
    refine lv_iconst (v := 0) hx hb dX10_reads_17 (by decide) ?_
    exact w_X10_reads_18 l E 0 (M.1 0 13) r1.1 hf _ _ _ h (lv_sub hl [0] rfl)
  · replace hf := xif_f hf c2
    refine lv_iconst (v := 1) hx hb dX10_reads_13 (by decide) ?_
    refine lv_goto (tgt := 18) hx hb dX10_reads_14 (by decide) ?_
    exact w_X10_reads_18 l E 1 (M.1 0 13) r1.1 hf _ _ _ h (lv_sub hl [0] rfl)
theorem hdX10_readsDigit : yX10_readsDigit.cls = RX10 ∧ yX10_readsDigit.cls ≠ "java/lang/invoke/MethodHandle" ∧ yX10_readsDigit.cls ≠ "java/lang/invoke/VarHandle" ∧ (parseMethodDescriptor yX10_readsDigit.desc).map (fun d => d.parameters.length) = some 0 := by decide +kernel
set_option maxHeartbeats 4000000 in
set_option maxRecDepth 100000 in
theorem w_X10_readsDigit_46 (l : Launch) {p : Program} {e : Env} {s : State} {m : MethodId} {args : Array Value} {below : List Frame} {meth : Method} {c : Code} {Γ : xG} {N : Nat} {res : xR} (E : xEv p s m args meth c RX10 cX10_readsDigit 2 (some .int) (xWs yX10_readsDigit cX10_readsDigit 2 (some .int))) : ∀ (t0 : Int32) (M : xM), L_X10_readsDigit_46 N t0 M = some res → ∀ (H : Heap) (locs : List Loc) (ls : Array Slot), xH Γ (wR Γ) 10 s M H locs → lv_has ls 2 [(0, .ref (Γ.2.1 0))] → W p l e ({ frames := 2, cells := 0, slots := 0, locals := 62 } : Room) s m args below meth c H locs 0 0 (MQ below (xCi Γ (wR Γ) 10 res s.heap.size) args s 0 0 (xAd Γ 10 s.heap.size)) (F0 m 46 ls [.int t0]) := by
  obtain ⟨⟨hx, hb, hml, hown, hts⟩, hr, hlocks⟩ := id E
  intro t0 M hf H locs ls h hl
  refine lv_istore_n (lv' := [(1, .int t0), (0, .ref (Γ.2.1 0))]) hx hb dX10_readsDigit_46 rfl hl (by decide) rfl (fun ls hl => ?_)
  refine lv_aload_n hx hb dX10_readsDigit_47 rfl (lv_at hl 1 rfl) ?_
  refine lv_dup hx hb dX10_readsDigit_48 rfl ?_
  refine x_get (own := RX10) (ref := "TintDeskModel") (C := RX10) (T := TX10) (n := 20) (index := 99) (v := .int (M.1 0 12)) hx hb hts (fun w h => xU_sub w (inU10 w h)) hown h kR_model rfl 12 (by decide) (hts _ (xU_sub _ q521)) (fun _ h9 => h9) rfl dX10_readsDigit_49 ?_
  refine lv_aload_n hx hb dX10_readsDigit_52 rfl (lv_at hl 1 rfl) ?_
  refine x_get (own := RX10) (ref := "TintDeskModel") (C := RX10) (T := TX10) (n := 20) (index := 102) (v := .int (M.1 0 13)) hx hb hts (fun w h => xU_sub w (inU10 w h)) hown h kR_model rfl 13 (by decide) (hts _ (xU_sub _ q520)) (fun _ h9 => h9) rfl dX10_readsDigit_53 ?_
  refine lv_if_eq (tgt := 63) hx hb dX10_readsDigit_56 (by decide) (fun c1 => ?_) (fun c1 => ?_)
  · replace hf := xif_t hf c1
    refine lv_iconst (v := 1) hx hb dX10_readsDigit_63 (by decide) ?_
    refine lv_iadd hx hb dX10_readsDigit_64 ?_
    obtain ⟨M2, eM2, hf⟩ := xl_s hf
    refine x_put (own := RX10) (ref := "TintDeskModel") (C := RX10) (T := TX10) (n := 20) (index := 99) (ty := .int) hx hb hts (fun w h => xU_sub w (inU10 w h)) tyX10 tyX10_ok nmX10 hown h kR_model rfl 12 (by decide) (hts _ (xU_sub _ q521)) (fun _ h9 => h9) rfl (by decide +kernel) rfl rfl (Nat.le_of_ble_eq_true rfl) rfl eM2 dX10_readsDigit_65 (fun H locs h => ?_)
    refine lv_iload_n hx hb dX10_readsDigit_68 rfl (lv_at hl 0 rfl) ?_
    exact x_iret hx hb h (Option.some.inj hf) hr hlocks dX10_readsDigit_69
  · replace hf := xif_f hf c1
    refine lv_iconst (v := 0) hx hb dX10_readsDigit_59 (by decide) ?_
    refine lv_goto (tgt := 64) hx hb dX10_readsDigit_60 (by decide) ?_
    refine lv_iadd hx hb dX10_readsDigit_64 ?_
    obtain ⟨M3, eM3, hf⟩ := xl_s hf
    refine x_put (own := RX10) (ref := "TintDeskModel") (C := RX10) (T := TX10) (n := 20) (index := 99) (ty := .int) hx hb hts (fun w h => xU_sub w (inU10 w h)) tyX10 tyX10_ok nmX10 hown h kR_model rfl 12 (by decide) (hts _ (xU_sub _ q521)) (fun _ h9 => h9) rfl (by decide +kernel) rfl rfl (Nat.le_of_ble_eq_true rfl) rfl eM3 dX10_readsDigit_65 (fun H locs h => ?_)
    refine lv_iload_n hx hb dX10_readsDigit_68 rfl (lv_at hl 0 rfl) ?_
    exact x_iret hx hb h (Option.some.inj hf) hr hlocks dX10_readsDigit_69
set_option maxHeartbeats 4000000 in
set_option maxRecDepth 100000 in
theorem w_X10_readsDigit_24 (l : Launch) {p : Program} {e : Env} {s : State} {m : MethodId} {args : Array Value} {below : List Frame} {meth : Method} {c : Code} {Γ : xG} {N : Nat} {res : xR} (E : xEv p s m args meth c RX10 cX10_readsDigit 2 (some .int) (xWs yX10_readsDigit cX10_readsDigit 2 (some .int))) : ∀ (t0 : Int32) (t1 : Int32) (M : xM), L_X10_readsDigit_24 N t0 t1 M = some res → ∀ (H : Heap) (locs : List Loc) (ls : Array Slot), xH Γ (wR Γ) 10 s M H locs → lv_has ls 2 [(0, .ref (Γ.2.1 0))] → W p l e ({ frames := 2, cells := 0, slots := 0, locals := 62 } : Room) s m args below meth c H locs 0 0 (MQ below (xCi Γ (wR Γ) 10 res s.heap.size) args s 0 0 (xAd Γ 10 s.heap.size)) (F0 m 24 ls [.int t0, .int t1, .ref (Γ.2.1 0)]) := by
  obtain ⟨⟨hx, hb, hml, hown, hts⟩, hr, hlocks⟩ := id E
  intro t0 t1 M hf H locs ls h hl
  refine lv_ior hx hb dX10_readsDigit_24 ?_
  obtain ⟨c1, hf⟩ := xck_s hf
  obtain ⟨M2, eM2, hf⟩ := xl_s hf
  refine x_put (own := RX10) (ref := "TintDeskModel") (C := RX10) (T := TX10) (n := 20) (index := 102) (ty := .boolean) hx hb hts (fun w h => xU_sub w (inU10 w h)) tyX10 tyX10_ok nmX10 hown h kR_model rfl 13 (by decide) (hts _ (xU_sub _ q520)) (fun _ h9 => h9) rfl (by decide +kernel) (xz_n c1) (xz_f c1) (Nat.le_of_ble_eq_true rfl) rfl eM2 dX10_readsDigit_25 (fun H locs h => ?_)
  refine lv_aload_n hx hb dX10_readsDigit_28 rfl (lv_at hl 0 rfl) ?_
  refine x_get (own := RX10) (ref := "TintDeskModel") (C := RX10) (T := TX10) (n := 20) (index := 102) (v := .int (M2.1 0 13)) hx hb hts (fun w h => xU_sub w (inU10 w h)) hown h kR_model rfl 13 (by decide) (hts _ (xU_sub _ q520)) (fun _ h9 => h9) rfl dX10_readsDigit_29 ?_
  refine lv_if_eq (tgt := 39) hx hb dX10_readsDigit_32 (by decide) (fun c3 => ?_) (fun c3 => ?_)
  · replace hf := xif_t hf c3
    refine lv_aload_n hx hb dX10_readsDigit_39 rfl (lv_at hl 0 rfl) ?_
    obtain ⟨r4, er4, hf⟩ := xbd_s hf
    refine x_Vi (As := []) (rest := []) E.1 (m_X10_here l er4) (cwV 0 hts (xgV xU_sub q530 q531 q532 q5 q533) rfl rfl rfl hdX10_here ⟨Nat.le_of_ble_eq_true rfl, Nat.le_of_ble_eq_true rfl⟩) h kR_model rfl rfl hl.1 rfl (Nat.le_of_ble_eq_true rfl) dX10_readsDigit_40 ⟨Nat.le_of_ble_eq_true rfl, Nat.le_of_ble_eq_true rfl⟩ (fun H locs h => ?_)
    refine lv_bipush (v := 48) hx hb dX10_readsDigit_43 (by decide) ?_
    refine lv_isub hx hb dX10_readsDigit_45 ?_
    exact w_X10_readsDigit_46 l E (r4.2 - 48) r4.1 hf _ _ _ h (lv_sub hl [0] rfl)
  · replace hf := xif_f hf c3
    refine lv_iconst (v := 0) hx hb dX10_readsDigit_35 (by decide) ?_
    refine lv_goto (tgt := 46) hx hb dX10_readsDigit_36 (by decide) ?_
    exact w_X10_readsDigit_46 l E 0 M2 hf _ _ _ h (lv_sub hl [0] rfl)
set_option maxHeartbeats 4000000 in
set_option maxRecDepth 100000 in
theorem m_X10_readsDigit (l : Launch) {Γ : xG} {N : Nat} {M : xM} {res : xR} (hf : F_X10_readsDigit N M = some res) (sz : Nat) : Met l yX10_readsDigit (xWs yX10_readsDigit cX10_readsDigit 2 (some .int)) ({ frames := 2, cells := 0, slots := 0, locals := 62 } : Room) (va_Pc [.ref (Γ.2.1 0)] (xPre Γ (wR Γ) M sz)) (xCi Γ (wR Γ) 10 res sz) 0 0 (xAd Γ 10 sz) := by
  refine x_met (Qc := fun sz => xCi Γ (wR Γ) 10 res sz) pnX10 wG_W (Nat.le_of_ble_eq_true rfl) (fun p e s m args below meth c _ E h ls hl => ?_) sz
  obtain ⟨⟨hx, hb, hml, hown, hts⟩, hr, hlocks⟩ := id E
  have hl : lv_has ls 2 [(0, .ref (Γ.2.1 0))] := hl
  refine lv_aload_n hx hb dX10_readsDigit_0 rfl (lv_at hl 0 rfl) ?_
  refine lv_dup hx hb dX10_readsDigit_1 rfl ?_
  refine x_get (own := RX10) (ref := "TintDeskModel") (C := RX10) (T := TX10) (n := 20) (index := 102) (v := .int (M.1 0 13)) hx hb hts (fun w h => xU_sub w (inU10 w h)) hown h kR_model rfl 13 (by decide) (hts _ (xU_sub _ q520)) (fun _ h9 => h9) rfl dX10_readsDigit_2 ?_
  refine lv_aload_n hx hb dX10_readsDigit_5 rfl (lv_at hl 0 rfl) ?_
  obtain ⟨r1, er1, hf⟩ := xbd_s hf
  refine x_Vi (As := []) (rest := [.int (M.1 0 13), .ref (Γ.2.1 0)]) E.1 (m_X10_here l er1) (cwV 0 hts (xgV xU_sub q530 q531 q532 q5 q533) rfl rfl rfl hdX10_here ⟨Nat.le_of_ble_eq_true rfl, Nat.le_of_ble_eq_true rfl⟩) h kR_model rfl rfl hl.1 rfl (Nat.le_of_ble_eq_true rfl) dX10_readsDigit_6 ⟨Nat.le_of_ble_eq_true rfl, Nat.le_of_ble_eq_true rfl⟩ (fun H locs h => ?_)
  refine lv_bipush (v := 48) hx hb dX10_readsDigit_9 (by decide) ?_
  refine lv_bipush (v := 57) hx hb dX10_readsDigit_11 (by decide) ?_
  obtain ⟨r2, er2, hf⟩ := xbd_s hf
  refine x_Si (As := [.int r1.2, .int 48, .int 57]) (rest := [.int (M.1 0 13), .ref (Γ.2.1 0)]) E.1 (m_X10_in l er2) (cwS 3 hts (xgS xU_sub q205 q206 q5 q207) rfl rfl rfl hdX10_in ⟨Nat.le_of_ble_eq_true rfl, Nat.le_of_ble_eq_true rfl⟩) h rfl hl.1 rfl (Nat.le_of_ble_eq_true rfl) dX10_readsDigit_13 ⟨Nat.le_of_ble_eq_true rfl, Nat.le_of_ble_eq_true rfl⟩ (fun H locs h => ?_)
  refine lv_if_ne (tgt := 23) hx hb dX10_readsDigit_16 (by decide) (fun c3 => ?_) (fun c3 => ?_)
  · replace hf := xif_f hf c3
    refine lv_iconst (v := 0) hx hb dX10_readsDigit_23 (by decide) ?_
    exact w_X10_readsDigit_24 l E 0 (M.1 0 13) r2.1 hf _ _ _ h (lv_sub hl [0] rfl)
  · replace hf := xif_t hf c3
    refine lv_iconst (v := 1) hx hb dX10_readsDigit_19 (by decide) ?_
    refine lv_goto (tgt := 24) hx hb dX10_readsDigit_20 (by decide) ?_
    exact w_X10_readsDigit_24 l E 1 (M.1 0 13) r2.1 hf _ _ _ h (lv_sub hl [0] rfl)
theorem hdX10_readsAmount : yX10_readsAmount.cls = RX10 ∧ yX10_readsAmount.cls ≠ "java/lang/invoke/MethodHandle" ∧ yX10_readsAmount.cls ≠ "java/lang/invoke/VarHandle" ∧ (parseMethodDescriptor yX10_readsAmount.desc).map (fun d => d.parameters.length) = some 0 := by decide +kernel
set_option maxHeartbeats 4000000 in
set_option maxRecDepth 100000 in
theorem w_X10_readsAmount_7 (l : Launch) {p : Program} {e : Env} {s : State} {m : MethodId} {args : Array Value} {below : List Frame} {meth : Method} {c : Code} {Γ : xG} {N : Nat} {res : xR} (E : xEv p s m args meth c RX10 cX10_readsAmount 3 (some .int) (xWs yX10_readsAmount cX10_readsAmount 3 (some .int))) : ∀ (n : Nat) (v1 : Int32) (v2 : Int32) (M : xM), L_X10_readsAmount_7 N n v1 v2 M = some res → ∀ (H : Heap) (locs : List Loc) (ls : Array Slot), xH Γ (wR Γ) 10 s M H locs → lv_has ls 3 [(0, .ref (Γ.2.1 0)), (1, .int v1), (2, .int v2)] → W p l e ({ frames := 3, cells := 0, slots := 0, locals := 83 } : Room) s m args below meth c H locs 0 0 (MQ below (xCi Γ (wR Γ) 10 res s.heap.size) args s 0 0 (xAd Γ 10 s.heap.size)) (F0 m 7 ls []) := by
  obtain ⟨⟨hx, hb, hml, hown, hts⟩, hr, hlocks⟩ := id E
  intro n
  induction n with
  | zero => intro v1 v2 M hf; cases hf
  | succ n ih =>
    intro v1 v2 M hf H locs ls h hl
    refine lv_aload_n hx hb dX10_readsAmount_7 rfl (lv_at hl 0 rfl) ?_
    refine x_get (own := RX10) (ref := "TintDeskModel") (C := RX10) (T := TX10) (n := 20) (index := 102) (v := .int (M.1 0 13)) hx hb hts (fun w h => xU_sub w (inU10 w h)) hown h kR_model rfl 13 (by decide) (hts _ (xU_sub _ q520)) (fun _ h9 => h9) rfl dX10_readsAmount_8 ?_
    refine lv_if_ne (tgt := 53) hx hb dX10_readsAmount_11 (by decide) (fun c1 => ?_) (fun c1 => ?_)
    · replace hf := xif_f hf c1
      refine lv_iload_n hx hb dX10_readsAmount_53 rfl (lv_at hl 1 rfl) ?_
      exact x_iret hx hb h (Option.some.inj hf) hr hlocks dX10_readsAmount_54
    · replace hf := xif_t hf c1
      refine lv_iload_n hx hb dX10_readsAmount_14 rfl (lv_at hl 1 rfl) ?_
      refine lv_if_le (tgt := 53) hx hb dX10_readsAmount_15 (by decide) (fun c2 => ?_) (fun c2 => ?_)
      · replace hf := xif_t hf c2
        refine lv_iload_n hx hb dX10_readsAmount_53 rfl (lv_at hl 1 rfl) ?_
        exact x_iret hx hb h (Option.some.inj hf) hr hlocks dX10_readsAmount_54
      · replace hf := xif_f hf c2
        refine lv_iload_n hx hb dX10_readsAmount_18 rfl (lv_at hl 2 rfl) ?_
        refine lv_iconst (v := 4) hx hb dX10_readsAmount_19 (by decide) ?_
        refine lv_icmp_ge (tgt := 53) hx hb dX10_readsAmount_20 (by decide) (fun c3 => ?_) (fun c3 => ?_)
        · replace hf := xif_t hf c3
          refine lv_iload_n hx hb dX10_readsAmount_53 rfl (lv_at hl 1 rfl) ?_
          exact x_iret hx hb h (Option.some.inj hf) hr hlocks dX10_readsAmount_54
        · replace hf := xif_f hf c3
          refine lv_aload_n hx hb dX10_readsAmount_23 rfl (lv_at hl 0 rfl) ?_
          obtain ⟨r4, er4, hf⟩ := xbd_s hf
          refine x_Vi (As := []) (rest := []) E.1 (m_X10_here l er4) (cwV 0 hts (xgV xU_sub q530 q531 q532 q5 q533) rfl rfl rfl hdX10_here ⟨Nat.le_of_ble_eq_true rfl, Nat.le_of_ble_eq_true rfl⟩) h kR_model rfl rfl hl.1 rfl (Nat.le_of_ble_eq_true rfl) dX10_readsAmount_24 ⟨Nat.le_of_ble_eq_true rfl, Nat.le_of_ble_eq_true rfl⟩ (fun H locs h => ?_)
          refine lv_bipush (v := 48) hx hb dX10_readsAmount_27 (by decide) ?_
          refine lv_bipush (v := 57) hx hb dX10_readsAmount_29 (by decide) ?_
          obtain ⟨r5, er5, hf⟩ := xbd_s hf
          refine x_Si (As := [.int r4.2, .int 48, .int 57]) (rest := []) E.1 (m_X10_in l er5) (cwS 3 hts (xgS xU_sub q205 q206 q5 q207) rfl rfl rfl hdX10_in ⟨Nat.le_of_ble_eq_true rfl, Nat.le_of_ble_eq_true rfl⟩) h rfl hl.1 rfl (Nat.le_of_ble_eq_true rfl) dX10_readsAmount_31 ⟨Nat.le_of_ble_eq_true rfl, Nat.le_of_ble_eq_true rfl⟩ (fun H locs h => ?_)
          refine lv_if_eq (tgt := 53) hx hb dX10_readsAmount_34 (by decide) (fun c6 => ?_) (fun c6 => ?_)
          · replace hf := xif_t hf c6
            refine lv_iload_n hx hb dX10_readsAmount_53 rfl (lv_at hl 1 rfl) ?_
            exact x_iret hx hb h (Option.some.inj hf) hr hlocks dX10_readsAmount_54
          · replace hf := xif_f hf c6
            refine lv_bipush (v := 10) hx hb dX10_readsAmount_37 (by decide) ?_
            refine lv_iload_n hx hb dX10_readsAmount_39 rfl (lv_at hl 1 rfl) ?_
            refine lv_imul hx hb dX10_readsAmount_40 ?_
            refine lv_aload_n hx hb dX10_readsAmount_41 rfl (lv_at hl 0 rfl) ?_
            obtain ⟨r7, er7, hf⟩ := xbd_s hf
            refine x_Vi (As := []) (rest := [.int (10 * v1)]) E.1 (m_X10_readsDigit l er7) (cwV 0 hts (xgV xU_sub q534 q535 q536 q5 q537) rfl rfl rfl hdX10_readsDigit ⟨Nat.le_of_ble_eq_true rfl, Nat.le_of_ble_eq_true rfl⟩) h kR_model rfl rfl hl.1 rfl (Nat.le_of_ble_eq_true rfl) dX10_readsAmount_42 ⟨Nat.le_of_ble_eq_true rfl, Nat.le_of_ble_eq_true rfl⟩ (fun H locs h => ?_)
            refine lv_iadd hx hb dX10_readsAmount_45 ?_
            obtain ⟨y8, ey8, hf⟩ := xl_s hf
            refine x_nm ey8 ?_
            refine lv_istore_n (lv' := [(1, .int y8), (0, .ref (Γ.2.1 0)), (2, .int v2)]) hx hb dX10_readsAmount_46 rfl hl (by decide) rfl (fun ls hl => ?_)
            obtain ⟨y9, ey9, hf⟩ := xl_s hf
            refine lv_iinc (v := y9) (lv' := [(2, .int y9), (1, .int y8), (0, .ref (Γ.2.1 0))]) hx hb dX10_readsAmount_47 hl (k := 2) rfl (by rw [ey9]; rfl) (by decide) rfl (fun ls hl => ?_)
            refine lv_goto (tgt := 7) hx hb dX10_readsAmount_50 (by decide) ?_
            exact ih y8 y9 r7.1 hf _ _ _ h (lv_sub hl [2, 1, 0] rfl)
set_option maxHeartbeats 4000000 in
set_option maxRecDepth 100000 in
theorem m_X10_readsAmount (l : Launch) {Γ : xG} {N : Nat} {M : xM} {res : xR} (hf : F_X10_readsAmount N M = some res) (sz : Nat) : Met l yX10_readsAmount (xWs yX10_readsAmount cX10_readsAmount 3 (some .int)) ({ frames := 3, cells := 0, slots := 0, locals := 83 } : Room) (va_Pc [.ref (Γ.2.1 0)] (xPre Γ (wR Γ) M sz)) (xCi Γ (wR Γ) 10 res sz) 0 0 (xAd Γ 10 sz) := by
  refine x_met (Qc := fun sz => xCi Γ (wR Γ) 10 res sz) pnX10 wG_W (Nat.le_of_ble_eq_true rfl) (fun p e s m args below meth c _ E h ls hl => ?_) sz
  obtain ⟨⟨hx, hb, hml, hown, hts⟩, hr, hlocks⟩ := id E
  have hl : lv_has ls 3 [(0, .ref (Γ.2.1 0))] := hl
  refine lv_aload_n hx hb dX10_readsAmount_0 rfl (lv_at hl 0 rfl) ?_
  obtain ⟨r1, er1, hf⟩ := xbd_s hf
  refine x_Vi (As := []) (rest := []) E.1 (m_X10_readsDigit l er1) (cwV 0 hts (xgV xU_sub q534 q535 q536 q5 q537) rfl rfl rfl hdX10_readsDigit ⟨Nat.le_of_ble_eq_true rfl, Nat.le_of_ble_eq_true rfl⟩) h kR_model rfl rfl hl.1 rfl (Nat.le_of_ble_eq_true rfl) dX10_readsAmount_1 ⟨Nat.le_of_ble_eq_true rfl, Nat.le_of_ble_eq_true rfl⟩ (fun H locs h => ?_)
  obtain ⟨y2, ey2, hf⟩ := xl_s hf
  refine x_nm ey2 ?_
  refine lv_istore_n (lv' := [(1, .int y2), (0, .ref (Γ.2.1 0))]) hx hb dX10_readsAmount_4 rfl hl (by decide) rfl (fun ls hl => ?_)
  refine lv_iconst (v := 1) hx hb dX10_readsAmount_5 (by decide) ?_
  refine lv_istore_n (lv' := [(2, .int 1), (1, .int y2), (0, .ref (Γ.2.1 0))]) hx hb dX10_readsAmount_6 rfl hl (by decide) rfl (fun ls hl => ?_)
  exact w_X10_readsAmount_7 l E N y2 1 r1.1 hf _ _ _ h (lv_sub hl [2, 1, 0] rfl)
theorem hdX10_readsText : yX10_readsText.cls = RX10 ∧ yX10_readsText.cls ≠ "java/lang/invoke/MethodHandle" ∧ yX10_readsText.cls ≠ "java/lang/invoke/VarHandle" ∧ (parseMethodDescriptor yX10_readsText.desc).map (fun d => d.parameters.length) = some 0 := by decide +kernel
set_option maxHeartbeats 4000000 in
set_option maxRecDepth 100000 in
theorem w_X10_readsText_148 (l : Launch) {p : Program} {e : Env} {s : State} {m : MethodId} {args : Array Value} {below : List Frame} {meth : Method} {c : Code} {Γ : xG} {N : Nat} {res : xR} (E : xEv p s m args meth c RX10 cX10_readsText 5 (some .int) (xWs yX10_readsText cX10_readsText 5 (some .int))) {K_72 : Int32 → Int32 → xM → Option xR} (hK_72 : ∀ (v1 : Int32) (v2 : Int32) (M : xM), K_72 v1 v2 M = some res → ∀ (H : Heap) (locs : List Loc) (ls : Array Slot), xH Γ (wR Γ) 10 s M H locs → lv_has ls 5 [(0, .ref (Γ.2.1 0)), (1, .int v1), (2, .int v2)] → W p l e ({ frames := 4, cells := 0, slots := 0, locals := 105 } : Room) s m args below meth c H locs 0 0 (MQ below (xCi Γ (wR Γ) 10 res s.heap.size) args s 0 0 (xAd Γ 10 s.heap.size)) (F0 m 72 ls [])) : ∀ (v1 : Int32) (v2 : Int32) (t0 : Int32) (t1 : Int32) (M : xM), L_X10_readsText_148 N K_72 v1 v2 t0 t1 M = some res → ∀ (H : Heap) (locs : List Loc) (ls : Array Slot), xH Γ (wR Γ) 10 s M H locs → lv_has ls 5 [(0, .ref (Γ.2.1 0)), (1, .int v1), (2, .int v2)] → W p l e ({ frames := 4, cells := 0, slots := 0, locals := 105 } : Room) s m args below meth c H locs 0 0 (MQ below (xCi Γ (wR Γ) 10 res s.heap.size) args s 0 0 (xAd Γ 10 s.heap.size)) (F0 m 148 ls [.int t0, .int t1, .ref (Γ.2.1 0)]) := by
  obtain ⟨⟨hx, hb, hml, hown, hts⟩, hr, hlocks⟩ := id E
  intro v1 v2 t0 t1 M hf H locs ls h hl
  refine lv_iadd hx hb dX10_readsText_148 ?_
  obtain ⟨M1, eM1, hf⟩ := xl_s hf
  refine x_put (own := RX10) (ref := "TintDeskModel") (C := RX10) (T := TX10) (n := 20) (index := 99) (ty := .int) hx hb hts (fun w h => xU_sub w (inU10 w h)) tyX10 tyX10_ok nmX10 hown h kR_model rfl 12 (by decide) (hts _ (xU_sub _ q521)) (fun _ h9 => h9) rfl (by decide +kernel) rfl rfl (Nat.le_of_ble_eq_true rfl) rfl eM1 dX10_readsText_149 (fun H locs h => ?_)
  refine lv_goto (tgt := 72) hx hb dX10_readsText_152 (by decide) ?_
  exact hK_72 v1 v2 M1 hf _ _ _ h (lv_sub hl [0, 1, 2] rfl)
set_option maxHeartbeats 4000000 in
set_option maxRecDepth 100000 in
theorem w_X10_readsText_133 (l : Launch) {p : Program} {e : Env} {s : State} {m : MethodId} {args : Array Value} {below : List Frame} {meth : Method} {c : Code} {Γ : xG} {N : Nat} {res : xR} (E : xEv p s m args meth c RX10 cX10_readsText 5 (some .int) (xWs yX10_readsText cX10_readsText 5 (some .int))) {K_72 : Int32 → Int32 → xM → Option xR} (hK_72 : ∀ (v1 : Int32) (v2 : Int32) (M : xM), K_72 v1 v2 M = some res → ∀ (H : Heap) (locs : List Loc) (ls : Array Slot), xH Γ (wR Γ) 10 s M H locs → lv_has ls 5 [(0, .ref (Γ.2.1 0)), (1, .int v1), (2, .int v2)] → W p l e ({ frames := 4, cells := 0, slots := 0, locals := 105 } : Room) s m args below meth c H locs 0 0 (MQ below (xCi Γ (wR Γ) 10 res s.heap.size) args s 0 0 (xAd Γ 10 s.heap.size)) (F0 m 72 ls [])) : ∀ (v1 : Int32) (t0 : Int32) (M : xM), L_X10_readsText_133 N K_72 v1 t0 M = some res → ∀ (H : Heap) (locs : List Loc) (ls : Array Slot), xH Γ (wR Γ) 10 s M H locs → lv_has ls 5 [(0, .ref (Γ.2.1 0)), (1, .int v1)] → W p l e ({ frames := 4, cells := 0, slots := 0, locals := 105 } : Room) s m args below meth c H locs 0 0 (MQ below (xCi Γ (wR Γ) 10 res s.heap.size) args s 0 0 (xAd Γ 10 s.heap.size)) (F0 m 133 ls [.int t0]) := by
  obtain ⟨⟨hx, hb, hml, hown, hts⟩, hr, hlocks⟩ := id E
  intro v1 t0 M hf H locs ls h hl
  refine lv_istore_n (lv' := [(2, .int t0), (0, .ref (Γ.2.1 0)), (1, .int v1)]) hx hb dX10_readsText_133 rfl hl (by decide) rfl (fun ls hl => ?_)
  refine lv_aload_n hx hb dX10_readsText_134 rfl (lv_at hl 1 rfl) ?_
  refine lv_dup hx hb dX10_readsText_135 rfl ?_
  refine x_get (own := RX10) (ref := "TintDeskModel") (C := RX10) (T := TX10) (n := 20) (index := 99) (v := .int (M.1 0 12)) hx hb hts (fun w h => xU_sub w (inU10 w h)) hown h kR_model rfl 12 (by decide) (hts _ (xU_sub _ q521)) (fun _ h9 => h9) rfl dX10_readsText_136 ?_
  refine lv_iload_n hx hb dX10_readsText_139 rfl (lv_at hl 0 rfl) ?_
  refine lv_if_eq (tgt := 147) hx hb dX10_readsText_140 (by decide) (fun c1 => ?_) (fun c1 => ?_)
  · replace hf := xif_t hf c1
    refine lv_iconst (v := 0) hx hb dX10_readsText_147 (by decide) ?_
    exact w_X10_readsText_148 l E (hK_72) v1 t0 0 (M.1 0 12) M hf _ _ _ h (lv_sub hl [1, 2, 0] rfl)
  · replace hf := xif_f hf c1
    refine lv_iconst (v := 1) hx hb dX10_readsText_143 (by decide) ?_
    refine lv_goto (tgt := 148) hx hb dX10_readsText_144 (by decide) ?_
    exact w_X10_readsText_148 l E (hK_72) v1 t0 1 (M.1 0 12) M hf _ _ _ h (lv_sub hl [1, 2, 0] rfl)
set_option maxHeartbeats 4000000 in
set_option maxRecDepth 100000 in
theorem w_X10_readsText_132 (l : Launch) {p : Program} {e : Env} {s : State} {m : MethodId} {args : Array Value} {below : List Frame} {meth : Method} {c : Code} {Γ : xG} {N : Nat} {res : xR} (E : xEv p s m args meth c RX10 cX10_readsText 5 (some .int) (xWs yX10_readsText cX10_readsText 5 (some .int))) {K_133 : Int32 → Int32 → xM → Option xR} (hK_133 : ∀ (v1 : Int32) (t0 : Int32) (M : xM), K_133 v1 t0 M = some res → ∀ (H : Heap) (locs : List Loc) (ls : Array Slot), xH Γ (wR Γ) 10 s M H locs → lv_has ls 5 [(0, .ref (Γ.2.1 0)), (1, .int v1)] → W p l e ({ frames := 4, cells := 0, slots := 0, locals := 105 } : Room) s m args below meth c H locs 0 0 (MQ below (xCi Γ (wR Γ) 10 res s.heap.size) args s 0 0 (xAd Γ 10 s.heap.size)) (F0 m 133 ls [.int t0])) : ∀ (v1 : Int32) (M : xM), L_X10_readsText_132 N K_133 v1 M = some res → ∀ (H : Heap) (locs : List Loc) (ls : Array Slot), xH Γ (wR Γ) 10 s M H locs → lv_has ls 5 [(0, .ref (Γ.2.1 0)), (1, .int v1)] → W p l e ({ frames := 4, cells := 0, slots := 0, locals := 105 } : Room) s m args below meth c H locs 0 0 (MQ below (xCi Γ (wR Γ) 10 res s.heap.size) args s 0 0 (xAd Γ 10 s.heap.size)) (F0 m 132 ls []) := by
  obtain ⟨⟨hx, hb, hml, hown, hts⟩, hr, hlocks⟩ := id E
  intro v1 M hf H locs ls h hl
  refine lv_iconst (v := 0) hx hb dX10_readsText_132 (by decide) ?_
  exact hK_133 v1 0 M hf _ _ _ h (lv_sub hl [0, 1] rfl)
set_option maxHeartbeats 4000000 in
set_option maxRecDepth 100000 in
theorem w_X10_readsText_102 (l : Launch) {p : Program} {e : Env} {s : State} {m : MethodId} {args : Array Value} {below : List Frame} {meth : Method} {c : Code} {Γ : xG} {N : Nat} {res : xR} (E : xEv p s m args meth c RX10 cX10_readsText 5 (some .int) (xWs yX10_readsText cX10_readsText 5 (some .int))) {K_72 : Int32 → Int32 → xM → Option xR} (hK_72 : ∀ (v1 : Int32) (v2 : Int32) (M : xM), K_72 v1 v2 M = some res → ∀ (H : Heap) (locs : List Loc) (ls : Array Slot), xH Γ (wR Γ) 10 s M H locs → lv_has ls 5 [(0, .ref (Γ.2.1 0)), (1, .int v1), (2, .int v2)] → W p l e ({ frames := 4, cells := 0, slots := 0, locals := 105 } : Room) s m args below meth c H locs 0 0 (MQ below (xCi Γ (wR Γ) 10 res s.heap.size) args s 0 0 (xAd Γ 10 s.heap.size)) (F0 m 72 ls [])) : ∀ (v1 : Int32) (v3 : Int32) (t0 : Int32) (M : xM), L_X10_readsText_102 N K_72 v1 v3 t0 M = some res → ∀ (H : Heap) (locs : List Loc) (ls : Array Slot), xH Γ (wR Γ) 10 s M H locs → lv_has ls 5 [(0, .ref (Γ.2.1 0)), (1, .int v1), (3, .int v3)] → W p l e ({ frames := 4, cells := 0, slots := 0, locals := 105 } : Room) s m args below meth c H locs 0 0 (MQ below (xCi Γ (wR Γ) 10 res s.heap.size) args s 0 0 (xAd Γ 10 s.heap.size)) (F0 m 102 ls [.int t0]) := by
  obtain ⟨⟨hx, hb, hml, hown, hts⟩, hr, hlocks⟩ := id E
  intro v1 v3 t0 M hf H locs ls h hl
  refine lv_istore (lv' := [(4, .int t0), (0, .ref (Γ.2.1 0)), (1, .int v1), (3, .int v3)]) hx hb dX10_readsText_102 hl (by decide) rfl (fun ls hl => ?_)
  refine lv_aload_n hx hb dX10_readsText_104 rfl (lv_at hl 1 rfl) ?_
  refine x_get (own := RX10) (ref := "TintDeskModel") (C := RX10) (T := TX10) (n := 20) (index := 30) (v := .ref (Γ.2.1 6)) hx hb hts (fun w h => xU_sub w (inU10 w h)) hown h kR_model rfl 14 (by decide) (hts _ (xU_sub _ q138)) (fun _ h9 => h9) rfl dX10_readsText_105 ?_
  refine lv_iload_n hx hb dX10_readsText_108 rfl (lv_at hl 3 rfl) ?_
  refine lv_iload hx hb dX10_readsText_109 (lv_at hl 0 rfl) ?_
  obtain ⟨c1, hf⟩ := xck_s hf
  obtain ⟨M2, eM2, hf⟩ := xl_s hf
  refine x_iast hx hb h kR_told (xin_in c1) eM2 dX10_readsText_111 (fun H locs h => ?_)
  refine lv_aload_n hx hb dX10_readsText_112 rfl (lv_at hl 1 rfl) ?_
  refine x_get (own := RX10) (ref := "TintDeskModel") (C := RX10) (T := TX10) (n := 20) (index := 102) (v := .int (M2.1 0 13)) hx hb hts (fun w h => xU_sub w (inU10 w h)) hown h kR_model rfl 13 (by decide) (hts _ (xU_sub _ q520)) (fun _ h9 => h9) rfl dX10_readsText_113 ?_
  refine lv_if_ne (tgt := 132) hx hb dX10_readsText_116 (by decide) (fun c3 => ?_) (fun c3 => ?_)
  · replace hf := xif_f hf c3
    exact w_X10_readsText_132 l E (w_X10_readsText_133 l E (hK_72)) v1 M2 hf _ _ _ h (lv_sub hl [1, 2] rfl)
  · replace hf := xif_t hf c3
    refine lv_aload_n hx hb dX10_readsText_119 rfl (lv_at hl 1 rfl) ?_
    obtain ⟨r4, er4, hf⟩ := xbd_s hf
    refine x_Vi (As := []) (rest := []) E.1 (m_X10_here l er4) (cwV 0 hts (xgV xU_sub q530 q531 q532 q5 q533) rfl rfl rfl hdX10_here ⟨Nat.le_of_ble_eq_true rfl, Nat.le_of_ble_eq_true rfl⟩) h kR_model rfl rfl hl.1 rfl (Nat.le_of_ble_eq_true rfl) dX10_readsText_120 ⟨Nat.le_of_ble_eq_true rfl, Nat.le_of_ble_eq_true rfl⟩ (fun H locs h => ?_)
    refine lv_bipush (v := 44) hx hb dX10_readsText_123 (by decide) ?_
    refine lv_icmp_ne (tgt := 132) hx hb dX10_readsText_125 (by decide) (fun c5 => ?_) (fun c5 => ?_)
    · replace hf := xif_f hf c5
      exact w_X10_readsText_132 l E (w_X10_readsText_133 l E (hK_72)) v1 r4.1 hf _ _ _ h (lv_sub hl [1, 2] rfl)
    · replace hf := xif_t hf c5
      refine lv_iconst (v := 1) hx hb dX10_readsText_128 (by decide) ?_
      refine lv_goto (tgt := 133) hx hb dX10_readsText_129 (by decide) ?_
      exact w_X10_readsText_133 l E (hK_72) v1 1 r4.1 hf _ _ _ h (lv_sub hl [1, 2] rfl)
set_option maxHeartbeats 4000000 in
set_option maxRecDepth 100000 in
theorem w_X10_readsText_72 (l : Launch) {p : Program} {e : Env} {s : State} {m : MethodId} {args : Array Value} {below : List Frame} {meth : Method} {c : Code} {Γ : xG} {N : Nat} {res : xR} (E : xEv p s m args meth c RX10 cX10_readsText 5 (some .int) (xWs yX10_readsText cX10_readsText 5 (some .int))) : ∀ (n : Nat) (v1 : Int32) (v2 : Int32) (M : xM), L_X10_readsText_72 N n v1 v2 M = some res → ∀ (H : Heap) (locs : List Loc) (ls : Array Slot), xH Γ (wR Γ) 10 s M H locs → lv_has ls 5 [(0, .ref (Γ.2.1 0)), (1, .int v1), (2, .int v2)] → W p l e ({ frames := 4, cells := 0, slots := 0, locals := 105 } : Room) s m args below meth c H locs 0 0 (MQ below (xCi Γ (wR Γ) 10 res s.heap.size) args s 0 0 (xAd Γ 10 s.heap.size)) (F0 m 72 ls []) := by
  obtain ⟨⟨hx, hb, hml, hown, hts⟩, hr, hlocks⟩ := id E
  intro n
  induction n with
  | zero => intro v1 v2 M hf; cases hf
  | succ n ih =>
    intro v1 v2 M hf H locs ls h hl
    refine lv_iload_n hx hb dX10_readsText_72 rfl (lv_at hl 2 rfl) ?_
    refine lv_if_eq (tgt := 155) hx hb dX10_readsText_73 (by decide) (fun c1 => ?_) (fun c1 => ?_)
    · replace hf := xif_t hf c1
      refine lv_aload_n hx hb dX10_readsText_155 rfl (lv_at hl 0 rfl) ?_
      refine lv_dup hx hb dX10_readsText_156 rfl ?_
      refine x_get (own := RX10) (ref := "TintDeskModel") (C := RX10) (T := TX10) (n := 20) (index := 102) (v := .int (M.1 0 13)) hx hb hts (fun w h => xU_sub w (inU10 w h)) hown h kR_model rfl 13 (by decide) (hts _ (xU_sub _ q520)) (fun _ h9 => h9) rfl dX10_readsText_157 ?_
      refine lv_aload_n hx hb dX10_readsText_160 rfl (lv_at hl 0 rfl) ?_
      refine x_get (own := RX10) (ref := "TintDeskModel") (C := RX10) (T := TX10) (n := 20) (index := 99) (v := .int (M.1 0 12)) hx hb hts (fun w h => xU_sub w (inU10 w h)) hown h kR_model rfl 12 (by decide) (hts _ (xU_sub _ q521)) (fun _ h9 => h9) rfl dX10_readsText_161 ?_
      refine lv_aload_n hx hb dX10_readsText_164 rfl (lv_at hl 0 rfl) ?_
      refine x_get (own := RX10) (ref := "TintDeskModel") (C := RX10) (T := TX10) (n := 20) (index := 96) (v := .int (M.1 0 10)) hx hb hts (fun w h => xU_sub w (inU10 w h)) hown h kR_model rfl 10 (by decide) (hts _ (xU_sub _ q453)) (fun _ h9 => h9) rfl dX10_readsText_165 ?_
      refine lv_icmp_ge (tgt := 175) hx hb dX10_readsText_168 (by decide) (fun c2 => ?_) (fun c2 => ?_)
      · replace hf := xif_t hf c2
        refine lv_iconst (v := 0) hx hb dX10_readsText_175 (by decide) ?_
        refine lv_ior hx hb dX10_readsText_176 ?_
        obtain ⟨c3, hf⟩ := xck_s hf
        obtain ⟨M4, eM4, hf⟩ := xl_s hf
        refine x_put (own := RX10) (ref := "TintDeskModel") (C := RX10) (T := TX10) (n := 20) (index := 102) (ty := .boolean) hx hb hts (fun w h => xU_sub w (inU10 w h)) tyX10 tyX10_ok nmX10 hown h kR_model rfl 13 (by decide) (hts _ (xU_sub _ q520)) (fun _ h9 => h9) rfl (by decide +kernel) (xz_n c3) (xz_f c3) (Nat.le_of_ble_eq_true rfl) rfl eM4 dX10_readsText_177 (fun H locs h => ?_)
        refine lv_iload_n hx hb dX10_readsText_180 rfl (lv_at hl 1 rfl) ?_
        exact x_iret hx hb h (Option.some.inj hf) hr hlocks dX10_readsText_181
      · replace hf := xif_f hf c2
        refine lv_iconst (v := 1) hx hb dX10_readsText_171 (by decide) ?_
        refine lv_goto (tgt := 176) hx hb dX10_readsText_172 (by decide) ?_
        refine lv_ior hx hb dX10_readsText_176 ?_
        obtain ⟨c5, hf⟩ := xck_s hf
        obtain ⟨M6, eM6, hf⟩ := xl_s hf
        refine x_put (own := RX10) (ref := "TintDeskModel") (C := RX10) (T := TX10) (n := 20) (index := 102) (ty := .boolean) hx hb hts (fun w h => xU_sub w (inU10 w h)) tyX10 tyX10_ok nmX10 hown h kR_model rfl 13 (by decide) (hts _ (xU_sub _ q520)) (fun _ h9 => h9) rfl (by decide +kernel) (xz_n c5) (xz_f c5) (Nat.le_of_ble_eq_true rfl) rfl eM6 dX10_readsText_177 (fun H locs h => ?_)
        refine lv_iload_n hx hb dX10_readsText_180 rfl (lv_at hl 1 rfl) ?_
        exact x_iret hx hb h (Option.some.inj hf) hr hlocks dX10_readsText_181
    · replace hf := xif_f hf c1
      refine lv_aload_n hx hb dX10_readsText_76 rfl (lv_at hl 0 rfl) ?_
      obtain ⟨r7, er7, hf⟩ := xbd_s hf
      refine x_Vi (As := []) (rest := []) E.1 (m_X10_readsDigit l er7) (cwV 0 hts (xgV xU_sub q534 q535 q536 q5 q537) rfl rfl rfl hdX10_readsDigit ⟨Nat.le_of_ble_eq_true rfl, Nat.le_of_ble_eq_true rfl⟩) h kR_model rfl rfl hl.1 rfl (Nat.le_of_ble_eq_true rfl) dX10_readsText_77 ⟨Nat.le_of_ble_eq_true rfl, Nat.le_of_ble_eq_true rfl⟩ (fun H locs h => ?_)
      obtain ⟨y8, ey8, hf⟩ := xl_s hf
      refine x_nm ey8 ?_
      refine lv_istore_n (lv' := [(3, .int y8), (0, .ref (Γ.2.1 0)), (1, .int v1), (2, .int v2)]) hx hb dX10_readsText_80 rfl hl (by decide) rfl (fun ls hl => ?_)
      refine lv_aload_n hx hb dX10_readsText_81 rfl (lv_at hl 1 rfl) ?_
      refine lv_bipush (v := 61) hx hb dX10_readsText_82 (by decide) ?_
      obtain ⟨r9, er9, hf⟩ := xbd_s hf
      refine x_Vv (As := [.int 61]) (rest := []) E.1 (m_X10_reads l er9) (cwV 1 hts (xgV xU_sub q526 q527 q528 q5 q529) rfl rfl rfl hdX10_reads ⟨Nat.le_of_ble_eq_true rfl, Nat.le_of_ble_eq_true rfl⟩) h kR_model rfl rfl hl.1 rfl (Nat.le_of_ble_eq_true rfl) dX10_readsText_84 ⟨Nat.le_of_ble_eq_true rfl, Nat.le_of_ble_eq_true rfl⟩ (fun H locs h => ?_)
      refine lv_aload_n hx hb dX10_readsText_87 rfl (lv_at hl 1 rfl) ?_
      refine x_get (own := RX10) (ref := "TintDeskModel") (C := RX10) (T := TX10) (n := 20) (index := 102) (v := .int (r9.1.1 0 13)) hx hb hts (fun w h => xU_sub w (inU10 w h)) hown h kR_model rfl 13 (by decide) (hts _ (xU_sub _ q520)) (fun _ h9 => h9) rfl dX10_readsText_88 ?_
      refine lv_if_eq (tgt := 98) hx hb dX10_readsText_91 (by decide) (fun c10 => ?_) (fun c10 => ?_)
      · replace hf := xif_t hf c10
        refine lv_aload_n hx hb dX10_readsText_98 rfl (lv_at hl 1 rfl) ?_
        obtain ⟨r11, er11, hf⟩ := xbd_s hf
        refine x_Vi (As := []) (rest := []) E.1 (m_X10_readsAmount l er11) (cwV 0 hts (xgV xU_sub q538 q539 q540 q5 q541) rfl rfl rfl hdX10_readsAmount ⟨Nat.le_of_ble_eq_true rfl, Nat.le_of_ble_eq_true rfl⟩) h kR_model rfl rfl hl.1 rfl (Nat.le_of_ble_eq_true rfl) dX10_readsText_99 ⟨Nat.le_of_ble_eq_true rfl, Nat.le_of_ble_eq_true rfl⟩ (fun H locs h => ?_)
        exact w_X10_readsText_102 l E (ih) v1 y8 (r11.2) r11.1 hf _ _ _ h (lv_sub hl [1, 2, 0] rfl)
      · replace hf := xif_f hf c10
        refine lv_iconst (v := 0) hx hb dX10_readsText_94 (by decide) ?_
        refine lv_goto (tgt := 102) hx hb dX10_readsText_95 (by decide) ?_
        exact w_X10_readsText_102 l E (ih) v1 y8 0 r9.1 hf _ _ _ h (lv_sub hl [1, 2, 0] rfl)
set_option maxHeartbeats 4000000 in
set_option maxRecDepth 100000 in
theorem w_X10_readsText_71 (l : Launch) {p : Program} {e : Env} {s : State} {m : MethodId} {args : Array Value} {below : List Frame} {meth : Method} {c : Code} {Γ : xG} {N : Nat} {res : xR} (E : xEv p s m args meth c RX10 cX10_readsText 5 (some .int) (xWs yX10_readsText cX10_readsText 5 (some .int))) : ∀ (v1 : Int32) (t0 : Int32) (M : xM), L_X10_readsText_71 N v1 t0 M = some res → ∀ (H : Heap) (locs : List Loc) (ls : Array Slot), xH Γ (wR Γ) 10 s M H locs → lv_has ls 5 [(0, .ref (Γ.2.1 0)), (1, .int v1)] → W p l e ({ frames := 4, cells := 0, slots := 0, locals := 105 } : Room) s m args below meth c H locs 0 0 (MQ below (xCi Γ (wR Γ) 10 res s.heap.size) args s 0 0 (xAd Γ 10 s.heap.size)) (F0 m 71 ls [.int t0]) := by
  obtain ⟨⟨hx, hb, hml, hown, hts⟩, hr, hlocks⟩ := id E
  intro v1 t0 M hf H locs ls h hl
  refine lv_istore_n (lv' := [(2, .int t0), (0, .ref (Γ.2.1 0)), (1, .int v1)]) hx hb dX10_readsText_71 rfl hl (by decide) rfl (fun ls hl => ?_)
  exact w_X10_readsText_72 l E N v1 t0 M hf _ _ _ h (lv_sub hl [1, 2, 0] rfl)
set_option maxHeartbeats 4000000 in
set_option maxRecDepth 100000 in
theorem w_X10_readsText_52 (l : Launch) {p : Program} {e : Env} {s : State} {m : MethodId} {args : Array Value} {below : List Frame} {meth : Method} {c : Code} {Γ : xG} {N : Nat} {res : xR} (E : xEv p s m args meth c RX10 cX10_readsText 5 (some .int) (xWs yX10_readsText cX10_readsText 5 (some .int))) : ∀ (t0 : Int32) (M : xM), L_X10_readsText_52 N t0 M = some res → ∀ (H : Heap) (locs : List Loc) (ls : Array Slot), xH Γ (wR Γ) 10 s M H locs → lv_has ls 5 [(0, .ref (Γ.2.1 0))] → W p l e ({ frames := 4, cells := 0, slots := 0, locals := 105 } : Room) s m args below meth c H locs 0 0 (MQ below (xCi Γ (wR Γ) 10 res s.heap.size) args s 0 0 (xAd Γ 10 s.heap.size)) (F0 m 52 ls [.int t0]) := by
  obtain ⟨⟨hx, hb, hml, hown, hts⟩, hr, hlocks⟩ := id E
  intro t0 M hf H locs ls h hl
  refine lv_istore_n (lv' := [(1, .int t0), (0, .ref (Γ.2.1 0))]) hx hb dX10_readsText_52 rfl hl (by decide) rfl (fun ls hl => ?_)
  refine lv_aload_n hx hb dX10_readsText_53 rfl (lv_at hl 1 rfl) ?_
  refine lv_bipush (v := 58) hx hb dX10_readsText_54 (by decide) ?_
  obtain ⟨r1, er1, hf⟩ := xbd_s hf
  refine x_Vv (As := [.int 58]) (rest := []) E.1 (m_X10_reads l er1) (cwV 1 hts (xgV xU_sub q526 q527 q528 q5 q529) rfl rfl rfl hdX10_reads ⟨Nat.le_of_ble_eq_true rfl, Nat.le_of_ble_eq_true rfl⟩) h kR_model rfl rfl hl.1 rfl (Nat.le_of_ble_eq_true rfl) dX10_readsText_56 ⟨Nat.le_of_ble_eq_true rfl, Nat.le_of_ble_eq_true rfl⟩ (fun H locs h => ?_)
  refine lv_aload_n hx hb dX10_readsText_59 rfl (lv_at hl 1 rfl) ?_
  refine x_get (own := RX10) (ref := "TintDeskModel") (C := RX10) (T := TX10) (n := 20) (index := 102) (v := .int (r1.1.1 0 13)) hx hb hts (fun w h => xU_sub w (inU10 w h)) hown h kR_model rfl 13 (by decide) (hts _ (xU_sub _ q520)) (fun _ h9 => h9) rfl dX10_readsText_60 ?_
  refine lv_if_ne (tgt := 70) hx hb dX10_readsText_63 (by decide) (fun c2 => ?_) (fun c2 => ?_)
  · replace hf := xif_f hf c2
    refine lv_iconst (v := 0) hx hb dX10_readsText_70 (by decide) ?_
    exact w_X10_readsText_71 l E t0 0 r1.1 hf _ _ _ h (lv_sub hl [1, 0] rfl)
  · replace hf := xif_t hf c2
    refine lv_iconst (v := 1) hx hb dX10_readsText_66 (by decide) ?_
    refine lv_goto (tgt := 71) hx hb dX10_readsText_67 (by decide) ?_
    exact w_X10_readsText_71 l E t0 1 r1.1 hf _ _ _ h (lv_sub hl [1, 0] rfl)
set_option maxHeartbeats 4000000 in
set_option maxRecDepth 100000 in
theorem w_X10_readsText_2 (l : Launch) {p : Program} {e : Env} {s : State} {m : MethodId} {args : Array Value} {below : List Frame} {meth : Method} {c : Code} {Γ : xG} {N : Nat} {res : xR} (E : xEv p s m args meth c RX10 cX10_readsText 5 (some .int) (xWs yX10_readsText cX10_readsText 5 (some .int))) : ∀ (n : Nat) (v1 : Int32) (M : xM), L_X10_readsText_2 N n v1 M = some res → ∀ (H : Heap) (locs : List Loc) (ls : Array Slot), xH Γ (wR Γ) 10 s M H locs → lv_has ls 5 [(0, .ref (Γ.2.1 0)), (1, .int v1)] → W p l e ({ frames := 4, cells := 0, slots := 0, locals := 105 } : Room) s m args below meth c H locs 0 0 (MQ below (xCi Γ (wR Γ) 10 res s.heap.size) args s 0 0 (xAd Γ 10 s.heap.size)) (F0 m 2 ls []) := by
  obtain ⟨⟨hx, hb, hml, hown, hts⟩, hr, hlocks⟩ := id E
  intro n
  induction n with
  | zero => intro v1 M hf; cases hf
  | succ n ih =>
    intro v1 M hf H locs ls h hl
    refine lv_iload_n hx hb dX10_readsText_2 rfl (lv_at hl 1 rfl) ?_
    refine lv_bipush (v := 10) hx hb dX10_readsText_3 (by decide) ?_
    refine lv_icmp_ge (tgt := 21) hx hb dX10_readsText_5 (by decide) (fun c1 => ?_) (fun c1 => ?_)
    · replace hf := xif_t hf c1
      refine lv_aload_n hx hb dX10_readsText_21 rfl (lv_at hl 0 rfl) ?_
      refine lv_iconst (v := 0) hx hb dX10_readsText_22 (by decide) ?_
      obtain ⟨M2, eM2, hf⟩ := xl_s hf
      refine x_put (own := RX10) (ref := "TintDeskModel") (C := RX10) (T := TX10) (n := 20) (index := 99) (ty := .int) hx hb hts (fun w h => xU_sub w (inU10 w h)) tyX10 tyX10_ok nmX10 hown h kR_model rfl 12 (by decide) (hts _ (xU_sub _ q521)) (fun _ h9 => h9) rfl (by decide +kernel) rfl rfl (Nat.le_of_ble_eq_true rfl) rfl eM2 dX10_readsText_23 (fun H locs h => ?_)
      refine lv_aload_n hx hb dX10_readsText_26 rfl (lv_at hl 0 rfl) ?_
      refine lv_iconst (v := 0) hx hb dX10_readsText_27 (by decide) ?_
      obtain ⟨M3, eM3, hf⟩ := xl_s hf
      refine x_put (own := RX10) (ref := "TintDeskModel") (C := RX10) (T := TX10) (n := 20) (index := 102) (ty := .boolean) hx hb hts (fun w h => xU_sub w (inU10 w h)) tyX10 tyX10_ok nmX10 hown h kR_model rfl 13 (by decide) (hts _ (xU_sub _ q520)) (fun _ h9 => h9) rfl (by decide +kernel) (by decide) (by decide) (Nat.le_of_ble_eq_true rfl) rfl eM3 dX10_readsText_28 (fun H locs h => ?_)
      refine lv_aload_n hx hb dX10_readsText_31 rfl (lv_at hl 0 rfl) ?_
      refine lv_bipush (v := 98) hx hb dX10_readsText_32 (by decide) ?_
      obtain ⟨r4, er4, hf⟩ := xbd_s hf
      refine x_Vv (As := [.int 98]) (rest := []) E.1 (m_X10_reads l er4) (cwV 1 hts (xgV xU_sub q526 q527 q528 q5 q529) rfl rfl rfl hdX10_reads ⟨Nat.le_of_ble_eq_true rfl, Nat.le_of_ble_eq_true rfl⟩) h kR_model rfl rfl hl.1 rfl (Nat.le_of_ble_eq_true rfl) dX10_readsText_34 ⟨Nat.le_of_ble_eq_true rfl, Nat.le_of_ble_eq_true rfl⟩ (fun H locs h => ?_)
      refine lv_aload_n hx hb dX10_readsText_37 rfl (lv_at hl 0 rfl) ?_
      refine x_get (own := RX10) (ref := "TintDeskModel") (C := RX10) (T := TX10) (n := 20) (index := 102) (v := .int (r4.1.1 0 13)) hx hb hts (fun w h => xU_sub w (inU10 w h)) hown h kR_model rfl 13 (by decide) (hts _ (xU_sub _ q520)) (fun _ h9 => h9) rfl dX10_readsText_38 ?_
      refine lv_if_eq (tgt := 48) hx hb dX10_readsText_41 (by decide) (fun c5 => ?_) (fun c5 => ?_)
      · replace hf := xif_t hf c5
        refine lv_aload_n hx hb dX10_readsText_48 rfl (lv_at hl 0 rfl) ?_
        obtain ⟨r6, er6, hf⟩ := xbd_s hf
        refine x_Vi (As := []) (rest := []) E.1 (m_X10_readsDigit l er6) (cwV 0 hts (xgV xU_sub q534 q535 q536 q5 q537) rfl rfl rfl hdX10_readsDigit ⟨Nat.le_of_ble_eq_true rfl, Nat.le_of_ble_eq_true rfl⟩) h kR_model rfl rfl hl.1 rfl (Nat.le_of_ble_eq_true rfl) dX10_readsText_49 ⟨Nat.le_of_ble_eq_true rfl, Nat.le_of_ble_eq_true rfl⟩ (fun H locs h => ?_)
        exact w_X10_readsText_52 l E (r6.2) r6.1 hf _ _ _ h (lv_sub hl [0] rfl)
      · replace hf := xif_f hf c5
        refine lv_iconst (v := 0) hx hb dX10_readsText_44 (by decide) ?_
        refine lv_goto (tgt := 52) hx hb dX10_readsText_45 (by decide) ?_
        exact w_X10_readsText_52 l E 0 r4.1 hf _ _ _ h (lv_sub hl [0] rfl)
    · replace hf := xif_f hf c1
      refine lv_aload_n hx hb dX10_readsText_8 rfl (lv_at hl 0 rfl) ?_
      refine x_get (own := RX10) (ref := "TintDeskModel") (C := RX10) (T := TX10) (n := 20) (index := 30) (v := .ref (Γ.2.1 6)) hx hb hts (fun w h => xU_sub w (inU10 w h)) hown h kR_model rfl 14 (by decide) (hts _ (xU_sub _ q138)) (fun _ h9 => h9) rfl dX10_readsText_9 ?_
      refine lv_iload_n hx hb dX10_readsText_12 rfl (lv_at hl 1 rfl) ?_
      refine lv_iconst (v := (-1)) hx hb dX10_readsText_13 (by decide) ?_
      obtain ⟨c7, hf⟩ := xck_s hf
      obtain ⟨M8, eM8, hf⟩ := xl_s hf
      refine x_iast hx hb h kR_told (xin_in c7) eM8 dX10_readsText_14 (fun H locs h => ?_)
      obtain ⟨y9, ey9, hf⟩ := xl_s hf
      refine lv_iinc (v := y9) (lv' := [(1, .int y9), (0, .ref (Γ.2.1 0))]) hx hb dX10_readsText_15 hl (k := 1) rfl (by rw [ey9]; rfl) (by decide) rfl (fun ls hl => ?_)
      refine lv_goto (tgt := 2) hx hb dX10_readsText_18 (by decide) ?_
      exact ih y9 M8 hf _ _ _ h (lv_sub hl [1, 0] rfl)
set_option maxHeartbeats 4000000 in
set_option maxRecDepth 100000 in
theorem m_X10_readsText (l : Launch) {Γ : xG} {N : Nat} {M : xM} {res : xR} (hf : F_X10_readsText N M = some res) (sz : Nat) : Met l yX10_readsText (xWs yX10_readsText cX10_readsText 5 (some .int)) ({ frames := 4, cells := 0, slots := 0, locals := 105 } : Room) (va_Pc [.ref (Γ.2.1 0)] (xPre Γ (wR Γ) M sz)) (xCi Γ (wR Γ) 10 res sz) 0 0 (xAd Γ 10 sz) := by
  refine x_met (Qc := fun sz => xCi Γ (wR Γ) 10 res sz) pnX10 wG_W (Nat.le_of_ble_eq_true rfl) (fun p e s m args below meth c _ E h ls hl => ?_) sz
  obtain ⟨⟨hx, hb, hml, hown, hts⟩, hr, hlocks⟩ := id E
  have hl : lv_has ls 5 [(0, .ref (Γ.2.1 0))] := hl
  refine lv_iconst (v := 0) hx hb dX10_readsText_0 (by decide) ?_
  refine lv_istore_n (lv' := [(1, .int 0), (0, .ref (Γ.2.1 0))]) hx hb dX10_readsText_1 rfl hl (by decide) rfl (fun ls hl => ?_)
  exact w_X10_readsText_2 l E N 0 M hf _ _ _ h (lv_sub hl [1, 0] rfl)
theorem hdX10_readFormula : yX10_readFormula.cls = RX10 ∧ yX10_readFormula.cls ≠ "java/lang/invoke/MethodHandle" ∧ yX10_readFormula.cls ≠ "java/lang/invoke/VarHandle" ∧ (parseMethodDescriptor yX10_readFormula.desc).map (fun d => d.parameters.length) = some 0 := by decide +kernel
set_option maxHeartbeats 4000000 in
set_option maxRecDepth 100000 in
theorem w_X10_readFormula_191 (l : Launch) {p : Program} {e : Env} {s : State} {m : MethodId} {args : Array Value} {below : List Frame} {meth : Method} {c : Code} {Γ : xG} {N : Nat} {res : xR} (E : xEv p s m args meth c RX10 cX10_readFormula 5 (some .int) (xWs yX10_readFormula cX10_readFormula 5 (some .int))) {K_152 : Int32 → Int32 → xM → Option xR} (hK_152 : ∀ (v3 : Int32) (v4 : Int32) (M : xM), K_152 v3 v4 M = some res → ∀ (H : Heap) (locs : List Loc) (ls : Array Slot), xH Γ (wR Γ) 10 s M H locs → lv_has ls 5 [(0, .ref (Γ.2.1 0)), (3, .int v3), (4, .int v4)] → W p l e ({ frames := 5, cells := 0, slots := 0, locals := 129 } : Room) s m args below meth c H locs 0 0 (MQ below (xCi Γ (wR Γ) 10 res s.heap.size) args s 0 0 (xAd Γ 10 s.heap.size)) (F0 m 152 ls [])) : ∀ (v3 : Int32) (v4 : Int32) (t0 : Int32) (t1 : Int32) (M : xM), L_X10_readFormula_191 N K_152 v3 v4 t0 t1 M = some res → ∀ (H : Heap) (locs : List Loc) (ls : Array Slot), xH Γ (wR Γ) 10 s M H locs → lv_has ls 5 [(0, .ref (Γ.2.1 0)), (3, .int v3), (4, .int v4)] → W p l e ({ frames := 5, cells := 0, slots := 0, locals := 129 } : Room) s m args below meth c H locs 0 0 (MQ below (xCi Γ (wR Γ) 10 res s.heap.size) args s 0 0 (xAd Γ 10 s.heap.size)) (F0 m 191 ls [.int t0, .int t1, .ref (Γ.2.1 1)]) := by
  obtain ⟨⟨hx, hb, hml, hown, hts⟩, hr, hlocks⟩ := id E
  intro v3 v4 t0 t1 M hf H locs ls h hl
  obtain ⟨c1, hf⟩ := xck_s hf
  obtain ⟨M2, eM2, hf⟩ := xl_s hf
  refine x_iast hx hb h kR_g (xin_in c1) eM2 dX10_readFormula_191 (fun H locs h => ?_)
  refine lv_aload_n hx hb dX10_readFormula_192 rfl (lv_at hl 0 rfl) ?_
  refine x_get (own := RX10) (ref := "TintDeskModel") (C := RX10) (T := TX10) (n := 20) (index := 9) (v := .ref (Γ.2.1 1)) hx hb hts (fun w h => xU_sub w (inU10 w h)) hown h kR_model rfl 1 (by decide) (hts _ (xU_sub _ q132)) (fun _ h9 => h9) rfl dX10_readFormula_193 ?_
  refine lv_iload_n hx hb dX10_readFormula_196 rfl (lv_at hl 1 rfl) ?_
  refine lv_bipush (v := 9) hx hb dX10_readFormula_197 (by decide) ?_
  refine lv_iadd hx hb dX10_readFormula_199 ?_
  refine lv_iload hx hb dX10_readFormula_200 (lv_at hl 2 rfl) ?_
  refine lv_iadd hx hb dX10_readFormula_202 ?_
  refine lv_iconst (v := 0) hx hb dX10_readFormula_203 (by decide) ?_
  obtain ⟨c3, hf⟩ := xck_s hf
  obtain ⟨M4, eM4, hf⟩ := xl_s hf
  refine x_iast hx hb h kR_g (xin_in c3) eM4 dX10_readFormula_204 (fun H locs h => ?_)
  obtain ⟨y5, ey5, hf⟩ := xl_s hf
  refine lv_iinc (v := y5) (lv' := [(4, .int y5), (0, .ref (Γ.2.1 0)), (3, .int v3)]) hx hb dX10_readFormula_205 hl (k := 2) rfl (by rw [ey5]; rfl) (by decide) rfl (fun ls hl => ?_)
  refine lv_goto (tgt := 152) hx hb dX10_readFormula_208 (by decide) ?_
  exact hK_152 v3 y5 M4 hf _ _ _ h (lv_sub hl [1, 2, 0] rfl)
set_option maxHeartbeats 4000000 in
set_option maxRecDepth 100000 in
theorem w_X10_readFormula_152 (l : Launch) {p : Program} {e : Env} {s : State} {m : MethodId} {args : Array Value} {below : List Frame} {meth : Method} {c : Code} {Γ : xG} {N : Nat} {res : xR} (E : xEv p s m args meth c RX10 cX10_readFormula 5 (some .int) (xWs yX10_readFormula cX10_readFormula 5 (some .int))) : ∀ (n : Nat) (v3 : Int32) (v4 : Int32) (M : xM), L_X10_readFormula_152 N n v3 v4 M = some res → ∀ (H : Heap) (locs : List Loc) (ls : Array Slot), xH Γ (wR Γ) 10 s M H locs → lv_has ls 5 [(0, .ref (Γ.2.1 0)), (3, .int v3), (4, .int v4)] → W p l e ({ frames := 5, cells := 0, slots := 0, locals := 129 } : Room) s m args below meth c H locs 0 0 (MQ below (xCi Γ (wR Γ) 10 res s.heap.size) args s 0 0 (xAd Γ 10 s.heap.size)) (F0 m 152 ls []) := by
  obtain ⟨⟨hx, hb, hml, hown, hts⟩, hr, hlocks⟩ := id E
  intro n
  induction n with
  | zero => intro v3 v4 M hf; cases hf
  | succ n ih =>
    intro v3 v4 M hf H locs ls h hl
    refine lv_iload hx hb dX10_readFormula_152 (lv_at hl 2 rfl) ?_
    refine lv_bipush (v := 8) hx hb dX10_readFormula_154 (by decide) ?_
    refine lv_icmp_ge (tgt := 211) hx hb dX10_readFormula_156 (by decide) (fun c1 => ?_) (fun c1 => ?_)
    · replace hf := xif_t hf c1
      refine lv_aload_n hx hb dX10_readFormula_211 rfl (lv_at hl 0 rfl) ?_
      refine x_get (own := RX10) (ref := "TintDeskModel") (C := RX10) (T := TX10) (n := 20) (index := 9) (v := .ref (Γ.2.1 1)) hx hb hts (fun w h => xU_sub w (inU10 w h)) hown h kR_model rfl 1 (by decide) (hts _ (xU_sub _ q132)) (fun _ h9 => h9) rfl dX10_readFormula_212 ?_
      refine lv_iconst (v := 2) hx hb dX10_readFormula_215 (by decide) ?_
      refine lv_dup2_11 hx hb dX10_readFormula_216 rfl rfl ?_
      refine x_iald hx hb h kR_g (xin_in (by decide)) dX10_readFormula_217 ?_
      refine lv_iconst (v := 1) hx hb dX10_readFormula_218 (by decide) ?_
      refine lv_iadd hx hb dX10_readFormula_219 ?_
      obtain ⟨M2, eM2, hf⟩ := xl_s hf
      refine x_iast hx hb h kR_g (xin_in (by decide)) eM2 dX10_readFormula_220 (fun H locs h => ?_)
      refine lv_aload_n hx hb dX10_readFormula_221 rfl (lv_at hl 0 rfl) ?_
      refine lv_aload_n hx hb dX10_readFormula_222 rfl (lv_at hl 0 rfl) ?_
      refine x_get (own := RX10) (ref := "TintDeskModel") (C := RX10) (T := TX10) (n := 20) (index := 9) (v := .ref (Γ.2.1 1)) hx hb hts (fun w h => xU_sub w (inU10 w h)) hown h kR_model rfl 1 (by decide) (hts _ (xU_sub _ q132)) (fun _ h9 => h9) rfl dX10_readFormula_223 ?_
      refine lv_iconst (v := 2) hx hb dX10_readFormula_226 (by decide) ?_
      refine x_iald hx hb h kR_g (xin_in (by decide)) dX10_readFormula_227 ?_
      refine lv_iconst (v := 1) hx hb dX10_readFormula_228 (by decide) ?_
      refine lv_isub hx hb dX10_readFormula_229 ?_
      obtain ⟨r3, er3, hf⟩ := xbd_s hf
      refine x_Vi (As := [.int ((M2.1 1 (2 : Int32).toNatClampNeg) - 1)]) (rest := []) E.1 (m_X10_done l er3) (cwV 1 hts (xgV xU_sub q221 q222 q223 q5 q224) rfl rfl rfl hdX10_done ⟨Nat.le_of_ble_eq_true rfl, Nat.le_of_ble_eq_true rfl⟩) h kR_model rfl rfl hl.1 rfl (Nat.le_of_ble_eq_true rfl) dX10_readFormula_230 ⟨Nat.le_of_ble_eq_true rfl, Nat.le_of_ble_eq_true rfl⟩ (fun H locs h => ?_)
      exact x_iret hx hb h (Option.some.inj hf) hr hlocks dX10_readFormula_233
    · replace hf := xif_f hf c1
      refine lv_aload_n hx hb dX10_readFormula_159 rfl (lv_at hl 0 rfl) ?_
      refine x_get (own := RX10) (ref := "TintDeskModel") (C := RX10) (T := TX10) (n := 20) (index := 9) (v := .ref (Γ.2.1 1)) hx hb hts (fun w h => xU_sub w (inU10 w h)) hown h kR_model rfl 1 (by decide) (hts _ (xU_sub _ q132)) (fun _ h9 => h9) rfl dX10_readFormula_160 ?_
      refine lv_iload_n hx hb dX10_readFormula_163 rfl (lv_at hl 1 rfl) ?_
      refine lv_iconst (v := 1) hx hb dX10_readFormula_164 (by decide) ?_
      refine lv_iadd hx hb dX10_readFormula_165 ?_
      refine lv_iload hx hb dX10_readFormula_166 (lv_at hl 2 rfl) ?_
      refine lv_iadd hx hb dX10_readFormula_168 ?_
      refine lv_aload_n hx hb dX10_readFormula_169 rfl (lv_at hl 0 rfl) ?_
      refine x_get (own := RX10) (ref := "TintDeskModel") (C := RX10) (T := TX10) (n := 20) (index := 30) (v := .ref (Γ.2.1 6)) hx hb hts (fun w h => xU_sub w (inU10 w h)) hown h kR_model rfl 14 (by decide) (hts _ (xU_sub _ q138)) (fun _ h9 => h9) rfl dX10_readFormula_170 ?_
      refine lv_iload hx hb dX10_readFormula_173 (lv_at hl 2 rfl) ?_
      obtain ⟨c4, hf⟩ := xck_s hf
      refine x_iald hx hb h kR_told (xin_in c4) dX10_readFormula_175 ?_
      refine lv_iconst (v := (-1)) hx hb dX10_readFormula_176 (by decide) ?_
      refine lv_icmp_ne (tgt := 184) hx hb dX10_readFormula_177 (by decide) (fun c5 => ?_) (fun c5 => ?_)
      · replace hf := xif_f hf c5
        refine lv_aload_n hx hb dX10_readFormula_184 rfl (lv_at hl 0 rfl) ?_
        refine x_get (own := RX10) (ref := "TintDeskModel") (C := RX10) (T := TX10) (n := 20) (index := 30) (v := .ref (Γ.2.1 6)) hx hb hts (fun w h => xU_sub w (inU10 w h)) hown h kR_model rfl 14 (by decide) (hts _ (xU_sub _ q138)) (fun _ h9 => h9) rfl dX10_readFormula_185 ?_
        refine lv_iload hx hb dX10_readFormula_188 (lv_at hl 2 rfl) ?_
        obtain ⟨c6, hf⟩ := xck_s hf
        refine x_iald hx hb h kR_told (xin_in c6) dX10_readFormula_190 ?_
        exact w_X10_readFormula_191 l E (ih) v3 v4 (M.1 6 v4.toNatClampNeg) ((v3 + 1) + v4) M hf _ _ _ h (lv_sub hl [0, 1, 2] rfl)
      · replace hf := xif_t hf c5
        refine lv_iconst (v := 0) hx hb dX10_readFormula_180 (by decide) ?_
        refine lv_goto (tgt := 191) hx hb dX10_readFormula_181 (by decide) ?_
        exact w_X10_readFormula_191 l E (ih) v3 v4 0 ((v3 + 1) + v4) M hf _ _ _ h (lv_sub hl [0, 1, 2] rfl)
set_option maxHeartbeats 4000000 in
set_option maxRecDepth 100000 in
theorem w_X10_readFormula_87 (l : Launch) {p : Program} {e : Env} {s : State} {m : MethodId} {args : Array Value} {below : List Frame} {meth : Method} {c : Code} {Γ : xG} {N : Nat} {res : xR} (E : xEv p s m args meth c RX10 cX10_readFormula 5 (some .int) (xWs yX10_readFormula cX10_readFormula 5 (some .int))) {K_65 : Int32 → Int32 → Int32 → xM → Option xR} (hK_65 : ∀ (v1 : Int32) (v2 : Int32) (v3 : Int32) (M : xM), K_65 v1 v2 v3 M = some res → ∀ (H : Heap) (locs : List Loc) (ls : Array Slot), xH Γ (wR Γ) 10 s M H locs → lv_has ls 5 [(0, .ref (Γ.2.1 0)), (1, .int v1), (2, .int v2), (3, .int v3)] → W p l e ({ frames := 5, cells := 0, slots := 0, locals := 129 } : Room) s m args below meth c H locs 0 0 (MQ below (xCi Γ (wR Γ) 10 res s.heap.size) args s 0 0 (xAd Γ 10 s.heap.size)) (F0 m 65 ls [])) : ∀ (v1 : Int32) (v3 : Int32) (t0 : Int32) (t1 : Int32) (M : xM), L_X10_readFormula_87 N K_65 v1 v3 t0 t1 M = some res → ∀ (H : Heap) (locs : List Loc) (ls : Array Slot), xH Γ (wR Γ) 10 s M H locs → lv_has ls 5 [(0, .ref (Γ.2.1 0)), (1, .int v1), (3, .int v3)] → W p l e ({ frames := 5, cells := 0, slots := 0, locals := 129 } : Room) s m args below meth c H locs 0 0 (MQ below (xCi Γ (wR Γ) 10 res s.heap.size) args s 0 0 (xAd Γ 10 s.heap.size)) (F0 m 87 ls [.int t0, .int t1]) := by
  obtain ⟨⟨hx, hb, hml, hown, hts⟩, hr, hlocks⟩ := id E
  intro v1 v3 t0 t1 M hf H locs ls h hl
  refine lv_iand hx hb dX10_readFormula_87 ?_
  obtain ⟨y1, ey1, hf⟩ := xl_s hf
  refine x_nm ey1 ?_
  refine lv_istore_n (lv' := [(2, .int y1), (0, .ref (Γ.2.1 0)), (1, .int v1), (3, .int v3)]) hx hb dX10_readFormula_88 rfl hl (by decide) rfl (fun ls hl => ?_)
  obtain ⟨y2, ey2, hf⟩ := xl_s hf
  refine lv_iinc (v := y2) (lv' := [(3, .int y2), (2, .int y1), (0, .ref (Γ.2.1 0)), (1, .int v1)]) hx hb dX10_readFormula_89 hl (k := 3) rfl (by rw [ey2]; rfl) (by decide) rfl (fun ls hl => ?_)
  refine lv_goto (tgt := 65) hx hb dX10_readFormula_92 (by decide) ?_
  exact hK_65 v1 y1 y2 M hf _ _ _ h (lv_sub hl [2, 3, 1, 0] rfl)
set_option maxHeartbeats 4000000 in
set_option maxRecDepth 100000 in
theorem w_X10_readFormula_65 (l : Launch) {p : Program} {e : Env} {s : State} {m : MethodId} {args : Array Value} {below : List Frame} {meth : Method} {c : Code} {Γ : xG} {N : Nat} {res : xR} (E : xEv p s m args meth c RX10 cX10_readFormula 5 (some .int) (xWs yX10_readFormula cX10_readFormula 5 (some .int))) : ∀ (n : Nat) (v1 : Int32) (v2 : Int32) (v3 : Int32) (M : xM), L_X10_readFormula_65 N n v1 v2 v3 M = some res → ∀ (H : Heap) (locs : List Loc) (ls : Array Slot), xH Γ (wR Γ) 10 s M H locs → lv_has ls 5 [(0, .ref (Γ.2.1 0)), (1, .int v1), (2, .int v2), (3, .int v3)] → W p l e ({ frames := 5, cells := 0, slots := 0, locals := 129 } : Room) s m args below meth c H locs 0 0 (MQ below (xCi Γ (wR Γ) 10 res s.heap.size) args s 0 0 (xAd Γ 10 s.heap.size)) (F0 m 65 ls []) := by
  obtain ⟨⟨hx, hb, hml, hown, hts⟩, hr, hlocks⟩ := id E
  intro n
  induction n with
  | zero => intro v1 v2 v3 M hf; cases hf
  | succ n ih =>
    intro v1 v2 v3 M hf H locs ls h hl
    refine lv_iload_n hx hb dX10_readFormula_65 rfl (lv_at hl 3 rfl) ?_
    refine lv_bipush (v := 10) hx hb dX10_readFormula_66 (by decide) ?_
    refine lv_icmp_ge (tgt := 95) hx hb dX10_readFormula_68 (by decide) (fun c1 => ?_) (fun c1 => ?_)
    · replace hf := xif_t hf c1
      refine lv_iload_n hx hb dX10_readFormula_95 rfl (lv_at hl 2 rfl) ?_
      refine lv_if_ne (tgt := 106) hx hb dX10_readFormula_96 (by decide) (fun c2 => ?_) (fun c2 => ?_)
      · replace hf := xif_f hf c2
        refine lv_aload_n hx hb dX10_readFormula_106 rfl (lv_at hl 0 rfl) ?_
        refine x_get (own := RX10) (ref := "TintDeskModel") (C := RX10) (T := TX10) (n := 20) (index := 9) (v := .ref (Γ.2.1 1)) hx hb hts (fun w h => xU_sub w (inU10 w h)) hown h kR_model rfl 1 (by decide) (hts _ (xU_sub _ q132)) (fun _ h9 => h9) rfl dX10_readFormula_107 ?_
        refine lv_iconst (v := 2) hx hb dX10_readFormula_110 (by decide) ?_
        refine x_iald hx hb h kR_g (xin_in (by decide)) dX10_readFormula_111 ?_
        refine lv_bipush (v := 10) hx hb dX10_readFormula_112 (by decide) ?_
        refine lv_icmp_ne (tgt := 124) hx hb dX10_readFormula_114 (by decide) (fun c3 => ?_) (fun c3 => ?_)
        · replace hf := xif_f hf c3
          refine lv_aload_n hx hb dX10_readFormula_124 rfl (lv_at hl 0 rfl) ?_
          obtain ⟨r4, er4, hf⟩ := xbd_s hf
          refine x_Vv (As := []) (rest := []) E.1 (m_X10_remembers l er4) (cwV 0 hts (xgV xU_sub q213 q214 q215 q5 q216) rfl rfl rfl hdX10_remembers ⟨Nat.le_of_ble_eq_true rfl, Nat.le_of_ble_eq_true rfl⟩) h kR_model rfl rfl hl.1 rfl (Nat.le_of_ble_eq_true rfl) dX10_readFormula_125 ⟨Nat.le_of_ble_eq_true rfl, Nat.le_of_ble_eq_true rfl⟩ (fun H locs h => ?_)
          refine lv_sipush (v := 409) hx hb dX10_readFormula_128 (by decide) ?_
          refine lv_bipush (v := 17) hx hb dX10_readFormula_131 (by decide) ?_
          refine lv_aload_n hx hb dX10_readFormula_133 rfl (lv_at hl 0 rfl) ?_
          refine x_get (own := RX10) (ref := "TintDeskModel") (C := RX10) (T := TX10) (n := 20) (index := 9) (v := .ref (Γ.2.1 1)) hx hb hts (fun w h => xU_sub w (inU10 w h)) hown h kR_model rfl 1 (by decide) (hts _ (xU_sub _ q132)) (fun _ h9 => h9) rfl dX10_readFormula_134 ?_
          refine lv_iconst (v := 2) hx hb dX10_readFormula_137 (by decide) ?_
          refine x_iald hx hb h kR_g (xin_in (by decide)) dX10_readFormula_138 ?_
          refine lv_imul hx hb dX10_readFormula_139 ?_
          refine lv_iadd hx hb dX10_readFormula_140 ?_
          obtain ⟨y5, ey5, hf⟩ := xl_s hf
          refine x_nm ey5 ?_
          refine lv_istore_n (lv' := [(3, .int y5), (0, .ref (Γ.2.1 0)), (1, .int v1), (2, .int v2)]) hx hb dX10_readFormula_141 rfl hl (by decide) rfl (fun ls hl => ?_)
          refine lv_aload_n hx hb dX10_readFormula_142 rfl (lv_at hl 1 rfl) ?_
          refine x_get (own := RX10) (ref := "TintDeskModel") (C := RX10) (T := TX10) (n := 20) (index := 9) (v := .ref (Γ.2.1 1)) hx hb hts (fun w h => xU_sub w (inU10 w h)) hown h kR_model rfl 1 (by decide) (hts _ (xU_sub _ q132)) (fun _ h9 => h9) rfl dX10_readFormula_143 ?_
          refine lv_iload_n hx hb dX10_readFormula_146 rfl (lv_at hl 0 rfl) ?_
          refine lv_iload_n hx hb dX10_readFormula_147 rfl (lv_at hl 2 rfl) ?_
          obtain ⟨c6, hf⟩ := xck_s hf
          obtain ⟨M7, eM7, hf⟩ := xl_s hf
          refine x_iast hx hb h kR_g (xin_in c6) eM7 dX10_readFormula_148 (fun H locs h => ?_)
          refine lv_iconst (v := 0) hx hb dX10_readFormula_149 (by decide) ?_
          refine lv_istore (lv' := [(4, .int 0), (3, .int y5), (0, .ref (Γ.2.1 0)), (1, .int v1), (2, .int v2)]) hx hb dX10_readFormula_150 hl (by decide) rfl (fun ls hl => ?_)
          exact w_X10_readFormula_152 l E N y5 0 M7 hf _ _ _ h (lv_sub hl [2, 1, 0] rfl)
        · replace hf := xif_t hf c3
          refine lv_aload_n hx hb dX10_readFormula_117 rfl (lv_at hl 0 rfl) ?_
          refine lv_iconst (v := 2) hx hb dX10_readFormula_118 (by decide) ?_
          refine lv_iconst (v := 2) hx hb dX10_readFormula_119 (by decide) ?_
          obtain ⟨r8, er8, hf⟩ := xbd_s hf
          refine x_Vi (As := [.int 2, .int 2]) (rest := []) E.1 (m_X10_refuses l er8) (cwV 2 hts (xgV xU_sub q288 q289 q290 q5 q291) rfl rfl rfl hdX10_refuses ⟨Nat.le_of_ble_eq_true rfl, Nat.le_of_ble_eq_true rfl⟩) h kR_model rfl rfl hl.1 rfl (Nat.le_of_ble_eq_true rfl) dX10_readFormula_120 ⟨Nat.le_of_ble_eq_true rfl, Nat.le_of_ble_eq_true rfl⟩ (fun H locs h => ?_)
          exact x_iret hx hb h (Option.some.inj hf) hr hlocks dX10_readFormula_123
      · replace hf := xif_t hf c2
        refine lv_aload_n hx hb dX10_readFormula_99 rfl (lv_at hl 0 rfl) ?_
        refine lv_iconst (v := 1) hx hb dX10_readFormula_100 (by decide) ?_
        refine lv_iconst (v := 2) hx hb dX10_readFormula_101 (by decide) ?_
        obtain ⟨r9, er9, hf⟩ := xbd_s hf
        refine x_Vi (As := [.int 1, .int 2]) (rest := []) E.1 (m_X10_refuses l er9) (cwV 2 hts (xgV xU_sub q288 q289 q290 q5 q291) rfl rfl rfl hdX10_refuses ⟨Nat.le_of_ble_eq_true rfl, Nat.le_of_ble_eq_true rfl⟩) h kR_model rfl rfl hl.1 rfl (Nat.le_of_ble_eq_true rfl) dX10_readFormula_102 ⟨Nat.le_of_ble_eq_true rfl, Nat.le_of_ble_eq_true rfl⟩ (fun H locs h => ?_)
        exact x_iret hx hb h (Option.some.inj hf) hr hlocks dX10_readFormula_105
    · replace hf := xif_f hf c1
      refine lv_iload_n hx hb dX10_readFormula_71 rfl (lv_at hl 2 rfl) ?_
      refine lv_aload_n hx hb dX10_readFormula_72 rfl (lv_at hl 0 rfl) ?_
      refine x_get (own := RX10) (ref := "TintDeskModel") (C := RX10) (T := TX10) (n := 20) (index := 30) (v := .ref (Γ.2.1 6)) hx hb hts (fun w h => xU_sub w (inU10 w h)) hown h kR_model rfl 14 (by decide) (hts _ (xU_sub _ q138)) (fun _ h9 => h9) rfl dX10_readFormula_73 ?_
      refine lv_iload_n hx hb dX10_readFormula_76 rfl (lv_at hl 3 rfl) ?_
      obtain ⟨c10, hf⟩ := xck_s hf
      refine x_iald hx hb h kR_told (xin_in c10) dX10_readFormula_77 ?_
      refine lv_iconst (v := (-1)) hx hb dX10_readFormula_78 (by decide) ?_
      refine lv_icmp_ne (tgt := 86) hx hb dX10_readFormula_79 (by decide) (fun c11 => ?_) (fun c11 => ?_)
      · replace hf := xif_f hf c11
        refine lv_iconst (v := 0) hx hb dX10_readFormula_86 (by decide) ?_
        exact w_X10_readFormula_87 l E (ih) v1 v3 0 v2 M hf _ _ _ h (lv_sub hl [0, 1, 3] rfl)
      · replace hf := xif_t hf c11
        refine lv_iconst (v := 1) hx hb dX10_readFormula_82 (by decide) ?_
        refine lv_goto (tgt := 87) hx hb dX10_readFormula_83 (by decide) ?_
        exact w_X10_readFormula_87 l E (ih) v1 v3 1 v2 M hf _ _ _ h (lv_sub hl [0, 1, 3] rfl)
set_option maxHeartbeats 4000000 in
set_option maxRecDepth 100000 in
theorem w_X10_readFormula_57 (l : Launch) {p : Program} {e : Env} {s : State} {m : MethodId} {args : Array Value} {below : List Frame} {meth : Method} {c : Code} {Γ : xG} {N : Nat} {res : xR} (E : xEv p s m args meth c RX10 cX10_readFormula 5 (some .int) (xWs yX10_readFormula cX10_readFormula 5 (some .int))) : ∀ (v1 : Int32) (t0 : Int32) (M : xM), L_X10_readFormula_57 N v1 t0 M = some res → ∀ (H : Heap) (locs : List Loc) (ls : Array Slot), xH Γ (wR Γ) 10 s M H locs → lv_has ls 5 [(0, .ref (Γ.2.1 0)), (1, .int v1)] → W p l e ({ frames := 5, cells := 0, slots := 0, locals := 129 } : Room) s m args below meth c H locs 0 0 (MQ below (xCi Γ (wR Γ) 10 res s.heap.size) args s 0 0 (xAd Γ 10 s.heap.size)) (F0 m 57 ls [.int t0]) := by
  obtain ⟨⟨hx, hb, hml, hown, hts⟩, hr, hlocks⟩ := id E
  intro v1 t0 M hf H locs ls h hl
  refine lv_istore_n (lv' := [(2, .int t0), (0, .ref (Γ.2.1 0)), (1, .int v1)]) hx hb dX10_readFormula_57 rfl hl (by decide) rfl (fun ls hl => ?_)
  refine lv_aload_n hx hb dX10_readFormula_58 rfl (lv_at hl 1 rfl) ?_
  refine x_get (own := RX10) (ref := "TintDeskModel") (C := RX10) (T := TX10) (n := 20) (index := 9) (v := .ref (Γ.2.1 1)) hx hb hts (fun w h => xU_sub w (inU10 w h)) hown h kR_model rfl 1 (by decide) (hts _ (xU_sub _ q132)) (fun _ h9 => h9) rfl dX10_readFormula_59 ?_
  refine lv_iconst (v := 0) hx hb dX10_readFormula_62 (by decide) ?_
  refine x_iald hx hb h kR_g (xin_in (by decide)) dX10_readFormula_63 ?_
  obtain ⟨y1, ey1, hf⟩ := xl_s hf
  refine x_nm ey1 ?_
  refine lv_istore_n (lv' := [(3, .int y1), (2, .int t0), (0, .ref (Γ.2.1 0)), (1, .int v1)]) hx hb dX10_readFormula_64 rfl hl (by decide) rfl (fun ls hl => ?_)
  exact w_X10_readFormula_65 l E N v1 t0 y1 M hf _ _ _ h (lv_sub hl [2, 3, 1, 0] rfl)
set_option maxHeartbeats 4000000 in
set_option maxRecDepth 100000 in
theorem w_X10_readFormula_26 (l : Launch) {p : Program} {e : Env} {s : State} {m : MethodId} {args : Array Value} {below : List Frame} {meth : Method} {c : Code} {Γ : xG} {N : Nat} {res : xR} (E : xEv p s m args meth c RX10 cX10_readFormula 5 (some .int) (xWs yX10_readFormula cX10_readFormula 5 (some .int))) : ∀ (v1 : Int32) (t0 : Int32) (M : xM), L_X10_readFormula_26 N v1 t0 M = some res → ∀ (H : Heap) (locs : List Loc) (ls : Array Slot), xH Γ (wR Γ) 10 s M H locs → lv_has ls 5 [(0, .ref (Γ.2.1 0)), (1, .int v1)] → W p l e ({ frames := 5, cells := 0, slots := 0, locals := 129 } : Room) s m args below meth c H locs 0 0 (MQ below (xCi Γ (wR Γ) 10 res s.heap.size) args s 0 0 (xAd Γ 10 s.heap.size)) (F0 m 26 ls [.int t0, .ref (Γ.2.1 0)]) := by
  obtain ⟨⟨hx, hb, hml, hown, hts⟩, hr, hlocks⟩ := id E
  intro v1 t0 M hf H locs ls h hl
  obtain ⟨M1, eM1, hf⟩ := xl_s hf
  refine x_put (own := RX10) (ref := "TintDeskModel") (C := RX10) (T := TX10) (n := 20) (index := 26) (ty := .int) hx hb hts (fun w h => xU_sub w (inU10 w h)) tyX10 tyX10_ok nmX10 hown h kR_model rfl 11 (by decide) (hts _ (xU_sub _ q137)) (fun _ h9 => h9) rfl (by decide +kernel) rfl rfl (Nat.le_of_ble_eq_true rfl) rfl eM1 dX10_readFormula_26 (fun H locs h => ?_)
  refine lv_aload_n hx hb dX10_readFormula_29 rfl (lv_at hl 0 rfl) ?_
  refine x_get (own := RX10) (ref := "TintDeskModel") (C := RX10) (T := TX10) (n := 20) (index := 102) (v := .int (M1.1 0 13)) hx hb hts (fun w h => xU_sub w (inU10 w h)) hown h kR_model rfl 13 (by decide) (hts _ (xU_sub _ q520)) (fun _ h9 => h9) rfl dX10_readFormula_30 ?_
  refine lv_if_eq (tgt := 42) hx hb dX10_readFormula_33 (by decide) (fun c2 => ?_) (fun c2 => ?_)
  · replace hf := xif_t hf c2
    refine lv_iload_n hx hb dX10_readFormula_42 rfl (lv_at hl 1 rfl) ?_
    refine lv_aload_n hx hb dX10_readFormula_43 rfl (lv_at hl 0 rfl) ?_
    refine x_get (own := RX10) (ref := "TintDeskModel") (C := RX10) (T := TX10) (n := 20) (index := 9) (v := .ref (Γ.2.1 1)) hx hb hts (fun w h => xU_sub w (inU10 w h)) hown h kR_model rfl 1 (by decide) (hts _ (xU_sub _ q132)) (fun _ h9 => h9) rfl dX10_readFormula_44 ?_
    refine lv_iconst (v := 1) hx hb dX10_readFormula_47 (by decide) ?_
    refine x_iald hx hb h kR_g (xin_in (by decide)) dX10_readFormula_48 ?_
    refine lv_icmp_ge (tgt := 56) hx hb dX10_readFormula_49 (by decide) (fun c3 => ?_) (fun c3 => ?_)
    · replace hf := xif_t hf c3
      refine lv_iconst (v := 0) hx hb dX10_readFormula_56 (by decide) ?_
      exact w_X10_readFormula_57 l E v1 0 M1 hf _ _ _ h (lv_sub hl [0, 1] rfl)
    · replace hf := xif_f hf c3
      refine lv_iconst (v := 1) hx hb dX10_readFormula_52 (by decide) ?_
      refine lv_goto (tgt := 57) hx hb dX10_readFormula_53 (by decide) ?_
      exact w_X10_readFormula_57 l E v1 1 M1 hf _ _ _ h (lv_sub hl [0, 1] rfl)
  · replace hf := xif_f hf c2
    refine lv_aload_n hx hb dX10_readFormula_36 rfl (lv_at hl 0 rfl) ?_
    refine lv_iconst (v := 1) hx hb dX10_readFormula_37 (by decide) ?_
    obtain ⟨r4, er4, hf⟩ := xbd_s hf
    refine x_Vi (As := [.int 1]) (rest := []) E.1 (m_X10_fails l er4) (cwV 1 hts (xgV xU_sub q208 q209 q210 q5 q211) rfl rfl rfl hdX10_fails ⟨Nat.le_of_ble_eq_true rfl, Nat.le_of_ble_eq_true rfl⟩) h kR_model rfl rfl hl.1 rfl (Nat.le_of_ble_eq_true rfl) dX10_readFormula_38 ⟨Nat.le_of_ble_eq_true rfl, Nat.le_of_ble_eq_true rfl⟩ (fun H locs h => ?_)
    exact x_iret hx hb h (Option.some.inj hf) hr hlocks dX10_readFormula_41
set_option maxHeartbeats 4000000 in
set_option maxRecDepth 100000 in
theorem m_X10_readFormula (l : Launch) {Γ : xG} {N : Nat} {M : xM} {res : xR} (hf : F_X10_readFormula N M = some res) (sz : Nat) : Met l yX10_readFormula (xWs yX10_readFormula cX10_readFormula 5 (some .int)) ({ frames := 5, cells := 0, slots := 0, locals := 129 } : Room) (va_Pc [.ref (Γ.2.1 0)] (xPre Γ (wR Γ) M sz)) (xCi Γ (wR Γ) 10 res sz) 0 0 (xAd Γ 10 sz) := by
  refine x_met (Qc := fun sz => xCi Γ (wR Γ) 10 res sz) pnX10 wG_W (Nat.le_of_ble_eq_true rfl) (fun p e s m args below meth c _ E h ls hl => ?_) sz
  obtain ⟨⟨hx, hb, hml, hown, hts⟩, hr, hlocks⟩ := id E
  have hl : lv_has ls 5 [(0, .ref (Γ.2.1 0))] := hl
  refine lv_aload_n hx hb dX10_readFormula_0 rfl (lv_at hl 0 rfl) ?_
  obtain ⟨r1, er1, hf⟩ := xbd_s hf
  refine x_Vi (As := []) (rest := []) E.1 (m_X10_readsText l er1) (cwV 0 hts (xgV xU_sub q522 q523 q524 q5 q525) rfl rfl rfl hdX10_readsText ⟨Nat.le_of_ble_eq_true rfl, Nat.le_of_ble_eq_true rfl⟩) h kR_model rfl rfl hl.1 rfl (Nat.le_of_ble_eq_true rfl) dX10_readFormula_1 ⟨Nat.le_of_ble_eq_true rfl, Nat.le_of_ble_eq_true rfl⟩ (fun H locs h => ?_)
  obtain ⟨y2, ey2, hf⟩ := xl_s hf
  refine x_nm ey2 ?_
  refine lv_istore_n (lv' := [(1, .int y2), (0, .ref (Γ.2.1 0))]) hx hb dX10_readFormula_4 rfl hl (by decide) rfl (fun ls hl => ?_)
  refine lv_aload_n hx hb dX10_readFormula_5 rfl (lv_at hl 1 rfl) ?_
  refine lv_iconst (v := 0) hx hb dX10_readFormula_6 (by decide) ?_
  obtain ⟨M3, eM3, hf⟩ := xl_s hf
  refine x_put (own := RX10) (ref := "TintDeskModel") (C := RX10) (T := TX10) (n := 20) (index := 96) (ty := .int) hx hb hts (fun w h => xU_sub w (inU10 w h)) tyX10 tyX10_ok nmX10 hown h kR_model rfl 10 (by decide) (hts _ (xU_sub _ q453)) (fun _ h9 => h9) rfl (by decide +kernel) rfl rfl (Nat.le_of_ble_eq_true rfl) rfl eM3 dX10_readFormula_7 (fun H locs h => ?_)
  refine lv_aload_n hx hb dX10_readFormula_10 rfl (lv_at hl 1 rfl) ?_
  refine lv_aload_n hx hb dX10_readFormula_11 rfl (lv_at hl 1 rfl) ?_
  refine x_get (own := RX10) (ref := "TintDeskModel") (C := RX10) (T := TX10) (n := 20) (index := 102) (v := .int (M3.1 0 13)) hx hb hts (fun w h => xU_sub w (inU10 w h)) hown h kR_model rfl 13 (by decide) (hts _ (xU_sub _ q520)) (fun _ h9 => h9) rfl dX10_readFormula_12 ?_
  refine lv_if_eq (tgt := 25) hx hb dX10_readFormula_15 (by decide) (fun c4 => ?_) (fun c4 => ?_)
  · replace hf := xif_t hf c4
    refine lv_iconst (v := (-1)) hx hb dX10_readFormula_25 (by decide) ?_
    exact w_X10_readFormula_26 l E y2 (-1) M3 hf _ _ _ h (lv_sub hl [1, 0] rfl)
  · replace hf := xif_f hf c4
    refine lv_aload_n hx hb dX10_readFormula_18 rfl (lv_at hl 1 rfl) ?_
    refine x_get (own := RX10) (ref := "TintDeskModel") (C := RX10) (T := TX10) (n := 20) (index := 99) (v := .int (M3.1 0 12)) hx hb hts (fun w h => xU_sub w (inU10 w h)) hown h kR_model rfl 12 (by decide) (hts _ (xU_sub _ q521)) (fun _ h9 => h9) rfl dX10_readFormula_19 ?_
    refine lv_goto (tgt := 26) hx hb dX10_readFormula_22 (by decide) ?_
    exact w_X10_readFormula_26 l E y2 (M3.1 0 12) M3 hf _ _ _ h (lv_sub hl [1, 0] rfl)
theorem hdX10_faultPosition : yX10_faultPosition.cls = RX10 ∧ yX10_faultPosition.cls ≠ "java/lang/invoke/MethodHandle" ∧ yX10_faultPosition.cls ≠ "java/lang/invoke/VarHandle" ∧ (parseMethodDescriptor yX10_faultPosition.desc).map (fun d => d.parameters.length) = some 0 := by decide +kernel
set_option maxHeartbeats 4000000 in
set_option maxRecDepth 100000 in
theorem m_X10_faultPosition (l : Launch) {Γ : xG} {N : Nat} {M : xM} {res : xR} (hf : F_X10_faultPosition N M = some res) (sz : Nat) : Met l yX10_faultPosition (xWs yX10_faultPosition cX10_faultPosition 1 (some .int)) ({ frames := 2, cells := 0, slots := 0, locals := 61 } : Room) (va_Pc [.ref (Γ.2.1 0)] (xPre Γ (wR Γ) M sz)) (xCi Γ (wR Γ) 10 res sz) 0 0 (xAd Γ 10 sz) := by
  refine x_met (Qc := fun sz => xCi Γ (wR Γ) 10 res sz) pnX10 wG_W (Nat.le_of_ble_eq_true rfl) (fun p e s m args below meth c _ E h ls hl => ?_) sz
  obtain ⟨⟨hx, hb, hml, hown, hts⟩, hr, hlocks⟩ := id E
  have hl : lv_has ls 1 [(0, .ref (Γ.2.1 0))] := hl
  refine lv_aload_n hx hb dX10_faultPosition_0 rfl (lv_at hl 0 rfl) ?_
  refine lv_aload_n hx hb dX10_faultPosition_1 rfl (lv_at hl 0 rfl) ?_
  refine x_get (own := RX10) (ref := "TintDeskModel") (C := RX10) (T := TX10) (n := 20) (index := 26) (v := .int (M.1 0 11)) hx hb hts (fun w h => xU_sub w (inU10 w h)) hown h kR_model rfl 11 (by decide) (hts _ (xU_sub _ q137)) (fun _ h9 => h9) rfl dX10_faultPosition_2 ?_
  obtain ⟨r1, er1, hf⟩ := xbd_s hf
  refine x_Vi (As := [.int (M.1 0 11)]) (rest := []) E.1 (m_X10_done l er1) (cwV 1 hts (xgV xU_sub q221 q222 q223 q5 q224) rfl rfl rfl hdX10_done ⟨Nat.le_of_ble_eq_true rfl, Nat.le_of_ble_eq_true rfl⟩) h kR_model rfl rfl hl.1 rfl (Nat.le_of_ble_eq_true rfl) dX10_faultPosition_5 ⟨Nat.le_of_ble_eq_true rfl, Nat.le_of_ble_eq_true rfl⟩ (fun H locs h => ?_)
  exact x_iret hx hb h (Option.some.inj hf) hr hlocks dX10_faultPosition_8
theorem hdX10_setAmount : yX10_setAmount.cls = RX10 ∧ yX10_setAmount.cls ≠ "java/lang/invoke/MethodHandle" ∧ yX10_setAmount.cls ≠ "java/lang/invoke/VarHandle" ∧ (parseMethodDescriptor yX10_setAmount.desc).map (fun d => d.parameters.length) = some 3 := by decide +kernel
set_option maxHeartbeats 4000000 in
set_option maxRecDepth 100000 in
theorem m_X10_setAmount (l : Launch) {Γ : xG} {N : Nat} {v1 : Int32} {v2 : Int32} {v3 : Int32} {M : xM} {res : xR} (hf : F_X10_setAmount N v1 v2 v3 M = some res) (sz : Nat) : Met l yX10_setAmount (xWs yX10_setAmount cX10_setAmount 6 (some .int)) ({ frames := 3, cells := 0, slots := 0, locals := 85 } : Room) (va_Pc [.ref (Γ.2.1 0), .int v1, .int v2, .int v3] (xPre Γ (wR Γ) M sz)) (xCi Γ (wR Γ) 10 res sz) 0 0 (xAd Γ 10 sz) := by
  refine x_met (Qc := fun sz => xCi Γ (wR Γ) 10 res sz) pnX10 wG_W (Nat.le_of_ble_eq_true rfl) (fun p e s m args below meth c _ E h ls hl => ?_) sz
  obtain ⟨⟨hx, hb, hml, hown, hts⟩, hr, hlocks⟩ := id E
  have hl : lv_has ls 6 [(0, .ref (Γ.2.1 0)), (1, .int v1), (2, .int v2), (3, .int v3)] := hl
  refine lv_aload_n hx hb dX10_setAmount_0 rfl (lv_at hl 0 rfl) ?_
  refine lv_iload_n hx hb dX10_setAmount_1 rfl (lv_at hl 1 rfl) ?_
  obtain ⟨r1, er1, hf⟩ := xbd_s hf
  refine x_Vi (As := [.int v1]) (rest := []) E.1 (m_X10_isFormula l er1) (cwV 1 hts (xgV xU_sub q569 q570 q571 q5 q572) rfl rfl rfl hdX10_isFormula ⟨Nat.le_of_ble_eq_true rfl, Nat.le_of_ble_eq_true rfl⟩) h kR_model rfl rfl hl.1 rfl (Nat.le_of_ble_eq_true rfl) dX10_setAmount_2 ⟨Nat.le_of_ble_eq_true rfl, Nat.le_of_ble_eq_true rfl⟩ (fun H locs h => ?_)
  refine lv_if_eq (tgt := 16) hx hb dX10_setAmount_5 (by decide) (fun c2 => ?_) (fun c2 => ?_)
  · replace hf := xif_t hf c2
    refine lv_aload_n hx hb dX10_setAmount_16 rfl (lv_at hl 0 rfl) ?_
    refine lv_iconst (v := 1) hx hb dX10_setAmount_17 (by decide) ?_
    obtain ⟨r3, er3, hf⟩ := xbd_s hf
    refine x_Vi (As := [.int 1]) (rest := []) E.1 (m_X10_fails l er3) (cwV 1 hts (xgV xU_sub q208 q209 q210 q5 q211) rfl rfl rfl hdX10_fails ⟨Nat.le_of_ble_eq_true rfl, Nat.le_of_ble_eq_true rfl⟩) h kR_model rfl rfl hl.1 rfl (Nat.le_of_ble_eq_true rfl) dX10_setAmount_18 ⟨Nat.le_of_ble_eq_true rfl, Nat.le_of_ble_eq_true rfl⟩ (fun H locs h => ?_)
    exact x_iret hx hb h (Option.some.inj hf) hr hlocks dX10_setAmount_21
  · replace hf := xif_f hf c2
    refine lv_aload_n hx hb dX10_setAmount_8 rfl (lv_at hl 0 rfl) ?_
    refine lv_iload_n hx hb dX10_setAmount_9 rfl (lv_at hl 2 rfl) ?_
    obtain ⟨r4, er4, hf⟩ := xbd_s hf
    refine x_Vi (As := [.int v2]) (rest := []) E.1 (m_X10_isColorant l er4) (cwV 1 hts (xgV xU_sub q249 q250 q251 q5 q252) rfl rfl rfl hdX10_isColorant ⟨Nat.le_of_ble_eq_true rfl, Nat.le_of_ble_eq_true rfl⟩) h kR_model rfl rfl hl.1 rfl (Nat.le_of_ble_eq_true rfl) dX10_setAmount_10 ⟨Nat.le_of_ble_eq_true rfl, Nat.le_of_ble_eq_true rfl⟩ (fun H locs h => ?_)
    refine lv_if_ne (tgt := 22) hx hb dX10_setAmount_13 (by decide) (fun c5 => ?_) (fun c5 => ?_)
    · replace hf := xif_f hf c5
      refine lv_iload_n hx hb dX10_setAmount_22 rfl (lv_at hl 3 rfl) ?_
      refine lv_iconst (v := 0) hx hb dX10_setAmount_23 (by decide) ?_
      refine lv_sipush (v := 9999) hx hb dX10_setAmount_24 (by decide) ?_
      obtain ⟨r6, er6, hf⟩ := xbd_s hf
      refine x_Si (As := [.int v3, .int 0, .int 9999]) (rest := []) E.1 (m_X10_in l er6) (cwS 3 hts (xgS xU_sub q205 q206 q5 q207) rfl rfl rfl hdX10_in ⟨Nat.le_of_ble_eq_true rfl, Nat.le_of_ble_eq_true rfl⟩) h rfl hl.1 rfl (Nat.le_of_ble_eq_true rfl) dX10_setAmount_27 ⟨Nat.le_of_ble_eq_true rfl, Nat.le_of_ble_eq_true rfl⟩ (fun H locs h => ?_)
      refine lv_if_ne (tgt := 39) hx hb dX10_setAmount_30 (by decide) (fun c7 => ?_) (fun c7 => ?_)
      · replace hf := xif_f hf c7
        refine lv_aload_n hx hb dX10_setAmount_39 rfl (lv_at hl 0 rfl) ?_
        obtain ⟨r8, er8, hf⟩ := xbd_s hf
        refine x_Vv (As := []) (rest := []) E.1 (m_X10_remembers l er8) (cwV 0 hts (xgV xU_sub q213 q214 q215 q5 q216) rfl rfl rfl hdX10_remembers ⟨Nat.le_of_ble_eq_true rfl, Nat.le_of_ble_eq_true rfl⟩) h kR_model rfl rfl hl.1 rfl (Nat.le_of_ble_eq_true rfl) dX10_setAmount_40 ⟨Nat.le_of_ble_eq_true rfl, Nat.le_of_ble_eq_true rfl⟩ (fun H locs h => ?_)
        refine lv_sipush (v := 409) hx hb dX10_setAmount_43 (by decide) ?_
        refine lv_bipush (v := 17) hx hb dX10_setAmount_46 (by decide) ?_
        refine lv_iload_n hx hb dX10_setAmount_48 rfl (lv_at hl 1 rfl) ?_
        refine lv_imul hx hb dX10_setAmount_49 ?_
        refine lv_iadd hx hb dX10_setAmount_50 ?_
        obtain ⟨y9, ey9, hf⟩ := xl_s hf
        refine x_nm ey9 ?_
        refine lv_istore (lv' := [(4, .int y9), (0, .ref (Γ.2.1 0)), (1, .int v1), (2, .int v2), (3, .int v3)]) hx hb dX10_setAmount_51 hl (by decide) rfl (fun ls hl => ?_)
        refine lv_aload_n hx hb dX10_setAmount_53 rfl (lv_at hl 1 rfl) ?_
        refine x_get (own := RX10) (ref := "TintDeskModel") (C := RX10) (T := TX10) (n := 20) (index := 9) (v := .ref (Γ.2.1 1)) hx hb hts (fun w h => xU_sub w (inU10 w h)) hown h kR_model rfl 1 (by decide) (hts _ (xU_sub _ q132)) (fun _ h9 => h9) rfl dX10_setAmount_54 ?_
        refine lv_iload hx hb dX10_setAmount_57 (lv_at hl 0 rfl) ?_
        refine lv_iconst (v := 1) hx hb dX10_setAmount_59 (by decide) ?_
        refine lv_iadd hx hb dX10_setAmount_60 ?_
        refine lv_iload_n hx hb dX10_setAmount_61 rfl (lv_at hl 3 rfl) ?_
        refine lv_iadd hx hb dX10_setAmount_62 ?_
        obtain ⟨c10, hf⟩ := xck_s hf
        refine x_iald hx hb h kR_g (xin_in c10) dX10_setAmount_63 ?_
        obtain ⟨y11, ey11, hf⟩ := xl_s hf
        refine x_nm ey11 ?_
        refine lv_istore (lv' := [(5, .int y11), (4, .int y9), (0, .ref (Γ.2.1 0)), (1, .int v1), (2, .int v2), (3, .int v3)]) hx hb dX10_setAmount_64 hl (by decide) rfl (fun ls hl => ?_)
        refine lv_aload_n hx hb dX10_setAmount_66 rfl (lv_at hl 2 rfl) ?_
        refine x_get (own := RX10) (ref := "TintDeskModel") (C := RX10) (T := TX10) (n := 20) (index := 9) (v := .ref (Γ.2.1 1)) hx hb hts (fun w h => xU_sub w (inU10 w h)) hown h kR_model rfl 1 (by decide) (hts _ (xU_sub _ q132)) (fun _ h9 => h9) rfl dX10_setAmount_67 ?_
        refine lv_iload hx hb dX10_setAmount_70 (lv_at hl 1 rfl) ?_
        refine lv_iconst (v := 1) hx hb dX10_setAmount_72 (by decide) ?_
        refine lv_iadd hx hb dX10_setAmount_73 ?_
        refine lv_iload_n hx hb dX10_setAmount_74 rfl (lv_at hl 4 rfl) ?_
        refine lv_iadd hx hb dX10_setAmount_75 ?_
        refine lv_iload_n hx hb dX10_setAmount_76 rfl (lv_at hl 5 rfl) ?_
        obtain ⟨c12, hf⟩ := xck_s hf
        obtain ⟨M13, eM13, hf⟩ := xl_s hf
        refine x_iast hx hb h kR_g (xin_in c12) eM13 dX10_setAmount_77 (fun H locs h => ?_)
        refine lv_aload_n hx hb dX10_setAmount_78 rfl (lv_at hl 2 rfl) ?_
        refine x_get (own := RX10) (ref := "TintDeskModel") (C := RX10) (T := TX10) (n := 20) (index := 9) (v := .ref (Γ.2.1 1)) hx hb hts (fun w h => xU_sub w (inU10 w h)) hown h kR_model rfl 1 (by decide) (hts _ (xU_sub _ q132)) (fun _ h9 => h9) rfl dX10_setAmount_79 ?_
        refine lv_iload hx hb dX10_setAmount_82 (lv_at hl 1 rfl) ?_
        refine lv_bipush (v := 9) hx hb dX10_setAmount_84 (by decide) ?_
        refine lv_iadd hx hb dX10_setAmount_86 ?_
        refine lv_iload_n hx hb dX10_setAmount_87 rfl (lv_at hl 4 rfl) ?_
        refine lv_iadd hx hb dX10_setAmount_88 ?_
        refine lv_iconst (v := 0) hx hb dX10_setAmount_89 (by decide) ?_
        obtain ⟨c14, hf⟩ := xck_s hf
        obtain ⟨M15, eM15, hf⟩ := xl_s hf
        refine x_iast hx hb h kR_g (xin_in c14) eM15 dX10_setAmount_90 (fun H locs h => ?_)
        refine lv_aload_n hx hb dX10_setAmount_91 rfl (lv_at hl 2 rfl) ?_
        refine lv_iload hx hb dX10_setAmount_92 (lv_at hl 0 rfl) ?_
        obtain ⟨r16, er16, hf⟩ := xbd_s hf
        refine x_Vi (As := [.int y11]) (rest := []) E.1 (m_X10_done l er16) (cwV 1 hts (xgV xU_sub q221 q222 q223 q5 q224) rfl rfl rfl hdX10_done ⟨Nat.le_of_ble_eq_true rfl, Nat.le_of_ble_eq_true rfl⟩) h kR_model rfl rfl hl.1 rfl (Nat.le_of_ble_eq_true rfl) dX10_setAmount_94 ⟨Nat.le_of_ble_eq_true rfl, Nat.le_of_ble_eq_true rfl⟩ (fun H locs h => ?_)
        exact x_iret hx hb h (Option.some.inj hf) hr hlocks dX10_setAmount_97
      · replace hf := xif_t hf c7
        refine lv_aload_n hx hb dX10_setAmount_33 rfl (lv_at hl 0 rfl) ?_
        refine lv_iconst (v := 2) hx hb dX10_setAmount_34 (by decide) ?_
        obtain ⟨r17, er17, hf⟩ := xbd_s hf
        refine x_Vi (As := [.int 2]) (rest := []) E.1 (m_X10_fails l er17) (cwV 1 hts (xgV xU_sub q208 q209 q210 q5 q211) rfl rfl rfl hdX10_fails ⟨Nat.le_of_ble_eq_true rfl, Nat.le_of_ble_eq_true rfl⟩) h kR_model rfl rfl hl.1 rfl (Nat.le_of_ble_eq_true rfl) dX10_setAmount_35 ⟨Nat.le_of_ble_eq_true rfl, Nat.le_of_ble_eq_true rfl⟩ (fun H locs h => ?_)
        exact x_iret hx hb h (Option.some.inj hf) hr hlocks dX10_setAmount_38
    · replace hf := xif_t hf c5
      refine lv_aload_n hx hb dX10_setAmount_16 rfl (lv_at hl 0 rfl) ?_
      refine lv_iconst (v := 1) hx hb dX10_setAmount_17 (by decide) ?_
      obtain ⟨r18, er18, hf⟩ := xbd_s hf
      refine x_Vi (As := [.int 1]) (rest := []) E.1 (m_X10_fails l er18) (cwV 1 hts (xgV xU_sub q208 q209 q210 q5 q211) rfl rfl rfl hdX10_fails ⟨Nat.le_of_ble_eq_true rfl, Nat.le_of_ble_eq_true rfl⟩) h kR_model rfl rfl hl.1 rfl (Nat.le_of_ble_eq_true rfl) dX10_setAmount_18 ⟨Nat.le_of_ble_eq_true rfl, Nat.le_of_ble_eq_true rfl⟩ (fun H locs h => ?_)
      exact x_iret hx hb h (Option.some.inj hf) hr hlocks dX10_setAmount_21
theorem hdX10_amount : yX10_amount.cls = RX10 ∧ yX10_amount.cls ≠ "java/lang/invoke/MethodHandle" ∧ yX10_amount.cls ≠ "java/lang/invoke/VarHandle" ∧ (parseMethodDescriptor yX10_amount.desc).map (fun d => d.parameters.length) = some 3 := by decide +kernel
set_option maxHeartbeats 4000000 in
set_option maxRecDepth 100000 in
theorem m_X10_amount (l : Launch) {Γ : xG} {N : Nat} {v1 : Int32} {v2 : Int32} {v3 : Int32} {M : xM} {res : xR} (hf : F_X10_amount N v1 v2 v3 M = some res) (sz : Nat) : Met l yX10_amount (xWs yX10_amount cX10_amount 4 (some .int)) ({ frames := 3, cells := 0, slots := 0, locals := 83 } : Room) (va_Pc [.ref (Γ.2.1 0), .int v1, .int v2, .int v3] (xPre Γ (wR Γ) M sz)) (xCi Γ (wR Γ) 10 res sz) 0 0 (xAd Γ 10 sz) := by
  refine x_met (Qc := fun sz => xCi Γ (wR Γ) 10 res sz) pnX10 wG_W (Nat.le_of_ble_eq_true rfl) (fun p e s m args below meth c _ E h ls hl => ?_) sz
  obtain ⟨⟨hx, hb, hml, hown, hts⟩, hr, hlocks⟩ := id E
  have hl : lv_has ls 4 [(0, .ref (Γ.2.1 0)), (1, .int v1), (2, .int v2), (3, .int v3)] := hl
  refine lv_aload_n hx hb dX10_amount_0 rfl (lv_at hl 0 rfl) ?_
  refine lv_iload_n hx hb dX10_amount_1 rfl (lv_at hl 1 rfl) ?_
  obtain ⟨r1, er1, hf⟩ := xbd_s hf
  refine x_Vi (As := [.int v1]) (rest := []) E.1 (m_X10_isFormula l er1) (cwV 1 hts (xgV xU_sub q569 q570 q571 q5 q572) rfl rfl rfl hdX10_isFormula ⟨Nat.le_of_ble_eq_true rfl, Nat.le_of_ble_eq_true rfl⟩) h kR_model rfl rfl hl.1 rfl (Nat.le_of_ble_eq_true rfl) dX10_amount_2 ⟨Nat.le_of_ble_eq_true rfl, Nat.le_of_ble_eq_true rfl⟩ (fun H locs h => ?_)
  refine lv_if_eq (tgt := 16) hx hb dX10_amount_5 (by decide) (fun c2 => ?_) (fun c2 => ?_)
  · replace hf := xif_t hf c2
    refine lv_aload_n hx hb dX10_amount_16 rfl (lv_at hl 0 rfl) ?_
    refine lv_iconst (v := 1) hx hb dX10_amount_17 (by decide) ?_
    obtain ⟨r3, er3, hf⟩ := xbd_s hf
    refine x_Vi (As := [.int 1]) (rest := []) E.1 (m_X10_fails l er3) (cwV 1 hts (xgV xU_sub q208 q209 q210 q5 q211) rfl rfl rfl hdX10_fails ⟨Nat.le_of_ble_eq_true rfl, Nat.le_of_ble_eq_true rfl⟩) h kR_model rfl rfl hl.1 rfl (Nat.le_of_ble_eq_true rfl) dX10_amount_18 ⟨Nat.le_of_ble_eq_true rfl, Nat.le_of_ble_eq_true rfl⟩ (fun H locs h => ?_)
    exact x_iret hx hb h (Option.some.inj hf) hr hlocks dX10_amount_21
  · replace hf := xif_f hf c2
    refine lv_aload_n hx hb dX10_amount_8 rfl (lv_at hl 0 rfl) ?_
    refine lv_iload_n hx hb dX10_amount_9 rfl (lv_at hl 2 rfl) ?_
    obtain ⟨r4, er4, hf⟩ := xbd_s hf
    refine x_Vi (As := [.int v2]) (rest := []) E.1 (m_X10_isColorant l er4) (cwV 1 hts (xgV xU_sub q249 q250 q251 q5 q252) rfl rfl rfl hdX10_isColorant ⟨Nat.le_of_ble_eq_true rfl, Nat.le_of_ble_eq_true rfl⟩) h kR_model rfl rfl hl.1 rfl (Nat.le_of_ble_eq_true rfl) dX10_amount_10 ⟨Nat.le_of_ble_eq_true rfl, Nat.le_of_ble_eq_true rfl⟩ (fun H locs h => ?_)
    refine lv_if_ne (tgt := 22) hx hb dX10_amount_13 (by decide) (fun c5 => ?_) (fun c5 => ?_)
    · replace hf := xif_f hf c5
      refine lv_aload_n hx hb dX10_amount_22 rfl (lv_at hl 0 rfl) ?_
      refine lv_aload_n hx hb dX10_amount_23 rfl (lv_at hl 0 rfl) ?_
      refine x_get (own := RX10) (ref := "TintDeskModel") (C := RX10) (T := TX10) (n := 20) (index := 9) (v := .ref (Γ.2.1 1)) hx hb hts (fun w h => xU_sub w (inU10 w h)) hown h kR_model rfl 1 (by decide) (hts _ (xU_sub _ q132)) (fun _ h9 => h9) rfl dX10_amount_24 ?_
      refine lv_sipush (v := 409) hx hb dX10_amount_27 (by decide) ?_
      refine lv_bipush (v := 17) hx hb dX10_amount_30 (by decide) ?_
      refine lv_iload_n hx hb dX10_amount_32 rfl (lv_at hl 1 rfl) ?_
      refine lv_imul hx hb dX10_amount_33 ?_
      refine lv_iadd hx hb dX10_amount_34 ?_
      refine lv_iload_n hx hb dX10_amount_35 rfl (lv_at hl 3 rfl) ?_
      refine lv_if_eq (tgt := 44) hx hb dX10_amount_36 (by decide) (fun c6 => ?_) (fun c6 => ?_)
      · replace hf := xif_t hf c6
        refine lv_iconst (v := 1) hx hb dX10_amount_44 (by decide) ?_
        refine lv_iadd hx hb dX10_amount_45 ?_
        refine lv_iload_n hx hb dX10_amount_46 rfl (lv_at hl 2 rfl) ?_
        refine lv_iadd hx hb dX10_amount_47 ?_
        obtain ⟨c7, hf⟩ := xck_s hf
        refine x_iald hx hb h kR_g (xin_in c7) dX10_amount_48 ?_
        obtain ⟨r8, er8, hf⟩ := xbd_s hf
        refine x_Vi (As := [.int (r4.1.1 1 (((409 + (17 * v1)) + 1) + v2).toNatClampNeg)]) (rest := []) E.1 (m_X10_done l er8) (cwV 1 hts (xgV xU_sub q221 q222 q223 q5 q224) rfl rfl rfl hdX10_done ⟨Nat.le_of_ble_eq_true rfl, Nat.le_of_ble_eq_true rfl⟩) h kR_model rfl rfl hl.1 rfl (Nat.le_of_ble_eq_true rfl) dX10_amount_49 ⟨Nat.le_of_ble_eq_true rfl, Nat.le_of_ble_eq_true rfl⟩ (fun H locs h => ?_)
        exact x_iret hx hb h (Option.some.inj hf) hr hlocks dX10_amount_52
      · replace hf := xif_f hf c6
        refine lv_bipush (v := 9) hx hb dX10_amount_39 (by decide) ?_
        refine lv_goto (tgt := 45) hx hb dX10_amount_41 (by decide) ?_
        refine lv_iadd hx hb dX10_amount_45 ?_
        refine lv_iload_n hx hb dX10_amount_46 rfl (lv_at hl 2 rfl) ?_
        refine lv_iadd hx hb dX10_amount_47 ?_
        obtain ⟨c9, hf⟩ := xck_s hf
        refine x_iald hx hb h kR_g (xin_in c9) dX10_amount_48 ?_
        obtain ⟨r10, er10, hf⟩ := xbd_s hf
        refine x_Vi (As := [.int (r4.1.1 1 (((409 + (17 * v1)) + 9) + v2).toNatClampNeg)]) (rest := []) E.1 (m_X10_done l er10) (cwV 1 hts (xgV xU_sub q221 q222 q223 q5 q224) rfl rfl rfl hdX10_done ⟨Nat.le_of_ble_eq_true rfl, Nat.le_of_ble_eq_true rfl⟩) h kR_model rfl rfl hl.1 rfl (Nat.le_of_ble_eq_true rfl) dX10_amount_49 ⟨Nat.le_of_ble_eq_true rfl, Nat.le_of_ble_eq_true rfl⟩ (fun H locs h => ?_)
        exact x_iret hx hb h (Option.some.inj hf) hr hlocks dX10_amount_52
    · replace hf := xif_t hf c5
      refine lv_aload_n hx hb dX10_amount_16 rfl (lv_at hl 0 rfl) ?_
      refine lv_iconst (v := 1) hx hb dX10_amount_17 (by decide) ?_
      obtain ⟨r11, er11, hf⟩ := xbd_s hf
      refine x_Vi (As := [.int 1]) (rest := []) E.1 (m_X10_fails l er11) (cwV 1 hts (xgV xU_sub q208 q209 q210 q5 q211) rfl rfl rfl hdX10_fails ⟨Nat.le_of_ble_eq_true rfl, Nat.le_of_ble_eq_true rfl⟩) h kR_model rfl rfl hl.1 rfl (Nat.le_of_ble_eq_true rfl) dX10_amount_18 ⟨Nat.le_of_ble_eq_true rfl, Nat.le_of_ble_eq_true rfl⟩ (fun H locs h => ?_)
      exact x_iret hx hb h (Option.some.inj hf) hr hlocks dX10_amount_21
theorem hdX10_baseOf : yX10_baseOf.cls = RX10 ∧ yX10_baseOf.cls ≠ "java/lang/invoke/MethodHandle" ∧ yX10_baseOf.cls ≠ "java/lang/invoke/VarHandle" ∧ (parseMethodDescriptor yX10_baseOf.desc).map (fun d => d.parameters.length) = some 1 := by decide +kernel
set_option maxHeartbeats 4000000 in
set_option maxRecDepth 100000 in
theorem m_X10_baseOf (l : Launch) {Γ : xG} {N : Nat} {v1 : Int32} {M : xM} {res : xR} (hf : F_X10_baseOf N v1 M = some res) (sz : Nat) : Met l yX10_baseOf (xWs yX10_baseOf cX10_baseOf 2 (some .int)) ({ frames := 3, cells := 0, slots := 0, locals := 83 } : Room) (va_Pc [.ref (Γ.2.1 0), .int v1] (xPre Γ (wR Γ) M sz)) (xCi Γ (wR Γ) 10 res sz) 0 0 (xAd Γ 10 sz) := by
  refine x_met (Qc := fun sz => xCi Γ (wR Γ) 10 res sz) pnX10 wG_W (Nat.le_of_ble_eq_true rfl) (fun p e s m args below meth c _ E h ls hl => ?_) sz
  obtain ⟨⟨hx, hb, hml, hown, hts⟩, hr, hlocks⟩ := id E
  have hl : lv_has ls 2 [(0, .ref (Γ.2.1 0)), (1, .int v1)] := hl
  refine lv_aload_n hx hb dX10_baseOf_0 rfl (lv_at hl 0 rfl) ?_
  refine lv_iload_n hx hb dX10_baseOf_1 rfl (lv_at hl 1 rfl) ?_
  obtain ⟨r1, er1, hf⟩ := xbd_s hf
  refine x_Vi (As := [.int v1]) (rest := []) E.1 (m_X10_isFormula l er1) (cwV 1 hts (xgV xU_sub q569 q570 q571 q5 q572) rfl rfl rfl hdX10_isFormula ⟨Nat.le_of_ble_eq_true rfl, Nat.le_of_ble_eq_true rfl⟩) h kR_model rfl rfl hl.1 rfl (Nat.le_of_ble_eq_true rfl) dX10_baseOf_2 ⟨Nat.le_of_ble_eq_true rfl, Nat.le_of_ble_eq_true rfl⟩ (fun H locs h => ?_)
  refine lv_if_eq (tgt := 28) hx hb dX10_baseOf_5 (by decide) (fun c2 => ?_) (fun c2 => ?_)
  · replace hf := xif_t hf c2
    refine lv_aload_n hx hb dX10_baseOf_28 rfl (lv_at hl 0 rfl) ?_
    refine lv_iconst (v := 1) hx hb dX10_baseOf_29 (by decide) ?_
    obtain ⟨r3, er3, hf⟩ := xbd_s hf
    refine x_Vi (As := [.int 1]) (rest := []) E.1 (m_X10_fails l er3) (cwV 1 hts (xgV xU_sub q208 q209 q210 q5 q211) rfl rfl rfl hdX10_fails ⟨Nat.le_of_ble_eq_true rfl, Nat.le_of_ble_eq_true rfl⟩) h kR_model rfl rfl hl.1 rfl (Nat.le_of_ble_eq_true rfl) dX10_baseOf_30 ⟨Nat.le_of_ble_eq_true rfl, Nat.le_of_ble_eq_true rfl⟩ (fun H locs h => ?_)
    exact x_iret hx hb h (Option.some.inj hf) hr hlocks dX10_baseOf_33
  · replace hf := xif_f hf c2
    refine lv_aload_n hx hb dX10_baseOf_8 rfl (lv_at hl 0 rfl) ?_
    refine lv_aload_n hx hb dX10_baseOf_9 rfl (lv_at hl 0 rfl) ?_
    refine x_get (own := RX10) (ref := "TintDeskModel") (C := RX10) (T := TX10) (n := 20) (index := 9) (v := .ref (Γ.2.1 1)) hx hb hts (fun w h => xU_sub w (inU10 w h)) hown h kR_model rfl 1 (by decide) (hts _ (xU_sub _ q132)) (fun _ h9 => h9) rfl dX10_baseOf_10 ?_
    refine lv_sipush (v := 409) hx hb dX10_baseOf_13 (by decide) ?_
    refine lv_bipush (v := 17) hx hb dX10_baseOf_16 (by decide) ?_
    refine lv_iload_n hx hb dX10_baseOf_18 rfl (lv_at hl 1 rfl) ?_
    refine lv_imul hx hb dX10_baseOf_19 ?_
    refine lv_iadd hx hb dX10_baseOf_20 ?_
    obtain ⟨c4, hf⟩ := xck_s hf
    refine x_iald hx hb h kR_g (xin_in c4) dX10_baseOf_21 ?_
    obtain ⟨r5, er5, hf⟩ := xbd_s hf
    refine x_Vi (As := [.int (r1.1.1 1 (409 + (17 * v1)).toNatClampNeg)]) (rest := []) E.1 (m_X10_done l er5) (cwV 1 hts (xgV xU_sub q221 q222 q223 q5 q224) rfl rfl rfl hdX10_done ⟨Nat.le_of_ble_eq_true rfl, Nat.le_of_ble_eq_true rfl⟩) h kR_model rfl rfl hl.1 rfl (Nat.le_of_ble_eq_true rfl) dX10_baseOf_22 ⟨Nat.le_of_ble_eq_true rfl, Nat.le_of_ble_eq_true rfl⟩ (fun H locs h => ?_)
    refine lv_goto (tgt := 33) hx hb dX10_baseOf_25 (by decide) ?_
    exact x_iret hx hb h (Option.some.inj hf) hr hlocks dX10_baseOf_33
