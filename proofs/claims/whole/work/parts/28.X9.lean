theorem hdX9_requireRange : yX9_requireRange.cls = RX9 ∧ yX9_requireRange.cls ≠ "java/lang/invoke/MethodHandle" ∧ yX9_requireRange.cls ≠ "java/lang/invoke/VarHandle" ∧ (parseMethodDescriptor yX9_requireRange.desc).map (fun d => d.parameters.length) = some 3 := by decide +kernel
set_option maxHeartbeats 4000000 in
set_option maxRecDepth 100000 in
theorem w_X9_requireRange_10 (l : Launch) {p : Program} {e : Env} {s : State} {m : MethodId} {args : Array Value} {below : List Frame} {meth : Method} {c : Code} {Γ : xG} {N : Nat} {res : xE} (hlt : l.stackTraces = false) (hz : xZ Γ 1483 s.heap.size s) (hex : ∀ x ∈ c.exceptionTable.toList, False) (E : xEv p s m args meth c RX9 cX9_requireRange 3 none (xWs yX9_requireRange cX9_requireRange 3 none)) : ∀ (M : xM), L_X9_requireRange_10 N M = some res → ∀ (H : Heap) (locs : List Loc) (ls : Array Slot), xH Γ (wX Γ) 1483 s M H locs → lv_has ls 3 [] → W p l e ({ frames := 6, cells := 1, slots := 6, locals := 120 } : Room) s m args below meth c H locs 0 0 (vx_MQ below (xXv Γ (wX Γ) 1483 res s.heap.size) (xXX Γ (wX Γ) 1483 res s.heap.size) args s 1 6 (xAd Γ 1483 s.heap.size)) (F0 m 10 ls []) := by
  obtain ⟨⟨hx, hb, hml, hown, hts⟩, hr, hlocks⟩ := id E
  intro M hf H locs ls h hl
  exact x_throwW (ik := 171) (is := 333) (ic := 175) (text := "a number is out of range") hx hb hlt hown ft_IllegalArgumentException (hts _ (xU_sub _ q158)) (hts _ (xU_sub _ q159)) hts xU_sub at_IllegalArgumentException gd_IllegalArgumentException hz h (Option.some.inj hf) hl.1 hml dX9_requireRange_10 dX9_requireRange_13 dX9_requireRange_14 dX9_requireRange_17 dX9_requireRange_20 hex hlocks (by decide +kernel) (by decide) (by decide) (by decide) (by decide)
set_option maxHeartbeats 4000000 in
set_option maxRecDepth 100000 in
theorem m_X9_requireRange (l : Launch) {Γ : xG} {N : Nat} {v0 : Int32} {v1 : Int32} {v2 : Int32} {M : xM} {res : xE} (hlt : l.stackTraces = false) (hf : F_X9_requireRange N v0 v1 v2 M = some res) (sz : Nat) : vx_Met l yX9_requireRange (xWs yX9_requireRange cX9_requireRange 3 none) ({ frames := 6, cells := 1, slots := 6, locals := 120 } : Room) (va_Pc [.int v0, .int v1, .int v2] (xPreZ Γ (wX Γ) 1483 M sz)) (xXv Γ (wX Γ) 1483 res sz) (xXX Γ (wX Γ) 1483 res sz) 1 6 (xAd Γ 1483 sz) := by
  refine x_Xmet (Qc := fun sz => xXv Γ (wX Γ) 1483 res sz) (XC := fun sz => xXX Γ (wX Γ) 1483 res sz) pnX9 wG_W (Nat.le_of_ble_eq_true rfl) (fun p e s m args below meth c E hex hz h ls hl => ?_) sz
  obtain ⟨⟨hx, hb, hml, hown, hts⟩, hr, hlocks⟩ := id E
  have hl : lv_has ls 3 [(0, .int v0), (1, .int v1), (2, .int v2)] := hl
  refine lv_iload_n hx hb dX9_requireRange_0 rfl (lv_at hl 0 rfl) ?_
  refine lv_iload_n hx hb dX9_requireRange_1 rfl (lv_at hl 1 rfl) ?_
  refine lv_icmp_lt (tgt := 10) hx hb dX9_requireRange_2 (by decide) (fun c1 => ?_) (fun c1 => ?_)
  · replace hf := xif_t hf c1
    exact w_X9_requireRange_10 l hlt hz hex E M hf _ _ _ h (lv_sub hl [] rfl)
  · replace hf := xif_f hf c1
    refine lv_iload_n hx hb dX9_requireRange_5 rfl (lv_at hl 0 rfl) ?_
    refine lv_iload_n hx hb dX9_requireRange_6 rfl (lv_at hl 2 rfl) ?_
    refine lv_icmp_le (tgt := 21) hx hb dX9_requireRange_7 (by decide) (fun c2 => ?_) (fun c2 => ?_)
    · replace hf := xif_t hf c2
      refine W.widen (k := 1) (n := 6) (Nat.le_of_ble_eq_true rfl) (Nat.le_of_ble_eq_true rfl) ?_
      exact x_Xvret hx hb h (Option.some.inj hf) hr hlocks dX9_requireRange_21
    · replace hf := xif_f hf c2
      exact w_X9_requireRange_10 l hlt hz hex E M hf _ _ _ h (lv_sub hl [] rfl)
theorem hdX9_requireColorant : yX9_requireColorant.cls = RX9 ∧ yX9_requireColorant.cls ≠ "java/lang/invoke/MethodHandle" ∧ yX9_requireColorant.cls ≠ "java/lang/invoke/VarHandle" ∧ (parseMethodDescriptor yX9_requireColorant.desc).map (fun d => d.parameters.length) = some 1 := by decide +kernel
set_option maxHeartbeats 4000000 in
set_option maxRecDepth 100000 in
theorem w_X9_requireColorant_15 (l : Launch) {p : Program} {e : Env} {s : State} {m : MethodId} {args : Array Value} {below : List Frame} {meth : Method} {c : Code} {Γ : xG} {N : Nat} {res : xE} (hlt : l.stackTraces = false) (hz : xZ Γ 1483 s.heap.size s) (hex : ∀ x ∈ c.exceptionTable.toList, False) (E : xEv p s m args meth c RX9 cX9_requireColorant 2 none (xWs yX9_requireColorant cX9_requireColorant 2 none)) : ∀ (M : xM), L_X9_requireColorant_15 N M = some res → ∀ (H : Heap) (locs : List Loc) (ls : Array Slot), xH Γ (wX Γ) 1483 s M H locs → lv_has ls 2 [] → W p l e ({ frames := 6, cells := 1, slots := 6, locals := 120 } : Room) s m args below meth c H locs 0 0 (vx_MQ below (xXv Γ (wX Γ) 1483 res s.heap.size) (xXX Γ (wX Γ) 1483 res s.heap.size) args s 1 6 (xAd Γ 1483 s.heap.size)) (F0 m 15 ls []) := by
  obtain ⟨⟨hx, hb, hml, hown, hts⟩, hr, hlocks⟩ := id E
  intro M hf H locs ls h hl
  exact x_throwW (ik := 335) (is := 337) (ic := 339) (text := "there is no such colorant") hx hb hlt hown ft_IndexOutOfBoundsException (hts _ (xU_sub _ q243)) (hts _ (xU_sub _ q244)) hts xU_sub at_IndexOutOfBoundsException gd_IndexOutOfBoundsException hz h (Option.some.inj hf) hl.1 hml dX9_requireColorant_15 dX9_requireColorant_18 dX9_requireColorant_19 dX9_requireColorant_22 dX9_requireColorant_25 hex hlocks (by decide +kernel) (by decide) (by decide) (by decide) (by decide)
set_option maxHeartbeats 4000000 in
set_option maxRecDepth 100000 in
theorem m_X9_requireColorant (l : Launch) {Γ : xG} {N : Nat} {v1 : Int32} {M : xM} {res : xE} (hlt : l.stackTraces = false) (hf : F_X9_requireColorant N v1 M = some res) (sz : Nat) : vx_Met l yX9_requireColorant (xWs yX9_requireColorant cX9_requireColorant 2 none) ({ frames := 6, cells := 1, slots := 6, locals := 120 } : Room) (va_Pc [.ref (Γ.2.1 1470), .int v1] (xPreZ Γ (wX Γ) 1483 M sz)) (xXv Γ (wX Γ) 1483 res sz) (xXX Γ (wX Γ) 1483 res sz) 1 6 (xAd Γ 1483 sz) := by
  refine x_Xmet (Qc := fun sz => xXv Γ (wX Γ) 1483 res sz) (XC := fun sz => xXX Γ (wX Γ) 1483 res sz) pnX9 wG_W (Nat.le_of_ble_eq_true rfl) (fun p e s m args below meth c E hex hz h ls hl => ?_) sz
  obtain ⟨⟨hx, hb, hml, hown, hts⟩, hr, hlocks⟩ := id E
  have hl : lv_has ls 2 [(0, .ref (Γ.2.1 1470)), (1, .int v1)] := hl
  refine lv_iload_n hx hb dX9_requireColorant_0 rfl (lv_at hl 1 rfl) ?_
  refine lv_if_lt (tgt := 15) hx hb dX9_requireColorant_1 (by decide) (fun c1 => ?_) (fun c1 => ?_)
  · replace hf := xif_t hf c1
    exact w_X9_requireColorant_15 l hlt hz hex E M hf _ _ _ h (lv_sub hl [] rfl)
  · replace hf := xif_f hf c1
    refine lv_iload_n hx hb dX9_requireColorant_4 rfl (lv_at hl 1 rfl) ?_
    refine lv_aload_n hx hb dX9_requireColorant_5 rfl (lv_at hl 0 rfl) ?_
    refine x_get (own := RX9) (ref := "TintDesk") (C := RX9) (T := TX9) (n := 10) (index := 12) (v := .ref (Γ.2.1 0)) hx hb hts (fun w h => xU_sub w (inU9 w h)) hown h kX_tint rfl 0 (by decide) (hts _ (xU_sub _ q16)) (fun _ h9 => h9) rfl dX9_requireColorant_6 ?_
    refine x_get (own := RX9) (ref := "TintDesk$Desk") (C := RX3) (T := TX3) (n := 9) (index := 65) (v := .int (M.1 0 4)) hx hb hts (fun w h => xU_sub w (inU3 w h)) hown h (kX_desk isDk_0) rfl 4 (by decide) (hts _ (xU_sub _ q154)) (fun _ h9 => h9) rfl dX9_requireColorant_9 ?_
    refine lv_icmp_lt (tgt := 26) hx hb dX9_requireColorant_12 (by decide) (fun c2 => ?_) (fun c2 => ?_)
    · replace hf := xif_t hf c2
      refine W.widen (k := 1) (n := 6) (Nat.le_of_ble_eq_true rfl) (Nat.le_of_ble_eq_true rfl) ?_
      exact x_Xvret hx hb h (Option.some.inj hf) hr hlocks dX9_requireColorant_26
    · replace hf := xif_f hf c2
      exact w_X9_requireColorant_15 l hlt hz hex E M hf _ _ _ h (lv_sub hl [] rfl)
theorem hdX9_requireBase : yX9_requireBase.cls = RX9 ∧ yX9_requireBase.cls ≠ "java/lang/invoke/MethodHandle" ∧ yX9_requireBase.cls ≠ "java/lang/invoke/VarHandle" ∧ (parseMethodDescriptor yX9_requireBase.desc).map (fun d => d.parameters.length) = some 1 := by decide +kernel
set_option maxHeartbeats 4000000 in
set_option maxRecDepth 100000 in
theorem w_X9_requireBase_15 (l : Launch) {p : Program} {e : Env} {s : State} {m : MethodId} {args : Array Value} {below : List Frame} {meth : Method} {c : Code} {Γ : xG} {N : Nat} {res : xE} (hlt : l.stackTraces = false) (hz : xZ Γ 1483 s.heap.size s) (hex : ∀ x ∈ c.exceptionTable.toList, False) (E : xEv p s m args meth c RX9 cX9_requireBase 2 none (xWs yX9_requireBase cX9_requireBase 2 none)) : ∀ (M : xM), L_X9_requireBase_15 N M = some res → ∀ (H : Heap) (locs : List Loc) (ls : Array Slot), xH Γ (wX Γ) 1483 s M H locs → lv_has ls 2 [] → W p l e ({ frames := 6, cells := 1, slots := 6, locals := 120 } : Room) s m args below meth c H locs 0 0 (vx_MQ below (xXv Γ (wX Γ) 1483 res s.heap.size) (xXX Γ (wX Γ) 1483 res s.heap.size) args s 1 6 (xAd Γ 1483 s.heap.size)) (F0 m 15 ls []) := by
  obtain ⟨⟨hx, hb, hml, hown, hts⟩, hr, hlocks⟩ := id E
  intro M hf H locs ls h hl
  exact x_throwW (ik := 335) (is := 340) (ic := 339) (text := "there is no such base") hx hb hlt hown ft_IndexOutOfBoundsException (hts _ (xU_sub _ q243)) (hts _ (xU_sub _ q244)) hts xU_sub at_IndexOutOfBoundsException gd_IndexOutOfBoundsException hz h (Option.some.inj hf) hl.1 hml dX9_requireBase_15 dX9_requireBase_18 dX9_requireBase_19 dX9_requireBase_22 dX9_requireBase_25 hex hlocks (by decide +kernel) (by decide) (by decide) (by decide) (by decide)
set_option maxHeartbeats 4000000 in
set_option maxRecDepth 100000 in
theorem m_X9_requireBase (l : Launch) {Γ : xG} {N : Nat} {v1 : Int32} {M : xM} {res : xE} (hlt : l.stackTraces = false) (hf : F_X9_requireBase N v1 M = some res) (sz : Nat) : vx_Met l yX9_requireBase (xWs yX9_requireBase cX9_requireBase 2 none) ({ frames := 6, cells := 1, slots := 6, locals := 120 } : Room) (va_Pc [.ref (Γ.2.1 1470), .int v1] (xPreZ Γ (wX Γ) 1483 M sz)) (xXv Γ (wX Γ) 1483 res sz) (xXX Γ (wX Γ) 1483 res sz) 1 6 (xAd Γ 1483 sz) := by
  refine x_Xmet (Qc := fun sz => xXv Γ (wX Γ) 1483 res sz) (XC := fun sz => xXX Γ (wX Γ) 1483 res sz) pnX9 wG_W (Nat.le_of_ble_eq_true rfl) (fun p e s m args below meth c E hex hz h ls hl => ?_) sz
  obtain ⟨⟨hx, hb, hml, hown, hts⟩, hr, hlocks⟩ := id E
  have hl : lv_has ls 2 [(0, .ref (Γ.2.1 1470)), (1, .int v1)] := hl
  refine lv_iload_n hx hb dX9_requireBase_0 rfl (lv_at hl 1 rfl) ?_
  refine lv_if_lt (tgt := 15) hx hb dX9_requireBase_1 (by decide) (fun c1 => ?_) (fun c1 => ?_)
  · replace hf := xif_t hf c1
    exact w_X9_requireBase_15 l hlt hz hex E M hf _ _ _ h (lv_sub hl [] rfl)
  · replace hf := xif_f hf c1
    refine lv_iload_n hx hb dX9_requireBase_4 rfl (lv_at hl 1 rfl) ?_
    refine lv_aload_n hx hb dX9_requireBase_5 rfl (lv_at hl 0 rfl) ?_
    refine x_get (own := RX9) (ref := "TintDesk") (C := RX9) (T := TX9) (n := 10) (index := 12) (v := .ref (Γ.2.1 0)) hx hb hts (fun w h => xU_sub w (inU9 w h)) hown h kX_tint rfl 0 (by decide) (hts _ (xU_sub _ q16)) (fun _ h9 => h9) rfl dX9_requireBase_6 ?_
    refine x_get (own := RX9) (ref := "TintDesk$Desk") (C := RX3) (T := TX3) (n := 9) (index := 132) (v := .int (M.1 0 5)) hx hb hts (fun w h => xU_sub w (inU3 w h)) hown h (kX_desk isDk_0) rfl 5 (by decide) (hts _ (xU_sub _ q384)) (fun _ h9 => h9) rfl dX9_requireBase_9 ?_
    refine lv_icmp_lt (tgt := 26) hx hb dX9_requireBase_12 (by decide) (fun c2 => ?_) (fun c2 => ?_)
    · replace hf := xif_t hf c2
      refine W.widen (k := 1) (n := 6) (Nat.le_of_ble_eq_true rfl) (Nat.le_of_ble_eq_true rfl) ?_
      exact x_Xvret hx hb h (Option.some.inj hf) hr hlocks dX9_requireBase_26
    · replace hf := xif_f hf c2
      exact w_X9_requireBase_15 l hlt hz hex E M hf _ _ _ h (lv_sub hl [] rfl)
theorem hdX9_requireFormula : yX9_requireFormula.cls = RX9 ∧ yX9_requireFormula.cls ≠ "java/lang/invoke/MethodHandle" ∧ yX9_requireFormula.cls ≠ "java/lang/invoke/VarHandle" ∧ (parseMethodDescriptor yX9_requireFormula.desc).map (fun d => d.parameters.length) = some 1 := by decide +kernel
set_option maxHeartbeats 4000000 in
set_option maxRecDepth 100000 in
theorem w_X9_requireFormula_15 (l : Launch) {p : Program} {e : Env} {s : State} {m : MethodId} {args : Array Value} {below : List Frame} {meth : Method} {c : Code} {Γ : xG} {N : Nat} {res : xE} (hlt : l.stackTraces = false) (hz : xZ Γ 1483 s.heap.size s) (hex : ∀ x ∈ c.exceptionTable.toList, False) (E : xEv p s m args meth c RX9 cX9_requireFormula 2 none (xWs yX9_requireFormula cX9_requireFormula 2 none)) : ∀ (M : xM), L_X9_requireFormula_15 N M = some res → ∀ (H : Heap) (locs : List Loc) (ls : Array Slot), xH Γ (wX Γ) 1483 s M H locs → lv_has ls 2 [] → W p l e ({ frames := 6, cells := 1, slots := 6, locals := 120 } : Room) s m args below meth c H locs 0 0 (vx_MQ below (xXv Γ (wX Γ) 1483 res s.heap.size) (xXX Γ (wX Γ) 1483 res s.heap.size) args s 1 6 (xAd Γ 1483 s.heap.size)) (F0 m 15 ls []) := by
  obtain ⟨⟨hx, hb, hml, hown, hts⟩, hr, hlocks⟩ := id E
  intro M hf H locs ls h hl
  exact x_throwW (ik := 335) (is := 345) (ic := 339) (text := "there is no such formula") hx hb hlt hown ft_IndexOutOfBoundsException (hts _ (xU_sub _ q243)) (hts _ (xU_sub _ q244)) hts xU_sub at_IndexOutOfBoundsException gd_IndexOutOfBoundsException hz h (Option.some.inj hf) hl.1 hml dX9_requireFormula_15 dX9_requireFormula_18 dX9_requireFormula_19 dX9_requireFormula_22 dX9_requireFormula_25 hex hlocks (by decide +kernel) (by decide) (by decide) (by decide) (by decide)
set_option maxHeartbeats 4000000 in
set_option maxRecDepth 100000 in
theorem m_X9_requireFormula (l : Launch) {Γ : xG} {N : Nat} {v1 : Int32} {M : xM} {res : xE} (hlt : l.stackTraces = false) (hf : F_X9_requireFormula N v1 M = some res) (sz : Nat) : vx_Met l yX9_requireFormula (xWs yX9_requireFormula cX9_requireFormula 2 none) ({ frames := 6, cells := 1, slots := 6, locals := 120 } : Room) (va_Pc [.ref (Γ.2.1 1470), .int v1] (xPreZ Γ (wX Γ) 1483 M sz)) (xXv Γ (wX Γ) 1483 res sz) (xXX Γ (wX Γ) 1483 res sz) 1 6 (xAd Γ 1483 sz) := by
  refine x_Xmet (Qc := fun sz => xXv Γ (wX Γ) 1483 res sz) (XC := fun sz => xXX Γ (wX Γ) 1483 res sz) pnX9 wG_W (Nat.le_of_ble_eq_true rfl) (fun p e s m args below meth c E hex hz h ls hl => ?_) sz
  obtain ⟨⟨hx, hb, hml, hown, hts⟩, hr, hlocks⟩ := id E
  have hl : lv_has ls 2 [(0, .ref (Γ.2.1 1470)), (1, .int v1)] := hl
  refine lv_iload_n hx hb dX9_requireFormula_0 rfl (lv_at hl 1 rfl) ?_
  refine lv_if_lt (tgt := 15) hx hb dX9_requireFormula_1 (by decide) (fun c1 => ?_) (fun c1 => ?_)
  · replace hf := xif_t hf c1
    exact w_X9_requireFormula_15 l hlt hz hex E M hf _ _ _ h (lv_sub hl [] rfl)
  · replace hf := xif_f hf c1
    refine lv_iload_n hx hb dX9_requireFormula_4 rfl (lv_at hl 1 rfl) ?_
    refine lv_aload_n hx hb dX9_requireFormula_5 rfl (lv_at hl 0 rfl) ?_
    refine x_get (own := RX9) (ref := "TintDesk") (C := RX9) (T := TX9) (n := 10) (index := 12) (v := .ref (Γ.2.1 0)) hx hb hts (fun w h => xU_sub w (inU9 w h)) hown h kX_tint rfl 0 (by decide) (hts _ (xU_sub _ q16)) (fun _ h9 => h9) rfl dX9_requireFormula_6 ?_
    refine x_get (own := RX9) (ref := "TintDesk$Desk") (C := RX3) (T := TX3) (n := 9) (index := 342) (v := .int (M.1 0 6)) hx hb hts (fun w h => xU_sub w (inU3 w h)) hown h (kX_desk isDk_0) rfl 6 (by decide) (hts _ (xU_sub _ q564)) (fun _ h9 => h9) rfl dX9_requireFormula_9 ?_
    refine lv_icmp_lt (tgt := 26) hx hb dX9_requireFormula_12 (by decide) (fun c2 => ?_) (fun c2 => ?_)
    · replace hf := xif_t hf c2
      refine W.widen (k := 1) (n := 6) (Nat.le_of_ble_eq_true rfl) (Nat.le_of_ble_eq_true rfl) ?_
      exact x_Xvret hx hb h (Option.some.inj hf) hr hlocks dX9_requireFormula_26
    · replace hf := xif_f hf c2
      exact w_X9_requireFormula_15 l hlt hz hex E M hf _ _ _ h (lv_sub hl [] rfl)
theorem hdX9_requireCan : yX9_requireCan.cls = RX9 ∧ yX9_requireCan.cls ≠ "java/lang/invoke/MethodHandle" ∧ yX9_requireCan.cls ≠ "java/lang/invoke/VarHandle" ∧ (parseMethodDescriptor yX9_requireCan.desc).map (fun d => d.parameters.length) = some 1 := by decide +kernel
set_option maxHeartbeats 4000000 in
set_option maxRecDepth 100000 in
theorem w_X9_requireCan_15 (l : Launch) {p : Program} {e : Env} {s : State} {m : MethodId} {args : Array Value} {below : List Frame} {meth : Method} {c : Code} {Γ : xG} {N : Nat} {res : xE} (hlt : l.stackTraces = false) (hz : xZ Γ 1483 s.heap.size s) (hex : ∀ x ∈ c.exceptionTable.toList, False) (E : xEv p s m args meth c RX9 cX9_requireCan 2 none (xWs yX9_requireCan cX9_requireCan 2 none)) : ∀ (M : xM), L_X9_requireCan_15 N M = some res → ∀ (H : Heap) (locs : List Loc) (ls : Array Slot), xH Γ (wX Γ) 1483 s M H locs → lv_has ls 2 [] → W p l e ({ frames := 6, cells := 1, slots := 6, locals := 120 } : Room) s m args below meth c H locs 0 0 (vx_MQ below (xXv Γ (wX Γ) 1483 res s.heap.size) (xXX Γ (wX Γ) 1483 res s.heap.size) args s 1 6 (xAd Γ 1483 s.heap.size)) (F0 m 15 ls []) := by
  obtain ⟨⟨hx, hb, hml, hown, hts⟩, hr, hlocks⟩ := id E
  intro M hf H locs ls h hl
  exact x_throwW (ik := 335) (is := 350) (ic := 339) (text := "there is no such can") hx hb hlt hown ft_IndexOutOfBoundsException (hts _ (xU_sub _ q243)) (hts _ (xU_sub _ q244)) hts xU_sub at_IndexOutOfBoundsException gd_IndexOutOfBoundsException hz h (Option.some.inj hf) hl.1 hml dX9_requireCan_15 dX9_requireCan_18 dX9_requireCan_19 dX9_requireCan_22 dX9_requireCan_25 hex hlocks (by decide +kernel) (by decide) (by decide) (by decide) (by decide)
set_option maxHeartbeats 4000000 in
set_option maxRecDepth 100000 in
theorem m_X9_requireCan (l : Launch) {Γ : xG} {N : Nat} {v1 : Int32} {M : xM} {res : xE} (hlt : l.stackTraces = false) (hf : F_X9_requireCan N v1 M = some res) (sz : Nat) : vx_Met l yX9_requireCan (xWs yX9_requireCan cX9_requireCan 2 none) ({ frames := 6, cells := 1, slots := 6, locals := 120 } : Room) (va_Pc [.ref (Γ.2.1 1470), .int v1] (xPreZ Γ (wX Γ) 1483 M sz)) (xXv Γ (wX Γ) 1483 res sz) (xXX Γ (wX Γ) 1483 res sz) 1 6 (xAd Γ 1483 sz) := by
  refine x_Xmet (Qc := fun sz => xXv Γ (wX Γ) 1483 res sz) (XC := fun sz => xXX Γ (wX Γ) 1483 res sz) pnX9 wG_W (Nat.le_of_ble_eq_true rfl) (fun p e s m args below meth c E hex hz h ls hl => ?_) sz
  obtain ⟨⟨hx, hb, hml, hown, hts⟩, hr, hlocks⟩ := id E
  have hl : lv_has ls 2 [(0, .ref (Γ.2.1 1470)), (1, .int v1)] := hl
  refine lv_iload_n hx hb dX9_requireCan_0 rfl (lv_at hl 1 rfl) ?_
  refine lv_if_lt (tgt := 15) hx hb dX9_requireCan_1 (by decide) (fun c1 => ?_) (fun c1 => ?_)
  · replace hf := xif_t hf c1
    exact w_X9_requireCan_15 l hlt hz hex E M hf _ _ _ h (lv_sub hl [] rfl)
  · replace hf := xif_f hf c1
    refine lv_iload_n hx hb dX9_requireCan_4 rfl (lv_at hl 1 rfl) ?_
    refine lv_aload_n hx hb dX9_requireCan_5 rfl (lv_at hl 0 rfl) ?_
    refine x_get (own := RX9) (ref := "TintDesk") (C := RX9) (T := TX9) (n := 10) (index := 12) (v := .ref (Γ.2.1 0)) hx hb hts (fun w h => xU_sub w (inU9 w h)) hown h kX_tint rfl 0 (by decide) (hts _ (xU_sub _ q16)) (fun _ h9 => h9) rfl dX9_requireCan_6 ?_
    refine x_get (own := RX9) (ref := "TintDesk$Desk") (C := RX3) (T := TX3) (n := 9) (index := 347) (v := .int (M.1 0 7)) hx hb hts (fun w h => xU_sub w (inU3 w h)) hown h (kX_desk isDk_0) rfl 7 (by decide) (hts _ (xU_sub _ q608)) (fun _ h9 => h9) rfl dX9_requireCan_9 ?_
    refine lv_icmp_lt (tgt := 26) hx hb dX9_requireCan_12 (by decide) (fun c2 => ?_) (fun c2 => ?_)
    · replace hf := xif_t hf c2
      refine W.widen (k := 1) (n := 6) (Nat.le_of_ble_eq_true rfl) (Nat.le_of_ble_eq_true rfl) ?_
      exact x_Xvret hx hb h (Option.some.inj hf) hr hlocks dX9_requireCan_26
    · replace hf := xif_f hf c2
      exact w_X9_requireCan_15 l hlt hz hex E M hf _ _ _ h (lv_sub hl [] rfl)
theorem hdX9_stopIfRefused : yX9_stopIfRefused.cls = RX9 ∧ yX9_stopIfRefused.cls ≠ "java/lang/invoke/MethodHandle" ∧ yX9_stopIfRefused.cls ≠ "java/lang/invoke/VarHandle" ∧ (parseMethodDescriptor yX9_stopIfRefused.desc).map (fun d => d.parameters.length) = some 2 := by decide +kernel
set_option maxHeartbeats 4000000 in
set_option maxRecDepth 100000 in
theorem m_X9_stopIfRefused (l : Launch) {Γ : xG} {N : Nat} {v1 : Int32} {v2 : Int32} {M : xM} {res : xE} (hlt : l.stackTraces = false) (hf : F_X9_stopIfRefused N v1 v2 M = some res) (sz : Nat) : vx_Met l yX9_stopIfRefused (xWs yX9_stopIfRefused cX9_stopIfRefused 3 none) ({ frames := 6, cells := 1, slots := 6, locals := 120 } : Room) (va_Pc [.ref (Γ.2.1 1470), .int v1, .int v2] (xPreZ Γ (wX Γ) 1483 M sz)) (xXv Γ (wX Γ) 1483 res sz) (xXX Γ (wX Γ) 1483 res sz) 1 6 (xAd Γ 1483 sz) := by
  refine x_Xmet (Qc := fun sz => xXv Γ (wX Γ) 1483 res sz) (XC := fun sz => xXX Γ (wX Γ) 1483 res sz) pnX9 wG_W (Nat.le_of_ble_eq_true rfl) (fun p e s m args below meth c E hex hz h ls hl => ?_) sz
  obtain ⟨⟨hx, hb, hml, hown, hts⟩, hr, hlocks⟩ := id E
  have hl : lv_has ls 3 [(0, .ref (Γ.2.1 1470)), (1, .int v1), (2, .int v2)] := hl
  refine lv_iload_n hx hb dX9_stopIfRefused_0 rfl (lv_at hl 1 rfl) ?_
  refine lv_if_eq (tgt := 25) hx hb dX9_stopIfRefused_1 (by decide) (fun c1 => ?_) (fun c1 => ?_)
  · replace hf := xif_t hf c1
    refine W.widen (k := 1) (n := 6) (Nat.le_of_ble_eq_true rfl) (Nat.le_of_ble_eq_true rfl) ?_
    exact x_Xvret hx hb h (Option.some.inj hf) hr hlocks dX9_stopIfRefused_25
  · replace hf := xif_f hf c1
    refine lv_aload_n hx hb dX9_stopIfRefused_4 rfl (lv_at hl 0 rfl) ?_
    refine lv_iload_n hx hb dX9_stopIfRefused_5 rfl (lv_at hl 1 rfl) ?_
    obtain ⟨M2, eM2, hf⟩ := xl_s hf
    refine x_put (own := RX9) (ref := "TintDesk") (C := RX9) (T := TX9) (n := 10) (index := 41) (ty := .int) hx hb hts (fun w h => xU_sub w (inU9 w h)) tyX9 tyX9_ok nmX9 hown h kX_tint rfl 6 (by decide) (hts _ (xU_sub _ q28)) (fun _ h9 => h9) rfl (by decide +kernel) rfl rfl (Nat.le_of_ble_eq_true rfl) rfl eM2 dX9_stopIfRefused_6 (fun H locs h => ?_)
    refine lv_aload_n hx hb dX9_stopIfRefused_9 rfl (lv_at hl 0 rfl) ?_
    refine lv_iload_n hx hb dX9_stopIfRefused_10 rfl (lv_at hl 2 rfl) ?_
    obtain ⟨M3, eM3, hf⟩ := xl_s hf
    refine x_put (own := RX9) (ref := "TintDesk") (C := RX9) (T := TX9) (n := 10) (index := 44) (ty := .int) hx hb hts (fun w h => xU_sub w (inU9 w h)) tyX9 tyX9_ok nmX9 hown h kX_tint rfl 7 (by decide) (hts _ (xU_sub _ q29)) (fun _ h9 => h9) rfl (by decide +kernel) rfl rfl (Nat.le_of_ble_eq_true rfl) rfl eM3 dX9_stopIfRefused_11 (fun H locs h => ?_)
    exact x_throwW (ik := 352) (is := 354) (ic := 356) (text := "refused") hx hb hlt hown ft_UnsupportedOperationException (hts _ (xU_sub _ q271)) (hts _ (xU_sub _ q272)) hts xU_sub at_UnsupportedOperationException gd_UnsupportedOperationException hz h (Option.some.inj hf) hl.1 hml dX9_stopIfRefused_14 dX9_stopIfRefused_17 dX9_stopIfRefused_18 dX9_stopIfRefused_21 dX9_stopIfRefused_24 hex hlocks (by decide +kernel) (by decide) (by decide) (by decide) (by decide)
theorem hdX9_addColorant : yX9_addColorant.cls = RX9 ∧ yX9_addColorant.cls ≠ "java/lang/invoke/MethodHandle" ∧ yX9_addColorant.cls ≠ "java/lang/invoke/VarHandle" ∧ (parseMethodDescriptor yX9_addColorant.desc).map (fun d => d.parameters.length) = some 3 := by decide +kernel
set_option maxHeartbeats 4000000 in
set_option maxRecDepth 100000 in
theorem m_X9_addColorant (l : Launch) {Γ : xG} {N : Nat} {v1 : Int32} {v2 : Int32} {v3 : Int32} {M : xM} {res : xE} (hlt : l.stackTraces = false) (hf : F_X9_addColorant N v1 v2 v3 M = some res) (sz : Nat) : vx_Met l yX9_addColorant (xWs yX9_addColorant cX9_addColorant 4 (some .int)) ({ frames := 7, cells := 4, slots := 24, locals := 184 } : Room) (va_Pc [.ref (Γ.2.1 1470), .int v1, .int v2, .int v3] (xPreZ Γ (wX Γ) 1483 M sz)) (xXi Γ (wX Γ) 1483 res sz) (xXX Γ (wX Γ) 1483 res sz) 4 24 (xAd Γ 1483 sz) := by
  refine x_Xmet (Qc := fun sz => xXi Γ (wX Γ) 1483 res sz) (XC := fun sz => xXX Γ (wX Γ) 1483 res sz) pnX9 wG_W (Nat.le_of_ble_eq_true rfl) (fun p e s m args below meth c E hex hz h ls hl => ?_) sz
  obtain ⟨⟨hx, hb, hml, hown, hts⟩, hr, hlocks⟩ := id E
  have hl : lv_has ls 4 [(0, .ref (Γ.2.1 1470)), (1, .int v1), (2, .int v2), (3, .int v3)] := hl
  refine lv_iload_n hx hb dX9_addColorant_0 rfl (lv_at hl 1 rfl) ?_
  refine lv_iconst (v := 0) hx hb dX9_addColorant_1 (by decide) ?_
  refine lv_bipush (v := 9) hx hb dX9_addColorant_2 (by decide) ?_
  obtain ⟨r1, er1, hf⟩ := xbd_s hf
  refine x_XSv (As := [.int v1, .int 0, .int 9]) (rest := []) E.1 (m_X9_requireRange l hlt er1) (cwS 3 hts (xgS xU_sub q155 q156 q2 q157) rfl rfl rfl hdX9_requireRange ⟨Nat.le_of_ble_eq_true rfl, Nat.le_of_ble_eq_true rfl⟩) h hz rfl hl.1 rfl (Nat.le_of_ble_eq_true rfl) dX9_addColorant_4 ⟨Nat.le_of_ble_eq_true rfl, Nat.le_of_ble_eq_true rfl⟩ (fun Ex M9 hv9 H locs q9 ce9 h hq9 hc9 hn9 => ?_) (fun M2 hvy3 H locs h => ?_)
  · subst hv9
    refine vx_widen (k := 4) (n := 24) (Nat.le_of_ble_eq_true rfl) (Nat.le_of_ble_eq_true rfl) ?_
    exact x_Xout h (Option.some.inj hf) hex hlocks hq9 hc9 hn9
  · subst hvy3
    replace hf := xth_l hf
    refine lv_iload_n hx hb dX9_addColorant_7 rfl (lv_at hl 2 rfl) ?_
    refine lv_iconst (v := 0) hx hb dX9_addColorant_8 (by decide) ?_
    refine lv_bipush (v := 9) hx hb dX9_addColorant_9 (by decide) ?_
    obtain ⟨r4, er4, hf⟩ := xbd_s hf
    refine x_XSv (As := [.int v2, .int 0, .int 9]) (rest := []) E.1 (m_X9_requireRange l hlt er4) (cwS 3 hts (xgS xU_sub q155 q156 q2 q157) rfl rfl rfl hdX9_requireRange ⟨Nat.le_of_ble_eq_true rfl, Nat.le_of_ble_eq_true rfl⟩) h hz rfl hl.1 rfl (Nat.le_of_ble_eq_true rfl) dX9_addColorant_11 ⟨Nat.le_of_ble_eq_true rfl, Nat.le_of_ble_eq_true rfl⟩ (fun Ex M9 hv9 H locs q9 ce9 h hq9 hc9 hn9 => ?_) (fun M5 hvy6 H locs h => ?_)
    · subst hv9
      refine vx_widen (k := 4) (n := 24) (Nat.le_of_ble_eq_true rfl) (Nat.le_of_ble_eq_true rfl) ?_
      exact x_Xout h (Option.some.inj hf) hex hlocks hq9 hc9 hn9
    · subst hvy6
      replace hf := xth_l hf
      refine lv_iload_n hx hb dX9_addColorant_14 rfl (lv_at hl 3 rfl) ?_
      refine lv_iconst (v := 0) hx hb dX9_addColorant_15 (by decide) ?_
      refine lv_bipush (v := 9) hx hb dX9_addColorant_16 (by decide) ?_
      obtain ⟨r7, er7, hf⟩ := xbd_s hf
      refine x_XSv (As := [.int v3, .int 0, .int 9]) (rest := []) E.1 (m_X9_requireRange l hlt er7) (cwS 3 hts (xgS xU_sub q155 q156 q2 q157) rfl rfl rfl hdX9_requireRange ⟨Nat.le_of_ble_eq_true rfl, Nat.le_of_ble_eq_true rfl⟩) h hz rfl hl.1 rfl (Nat.le_of_ble_eq_true rfl) dX9_addColorant_18 ⟨Nat.le_of_ble_eq_true rfl, Nat.le_of_ble_eq_true rfl⟩ (fun Ex M9 hv9 H locs q9 ce9 h hq9 hc9 hn9 => ?_) (fun M8 hvy9 H locs h => ?_)
      · subst hv9
        refine vx_widen (k := 4) (n := 24) (Nat.le_of_ble_eq_true rfl) (Nat.le_of_ble_eq_true rfl) ?_
        exact x_Xout h (Option.some.inj hf) hex hlocks hq9 hc9 hn9
      · subst hvy9
        replace hf := xth_l hf
        refine lv_aload_n hx hb dX9_addColorant_21 rfl (lv_at hl 0 rfl) ?_
        refine x_get (own := RX9) (ref := "TintDesk") (C := RX9) (T := TX9) (n := 10) (index := 12) (v := .ref (Γ.2.1 0)) hx hb hts (fun w h => xU_sub w (inU9 w h)) hown h kX_tint rfl 0 (by decide) (hts _ (xU_sub _ q16)) (fun _ h9 => h9) rfl dX9_addColorant_22 ?_
        refine x_get (own := RX9) (ref := "TintDesk$Desk") (C := RX3) (T := TX3) (n := 9) (index := 65) (v := .int (M8.1 0 4)) hx hb hts (fun w h => xU_sub w (inU3 w h)) hown h (kX_desk isDk_0) rfl 4 (by decide) (hts _ (xU_sub _ q154)) (fun _ h9 => h9) rfl dX9_addColorant_25 ?_
        refine lv_bipush (v := 8) hx hb dX9_addColorant_28 (by decide) ?_
        refine lv_icmp_lt (tgt := 43) hx hb dX9_addColorant_30 (by decide) (fun c10 => ?_) (fun c10 => ?_)
        · replace hf := xif_t hf c10
          refine lv_aload_n hx hb dX9_addColorant_43 rfl (lv_at hl 0 rfl) ?_
          refine x_get (own := RX9) (ref := "TintDesk") (C := RX9) (T := TX9) (n := 10) (index := 26) (v := .ref (Γ.2.1 1471)) hx hb hts (fun w h => xU_sub w (inU9 w h)) hown h kX_tint rfl 3 (by decide) (hts _ (xU_sub _ q22)) (fun _ h9 => h9) rfl dX9_addColorant_44 ?_
          refine lv_aload_n hx hb dX9_addColorant_47 rfl (lv_at hl 0 rfl) ?_
          refine x_get (own := RX9) (ref := "TintDesk") (C := RX9) (T := TX9) (n := 10) (index := 12) (v := .ref (Γ.2.1 0)) hx hb hts (fun w h => xU_sub w (inU9 w h)) hown h kX_tint rfl 0 (by decide) (hts _ (xU_sub _ q16)) (fun _ h9 => h9) rfl dX9_addColorant_48 ?_
          obtain ⟨r11, er11, hf⟩ := xbd_s hf
          refine x_Vv (As := [.ref (Γ.2.1 0)]) (rest := []) E.1 (m_X6_keep l isDk_0 er11) (cwV 1 hts (xgV xU_sub q160 q161 q162 q21 q163) rfl rfl rfl hdX6_keep ⟨Nat.le_of_ble_eq_true rfl, Nat.le_of_ble_eq_true rfl⟩) h kX_hist rfl rfl hl.1 rfl (Nat.le_of_ble_eq_true rfl) dX9_addColorant_51 ⟨Nat.le_of_ble_eq_true rfl, Nat.le_of_ble_eq_true rfl⟩ (fun H locs h => ?_)
          refine lv_aload_n hx hb dX9_addColorant_54 rfl (lv_at hl 0 rfl) ?_
          refine x_get (own := RX9) (ref := "TintDesk") (C := RX9) (T := TX9) (n := 10) (index := 12) (v := .ref (Γ.2.1 0)) hx hb hts (fun w h => xU_sub w (inU9 w h)) hown h kX_tint rfl 0 (by decide) (hts _ (xU_sub _ q16)) (fun _ h9 => h9) rfl dX9_addColorant_55 ?_
          refine lv_iload_n hx hb dX9_addColorant_58 rfl (lv_at hl 1 rfl) ?_
          refine lv_iload_n hx hb dX9_addColorant_59 rfl (lv_at hl 2 rfl) ?_
          refine lv_iload_n hx hb dX9_addColorant_60 rfl (lv_at hl 3 rfl) ?_
          obtain ⟨r12, er12, hf⟩ := xbd_s hf
          refine x_Vi (As := [.int v1, .int v2, .int v3]) (rest := []) E.1 (m_X3_makeColorant l isDk_0 er12) (cwV 3 hts (xgV xU_sub q195 q196 q197 q15 q198) rfl rfl rfl hdX3_makeColorant ⟨Nat.le_of_ble_eq_true rfl, Nat.le_of_ble_eq_true rfl⟩) h (kX_desk isDk_0) rfl rfl hl.1 rfl (Nat.le_of_ble_eq_true rfl) dX9_addColorant_61 ⟨Nat.le_of_ble_eq_true rfl, Nat.le_of_ble_eq_true rfl⟩ (fun H locs h => ?_)
          refine W.widen (k := 4) (n := 24) (Nat.le_of_ble_eq_true rfl) (Nat.le_of_ble_eq_true rfl) ?_
          exact x_Xiret hx hb h (Option.some.inj hf) hr hlocks dX9_addColorant_64
        · replace hf := xif_f hf c10
          exact x_throw (ik := 68) (is := 70) (ic := 72) (text := "8 colorants were made") hx hb hlt hown ft_IllegalStateException (hts _ (xU_sub _ q152)) (hts _ (xU_sub _ q153)) hts xU_sub at_IllegalStateException gd_IllegalStateException hz h (Option.some.inj hf) hl.1 hml dX9_addColorant_33 dX9_addColorant_36 dX9_addColorant_37 dX9_addColorant_39 dX9_addColorant_42 hex hlocks (by decide +kernel) (by decide) (by decide) (by decide) (by decide)
theorem hdX9_setLife : yX9_setLife.cls = RX9 ∧ yX9_setLife.cls ≠ "java/lang/invoke/MethodHandle" ∧ yX9_setLife.cls ≠ "java/lang/invoke/VarHandle" ∧ (parseMethodDescriptor yX9_setLife.desc).map (fun d => d.parameters.length) = some 2 := by decide +kernel
set_option maxHeartbeats 4000000 in
set_option maxRecDepth 100000 in
theorem m_X9_setLife (l : Launch) {Γ : xG} {N : Nat} {v1 : Int32} {v2 : Int32} {M : xM} {res : xE} (hlt : l.stackTraces = false) (hf : F_X9_setLife N v1 v2 M = some res) (sz : Nat) : vx_Met l yX9_setLife (xWs yX9_setLife cX9_setLife 5 (some .int)) ({ frames := 7, cells := 2, slots := 12, locals := 184 } : Room) (va_Pc [.ref (Γ.2.1 1470), .int v1, .int v2] (xPreZ Γ (wX Γ) 1483 M sz)) (xXi Γ (wX Γ) 1483 res sz) (xXX Γ (wX Γ) 1483 res sz) 2 12 (xAd Γ 1483 sz) := by
  refine x_Xmet (Qc := fun sz => xXi Γ (wX Γ) 1483 res sz) (XC := fun sz => xXX Γ (wX Γ) 1483 res sz) pnX9 wG_W (Nat.le_of_ble_eq_true rfl) (fun p e s m args below meth c E hex hz h ls hl => ?_) sz
  obtain ⟨⟨hx, hb, hml, hown, hts⟩, hr, hlocks⟩ := id E
  have hl : lv_has ls 5 [(0, .ref (Γ.2.1 1470)), (1, .int v1), (2, .int v2)] := hl
  refine lv_aload_n hx hb dX9_setLife_0 rfl (lv_at hl 0 rfl) ?_
  refine lv_iload_n hx hb dX9_setLife_1 rfl (lv_at hl 1 rfl) ?_
  obtain ⟨r1, er1, hf⟩ := xbd_s hf
  refine x_XVv (As := [.int v1]) (rest := []) E.1 (m_X9_requireColorant l hlt er1) (cwV 1 hts (xgV xU_sub q239 q240 q241 q2 q242) rfl rfl rfl hdX9_requireColorant ⟨Nat.le_of_ble_eq_true rfl, Nat.le_of_ble_eq_true rfl⟩) h hz kX_tint rfl rfl hl.1 rfl (Nat.le_of_ble_eq_true rfl) dX9_setLife_2 ⟨Nat.le_of_ble_eq_true rfl, Nat.le_of_ble_eq_true rfl⟩ (fun Ex M9 hv9 H locs q9 ce9 h hq9 hc9 hn9 => ?_) (fun M2 hvy3 H locs h => ?_)
  · subst hv9
    refine vx_widen (k := 2) (n := 12) (Nat.le_of_ble_eq_true rfl) (Nat.le_of_ble_eq_true rfl) ?_
    exact x_Xout h (Option.some.inj hf) hex hlocks hq9 hc9 hn9
  · subst hvy3
    replace hf := xth_l hf
    refine lv_iload_n hx hb dX9_setLife_5 rfl (lv_at hl 2 rfl) ?_
    refine lv_iconst (v := 1) hx hb dX9_setLife_6 (by decide) ?_
    refine lv_bipush (v := 99) hx hb dX9_setLife_7 (by decide) ?_
    obtain ⟨r4, er4, hf⟩ := xbd_s hf
    refine x_XSv (As := [.int v2, .int 1, .int 99]) (rest := []) E.1 (m_X9_requireRange l hlt er4) (cwS 3 hts (xgS xU_sub q155 q156 q2 q157) rfl rfl rfl hdX9_requireRange ⟨Nat.le_of_ble_eq_true rfl, Nat.le_of_ble_eq_true rfl⟩) h hz rfl hl.1 rfl (Nat.le_of_ble_eq_true rfl) dX9_setLife_9 ⟨Nat.le_of_ble_eq_true rfl, Nat.le_of_ble_eq_true rfl⟩ (fun Ex M9 hv9 H locs q9 ce9 h hq9 hc9 hn9 => ?_) (fun M5 hvy6 H locs h => ?_)
    · subst hv9
      exact x_Xout h (Option.some.inj hf) hex hlocks hq9 hc9 hn9
    · subst hvy6
      replace hf := xth_l hf
      refine lv_aload_n hx hb dX9_setLife_12 rfl (lv_at hl 0 rfl) ?_
      refine x_get (own := RX9) (ref := "TintDesk") (C := RX9) (T := TX9) (n := 10) (index := 26) (v := .ref (Γ.2.1 1471)) hx hb hts (fun w h => xU_sub w (inU9 w h)) hown h kX_tint rfl 3 (by decide) (hts _ (xU_sub _ q22)) (fun _ h9 => h9) rfl dX9_setLife_13 ?_
      refine lv_aload_n hx hb dX9_setLife_16 rfl (lv_at hl 0 rfl) ?_
      refine x_get (own := RX9) (ref := "TintDesk") (C := RX9) (T := TX9) (n := 10) (index := 12) (v := .ref (Γ.2.1 0)) hx hb hts (fun w h => xU_sub w (inU9 w h)) hown h kX_tint rfl 0 (by decide) (hts _ (xU_sub _ q16)) (fun _ h9 => h9) rfl dX9_setLife_17 ?_
      obtain ⟨r7, er7, hf⟩ := xbd_s hf
      refine x_Vv (As := [.ref (Γ.2.1 0)]) (rest := []) E.1 (m_X6_keep l isDk_0 er7) (cwV 1 hts (xgV xU_sub q160 q161 q162 q21 q163) rfl rfl rfl hdX6_keep ⟨Nat.le_of_ble_eq_true rfl, Nat.le_of_ble_eq_true rfl⟩) h kX_hist rfl rfl hl.1 rfl (Nat.le_of_ble_eq_true rfl) dX9_setLife_20 ⟨Nat.le_of_ble_eq_true rfl, Nat.le_of_ble_eq_true rfl⟩ (fun H locs h => ?_)
      refine lv_aload_n hx hb dX9_setLife_23 rfl (lv_at hl 0 rfl) ?_
      refine x_get (own := RX9) (ref := "TintDesk") (C := RX9) (T := TX9) (n := 10) (index := 12) (v := .ref (Γ.2.1 0)) hx hb hts (fun w h => xU_sub w (inU9 w h)) hown h kX_tint rfl 0 (by decide) (hts _ (xU_sub _ q16)) (fun _ h9 => h9) rfl dX9_setLife_24 ?_
      refine x_get (own := RX9) (ref := "TintDesk$Desk") (C := RX3) (T := TX3) (n := 9) (index := 87) (v := .ref (Γ.2.1 1)) hx hb hts (fun w h => xU_sub w (inU3 w h)) hown h (kX_desk isDk_0) rfl 0 (by decide) (hts _ (xU_sub _ q237)) (fun _ h9 => h9) rfl dX9_setLife_27 ?_
      refine lv_iload_n hx hb dX9_setLife_30 rfl (lv_at hl 1 rfl) ?_
      obtain ⟨c8, hf⟩ := xck_s hf
      refine x_aald (C := "TintDesk$Colorant") hx hb h rfl (kX_desk_colorants isDk_0) c8 dX9_setLife_31 ?_
      refine lv_astore_n (lv' := [(3, .ref (Γ.2.1 (0 + 5 + 5 * v1.toNatClampNeg))), (0, .ref (Γ.2.1 1470)), (1, .int v1), (2, .int v2)]) hx hb dX9_setLife_32 rfl hl (by decide) rfl (fun ls hl => ?_)
      refine lv_aload_n hx hb dX9_setLife_33 rfl (lv_at hl 0 rfl) ?_
      refine x_get (own := RX9) (ref := "TintDesk$Colorant") (C := RX2) (T := TX2) (n := 10) (index := 91) (v := .int (r7.1.1 (0 + 5 + 5 * v1.toNatClampNeg) 1)) hx hb hts (fun w h => xU_sub w (inU2 w h)) hown h (kX_colorant (isCo_of isDk_0 c8)) rfl 1 (by decide) (hts _ (xU_sub _ q238)) (fun _ h9 => h9) rfl dX9_setLife_34 ?_
      obtain ⟨y9, ey9, hf⟩ := xl_s hf
      refine x_nm ey9 ?_
      refine lv_istore (lv' := [(4, .int y9), (3, .ref (Γ.2.1 (0 + 5 + 5 * v1.toNatClampNeg))), (0, .ref (Γ.2.1 1470)), (1, .int v1), (2, .int v2)]) hx hb dX9_setLife_37 hl (by decide) rfl (fun ls hl => ?_)
      refine lv_aload_n hx hb dX9_setLife_39 rfl (lv_at hl 1 rfl) ?_
      refine lv_iload_n hx hb dX9_setLife_40 rfl (lv_at hl 4 rfl) ?_
      obtain ⟨M10, eM10, hf⟩ := xl_s hf
      refine x_put (own := RX9) (ref := "TintDesk$Colorant") (C := RX2) (T := TX2) (n := 10) (index := 91) (ty := .int) hx hb hts (fun w h => xU_sub w (inU2 w h)) tyX2 tyX2_ok nmX2 hown h (kX_colorant (isCo_of isDk_0 c8)) rfl 1 (by decide) (hts _ (xU_sub _ q238)) (fun _ h9 => h9) rfl (by decide +kernel) rfl rfl (Nat.le_of_ble_eq_true rfl) rfl eM10 dX9_setLife_41 (fun H locs h => ?_)
      refine lv_iload hx hb dX9_setLife_44 (lv_at hl 0 rfl) ?_
      exact x_Xiret hx hb h (Option.some.inj hf) hr hlocks dX9_setLife_46
theorem hdX9_refill : yX9_refill.cls = RX9 ∧ yX9_refill.cls ≠ "java/lang/invoke/MethodHandle" ∧ yX9_refill.cls ≠ "java/lang/invoke/VarHandle" ∧ (parseMethodDescriptor yX9_refill.desc).map (fun d => d.parameters.length) = some 3 := by decide +kernel
set_option maxHeartbeats 4000000 in
set_option maxRecDepth 100000 in
theorem w_X9_refill_47 (l : Launch) {p : Program} {e : Env} {s : State} {m : MethodId} {args : Array Value} {below : List Frame} {meth : Method} {c : Code} {Γ : xG} {N : Nat} {k4 : Nat} {res : xE} (hlt : l.stackTraces = false) (hz : xZ Γ 1483 s.heap.size s) (hex : ∀ x ∈ c.exceptionTable.toList, False) (E : xEv p s m args meth c RX9 cX9_refill 5 (some .int) (xWs yX9_refill cX9_refill 5 (some .int))) (h4 : isCo k4) : ∀ (v2 : Int32) (v3 : Int32) (t0 : Int32) (M : xM), L_X9_refill_47 N k4 v2 v3 t0 M = some res → ∀ (H : Heap) (locs : List Loc) (ls : Array Slot), xH Γ (wX Γ) 1483 s M H locs → lv_has ls 5 [(0, .ref (Γ.2.1 1470)), (2, .int v2), (3, .int v3), (4, .ref (Γ.2.1 k4))] → W p l e ({ frames := 7, cells := 4, slots := 24, locals := 184 } : Room) s m args below meth c H locs 3 18 (vx_MQ below (xXi Γ (wX Γ) 1483 res s.heap.size) (xXX Γ (wX Γ) 1483 res s.heap.size) args s 4 24 (xAd Γ 1483 s.heap.size)) (F0 m 47 ls [.int t0, .ref (Γ.2.1 1470)]) := by
  obtain ⟨⟨hx, hb, hml, hown, hts⟩, hr, hlocks⟩ := id E
  intro v2 v3 t0 M hf H locs ls h hl
  refine lv_iconst (v := (-1)) hx hb dX9_refill_47 (by decide) ?_
  obtain ⟨r1, er1, hf⟩ := xbd_s hf
  refine x_XVv (As := [.int t0, .int (-1)]) (rest := []) E.1 (m_X9_stopIfRefused l hlt er1) (cwV 2 hts (xgV xU_sub q267 q268 q269 q2 q270) rfl rfl rfl hdX9_stopIfRefused ⟨Nat.le_of_ble_eq_true rfl, Nat.le_of_ble_eq_true rfl⟩) h hz kX_tint rfl rfl hl.1 rfl (Nat.le_of_ble_eq_true rfl) dX9_refill_48 ⟨Nat.le_of_ble_eq_true rfl, Nat.le_of_ble_eq_true rfl⟩ (fun Ex M9 hv9 H locs q9 ce9 h hq9 hc9 hn9 => ?_) (fun M2 hvy3 H locs h => ?_)
  · subst hv9
    exact x_Xout h (Option.some.inj hf) hex hlocks hq9 hc9 hn9
  · subst hvy3
    replace hf := xth_l hf
    refine lv_aload_n hx hb dX9_refill_51 rfl (lv_at hl 0 rfl) ?_
    refine x_get (own := RX9) (ref := "TintDesk") (C := RX9) (T := TX9) (n := 10) (index := 26) (v := .ref (Γ.2.1 1471)) hx hb hts (fun w h => xU_sub w (inU9 w h)) hown h kX_tint rfl 3 (by decide) (hts _ (xU_sub _ q22)) (fun _ h9 => h9) rfl dX9_refill_52 ?_
    refine lv_aload_n hx hb dX9_refill_55 rfl (lv_at hl 0 rfl) ?_
    refine x_get (own := RX9) (ref := "TintDesk") (C := RX9) (T := TX9) (n := 10) (index := 12) (v := .ref (Γ.2.1 0)) hx hb hts (fun w h => xU_sub w (inU9 w h)) hown h kX_tint rfl 0 (by decide) (hts _ (xU_sub _ q16)) (fun _ h9 => h9) rfl dX9_refill_56 ?_
    obtain ⟨r4, er4, hf⟩ := xbd_s hf
    refine x_Vv (As := [.ref (Γ.2.1 0)]) (rest := []) E.1 (m_X6_keep l isDk_0 er4) (cwV 1 hts (xgV xU_sub q160 q161 q162 q21 q163) rfl rfl rfl hdX6_keep ⟨Nat.le_of_ble_eq_true rfl, Nat.le_of_ble_eq_true rfl⟩) h kX_hist rfl rfl hl.1 rfl (Nat.le_of_ble_eq_true rfl) dX9_refill_59 ⟨Nat.le_of_ble_eq_true rfl, Nat.le_of_ble_eq_true rfl⟩ (fun H locs h => ?_)
    refine lv_aload hx hb dX9_refill_62 (lv_at hl 3 rfl) ?_
    refine lv_iload_n hx hb dX9_refill_64 rfl (lv_at hl 1 rfl) ?_
    refine lv_iload_n hx hb dX9_refill_65 rfl (lv_at hl 2 rfl) ?_
    refine lv_aload_n hx hb dX9_refill_66 rfl (lv_at hl 0 rfl) ?_
    refine x_get (own := RX9) (ref := "TintDesk") (C := RX9) (T := TX9) (n := 10) (index := 12) (v := .ref (Γ.2.1 0)) hx hb hts (fun w h => xU_sub w (inU9 w h)) hown h kX_tint rfl 0 (by decide) (hts _ (xU_sub _ q16)) (fun _ h9 => h9) rfl dX9_refill_67 ?_
    refine x_get (own := RX9) (ref := "TintDesk$Desk") (C := RX3) (T := TX3) (n := 9) (index := 103) (v := .int (r4.1.1 0 8)) hx hb hts (fun w h => xU_sub w (inU3 w h)) hown h (kX_desk isDk_0) rfl 8 (by decide) (hts _ (xU_sub _ q266)) (fun _ h9 => h9) rfl dX9_refill_70 ?_
    obtain ⟨r5, er5, hf⟩ := xbd_s hf
    refine x_Vv (As := [.int v2, .int v3, .int (r4.1.1 0 8)]) (rest := []) E.1 (m_X2_putLot l h4 er5) (cwV 3 hts (xgV xU_sub q273 q274 q275 q56 q276) rfl rfl rfl hdX2_putLot ⟨Nat.le_of_ble_eq_true rfl, Nat.le_of_ble_eq_true rfl⟩) h (kX_colorant h4) rfl rfl hl.1 rfl (Nat.le_of_ble_eq_true rfl) dX9_refill_73 ⟨Nat.le_of_ble_eq_true rfl, Nat.le_of_ble_eq_true rfl⟩ (fun H locs h => ?_)
    refine lv_aload hx hb dX9_refill_76 (lv_at hl 3 rfl) ?_
    obtain ⟨r6, er6, hf⟩ := xbd_s hf
    refine x_Vi (As := []) (rest := []) E.1 (m_X2_stepsInside l h4 er6) (cwV 0 hts (xgV xU_sub q277 q278 q279 q56 q280) rfl rfl rfl hdX2_stepsInside ⟨Nat.le_of_ble_eq_true rfl, Nat.le_of_ble_eq_true rfl⟩) h (kX_colorant h4) rfl rfl hl.1 rfl (Nat.le_of_ble_eq_true rfl) dX9_refill_78 ⟨Nat.le_of_ble_eq_true rfl, Nat.le_of_ble_eq_true rfl⟩ (fun H locs h => ?_)
    exact x_Xiret hx hb h (Option.some.inj hf) hr hlocks dX9_refill_81
set_option maxHeartbeats 4000000 in
set_option maxRecDepth 100000 in
theorem m_X9_refill (l : Launch) {Γ : xG} {N : Nat} {v1 : Int32} {v2 : Int32} {v3 : Int32} {M : xM} {res : xE} (hlt : l.stackTraces = false) (hf : F_X9_refill N v1 v2 v3 M = some res) (sz : Nat) : vx_Met l yX9_refill (xWs yX9_refill cX9_refill 5 (some .int)) ({ frames := 7, cells := 4, slots := 24, locals := 184 } : Room) (va_Pc [.ref (Γ.2.1 1470), .int v1, .int v2, .int v3] (xPreZ Γ (wX Γ) 1483 M sz)) (xXi Γ (wX Γ) 1483 res sz) (xXX Γ (wX Γ) 1483 res sz) 4 24 (xAd Γ 1483 sz) := by
  refine x_Xmet (Qc := fun sz => xXi Γ (wX Γ) 1483 res sz) (XC := fun sz => xXX Γ (wX Γ) 1483 res sz) pnX9 wG_W (Nat.le_of_ble_eq_true rfl) (fun p e s m args below meth c E hex hz h ls hl => ?_) sz
  obtain ⟨⟨hx, hb, hml, hown, hts⟩, hr, hlocks⟩ := id E
  have hl : lv_has ls 5 [(0, .ref (Γ.2.1 1470)), (1, .int v1), (2, .int v2), (3, .int v3)] := hl
  refine lv_aload_n hx hb dX9_refill_0 rfl (lv_at hl 0 rfl) ?_
  refine lv_iload_n hx hb dX9_refill_1 rfl (lv_at hl 1 rfl) ?_
  obtain ⟨r1, er1, hf⟩ := xbd_s hf
  refine x_XVv (As := [.int v1]) (rest := []) E.1 (m_X9_requireColorant l hlt er1) (cwV 1 hts (xgV xU_sub q239 q240 q241 q2 q242) rfl rfl rfl hdX9_requireColorant ⟨Nat.le_of_ble_eq_true rfl, Nat.le_of_ble_eq_true rfl⟩) h hz kX_tint rfl rfl hl.1 rfl (Nat.le_of_ble_eq_true rfl) dX9_refill_2 ⟨Nat.le_of_ble_eq_true rfl, Nat.le_of_ble_eq_true rfl⟩ (fun Ex M9 hv9 H locs q9 ce9 h hq9 hc9 hn9 => ?_) (fun M2 hvy3 H locs h => ?_)
  · subst hv9
    refine vx_widen (k := 4) (n := 24) (Nat.le_of_ble_eq_true rfl) (Nat.le_of_ble_eq_true rfl) ?_
    exact x_Xout h (Option.some.inj hf) hex hlocks hq9 hc9 hn9
  · subst hvy3
    replace hf := xth_l hf
    refine lv_iload_n hx hb dX9_refill_5 rfl (lv_at hl 2 rfl) ?_
    refine lv_iconst (v := 0) hx hb dX9_refill_6 (by decide) ?_
    refine lv_bipush (v := 99) hx hb dX9_refill_7 (by decide) ?_
    obtain ⟨r4, er4, hf⟩ := xbd_s hf
    refine x_XSv (As := [.int v2, .int 0, .int 99]) (rest := []) E.1 (m_X9_requireRange l hlt er4) (cwS 3 hts (xgS xU_sub q155 q156 q2 q157) rfl rfl rfl hdX9_requireRange ⟨Nat.le_of_ble_eq_true rfl, Nat.le_of_ble_eq_true rfl⟩) h hz rfl hl.1 rfl (Nat.le_of_ble_eq_true rfl) dX9_refill_9 ⟨Nat.le_of_ble_eq_true rfl, Nat.le_of_ble_eq_true rfl⟩ (fun Ex M9 hv9 H locs q9 ce9 h hq9 hc9 hn9 => ?_) (fun M5 hvy6 H locs h => ?_)
    · subst hv9
      refine vx_widen (k := 4) (n := 24) (Nat.le_of_ble_eq_true rfl) (Nat.le_of_ble_eq_true rfl) ?_
      exact x_Xout h (Option.some.inj hf) hex hlocks hq9 hc9 hn9
    · subst hvy6
      replace hf := xth_l hf
      refine lv_iload_n hx hb dX9_refill_12 rfl (lv_at hl 3 rfl) ?_
      refine lv_iconst (v := 1) hx hb dX9_refill_13 (by decide) ?_
      refine lv_sipush (v := 500) hx hb dX9_refill_14 (by decide) ?_
      obtain ⟨r7, er7, hf⟩ := xbd_s hf
      refine x_XSv (As := [.int v3, .int 1, .int 500]) (rest := []) E.1 (m_X9_requireRange l hlt er7) (cwS 3 hts (xgS xU_sub q155 q156 q2 q157) rfl rfl rfl hdX9_requireRange ⟨Nat.le_of_ble_eq_true rfl, Nat.le_of_ble_eq_true rfl⟩) h hz rfl hl.1 rfl (Nat.le_of_ble_eq_true rfl) dX9_refill_17 ⟨Nat.le_of_ble_eq_true rfl, Nat.le_of_ble_eq_true rfl⟩ (fun Ex M9 hv9 H locs q9 ce9 h hq9 hc9 hn9 => ?_) (fun M8 hvy9 H locs h => ?_)
      · subst hv9
        refine vx_widen (k := 4) (n := 24) (Nat.le_of_ble_eq_true rfl) (Nat.le_of_ble_eq_true rfl) ?_
        exact x_Xout h (Option.some.inj hf) hex hlocks hq9 hc9 hn9
      · subst hvy9
        replace hf := xth_l hf
        refine lv_aload_n hx hb dX9_refill_20 rfl (lv_at hl 0 rfl) ?_
        refine x_get (own := RX9) (ref := "TintDesk") (C := RX9) (T := TX9) (n := 10) (index := 12) (v := .ref (Γ.2.1 0)) hx hb hts (fun w h => xU_sub w (inU9 w h)) hown h kX_tint rfl 0 (by decide) (hts _ (xU_sub _ q16)) (fun _ h9 => h9) rfl dX9_refill_21 ?_
        refine x_get (own := RX9) (ref := "TintDesk$Desk") (C := RX3) (T := TX3) (n := 9) (index := 87) (v := .ref (Γ.2.1 1)) hx hb hts (fun w h => xU_sub w (inU3 w h)) hown h (kX_desk isDk_0) rfl 0 (by decide) (hts _ (xU_sub _ q237)) (fun _ h9 => h9) rfl dX9_refill_24 ?_
        refine lv_iload_n hx hb dX9_refill_27 rfl (lv_at hl 1 rfl) ?_
        obtain ⟨c10, hf⟩ := xck_s hf
        refine x_aald (C := "TintDesk$Colorant") hx hb h rfl (kX_desk_colorants isDk_0) c10 dX9_refill_28 ?_
        refine lv_astore (lv' := [(4, .ref (Γ.2.1 (0 + 5 + 5 * v1.toNatClampNeg))), (0, .ref (Γ.2.1 1470)), (1, .int v1), (2, .int v2), (3, .int v3)]) hx hb dX9_refill_29 hl (by decide) rfl (fun ls hl => ?_)
        refine lv_aload_n hx hb dX9_refill_31 rfl (lv_at hl 1 rfl) ?_
        refine lv_aload hx hb dX9_refill_32 (lv_at hl 0 rfl) ?_
        refine x_get (own := RX9) (ref := "TintDesk$Colorant") (C := RX2) (T := TX2) (n := 10) (index := 96) (v := .int (M8.1 (0 + 5 + 5 * v1.toNatClampNeg) 6)) hx hb hts (fun w h => xU_sub w (inU2 w h)) hown h (kX_colorant (isCo_of isDk_0 c10)) rfl 6 (by decide) (hts _ (xU_sub _ q265)) (fun _ h9 => h9) rfl dX9_refill_34 ?_
        refine lv_bipush (v := 12) hx hb dX9_refill_37 (by decide) ?_
        refine lv_icmp_lt (tgt := 46) hx hb dX9_refill_39 (by decide) (fun c11 => ?_) (fun c11 => ?_)
        · replace hf := xif_t hf c11
          refine lv_iconst (v := 0) hx hb dX9_refill_46 (by decide) ?_
          exact w_X9_refill_47 l hlt hz hex E (isCo_of isDk_0 c10) v2 v3 0 M8 hf _ _ _ h (lv_sub hl [1, 3, 4, 0] rfl)
        · replace hf := xif_f hf c11
          refine lv_iconst (v := 2) hx hb dX9_refill_42 (by decide) ?_
          refine lv_goto (tgt := 47) hx hb dX9_refill_43 (by decide) ?_
          exact w_X9_refill_47 l hlt hz hex E (isCo_of isDk_0 c10) v2 v3 2 M8 hf _ _ _ h (lv_sub hl [1, 3, 4, 0] rfl)
theorem hdX9_recall : yX9_recall.cls = RX9 ∧ yX9_recall.cls ≠ "java/lang/invoke/MethodHandle" ∧ yX9_recall.cls ≠ "java/lang/invoke/VarHandle" ∧ (parseMethodDescriptor yX9_recall.desc).map (fun d => d.parameters.length) = some 2 := by decide +kernel
set_option maxHeartbeats 4000000 in
set_option maxRecDepth 100000 in
theorem m_X9_recall (l : Launch) {Γ : xG} {N : Nat} {v1 : Int32} {v2 : Int32} {M : xM} {res : xE} (hlt : l.stackTraces = false) (hf : F_X9_recall N v1 v2 M = some res) (sz : Nat) : vx_Met l yX9_recall (xWs yX9_recall cX9_recall 3 (some .int)) ({ frames := 7, cells := 2, slots := 12, locals := 184 } : Room) (va_Pc [.ref (Γ.2.1 1470), .int v1, .int v2] (xPreZ Γ (wX Γ) 1483 M sz)) (xXi Γ (wX Γ) 1483 res sz) (xXX Γ (wX Γ) 1483 res sz) 2 12 (xAd Γ 1483 sz) := by
  refine x_Xmet (Qc := fun sz => xXi Γ (wX Γ) 1483 res sz) (XC := fun sz => xXX Γ (wX Γ) 1483 res sz) pnX9 wG_W (Nat.le_of_ble_eq_true rfl) (fun p e s m args below meth c E hex hz h ls hl => ?_) sz
  obtain ⟨⟨hx, hb, hml, hown, hts⟩, hr, hlocks⟩ := id E
  have hl : lv_has ls 3 [(0, .ref (Γ.2.1 1470)), (1, .int v1), (2, .int v2)] := hl
  refine lv_aload_n hx hb dX9_recall_0 rfl (lv_at hl 0 rfl) ?_
  refine lv_iload_n hx hb dX9_recall_1 rfl (lv_at hl 1 rfl) ?_
  obtain ⟨r1, er1, hf⟩ := xbd_s hf
  refine x_XVv (As := [.int v1]) (rest := []) E.1 (m_X9_requireColorant l hlt er1) (cwV 1 hts (xgV xU_sub q239 q240 q241 q2 q242) rfl rfl rfl hdX9_requireColorant ⟨Nat.le_of_ble_eq_true rfl, Nat.le_of_ble_eq_true rfl⟩) h hz kX_tint rfl rfl hl.1 rfl (Nat.le_of_ble_eq_true rfl) dX9_recall_2 ⟨Nat.le_of_ble_eq_true rfl, Nat.le_of_ble_eq_true rfl⟩ (fun Ex M9 hv9 H locs q9 ce9 h hq9 hc9 hn9 => ?_) (fun M2 hvy3 H locs h => ?_)
  · subst hv9
    refine vx_widen (k := 2) (n := 12) (Nat.le_of_ble_eq_true rfl) (Nat.le_of_ble_eq_true rfl) ?_
    exact x_Xout h (Option.some.inj hf) hex hlocks hq9 hc9 hn9
  · subst hvy3
    replace hf := xth_l hf
    refine lv_iload_n hx hb dX9_recall_5 rfl (lv_at hl 2 rfl) ?_
    refine lv_iconst (v := 0) hx hb dX9_recall_6 (by decide) ?_
    refine lv_bipush (v := 99) hx hb dX9_recall_7 (by decide) ?_
    obtain ⟨r4, er4, hf⟩ := xbd_s hf
    refine x_XSv (As := [.int v2, .int 0, .int 99]) (rest := []) E.1 (m_X9_requireRange l hlt er4) (cwS 3 hts (xgS xU_sub q155 q156 q2 q157) rfl rfl rfl hdX9_requireRange ⟨Nat.le_of_ble_eq_true rfl, Nat.le_of_ble_eq_true rfl⟩) h hz rfl hl.1 rfl (Nat.le_of_ble_eq_true rfl) dX9_recall_9 ⟨Nat.le_of_ble_eq_true rfl, Nat.le_of_ble_eq_true rfl⟩ (fun Ex M9 hv9 H locs q9 ce9 h hq9 hc9 hn9 => ?_) (fun M5 hvy6 H locs h => ?_)
    · subst hv9
      exact x_Xout h (Option.some.inj hf) hex hlocks hq9 hc9 hn9
    · subst hvy6
      replace hf := xth_l hf
      refine lv_aload_n hx hb dX9_recall_12 rfl (lv_at hl 0 rfl) ?_
      refine x_get (own := RX9) (ref := "TintDesk") (C := RX9) (T := TX9) (n := 10) (index := 26) (v := .ref (Γ.2.1 1471)) hx hb hts (fun w h => xU_sub w (inU9 w h)) hown h kX_tint rfl 3 (by decide) (hts _ (xU_sub _ q22)) (fun _ h9 => h9) rfl dX9_recall_13 ?_
      refine lv_aload_n hx hb dX9_recall_16 rfl (lv_at hl 0 rfl) ?_
      refine x_get (own := RX9) (ref := "TintDesk") (C := RX9) (T := TX9) (n := 10) (index := 12) (v := .ref (Γ.2.1 0)) hx hb hts (fun w h => xU_sub w (inU9 w h)) hown h kX_tint rfl 0 (by decide) (hts _ (xU_sub _ q16)) (fun _ h9 => h9) rfl dX9_recall_17 ?_
      obtain ⟨r7, er7, hf⟩ := xbd_s hf
      refine x_Vv (As := [.ref (Γ.2.1 0)]) (rest := []) E.1 (m_X6_keep l isDk_0 er7) (cwV 1 hts (xgV xU_sub q160 q161 q162 q21 q163) rfl rfl rfl hdX6_keep ⟨Nat.le_of_ble_eq_true rfl, Nat.le_of_ble_eq_true rfl⟩) h kX_hist rfl rfl hl.1 rfl (Nat.le_of_ble_eq_true rfl) dX9_recall_20 ⟨Nat.le_of_ble_eq_true rfl, Nat.le_of_ble_eq_true rfl⟩ (fun H locs h => ?_)
      refine lv_aload_n hx hb dX9_recall_23 rfl (lv_at hl 0 rfl) ?_
      refine x_get (own := RX9) (ref := "TintDesk") (C := RX9) (T := TX9) (n := 10) (index := 12) (v := .ref (Γ.2.1 0)) hx hb hts (fun w h => xU_sub w (inU9 w h)) hown h kX_tint rfl 0 (by decide) (hts _ (xU_sub _ q16)) (fun _ h9 => h9) rfl dX9_recall_24 ?_
      refine x_get (own := RX9) (ref := "TintDesk$Desk") (C := RX3) (T := TX3) (n := 9) (index := 87) (v := .ref (Γ.2.1 1)) hx hb hts (fun w h => xU_sub w (inU3 w h)) hown h (kX_desk isDk_0) rfl 0 (by decide) (hts _ (xU_sub _ q237)) (fun _ h9 => h9) rfl dX9_recall_27 ?_
      refine lv_iload_n hx hb dX9_recall_30 rfl (lv_at hl 1 rfl) ?_
      obtain ⟨c8, hf⟩ := xck_s hf
      refine x_aald (C := "TintDesk$Colorant") hx hb h rfl (kX_desk_colorants isDk_0) c8 dX9_recall_31 ?_
      refine lv_iload_n hx hb dX9_recall_32 rfl (lv_at hl 2 rfl) ?_
      obtain ⟨r9, er9, hf⟩ := xbd_s hf
      refine x_Vi (As := [.int v2]) (rest := []) E.1 (m_X2_takeBackLots l (isCo_of isDk_0 c8) er9) (cwV 1 hts (xgV xU_sub q304 q305 q306 q56 q307) rfl rfl rfl hdX2_takeBackLots ⟨Nat.le_of_ble_eq_true rfl, Nat.le_of_ble_eq_true rfl⟩) h (kX_colorant (isCo_of isDk_0 c8)) rfl rfl hl.1 rfl (Nat.le_of_ble_eq_true rfl) dX9_recall_33 ⟨Nat.le_of_ble_eq_true rfl, Nat.le_of_ble_eq_true rfl⟩ (fun H locs h => ?_)
      exact x_Xiret hx hb h (Option.some.inj hf) hr hlocks dX9_recall_36
theorem hdX9_colorant : yX9_colorant.cls = RX9 ∧ yX9_colorant.cls ≠ "java/lang/invoke/MethodHandle" ∧ yX9_colorant.cls ≠ "java/lang/invoke/VarHandle" ∧ (parseMethodDescriptor yX9_colorant.desc).map (fun d => d.parameters.length) = some 2 := by decide +kernel
set_option maxHeartbeats 4000000 in
set_option maxRecDepth 100000 in
theorem m_X9_colorant (l : Launch) {Γ : xG} {N : Nat} {v1 : Int32} {v2 : Int32} {M : xM} {res : xE} (hlt : l.stackTraces = false) (hf : F_X9_colorant N v1 v2 M = some res) (sz : Nat) : vx_Met l yX9_colorant (xWs yX9_colorant cX9_colorant 3 (some .int)) ({ frames := 7, cells := 2, slots := 12, locals := 142 } : Room) (va_Pc [.ref (Γ.2.1 1470), .int v1, .int v2] (xPreZ Γ (wX Γ) 1483 M sz)) (xXi Γ (wX Γ) 1483 res sz) (xXX Γ (wX Γ) 1483 res sz) 2 12 (xAd Γ 1483 sz) := by
  refine x_Xmet (Qc := fun sz => xXi Γ (wX Γ) 1483 res sz) (XC := fun sz => xXX Γ (wX Γ) 1483 res sz) pnX9 wG_W (Nat.le_of_ble_eq_true rfl) (fun p e s m args below meth c E hex hz h ls hl => ?_) sz
  obtain ⟨⟨hx, hb, hml, hown, hts⟩, hr, hlocks⟩ := id E
  have hl : lv_has ls 3 [(0, .ref (Γ.2.1 1470)), (1, .int v1), (2, .int v2)] := hl
  refine lv_aload_n hx hb dX9_colorant_0 rfl (lv_at hl 0 rfl) ?_
  refine lv_iload_n hx hb dX9_colorant_1 rfl (lv_at hl 1 rfl) ?_
  obtain ⟨r1, er1, hf⟩ := xbd_s hf
  refine x_XVv (As := [.int v1]) (rest := []) E.1 (m_X9_requireColorant l hlt er1) (cwV 1 hts (xgV xU_sub q239 q240 q241 q2 q242) rfl rfl rfl hdX9_requireColorant ⟨Nat.le_of_ble_eq_true rfl, Nat.le_of_ble_eq_true rfl⟩) h hz kX_tint rfl rfl hl.1 rfl (Nat.le_of_ble_eq_true rfl) dX9_colorant_2 ⟨Nat.le_of_ble_eq_true rfl, Nat.le_of_ble_eq_true rfl⟩ (fun Ex M9 hv9 H locs q9 ce9 h hq9 hc9 hn9 => ?_) (fun M2 hvy3 H locs h => ?_)
  · subst hv9
    refine vx_widen (k := 2) (n := 12) (Nat.le_of_ble_eq_true rfl) (Nat.le_of_ble_eq_true rfl) ?_
    exact x_Xout h (Option.some.inj hf) hex hlocks hq9 hc9 hn9
  · subst hvy3
    replace hf := xth_l hf
    refine lv_iload_n hx hb dX9_colorant_5 rfl (lv_at hl 2 rfl) ?_
    refine lv_iconst (v := 0) hx hb dX9_colorant_6 (by decide) ?_
    refine lv_bipush (v := 9) hx hb dX9_colorant_7 (by decide) ?_
    obtain ⟨r4, er4, hf⟩ := xbd_s hf
    refine x_XSv (As := [.int v2, .int 0, .int 9]) (rest := []) E.1 (m_X9_requireRange l hlt er4) (cwS 3 hts (xgS xU_sub q155 q156 q2 q157) rfl rfl rfl hdX9_requireRange ⟨Nat.le_of_ble_eq_true rfl, Nat.le_of_ble_eq_true rfl⟩) h hz rfl hl.1 rfl (Nat.le_of_ble_eq_true rfl) dX9_colorant_9 ⟨Nat.le_of_ble_eq_true rfl, Nat.le_of_ble_eq_true rfl⟩ (fun Ex M9 hv9 H locs q9 ce9 h hq9 hc9 hn9 => ?_) (fun M5 hvy6 H locs h => ?_)
    · subst hv9
      exact x_Xout h (Option.some.inj hf) hex hlocks hq9 hc9 hn9
    · subst hvy6
      replace hf := xth_l hf
      refine lv_aload_n hx hb dX9_colorant_12 rfl (lv_at hl 0 rfl) ?_
      refine x_get (own := RX9) (ref := "TintDesk") (C := RX9) (T := TX9) (n := 10) (index := 12) (v := .ref (Γ.2.1 0)) hx hb hts (fun w h => xU_sub w (inU9 w h)) hown h kX_tint rfl 0 (by decide) (hts _ (xU_sub _ q16)) (fun _ h9 => h9) rfl dX9_colorant_13 ?_
      refine x_get (own := RX9) (ref := "TintDesk$Desk") (C := RX3) (T := TX3) (n := 9) (index := 87) (v := .ref (Γ.2.1 1)) hx hb hts (fun w h => xU_sub w (inU3 w h)) hown h (kX_desk isDk_0) rfl 0 (by decide) (hts _ (xU_sub _ q237)) (fun _ h9 => h9) rfl dX9_colorant_16 ?_
      refine lv_iload_n hx hb dX9_colorant_19 rfl (lv_at hl 1 rfl) ?_
      obtain ⟨c7, hf⟩ := xck_s hf
      refine x_aald (C := "TintDesk$Colorant") hx hb h rfl (kX_desk_colorants isDk_0) c7 dX9_colorant_20 ?_
      refine lv_iload_n hx hb dX9_colorant_21 rfl (lv_at hl 2 rfl) ?_
      obtain ⟨r8, er8, hf⟩ := xbd_s hf
      refine x_Vi (As := [.int v2]) (rest := []) E.1 (m_X2_numberFor l (isCo_of isDk_0 c7) er8) (cwV 1 hts (xgV xU_sub q327 q328 q329 q56 q330) rfl rfl rfl hdX2_numberFor ⟨Nat.le_of_ble_eq_true rfl, Nat.le_of_ble_eq_true rfl⟩) h (kX_colorant (isCo_of isDk_0 c7)) rfl rfl hl.1 rfl (Nat.le_of_ble_eq_true rfl) dX9_colorant_22 ⟨Nat.le_of_ble_eq_true rfl, Nat.le_of_ble_eq_true rfl⟩ (fun H locs h => ?_)
      exact x_Xiret hx hb h (Option.some.inj hf) hr hlocks dX9_colorant_25
theorem hdX9_lot : yX9_lot.cls = RX9 ∧ yX9_lot.cls ≠ "java/lang/invoke/MethodHandle" ∧ yX9_lot.cls ≠ "java/lang/invoke/VarHandle" ∧ (parseMethodDescriptor yX9_lot.desc).map (fun d => d.parameters.length) = some 3 := by decide +kernel
set_option maxHeartbeats 4000000 in
set_option maxRecDepth 100000 in
theorem w_X9_lot_29 (l : Launch) {p : Program} {e : Env} {s : State} {m : MethodId} {args : Array Value} {below : List Frame} {meth : Method} {c : Code} {Γ : xG} {N : Nat} {res : xE} (hlt : l.stackTraces = false) (hz : xZ Γ 1483 s.heap.size s) (hex : ∀ x ∈ c.exceptionTable.toList, False) (E : xEv p s m args meth c RX9 cX9_lot 5 (some .int) (xWs yX9_lot cX9_lot 5 (some .int))) : ∀ (M : xM), L_X9_lot_29 N M = some res → ∀ (H : Heap) (locs : List Loc) (ls : Array Slot), xH Γ (wX Γ) 1483 s M H locs → lv_has ls 5 [] → W p l e ({ frames := 7, cells := 2, slots := 12, locals := 142 } : Room) s m args below meth c H locs 1 6 (vx_MQ below (xXi Γ (wX Γ) 1483 res s.heap.size) (xXX Γ (wX Γ) 1483 res s.heap.size) args s 2 12 (xAd Γ 1483 s.heap.size)) (F0 m 29 ls []) := by
  obtain ⟨⟨hx, hb, hml, hown, hts⟩, hr, hlocks⟩ := id E
  intro M hf H locs ls h hl
  exact x_throwN (ik := 120) (is := 122) (text := "there is no such lot") hx hb hlt hown (hts _ (xU_sub _ q344)) (hts _ (xU_sub _ q345)) hts xU_sub hz h (Option.some.inj hf) hl.1 hml dX9_lot_29 dX9_lot_32 dX9_lot_33 dX9_lot_35 dX9_lot_38 hex hlocks (by decide +kernel) (by decide) (by decide) (by decide) (by decide)
set_option maxHeartbeats 4000000 in
set_option maxRecDepth 100000 in
theorem m_X9_lot (l : Launch) {Γ : xG} {N : Nat} {v1 : Int32} {v2 : Int32} {v3 : Int32} {M : xM} {res : xE} (hlt : l.stackTraces = false) (hf : F_X9_lot N v1 v2 v3 M = some res) (sz : Nat) : vx_Met l yX9_lot (xWs yX9_lot cX9_lot 5 (some .int)) ({ frames := 7, cells := 2, slots := 12, locals := 142 } : Room) (va_Pc [.ref (Γ.2.1 1470), .int v1, .int v2, .int v3] (xPreZ Γ (wX Γ) 1483 M sz)) (xXi Γ (wX Γ) 1483 res sz) (xXX Γ (wX Γ) 1483 res sz) 2 12 (xAd Γ 1483 sz) := by
  refine x_Xmet (Qc := fun sz => xXi Γ (wX Γ) 1483 res sz) (XC := fun sz => xXX Γ (wX Γ) 1483 res sz) pnX9 wG_W (Nat.le_of_ble_eq_true rfl) (fun p e s m args below meth c E hex hz h ls hl => ?_) sz
  obtain ⟨⟨hx, hb, hml, hown, hts⟩, hr, hlocks⟩ := id E
  have hl : lv_has ls 5 [(0, .ref (Γ.2.1 1470)), (1, .int v1), (2, .int v2), (3, .int v3)] := hl
  refine lv_aload_n hx hb dX9_lot_0 rfl (lv_at hl 0 rfl) ?_
  refine lv_iload_n hx hb dX9_lot_1 rfl (lv_at hl 1 rfl) ?_
  obtain ⟨r1, er1, hf⟩ := xbd_s hf
  refine x_XVv (As := [.int v1]) (rest := []) E.1 (m_X9_requireColorant l hlt er1) (cwV 1 hts (xgV xU_sub q239 q240 q241 q2 q242) rfl rfl rfl hdX9_requireColorant ⟨Nat.le_of_ble_eq_true rfl, Nat.le_of_ble_eq_true rfl⟩) h hz kX_tint rfl rfl hl.1 rfl (Nat.le_of_ble_eq_true rfl) dX9_lot_2 ⟨Nat.le_of_ble_eq_true rfl, Nat.le_of_ble_eq_true rfl⟩ (fun Ex M9 hv9 H locs q9 ce9 h hq9 hc9 hn9 => ?_) (fun M2 hvy3 H locs h => ?_)
  · subst hv9
    refine vx_widen (k := 2) (n := 12) (Nat.le_of_ble_eq_true rfl) (Nat.le_of_ble_eq_true rfl) ?_
    exact x_Xout h (Option.some.inj hf) hex hlocks hq9 hc9 hn9
  · subst hvy3
    replace hf := xth_l hf
    refine lv_aload_n hx hb dX9_lot_5 rfl (lv_at hl 0 rfl) ?_
    refine x_get (own := RX9) (ref := "TintDesk") (C := RX9) (T := TX9) (n := 10) (index := 12) (v := .ref (Γ.2.1 0)) hx hb hts (fun w h => xU_sub w (inU9 w h)) hown h kX_tint rfl 0 (by decide) (hts _ (xU_sub _ q16)) (fun _ h9 => h9) rfl dX9_lot_6 ?_
    refine x_get (own := RX9) (ref := "TintDesk$Desk") (C := RX3) (T := TX3) (n := 9) (index := 87) (v := .ref (Γ.2.1 1)) hx hb hts (fun w h => xU_sub w (inU3 w h)) hown h (kX_desk isDk_0) rfl 0 (by decide) (hts _ (xU_sub _ q237)) (fun _ h9 => h9) rfl dX9_lot_9 ?_
    refine lv_iload_n hx hb dX9_lot_12 rfl (lv_at hl 1 rfl) ?_
    obtain ⟨c4, hf⟩ := xck_s hf
    refine x_aald (C := "TintDesk$Colorant") hx hb h rfl (kX_desk_colorants isDk_0) c4 dX9_lot_13 ?_
    refine lv_astore (lv' := [(4, .ref (Γ.2.1 (0 + 5 + 5 * v1.toNatClampNeg))), (0, .ref (Γ.2.1 1470)), (1, .int v1), (2, .int v2), (3, .int v3)]) hx hb dX9_lot_14 hl (by decide) rfl (fun ls hl => ?_)
    refine lv_iload_n hx hb dX9_lot_16 rfl (lv_at hl 3 rfl) ?_
    refine lv_if_lt (tgt := 29) hx hb dX9_lot_17 (by decide) (fun c5 => ?_) (fun c5 => ?_)
    · replace hf := xif_t hf c5
      exact w_X9_lot_29 l hlt hz hex E M2 hf _ _ _ h (lv_sub hl [] rfl)
    · replace hf := xif_f hf c5
      refine lv_iload_n hx hb dX9_lot_20 rfl (lv_at hl 3 rfl) ?_
      refine lv_aload hx hb dX9_lot_21 (lv_at hl 0 rfl) ?_
      refine x_get (own := RX9) (ref := "TintDesk$Colorant") (C := RX2) (T := TX2) (n := 10) (index := 96) (v := .int (M2.1 (0 + 5 + 5 * v1.toNatClampNeg) 6)) hx hb hts (fun w h => xU_sub w (inU2 w h)) hown h (kX_colorant (isCo_of isDk_0 c4)) rfl 6 (by decide) (hts _ (xU_sub _ q265)) (fun _ h9 => h9) rfl dX9_lot_23 ?_
      refine lv_icmp_lt (tgt := 39) hx hb dX9_lot_26 (by decide) (fun c6 => ?_) (fun c6 => ?_)
      · replace hf := xif_t hf c6
        refine lv_iload_n hx hb dX9_lot_39 rfl (lv_at hl 4 rfl) ?_
        refine lv_iconst (v := 0) hx hb dX9_lot_40 (by decide) ?_
        refine lv_iconst (v := 2) hx hb dX9_lot_41 (by decide) ?_
        obtain ⟨r7, er7, hf⟩ := xbd_s hf
        refine x_XSv (As := [.int v3, .int 0, .int 2]) (rest := []) E.1 (m_X9_requireRange l hlt er7) (cwS 3 hts (xgS xU_sub q155 q156 q2 q157) rfl rfl rfl hdX9_requireRange ⟨Nat.le_of_ble_eq_true rfl, Nat.le_of_ble_eq_true rfl⟩) h hz rfl hl.1 rfl (Nat.le_of_ble_eq_true rfl) dX9_lot_42 ⟨Nat.le_of_ble_eq_true rfl, Nat.le_of_ble_eq_true rfl⟩ (fun Ex M9 hv9 H locs q9 ce9 h hq9 hc9 hn9 => ?_) (fun M8 hvy9 H locs h => ?_)
        · subst hv9
          exact x_Xout h (Option.some.inj hf) hex hlocks hq9 hc9 hn9
        · subst hvy9
          replace hf := xth_l hf
          refine lv_aload hx hb dX9_lot_45 (lv_at hl 0 rfl) ?_
          refine lv_iload_n hx hb dX9_lot_47 rfl (lv_at hl 3 rfl) ?_
          refine lv_iload_n hx hb dX9_lot_48 rfl (lv_at hl 4 rfl) ?_
          obtain ⟨r10, er10, hf⟩ := xbd_s hf
          refine x_Vi (As := [.int v2, .int v3]) (rest := []) E.1 (m_X2_lotNumberFor l (isCo_of isDk_0 c4) er10) (cwV 2 hts (xgV xU_sub q346 q347 q348 q56 q349) rfl rfl rfl hdX2_lotNumberFor ⟨Nat.le_of_ble_eq_true rfl, Nat.le_of_ble_eq_true rfl⟩) h (kX_colorant (isCo_of isDk_0 c4)) rfl rfl hl.1 rfl (Nat.le_of_ble_eq_true rfl) dX9_lot_49 ⟨Nat.le_of_ble_eq_true rfl, Nat.le_of_ble_eq_true rfl⟩ (fun H locs h => ?_)
          exact x_Xiret hx hb h (Option.some.inj hf) hr hlocks dX9_lot_52
      · replace hf := xif_f hf c6
        exact w_X9_lot_29 l hlt hz hex E M2 hf _ _ _ h (lv_sub hl [] rfl)
theorem hdX9_pass : yX9_pass.cls = RX9 ∧ yX9_pass.cls ≠ "java/lang/invoke/MethodHandle" ∧ yX9_pass.cls ≠ "java/lang/invoke/VarHandle" ∧ (parseMethodDescriptor yX9_pass.desc).map (fun d => d.parameters.length) = some 1 := by decide +kernel
set_option maxHeartbeats 4000000 in
set_option maxRecDepth 100000 in
theorem m_X9_pass (l : Launch) {Γ : xG} {N : Nat} {v1 : Int32} {M : xM} {res : xE} (hlt : l.stackTraces = false) (hf : F_X9_pass N v1 M = some res) (sz : Nat) : vx_Met l yX9_pass (xWs yX9_pass cX9_pass 2 (some .int)) ({ frames := 7, cells := 2, slots := 12, locals := 184 } : Room) (va_Pc [.ref (Γ.2.1 1470), .int v1] (xPreZ Γ (wX Γ) 1483 M sz)) (xXi Γ (wX Γ) 1483 res sz) (xXX Γ (wX Γ) 1483 res sz) 2 12 (xAd Γ 1483 sz) := by
  refine x_Xmet (Qc := fun sz => xXi Γ (wX Γ) 1483 res sz) (XC := fun sz => xXX Γ (wX Γ) 1483 res sz) pnX9 wG_W (Nat.le_of_ble_eq_true rfl) (fun p e s m args below meth c E hex hz h ls hl => ?_) sz
  obtain ⟨⟨hx, hb, hml, hown, hts⟩, hr, hlocks⟩ := id E
  have hl : lv_has ls 2 [(0, .ref (Γ.2.1 1470)), (1, .int v1)] := hl
  refine lv_iload_n hx hb dX9_pass_0 rfl (lv_at hl 1 rfl) ?_
  refine lv_iconst (v := 1) hx hb dX9_pass_1 (by decide) ?_
  refine lv_bipush (v := 99) hx hb dX9_pass_2 (by decide) ?_
  obtain ⟨r1, er1, hf⟩ := xbd_s hf
  refine x_XSv (As := [.int v1, .int 1, .int 99]) (rest := []) E.1 (m_X9_requireRange l hlt er1) (cwS 3 hts (xgS xU_sub q155 q156 q2 q157) rfl rfl rfl hdX9_requireRange ⟨Nat.le_of_ble_eq_true rfl, Nat.le_of_ble_eq_true rfl⟩) h hz rfl hl.1 rfl (Nat.le_of_ble_eq_true rfl) dX9_pass_4 ⟨Nat.le_of_ble_eq_true rfl, Nat.le_of_ble_eq_true rfl⟩ (fun Ex M9 hv9 H locs q9 ce9 h hq9 hc9 hn9 => ?_) (fun M2 hvy3 H locs h => ?_)
  · subst hv9
    refine vx_widen (k := 2) (n := 12) (Nat.le_of_ble_eq_true rfl) (Nat.le_of_ble_eq_true rfl) ?_
    exact x_Xout h (Option.some.inj hf) hex hlocks hq9 hc9 hn9
  · subst hvy3
    replace hf := xth_l hf
    refine lv_aload_n hx hb dX9_pass_7 rfl (lv_at hl 0 rfl) ?_
    refine x_get (own := RX9) (ref := "TintDesk") (C := RX9) (T := TX9) (n := 10) (index := 12) (v := .ref (Γ.2.1 0)) hx hb hts (fun w h => xU_sub w (inU9 w h)) hown h kX_tint rfl 0 (by decide) (hts _ (xU_sub _ q16)) (fun _ h9 => h9) rfl dX9_pass_8 ?_
    refine x_get (own := RX9) (ref := "TintDesk$Desk") (C := RX3) (T := TX3) (n := 9) (index := 103) (v := .int (M2.1 0 8)) hx hb hts (fun w h => xU_sub w (inU3 w h)) hown h (kX_desk isDk_0) rfl 8 (by decide) (hts _ (xU_sub _ q266)) (fun _ h9 => h9) rfl dX9_pass_11 ?_
    refine lv_iload_n hx hb dX9_pass_14 rfl (lv_at hl 1 rfl) ?_
    refine lv_iadd hx hb dX9_pass_15 ?_
    refine lv_iconst (v := 0) hx hb dX9_pass_16 (by decide) ?_
    refine lv_sipush (v := 400) hx hb dX9_pass_17 (by decide) ?_
    obtain ⟨r4, er4, hf⟩ := xbd_s hf
    refine x_XSv (As := [.int ((M2.1 0 8) + v1), .int 0, .int 400]) (rest := []) E.1 (m_X9_requireRange l hlt er4) (cwS 3 hts (xgS xU_sub q155 q156 q2 q157) rfl rfl rfl hdX9_requireRange ⟨Nat.le_of_ble_eq_true rfl, Nat.le_of_ble_eq_true rfl⟩) h hz rfl hl.1 rfl (Nat.le_of_ble_eq_true rfl) dX9_pass_20 ⟨Nat.le_of_ble_eq_true rfl, Nat.le_of_ble_eq_true rfl⟩ (fun Ex M9 hv9 H locs q9 ce9 h hq9 hc9 hn9 => ?_) (fun M5 hvy6 H locs h => ?_)
    · subst hv9
      exact x_Xout h (Option.some.inj hf) hex hlocks hq9 hc9 hn9
    · subst hvy6
      replace hf := xth_l hf
      refine lv_aload_n hx hb dX9_pass_23 rfl (lv_at hl 0 rfl) ?_
      refine x_get (own := RX9) (ref := "TintDesk") (C := RX9) (T := TX9) (n := 10) (index := 26) (v := .ref (Γ.2.1 1471)) hx hb hts (fun w h => xU_sub w (inU9 w h)) hown h kX_tint rfl 3 (by decide) (hts _ (xU_sub _ q22)) (fun _ h9 => h9) rfl dX9_pass_24 ?_
      refine lv_aload_n hx hb dX9_pass_27 rfl (lv_at hl 0 rfl) ?_
      refine x_get (own := RX9) (ref := "TintDesk") (C := RX9) (T := TX9) (n := 10) (index := 12) (v := .ref (Γ.2.1 0)) hx hb hts (fun w h => xU_sub w (inU9 w h)) hown h kX_tint rfl 0 (by decide) (hts _ (xU_sub _ q16)) (fun _ h9 => h9) rfl dX9_pass_28 ?_
      obtain ⟨r7, er7, hf⟩ := xbd_s hf
      refine x_Vv (As := [.ref (Γ.2.1 0)]) (rest := []) E.1 (m_X6_keep l isDk_0 er7) (cwV 1 hts (xgV xU_sub q160 q161 q162 q21 q163) rfl rfl rfl hdX6_keep ⟨Nat.le_of_ble_eq_true rfl, Nat.le_of_ble_eq_true rfl⟩) h kX_hist rfl rfl hl.1 rfl (Nat.le_of_ble_eq_true rfl) dX9_pass_31 ⟨Nat.le_of_ble_eq_true rfl, Nat.le_of_ble_eq_true rfl⟩ (fun H locs h => ?_)
      refine lv_aload_n hx hb dX9_pass_34 rfl (lv_at hl 0 rfl) ?_
      refine x_get (own := RX9) (ref := "TintDesk") (C := RX9) (T := TX9) (n := 10) (index := 12) (v := .ref (Γ.2.1 0)) hx hb hts (fun w h => xU_sub w (inU9 w h)) hown h kX_tint rfl 0 (by decide) (hts _ (xU_sub _ q16)) (fun _ h9 => h9) rfl dX9_pass_35 ?_
      refine lv_aload_n hx hb dX9_pass_38 rfl (lv_at hl 0 rfl) ?_
      refine x_get (own := RX9) (ref := "TintDesk") (C := RX9) (T := TX9) (n := 10) (index := 12) (v := .ref (Γ.2.1 0)) hx hb hts (fun w h => xU_sub w (inU9 w h)) hown h kX_tint rfl 0 (by decide) (hts _ (xU_sub _ q16)) (fun _ h9 => h9) rfl dX9_pass_39 ?_
      refine x_get (own := RX9) (ref := "TintDesk$Desk") (C := RX3) (T := TX3) (n := 9) (index := 103) (v := .int (r7.1.1 0 8)) hx hb hts (fun w h => xU_sub w (inU3 w h)) hown h (kX_desk isDk_0) rfl 8 (by decide) (hts _ (xU_sub _ q266)) (fun _ h9 => h9) rfl dX9_pass_42 ?_
      refine lv_iload_n hx hb dX9_pass_45 rfl (lv_at hl 1 rfl) ?_
      refine lv_iadd hx hb dX9_pass_46 ?_
      obtain ⟨r8, er8, hf⟩ := xbd_s hf
      refine x_Vi (As := [.int ((r7.1.1 0 8) + v1)]) (rest := []) E.1 (m_X3_goToDay l isDk_0 er8) (cwV 1 hts (xgV xU_sub q361 q362 q363 q15 q364) rfl rfl rfl hdX3_goToDay ⟨Nat.le_of_ble_eq_true rfl, Nat.le_of_ble_eq_true rfl⟩) h (kX_desk isDk_0) rfl rfl hl.1 rfl (Nat.le_of_ble_eq_true rfl) dX9_pass_47 ⟨Nat.le_of_ble_eq_true rfl, Nat.le_of_ble_eq_true rfl⟩ (fun H locs h => ?_)
      exact x_Xiret hx hb h (Option.some.inj hf) hr hlocks dX9_pass_50
theorem hdX9_addBase : yX9_addBase.cls = RX9 ∧ yX9_addBase.cls ≠ "java/lang/invoke/MethodHandle" ∧ yX9_addBase.cls ≠ "java/lang/invoke/VarHandle" ∧ (parseMethodDescriptor yX9_addBase.desc).map (fun d => d.parameters.length) = some 4 := by decide +kernel
set_option maxHeartbeats 4000000 in
set_option maxRecDepth 100000 in
theorem m_X9_addBase (l : Launch) {Γ : xG} {N : Nat} {v1 : Int32} {v2 : Int32} {v3 : Int32} {v4 : Int32} {M : xM} {res : xE} (hlt : l.stackTraces = false) (hf : F_X9_addBase N v1 v2 v3 v4 M = some res) (sz : Nat) : vx_Met l yX9_addBase (xWs yX9_addBase cX9_addBase 5 (some .int)) ({ frames := 7, cells := 5, slots := 30, locals := 184 } : Room) (va_Pc [.ref (Γ.2.1 1470), .int v1, .int v2, .int v3, .int v4] (xPreZ Γ (wX Γ) 1483 M sz)) (xXi Γ (wX Γ) 1483 res sz) (xXX Γ (wX Γ) 1483 res sz) 5 30 (xAd Γ 1483 sz) := by
  refine x_Xmet (Qc := fun sz => xXi Γ (wX Γ) 1483 res sz) (XC := fun sz => xXX Γ (wX Γ) 1483 res sz) pnX9 wG_W (Nat.le_of_ble_eq_true rfl) (fun p e s m args below meth c E hex hz h ls hl => ?_) sz
  obtain ⟨⟨hx, hb, hml, hown, hts⟩, hr, hlocks⟩ := id E
  have hl : lv_has ls 5 [(0, .ref (Γ.2.1 1470)), (1, .int v1), (2, .int v2), (3, .int v3), (4, .int v4)] := hl
  refine lv_iload_n hx hb dX9_addBase_0 rfl (lv_at hl 1 rfl) ?_
  refine lv_iconst (v := 0) hx hb dX9_addBase_1 (by decide) ?_
  refine lv_bipush (v := 99) hx hb dX9_addBase_2 (by decide) ?_
  obtain ⟨r1, er1, hf⟩ := xbd_s hf
  refine x_XSv (As := [.int v1, .int 0, .int 99]) (rest := []) E.1 (m_X9_requireRange l hlt er1) (cwS 3 hts (xgS xU_sub q155 q156 q2 q157) rfl rfl rfl hdX9_requireRange ⟨Nat.le_of_ble_eq_true rfl, Nat.le_of_ble_eq_true rfl⟩) h hz rfl hl.1 rfl (Nat.le_of_ble_eq_true rfl) dX9_addBase_4 ⟨Nat.le_of_ble_eq_true rfl, Nat.le_of_ble_eq_true rfl⟩ (fun Ex M9 hv9 H locs q9 ce9 h hq9 hc9 hn9 => ?_) (fun M2 hvy3 H locs h => ?_)
  · subst hv9
    refine vx_widen (k := 5) (n := 30) (Nat.le_of_ble_eq_true rfl) (Nat.le_of_ble_eq_true rfl) ?_
    exact x_Xout h (Option.some.inj hf) hex hlocks hq9 hc9 hn9
  · subst hvy3
    replace hf := xth_l hf
    refine lv_iload_n hx hb dX9_addBase_7 rfl (lv_at hl 2 rfl) ?_
    refine lv_iconst (v := 0) hx hb dX9_addBase_8 (by decide) ?_
    refine lv_bipush (v := 99) hx hb dX9_addBase_9 (by decide) ?_
    obtain ⟨r4, er4, hf⟩ := xbd_s hf
    refine x_XSv (As := [.int v2, .int 0, .int 99]) (rest := []) E.1 (m_X9_requireRange l hlt er4) (cwS 3 hts (xgS xU_sub q155 q156 q2 q157) rfl rfl rfl hdX9_requireRange ⟨Nat.le_of_ble_eq_true rfl, Nat.le_of_ble_eq_true rfl⟩) h hz rfl hl.1 rfl (Nat.le_of_ble_eq_true rfl) dX9_addBase_11 ⟨Nat.le_of_ble_eq_true rfl, Nat.le_of_ble_eq_true rfl⟩ (fun Ex M9 hv9 H locs q9 ce9 h hq9 hc9 hn9 => ?_) (fun M5 hvy6 H locs h => ?_)
    · subst hv9
      refine vx_widen (k := 5) (n := 30) (Nat.le_of_ble_eq_true rfl) (Nat.le_of_ble_eq_true rfl) ?_
      exact x_Xout h (Option.some.inj hf) hex hlocks hq9 hc9 hn9
    · subst hvy6
      replace hf := xth_l hf
      refine lv_iload_n hx hb dX9_addBase_14 rfl (lv_at hl 3 rfl) ?_
      refine lv_iconst (v := 0) hx hb dX9_addBase_15 (by decide) ?_
      refine lv_bipush (v := 99) hx hb dX9_addBase_16 (by decide) ?_
      obtain ⟨r7, er7, hf⟩ := xbd_s hf
      refine x_XSv (As := [.int v3, .int 0, .int 99]) (rest := []) E.1 (m_X9_requireRange l hlt er7) (cwS 3 hts (xgS xU_sub q155 q156 q2 q157) rfl rfl rfl hdX9_requireRange ⟨Nat.le_of_ble_eq_true rfl, Nat.le_of_ble_eq_true rfl⟩) h hz rfl hl.1 rfl (Nat.le_of_ble_eq_true rfl) dX9_addBase_18 ⟨Nat.le_of_ble_eq_true rfl, Nat.le_of_ble_eq_true rfl⟩ (fun Ex M9 hv9 H locs q9 ce9 h hq9 hc9 hn9 => ?_) (fun M8 hvy9 H locs h => ?_)
      · subst hv9
        refine vx_widen (k := 5) (n := 30) (Nat.le_of_ble_eq_true rfl) (Nat.le_of_ble_eq_true rfl) ?_
        exact x_Xout h (Option.some.inj hf) hex hlocks hq9 hc9 hn9
      · subst hvy9
        replace hf := xth_l hf
        refine lv_iload hx hb dX9_addBase_21 (lv_at hl 4 rfl) ?_
        refine lv_iconst (v := 0) hx hb dX9_addBase_23 (by decide) ?_
        refine lv_sipush (v := 200) hx hb dX9_addBase_24 (by decide) ?_
        obtain ⟨r10, er10, hf⟩ := xbd_s hf
        refine x_XSv (As := [.int v4, .int 0, .int 200]) (rest := []) E.1 (m_X9_requireRange l hlt er10) (cwS 3 hts (xgS xU_sub q155 q156 q2 q157) rfl rfl rfl hdX9_requireRange ⟨Nat.le_of_ble_eq_true rfl, Nat.le_of_ble_eq_true rfl⟩) h hz rfl hl.1 rfl (Nat.le_of_ble_eq_true rfl) dX9_addBase_27 ⟨Nat.le_of_ble_eq_true rfl, Nat.le_of_ble_eq_true rfl⟩ (fun Ex M9 hv9 H locs q9 ce9 h hq9 hc9 hn9 => ?_) (fun M11 hvy12 H locs h => ?_)
        · subst hv9
          refine vx_widen (k := 5) (n := 30) (Nat.le_of_ble_eq_true rfl) (Nat.le_of_ble_eq_true rfl) ?_
          exact x_Xout h (Option.some.inj hf) hex hlocks hq9 hc9 hn9
        · subst hvy12
          replace hf := xth_l hf
          refine lv_aload_n hx hb dX9_addBase_30 rfl (lv_at hl 0 rfl) ?_
          refine x_get (own := RX9) (ref := "TintDesk") (C := RX9) (T := TX9) (n := 10) (index := 12) (v := .ref (Γ.2.1 0)) hx hb hts (fun w h => xU_sub w (inU9 w h)) hown h kX_tint rfl 0 (by decide) (hts _ (xU_sub _ q16)) (fun _ h9 => h9) rfl dX9_addBase_31 ?_
          refine x_get (own := RX9) (ref := "TintDesk$Desk") (C := RX3) (T := TX3) (n := 9) (index := 132) (v := .int (M11.1 0 5)) hx hb hts (fun w h => xU_sub w (inU3 w h)) hown h (kX_desk isDk_0) rfl 5 (by decide) (hts _ (xU_sub _ q384)) (fun _ h9 => h9) rfl dX9_addBase_34 ?_
          refine lv_bipush (v := 6) hx hb dX9_addBase_37 (by decide) ?_
          refine lv_icmp_lt (tgt := 52) hx hb dX9_addBase_39 (by decide) (fun c13 => ?_) (fun c13 => ?_)
          · replace hf := xif_t hf c13
            refine lv_aload_n hx hb dX9_addBase_52 rfl (lv_at hl 0 rfl) ?_
            refine x_get (own := RX9) (ref := "TintDesk") (C := RX9) (T := TX9) (n := 10) (index := 26) (v := .ref (Γ.2.1 1471)) hx hb hts (fun w h => xU_sub w (inU9 w h)) hown h kX_tint rfl 3 (by decide) (hts _ (xU_sub _ q22)) (fun _ h9 => h9) rfl dX9_addBase_53 ?_
            refine lv_aload_n hx hb dX9_addBase_56 rfl (lv_at hl 0 rfl) ?_
            refine x_get (own := RX9) (ref := "TintDesk") (C := RX9) (T := TX9) (n := 10) (index := 12) (v := .ref (Γ.2.1 0)) hx hb hts (fun w h => xU_sub w (inU9 w h)) hown h kX_tint rfl 0 (by decide) (hts _ (xU_sub _ q16)) (fun _ h9 => h9) rfl dX9_addBase_57 ?_
            obtain ⟨r14, er14, hf⟩ := xbd_s hf
            refine x_Vv (As := [.ref (Γ.2.1 0)]) (rest := []) E.1 (m_X6_keep l isDk_0 er14) (cwV 1 hts (xgV xU_sub q160 q161 q162 q21 q163) rfl rfl rfl hdX6_keep ⟨Nat.le_of_ble_eq_true rfl, Nat.le_of_ble_eq_true rfl⟩) h kX_hist rfl rfl hl.1 rfl (Nat.le_of_ble_eq_true rfl) dX9_addBase_60 ⟨Nat.le_of_ble_eq_true rfl, Nat.le_of_ble_eq_true rfl⟩ (fun H locs h => ?_)
            refine lv_aload_n hx hb dX9_addBase_63 rfl (lv_at hl 0 rfl) ?_
            refine x_get (own := RX9) (ref := "TintDesk") (C := RX9) (T := TX9) (n := 10) (index := 12) (v := .ref (Γ.2.1 0)) hx hb hts (fun w h => xU_sub w (inU9 w h)) hown h kX_tint rfl 0 (by decide) (hts _ (xU_sub _ q16)) (fun _ h9 => h9) rfl dX9_addBase_64 ?_
            refine lv_iload_n hx hb dX9_addBase_67 rfl (lv_at hl 1 rfl) ?_
            refine lv_iload_n hx hb dX9_addBase_68 rfl (lv_at hl 2 rfl) ?_
            refine lv_iload_n hx hb dX9_addBase_69 rfl (lv_at hl 3 rfl) ?_
            refine lv_iload hx hb dX9_addBase_70 (lv_at hl 4 rfl) ?_
            obtain ⟨r15, er15, hf⟩ := xbd_s hf
            refine x_Vi (As := [.int v1, .int v2, .int v3, .int v4]) (rest := []) E.1 (m_X3_makeBase l isDk_0 er15) (cwV 4 hts (xgV xU_sub q385 q386 q387 q15 q388) rfl rfl rfl hdX3_makeBase ⟨Nat.le_of_ble_eq_true rfl, Nat.le_of_ble_eq_true rfl⟩) h (kX_desk isDk_0) rfl rfl hl.1 rfl (Nat.le_of_ble_eq_true rfl) dX9_addBase_72 ⟨Nat.le_of_ble_eq_true rfl, Nat.le_of_ble_eq_true rfl⟩ (fun H locs h => ?_)
            refine W.widen (k := 5) (n := 30) (Nat.le_of_ble_eq_true rfl) (Nat.le_of_ble_eq_true rfl) ?_
            exact x_Xiret hx hb h (Option.some.inj hf) hr hlocks dX9_addBase_75
          · replace hf := xif_f hf c13
            exact x_throw (ik := 68) (is := 135) (ic := 72) (text := "6 bases were made") hx hb hlt hown ft_IllegalStateException (hts _ (xU_sub _ q152)) (hts _ (xU_sub _ q153)) hts xU_sub at_IllegalStateException gd_IllegalStateException hz h (Option.some.inj hf) hl.1 hml dX9_addBase_42 dX9_addBase_45 dX9_addBase_46 dX9_addBase_48 dX9_addBase_51 hex hlocks (by decide +kernel) (by decide) (by decide) (by decide) (by decide)
theorem hdX9_setStock : yX9_setStock.cls = RX9 ∧ yX9_setStock.cls ≠ "java/lang/invoke/MethodHandle" ∧ yX9_setStock.cls ≠ "java/lang/invoke/VarHandle" ∧ (parseMethodDescriptor yX9_setStock.desc).map (fun d => d.parameters.length) = some 2 := by decide +kernel
set_option maxHeartbeats 4000000 in
set_option maxRecDepth 100000 in
theorem m_X9_setStock (l : Launch) {Γ : xG} {N : Nat} {v1 : Int32} {v2 : Int32} {M : xM} {res : xE} (hlt : l.stackTraces = false) (hf : F_X9_setStock N v1 v2 M = some res) (sz : Nat) : vx_Met l yX9_setStock (xWs yX9_setStock cX9_setStock 5 (some .int)) ({ frames := 7, cells := 2, slots := 12, locals := 184 } : Room) (va_Pc [.ref (Γ.2.1 1470), .int v1, .int v2] (xPreZ Γ (wX Γ) 1483 M sz)) (xXi Γ (wX Γ) 1483 res sz) (xXX Γ (wX Γ) 1483 res sz) 2 12 (xAd Γ 1483 sz) := by
  refine x_Xmet (Qc := fun sz => xXi Γ (wX Γ) 1483 res sz) (XC := fun sz => xXX Γ (wX Γ) 1483 res sz) pnX9 wG_W (Nat.le_of_ble_eq_true rfl) (fun p e s m args below meth c E hex hz h ls hl => ?_) sz
  obtain ⟨⟨hx, hb, hml, hown, hts⟩, hr, hlocks⟩ := id E
  have hl : lv_has ls 5 [(0, .ref (Γ.2.1 1470)), (1, .int v1), (2, .int v2)] := hl
  refine lv_aload_n hx hb dX9_setStock_0 rfl (lv_at hl 0 rfl) ?_
  refine lv_iload_n hx hb dX9_setStock_1 rfl (lv_at hl 1 rfl) ?_
  obtain ⟨r1, er1, hf⟩ := xbd_s hf
  refine x_XVv (As := [.int v1]) (rest := []) E.1 (m_X9_requireBase l hlt er1) (cwV 1 hts (xgV xU_sub q404 q405 q406 q2 q407) rfl rfl rfl hdX9_requireBase ⟨Nat.le_of_ble_eq_true rfl, Nat.le_of_ble_eq_true rfl⟩) h hz kX_tint rfl rfl hl.1 rfl (Nat.le_of_ble_eq_true rfl) dX9_setStock_2 ⟨Nat.le_of_ble_eq_true rfl, Nat.le_of_ble_eq_true rfl⟩ (fun Ex M9 hv9 H locs q9 ce9 h hq9 hc9 hn9 => ?_) (fun M2 hvy3 H locs h => ?_)
  · subst hv9
    refine vx_widen (k := 2) (n := 12) (Nat.le_of_ble_eq_true rfl) (Nat.le_of_ble_eq_true rfl) ?_
    exact x_Xout h (Option.some.inj hf) hex hlocks hq9 hc9 hn9
  · subst hvy3
    replace hf := xth_l hf
    refine lv_iload_n hx hb dX9_setStock_5 rfl (lv_at hl 2 rfl) ?_
    refine lv_iconst (v := 0) hx hb dX9_setStock_6 (by decide) ?_
    refine lv_bipush (v := 99) hx hb dX9_setStock_7 (by decide) ?_
    obtain ⟨r4, er4, hf⟩ := xbd_s hf
    refine x_XSv (As := [.int v2, .int 0, .int 99]) (rest := []) E.1 (m_X9_requireRange l hlt er4) (cwS 3 hts (xgS xU_sub q155 q156 q2 q157) rfl rfl rfl hdX9_requireRange ⟨Nat.le_of_ble_eq_true rfl, Nat.le_of_ble_eq_true rfl⟩) h hz rfl hl.1 rfl (Nat.le_of_ble_eq_true rfl) dX9_setStock_9 ⟨Nat.le_of_ble_eq_true rfl, Nat.le_of_ble_eq_true rfl⟩ (fun Ex M9 hv9 H locs q9 ce9 h hq9 hc9 hn9 => ?_) (fun M5 hvy6 H locs h => ?_)
    · subst hv9
      exact x_Xout h (Option.some.inj hf) hex hlocks hq9 hc9 hn9
    · subst hvy6
      replace hf := xth_l hf
      refine lv_aload_n hx hb dX9_setStock_12 rfl (lv_at hl 0 rfl) ?_
      refine x_get (own := RX9) (ref := "TintDesk") (C := RX9) (T := TX9) (n := 10) (index := 26) (v := .ref (Γ.2.1 1471)) hx hb hts (fun w h => xU_sub w (inU9 w h)) hown h kX_tint rfl 3 (by decide) (hts _ (xU_sub _ q22)) (fun _ h9 => h9) rfl dX9_setStock_13 ?_
      refine lv_aload_n hx hb dX9_setStock_16 rfl (lv_at hl 0 rfl) ?_
      refine x_get (own := RX9) (ref := "TintDesk") (C := RX9) (T := TX9) (n := 10) (index := 12) (v := .ref (Γ.2.1 0)) hx hb hts (fun w h => xU_sub w (inU9 w h)) hown h kX_tint rfl 0 (by decide) (hts _ (xU_sub _ q16)) (fun _ h9 => h9) rfl dX9_setStock_17 ?_
      obtain ⟨r7, er7, hf⟩ := xbd_s hf
      refine x_Vv (As := [.ref (Γ.2.1 0)]) (rest := []) E.1 (m_X6_keep l isDk_0 er7) (cwV 1 hts (xgV xU_sub q160 q161 q162 q21 q163) rfl rfl rfl hdX6_keep ⟨Nat.le_of_ble_eq_true rfl, Nat.le_of_ble_eq_true rfl⟩) h kX_hist rfl rfl hl.1 rfl (Nat.le_of_ble_eq_true rfl) dX9_setStock_20 ⟨Nat.le_of_ble_eq_true rfl, Nat.le_of_ble_eq_true rfl⟩ (fun H locs h => ?_)
      refine lv_aload_n hx hb dX9_setStock_23 rfl (lv_at hl 0 rfl) ?_
      refine x_get (own := RX9) (ref := "TintDesk") (C := RX9) (T := TX9) (n := 10) (index := 12) (v := .ref (Γ.2.1 0)) hx hb hts (fun w h => xU_sub w (inU9 w h)) hown h kX_tint rfl 0 (by decide) (hts _ (xU_sub _ q16)) (fun _ h9 => h9) rfl dX9_setStock_24 ?_
      refine x_get (own := RX9) (ref := "TintDesk$Desk") (C := RX3) (T := TX3) (n := 9) (index := 144) (v := .ref (Γ.2.1 2)) hx hb hts (fun w h => xU_sub w (inU3 w h)) hown h (kX_desk isDk_0) rfl 1 (by decide) (hts _ (xU_sub _ q402)) (fun _ h9 => h9) rfl dX9_setStock_27 ?_
      refine lv_iload_n hx hb dX9_setStock_30 rfl (lv_at hl 1 rfl) ?_
      obtain ⟨c8, hf⟩ := xck_s hf
      refine x_aald (C := "TintDesk$Base") hx hb h rfl (kX_desk_bases isDk_0) c8 dX9_setStock_31 ?_
      refine lv_astore_n (lv' := [(3, .ref (Γ.2.1 (0 + 45 + 2 * v1.toNatClampNeg))), (0, .ref (Γ.2.1 1470)), (1, .int v1), (2, .int v2)]) hx hb dX9_setStock_32 rfl hl (by decide) rfl (fun ls hl => ?_)
      refine lv_aload_n hx hb dX9_setStock_33 rfl (lv_at hl 0 rfl) ?_
      refine x_get (own := RX9) (ref := "TintDesk$Base") (C := RX0) (T := TX0) (n := 3) (index := 148) (v := .int (r7.1.1 (0 + 45 + 2 * v1.toNatClampNeg) 2)) hx hb hts (fun w h => xU_sub w (inU0 w h)) hown h (kX_base (isBa_of isDk_0 c8)) rfl 2 (by decide) (hts _ (xU_sub _ q403)) (fun _ h9 => h9) rfl dX9_setStock_34 ?_
      obtain ⟨y9, ey9, hf⟩ := xl_s hf
      refine x_nm ey9 ?_
      refine lv_istore (lv' := [(4, .int y9), (3, .ref (Γ.2.1 (0 + 45 + 2 * v1.toNatClampNeg))), (0, .ref (Γ.2.1 1470)), (1, .int v1), (2, .int v2)]) hx hb dX9_setStock_37 hl (by decide) rfl (fun ls hl => ?_)
      refine lv_aload_n hx hb dX9_setStock_39 rfl (lv_at hl 1 rfl) ?_
      refine lv_iload_n hx hb dX9_setStock_40 rfl (lv_at hl 4 rfl) ?_
      obtain ⟨M10, eM10, hf⟩ := xl_s hf
      refine x_put (own := RX9) (ref := "TintDesk$Base") (C := RX0) (T := TX0) (n := 3) (index := 148) (ty := .int) hx hb hts (fun w h => xU_sub w (inU0 w h)) tyX0 tyX0_ok nmX0 hown h (kX_base (isBa_of isDk_0 c8)) rfl 2 (by decide) (hts _ (xU_sub _ q403)) (fun _ h9 => h9) rfl (by decide +kernel) rfl rfl (Nat.le_of_ble_eq_true rfl) rfl eM10 dX9_setStock_41 (fun H locs h => ?_)
      refine lv_iload hx hb dX9_setStock_44 (lv_at hl 0 rfl) ?_
      exact x_Xiret hx hb h (Option.some.inj hf) hr hlocks dX9_setStock_46
theorem hdX9_base : yX9_base.cls = RX9 ∧ yX9_base.cls ≠ "java/lang/invoke/MethodHandle" ∧ yX9_base.cls ≠ "java/lang/invoke/VarHandle" ∧ (parseMethodDescriptor yX9_base.desc).map (fun d => d.parameters.length) = some 2 := by decide +kernel
set_option maxHeartbeats 4000000 in
set_option maxRecDepth 100000 in
theorem m_X9_base (l : Launch) {Γ : xG} {N : Nat} {v1 : Int32} {v2 : Int32} {M : xM} {res : xE} (hlt : l.stackTraces = false) (hf : F_X9_base N v1 v2 M = some res) (sz : Nat) : vx_Met l yX9_base (xWs yX9_base cX9_base 3 (some .int)) ({ frames := 7, cells := 2, slots := 12, locals := 142 } : Room) (va_Pc [.ref (Γ.2.1 1470), .int v1, .int v2] (xPreZ Γ (wX Γ) 1483 M sz)) (xXi Γ (wX Γ) 1483 res sz) (xXX Γ (wX Γ) 1483 res sz) 2 12 (xAd Γ 1483 sz) := by
  refine x_Xmet (Qc := fun sz => xXi Γ (wX Γ) 1483 res sz) (XC := fun sz => xXX Γ (wX Γ) 1483 res sz) pnX9 wG_W (Nat.le_of_ble_eq_true rfl) (fun p e s m args below meth c E hex hz h ls hl => ?_) sz
  obtain ⟨⟨hx, hb, hml, hown, hts⟩, hr, hlocks⟩ := id E
  have hl : lv_has ls 3 [(0, .ref (Γ.2.1 1470)), (1, .int v1), (2, .int v2)] := hl
  refine lv_aload_n hx hb dX9_base_0 rfl (lv_at hl 0 rfl) ?_
  refine lv_iload_n hx hb dX9_base_1 rfl (lv_at hl 1 rfl) ?_
  obtain ⟨r1, er1, hf⟩ := xbd_s hf
  refine x_XVv (As := [.int v1]) (rest := []) E.1 (m_X9_requireBase l hlt er1) (cwV 1 hts (xgV xU_sub q404 q405 q406 q2 q407) rfl rfl rfl hdX9_requireBase ⟨Nat.le_of_ble_eq_true rfl, Nat.le_of_ble_eq_true rfl⟩) h hz kX_tint rfl rfl hl.1 rfl (Nat.le_of_ble_eq_true rfl) dX9_base_2 ⟨Nat.le_of_ble_eq_true rfl, Nat.le_of_ble_eq_true rfl⟩ (fun Ex M9 hv9 H locs q9 ce9 h hq9 hc9 hn9 => ?_) (fun M2 hvy3 H locs h => ?_)
  · subst hv9
    refine vx_widen (k := 2) (n := 12) (Nat.le_of_ble_eq_true rfl) (Nat.le_of_ble_eq_true rfl) ?_
    exact x_Xout h (Option.some.inj hf) hex hlocks hq9 hc9 hn9
  · subst hvy3
    replace hf := xth_l hf
    refine lv_iload_n hx hb dX9_base_5 rfl (lv_at hl 2 rfl) ?_
    refine lv_iconst (v := 0) hx hb dX9_base_6 (by decide) ?_
    refine lv_iconst (v := 5) hx hb dX9_base_7 (by decide) ?_
    obtain ⟨r4, er4, hf⟩ := xbd_s hf
    refine x_XSv (As := [.int v2, .int 0, .int 5]) (rest := []) E.1 (m_X9_requireRange l hlt er4) (cwS 3 hts (xgS xU_sub q155 q156 q2 q157) rfl rfl rfl hdX9_requireRange ⟨Nat.le_of_ble_eq_true rfl, Nat.le_of_ble_eq_true rfl⟩) h hz rfl hl.1 rfl (Nat.le_of_ble_eq_true rfl) dX9_base_8 ⟨Nat.le_of_ble_eq_true rfl, Nat.le_of_ble_eq_true rfl⟩ (fun Ex M9 hv9 H locs q9 ce9 h hq9 hc9 hn9 => ?_) (fun M5 hvy6 H locs h => ?_)
    · subst hv9
      exact x_Xout h (Option.some.inj hf) hex hlocks hq9 hc9 hn9
    · subst hvy6
      replace hf := xth_l hf
      refine lv_aload_n hx hb dX9_base_11 rfl (lv_at hl 0 rfl) ?_
      refine x_get (own := RX9) (ref := "TintDesk") (C := RX9) (T := TX9) (n := 10) (index := 12) (v := .ref (Γ.2.1 0)) hx hb hts (fun w h => xU_sub w (inU9 w h)) hown h kX_tint rfl 0 (by decide) (hts _ (xU_sub _ q16)) (fun _ h9 => h9) rfl dX9_base_12 ?_
      refine lv_iload_n hx hb dX9_base_15 rfl (lv_at hl 1 rfl) ?_
      refine lv_iload_n hx hb dX9_base_16 rfl (lv_at hl 2 rfl) ?_
      obtain ⟨r7, er7, hf⟩ := xbd_s hf
      refine x_Vi (As := [.int v1, .int v2]) (rest := []) E.1 (m_X3_baseNumberFor l isDk_0 er7) (cwV 2 hts (xgV xU_sub q423 q424 q425 q15 q426) rfl rfl rfl hdX3_baseNumberFor ⟨Nat.le_of_ble_eq_true rfl, Nat.le_of_ble_eq_true rfl⟩) h (kX_desk isDk_0) rfl rfl hl.1 rfl (Nat.le_of_ble_eq_true rfl) dX9_base_17 ⟨Nat.le_of_ble_eq_true rfl, Nat.le_of_ble_eq_true rfl⟩ (fun H locs h => ?_)
      exact x_Xiret hx hb h (Option.some.inj hf) hr hlocks dX9_base_20
theorem hdX9_append : yX9_append.cls = RX9 ∧ yX9_append.cls ≠ "java/lang/invoke/MethodHandle" ∧ yX9_append.cls ≠ "java/lang/invoke/VarHandle" ∧ (parseMethodDescriptor yX9_append.desc).map (fun d => d.parameters.length) = some 1 := by decide +kernel
set_option maxHeartbeats 4000000 in
set_option maxRecDepth 100000 in
theorem m_X9_append (l : Launch) {Γ : xG} {N : Nat} {v1 : Int32} {M : xM} {res : xE} (hlt : l.stackTraces = false) (hf : F_X9_append N v1 M = some res) (sz : Nat) : vx_Met l yX9_append (xWs yX9_append cX9_append 2 none) ({ frames := 6, cells := 1, slots := 6, locals := 120 } : Room) (va_Pc [.ref (Γ.2.1 1470), .int v1] (xPreZ Γ (wX Γ) 1483 M sz)) (xXv Γ (wX Γ) 1483 res sz) (xXX Γ (wX Γ) 1483 res sz) 1 6 (xAd Γ 1483 sz) := by
  refine x_Xmet (Qc := fun sz => xXv Γ (wX Γ) 1483 res sz) (XC := fun sz => xXX Γ (wX Γ) 1483 res sz) pnX9 wG_W (Nat.le_of_ble_eq_true rfl) (fun p e s m args below meth c E hex hz h ls hl => ?_) sz
  obtain ⟨⟨hx, hb, hml, hown, hts⟩, hr, hlocks⟩ := id E
  have hl : lv_has ls 2 [(0, .ref (Γ.2.1 1470)), (1, .int v1)] := hl
  refine lv_aload_n hx hb dX9_append_0 rfl (lv_at hl 0 rfl) ?_
  refine x_get (own := RX9) (ref := "TintDesk") (C := RX9) (T := TX9) (n := 10) (index := 33) (v := .ref (Γ.2.1 1473)) hx hb hts (fun w h => xU_sub w (inU9 w h)) hown h kX_tint rfl 4 (by decide) (hts _ (xU_sub _ q26)) (fun _ h9 => h9) rfl dX9_append_1 ?_
  refine x_get (own := RX9) (ref := "TintDesk$FormulaText") (C := RX5) (T := TX5) (n := 5) (index := 156) (v := .int (M.1 1473 1)) hx hb hts (fun w h => xU_sub w (inU5 w h)) hown h kX_text rfl 1 (by decide) (hts _ (xU_sub _ q444)) (fun _ h9 => h9) rfl dX9_append_4 ?_
  refine lv_bipush (v := 60) hx hb dX9_append_7 (by decide) ?_
  refine lv_icmp_lt (tgt := 22) hx hb dX9_append_9 (by decide) (fun c1 => ?_) (fun c1 => ?_)
  · replace hf := xif_t hf c1
    refine lv_aload_n hx hb dX9_append_22 rfl (lv_at hl 0 rfl) ?_
    refine x_get (own := RX9) (ref := "TintDesk") (C := RX9) (T := TX9) (n := 10) (index := 33) (v := .ref (Γ.2.1 1473)) hx hb hts (fun w h => xU_sub w (inU9 w h)) hown h kX_tint rfl 4 (by decide) (hts _ (xU_sub _ q26)) (fun _ h9 => h9) rfl dX9_append_23 ?_
    refine lv_iload_n hx hb dX9_append_26 rfl (lv_at hl 1 rfl) ?_
    obtain ⟨r2, er2, hf⟩ := xbd_s hf
    refine x_Vv (As := [.int v1]) (rest := []) E.1 (m_X5_put l er2) (cwV 1 hts (xgV xU_sub q445 q446 q447 q25 q448) rfl rfl rfl hdX5_put ⟨Nat.le_of_ble_eq_true rfl, Nat.le_of_ble_eq_true rfl⟩) h kX_text rfl rfl hl.1 rfl (Nat.le_of_ble_eq_true rfl) dX9_append_27 ⟨Nat.le_of_ble_eq_true rfl, Nat.le_of_ble_eq_true rfl⟩ (fun H locs h => ?_)
    refine W.widen (k := 1) (n := 6) (Nat.le_of_ble_eq_true rfl) (Nat.le_of_ble_eq_true rfl) ?_
    exact x_Xvret hx hb h (Option.some.inj hf) hr hlocks dX9_append_30
  · replace hf := xif_f hf c1
    exact x_throw (ik := 68) (is := 159) (ic := 72) (text := "the buffer contains 60 characters") hx hb hlt hown ft_IllegalStateException (hts _ (xU_sub _ q152)) (hts _ (xU_sub _ q153)) hts xU_sub at_IllegalStateException gd_IllegalStateException hz h (Option.some.inj hf) hl.1 hml dX9_append_12 dX9_append_15 dX9_append_16 dX9_append_18 dX9_append_21 hex hlocks (by decide +kernel) (by decide) (by decide) (by decide) (by decide)
theorem hdX9_readFormula : yX9_readFormula.cls = RX9 ∧ yX9_readFormula.cls ≠ "java/lang/invoke/MethodHandle" ∧ yX9_readFormula.cls ≠ "java/lang/invoke/VarHandle" ∧ (parseMethodDescriptor yX9_readFormula.desc).map (fun d => d.parameters.length) = some 0 := by decide +kernel
set_option maxHeartbeats 4000000 in
set_option maxRecDepth 100000 in
theorem m_X9_readFormula (l : Launch) {Γ : xG} {N : Nat} {M : xM} {res : xE} (hlt : l.stackTraces = false) (hf : F_X9_readFormula N M = some res) (sz : Nat) : vx_Met l yX9_readFormula (xWs yX9_readFormula cX9_readFormula 1 (some .int)) ({ frames := 7, cells := 1, slots := 6, locals := 184 } : Room) (va_Pc [.ref (Γ.2.1 1470)] (xPreZ Γ (wX Γ) 1483 M sz)) (xXi Γ (wX Γ) 1483 res sz) (xXX Γ (wX Γ) 1483 res sz) 1 6 (xAd Γ 1483 sz) := by
  refine x_Xmet (Qc := fun sz => xXi Γ (wX Γ) 1483 res sz) (XC := fun sz => xXX Γ (wX Γ) 1483 res sz) pnX9 wG_W (Nat.le_of_ble_eq_true rfl) (fun p e s m args below meth c E hex hz h ls hl => ?_) sz
  obtain ⟨⟨hx, hb, hml, hown, hts⟩, hr, hlocks⟩ := id E
  have hl : lv_has ls 1 [(0, .ref (Γ.2.1 1470))] := hl
  refine lv_aload_n hx hb dX9_readFormula_0 rfl (lv_at hl 0 rfl) ?_
  refine lv_aload_n hx hb dX9_readFormula_1 rfl (lv_at hl 0 rfl) ?_
  refine x_get (own := RX9) (ref := "TintDesk") (C := RX9) (T := TX9) (n := 10) (index := 33) (v := .ref (Γ.2.1 1473)) hx hb hts (fun w h => xU_sub w (inU9 w h)) hown h kX_tint rfl 4 (by decide) (hts _ (xU_sub _ q26)) (fun _ h9 => h9) rfl dX9_readFormula_2 ?_
  obtain ⟨r1, er1, hf⟩ := xbd_s hf
  refine x_Vi (As := []) (rest := [.ref (Γ.2.1 1470)]) E.1 (m_X5_readAll l er1) (cwV 0 hts (xgV xU_sub q461 q462 q463 q25 q464) rfl rfl rfl hdX5_readAll ⟨Nat.le_of_ble_eq_true rfl, Nat.le_of_ble_eq_true rfl⟩) h kX_text rfl rfl hl.1 rfl (Nat.le_of_ble_eq_true rfl) dX9_readFormula_5 ⟨Nat.le_of_ble_eq_true rfl, Nat.le_of_ble_eq_true rfl⟩ (fun H locs h => ?_)
  obtain ⟨M2, eM2, hf⟩ := xl_s hf
  refine x_put (own := RX9) (ref := "TintDesk") (C := RX9) (T := TX9) (n := 10) (index := 37) (ty := .int) hx hb hts (fun w h => xU_sub w (inU9 w h)) tyX9 tyX9_ok nmX9 hown h kX_tint rfl 5 (by decide) (hts _ (xU_sub _ q27)) (fun _ h9 => h9) rfl (by decide +kernel) rfl rfl (Nat.le_of_ble_eq_true rfl) rfl eM2 dX9_readFormula_8 (fun H locs h => ?_)
  refine lv_aload_n hx hb dX9_readFormula_11 rfl (lv_at hl 0 rfl) ?_
  refine x_get (own := RX9) (ref := "TintDesk") (C := RX9) (T := TX9) (n := 10) (index := 33) (v := .ref (Γ.2.1 1473)) hx hb hts (fun w h => xU_sub w (inU9 w h)) hown h kX_tint rfl 4 (by decide) (hts _ (xU_sub _ q26)) (fun _ h9 => h9) rfl dX9_readFormula_12 ?_
  obtain ⟨r3, er3, hf⟩ := xbd_s hf
  refine x_Vv (As := []) (rest := []) E.1 (m_X5_empty l er3) (cwV 0 hts (xgV xU_sub q493 q494 q495 q25 q496) rfl rfl rfl hdX5_empty ⟨Nat.le_of_ble_eq_true rfl, Nat.le_of_ble_eq_true rfl⟩) h kX_text rfl rfl hl.1 rfl (Nat.le_of_ble_eq_true rfl) dX9_readFormula_15 ⟨Nat.le_of_ble_eq_true rfl, Nat.le_of_ble_eq_true rfl⟩ (fun H locs h => ?_)
  refine lv_aload_n hx hb dX9_readFormula_18 rfl (lv_at hl 0 rfl) ?_
  refine x_get (own := RX9) (ref := "TintDesk") (C := RX9) (T := TX9) (n := 10) (index := 37) (v := .int (r3.1.1 1470 5)) hx hb hts (fun w h => xU_sub w (inU9 w h)) hown h kX_tint rfl 5 (by decide) (hts _ (xU_sub _ q27)) (fun _ h9 => h9) rfl dX9_readFormula_19 ?_
  refine lv_iconst (v := (-1)) hx hb dX9_readFormula_22 (by decide) ?_
  refine lv_icmp_eq (tgt := 36) hx hb dX9_readFormula_23 (by decide) (fun c4 => ?_) (fun c4 => ?_)
  · replace hf := xif_t hf c4
    refine lv_aload_n hx hb dX9_readFormula_36 rfl (lv_at hl 0 rfl) ?_
    refine lv_aload_n hx hb dX9_readFormula_37 rfl (lv_at hl 0 rfl) ?_
    refine x_get (own := RX9) (ref := "TintDesk") (C := RX9) (T := TX9) (n := 10) (index := 12) (v := .ref (Γ.2.1 0)) hx hb hts (fun w h => xU_sub w (inU9 w h)) hown h kX_tint rfl 0 (by decide) (hts _ (xU_sub _ q16)) (fun _ h9 => h9) rfl dX9_readFormula_38 ?_
    refine lv_aload_n hx hb dX9_readFormula_41 rfl (lv_at hl 0 rfl) ?_
    refine x_get (own := RX9) (ref := "TintDesk") (C := RX9) (T := TX9) (n := 10) (index := 33) (v := .ref (Γ.2.1 1473)) hx hb hts (fun w h => xU_sub w (inU9 w h)) hown h kX_tint rfl 4 (by decide) (hts _ (xU_sub _ q26)) (fun _ h9 => h9) rfl dX9_readFormula_42 ?_
    obtain ⟨r5, er5, hf⟩ := xbd_s hf
    refine x_Vi (As := [.ref (Γ.2.1 1473)]) (rest := [.ref (Γ.2.1 1470)]) E.1 (m_X3_whyNoFormula l isDk_0 er5) (cwV 1 hts (xgV xU_sub q497 q498 q499 q15 q500) rfl rfl rfl hdX3_whyNoFormula ⟨Nat.le_of_ble_eq_true rfl, Nat.le_of_ble_eq_true rfl⟩) h (kX_desk isDk_0) rfl rfl hl.1 rfl (Nat.le_of_ble_eq_true rfl) dX9_readFormula_45 ⟨Nat.le_of_ble_eq_true rfl, Nat.le_of_ble_eq_true rfl⟩ (fun H locs h => ?_)
    refine lv_iconst (v := (-1)) hx hb dX9_readFormula_48 (by decide) ?_
    obtain ⟨r6, er6, hf⟩ := xbd_s hf
    refine x_XVv (As := [.int r5.2, .int (-1)]) (rest := []) E.1 (m_X9_stopIfRefused l hlt er6) (cwV 2 hts (xgV xU_sub q267 q268 q269 q2 q270) rfl rfl rfl hdX9_stopIfRefused ⟨Nat.le_of_ble_eq_true rfl, Nat.le_of_ble_eq_true rfl⟩) h hz kX_tint rfl rfl hl.1 rfl (Nat.le_of_ble_eq_true rfl) dX9_readFormula_49 ⟨Nat.le_of_ble_eq_true rfl, Nat.le_of_ble_eq_true rfl⟩ (fun Ex M9 hv9 H locs q9 ce9 h hq9 hc9 hn9 => ?_) (fun M7 hvy8 H locs h => ?_)
    · subst hv9
      exact x_Xout h (Option.some.inj hf) hex hlocks hq9 hc9 hn9
    · subst hvy8
      replace hf := xth_l hf
      refine lv_aload_n hx hb dX9_readFormula_52 rfl (lv_at hl 0 rfl) ?_
      refine x_get (own := RX9) (ref := "TintDesk") (C := RX9) (T := TX9) (n := 10) (index := 26) (v := .ref (Γ.2.1 1471)) hx hb hts (fun w h => xU_sub w (inU9 w h)) hown h kX_tint rfl 3 (by decide) (hts _ (xU_sub _ q22)) (fun _ h9 => h9) rfl dX9_readFormula_53 ?_
      refine lv_aload_n hx hb dX9_readFormula_56 rfl (lv_at hl 0 rfl) ?_
      refine x_get (own := RX9) (ref := "TintDesk") (C := RX9) (T := TX9) (n := 10) (index := 12) (v := .ref (Γ.2.1 0)) hx hb hts (fun w h => xU_sub w (inU9 w h)) hown h kX_tint rfl 0 (by decide) (hts _ (xU_sub _ q16)) (fun _ h9 => h9) rfl dX9_readFormula_57 ?_
      obtain ⟨r9, er9, hf⟩ := xbd_s hf
      refine x_Vv (As := [.ref (Γ.2.1 0)]) (rest := []) E.1 (m_X6_keep l isDk_0 er9) (cwV 1 hts (xgV xU_sub q160 q161 q162 q21 q163) rfl rfl rfl hdX6_keep ⟨Nat.le_of_ble_eq_true rfl, Nat.le_of_ble_eq_true rfl⟩) h kX_hist rfl rfl hl.1 rfl (Nat.le_of_ble_eq_true rfl) dX9_readFormula_60 ⟨Nat.le_of_ble_eq_true rfl, Nat.le_of_ble_eq_true rfl⟩ (fun H locs h => ?_)
      refine lv_aload_n hx hb dX9_readFormula_63 rfl (lv_at hl 0 rfl) ?_
      refine x_get (own := RX9) (ref := "TintDesk") (C := RX9) (T := TX9) (n := 10) (index := 12) (v := .ref (Γ.2.1 0)) hx hb hts (fun w h => xU_sub w (inU9 w h)) hown h kX_tint rfl 0 (by decide) (hts _ (xU_sub _ q16)) (fun _ h9 => h9) rfl dX9_readFormula_64 ?_
      refine lv_aload_n hx hb dX9_readFormula_67 rfl (lv_at hl 0 rfl) ?_
      refine x_get (own := RX9) (ref := "TintDesk") (C := RX9) (T := TX9) (n := 10) (index := 33) (v := .ref (Γ.2.1 1473)) hx hb hts (fun w h => xU_sub w (inU9 w h)) hown h kX_tint rfl 4 (by decide) (hts _ (xU_sub _ q26)) (fun _ h9 => h9) rfl dX9_readFormula_68 ?_
      obtain ⟨r10, er10, hf⟩ := xbd_s hf
      refine x_Vi (As := [.ref (Γ.2.1 1473)]) (rest := []) E.1 (m_X3_makeFormula l isDk_0 er10) (cwV 1 hts (xgV xU_sub q506 q507 q508 q15 q509) rfl rfl rfl hdX3_makeFormula ⟨Nat.le_of_ble_eq_true rfl, Nat.le_of_ble_eq_true rfl⟩) h (kX_desk isDk_0) rfl rfl hl.1 rfl (Nat.le_of_ble_eq_true rfl) dX9_readFormula_71 ⟨Nat.le_of_ble_eq_true rfl, Nat.le_of_ble_eq_true rfl⟩ (fun H locs h => ?_)
      exact x_Xiret hx hb h (Option.some.inj hf) hr hlocks dX9_readFormula_74
  · replace hf := xif_f hf c4
    exact x_throw (ik := 171) (is := 173) (ic := 175) (text := "the text has a fault") hx hb hlt hown ft_IllegalArgumentException (hts _ (xU_sub _ q158)) (hts _ (xU_sub _ q159)) hts xU_sub at_IllegalArgumentException gd_IllegalArgumentException hz h (Option.some.inj hf) hl.1 hml dX9_readFormula_26 dX9_readFormula_29 dX9_readFormula_30 dX9_readFormula_32 dX9_readFormula_35 hex hlocks (by decide +kernel) (by decide) (by decide) (by decide) (by decide)
theorem hdX9_faultPosition : yX9_faultPosition.cls = RX9 ∧ yX9_faultPosition.cls ≠ "java/lang/invoke/MethodHandle" ∧ yX9_faultPosition.cls ≠ "java/lang/invoke/VarHandle" ∧ (parseMethodDescriptor yX9_faultPosition.desc).map (fun d => d.parameters.length) = some 0 := by decide +kernel
set_option maxHeartbeats 4000000 in
set_option maxRecDepth 100000 in
theorem m_X9_faultPosition (l : Launch) {Γ : xG} {N : Nat} {M : xM} {res : xR} (hf : F_X9_faultPosition N M = some res) (sz : Nat) : Met l yX9_faultPosition (xWs yX9_faultPosition cX9_faultPosition 1 (some .int)) ({ frames := 1, cells := 0, slots := 0, locals := 40 } : Room) (va_Pc [.ref (Γ.2.1 1470)] (xPre Γ (wX Γ) M sz)) (xCi Γ (wX Γ) 1483 res sz) 0 0 (xAd Γ 1483 sz) := by
  refine x_met (Qc := fun sz => xCi Γ (wX Γ) 1483 res sz) pnX9 wG_W (Nat.le_of_ble_eq_true rfl) (fun p e s m args below meth c _ E h ls hl => ?_) sz
  obtain ⟨⟨hx, hb, hml, hown, hts⟩, hr, hlocks⟩ := id E
  have hl : lv_has ls 1 [(0, .ref (Γ.2.1 1470))] := hl
  refine lv_aload_n hx hb dX9_faultPosition_0 rfl (lv_at hl 0 rfl) ?_
  refine x_get (own := RX9) (ref := "TintDesk") (C := RX9) (T := TX9) (n := 10) (index := 37) (v := .int (M.1 1470 5)) hx hb hts (fun w h => xU_sub w (inU9 w h)) hown h kX_tint rfl 5 (by decide) (hts _ (xU_sub _ q27)) (fun _ h9 => h9) rfl dX9_faultPosition_1 ?_
  exact x_iret hx hb h (Option.some.inj hf) hr hlocks dX9_faultPosition_4
theorem hdX9_setAmount : yX9_setAmount.cls = RX9 ∧ yX9_setAmount.cls ≠ "java/lang/invoke/MethodHandle" ∧ yX9_setAmount.cls ≠ "java/lang/invoke/VarHandle" ∧ (parseMethodDescriptor yX9_setAmount.desc).map (fun d => d.parameters.length) = some 3 := by decide +kernel
set_option maxHeartbeats 4000000 in
set_option maxRecDepth 100000 in
theorem m_X9_setAmount (l : Launch) {Γ : xG} {N : Nat} {v1 : Int32} {v2 : Int32} {v3 : Int32} {M : xM} {res : xE} (hlt : l.stackTraces = false) (hf : F_X9_setAmount N v1 v2 v3 M = some res) (sz : Nat) : vx_Met l yX9_setAmount (xWs yX9_setAmount cX9_setAmount 6 (some .int)) ({ frames := 7, cells := 3, slots := 18, locals := 184 } : Room) (va_Pc [.ref (Γ.2.1 1470), .int v1, .int v2, .int v3] (xPreZ Γ (wX Γ) 1483 M sz)) (xXi Γ (wX Γ) 1483 res sz) (xXX Γ (wX Γ) 1483 res sz) 3 18 (xAd Γ 1483 sz) := by
  refine x_Xmet (Qc := fun sz => xXi Γ (wX Γ) 1483 res sz) (XC := fun sz => xXX Γ (wX Γ) 1483 res sz) pnX9 wG_W (Nat.le_of_ble_eq_true rfl) (fun p e s m args below meth c E hex hz h ls hl => ?_) sz
  obtain ⟨⟨hx, hb, hml, hown, hts⟩, hr, hlocks⟩ := id E
  have hl : lv_has ls 6 [(0, .ref (Γ.2.1 1470)), (1, .int v1), (2, .int v2), (3, .int v3)] := hl
  refine lv_aload_n hx hb dX9_setAmount_0 rfl (lv_at hl 0 rfl) ?_
  refine lv_iload_n hx hb dX9_setAmount_1 rfl (lv_at hl 1 rfl) ?_
  obtain ⟨r1, er1, hf⟩ := xbd_s hf
  refine x_XVv (As := [.int v1]) (rest := []) E.1 (m_X9_requireFormula l hlt er1) (cwV 1 hts (xgV xU_sub q560 q561 q562 q2 q563) rfl rfl rfl hdX9_requireFormula ⟨Nat.le_of_ble_eq_true rfl, Nat.le_of_ble_eq_true rfl⟩) h hz kX_tint rfl rfl hl.1 rfl (Nat.le_of_ble_eq_true rfl) dX9_setAmount_2 ⟨Nat.le_of_ble_eq_true rfl, Nat.le_of_ble_eq_true rfl⟩ (fun Ex M9 hv9 H locs q9 ce9 h hq9 hc9 hn9 => ?_) (fun M2 hvy3 H locs h => ?_)
  · subst hv9
    refine vx_widen (k := 3) (n := 18) (Nat.le_of_ble_eq_true rfl) (Nat.le_of_ble_eq_true rfl) ?_
    exact x_Xout h (Option.some.inj hf) hex hlocks hq9 hc9 hn9
  · subst hvy3
    replace hf := xth_l hf
    refine lv_aload_n hx hb dX9_setAmount_5 rfl (lv_at hl 0 rfl) ?_
    refine lv_iload_n hx hb dX9_setAmount_6 rfl (lv_at hl 2 rfl) ?_
    obtain ⟨r4, er4, hf⟩ := xbd_s hf
    refine x_XVv (As := [.int v2]) (rest := []) E.1 (m_X9_requireColorant l hlt er4) (cwV 1 hts (xgV xU_sub q239 q240 q241 q2 q242) rfl rfl rfl hdX9_requireColorant ⟨Nat.le_of_ble_eq_true rfl, Nat.le_of_ble_eq_true rfl⟩) h hz kX_tint rfl rfl hl.1 rfl (Nat.le_of_ble_eq_true rfl) dX9_setAmount_7 ⟨Nat.le_of_ble_eq_true rfl, Nat.le_of_ble_eq_true rfl⟩ (fun Ex M9 hv9 H locs q9 ce9 h hq9 hc9 hn9 => ?_) (fun M5 hvy6 H locs h => ?_)
    · subst hv9
      refine vx_widen (k := 3) (n := 18) (Nat.le_of_ble_eq_true rfl) (Nat.le_of_ble_eq_true rfl) ?_
      exact x_Xout h (Option.some.inj hf) hex hlocks hq9 hc9 hn9
    · subst hvy6
      replace hf := xth_l hf
      refine lv_iload_n hx hb dX9_setAmount_10 rfl (lv_at hl 3 rfl) ?_
      refine lv_iconst (v := 0) hx hb dX9_setAmount_11 (by decide) ?_
      refine lv_sipush (v := 9999) hx hb dX9_setAmount_12 (by decide) ?_
      obtain ⟨r7, er7, hf⟩ := xbd_s hf
      refine x_XSv (As := [.int v3, .int 0, .int 9999]) (rest := []) E.1 (m_X9_requireRange l hlt er7) (cwS 3 hts (xgS xU_sub q155 q156 q2 q157) rfl rfl rfl hdX9_requireRange ⟨Nat.le_of_ble_eq_true rfl, Nat.le_of_ble_eq_true rfl⟩) h hz rfl hl.1 rfl (Nat.le_of_ble_eq_true rfl) dX9_setAmount_15 ⟨Nat.le_of_ble_eq_true rfl, Nat.le_of_ble_eq_true rfl⟩ (fun Ex M9 hv9 H locs q9 ce9 h hq9 hc9 hn9 => ?_) (fun M8 hvy9 H locs h => ?_)
      · subst hv9
        exact x_Xout h (Option.some.inj hf) hex hlocks hq9 hc9 hn9
      · subst hvy9
        replace hf := xth_l hf
        refine lv_aload_n hx hb dX9_setAmount_18 rfl (lv_at hl 0 rfl) ?_
        refine x_get (own := RX9) (ref := "TintDesk") (C := RX9) (T := TX9) (n := 10) (index := 26) (v := .ref (Γ.2.1 1471)) hx hb hts (fun w h => xU_sub w (inU9 w h)) hown h kX_tint rfl 3 (by decide) (hts _ (xU_sub _ q22)) (fun _ h9 => h9) rfl dX9_setAmount_19 ?_
        refine lv_aload_n hx hb dX9_setAmount_22 rfl (lv_at hl 0 rfl) ?_
        refine x_get (own := RX9) (ref := "TintDesk") (C := RX9) (T := TX9) (n := 10) (index := 12) (v := .ref (Γ.2.1 0)) hx hb hts (fun w h => xU_sub w (inU9 w h)) hown h kX_tint rfl 0 (by decide) (hts _ (xU_sub _ q16)) (fun _ h9 => h9) rfl dX9_setAmount_23 ?_
        obtain ⟨r10, er10, hf⟩ := xbd_s hf
        refine x_Vv (As := [.ref (Γ.2.1 0)]) (rest := []) E.1 (m_X6_keep l isDk_0 er10) (cwV 1 hts (xgV xU_sub q160 q161 q162 q21 q163) rfl rfl rfl hdX6_keep ⟨Nat.le_of_ble_eq_true rfl, Nat.le_of_ble_eq_true rfl⟩) h kX_hist rfl rfl hl.1 rfl (Nat.le_of_ble_eq_true rfl) dX9_setAmount_26 ⟨Nat.le_of_ble_eq_true rfl, Nat.le_of_ble_eq_true rfl⟩ (fun H locs h => ?_)
        refine lv_aload_n hx hb dX9_setAmount_29 rfl (lv_at hl 0 rfl) ?_
        refine x_get (own := RX9) (ref := "TintDesk") (C := RX9) (T := TX9) (n := 10) (index := 12) (v := .ref (Γ.2.1 0)) hx hb hts (fun w h => xU_sub w (inU9 w h)) hown h kX_tint rfl 0 (by decide) (hts _ (xU_sub _ q16)) (fun _ h9 => h9) rfl dX9_setAmount_30 ?_
        refine x_get (own := RX9) (ref := "TintDesk$Desk") (C := RX3) (T := TX3) (n := 9) (index := 186) (v := .ref (Γ.2.1 3)) hx hb hts (fun w h => xU_sub w (inU3 w h)) hown h (kX_desk isDk_0) rfl 2 (by decide) (hts _ (xU_sub _ q557)) (fun _ h9 => h9) rfl dX9_setAmount_33 ?_
        refine lv_iload_n hx hb dX9_setAmount_36 rfl (lv_at hl 1 rfl) ?_
        obtain ⟨c11, hf⟩ := xck_s hf
        refine x_aald (C := "TintDesk$Formula") hx hb h rfl (kX_desk_formulas isDk_0) c11 dX9_setAmount_37 ?_
        refine lv_astore (lv' := [(4, .ref (Γ.2.1 (0 + 57 + 3 * v1.toNatClampNeg))), (0, .ref (Γ.2.1 1470)), (1, .int v1), (2, .int v2), (3, .int v3)]) hx hb dX9_setAmount_38 hl (by decide) rfl (fun ls hl => ?_)
        refine lv_aload hx hb dX9_setAmount_40 (lv_at hl 0 rfl) ?_
        refine x_get (own := RX9) (ref := "TintDesk$Formula") (C := RX4) (T := TX4) (n := 3) (index := 190) (v := .ref (Γ.2.1 ((0 + 57 + 3 * v1.toNatClampNeg) + 1))) hx hb hts (fun w h => xU_sub w (inU4 w h)) hown h (kX_formula (isFo_of isDk_0 c11)) rfl 1 (by decide) (hts _ (xU_sub _ q558)) (fun _ h9 => h9) rfl dX9_setAmount_42 ?_
        refine lv_iload_n hx hb dX9_setAmount_45 rfl (lv_at hl 3 rfl) ?_
        obtain ⟨c12, hf⟩ := xck_s hf
        refine x_iald hx hb h (kX_formula_amounts (isFo_of isDk_0 c11)) (xin_in c12) dX9_setAmount_46 ?_
        obtain ⟨y13, ey13, hf⟩ := xl_s hf
        refine x_nm ey13 ?_
        refine lv_istore (lv' := [(5, .int y13), (4, .ref (Γ.2.1 (0 + 57 + 3 * v1.toNatClampNeg))), (0, .ref (Γ.2.1 1470)), (1, .int v1), (2, .int v2), (3, .int v3)]) hx hb dX9_setAmount_47 hl (by decide) rfl (fun ls hl => ?_)
        refine lv_aload hx hb dX9_setAmount_49 (lv_at hl 1 rfl) ?_
        refine x_get (own := RX9) (ref := "TintDesk$Formula") (C := RX4) (T := TX4) (n := 3) (index := 190) (v := .ref (Γ.2.1 ((0 + 57 + 3 * v1.toNatClampNeg) + 1))) hx hb hts (fun w h => xU_sub w (inU4 w h)) hown h (kX_formula (isFo_of isDk_0 c11)) rfl 1 (by decide) (hts _ (xU_sub _ q558)) (fun _ h9 => h9) rfl dX9_setAmount_51 ?_
        refine lv_iload_n hx hb dX9_setAmount_54 rfl (lv_at hl 4 rfl) ?_
        refine lv_iload_n hx hb dX9_setAmount_55 rfl (lv_at hl 5 rfl) ?_
        obtain ⟨c14, hf⟩ := xck_s hf
        obtain ⟨M15, eM15, hf⟩ := xl_s hf
        refine x_iast hx hb h (kX_formula_amounts (isFo_of isDk_0 c11)) (xin_in c14) eM15 dX9_setAmount_56 (fun H locs h => ?_)
        refine lv_aload hx hb dX9_setAmount_57 (lv_at hl 1 rfl) ?_
        refine x_get (own := RX9) (ref := "TintDesk$Formula") (C := RX4) (T := TX4) (n := 3) (index := 196) (v := .ref (Γ.2.1 ((0 + 57 + 3 * v1.toNatClampNeg) + 2))) hx hb hts (fun w h => xU_sub w (inU4 w h)) hown h (kX_formula (isFo_of isDk_0 c11)) rfl 2 (by decide) (hts _ (xU_sub _ q559)) (fun _ h9 => h9) rfl dX9_setAmount_59 ?_
        refine lv_iload_n hx hb dX9_setAmount_62 rfl (lv_at hl 4 rfl) ?_
        refine lv_iconst (v := 0) hx hb dX9_setAmount_63 (by decide) ?_
        obtain ⟨c16, hf⟩ := xck_s hf
        obtain ⟨M17, eM17, hf⟩ := xl_s hf
        refine x_iast hx hb h (kX_formula_carries (isFo_of isDk_0 c11)) (xin_in c16) eM17 dX9_setAmount_64 (fun H locs h => ?_)
        refine lv_iload hx hb dX9_setAmount_65 (lv_at hl 0 rfl) ?_
        exact x_Xiret hx hb h (Option.some.inj hf) hr hlocks dX9_setAmount_67
theorem hdX9_amount : yX9_amount.cls = RX9 ∧ yX9_amount.cls ≠ "java/lang/invoke/MethodHandle" ∧ yX9_amount.cls ≠ "java/lang/invoke/VarHandle" ∧ (parseMethodDescriptor yX9_amount.desc).map (fun d => d.parameters.length) = some 3 := by decide +kernel
set_option maxHeartbeats 4000000 in
set_option maxRecDepth 100000 in
theorem m_X9_amount (l : Launch) {Γ : xG} {N : Nat} {v1 : Int32} {v2 : Int32} {v3 : Int32} {M : xM} {res : xE} (hlt : l.stackTraces = false) (hf : F_X9_amount N v1 v2 v3 M = some res) (sz : Nat) : vx_Met l yX9_amount (xWs yX9_amount cX9_amount 5 (some .int)) ({ frames := 7, cells := 2, slots := 12, locals := 141 } : Room) (va_Pc [.ref (Γ.2.1 1470), .int v1, .int v2, .int v3] (xPreZ Γ (wX Γ) 1483 M sz)) (xXi Γ (wX Γ) 1483 res sz) (xXX Γ (wX Γ) 1483 res sz) 2 12 (xAd Γ 1483 sz) := by
  refine x_Xmet (Qc := fun sz => xXi Γ (wX Γ) 1483 res sz) (XC := fun sz => xXX Γ (wX Γ) 1483 res sz) pnX9 wG_W (Nat.le_of_ble_eq_true rfl) (fun p e s m args below meth c E hex hz h ls hl => ?_) sz
  obtain ⟨⟨hx, hb, hml, hown, hts⟩, hr, hlocks⟩ := id E
  have hl : lv_has ls 5 [(0, .ref (Γ.2.1 1470)), (1, .int v1), (2, .int v2), (3, .int v3)] := hl
  refine lv_aload_n hx hb dX9_amount_0 rfl (lv_at hl 0 rfl) ?_
  refine lv_iload_n hx hb dX9_amount_1 rfl (lv_at hl 1 rfl) ?_
  obtain ⟨r1, er1, hf⟩ := xbd_s hf
  refine x_XVv (As := [.int v1]) (rest := []) E.1 (m_X9_requireFormula l hlt er1) (cwV 1 hts (xgV xU_sub q560 q561 q562 q2 q563) rfl rfl rfl hdX9_requireFormula ⟨Nat.le_of_ble_eq_true rfl, Nat.le_of_ble_eq_true rfl⟩) h hz kX_tint rfl rfl hl.1 rfl (Nat.le_of_ble_eq_true rfl) dX9_amount_2 ⟨Nat.le_of_ble_eq_true rfl, Nat.le_of_ble_eq_true rfl⟩ (fun Ex M9 hv9 H locs q9 ce9 h hq9 hc9 hn9 => ?_) (fun M2 hvy3 H locs h => ?_)
  · subst hv9
    refine vx_widen (k := 2) (n := 12) (Nat.le_of_ble_eq_true rfl) (Nat.le_of_ble_eq_true rfl) ?_
    exact x_Xout h (Option.some.inj hf) hex hlocks hq9 hc9 hn9
  · subst hvy3
    replace hf := xth_l hf
    refine lv_aload_n hx hb dX9_amount_5 rfl (lv_at hl 0 rfl) ?_
    refine lv_iload_n hx hb dX9_amount_6 rfl (lv_at hl 2 rfl) ?_
    obtain ⟨r4, er4, hf⟩ := xbd_s hf
    refine x_XVv (As := [.int v2]) (rest := []) E.1 (m_X9_requireColorant l hlt er4) (cwV 1 hts (xgV xU_sub q239 q240 q241 q2 q242) rfl rfl rfl hdX9_requireColorant ⟨Nat.le_of_ble_eq_true rfl, Nat.le_of_ble_eq_true rfl⟩) h hz kX_tint rfl rfl hl.1 rfl (Nat.le_of_ble_eq_true rfl) dX9_amount_7 ⟨Nat.le_of_ble_eq_true rfl, Nat.le_of_ble_eq_true rfl⟩ (fun Ex M9 hv9 H locs q9 ce9 h hq9 hc9 hn9 => ?_) (fun M5 hvy6 H locs h => ?_)
    · subst hv9
      exact x_Xout h (Option.some.inj hf) hex hlocks hq9 hc9 hn9
    · subst hvy6
      replace hf := xth_l hf
      refine lv_aload_n hx hb dX9_amount_10 rfl (lv_at hl 0 rfl) ?_
      refine x_get (own := RX9) (ref := "TintDesk") (C := RX9) (T := TX9) (n := 10) (index := 12) (v := .ref (Γ.2.1 0)) hx hb hts (fun w h => xU_sub w (inU9 w h)) hown h kX_tint rfl 0 (by decide) (hts _ (xU_sub _ q16)) (fun _ h9 => h9) rfl dX9_amount_11 ?_
      refine x_get (own := RX9) (ref := "TintDesk$Desk") (C := RX3) (T := TX3) (n := 9) (index := 186) (v := .ref (Γ.2.1 3)) hx hb hts (fun w h => xU_sub w (inU3 w h)) hown h (kX_desk isDk_0) rfl 2 (by decide) (hts _ (xU_sub _ q557)) (fun _ h9 => h9) rfl dX9_amount_14 ?_
      refine lv_iload_n hx hb dX9_amount_17 rfl (lv_at hl 1 rfl) ?_
      obtain ⟨c7, hf⟩ := xck_s hf
      refine x_aald (C := "TintDesk$Formula") hx hb h rfl (kX_desk_formulas isDk_0) c7 dX9_amount_18 ?_
      refine lv_astore (lv' := [(4, .ref (Γ.2.1 (0 + 57 + 3 * v1.toNatClampNeg))), (0, .ref (Γ.2.1 1470)), (1, .int v1), (2, .int v2), (3, .int v3)]) hx hb dX9_amount_19 hl (by decide) rfl (fun ls hl => ?_)
      refine lv_iload_n hx hb dX9_amount_21 rfl (lv_at hl 4 rfl) ?_
      refine lv_if_eq (tgt := 35) hx hb dX9_amount_22 (by decide) (fun c8 => ?_) (fun c8 => ?_)
      · replace hf := xif_t hf c8
        refine lv_aload hx hb dX9_amount_35 (lv_at hl 0 rfl) ?_
        refine x_get (own := RX9) (ref := "TintDesk$Formula") (C := RX4) (T := TX4) (n := 3) (index := 190) (v := .ref (Γ.2.1 ((0 + 57 + 3 * v1.toNatClampNeg) + 1))) hx hb hts (fun w h => xU_sub w (inU4 w h)) hown h (kX_formula (isFo_of isDk_0 c7)) rfl 1 (by decide) (hts _ (xU_sub _ q558)) (fun _ h9 => h9) rfl dX9_amount_37 ?_
        refine lv_iload_n hx hb dX9_amount_40 rfl (lv_at hl 3 rfl) ?_
        obtain ⟨c9, hf⟩ := xck_s hf
        refine x_iald hx hb h (kX_formula_amounts (isFo_of isDk_0 c7)) (xin_in c9) dX9_amount_41 ?_
        exact x_Xiret hx hb h (Option.some.inj hf) hr hlocks dX9_amount_42
      · replace hf := xif_f hf c8
        refine lv_aload hx hb dX9_amount_25 (lv_at hl 0 rfl) ?_
        refine x_get (own := RX9) (ref := "TintDesk$Formula") (C := RX4) (T := TX4) (n := 3) (index := 196) (v := .ref (Γ.2.1 ((0 + 57 + 3 * v1.toNatClampNeg) + 2))) hx hb hts (fun w h => xU_sub w (inU4 w h)) hown h (kX_formula (isFo_of isDk_0 c7)) rfl 2 (by decide) (hts _ (xU_sub _ q559)) (fun _ h9 => h9) rfl dX9_amount_27 ?_
        refine lv_iload_n hx hb dX9_amount_30 rfl (lv_at hl 3 rfl) ?_
        obtain ⟨c10, hf⟩ := xck_s hf
        refine x_iald hx hb h (kX_formula_carries (isFo_of isDk_0 c7)) (xin_in c10) dX9_amount_31 ?_
        refine lv_goto (tgt := 42) hx hb dX9_amount_32 (by decide) ?_
        exact x_Xiret hx hb h (Option.some.inj hf) hr hlocks dX9_amount_42
theorem hdX9_baseOf : yX9_baseOf.cls = RX9 ∧ yX9_baseOf.cls ≠ "java/lang/invoke/MethodHandle" ∧ yX9_baseOf.cls ≠ "java/lang/invoke/VarHandle" ∧ (parseMethodDescriptor yX9_baseOf.desc).map (fun d => d.parameters.length) = some 1 := by decide +kernel
set_option maxHeartbeats 4000000 in
set_option maxRecDepth 100000 in
theorem m_X9_baseOf (l : Launch) {Γ : xG} {N : Nat} {v1 : Int32} {M : xM} {res : xE} (hlt : l.stackTraces = false) (hf : F_X9_baseOf N v1 M = some res) (sz : Nat) : vx_Met l yX9_baseOf (xWs yX9_baseOf cX9_baseOf 2 (some .int)) ({ frames := 7, cells := 1, slots := 6, locals := 141 } : Room) (va_Pc [.ref (Γ.2.1 1470), .int v1] (xPreZ Γ (wX Γ) 1483 M sz)) (xXi Γ (wX Γ) 1483 res sz) (xXX Γ (wX Γ) 1483 res sz) 1 6 (xAd Γ 1483 sz) := by
  refine x_Xmet (Qc := fun sz => xXi Γ (wX Γ) 1483 res sz) (XC := fun sz => xXX Γ (wX Γ) 1483 res sz) pnX9 wG_W (Nat.le_of_ble_eq_true rfl) (fun p e s m args below meth c E hex hz h ls hl => ?_) sz
  obtain ⟨⟨hx, hb, hml, hown, hts⟩, hr, hlocks⟩ := id E
  have hl : lv_has ls 2 [(0, .ref (Γ.2.1 1470)), (1, .int v1)] := hl
  refine lv_aload_n hx hb dX9_baseOf_0 rfl (lv_at hl 0 rfl) ?_
  refine lv_iload_n hx hb dX9_baseOf_1 rfl (lv_at hl 1 rfl) ?_
  obtain ⟨r1, er1, hf⟩ := xbd_s hf
  refine x_XVv (As := [.int v1]) (rest := []) E.1 (m_X9_requireFormula l hlt er1) (cwV 1 hts (xgV xU_sub q560 q561 q562 q2 q563) rfl rfl rfl hdX9_requireFormula ⟨Nat.le_of_ble_eq_true rfl, Nat.le_of_ble_eq_true rfl⟩) h hz kX_tint rfl rfl hl.1 rfl (Nat.le_of_ble_eq_true rfl) dX9_baseOf_2 ⟨Nat.le_of_ble_eq_true rfl, Nat.le_of_ble_eq_true rfl⟩ (fun Ex M9 hv9 H locs q9 ce9 h hq9 hc9 hn9 => ?_) (fun M2 hvy3 H locs h => ?_)
  · subst hv9
    exact x_Xout h (Option.some.inj hf) hex hlocks hq9 hc9 hn9
  · subst hvy3
    replace hf := xth_l hf
    refine lv_aload_n hx hb dX9_baseOf_5 rfl (lv_at hl 0 rfl) ?_
    refine x_get (own := RX9) (ref := "TintDesk") (C := RX9) (T := TX9) (n := 10) (index := 12) (v := .ref (Γ.2.1 0)) hx hb hts (fun w h => xU_sub w (inU9 w h)) hown h kX_tint rfl 0 (by decide) (hts _ (xU_sub _ q16)) (fun _ h9 => h9) rfl dX9_baseOf_6 ?_
    refine x_get (own := RX9) (ref := "TintDesk$Desk") (C := RX3) (T := TX3) (n := 9) (index := 186) (v := .ref (Γ.2.1 3)) hx hb hts (fun w h => xU_sub w (inU3 w h)) hown h (kX_desk isDk_0) rfl 2 (by decide) (hts _ (xU_sub _ q557)) (fun _ h9 => h9) rfl dX9_baseOf_9 ?_
    refine lv_iload_n hx hb dX9_baseOf_12 rfl (lv_at hl 1 rfl) ?_
    obtain ⟨c4, hf⟩ := xck_s hf
    refine x_aald (C := "TintDesk$Formula") hx hb h rfl (kX_desk_formulas isDk_0) c4 dX9_baseOf_13 ?_
    refine x_get (own := RX9) (ref := "TintDesk$Formula") (C := RX4) (T := TX4) (n := 3) (index := 199) (v := .int (M2.1 (0 + 57 + 3 * v1.toNatClampNeg) 0)) hx hb hts (fun w h => xU_sub w (inU4 w h)) hown h (kX_formula (isFo_of isDk_0 c4)) rfl 0 (by decide) (hts _ (xU_sub _ q591)) (fun _ h9 => h9) rfl dX9_baseOf_14 ?_
    exact x_Xiret hx hb h (Option.some.inj hf) hr hlocks dX9_baseOf_17
theorem hdX9_closest : yX9_closest.cls = RX9 ∧ yX9_closest.cls ≠ "java/lang/invoke/MethodHandle" ∧ yX9_closest.cls ≠ "java/lang/invoke/VarHandle" ∧ (parseMethodDescriptor yX9_closest.desc).map (fun d => d.parameters.length) = some 1 := by decide +kernel
set_option maxHeartbeats 4000000 in
set_option maxRecDepth 100000 in
theorem m_X9_closest (l : Launch) {Γ : xG} {N : Nat} {v1 : Int32} {M : xM} {res : xE} (hlt : l.stackTraces = false) (hf : F_X9_closest N v1 M = some res) (sz : Nat) : vx_Met l yX9_closest (xWs yX9_closest cX9_closest 2 (some .int)) ({ frames := 7, cells := 1, slots := 6, locals := 141 } : Room) (va_Pc [.ref (Γ.2.1 1470), .int v1] (xPreZ Γ (wX Γ) 1483 M sz)) (xXi Γ (wX Γ) 1483 res sz) (xXX Γ (wX Γ) 1483 res sz) 1 6 (xAd Γ 1483 sz) := by
  refine x_Xmet (Qc := fun sz => xXi Γ (wX Γ) 1483 res sz) (XC := fun sz => xXX Γ (wX Γ) 1483 res sz) pnX9 wG_W (Nat.le_of_ble_eq_true rfl) (fun p e s m args below meth c E hex hz h ls hl => ?_) sz
  obtain ⟨⟨hx, hb, hml, hown, hts⟩, hr, hlocks⟩ := id E
  have hl : lv_has ls 2 [(0, .ref (Γ.2.1 1470)), (1, .int v1)] := hl
  refine lv_aload_n hx hb dX9_closest_0 rfl (lv_at hl 0 rfl) ?_
  refine lv_iload_n hx hb dX9_closest_1 rfl (lv_at hl 1 rfl) ?_
  obtain ⟨r1, er1, hf⟩ := xbd_s hf
  refine x_XVv (As := [.int v1]) (rest := []) E.1 (m_X9_requireCan l hlt er1) (cwV 1 hts (xgV xU_sub q604 q605 q606 q2 q607) rfl rfl rfl hdX9_requireCan ⟨Nat.le_of_ble_eq_true rfl, Nat.le_of_ble_eq_true rfl⟩) h hz kX_tint rfl rfl hl.1 rfl (Nat.le_of_ble_eq_true rfl) dX9_closest_2 ⟨Nat.le_of_ble_eq_true rfl, Nat.le_of_ble_eq_true rfl⟩ (fun Ex M9 hv9 H locs q9 ce9 h hq9 hc9 hn9 => ?_) (fun M2 hvy3 H locs h => ?_)
  · subst hv9
    exact x_Xout h (Option.some.inj hf) hex hlocks hq9 hc9 hn9
  · subst hvy3
    replace hf := xth_l hf
    refine lv_aload_n hx hb dX9_closest_5 rfl (lv_at hl 0 rfl) ?_
    refine x_get (own := RX9) (ref := "TintDesk") (C := RX9) (T := TX9) (n := 10) (index := 12) (v := .ref (Γ.2.1 0)) hx hb hts (fun w h => xU_sub w (inU9 w h)) hown h kX_tint rfl 0 (by decide) (hts _ (xU_sub _ q16)) (fun _ h9 => h9) rfl dX9_closest_6 ?_
    refine lv_aload_n hx hb dX9_closest_9 rfl (lv_at hl 0 rfl) ?_
    refine x_get (own := RX9) (ref := "TintDesk") (C := RX9) (T := TX9) (n := 10) (index := 12) (v := .ref (Γ.2.1 0)) hx hb hts (fun w h => xU_sub w (inU9 w h)) hown h kX_tint rfl 0 (by decide) (hts _ (xU_sub _ q16)) (fun _ h9 => h9) rfl dX9_closest_10 ?_
    refine x_get (own := RX9) (ref := "TintDesk$Desk") (C := RX3) (T := TX3) (n := 9) (index := 205) (v := .ref (Γ.2.1 4)) hx hb hts (fun w h => xU_sub w (inU3 w h)) hown h (kX_desk isDk_0) rfl 3 (by decide) (hts _ (xU_sub _ q603)) (fun _ h9 => h9) rfl dX9_closest_13 ?_
    refine lv_iload_n hx hb dX9_closest_16 rfl (lv_at hl 1 rfl) ?_
    obtain ⟨c4, hf⟩ := xck_s hf
    refine x_aald (C := "TintDesk$Can") hx hb h rfl (kX_desk_cans isDk_0) c4 dX9_closest_17 ?_
    obtain ⟨r5, er5, hf⟩ := xbd_s hf
    refine x_Vi (As := [.ref (Γ.2.1 (0 + 87 + 3 * v1.toNatClampNeg))]) (rest := []) E.1 (m_X3_closestFormula l isDk_0 (isCa_of isDk_0 c4) er5) (cwV 1 hts (xgV xU_sub q609 q610 q611 q15 q612) rfl rfl rfl hdX3_closestFormula ⟨Nat.le_of_ble_eq_true rfl, Nat.le_of_ble_eq_true rfl⟩) h (kX_desk isDk_0) rfl rfl hl.1 rfl (Nat.le_of_ble_eq_true rfl) dX9_closest_18 ⟨Nat.le_of_ble_eq_true rfl, Nat.le_of_ble_eq_true rfl⟩ (fun H locs h => ?_)
    exact x_Xiret hx hb h (Option.some.inj hf) hr hlocks dX9_closest_21
theorem hdX9_mix : yX9_mix.cls = RX9 ∧ yX9_mix.cls ≠ "java/lang/invoke/MethodHandle" ∧ yX9_mix.cls ≠ "java/lang/invoke/VarHandle" ∧ (parseMethodDescriptor yX9_mix.desc).map (fun d => d.parameters.length) = some 1 := by decide +kernel
set_option maxHeartbeats 4000000 in
set_option maxRecDepth 100000 in
theorem m_X9_mix (l : Launch) {Γ : xG} {N : Nat} {v1 : Int32} {M : xM} {res : xE} (hlt : l.stackTraces = false) (hf : F_X9_mix N v1 M = some res) (sz : Nat) : vx_Met l yX9_mix (xWs yX9_mix cX9_mix 3 (some .int)) ({ frames := 7, cells := 2, slots := 12, locals := 184 } : Room) (va_Pc [.ref (Γ.2.1 1470), .int v1] (xPreZ Γ (wX Γ) 1483 M sz)) (xXi Γ (wX Γ) 1483 res sz) (xXX Γ (wX Γ) 1483 res sz) 2 12 (xAd Γ 1483 sz) := by
  refine x_Xmet (Qc := fun sz => xXi Γ (wX Γ) 1483 res sz) (XC := fun sz => xXX Γ (wX Γ) 1483 res sz) pnX9 wG_W (Nat.le_of_ble_eq_true rfl) (fun p e s m args below meth c E hex hz h ls hl => ?_) sz
  obtain ⟨⟨hx, hb, hml, hown, hts⟩, hr, hlocks⟩ := id E
  have hl : lv_has ls 3 [(0, .ref (Γ.2.1 1470)), (1, .int v1)] := hl
  refine lv_aload_n hx hb dX9_mix_0 rfl (lv_at hl 0 rfl) ?_
  refine lv_iload_n hx hb dX9_mix_1 rfl (lv_at hl 1 rfl) ?_
  obtain ⟨r1, er1, hf⟩ := xbd_s hf
  refine x_XVv (As := [.int v1]) (rest := []) E.1 (m_X9_requireFormula l hlt er1) (cwV 1 hts (xgV xU_sub q560 q561 q562 q2 q563) rfl rfl rfl hdX9_requireFormula ⟨Nat.le_of_ble_eq_true rfl, Nat.le_of_ble_eq_true rfl⟩) h hz kX_tint rfl rfl hl.1 rfl (Nat.le_of_ble_eq_true rfl) dX9_mix_2 ⟨Nat.le_of_ble_eq_true rfl, Nat.le_of_ble_eq_true rfl⟩ (fun Ex M9 hv9 H locs q9 ce9 h hq9 hc9 hn9 => ?_) (fun M2 hvy3 H locs h => ?_)
  · subst hv9
    refine vx_widen (k := 2) (n := 12) (Nat.le_of_ble_eq_true rfl) (Nat.le_of_ble_eq_true rfl) ?_
    exact x_Xout h (Option.some.inj hf) hex hlocks hq9 hc9 hn9
  · subst hvy3
    replace hf := xth_l hf
    refine lv_aload_n hx hb dX9_mix_5 rfl (lv_at hl 0 rfl) ?_
    refine x_get (own := RX9) (ref := "TintDesk") (C := RX9) (T := TX9) (n := 10) (index := 12) (v := .ref (Γ.2.1 0)) hx hb hts (fun w h => xU_sub w (inU9 w h)) hown h kX_tint rfl 0 (by decide) (hts _ (xU_sub _ q16)) (fun _ h9 => h9) rfl dX9_mix_6 ?_
    refine x_get (own := RX9) (ref := "TintDesk$Desk") (C := RX3) (T := TX3) (n := 9) (index := 186) (v := .ref (Γ.2.1 3)) hx hb hts (fun w h => xU_sub w (inU3 w h)) hown h (kX_desk isDk_0) rfl 2 (by decide) (hts _ (xU_sub _ q557)) (fun _ h9 => h9) rfl dX9_mix_9 ?_
    refine lv_iload_n hx hb dX9_mix_12 rfl (lv_at hl 1 rfl) ?_
    obtain ⟨c4, hf⟩ := xck_s hf
    refine x_aald (C := "TintDesk$Formula") hx hb h rfl (kX_desk_formulas isDk_0) c4 dX9_mix_13 ?_
    refine lv_astore_n (lv' := [(2, .ref (Γ.2.1 (0 + 57 + 3 * v1.toNatClampNeg))), (0, .ref (Γ.2.1 1470)), (1, .int v1)]) hx hb dX9_mix_14 rfl hl (by decide) rfl (fun ls hl => ?_)
    refine lv_aload_n hx hb dX9_mix_15 rfl (lv_at hl 1 rfl) ?_
    refine lv_aload_n hx hb dX9_mix_16 rfl (lv_at hl 1 rfl) ?_
    refine x_get (own := RX9) (ref := "TintDesk") (C := RX9) (T := TX9) (n := 10) (index := 12) (v := .ref (Γ.2.1 0)) hx hb hts (fun w h => xU_sub w (inU9 w h)) hown h kX_tint rfl 0 (by decide) (hts _ (xU_sub _ q16)) (fun _ h9 => h9) rfl dX9_mix_17 ?_
    refine lv_aload_n hx hb dX9_mix_20 rfl (lv_at hl 0 rfl) ?_
    obtain ⟨r5, er5, hf⟩ := xbd_s hf
    refine x_Vi (As := [.ref (Γ.2.1 (0 + 57 + 3 * v1.toNatClampNeg))]) (rest := [.ref (Γ.2.1 1470)]) E.1 (m_X3_whyNoMix l isDk_0 (isFo_of isDk_0 c4) er5) (cwV 1 hts (xgV xU_sub q641 q642 q643 q15 q644) rfl rfl rfl hdX3_whyNoMix ⟨Nat.le_of_ble_eq_true rfl, Nat.le_of_ble_eq_true rfl⟩) h (kX_desk isDk_0) rfl rfl hl.1 rfl (Nat.le_of_ble_eq_true rfl) dX9_mix_21 ⟨Nat.le_of_ble_eq_true rfl, Nat.le_of_ble_eq_true rfl⟩ (fun H locs h => ?_)
    refine lv_aload_n hx hb dX9_mix_24 rfl (lv_at hl 1 rfl) ?_
    refine x_get (own := RX9) (ref := "TintDesk") (C := RX9) (T := TX9) (n := 10) (index := 12) (v := .ref (Γ.2.1 0)) hx hb hts (fun w h => xU_sub w (inU9 w h)) hown h kX_tint rfl 0 (by decide) (hts _ (xU_sub _ q16)) (fun _ h9 => h9) rfl dX9_mix_25 ?_
    refine lv_aload_n hx hb dX9_mix_28 rfl (lv_at hl 0 rfl) ?_
    refine lv_iconst (v := 1) hx hb dX9_mix_29 (by decide) ?_
    obtain ⟨r6, er6, hf⟩ := xbd_s hf
    refine x_Vi (As := [.ref (Γ.2.1 (0 + 57 + 3 * v1.toNatClampNeg)), .int 1]) (rest := [.int r5.2, .ref (Γ.2.1 1470)]) E.1 (m_X3_firstLacking l isDk_0 (isFo_of isDk_0 c4) er6) (cwV 2 hts (xgV xU_sub q658 q654 q655 q15 q656) rfl rfl rfl hdX3_firstLacking ⟨Nat.le_of_ble_eq_true rfl, Nat.le_of_ble_eq_true rfl⟩) h (kX_desk isDk_0) rfl rfl hl.1 rfl (Nat.le_of_ble_eq_true rfl) dX9_mix_30 ⟨Nat.le_of_ble_eq_true rfl, Nat.le_of_ble_eq_true rfl⟩ (fun H locs h => ?_)
    obtain ⟨r7, er7, hf⟩ := xbd_s hf
    refine x_XVv (As := [.int r5.2, .int r6.2]) (rest := []) E.1 (m_X9_stopIfRefused l hlt er7) (cwV 2 hts (xgV xU_sub q267 q268 q269 q2 q270) rfl rfl rfl hdX9_stopIfRefused ⟨Nat.le_of_ble_eq_true rfl, Nat.le_of_ble_eq_true rfl⟩) h hz kX_tint rfl rfl hl.1 rfl (Nat.le_of_ble_eq_true rfl) dX9_mix_33 ⟨Nat.le_of_ble_eq_true rfl, Nat.le_of_ble_eq_true rfl⟩ (fun Ex M9 hv9 H locs q9 ce9 h hq9 hc9 hn9 => ?_) (fun M8 hvy9 H locs h => ?_)
    · subst hv9
      exact x_Xout h (Option.some.inj hf) hex hlocks hq9 hc9 hn9
    · subst hvy9
      replace hf := xth_l hf
      refine lv_aload_n hx hb dX9_mix_36 rfl (lv_at hl 1 rfl) ?_
      refine x_get (own := RX9) (ref := "TintDesk") (C := RX9) (T := TX9) (n := 10) (index := 26) (v := .ref (Γ.2.1 1471)) hx hb hts (fun w h => xU_sub w (inU9 w h)) hown h kX_tint rfl 3 (by decide) (hts _ (xU_sub _ q22)) (fun _ h9 => h9) rfl dX9_mix_37 ?_
      refine lv_aload_n hx hb dX9_mix_40 rfl (lv_at hl 1 rfl) ?_
      refine x_get (own := RX9) (ref := "TintDesk") (C := RX9) (T := TX9) (n := 10) (index := 12) (v := .ref (Γ.2.1 0)) hx hb hts (fun w h => xU_sub w (inU9 w h)) hown h kX_tint rfl 0 (by decide) (hts _ (xU_sub _ q16)) (fun _ h9 => h9) rfl dX9_mix_41 ?_
      obtain ⟨r10, er10, hf⟩ := xbd_s hf
      refine x_Vv (As := [.ref (Γ.2.1 0)]) (rest := []) E.1 (m_X6_keep l isDk_0 er10) (cwV 1 hts (xgV xU_sub q160 q161 q162 q21 q163) rfl rfl rfl hdX6_keep ⟨Nat.le_of_ble_eq_true rfl, Nat.le_of_ble_eq_true rfl⟩) h kX_hist rfl rfl hl.1 rfl (Nat.le_of_ble_eq_true rfl) dX9_mix_44 ⟨Nat.le_of_ble_eq_true rfl, Nat.le_of_ble_eq_true rfl⟩ (fun H locs h => ?_)
      refine lv_aload_n hx hb dX9_mix_47 rfl (lv_at hl 1 rfl) ?_
      refine x_get (own := RX9) (ref := "TintDesk") (C := RX9) (T := TX9) (n := 10) (index := 12) (v := .ref (Γ.2.1 0)) hx hb hts (fun w h => xU_sub w (inU9 w h)) hown h kX_tint rfl 0 (by decide) (hts _ (xU_sub _ q16)) (fun _ h9 => h9) rfl dX9_mix_48 ?_
      refine lv_iload_n hx hb dX9_mix_51 rfl (lv_at hl 2 rfl) ?_
      obtain ⟨r11, er11, hf⟩ := xbd_s hf
      refine x_Vi (As := [.int v1]) (rest := []) E.1 (m_X3_makeCan l isDk_0 er11) (cwV 1 hts (xgV xU_sub q659 q660 q661 q15 q662) rfl rfl rfl hdX3_makeCan ⟨Nat.le_of_ble_eq_true rfl, Nat.le_of_ble_eq_true rfl⟩) h (kX_desk isDk_0) rfl rfl hl.1 rfl (Nat.le_of_ble_eq_true rfl) dX9_mix_52 ⟨Nat.le_of_ble_eq_true rfl, Nat.le_of_ble_eq_true rfl⟩ (fun H locs h => ?_)
      exact x_Xiret hx hb h (Option.some.inj hf) hr hlocks dX9_mix_55
theorem hdX9_possible : yX9_possible.cls = RX9 ∧ yX9_possible.cls ≠ "java/lang/invoke/MethodHandle" ∧ yX9_possible.cls ≠ "java/lang/invoke/VarHandle" ∧ (parseMethodDescriptor yX9_possible.desc).map (fun d => d.parameters.length) = some 1 := by decide +kernel
set_option maxHeartbeats 4000000 in
set_option maxRecDepth 100000 in
theorem m_X9_possible (l : Launch) {Γ : xG} {N : Nat} {v1 : Int32} {M : xM} {res : xE} (hlt : l.stackTraces = false) (hf : F_X9_possible N v1 M = some res) (sz : Nat) : vx_Met l yX9_possible (xWs yX9_possible cX9_possible 2 (some .int)) ({ frames := 7, cells := 1, slots := 6, locals := 141 } : Room) (va_Pc [.ref (Γ.2.1 1470), .int v1] (xPreZ Γ (wX Γ) 1483 M sz)) (xXi Γ (wX Γ) 1483 res sz) (xXX Γ (wX Γ) 1483 res sz) 1 6 (xAd Γ 1483 sz) := by
  refine x_Xmet (Qc := fun sz => xXi Γ (wX Γ) 1483 res sz) (XC := fun sz => xXX Γ (wX Γ) 1483 res sz) pnX9 wG_W (Nat.le_of_ble_eq_true rfl) (fun p e s m args below meth c E hex hz h ls hl => ?_) sz
  obtain ⟨⟨hx, hb, hml, hown, hts⟩, hr, hlocks⟩ := id E
  have hl : lv_has ls 2 [(0, .ref (Γ.2.1 1470)), (1, .int v1)] := hl
  refine lv_aload_n hx hb dX9_possible_0 rfl (lv_at hl 0 rfl) ?_
  refine lv_iload_n hx hb dX9_possible_1 rfl (lv_at hl 1 rfl) ?_
  obtain ⟨r1, er1, hf⟩ := xbd_s hf
  refine x_XVv (As := [.int v1]) (rest := []) E.1 (m_X9_requireFormula l hlt er1) (cwV 1 hts (xgV xU_sub q560 q561 q562 q2 q563) rfl rfl rfl hdX9_requireFormula ⟨Nat.le_of_ble_eq_true rfl, Nat.le_of_ble_eq_true rfl⟩) h hz kX_tint rfl rfl hl.1 rfl (Nat.le_of_ble_eq_true rfl) dX9_possible_2 ⟨Nat.le_of_ble_eq_true rfl, Nat.le_of_ble_eq_true rfl⟩ (fun Ex M9 hv9 H locs q9 ce9 h hq9 hc9 hn9 => ?_) (fun M2 hvy3 H locs h => ?_)
  · subst hv9
    exact x_Xout h (Option.some.inj hf) hex hlocks hq9 hc9 hn9
  · subst hvy3
    replace hf := xth_l hf
    refine lv_aload_n hx hb dX9_possible_5 rfl (lv_at hl 0 rfl) ?_
    refine x_get (own := RX9) (ref := "TintDesk") (C := RX9) (T := TX9) (n := 10) (index := 12) (v := .ref (Γ.2.1 0)) hx hb hts (fun w h => xU_sub w (inU9 w h)) hown h kX_tint rfl 0 (by decide) (hts _ (xU_sub _ q16)) (fun _ h9 => h9) rfl dX9_possible_6 ?_
    refine lv_aload_n hx hb dX9_possible_9 rfl (lv_at hl 0 rfl) ?_
    refine x_get (own := RX9) (ref := "TintDesk") (C := RX9) (T := TX9) (n := 10) (index := 12) (v := .ref (Γ.2.1 0)) hx hb hts (fun w h => xU_sub w (inU9 w h)) hown h kX_tint rfl 0 (by decide) (hts _ (xU_sub _ q16)) (fun _ h9 => h9) rfl dX9_possible_10 ?_
    refine x_get (own := RX9) (ref := "TintDesk$Desk") (C := RX3) (T := TX3) (n := 9) (index := 186) (v := .ref (Γ.2.1 3)) hx hb hts (fun w h => xU_sub w (inU3 w h)) hown h (kX_desk isDk_0) rfl 2 (by decide) (hts _ (xU_sub _ q557)) (fun _ h9 => h9) rfl dX9_possible_13 ?_
    refine lv_iload_n hx hb dX9_possible_16 rfl (lv_at hl 1 rfl) ?_
    obtain ⟨c4, hf⟩ := xck_s hf
    refine x_aald (C := "TintDesk$Formula") hx hb h rfl (kX_desk_formulas isDk_0) c4 dX9_possible_17 ?_
    obtain ⟨r5, er5, hf⟩ := xbd_s hf
    refine x_Vi (As := [.ref (Γ.2.1 (0 + 57 + 3 * v1.toNatClampNeg))]) (rest := []) E.1 (m_X3_cansPossible l isDk_0 (isFo_of isDk_0 c4) er5) (cwV 1 hts (xgV xU_sub q706 q707 q708 q15 q709) rfl rfl rfl hdX3_cansPossible ⟨Nat.le_of_ble_eq_true rfl, Nat.le_of_ble_eq_true rfl⟩) h (kX_desk isDk_0) rfl rfl hl.1 rfl (Nat.le_of_ble_eq_true rfl) dX9_possible_18 ⟨Nat.le_of_ble_eq_true rfl, Nat.le_of_ble_eq_true rfl⟩ (fun H locs h => ?_)
    exact x_Xiret hx hb h (Option.some.inj hf) hr hlocks dX9_possible_21
theorem hdX9_refusal : yX9_refusal.cls = RX9 ∧ yX9_refusal.cls ≠ "java/lang/invoke/MethodHandle" ∧ yX9_refusal.cls ≠ "java/lang/invoke/VarHandle" ∧ (parseMethodDescriptor yX9_refusal.desc).map (fun d => d.parameters.length) = some 0 := by decide +kernel
set_option maxHeartbeats 4000000 in
set_option maxRecDepth 100000 in
theorem m_X9_refusal (l : Launch) {Γ : xG} {N : Nat} {M : xM} {res : xE} (hlt : l.stackTraces = false) (hf : F_X9_refusal N M = some res) (sz : Nat) : vx_Met l yX9_refusal (xWs yX9_refusal cX9_refusal 1 (some .int)) ({ frames := 6, cells := 1, slots := 6, locals := 120 } : Room) (va_Pc [.ref (Γ.2.1 1470)] (xPreZ Γ (wX Γ) 1483 M sz)) (xXi Γ (wX Γ) 1483 res sz) (xXX Γ (wX Γ) 1483 res sz) 1 6 (xAd Γ 1483 sz) := by
  refine x_Xmet (Qc := fun sz => xXi Γ (wX Γ) 1483 res sz) (XC := fun sz => xXX Γ (wX Γ) 1483 res sz) pnX9 wG_W (Nat.le_of_ble_eq_true rfl) (fun p e s m args below meth c E hex hz h ls hl => ?_) sz
  obtain ⟨⟨hx, hb, hml, hown, hts⟩, hr, hlocks⟩ := id E
  have hl : lv_has ls 1 [(0, .ref (Γ.2.1 1470))] := hl
  refine lv_aload_n hx hb dX9_refusal_0 rfl (lv_at hl 0 rfl) ?_
  refine x_get (own := RX9) (ref := "TintDesk") (C := RX9) (T := TX9) (n := 10) (index := 41) (v := .int (M.1 1470 6)) hx hb hts (fun w h => xU_sub w (inU9 w h)) hown h kX_tint rfl 6 (by decide) (hts _ (xU_sub _ q28)) (fun _ h9 => h9) rfl dX9_refusal_1 ?_
  refine lv_if_ne (tgt := 17) hx hb dX9_refusal_4 (by decide) (fun c1 => ?_) (fun c1 => ?_)
  · replace hf := xif_f hf c1
    refine lv_aload_n hx hb dX9_refusal_17 rfl (lv_at hl 0 rfl) ?_
    refine x_get (own := RX9) (ref := "TintDesk") (C := RX9) (T := TX9) (n := 10) (index := 41) (v := .int (M.1 1470 6)) hx hb hts (fun w h => xU_sub w (inU9 w h)) hown h kX_tint rfl 6 (by decide) (hts _ (xU_sub _ q28)) (fun _ h9 => h9) rfl dX9_refusal_18 ?_
    refine W.widen (k := 1) (n := 6) (Nat.le_of_ble_eq_true rfl) (Nat.le_of_ble_eq_true rfl) ?_
    exact x_Xiret hx hb h (Option.some.inj hf) hr hlocks dX9_refusal_21
  · replace hf := xif_t hf c1
    exact x_throwN (ik := 120) (is := 227) (text := "nothing was refused") hx hb hlt hown (hts _ (xU_sub _ q344)) (hts _ (xU_sub _ q345)) hts xU_sub hz h (Option.some.inj hf) hl.1 hml dX9_refusal_7 dX9_refusal_10 dX9_refusal_11 dX9_refusal_13 dX9_refusal_16 hex hlocks (by decide +kernel) (by decide) (by decide) (by decide) (by decide)
theorem hdX9_lacking : yX9_lacking.cls = RX9 ∧ yX9_lacking.cls ≠ "java/lang/invoke/MethodHandle" ∧ yX9_lacking.cls ≠ "java/lang/invoke/VarHandle" ∧ (parseMethodDescriptor yX9_lacking.desc).map (fun d => d.parameters.length) = some 0 := by decide +kernel
set_option maxHeartbeats 4000000 in
set_option maxRecDepth 100000 in
theorem m_X9_lacking (l : Launch) {Γ : xG} {N : Nat} {M : xM} {res : xE} (hlt : l.stackTraces = false) (hf : F_X9_lacking N M = some res) (sz : Nat) : vx_Met l yX9_lacking (xWs yX9_lacking cX9_lacking 1 (some .int)) ({ frames := 6, cells := 1, slots := 6, locals := 120 } : Room) (va_Pc [.ref (Γ.2.1 1470)] (xPreZ Γ (wX Γ) 1483 M sz)) (xXi Γ (wX Γ) 1483 res sz) (xXX Γ (wX Γ) 1483 res sz) 1 6 (xAd Γ 1483 sz) := by
  refine x_Xmet (Qc := fun sz => xXi Γ (wX Γ) 1483 res sz) (XC := fun sz => xXX Γ (wX Γ) 1483 res sz) pnX9 wG_W (Nat.le_of_ble_eq_true rfl) (fun p e s m args below meth c E hex hz h ls hl => ?_) sz
  obtain ⟨⟨hx, hb, hml, hown, hts⟩, hr, hlocks⟩ := id E
  have hl : lv_has ls 1 [(0, .ref (Γ.2.1 1470))] := hl
  refine lv_aload_n hx hb dX9_lacking_0 rfl (lv_at hl 0 rfl) ?_
  refine x_get (own := RX9) (ref := "TintDesk") (C := RX9) (T := TX9) (n := 10) (index := 41) (v := .int (M.1 1470 6)) hx hb hts (fun w h => xU_sub w (inU9 w h)) hown h kX_tint rfl 6 (by decide) (hts _ (xU_sub _ q28)) (fun _ h9 => h9) rfl dX9_lacking_1 ?_
  refine lv_iconst (v := 5) hx hb dX9_lacking_4 (by decide) ?_
  refine lv_icmp_eq (tgt := 18) hx hb dX9_lacking_5 (by decide) (fun c1 => ?_) (fun c1 => ?_)
  · replace hf := xif_t hf c1
    refine lv_aload_n hx hb dX9_lacking_18 rfl (lv_at hl 0 rfl) ?_
    refine x_get (own := RX9) (ref := "TintDesk") (C := RX9) (T := TX9) (n := 10) (index := 44) (v := .int (M.1 1470 7)) hx hb hts (fun w h => xU_sub w (inU9 w h)) hown h kX_tint rfl 7 (by decide) (hts _ (xU_sub _ q29)) (fun _ h9 => h9) rfl dX9_lacking_19 ?_
    refine W.widen (k := 1) (n := 6) (Nat.le_of_ble_eq_true rfl) (Nat.le_of_ble_eq_true rfl) ?_
    exact x_Xiret hx hb h (Option.some.inj hf) hr hlocks dX9_lacking_22
  · replace hf := xif_f hf c1
    exact x_throwN (ik := 120) (is := 229) (text := "the latest refusal was not for reason 5") hx hb hlt hown (hts _ (xU_sub _ q344)) (hts _ (xU_sub _ q345)) hts xU_sub hz h (Option.some.inj hf) hl.1 hml dX9_lacking_8 dX9_lacking_11 dX9_lacking_12 dX9_lacking_14 dX9_lacking_17 hex hlocks (by decide +kernel) (by decide) (by decide) (by decide) (by decide)
theorem hdX9_steps : yX9_steps.cls = RX9 ∧ yX9_steps.cls ≠ "java/lang/invoke/MethodHandle" ∧ yX9_steps.cls ≠ "java/lang/invoke/VarHandle" ∧ (parseMethodDescriptor yX9_steps.desc).map (fun d => d.parameters.length) = some 2 := by decide +kernel
set_option maxHeartbeats 4000000 in
set_option maxRecDepth 100000 in
theorem m_X9_steps (l : Launch) {Γ : xG} {N : Nat} {v1 : Int32} {v2 : Int32} {M : xM} {res : xE} (hlt : l.stackTraces = false) (hf : F_X9_steps N v1 v2 M = some res) (sz : Nat) : vx_Met l yX9_steps (xWs yX9_steps cX9_steps 3 (some .int)) ({ frames := 7, cells := 2, slots := 12, locals := 141 } : Room) (va_Pc [.ref (Γ.2.1 1470), .int v1, .int v2] (xPreZ Γ (wX Γ) 1483 M sz)) (xXi Γ (wX Γ) 1483 res sz) (xXX Γ (wX Γ) 1483 res sz) 2 12 (xAd Γ 1483 sz) := by
  refine x_Xmet (Qc := fun sz => xXi Γ (wX Γ) 1483 res sz) (XC := fun sz => xXX Γ (wX Γ) 1483 res sz) pnX9 wG_W (Nat.le_of_ble_eq_true rfl) (fun p e s m args below meth c E hex hz h ls hl => ?_) sz
  obtain ⟨⟨hx, hb, hml, hown, hts⟩, hr, hlocks⟩ := id E
  have hl : lv_has ls 3 [(0, .ref (Γ.2.1 1470)), (1, .int v1), (2, .int v2)] := hl
  refine lv_aload_n hx hb dX9_steps_0 rfl (lv_at hl 0 rfl) ?_
  refine lv_iload_n hx hb dX9_steps_1 rfl (lv_at hl 1 rfl) ?_
  obtain ⟨r1, er1, hf⟩ := xbd_s hf
  refine x_XVv (As := [.int v1]) (rest := []) E.1 (m_X9_requireCan l hlt er1) (cwV 1 hts (xgV xU_sub q604 q605 q606 q2 q607) rfl rfl rfl hdX9_requireCan ⟨Nat.le_of_ble_eq_true rfl, Nat.le_of_ble_eq_true rfl⟩) h hz kX_tint rfl rfl hl.1 rfl (Nat.le_of_ble_eq_true rfl) dX9_steps_2 ⟨Nat.le_of_ble_eq_true rfl, Nat.le_of_ble_eq_true rfl⟩ (fun Ex M9 hv9 H locs q9 ce9 h hq9 hc9 hn9 => ?_) (fun M2 hvy3 H locs h => ?_)
  · subst hv9
    refine vx_widen (k := 2) (n := 12) (Nat.le_of_ble_eq_true rfl) (Nat.le_of_ble_eq_true rfl) ?_
    exact x_Xout h (Option.some.inj hf) hex hlocks hq9 hc9 hn9
  · subst hvy3
    replace hf := xth_l hf
    refine lv_aload_n hx hb dX9_steps_5 rfl (lv_at hl 0 rfl) ?_
    refine lv_iload_n hx hb dX9_steps_6 rfl (lv_at hl 2 rfl) ?_
    obtain ⟨r4, er4, hf⟩ := xbd_s hf
    refine x_XVv (As := [.int v2]) (rest := []) E.1 (m_X9_requireColorant l hlt er4) (cwV 1 hts (xgV xU_sub q239 q240 q241 q2 q242) rfl rfl rfl hdX9_requireColorant ⟨Nat.le_of_ble_eq_true rfl, Nat.le_of_ble_eq_true rfl⟩) h hz kX_tint rfl rfl hl.1 rfl (Nat.le_of_ble_eq_true rfl) dX9_steps_7 ⟨Nat.le_of_ble_eq_true rfl, Nat.le_of_ble_eq_true rfl⟩ (fun Ex M9 hv9 H locs q9 ce9 h hq9 hc9 hn9 => ?_) (fun M5 hvy6 H locs h => ?_)
    · subst hv9
      exact x_Xout h (Option.some.inj hf) hex hlocks hq9 hc9 hn9
    · subst hvy6
      replace hf := xth_l hf
      refine lv_aload_n hx hb dX9_steps_10 rfl (lv_at hl 0 rfl) ?_
      refine x_get (own := RX9) (ref := "TintDesk") (C := RX9) (T := TX9) (n := 10) (index := 12) (v := .ref (Γ.2.1 0)) hx hb hts (fun w h => xU_sub w (inU9 w h)) hown h kX_tint rfl 0 (by decide) (hts _ (xU_sub _ q16)) (fun _ h9 => h9) rfl dX9_steps_11 ?_
      refine x_get (own := RX9) (ref := "TintDesk$Desk") (C := RX3) (T := TX3) (n := 9) (index := 205) (v := .ref (Γ.2.1 4)) hx hb hts (fun w h => xU_sub w (inU3 w h)) hown h (kX_desk isDk_0) rfl 3 (by decide) (hts _ (xU_sub _ q603)) (fun _ h9 => h9) rfl dX9_steps_14 ?_
      refine lv_iload_n hx hb dX9_steps_17 rfl (lv_at hl 1 rfl) ?_
      obtain ⟨c7, hf⟩ := xck_s hf
      refine x_aald (C := "TintDesk$Can") hx hb h rfl (kX_desk_cans isDk_0) c7 dX9_steps_18 ?_
      refine x_get (own := RX9) (ref := "TintDesk$Can") (C := RX1) (T := TX1) (n := 6) (index := 231) (v := .ref (Γ.2.1 ((0 + 87 + 3 * v1.toNatClampNeg) + 1))) hx hb hts (fun w h => xU_sub w (inU1 w h)) hown h (kX_can (isCa_of isDk_0 c7)) rfl 4 (by decide) (hts _ (xU_sub _ q744)) (fun _ h9 => h9) rfl dX9_steps_19 ?_
      refine lv_iload_n hx hb dX9_steps_22 rfl (lv_at hl 2 rfl) ?_
      obtain ⟨c8, hf⟩ := xck_s hf
      refine x_iald hx hb h (kX_can_steps (isCa_of isDk_0 c7)) (xin_in c8) dX9_steps_23 ?_
      exact x_Xiret hx hb h (Option.some.inj hf) hr hlocks dX9_steps_24
theorem hdX9_can : yX9_can.cls = RX9 ∧ yX9_can.cls ≠ "java/lang/invoke/MethodHandle" ∧ yX9_can.cls ≠ "java/lang/invoke/VarHandle" ∧ (parseMethodDescriptor yX9_can.desc).map (fun d => d.parameters.length) = some 2 := by decide +kernel
set_option maxHeartbeats 4000000 in
set_option maxRecDepth 100000 in
theorem m_X9_can (l : Launch) {Γ : xG} {N : Nat} {v1 : Int32} {v2 : Int32} {M : xM} {res : xE} (hlt : l.stackTraces = false) (hf : F_X9_can N v1 v2 M = some res) (sz : Nat) : vx_Met l yX9_can (xWs yX9_can cX9_can 3 (some .int)) ({ frames := 7, cells := 2, slots := 12, locals := 142 } : Room) (va_Pc [.ref (Γ.2.1 1470), .int v1, .int v2] (xPreZ Γ (wX Γ) 1483 M sz)) (xXi Γ (wX Γ) 1483 res sz) (xXX Γ (wX Γ) 1483 res sz) 2 12 (xAd Γ 1483 sz) := by
  refine x_Xmet (Qc := fun sz => xXi Γ (wX Γ) 1483 res sz) (XC := fun sz => xXX Γ (wX Γ) 1483 res sz) pnX9 wG_W (Nat.le_of_ble_eq_true rfl) (fun p e s m args below meth c E hex hz h ls hl => ?_) sz
  obtain ⟨⟨hx, hb, hml, hown, hts⟩, hr, hlocks⟩ := id E
  have hl : lv_has ls 3 [(0, .ref (Γ.2.1 1470)), (1, .int v1), (2, .int v2)] := hl
  refine lv_aload_n hx hb dX9_can_0 rfl (lv_at hl 0 rfl) ?_
  refine lv_iload_n hx hb dX9_can_1 rfl (lv_at hl 1 rfl) ?_
  obtain ⟨r1, er1, hf⟩ := xbd_s hf
  refine x_XVv (As := [.int v1]) (rest := []) E.1 (m_X9_requireCan l hlt er1) (cwV 1 hts (xgV xU_sub q604 q605 q606 q2 q607) rfl rfl rfl hdX9_requireCan ⟨Nat.le_of_ble_eq_true rfl, Nat.le_of_ble_eq_true rfl⟩) h hz kX_tint rfl rfl hl.1 rfl (Nat.le_of_ble_eq_true rfl) dX9_can_2 ⟨Nat.le_of_ble_eq_true rfl, Nat.le_of_ble_eq_true rfl⟩ (fun Ex M9 hv9 H locs q9 ce9 h hq9 hc9 hn9 => ?_) (fun M2 hvy3 H locs h => ?_)
  · subst hv9
    refine vx_widen (k := 2) (n := 12) (Nat.le_of_ble_eq_true rfl) (Nat.le_of_ble_eq_true rfl) ?_
    exact x_Xout h (Option.some.inj hf) hex hlocks hq9 hc9 hn9
  · subst hvy3
    replace hf := xth_l hf
    refine lv_iload_n hx hb dX9_can_5 rfl (lv_at hl 2 rfl) ?_
    refine lv_iconst (v := 0) hx hb dX9_can_6 (by decide) ?_
    refine lv_iconst (v := 5) hx hb dX9_can_7 (by decide) ?_
    obtain ⟨r4, er4, hf⟩ := xbd_s hf
    refine x_XSv (As := [.int v2, .int 0, .int 5]) (rest := []) E.1 (m_X9_requireRange l hlt er4) (cwS 3 hts (xgS xU_sub q155 q156 q2 q157) rfl rfl rfl hdX9_requireRange ⟨Nat.le_of_ble_eq_true rfl, Nat.le_of_ble_eq_true rfl⟩) h hz rfl hl.1 rfl (Nat.le_of_ble_eq_true rfl) dX9_can_8 ⟨Nat.le_of_ble_eq_true rfl, Nat.le_of_ble_eq_true rfl⟩ (fun Ex M9 hv9 H locs q9 ce9 h hq9 hc9 hn9 => ?_) (fun M5 hvy6 H locs h => ?_)
    · subst hv9
      exact x_Xout h (Option.some.inj hf) hex hlocks hq9 hc9 hn9
    · subst hvy6
      replace hf := xth_l hf
      refine lv_aload_n hx hb dX9_can_11 rfl (lv_at hl 0 rfl) ?_
      refine x_get (own := RX9) (ref := "TintDesk") (C := RX9) (T := TX9) (n := 10) (index := 12) (v := .ref (Γ.2.1 0)) hx hb hts (fun w h => xU_sub w (inU9 w h)) hown h kX_tint rfl 0 (by decide) (hts _ (xU_sub _ q16)) (fun _ h9 => h9) rfl dX9_can_12 ?_
      refine lv_aload_n hx hb dX9_can_15 rfl (lv_at hl 0 rfl) ?_
      refine x_get (own := RX9) (ref := "TintDesk") (C := RX9) (T := TX9) (n := 10) (index := 12) (v := .ref (Γ.2.1 0)) hx hb hts (fun w h => xU_sub w (inU9 w h)) hown h kX_tint rfl 0 (by decide) (hts _ (xU_sub _ q16)) (fun _ h9 => h9) rfl dX9_can_16 ?_
      refine x_get (own := RX9) (ref := "TintDesk$Desk") (C := RX3) (T := TX3) (n := 9) (index := 205) (v := .ref (Γ.2.1 4)) hx hb hts (fun w h => xU_sub w (inU3 w h)) hown h (kX_desk isDk_0) rfl 3 (by decide) (hts _ (xU_sub _ q603)) (fun _ h9 => h9) rfl dX9_can_19 ?_
      refine lv_iload_n hx hb dX9_can_22 rfl (lv_at hl 1 rfl) ?_
      obtain ⟨c7, hf⟩ := xck_s hf
      refine x_aald (C := "TintDesk$Can") hx hb h rfl (kX_desk_cans isDk_0) c7 dX9_can_23 ?_
      refine lv_iload_n hx hb dX9_can_24 rfl (lv_at hl 2 rfl) ?_
      obtain ⟨r8, er8, hf⟩ := xbd_s hf
      refine x_Vi (As := [.ref (Γ.2.1 (0 + 87 + 3 * v1.toNatClampNeg)), .int v2]) (rest := []) E.1 (m_X3_canNumberFor l isDk_0 (isCa_of isDk_0 c7) er8) (cwV 2 hts (xgV xU_sub q756 q757 q758 q15 q759) rfl rfl rfl hdX3_canNumberFor ⟨Nat.le_of_ble_eq_true rfl, Nat.le_of_ble_eq_true rfl⟩) h (kX_desk isDk_0) rfl rfl hl.1 rfl (Nat.le_of_ble_eq_true rfl) dX9_can_25 ⟨Nat.le_of_ble_eq_true rfl, Nat.le_of_ble_eq_true rfl⟩ (fun H locs h => ?_)
      exact x_Xiret hx hb h (Option.some.inj hf) hr hlocks dX9_can_28
theorem hdX9_colour : yX9_colour.cls = RX9 ∧ yX9_colour.cls ≠ "java/lang/invoke/MethodHandle" ∧ yX9_colour.cls ≠ "java/lang/invoke/VarHandle" ∧ (parseMethodDescriptor yX9_colour.desc).map (fun d => d.parameters.length) = some 2 := by decide +kernel
set_option maxHeartbeats 4000000 in
set_option maxRecDepth 100000 in
theorem m_X9_colour (l : Launch) {Γ : xG} {N : Nat} {v1 : Int32} {v2 : Int32} {M : xM} {res : xE} (hlt : l.stackTraces = false) (hf : F_X9_colour N v1 v2 M = some res) (sz : Nat) : vx_Met l yX9_colour (xWs yX9_colour cX9_colour 3 (some .int)) ({ frames := 7, cells := 2, slots := 12, locals := 142 } : Room) (va_Pc [.ref (Γ.2.1 1470), .int v1, .int v2] (xPreZ Γ (wX Γ) 1483 M sz)) (xXi Γ (wX Γ) 1483 res sz) (xXX Γ (wX Γ) 1483 res sz) 2 12 (xAd Γ 1483 sz) := by
  refine x_Xmet (Qc := fun sz => xXi Γ (wX Γ) 1483 res sz) (XC := fun sz => xXX Γ (wX Γ) 1483 res sz) pnX9 wG_W (Nat.le_of_ble_eq_true rfl) (fun p e s m args below meth c E hex hz h ls hl => ?_) sz
  obtain ⟨⟨hx, hb, hml, hown, hts⟩, hr, hlocks⟩ := id E
  have hl : lv_has ls 3 [(0, .ref (Γ.2.1 1470)), (1, .int v1), (2, .int v2)] := hl
  refine lv_aload_n hx hb dX9_colour_0 rfl (lv_at hl 0 rfl) ?_
  refine lv_iload_n hx hb dX9_colour_1 rfl (lv_at hl 1 rfl) ?_
  obtain ⟨r1, er1, hf⟩ := xbd_s hf
  refine x_XVv (As := [.int v1]) (rest := []) E.1 (m_X9_requireCan l hlt er1) (cwV 1 hts (xgV xU_sub q604 q605 q606 q2 q607) rfl rfl rfl hdX9_requireCan ⟨Nat.le_of_ble_eq_true rfl, Nat.le_of_ble_eq_true rfl⟩) h hz kX_tint rfl rfl hl.1 rfl (Nat.le_of_ble_eq_true rfl) dX9_colour_2 ⟨Nat.le_of_ble_eq_true rfl, Nat.le_of_ble_eq_true rfl⟩ (fun Ex M9 hv9 H locs q9 ce9 h hq9 hc9 hn9 => ?_) (fun M2 hvy3 H locs h => ?_)
  · subst hv9
    refine vx_widen (k := 2) (n := 12) (Nat.le_of_ble_eq_true rfl) (Nat.le_of_ble_eq_true rfl) ?_
    exact x_Xout h (Option.some.inj hf) hex hlocks hq9 hc9 hn9
  · subst hvy3
    replace hf := xth_l hf
    refine lv_iload_n hx hb dX9_colour_5 rfl (lv_at hl 2 rfl) ?_
    refine lv_iconst (v := 0) hx hb dX9_colour_6 (by decide) ?_
    refine lv_iconst (v := 2) hx hb dX9_colour_7 (by decide) ?_
    obtain ⟨r4, er4, hf⟩ := xbd_s hf
    refine x_XSv (As := [.int v2, .int 0, .int 2]) (rest := []) E.1 (m_X9_requireRange l hlt er4) (cwS 3 hts (xgS xU_sub q155 q156 q2 q157) rfl rfl rfl hdX9_requireRange ⟨Nat.le_of_ble_eq_true rfl, Nat.le_of_ble_eq_true rfl⟩) h hz rfl hl.1 rfl (Nat.le_of_ble_eq_true rfl) dX9_colour_8 ⟨Nat.le_of_ble_eq_true rfl, Nat.le_of_ble_eq_true rfl⟩ (fun Ex M9 hv9 H locs q9 ce9 h hq9 hc9 hn9 => ?_) (fun M5 hvy6 H locs h => ?_)
    · subst hv9
      exact x_Xout h (Option.some.inj hf) hex hlocks hq9 hc9 hn9
    · subst hvy6
      replace hf := xth_l hf
      refine lv_aload_n hx hb dX9_colour_11 rfl (lv_at hl 0 rfl) ?_
      refine x_get (own := RX9) (ref := "TintDesk") (C := RX9) (T := TX9) (n := 10) (index := 12) (v := .ref (Γ.2.1 0)) hx hb hts (fun w h => xU_sub w (inU9 w h)) hown h kX_tint rfl 0 (by decide) (hts _ (xU_sub _ q16)) (fun _ h9 => h9) rfl dX9_colour_12 ?_
      refine lv_aload_n hx hb dX9_colour_15 rfl (lv_at hl 0 rfl) ?_
      refine x_get (own := RX9) (ref := "TintDesk") (C := RX9) (T := TX9) (n := 10) (index := 12) (v := .ref (Γ.2.1 0)) hx hb hts (fun w h => xU_sub w (inU9 w h)) hown h kX_tint rfl 0 (by decide) (hts _ (xU_sub _ q16)) (fun _ h9 => h9) rfl dX9_colour_16 ?_
      refine x_get (own := RX9) (ref := "TintDesk$Desk") (C := RX3) (T := TX3) (n := 9) (index := 205) (v := .ref (Γ.2.1 4)) hx hb hts (fun w h => xU_sub w (inU3 w h)) hown h (kX_desk isDk_0) rfl 3 (by decide) (hts _ (xU_sub _ q603)) (fun _ h9 => h9) rfl dX9_colour_19 ?_
      refine lv_iload_n hx hb dX9_colour_22 rfl (lv_at hl 1 rfl) ?_
      obtain ⟨c7, hf⟩ := xck_s hf
      refine x_aald (C := "TintDesk$Can") hx hb h rfl (kX_desk_cans isDk_0) c7 dX9_colour_23 ?_
      refine lv_iload_n hx hb dX9_colour_24 rfl (lv_at hl 2 rfl) ?_
      obtain ⟨r8, er8, hf⟩ := xbd_s hf
      refine x_Vi (As := [.ref (Γ.2.1 (0 + 87 + 3 * v1.toNatClampNeg)), .int v2]) (rest := []) E.1 (m_X3_colourOf l isDk_0 (isCa_of isDk_0 c7) er8) (cwV 2 hts (xgV xU_sub q789 q790 q791 q15 q792) rfl rfl rfl hdX3_colourOf ⟨Nat.le_of_ble_eq_true rfl, Nat.le_of_ble_eq_true rfl⟩) h (kX_desk isDk_0) rfl rfl hl.1 rfl (Nat.le_of_ble_eq_true rfl) dX9_colour_25 ⟨Nat.le_of_ble_eq_true rfl, Nat.le_of_ble_eq_true rfl⟩ (fun H locs h => ?_)
      exact x_Xiret hx hb h (Option.some.inj hf) hr hlocks dX9_colour_28
theorem hdX9_correct : yX9_correct.cls = RX9 ∧ yX9_correct.cls ≠ "java/lang/invoke/MethodHandle" ∧ yX9_correct.cls ≠ "java/lang/invoke/VarHandle" ∧ (parseMethodDescriptor yX9_correct.desc).map (fun d => d.parameters.length) = some 3 := by decide +kernel
set_option maxHeartbeats 4000000 in
set_option maxRecDepth 100000 in
theorem m_X9_correct (l : Launch) {Γ : xG} {N : Nat} {v1 : Int32} {v2 : Int32} {v3 : Int32} {M : xM} {res : xE} (hlt : l.stackTraces = false) (hf : F_X9_correct N v1 v2 v3 M = some res) (sz : Nat) : vx_Met l yX9_correct (xWs yX9_correct cX9_correct 5 (some .int)) ({ frames := 7, cells := 4, slots := 24, locals := 184 } : Room) (va_Pc [.ref (Γ.2.1 1470), .int v1, .int v2, .int v3] (xPreZ Γ (wX Γ) 1483 M sz)) (xXi Γ (wX Γ) 1483 res sz) (xXX Γ (wX Γ) 1483 res sz) 4 24 (xAd Γ 1483 sz) := by
  refine x_Xmet (Qc := fun sz => xXi Γ (wX Γ) 1483 res sz) (XC := fun sz => xXX Γ (wX Γ) 1483 res sz) pnX9 wG_W (Nat.le_of_ble_eq_true rfl) (fun p e s m args below meth c E hex hz h ls hl => ?_) sz
  obtain ⟨⟨hx, hb, hml, hown, hts⟩, hr, hlocks⟩ := id E
  have hl : lv_has ls 5 [(0, .ref (Γ.2.1 1470)), (1, .int v1), (2, .int v2), (3, .int v3)] := hl
  refine lv_aload_n hx hb dX9_correct_0 rfl (lv_at hl 0 rfl) ?_
  refine lv_iload_n hx hb dX9_correct_1 rfl (lv_at hl 1 rfl) ?_
  obtain ⟨r1, er1, hf⟩ := xbd_s hf
  refine x_XVv (As := [.int v1]) (rest := []) E.1 (m_X9_requireCan l hlt er1) (cwV 1 hts (xgV xU_sub q604 q605 q606 q2 q607) rfl rfl rfl hdX9_requireCan ⟨Nat.le_of_ble_eq_true rfl, Nat.le_of_ble_eq_true rfl⟩) h hz kX_tint rfl rfl hl.1 rfl (Nat.le_of_ble_eq_true rfl) dX9_correct_2 ⟨Nat.le_of_ble_eq_true rfl, Nat.le_of_ble_eq_true rfl⟩ (fun Ex M9 hv9 H locs q9 ce9 h hq9 hc9 hn9 => ?_) (fun M2 hvy3 H locs h => ?_)
  · subst hv9
    refine vx_widen (k := 4) (n := 24) (Nat.le_of_ble_eq_true rfl) (Nat.le_of_ble_eq_true rfl) ?_
    exact x_Xout h (Option.some.inj hf) hex hlocks hq9 hc9 hn9
  · subst hvy3
    replace hf := xth_l hf
    refine lv_aload_n hx hb dX9_correct_5 rfl (lv_at hl 0 rfl) ?_
    refine lv_iload_n hx hb dX9_correct_6 rfl (lv_at hl 2 rfl) ?_
    obtain ⟨r4, er4, hf⟩ := xbd_s hf
    refine x_XVv (As := [.int v2]) (rest := []) E.1 (m_X9_requireColorant l hlt er4) (cwV 1 hts (xgV xU_sub q239 q240 q241 q2 q242) rfl rfl rfl hdX9_requireColorant ⟨Nat.le_of_ble_eq_true rfl, Nat.le_of_ble_eq_true rfl⟩) h hz kX_tint rfl rfl hl.1 rfl (Nat.le_of_ble_eq_true rfl) dX9_correct_7 ⟨Nat.le_of_ble_eq_true rfl, Nat.le_of_ble_eq_true rfl⟩ (fun Ex M9 hv9 H locs q9 ce9 h hq9 hc9 hn9 => ?_) (fun M5 hvy6 H locs h => ?_)
    · subst hv9
      refine vx_widen (k := 4) (n := 24) (Nat.le_of_ble_eq_true rfl) (Nat.le_of_ble_eq_true rfl) ?_
      exact x_Xout h (Option.some.inj hf) hex hlocks hq9 hc9 hn9
    · subst hvy6
      replace hf := xth_l hf
      refine lv_iload_n hx hb dX9_correct_10 rfl (lv_at hl 3 rfl) ?_
      refine lv_iconst (v := 1) hx hb dX9_correct_11 (by decide) ?_
      refine lv_bipush (v := 50) hx hb dX9_correct_12 (by decide) ?_
      obtain ⟨r7, er7, hf⟩ := xbd_s hf
      refine x_XSv (As := [.int v3, .int 1, .int 50]) (rest := []) E.1 (m_X9_requireRange l hlt er7) (cwS 3 hts (xgS xU_sub q155 q156 q2 q157) rfl rfl rfl hdX9_requireRange ⟨Nat.le_of_ble_eq_true rfl, Nat.le_of_ble_eq_true rfl⟩) h hz rfl hl.1 rfl (Nat.le_of_ble_eq_true rfl) dX9_correct_14 ⟨Nat.le_of_ble_eq_true rfl, Nat.le_of_ble_eq_true rfl⟩ (fun Ex M9 hv9 H locs q9 ce9 h hq9 hc9 hn9 => ?_) (fun M8 hvy9 H locs h => ?_)
      · subst hv9
        refine vx_widen (k := 4) (n := 24) (Nat.le_of_ble_eq_true rfl) (Nat.le_of_ble_eq_true rfl) ?_
        exact x_Xout h (Option.some.inj hf) hex hlocks hq9 hc9 hn9
      · subst hvy9
        replace hf := xth_l hf
        refine lv_aload_n hx hb dX9_correct_17 rfl (lv_at hl 0 rfl) ?_
        refine x_get (own := RX9) (ref := "TintDesk") (C := RX9) (T := TX9) (n := 10) (index := 12) (v := .ref (Γ.2.1 0)) hx hb hts (fun w h => xU_sub w (inU9 w h)) hown h kX_tint rfl 0 (by decide) (hts _ (xU_sub _ q16)) (fun _ h9 => h9) rfl dX9_correct_18 ?_
        refine x_get (own := RX9) (ref := "TintDesk$Desk") (C := RX3) (T := TX3) (n := 9) (index := 205) (v := .ref (Γ.2.1 4)) hx hb hts (fun w h => xU_sub w (inU3 w h)) hown h (kX_desk isDk_0) rfl 3 (by decide) (hts _ (xU_sub _ q603)) (fun _ h9 => h9) rfl dX9_correct_21 ?_
        refine lv_iload_n hx hb dX9_correct_24 rfl (lv_at hl 1 rfl) ?_
        obtain ⟨c10, hf⟩ := xck_s hf
        refine x_aald (C := "TintDesk$Can") hx hb h rfl (kX_desk_cans isDk_0) c10 dX9_correct_25 ?_
        refine lv_astore (lv' := [(4, .ref (Γ.2.1 (0 + 87 + 3 * v1.toNatClampNeg))), (0, .ref (Γ.2.1 1470)), (1, .int v1), (2, .int v2), (3, .int v3)]) hx hb dX9_correct_26 hl (by decide) rfl (fun ls hl => ?_)
        refine lv_aload_n hx hb dX9_correct_28 rfl (lv_at hl 1 rfl) ?_
        refine lv_aload_n hx hb dX9_correct_29 rfl (lv_at hl 1 rfl) ?_
        refine x_get (own := RX9) (ref := "TintDesk") (C := RX9) (T := TX9) (n := 10) (index := 12) (v := .ref (Γ.2.1 0)) hx hb hts (fun w h => xU_sub w (inU9 w h)) hown h kX_tint rfl 0 (by decide) (hts _ (xU_sub _ q16)) (fun _ h9 => h9) rfl dX9_correct_30 ?_
        refine lv_aload hx hb dX9_correct_33 (lv_at hl 0 rfl) ?_
        refine lv_iload_n hx hb dX9_correct_35 rfl (lv_at hl 3 rfl) ?_
        refine lv_iload_n hx hb dX9_correct_36 rfl (lv_at hl 4 rfl) ?_
        obtain ⟨r11, er11, hf⟩ := xbd_s hf
        refine x_Vi (As := [.ref (Γ.2.1 (0 + 87 + 3 * v1.toNatClampNeg)), .int v2, .int v3]) (rest := [.ref (Γ.2.1 1470)]) E.1 (m_X3_whyNoCorrection l isDk_0 (isCa_of isDk_0 c10) er11) (cwV 3 hts (xgV xU_sub q811 q812 q813 q15 q814) rfl rfl rfl hdX3_whyNoCorrection ⟨Nat.le_of_ble_eq_true rfl, Nat.le_of_ble_eq_true rfl⟩) h (kX_desk isDk_0) rfl rfl hl.1 rfl (Nat.le_of_ble_eq_true rfl) dX9_correct_37 ⟨Nat.le_of_ble_eq_true rfl, Nat.le_of_ble_eq_true rfl⟩ (fun H locs h => ?_)
        refine lv_iload_n hx hb dX9_correct_40 rfl (lv_at hl 3 rfl) ?_
        obtain ⟨r12, er12, hf⟩ := xbd_s hf
        refine x_XVv (As := [.int r11.2, .int v2]) (rest := []) E.1 (m_X9_stopIfRefused l hlt er12) (cwV 2 hts (xgV xU_sub q267 q268 q269 q2 q270) rfl rfl rfl hdX9_stopIfRefused ⟨Nat.le_of_ble_eq_true rfl, Nat.le_of_ble_eq_true rfl⟩) h hz kX_tint rfl rfl hl.1 rfl (Nat.le_of_ble_eq_true rfl) dX9_correct_41 ⟨Nat.le_of_ble_eq_true rfl, Nat.le_of_ble_eq_true rfl⟩ (fun Ex M9 hv9 H locs q9 ce9 h hq9 hc9 hn9 => ?_) (fun M13 hvy14 H locs h => ?_)
        · subst hv9
          exact x_Xout h (Option.some.inj hf) hex hlocks hq9 hc9 hn9
        · subst hvy14
          replace hf := xth_l hf
          refine lv_aload_n hx hb dX9_correct_44 rfl (lv_at hl 1 rfl) ?_
          refine x_get (own := RX9) (ref := "TintDesk") (C := RX9) (T := TX9) (n := 10) (index := 26) (v := .ref (Γ.2.1 1471)) hx hb hts (fun w h => xU_sub w (inU9 w h)) hown h kX_tint rfl 3 (by decide) (hts _ (xU_sub _ q22)) (fun _ h9 => h9) rfl dX9_correct_45 ?_
          refine lv_aload_n hx hb dX9_correct_48 rfl (lv_at hl 1 rfl) ?_
          refine x_get (own := RX9) (ref := "TintDesk") (C := RX9) (T := TX9) (n := 10) (index := 12) (v := .ref (Γ.2.1 0)) hx hb hts (fun w h => xU_sub w (inU9 w h)) hown h kX_tint rfl 0 (by decide) (hts _ (xU_sub _ q16)) (fun _ h9 => h9) rfl dX9_correct_49 ?_
          obtain ⟨r15, er15, hf⟩ := xbd_s hf
          refine x_Vv (As := [.ref (Γ.2.1 0)]) (rest := []) E.1 (m_X6_keep l isDk_0 er15) (cwV 1 hts (xgV xU_sub q160 q161 q162 q21 q163) rfl rfl rfl hdX6_keep ⟨Nat.le_of_ble_eq_true rfl, Nat.le_of_ble_eq_true rfl⟩) h kX_hist rfl rfl hl.1 rfl (Nat.le_of_ble_eq_true rfl) dX9_correct_52 ⟨Nat.le_of_ble_eq_true rfl, Nat.le_of_ble_eq_true rfl⟩ (fun H locs h => ?_)
          refine lv_aload_n hx hb dX9_correct_55 rfl (lv_at hl 1 rfl) ?_
          refine x_get (own := RX9) (ref := "TintDesk") (C := RX9) (T := TX9) (n := 10) (index := 12) (v := .ref (Γ.2.1 0)) hx hb hts (fun w h => xU_sub w (inU9 w h)) hown h kX_tint rfl 0 (by decide) (hts _ (xU_sub _ q16)) (fun _ h9 => h9) rfl dX9_correct_56 ?_
          refine x_get (own := RX9) (ref := "TintDesk$Desk") (C := RX3) (T := TX3) (n := 9) (index := 87) (v := .ref (Γ.2.1 1)) hx hb hts (fun w h => xU_sub w (inU3 w h)) hown h (kX_desk isDk_0) rfl 0 (by decide) (hts _ (xU_sub _ q237)) (fun _ h9 => h9) rfl dX9_correct_59 ?_
          refine lv_iload_n hx hb dX9_correct_62 rfl (lv_at hl 3 rfl) ?_
          obtain ⟨c16, hf⟩ := xck_s hf
          refine x_aald (C := "TintDesk$Colorant") hx hb h rfl (kX_desk_colorants isDk_0) c16 dX9_correct_63 ?_
          refine lv_aload hx hb dX9_correct_64 (lv_at hl 0 rfl) ?_
          refine lv_iload_n hx hb dX9_correct_66 rfl (lv_at hl 3 rfl) ?_
          refine lv_iload_n hx hb dX9_correct_67 rfl (lv_at hl 4 rfl) ?_
          obtain ⟨r17, er17, hf⟩ := xbd_s hf
          refine x_Vv (As := [.ref (Γ.2.1 (0 + 87 + 3 * v1.toNatClampNeg)), .int v2, .int v3]) (rest := []) E.1 (m_X2_pumpInto l (isCo_of isDk_0 c16) (isCa_of isDk_0 c10) er17) (cwV 3 hts (xgV xU_sub q815 q664 q665 q56 q666) rfl rfl rfl hdX2_pumpInto ⟨Nat.le_of_ble_eq_true rfl, Nat.le_of_ble_eq_true rfl⟩) h (kX_colorant (isCo_of isDk_0 c16)) rfl rfl hl.1 rfl (Nat.le_of_ble_eq_true rfl) dX9_correct_68 ⟨Nat.le_of_ble_eq_true rfl, Nat.le_of_ble_eq_true rfl⟩ (fun H locs h => ?_)
          refine lv_aload hx hb dX9_correct_71 (lv_at hl 0 rfl) ?_
          refine lv_dup hx hb dX9_correct_73 rfl ?_
          refine x_get (own := RX9) (ref := "TintDesk$Can") (C := RX1) (T := TX1) (n := 6) (index := 251) (v := .int (r17.1.1 (0 + 87 + 3 * v1.toNatClampNeg) 2)) hx hb hts (fun w h => xU_sub w (inU1 w h)) hown h (kX_can (isCa_of isDk_0 c10)) rfl 2 (by decide) (hts _ (xU_sub _ q809)) (fun _ h9 => h9) rfl dX9_correct_74 ?_
          refine lv_iconst (v := 1) hx hb dX9_correct_77 (by decide) ?_
          refine lv_iadd hx hb dX9_correct_78 ?_
          obtain ⟨M18, eM18, hf⟩ := xl_s hf
          refine x_put (own := RX9) (ref := "TintDesk$Can") (C := RX1) (T := TX1) (n := 6) (index := 251) (ty := .int) hx hb hts (fun w h => xU_sub w (inU1 w h)) tyX1 tyX1_ok nmX1 hown h (kX_can (isCa_of isDk_0 c10)) rfl 2 (by decide) (hts _ (xU_sub _ q809)) (fun _ h9 => h9) rfl (by decide +kernel) rfl rfl (Nat.le_of_ble_eq_true rfl) rfl eM18 dX9_correct_79 (fun H locs h => ?_)
          refine lv_aload hx hb dX9_correct_82 (lv_at hl 0 rfl) ?_
          refine lv_dup hx hb dX9_correct_84 rfl ?_
          refine x_get (own := RX9) (ref := "TintDesk$Can") (C := RX1) (T := TX1) (n := 6) (index := 254) (v := .int (M18.1 (0 + 87 + 3 * v1.toNatClampNeg) 3)) hx hb hts (fun w h => xU_sub w (inU1 w h)) hown h (kX_can (isCa_of isDk_0 c10)) rfl 3 (by decide) (hts _ (xU_sub _ q810)) (fun _ h9 => h9) rfl dX9_correct_85 ?_
          refine lv_iload_n hx hb dX9_correct_88 rfl (lv_at hl 4 rfl) ?_
          refine lv_iadd hx hb dX9_correct_89 ?_
          obtain ⟨M19, eM19, hf⟩ := xl_s hf
          refine x_put (own := RX9) (ref := "TintDesk$Can") (C := RX1) (T := TX1) (n := 6) (index := 254) (ty := .int) hx hb hts (fun w h => xU_sub w (inU1 w h)) tyX1 tyX1_ok nmX1 hown h (kX_can (isCa_of isDk_0 c10)) rfl 3 (by decide) (hts _ (xU_sub _ q810)) (fun _ h9 => h9) rfl (by decide +kernel) rfl rfl (Nat.le_of_ble_eq_true rfl) rfl eM19 dX9_correct_90 (fun H locs h => ?_)
          refine lv_aload hx hb dX9_correct_93 (lv_at hl 0 rfl) ?_
          obtain ⟨r20, er20, hf⟩ := xbd_s hf
          refine x_Vi (As := []) (rest := []) E.1 (m_X1_allSteps l (isCa_of isDk_0 c10) er20) (cwV 0 hts (xgV xU_sub q816 q763 q764 q62 q765) rfl rfl rfl hdX1_allSteps ⟨Nat.le_of_ble_eq_true rfl, Nat.le_of_ble_eq_true rfl⟩) h (kX_can (isCa_of isDk_0 c10)) rfl rfl hl.1 rfl (Nat.le_of_ble_eq_true rfl) dX9_correct_95 ⟨Nat.le_of_ble_eq_true rfl, Nat.le_of_ble_eq_true rfl⟩ (fun H locs h => ?_)
          exact x_Xiret hx hb h (Option.some.inj hf) hr hlocks dX9_correct_98
theorem hdX9_least : yX9_least.cls = RX9 ∧ yX9_least.cls ≠ "java/lang/invoke/MethodHandle" ∧ yX9_least.cls ≠ "java/lang/invoke/VarHandle" ∧ (parseMethodDescriptor yX9_least.desc).map (fun d => d.parameters.length) = some 6 := by decide +kernel
set_option maxHeartbeats 4000000 in
set_option maxRecDepth 100000 in
theorem w_X9_least_17 (l : Launch) {p : Program} {e : Env} {s : State} {m : MethodId} {args : Array Value} {below : List Frame} {meth : Method} {c : Code} {Γ : xG} {N : Nat} {res : xE} (hlt : l.stackTraces = false) (hz : xZ Γ 1483 s.heap.size s) (hex : ∀ x ∈ c.exceptionTable.toList, False) (E : xEv p s m args meth c RX9 cX9_least 8 (some .int) (xWs yX9_least cX9_least 8 (some .int))) : ∀ (v1 : Int32) (v2 : Int32) (v3 : Int32) (v4 : Int32) (v5 : Int32) (v6 : Int32) (M : xM), L_X9_least_17 N v1 v2 v3 v4 v5 v6 M = some res → ∀ (H : Heap) (locs : List Loc) (ls : Array Slot), xH Γ (wX Γ) 1483 s M H locs → lv_has ls 8 [(0, .ref (Γ.2.1 1470)), (1, .int v1), (2, .int v2), (3, .int v3), (4, .int v4), (5, .int v5), (6, .int v6)] → W p l e ({ frames := 12, cells := 4, slots := 24, locals := 314 } : Room) s m args below meth c H locs 2 12 (vx_MQ below (xXi Γ (wX Γ) 1483 res s.heap.size) (xXX Γ (wX Γ) 1483 res s.heap.size) args s 4 24 (xAd Γ 1483 s.heap.size)) (F0 m 17 ls []) := by
  obtain ⟨⟨hx, hb, hml, hown, hts⟩, hr, hlocks⟩ := id E
  intro v1 v2 v3 v4 v5 v6 M hf H locs ls h hl
  refine lv_iload hx hb dX9_least_17 (lv_at hl 5 rfl) ?_
  refine lv_iconst (v := 0) hx hb dX9_least_19 (by decide) ?_
  refine lv_bipush (v := 99) hx hb dX9_least_20 (by decide) ?_
  obtain ⟨r1, er1, hf⟩ := xbd_s hf
  refine x_XSv (As := [.int v5, .int 0, .int 99]) (rest := []) E.1 (m_X9_requireRange l hlt er1) (cwS 3 hts (xgS xU_sub q155 q156 q2 q157) rfl rfl rfl hdX9_requireRange ⟨Nat.le_of_ble_eq_true rfl, Nat.le_of_ble_eq_true rfl⟩) h hz rfl hl.1 rfl (Nat.le_of_ble_eq_true rfl) dX9_least_22 ⟨Nat.le_of_ble_eq_true rfl, Nat.le_of_ble_eq_true rfl⟩ (fun Ex M9 hv9 H locs q9 ce9 h hq9 hc9 hn9 => ?_) (fun M2 hvy3 H locs h => ?_)
  · subst hv9
    refine vx_widen (k := 4) (n := 24) (Nat.le_of_ble_eq_true rfl) (Nat.le_of_ble_eq_true rfl) ?_
    exact x_Xout h (Option.some.inj hf) hex hlocks hq9 hc9 hn9
  · subst hvy3
    replace hf := xth_l hf
    refine lv_aload_n hx hb dX9_least_25 rfl (lv_at hl 0 rfl) ?_
    refine x_get (own := RX9) (ref := "TintDesk") (C := RX9) (T := TX9) (n := 10) (index := 12) (v := .ref (Γ.2.1 0)) hx hb hts (fun w h => xU_sub w (inU9 w h)) hown h kX_tint rfl 0 (by decide) (hts _ (xU_sub _ q16)) (fun _ h9 => h9) rfl dX9_least_26 ?_
    refine x_get (own := RX9) (ref := "TintDesk$Desk") (C := RX3) (T := TX3) (n := 9) (index := 205) (v := .ref (Γ.2.1 4)) hx hb hts (fun w h => xU_sub w (inU3 w h)) hown h (kX_desk isDk_0) rfl 3 (by decide) (hts _ (xU_sub _ q603)) (fun _ h9 => h9) rfl dX9_least_29 ?_
    refine lv_iload_n hx hb dX9_least_32 rfl (lv_at hl 1 rfl) ?_
    obtain ⟨c4, hf⟩ := xck_s hf
    refine x_aald (C := "TintDesk$Can") hx hb h rfl (kX_desk_cans isDk_0) c4 dX9_least_33 ?_
    refine lv_astore (lv' := [(7, .ref (Γ.2.1 (0 + 87 + 3 * v1.toNatClampNeg))), (0, .ref (Γ.2.1 1470)), (1, .int v1), (2, .int v2), (3, .int v3), (4, .int v4), (5, .int v5), (6, .int v6)]) hx hb dX9_least_34 hl (by decide) rfl (fun ls hl => ?_)
    refine lv_aload_n hx hb dX9_least_36 rfl (lv_at hl 1 rfl) ?_
    refine x_get (own := RX9) (ref := "TintDesk") (C := RX9) (T := TX9) (n := 10) (index := 50) (v := .ref (Γ.2.1 1476)) hx hb hts (fun w h => xU_sub w (inU9 w h)) hown h kX_tint rfl 8 (by decide) (hts _ (xU_sub _ q33)) (fun _ h9 => h9) rfl dX9_least_37 ?_
    refine x_get (own := RX9) (ref := "TintDesk$LeastCorrection") (C := RX8) (T := TX8) (n := 4) (index := 260) (v := .ref (Γ.2.1 1477)) hx hb hts (fun w h => xU_sub w (inU8 w h)) hown h kX_least rfl 0 (by decide) (hts _ (xU_sub _ q828)) (fun _ h9 => h9) rfl dX9_least_40 ?_
    refine lv_iconst (v := 0) hx hb dX9_least_43 (by decide) ?_
    refine lv_iload_n hx hb dX9_least_44 rfl (lv_at hl 3 rfl) ?_
    refine lv_i2l (v := (v2).toInt64) hx hb dX9_least_45 rfl ?_
    refine lv_aload_n hx hb dX9_least_46 rfl (lv_at hl 1 rfl) ?_
    refine x_get (own := RX9) (ref := "TintDesk") (C := RX9) (T := TX9) (n := 10) (index := 12) (v := .ref (Γ.2.1 0)) hx hb hts (fun w h => xU_sub w (inU9 w h)) hown h kX_tint rfl 0 (by decide) (hts _ (xU_sub _ q16)) (fun _ h9 => h9) rfl dX9_least_47 ?_
    refine lv_aload hx hb dX9_least_50 (lv_at hl 0 rfl) ?_
    refine lv_iconst (v := 0) hx hb dX9_least_52 (by decide) ?_
    obtain ⟨r5, er5, hf⟩ := xbd_s hf
    refine x_Vi (As := [.ref (Γ.2.1 (0 + 87 + 3 * v1.toNatClampNeg)), .int 0]) (rest := [.long (v2).toInt64, .int 0, .ref (Γ.2.1 1477)]) E.1 (m_X3_colourOf l isDk_0 (isCa_of isDk_0 c4) er5) (cwV 2 hts (xgV xU_sub q789 q790 q791 q15 q792) rfl rfl rfl hdX3_colourOf ⟨Nat.le_of_ble_eq_true rfl, Nat.le_of_ble_eq_true rfl⟩) h (kX_desk isDk_0) rfl rfl hl.1 rfl (Nat.le_of_ble_eq_true rfl) dX9_least_53 ⟨Nat.le_of_ble_eq_true rfl, Nat.le_of_ble_eq_true rfl⟩ (fun H locs h => ?_)
    refine lv_i2l (v := (r5.2).toInt64) hx hb dX9_least_56 rfl ?_
    refine lv_lsub hx hb dX9_least_57 ?_
    obtain ⟨M6, eM6, hf⟩ := xl_s hf
    refine x_last hx hb h kX_least_gaps (xin_in (by decide)) eM6 dX9_least_58 (fun H locs h => ?_)
    refine lv_aload_n hx hb dX9_least_59 rfl (lv_at hl 1 rfl) ?_
    refine x_get (own := RX9) (ref := "TintDesk") (C := RX9) (T := TX9) (n := 10) (index := 50) (v := .ref (Γ.2.1 1476)) hx hb hts (fun w h => xU_sub w (inU9 w h)) hown h kX_tint rfl 8 (by decide) (hts _ (xU_sub _ q33)) (fun _ h9 => h9) rfl dX9_least_60 ?_
    refine x_get (own := RX9) (ref := "TintDesk$LeastCorrection") (C := RX8) (T := TX8) (n := 4) (index := 260) (v := .ref (Γ.2.1 1477)) hx hb hts (fun w h => xU_sub w (inU8 w h)) hown h kX_least rfl 0 (by decide) (hts _ (xU_sub _ q828)) (fun _ h9 => h9) rfl dX9_least_63 ?_
    refine lv_iconst (v := 1) hx hb dX9_least_66 (by decide) ?_
    refine lv_iload_n hx hb dX9_least_67 rfl (lv_at hl 4 rfl) ?_
    refine lv_i2l (v := (v3).toInt64) hx hb dX9_least_68 rfl ?_
    refine lv_aload_n hx hb dX9_least_69 rfl (lv_at hl 1 rfl) ?_
    refine x_get (own := RX9) (ref := "TintDesk") (C := RX9) (T := TX9) (n := 10) (index := 12) (v := .ref (Γ.2.1 0)) hx hb hts (fun w h => xU_sub w (inU9 w h)) hown h kX_tint rfl 0 (by decide) (hts _ (xU_sub _ q16)) (fun _ h9 => h9) rfl dX9_least_70 ?_
    refine lv_aload hx hb dX9_least_73 (lv_at hl 0 rfl) ?_
    refine lv_iconst (v := 1) hx hb dX9_least_75 (by decide) ?_
    obtain ⟨r7, er7, hf⟩ := xbd_s hf
    refine x_Vi (As := [.ref (Γ.2.1 (0 + 87 + 3 * v1.toNatClampNeg)), .int 1]) (rest := [.long (v3).toInt64, .int 1, .ref (Γ.2.1 1477)]) E.1 (m_X3_colourOf l isDk_0 (isCa_of isDk_0 c4) er7) (cwV 2 hts (xgV xU_sub q789 q790 q791 q15 q792) rfl rfl rfl hdX3_colourOf ⟨Nat.le_of_ble_eq_true rfl, Nat.le_of_ble_eq_true rfl⟩) h (kX_desk isDk_0) rfl rfl hl.1 rfl (Nat.le_of_ble_eq_true rfl) dX9_least_76 ⟨Nat.le_of_ble_eq_true rfl, Nat.le_of_ble_eq_true rfl⟩ (fun H locs h => ?_)
    refine lv_i2l (v := (r7.2).toInt64) hx hb dX9_least_79 rfl ?_
    refine lv_lsub hx hb dX9_least_80 ?_
    obtain ⟨M8, eM8, hf⟩ := xl_s hf
    refine x_last hx hb h kX_least_gaps (xin_in (by decide)) eM8 dX9_least_81 (fun H locs h => ?_)
    refine lv_aload_n hx hb dX9_least_82 rfl (lv_at hl 1 rfl) ?_
    refine x_get (own := RX9) (ref := "TintDesk") (C := RX9) (T := TX9) (n := 10) (index := 50) (v := .ref (Γ.2.1 1476)) hx hb hts (fun w h => xU_sub w (inU9 w h)) hown h kX_tint rfl 8 (by decide) (hts _ (xU_sub _ q33)) (fun _ h9 => h9) rfl dX9_least_83 ?_
    refine x_get (own := RX9) (ref := "TintDesk$LeastCorrection") (C := RX8) (T := TX8) (n := 4) (index := 260) (v := .ref (Γ.2.1 1477)) hx hb hts (fun w h => xU_sub w (inU8 w h)) hown h kX_least rfl 0 (by decide) (hts _ (xU_sub _ q828)) (fun _ h9 => h9) rfl dX9_least_86 ?_
    refine lv_iconst (v := 2) hx hb dX9_least_89 (by decide) ?_
    refine lv_iload hx hb dX9_least_90 (lv_at hl 5 rfl) ?_
    refine lv_i2l (v := (v4).toInt64) hx hb dX9_least_92 rfl ?_
    refine lv_aload_n hx hb dX9_least_93 rfl (lv_at hl 1 rfl) ?_
    refine x_get (own := RX9) (ref := "TintDesk") (C := RX9) (T := TX9) (n := 10) (index := 12) (v := .ref (Γ.2.1 0)) hx hb hts (fun w h => xU_sub w (inU9 w h)) hown h kX_tint rfl 0 (by decide) (hts _ (xU_sub _ q16)) (fun _ h9 => h9) rfl dX9_least_94 ?_
    refine lv_aload hx hb dX9_least_97 (lv_at hl 0 rfl) ?_
    refine lv_iconst (v := 2) hx hb dX9_least_99 (by decide) ?_
    obtain ⟨r9, er9, hf⟩ := xbd_s hf
    refine x_Vi (As := [.ref (Γ.2.1 (0 + 87 + 3 * v1.toNatClampNeg)), .int 2]) (rest := [.long (v4).toInt64, .int 2, .ref (Γ.2.1 1477)]) E.1 (m_X3_colourOf l isDk_0 (isCa_of isDk_0 c4) er9) (cwV 2 hts (xgV xU_sub q789 q790 q791 q15 q792) rfl rfl rfl hdX3_colourOf ⟨Nat.le_of_ble_eq_true rfl, Nat.le_of_ble_eq_true rfl⟩) h (kX_desk isDk_0) rfl rfl hl.1 rfl (Nat.le_of_ble_eq_true rfl) dX9_least_100 ⟨Nat.le_of_ble_eq_true rfl, Nat.le_of_ble_eq_true rfl⟩ (fun H locs h => ?_)
    refine lv_i2l (v := (r9.2).toInt64) hx hb dX9_least_103 rfl ?_
    refine lv_lsub hx hb dX9_least_104 ?_
    obtain ⟨M10, eM10, hf⟩ := xl_s hf
    refine x_last hx hb h kX_least_gaps (xin_in (by decide)) eM10 dX9_least_105 (fun H locs h => ?_)
    refine lv_aload_n hx hb dX9_least_106 rfl (lv_at hl 1 rfl) ?_
    refine x_get (own := RX9) (ref := "TintDesk") (C := RX9) (T := TX9) (n := 10) (index := 50) (v := .ref (Γ.2.1 1476)) hx hb hts (fun w h => xU_sub w (inU9 w h)) hown h kX_tint rfl 8 (by decide) (hts _ (xU_sub _ q33)) (fun _ h9 => h9) rfl dX9_least_107 ?_
    refine lv_iload hx hb dX9_least_110 (lv_at hl 6 rfl) ?_
    obtain ⟨M11, eM11, hf⟩ := xl_s hf
    refine x_put (own := RX9) (ref := "TintDesk$LeastCorrection") (C := RX8) (T := TX8) (n := 4) (index := 264) (ty := .int) hx hb hts (fun w h => xU_sub w (inU8 w h)) tyX8 tyX8_ok nmX8 hown h kX_least rfl 1 (by decide) (hts _ (xU_sub _ q829)) (fun _ h9 => h9) rfl (by decide +kernel) rfl rfl (Nat.le_of_ble_eq_true rfl) rfl eM11 dX9_least_112 (fun H locs h => ?_)
    refine lv_aload_n hx hb dX9_least_115 rfl (lv_at hl 1 rfl) ?_
    refine x_get (own := RX9) (ref := "TintDesk") (C := RX9) (T := TX9) (n := 10) (index := 50) (v := .ref (Γ.2.1 1476)) hx hb hts (fun w h => xU_sub w (inU9 w h)) hown h kX_tint rfl 8 (by decide) (hts _ (xU_sub _ q33)) (fun _ h9 => h9) rfl dX9_least_116 ?_
    refine lv_aload_n hx hb dX9_least_119 rfl (lv_at hl 1 rfl) ?_
    refine x_get (own := RX9) (ref := "TintDesk") (C := RX9) (T := TX9) (n := 10) (index := 12) (v := .ref (Γ.2.1 0)) hx hb hts (fun w h => xU_sub w (inU9 w h)) hown h kX_tint rfl 0 (by decide) (hts _ (xU_sub _ q16)) (fun _ h9 => h9) rfl dX9_least_120 ?_
    refine lv_aload_n hx hb dX9_least_123 rfl (lv_at hl 1 rfl) ?_
    refine x_get (own := RX9) (ref := "TintDesk") (C := RX9) (T := TX9) (n := 10) (index := 12) (v := .ref (Γ.2.1 0)) hx hb hts (fun w h => xU_sub w (inU9 w h)) hown h kX_tint rfl 0 (by decide) (hts _ (xU_sub _ q16)) (fun _ h9 => h9) rfl dX9_least_124 ?_
    refine lv_aload hx hb dX9_least_127 (lv_at hl 0 rfl) ?_
    obtain ⟨r12, er12, hf⟩ := xbd_s hf
    refine x_Vi (As := [.ref (Γ.2.1 (0 + 87 + 3 * v1.toNatClampNeg))]) (rest := [.ref (Γ.2.1 0), .ref (Γ.2.1 1476)]) E.1 (m_X3_roomIn l isDk_0 (isCa_of isDk_0 c4) er12) (cwV 1 hts (xgV xU_sub q832 q767 q768 q15 q769) rfl rfl rfl hdX3_roomIn ⟨Nat.le_of_ble_eq_true rfl, Nat.le_of_ble_eq_true rfl⟩) h (kX_desk isDk_0) rfl rfl hl.1 rfl (Nat.le_of_ble_eq_true rfl) dX9_least_129 ⟨Nat.le_of_ble_eq_true rfl, Nat.le_of_ble_eq_true rfl⟩ (fun H locs h => ?_)
    obtain ⟨r13, er13, hf⟩ := xbd_s hf
    refine x_Vi (As := [.ref (Γ.2.1 0), .int r12.2]) (rest := []) E.1 (m_X8_succeeds l isDk_0 er13) (cwV 2 hts (xgV xU_sub q833 q834 q835 q32 q836) rfl rfl rfl hdX8_succeeds ⟨Nat.le_of_ble_eq_true rfl, Nat.le_of_ble_eq_true rfl⟩) h kX_least rfl rfl hl.1 rfl (Nat.le_of_ble_eq_true rfl) dX9_least_132 ⟨Nat.le_of_ble_eq_true rfl, Nat.le_of_ble_eq_true rfl⟩ (fun H locs h => ?_)
    refine lv_if_ne (tgt := 149) hx hb dX9_least_135 (by decide) (fun c14 => ?_) (fun c14 => ?_)
    · replace hf := xif_f hf c14
      refine lv_iload hx hb dX9_least_149 (lv_at hl 7 rfl) ?_
      refine lv_iconst (v := (-1)) hx hb dX9_least_151 (by decide) ?_
      refine lv_icmp_ne (tgt := 165) hx hb dX9_least_152 (by decide) (fun c15 => ?_) (fun c15 => ?_)
      · replace hf := xif_f hf c15
        refine lv_aload_n hx hb dX9_least_165 rfl (lv_at hl 1 rfl) ?_
        refine x_get (own := RX9) (ref := "TintDesk") (C := RX9) (T := TX9) (n := 10) (index := 50) (v := .ref (Γ.2.1 1476)) hx hb hts (fun w h => xU_sub w (inU9 w h)) hown h kX_tint rfl 8 (by decide) (hts _ (xU_sub _ q33)) (fun _ h9 => h9) rfl dX9_least_166 ?_
        refine x_get (own := RX9) (ref := "TintDesk$LeastCorrection") (C := RX8) (T := TX8) (n := 4) (index := 279) (v := .ref (Γ.2.1 1478)) hx hb hts (fun w h => xU_sub w (inU8 w h)) hown h kX_least rfl 3 (by decide) (hts _ (xU_sub _ q831)) (fun _ h9 => h9) rfl dX9_least_169 ?_
        refine lv_iload hx hb dX9_least_172 (lv_at hl 7 rfl) ?_
        obtain ⟨c16, hf⟩ := xck_s hf
        refine x_iald hx hb h kX_least_chosen (xin_in c16) dX9_least_174 ?_
        refine W.widen (k := 4) (n := 24) (Nat.le_of_ble_eq_true rfl) (Nat.le_of_ble_eq_true rfl) ?_
        exact x_Xiret hx hb h (Option.some.inj hf) hr hlocks dX9_least_175
      · replace hf := xif_t hf c15
        refine lv_aload_n hx hb dX9_least_155 rfl (lv_at hl 1 rfl) ?_
        refine x_get (own := RX9) (ref := "TintDesk") (C := RX9) (T := TX9) (n := 10) (index := 50) (v := .ref (Γ.2.1 1476)) hx hb hts (fun w h => xU_sub w (inU9 w h)) hown h kX_tint rfl 8 (by decide) (hts _ (xU_sub _ q33)) (fun _ h9 => h9) rfl dX9_least_156 ?_
        refine x_get (own := RX9) (ref := "TintDesk$LeastCorrection") (C := RX8) (T := TX8) (n := 4) (index := 276) (v := .int (r13.1.1 1476 2)) hx hb hts (fun w h => xU_sub w (inU8 w h)) hown h kX_least rfl 2 (by decide) (hts _ (xU_sub _ q830)) (fun _ h9 => h9) rfl dX9_least_159 ?_
        refine lv_goto (tgt := 175) hx hb dX9_least_162 (by decide) ?_
        refine W.widen (k := 4) (n := 24) (Nat.le_of_ble_eq_true rfl) (Nat.le_of_ble_eq_true rfl) ?_
        exact x_Xiret hx hb h (Option.some.inj hf) hr hlocks dX9_least_175
    · replace hf := xif_t hf c14
      exact x_throwNW (ik := 120) (is := 274) (text := "no correction of at most 6 steps reaches it") hx hb hlt hown (hts _ (xU_sub _ q344)) (hts _ (xU_sub _ q345)) hts xU_sub hz h (Option.some.inj hf) hl.1 hml dX9_least_138 dX9_least_141 dX9_least_142 dX9_least_145 dX9_least_148 hex hlocks (by decide +kernel) (by decide) (by decide) (by decide) (by decide)
set_option maxHeartbeats 4000000 in
set_option maxRecDepth 100000 in
theorem m_X9_least (l : Launch) {Γ : xG} {N : Nat} {v1 : Int32} {v2 : Int32} {v3 : Int32} {v4 : Int32} {v5 : Int32} {v6 : Int32} {M : xM} {res : xE} (hlt : l.stackTraces = false) (hf : F_X9_least N v1 v2 v3 v4 v5 v6 M = some res) (sz : Nat) : vx_Met l yX9_least (xWs yX9_least cX9_least 8 (some .int)) ({ frames := 12, cells := 4, slots := 24, locals := 314 } : Room) (va_Pc [.ref (Γ.2.1 1470), .int v1, .int v2, .int v3, .int v4, .int v5, .int v6] (xPreZ Γ (wX Γ) 1483 M sz)) (xXi Γ (wX Γ) 1483 res sz) (xXX Γ (wX Γ) 1483 res sz) 4 24 (xAd Γ 1483 sz) := by
  refine x_Xmet (Qc := fun sz => xXi Γ (wX Γ) 1483 res sz) (XC := fun sz => xXX Γ (wX Γ) 1483 res sz) pnX9 wG_W (Nat.le_of_ble_eq_true rfl) (fun p e s m args below meth c E hex hz h ls hl => ?_) sz
  obtain ⟨⟨hx, hb, hml, hown, hts⟩, hr, hlocks⟩ := id E
  have hl : lv_has ls 8 [(0, .ref (Γ.2.1 1470)), (1, .int v1), (2, .int v2), (3, .int v3), (4, .int v4), (5, .int v5), (6, .int v6)] := hl
  refine lv_aload_n hx hb dX9_least_0 rfl (lv_at hl 0 rfl) ?_
  refine lv_iload_n hx hb dX9_least_1 rfl (lv_at hl 1 rfl) ?_
  obtain ⟨r1, er1, hf⟩ := xbd_s hf
  refine x_XVv (As := [.int v1]) (rest := []) E.1 (m_X9_requireCan l hlt er1) (cwV 1 hts (xgV xU_sub q604 q605 q606 q2 q607) rfl rfl rfl hdX9_requireCan ⟨Nat.le_of_ble_eq_true rfl, Nat.le_of_ble_eq_true rfl⟩) h hz kX_tint rfl rfl hl.1 rfl (Nat.le_of_ble_eq_true rfl) dX9_least_2 ⟨Nat.le_of_ble_eq_true rfl, Nat.le_of_ble_eq_true rfl⟩ (fun Ex M9 hv9 H locs q9 ce9 h hq9 hc9 hn9 => ?_) (fun M2 hvy3 H locs h => ?_)
  · subst hv9
    refine vx_widen (k := 4) (n := 24) (Nat.le_of_ble_eq_true rfl) (Nat.le_of_ble_eq_true rfl) ?_
    exact x_Xout h (Option.some.inj hf) hex hlocks hq9 hc9 hn9
  · subst hvy3
    replace hf := xth_l hf
    refine lv_iload hx hb dX9_least_5 (lv_at hl 6 rfl) ?_
    refine lv_iconst (v := (-1)) hx hb dX9_least_7 (by decide) ?_
    refine lv_icmp_eq (tgt := 17) hx hb dX9_least_8 (by decide) (fun c4 => ?_) (fun c4 => ?_)
    · replace hf := xif_t hf c4
      refine W.widen (k := 2) (n := 12) (Nat.le_of_ble_eq_true rfl) (Nat.le_of_ble_eq_true rfl) ?_
      exact w_X9_least_17 l hlt hz hex E v1 v2 v3 v4 v5 v6 M2 hf _ _ _ h (lv_sub hl [0, 1, 2, 3, 4, 5, 6] rfl)
    · replace hf := xif_f hf c4
      refine lv_aload_n hx hb dX9_least_11 rfl (lv_at hl 0 rfl) ?_
      refine lv_iload hx hb dX9_least_12 (lv_at hl 6 rfl) ?_
      obtain ⟨r5, er5, hf⟩ := xbd_s hf
      refine x_XVv (As := [.int v6]) (rest := []) E.1 (m_X9_requireColorant l hlt er5) (cwV 1 hts (xgV xU_sub q239 q240 q241 q2 q242) rfl rfl rfl hdX9_requireColorant ⟨Nat.le_of_ble_eq_true rfl, Nat.le_of_ble_eq_true rfl⟩) h hz kX_tint rfl rfl hl.1 rfl (Nat.le_of_ble_eq_true rfl) dX9_least_14 ⟨Nat.le_of_ble_eq_true rfl, Nat.le_of_ble_eq_true rfl⟩ (fun Ex M9 hv9 H locs q9 ce9 h hq9 hc9 hn9 => ?_) (fun M6 hvy7 H locs h => ?_)
      · subst hv9
        refine vx_widen (k := 4) (n := 24) (Nat.le_of_ble_eq_true rfl) (Nat.le_of_ble_eq_true rfl) ?_
        exact x_Xout h (Option.some.inj hf) hex hlocks hq9 hc9 hn9
      · subst hvy7
        replace hf := xth_l hf
        exact w_X9_least_17 l hlt hz hex E v1 v2 v3 v4 v5 v6 M6 hf _ _ _ h (lv_sub hl [0, 1, 2, 3, 4, 5, 6] rfl)
theorem hdX9_hasLot : yX9_hasLot.cls = RX9 ∧ yX9_hasLot.cls ≠ "java/lang/invoke/MethodHandle" ∧ yX9_hasLot.cls ≠ "java/lang/invoke/VarHandle" ∧ (parseMethodDescriptor yX9_hasLot.desc).map (fun d => d.parameters.length) = some 3 := by decide +kernel
set_option maxHeartbeats 4000000 in
set_option maxRecDepth 100000 in
theorem m_X9_hasLot (l : Launch) {Γ : xG} {N : Nat} {v1 : Int32} {v2 : Int32} {v3 : Int32} {M : xM} {res : xE} (hlt : l.stackTraces = false) (hf : F_X9_hasLot N v1 v2 v3 M = some res) (sz : Nat) : vx_Met l yX9_hasLot (xWs yX9_hasLot cX9_hasLot 4 (some .boolean)) ({ frames := 7, cells := 3, slots := 18, locals := 142 } : Room) (va_Pc [.ref (Γ.2.1 1470), .int v1, .int v2, .int v3] (xPreZ Γ (wX Γ) 1483 M sz)) (xXi Γ (wX Γ) 1483 res sz) (xXX Γ (wX Γ) 1483 res sz) 3 18 (xAd Γ 1483 sz) := by
  refine x_Xmet (Qc := fun sz => xXi Γ (wX Γ) 1483 res sz) (XC := fun sz => xXX Γ (wX Γ) 1483 res sz) pnX9 wG_W (Nat.le_of_ble_eq_true rfl) (fun p e s m args below meth c E hex hz h ls hl => ?_) sz
  obtain ⟨⟨hx, hb, hml, hown, hts⟩, hr, hlocks⟩ := id E
  have hl : lv_has ls 4 [(0, .ref (Γ.2.1 1470)), (1, .int v1), (2, .int v2), (3, .int v3)] := hl
  refine lv_aload_n hx hb dX9_hasLot_0 rfl (lv_at hl 0 rfl) ?_
  refine lv_iload_n hx hb dX9_hasLot_1 rfl (lv_at hl 1 rfl) ?_
  obtain ⟨r1, er1, hf⟩ := xbd_s hf
  refine x_XVv (As := [.int v1]) (rest := []) E.1 (m_X9_requireCan l hlt er1) (cwV 1 hts (xgV xU_sub q604 q605 q606 q2 q607) rfl rfl rfl hdX9_requireCan ⟨Nat.le_of_ble_eq_true rfl, Nat.le_of_ble_eq_true rfl⟩) h hz kX_tint rfl rfl hl.1 rfl (Nat.le_of_ble_eq_true rfl) dX9_hasLot_2 ⟨Nat.le_of_ble_eq_true rfl, Nat.le_of_ble_eq_true rfl⟩ (fun Ex M9 hv9 H locs q9 ce9 h hq9 hc9 hn9 => ?_) (fun M2 hvy3 H locs h => ?_)
  · subst hv9
    refine vx_widen (k := 3) (n := 18) (Nat.le_of_ble_eq_true rfl) (Nat.le_of_ble_eq_true rfl) ?_
    exact x_Xout h (Option.some.inj hf) hex hlocks hq9 hc9 hn9
  · subst hvy3
    replace hf := xth_l hf
    refine lv_aload_n hx hb dX9_hasLot_5 rfl (lv_at hl 0 rfl) ?_
    refine lv_iload_n hx hb dX9_hasLot_6 rfl (lv_at hl 2 rfl) ?_
    obtain ⟨r4, er4, hf⟩ := xbd_s hf
    refine x_XVv (As := [.int v2]) (rest := []) E.1 (m_X9_requireColorant l hlt er4) (cwV 1 hts (xgV xU_sub q239 q240 q241 q2 q242) rfl rfl rfl hdX9_requireColorant ⟨Nat.le_of_ble_eq_true rfl, Nat.le_of_ble_eq_true rfl⟩) h hz kX_tint rfl rfl hl.1 rfl (Nat.le_of_ble_eq_true rfl) dX9_hasLot_7 ⟨Nat.le_of_ble_eq_true rfl, Nat.le_of_ble_eq_true rfl⟩ (fun Ex M9 hv9 H locs q9 ce9 h hq9 hc9 hn9 => ?_) (fun M5 hvy6 H locs h => ?_)
    · subst hv9
      refine vx_widen (k := 3) (n := 18) (Nat.le_of_ble_eq_true rfl) (Nat.le_of_ble_eq_true rfl) ?_
      exact x_Xout h (Option.some.inj hf) hex hlocks hq9 hc9 hn9
    · subst hvy6
      replace hf := xth_l hf
      refine lv_iload_n hx hb dX9_hasLot_10 rfl (lv_at hl 3 rfl) ?_
      refine lv_iconst (v := 0) hx hb dX9_hasLot_11 (by decide) ?_
      refine lv_bipush (v := 99) hx hb dX9_hasLot_12 (by decide) ?_
      obtain ⟨r7, er7, hf⟩ := xbd_s hf
      refine x_XSv (As := [.int v3, .int 0, .int 99]) (rest := []) E.1 (m_X9_requireRange l hlt er7) (cwS 3 hts (xgS xU_sub q155 q156 q2 q157) rfl rfl rfl hdX9_requireRange ⟨Nat.le_of_ble_eq_true rfl, Nat.le_of_ble_eq_true rfl⟩) h hz rfl hl.1 rfl (Nat.le_of_ble_eq_true rfl) dX9_hasLot_14 ⟨Nat.le_of_ble_eq_true rfl, Nat.le_of_ble_eq_true rfl⟩ (fun Ex M9 hv9 H locs q9 ce9 h hq9 hc9 hn9 => ?_) (fun M8 hvy9 H locs h => ?_)
      · subst hv9
        exact x_Xout h (Option.some.inj hf) hex hlocks hq9 hc9 hn9
      · subst hvy9
        replace hf := xth_l hf
        refine lv_aload_n hx hb dX9_hasLot_17 rfl (lv_at hl 0 rfl) ?_
        refine x_get (own := RX9) (ref := "TintDesk") (C := RX9) (T := TX9) (n := 10) (index := 12) (v := .ref (Γ.2.1 0)) hx hb hts (fun w h => xU_sub w (inU9 w h)) hown h kX_tint rfl 0 (by decide) (hts _ (xU_sub _ q16)) (fun _ h9 => h9) rfl dX9_hasLot_18 ?_
        refine x_get (own := RX9) (ref := "TintDesk$Desk") (C := RX3) (T := TX3) (n := 9) (index := 205) (v := .ref (Γ.2.1 4)) hx hb hts (fun w h => xU_sub w (inU3 w h)) hown h (kX_desk isDk_0) rfl 3 (by decide) (hts _ (xU_sub _ q603)) (fun _ h9 => h9) rfl dX9_hasLot_21 ?_
        refine lv_iload_n hx hb dX9_hasLot_24 rfl (lv_at hl 1 rfl) ?_
        obtain ⟨c10, hf⟩ := xck_s hf
        refine x_aald (C := "TintDesk$Can") hx hb h rfl (kX_desk_cans isDk_0) c10 dX9_hasLot_25 ?_
        refine lv_iload_n hx hb dX9_hasLot_26 rfl (lv_at hl 2 rfl) ?_
        refine lv_iload_n hx hb dX9_hasLot_27 rfl (lv_at hl 3 rfl) ?_
        obtain ⟨r11, er11, hf⟩ := xbd_s hf
        refine x_Vi (As := [.int v2, .int v3]) (rest := []) E.1 (m_X1_holdsLot l (isCa_of isDk_0 c10) er11) (cwV 2 hts (xgV xU_sub q876 q877 q878 q62 q879) rfl rfl rfl hdX1_holdsLot ⟨Nat.le_of_ble_eq_true rfl, Nat.le_of_ble_eq_true rfl⟩) h (kX_can (isCa_of isDk_0 c10)) rfl rfl hl.1 rfl (Nat.le_of_ble_eq_true rfl) dX9_hasLot_28 ⟨Nat.le_of_ble_eq_true rfl, Nat.le_of_ble_eq_true rfl⟩ (fun H locs h => ?_)
        obtain ⟨c12, hf⟩ := xck_s hf
        exact x_Xzret hx hb h (Option.some.inj hf) hr hlocks (xz_n c12) dX9_hasLot_31
theorem hdX9_canWith : yX9_canWith.cls = RX9 ∧ yX9_canWith.cls ≠ "java/lang/invoke/MethodHandle" ∧ yX9_canWith.cls ≠ "java/lang/invoke/VarHandle" ∧ (parseMethodDescriptor yX9_canWith.desc).map (fun d => d.parameters.length) = some 3 := by decide +kernel
set_option maxHeartbeats 4000000 in
set_option maxRecDepth 100000 in
theorem m_X9_canWith (l : Launch) {Γ : xG} {N : Nat} {v1 : Int32} {v2 : Int32} {v3 : Int32} {M : xM} {res : xE} (hlt : l.stackTraces = false) (hf : F_X9_canWith N v1 v2 v3 M = some res) (sz : Nat) : vx_Met l yX9_canWith (xWs yX9_canWith cX9_canWith 5 (some .int)) ({ frames := 7, cells := 3, slots := 18, locals := 142 } : Room) (va_Pc [.ref (Γ.2.1 1470), .int v1, .int v2, .int v3] (xPreZ Γ (wX Γ) 1483 M sz)) (xXi Γ (wX Γ) 1483 res sz) (xXX Γ (wX Γ) 1483 res sz) 3 18 (xAd Γ 1483 sz) := by
  refine x_Xmet (Qc := fun sz => xXi Γ (wX Γ) 1483 res sz) (XC := fun sz => xXX Γ (wX Γ) 1483 res sz) pnX9 wG_W (Nat.le_of_ble_eq_true rfl) (fun p e s m args below meth c E hex hz h ls hl => ?_) sz
  obtain ⟨⟨hx, hb, hml, hown, hts⟩, hr, hlocks⟩ := id E
  have hl : lv_has ls 5 [(0, .ref (Γ.2.1 1470)), (1, .int v1), (2, .int v2), (3, .int v3)] := hl
  refine lv_aload_n hx hb dX9_canWith_0 rfl (lv_at hl 0 rfl) ?_
  refine lv_iload_n hx hb dX9_canWith_1 rfl (lv_at hl 1 rfl) ?_
  obtain ⟨r1, er1, hf⟩ := xbd_s hf
  refine x_XVv (As := [.int v1]) (rest := []) E.1 (m_X9_requireColorant l hlt er1) (cwV 1 hts (xgV xU_sub q239 q240 q241 q2 q242) rfl rfl rfl hdX9_requireColorant ⟨Nat.le_of_ble_eq_true rfl, Nat.le_of_ble_eq_true rfl⟩) h hz kX_tint rfl rfl hl.1 rfl (Nat.le_of_ble_eq_true rfl) dX9_canWith_2 ⟨Nat.le_of_ble_eq_true rfl, Nat.le_of_ble_eq_true rfl⟩ (fun Ex M9 hv9 H locs q9 ce9 h hq9 hc9 hn9 => ?_) (fun M2 hvy3 H locs h => ?_)
  · subst hv9
    refine vx_widen (k := 3) (n := 18) (Nat.le_of_ble_eq_true rfl) (Nat.le_of_ble_eq_true rfl) ?_
    exact x_Xout h (Option.some.inj hf) hex hlocks hq9 hc9 hn9
  · subst hvy3
    replace hf := xth_l hf
    refine lv_iload_n hx hb dX9_canWith_5 rfl (lv_at hl 2 rfl) ?_
    refine lv_iconst (v := 0) hx hb dX9_canWith_6 (by decide) ?_
    refine lv_bipush (v := 99) hx hb dX9_canWith_7 (by decide) ?_
    obtain ⟨r4, er4, hf⟩ := xbd_s hf
    refine x_XSv (As := [.int v2, .int 0, .int 99]) (rest := []) E.1 (m_X9_requireRange l hlt er4) (cwS 3 hts (xgS xU_sub q155 q156 q2 q157) rfl rfl rfl hdX9_requireRange ⟨Nat.le_of_ble_eq_true rfl, Nat.le_of_ble_eq_true rfl⟩) h hz rfl hl.1 rfl (Nat.le_of_ble_eq_true rfl) dX9_canWith_9 ⟨Nat.le_of_ble_eq_true rfl, Nat.le_of_ble_eq_true rfl⟩ (fun Ex M9 hv9 H locs q9 ce9 h hq9 hc9 hn9 => ?_) (fun M5 hvy6 H locs h => ?_)
    · subst hv9
      refine vx_widen (k := 3) (n := 18) (Nat.le_of_ble_eq_true rfl) (Nat.le_of_ble_eq_true rfl) ?_
      exact x_Xout h (Option.some.inj hf) hex hlocks hq9 hc9 hn9
    · subst hvy6
      replace hf := xth_l hf
      refine lv_aload_n hx hb dX9_canWith_12 rfl (lv_at hl 0 rfl) ?_
      refine x_get (own := RX9) (ref := "TintDesk") (C := RX9) (T := TX9) (n := 10) (index := 12) (v := .ref (Γ.2.1 0)) hx hb hts (fun w h => xU_sub w (inU9 w h)) hown h kX_tint rfl 0 (by decide) (hts _ (xU_sub _ q16)) (fun _ h9 => h9) rfl dX9_canWith_13 ?_
      refine lv_iload_n hx hb dX9_canWith_16 rfl (lv_at hl 1 rfl) ?_
      refine lv_iload_n hx hb dX9_canWith_17 rfl (lv_at hl 2 rfl) ?_
      refine lv_iload_n hx hb dX9_canWith_18 rfl (lv_at hl 3 rfl) ?_
      obtain ⟨r7, er7, hf⟩ := xbd_s hf
      refine x_Vi (As := [.int v1, .int v2, .int v3]) (rest := []) E.1 (m_X3_canHolding l isDk_0 er7) (cwV 3 hts (xgV xU_sub q895 q896 q897 q15 q898) rfl rfl rfl hdX3_canHolding ⟨Nat.le_of_ble_eq_true rfl, Nat.le_of_ble_eq_true rfl⟩) h (kX_desk isDk_0) rfl rfl hl.1 rfl (Nat.le_of_ble_eq_true rfl) dX9_canWith_19 ⟨Nat.le_of_ble_eq_true rfl, Nat.le_of_ble_eq_true rfl⟩ (fun H locs h => ?_)
      obtain ⟨y8, ey8, hf⟩ := xl_s hf
      refine x_nm ey8 ?_
      refine lv_istore (lv' := [(4, .int y8), (0, .ref (Γ.2.1 1470)), (1, .int v1), (2, .int v2), (3, .int v3)]) hx hb dX9_canWith_22 hl (by decide) rfl (fun ls hl => ?_)
      refine lv_iload hx hb dX9_canWith_24 (lv_at hl 0 rfl) ?_
      refine lv_if_ge (tgt := 40) hx hb dX9_canWith_26 (by decide) (fun c9 => ?_) (fun c9 => ?_)
      · replace hf := xif_t hf c9
        refine lv_iload hx hb dX9_canWith_40 (lv_at hl 0 rfl) ?_
        refine W.widen (k := 3) (n := 18) (Nat.le_of_ble_eq_true rfl) (Nat.le_of_ble_eq_true rfl) ?_
        exact x_Xiret hx hb h (Option.some.inj hf) hr hlocks dX9_canWith_42
      · replace hf := xif_f hf c9
        exact x_throwNW (ik := 120) (is := 289) (text := "there is no such index") hx hb hlt hown (hts _ (xU_sub _ q344)) (hts _ (xU_sub _ q345)) hts xU_sub hz h (Option.some.inj hf) hl.1 hml dX9_canWith_29 dX9_canWith_32 dX9_canWith_33 dX9_canWith_36 dX9_canWith_39 hex hlocks (by decide +kernel) (by decide) (by decide) (by decide) (by decide)
theorem hdX9_formulasWith : yX9_formulasWith.cls = RX9 ∧ yX9_formulasWith.cls ≠ "java/lang/invoke/MethodHandle" ∧ yX9_formulasWith.cls ≠ "java/lang/invoke/VarHandle" ∧ (parseMethodDescriptor yX9_formulasWith.desc).map (fun d => d.parameters.length) = some 2 := by decide +kernel
set_option maxHeartbeats 4000000 in
set_option maxRecDepth 100000 in
theorem m_X9_formulasWith (l : Launch) {Γ : xG} {N : Nat} {v1 : Int32} {v2 : Int32} {M : xM} {res : xE} (hlt : l.stackTraces = false) (hf : F_X9_formulasWith N v1 v2 M = some res) (sz : Nat) : vx_Met l yX9_formulasWith (xWs yX9_formulasWith cX9_formulasWith 3 (some .int)) ({ frames := 7, cells := 2, slots := 12, locals := 142 } : Room) (va_Pc [.ref (Γ.2.1 1470), .int v1, .int v2] (xPreZ Γ (wX Γ) 1483 M sz)) (xXi Γ (wX Γ) 1483 res sz) (xXX Γ (wX Γ) 1483 res sz) 2 12 (xAd Γ 1483 sz) := by
  refine x_Xmet (Qc := fun sz => xXi Γ (wX Γ) 1483 res sz) (XC := fun sz => xXX Γ (wX Γ) 1483 res sz) pnX9 wG_W (Nat.le_of_ble_eq_true rfl) (fun p e s m args below meth c E hex hz h ls hl => ?_) sz
  obtain ⟨⟨hx, hb, hml, hown, hts⟩, hr, hlocks⟩ := id E
  have hl : lv_has ls 3 [(0, .ref (Γ.2.1 1470)), (1, .int v1), (2, .int v2)] := hl
  refine lv_aload_n hx hb dX9_formulasWith_0 rfl (lv_at hl 0 rfl) ?_
  refine lv_iload_n hx hb dX9_formulasWith_1 rfl (lv_at hl 1 rfl) ?_
  obtain ⟨r1, er1, hf⟩ := xbd_s hf
  refine x_XVv (As := [.int v1]) (rest := []) E.1 (m_X9_requireColorant l hlt er1) (cwV 1 hts (xgV xU_sub q239 q240 q241 q2 q242) rfl rfl rfl hdX9_requireColorant ⟨Nat.le_of_ble_eq_true rfl, Nat.le_of_ble_eq_true rfl⟩) h hz kX_tint rfl rfl hl.1 rfl (Nat.le_of_ble_eq_true rfl) dX9_formulasWith_2 ⟨Nat.le_of_ble_eq_true rfl, Nat.le_of_ble_eq_true rfl⟩ (fun Ex M9 hv9 H locs q9 ce9 h hq9 hc9 hn9 => ?_) (fun M2 hvy3 H locs h => ?_)
  · subst hv9
    refine vx_widen (k := 2) (n := 12) (Nat.le_of_ble_eq_true rfl) (Nat.le_of_ble_eq_true rfl) ?_
    exact x_Xout h (Option.some.inj hf) hex hlocks hq9 hc9 hn9
  · subst hvy3
    replace hf := xth_l hf
    refine lv_iload_n hx hb dX9_formulasWith_5 rfl (lv_at hl 2 rfl) ?_
    refine lv_iconst (v := 0) hx hb dX9_formulasWith_6 (by decide) ?_
    refine lv_bipush (v := 99) hx hb dX9_formulasWith_7 (by decide) ?_
    obtain ⟨r4, er4, hf⟩ := xbd_s hf
    refine x_XSv (As := [.int v2, .int 0, .int 99]) (rest := []) E.1 (m_X9_requireRange l hlt er4) (cwS 3 hts (xgS xU_sub q155 q156 q2 q157) rfl rfl rfl hdX9_requireRange ⟨Nat.le_of_ble_eq_true rfl, Nat.le_of_ble_eq_true rfl⟩) h hz rfl hl.1 rfl (Nat.le_of_ble_eq_true rfl) dX9_formulasWith_9 ⟨Nat.le_of_ble_eq_true rfl, Nat.le_of_ble_eq_true rfl⟩ (fun Ex M9 hv9 H locs q9 ce9 h hq9 hc9 hn9 => ?_) (fun M5 hvy6 H locs h => ?_)
    · subst hv9
      exact x_Xout h (Option.some.inj hf) hex hlocks hq9 hc9 hn9
    · subst hvy6
      replace hf := xth_l hf
      refine lv_aload_n hx hb dX9_formulasWith_12 rfl (lv_at hl 0 rfl) ?_
      refine x_get (own := RX9) (ref := "TintDesk") (C := RX9) (T := TX9) (n := 10) (index := 12) (v := .ref (Γ.2.1 0)) hx hb hts (fun w h => xU_sub w (inU9 w h)) hown h kX_tint rfl 0 (by decide) (hts _ (xU_sub _ q16)) (fun _ h9 => h9) rfl dX9_formulasWith_13 ?_
      refine lv_iload_n hx hb dX9_formulasWith_16 rfl (lv_at hl 1 rfl) ?_
      refine lv_iload_n hx hb dX9_formulasWith_17 rfl (lv_at hl 2 rfl) ?_
      obtain ⟨r7, er7, hf⟩ := xbd_s hf
      refine x_Vi (As := [.int v1, .int v2]) (rest := []) E.1 (m_X3_formulasHolding l isDk_0 er7) (cwV 2 hts (xgV xU_sub q911 q912 q913 q15 q914) rfl rfl rfl hdX3_formulasHolding ⟨Nat.le_of_ble_eq_true rfl, Nat.le_of_ble_eq_true rfl⟩) h (kX_desk isDk_0) rfl rfl hl.1 rfl (Nat.le_of_ble_eq_true rfl) dX9_formulasWith_18 ⟨Nat.le_of_ble_eq_true rfl, Nat.le_of_ble_eq_true rfl⟩ (fun H locs h => ?_)
      exact x_Xiret hx hb h (Option.some.inj hf) hr hlocks dX9_formulasWith_21
theorem hdX9_labelLength : yX9_labelLength.cls = RX9 ∧ yX9_labelLength.cls ≠ "java/lang/invoke/MethodHandle" ∧ yX9_labelLength.cls ≠ "java/lang/invoke/VarHandle" ∧ (parseMethodDescriptor yX9_labelLength.desc).map (fun d => d.parameters.length) = some 1 := by decide +kernel
set_option maxHeartbeats 4000000 in
set_option maxRecDepth 100000 in
theorem m_X9_labelLength (l : Launch) {Γ : xG} {N : Nat} {v1 : Int32} {M : xM} {res : xE} (hlt : l.stackTraces = false) (hf : F_X9_labelLength N v1 M = some res) (sz : Nat) : vx_Met l yX9_labelLength (xWs yX9_labelLength cX9_labelLength 2 (some .int)) ({ frames := 7, cells := 1, slots := 6, locals := 141 } : Room) (va_Pc [.ref (Γ.2.1 1470), .int v1] (xPreZ Γ (wX Γ) 1483 M sz)) (xXi Γ (wX Γ) 1483 res sz) (xXX Γ (wX Γ) 1483 res sz) 1 6 (xAd Γ 1483 sz) := by
  refine x_Xmet (Qc := fun sz => xXi Γ (wX Γ) 1483 res sz) (XC := fun sz => xXX Γ (wX Γ) 1483 res sz) pnX9 wG_W (Nat.le_of_ble_eq_true rfl) (fun p e s m args below meth c E hex hz h ls hl => ?_) sz
  obtain ⟨⟨hx, hb, hml, hown, hts⟩, hr, hlocks⟩ := id E
  have hl : lv_has ls 2 [(0, .ref (Γ.2.1 1470)), (1, .int v1)] := hl
  refine lv_aload_n hx hb dX9_labelLength_0 rfl (lv_at hl 0 rfl) ?_
  refine lv_iload_n hx hb dX9_labelLength_1 rfl (lv_at hl 1 rfl) ?_
  obtain ⟨r1, er1, hf⟩ := xbd_s hf
  refine x_XVv (As := [.int v1]) (rest := []) E.1 (m_X9_requireCan l hlt er1) (cwV 1 hts (xgV xU_sub q604 q605 q606 q2 q607) rfl rfl rfl hdX9_requireCan ⟨Nat.le_of_ble_eq_true rfl, Nat.le_of_ble_eq_true rfl⟩) h hz kX_tint rfl rfl hl.1 rfl (Nat.le_of_ble_eq_true rfl) dX9_labelLength_2 ⟨Nat.le_of_ble_eq_true rfl, Nat.le_of_ble_eq_true rfl⟩ (fun Ex M9 hv9 H locs q9 ce9 h hq9 hc9 hn9 => ?_) (fun M2 hvy3 H locs h => ?_)
  · subst hv9
    exact x_Xout h (Option.some.inj hf) hex hlocks hq9 hc9 hn9
  · subst hvy3
    replace hf := xth_l hf
    refine lv_aload_n hx hb dX9_labelLength_5 rfl (lv_at hl 0 rfl) ?_
    refine x_get (own := RX9) (ref := "TintDesk") (C := RX9) (T := TX9) (n := 10) (index := 57) (v := .ref (Γ.2.1 1479)) hx hb hts (fun w h => xU_sub w (inU9 w h)) hown h kX_tint rfl 9 (by decide) (hts _ (xU_sub _ q37)) (fun _ h9 => h9) rfl dX9_labelLength_6 ?_
    refine lv_aload_n hx hb dX9_labelLength_9 rfl (lv_at hl 0 rfl) ?_
    refine x_get (own := RX9) (ref := "TintDesk") (C := RX9) (T := TX9) (n := 10) (index := 12) (v := .ref (Γ.2.1 0)) hx hb hts (fun w h => xU_sub w (inU9 w h)) hown h kX_tint rfl 0 (by decide) (hts _ (xU_sub _ q16)) (fun _ h9 => h9) rfl dX9_labelLength_10 ?_
    refine x_get (own := RX9) (ref := "TintDesk$Desk") (C := RX3) (T := TX3) (n := 9) (index := 205) (v := .ref (Γ.2.1 4)) hx hb hts (fun w h => xU_sub w (inU3 w h)) hown h (kX_desk isDk_0) rfl 3 (by decide) (hts _ (xU_sub _ q603)) (fun _ h9 => h9) rfl dX9_labelLength_13 ?_
    refine lv_iload_n hx hb dX9_labelLength_16 rfl (lv_at hl 1 rfl) ?_
    obtain ⟨c4, hf⟩ := xck_s hf
    refine x_aald (C := "TintDesk$Can") hx hb h rfl (kX_desk_cans isDk_0) c4 dX9_labelLength_17 ?_
    obtain ⟨r5, er5, hf⟩ := xbd_s hf
    refine x_Vv (As := [.ref (Γ.2.1 (0 + 87 + 3 * v1.toNatClampNeg))]) (rest := []) E.1 (m_X7_write l (isCa_of isDk_0 c4) er5) (cwV 1 hts (xgV xU_sub q927 q928 q929 q36 q930) rfl rfl rfl hdX7_write ⟨Nat.le_of_ble_eq_true rfl, Nat.le_of_ble_eq_true rfl⟩) h kX_label rfl rfl hl.1 rfl (Nat.le_of_ble_eq_true rfl) dX9_labelLength_18 ⟨Nat.le_of_ble_eq_true rfl, Nat.le_of_ble_eq_true rfl⟩ (fun H locs h => ?_)
    refine lv_aload_n hx hb dX9_labelLength_21 rfl (lv_at hl 0 rfl) ?_
    refine x_get (own := RX9) (ref := "TintDesk") (C := RX9) (T := TX9) (n := 10) (index := 57) (v := .ref (Γ.2.1 1479)) hx hb hts (fun w h => xU_sub w (inU9 w h)) hown h kX_tint rfl 9 (by decide) (hts _ (xU_sub _ q37)) (fun _ h9 => h9) rfl dX9_labelLength_22 ?_
    refine x_get (own := RX9) (ref := "TintDesk$LabelWriter") (C := RX7) (T := TX7) (n := 2) (index := 298) (v := .int (r5.1.1 1479 1)) hx hb hts (fun w h => xU_sub w (inU7 w h)) hown h kX_label rfl 1 (by decide) (hts _ (xU_sub _ q926)) (fun _ h9 => h9) rfl dX9_labelLength_25 ?_
    exact x_Xiret hx hb h (Option.some.inj hf) hr hlocks dX9_labelLength_28
theorem hdX9_label : yX9_label.cls = RX9 ∧ yX9_label.cls ≠ "java/lang/invoke/MethodHandle" ∧ yX9_label.cls ≠ "java/lang/invoke/VarHandle" ∧ (parseMethodDescriptor yX9_label.desc).map (fun d => d.parameters.length) = some 2 := by decide +kernel
set_option maxHeartbeats 4000000 in
set_option maxRecDepth 100000 in
theorem w_X9_label_36 (l : Launch) {p : Program} {e : Env} {s : State} {m : MethodId} {args : Array Value} {below : List Frame} {meth : Method} {c : Code} {Γ : xG} {N : Nat} {res : xE} (hlt : l.stackTraces = false) (hz : xZ Γ 1483 s.heap.size s) (hex : ∀ x ∈ c.exceptionTable.toList, False) (E : xEv p s m args meth c RX9 cX9_label 3 (some .char) (xWs yX9_label cX9_label 3 (some .char))) : ∀ (M : xM), L_X9_label_36 N M = some res → ∀ (H : Heap) (locs : List Loc) (ls : Array Slot), xH Γ (wX Γ) 1483 s M H locs → lv_has ls 3 [] → W p l e ({ frames := 7, cells := 2, slots := 12, locals := 141 } : Room) s m args below meth c H locs 1 6 (vx_MQ below (xXi Γ (wX Γ) 1483 res s.heap.size) (xXX Γ (wX Γ) 1483 res s.heap.size) args s 2 12 (xAd Γ 1483 s.heap.size)) (F0 m 36 ls []) := by
  obtain ⟨⟨hx, hb, hml, hown, hts⟩, hr, hlocks⟩ := id E
  intro M hf H locs ls h hl
  exact x_throwNW (ik := 120) (is := 289) (text := "there is no such index") hx hb hlt hown (hts _ (xU_sub _ q344)) (hts _ (xU_sub _ q345)) hts xU_sub hz h (Option.some.inj hf) hl.1 hml dX9_label_36 dX9_label_39 dX9_label_40 dX9_label_43 dX9_label_46 hex hlocks (by decide +kernel) (by decide) (by decide) (by decide) (by decide)
set_option maxHeartbeats 4000000 in
set_option maxRecDepth 100000 in
theorem m_X9_label (l : Launch) {Γ : xG} {N : Nat} {v1 : Int32} {v2 : Int32} {M : xM} {res : xE} (hlt : l.stackTraces = false) (hf : F_X9_label N v1 v2 M = some res) (sz : Nat) : vx_Met l yX9_label (xWs yX9_label cX9_label 3 (some .char)) ({ frames := 7, cells := 2, slots := 12, locals := 141 } : Room) (va_Pc [.ref (Γ.2.1 1470), .int v1, .int v2] (xPreZ Γ (wX Γ) 1483 M sz)) (xXi Γ (wX Γ) 1483 res sz) (xXX Γ (wX Γ) 1483 res sz) 2 12 (xAd Γ 1483 sz) := by
  refine x_Xmet (Qc := fun sz => xXi Γ (wX Γ) 1483 res sz) (XC := fun sz => xXX Γ (wX Γ) 1483 res sz) pnX9 wG_W (Nat.le_of_ble_eq_true rfl) (fun p e s m args below meth c E hex hz h ls hl => ?_) sz
  obtain ⟨⟨hx, hb, hml, hown, hts⟩, hr, hlocks⟩ := id E
  have hl : lv_has ls 3 [(0, .ref (Γ.2.1 1470)), (1, .int v1), (2, .int v2)] := hl
  refine lv_aload_n hx hb dX9_label_0 rfl (lv_at hl 0 rfl) ?_
  refine lv_iload_n hx hb dX9_label_1 rfl (lv_at hl 1 rfl) ?_
  obtain ⟨r1, er1, hf⟩ := xbd_s hf
  refine x_XVv (As := [.int v1]) (rest := []) E.1 (m_X9_requireCan l hlt er1) (cwV 1 hts (xgV xU_sub q604 q605 q606 q2 q607) rfl rfl rfl hdX9_requireCan ⟨Nat.le_of_ble_eq_true rfl, Nat.le_of_ble_eq_true rfl⟩) h hz kX_tint rfl rfl hl.1 rfl (Nat.le_of_ble_eq_true rfl) dX9_label_2 ⟨Nat.le_of_ble_eq_true rfl, Nat.le_of_ble_eq_true rfl⟩ (fun Ex M9 hv9 H locs q9 ce9 h hq9 hc9 hn9 => ?_) (fun M2 hvy3 H locs h => ?_)
  · subst hv9
    refine vx_widen (k := 2) (n := 12) (Nat.le_of_ble_eq_true rfl) (Nat.le_of_ble_eq_true rfl) ?_
    exact x_Xout h (Option.some.inj hf) hex hlocks hq9 hc9 hn9
  · subst hvy3
    replace hf := xth_l hf
    refine lv_aload_n hx hb dX9_label_5 rfl (lv_at hl 0 rfl) ?_
    refine x_get (own := RX9) (ref := "TintDesk") (C := RX9) (T := TX9) (n := 10) (index := 57) (v := .ref (Γ.2.1 1479)) hx hb hts (fun w h => xU_sub w (inU9 w h)) hown h kX_tint rfl 9 (by decide) (hts _ (xU_sub _ q37)) (fun _ h9 => h9) rfl dX9_label_6 ?_
    refine lv_aload_n hx hb dX9_label_9 rfl (lv_at hl 0 rfl) ?_
    refine x_get (own := RX9) (ref := "TintDesk") (C := RX9) (T := TX9) (n := 10) (index := 12) (v := .ref (Γ.2.1 0)) hx hb hts (fun w h => xU_sub w (inU9 w h)) hown h kX_tint rfl 0 (by decide) (hts _ (xU_sub _ q16)) (fun _ h9 => h9) rfl dX9_label_10 ?_
    refine x_get (own := RX9) (ref := "TintDesk$Desk") (C := RX3) (T := TX3) (n := 9) (index := 205) (v := .ref (Γ.2.1 4)) hx hb hts (fun w h => xU_sub w (inU3 w h)) hown h (kX_desk isDk_0) rfl 3 (by decide) (hts _ (xU_sub _ q603)) (fun _ h9 => h9) rfl dX9_label_13 ?_
    refine lv_iload_n hx hb dX9_label_16 rfl (lv_at hl 1 rfl) ?_
    obtain ⟨c4, hf⟩ := xck_s hf
    refine x_aald (C := "TintDesk$Can") hx hb h rfl (kX_desk_cans isDk_0) c4 dX9_label_17 ?_
    obtain ⟨r5, er5, hf⟩ := xbd_s hf
    refine x_Vv (As := [.ref (Γ.2.1 (0 + 87 + 3 * v1.toNatClampNeg))]) (rest := []) E.1 (m_X7_write l (isCa_of isDk_0 c4) er5) (cwV 1 hts (xgV xU_sub q927 q928 q929 q36 q930) rfl rfl rfl hdX7_write ⟨Nat.le_of_ble_eq_true rfl, Nat.le_of_ble_eq_true rfl⟩) h kX_label rfl rfl hl.1 rfl (Nat.le_of_ble_eq_true rfl) dX9_label_18 ⟨Nat.le_of_ble_eq_true rfl, Nat.le_of_ble_eq_true rfl⟩ (fun H locs h => ?_)
    refine lv_iload_n hx hb dX9_label_21 rfl (lv_at hl 2 rfl) ?_
    refine lv_if_lt (tgt := 36) hx hb dX9_label_22 (by decide) (fun c6 => ?_) (fun c6 => ?_)
    · replace hf := xif_t hf c6
      exact w_X9_label_36 l hlt hz hex E r5.1 hf _ _ _ h (lv_sub hl [] rfl)
    · replace hf := xif_f hf c6
      refine lv_iload_n hx hb dX9_label_25 rfl (lv_at hl 2 rfl) ?_
      refine lv_aload_n hx hb dX9_label_26 rfl (lv_at hl 0 rfl) ?_
      refine x_get (own := RX9) (ref := "TintDesk") (C := RX9) (T := TX9) (n := 10) (index := 57) (v := .ref (Γ.2.1 1479)) hx hb hts (fun w h => xU_sub w (inU9 w h)) hown h kX_tint rfl 9 (by decide) (hts _ (xU_sub _ q37)) (fun _ h9 => h9) rfl dX9_label_27 ?_
      refine x_get (own := RX9) (ref := "TintDesk$LabelWriter") (C := RX7) (T := TX7) (n := 2) (index := 298) (v := .int (r5.1.1 1479 1)) hx hb hts (fun w h => xU_sub w (inU7 w h)) hown h kX_label rfl 1 (by decide) (hts _ (xU_sub _ q926)) (fun _ h9 => h9) rfl dX9_label_30 ?_
      refine lv_icmp_lt (tgt := 47) hx hb dX9_label_33 (by decide) (fun c7 => ?_) (fun c7 => ?_)
      · replace hf := xif_t hf c7
        refine lv_aload_n hx hb dX9_label_47 rfl (lv_at hl 0 rfl) ?_
        refine x_get (own := RX9) (ref := "TintDesk") (C := RX9) (T := TX9) (n := 10) (index := 57) (v := .ref (Γ.2.1 1479)) hx hb hts (fun w h => xU_sub w (inU9 w h)) hown h kX_tint rfl 9 (by decide) (hts _ (xU_sub _ q37)) (fun _ h9 => h9) rfl dX9_label_48 ?_
        refine x_get (own := RX9) (ref := "TintDesk$LabelWriter") (C := RX7) (T := TX7) (n := 2) (index := 299) (v := .ref (Γ.2.1 1480)) hx hb hts (fun w h => xU_sub w (inU7 w h)) hown h kX_label rfl 0 (by decide) (hts _ (xU_sub _ q972)) (fun _ h9 => h9) rfl dX9_label_51 ?_
        refine lv_iload_n hx hb dX9_label_54 rfl (lv_at hl 2 rfl) ?_
        obtain ⟨c8, hf⟩ := xck_s hf
        refine x_cald hx hb h kX_label_signs (xin_in c8) dX9_label_55 ?_
        obtain ⟨c9, hf⟩ := xck_s hf
        refine W.widen (k := 2) (n := 12) (Nat.le_of_ble_eq_true rfl) (Nat.le_of_ble_eq_true rfl) ?_
        exact x_Xzret hx hb h (Option.some.inj hf) hr hlocks (xch_n c9) dX9_label_56
      · replace hf := xif_f hf c7
        exact w_X9_label_36 l hlt hz hex E r5.1 hf _ _ _ h (lv_sub hl [] rfl)
theorem hdX9_account : yX9_account.cls = RX9 ∧ yX9_account.cls ≠ "java/lang/invoke/MethodHandle" ∧ yX9_account.cls ≠ "java/lang/invoke/VarHandle" ∧ (parseMethodDescriptor yX9_account.desc).map (fun d => d.parameters.length) = some 1 := by decide +kernel
set_option maxHeartbeats 4000000 in
set_option maxRecDepth 100000 in
theorem m_X9_account (l : Launch) {Γ : xG} {N : Nat} {v1 : Int32} {M : xM} {res : xE} (hlt : l.stackTraces = false) (hf : F_X9_account N v1 M = some res) (sz : Nat) : vx_Met l yX9_account (xWs yX9_account cX9_account 2 (some .int)) ({ frames := 7, cells := 1, slots := 6, locals := 149 } : Room) (va_Pc [.ref (Γ.2.1 1470), .int v1] (xPreZ Γ (wX Γ) 1483 M sz)) (xXi Γ (wX Γ) 1483 res sz) (xXX Γ (wX Γ) 1483 res sz) 1 6 (xAd Γ 1483 sz) := by
  refine x_Xmet (Qc := fun sz => xXi Γ (wX Γ) 1483 res sz) (XC := fun sz => xXX Γ (wX Γ) 1483 res sz) pnX9 wG_W (Nat.le_of_ble_eq_true rfl) (fun p e s m args below meth c E hex hz h ls hl => ?_) sz
  obtain ⟨⟨hx, hb, hml, hown, hts⟩, hr, hlocks⟩ := id E
  have hl : lv_has ls 2 [(0, .ref (Γ.2.1 1470)), (1, .int v1)] := hl
  refine lv_iload_n hx hb dX9_account_0 rfl (lv_at hl 1 rfl) ?_
  refine lv_iconst (v := 0) hx hb dX9_account_1 (by decide) ?_
  refine lv_bipush (v := 12) hx hb dX9_account_2 (by decide) ?_
  obtain ⟨r1, er1, hf⟩ := xbd_s hf
  refine x_XSv (As := [.int v1, .int 0, .int 12]) (rest := []) E.1 (m_X9_requireRange l hlt er1) (cwS 3 hts (xgS xU_sub q155 q156 q2 q157) rfl rfl rfl hdX9_requireRange ⟨Nat.le_of_ble_eq_true rfl, Nat.le_of_ble_eq_true rfl⟩) h hz rfl hl.1 rfl (Nat.le_of_ble_eq_true rfl) dX9_account_4 ⟨Nat.le_of_ble_eq_true rfl, Nat.le_of_ble_eq_true rfl⟩ (fun Ex M9 hv9 H locs q9 ce9 h hq9 hc9 hn9 => ?_) (fun M2 hvy3 H locs h => ?_)
  · subst hv9
    exact x_Xout h (Option.some.inj hf) hex hlocks hq9 hc9 hn9
  · subst hvy3
    replace hf := xth_l hf
    refine lv_aload_n hx hb dX9_account_7 rfl (lv_at hl 0 rfl) ?_
    refine x_get (own := RX9) (ref := "TintDesk") (C := RX9) (T := TX9) (n := 10) (index := 12) (v := .ref (Γ.2.1 0)) hx hb hts (fun w h => xU_sub w (inU9 w h)) hown h kX_tint rfl 0 (by decide) (hts _ (xU_sub _ q16)) (fun _ h9 => h9) rfl dX9_account_8 ?_
    refine lv_iload_n hx hb dX9_account_11 rfl (lv_at hl 1 rfl) ?_
    obtain ⟨r4, er4, hf⟩ := xbd_s hf
    refine x_Vi (As := [.int v1]) (rest := []) E.1 (m_X3_accountFor l isDk_0 er4) (cwV 1 hts (xgV xU_sub q1006 q1007 q1008 q15 q1009) rfl rfl rfl hdX3_accountFor ⟨Nat.le_of_ble_eq_true rfl, Nat.le_of_ble_eq_true rfl⟩) h (kX_desk isDk_0) rfl rfl hl.1 rfl (Nat.le_of_ble_eq_true rfl) dX9_account_12 ⟨Nat.le_of_ble_eq_true rfl, Nat.le_of_ble_eq_true rfl⟩ (fun H locs h => ?_)
    exact x_Xiret hx hb h (Option.some.inj hf) hr hlocks dX9_account_15
theorem hdX9_undo : yX9_undo.cls = RX9 ∧ yX9_undo.cls ≠ "java/lang/invoke/MethodHandle" ∧ yX9_undo.cls ≠ "java/lang/invoke/VarHandle" ∧ (parseMethodDescriptor yX9_undo.desc).map (fun d => d.parameters.length) = some 0 := by decide +kernel
set_option maxHeartbeats 4000000 in
set_option maxRecDepth 100000 in
theorem m_X9_undo (l : Launch) {Γ : xG} {N : Nat} {M : xM} {res : xE} (hlt : l.stackTraces = false) (hf : F_X9_undo N M = some res) (sz : Nat) : vx_Met l yX9_undo (xWs yX9_undo cX9_undo 1 (some .int)) ({ frames := 6, cells := 1, slots := 6, locals := 184 } : Room) (va_Pc [.ref (Γ.2.1 1470)] (xPreZ Γ (wX Γ) 1483 M sz)) (xXi Γ (wX Γ) 1483 res sz) (xXX Γ (wX Γ) 1483 res sz) 1 6 (xAd Γ 1483 sz) := by
  refine x_Xmet (Qc := fun sz => xXi Γ (wX Γ) 1483 res sz) (XC := fun sz => xXX Γ (wX Γ) 1483 res sz) pnX9 wG_W (Nat.le_of_ble_eq_true rfl) (fun p e s m args below meth c E hex hz h ls hl => ?_) sz
  obtain ⟨⟨hx, hb, hml, hown, hts⟩, hr, hlocks⟩ := id E
  have hl : lv_has ls 1 [(0, .ref (Γ.2.1 1470))] := hl
  refine lv_aload_n hx hb dX9_undo_0 rfl (lv_at hl 0 rfl) ?_
  refine x_get (own := RX9) (ref := "TintDesk") (C := RX9) (T := TX9) (n := 10) (index := 26) (v := .ref (Γ.2.1 1471)) hx hb hts (fun w h => xU_sub w (inU9 w h)) hown h kX_tint rfl 3 (by decide) (hts _ (xU_sub _ q22)) (fun _ h9 => h9) rfl dX9_undo_1 ?_
  refine x_get (own := RX9) (ref := "TintDesk$History") (C := RX6) (T := TX6) (n := 3) (index := 317) (v := .int (M.1 1471 1)) hx hb hts (fun w h => xU_sub w (inU6 w h)) hown h kX_hist rfl 1 (by decide) (hts _ (xU_sub _ q1044)) (fun _ h9 => h9) rfl dX9_undo_4 ?_
  refine lv_if_ne (tgt := 21) hx hb dX9_undo_7 (by decide) (fun c1 => ?_) (fun c1 => ?_)
  · replace hf := xif_f hf c1
    refine lv_aload_n hx hb dX9_undo_21 rfl (lv_at hl 0 rfl) ?_
    refine x_get (own := RX9) (ref := "TintDesk") (C := RX9) (T := TX9) (n := 10) (index := 26) (v := .ref (Γ.2.1 1471)) hx hb hts (fun w h => xU_sub w (inU9 w h)) hown h kX_tint rfl 3 (by decide) (hts _ (xU_sub _ q22)) (fun _ h9 => h9) rfl dX9_undo_22 ?_
    refine lv_aload_n hx hb dX9_undo_25 rfl (lv_at hl 0 rfl) ?_
    refine x_get (own := RX9) (ref := "TintDesk") (C := RX9) (T := TX9) (n := 10) (index := 12) (v := .ref (Γ.2.1 0)) hx hb hts (fun w h => xU_sub w (inU9 w h)) hown h kX_tint rfl 0 (by decide) (hts _ (xU_sub _ q16)) (fun _ h9 => h9) rfl dX9_undo_26 ?_
    obtain ⟨r2, er2, hf⟩ := xbd_s hf
    refine x_Vv (As := [.ref (Γ.2.1 0)]) (rest := []) E.1 (m_X6_giveBack l isDk_0 er2) (cwV 1 hts (xgV xU_sub q1045 q1046 q1047 q21 q1048) rfl rfl rfl hdX6_giveBack ⟨Nat.le_of_ble_eq_true rfl, Nat.le_of_ble_eq_true rfl⟩) h kX_hist rfl rfl hl.1 rfl (Nat.le_of_ble_eq_true rfl) dX9_undo_29 ⟨Nat.le_of_ble_eq_true rfl, Nat.le_of_ble_eq_true rfl⟩ (fun H locs h => ?_)
    refine lv_aload_n hx hb dX9_undo_32 rfl (lv_at hl 0 rfl) ?_
    refine x_get (own := RX9) (ref := "TintDesk") (C := RX9) (T := TX9) (n := 10) (index := 26) (v := .ref (Γ.2.1 1471)) hx hb hts (fun w h => xU_sub w (inU9 w h)) hown h kX_tint rfl 3 (by decide) (hts _ (xU_sub _ q22)) (fun _ h9 => h9) rfl dX9_undo_33 ?_
    refine x_get (own := RX9) (ref := "TintDesk$History") (C := RX6) (T := TX6) (n := 3) (index := 317) (v := .int (r2.1.1 1471 1)) hx hb hts (fun w h => xU_sub w (inU6 w h)) hown h kX_hist rfl 1 (by decide) (hts _ (xU_sub _ q1044)) (fun _ h9 => h9) rfl dX9_undo_36 ?_
    refine W.widen (k := 1) (n := 6) (Nat.le_of_ble_eq_true rfl) (Nat.le_of_ble_eq_true rfl) ?_
    exact x_Xiret hx hb h (Option.some.inj hf) hr hlocks dX9_undo_39
  · replace hf := xif_t hf c1
    exact x_throwW (ik := 68) (is := 320) (ic := 72) (text := "no change is kept") hx hb hlt hown ft_IllegalStateException (hts _ (xU_sub _ q152)) (hts _ (xU_sub _ q153)) hts xU_sub at_IllegalStateException gd_IllegalStateException hz h (Option.some.inj hf) hl.1 hml dX9_undo_10 dX9_undo_13 dX9_undo_14 dX9_undo_17 dX9_undo_20 hex hlocks (by decide +kernel) (by decide) (by decide) (by decide) (by decide)
theorem hdX9_save : yX9_save.cls = RX9 ∧ yX9_save.cls ≠ "java/lang/invoke/MethodHandle" ∧ yX9_save.cls ≠ "java/lang/invoke/VarHandle" ∧ (parseMethodDescriptor yX9_save.desc).map (fun d => d.parameters.length) = some 0 := by decide +kernel
set_option maxHeartbeats 4000000 in
set_option maxRecDepth 100000 in
theorem m_X9_save (l : Launch) {Γ : xG} {N : Nat} {M : xM} {res : xR} (hf : F_X9_save N M = some res) (sz : Nat) : Met l yX9_save (xWs yX9_save cX9_save 1 none) ({ frames := 3, cells := 0, slots := 0, locals := 163 } : Room) (va_Pc [.ref (Γ.2.1 1470)] (xPre Γ (wX Γ) M sz)) (xCv Γ (wX Γ) 1483 res sz) 0 0 (xAd Γ 1483 sz) := by
  refine x_met (Qc := fun sz => xCv Γ (wX Γ) 1483 res sz) pnX9 wG_W (Nat.le_of_ble_eq_true rfl) (fun p e s m args below meth c _ E h ls hl => ?_) sz
  obtain ⟨⟨hx, hb, hml, hown, hts⟩, hr, hlocks⟩ := id E
  have hl : lv_has ls 1 [(0, .ref (Γ.2.1 1470))] := hl
  refine lv_aload_n hx hb dX9_save_0 rfl (lv_at hl 0 rfl) ?_
  refine x_get (own := RX9) (ref := "TintDesk") (C := RX9) (T := TX9) (n := 10) (index := 16) (v := .ref (Γ.2.1 147)) hx hb hts (fun w h => xU_sub w (inU9 w h)) hown h kX_tint rfl 1 (by decide) (hts _ (xU_sub _ q17)) (fun _ h9 => h9) rfl dX9_save_1 ?_
  refine lv_aload_n hx hb dX9_save_4 rfl (lv_at hl 0 rfl) ?_
  refine x_get (own := RX9) (ref := "TintDesk") (C := RX9) (T := TX9) (n := 10) (index := 12) (v := .ref (Γ.2.1 0)) hx hb hts (fun w h => xU_sub w (inU9 w h)) hown h kX_tint rfl 0 (by decide) (hts _ (xU_sub _ q16)) (fun _ h9 => h9) rfl dX9_save_5 ?_
  obtain ⟨r1, er1, hf⟩ := xbd_s hf
  refine x_Vv (As := [.ref (Γ.2.1 0)]) (rest := []) E.1 (m_X3_copyFrom l isDk_147 isDk_0 er1) (cwV 1 hts (xgV xU_sub q1057 q169 q170 q15 q171) rfl rfl rfl hdX3_copyFrom ⟨Nat.le_of_ble_eq_true rfl, Nat.le_of_ble_eq_true rfl⟩) h (kX_desk isDk_147) rfl rfl hl.1 rfl (Nat.le_of_ble_eq_true rfl) dX9_save_8 ⟨Nat.le_of_ble_eq_true rfl, Nat.le_of_ble_eq_true rfl⟩ (fun H locs h => ?_)
  refine lv_aload_n hx hb dX9_save_11 rfl (lv_at hl 0 rfl) ?_
  refine lv_iconst (v := 1) hx hb dX9_save_12 (by decide) ?_
  obtain ⟨M2, eM2, hf⟩ := xl_s hf
  refine x_put (own := RX9) (ref := "TintDesk") (C := RX9) (T := TX9) (n := 10) (index := 19) (ty := .boolean) hx hb hts (fun w h => xU_sub w (inU9 w h)) tyX9 tyX9_ok nmX9 hown h kX_tint rfl 2 (by decide) (hts _ (xU_sub _ q18)) (fun _ h9 => h9) rfl (by decide +kernel) (by decide) (by decide) (Nat.le_of_ble_eq_true rfl) rfl eM2 dX9_save_13 (fun H locs h => ?_)
  exact x_vret hx hb h (Option.some.inj hf) hr hlocks dX9_save_16
theorem hdX9_restore : yX9_restore.cls = RX9 ∧ yX9_restore.cls ≠ "java/lang/invoke/MethodHandle" ∧ yX9_restore.cls ≠ "java/lang/invoke/VarHandle" ∧ (parseMethodDescriptor yX9_restore.desc).map (fun d => d.parameters.length) = some 0 := by decide +kernel
set_option maxHeartbeats 4000000 in
set_option maxRecDepth 100000 in
theorem m_X9_restore (l : Launch) {Γ : xG} {N : Nat} {M : xM} {res : xE} (hlt : l.stackTraces = false) (hf : F_X9_restore N M = some res) (sz : Nat) : vx_Met l yX9_restore (xWs yX9_restore cX9_restore 1 none) ({ frames := 6, cells := 1, slots := 6, locals := 163 } : Room) (va_Pc [.ref (Γ.2.1 1470)] (xPreZ Γ (wX Γ) 1483 M sz)) (xXv Γ (wX Γ) 1483 res sz) (xXX Γ (wX Γ) 1483 res sz) 1 6 (xAd Γ 1483 sz) := by
  refine x_Xmet (Qc := fun sz => xXv Γ (wX Γ) 1483 res sz) (XC := fun sz => xXX Γ (wX Γ) 1483 res sz) pnX9 wG_W (Nat.le_of_ble_eq_true rfl) (fun p e s m args below meth c E hex hz h ls hl => ?_) sz
  obtain ⟨⟨hx, hb, hml, hown, hts⟩, hr, hlocks⟩ := id E
  have hl : lv_has ls 1 [(0, .ref (Γ.2.1 1470))] := hl
  refine lv_aload_n hx hb dX9_restore_0 rfl (lv_at hl 0 rfl) ?_
  refine x_get (own := RX9) (ref := "TintDesk") (C := RX9) (T := TX9) (n := 10) (index := 19) (v := .int (M.1 1470 2)) hx hb hts (fun w h => xU_sub w (inU9 w h)) hown h kX_tint rfl 2 (by decide) (hts _ (xU_sub _ q18)) (fun _ h9 => h9) rfl dX9_restore_1 ?_
  refine lv_if_ne (tgt := 18) hx hb dX9_restore_4 (by decide) (fun c1 => ?_) (fun c1 => ?_)
  · replace hf := xif_f hf c1
    refine lv_aload_n hx hb dX9_restore_18 rfl (lv_at hl 0 rfl) ?_
    refine x_get (own := RX9) (ref := "TintDesk") (C := RX9) (T := TX9) (n := 10) (index := 12) (v := .ref (Γ.2.1 0)) hx hb hts (fun w h => xU_sub w (inU9 w h)) hown h kX_tint rfl 0 (by decide) (hts _ (xU_sub _ q16)) (fun _ h9 => h9) rfl dX9_restore_19 ?_
    refine lv_aload_n hx hb dX9_restore_22 rfl (lv_at hl 0 rfl) ?_
    refine x_get (own := RX9) (ref := "TintDesk") (C := RX9) (T := TX9) (n := 10) (index := 16) (v := .ref (Γ.2.1 147)) hx hb hts (fun w h => xU_sub w (inU9 w h)) hown h kX_tint rfl 1 (by decide) (hts _ (xU_sub _ q17)) (fun _ h9 => h9) rfl dX9_restore_23 ?_
    obtain ⟨r2, er2, hf⟩ := xbd_s hf
    refine x_Vv (As := [.ref (Γ.2.1 147)]) (rest := []) E.1 (m_X3_copyFrom l isDk_0 isDk_147 er2) (cwV 1 hts (xgV xU_sub q1057 q169 q170 q15 q171) rfl rfl rfl hdX3_copyFrom ⟨Nat.le_of_ble_eq_true rfl, Nat.le_of_ble_eq_true rfl⟩) h (kX_desk isDk_0) rfl rfl hl.1 rfl (Nat.le_of_ble_eq_true rfl) dX9_restore_26 ⟨Nat.le_of_ble_eq_true rfl, Nat.le_of_ble_eq_true rfl⟩ (fun H locs h => ?_)
    refine lv_aload_n hx hb dX9_restore_29 rfl (lv_at hl 0 rfl) ?_
    refine x_get (own := RX9) (ref := "TintDesk") (C := RX9) (T := TX9) (n := 10) (index := 26) (v := .ref (Γ.2.1 1471)) hx hb hts (fun w h => xU_sub w (inU9 w h)) hown h kX_tint rfl 3 (by decide) (hts _ (xU_sub _ q22)) (fun _ h9 => h9) rfl dX9_restore_30 ?_
    obtain ⟨r3, er3, hf⟩ := xbd_s hf
    refine x_Vv (As := []) (rest := []) E.1 (m_X6_forget l er3) (cwV 0 hts (xgV xU_sub q1070 q1071 q1072 q21 q1073) rfl rfl rfl hdX6_forget ⟨Nat.le_of_ble_eq_true rfl, Nat.le_of_ble_eq_true rfl⟩) h kX_hist rfl rfl hl.1 rfl (Nat.le_of_ble_eq_true rfl) dX9_restore_33 ⟨Nat.le_of_ble_eq_true rfl, Nat.le_of_ble_eq_true rfl⟩ (fun H locs h => ?_)
    refine W.widen (k := 1) (n := 6) (Nat.le_of_ble_eq_true rfl) (Nat.le_of_ble_eq_true rfl) ?_
    exact x_Xvret hx hb h (Option.some.inj hf) hr hlocks dX9_restore_36
  · replace hf := xif_t hf c1
    exact x_throwW (ik := 68) (is := 328) (ic := 72) (text := "there is no snapshot") hx hb hlt hown ft_IllegalStateException (hts _ (xU_sub _ q152)) (hts _ (xU_sub _ q153)) hts xU_sub at_IllegalStateException gd_IllegalStateException hz h (Option.some.inj hf) hl.1 hml dX9_restore_7 dX9_restore_10 dX9_restore_11 dX9_restore_14 dX9_restore_17 hex hlocks (by decide +kernel) (by decide) (by decide) (by decide) (by decide)
