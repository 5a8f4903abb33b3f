theorem hdL_addColorant : yL_addColorant.cls ≠ "java/lang/invoke/MethodHandle" ∧ yL_addColorant.cls ≠ "java/lang/invoke/VarHandle" ∧ (parseMethodDescriptor yL_addColorant.desc).map (fun d => d.parameters.length) = some 5 := by decide +kernel
set_option maxHeartbeats 4000000 in
set_option maxRecDepth 100000 in
theorem m_L_addColorant (l : Launch) {Γ : xG} {N : Nat} {v1 : Int32} {v2 : Int32} {v3 : Int32} {M : xM} {res : xR} (hlt : l.stackTraces = false) (hf : F_L_addColorant N v1 v2 v3 M = some res) (sz : Nat) : Met l yL_addColorant (xWh yL_addColorant cL_addColorant 6 (some .int) [(0, 12, 15, 13), (0, 12, 19, 15)]) ({ frames := 8, cells := 4, slots := 24, locals := 207 } : Room) (va_Pc [.ref (Γ.2.1 1470), .int v1, .int v2, .int v3, .ref (Γ.2.1 1481)] (xPreL Γ (wX Γ) 1483 M sz)) (xCi Γ (wX Γ) 1483 res sz) 4 24 (xAd Γ 1483 sz) := by
  refine x_Lmet (Qc := fun sz => xCi Γ (wX Γ) 1483 res sz) pnL wG_W (Nat.le_of_ble_eq_true rfl) (fun p e s m args below meth c E htab hz hnc h ls hl => ?_) sz
  obtain ⟨⟨hx, hb, hml, hown, hts⟩, hr, hlocks⟩ := id E
  have hl : lv_has ls 6 [(0, .ref (Γ.2.1 1470)), (1, .int v1), (2, .int v2), (3, .int v3), (4, .ref (Γ.2.1 1481))] := hl
  refine lv_aload hx hb dL_addColorant_0 (lv_at hl 4 rfl) ?_
  refine lv_iconst (v := 0) hx hb dL_addColorant_2 (by decide) ?_
  refine lv_aload_n hx hb dL_addColorant_3 rfl (lv_at hl 0 rfl) ?_
  refine lv_iload_n hx hb dL_addColorant_4 rfl (lv_at hl 1 rfl) ?_
  refine lv_iload_n hx hb dL_addColorant_5 rfl (lv_at hl 2 rfl) ?_
  refine lv_iload_n hx hb dL_addColorant_6 rfl (lv_at hl 3 rfl) ?_
  obtain ⟨r1, er1, hf⟩ := xbd_s hf
  refine x_XVi (As := [.int v1, .int v2, .int v3]) (rest := [.int 0, .ref (Γ.2.1 1481)]) E.1 (m_X9_addColorant l hlt er1) (cwV 3 hts (xgV xWh_sub q148 q149 q150 q2 q151) rfl rfl rfl hdX9_addColorant ⟨Nat.le_of_ble_eq_true rfl, Nat.le_of_ble_eq_true rfl⟩) h hz kX_tint rfl rfl hl.1 rfl (Nat.le_of_ble_eq_true rfl) dL_addColorant_7 ⟨Nat.le_of_ble_eq_true rfl, Nat.le_of_ble_eq_true rfl⟩ (fun Ex M9 hv9 H locs q9 ce9 h hq9 hc9 hn9 => ?_) (fun y3 M2 hv9 H locs h => ?_)
  · subst hv9
    replace hf := xthL_r hf
    by_cases c4 : Ex = "java/lang/IllegalArgumentException"
    · subst c4
      replace hf := xif_t hf rfl
      refine vx_catch (E := "java/lang/IllegalArgumentException") (name := "java/lang/IllegalArgumentException") hown [] ⟨0, 12, 15, 13⟩ [⟨0, 12, 19, 15⟩] htab (fun z hz => absurd hz List.not_mem_nil) (by decide) (by decide) (hts _ (xWh_sub _ q146)) (va_Nw.use rfl (hz.2.2.1 _ (by decide +kernel))) hq9 hc9 hn9 ?_
      refine lv_astore (lv' := [(5, .ref q9), (0, .ref (Γ.2.1 1470)), (1, .int v1), (2, .int v2), (3, .int v3), (4, .ref (Γ.2.1 1481))]) hx hb dL_addColorant_15 hl (by decide) rfl (fun ls hl => ?_)
      refine lv_iconst (v := 1) hx hb dL_addColorant_17 (by decide) ?_
      exact x_iret hx hb h (Option.some.inj hf) hr hlocks dL_addColorant_18
    replace hf := xif_f hf c4
    by_cases c5 : Ex = "java/lang/IllegalStateException"
    · subst c5
      replace hf := xif_t hf rfl
      have hp9 : ∀ z ∈ ([⟨0, 12, 15, 13⟩] : List ExceptionTableEntry), covers z 7 = false ∨ (z.catchType ≠ 0 ∧ ∃ nm : String, (Cond.classLink RL z.catchType nm).before args s = true ∧ va_Nc "java/lang/IllegalStateException" nm s) := by
        intro z hz
        simp only [List.mem_cons, List.not_mem_nil, or_false] at hz
        rcases hz with rfl
        · exact Or.inr ⟨by decide, "java/lang/IllegalArgumentException", hts _ (xWh_sub _ q146), hnc _ (by decide +kernel) _ (by decide +kernel) (by decide)⟩
      refine vx_catch (E := "java/lang/IllegalStateException") (name := "java/lang/IllegalStateException") hown [⟨0, 12, 15, 13⟩] ⟨0, 12, 19, 15⟩ [] htab hp9 (by decide) (by decide) (hts _ (xWh_sub _ q147)) (va_Nw.use rfl (hz.2.2.1 _ (by decide +kernel))) hq9 hc9 hn9 ?_
      refine lv_astore (lv' := [(5, .ref q9), (0, .ref (Γ.2.1 1470)), (1, .int v1), (2, .int v2), (3, .int v3), (4, .ref (Γ.2.1 1481))]) hx hb dL_addColorant_19 hl (by decide) rfl (fun ls hl => ?_)
      refine lv_iconst (v := 2) hx hb dL_addColorant_21 (by decide) ?_
      exact x_iret hx hb h (Option.some.inj hf) hr hlocks dL_addColorant_22
    replace hf := xif_f hf c5
    cases hf
  · subst hv9
    replace hf := xthL_l hf
    refine lv_i2l (v := (y3).toInt64) hx hb dL_addColorant_10 rfl ?_
    obtain ⟨M6, eM6, hf⟩ := xl_s hf
    refine x_last hx hb h kX_out (xin_in (by decide)) eM6 dL_addColorant_11 (fun H locs h => ?_)
    refine lv_goto (tgt := 23) hx hb dL_addColorant_12 (by decide) ?_
    refine lv_iconst (v := 0) hx hb dL_addColorant_23 (by decide) ?_
    exact x_iret hx hb h (Option.some.inj hf) hr hlocks dL_addColorant_24
theorem hdL_setLife : yL_setLife.cls ≠ "java/lang/invoke/MethodHandle" ∧ yL_setLife.cls ≠ "java/lang/invoke/VarHandle" ∧ (parseMethodDescriptor yL_setLife.desc).map (fun d => d.parameters.length) = some 4 := by decide +kernel
set_option maxHeartbeats 4000000 in
set_option maxRecDepth 100000 in
theorem m_L_setLife (l : Launch) {Γ : xG} {N : Nat} {v1 : Int32} {v2 : Int32} {M : xM} {res : xR} (hlt : l.stackTraces = false) (hf : F_L_setLife N v1 v2 M = some res) (sz : Nat) : Met l yL_setLife (xWh yL_setLife cL_setLife 5 (some .int) [(0, 10, 13, 21), (0, 10, 17, 13)]) ({ frames := 8, cells := 2, slots := 12, locals := 208 } : Room) (va_Pc [.ref (Γ.2.1 1470), .int v1, .int v2, .ref (Γ.2.1 1481)] (xPreL Γ (wX Γ) 1483 M sz)) (xCi Γ (wX Γ) 1483 res sz) 2 12 (xAd Γ 1483 sz) := by
  refine x_Lmet (Qc := fun sz => xCi Γ (wX Γ) 1483 res sz) pnL wG_W (Nat.le_of_ble_eq_true rfl) (fun p e s m args below meth c E htab hz hnc h ls hl => ?_) sz
  obtain ⟨⟨hx, hb, hml, hown, hts⟩, hr, hlocks⟩ := id E
  have hl : lv_has ls 5 [(0, .ref (Γ.2.1 1470)), (1, .int v1), (2, .int v2), (3, .ref (Γ.2.1 1481))] := hl
  refine lv_aload_n hx hb dL_setLife_0 rfl (lv_at hl 3 rfl) ?_
  refine lv_iconst (v := 0) hx hb dL_setLife_1 (by decide) ?_
  refine lv_aload_n hx hb dL_setLife_2 rfl (lv_at hl 0 rfl) ?_
  refine lv_iload_n hx hb dL_setLife_3 rfl (lv_at hl 1 rfl) ?_
  refine lv_iload_n hx hb dL_setLife_4 rfl (lv_at hl 2 rfl) ?_
  obtain ⟨r1, er1, hf⟩ := xbd_s hf
  refine x_XVi (As := [.int v1, .int v2]) (rest := [.int 0, .ref (Γ.2.1 1481)]) E.1 (m_X9_setLife l hlt er1) (cwV 2 hts (xgV xWh_sub q233 q234 q235 q2 q236) rfl rfl rfl hdX9_setLife ⟨Nat.le_of_ble_eq_true rfl, Nat.le_of_ble_eq_true rfl⟩) h hz kX_tint rfl rfl hl.1 rfl (Nat.le_of_ble_eq_true rfl) dL_setLife_5 ⟨Nat.le_of_ble_eq_true rfl, Nat.le_of_ble_eq_true rfl⟩ (fun Ex M9 hv9 H locs q9 ce9 h hq9 hc9 hn9 => ?_) (fun y3 M2 hv9 H locs h => ?_)
  · subst hv9
    replace hf := xthL_r hf
    by_cases c4 : Ex = "java/lang/IndexOutOfBoundsException"
    · subst c4
      replace hf := xif_t hf rfl
      refine vx_catch (E := "java/lang/IndexOutOfBoundsException") (name := "java/lang/IndexOutOfBoundsException") hown [] ⟨0, 10, 13, 21⟩ [⟨0, 10, 17, 13⟩] htab (fun z hz => absurd hz List.not_mem_nil) (by decide) (by decide) (hts _ (xWh_sub _ q232)) (va_Nw.use rfl (hz.2.2.1 _ (by decide +kernel))) hq9 hc9 hn9 ?_
      refine lv_astore (lv' := [(4, .ref q9), (0, .ref (Γ.2.1 1470)), (1, .int v1), (2, .int v2), (3, .ref (Γ.2.1 1481))]) hx hb dL_setLife_13 hl (by decide) rfl (fun ls hl => ?_)
      refine lv_iconst (v := 1) hx hb dL_setLife_15 (by decide) ?_
      exact x_iret hx hb h (Option.some.inj hf) hr hlocks dL_setLife_16
    replace hf := xif_f hf c4
    by_cases c5 : Ex = "java/lang/IllegalArgumentException"
    · subst c5
      replace hf := xif_t hf rfl
      have hp9 : ∀ z ∈ ([⟨0, 10, 13, 21⟩] : List ExceptionTableEntry), covers z 5 = false ∨ (z.catchType ≠ 0 ∧ ∃ nm : String, (Cond.classLink RL z.catchType nm).before args s = true ∧ va_Nc "java/lang/IllegalArgumentException" nm s) := by
        intro z hz
        simp only [List.mem_cons, List.not_mem_nil, or_false] at hz
        rcases hz with rfl
        · exact Or.inr ⟨by decide, "java/lang/IndexOutOfBoundsException", hts _ (xWh_sub _ q232), hnc _ (by decide +kernel) _ (by decide +kernel) (by decide)⟩
      refine vx_catch (E := "java/lang/IllegalArgumentException") (name := "java/lang/IllegalArgumentException") hown [⟨0, 10, 13, 21⟩] ⟨0, 10, 17, 13⟩ [] htab hp9 (by decide) (by decide) (hts _ (xWh_sub _ q146)) (va_Nw.use rfl (hz.2.2.1 _ (by decide +kernel))) hq9 hc9 hn9 ?_
      refine lv_astore (lv' := [(4, .ref q9), (0, .ref (Γ.2.1 1470)), (1, .int v1), (2, .int v2), (3, .ref (Γ.2.1 1481))]) hx hb dL_setLife_17 hl (by decide) rfl (fun ls hl => ?_)
      refine lv_iconst (v := 2) hx hb dL_setLife_19 (by decide) ?_
      exact x_iret hx hb h (Option.some.inj hf) hr hlocks dL_setLife_20
    replace hf := xif_f hf c5
    cases hf
  · subst hv9
    replace hf := xthL_l hf
    refine lv_i2l (v := (y3).toInt64) hx hb dL_setLife_8 rfl ?_
    obtain ⟨M6, eM6, hf⟩ := xl_s hf
    refine x_last hx hb h kX_out (xin_in (by decide)) eM6 dL_setLife_9 (fun H locs h => ?_)
    refine lv_goto (tgt := 21) hx hb dL_setLife_10 (by decide) ?_
    refine lv_iconst (v := 0) hx hb dL_setLife_21 (by decide) ?_
    exact x_iret hx hb h (Option.some.inj hf) hr hlocks dL_setLife_22
theorem hdL_refill : yL_refill.cls ≠ "java/lang/invoke/MethodHandle" ∧ yL_refill.cls ≠ "java/lang/invoke/VarHandle" ∧ (parseMethodDescriptor yL_refill.desc).map (fun d => d.parameters.length) = some 5 := by decide +kernel
set_option maxHeartbeats 4000000 in
set_option maxRecDepth 100000 in
theorem m_L_refill (l : Launch) {Γ : xG} {N : Nat} {v1 : Int32} {v2 : Int32} {v3 : Int32} {M : xM} {res : xR} (hlt : l.stackTraces = false) (hf : F_L_refill N v1 v2 v3 M = some res) (sz : Nat) : Met l yL_refill (xWh yL_refill cL_refill 6 (some .int) [(0, 12, 15, 21), (0, 12, 19, 13), (0, 12, 23, 26)]) ({ frames := 8, cells := 4, slots := 24, locals := 208 } : Room) (va_Pc [.ref (Γ.2.1 1470), .int v1, .int v2, .int v3, .ref (Γ.2.1 1481)] (xPreL Γ (wX Γ) 1483 M sz)) (xCi Γ (wX Γ) 1483 res sz) 4 24 (xAd Γ 1483 sz) := by
  refine x_Lmet (Qc := fun sz => xCi Γ (wX Γ) 1483 res sz) pnL wG_W (Nat.le_of_ble_eq_true rfl) (fun p e s m args below meth c E htab hz hnc h ls hl => ?_) sz
  obtain ⟨⟨hx, hb, hml, hown, hts⟩, hr, hlocks⟩ := id E
  have hl : lv_has ls 6 [(0, .ref (Γ.2.1 1470)), (1, .int v1), (2, .int v2), (3, .int v3), (4, .ref (Γ.2.1 1481))] := hl
  refine lv_aload hx hb dL_refill_0 (lv_at hl 4 rfl) ?_
  refine lv_iconst (v := 0) hx hb dL_refill_2 (by decide) ?_
  refine lv_aload_n hx hb dL_refill_3 rfl (lv_at hl 0 rfl) ?_
  refine lv_iload_n hx hb dL_refill_4 rfl (lv_at hl 1 rfl) ?_
  refine lv_iload_n hx hb dL_refill_5 rfl (lv_at hl 2 rfl) ?_
  refine lv_iload_n hx hb dL_refill_6 rfl (lv_at hl 3 rfl) ?_
  obtain ⟨r1, er1, hf⟩ := xbd_s hf
  refine x_XVi (As := [.int v1, .int v2, .int v3]) (rest := [.int 0, .ref (Γ.2.1 1481)]) E.1 (m_X9_refill l hlt er1) (cwV 3 hts (xgV xWh_sub q261 q262 q263 q2 q264) rfl rfl rfl hdX9_refill ⟨Nat.le_of_ble_eq_true rfl, Nat.le_of_ble_eq_true rfl⟩) h hz kX_tint rfl rfl hl.1 rfl (Nat.le_of_ble_eq_true rfl) dL_refill_7 ⟨Nat.le_of_ble_eq_true rfl, Nat.le_of_ble_eq_true rfl⟩ (fun Ex M9 hv9 H locs q9 ce9 h hq9 hc9 hn9 => ?_) (fun y3 M2 hv9 H locs h => ?_)
  · subst hv9
    replace hf := xthL_r hf
    by_cases c4 : Ex = "java/lang/IndexOutOfBoundsException"
    · subst c4
      replace hf := xif_t hf rfl
      refine vx_catch (E := "java/lang/IndexOutOfBoundsException") (name := "java/lang/IndexOutOfBoundsException") hown [] ⟨0, 12, 15, 21⟩ [⟨0, 12, 19, 13⟩, ⟨0, 12, 23, 26⟩] htab (fun z hz => absurd hz List.not_mem_nil) (by decide) (by decide) (hts _ (xWh_sub _ q232)) (va_Nw.use rfl (hz.2.2.1 _ (by decide +kernel))) hq9 hc9 hn9 ?_
      refine lv_astore (lv' := [(5, .ref q9), (0, .ref (Γ.2.1 1470)), (1, .int v1), (2, .int v2), (3, .int v3), (4, .ref (Γ.2.1 1481))]) hx hb dL_refill_15 hl (by decide) rfl (fun ls hl => ?_)
      refine lv_iconst (v := 1) hx hb dL_refill_17 (by decide) ?_
      exact x_iret hx hb h (Option.some.inj hf) hr hlocks dL_refill_18
    replace hf := xif_f hf c4
    by_cases c5 : Ex = "java/lang/IllegalArgumentException"
    · subst c5
      replace hf := xif_t hf rfl
      have hp9 : ∀ z ∈ ([⟨0, 12, 15, 21⟩] : List ExceptionTableEntry), covers z 7 = false ∨ (z.catchType ≠ 0 ∧ ∃ nm : String, (Cond.classLink RL z.catchType nm).before args s = true ∧ va_Nc "java/lang/IllegalArgumentException" nm s) := by
        intro z hz
        simp only [List.mem_cons, List.not_mem_nil, or_false] at hz
        rcases hz with rfl
        · exact Or.inr ⟨by decide, "java/lang/IndexOutOfBoundsException", hts _ (xWh_sub _ q232), hnc _ (by decide +kernel) _ (by decide +kernel) (by decide)⟩
      refine vx_catch (E := "java/lang/IllegalArgumentException") (name := "java/lang/IllegalArgumentException") hown [⟨0, 12, 15, 21⟩] ⟨0, 12, 19, 13⟩ [⟨0, 12, 23, 26⟩] htab hp9 (by decide) (by decide) (hts _ (xWh_sub _ q146)) (va_Nw.use rfl (hz.2.2.1 _ (by decide +kernel))) hq9 hc9 hn9 ?_
      refine lv_astore (lv' := [(5, .ref q9), (0, .ref (Γ.2.1 1470)), (1, .int v1), (2, .int v2), (3, .int v3), (4, .ref (Γ.2.1 1481))]) hx hb dL_refill_19 hl (by decide) rfl (fun ls hl => ?_)
      refine lv_iconst (v := 2) hx hb dL_refill_21 (by decide) ?_
      exact x_iret hx hb h (Option.some.inj hf) hr hlocks dL_refill_22
    replace hf := xif_f hf c5
    by_cases c6 : Ex = "java/lang/UnsupportedOperationException"
    · subst c6
      replace hf := xif_t hf rfl
      have hp9 : ∀ z ∈ ([⟨0, 12, 15, 21⟩, ⟨0, 12, 19, 13⟩] : List ExceptionTableEntry), covers z 7 = false ∨ (z.catchType ≠ 0 ∧ ∃ nm : String, (Cond.classLink RL z.catchType nm).before args s = true ∧ va_Nc "java/lang/UnsupportedOperationException" nm s) := by
        intro z hz
        simp only [List.mem_cons, List.not_mem_nil, or_false] at hz
        rcases hz with rfl | rfl
        · exact Or.inr ⟨by decide, "java/lang/IndexOutOfBoundsException", hts _ (xWh_sub _ q232), hnc _ (by decide +kernel) _ (by decide +kernel) (by decide)⟩
        · exact Or.inr ⟨by decide, "java/lang/IllegalArgumentException", hts _ (xWh_sub _ q146), hnc _ (by decide +kernel) _ (by decide +kernel) (by decide)⟩
      refine vx_catch (E := "java/lang/UnsupportedOperationException") (name := "java/lang/UnsupportedOperationException") hown [⟨0, 12, 15, 21⟩, ⟨0, 12, 19, 13⟩] ⟨0, 12, 23, 26⟩ [] htab hp9 (by decide) (by decide) (hts _ (xWh_sub _ q260)) (va_Nw.use rfl (hz.2.2.1 _ (by decide +kernel))) hq9 hc9 hn9 ?_
      refine lv_astore (lv' := [(5, .ref q9), (0, .ref (Γ.2.1 1470)), (1, .int v1), (2, .int v2), (3, .int v3), (4, .ref (Γ.2.1 1481))]) hx hb dL_refill_23 hl (by decide) rfl (fun ls hl => ?_)
      refine lv_iconst (v := 3) hx hb dL_refill_25 (by decide) ?_
      exact x_iret hx hb h (Option.some.inj hf) hr hlocks dL_refill_26
    replace hf := xif_f hf c6
    cases hf
  · subst hv9
    replace hf := xthL_l hf
    refine lv_i2l (v := (y3).toInt64) hx hb dL_refill_10 rfl ?_
    obtain ⟨M7, eM7, hf⟩ := xl_s hf
    refine x_last hx hb h kX_out (xin_in (by decide)) eM7 dL_refill_11 (fun H locs h => ?_)
    refine lv_goto (tgt := 27) hx hb dL_refill_12 (by decide) ?_
    refine lv_iconst (v := 0) hx hb dL_refill_27 (by decide) ?_
    exact x_iret hx hb h (Option.some.inj hf) hr hlocks dL_refill_28
theorem hdL_recall : yL_recall.cls ≠ "java/lang/invoke/MethodHandle" ∧ yL_recall.cls ≠ "java/lang/invoke/VarHandle" ∧ (parseMethodDescriptor yL_recall.desc).map (fun d => d.parameters.length) = some 4 := by decide +kernel
set_option maxHeartbeats 4000000 in
set_option maxRecDepth 100000 in
theorem m_L_recall (l : Launch) {Γ : xG} {N : Nat} {v1 : Int32} {v2 : Int32} {M : xM} {res : xR} (hlt : l.stackTraces = false) (hf : F_L_recall N v1 v2 M = some res) (sz : Nat) : Met l yL_recall (xWh yL_recall cL_recall 5 (some .int) [(0, 10, 13, 21), (0, 10, 17, 13)]) ({ frames := 8, cells := 2, slots := 12, locals := 206 } : Room) (va_Pc [.ref (Γ.2.1 1470), .int v1, .int v2, .ref (Γ.2.1 1481)] (xPreL Γ (wX Γ) 1483 M sz)) (xCi Γ (wX Γ) 1483 res sz) 2 12 (xAd Γ 1483 sz) := by
  refine x_Lmet (Qc := fun sz => xCi Γ (wX Γ) 1483 res sz) pnL wG_W (Nat.le_of_ble_eq_true rfl) (fun p e s m args below meth c E htab hz hnc h ls hl => ?_) sz
  obtain ⟨⟨hx, hb, hml, hown, hts⟩, hr, hlocks⟩ := id E
  have hl : lv_has ls 5 [(0, .ref (Γ.2.1 1470)), (1, .int v1), (2, .int v2), (3, .ref (Γ.2.1 1481))] := hl
  refine lv_aload_n hx hb dL_recall_0 rfl (lv_at hl 3 rfl) ?_
  refine lv_iconst (v := 0) hx hb dL_recall_1 (by decide) ?_
  refine lv_aload_n hx hb dL_recall_2 rfl (lv_at hl 0 rfl) ?_
  refine lv_iload_n hx hb dL_recall_3 rfl (lv_at hl 1 rfl) ?_
  refine lv_iload_n hx hb dL_recall_4 rfl (lv_at hl 2 rfl) ?_
  obtain ⟨r1, er1, hf⟩ := xbd_s hf
  refine x_XVi (As := [.int v1, .int v2]) (rest := [.int 0, .ref (Γ.2.1 1481)]) E.1 (m_X9_recall l hlt er1) (cwV 2 hts (xgV xWh_sub q300 q301 q302 q2 q303) rfl rfl rfl hdX9_recall ⟨Nat.le_of_ble_eq_true rfl, Nat.le_of_ble_eq_true rfl⟩) h hz kX_tint rfl rfl hl.1 rfl (Nat.le_of_ble_eq_true rfl) dL_recall_5 ⟨Nat.le_of_ble_eq_true rfl, Nat.le_of_ble_eq_true rfl⟩ (fun Ex M9 hv9 H locs q9 ce9 h hq9 hc9 hn9 => ?_) (fun y3 M2 hv9 H locs h => ?_)
  · subst hv9
    replace hf := xthL_r hf
    by_cases c4 : Ex = "java/lang/IndexOutOfBoundsException"
    · subst c4
      replace hf := xif_t hf rfl
      refine vx_catch (E := "java/lang/IndexOutOfBoundsException") (name := "java/lang/IndexOutOfBoundsException") hown [] ⟨0, 10, 13, 21⟩ [⟨0, 10, 17, 13⟩] htab (fun z hz => absurd hz List.not_mem_nil) (by decide) (by decide) (hts _ (xWh_sub _ q232)) (va_Nw.use rfl (hz.2.2.1 _ (by decide +kernel))) hq9 hc9 hn9 ?_
      refine lv_astore (lv' := [(4, .ref q9), (0, .ref (Γ.2.1 1470)), (1, .int v1), (2, .int v2), (3, .ref (Γ.2.1 1481))]) hx hb dL_recall_13 hl (by decide) rfl (fun ls hl => ?_)
      refine lv_iconst (v := 1) hx hb dL_recall_15 (by decide) ?_
      exact x_iret hx hb h (Option.some.inj hf) hr hlocks dL_recall_16
    replace hf := xif_f hf c4
    by_cases c5 : Ex = "java/lang/IllegalArgumentException"
    · subst c5
      replace hf := xif_t hf rfl
      have hp9 : ∀ z ∈ ([⟨0, 10, 13, 21⟩] : List ExceptionTableEntry), covers z 5 = false ∨ (z.catchType ≠ 0 ∧ ∃ nm : String, (Cond.classLink RL z.catchType nm).before args s = true ∧ va_Nc "java/lang/IllegalArgumentException" nm s) := by
        intro z hz
        simp only [List.mem_cons, List.not_mem_nil, or_false] at hz
        rcases hz with rfl
        · exact Or.inr ⟨by decide, "java/lang/IndexOutOfBoundsException", hts _ (xWh_sub _ q232), hnc _ (by decide +kernel) _ (by decide +kernel) (by decide)⟩
      refine vx_catch (E := "java/lang/IllegalArgumentException") (name := "java/lang/IllegalArgumentException") hown [⟨0, 10, 13, 21⟩] ⟨0, 10, 17, 13⟩ [] htab hp9 (by decide) (by decide) (hts _ (xWh_sub _ q146)) (va_Nw.use rfl (hz.2.2.1 _ (by decide +kernel))) hq9 hc9 hn9 ?_
      refine lv_astore (lv' := [(4, .ref q9), (0, .ref (Γ.2.1 1470)), (1, .int v1), (2, .int v2), (3, .ref (Γ.2.1 1481))]) hx hb dL_recall_17 hl (by decide) rfl (fun ls hl => ?_)
      refine lv_iconst (v := 2) hx hb dL_recall_19 (by decide) ?_
      exact x_iret hx hb h (Option.some.inj hf) hr hlocks dL_recall_20
    replace hf := xif_f hf c5
    cases hf
  · subst hv9
    replace hf := xthL_l hf
    refine lv_i2l (v := (y3).toInt64) hx hb dL_recall_8 rfl ?_
    obtain ⟨M6, eM6, hf⟩ := xl_s hf
    refine x_last hx hb h kX_out (xin_in (by decide)) eM6 dL_recall_9 (fun H locs h => ?_)
    refine lv_goto (tgt := 21) hx hb dL_recall_10 (by decide) ?_
    refine lv_iconst (v := 0) hx hb dL_recall_21 (by decide) ?_
    exact x_iret hx hb h (Option.some.inj hf) hr hlocks dL_recall_22
theorem hdL_colorant : yL_colorant.cls ≠ "java/lang/invoke/MethodHandle" ∧ yL_colorant.cls ≠ "java/lang/invoke/VarHandle" ∧ (parseMethodDescriptor yL_colorant.desc).map (fun d => d.parameters.length) = some 4 := by decide +kernel
set_option maxHeartbeats 4000000 in
set_option maxRecDepth 100000 in
theorem m_L_colorant (l : Launch) {Γ : xG} {N : Nat} {v1 : Int32} {v2 : Int32} {M : xM} {res : xR} (hlt : l.stackTraces = false) (hf : F_L_colorant N v1 v2 M = some res) (sz : Nat) : Met l yL_colorant (xWh yL_colorant cL_colorant 5 (some .int) [(0, 10, 13, 21), (0, 10, 17, 13)]) ({ frames := 8, cells := 2, slots := 12, locals := 164 } : Room) (va_Pc [.ref (Γ.2.1 1470), .int v1, .int v2, .ref (Γ.2.1 1481)] (xPreL Γ (wX Γ) 1483 M sz)) (xCi Γ (wX Γ) 1483 res sz) 2 12 (xAd Γ 1483 sz) := by
  refine x_Lmet (Qc := fun sz => xCi Γ (wX Γ) 1483 res sz) pnL wG_W (Nat.le_of_ble_eq_true rfl) (fun p e s m args below meth c E htab hz hnc h ls hl => ?_) sz
  obtain ⟨⟨hx, hb, hml, hown, hts⟩, hr, hlocks⟩ := id E
  have hl : lv_has ls 5 [(0, .ref (Γ.2.1 1470)), (1, .int v1), (2, .int v2), (3, .ref (Γ.2.1 1481))] := hl
  refine lv_aload_n hx hb dL_colorant_0 rfl (lv_at hl 3 rfl) ?_
  refine lv_iconst (v := 0) hx hb dL_colorant_1 (by decide) ?_
  refine lv_aload_n hx hb dL_colorant_2 rfl (lv_at hl 0 rfl) ?_
  refine lv_iload_n hx hb dL_colorant_3 rfl (lv_at hl 1 rfl) ?_
  refine lv_iload_n hx hb dL_colorant_4 rfl (lv_at hl 2 rfl) ?_
  obtain ⟨r1, er1, hf⟩ := xbd_s hf
  refine x_XVi (As := [.int v1, .int v2]) (rest := [.int 0, .ref (Γ.2.1 1481)]) E.1 (m_X9_colorant l hlt er1) (cwV 2 hts (xgV xWh_sub q323 q324 q325 q2 q326) rfl rfl rfl hdX9_colorant ⟨Nat.le_of_ble_eq_true rfl, Nat.le_of_ble_eq_true rfl⟩) h hz kX_tint rfl rfl hl.1 rfl (Nat.le_of_ble_eq_true rfl) dL_colorant_5 ⟨Nat.le_of_ble_eq_true rfl, Nat.le_of_ble_eq_true rfl⟩ (fun Ex M9 hv9 H locs q9 ce9 h hq9 hc9 hn9 => ?_) (fun y3 M2 hv9 H locs h => ?_)
  · subst hv9
    replace hf := xthL_r hf
    by_cases c4 : Ex = "java/lang/IndexOutOfBoundsException"
    · subst c4
      replace hf := xif_t hf rfl
      refine vx_catch (E := "java/lang/IndexOutOfBoundsException") (name := "java/lang/IndexOutOfBoundsException") hown [] ⟨0, 10, 13, 21⟩ [⟨0, 10, 17, 13⟩] htab (fun z hz => absurd hz List.not_mem_nil) (by decide) (by decide) (hts _ (xWh_sub _ q232)) (va_Nw.use rfl (hz.2.2.1 _ (by decide +kernel))) hq9 hc9 hn9 ?_
      refine lv_astore (lv' := [(4, .ref q9), (0, .ref (Γ.2.1 1470)), (1, .int v1), (2, .int v2), (3, .ref (Γ.2.1 1481))]) hx hb dL_colorant_13 hl (by decide) rfl (fun ls hl => ?_)
      refine lv_iconst (v := 1) hx hb dL_colorant_15 (by decide) ?_
      exact x_iret hx hb h (Option.some.inj hf) hr hlocks dL_colorant_16
    replace hf := xif_f hf c4
    by_cases c5 : Ex = "java/lang/IllegalArgumentException"
    · subst c5
      replace hf := xif_t hf rfl
      have hp9 : ∀ z ∈ ([⟨0, 10, 13, 21⟩] : List ExceptionTableEntry), covers z 5 = false ∨ (z.catchType ≠ 0 ∧ ∃ nm : String, (Cond.classLink RL z.catchType nm).before args s = true ∧ va_Nc "java/lang/IllegalArgumentException" nm s) := by
        intro z hz
        simp only [List.mem_cons, List.not_mem_nil, or_false] at hz
        rcases hz with rfl
        · exact Or.inr ⟨by decide, "java/lang/IndexOutOfBoundsException", hts _ (xWh_sub _ q232), hnc _ (by decide +kernel) _ (by decide +kernel) (by decide)⟩
      refine vx_catch (E := "java/lang/IllegalArgumentException") (name := "java/lang/IllegalArgumentException") hown [⟨0, 10, 13, 21⟩] ⟨0, 10, 17, 13⟩ [] htab hp9 (by decide) (by decide) (hts _ (xWh_sub _ q146)) (va_Nw.use rfl (hz.2.2.1 _ (by decide +kernel))) hq9 hc9 hn9 ?_
      refine lv_astore (lv' := [(4, .ref q9), (0, .ref (Γ.2.1 1470)), (1, .int v1), (2, .int v2), (3, .ref (Γ.2.1 1481))]) hx hb dL_colorant_17 hl (by decide) rfl (fun ls hl => ?_)
      refine lv_iconst (v := 2) hx hb dL_colorant_19 (by decide) ?_
      exact x_iret hx hb h (Option.some.inj hf) hr hlocks dL_colorant_20
    replace hf := xif_f hf c5
    cases hf
  · subst hv9
    replace hf := xthL_l hf
    refine lv_i2l (v := (y3).toInt64) hx hb dL_colorant_8 rfl ?_
    obtain ⟨M6, eM6, hf⟩ := xl_s hf
    refine x_last hx hb h kX_out (xin_in (by decide)) eM6 dL_colorant_9 (fun H locs h => ?_)
    refine lv_goto (tgt := 21) hx hb dL_colorant_10 (by decide) ?_
    refine lv_iconst (v := 0) hx hb dL_colorant_21 (by decide) ?_
    exact x_iret hx hb h (Option.some.inj hf) hr hlocks dL_colorant_22
theorem hdL_lot : yL_lot.cls ≠ "java/lang/invoke/MethodHandle" ∧ yL_lot.cls ≠ "java/lang/invoke/VarHandle" ∧ (parseMethodDescriptor yL_lot.desc).map (fun d => d.parameters.length) = some 5 := by decide +kernel
set_option maxHeartbeats 4000000 in
set_option maxRecDepth 100000 in
theorem m_L_lot (l : Launch) {Γ : xG} {N : Nat} {v1 : Int32} {v2 : Int32} {v3 : Int32} {M : xM} {res : xR} (hlt : l.stackTraces = false) (hf : F_L_lot N v1 v2 v3 M = some res) (sz : Nat) : Met l yL_lot (xWh yL_lot cL_lot 6 (some .int) [(0, 12, 15, 21), (0, 12, 19, 37), (0, 12, 23, 13)]) ({ frames := 8, cells := 2, slots := 12, locals := 166 } : Room) (va_Pc [.ref (Γ.2.1 1470), .int v1, .int v2, .int v3, .ref (Γ.2.1 1481)] (xPreL Γ (wX Γ) 1483 M sz)) (xCi Γ (wX Γ) 1483 res sz) 2 12 (xAd Γ 1483 sz) := by
  refine x_Lmet (Qc := fun sz => xCi Γ (wX Γ) 1483 res sz) pnL wG_W (Nat.le_of_ble_eq_true rfl) (fun p e s m args below meth c E htab hz hnc h ls hl => ?_) sz
  obtain ⟨⟨hx, hb, hml, hown, hts⟩, hr, hlocks⟩ := id E
  have hl : lv_has ls 6 [(0, .ref (Γ.2.1 1470)), (1, .int v1), (2, .int v2), (3, .int v3), (4, .ref (Γ.2.1 1481))] := hl
  refine lv_aload hx hb dL_lot_0 (lv_at hl 4 rfl) ?_
  refine lv_iconst (v := 0) hx hb dL_lot_2 (by decide) ?_
  refine lv_aload_n hx hb dL_lot_3 rfl (lv_at hl 0 rfl) ?_
  refine lv_iload_n hx hb dL_lot_4 rfl (lv_at hl 1 rfl) ?_
  refine lv_iload_n hx hb dL_lot_5 rfl (lv_at hl 2 rfl) ?_
  refine lv_iload_n hx hb dL_lot_6 rfl (lv_at hl 3 rfl) ?_
  obtain ⟨r1, er1, hf⟩ := xbd_s hf
  refine x_XVi (As := [.int v1, .int v2, .int v3]) (rest := [.int 0, .ref (Γ.2.1 1481)]) E.1 (m_X9_lot l hlt er1) (cwV 3 hts (xgV xWh_sub q340 q341 q342 q2 q343) rfl rfl rfl hdX9_lot ⟨Nat.le_of_ble_eq_true rfl, Nat.le_of_ble_eq_true rfl⟩) h hz kX_tint rfl rfl hl.1 rfl (Nat.le_of_ble_eq_true rfl) dL_lot_7 ⟨Nat.le_of_ble_eq_true rfl, Nat.le_of_ble_eq_true rfl⟩ (fun Ex M9 hv9 H locs q9 ce9 h hq9 hc9 hn9 => ?_) (fun y3 M2 hv9 H locs h => ?_)
  · subst hv9
    replace hf := xthL_r hf
    by_cases c4 : Ex = "java/lang/IndexOutOfBoundsException"
    · subst c4
      replace hf := xif_t hf rfl
      refine vx_catch (E := "java/lang/IndexOutOfBoundsException") (name := "java/lang/IndexOutOfBoundsException") hown [] ⟨0, 12, 15, 21⟩ [⟨0, 12, 19, 37⟩, ⟨0, 12, 23, 13⟩] htab (fun z hz => absurd hz List.not_mem_nil) (by decide) (by decide) (hts _ (xWh_sub _ q232)) (va_Nw.use rfl (hz.2.2.1 _ (by decide +kernel))) hq9 hc9 hn9 ?_
      refine lv_astore (lv' := [(5, .ref q9), (0, .ref (Γ.2.1 1470)), (1, .int v1), (2, .int v2), (3, .int v3), (4, .ref (Γ.2.1 1481))]) hx hb dL_lot_15 hl (by decide) rfl (fun ls hl => ?_)
      refine lv_iconst (v := 1) hx hb dL_lot_17 (by decide) ?_
      exact x_iret hx hb h (Option.some.inj hf) hr hlocks dL_lot_18
    replace hf := xif_f hf c4
    by_cases c5 : Ex = "java/util/NoSuchElementException"
    · subst c5
      replace hf := xif_t hf rfl
      have hp9 : ∀ z ∈ ([⟨0, 12, 15, 21⟩] : List ExceptionTableEntry), covers z 7 = false ∨ (z.catchType ≠ 0 ∧ ∃ nm : String, (Cond.classLink RL z.catchType nm).before args s = true ∧ va_Nc "java/util/NoSuchElementException" nm s) := by
        intro z hz
        simp only [List.mem_cons, List.not_mem_nil, or_false] at hz
        rcases hz with rfl
        · exact Or.inr ⟨by decide, "java/lang/IndexOutOfBoundsException", hts _ (xWh_sub _ q232), hnc _ (by decide +kernel) _ (by decide +kernel) (by decide)⟩
      refine vx_catch (E := "java/util/NoSuchElementException") (name := "java/util/NoSuchElementException") hown [⟨0, 12, 15, 21⟩] ⟨0, 12, 19, 37⟩ [⟨0, 12, 23, 13⟩] htab hp9 (by decide) (by decide) (hts _ (xWh_sub _ q339)) (va_Nw.use rfl (hz.2.2.1 _ (by decide +kernel))) hq9 hc9 hn9 ?_
      refine lv_astore (lv' := [(5, .ref q9), (0, .ref (Γ.2.1 1470)), (1, .int v1), (2, .int v2), (3, .int v3), (4, .ref (Γ.2.1 1481))]) hx hb dL_lot_19 hl (by decide) rfl (fun ls hl => ?_)
      refine lv_iconst (v := 2) hx hb dL_lot_21 (by decide) ?_
      exact x_iret hx hb h (Option.some.inj hf) hr hlocks dL_lot_22
    replace hf := xif_f hf c5
    by_cases c6 : Ex = "java/lang/IllegalArgumentException"
    · subst c6
      replace hf := xif_t hf rfl
      have hp9 : ∀ z ∈ ([⟨0, 12, 15, 21⟩, ⟨0, 12, 19, 37⟩] : List ExceptionTableEntry), covers z 7 = false ∨ (z.catchType ≠ 0 ∧ ∃ nm : String, (Cond.classLink RL z.catchType nm).before args s = true ∧ va_Nc "java/lang/IllegalArgumentException" nm s) := by
        intro z hz
        simp only [List.mem_cons, List.not_mem_nil, or_false] at hz
        rcases hz with rfl | rfl
        · exact Or.inr ⟨by decide, "java/lang/IndexOutOfBoundsException", hts _ (xWh_sub _ q232), hnc _ (by decide +kernel) _ (by decide +kernel) (by decide)⟩
        · exact Or.inr ⟨by decide, "java/util/NoSuchElementException", hts _ (xWh_sub _ q339), hnc _ (by decide +kernel) _ (by decide +kernel) (by decide)⟩
      refine vx_catch (E := "java/lang/IllegalArgumentException") (name := "java/lang/IllegalArgumentException") hown [⟨0, 12, 15, 21⟩, ⟨0, 12, 19, 37⟩] ⟨0, 12, 23, 13⟩ [] htab hp9 (by decide) (by decide) (hts _ (xWh_sub _ q146)) (va_Nw.use rfl (hz.2.2.1 _ (by decide +kernel))) hq9 hc9 hn9 ?_
      refine lv_astore (lv' := [(5, .ref q9), (0, .ref (Γ.2.1 1470)), (1, .int v1), (2, .int v2), (3, .int v3), (4, .ref (Γ.2.1 1481))]) hx hb dL_lot_23 hl (by decide) rfl (fun ls hl => ?_)
      refine lv_iconst (v := 3) hx hb dL_lot_25 (by decide) ?_
      exact x_iret hx hb h (Option.some.inj hf) hr hlocks dL_lot_26
    replace hf := xif_f hf c6
    cases hf
  · subst hv9
    replace hf := xthL_l hf
    refine lv_i2l (v := (y3).toInt64) hx hb dL_lot_10 rfl ?_
    obtain ⟨M7, eM7, hf⟩ := xl_s hf
    refine x_last hx hb h kX_out (xin_in (by decide)) eM7 dL_lot_11 (fun H locs h => ?_)
    refine lv_goto (tgt := 27) hx hb dL_lot_12 (by decide) ?_
    refine lv_iconst (v := 0) hx hb dL_lot_27 (by decide) ?_
    exact x_iret hx hb h (Option.some.inj hf) hr hlocks dL_lot_28
theorem hdL_pass : yL_pass.cls ≠ "java/lang/invoke/MethodHandle" ∧ yL_pass.cls ≠ "java/lang/invoke/VarHandle" ∧ (parseMethodDescriptor yL_pass.desc).map (fun d => d.parameters.length) = some 3 := by decide +kernel
set_option maxHeartbeats 4000000 in
set_option maxRecDepth 100000 in
theorem m_L_pass (l : Launch) {Γ : xG} {N : Nat} {v1 : Int32} {M : xM} {res : xR} (hlt : l.stackTraces = false) (hf : F_L_pass N v1 M = some res) (sz : Nat) : Met l yL_pass (xWh yL_pass cL_pass 4 (some .int) [(0, 9, 12, 13)]) ({ frames := 8, cells := 2, slots := 12, locals := 205 } : Room) (va_Pc [.ref (Γ.2.1 1470), .int v1, .ref (Γ.2.1 1481)] (xPreL Γ (wX Γ) 1483 M sz)) (xCi Γ (wX Γ) 1483 res sz) 2 12 (xAd Γ 1483 sz) := by
  refine x_Lmet (Qc := fun sz => xCi Γ (wX Γ) 1483 res sz) pnL wG_W (Nat.le_of_ble_eq_true rfl) (fun p e s m args below meth c E htab hz hnc h ls hl => ?_) sz
  obtain ⟨⟨hx, hb, hml, hown, hts⟩, hr, hlocks⟩ := id E
  have hl : lv_has ls 4 [(0, .ref (Γ.2.1 1470)), (1, .int v1), (2, .ref (Γ.2.1 1481))] := hl
  refine lv_aload_n hx hb dL_pass_0 rfl (lv_at hl 2 rfl) ?_
  refine lv_iconst (v := 0) hx hb dL_pass_1 (by decide) ?_
  refine lv_aload_n hx hb dL_pass_2 rfl (lv_at hl 0 rfl) ?_
  refine lv_iload_n hx hb dL_pass_3 rfl (lv_at hl 1 rfl) ?_
  obtain ⟨r1, er1, hf⟩ := xbd_s hf
  refine x_XVi (As := [.int v1]) (rest := [.int 0, .ref (Γ.2.1 1481)]) E.1 (m_X9_pass l hlt er1) (cwV 1 hts (xgV xWh_sub q357 q358 q359 q2 q360) rfl rfl rfl hdX9_pass ⟨Nat.le_of_ble_eq_true rfl, Nat.le_of_ble_eq_true rfl⟩) h hz kX_tint rfl rfl hl.1 rfl (Nat.le_of_ble_eq_true rfl) dL_pass_4 ⟨Nat.le_of_ble_eq_true rfl, Nat.le_of_ble_eq_true rfl⟩ (fun Ex M9 hv9 H locs q9 ce9 h hq9 hc9 hn9 => ?_) (fun y3 M2 hv9 H locs h => ?_)
  · subst hv9
    replace hf := xthL_r hf
    by_cases c4 : Ex = "java/lang/IllegalArgumentException"
    · subst c4
      replace hf := xif_t hf rfl
      refine vx_catch (E := "java/lang/IllegalArgumentException") (name := "java/lang/IllegalArgumentException") hown [] ⟨0, 9, 12, 13⟩ [] htab (fun z hz => absurd hz List.not_mem_nil) (by decide) (by decide) (hts _ (xWh_sub _ q146)) (va_Nw.use rfl (hz.2.2.1 _ (by decide +kernel))) hq9 hc9 hn9 ?_
      refine lv_astore_n (lv' := [(3, .ref q9), (0, .ref (Γ.2.1 1470)), (1, .int v1), (2, .ref (Γ.2.1 1481))]) hx hb dL_pass_12 rfl hl (by decide) rfl (fun ls hl => ?_)
      refine lv_iconst (v := 1) hx hb dL_pass_13 (by decide) ?_
      exact x_iret hx hb h (Option.some.inj hf) hr hlocks dL_pass_14
    replace hf := xif_f hf c4
    cases hf
  · subst hv9
    replace hf := xthL_l hf
    refine lv_i2l (v := (y3).toInt64) hx hb dL_pass_7 rfl ?_
    obtain ⟨M5, eM5, hf⟩ := xl_s hf
    refine x_last hx hb h kX_out (xin_in (by decide)) eM5 dL_pass_8 (fun H locs h => ?_)
    refine lv_goto (tgt := 15) hx hb dL_pass_9 (by decide) ?_
    refine lv_iconst (v := 0) hx hb dL_pass_15 (by decide) ?_
    exact x_iret hx hb h (Option.some.inj hf) hr hlocks dL_pass_16
theorem hdL_addBase : yL_addBase.cls ≠ "java/lang/invoke/MethodHandle" ∧ yL_addBase.cls ≠ "java/lang/invoke/VarHandle" ∧ (parseMethodDescriptor yL_addBase.desc).map (fun d => d.parameters.length) = some 6 := by decide +kernel
set_option maxHeartbeats 4000000 in
set_option maxRecDepth 100000 in
theorem m_L_addBase (l : Launch) {Γ : xG} {N : Nat} {v1 : Int32} {v2 : Int32} {v3 : Int32} {v4 : Int32} {M : xM} {res : xR} (hlt : l.stackTraces = false) (hf : F_L_addBase N v1 v2 v3 v4 M = some res) (sz : Nat) : Met l yL_addBase (xWh yL_addBase cL_addBase 7 (some .int) [(0, 14, 17, 13), (0, 14, 21, 15)]) ({ frames := 8, cells := 5, slots := 30, locals := 208 } : Room) (va_Pc [.ref (Γ.2.1 1470), .int v1, .int v2, .int v3, .int v4, .ref (Γ.2.1 1481)] (xPreL Γ (wX Γ) 1483 M sz)) (xCi Γ (wX Γ) 1483 res sz) 5 30 (xAd Γ 1483 sz) := by
  refine x_Lmet (Qc := fun sz => xCi Γ (wX Γ) 1483 res sz) pnL wG_W (Nat.le_of_ble_eq_true rfl) (fun p e s m args below meth c E htab hz hnc h ls hl => ?_) sz
  obtain ⟨⟨hx, hb, hml, hown, hts⟩, hr, hlocks⟩ := id E
  have hl : lv_has ls 7 [(0, .ref (Γ.2.1 1470)), (1, .int v1), (2, .int v2), (3, .int v3), (4, .int v4), (5, .ref (Γ.2.1 1481))] := hl
  refine lv_aload hx hb dL_addBase_0 (lv_at hl 5 rfl) ?_
  refine lv_iconst (v := 0) hx hb dL_addBase_2 (by decide) ?_
  refine lv_aload_n hx hb dL_addBase_3 rfl (lv_at hl 0 rfl) ?_
  refine lv_iload_n hx hb dL_addBase_4 rfl (lv_at hl 1 rfl) ?_
  refine lv_iload_n hx hb dL_addBase_5 rfl (lv_at hl 2 rfl) ?_
  refine lv_iload_n hx hb dL_addBase_6 rfl (lv_at hl 3 rfl) ?_
  refine lv_iload hx hb dL_addBase_7 (lv_at hl 4 rfl) ?_
  obtain ⟨r1, er1, hf⟩ := xbd_s hf
  refine x_XVi (As := [.int v1, .int v2, .int v3, .int v4]) (rest := [.int 0, .ref (Γ.2.1 1481)]) E.1 (m_X9_addBase l hlt er1) (cwV 4 hts (xgV xWh_sub q380 q381 q382 q2 q383) rfl rfl rfl hdX9_addBase ⟨Nat.le_of_ble_eq_true rfl, Nat.le_of_ble_eq_true rfl⟩) h hz kX_tint rfl rfl hl.1 rfl (Nat.le_of_ble_eq_true rfl) dL_addBase_9 ⟨Nat.le_of_ble_eq_true rfl, Nat.le_of_ble_eq_true rfl⟩ (fun Ex M9 hv9 H locs q9 ce9 h hq9 hc9 hn9 => ?_) (fun y3 M2 hv9 H locs h => ?_)
  · subst hv9
    replace hf := xthL_r hf
    by_cases c4 : Ex = "java/lang/IllegalArgumentException"
    · subst c4
      replace hf := xif_t hf rfl
      refine vx_catch (E := "java/lang/IllegalArgumentException") (name := "java/lang/IllegalArgumentException") hown [] ⟨0, 14, 17, 13⟩ [⟨0, 14, 21, 15⟩] htab (fun z hz => absurd hz List.not_mem_nil) (by decide) (by decide) (hts _ (xWh_sub _ q146)) (va_Nw.use rfl (hz.2.2.1 _ (by decide +kernel))) hq9 hc9 hn9 ?_
      refine lv_astore (lv' := [(6, .ref q9), (0, .ref (Γ.2.1 1470)), (1, .int v1), (2, .int v2), (3, .int v3), (4, .int v4), (5, .ref (Γ.2.1 1481))]) hx hb dL_addBase_17 hl (by decide) rfl (fun ls hl => ?_)
      refine lv_iconst (v := 1) hx hb dL_addBase_19 (by decide) ?_
      exact x_iret hx hb h (Option.some.inj hf) hr hlocks dL_addBase_20
    replace hf := xif_f hf c4
    by_cases c5 : Ex = "java/lang/IllegalStateException"
    · subst c5
      replace hf := xif_t hf rfl
      have hp9 : ∀ z ∈ ([⟨0, 14, 17, 13⟩] : List ExceptionTableEntry), covers z 9 = false ∨ (z.catchType ≠ 0 ∧ ∃ nm : String, (Cond.classLink RL z.catchType nm).before args s = true ∧ va_Nc "java/lang/IllegalStateException" nm s) := by
        intro z hz
        simp only [List.mem_cons, List.not_mem_nil, or_false] at hz
        rcases hz with rfl
        · exact Or.inr ⟨by decide, "java/lang/IllegalArgumentException", hts _ (xWh_sub _ q146), hnc _ (by decide +kernel) _ (by decide +kernel) (by decide)⟩
      refine vx_catch (E := "java/lang/IllegalStateException") (name := "java/lang/IllegalStateException") hown [⟨0, 14, 17, 13⟩] ⟨0, 14, 21, 15⟩ [] htab hp9 (by decide) (by decide) (hts _ (xWh_sub _ q147)) (va_Nw.use rfl (hz.2.2.1 _ (by decide +kernel))) hq9 hc9 hn9 ?_
      refine lv_astore (lv' := [(6, .ref q9), (0, .ref (Γ.2.1 1470)), (1, .int v1), (2, .int v2), (3, .int v3), (4, .int v4), (5, .ref (Γ.2.1 1481))]) hx hb dL_addBase_21 hl (by decide) rfl (fun ls hl => ?_)
      refine lv_iconst (v := 2) hx hb dL_addBase_23 (by decide) ?_
      exact x_iret hx hb h (Option.some.inj hf) hr hlocks dL_addBase_24
    replace hf := xif_f hf c5
    cases hf
  · subst hv9
    replace hf := xthL_l hf
    refine lv_i2l (v := (y3).toInt64) hx hb dL_addBase_12 rfl ?_
    obtain ⟨M6, eM6, hf⟩ := xl_s hf
    refine x_last hx hb h kX_out (xin_in (by decide)) eM6 dL_addBase_13 (fun H locs h => ?_)
    refine lv_goto (tgt := 25) hx hb dL_addBase_14 (by decide) ?_
    refine lv_iconst (v := 0) hx hb dL_addBase_25 (by decide) ?_
    exact x_iret hx hb h (Option.some.inj hf) hr hlocks dL_addBase_26
theorem hdL_setStock : yL_setStock.cls ≠ "java/lang/invoke/MethodHandle" ∧ yL_setStock.cls ≠ "java/lang/invoke/VarHandle" ∧ (parseMethodDescriptor yL_setStock.desc).map (fun d => d.parameters.length) = some 4 := by decide +kernel
set_option maxHeartbeats 4000000 in
set_option maxRecDepth 100000 in
theorem m_L_setStock (l : Launch) {Γ : xG} {N : Nat} {v1 : Int32} {v2 : Int32} {M : xM} {res : xR} (hlt : l.stackTraces = false) (hf : F_L_setStock N v1 v2 M = some res) (sz : Nat) : Met l yL_setStock (xWh yL_setStock cL_setStock 5 (some .int) [(0, 10, 13, 21), (0, 10, 17, 13)]) ({ frames := 8, cells := 2, slots := 12, locals := 208 } : Room) (va_Pc [.ref (Γ.2.1 1470), .int v1, .int v2, .ref (Γ.2.1 1481)] (xPreL Γ (wX Γ) 1483 M sz)) (xCi Γ (wX Γ) 1483 res sz) 2 12 (xAd Γ 1483 sz) := by
  refine x_Lmet (Qc := fun sz => xCi Γ (wX Γ) 1483 res sz) pnL wG_W (Nat.le_of_ble_eq_true rfl) (fun p e s m args below meth c E htab hz hnc h ls hl => ?_) sz
  obtain ⟨⟨hx, hb, hml, hown, hts⟩, hr, hlocks⟩ := id E
  have hl : lv_has ls 5 [(0, .ref (Γ.2.1 1470)), (1, .int v1), (2, .int v2), (3, .ref (Γ.2.1 1481))] := hl
  refine lv_aload_n hx hb dL_setStock_0 rfl (lv_at hl 3 rfl) ?_
  refine lv_iconst (v := 0) hx hb dL_setStock_1 (by decide) ?_
  refine lv_aload_n hx hb dL_setStock_2 rfl (lv_at hl 0 rfl) ?_
  refine lv_iload_n hx hb dL_setStock_3 rfl (lv_at hl 1 rfl) ?_
  refine lv_iload_n hx hb dL_setStock_4 rfl (lv_at hl 2 rfl) ?_
  obtain ⟨r1, er1, hf⟩ := xbd_s hf
  refine x_XVi (As := [.int v1, .int v2]) (rest := [.int 0, .ref (Γ.2.1 1481)]) E.1 (m_X9_setStock l hlt er1) (cwV 2 hts (xgV xWh_sub q398 q399 q400 q2 q401) rfl rfl rfl hdX9_setStock ⟨Nat.le_of_ble_eq_true rfl, Nat.le_of_ble_eq_true rfl⟩) h hz kX_tint rfl rfl hl.1 rfl (Nat.le_of_ble_eq_true rfl) dL_setStock_5 ⟨Nat.le_of_ble_eq_true rfl, Nat.le_of_ble_eq_true rfl⟩ (fun Ex M9 hv9 H locs q9 ce9 h hq9 hc9 hn9 => ?_) (fun y3 M2 hv9 H locs h => ?_)
  · subst hv9
    replace hf := xthL_r hf
    by_cases c4 : Ex = "java/lang/IndexOutOfBoundsException"
    · subst c4
      replace hf := xif_t hf rfl
      refine vx_catch (E := "java/lang/IndexOutOfBoundsException") (name := "java/lang/IndexOutOfBoundsException") hown [] ⟨0, 10, 13, 21⟩ [⟨0, 10, 17, 13⟩] htab (fun z hz => absurd hz List.not_mem_nil) (by decide) (by decide) (hts _ (xWh_sub _ q232)) (va_Nw.use rfl (hz.2.2.1 _ (by decide +kernel))) hq9 hc9 hn9 ?_
      refine lv_astore (lv' := [(4, .ref q9), (0, .ref (Γ.2.1 1470)), (1, .int v1), (2, .int v2), (3, .ref (Γ.2.1 1481))]) hx hb dL_setStock_13 hl (by decide) rfl (fun ls hl => ?_)
      refine lv_iconst (v := 1) hx hb dL_setStock_15 (by decide) ?_
      exact x_iret hx hb h (Option.some.inj hf) hr hlocks dL_setStock_16
    replace hf := xif_f hf c4
    by_cases c5 : Ex = "java/lang/IllegalArgumentException"
    · subst c5
      replace hf := xif_t hf rfl
      have hp9 : ∀ z ∈ ([⟨0, 10, 13, 21⟩] : List ExceptionTableEntry), covers z 5 = false ∨ (z.catchType ≠ 0 ∧ ∃ nm : String, (Cond.classLink RL z.catchType nm).before args s = true ∧ va_Nc "java/lang/IllegalArgumentException" nm s) := by
        intro z hz
        simp only [List.mem_cons, List.not_mem_nil, or_false] at hz
        rcases hz with rfl
        · exact Or.inr ⟨by decide, "java/lang/IndexOutOfBoundsException", hts _ (xWh_sub _ q232), hnc _ (by decide +kernel) _ (by decide +kernel) (by decide)⟩
      refine vx_catch (E := "java/lang/IllegalArgumentException") (name := "java/lang/IllegalArgumentException") hown [⟨0, 10, 13, 21⟩] ⟨0, 10, 17, 13⟩ [] htab hp9 (by decide) (by decide) (hts _ (xWh_sub _ q146)) (va_Nw.use rfl (hz.2.2.1 _ (by decide +kernel))) hq9 hc9 hn9 ?_
      refine lv_astore (lv' := [(4, .ref q9), (0, .ref (Γ.2.1 1470)), (1, .int v1), (2, .int v2), (3, .ref (Γ.2.1 1481))]) hx hb dL_setStock_17 hl (by decide) rfl (fun ls hl => ?_)
      refine lv_iconst (v := 2) hx hb dL_setStock_19 (by decide) ?_
      exact x_iret hx hb h (Option.some.inj hf) hr hlocks dL_setStock_20
    replace hf := xif_f hf c5
    cases hf
  · subst hv9
    replace hf := xthL_l hf
    refine lv_i2l (v := (y3).toInt64) hx hb dL_setStock_8 rfl ?_
    obtain ⟨M6, eM6, hf⟩ := xl_s hf
    refine x_last hx hb h kX_out (xin_in (by decide)) eM6 dL_setStock_9 (fun H locs h => ?_)
    refine lv_goto (tgt := 21) hx hb dL_setStock_10 (by decide) ?_
    refine lv_iconst (v := 0) hx hb dL_setStock_21 (by decide) ?_
    exact x_iret hx hb h (Option.some.inj hf) hr hlocks dL_setStock_22
theorem hdL_base : yL_base.cls ≠ "java/lang/invoke/MethodHandle" ∧ yL_base.cls ≠ "java/lang/invoke/VarHandle" ∧ (parseMethodDescriptor yL_base.desc).map (fun d => d.parameters.length) = some 4 := by decide +kernel
set_option maxHeartbeats 4000000 in
set_option maxRecDepth 100000 in
theorem m_L_base (l : Launch) {Γ : xG} {N : Nat} {v1 : Int32} {v2 : Int32} {M : xM} {res : xR} (hlt : l.stackTraces = false) (hf : F_L_base N v1 v2 M = some res) (sz : Nat) : Met l yL_base (xWh yL_base cL_base 5 (some .int) [(0, 10, 13, 21), (0, 10, 17, 13)]) ({ frames := 8, cells := 2, slots := 12, locals := 164 } : Room) (va_Pc [.ref (Γ.2.1 1470), .int v1, .int v2, .ref (Γ.2.1 1481)] (xPreL Γ (wX Γ) 1483 M sz)) (xCi Γ (wX Γ) 1483 res sz) 2 12 (xAd Γ 1483 sz) := by
  refine x_Lmet (Qc := fun sz => xCi Γ (wX Γ) 1483 res sz) pnL wG_W (Nat.le_of_ble_eq_true rfl) (fun p e s m args below meth c E htab hz hnc h ls hl => ?_) sz
  obtain ⟨⟨hx, hb, hml, hown, hts⟩, hr, hlocks⟩ := id E
  have hl : lv_has ls 5 [(0, .ref (Γ.2.1 1470)), (1, .int v1), (2, .int v2), (3, .ref (Γ.2.1 1481))] := hl
  refine lv_aload_n hx hb dL_base_0 rfl (lv_at hl 3 rfl) ?_
  refine lv_iconst (v := 0) hx hb dL_base_1 (by decide) ?_
  refine lv_aload_n hx hb dL_base_2 rfl (lv_at hl 0 rfl) ?_
  refine lv_iload_n hx hb dL_base_3 rfl (lv_at hl 1 rfl) ?_
  refine lv_iload_n hx hb dL_base_4 rfl (lv_at hl 2 rfl) ?_
  obtain ⟨r1, er1, hf⟩ := xbd_s hf
  refine x_XVi (As := [.int v1, .int v2]) (rest := [.int 0, .ref (Γ.2.1 1481)]) E.1 (m_X9_base l hlt er1) (cwV 2 hts (xgV xWh_sub q419 q420 q421 q2 q422) rfl rfl rfl hdX9_base ⟨Nat.le_of_ble_eq_true rfl, Nat.le_of_ble_eq_true rfl⟩) h hz kX_tint rfl rfl hl.1 rfl (Nat.le_of_ble_eq_true rfl) dL_base_5 ⟨Nat.le_of_ble_eq_true rfl, Nat.le_of_ble_eq_true rfl⟩ (fun Ex M9 hv9 H locs q9 ce9 h hq9 hc9 hn9 => ?_) (fun y3 M2 hv9 H locs h => ?_)
  · subst hv9
    replace hf := xthL_r hf
    by_cases c4 : Ex = "java/lang/IndexOutOfBoundsException"
    · subst c4
      replace hf := xif_t hf rfl
      refine vx_catch (E := "java/lang/IndexOutOfBoundsException") (name := "java/lang/IndexOutOfBoundsException") hown [] ⟨0, 10, 13, 21⟩ [⟨0, 10, 17, 13⟩] htab (fun z hz => absurd hz List.not_mem_nil) (by decide) (by decide) (hts _ (xWh_sub _ q232)) (va_Nw.use rfl (hz.2.2.1 _ (by decide +kernel))) hq9 hc9 hn9 ?_
      refine lv_astore (lv' := [(4, .ref q9), (0, .ref (Γ.2.1 1470)), (1, .int v1), (2, .int v2), (3, .ref (Γ.2.1 1481))]) hx hb dL_base_13 hl (by decide) rfl (fun ls hl => ?_)
      refine lv_iconst (v := 1) hx hb dL_base_15 (by decide) ?_
      exact x_iret hx hb h (Option.some.inj hf) hr hlocks dL_base_16
    replace hf := xif_f hf c4
    by_cases c5 : Ex = "java/lang/IllegalArgumentException"
    · subst c5
      replace hf := xif_t hf rfl
      have hp9 : ∀ z ∈ ([⟨0, 10, 13, 21⟩] : List ExceptionTableEntry), covers z 5 = false ∨ (z.catchType ≠ 0 ∧ ∃ nm : String, (Cond.classLink RL z.catchType nm).before args s = true ∧ va_Nc "java/lang/IllegalArgumentException" nm s) := by
        intro z hz
        simp only [List.mem_cons, List.not_mem_nil, or_false] at hz
        rcases hz with rfl
        · exact Or.inr ⟨by decide, "java/lang/IndexOutOfBoundsException", hts _ (xWh_sub _ q232), hnc _ (by decide +kernel) _ (by decide +kernel) (by decide)⟩
      refine vx_catch (E := "java/lang/IllegalArgumentException") (name := "java/lang/IllegalArgumentException") hown [⟨0, 10, 13, 21⟩] ⟨0, 10, 17, 13⟩ [] htab hp9 (by decide) (by decide) (hts _ (xWh_sub _ q146)) (va_Nw.use rfl (hz.2.2.1 _ (by decide +kernel))) hq9 hc9 hn9 ?_
      refine lv_astore (lv' := [(4, .ref q9), (0, .ref (Γ.2.1 1470)), (1, .int v1), (2, .int v2), (3, .ref (Γ.2.1 1481))]) hx hb dL_base_17 hl (by decide) rfl (fun ls hl => ?_)
      refine lv_iconst (v := 2) hx hb dL_base_19 (by decide) ?_
      exact x_iret hx hb h (Option.some.inj hf) hr hlocks dL_base_20
    replace hf := xif_f hf c5
    cases hf
  · subst hv9
    replace hf := xthL_l hf
    refine lv_i2l (v := (y3).toInt64) hx hb dL_base_8 rfl ?_
    obtain ⟨M6, eM6, hf⟩ := xl_s hf
    refine x_last hx hb h kX_out (xin_in (by decide)) eM6 dL_base_9 (fun H locs h => ?_)
    refine lv_goto (tgt := 21) hx hb dL_base_10 (by decide) ?_
    refine lv_iconst (v := 0) hx hb dL_base_21 (by decide) ?_
    exact x_iret hx hb h (Option.some.inj hf) hr hlocks dL_base_22
theorem hdL_append : yL_append.cls ≠ "java/lang/invoke/MethodHandle" ∧ yL_append.cls ≠ "java/lang/invoke/VarHandle" ∧ (parseMethodDescriptor yL_append.desc).map (fun d => d.parameters.length) = some 2 := by decide +kernel
set_option maxHeartbeats 4000000 in
set_option maxRecDepth 100000 in
theorem m_L_append (l : Launch) {Γ : xG} {N : Nat} {v1 : Int32} {M : xM} {res : xR} (hlt : l.stackTraces = false) (hf : F_L_append N v1 M = some res) (sz : Nat) : Met l yL_append (xWh yL_append cL_append 3 (some .int) [(0, 5, 8, 15)]) ({ frames := 7, cells := 1, slots := 6, locals := 141 } : Room) (va_Pc [.ref (Γ.2.1 1470), .int v1] (xPreL Γ (wX Γ) 1483 M sz)) (xCi Γ (wX Γ) 1483 res sz) 1 6 (xAd Γ 1483 sz) := by
  refine x_Lmet (Qc := fun sz => xCi Γ (wX Γ) 1483 res sz) pnL wG_W (Nat.le_of_ble_eq_true rfl) (fun p e s m args below meth c E htab hz hnc h ls hl => ?_) sz
  obtain ⟨⟨hx, hb, hml, hown, hts⟩, hr, hlocks⟩ := id E
  have hl : lv_has ls 3 [(0, .ref (Γ.2.1 1470)), (1, .int v1)] := hl
  refine lv_aload_n hx hb dL_append_0 rfl (lv_at hl 0 rfl) ?_
  refine lv_iload_n hx hb dL_append_1 rfl (lv_at hl 1 rfl) ?_
  obtain ⟨r1, er1, hf⟩ := xbd_s hf
  refine x_XVv (As := [.int v1]) (rest := []) E.1 (m_X9_append l hlt er1) (cwV 1 hts (xgV xWh_sub q440 q441 q442 q2 q443) rfl rfl rfl hdX9_append ⟨Nat.le_of_ble_eq_true rfl, Nat.le_of_ble_eq_true rfl⟩) h hz kX_tint rfl rfl hl.1 rfl (Nat.le_of_ble_eq_true rfl) dL_append_2 ⟨Nat.le_of_ble_eq_true rfl, Nat.le_of_ble_eq_true rfl⟩ (fun Ex M9 hv9 H locs q9 ce9 h hq9 hc9 hn9 => ?_) (fun M2 hv9 H locs h => ?_)
  · subst hv9
    replace hf := xthL_r hf
    by_cases c4 : Ex = "java/lang/IllegalStateException"
    · subst c4
      replace hf := xif_t hf rfl
      refine vx_catch (E := "java/lang/IllegalStateException") (name := "java/lang/IllegalStateException") hown [] ⟨0, 5, 8, 15⟩ [] htab (fun z hz => absurd hz List.not_mem_nil) (by decide) (by decide) (hts _ (xWh_sub _ q147)) (va_Nw.use rfl (hz.2.2.1 _ (by decide +kernel))) hq9 hc9 hn9 ?_
      refine lv_astore_n (lv' := [(2, .ref q9), (0, .ref (Γ.2.1 1470)), (1, .int v1)]) hx hb dL_append_8 rfl hl (by decide) rfl (fun ls hl => ?_)
      refine lv_iconst (v := 1) hx hb dL_append_9 (by decide) ?_
      exact x_iret hx hb h (Option.some.inj hf) hr hlocks dL_append_10
    replace hf := xif_f hf c4
    cases hf
  · subst hv9
    replace hf := xthL_l hf
    refine lv_goto (tgt := 11) hx hb dL_append_5 (by decide) ?_
    refine lv_iconst (v := 0) hx hb dL_append_11 (by decide) ?_
    exact x_iret hx hb h (Option.some.inj hf) hr hlocks dL_append_12
theorem hdL_readFormula : yL_readFormula.cls ≠ "java/lang/invoke/MethodHandle" ∧ yL_readFormula.cls ≠ "java/lang/invoke/VarHandle" ∧ (parseMethodDescriptor yL_readFormula.desc).map (fun d => d.parameters.length) = some 2 := by decide +kernel
set_option maxHeartbeats 4000000 in
set_option maxRecDepth 100000 in
theorem m_L_readFormula (l : Launch) {Γ : xG} {N : Nat} {M : xM} {res : xR} (hlt : l.stackTraces = false) (hf : F_L_readFormula N M = some res) (sz : Nat) : Met l yL_readFormula (xWh yL_readFormula cL_readFormula 3 (some .int) [(0, 8, 11, 13), (0, 8, 14, 26)]) ({ frames := 8, cells := 1, slots := 6, locals := 204 } : Room) (va_Pc [.ref (Γ.2.1 1470), .ref (Γ.2.1 1481)] (xPreL Γ (wX Γ) 1483 M sz)) (xCi Γ (wX Γ) 1483 res sz) 1 6 (xAd Γ 1483 sz) := by
  refine x_Lmet (Qc := fun sz => xCi Γ (wX Γ) 1483 res sz) pnL wG_W (Nat.le_of_ble_eq_true rfl) (fun p e s m args below meth c E htab hz hnc h ls hl => ?_) sz
  obtain ⟨⟨hx, hb, hml, hown, hts⟩, hr, hlocks⟩ := id E
  have hl : lv_has ls 3 [(0, .ref (Γ.2.1 1470)), (1, .ref (Γ.2.1 1481))] := hl
  refine lv_aload_n hx hb dL_readFormula_0 rfl (lv_at hl 1 rfl) ?_
  refine lv_iconst (v := 0) hx hb dL_readFormula_1 (by decide) ?_
  refine lv_aload_n hx hb dL_readFormula_2 rfl (lv_at hl 0 rfl) ?_
  obtain ⟨r1, er1, hf⟩ := xbd_s hf
  refine x_XVi (As := []) (rest := [.int 0, .ref (Γ.2.1 1481)]) E.1 (m_X9_readFormula l hlt er1) (cwV 0 hts (xgV xWh_sub q457 q458 q459 q2 q460) rfl rfl rfl hdX9_readFormula ⟨Nat.le_of_ble_eq_true rfl, Nat.le_of_ble_eq_true rfl⟩) h hz kX_tint rfl rfl hl.1 rfl (Nat.le_of_ble_eq_true rfl) dL_readFormula_3 ⟨Nat.le_of_ble_eq_true rfl, Nat.le_of_ble_eq_true rfl⟩ (fun Ex M9 hv9 H locs q9 ce9 h hq9 hc9 hn9 => ?_) (fun y3 M2 hv9 H locs h => ?_)
  · subst hv9
    replace hf := xthL_r hf
    by_cases c4 : Ex = "java/lang/IllegalArgumentException"
    · subst c4
      replace hf := xif_t hf rfl
      refine vx_catch (E := "java/lang/IllegalArgumentException") (name := "java/lang/IllegalArgumentException") hown [] ⟨0, 8, 11, 13⟩ [⟨0, 8, 14, 26⟩] htab (fun z hz => absurd hz List.not_mem_nil) (by decide) (by decide) (hts _ (xWh_sub _ q146)) (va_Nw.use rfl (hz.2.2.1 _ (by decide +kernel))) hq9 hc9 hn9 ?_
      refine lv_astore_n (lv' := [(2, .ref q9), (0, .ref (Γ.2.1 1470)), (1, .ref (Γ.2.1 1481))]) hx hb dL_readFormula_11 rfl hl (by decide) rfl (fun ls hl => ?_)
      refine lv_iconst (v := 1) hx hb dL_readFormula_12 (by decide) ?_
      exact x_iret hx hb h (Option.some.inj hf) hr hlocks dL_readFormula_13
    replace hf := xif_f hf c4
    by_cases c5 : Ex = "java/lang/UnsupportedOperationException"
    · subst c5
      replace hf := xif_t hf rfl
      have hp9 : ∀ z ∈ ([⟨0, 8, 11, 13⟩] : List ExceptionTableEntry), covers z 3 = false ∨ (z.catchType ≠ 0 ∧ ∃ nm : String, (Cond.classLink RL z.catchType nm).before args s = true ∧ va_Nc "java/lang/UnsupportedOperationException" nm s) := by
        intro z hz
        simp only [List.mem_cons, List.not_mem_nil, or_false] at hz
        rcases hz with rfl
        · exact Or.inr ⟨by decide, "java/lang/IllegalArgumentException", hts _ (xWh_sub _ q146), hnc _ (by decide +kernel) _ (by decide +kernel) (by decide)⟩
      refine vx_catch (E := "java/lang/UnsupportedOperationException") (name := "java/lang/UnsupportedOperationException") hown [⟨0, 8, 11, 13⟩] ⟨0, 8, 14, 26⟩ [] htab hp9 (by decide) (by decide) (hts _ (xWh_sub _ q260)) (va_Nw.use rfl (hz.2.2.1 _ (by decide +kernel))) hq9 hc9 hn9 ?_
      refine lv_astore_n (lv' := [(2, .ref q9), (0, .ref (Γ.2.1 1470)), (1, .ref (Γ.2.1 1481))]) hx hb dL_readFormula_14 rfl hl (by decide) rfl (fun ls hl => ?_)
      refine lv_iconst (v := 2) hx hb dL_readFormula_15 (by decide) ?_
      exact x_iret hx hb h (Option.some.inj hf) hr hlocks dL_readFormula_16
    replace hf := xif_f hf c5
    cases hf
  · subst hv9
    replace hf := xthL_l hf
    refine lv_i2l (v := (y3).toInt64) hx hb dL_readFormula_6 rfl ?_
    obtain ⟨M6, eM6, hf⟩ := xl_s hf
    refine x_last hx hb h kX_out (xin_in (by decide)) eM6 dL_readFormula_7 (fun H locs h => ?_)
    refine lv_goto (tgt := 17) hx hb dL_readFormula_8 (by decide) ?_
    refine lv_iconst (v := 0) hx hb dL_readFormula_17 (by decide) ?_
    exact x_iret hx hb h (Option.some.inj hf) hr hlocks dL_readFormula_18
theorem hdL_setAmount : yL_setAmount.cls ≠ "java/lang/invoke/MethodHandle" ∧ yL_setAmount.cls ≠ "java/lang/invoke/VarHandle" ∧ (parseMethodDescriptor yL_setAmount.desc).map (fun d => d.parameters.length) = some 5 := by decide +kernel
set_option maxHeartbeats 4000000 in
set_option maxRecDepth 100000 in
theorem m_L_setAmount (l : Launch) {Γ : xG} {N : Nat} {v1 : Int32} {v2 : Int32} {v3 : Int32} {M : xM} {res : xR} (hlt : l.stackTraces = false) (hf : F_L_setAmount N v1 v2 v3 M = some res) (sz : Nat) : Met l yL_setAmount (xWh yL_setAmount cL_setAmount 6 (some .int) [(0, 12, 15, 21), (0, 12, 19, 13)]) ({ frames := 8, cells := 3, slots := 18, locals := 209 } : Room) (va_Pc [.ref (Γ.2.1 1470), .int v1, .int v2, .int v3, .ref (Γ.2.1 1481)] (xPreL Γ (wX Γ) 1483 M sz)) (xCi Γ (wX Γ) 1483 res sz) 3 18 (xAd Γ 1483 sz) := by
  refine x_Lmet (Qc := fun sz => xCi Γ (wX Γ) 1483 res sz) pnL wG_W (Nat.le_of_ble_eq_true rfl) (fun p e s m args below meth c E htab hz hnc h ls hl => ?_) sz
  obtain ⟨⟨hx, hb, hml, hown, hts⟩, hr, hlocks⟩ := id E
  have hl : lv_has ls 6 [(0, .ref (Γ.2.1 1470)), (1, .int v1), (2, .int v2), (3, .int v3), (4, .ref (Γ.2.1 1481))] := hl
  refine lv_aload hx hb dL_setAmount_0 (lv_at hl 4 rfl) ?_
  refine lv_iconst (v := 0) hx hb dL_setAmount_2 (by decide) ?_
  refine lv_aload_n hx hb dL_setAmount_3 rfl (lv_at hl 0 rfl) ?_
  refine lv_iload_n hx hb dL_setAmount_4 rfl (lv_at hl 1 rfl) ?_
  refine lv_iload_n hx hb dL_setAmount_5 rfl (lv_at hl 2 rfl) ?_
  refine lv_iload_n hx hb dL_setAmount_6 rfl (lv_at hl 3 rfl) ?_
  obtain ⟨r1, er1, hf⟩ := xbd_s hf
  refine x_XVi (As := [.int v1, .int v2, .int v3]) (rest := [.int 0, .ref (Γ.2.1 1481)]) E.1 (m_X9_setAmount l hlt er1) (cwV 3 hts (xgV xWh_sub q553 q554 q555 q2 q556) rfl rfl rfl hdX9_setAmount ⟨Nat.le_of_ble_eq_true rfl, Nat.le_of_ble_eq_true rfl⟩) h hz kX_tint rfl rfl hl.1 rfl (Nat.le_of_ble_eq_true rfl) dL_setAmount_7 ⟨Nat.le_of_ble_eq_true rfl, Nat.le_of_ble_eq_true rfl⟩ (fun Ex M9 hv9 H locs q9 ce9 h hq9 hc9 hn9 => ?_) (fun y3 M2 hv9 H locs h => ?_)
  · subst hv9
    replace hf := xthL_r hf
    by_cases c4 : Ex = "java/lang/IndexOutOfBoundsException"
    · subst c4
      replace hf := xif_t hf rfl
      refine vx_catch (E := "java/lang/IndexOutOfBoundsException") (name := "java/lang/IndexOutOfBoundsException") hown [] ⟨0, 12, 15, 21⟩ [⟨0, 12, 19, 13⟩] htab (fun z hz => absurd hz List.not_mem_nil) (by decide) (by decide) (hts _ (xWh_sub _ q232)) (va_Nw.use rfl (hz.2.2.1 _ (by decide +kernel))) hq9 hc9 hn9 ?_
      refine lv_astore (lv' := [(5, .ref q9), (0, .ref (Γ.2.1 1470)), (1, .int v1), (2, .int v2), (3, .int v3), (4, .ref (Γ.2.1 1481))]) hx hb dL_setAmount_15 hl (by decide) rfl (fun ls hl => ?_)
      refine lv_iconst (v := 1) hx hb dL_setAmount_17 (by decide) ?_
      exact x_iret hx hb h (Option.some.inj hf) hr hlocks dL_setAmount_18
    replace hf := xif_f hf c4
    by_cases c5 : Ex = "java/lang/IllegalArgumentException"
    · subst c5
      replace hf := xif_t hf rfl
      have hp9 : ∀ z ∈ ([⟨0, 12, 15, 21⟩] : List ExceptionTableEntry), covers z 7 = false ∨ (z.catchType ≠ 0 ∧ ∃ nm : String, (Cond.classLink RL z.catchType nm).before args s = true ∧ va_Nc "java/lang/IllegalArgumentException" nm s) := by
        intro z hz
        simp only [List.mem_cons, List.not_mem_nil, or_false] at hz
        rcases hz with rfl
        · exact Or.inr ⟨by decide, "java/lang/IndexOutOfBoundsException", hts _ (xWh_sub _ q232), hnc _ (by decide +kernel) _ (by decide +kernel) (by decide)⟩
      refine vx_catch (E := "java/lang/IllegalArgumentException") (name := "java/lang/IllegalArgumentException") hown [⟨0, 12, 15, 21⟩] ⟨0, 12, 19, 13⟩ [] htab hp9 (by decide) (by decide) (hts _ (xWh_sub _ q146)) (va_Nw.use rfl (hz.2.2.1 _ (by decide +kernel))) hq9 hc9 hn9 ?_
      refine lv_astore (lv' := [(5, .ref q9), (0, .ref (Γ.2.1 1470)), (1, .int v1), (2, .int v2), (3, .int v3), (4, .ref (Γ.2.1 1481))]) hx hb dL_setAmount_19 hl (by decide) rfl (fun ls hl => ?_)
      refine lv_iconst (v := 2) hx hb dL_setAmount_21 (by decide) ?_
      exact x_iret hx hb h (Option.some.inj hf) hr hlocks dL_setAmount_22
    replace hf := xif_f hf c5
    cases hf
  · subst hv9
    replace hf := xthL_l hf
    refine lv_i2l (v := (y3).toInt64) hx hb dL_setAmount_10 rfl ?_
    obtain ⟨M6, eM6, hf⟩ := xl_s hf
    refine x_last hx hb h kX_out (xin_in (by decide)) eM6 dL_setAmount_11 (fun H locs h => ?_)
    refine lv_goto (tgt := 23) hx hb dL_setAmount_12 (by decide) ?_
    refine lv_iconst (v := 0) hx hb dL_setAmount_23 (by decide) ?_
    exact x_iret hx hb h (Option.some.inj hf) hr hlocks dL_setAmount_24
theorem hdL_amount : yL_amount.cls ≠ "java/lang/invoke/MethodHandle" ∧ yL_amount.cls ≠ "java/lang/invoke/VarHandle" ∧ (parseMethodDescriptor yL_amount.desc).map (fun d => d.parameters.length) = some 5 := by decide +kernel
set_option maxHeartbeats 4000000 in
set_option maxRecDepth 100000 in
theorem m_L_amount (l : Launch) {Γ : xG} {N : Nat} {v1 : Int32} {v2 : Int32} {v3 : Int32} {M : xM} {res : xR} (hlt : l.stackTraces = false) (hf : F_L_amount N v1 v2 v3 M = some res) (sz : Nat) : Met l yL_amount (xWh yL_amount cL_amount 6 (some .int) [(0, 12, 15, 21)]) ({ frames := 8, cells := 2, slots := 12, locals := 165 } : Room) (va_Pc [.ref (Γ.2.1 1470), .int v1, .int v2, .int v3, .ref (Γ.2.1 1481)] (xPreL Γ (wX Γ) 1483 M sz)) (xCi Γ (wX Γ) 1483 res sz) 2 12 (xAd Γ 1483 sz) := by
  refine x_Lmet (Qc := fun sz => xCi Γ (wX Γ) 1483 res sz) pnL wG_W (Nat.le_of_ble_eq_true rfl) (fun p e s m args below meth c E htab hz hnc h ls hl => ?_) sz
  obtain ⟨⟨hx, hb, hml, hown, hts⟩, hr, hlocks⟩ := id E
  have hl : lv_has ls 6 [(0, .ref (Γ.2.1 1470)), (1, .int v1), (2, .int v2), (3, .int v3), (4, .ref (Γ.2.1 1481))] := hl
  refine lv_aload hx hb dL_amount_0 (lv_at hl 4 rfl) ?_
  refine lv_iconst (v := 0) hx hb dL_amount_2 (by decide) ?_
  refine lv_aload_n hx hb dL_amount_3 rfl (lv_at hl 0 rfl) ?_
  refine lv_iload_n hx hb dL_amount_4 rfl (lv_at hl 1 rfl) ?_
  refine lv_iload_n hx hb dL_amount_5 rfl (lv_at hl 2 rfl) ?_
  refine lv_iload_n hx hb dL_amount_6 rfl (lv_at hl 3 rfl) ?_
  obtain ⟨r1, er1, hf⟩ := xbd_s hf
  refine x_XVi (As := [.int v1, .int v2, .int v3]) (rest := [.int 0, .ref (Γ.2.1 1481)]) E.1 (m_X9_amount l hlt er1) (cwV 3 hts (xgV xWh_sub q576 q577 q578 q2 q579) rfl rfl rfl hdX9_amount ⟨Nat.le_of_ble_eq_true rfl, Nat.le_of_ble_eq_true rfl⟩) h hz kX_tint rfl rfl hl.1 rfl (Nat.le_of_ble_eq_true rfl) dL_amount_7 ⟨Nat.le_of_ble_eq_true rfl, Nat.le_of_ble_eq_true rfl⟩ (fun Ex M9 hv9 H locs q9 ce9 h hq9 hc9 hn9 => ?_) (fun y3 M2 hv9 H locs h => ?_)
  · subst hv9
    replace hf := xthL_r hf
    by_cases c4 : Ex = "java/lang/IndexOutOfBoundsException"
    · subst c4
      replace hf := xif_t hf rfl
      refine vx_catch (E := "java/lang/IndexOutOfBoundsException") (name := "java/lang/IndexOutOfBoundsException") hown [] ⟨0, 12, 15, 21⟩ [] htab (fun z hz => absurd hz List.not_mem_nil) (by decide) (by decide) (hts _ (xWh_sub _ q232)) (va_Nw.use rfl (hz.2.2.1 _ (by decide +kernel))) hq9 hc9 hn9 ?_
      refine lv_astore (lv' := [(5, .ref q9), (0, .ref (Γ.2.1 1470)), (1, .int v1), (2, .int v2), (3, .int v3), (4, .ref (Γ.2.1 1481))]) hx hb dL_amount_15 hl (by decide) rfl (fun ls hl => ?_)
      refine lv_iconst (v := 1) hx hb dL_amount_17 (by decide) ?_
      exact x_iret hx hb h (Option.some.inj hf) hr hlocks dL_amount_18
    replace hf := xif_f hf c4
    cases hf
  · subst hv9
    replace hf := xthL_l hf
    refine lv_i2l (v := (y3).toInt64) hx hb dL_amount_10 rfl ?_
    obtain ⟨M5, eM5, hf⟩ := xl_s hf
    refine x_last hx hb h kX_out (xin_in (by decide)) eM5 dL_amount_11 (fun H locs h => ?_)
    refine lv_goto (tgt := 19) hx hb dL_amount_12 (by decide) ?_
    refine lv_iconst (v := 0) hx hb dL_amount_19 (by decide) ?_
    exact x_iret hx hb h (Option.some.inj hf) hr hlocks dL_amount_20
theorem hdL_baseOf : yL_baseOf.cls ≠ "java/lang/invoke/MethodHandle" ∧ yL_baseOf.cls ≠ "java/lang/invoke/VarHandle" ∧ (parseMethodDescriptor yL_baseOf.desc).map (fun d => d.parameters.length) = some 3 := by decide +kernel
set_option maxHeartbeats 4000000 in
set_option maxRecDepth 100000 in
theorem m_L_baseOf (l : Launch) {Γ : xG} {N : Nat} {v1 : Int32} {M : xM} {res : xR} (hlt : l.stackTraces = false) (hf : F_L_baseOf N v1 M = some res) (sz : Nat) : Met l yL_baseOf (xWh yL_baseOf cL_baseOf 4 (some .int) [(0, 9, 12, 21)]) ({ frames := 8, cells := 1, slots := 6, locals := 162 } : Room) (va_Pc [.ref (Γ.2.1 1470), .int v1, .ref (Γ.2.1 1481)] (xPreL Γ (wX Γ) 1483 M sz)) (xCi Γ (wX Γ) 1483 res sz) 1 6 (xAd Γ 1483 sz) := by
  refine x_Lmet (Qc := fun sz => xCi Γ (wX Γ) 1483 res sz) pnL wG_W (Nat.le_of_ble_eq_true rfl) (fun p e s m args below meth c E htab hz hnc h ls hl => ?_) sz
  obtain ⟨⟨hx, hb, hml, hown, hts⟩, hr, hlocks⟩ := id E
  have hl : lv_has ls 4 [(0, .ref (Γ.2.1 1470)), (1, .int v1), (2, .ref (Γ.2.1 1481))] := hl
  refine lv_aload_n hx hb dL_baseOf_0 rfl (lv_at hl 2 rfl) ?_
  refine lv_iconst (v := 0) hx hb dL_baseOf_1 (by decide) ?_
  refine lv_aload_n hx hb dL_baseOf_2 rfl (lv_at hl 0 rfl) ?_
  refine lv_iload_n hx hb dL_baseOf_3 rfl (lv_at hl 1 rfl) ?_
  obtain ⟨r1, er1, hf⟩ := xbd_s hf
  refine x_XVi (As := [.int v1]) (rest := [.int 0, .ref (Γ.2.1 1481)]) E.1 (m_X9_baseOf l hlt er1) (cwV 1 hts (xgV xWh_sub q587 q588 q589 q2 q590) rfl rfl rfl hdX9_baseOf ⟨Nat.le_of_ble_eq_true rfl, Nat.le_of_ble_eq_true rfl⟩) h hz kX_tint rfl rfl hl.1 rfl (Nat.le_of_ble_eq_true rfl) dL_baseOf_4 ⟨Nat.le_of_ble_eq_true rfl, Nat.le_of_ble_eq_true rfl⟩ (fun Ex M9 hv9 H locs q9 ce9 h hq9 hc9 hn9 => ?_) (fun y3 M2 hv9 H locs h => ?_)
  · subst hv9
    replace hf := xthL_r hf
    by_cases c4 : Ex = "java/lang/IndexOutOfBoundsException"
    · subst c4
      replace hf := xif_t hf rfl
      refine vx_catch (E := "java/lang/IndexOutOfBoundsException") (name := "java/lang/IndexOutOfBoundsException") hown [] ⟨0, 9, 12, 21⟩ [] htab (fun z hz => absurd hz List.not_mem_nil) (by decide) (by decide) (hts _ (xWh_sub _ q232)) (va_Nw.use rfl (hz.2.2.1 _ (by decide +kernel))) hq9 hc9 hn9 ?_
      refine lv_astore_n (lv' := [(3, .ref q9), (0, .ref (Γ.2.1 1470)), (1, .int v1), (2, .ref (Γ.2.1 1481))]) hx hb dL_baseOf_12 rfl hl (by decide) rfl (fun ls hl => ?_)
      refine lv_iconst (v := 1) hx hb dL_baseOf_13 (by decide) ?_
      exact x_iret hx hb h (Option.some.inj hf) hr hlocks dL_baseOf_14
    replace hf := xif_f hf c4
    cases hf
  · subst hv9
    replace hf := xthL_l hf
    refine lv_i2l (v := (y3).toInt64) hx hb dL_baseOf_7 rfl ?_
    obtain ⟨M5, eM5, hf⟩ := xl_s hf
    refine x_last hx hb h kX_out (xin_in (by decide)) eM5 dL_baseOf_8 (fun H locs h => ?_)
    refine lv_goto (tgt := 15) hx hb dL_baseOf_9 (by decide) ?_
    refine lv_iconst (v := 0) hx hb dL_baseOf_15 (by decide) ?_
    exact x_iret hx hb h (Option.some.inj hf) hr hlocks dL_baseOf_16
theorem hdL_closest : yL_closest.cls ≠ "java/lang/invoke/MethodHandle" ∧ yL_closest.cls ≠ "java/lang/invoke/VarHandle" ∧ (parseMethodDescriptor yL_closest.desc).map (fun d => d.parameters.length) = some 3 := by decide +kernel
set_option maxHeartbeats 4000000 in
set_option maxRecDepth 100000 in
theorem m_L_closest (l : Launch) {Γ : xG} {N : Nat} {v1 : Int32} {M : xM} {res : xR} (hlt : l.stackTraces = false) (hf : F_L_closest N v1 M = some res) (sz : Nat) : Met l yL_closest (xWh yL_closest cL_closest 4 (some .int) [(0, 9, 12, 21)]) ({ frames := 8, cells := 1, slots := 6, locals := 162 } : Room) (va_Pc [.ref (Γ.2.1 1470), .int v1, .ref (Γ.2.1 1481)] (xPreL Γ (wX Γ) 1483 M sz)) (xCi Γ (wX Γ) 1483 res sz) 1 6 (xAd Γ 1483 sz) := by
  refine x_Lmet (Qc := fun sz => xCi Γ (wX Γ) 1483 res sz) pnL wG_W (Nat.le_of_ble_eq_true rfl) (fun p e s m args below meth c E htab hz hnc h ls hl => ?_) sz
  obtain ⟨⟨hx, hb, hml, hown, hts⟩, hr, hlocks⟩ := id E
  have hl : lv_has ls 4 [(0, .ref (Γ.2.1 1470)), (1, .int v1), (2, .ref (Γ.2.1 1481))] := hl
  refine lv_aload_n hx hb dL_closest_0 rfl (lv_at hl 2 rfl) ?_
  refine lv_iconst (v := 0) hx hb dL_closest_1 (by decide) ?_
  refine lv_aload_n hx hb dL_closest_2 rfl (lv_at hl 0 rfl) ?_
  refine lv_iload_n hx hb dL_closest_3 rfl (lv_at hl 1 rfl) ?_
  obtain ⟨r1, er1, hf⟩ := xbd_s hf
  refine x_XVi (As := [.int v1]) (rest := [.int 0, .ref (Γ.2.1 1481)]) E.1 (m_X9_closest l hlt er1) (cwV 1 hts (xgV xWh_sub q599 q600 q601 q2 q602) rfl rfl rfl hdX9_closest ⟨Nat.le_of_ble_eq_true rfl, Nat.le_of_ble_eq_true rfl⟩) h hz kX_tint rfl rfl hl.1 rfl (Nat.le_of_ble_eq_true rfl) dL_closest_4 ⟨Nat.le_of_ble_eq_true rfl, Nat.le_of_ble_eq_true rfl⟩ (fun Ex M9 hv9 H locs q9 ce9 h hq9 hc9 hn9 => ?_) (fun y3 M2 hv9 H locs h => ?_)
  · subst hv9
    replace hf := xthL_r hf
    by_cases c4 : Ex = "java/lang/IndexOutOfBoundsException"
    · subst c4
      replace hf := xif_t hf rfl
      refine vx_catch (E := "java/lang/IndexOutOfBoundsException") (name := "java/lang/IndexOutOfBoundsException") hown [] ⟨0, 9, 12, 21⟩ [] htab (fun z hz => absurd hz List.not_mem_nil) (by decide) (by decide) (hts _ (xWh_sub _ q232)) (va_Nw.use rfl (hz.2.2.1 _ (by decide +kernel))) hq9 hc9 hn9 ?_
      refine lv_astore_n (lv' := [(3, .ref q9), (0, .ref (Γ.2.1 1470)), (1, .int v1), (2, .ref (Γ.2.1 1481))]) hx hb dL_closest_12 rfl hl (by decide) rfl (fun ls hl => ?_)
      refine lv_iconst (v := 1) hx hb dL_closest_13 (by decide) ?_
      exact x_iret hx hb h (Option.some.inj hf) hr hlocks dL_closest_14
    replace hf := xif_f hf c4
    cases hf
  · subst hv9
    replace hf := xthL_l hf
    refine lv_i2l (v := (y3).toInt64) hx hb dL_closest_7 rfl ?_
    obtain ⟨M5, eM5, hf⟩ := xl_s hf
    refine x_last hx hb h kX_out (xin_in (by decide)) eM5 dL_closest_8 (fun H locs h => ?_)
    refine lv_goto (tgt := 15) hx hb dL_closest_9 (by decide) ?_
    refine lv_iconst (v := 0) hx hb dL_closest_15 (by decide) ?_
    exact x_iret hx hb h (Option.some.inj hf) hr hlocks dL_closest_16
theorem hdL_mix : yL_mix.cls ≠ "java/lang/invoke/MethodHandle" ∧ yL_mix.cls ≠ "java/lang/invoke/VarHandle" ∧ (parseMethodDescriptor yL_mix.desc).map (fun d => d.parameters.length) = some 3 := by decide +kernel
set_option maxHeartbeats 4000000 in
set_option maxRecDepth 100000 in
theorem m_L_mix (l : Launch) {Γ : xG} {N : Nat} {v1 : Int32} {M : xM} {res : xR} (hlt : l.stackTraces = false) (hf : F_L_mix N v1 M = some res) (sz : Nat) : Met l yL_mix (xWh yL_mix cL_mix 4 (some .int) [(0, 9, 12, 21), (0, 9, 15, 26)]) ({ frames := 8, cells := 2, slots := 12, locals := 206 } : Room) (va_Pc [.ref (Γ.2.1 1470), .int v1, .ref (Γ.2.1 1481)] (xPreL Γ (wX Γ) 1483 M sz)) (xCi Γ (wX Γ) 1483 res sz) 2 12 (xAd Γ 1483 sz) := by
  refine x_Lmet (Qc := fun sz => xCi Γ (wX Γ) 1483 res sz) pnL wG_W (Nat.le_of_ble_eq_true rfl) (fun p e s m args below meth c E htab hz hnc h ls hl => ?_) sz
  obtain ⟨⟨hx, hb, hml, hown, hts⟩, hr, hlocks⟩ := id E
  have hl : lv_has ls 4 [(0, .ref (Γ.2.1 1470)), (1, .int v1), (2, .ref (Γ.2.1 1481))] := hl
  refine lv_aload_n hx hb dL_mix_0 rfl (lv_at hl 2 rfl) ?_
  refine lv_iconst (v := 0) hx hb dL_mix_1 (by decide) ?_
  refine lv_aload_n hx hb dL_mix_2 rfl (lv_at hl 0 rfl) ?_
  refine lv_iload_n hx hb dL_mix_3 rfl (lv_at hl 1 rfl) ?_
  obtain ⟨r1, er1, hf⟩ := xbd_s hf
  refine x_XVi (As := [.int v1]) (rest := [.int 0, .ref (Γ.2.1 1481)]) E.1 (m_X9_mix l hlt er1) (cwV 1 hts (xgV xWh_sub q637 q638 q639 q2 q640) rfl rfl rfl hdX9_mix ⟨Nat.le_of_ble_eq_true rfl, Nat.le_of_ble_eq_true rfl⟩) h hz kX_tint rfl rfl hl.1 rfl (Nat.le_of_ble_eq_true rfl) dL_mix_4 ⟨Nat.le_of_ble_eq_true rfl, Nat.le_of_ble_eq_true rfl⟩ (fun Ex M9 hv9 H locs q9 ce9 h hq9 hc9 hn9 => ?_) (fun y3 M2 hv9 H locs h => ?_)
  · subst hv9
    replace hf := xthL_r hf
    by_cases c4 : Ex = "java/lang/IndexOutOfBoundsException"
    · subst c4
      replace hf := xif_t hf rfl
      refine vx_catch (E := "java/lang/IndexOutOfBoundsException") (name := "java/lang/IndexOutOfBoundsException") hown [] ⟨0, 9, 12, 21⟩ [⟨0, 9, 15, 26⟩] htab (fun z hz => absurd hz List.not_mem_nil) (by decide) (by decide) (hts _ (xWh_sub _ q232)) (va_Nw.use rfl (hz.2.2.1 _ (by decide +kernel))) hq9 hc9 hn9 ?_
      refine lv_astore_n (lv' := [(3, .ref q9), (0, .ref (Γ.2.1 1470)), (1, .int v1), (2, .ref (Γ.2.1 1481))]) hx hb dL_mix_12 rfl hl (by decide) rfl (fun ls hl => ?_)
      refine lv_iconst (v := 1) hx hb dL_mix_13 (by decide) ?_
      exact x_iret hx hb h (Option.some.inj hf) hr hlocks dL_mix_14
    replace hf := xif_f hf c4
    by_cases c5 : Ex = "java/lang/UnsupportedOperationException"
    · subst c5
      replace hf := xif_t hf rfl
      have hp9 : ∀ z ∈ ([⟨0, 9, 12, 21⟩] : List ExceptionTableEntry), covers z 4 = false ∨ (z.catchType ≠ 0 ∧ ∃ nm : String, (Cond.classLink RL z.catchType nm).before args s = true ∧ va_Nc "java/lang/UnsupportedOperationException" nm s) := by
        intro z hz
        simp only [List.mem_cons, List.not_mem_nil, or_false] at hz
        rcases hz with rfl
        · exact Or.inr ⟨by decide, "java/lang/IndexOutOfBoundsException", hts _ (xWh_sub _ q232), hnc _ (by decide +kernel) _ (by decide +kernel) (by decide)⟩
      refine vx_catch (E := "java/lang/UnsupportedOperationException") (name := "java/lang/UnsupportedOperationException") hown [⟨0, 9, 12, 21⟩] ⟨0, 9, 15, 26⟩ [] htab hp9 (by decide) (by decide) (hts _ (xWh_sub _ q260)) (va_Nw.use rfl (hz.2.2.1 _ (by decide +kernel))) hq9 hc9 hn9 ?_
      refine lv_astore_n (lv' := [(3, .ref q9), (0, .ref (Γ.2.1 1470)), (1, .int v1), (2, .ref (Γ.2.1 1481))]) hx hb dL_mix_15 rfl hl (by decide) rfl (fun ls hl => ?_)
      refine lv_iconst (v := 2) hx hb dL_mix_16 (by decide) ?_
      exact x_iret hx hb h (Option.some.inj hf) hr hlocks dL_mix_17
    replace hf := xif_f hf c5
    cases hf
  · subst hv9
    replace hf := xthL_l hf
    refine lv_i2l (v := (y3).toInt64) hx hb dL_mix_7 rfl ?_
    obtain ⟨M6, eM6, hf⟩ := xl_s hf
    refine x_last hx hb h kX_out (xin_in (by decide)) eM6 dL_mix_8 (fun H locs h => ?_)
    refine lv_goto (tgt := 18) hx hb dL_mix_9 (by decide) ?_
    refine lv_iconst (v := 0) hx hb dL_mix_18 (by decide) ?_
    exact x_iret hx hb h (Option.some.inj hf) hr hlocks dL_mix_19
theorem hdL_possible : yL_possible.cls ≠ "java/lang/invoke/MethodHandle" ∧ yL_possible.cls ≠ "java/lang/invoke/VarHandle" ∧ (parseMethodDescriptor yL_possible.desc).map (fun d => d.parameters.length) = some 3 := by decide +kernel
set_option maxHeartbeats 4000000 in
set_option maxRecDepth 100000 in
theorem m_L_possible (l : Launch) {Γ : xG} {N : Nat} {v1 : Int32} {M : xM} {res : xR} (hlt : l.stackTraces = false) (hf : F_L_possible N v1 M = some res) (sz : Nat) : Met l yL_possible (xWh yL_possible cL_possible 4 (some .int) [(0, 9, 12, 21)]) ({ frames := 8, cells := 1, slots := 6, locals := 162 } : Room) (va_Pc [.ref (Γ.2.1 1470), .int v1, .ref (Γ.2.1 1481)] (xPreL Γ (wX Γ) 1483 M sz)) (xCi Γ (wX Γ) 1483 res sz) 1 6 (xAd Γ 1483 sz) := by
  refine x_Lmet (Qc := fun sz => xCi Γ (wX Γ) 1483 res sz) pnL wG_W (Nat.le_of_ble_eq_true rfl) (fun p e s m args below meth c E htab hz hnc h ls hl => ?_) sz
  obtain ⟨⟨hx, hb, hml, hown, hts⟩, hr, hlocks⟩ := id E
  have hl : lv_has ls 4 [(0, .ref (Γ.2.1 1470)), (1, .int v1), (2, .ref (Γ.2.1 1481))] := hl
  refine lv_aload_n hx hb dL_possible_0 rfl (lv_at hl 2 rfl) ?_
  refine lv_iconst (v := 0) hx hb dL_possible_1 (by decide) ?_
  refine lv_aload_n hx hb dL_possible_2 rfl (lv_at hl 0 rfl) ?_
  refine lv_iload_n hx hb dL_possible_3 rfl (lv_at hl 1 rfl) ?_
  obtain ⟨r1, er1, hf⟩ := xbd_s hf
  refine x_XVi (As := [.int v1]) (rest := [.int 0, .ref (Γ.2.1 1481)]) E.1 (m_X9_possible l hlt er1) (cwV 1 hts (xgV xWh_sub q702 q703 q704 q2 q705) rfl rfl rfl hdX9_possible ⟨Nat.le_of_ble_eq_true rfl, Nat.le_of_ble_eq_true rfl⟩) h hz kX_tint rfl rfl hl.1 rfl (Nat.le_of_ble_eq_true rfl) dL_possible_4 ⟨Nat.le_of_ble_eq_true rfl, Nat.le_of_ble_eq_true rfl⟩ (fun Ex M9 hv9 H locs q9 ce9 h hq9 hc9 hn9 => ?_) (fun y3 M2 hv9 H locs h => ?_)
  · subst hv9
    replace hf := xthL_r hf
    by_cases c4 : Ex = "java/lang/IndexOutOfBoundsException"
    · subst c4
      replace hf := xif_t hf rfl
      refine vx_catch (E := "java/lang/IndexOutOfBoundsException") (name := "java/lang/IndexOutOfBoundsException") hown [] ⟨0, 9, 12, 21⟩ [] htab (fun z hz => absurd hz List.not_mem_nil) (by decide) (by decide) (hts _ (xWh_sub _ q232)) (va_Nw.use rfl (hz.2.2.1 _ (by decide +kernel))) hq9 hc9 hn9 ?_
      refine lv_astore_n (lv' := [(3, .ref q9), (0, .ref (Γ.2.1 1470)), (1, .int v1), (2, .ref (Γ.2.1 1481))]) hx hb dL_possible_12 rfl hl (by decide) rfl (fun ls hl => ?_)
      refine lv_iconst (v := 1) hx hb dL_possible_13 (by decide) ?_
      exact x_iret hx hb h (Option.some.inj hf) hr hlocks dL_possible_14
    replace hf := xif_f hf c4
    cases hf
  · subst hv9
    replace hf := xthL_l hf
    refine lv_i2l (v := (y3).toInt64) hx hb dL_possible_7 rfl ?_
    obtain ⟨M5, eM5, hf⟩ := xl_s hf
    refine x_last hx hb h kX_out (xin_in (by decide)) eM5 dL_possible_8 (fun H locs h => ?_)
    refine lv_goto (tgt := 15) hx hb dL_possible_9 (by decide) ?_
    refine lv_iconst (v := 0) hx hb dL_possible_15 (by decide) ?_
    exact x_iret hx hb h (Option.some.inj hf) hr hlocks dL_possible_16
theorem hdL_refusal : yL_refusal.cls ≠ "java/lang/invoke/MethodHandle" ∧ yL_refusal.cls ≠ "java/lang/invoke/VarHandle" ∧ (parseMethodDescriptor yL_refusal.desc).map (fun d => d.parameters.length) = some 2 := by decide +kernel
set_option maxHeartbeats 4000000 in
set_option maxRecDepth 100000 in
theorem m_L_refusal (l : Launch) {Γ : xG} {N : Nat} {M : xM} {res : xR} (hlt : l.stackTraces = false) (hf : F_L_refusal N M = some res) (sz : Nat) : Met l yL_refusal (xWh yL_refusal cL_refusal 3 (some .int) [(0, 8, 11, 37)]) ({ frames := 7, cells := 1, slots := 6, locals := 140 } : Room) (va_Pc [.ref (Γ.2.1 1470), .ref (Γ.2.1 1481)] (xPreL Γ (wX Γ) 1483 M sz)) (xCi Γ (wX Γ) 1483 res sz) 1 6 (xAd Γ 1483 sz) := by
  refine x_Lmet (Qc := fun sz => xCi Γ (wX Γ) 1483 res sz) pnL wG_W (Nat.le_of_ble_eq_true rfl) (fun p e s m args below meth c E htab hz hnc h ls hl => ?_) sz
  obtain ⟨⟨hx, hb, hml, hown, hts⟩, hr, hlocks⟩ := id E
  have hl : lv_has ls 3 [(0, .ref (Γ.2.1 1470)), (1, .ref (Γ.2.1 1481))] := hl
  refine lv_aload_n hx hb dL_refusal_0 rfl (lv_at hl 1 rfl) ?_
  refine lv_iconst (v := 0) hx hb dL_refusal_1 (by decide) ?_
  refine lv_aload_n hx hb dL_refusal_2 rfl (lv_at hl 0 rfl) ?_
  obtain ⟨r1, er1, hf⟩ := xbd_s hf
  refine x_XVi (As := []) (rest := [.int 0, .ref (Γ.2.1 1481)]) E.1 (m_X9_refusal l hlt er1) (cwV 0 hts (xgV xWh_sub q718 q719 q720 q2 q721) rfl rfl rfl hdX9_refusal ⟨Nat.le_of_ble_eq_true rfl, Nat.le_of_ble_eq_true rfl⟩) h hz kX_tint rfl rfl hl.1 rfl (Nat.le_of_ble_eq_true rfl) dL_refusal_3 ⟨Nat.le_of_ble_eq_true rfl, Nat.le_of_ble_eq_true rfl⟩ (fun Ex M9 hv9 H locs q9 ce9 h hq9 hc9 hn9 => ?_) (fun y3 M2 hv9 H locs h => ?_)
  · subst hv9
    replace hf := xthL_r hf
    by_cases c4 : Ex = "java/util/NoSuchElementException"
    · subst c4
      replace hf := xif_t hf rfl
      refine vx_catch (E := "java/util/NoSuchElementException") (name := "java/util/NoSuchElementException") hown [] ⟨0, 8, 11, 37⟩ [] htab (fun z hz => absurd hz List.not_mem_nil) (by decide) (by decide) (hts _ (xWh_sub _ q339)) (va_Nw.use rfl (hz.2.2.1 _ (by decide +kernel))) hq9 hc9 hn9 ?_
      refine lv_astore_n (lv' := [(2, .ref q9), (0, .ref (Γ.2.1 1470)), (1, .ref (Γ.2.1 1481))]) hx hb dL_refusal_11 rfl hl (by decide) rfl (fun ls hl => ?_)
      refine lv_iconst (v := 1) hx hb dL_refusal_12 (by decide) ?_
      exact x_iret hx hb h (Option.some.inj hf) hr hlocks dL_refusal_13
    replace hf := xif_f hf c4
    cases hf
  · subst hv9
    replace hf := xthL_l hf
    refine lv_i2l (v := (y3).toInt64) hx hb dL_refusal_6 rfl ?_
    obtain ⟨M5, eM5, hf⟩ := xl_s hf
    refine x_last hx hb h kX_out (xin_in (by decide)) eM5 dL_refusal_7 (fun H locs h => ?_)
    refine lv_goto (tgt := 14) hx hb dL_refusal_8 (by decide) ?_
    refine lv_iconst (v := 0) hx hb dL_refusal_14 (by decide) ?_
    exact x_iret hx hb h (Option.some.inj hf) hr hlocks dL_refusal_15
theorem hdL_lacking : yL_lacking.cls ≠ "java/lang/invoke/MethodHandle" ∧ yL_lacking.cls ≠ "java/lang/invoke/VarHandle" ∧ (parseMethodDescriptor yL_lacking.desc).map (fun d => d.parameters.length) = some 2 := by decide +kernel
set_option maxHeartbeats 4000000 in
set_option maxRecDepth 100000 in
theorem m_L_lacking (l : Launch) {Γ : xG} {N : Nat} {M : xM} {res : xR} (hlt : l.stackTraces = false) (hf : F_L_lacking N M = some res) (sz : Nat) : Met l yL_lacking (xWh yL_lacking cL_lacking 3 (some .int) [(0, 8, 11, 37)]) ({ frames := 7, cells := 1, slots := 6, locals := 140 } : Room) (va_Pc [.ref (Γ.2.1 1470), .ref (Γ.2.1 1481)] (xPreL Γ (wX Γ) 1483 M sz)) (xCi Γ (wX Γ) 1483 res sz) 1 6 (xAd Γ 1483 sz) := by
  refine x_Lmet (Qc := fun sz => xCi Γ (wX Γ) 1483 res sz) pnL wG_W (Nat.le_of_ble_eq_true rfl) (fun p e s m args below meth c E htab hz hnc h ls hl => ?_) sz
  obtain ⟨⟨hx, hb, hml, hown, hts⟩, hr, hlocks⟩ := id E
  have hl : lv_has ls 3 [(0, .ref (Γ.2.1 1470)), (1, .ref (Γ.2.1 1481))] := hl
  refine lv_aload_n hx hb dL_lacking_0 rfl (lv_at hl 1 rfl) ?_
  refine lv_iconst (v := 0) hx hb dL_lacking_1 (by decide) ?_
  refine lv_aload_n hx hb dL_lacking_2 rfl (lv_at hl 0 rfl) ?_
  obtain ⟨r1, er1, hf⟩ := xbd_s hf
  refine x_XVi (As := []) (rest := [.int 0, .ref (Γ.2.1 1481)]) E.1 (m_X9_lacking l hlt er1) (cwV 0 hts (xgV xWh_sub q729 q730 q731 q2 q732) rfl rfl rfl hdX9_lacking ⟨Nat.le_of_ble_eq_true rfl, Nat.le_of_ble_eq_true rfl⟩) h hz kX_tint rfl rfl hl.1 rfl (Nat.le_of_ble_eq_true rfl) dL_lacking_3 ⟨Nat.le_of_ble_eq_true rfl, Nat.le_of_ble_eq_true rfl⟩ (fun Ex M9 hv9 H locs q9 ce9 h hq9 hc9 hn9 => ?_) (fun y3 M2 hv9 H locs h => ?_)
  · subst hv9
    replace hf := xthL_r hf
    by_cases c4 : Ex = "java/util/NoSuchElementException"
    · subst c4
      replace hf := xif_t hf rfl
      refine vx_catch (E := "java/util/NoSuchElementException") (name := "java/util/NoSuchElementException") hown [] ⟨0, 8, 11, 37⟩ [] htab (fun z hz => absurd hz List.not_mem_nil) (by decide) (by decide) (hts _ (xWh_sub _ q339)) (va_Nw.use rfl (hz.2.2.1 _ (by decide +kernel))) hq9 hc9 hn9 ?_
      refine lv_astore_n (lv' := [(2, .ref q9), (0, .ref (Γ.2.1 1470)), (1, .ref (Γ.2.1 1481))]) hx hb dL_lacking_11 rfl hl (by decide) rfl (fun ls hl => ?_)
      refine lv_iconst (v := 1) hx hb dL_lacking_12 (by decide) ?_
      exact x_iret hx hb h (Option.some.inj hf) hr hlocks dL_lacking_13
    replace hf := xif_f hf c4
    cases hf
  · subst hv9
    replace hf := xthL_l hf
    refine lv_i2l (v := (y3).toInt64) hx hb dL_lacking_6 rfl ?_
    obtain ⟨M5, eM5, hf⟩ := xl_s hf
    refine x_last hx hb h kX_out (xin_in (by decide)) eM5 dL_lacking_7 (fun H locs h => ?_)
    refine lv_goto (tgt := 14) hx hb dL_lacking_8 (by decide) ?_
    refine lv_iconst (v := 0) hx hb dL_lacking_14 (by decide) ?_
    exact x_iret hx hb h (Option.some.inj hf) hr hlocks dL_lacking_15
theorem hdL_steps : yL_steps.cls ≠ "java/lang/invoke/MethodHandle" ∧ yL_steps.cls ≠ "java/lang/invoke/VarHandle" ∧ (parseMethodDescriptor yL_steps.desc).map (fun d => d.parameters.length) = some 4 := by decide +kernel
set_option maxHeartbeats 4000000 in
set_option maxRecDepth 100000 in
theorem m_L_steps (l : Launch) {Γ : xG} {N : Nat} {v1 : Int32} {v2 : Int32} {M : xM} {res : xR} (hlt : l.stackTraces = false) (hf : F_L_steps N v1 v2 M = some res) (sz : Nat) : Met l yL_steps (xWh yL_steps cL_steps 5 (some .int) [(0, 10, 13, 21)]) ({ frames := 8, cells := 2, slots := 12, locals := 163 } : Room) (va_Pc [.ref (Γ.2.1 1470), .int v1, .int v2, .ref (Γ.2.1 1481)] (xPreL Γ (wX Γ) 1483 M sz)) (xCi Γ (wX Γ) 1483 res sz) 2 12 (xAd Γ 1483 sz) := by
  refine x_Lmet (Qc := fun sz => xCi Γ (wX Γ) 1483 res sz) pnL wG_W (Nat.le_of_ble_eq_true rfl) (fun p e s m args below meth c E htab hz hnc h ls hl => ?_) sz
  obtain ⟨⟨hx, hb, hml, hown, hts⟩, hr, hlocks⟩ := id E
  have hl : lv_has ls 5 [(0, .ref (Γ.2.1 1470)), (1, .int v1), (2, .int v2), (3, .ref (Γ.2.1 1481))] := hl
  refine lv_aload_n hx hb dL_steps_0 rfl (lv_at hl 3 rfl) ?_
  refine lv_iconst (v := 0) hx hb dL_steps_1 (by decide) ?_
  refine lv_aload_n hx hb dL_steps_2 rfl (lv_at hl 0 rfl) ?_
  refine lv_iload_n hx hb dL_steps_3 rfl (lv_at hl 1 rfl) ?_
  refine lv_iload_n hx hb dL_steps_4 rfl (lv_at hl 2 rfl) ?_
  obtain ⟨r1, er1, hf⟩ := xbd_s hf
  refine x_XVi (As := [.int v1, .int v2]) (rest := [.int 0, .ref (Γ.2.1 1481)]) E.1 (m_X9_steps l hlt er1) (cwV 2 hts (xgV xWh_sub q740 q741 q742 q2 q743) rfl rfl rfl hdX9_steps ⟨Nat.le_of_ble_eq_true rfl, Nat.le_of_ble_eq_true rfl⟩) h hz kX_tint rfl rfl hl.1 rfl (Nat.le_of_ble_eq_true rfl) dL_steps_5 ⟨Nat.le_of_ble_eq_true rfl, Nat.le_of_ble_eq_true rfl⟩ (fun Ex M9 hv9 H locs q9 ce9 h hq9 hc9 hn9 => ?_) (fun y3 M2 hv9 H locs h => ?_)
  · subst hv9
    replace hf := xthL_r hf
    by_cases c4 : Ex = "java/lang/IndexOutOfBoundsException"
    · subst c4
      replace hf := xif_t hf rfl
      refine vx_catch (E := "java/lang/IndexOutOfBoundsException") (name := "java/lang/IndexOutOfBoundsException") hown [] ⟨0, 10, 13, 21⟩ [] htab (fun z hz => absurd hz List.not_mem_nil) (by decide) (by decide) (hts _ (xWh_sub _ q232)) (va_Nw.use rfl (hz.2.2.1 _ (by decide +kernel))) hq9 hc9 hn9 ?_
      refine lv_astore (lv' := [(4, .ref q9), (0, .ref (Γ.2.1 1470)), (1, .int v1), (2, .int v2), (3, .ref (Γ.2.1 1481))]) hx hb dL_steps_13 hl (by decide) rfl (fun ls hl => ?_)
      refine lv_iconst (v := 1) hx hb dL_steps_15 (by decide) ?_
      exact x_iret hx hb h (Option.some.inj hf) hr hlocks dL_steps_16
    replace hf := xif_f hf c4
    cases hf
  · subst hv9
    replace hf := xthL_l hf
    refine lv_i2l (v := (y3).toInt64) hx hb dL_steps_8 rfl ?_
    obtain ⟨M5, eM5, hf⟩ := xl_s hf
    refine x_last hx hb h kX_out (xin_in (by decide)) eM5 dL_steps_9 (fun H locs h => ?_)
    refine lv_goto (tgt := 17) hx hb dL_steps_10 (by decide) ?_
    refine lv_iconst (v := 0) hx hb dL_steps_17 (by decide) ?_
    exact x_iret hx hb h (Option.some.inj hf) hr hlocks dL_steps_18
theorem hdL_can : yL_can.cls ≠ "java/lang/invoke/MethodHandle" ∧ yL_can.cls ≠ "java/lang/invoke/VarHandle" ∧ (parseMethodDescriptor yL_can.desc).map (fun d => d.parameters.length) = some 4 := by decide +kernel
set_option maxHeartbeats 4000000 in
set_option maxRecDepth 100000 in
theorem m_L_can (l : Launch) {Γ : xG} {N : Nat} {v1 : Int32} {v2 : Int32} {M : xM} {res : xR} (hlt : l.stackTraces = false) (hf : F_L_can N v1 v2 M = some res) (sz : Nat) : Met l yL_can (xWh yL_can cL_can 5 (some .int) [(0, 10, 13, 21), (0, 10, 17, 13)]) ({ frames := 8, cells := 2, slots := 12, locals := 164 } : Room) (va_Pc [.ref (Γ.2.1 1470), .int v1, .int v2, .ref (Γ.2.1 1481)] (xPreL Γ (wX Γ) 1483 M sz)) (xCi Γ (wX Γ) 1483 res sz) 2 12 (xAd Γ 1483 sz) := by
  refine x_Lmet (Qc := fun sz => xCi Γ (wX Γ) 1483 res sz) pnL wG_W (Nat.le_of_ble_eq_true rfl) (fun p e s m args below meth c E htab hz hnc h ls hl => ?_) sz
  obtain ⟨⟨hx, hb, hml, hown, hts⟩, hr, hlocks⟩ := id E
  have hl : lv_has ls 5 [(0, .ref (Γ.2.1 1470)), (1, .int v1), (2, .int v2), (3, .ref (Γ.2.1 1481))] := hl
  refine lv_aload_n hx hb dL_can_0 rfl (lv_at hl 3 rfl) ?_
  refine lv_iconst (v := 0) hx hb dL_can_1 (by decide) ?_
  refine lv_aload_n hx hb dL_can_2 rfl (lv_at hl 0 rfl) ?_
  refine lv_iload_n hx hb dL_can_3 rfl (lv_at hl 1 rfl) ?_
  refine lv_iload_n hx hb dL_can_4 rfl (lv_at hl 2 rfl) ?_
  obtain ⟨r1, er1, hf⟩ := xbd_s hf
  refine x_XVi (As := [.int v1, .int v2]) (rest := [.int 0, .ref (Γ.2.1 1481)]) E.1 (m_X9_can l hlt er1) (cwV 2 hts (xgV xWh_sub q752 q753 q754 q2 q755) rfl rfl rfl hdX9_can ⟨Nat.le_of_ble_eq_true rfl, Nat.le_of_ble_eq_true rfl⟩) h hz kX_tint rfl rfl hl.1 rfl (Nat.le_of_ble_eq_true rfl) dL_can_5 ⟨Nat.le_of_ble_eq_true rfl, Nat.le_of_ble_eq_true rfl⟩ (fun Ex M9 hv9 H locs q9 ce9 h hq9 hc9 hn9 => ?_) (fun y3 M2 hv9 H locs h => ?_)
  · subst hv9
    replace hf := xthL_r hf
    by_cases c4 : Ex = "java/lang/IndexOutOfBoundsException"
    · subst c4
      replace hf := xif_t hf rfl
      refine vx_catch (E := "java/lang/IndexOutOfBoundsException") (name := "java/lang/IndexOutOfBoundsException") hown [] ⟨0, 10, 13, 21⟩ [⟨0, 10, 17, 13⟩] htab (fun z hz => absurd hz List.not_mem_nil) (by decide) (by decide) (hts _ (xWh_sub _ q232)) (va_Nw.use rfl (hz.2.2.1 _ (by decide +kernel))) hq9 hc9 hn9 ?_
      refine lv_astore (lv' := [(4, .ref q9), (0, .ref (Γ.2.1 1470)), (1, .int v1), (2, .int v2), (3, .ref (Γ.2.1 1481))]) hx hb dL_can_13 hl (by decide) rfl (fun ls hl => ?_)
      refine lv_iconst (v := 1) hx hb dL_can_15 (by decide) ?_
      exact x_iret hx hb h (Option.some.inj hf) hr hlocks dL_can_16
    replace hf := xif_f hf c4
    by_cases c5 : Ex = "java/lang/IllegalArgumentException"
    · subst c5
      replace hf := xif_t hf rfl
      have hp9 : ∀ z ∈ ([⟨0, 10, 13, 21⟩] : List ExceptionTableEntry), covers z 5 = false ∨ (z.catchType ≠ 0 ∧ ∃ nm : String, (Cond.classLink RL z.catchType nm).before args s = true ∧ va_Nc "java/lang/IllegalArgumentException" nm s) := by
        intro z hz
        simp only [List.mem_cons, List.not_mem_nil, or_false] at hz
        rcases hz with rfl
        · exact Or.inr ⟨by decide, "java/lang/IndexOutOfBoundsException", hts _ (xWh_sub _ q232), hnc _ (by decide +kernel) _ (by decide +kernel) (by decide)⟩
      refine vx_catch (E := "java/lang/IllegalArgumentException") (name := "java/lang/IllegalArgumentException") hown [⟨0, 10, 13, 21⟩] ⟨0, 10, 17, 13⟩ [] htab hp9 (by decide) (by decide) (hts _ (xWh_sub _ q146)) (va_Nw.use rfl (hz.2.2.1 _ (by decide +kernel))) hq9 hc9 hn9 ?_
      refine lv_astore (lv' := [(4, .ref q9), (0, .ref (Γ.2.1 1470)), (1, .int v1), (2, .int v2), (3, .ref (Γ.2.1 1481))]) hx hb dL_can_17 hl (by decide) rfl (fun ls hl => ?_)
      refine lv_iconst (v := 2) hx hb dL_can_19 (by decide) ?_
      exact x_iret hx hb h (Option.some.inj hf) hr hlocks dL_can_20
    replace hf := xif_f hf c5
    cases hf
  · subst hv9
    replace hf := xthL_l hf
    refine lv_i2l (v := (y3).toInt64) hx hb dL_can_8 rfl ?_
    obtain ⟨M6, eM6, hf⟩ := xl_s hf
    refine x_last hx hb h kX_out (xin_in (by decide)) eM6 dL_can_9 (fun H locs h => ?_)
    refine lv_goto (tgt := 21) hx hb dL_can_10 (by decide) ?_
    refine lv_iconst (v := 0) hx hb dL_can_21 (by decide) ?_
    exact x_iret hx hb h (Option.some.inj hf) hr hlocks dL_can_22
theorem hdL_colour : yL_colour.cls ≠ "java/lang/invoke/MethodHandle" ∧ yL_colour.cls ≠ "java/lang/invoke/VarHandle" ∧ (parseMethodDescriptor yL_colour.desc).map (fun d => d.parameters.length) = some 4 := by decide +kernel
set_option maxHeartbeats 4000000 in
set_option maxRecDepth 100000 in
theorem m_L_colour (l : Launch) {Γ : xG} {N : Nat} {v1 : Int32} {v2 : Int32} {M : xM} {res : xR} (hlt : l.stackTraces = false) (hf : F_L_colour N v1 v2 M = some res) (sz : Nat) : Met l yL_colour (xWh yL_colour cL_colour 5 (some .int) [(0, 10, 13, 21), (0, 10, 17, 13)]) ({ frames := 8, cells := 2, slots := 12, locals := 164 } : Room) (va_Pc [.ref (Γ.2.1 1470), .int v1, .int v2, .ref (Γ.2.1 1481)] (xPreL Γ (wX Γ) 1483 M sz)) (xCi Γ (wX Γ) 1483 res sz) 2 12 (xAd Γ 1483 sz) := by
  refine x_Lmet (Qc := fun sz => xCi Γ (wX Γ) 1483 res sz) pnL wG_W (Nat.le_of_ble_eq_true rfl) (fun p e s m args below meth c E htab hz hnc h ls hl => ?_) sz
  obtain ⟨⟨hx, hb, hml, hown, hts⟩, hr, hlocks⟩ := id E
  have hl : lv_has ls 5 [(0, .ref (Γ.2.1 1470)), (1, .int v1), (2, .int v2), (3, .ref (Γ.2.1 1481))] := hl
  refine lv_aload_n hx hb dL_colour_0 rfl (lv_at hl 3 rfl) ?_
  refine lv_iconst (v := 0) hx hb dL_colour_1 (by decide) ?_
  refine lv_aload_n hx hb dL_colour_2 rfl (lv_at hl 0 rfl) ?_
  refine lv_iload_n hx hb dL_colour_3 rfl (lv_at hl 1 rfl) ?_
  refine lv_iload_n hx hb dL_colour_4 rfl (lv_at hl 2 rfl) ?_
  obtain ⟨r1, er1, hf⟩ := xbd_s hf
  refine x_XVi (As := [.int v1, .int v2]) (rest := [.int 0, .ref (Γ.2.1 1481)]) E.1 (m_X9_colour l hlt er1) (cwV 2 hts (xgV xWh_sub q785 q786 q787 q2 q788) rfl rfl rfl hdX9_colour ⟨Nat.le_of_ble_eq_true rfl, Nat.le_of_ble_eq_true rfl⟩) h hz kX_tint rfl rfl hl.1 rfl (Nat.le_of_ble_eq_true rfl) dL_colour_5 ⟨Nat.le_of_ble_eq_true rfl, Nat.le_of_ble_eq_true rfl⟩ (fun Ex M9 hv9 H locs q9 ce9 h hq9 hc9 hn9 => ?_) (fun y3 M2 hv9 H locs h => ?_)
  · subst hv9
    replace hf := xthL_r hf
    by_cases c4 : Ex = "java/lang/IndexOutOfBoundsException"
    · subst c4
      replace hf := xif_t hf rfl
      refine vx_catch (E := "java/lang/IndexOutOfBoundsException") (name := "java/lang/IndexOutOfBoundsException") hown [] ⟨0, 10, 13, 21⟩ [⟨0, 10, 17, 13⟩] htab (fun z hz => absurd hz List.not_mem_nil) (by decide) (by decide) (hts _ (xWh_sub _ q232)) (va_Nw.use rfl (hz.2.2.1 _ (by decide +kernel))) hq9 hc9 hn9 ?_
      refine lv_astore (lv' := [(4, .ref q9), (0, .ref (Γ.2.1 1470)), (1, .int v1), (2, .int v2), (3, .ref (Γ.2.1 1481))]) hx hb dL_colour_13 hl (by decide) rfl (fun ls hl => ?_)
      refine lv_iconst (v := 1) hx hb dL_colour_15 (by decide) ?_
      exact x_iret hx hb h (Option.some.inj hf) hr hlocks dL_colour_16
    replace hf := xif_f hf c4
    by_cases c5 : Ex = "java/lang/IllegalArgumentException"
    · subst c5
      replace hf := xif_t hf rfl
      have hp9 : ∀ z ∈ ([⟨0, 10, 13, 21⟩] : List ExceptionTableEntry), covers z 5 = false ∨ (z.catchType ≠ 0 ∧ ∃ nm : String, (Cond.classLink RL z.catchType nm).before args s = true ∧ va_Nc "java/lang/IllegalArgumentException" nm s) := by
        intro z hz
        simp only [List.mem_cons, List.not_mem_nil, or_false] at hz
        rcases hz with rfl
        · exact Or.inr ⟨by decide, "java/lang/IndexOutOfBoundsException", hts _ (xWh_sub _ q232), hnc _ (by decide +kernel) _ (by decide +kernel) (by decide)⟩
      refine vx_catch (E := "java/lang/IllegalArgumentException") (name := "java/lang/IllegalArgumentException") hown [⟨0, 10, 13, 21⟩] ⟨0, 10, 17, 13⟩ [] htab hp9 (by decide) (by decide) (hts _ (xWh_sub _ q146)) (va_Nw.use rfl (hz.2.2.1 _ (by decide +kernel))) hq9 hc9 hn9 ?_
      refine lv_astore (lv' := [(4, .ref q9), (0, .ref (Γ.2.1 1470)), (1, .int v1), (2, .int v2), (3, .ref (Γ.2.1 1481))]) hx hb dL_colour_17 hl (by decide) rfl (fun ls hl => ?_)
      refine lv_iconst (v := 2) hx hb dL_colour_19 (by decide) ?_
      exact x_iret hx hb h (Option.some.inj hf) hr hlocks dL_colour_20
    replace hf := xif_f hf c5
    cases hf
  · subst hv9
    replace hf := xthL_l hf
    refine lv_i2l (v := (y3).toInt64) hx hb dL_colour_8 rfl ?_
    obtain ⟨M6, eM6, hf⟩ := xl_s hf
    refine x_last hx hb h kX_out (xin_in (by decide)) eM6 dL_colour_9 (fun H locs h => ?_)
    refine lv_goto (tgt := 21) hx hb dL_colour_10 (by decide) ?_
    refine lv_iconst (v := 0) hx hb dL_colour_21 (by decide) ?_
    exact x_iret hx hb h (Option.some.inj hf) hr hlocks dL_colour_22
theorem hdL_correct : yL_correct.cls ≠ "java/lang/invoke/MethodHandle" ∧ yL_correct.cls ≠ "java/lang/invoke/VarHandle" ∧ (parseMethodDescriptor yL_correct.desc).map (fun d => d.parameters.length) = some 5 := by decide +kernel
set_option maxHeartbeats 4000000 in
set_option maxRecDepth 100000 in
theorem m_L_correct (l : Launch) {Γ : xG} {N : Nat} {v1 : Int32} {v2 : Int32} {v3 : Int32} {M : xM} {res : xR} (hlt : l.stackTraces = false) (hf : F_L_correct N v1 v2 v3 M = some res) (sz : Nat) : Met l yL_correct (xWh yL_correct cL_correct 6 (some .int) [(0, 12, 15, 21), (0, 12, 19, 13), (0, 12, 23, 26)]) ({ frames := 8, cells := 4, slots := 24, locals := 208 } : Room) (va_Pc [.ref (Γ.2.1 1470), .int v1, .int v2, .int v3, .ref (Γ.2.1 1481)] (xPreL Γ (wX Γ) 1483 M sz)) (xCi Γ (wX Γ) 1483 res sz) 4 24 (xAd Γ 1483 sz) := by
  refine x_Lmet (Qc := fun sz => xCi Γ (wX Γ) 1483 res sz) pnL wG_W (Nat.le_of_ble_eq_true rfl) (fun p e s m args below meth c E htab hz hnc h ls hl => ?_) sz
  obtain ⟨⟨hx, hb, hml, hown, hts⟩, hr, hlocks⟩ := id E
  have hl : lv_has ls 6 [(0, .ref (Γ.2.1 1470)), (1, .int v1), (2, .int v2), (3, .int v3), (4, .ref (Γ.2.1 1481))] := hl
  refine lv_aload hx hb dL_correct_0 (lv_at hl 4 rfl) ?_
  refine lv_iconst (v := 0) hx hb dL_correct_2 (by decide) ?_
  refine lv_aload_n hx hb dL_correct_3 rfl (lv_at hl 0 rfl) ?_
  refine lv_iload_n hx hb dL_correct_4 rfl (lv_at hl 1 rfl) ?_
  refine lv_iload_n hx hb dL_correct_5 rfl (lv_at hl 2 rfl) ?_
  refine lv_iload_n hx hb dL_correct_6 rfl (lv_at hl 3 rfl) ?_
  obtain ⟨r1, er1, hf⟩ := xbd_s hf
  refine x_XVi (As := [.int v1, .int v2, .int v3]) (rest := [.int 0, .ref (Γ.2.1 1481)]) E.1 (m_X9_correct l hlt er1) (cwV 3 hts (xgV xWh_sub q805 q806 q807 q2 q808) rfl rfl rfl hdX9_correct ⟨Nat.le_of_ble_eq_true rfl, Nat.le_of_ble_eq_true rfl⟩) h hz kX_tint rfl rfl hl.1 rfl (Nat.le_of_ble_eq_true rfl) dL_correct_7 ⟨Nat.le_of_ble_eq_true rfl, Nat.le_of_ble_eq_true rfl⟩ (fun Ex M9 hv9 H locs q9 ce9 h hq9 hc9 hn9 => ?_) (fun y3 M2 hv9 H locs h => ?_)
  · subst hv9
    replace hf := xthL_r hf
    by_cases c4 : Ex = "java/lang/IndexOutOfBoundsException"
    · subst c4
      replace hf := xif_t hf rfl
      refine vx_catch (E := "java/lang/IndexOutOfBoundsException") (name := "java/lang/IndexOutOfBoundsException") hown [] ⟨0, 12, 15, 21⟩ [⟨0, 12, 19, 13⟩, ⟨0, 12, 23, 26⟩] htab (fun z hz => absurd hz List.not_mem_nil) (by decide) (by decide) (hts _ (xWh_sub _ q232)) (va_Nw.use rfl (hz.2.2.1 _ (by decide +kernel))) hq9 hc9 hn9 ?_
      refine lv_astore (lv' := [(5, .ref q9), (0, .ref (Γ.2.1 1470)), (1, .int v1), (2, .int v2), (3, .int v3), (4, .ref (Γ.2.1 1481))]) hx hb dL_correct_15 hl (by decide) rfl (fun ls hl => ?_)
      refine lv_iconst (v := 1) hx hb dL_correct_17 (by decide) ?_
      exact x_iret hx hb h (Option.some.inj hf) hr hlocks dL_correct_18
    replace hf := xif_f hf c4
    by_cases c5 : Ex = "java/lang/IllegalArgumentException"
    · subst c5
      replace hf := xif_t hf rfl
      have hp9 : ∀ z ∈ ([⟨0, 12, 15, 21⟩] : List ExceptionTableEntry), covers z 7 = false ∨ (z.catchType ≠ 0 ∧ ∃ nm : String, (Cond.classLink RL z.catchType nm).before args s = true ∧ va_Nc "java/lang/IllegalArgumentException" nm s) := by
        intro z hz
        simp only [List.mem_cons, List.not_mem_nil, or_false] at hz
        rcases hz with rfl
        · exact Or.inr ⟨by decide, "java/lang/IndexOutOfBoundsException", hts _ (xWh_sub _ q232), hnc _ (by decide +kernel) _ (by decide +kernel) (by decide)⟩
      refine vx_catch (E := "java/lang/IllegalArgumentException") (name := "java/lang/IllegalArgumentException") hown [⟨0, 12, 15, 21⟩] ⟨0, 12, 19, 13⟩ [⟨0, 12, 23, 26⟩] htab hp9 (by decide) (by decide) (hts _ (xWh_sub _ q146)) (va_Nw.use rfl (hz.2.2.1 _ (by decide +kernel))) hq9 hc9 hn9 ?_
      refine lv_astore (lv' := [(5, .ref q9), (0, .ref (Γ.2.1 1470)), (1, .int v1), (2, .int v2), (3, .int v3), (4, .ref (Γ.2.1 1481))]) hx hb dL_correct_19 hl (by decide) rfl (fun ls hl => ?_)
      refine lv_iconst (v := 2) hx hb dL_correct_21 (by decide) ?_
      exact x_iret hx hb h (Option.some.inj hf) hr hlocks dL_correct_22
    replace hf := xif_f hf c5
    by_cases c6 : Ex = "java/lang/UnsupportedOperationException"
    · subst c6
      replace hf := xif_t hf rfl
      have hp9 : ∀ z ∈ ([⟨0, 12, 15, 21⟩, ⟨0, 12, 19, 13⟩] : List ExceptionTableEntry), covers z 7 = false ∨ (z.catchType ≠ 0 ∧ ∃ nm : String, (Cond.classLink RL z.catchType nm).before args s = true ∧ va_Nc "java/lang/UnsupportedOperationException" nm s) := by
        intro z hz
        simp only [List.mem_cons, List.not_mem_nil, or_false] at hz
        rcases hz with rfl | rfl
        · exact Or.inr ⟨by decide, "java/lang/IndexOutOfBoundsException", hts _ (xWh_sub _ q232), hnc _ (by decide +kernel) _ (by decide +kernel) (by decide)⟩
        · exact Or.inr ⟨by decide, "java/lang/IllegalArgumentException", hts _ (xWh_sub _ q146), hnc _ (by decide +kernel) _ (by decide +kernel) (by decide)⟩
      refine vx_catch (E := "java/lang/UnsupportedOperationException") (name := "java/lang/UnsupportedOperationException") hown [⟨0, 12, 15, 21⟩, ⟨0, 12, 19, 13⟩] ⟨0, 12, 23, 26⟩ [] htab hp9 (by decide) (by decide) (hts _ (xWh_sub _ q260)) (va_Nw.use rfl (hz.2.2.1 _ (by decide +kernel))) hq9 hc9 hn9 ?_
      refine lv_astore (lv' := [(5, .ref q9), (0, .ref (Γ.2.1 1470)), (1, .int v1), (2, .int v2), (3, .int v3), (4, .ref (Γ.2.1 1481))]) hx hb dL_correct_23 hl (by decide) rfl (fun ls hl => ?_)
      refine lv_iconst (v := 3) hx hb dL_correct_25 (by decide) ?_
      exact x_iret hx hb h (Option.some.inj hf) hr hlocks dL_correct_26
    replace hf := xif_f hf c6
    cases hf
  · subst hv9
    replace hf := xthL_l hf
    refine lv_i2l (v := (y3).toInt64) hx hb dL_correct_10 rfl ?_
    obtain ⟨M7, eM7, hf⟩ := xl_s hf
    refine x_last hx hb h kX_out (xin_in (by decide)) eM7 dL_correct_11 (fun H locs h => ?_)
    refine lv_goto (tgt := 27) hx hb dL_correct_12 (by decide) ?_
    refine lv_iconst (v := 0) hx hb dL_correct_27 (by decide) ?_
    exact x_iret hx hb h (Option.some.inj hf) hr hlocks dL_correct_28
theorem hdL_least : yL_least.cls ≠ "java/lang/invoke/MethodHandle" ∧ yL_least.cls ≠ "java/lang/invoke/VarHandle" ∧ (parseMethodDescriptor yL_least.desc).map (fun d => d.parameters.length) = some 8 := by decide +kernel
set_option maxHeartbeats 4000000 in
set_option maxRecDepth 100000 in
theorem m_L_least (l : Launch) {Γ : xG} {N : Nat} {v1 : Int32} {v2 : Int32} {v3 : Int32} {v4 : Int32} {v5 : Int32} {v6 : Int32} {M : xM} {res : xR} (hlt : l.stackTraces = false) (hf : F_L_least N v1 v2 v3 v4 v5 v6 M = some res) (sz : Nat) : Met l yL_least (xWh yL_least cL_least 9 (some .int) [(0, 18, 21, 21), (0, 18, 25, 13), (0, 18, 29, 37)]) ({ frames := 13, cells := 4, slots := 24, locals := 341 } : Room) (va_Pc [.ref (Γ.2.1 1470), .int v1, .int v2, .int v3, .int v4, .int v5, .int v6, .ref (Γ.2.1 1481)] (xPreL Γ (wX Γ) 1483 M sz)) (xCi Γ (wX Γ) 1483 res sz) 4 24 (xAd Γ 1483 sz) := by
  refine x_Lmet (Qc := fun sz => xCi Γ (wX Γ) 1483 res sz) pnL wG_W (Nat.le_of_ble_eq_true rfl) (fun p e s m args below meth c E htab hz hnc h ls hl => ?_) sz
  obtain ⟨⟨hx, hb, hml, hown, hts⟩, hr, hlocks⟩ := id E
  have hl : lv_has ls 9 [(0, .ref (Γ.2.1 1470)), (1, .int v1), (2, .int v2), (3, .int v3), (4, .int v4), (5, .int v5), (6, .int v6), (7, .ref (Γ.2.1 1481))] := hl
  refine lv_aload hx hb dL_least_0 (lv_at hl 7 rfl) ?_
  refine lv_iconst (v := 0) hx hb dL_least_2 (by decide) ?_
  refine lv_aload_n hx hb dL_least_3 rfl (lv_at hl 0 rfl) ?_
  refine lv_iload_n hx hb dL_least_4 rfl (lv_at hl 1 rfl) ?_
  refine lv_iload_n hx hb dL_least_5 rfl (lv_at hl 2 rfl) ?_
  refine lv_iload_n hx hb dL_least_6 rfl (lv_at hl 3 rfl) ?_
  refine lv_iload hx hb dL_least_7 (lv_at hl 4 rfl) ?_
  refine lv_iload hx hb dL_least_9 (lv_at hl 5 rfl) ?_
  refine lv_iload hx hb dL_least_11 (lv_at hl 6 rfl) ?_
  obtain ⟨r1, er1, hf⟩ := xbd_s hf
  refine x_XVi (As := [.int v1, .int v2, .int v3, .int v4, .int v5, .int v6]) (rest := [.int 0, .ref (Γ.2.1 1481)]) E.1 (m_X9_least l hlt er1) (cwV 6 hts (xgV xWh_sub q824 q825 q826 q2 q827) rfl rfl rfl hdX9_least ⟨Nat.le_of_ble_eq_true rfl, Nat.le_of_ble_eq_true rfl⟩) h hz kX_tint rfl rfl hl.1 rfl (Nat.le_of_ble_eq_true rfl) dL_least_13 ⟨Nat.le_of_ble_eq_true rfl, Nat.le_of_ble_eq_true rfl⟩ (fun Ex M9 hv9 H locs q9 ce9 h hq9 hc9 hn9 => ?_) (fun y3 M2 hv9 H locs h => ?_)
  · subst hv9
    replace hf := xthL_r hf
    by_cases c4 : Ex = "java/lang/IndexOutOfBoundsException"
    · subst c4
      replace hf := xif_t hf rfl
      refine vx_catch (E := "java/lang/IndexOutOfBoundsException") (name := "java/lang/IndexOutOfBoundsException") hown [] ⟨0, 18, 21, 21⟩ [⟨0, 18, 25, 13⟩, ⟨0, 18, 29, 37⟩] htab (fun z hz => absurd hz List.not_mem_nil) (by decide) (by decide) (hts _ (xWh_sub _ q232)) (va_Nw.use rfl (hz.2.2.1 _ (by decide +kernel))) hq9 hc9 hn9 ?_
      refine lv_astore (lv' := [(8, .ref q9), (0, .ref (Γ.2.1 1470)), (1, .int v1), (2, .int v2), (3, .int v3), (4, .int v4), (5, .int v5), (6, .int v6), (7, .ref (Γ.2.1 1481))]) hx hb dL_least_21 hl (by decide) rfl (fun ls hl => ?_)
      refine lv_iconst (v := 1) hx hb dL_least_23 (by decide) ?_
      exact x_iret hx hb h (Option.some.inj hf) hr hlocks dL_least_24
    replace hf := xif_f hf c4
    by_cases c5 : Ex = "java/lang/IllegalArgumentException"
    · subst c5
      replace hf := xif_t hf rfl
      have hp9 : ∀ z ∈ ([⟨0, 18, 21, 21⟩] : List ExceptionTableEntry), covers z 13 = false ∨ (z.catchType ≠ 0 ∧ ∃ nm : String, (Cond.classLink RL z.catchType nm).before args s = true ∧ va_Nc "java/lang/IllegalArgumentException" nm s) := by
        intro z hz
        simp only [List.mem_cons, List.not_mem_nil, or_false] at hz
        rcases hz with rfl
        · exact Or.inr ⟨by decide, "java/lang/IndexOutOfBoundsException", hts _ (xWh_sub _ q232), hnc _ (by decide +kernel) _ (by decide +kernel) (by decide)⟩
      refine vx_catch (E := "java/lang/IllegalArgumentException") (name := "java/lang/IllegalArgumentException") hown [⟨0, 18, 21, 21⟩] ⟨0, 18, 25, 13⟩ [⟨0, 18, 29, 37⟩] htab hp9 (by decide) (by decide) (hts _ (xWh_sub _ q146)) (va_Nw.use rfl (hz.2.2.1 _ (by decide +kernel))) hq9 hc9 hn9 ?_
      refine lv_astore (lv' := [(8, .ref q9), (0, .ref (Γ.2.1 1470)), (1, .int v1), (2, .int v2), (3, .int v3), (4, .int v4), (5, .int v5), (6, .int v6), (7, .ref (Γ.2.1 1481))]) hx hb dL_least_25 hl (by decide) rfl (fun ls hl => ?_)
      refine lv_iconst (v := 2) hx hb dL_least_27 (by decide) ?_
      exact x_iret hx hb h (Option.some.inj hf) hr hlocks dL_least_28
    replace hf := xif_f hf c5
    by_cases c6 : Ex = "java/util/NoSuchElementException"
    · subst c6
      replace hf := xif_t hf rfl
      have hp9 : ∀ z ∈ ([⟨0, 18, 21, 21⟩, ⟨0, 18, 25, 13⟩] : List ExceptionTableEntry), covers z 13 = false ∨ (z.catchType ≠ 0 ∧ ∃ nm : String, (Cond.classLink RL z.catchType nm).before args s = true ∧ va_Nc "java/util/NoSuchElementException" nm s) := by
        intro z hz
        simp only [List.mem_cons, List.not_mem_nil, or_false] at hz
        rcases hz with rfl | rfl
        · exact Or.inr ⟨by decide, "java/lang/IndexOutOfBoundsException", hts _ (xWh_sub _ q232), hnc _ (by decide +kernel) _ (by decide +kernel) (by decide)⟩
        · exact Or.inr ⟨by decide, "java/lang/IllegalArgumentException", hts _ (xWh_sub _ q146), hnc _ (by decide +kernel) _ (by decide +kernel) (by decide)⟩
      refine vx_catch (E := "java/util/NoSuchElementException") (name := "java/util/NoSuchElementException") hown [⟨0, 18, 21, 21⟩, ⟨0, 18, 25, 13⟩] ⟨0, 18, 29, 37⟩ [] htab hp9 (by decide) (by decide) (hts _ (xWh_sub _ q339)) (va_Nw.use rfl (hz.2.2.1 _ (by decide +kernel))) hq9 hc9 hn9 ?_
      refine lv_astore (lv' := [(8, .ref q9), (0, .ref (Γ.2.1 1470)), (1, .int v1), (2, .int v2), (3, .int v3), (4, .int v4), (5, .int v5), (6, .int v6), (7, .ref (Γ.2.1 1481))]) hx hb dL_least_29 hl (by decide) rfl (fun ls hl => ?_)
      refine lv_iconst (v := 3) hx hb dL_least_31 (by decide) ?_
      exact x_iret hx hb h (Option.some.inj hf) hr hlocks dL_least_32
    replace hf := xif_f hf c6
    cases hf
  · subst hv9
    replace hf := xthL_l hf
    refine lv_i2l (v := (y3).toInt64) hx hb dL_least_16 rfl ?_
    obtain ⟨M7, eM7, hf⟩ := xl_s hf
    refine x_last hx hb h kX_out (xin_in (by decide)) eM7 dL_least_17 (fun H locs h => ?_)
    refine lv_goto (tgt := 33) hx hb dL_least_18 (by decide) ?_
    refine lv_iconst (v := 0) hx hb dL_least_33 (by decide) ?_
    exact x_iret hx hb h (Option.some.inj hf) hr hlocks dL_least_34
theorem hdL_hasLot : yL_hasLot.cls ≠ "java/lang/invoke/MethodHandle" ∧ yL_hasLot.cls ≠ "java/lang/invoke/VarHandle" ∧ (parseMethodDescriptor yL_hasLot.desc).map (fun d => d.parameters.length) = some 5 := by decide +kernel
set_option maxHeartbeats 4000000 in
set_option maxRecDepth 100000 in
theorem m_L_hasLot (l : Launch) {Γ : xG} {N : Nat} {v1 : Int32} {v2 : Int32} {v3 : Int32} {M : xM} {res : xR} (hlt : l.stackTraces = false) (hf : F_L_hasLot N v1 v2 v3 M = some res) (sz : Nat) : Met l yL_hasLot (xWh yL_hasLot cL_hasLot 6 (some .int) [(0, 19, 22, 21), (0, 19, 26, 13)]) ({ frames := 8, cells := 3, slots := 18, locals := 165 } : Room) (va_Pc [.ref (Γ.2.1 1470), .int v1, .int v2, .int v3, .ref (Γ.2.1 1481)] (xPreL Γ (wX Γ) 1483 M sz)) (xCi Γ (wX Γ) 1483 res sz) 3 18 (xAd Γ 1483 sz) := by
  refine x_Lmet (Qc := fun sz => xCi Γ (wX Γ) 1483 res sz) pnL wG_W (Nat.le_of_ble_eq_true rfl) (fun p e s m args below meth c E htab hz hnc h ls hl => ?_) sz
  obtain ⟨⟨hx, hb, hml, hown, hts⟩, hr, hlocks⟩ := id E
  have hl : lv_has ls 6 [(0, .ref (Γ.2.1 1470)), (1, .int v1), (2, .int v2), (3, .int v3), (4, .ref (Γ.2.1 1481))] := hl
  refine lv_aload hx hb dL_hasLot_0 (lv_at hl 4 rfl) ?_
  refine lv_iconst (v := 0) hx hb dL_hasLot_2 (by decide) ?_
  refine lv_aload_n hx hb dL_hasLot_3 rfl (lv_at hl 0 rfl) ?_
  refine lv_iload_n hx hb dL_hasLot_4 rfl (lv_at hl 1 rfl) ?_
  refine lv_iload_n hx hb dL_hasLot_5 rfl (lv_at hl 2 rfl) ?_
  refine lv_iload_n hx hb dL_hasLot_6 rfl (lv_at hl 3 rfl) ?_
  obtain ⟨r1, er1, hf⟩ := xbd_s hf
  refine x_XVi (As := [.int v1, .int v2, .int v3]) (rest := [.int 0, .ref (Γ.2.1 1481)]) E.1 (m_X9_hasLot l hlt er1) (cwV 3 hts (xgV xWh_sub q872 q873 q874 q2 q875) rfl rfl rfl hdX9_hasLot ⟨Nat.le_of_ble_eq_true rfl, Nat.le_of_ble_eq_true rfl⟩) h hz kX_tint rfl rfl hl.1 rfl (Nat.le_of_ble_eq_true rfl) dL_hasLot_7 ⟨Nat.le_of_ble_eq_true rfl, Nat.le_of_ble_eq_true rfl⟩ (fun Ex M9 hv9 H locs q9 ce9 h hq9 hc9 hn9 => ?_) (fun y3 M2 hv9 H locs h => ?_)
  · subst hv9
    replace hf := xthL_r hf
    by_cases c4 : Ex = "java/lang/IndexOutOfBoundsException"
    · subst c4
      replace hf := xif_t hf rfl
      refine vx_catch (E := "java/lang/IndexOutOfBoundsException") (name := "java/lang/IndexOutOfBoundsException") hown [] ⟨0, 19, 22, 21⟩ [⟨0, 19, 26, 13⟩] htab (fun z hz => absurd hz List.not_mem_nil) (by decide) (by decide) (hts _ (xWh_sub _ q232)) (va_Nw.use rfl (hz.2.2.1 _ (by decide +kernel))) hq9 hc9 hn9 ?_
      refine lv_astore (lv' := [(5, .ref q9), (0, .ref (Γ.2.1 1470)), (1, .int v1), (2, .int v2), (3, .int v3), (4, .ref (Γ.2.1 1481))]) hx hb dL_hasLot_22 hl (by decide) rfl (fun ls hl => ?_)
      refine lv_iconst (v := 1) hx hb dL_hasLot_24 (by decide) ?_
      exact x_iret hx hb h (Option.some.inj hf) hr hlocks dL_hasLot_25
    replace hf := xif_f hf c4
    by_cases c5 : Ex = "java/lang/IllegalArgumentException"
    · subst c5
      replace hf := xif_t hf rfl
      have hp9 : ∀ z ∈ ([⟨0, 19, 22, 21⟩] : List ExceptionTableEntry), covers z 7 = false ∨ (z.catchType ≠ 0 ∧ ∃ nm : String, (Cond.classLink RL z.catchType nm).before args s = true ∧ va_Nc "java/lang/IllegalArgumentException" nm s) := by
        intro z hz
        simp only [List.mem_cons, List.not_mem_nil, or_false] at hz
        rcases hz with rfl
        · exact Or.inr ⟨by decide, "java/lang/IndexOutOfBoundsException", hts _ (xWh_sub _ q232), hnc _ (by decide +kernel) _ (by decide +kernel) (by decide)⟩
      refine vx_catch (E := "java/lang/IllegalArgumentException") (name := "java/lang/IllegalArgumentException") hown [⟨0, 19, 22, 21⟩] ⟨0, 19, 26, 13⟩ [] htab hp9 (by decide) (by decide) (hts _ (xWh_sub _ q146)) (va_Nw.use rfl (hz.2.2.1 _ (by decide +kernel))) hq9 hc9 hn9 ?_
      refine lv_astore (lv' := [(5, .ref q9), (0, .ref (Γ.2.1 1470)), (1, .int v1), (2, .int v2), (3, .int v3), (4, .ref (Γ.2.1 1481))]) hx hb dL_hasLot_26 hl (by decide) rfl (fun ls hl => ?_)
      refine lv_iconst (v := 2) hx hb dL_hasLot_28 (by decide) ?_
      exact x_iret hx hb h (Option.some.inj hf) hr hlocks dL_hasLot_29
    replace hf := xif_f hf c5
    cases hf
  · subst hv9
    replace hf := xthL_l hf
    refine lv_if_eq (tgt := 17) hx hb dL_hasLot_10 (by decide) (fun c6 => ?_) (fun c6 => ?_)
    · replace hf := xif_t hf c6
      refine lv_lconst (v := 0) hx hb dL_hasLot_17 (by decide) ?_
      obtain ⟨M7, eM7, hf⟩ := xl_s hf
      refine x_last hx hb h kX_out (xin_in (by decide)) eM7 dL_hasLot_18 (fun H locs h => ?_)
      refine lv_goto (tgt := 30) hx hb dL_hasLot_19 (by decide) ?_
      refine lv_iconst (v := 0) hx hb dL_hasLot_30 (by decide) ?_
      exact x_iret hx hb h (Option.some.inj hf) hr hlocks dL_hasLot_31
    · replace hf := xif_f hf c6
      refine lv_lconst (v := 1) hx hb dL_hasLot_13 (by decide) ?_
      refine lv_goto (tgt := 18) hx hb dL_hasLot_14 (by decide) ?_
      obtain ⟨M8, eM8, hf⟩ := xl_s hf
      refine x_last hx hb h kX_out (xin_in (by decide)) eM8 dL_hasLot_18 (fun H locs h => ?_)
      refine lv_goto (tgt := 30) hx hb dL_hasLot_19 (by decide) ?_
      refine lv_iconst (v := 0) hx hb dL_hasLot_30 (by decide) ?_
      exact x_iret hx hb h (Option.some.inj hf) hr hlocks dL_hasLot_31
theorem hdL_canWith : yL_canWith.cls ≠ "java/lang/invoke/MethodHandle" ∧ yL_canWith.cls ≠ "java/lang/invoke/VarHandle" ∧ (parseMethodDescriptor yL_canWith.desc).map (fun d => d.parameters.length) = some 5 := by decide +kernel
set_option maxHeartbeats 4000000 in
set_option maxRecDepth 100000 in
theorem m_L_canWith (l : Launch) {Γ : xG} {N : Nat} {v1 : Int32} {v2 : Int32} {v3 : Int32} {M : xM} {res : xR} (hlt : l.stackTraces = false) (hf : F_L_canWith N v1 v2 v3 M = some res) (sz : Nat) : Met l yL_canWith (xWh yL_canWith cL_canWith 6 (some .int) [(0, 12, 15, 21), (0, 12, 19, 13), (0, 12, 23, 37)]) ({ frames := 8, cells := 3, slots := 18, locals := 166 } : Room) (va_Pc [.ref (Γ.2.1 1470), .int v1, .int v2, .int v3, .ref (Γ.2.1 1481)] (xPreL Γ (wX Γ) 1483 M sz)) (xCi Γ (wX Γ) 1483 res sz) 3 18 (xAd Γ 1483 sz) := by
  refine x_Lmet (Qc := fun sz => xCi Γ (wX Γ) 1483 res sz) pnL wG_W (Nat.le_of_ble_eq_true rfl) (fun p e s m args below meth c E htab hz hnc h ls hl => ?_) sz
  obtain ⟨⟨hx, hb, hml, hown, hts⟩, hr, hlocks⟩ := id E
  have hl : lv_has ls 6 [(0, .ref (Γ.2.1 1470)), (1, .int v1), (2, .int v2), (3, .int v3), (4, .ref (Γ.2.1 1481))] := hl
  refine lv_aload hx hb dL_canWith_0 (lv_at hl 4 rfl) ?_
  refine lv_iconst (v := 0) hx hb dL_canWith_2 (by decide) ?_
  refine lv_aload_n hx hb dL_canWith_3 rfl (lv_at hl 0 rfl) ?_
  refine lv_iload_n hx hb dL_canWith_4 rfl (lv_at hl 1 rfl) ?_
  refine lv_iload_n hx hb dL_canWith_5 rfl (lv_at hl 2 rfl) ?_
  refine lv_iload_n hx hb dL_canWith_6 rfl (lv_at hl 3 rfl) ?_
  obtain ⟨r1, er1, hf⟩ := xbd_s hf
  refine x_XVi (As := [.int v1, .int v2, .int v3]) (rest := [.int 0, .ref (Γ.2.1 1481)]) E.1 (m_X9_canWith l hlt er1) (cwV 3 hts (xgV xWh_sub q891 q892 q893 q2 q894) rfl rfl rfl hdX9_canWith ⟨Nat.le_of_ble_eq_true rfl, Nat.le_of_ble_eq_true rfl⟩) h hz kX_tint rfl rfl hl.1 rfl (Nat.le_of_ble_eq_true rfl) dL_canWith_7 ⟨Nat.le_of_ble_eq_true rfl, Nat.le_of_ble_eq_true rfl⟩ (fun Ex M9 hv9 H locs q9 ce9 h hq9 hc9 hn9 => ?_) (fun y3 M2 hv9 H locs h => ?_)
  · subst hv9
    replace hf := xthL_r hf
    by_cases c4 : Ex = "java/lang/IndexOutOfBoundsException"
    · subst c4
      replace hf := xif_t hf rfl
      refine vx_catch (E := "java/lang/IndexOutOfBoundsException") (name := "java/lang/IndexOutOfBoundsException") hown [] ⟨0, 12, 15, 21⟩ [⟨0, 12, 19, 13⟩, ⟨0, 12, 23, 37⟩] htab (fun z hz => absurd hz List.not_mem_nil) (by decide) (by decide) (hts _ (xWh_sub _ q232)) (va_Nw.use rfl (hz.2.2.1 _ (by decide +kernel))) hq9 hc9 hn9 ?_
      refine lv_astore (lv' := [(5, .ref q9), (0, .ref (Γ.2.1 1470)), (1, .int v1), (2, .int v2), (3, .int v3), (4, .ref (Γ.2.1 1481))]) hx hb dL_canWith_15 hl (by decide) rfl (fun ls hl => ?_)
      refine lv_iconst (v := 1) hx hb dL_canWith_17 (by decide) ?_
      exact x_iret hx hb h (Option.some.inj hf) hr hlocks dL_canWith_18
    replace hf := xif_f hf c4
    by_cases c5 : Ex = "java/lang/IllegalArgumentException"
    · subst c5
      replace hf := xif_t hf rfl
      have hp9 : ∀ z ∈ ([⟨0, 12, 15, 21⟩] : List ExceptionTableEntry), covers z 7 = false ∨ (z.catchType ≠ 0 ∧ ∃ nm : String, (Cond.classLink RL z.catchType nm).before args s = true ∧ va_Nc "java/lang/IllegalArgumentException" nm s) := by
        intro z hz
        simp only [List.mem_cons, List.not_mem_nil, or_false] at hz
        rcases hz with rfl
        · exact Or.inr ⟨by decide, "java/lang/IndexOutOfBoundsException", hts _ (xWh_sub _ q232), hnc _ (by decide +kernel) _ (by decide +kernel) (by decide)⟩
      refine vx_catch (E := "java/lang/IllegalArgumentException") (name := "java/lang/IllegalArgumentException") hown [⟨0, 12, 15, 21⟩] ⟨0, 12, 19, 13⟩ [⟨0, 12, 23, 37⟩] htab hp9 (by decide) (by decide) (hts _ (xWh_sub _ q146)) (va_Nw.use rfl (hz.2.2.1 _ (by decide +kernel))) hq9 hc9 hn9 ?_
      refine lv_astore (lv' := [(5, .ref q9), (0, .ref (Γ.2.1 1470)), (1, .int v1), (2, .int v2), (3, .int v3), (4, .ref (Γ.2.1 1481))]) hx hb dL_canWith_19 hl (by decide) rfl (fun ls hl => ?_)
      refine lv_iconst (v := 2) hx hb dL_canWith_21 (by decide) ?_
      exact x_iret hx hb h (Option.some.inj hf) hr hlocks dL_canWith_22
    replace hf := xif_f hf c5
    by_cases c6 : Ex = "java/util/NoSuchElementException"
    · subst c6
      replace hf := xif_t hf rfl
      have hp9 : ∀ z ∈ ([⟨0, 12, 15, 21⟩, ⟨0, 12, 19, 13⟩] : List ExceptionTableEntry), covers z 7 = false ∨ (z.catchType ≠ 0 ∧ ∃ nm : String, (Cond.classLink RL z.catchType nm).before args s = true ∧ va_Nc "java/util/NoSuchElementException" nm s) := by
        intro z hz
        simp only [List.mem_cons, List.not_mem_nil, or_false] at hz
        rcases hz with rfl | rfl
        · exact Or.inr ⟨by decide, "java/lang/IndexOutOfBoundsException", hts _ (xWh_sub _ q232), hnc _ (by decide +kernel) _ (by decide +kernel) (by decide)⟩
        · exact Or.inr ⟨by decide, "java/lang/IllegalArgumentException", hts _ (xWh_sub _ q146), hnc _ (by decide +kernel) _ (by decide +kernel) (by decide)⟩
      refine vx_catch (E := "java/util/NoSuchElementException") (name := "java/util/NoSuchElementException") hown [⟨0, 12, 15, 21⟩, ⟨0, 12, 19, 13⟩] ⟨0, 12, 23, 37⟩ [] htab hp9 (by decide) (by decide) (hts _ (xWh_sub _ q339)) (va_Nw.use rfl (hz.2.2.1 _ (by decide +kernel))) hq9 hc9 hn9 ?_
      refine lv_astore (lv' := [(5, .ref q9), (0, .ref (Γ.2.1 1470)), (1, .int v1), (2, .int v2), (3, .int v3), (4, .ref (Γ.2.1 1481))]) hx hb dL_canWith_23 hl (by decide) rfl (fun ls hl => ?_)
      refine lv_iconst (v := 3) hx hb dL_canWith_25 (by decide) ?_
      exact x_iret hx hb h (Option.some.inj hf) hr hlocks dL_canWith_26
    replace hf := xif_f hf c6
    cases hf
  · subst hv9
    replace hf := xthL_l hf
    refine lv_i2l (v := (y3).toInt64) hx hb dL_canWith_10 rfl ?_
    obtain ⟨M7, eM7, hf⟩ := xl_s hf
    refine x_last hx hb h kX_out (xin_in (by decide)) eM7 dL_canWith_11 (fun H locs h => ?_)
    refine lv_goto (tgt := 27) hx hb dL_canWith_12 (by decide) ?_
    refine lv_iconst (v := 0) hx hb dL_canWith_27 (by decide) ?_
    exact x_iret hx hb h (Option.some.inj hf) hr hlocks dL_canWith_28
theorem hdL_formulasWith : yL_formulasWith.cls ≠ "java/lang/invoke/MethodHandle" ∧ yL_formulasWith.cls ≠ "java/lang/invoke/VarHandle" ∧ (parseMethodDescriptor yL_formulasWith.desc).map (fun d => d.parameters.length) = some 4 := by decide +kernel
set_option maxHeartbeats 4000000 in
set_option maxRecDepth 100000 in
theorem m_L_formulasWith (l : Launch) {Γ : xG} {N : Nat} {v1 : Int32} {v2 : Int32} {M : xM} {res : xR} (hlt : l.stackTraces = false) (hf : F_L_formulasWith N v1 v2 M = some res) (sz : Nat) : Met l yL_formulasWith (xWh yL_formulasWith cL_formulasWith 5 (some .int) [(0, 10, 13, 21), (0, 10, 17, 13)]) ({ frames := 8, cells := 2, slots := 12, locals := 164 } : Room) (va_Pc [.ref (Γ.2.1 1470), .int v1, .int v2, .ref (Γ.2.1 1481)] (xPreL Γ (wX Γ) 1483 M sz)) (xCi Γ (wX Γ) 1483 res sz) 2 12 (xAd Γ 1483 sz) := by
  refine x_Lmet (Qc := fun sz => xCi Γ (wX Γ) 1483 res sz) pnL wG_W (Nat.le_of_ble_eq_true rfl) (fun p e s m args below meth c E htab hz hnc h ls hl => ?_) sz
  obtain ⟨⟨hx, hb, hml, hown, hts⟩, hr, hlocks⟩ := id E
  have hl : lv_has ls 5 [(0, .ref (Γ.2.1 1470)), (1, .int v1), (2, .int v2), (3, .ref (Γ.2.1 1481))] := hl
  refine lv_aload_n hx hb dL_formulasWith_0 rfl (lv_at hl 3 rfl) ?_
  refine lv_iconst (v := 0) hx hb dL_formulasWith_1 (by decide) ?_
  refine lv_aload_n hx hb dL_formulasWith_2 rfl (lv_at hl 0 rfl) ?_
  refine lv_iload_n hx hb dL_formulasWith_3 rfl (lv_at hl 1 rfl) ?_
  refine lv_iload_n hx hb dL_formulasWith_4 rfl (lv_at hl 2 rfl) ?_
  obtain ⟨r1, er1, hf⟩ := xbd_s hf
  refine x_XVi (As := [.int v1, .int v2]) (rest := [.int 0, .ref (Γ.2.1 1481)]) E.1 (m_X9_formulasWith l hlt er1) (cwV 2 hts (xgV xWh_sub q907 q908 q909 q2 q910) rfl rfl rfl hdX9_formulasWith ⟨Nat.le_of_ble_eq_true rfl, Nat.le_of_ble_eq_true rfl⟩) h hz kX_tint rfl rfl hl.1 rfl (Nat.le_of_ble_eq_true rfl) dL_formulasWith_5 ⟨Nat.le_of_ble_eq_true rfl, Nat.le_of_ble_eq_true rfl⟩ (fun Ex M9 hv9 H locs q9 ce9 h hq9 hc9 hn9 => ?_) (fun y3 M2 hv9 H locs h => ?_)
  · subst hv9
    replace hf := xthL_r hf
    by_cases c4 : Ex = "java/lang/IndexOutOfBoundsException"
    · subst c4
      replace hf := xif_t hf rfl
      refine vx_catch (E := "java/lang/IndexOutOfBoundsException") (name := "java/lang/IndexOutOfBoundsException") hown [] ⟨0, 10, 13, 21⟩ [⟨0, 10, 17, 13⟩] htab (fun z hz => absurd hz List.not_mem_nil) (by decide) (by decide) (hts _ (xWh_sub _ q232)) (va_Nw.use rfl (hz.2.2.1 _ (by decide +kernel))) hq9 hc9 hn9 ?_
      refine lv_astore (lv' := [(4, .ref q9), (0, .ref (Γ.2.1 1470)), (1, .int v1), (2, .int v2), (3, .ref (Γ.2.1 1481))]) hx hb dL_formulasWith_13 hl (by decide) rfl (fun ls hl => ?_)
      refine lv_iconst (v := 1) hx hb dL_formulasWith_15 (by decide) ?_
      exact x_iret hx hb h (Option.some.inj hf) hr hlocks dL_formulasWith_16
    replace hf := xif_f hf c4
    by_cases c5 : Ex = "java/lang/IllegalArgumentException"
    · subst c5
      replace hf := xif_t hf rfl
      have hp9 : ∀ z ∈ ([⟨0, 10, 13, 21⟩] : List ExceptionTableEntry), covers z 5 = false ∨ (z.catchType ≠ 0 ∧ ∃ nm : String, (Cond.classLink RL z.catchType nm).before args s = true ∧ va_Nc "java/lang/IllegalArgumentException" nm s) := by
        intro z hz
        simp only [List.mem_cons, List.not_mem_nil, or_false] at hz
        rcases hz with rfl
        · exact Or.inr ⟨by decide, "java/lang/IndexOutOfBoundsException", hts _ (xWh_sub _ q232), hnc _ (by decide +kernel) _ (by decide +kernel) (by decide)⟩
      refine vx_catch (E := "java/lang/IllegalArgumentException") (name := "java/lang/IllegalArgumentException") hown [⟨0, 10, 13, 21⟩] ⟨0, 10, 17, 13⟩ [] htab hp9 (by decide) (by decide) (hts _ (xWh_sub _ q146)) (va_Nw.use rfl (hz.2.2.1 _ (by decide +kernel))) hq9 hc9 hn9 ?_
      refine lv_astore (lv' := [(4, .ref q9), (0, .ref (Γ.2.1 1470)), (1, .int v1), (2, .int v2), (3, .ref (Γ.2.1 1481))]) hx hb dL_formulasWith_17 hl (by decide) rfl (fun ls hl => ?_)
      refine lv_iconst (v := 2) hx hb dL_formulasWith_19 (by decide) ?_
      exact x_iret hx hb h (Option.some.inj hf) hr hlocks dL_formulasWith_20
    replace hf := xif_f hf c5
    cases hf
  · subst hv9
    replace hf := xthL_l hf
    refine lv_i2l (v := (y3).toInt64) hx hb dL_formulasWith_8 rfl ?_
    obtain ⟨M6, eM6, hf⟩ := xl_s hf
    refine x_last hx hb h kX_out (xin_in (by decide)) eM6 dL_formulasWith_9 (fun H locs h => ?_)
    refine lv_goto (tgt := 21) hx hb dL_formulasWith_10 (by decide) ?_
    refine lv_iconst (v := 0) hx hb dL_formulasWith_21 (by decide) ?_
    exact x_iret hx hb h (Option.some.inj hf) hr hlocks dL_formulasWith_22
theorem hdL_labelLength : yL_labelLength.cls ≠ "java/lang/invoke/MethodHandle" ∧ yL_labelLength.cls ≠ "java/lang/invoke/VarHandle" ∧ (parseMethodDescriptor yL_labelLength.desc).map (fun d => d.parameters.length) = some 3 := by decide +kernel
set_option maxHeartbeats 4000000 in
set_option maxRecDepth 100000 in
theorem m_L_labelLength (l : Launch) {Γ : xG} {N : Nat} {v1 : Int32} {M : xM} {res : xR} (hlt : l.stackTraces = false) (hf : F_L_labelLength N v1 M = some res) (sz : Nat) : Met l yL_labelLength (xWh yL_labelLength cL_labelLength 4 (some .int) [(0, 9, 12, 21)]) ({ frames := 8, cells := 1, slots := 6, locals := 162 } : Room) (va_Pc [.ref (Γ.2.1 1470), .int v1, .ref (Γ.2.1 1481)] (xPreL Γ (wX Γ) 1483 M sz)) (xCi Γ (wX Γ) 1483 res sz) 1 6 (xAd Γ 1483 sz) := by
  refine x_Lmet (Qc := fun sz => xCi Γ (wX Γ) 1483 res sz) pnL wG_W (Nat.le_of_ble_eq_true rfl) (fun p e s m args below meth c E htab hz hnc h ls hl => ?_) sz
  obtain ⟨⟨hx, hb, hml, hown, hts⟩, hr, hlocks⟩ := id E
  have hl : lv_has ls 4 [(0, .ref (Γ.2.1 1470)), (1, .int v1), (2, .ref (Γ.2.1 1481))] := hl
  refine lv_aload_n hx hb dL_labelLength_0 rfl (lv_at hl 2 rfl) ?_
  refine lv_iconst (v := 0) hx hb dL_labelLength_1 (by decide) ?_
  refine lv_aload_n hx hb dL_labelLength_2 rfl (lv_at hl 0 rfl) ?_
  refine lv_iload_n hx hb dL_labelLength_3 rfl (lv_at hl 1 rfl) ?_
  obtain ⟨r1, er1, hf⟩ := xbd_s hf
  refine x_XVi (As := [.int v1]) (rest := [.int 0, .ref (Γ.2.1 1481)]) E.1 (m_X9_labelLength l hlt er1) (cwV 1 hts (xgV xWh_sub q922 q923 q924 q2 q925) rfl rfl rfl hdX9_labelLength ⟨Nat.le_of_ble_eq_true rfl, Nat.le_of_ble_eq_true rfl⟩) h hz kX_tint rfl rfl hl.1 rfl (Nat.le_of_ble_eq_true rfl) dL_labelLength_4 ⟨Nat.le_of_ble_eq_true rfl, Nat.le_of_ble_eq_true rfl⟩ (fun Ex M9 hv9 H locs q9 ce9 h hq9 hc9 hn9 => ?_) (fun y3 M2 hv9 H locs h => ?_)
  · subst hv9
    replace hf := xthL_r hf
    by_cases c4 : Ex = "java/lang/IndexOutOfBoundsException"
    · subst c4
      replace hf := xif_t hf rfl
      refine vx_catch (E := "java/lang/IndexOutOfBoundsException") (name := "java/lang/IndexOutOfBoundsException") hown [] ⟨0, 9, 12, 21⟩ [] htab (fun z hz => absurd hz List.not_mem_nil) (by decide) (by decide) (hts _ (xWh_sub _ q232)) (va_Nw.use rfl (hz.2.2.1 _ (by decide +kernel))) hq9 hc9 hn9 ?_
      refine lv_astore_n (lv' := [(3, .ref q9), (0, .ref (Γ.2.1 1470)), (1, .int v1), (2, .ref (Γ.2.1 1481))]) hx hb dL_labelLength_12 rfl hl (by decide) rfl (fun ls hl => ?_)
      refine lv_iconst (v := 1) hx hb dL_labelLength_13 (by decide) ?_
      exact x_iret hx hb h (Option.some.inj hf) hr hlocks dL_labelLength_14
    replace hf := xif_f hf c4
    cases hf
  · subst hv9
    replace hf := xthL_l hf
    refine lv_i2l (v := (y3).toInt64) hx hb dL_labelLength_7 rfl ?_
    obtain ⟨M5, eM5, hf⟩ := xl_s hf
    refine x_last hx hb h kX_out (xin_in (by decide)) eM5 dL_labelLength_8 (fun H locs h => ?_)
    refine lv_goto (tgt := 15) hx hb dL_labelLength_9 (by decide) ?_
    refine lv_iconst (v := 0) hx hb dL_labelLength_15 (by decide) ?_
    exact x_iret hx hb h (Option.some.inj hf) hr hlocks dL_labelLength_16
theorem hdL_label : yL_label.cls ≠ "java/lang/invoke/MethodHandle" ∧ yL_label.cls ≠ "java/lang/invoke/VarHandle" ∧ (parseMethodDescriptor yL_label.desc).map (fun d => d.parameters.length) = some 4 := by decide +kernel
set_option maxHeartbeats 4000000 in
set_option maxRecDepth 100000 in
theorem m_L_label (l : Launch) {Γ : xG} {N : Nat} {v1 : Int32} {v2 : Int32} {M : xM} {res : xR} (hlt : l.stackTraces = false) (hf : F_L_label N v1 v2 M = some res) (sz : Nat) : Met l yL_label (xWh yL_label cL_label 5 (some .int) [(0, 10, 13, 21), (0, 10, 17, 37)]) ({ frames := 8, cells := 2, slots := 12, locals := 163 } : Room) (va_Pc [.ref (Γ.2.1 1470), .int v1, .int v2, .ref (Γ.2.1 1481)] (xPreL Γ (wX Γ) 1483 M sz)) (xCi Γ (wX Γ) 1483 res sz) 2 12 (xAd Γ 1483 sz) := by
  refine x_Lmet (Qc := fun sz => xCi Γ (wX Γ) 1483 res sz) pnL wG_W (Nat.le_of_ble_eq_true rfl) (fun p e s m args below meth c E htab hz hnc h ls hl => ?_) sz
  obtain ⟨⟨hx, hb, hml, hown, hts⟩, hr, hlocks⟩ := id E
  have hl : lv_has ls 5 [(0, .ref (Γ.2.1 1470)), (1, .int v1), (2, .int v2), (3, .ref (Γ.2.1 1481))] := hl
  refine lv_aload_n hx hb dL_label_0 rfl (lv_at hl 3 rfl) ?_
  refine lv_iconst (v := 0) hx hb dL_label_1 (by decide) ?_
  refine lv_aload_n hx hb dL_label_2 rfl (lv_at hl 0 rfl) ?_
  refine lv_iload_n hx hb dL_label_3 rfl (lv_at hl 1 rfl) ?_
  refine lv_iload_n hx hb dL_label_4 rfl (lv_at hl 2 rfl) ?_
  obtain ⟨r1, er1, hf⟩ := xbd_s hf
  refine x_XVi (As := [.int v1, .int v2]) (rest := [.int 0, .ref (Γ.2.1 1481)]) E.1 (m_X9_label l hlt er1) (cwV 2 hts (xgV xWh_sub q968 q969 q970 q2 q971) rfl rfl rfl hdX9_label ⟨Nat.le_of_ble_eq_true rfl, Nat.le_of_ble_eq_true rfl⟩) h hz kX_tint rfl rfl hl.1 rfl (Nat.le_of_ble_eq_true rfl) dL_label_5 ⟨Nat.le_of_ble_eq_true rfl, Nat.le_of_ble_eq_true rfl⟩ (fun Ex M9 hv9 H locs q9 ce9 h hq9 hc9 hn9 => ?_) (fun y3 M2 hv9 H locs h => ?_)
  · subst hv9
    replace hf := xthL_r hf
    by_cases c4 : Ex = "java/lang/IndexOutOfBoundsException"
    · subst c4
      replace hf := xif_t hf rfl
      refine vx_catch (E := "java/lang/IndexOutOfBoundsException") (name := "java/lang/IndexOutOfBoundsException") hown [] ⟨0, 10, 13, 21⟩ [⟨0, 10, 17, 37⟩] htab (fun z hz => absurd hz List.not_mem_nil) (by decide) (by decide) (hts _ (xWh_sub _ q232)) (va_Nw.use rfl (hz.2.2.1 _ (by decide +kernel))) hq9 hc9 hn9 ?_
      refine lv_astore (lv' := [(4, .ref q9), (0, .ref (Γ.2.1 1470)), (1, .int v1), (2, .int v2), (3, .ref (Γ.2.1 1481))]) hx hb dL_label_13 hl (by decide) rfl (fun ls hl => ?_)
      refine lv_iconst (v := 1) hx hb dL_label_15 (by decide) ?_
      exact x_iret hx hb h (Option.some.inj hf) hr hlocks dL_label_16
    replace hf := xif_f hf c4
    by_cases c5 : Ex = "java/util/NoSuchElementException"
    · subst c5
      replace hf := xif_t hf rfl
      have hp9 : ∀ z ∈ ([⟨0, 10, 13, 21⟩] : List ExceptionTableEntry), covers z 5 = false ∨ (z.catchType ≠ 0 ∧ ∃ nm : String, (Cond.classLink RL z.catchType nm).before args s = true ∧ va_Nc "java/util/NoSuchElementException" nm s) := by
        intro z hz
        simp only [List.mem_cons, List.not_mem_nil, or_false] at hz
        rcases hz with rfl
        · exact Or.inr ⟨by decide, "java/lang/IndexOutOfBoundsException", hts _ (xWh_sub _ q232), hnc _ (by decide +kernel) _ (by decide +kernel) (by decide)⟩
      refine vx_catch (E := "java/util/NoSuchElementException") (name := "java/util/NoSuchElementException") hown [⟨0, 10, 13, 21⟩] ⟨0, 10, 17, 37⟩ [] htab hp9 (by decide) (by decide) (hts _ (xWh_sub _ q339)) (va_Nw.use rfl (hz.2.2.1 _ (by decide +kernel))) hq9 hc9 hn9 ?_
      refine lv_astore (lv' := [(4, .ref q9), (0, .ref (Γ.2.1 1470)), (1, .int v1), (2, .int v2), (3, .ref (Γ.2.1 1481))]) hx hb dL_label_17 hl (by decide) rfl (fun ls hl => ?_)
      refine lv_iconst (v := 2) hx hb dL_label_19 (by decide) ?_
      exact x_iret hx hb h (Option.some.inj hf) hr hlocks dL_label_20
    replace hf := xif_f hf c5
    cases hf
  · subst hv9
    replace hf := xthL_l hf
    refine lv_i2l (v := (y3).toInt64) hx hb dL_label_8 rfl ?_
    obtain ⟨M6, eM6, hf⟩ := xl_s hf
    refine x_last hx hb h kX_out (xin_in (by decide)) eM6 dL_label_9 (fun H locs h => ?_)
    refine lv_goto (tgt := 21) hx hb dL_label_10 (by decide) ?_
    refine lv_iconst (v := 0) hx hb dL_label_21 (by decide) ?_
    exact x_iret hx hb h (Option.some.inj hf) hr hlocks dL_label_22
theorem hdL_account : yL_account.cls ≠ "java/lang/invoke/MethodHandle" ∧ yL_account.cls ≠ "java/lang/invoke/VarHandle" ∧ (parseMethodDescriptor yL_account.desc).map (fun d => d.parameters.length) = some 3 := by decide +kernel
set_option maxHeartbeats 4000000 in
set_option maxRecDepth 100000 in
theorem m_L_account (l : Launch) {Γ : xG} {N : Nat} {v1 : Int32} {M : xM} {res : xR} (hlt : l.stackTraces = false) (hf : F_L_account N v1 M = some res) (sz : Nat) : Met l yL_account (xWh yL_account cL_account 4 (some .int) [(0, 9, 12, 13)]) ({ frames := 8, cells := 1, slots := 6, locals := 170 } : Room) (va_Pc [.ref (Γ.2.1 1470), .int v1, .ref (Γ.2.1 1481)] (xPreL Γ (wX Γ) 1483 M sz)) (xCi Γ (wX Γ) 1483 res sz) 1 6 (xAd Γ 1483 sz) := by
  refine x_Lmet (Qc := fun sz => xCi Γ (wX Γ) 1483 res sz) pnL wG_W (Nat.le_of_ble_eq_true rfl) (fun p e s m args below meth c E htab hz hnc h ls hl => ?_) sz
  obtain ⟨⟨hx, hb, hml, hown, hts⟩, hr, hlocks⟩ := id E
  have hl : lv_has ls 4 [(0, .ref (Γ.2.1 1470)), (1, .int v1), (2, .ref (Γ.2.1 1481))] := hl
  refine lv_aload_n hx hb dL_account_0 rfl (lv_at hl 2 rfl) ?_
  refine lv_iconst (v := 0) hx hb dL_account_1 (by decide) ?_
  refine lv_aload_n hx hb dL_account_2 rfl (lv_at hl 0 rfl) ?_
  refine lv_iload_n hx hb dL_account_3 rfl (lv_at hl 1 rfl) ?_
  obtain ⟨r1, er1, hf⟩ := xbd_s hf
  refine x_XVi (As := [.int v1]) (rest := [.int 0, .ref (Γ.2.1 1481)]) E.1 (m_X9_account l hlt er1) (cwV 1 hts (xgV xWh_sub q1002 q1003 q1004 q2 q1005) rfl rfl rfl hdX9_account ⟨Nat.le_of_ble_eq_true rfl, Nat.le_of_ble_eq_true rfl⟩) h hz kX_tint rfl rfl hl.1 rfl (Nat.le_of_ble_eq_true rfl) dL_account_4 ⟨Nat.le_of_ble_eq_true rfl, Nat.le_of_ble_eq_true rfl⟩ (fun Ex M9 hv9 H locs q9 ce9 h hq9 hc9 hn9 => ?_) (fun y3 M2 hv9 H locs h => ?_)
  · subst hv9
    replace hf := xthL_r hf
    by_cases c4 : Ex = "java/lang/IllegalArgumentException"
    · subst c4
      replace hf := xif_t hf rfl
      refine vx_catch (E := "java/lang/IllegalArgumentException") (name := "java/lang/IllegalArgumentException") hown [] ⟨0, 9, 12, 13⟩ [] htab (fun z hz => absurd hz List.not_mem_nil) (by decide) (by decide) (hts _ (xWh_sub _ q146)) (va_Nw.use rfl (hz.2.2.1 _ (by decide +kernel))) hq9 hc9 hn9 ?_
      refine lv_astore_n (lv' := [(3, .ref q9), (0, .ref (Γ.2.1 1470)), (1, .int v1), (2, .ref (Γ.2.1 1481))]) hx hb dL_account_12 rfl hl (by decide) rfl (fun ls hl => ?_)
      refine lv_iconst (v := 1) hx hb dL_account_13 (by decide) ?_
      exact x_iret hx hb h (Option.some.inj hf) hr hlocks dL_account_14
    replace hf := xif_f hf c4
    cases hf
  · subst hv9
    replace hf := xthL_l hf
    refine lv_i2l (v := (y3).toInt64) hx hb dL_account_7 rfl ?_
    obtain ⟨M5, eM5, hf⟩ := xl_s hf
    refine x_last hx hb h kX_out (xin_in (by decide)) eM5 dL_account_8 (fun H locs h => ?_)
    refine lv_goto (tgt := 15) hx hb dL_account_9 (by decide) ?_
    refine lv_iconst (v := 0) hx hb dL_account_15 (by decide) ?_
    exact x_iret hx hb h (Option.some.inj hf) hr hlocks dL_account_16
theorem hdL_undo : yL_undo.cls ≠ "java/lang/invoke/MethodHandle" ∧ yL_undo.cls ≠ "java/lang/invoke/VarHandle" ∧ (parseMethodDescriptor yL_undo.desc).map (fun d => d.parameters.length) = some 2 := by decide +kernel
set_option maxHeartbeats 4000000 in
set_option maxRecDepth 100000 in
theorem m_L_undo (l : Launch) {Γ : xG} {N : Nat} {M : xM} {res : xR} (hlt : l.stackTraces = false) (hf : F_L_undo N M = some res) (sz : Nat) : Met l yL_undo (xWh yL_undo cL_undo 3 (some .int) [(0, 8, 11, 15)]) ({ frames := 7, cells := 1, slots := 6, locals := 204 } : Room) (va_Pc [.ref (Γ.2.1 1470), .ref (Γ.2.1 1481)] (xPreL Γ (wX Γ) 1483 M sz)) (xCi Γ (wX Γ) 1483 res sz) 1 6 (xAd Γ 1483 sz) := by
  refine x_Lmet (Qc := fun sz => xCi Γ (wX Γ) 1483 res sz) pnL wG_W (Nat.le_of_ble_eq_true rfl) (fun p e s m args below meth c E htab hz hnc h ls hl => ?_) sz
  obtain ⟨⟨hx, hb, hml, hown, hts⟩, hr, hlocks⟩ := id E
  have hl : lv_has ls 3 [(0, .ref (Γ.2.1 1470)), (1, .ref (Γ.2.1 1481))] := hl
  refine lv_aload_n hx hb dL_undo_0 rfl (lv_at hl 1 rfl) ?_
  refine lv_iconst (v := 0) hx hb dL_undo_1 (by decide) ?_
  refine lv_aload_n hx hb dL_undo_2 rfl (lv_at hl 0 rfl) ?_
  obtain ⟨r1, er1, hf⟩ := xbd_s hf
  refine x_XVi (As := []) (rest := [.int 0, .ref (Γ.2.1 1481)]) E.1 (m_X9_undo l hlt er1) (cwV 0 hts (xgV xWh_sub q1040 q1041 q1042 q2 q1043) rfl rfl rfl hdX9_undo ⟨Nat.le_of_ble_eq_true rfl, Nat.le_of_ble_eq_true rfl⟩) h hz kX_tint rfl rfl hl.1 rfl (Nat.le_of_ble_eq_true rfl) dL_undo_3 ⟨Nat.le_of_ble_eq_true rfl, Nat.le_of_ble_eq_true rfl⟩ (fun Ex M9 hv9 H locs q9 ce9 h hq9 hc9 hn9 => ?_) (fun y3 M2 hv9 H locs h => ?_)
  · subst hv9
    replace hf := xthL_r hf
    by_cases c4 : Ex = "java/lang/IllegalStateException"
    · subst c4
      replace hf := xif_t hf rfl
      refine vx_catch (E := "java/lang/IllegalStateException") (name := "java/lang/IllegalStateException") hown [] ⟨0, 8, 11, 15⟩ [] htab (fun z hz => absurd hz List.not_mem_nil) (by decide) (by decide) (hts _ (xWh_sub _ q147)) (va_Nw.use rfl (hz.2.2.1 _ (by decide +kernel))) hq9 hc9 hn9 ?_
      refine lv_astore_n (lv' := [(2, .ref q9), (0, .ref (Γ.2.1 1470)), (1, .ref (Γ.2.1 1481))]) hx hb dL_undo_11 rfl hl (by decide) rfl (fun ls hl => ?_)
      refine lv_iconst (v := 1) hx hb dL_undo_12 (by decide) ?_
      exact x_iret hx hb h (Option.some.inj hf) hr hlocks dL_undo_13
    replace hf := xif_f hf c4
    cases hf
  · subst hv9
    replace hf := xthL_l hf
    refine lv_i2l (v := (y3).toInt64) hx hb dL_undo_6 rfl ?_
    obtain ⟨M5, eM5, hf⟩ := xl_s hf
    refine x_last hx hb h kX_out (xin_in (by decide)) eM5 dL_undo_7 (fun H locs h => ?_)
    refine lv_goto (tgt := 14) hx hb dL_undo_8 (by decide) ?_
    refine lv_iconst (v := 0) hx hb dL_undo_14 (by decide) ?_
    exact x_iret hx hb h (Option.some.inj hf) hr hlocks dL_undo_15
theorem hdL_restore : yL_restore.cls ≠ "java/lang/invoke/MethodHandle" ∧ yL_restore.cls ≠ "java/lang/invoke/VarHandle" ∧ (parseMethodDescriptor yL_restore.desc).map (fun d => d.parameters.length) = some 1 := by decide +kernel
set_option maxHeartbeats 4000000 in
set_option maxRecDepth 100000 in
theorem m_L_restore (l : Launch) {Γ : xG} {N : Nat} {M : xM} {res : xR} (hlt : l.stackTraces = false) (hf : F_L_restore N M = some res) (sz : Nat) : Met l yL_restore (xWh yL_restore cL_restore 2 (some .int) [(0, 4, 7, 15)]) ({ frames := 7, cells := 1, slots := 6, locals := 183 } : Room) (va_Pc [.ref (Γ.2.1 1470)] (xPreL Γ (wX Γ) 1483 M sz)) (xCi Γ (wX Γ) 1483 res sz) 1 6 (xAd Γ 1483 sz) := by
  refine x_Lmet (Qc := fun sz => xCi Γ (wX Γ) 1483 res sz) pnL wG_W (Nat.le_of_ble_eq_true rfl) (fun p e s m args below meth c E htab hz hnc h ls hl => ?_) sz
  obtain ⟨⟨hx, hb, hml, hown, hts⟩, hr, hlocks⟩ := id E
  have hl : lv_has ls 2 [(0, .ref (Γ.2.1 1470))] := hl
  refine lv_aload_n hx hb dL_restore_0 rfl (lv_at hl 0 rfl) ?_
  obtain ⟨r1, er1, hf⟩ := xbd_s hf
  refine x_XVv (As := []) (rest := []) E.1 (m_X9_restore l hlt er1) (cwV 0 hts (xgV xWh_sub q1066 q1067 q1068 q2 q1069) rfl rfl rfl hdX9_restore ⟨Nat.le_of_ble_eq_true rfl, Nat.le_of_ble_eq_true rfl⟩) h hz kX_tint rfl rfl hl.1 rfl (Nat.le_of_ble_eq_true rfl) dL_restore_1 ⟨Nat.le_of_ble_eq_true rfl, Nat.le_of_ble_eq_true rfl⟩ (fun Ex M9 hv9 H locs q9 ce9 h hq9 hc9 hn9 => ?_) (fun M2 hv9 H locs h => ?_)
  · subst hv9
    replace hf := xthL_r hf
    by_cases c4 : Ex = "java/lang/IllegalStateException"
    · subst c4
      replace hf := xif_t hf rfl
      refine vx_catch (E := "java/lang/IllegalStateException") (name := "java/lang/IllegalStateException") hown [] ⟨0, 4, 7, 15⟩ [] htab (fun z hz => absurd hz List.not_mem_nil) (by decide) (by decide) (hts _ (xWh_sub _ q147)) (va_Nw.use rfl (hz.2.2.1 _ (by decide +kernel))) hq9 hc9 hn9 ?_
      refine lv_astore_n (lv' := [(1, .ref q9), (0, .ref (Γ.2.1 1470))]) hx hb dL_restore_7 rfl hl (by decide) rfl (fun ls hl => ?_)
      refine lv_iconst (v := 1) hx hb dL_restore_8 (by decide) ?_
      exact x_iret hx hb h (Option.some.inj hf) hr hlocks dL_restore_9
    replace hf := xif_f hf c4
    cases hf
  · subst hv9
    replace hf := xthL_l hf
    refine lv_goto (tgt := 10) hx hb dL_restore_4 (by decide) ?_
    refine lv_iconst (v := 0) hx hb dL_restore_10 (by decide) ?_
    exact x_iret hx hb h (Option.some.inj hf) hr hlocks dL_restore_11
