theorem hdX10_closest : yX10_closest.cls = RX10 ∧ yX10_closest.cls ≠ "java/lang/invoke/MethodHandle" ∧ yX10_closest.cls ≠ "java/lang/invoke/VarHandle" ∧ (parseMethodDescriptor yX10_closest.desc).map (fun d => d.parameters.length) = some 1 := by decide +kernel
set_option maxHeartbeats 4000000 in
set_option maxRecDepth 100000 in
theorem w_X10_closest_98 (l : Launch) {p : Program} {e : Env} {s : State} {m : MethodId} {args : Array Value} {below : List Frame} {meth : Method} {c : Code} {Γ : xG} {N : Nat} {res : xR} (E : xEv p s m args meth c RX10 cX10_closest 8 (some .int) (xWs yX10_closest cX10_closest 8 (some .int))) {K_38 : Int32 → Int32 → Int32 → Int32 → Int32 → Int32 → xM → Option xR} (hK_38 : ∀ (v1 : Int32) (v2 : Int32) (v3 : Int32) (v4 : Int32) (v5 : Int32) (v6 : Int32) (M : xM), K_38 v1 v2 v3 v4 v5 v6 M = some res → ∀ (H : Heap) (locs : List Loc) (ls : Array Slot), xH Γ (wR Γ) 10 s M H locs → lv_has ls 8 [(0, .ref (Γ.2.1 0)), (1, .int v1), (2, .int v2), (3, .int v3), (4, .int v4), (5, .int v5), (6, .int v6)] → W p l e ({ frames := 3, cells := 0, slots := 0, locals := 83 } : Room) s m args below meth c H locs 0 0 (MQ below (xCi Γ (wR Γ) 10 res s.heap.size) args s 0 0 (xAd Γ 10 s.heap.size)) (F0 m 38 ls [])) : ∀ (v1 : Int32) (v2 : Int32) (v3 : Int32) (v4 : Int32) (v6 : Int32) (t0 : Int32) (t1 : Int32) (M : xM), L_X10_closest_98 N K_38 v1 v2 v3 v4 v6 t0 t1 M = some res → ∀ (H : Heap) (locs : List Loc) (ls : Array Slot), xH Γ (wR Γ) 10 s M H locs → lv_has ls 8 [(0, .ref (Γ.2.1 0)), (1, .int v1), (2, .int v2), (3, .int v3), (4, .int v4), (6, .int v6)] → W p l e ({ frames := 3, cells := 0, slots := 0, locals := 83 } : Room) s m args below meth c H locs 0 0 (MQ below (xCi Γ (wR Γ) 10 res s.heap.size) args s 0 0 (xAd Γ 10 s.heap.size)) (F0 m 98 ls [.int t0, .int t1]) := by
  obtain ⟨⟨hx, hb, hml, hown, hts⟩, hr, hlocks⟩ := id E
  intro v1 v2 v3 v4 v6 t0 t1 M hf H locs ls h hl
  refine lv_iadd hx hb dX10_closest_98 ?_
  obtain ⟨y1, ey1, hf⟩ := xl_s hf
  refine x_nm ey1 ?_
  refine lv_istore (lv' := [(5, .int y1), (0, .ref (Γ.2.1 0)), (1, .int v1), (2, .int v2), (3, .int v3), (4, .int v4), (6, .int v6)]) hx hb dX10_closest_99 hl (by decide) rfl (fun ls hl => ?_)
  obtain ⟨y2, ey2, hf⟩ := xl_s hf
  refine lv_iinc (v := y2) (lv' := [(6, .int y2), (5, .int y1), (0, .ref (Γ.2.1 0)), (1, .int v1), (2, .int v2), (3, .int v3), (4, .int v4)]) hx hb dX10_closest_101 hl (k := 6) rfl (by rw [ey2]; rfl) (by decide) rfl (fun ls hl => ?_)
  refine lv_goto (tgt := 38) hx hb dX10_closest_104 (by decide) ?_
  exact hK_38 v1 v2 v3 v4 y1 y2 M hf _ _ _ h (lv_sub hl [2, 3, 4, 5, 6, 1, 0] rfl)
set_option maxHeartbeats 4000000 in
set_option maxRecDepth 100000 in
theorem w_X10_closest_141 (l : Launch) {p : Program} {e : Env} {s : State} {m : MethodId} {args : Array Value} {below : List Frame} {meth : Method} {c : Code} {Γ : xG} {N : Nat} {res : xR} (E : xEv p s m args meth c RX10 cX10_closest 8 (some .int) (xWs yX10_closest cX10_closest 8 (some .int))) {K_147 : Int32 → Int32 → Int32 → Int32 → xM → Option xR} (hK_147 : ∀ (v1 : Int32) (v2 : Int32) (v3 : Int32) (v4 : Int32) (M : xM), K_147 v1 v2 v3 v4 M = some res → ∀ (H : Heap) (locs : List Loc) (ls : Array Slot), xH Γ (wR Γ) 10 s M H locs → lv_has ls 8 [(0, .ref (Γ.2.1 0)), (1, .int v1), (2, .int v2), (3, .int v3), (4, .int v4)] → W p l e ({ frames := 3, cells := 0, slots := 0, locals := 83 } : Room) s m args below meth c H locs 0 0 (MQ below (xCi Γ (wR Γ) 10 res s.heap.size) args s 0 0 (xAd Γ 10 s.heap.size)) (F0 m 147 ls [])) : ∀ (v1 : Int32) (v4 : Int32) (v5 : Int32) (M : xM), L_X10_closest_141 N K_147 v1 v4 v5 M = some res → ∀ (H : Heap) (locs : List Loc) (ls : Array Slot), xH Γ (wR Γ) 10 s M H locs → lv_has ls 8 [(0, .ref (Γ.2.1 0)), (1, .int v1), (4, .int v4), (5, .int v5)] → W p l e ({ frames := 3, cells := 0, slots := 0, locals := 83 } : Room) s m args below meth c H locs 0 0 (MQ below (xCi Γ (wR Γ) 10 res s.heap.size) args s 0 0 (xAd Γ 10 s.heap.size)) (F0 m 141 ls []) := by
  obtain ⟨⟨hx, hb, hml, hown, hts⟩, hr, hlocks⟩ := id E
  intro v1 v4 v5 M hf H locs ls h hl
  refine lv_iload hx hb dX10_closest_141 (lv_at hl 2 rfl) ?_
  refine lv_istore_n (lv' := [(2, .int v4), (0, .ref (Γ.2.1 0)), (1, .int v1), (4, .int v4), (5, .int v5)]) hx hb dX10_closest_143 rfl hl (by decide) rfl (fun ls hl => ?_)
  refine lv_iload hx hb dX10_closest_144 (lv_at hl 4 rfl) ?_
  refine lv_istore_n (lv' := [(3, .int v5), (2, .int v4), (0, .ref (Γ.2.1 0)), (1, .int v1), (4, .int v4), (5, .int v5)]) hx hb dX10_closest_146 rfl hl (by decide) rfl (fun ls hl => ?_)
  exact hK_147 v1 v4 v5 v4 M hf _ _ _ h (lv_sub hl [2, 3, 1, 0, 4] rfl)
set_option maxHeartbeats 4000000 in
set_option maxRecDepth 100000 in
theorem w_X10_closest_147 (l : Launch) {p : Program} {e : Env} {s : State} {m : MethodId} {args : Array Value} {below : List Frame} {meth : Method} {c : Code} {Γ : xG} {N : Nat} {res : xR} (E : xEv p s m args meth c RX10 cX10_closest 8 (some .int) (xWs yX10_closest cX10_closest 8 (some .int))) {K_21 : Int32 → Int32 → Int32 → Int32 → xM → Option xR} (hK_21 : ∀ (v1 : Int32) (v2 : Int32) (v3 : Int32) (v4 : Int32) (M : xM), K_21 v1 v2 v3 v4 M = some res → ∀ (H : Heap) (locs : List Loc) (ls : Array Slot), xH Γ (wR Γ) 10 s M H locs → lv_has ls 8 [(0, .ref (Γ.2.1 0)), (1, .int v1), (2, .int v2), (3, .int v3), (4, .int v4)] → W p l e ({ frames := 3, cells := 0, slots := 0, locals := 83 } : Room) s m args below meth c H locs 0 0 (MQ below (xCi Γ (wR Γ) 10 res s.heap.size) args s 0 0 (xAd Γ 10 s.heap.size)) (F0 m 21 ls [])) : ∀ (v1 : Int32) (v2 : Int32) (v3 : Int32) (v4 : Int32) (M : xM), L_X10_closest_147 N K_21 v1 v2 v3 v4 M = some res → ∀ (H : Heap) (locs : List Loc) (ls : Array Slot), xH Γ (wR Γ) 10 s M H locs → lv_has ls 8 [(0, .ref (Γ.2.1 0)), (1, .int v1), (2, .int v2), (3, .int v3), (4, .int v4)] → W p l e ({ frames := 3, cells := 0, slots := 0, locals := 83 } : Room) s m args below meth c H locs 0 0 (MQ below (xCi Γ (wR Γ) 10 res s.heap.size) args s 0 0 (xAd Γ 10 s.heap.size)) (F0 m 147 ls []) := by
  obtain ⟨⟨hx, hb, hml, hown, hts⟩, hr, hlocks⟩ := id E
  intro v1 v2 v3 v4 M hf H locs ls h hl
  obtain ⟨y1, ey1, hf⟩ := xl_s hf
  refine lv_iinc (v := y1) (lv' := [(4, .int y1), (0, .ref (Γ.2.1 0)), (1, .int v1), (2, .int v2), (3, .int v3)]) hx hb dX10_closest_147 hl (k := 4) rfl (by rw [ey1]; rfl) (by decide) rfl (fun ls hl => ?_)
  refine lv_goto (tgt := 21) hx hb dX10_closest_150 (by decide) ?_
  exact hK_21 v1 v2 v3 y1 M hf _ _ _ h (lv_sub hl [1, 2, 3, 4, 0] rfl)
set_option maxHeartbeats 4000000 in
set_option maxRecDepth 100000 in
theorem w_X10_closest_38 (l : Launch) {p : Program} {e : Env} {s : State} {m : MethodId} {args : Array Value} {below : List Frame} {meth : Method} {c : Code} {Γ : xG} {N : Nat} {res : xR} (E : xEv p s m args meth c RX10 cX10_closest 8 (some .int) (xWs yX10_closest cX10_closest 8 (some .int))) {K_21 : Int32 → Int32 → Int32 → Int32 → xM → Option xR} (hK_21 : ∀ (v1 : Int32) (v2 : Int32) (v3 : Int32) (v4 : Int32) (M : xM), K_21 v1 v2 v3 v4 M = some res → ∀ (H : Heap) (locs : List Loc) (ls : Array Slot), xH Γ (wR Γ) 10 s M H locs → lv_has ls 8 [(0, .ref (Γ.2.1 0)), (1, .int v1), (2, .int v2), (3, .int v3), (4, .int v4)] → W p l e ({ frames := 3, cells := 0, slots := 0, locals := 83 } : Room) s m args below meth c H locs 0 0 (MQ below (xCi Γ (wR Γ) 10 res s.heap.size) args s 0 0 (xAd Γ 10 s.heap.size)) (F0 m 21 ls [])) : ∀ (n : Nat) (v1 : Int32) (v2 : Int32) (v3 : Int32) (v4 : Int32) (v5 : Int32) (v6 : Int32) (M : xM), L_X10_closest_38 N K_21 n v1 v2 v3 v4 v5 v6 M = some res → ∀ (H : Heap) (locs : List Loc) (ls : Array Slot), xH Γ (wR Γ) 10 s M H locs → lv_has ls 8 [(0, .ref (Γ.2.1 0)), (1, .int v1), (2, .int v2), (3, .int v3), (4, .int v4), (5, .int v5), (6, .int v6)] → W p l e ({ frames := 3, cells := 0, slots := 0, locals := 83 } : Room) s m args below meth c H locs 0 0 (MQ below (xCi Γ (wR Γ) 10 res s.heap.size) args s 0 0 (xAd Γ 10 s.heap.size)) (F0 m 38 ls []) := by
  obtain ⟨⟨hx, hb, hml, hown, hts⟩, hr, hlocks⟩ := id E
  intro n
  induction n with
  | zero => intro v1 v2 v3 v4 v5 v6 M hf; cases hf
  | succ n ih =>
    intro v1 v2 v3 v4 v5 v6 M hf H locs ls h hl
    refine lv_iload hx hb dX10_closest_38 (lv_at hl 6 rfl) ?_
    refine lv_aload_n hx hb dX10_closest_40 rfl (lv_at hl 0 rfl) ?_
    refine x_get (own := RX10) (ref := "TintDeskModel") (C := RX10) (T := TX10) (n := 20) (index := 9) (v := .ref (Γ.2.1 1)) hx hb hts (fun w h => xU_sub w (inU10 w h)) hown h kR_model rfl 1 (by decide) (hts _ (xU_sub _ q132)) (fun _ h9 => h9) rfl dX10_closest_41 ?_
    refine lv_iconst (v := 0) hx hb dX10_closest_44 (by decide) ?_
    refine x_iald hx hb h kR_g (xin_in (by decide)) dX10_closest_45 ?_
    refine lv_icmp_ge (tgt := 107) hx hb dX10_closest_46 (by decide) (fun c1 => ?_) (fun c1 => ?_)
    · replace hf := xif_t hf c1
      refine lv_aload_n hx hb dX10_closest_107 rfl (lv_at hl 0 rfl) ?_
      refine x_get (own := RX10) (ref := "TintDeskModel") (C := RX10) (T := TX10) (n := 20) (index := 9) (v := .ref (Γ.2.1 1)) hx hb hts (fun w h => xU_sub w (inU10 w h)) hown h kR_model rfl 1 (by decide) (hts _ (xU_sub _ q132)) (fun _ h9 => h9) rfl dX10_closest_108 ?_
      refine lv_sipush (v := 409) hx hb dX10_closest_111 (by decide) ?_
      refine lv_bipush (v := 17) hx hb dX10_closest_114 (by decide) ?_
      refine lv_iload hx hb dX10_closest_116 (lv_at hl 4 rfl) ?_
      refine lv_imul hx hb dX10_closest_118 ?_
      refine lv_iadd hx hb dX10_closest_119 ?_
      obtain ⟨c2, hf⟩ := xck_s hf
      refine x_iald hx hb h kR_g (xin_in c2) dX10_closest_120 ?_
      refine lv_aload_n hx hb dX10_closest_121 rfl (lv_at hl 0 rfl) ?_
      refine lv_iload_n hx hb dX10_closest_122 rfl (lv_at hl 1 rfl) ?_
      refine lv_iconst (v := 1) hx hb dX10_closest_123 (by decide) ?_
      obtain ⟨r3, er3, hf⟩ := xbd_s hf
      refine x_Vi (As := [.int v1, .int 1]) (rest := [.int (M.1 1 (409 + (17 * v4)).toNatClampNeg)]) E.1 (m_X10_canAt l er3) (cwV 2 hts (xgV xU_sub q630 q631 q632 q5 q633) rfl rfl rfl hdX10_canAt ⟨Nat.le_of_ble_eq_true rfl, Nat.le_of_ble_eq_true rfl⟩) h kR_model rfl rfl hl.1 rfl (Nat.le_of_ble_eq_true rfl) dX10_closest_124 ⟨Nat.le_of_ble_eq_true rfl, Nat.le_of_ble_eq_true rfl⟩ (fun H locs h => ?_)
      refine lv_icmp_ne (tgt := 147) hx hb dX10_closest_127 (by decide) (fun c4 => ?_) (fun c4 => ?_)
      · replace hf := xif_f hf c4
        exact w_X10_closest_147 l E (hK_21) v1 v2 v3 v4 r3.1 hf _ _ _ h (lv_sub hl [0, 1, 2, 3, 4] rfl)
      · replace hf := xif_t hf c4
        refine lv_iload_n hx hb dX10_closest_130 rfl (lv_at hl 2 rfl) ?_
        refine lv_iconst (v := (-1)) hx hb dX10_closest_131 (by decide) ?_
        refine lv_icmp_eq (tgt := 141) hx hb dX10_closest_132 (by decide) (fun c5 => ?_) (fun c5 => ?_)
        · replace hf := xif_t hf c5
          exact w_X10_closest_141 l E (w_X10_closest_147 l E (hK_21)) v1 v4 v5 r3.1 hf _ _ _ h (lv_sub hl [0, 1, 4, 5] rfl)
        · replace hf := xif_f hf c5
          refine lv_iload hx hb dX10_closest_135 (lv_at hl 5 rfl) ?_
          refine lv_iload_n hx hb dX10_closest_137 rfl (lv_at hl 3 rfl) ?_
          refine lv_icmp_ge (tgt := 147) hx hb dX10_closest_138 (by decide) (fun c6 => ?_) (fun c6 => ?_)
          · replace hf := xif_t hf c6
            exact w_X10_closest_147 l E (hK_21) v1 v2 v3 v4 r3.1 hf _ _ _ h (lv_sub hl [0, 1, 2, 3, 4] rfl)
          · replace hf := xif_f hf c6
            exact w_X10_closest_141 l E (w_X10_closest_147 l E (hK_21)) v1 v4 v5 r3.1 hf _ _ _ h (lv_sub hl [0, 1, 4, 5] rfl)
    · replace hf := xif_f hf c1
      refine lv_aload_n hx hb dX10_closest_49 rfl (lv_at hl 0 rfl) ?_
      refine x_get (own := RX10) (ref := "TintDeskModel") (C := RX10) (T := TX10) (n := 20) (index := 9) (v := .ref (Γ.2.1 1)) hx hb hts (fun w h => xU_sub w (inU10 w h)) hown h kR_model rfl 1 (by decide) (hts _ (xU_sub _ q132)) (fun _ h9 => h9) rfl dX10_closest_50 ?_
      refine lv_sipush (v := 409) hx hb dX10_closest_53 (by decide) ?_
      refine lv_bipush (v := 17) hx hb dX10_closest_56 (by decide) ?_
      refine lv_iload hx hb dX10_closest_58 (lv_at hl 4 rfl) ?_
      refine lv_imul hx hb dX10_closest_60 ?_
      refine lv_iadd hx hb dX10_closest_61 ?_
      refine lv_iconst (v := 1) hx hb dX10_closest_62 (by decide) ?_
      refine lv_iadd hx hb dX10_closest_63 ?_
      refine lv_iload hx hb dX10_closest_64 (lv_at hl 6 rfl) ?_
      refine lv_iadd hx hb dX10_closest_66 ?_
      obtain ⟨c7, hf⟩ := xck_s hf
      refine x_iald hx hb h kR_g (xin_in c7) dX10_closest_67 ?_
      refine lv_bipush (v := 100) hx hb dX10_closest_68 (by decide) ?_
      refine lv_aload_n hx hb dX10_closest_70 rfl (lv_at hl 0 rfl) ?_
      refine lv_iload_n hx hb dX10_closest_71 rfl (lv_at hl 1 rfl) ?_
      refine lv_iconst (v := 2) hx hb dX10_closest_72 (by decide) ?_
      refine lv_iload hx hb dX10_closest_73 (lv_at hl 6 rfl) ?_
      refine lv_iadd hx hb dX10_closest_75 ?_
      obtain ⟨r8, er8, hf⟩ := xbd_s hf
      refine x_Vi (As := [.int v1, .int (2 + v6)]) (rest := [.int 100, .int (M.1 1 (((409 + (17 * v4)) + 1) + v6).toNatClampNeg)]) E.1 (m_X10_canAt l er8) (cwV 2 hts (xgV xU_sub q630 q631 q632 q5 q633) rfl rfl rfl hdX10_canAt ⟨Nat.le_of_ble_eq_true rfl, Nat.le_of_ble_eq_true rfl⟩) h kR_model rfl rfl hl.1 rfl (Nat.le_of_ble_eq_true rfl) dX10_closest_76 ⟨Nat.le_of_ble_eq_true rfl, Nat.le_of_ble_eq_true rfl⟩ (fun H locs h => ?_)
      refine lv_imul hx hb dX10_closest_79 ?_
      refine lv_isub hx hb dX10_closest_80 ?_
      obtain ⟨y9, ey9, hf⟩ := xl_s hf
      refine x_nm ey9 ?_
      refine lv_istore (lv' := [(7, .int y9), (0, .ref (Γ.2.1 0)), (1, .int v1), (2, .int v2), (3, .int v3), (4, .int v4), (5, .int v5), (6, .int v6)]) hx hb dX10_closest_81 hl (by decide) rfl (fun ls hl => ?_)
      refine lv_iload hx hb dX10_closest_83 (lv_at hl 6 rfl) ?_
      refine lv_iload hx hb dX10_closest_85 (lv_at hl 0 rfl) ?_
      refine lv_if_ge (tgt := 96) hx hb dX10_closest_87 (by decide) (fun c10 => ?_) (fun c10 => ?_)
      · replace hf := xif_t hf c10
        refine lv_iload hx hb dX10_closest_96 (lv_at hl 0 rfl) ?_
        exact w_X10_closest_98 l E (ih) v1 v2 v3 v4 v6 y9 v5 r8.1 hf _ _ _ h (lv_sub hl [1, 2, 3, 4, 5, 7] rfl)
      · replace hf := xif_f hf c10
        refine lv_iload hx hb dX10_closest_90 (lv_at hl 0 rfl) ?_
        refine lv_ineg hx hb dX10_closest_92 ?_
        refine lv_goto (tgt := 98) hx hb dX10_closest_93 (by decide) ?_
        exact w_X10_closest_98 l E (ih) v1 v2 v3 v4 v6 (-y9) v5 r8.1 hf _ _ _ h (lv_sub hl [1, 2, 3, 4, 5, 7] rfl)
set_option maxHeartbeats 4000000 in
set_option maxRecDepth 100000 in
theorem w_X10_closest_21 (l : Launch) {p : Program} {e : Env} {s : State} {m : MethodId} {args : Array Value} {below : List Frame} {meth : Method} {c : Code} {Γ : xG} {N : Nat} {res : xR} (E : xEv p s m args meth c RX10 cX10_closest 8 (some .int) (xWs yX10_closest cX10_closest 8 (some .int))) : ∀ (n : Nat) (v1 : Int32) (v2 : Int32) (v3 : Int32) (v4 : Int32) (M : xM), L_X10_closest_21 N n v1 v2 v3 v4 M = some res → ∀ (H : Heap) (locs : List Loc) (ls : Array Slot), xH Γ (wR Γ) 10 s M H locs → lv_has ls 8 [(0, .ref (Γ.2.1 0)), (1, .int v1), (2, .int v2), (3, .int v3), (4, .int v4)] → W p l e ({ frames := 3, cells := 0, slots := 0, locals := 83 } : Room) s m args below meth c H locs 0 0 (MQ below (xCi Γ (wR Γ) 10 res s.heap.size) args s 0 0 (xAd Γ 10 s.heap.size)) (F0 m 21 ls []) := by
  obtain ⟨⟨hx, hb, hml, hown, hts⟩, hr, hlocks⟩ := id E
  intro n
  induction n with
  | zero => intro v1 v2 v3 v4 M hf; cases hf
  | succ n ih =>
    intro v1 v2 v3 v4 M hf H locs ls h hl
    refine lv_iload hx hb dX10_closest_21 (lv_at hl 4 rfl) ?_
    refine lv_aload_n hx hb dX10_closest_23 rfl (lv_at hl 0 rfl) ?_
    refine x_get (own := RX10) (ref := "TintDeskModel") (C := RX10) (T := TX10) (n := 20) (index := 9) (v := .ref (Γ.2.1 1)) hx hb hts (fun w h => xU_sub w (inU10 w h)) hown h kR_model rfl 1 (by decide) (hts _ (xU_sub _ q132)) (fun _ h9 => h9) rfl dX10_closest_24 ?_
    refine lv_iconst (v := 2) hx hb dX10_closest_27 (by decide) ?_
    refine x_iald hx hb h kR_g (xin_in (by decide)) dX10_closest_28 ?_
    refine lv_icmp_ge (tgt := 153) hx hb dX10_closest_29 (by decide) (fun c1 => ?_) (fun c1 => ?_)
    · replace hf := xif_t hf c1
      refine lv_aload_n hx hb dX10_closest_153 rfl (lv_at hl 0 rfl) ?_
      refine lv_iload_n hx hb dX10_closest_154 rfl (lv_at hl 2 rfl) ?_
      obtain ⟨r2, er2, hf⟩ := xbd_s hf
      refine x_Vi (As := [.int v2]) (rest := []) E.1 (m_X10_done l er2) (cwV 1 hts (xgV xU_sub q221 q222 q223 q5 q224) rfl rfl rfl hdX10_done ⟨Nat.le_of_ble_eq_true rfl, Nat.le_of_ble_eq_true rfl⟩) h kR_model rfl rfl hl.1 rfl (Nat.le_of_ble_eq_true rfl) dX10_closest_155 ⟨Nat.le_of_ble_eq_true rfl, Nat.le_of_ble_eq_true rfl⟩ (fun H locs h => ?_)
      exact x_iret hx hb h (Option.some.inj hf) hr hlocks dX10_closest_158
    · replace hf := xif_f hf c1
      refine lv_iconst (v := 0) hx hb dX10_closest_32 (by decide) ?_
      refine lv_istore (lv' := [(5, .int 0), (0, .ref (Γ.2.1 0)), (1, .int v1), (2, .int v2), (3, .int v3), (4, .int v4)]) hx hb dX10_closest_33 hl (by decide) rfl (fun ls hl => ?_)
      refine lv_iconst (v := 0) hx hb dX10_closest_35 (by decide) ?_
      refine lv_istore (lv' := [(6, .int 0), (5, .int 0), (0, .ref (Γ.2.1 0)), (1, .int v1), (2, .int v2), (3, .int v3), (4, .int v4)]) hx hb dX10_closest_36 hl (by decide) rfl (fun ls hl => ?_)
      exact w_X10_closest_38 l E (ih) N v1 v2 v3 v4 0 0 M hf _ _ _ h (lv_sub hl [2, 3, 4, 5, 6, 1, 0] rfl)
set_option maxHeartbeats 4000000 in
set_option maxRecDepth 100000 in
theorem m_X10_closest (l : Launch) {Γ : xG} {N : Nat} {v1 : Int32} {M : xM} {res : xR} (hf : F_X10_closest N v1 M = some res) (sz : Nat) : Met l yX10_closest (xWs yX10_closest cX10_closest 8 (some .int)) ({ frames := 3, cells := 0, slots := 0, locals := 83 } : Room) (va_Pc [.ref (Γ.2.1 0), .int v1] (xPre Γ (wR Γ) M sz)) (xCi Γ (wR Γ) 10 res sz) 0 0 (xAd Γ 10 sz) := by
  refine x_met (Qc := fun sz => xCi Γ (wR Γ) 10 res sz) pnX10 wG_W (Nat.le_of_ble_eq_true rfl) (fun p e s m args below meth c _ E h ls hl => ?_) sz
  obtain ⟨⟨hx, hb, hml, hown, hts⟩, hr, hlocks⟩ := id E
  have hl : lv_has ls 8 [(0, .ref (Γ.2.1 0)), (1, .int v1)] := hl
  refine lv_aload_n hx hb dX10_closest_0 rfl (lv_at hl 0 rfl) ?_
  refine lv_iload_n hx hb dX10_closest_1 rfl (lv_at hl 1 rfl) ?_
  obtain ⟨r1, er1, hf⟩ := xbd_s hf
  refine x_Vi (As := [.int v1]) (rest := []) E.1 (m_X10_isCan l er1) (cwV 1 hts (xgV xU_sub q626 q627 q628 q5 q629) rfl rfl rfl hdX10_isCan ⟨Nat.le_of_ble_eq_true rfl, Nat.le_of_ble_eq_true rfl⟩) h kR_model rfl rfl hl.1 rfl (Nat.le_of_ble_eq_true rfl) dX10_closest_2 ⟨Nat.le_of_ble_eq_true rfl, Nat.le_of_ble_eq_true rfl⟩ (fun H locs h => ?_)
  refine lv_if_ne (tgt := 14) hx hb dX10_closest_5 (by decide) (fun c2 => ?_) (fun c2 => ?_)
  · replace hf := xif_f hf c2
    refine lv_iconst (v := (-1)) hx hb dX10_closest_14 (by decide) ?_
    refine lv_istore_n (lv' := [(2, .int (-1)), (0, .ref (Γ.2.1 0)), (1, .int v1)]) hx hb dX10_closest_15 rfl hl (by decide) rfl (fun ls hl => ?_)
    refine lv_iconst (v := 0) hx hb dX10_closest_16 (by decide) ?_
    refine lv_istore_n (lv' := [(3, .int 0), (2, .int (-1)), (0, .ref (Γ.2.1 0)), (1, .int v1)]) hx hb dX10_closest_17 rfl hl (by decide) rfl (fun ls hl => ?_)
    refine lv_iconst (v := 0) hx hb dX10_closest_18 (by decide) ?_
    refine lv_istore (lv' := [(4, .int 0), (3, .int 0), (2, .int (-1)), (0, .ref (Γ.2.1 0)), (1, .int v1)]) hx hb dX10_closest_19 hl (by decide) rfl (fun ls hl => ?_)
    exact w_X10_closest_21 l E N v1 (-1) 0 0 r1.1 hf _ _ _ h (lv_sub hl [3, 4, 2, 1, 0] rfl)
  · replace hf := xif_t hf c2
    refine lv_aload_n hx hb dX10_closest_8 rfl (lv_at hl 0 rfl) ?_
    refine lv_iconst (v := 1) hx hb dX10_closest_9 (by decide) ?_
    obtain ⟨r3, er3, hf⟩ := xbd_s hf
    refine x_Vi (As := [.int 1]) (rest := []) E.1 (m_X10_fails l er3) (cwV 1 hts (xgV xU_sub q208 q209 q210 q5 q211) rfl rfl rfl hdX10_fails ⟨Nat.le_of_ble_eq_true rfl, Nat.le_of_ble_eq_true rfl⟩) h kR_model rfl rfl hl.1 rfl (Nat.le_of_ble_eq_true rfl) dX10_closest_10 ⟨Nat.le_of_ble_eq_true rfl, Nat.le_of_ble_eq_true rfl⟩ (fun H locs h => ?_)
    exact x_iret hx hb h (Option.some.inj hf) hr hlocks dX10_closest_13
theorem hdX10_stepsOf : yX10_stepsOf.cls = RX10 ∧ yX10_stepsOf.cls ≠ "java/lang/invoke/MethodHandle" ∧ yX10_stepsOf.cls ≠ "java/lang/invoke/VarHandle" ∧ (parseMethodDescriptor yX10_stepsOf.desc).map (fun d => d.parameters.length) = some 2 := by decide +kernel
set_option maxHeartbeats 4000000 in
set_option maxRecDepth 100000 in
theorem m_X10_stepsOf (l : Launch) {Γ : xG} {N : Nat} {v1 : Int32} {v2 : Int32} {M : xM} {res : xR} (hf : F_X10_stepsOf N v1 v2 M = some res) (sz : Nat) : Met l yX10_stepsOf (xWs yX10_stepsOf cX10_stepsOf 4 (some .int)) ({ frames := 1, cells := 0, slots := 0, locals := 40 } : Room) (va_Pc [.ref (Γ.2.1 0), .int v1, .int v2] (xPre Γ (wR Γ) M sz)) (xCi Γ (wR Γ) 10 res sz) 0 0 (xAd Γ 10 sz) := by
  refine x_met (Qc := fun sz => xCi Γ (wR Γ) 10 res sz) pnX10 wG_W (Nat.le_of_ble_eq_true rfl) (fun p e s m args below meth c _ E h ls hl => ?_) sz
  obtain ⟨⟨hx, hb, hml, hown, hts⟩, hr, hlocks⟩ := id E
  have hl : lv_has ls 4 [(0, .ref (Γ.2.1 0)), (1, .int v1), (2, .int v2)] := hl
  refine lv_sipush (v := 409) hx hb dX10_stepsOf_0 (by decide) ?_
  refine lv_bipush (v := 17) hx hb dX10_stepsOf_3 (by decide) ?_
  refine lv_iload_n hx hb dX10_stepsOf_5 rfl (lv_at hl 1 rfl) ?_
  refine lv_imul hx hb dX10_stepsOf_6 ?_
  refine lv_iadd hx hb dX10_stepsOf_7 ?_
  obtain ⟨y1, ey1, hf⟩ := xl_s hf
  refine x_nm ey1 ?_
  refine lv_istore_n (lv' := [(3, .int y1), (0, .ref (Γ.2.1 0)), (1, .int v1), (2, .int v2)]) hx hb dX10_stepsOf_8 rfl hl (by decide) rfl (fun ls hl => ?_)
  refine lv_aload_n hx hb dX10_stepsOf_9 rfl (lv_at hl 1 rfl) ?_
  refine x_get (own := RX10) (ref := "TintDeskModel") (C := RX10) (T := TX10) (n := 20) (index := 9) (v := .ref (Γ.2.1 1)) hx hb hts (fun w h => xU_sub w (inU10 w h)) hown h kR_model rfl 1 (by decide) (hts _ (xU_sub _ q132)) (fun _ h9 => h9) rfl dX10_stepsOf_10 ?_
  refine lv_iload_n hx hb dX10_stepsOf_13 rfl (lv_at hl 0 rfl) ?_
  refine lv_iconst (v := 1) hx hb dX10_stepsOf_14 (by decide) ?_
  refine lv_iadd hx hb dX10_stepsOf_15 ?_
  refine lv_iload_n hx hb dX10_stepsOf_16 rfl (lv_at hl 3 rfl) ?_
  refine lv_iadd hx hb dX10_stepsOf_17 ?_
  obtain ⟨c2, hf⟩ := xck_s hf
  refine x_iald hx hb h kR_g (xin_in c2) dX10_stepsOf_18 ?_
  refine lv_aload_n hx hb dX10_stepsOf_19 rfl (lv_at hl 1 rfl) ?_
  refine x_get (own := RX10) (ref := "TintDeskModel") (C := RX10) (T := TX10) (n := 20) (index := 9) (v := .ref (Γ.2.1 1)) hx hb hts (fun w h => xU_sub w (inU10 w h)) hown h kR_model rfl 1 (by decide) (hts _ (xU_sub _ q132)) (fun _ h9 => h9) rfl dX10_stepsOf_20 ?_
  refine lv_iload_n hx hb dX10_stepsOf_23 rfl (lv_at hl 0 rfl) ?_
  refine lv_bipush (v := 9) hx hb dX10_stepsOf_24 (by decide) ?_
  refine lv_iadd hx hb dX10_stepsOf_26 ?_
  refine lv_iload_n hx hb dX10_stepsOf_27 rfl (lv_at hl 3 rfl) ?_
  refine lv_iadd hx hb dX10_stepsOf_28 ?_
  obtain ⟨c3, hf⟩ := xck_s hf
  refine x_iald hx hb h kR_g (xin_in c3) dX10_stepsOf_29 ?_
  refine lv_iadd hx hb dX10_stepsOf_30 ?_
  refine lv_bipush (v := 100) hx hb dX10_stepsOf_31 (by decide) ?_
  refine lv_idiv hx hb dX10_stepsOf_33 (by decide) ?_
  exact x_iret hx hb h (Option.some.inj hf) hr hlocks dX10_stepsOf_34
theorem hdX10_hinders : yX10_hinders.cls = RX10 ∧ yX10_hinders.cls ≠ "java/lang/invoke/MethodHandle" ∧ yX10_hinders.cls ≠ "java/lang/invoke/VarHandle" ∧ (parseMethodDescriptor yX10_hinders.desc).map (fun d => d.parameters.length) = some 1 := by decide +kernel
set_option maxHeartbeats 4000000 in
set_option maxRecDepth 100000 in
theorem w_X10_hinders_91 (l : Launch) {p : Program} {e : Env} {s : State} {m : MethodId} {args : Array Value} {below : List Frame} {meth : Method} {c : Code} {Γ : xG} {N : Nat} {res : xR} (E : xEv p s m args meth c RX10 cX10_hinders 6 (some .int) (xWs yX10_hinders cX10_hinders 6 (some .int))) {K_53 : Int32 → Int32 → Int32 → Int32 → Int32 → xM → Option xR} (hK_53 : ∀ (v1 : Int32) (v2 : Int32) (v3 : Int32) (v4 : Int32) (v5 : Int32) (M : xM), K_53 v1 v2 v3 v4 v5 M = some res → ∀ (H : Heap) (locs : List Loc) (ls : Array Slot), xH Γ (wR Γ) 10 s M H locs → lv_has ls 6 [(0, .ref (Γ.2.1 0)), (1, .int v1), (2, .int v2), (3, .int v3), (4, .int v4), (5, .int v5)] → W p l e ({ frames := 3, cells := 0, slots := 0, locals := 85 } : Room) s m args below meth c H locs 0 0 (MQ below (xCi Γ (wR Γ) 10 res s.heap.size) args s 0 0 (xAd Γ 10 s.heap.size)) (F0 m 53 ls [])) : ∀ (v1 : Int32) (v2 : Int32) (v3 : Int32) (v5 : Int32) (t0 : Int32) (M : xM), L_X10_hinders_91 N K_53 v1 v2 v3 v5 t0 M = some res → ∀ (H : Heap) (locs : List Loc) (ls : Array Slot), xH Γ (wR Γ) 10 s M H locs → lv_has ls 6 [(0, .ref (Γ.2.1 0)), (1, .int v1), (2, .int v2), (3, .int v3), (5, .int v5)] → W p l e ({ frames := 3, cells := 0, slots := 0, locals := 85 } : Room) s m args below meth c H locs 0 0 (MQ below (xCi Γ (wR Γ) 10 res s.heap.size) args s 0 0 (xAd Γ 10 s.heap.size)) (F0 m 91 ls [.int t0]) := by
  obtain ⟨⟨hx, hb, hml, hown, hts⟩, hr, hlocks⟩ := id E
  intro v1 v2 v3 v5 t0 M hf H locs ls h hl
  refine lv_istore (lv' := [(4, .int t0), (0, .ref (Γ.2.1 0)), (1, .int v1), (2, .int v2), (3, .int v3), (5, .int v5)]) hx hb dX10_hinders_91 hl (by decide) rfl (fun ls hl => ?_)
  obtain ⟨y1, ey1, hf⟩ := xl_s hf
  refine lv_iinc (v := y1) (lv' := [(5, .int y1), (4, .int t0), (0, .ref (Γ.2.1 0)), (1, .int v1), (2, .int v2), (3, .int v3)]) hx hb dX10_hinders_93 hl (k := 5) rfl (by rw [ey1]; rfl) (by decide) rfl (fun ls hl => ?_)
  refine lv_goto (tgt := 53) hx hb dX10_hinders_96 (by decide) ?_
  exact hK_53 v1 v2 v3 t0 y1 M hf _ _ _ h (lv_sub hl [2, 3, 4, 5, 1, 0] rfl)
set_option maxHeartbeats 4000000 in
set_option maxRecDepth 100000 in
theorem w_X10_hinders_53 (l : Launch) {p : Program} {e : Env} {s : State} {m : MethodId} {args : Array Value} {below : List Frame} {meth : Method} {c : Code} {Γ : xG} {N : Nat} {res : xR} (E : xEv p s m args meth c RX10 cX10_hinders 6 (some .int) (xWs yX10_hinders cX10_hinders 6 (some .int))) : ∀ (n : Nat) (v1 : Int32) (v2 : Int32) (v3 : Int32) (v4 : Int32) (v5 : Int32) (M : xM), L_X10_hinders_53 N n v1 v2 v3 v4 v5 M = some res → ∀ (H : Heap) (locs : List Loc) (ls : Array Slot), xH Γ (wR Γ) 10 s M H locs → lv_has ls 6 [(0, .ref (Γ.2.1 0)), (1, .int v1), (2, .int v2), (3, .int v3), (4, .int v4), (5, .int v5)] → W p l e ({ frames := 3, cells := 0, slots := 0, locals := 85 } : Room) s m args below meth c H locs 0 0 (MQ below (xCi Γ (wR Γ) 10 res s.heap.size) args s 0 0 (xAd Γ 10 s.heap.size)) (F0 m 53 ls []) := by
  obtain ⟨⟨hx, hb, hml, hown, hts⟩, hr, hlocks⟩ := id E
  intro n
  induction n with
  | zero => intro v1 v2 v3 v4 v5 M hf; cases hf
  | succ n ih =>
    intro v1 v2 v3 v4 v5 M hf H locs ls h hl
    refine lv_iload hx hb dX10_hinders_53 (lv_at hl 5 rfl) ?_
    refine lv_if_lt (tgt := 99) hx hb dX10_hinders_55 (by decide) (fun c1 => ?_) (fun c1 => ?_)
    · replace hf := xif_t hf c1
      refine lv_iload_n hx hb dX10_hinders_99 rfl (lv_at hl 3 rfl) ?_
      refine lv_aload_n hx hb dX10_hinders_100 rfl (lv_at hl 0 rfl) ?_
      refine lv_iload_n hx hb dX10_hinders_101 rfl (lv_at hl 2 rfl) ?_
      refine lv_iconst (v := 3) hx hb dX10_hinders_102 (by decide) ?_
      obtain ⟨r2, er2, hf⟩ := xbd_s hf
      refine x_Vi (As := [.int v2, .int 3]) (rest := [.int v3]) E.1 (m_X10_baseAt l er2) (cwV 2 hts (xgV xU_sub q412 q413 q414 q5 q415) rfl rfl rfl hdX10_baseAt ⟨Nat.le_of_ble_eq_true rfl, Nat.le_of_ble_eq_true rfl⟩) h kR_model rfl rfl hl.1 rfl (Nat.le_of_ble_eq_true rfl) dX10_hinders_103 ⟨Nat.le_of_ble_eq_true rfl, Nat.le_of_ble_eq_true rfl⟩ (fun H locs h => ?_)
      refine lv_icmp_le (tgt := 111) hx hb dX10_hinders_106 (by decide) (fun c3 => ?_) (fun c3 => ?_)
      · replace hf := xif_t hf c3
        refine lv_aload_n hx hb dX10_hinders_111 rfl (lv_at hl 0 rfl) ?_
        refine lv_iload hx hb dX10_hinders_112 (lv_at hl 4 rfl) ?_
        obtain ⟨M4, eM4, hf⟩ := xl_s hf
        refine x_put (own := RX10) (ref := "TintDeskModel") (C := RX10) (T := TX10) (n := 20) (index := 135) (ty := .int) hx hb hts (fun w h => xU_sub w (inU10 w h)) tyX10 tyX10_ok nmX10 hown h kR_model rfl 15 (by decide) (hts _ (xU_sub _ q681)) (fun _ h9 => h9) rfl (by decide +kernel) rfl rfl (Nat.le_of_ble_eq_true rfl) rfl eM4 dX10_hinders_114 (fun H locs h => ?_)
        refine lv_iload hx hb dX10_hinders_117 (lv_at hl 4 rfl) ?_
        refine lv_iconst (v := (-1)) hx hb dX10_hinders_119 (by decide) ?_
        refine lv_icmp_ne (tgt := 127) hx hb dX10_hinders_120 (by decide) (fun c5 => ?_) (fun c5 => ?_)
        · replace hf := xif_f hf c5
          refine lv_iconst (v := 5) hx hb dX10_hinders_127 (by decide) ?_
          exact x_iret hx hb h (Option.some.inj hf) hr hlocks dX10_hinders_128
        · replace hf := xif_t hf c5
          refine lv_iconst (v := 0) hx hb dX10_hinders_123 (by decide) ?_
          refine lv_goto (tgt := 128) hx hb dX10_hinders_124 (by decide) ?_
          exact x_iret hx hb h (Option.some.inj hf) hr hlocks dX10_hinders_128
      · replace hf := xif_f hf c3
        refine lv_iconst (v := 4) hx hb dX10_hinders_109 (by decide) ?_
        exact x_iret hx hb h (Option.some.inj hf) hr hlocks dX10_hinders_110
    · replace hf := xif_f hf c1
      refine lv_iload_n hx hb dX10_hinders_58 rfl (lv_at hl 3 rfl) ?_
      refine lv_aload_n hx hb dX10_hinders_59 rfl (lv_at hl 0 rfl) ?_
      refine lv_iload_n hx hb dX10_hinders_60 rfl (lv_at hl 1 rfl) ?_
      refine lv_iload hx hb dX10_hinders_61 (lv_at hl 5 rfl) ?_
      obtain ⟨r6, er6, hf⟩ := xbd_s hf
      refine x_Vi (As := [.int v1, .int v5]) (rest := [.int v3]) E.1 (m_X10_stepsOf l er6) (cwV 2 hts (xgV xU_sub q687 q688 q689 q5 q690) rfl rfl rfl hdX10_stepsOf ⟨Nat.le_of_ble_eq_true rfl, Nat.le_of_ble_eq_true rfl⟩) h kR_model rfl rfl hl.1 rfl (Nat.le_of_ble_eq_true rfl) dX10_hinders_63 ⟨Nat.le_of_ble_eq_true rfl, Nat.le_of_ble_eq_true rfl⟩ (fun H locs h => ?_)
      refine lv_iadd hx hb dX10_hinders_66 ?_
      obtain ⟨y7, ey7, hf⟩ := xl_s hf
      refine x_nm ey7 ?_
      refine lv_istore_n (lv' := [(3, .int y7), (0, .ref (Γ.2.1 0)), (1, .int v1), (2, .int v2), (4, .int v4), (5, .int v5)]) hx hb dX10_hinders_67 rfl hl (by decide) rfl (fun ls hl => ?_)
      refine lv_aload_n hx hb dX10_hinders_68 rfl (lv_at hl 1 rfl) ?_
      refine lv_iload hx hb dX10_hinders_69 (lv_at hl 5 rfl) ?_
      obtain ⟨r8, er8, hf⟩ := xbd_s hf
      refine x_Vi (As := [.int v5]) (rest := []) E.1 (m_X10_inCanister l er8) (cwV 1 hts (xgV xU_sub q293 q294 q295 q5 q296) rfl rfl rfl hdX10_inCanister ⟨Nat.le_of_ble_eq_true rfl, Nat.le_of_ble_eq_true rfl⟩) h kR_model rfl rfl hl.1 rfl (Nat.le_of_ble_eq_true rfl) dX10_hinders_71 ⟨Nat.le_of_ble_eq_true rfl, Nat.le_of_ble_eq_true rfl⟩ (fun H locs h => ?_)
      refine lv_aload_n hx hb dX10_hinders_74 rfl (lv_at hl 1 rfl) ?_
      refine lv_iload_n hx hb dX10_hinders_75 rfl (lv_at hl 2 rfl) ?_
      refine lv_iload hx hb dX10_hinders_76 (lv_at hl 5 rfl) ?_
      obtain ⟨r9, er9, hf⟩ := xbd_s hf
      refine x_Vi (As := [.int v1, .int v5]) (rest := [.int r8.2]) E.1 (m_X10_stepsOf l er9) (cwV 2 hts (xgV xU_sub q687 q688 q689 q5 q690) rfl rfl rfl hdX10_stepsOf ⟨Nat.le_of_ble_eq_true rfl, Nat.le_of_ble_eq_true rfl⟩) h kR_model rfl rfl hl.1 rfl (Nat.le_of_ble_eq_true rfl) dX10_hinders_78 ⟨Nat.le_of_ble_eq_true rfl, Nat.le_of_ble_eq_true rfl⟩ (fun H locs h => ?_)
      refine lv_icmp_ge (tgt := 89) hx hb dX10_hinders_81 (by decide) (fun c10 => ?_) (fun c10 => ?_)
      · replace hf := xif_t hf c10
        refine lv_iload hx hb dX10_hinders_89 (lv_at hl 4 rfl) ?_
        exact w_X10_hinders_91 l E (ih) v1 v2 y7 v5 v4 r9.1 hf _ _ _ h (lv_sub hl [1, 2, 3, 0, 5] rfl)
      · replace hf := xif_f hf c10
        refine lv_iload hx hb dX10_hinders_84 (lv_at hl 5 rfl) ?_
        refine lv_goto (tgt := 91) hx hb dX10_hinders_86 (by decide) ?_
        exact w_X10_hinders_91 l E (ih) v1 v2 y7 v5 v5 r9.1 hf _ _ _ h (lv_sub hl [1, 2, 3, 0, 5] rfl)
set_option maxHeartbeats 4000000 in
set_option maxRecDepth 100000 in
theorem m_X10_hinders (l : Launch) {Γ : xG} {N : Nat} {v1 : Int32} {M : xM} {res : xR} (hf : F_X10_hinders N v1 M = some res) (sz : Nat) : Met l yX10_hinders (xWs yX10_hinders cX10_hinders 6 (some .int)) ({ frames := 3, cells := 0, slots := 0, locals := 85 } : Room) (va_Pc [.ref (Γ.2.1 0), .int v1] (xPre Γ (wR Γ) M sz)) (xCi Γ (wR Γ) 10 res sz) 0 0 (xAd Γ 10 sz) := by
  refine x_met (Qc := fun sz => xCi Γ (wR Γ) 10 res sz) pnX10 wG_W (Nat.le_of_ble_eq_true rfl) (fun p e s m args below meth c _ E h ls hl => ?_) sz
  obtain ⟨⟨hx, hb, hml, hown, hts⟩, hr, hlocks⟩ := id E
  have hl : lv_has ls 6 [(0, .ref (Γ.2.1 0)), (1, .int v1)] := hl
  refine lv_aload_n hx hb dX10_hinders_0 rfl (lv_at hl 0 rfl) ?_
  refine x_get (own := RX10) (ref := "TintDeskModel") (C := RX10) (T := TX10) (n := 20) (index := 9) (v := .ref (Γ.2.1 1)) hx hb hts (fun w h => xU_sub w (inU10 w h)) hown h kR_model rfl 1 (by decide) (hts _ (xU_sub _ q132)) (fun _ h9 => h9) rfl dX10_hinders_1 ?_
  refine lv_sipush (v := 409) hx hb dX10_hinders_4 (by decide) ?_
  refine lv_bipush (v := 17) hx hb dX10_hinders_7 (by decide) ?_
  refine lv_iload_n hx hb dX10_hinders_9 rfl (lv_at hl 1 rfl) ?_
  refine lv_imul hx hb dX10_hinders_10 ?_
  refine lv_iadd hx hb dX10_hinders_11 ?_
  obtain ⟨c1, hf⟩ := xck_s hf
  refine x_iald hx hb h kR_g (xin_in c1) dX10_hinders_12 ?_
  obtain ⟨y2, ey2, hf⟩ := xl_s hf
  refine x_nm ey2 ?_
  refine lv_istore_n (lv' := [(2, .int y2), (0, .ref (Γ.2.1 0)), (1, .int v1)]) hx hb dX10_hinders_13 rfl hl (by decide) rfl (fun ls hl => ?_)
  refine lv_aload_n hx hb dX10_hinders_14 rfl (lv_at hl 1 rfl) ?_
  refine x_get (own := RX10) (ref := "TintDeskModel") (C := RX10) (T := TX10) (n := 20) (index := 9) (v := .ref (Γ.2.1 1)) hx hb hts (fun w h => xU_sub w (inU10 w h)) hown h kR_model rfl 1 (by decide) (hts _ (xU_sub _ q132)) (fun _ h9 => h9) rfl dX10_hinders_15 ?_
  refine lv_iconst (v := 3) hx hb dX10_hinders_18 (by decide) ?_
  refine x_iald hx hb h kR_g (xin_in (by decide)) dX10_hinders_19 ?_
  refine lv_bipush (v := 20) hx hb dX10_hinders_20 (by decide) ?_
  refine lv_icmp_ne (tgt := 27) hx hb dX10_hinders_22 (by decide) (fun c3 => ?_) (fun c3 => ?_)
  · replace hf := xif_f hf c3
    refine lv_aload_n hx hb dX10_hinders_27 rfl (lv_at hl 1 rfl) ?_
    refine lv_iload_n hx hb dX10_hinders_28 rfl (lv_at hl 0 rfl) ?_
    refine lv_iconst (v := 4) hx hb dX10_hinders_29 (by decide) ?_
    obtain ⟨r4, er4, hf⟩ := xbd_s hf
    refine x_Vi (As := [.int y2, .int 4]) (rest := []) E.1 (m_X10_baseAt l er4) (cwV 2 hts (xgV xU_sub q412 q413 q414 q5 q415) rfl rfl rfl hdX10_baseAt ⟨Nat.le_of_ble_eq_true rfl, Nat.le_of_ble_eq_true rfl⟩) h kR_model rfl rfl hl.1 rfl (Nat.le_of_ble_eq_true rfl) dX10_hinders_30 ⟨Nat.le_of_ble_eq_true rfl, Nat.le_of_ble_eq_true rfl⟩ (fun H locs h => ?_)
    refine lv_if_ne (tgt := 38) hx hb dX10_hinders_33 (by decide) (fun c5 => ?_) (fun c5 => ?_)
    · replace hf := xif_f hf c5
      refine lv_iconst (v := 0) hx hb dX10_hinders_38 (by decide) ?_
      refine lv_istore_n (lv' := [(3, .int 0), (2, .int y2), (0, .ref (Γ.2.1 0)), (1, .int v1)]) hx hb dX10_hinders_39 rfl hl (by decide) rfl (fun ls hl => ?_)
      refine lv_iconst (v := (-1)) hx hb dX10_hinders_40 (by decide) ?_
      refine lv_istore (lv' := [(4, .int (-1)), (3, .int 0), (2, .int y2), (0, .ref (Γ.2.1 0)), (1, .int v1)]) hx hb dX10_hinders_41 hl (by decide) rfl (fun ls hl => ?_)
      refine lv_aload_n hx hb dX10_hinders_43 rfl (lv_at hl 3 rfl) ?_
      refine x_get (own := RX10) (ref := "TintDeskModel") (C := RX10) (T := TX10) (n := 20) (index := 9) (v := .ref (Γ.2.1 1)) hx hb hts (fun w h => xU_sub w (inU10 w h)) hown h kR_model rfl 1 (by decide) (hts _ (xU_sub _ q132)) (fun _ h9 => h9) rfl dX10_hinders_44 ?_
      refine lv_iconst (v := 0) hx hb dX10_hinders_47 (by decide) ?_
      refine x_iald hx hb h kR_g (xin_in (by decide)) dX10_hinders_48 ?_
      refine lv_iconst (v := 1) hx hb dX10_hinders_49 (by decide) ?_
      refine lv_isub hx hb dX10_hinders_50 ?_
      obtain ⟨y6, ey6, hf⟩ := xl_s hf
      refine x_nm ey6 ?_
      refine lv_istore (lv' := [(5, .int y6), (4, .int (-1)), (3, .int 0), (2, .int y2), (0, .ref (Γ.2.1 0)), (1, .int v1)]) hx hb dX10_hinders_51 hl (by decide) rfl (fun ls hl => ?_)
      exact w_X10_hinders_53 l E N v1 y2 0 (-1) y6 r4.1 hf _ _ _ h (lv_sub hl [4, 5, 3, 2, 1, 0] rfl)
    · replace hf := xif_t hf c5
      refine lv_iconst (v := 3) hx hb dX10_hinders_36 (by decide) ?_
      exact x_iret hx hb h (Option.some.inj hf) hr hlocks dX10_hinders_37
  · replace hf := xif_t hf c3
    refine lv_iconst (v := 2) hx hb dX10_hinders_25 (by decide) ?_
    exact x_iret hx hb h (Option.some.inj hf) hr hlocks dX10_hinders_26
theorem hdX10_pumps : yX10_pumps.cls = RX10 ∧ yX10_pumps.cls ≠ "java/lang/invoke/MethodHandle" ∧ yX10_pumps.cls ≠ "java/lang/invoke/VarHandle" ∧ (parseMethodDescriptor yX10_pumps.desc).map (fun d => d.parameters.length) = some 3 := by decide +kernel
set_option maxHeartbeats 4000000 in
set_option maxRecDepth 100000 in
theorem w_X10_pumps_137 (l : Launch) {p : Program} {e : Env} {s : State} {m : MethodId} {args : Array Value} {below : List Frame} {meth : Method} {c : Code} {Γ : xG} {N : Nat} {res : xR} (E : xEv p s m args meth c RX10 cX10_pumps 8 none (xWs yX10_pumps cX10_pumps 8 none)) {K_11 : Int32 → Int32 → Int32 → Int32 → Int32 → xM → Option xR} (hK_11 : ∀ (v1 : Int32) (v2 : Int32) (v3 : Int32) (v4 : Int32) (v5 : Int32) (M : xM), K_11 v1 v2 v3 v4 v5 M = some res → ∀ (H : Heap) (locs : List Loc) (ls : Array Slot), xH Γ (wR Γ) 10 s M H locs → lv_has ls 8 [(0, .ref (Γ.2.1 0)), (1, .int v1), (2, .int v2), (3, .int v3), (4, .int v4), (5, .int v5)] → W p l e ({ frames := 2, cells := 0, slots := 0, locals := 64 } : Room) s m args below meth c H locs 0 0 (MQ below (xCv Γ (wR Γ) 10 res s.heap.size) args s 0 0 (xAd Γ 10 s.heap.size)) (F0 m 11 ls [])) : ∀ (v1 : Int32) (v2 : Int32) (v3 : Int32) (v4 : Int32) (v5 : Int32) (M : xM), L_X10_pumps_137 N K_11 v1 v2 v3 v4 v5 M = some res → ∀ (H : Heap) (locs : List Loc) (ls : Array Slot), xH Γ (wR Γ) 10 s M H locs → lv_has ls 8 [(0, .ref (Γ.2.1 0)), (1, .int v1), (2, .int v2), (3, .int v3), (4, .int v4), (5, .int v5)] → W p l e ({ frames := 2, cells := 0, slots := 0, locals := 64 } : Room) s m args below meth c H locs 0 0 (MQ below (xCv Γ (wR Γ) 10 res s.heap.size) args s 0 0 (xAd Γ 10 s.heap.size)) (F0 m 137 ls []) := by
  obtain ⟨⟨hx, hb, hml, hown, hts⟩, hr, hlocks⟩ := id E
  intro v1 v2 v3 v4 v5 M hf H locs ls h hl
  refine lv_goto (tgt := 11) hx hb dX10_pumps_137 (by decide) ?_
  exact hK_11 v1 v2 v3 v4 v5 M hf _ _ _ h (lv_sub hl [0, 1, 2, 3, 4, 5] rfl)
set_option maxHeartbeats 4000000 in
set_option maxRecDepth 100000 in
theorem w_X10_pumps_58 (l : Launch) {p : Program} {e : Env} {s : State} {m : MethodId} {args : Array Value} {below : List Frame} {meth : Method} {c : Code} {Γ : xG} {N : Nat} {res : xR} (E : xEv p s m args meth c RX10 cX10_pumps 8 none (xWs yX10_pumps cX10_pumps 8 none)) {K_11 : Int32 → Int32 → Int32 → Int32 → Int32 → xM → Option xR} (hK_11 : ∀ (v1 : Int32) (v2 : Int32) (v3 : Int32) (v4 : Int32) (v5 : Int32) (M : xM), K_11 v1 v2 v3 v4 v5 M = some res → ∀ (H : Heap) (locs : List Loc) (ls : Array Slot), xH Γ (wR Γ) 10 s M H locs → lv_has ls 8 [(0, .ref (Γ.2.1 0)), (1, .int v1), (2, .int v2), (3, .int v3), (4, .int v4), (5, .int v5)] → W p l e ({ frames := 2, cells := 0, slots := 0, locals := 64 } : Room) s m args below meth c H locs 0 0 (MQ below (xCv Γ (wR Γ) 10 res s.heap.size) args s 0 0 (xAd Γ 10 s.heap.size)) (F0 m 11 ls [])) : ∀ (v1 : Int32) (v2 : Int32) (v3 : Int32) (v4 : Int32) (v5 : Int32) (v6 : Int32) (t0 : Int32) (M : xM), L_X10_pumps_58 N K_11 v1 v2 v3 v4 v5 v6 t0 M = some res → ∀ (H : Heap) (locs : List Loc) (ls : Array Slot), xH Γ (wR Γ) 10 s M H locs → lv_has ls 8 [(0, .ref (Γ.2.1 0)), (1, .int v1), (2, .int v2), (3, .int v3), (4, .int v4), (5, .int v5), (6, .int v6)] → W p l e ({ frames := 2, cells := 0, slots := 0, locals := 64 } : Room) s m args below meth c H locs 0 0 (MQ below (xCv Γ (wR Γ) 10 res s.heap.size) args s 0 0 (xAd Γ 10 s.heap.size)) (F0 m 58 ls [.int t0]) := by
  obtain ⟨⟨hx, hb, hml, hown, hts⟩, hr, hlocks⟩ := id E
  intro v1 v2 v3 v4 v5 v6 t0 M hf H locs ls h hl
  refine lv_istore (lv' := [(7, .int t0), (0, .ref (Γ.2.1 0)), (1, .int v1), (2, .int v2), (3, .int v3), (4, .int v4), (5, .int v5), (6, .int v6)]) hx hb dX10_pumps_58 hl (by decide) rfl (fun ls hl => ?_)
  refine lv_aload_n hx hb dX10_pumps_60 rfl (lv_at hl 1 rfl) ?_
  refine x_get (own := RX10) (ref := "TintDeskModel") (C := RX10) (T := TX10) (n := 20) (index := 9) (v := .ref (Γ.2.1 1)) hx hb hts (fun w h => xU_sub w (inU10 w h)) hown h kR_model rfl 1 (by decide) (hts _ (xU_sub _ q132)) (fun _ h9 => h9) rfl dX10_pumps_61 ?_
  refine lv_sipush (v := 579) hx hb dX10_pumps_64 (by decide) ?_
  refine lv_bipush (v := 44) hx hb dX10_pumps_67 (by decide) ?_
  refine lv_iload_n hx hb dX10_pumps_69 rfl (lv_at hl 4 rfl) ?_
  refine lv_imul hx hb dX10_pumps_70 ?_
  refine lv_iadd hx hb dX10_pumps_71 ?_
  refine lv_bipush (v := 12) hx hb dX10_pumps_72 (by decide) ?_
  refine lv_iadd hx hb dX10_pumps_74 ?_
  refine lv_iconst (v := 4) hx hb dX10_pumps_75 (by decide) ?_
  refine lv_iload_n hx hb dX10_pumps_76 rfl (lv_at hl 2 rfl) ?_
  refine lv_imul hx hb dX10_pumps_77 ?_
  refine lv_iadd hx hb dX10_pumps_78 ?_
  refine lv_iload hx hb dX10_pumps_79 (lv_at hl 7 rfl) ?_
  refine lv_bipush (v := 25) hx hb dX10_pumps_81 (by decide) ?_
  refine lv_idiv hx hb dX10_pumps_83 (by decide) ?_
  refine lv_iadd hx hb dX10_pumps_84 ?_
  refine lv_dup2_11 hx hb dX10_pumps_85 rfl rfl ?_
  obtain ⟨c1, hf⟩ := xck_s hf
  refine x_iald hx hb h kR_g (xin_in c1) dX10_pumps_86 ?_
  refine lv_iconst (v := 1) hx hb dX10_pumps_87 (by decide) ?_
  refine lv_iload hx hb dX10_pumps_88 (lv_at hl 7 rfl) ?_
  refine lv_bipush (v := 25) hx hb dX10_pumps_90 (by decide) ?_
  refine lv_irem hx hb dX10_pumps_92 (by decide) ?_
  refine lv_ishl hx hb dX10_pumps_93 ?_
  refine lv_ior hx hb dX10_pumps_94 ?_
  obtain ⟨c2, hf⟩ := xck_s hf
  obtain ⟨M3, eM3, hf⟩ := xl_s hf
  refine x_iast hx hb h kR_g (xin_in c2) eM3 dX10_pumps_95 (fun H locs h => ?_)
  refine lv_aload_n hx hb dX10_pumps_96 rfl (lv_at hl 1 rfl) ?_
  refine x_get (own := RX10) (ref := "TintDeskModel") (C := RX10) (T := TX10) (n := 20) (index := 9) (v := .ref (Γ.2.1 1)) hx hb hts (fun w h => xU_sub w (inU10 w h)) hown h kR_model rfl 1 (by decide) (hts _ (xU_sub _ q132)) (fun _ h9 => h9) rfl dX10_pumps_97 ?_
  refine lv_iload hx hb dX10_pumps_100 (lv_at hl 5 rfl) ?_
  refine lv_bipush (v := 19) hx hb dX10_pumps_102 (by decide) ?_
  refine lv_iadd hx hb dX10_pumps_104 ?_
  refine lv_dup2_11 hx hb dX10_pumps_105 rfl rfl ?_
  obtain ⟨c4, hf⟩ := xck_s hf
  refine x_iald hx hb h kR_g (xin_in c4) dX10_pumps_106 ?_
  refine lv_iload hx hb dX10_pumps_107 (lv_at hl 0 rfl) ?_
  refine lv_isub hx hb dX10_pumps_109 ?_
  obtain ⟨c5, hf⟩ := xck_s hf
  obtain ⟨M6, eM6, hf⟩ := xl_s hf
  refine x_iast hx hb h kR_g (xin_in c5) eM6 dX10_pumps_110 (fun H locs h => ?_)
  refine lv_iload hx hb dX10_pumps_111 (lv_at hl 6 rfl) ?_
  refine lv_iload hx hb dX10_pumps_113 (lv_at hl 0 rfl) ?_
  refine lv_isub hx hb dX10_pumps_115 ?_
  obtain ⟨y7, ey7, hf⟩ := xl_s hf
  refine x_nm ey7 ?_
  refine lv_istore (lv' := [(5, .int y7), (7, .int t0), (0, .ref (Γ.2.1 0)), (1, .int v1), (2, .int v2), (3, .int v3), (4, .int v4), (6, .int v6)]) hx hb dX10_pumps_116 hl (by decide) rfl (fun ls hl => ?_)
  refine lv_aload_n hx hb dX10_pumps_118 rfl (lv_at hl 2 rfl) ?_
  refine x_get (own := RX10) (ref := "TintDeskModel") (C := RX10) (T := TX10) (n := 20) (index := 9) (v := .ref (Γ.2.1 1)) hx hb hts (fun w h => xU_sub w (inU10 w h)) hown h kR_model rfl 1 (by decide) (hts _ (xU_sub _ q132)) (fun _ h9 => h9) rfl dX10_pumps_119 ?_
  refine lv_iload hx hb dX10_pumps_122 (lv_at hl 6 rfl) ?_
  refine lv_bipush (v := 19) hx hb dX10_pumps_124 (by decide) ?_
  refine lv_iadd hx hb dX10_pumps_126 ?_
  obtain ⟨c8, hf⟩ := xck_s hf
  refine x_iald hx hb h kR_g (xin_in c8) dX10_pumps_127 ?_
  refine lv_if_ne (tgt := 137) hx hb dX10_pumps_128 (by decide) (fun c9 => ?_) (fun c9 => ?_)
  · replace hf := xif_f hf c9
    exact w_X10_pumps_137 l E (hK_11) v1 v2 v3 v4 y7 M6 hf _ _ _ h (lv_sub hl [2, 3, 4, 5, 6, 0] rfl)
  · replace hf := xif_t hf c9
    refine lv_aload_n hx hb dX10_pumps_131 rfl (lv_at hl 2 rfl) ?_
    refine lv_iload_n hx hb dX10_pumps_132 rfl (lv_at hl 3 rfl) ?_
    refine lv_iconst (v := 0) hx hb dX10_pumps_133 (by decide) ?_
    obtain ⟨r10, er10, hf⟩ := xbd_s hf
    refine x_Vv (As := [.int v1, .int 0]) (rest := []) E.1 (m_X10_goes l er10) (cwV 2 hts (xgV xU_sub q316 q317 q318 q5 q319) rfl rfl rfl hdX10_goes ⟨Nat.le_of_ble_eq_true rfl, Nat.le_of_ble_eq_true rfl⟩) h kR_model rfl rfl hl.1 rfl (Nat.le_of_ble_eq_true rfl) dX10_pumps_134 ⟨Nat.le_of_ble_eq_true rfl, Nat.le_of_ble_eq_true rfl⟩ (fun H locs h => ?_)
    exact w_X10_pumps_137 l E (hK_11) v1 v2 v3 v4 y7 r10.1 hf _ _ _ h (lv_sub hl [2, 3, 4, 5, 6, 0] rfl)
set_option maxHeartbeats 4000000 in
set_option maxRecDepth 100000 in
theorem w_X10_pumps_11 (l : Launch) {p : Program} {e : Env} {s : State} {m : MethodId} {args : Array Value} {below : List Frame} {meth : Method} {c : Code} {Γ : xG} {N : Nat} {res : xR} (E : xEv p s m args meth c RX10 cX10_pumps 8 none (xWs yX10_pumps cX10_pumps 8 none)) : ∀ (n : Nat) (v1 : Int32) (v2 : Int32) (v3 : Int32) (v4 : Int32) (v5 : Int32) (M : xM), L_X10_pumps_11 N n v1 v2 v3 v4 v5 M = some res → ∀ (H : Heap) (locs : List Loc) (ls : Array Slot), xH Γ (wR Γ) 10 s M H locs → lv_has ls 8 [(0, .ref (Γ.2.1 0)), (1, .int v1), (2, .int v2), (3, .int v3), (4, .int v4), (5, .int v5)] → W p l e ({ frames := 2, cells := 0, slots := 0, locals := 64 } : Room) s m args below meth c H locs 0 0 (MQ below (xCv Γ (wR Γ) 10 res s.heap.size) args s 0 0 (xAd Γ 10 s.heap.size)) (F0 m 11 ls []) := by
  obtain ⟨⟨hx, hb, hml, hown, hts⟩, hr, hlocks⟩ := id E
  intro n
  induction n with
  | zero => intro v1 v2 v3 v4 v5 M hf; cases hf
  | succ n ih =>
    intro v1 v2 v3 v4 v5 M hf H locs ls h hl
    refine lv_iload hx hb dX10_pumps_11 (lv_at hl 5 rfl) ?_
    refine lv_if_le (tgt := 140) hx hb dX10_pumps_13 (by decide) (fun c1 => ?_) (fun c1 => ?_)
    · replace hf := xif_t hf c1
      refine lv_aload_n hx hb dX10_pumps_140 rfl (lv_at hl 0 rfl) ?_
      refine x_get (own := RX10) (ref := "TintDeskModel") (C := RX10) (T := TX10) (n := 20) (index := 9) (v := .ref (Γ.2.1 1)) hx hb hts (fun w h => xU_sub w (inU10 w h)) hown h kR_model rfl 1 (by decide) (hts _ (xU_sub _ q132)) (fun _ h9 => h9) rfl dX10_pumps_141 ?_
      refine lv_iload hx hb dX10_pumps_144 (lv_at hl 4 rfl) ?_
      refine lv_iconst (v := 5) hx hb dX10_pumps_146 (by decide) ?_
      refine lv_iadd hx hb dX10_pumps_147 ?_
      refine lv_dup2_11 hx hb dX10_pumps_148 rfl rfl ?_
      obtain ⟨c2, hf⟩ := xck_s hf
      refine x_iald hx hb h kR_g (xin_in c2) dX10_pumps_149 ?_
      refine lv_iload_n hx hb dX10_pumps_150 rfl (lv_at hl 2 rfl) ?_
      refine lv_iadd hx hb dX10_pumps_151 ?_
      obtain ⟨c3, hf⟩ := xck_s hf
      obtain ⟨M4, eM4, hf⟩ := xl_s hf
      refine x_iast hx hb h kR_g (xin_in c3) eM4 dX10_pumps_152 (fun H locs h => ?_)
      refine lv_aload_n hx hb dX10_pumps_153 rfl (lv_at hl 0 rfl) ?_
      refine x_get (own := RX10) (ref := "TintDeskModel") (C := RX10) (T := TX10) (n := 20) (index := 9) (v := .ref (Γ.2.1 1)) hx hb hts (fun w h => xU_sub w (inU10 w h)) hown h kR_model rfl 1 (by decide) (hts _ (xU_sub _ q132)) (fun _ h9 => h9) rfl dX10_pumps_154 ?_
      refine lv_sipush (v := 579) hx hb dX10_pumps_157 (by decide) ?_
      refine lv_bipush (v := 44) hx hb dX10_pumps_160 (by decide) ?_
      refine lv_iload_n hx hb dX10_pumps_162 rfl (lv_at hl 3 rfl) ?_
      refine lv_imul hx hb dX10_pumps_163 ?_
      refine lv_iadd hx hb dX10_pumps_164 ?_
      refine lv_iconst (v := 2) hx hb dX10_pumps_165 (by decide) ?_
      refine lv_iadd hx hb dX10_pumps_166 ?_
      refine lv_iload_n hx hb dX10_pumps_167 rfl (lv_at hl 1 rfl) ?_
      refine lv_iadd hx hb dX10_pumps_168 ?_
      refine lv_dup2_11 hx hb dX10_pumps_169 rfl rfl ?_
      obtain ⟨c5, hf⟩ := xck_s hf
      refine x_iald hx hb h kR_g (xin_in c5) dX10_pumps_170 ?_
      refine lv_iload_n hx hb dX10_pumps_171 rfl (lv_at hl 2 rfl) ?_
      refine lv_iadd hx hb dX10_pumps_172 ?_
      obtain ⟨c6, hf⟩ := xck_s hf
      obtain ⟨M7, eM7, hf⟩ := xl_s hf
      refine x_iast hx hb h kR_g (xin_in c6) eM7 dX10_pumps_173 (fun H locs h => ?_)
      exact x_vret hx hb h (Option.some.inj hf) hr hlocks dX10_pumps_174
    · replace hf := xif_f hf c1
      refine lv_aload_n hx hb dX10_pumps_16 rfl (lv_at hl 0 rfl) ?_
      refine x_get (own := RX10) (ref := "TintDeskModel") (C := RX10) (T := TX10) (n := 20) (index := 9) (v := .ref (Γ.2.1 1)) hx hb hts (fun w h => xU_sub w (inU10 w h)) hown h kR_model rfl 1 (by decide) (hts _ (xU_sub _ q132)) (fun _ h9 => h9) rfl dX10_pumps_17 ?_
      refine lv_iload hx hb dX10_pumps_20 (lv_at hl 4 rfl) ?_
      refine lv_bipush (v := 7) hx hb dX10_pumps_22 (by decide) ?_
      refine lv_iadd hx hb dX10_pumps_24 ?_
      obtain ⟨c8, hf⟩ := xck_s hf
      refine x_iald hx hb h kR_g (xin_in c8) dX10_pumps_25 ?_
      obtain ⟨y9, ey9, hf⟩ := xl_s hf
      refine x_nm ey9 ?_
      refine lv_istore (lv' := [(6, .int y9), (0, .ref (Γ.2.1 0)), (1, .int v1), (2, .int v2), (3, .int v3), (4, .int v4), (5, .int v5)]) hx hb dX10_pumps_26 hl (by decide) rfl (fun ls hl => ?_)
      refine lv_iload hx hb dX10_pumps_28 (lv_at hl 6 rfl) ?_
      refine lv_aload_n hx hb dX10_pumps_30 rfl (lv_at hl 1 rfl) ?_
      refine x_get (own := RX10) (ref := "TintDeskModel") (C := RX10) (T := TX10) (n := 20) (index := 9) (v := .ref (Γ.2.1 1)) hx hb hts (fun w h => xU_sub w (inU10 w h)) hown h kR_model rfl 1 (by decide) (hts _ (xU_sub _ q132)) (fun _ h9 => h9) rfl dX10_pumps_31 ?_
      refine lv_iload hx hb dX10_pumps_34 (lv_at hl 5 rfl) ?_
      refine lv_bipush (v := 19) hx hb dX10_pumps_36 (by decide) ?_
      refine lv_iadd hx hb dX10_pumps_38 ?_
      obtain ⟨c10, hf⟩ := xck_s hf
      refine x_iald hx hb h kR_g (xin_in c10) dX10_pumps_39 ?_
      refine lv_icmp_ge (tgt := 48) hx hb dX10_pumps_40 (by decide) (fun c11 => ?_) (fun c11 => ?_)
      · replace hf := xif_t hf c11
        refine lv_aload_n hx hb dX10_pumps_48 rfl (lv_at hl 1 rfl) ?_
        refine x_get (own := RX10) (ref := "TintDeskModel") (C := RX10) (T := TX10) (n := 20) (index := 9) (v := .ref (Γ.2.1 1)) hx hb hts (fun w h => xU_sub w (inU10 w h)) hown h kR_model rfl 1 (by decide) (hts _ (xU_sub _ q132)) (fun _ h9 => h9) rfl dX10_pumps_49 ?_
        refine lv_iload hx hb dX10_pumps_52 (lv_at hl 5 rfl) ?_
        refine lv_bipush (v := 19) hx hb dX10_pumps_54 (by decide) ?_
        refine lv_iadd hx hb dX10_pumps_56 ?_
        obtain ⟨c12, hf⟩ := xck_s hf
        refine x_iald hx hb h kR_g (xin_in c12) dX10_pumps_57 ?_
        exact w_X10_pumps_58 l E (ih) v1 v2 v3 v4 v5 y9 (M.1 1 (v4 + 19).toNatClampNeg) M hf _ _ _ h (lv_sub hl [1, 2, 3, 4, 5, 6, 0] rfl)
      · replace hf := xif_f hf c11
        refine lv_iload hx hb dX10_pumps_43 (lv_at hl 6 rfl) ?_
        refine lv_goto (tgt := 58) hx hb dX10_pumps_45 (by decide) ?_
        exact w_X10_pumps_58 l E (ih) v1 v2 v3 v4 v5 y9 v5 M hf _ _ _ h (lv_sub hl [1, 2, 3, 4, 5, 6, 0] rfl)
set_option maxHeartbeats 4000000 in
set_option maxRecDepth 100000 in
theorem m_X10_pumps (l : Launch) {Γ : xG} {N : Nat} {v1 : Int32} {v2 : Int32} {v3 : Int32} {M : xM} {res : xR} (hf : F_X10_pumps N v1 v2 v3 M = some res) (sz : Nat) : Met l yX10_pumps (xWs yX10_pumps cX10_pumps 8 none) ({ frames := 2, cells := 0, slots := 0, locals := 64 } : Room) (va_Pc [.ref (Γ.2.1 0), .int v1, .int v2, .int v3] (xPre Γ (wR Γ) M sz)) (xCv Γ (wR Γ) 10 res sz) 0 0 (xAd Γ 10 sz) := by
  refine x_met (Qc := fun sz => xCv Γ (wR Γ) 10 res sz) pnX10 wG_W (Nat.le_of_ble_eq_true rfl) (fun p e s m args below meth c _ E h ls hl => ?_) sz
  obtain ⟨⟨hx, hb, hml, hown, hts⟩, hr, hlocks⟩ := id E
  have hl : lv_has ls 8 [(0, .ref (Γ.2.1 0)), (1, .int v1), (2, .int v2), (3, .int v3)] := hl
  refine lv_iconst (v := 5) hx hb dX10_pumps_0 (by decide) ?_
  refine lv_bipush (v := 46) hx hb dX10_pumps_1 (by decide) ?_
  refine lv_iload_n hx hb dX10_pumps_3 rfl (lv_at hl 1 rfl) ?_
  refine lv_imul hx hb dX10_pumps_4 ?_
  refine lv_iadd hx hb dX10_pumps_5 ?_
  obtain ⟨y1, ey1, hf⟩ := xl_s hf
  refine x_nm ey1 ?_
  refine lv_istore (lv' := [(4, .int y1), (0, .ref (Γ.2.1 0)), (1, .int v1), (2, .int v2), (3, .int v3)]) hx hb dX10_pumps_6 hl (by decide) rfl (fun ls hl => ?_)
  refine lv_iload_n hx hb dX10_pumps_8 rfl (lv_at hl 3 rfl) ?_
  refine lv_istore (lv' := [(5, .int v2), (4, .int y1), (0, .ref (Γ.2.1 0)), (1, .int v1), (2, .int v2), (3, .int v3)]) hx hb dX10_pumps_9 hl (by decide) rfl (fun ls hl => ?_)
  exact w_X10_pumps_11 l E N v1 v2 v3 y1 v2 M hf _ _ _ h (lv_sub hl [2, 3, 4, 5, 1, 0] rfl)
theorem hdX10_mixes : yX10_mixes.cls = RX10 ∧ yX10_mixes.cls ≠ "java/lang/invoke/MethodHandle" ∧ yX10_mixes.cls ≠ "java/lang/invoke/VarHandle" ∧ (parseMethodDescriptor yX10_mixes.desc).map (fun d => d.parameters.length) = some 1 := by decide +kernel
set_option maxHeartbeats 4000000 in
set_option maxRecDepth 100000 in
theorem w_X10_mixes_129 (l : Launch) {p : Program} {e : Env} {s : State} {m : MethodId} {args : Array Value} {below : List Frame} {meth : Method} {c : Code} {Γ : xG} {N : Nat} {res : xR} (E : xEv p s m args meth c RX10 cX10_mixes 7 (some .int) (xWs yX10_mixes cX10_mixes 7 (some .int))) : ∀ (n : Nat) (v1 : Int32) (v2 : Int32) (v5 : Int32) (M : xM), L_X10_mixes_129 N n v1 v2 v5 M = some res → ∀ (H : Heap) (locs : List Loc) (ls : Array Slot), xH Γ (wR Γ) 10 s M H locs → lv_has ls 7 [(0, .ref (Γ.2.1 0)), (1, .int v1), (2, .int v2), (5, .int v5)] → W p l e ({ frames := 3, cells := 0, slots := 0, locals := 91 } : Room) s m args below meth c H locs 0 0 (MQ below (xCi Γ (wR Γ) 10 res s.heap.size) args s 0 0 (xAd Γ 10 s.heap.size)) (F0 m 129 ls []) := by
  obtain ⟨⟨hx, hb, hml, hown, hts⟩, hr, hlocks⟩ := id E
  intro n
  induction n with
  | zero => intro v1 v2 v5 M hf; cases hf
  | succ n ih =>
    intro v1 v2 v5 M hf H locs ls h hl
    refine lv_iload hx hb dX10_mixes_129 (lv_at hl 3 rfl) ?_
    refine lv_aload_n hx hb dX10_mixes_131 rfl (lv_at hl 0 rfl) ?_
    refine x_get (own := RX10) (ref := "TintDeskModel") (C := RX10) (T := TX10) (n := 20) (index := 9) (v := .ref (Γ.2.1 1)) hx hb hts (fun w h => xU_sub w (inU10 w h)) hown h kR_model rfl 1 (by decide) (hts _ (xU_sub _ q132)) (fun _ h9 => h9) rfl dX10_mixes_132 ?_
    refine lv_iconst (v := 0) hx hb dX10_mixes_135 (by decide) ?_
    refine x_iald hx hb h kR_g (xin_in (by decide)) dX10_mixes_136 ?_
    refine lv_icmp_ge (tgt := 222) hx hb dX10_mixes_137 (by decide) (fun c1 => ?_) (fun c1 => ?_)
    · replace hf := xif_t hf c1
      refine lv_iload_n hx hb dX10_mixes_222 rfl (lv_at hl 2 rfl) ?_
      exact x_iret hx hb h (Option.some.inj hf) hr hlocks dX10_mixes_223
    · replace hf := xif_f hf c1
      refine lv_aload_n hx hb dX10_mixes_140 rfl (lv_at hl 0 rfl) ?_
      refine x_get (own := RX10) (ref := "TintDeskModel") (C := RX10) (T := TX10) (n := 20) (index := 9) (v := .ref (Γ.2.1 1)) hx hb hts (fun w h => xU_sub w (inU10 w h)) hown h kR_model rfl 1 (by decide) (hts _ (xU_sub _ q132)) (fun _ h9 => h9) rfl dX10_mixes_141 ?_
      refine lv_sipush (v := 409) hx hb dX10_mixes_144 (by decide) ?_
      refine lv_bipush (v := 17) hx hb dX10_mixes_147 (by decide) ?_
      refine lv_iload_n hx hb dX10_mixes_149 rfl (lv_at hl 1 rfl) ?_
      refine lv_imul hx hb dX10_mixes_150 ?_
      refine lv_iadd hx hb dX10_mixes_151 ?_
      refine lv_iconst (v := 1) hx hb dX10_mixes_152 (by decide) ?_
      refine lv_iadd hx hb dX10_mixes_153 ?_
      refine lv_iload hx hb dX10_mixes_154 (lv_at hl 3 rfl) ?_
      refine lv_iadd hx hb dX10_mixes_156 ?_
      obtain ⟨c2, hf⟩ := xck_s hf
      refine x_iald hx hb h kR_g (xin_in c2) dX10_mixes_157 ?_
      refine lv_aload_n hx hb dX10_mixes_158 rfl (lv_at hl 0 rfl) ?_
      refine x_get (own := RX10) (ref := "TintDeskModel") (C := RX10) (T := TX10) (n := 20) (index := 9) (v := .ref (Γ.2.1 1)) hx hb hts (fun w h => xU_sub w (inU10 w h)) hown h kR_model rfl 1 (by decide) (hts _ (xU_sub _ q132)) (fun _ h9 => h9) rfl dX10_mixes_159 ?_
      refine lv_sipush (v := 409) hx hb dX10_mixes_162 (by decide) ?_
      refine lv_bipush (v := 17) hx hb dX10_mixes_165 (by decide) ?_
      refine lv_iload_n hx hb dX10_mixes_167 rfl (lv_at hl 1 rfl) ?_
      refine lv_imul hx hb dX10_mixes_168 ?_
      refine lv_iadd hx hb dX10_mixes_169 ?_
      refine lv_bipush (v := 9) hx hb dX10_mixes_170 (by decide) ?_
      refine lv_iadd hx hb dX10_mixes_172 ?_
      refine lv_iload hx hb dX10_mixes_173 (lv_at hl 3 rfl) ?_
      refine lv_iadd hx hb dX10_mixes_175 ?_
      obtain ⟨c3, hf⟩ := xck_s hf
      refine x_iald hx hb h kR_g (xin_in c3) dX10_mixes_176 ?_
      refine lv_iadd hx hb dX10_mixes_177 ?_
      obtain ⟨y4, ey4, hf⟩ := xl_s hf
      refine x_nm ey4 ?_
      refine lv_istore (lv' := [(6, .int y4), (0, .ref (Γ.2.1 0)), (1, .int v1), (2, .int v2), (5, .int v5)]) hx hb dX10_mixes_178 hl (by decide) rfl (fun ls hl => ?_)
      refine lv_aload_n hx hb dX10_mixes_180 rfl (lv_at hl 1 rfl) ?_
      refine lv_iload hx hb dX10_mixes_181 (lv_at hl 4 rfl) ?_
      refine lv_iload hx hb dX10_mixes_183 (lv_at hl 0 rfl) ?_
      refine lv_bipush (v := 100) hx hb dX10_mixes_185 (by decide) ?_
      refine lv_idiv hx hb dX10_mixes_187 (by decide) ?_
      refine lv_iload_n hx hb dX10_mixes_188 rfl (lv_at hl 3 rfl) ?_
      obtain ⟨r5, er5, hf⟩ := xbd_s hf
      refine x_Vv (As := [.int v5, .int (y4 / 100), .int v2]) (rest := []) E.1 (m_X10_pumps l er5) (cwV 3 hts (xgV xU_sub q695 q696 q697 q5 q698) rfl rfl rfl hdX10_pumps ⟨Nat.le_of_ble_eq_true rfl, Nat.le_of_ble_eq_true rfl⟩) h kR_model rfl rfl hl.1 rfl (Nat.le_of_ble_eq_true rfl) dX10_mixes_189 ⟨Nat.le_of_ble_eq_true rfl, Nat.le_of_ble_eq_true rfl⟩ (fun H locs h => ?_)
      refine lv_aload_n hx hb dX10_mixes_192 rfl (lv_at hl 1 rfl) ?_
      refine x_get (own := RX10) (ref := "TintDeskModel") (C := RX10) (T := TX10) (n := 20) (index := 9) (v := .ref (Γ.2.1 1)) hx hb hts (fun w h => xU_sub w (inU10 w h)) hown h kR_model rfl 1 (by decide) (hts _ (xU_sub _ q132)) (fun _ h9 => h9) rfl dX10_mixes_193 ?_
      refine lv_sipush (v := 409) hx hb dX10_mixes_196 (by decide) ?_
      refine lv_bipush (v := 17) hx hb dX10_mixes_199 (by decide) ?_
      refine lv_iload_n hx hb dX10_mixes_201 rfl (lv_at hl 2 rfl) ?_
      refine lv_imul hx hb dX10_mixes_202 ?_
      refine lv_iadd hx hb dX10_mixes_203 ?_
      refine lv_bipush (v := 9) hx hb dX10_mixes_204 (by decide) ?_
      refine lv_iadd hx hb dX10_mixes_206 ?_
      refine lv_iload hx hb dX10_mixes_207 (lv_at hl 4 rfl) ?_
      refine lv_iadd hx hb dX10_mixes_209 ?_
      refine lv_iload hx hb dX10_mixes_210 (lv_at hl 0 rfl) ?_
      refine lv_bipush (v := 100) hx hb dX10_mixes_212 (by decide) ?_
      refine lv_irem hx hb dX10_mixes_214 (by decide) ?_
      obtain ⟨c6, hf⟩ := xck_s hf
      obtain ⟨M7, eM7, hf⟩ := xl_s hf
      refine x_iast hx hb h kR_g (xin_in c6) eM7 dX10_mixes_215 (fun H locs h => ?_)
      obtain ⟨y8, ey8, hf⟩ := xl_s hf
      refine lv_iinc (v := y8) (lv' := [(5, .int y8), (6, .int y4), (0, .ref (Γ.2.1 0)), (1, .int v1), (2, .int v2)]) hx hb dX10_mixes_216 hl (k := 4) rfl (by rw [ey8]; rfl) (by decide) rfl (fun ls hl => ?_)
      refine lv_goto (tgt := 129) hx hb dX10_mixes_219 (by decide) ?_
      exact ih v1 v2 y8 M7 hf _ _ _ h (lv_sub hl [2, 3, 4, 0] rfl)
set_option maxHeartbeats 4000000 in
set_option maxRecDepth 100000 in
theorem w_X10_mixes_19 (l : Launch) {p : Program} {e : Env} {s : State} {m : MethodId} {args : Array Value} {below : List Frame} {meth : Method} {c : Code} {Γ : xG} {N : Nat} {res : xR} (E : xEv p s m args meth c RX10 cX10_mixes 7 (some .int) (xWs yX10_mixes cX10_mixes 7 (some .int))) : ∀ (n : Nat) (v1 : Int32) (v2 : Int32) (v3 : Int32) (v4 : Int32) (M : xM), L_X10_mixes_19 N n v1 v2 v3 v4 M = some res → ∀ (H : Heap) (locs : List Loc) (ls : Array Slot), xH Γ (wR Γ) 10 s M H locs → lv_has ls 7 [(0, .ref (Γ.2.1 0)), (1, .int v1), (2, .int v2), (3, .int v3), (4, .int v4)] → W p l e ({ frames := 3, cells := 0, slots := 0, locals := 91 } : Room) s m args below meth c H locs 0 0 (MQ below (xCi Γ (wR Γ) 10 res s.heap.size) args s 0 0 (xAd Γ 10 s.heap.size)) (F0 m 19 ls []) := by
  obtain ⟨⟨hx, hb, hml, hown, hts⟩, hr, hlocks⟩ := id E
  intro n
  induction n with
  | zero => intro v1 v2 v3 v4 M hf; cases hf
  | succ n ih =>
    intro v1 v2 v3 v4 M hf H locs ls h hl
    refine lv_iload hx hb dX10_mixes_19 (lv_at hl 4 rfl) ?_
    refine lv_bipush (v := 44) hx hb dX10_mixes_21 (by decide) ?_
    refine lv_icmp_ge (tgt := 42) hx hb dX10_mixes_23 (by decide) (fun c1 => ?_) (fun c1 => ?_)
    · replace hf := xif_t hf c1
      refine lv_aload_n hx hb dX10_mixes_42 rfl (lv_at hl 0 rfl) ?_
      refine x_get (own := RX10) (ref := "TintDeskModel") (C := RX10) (T := TX10) (n := 20) (index := 9) (v := .ref (Γ.2.1 1)) hx hb hts (fun w h => xU_sub w (inU10 w h)) hown h kR_model rfl 1 (by decide) (hts _ (xU_sub _ q132)) (fun _ h9 => h9) rfl dX10_mixes_43 ?_
      refine lv_sipush (v := 409) hx hb dX10_mixes_46 (by decide) ?_
      refine lv_bipush (v := 17) hx hb dX10_mixes_49 (by decide) ?_
      refine lv_iload_n hx hb dX10_mixes_51 rfl (lv_at hl 1 rfl) ?_
      refine lv_imul hx hb dX10_mixes_52 ?_
      refine lv_iadd hx hb dX10_mixes_53 ?_
      obtain ⟨c2, hf⟩ := xck_s hf
      refine x_iald hx hb h kR_g (xin_in c2) dX10_mixes_54 ?_
      obtain ⟨y3, ey3, hf⟩ := xl_s hf
      refine x_nm ey3 ?_
      refine lv_istore (lv' := [(4, .int y3), (0, .ref (Γ.2.1 0)), (1, .int v1), (2, .int v2), (3, .int v3)]) hx hb dX10_mixes_55 hl (by decide) rfl (fun ls hl => ?_)
      refine lv_aload_n hx hb dX10_mixes_57 rfl (lv_at hl 1 rfl) ?_
      refine x_get (own := RX10) (ref := "TintDeskModel") (C := RX10) (T := TX10) (n := 20) (index := 9) (v := .ref (Γ.2.1 1)) hx hb hts (fun w h => xU_sub w (inU10 w h)) hown h kR_model rfl 1 (by decide) (hts _ (xU_sub _ q132)) (fun _ h9 => h9) rfl dX10_mixes_58 ?_
      refine lv_iload_n hx hb dX10_mixes_61 rfl (lv_at hl 4 rfl) ?_
      refine lv_iconst (v := 0) hx hb dX10_mixes_62 (by decide) ?_
      refine lv_iadd hx hb dX10_mixes_63 ?_
      refine lv_iload_n hx hb dX10_mixes_64 rfl (lv_at hl 2 rfl) ?_
      obtain ⟨c4, hf⟩ := xck_s hf
      obtain ⟨M5, eM5, hf⟩ := xl_s hf
      refine x_iast hx hb h kR_g (xin_in c4) eM5 dX10_mixes_65 (fun H locs h => ?_)
      refine lv_aload_n hx hb dX10_mixes_66 rfl (lv_at hl 1 rfl) ?_
      refine x_get (own := RX10) (ref := "TintDeskModel") (C := RX10) (T := TX10) (n := 20) (index := 9) (v := .ref (Γ.2.1 1)) hx hb hts (fun w h => xU_sub w (inU10 w h)) hown h kR_model rfl 1 (by decide) (hts _ (xU_sub _ q132)) (fun _ h9 => h9) rfl dX10_mixes_67 ?_
      refine lv_iload_n hx hb dX10_mixes_70 rfl (lv_at hl 4 rfl) ?_
      refine lv_iconst (v := 1) hx hb dX10_mixes_71 (by decide) ?_
      refine lv_iadd hx hb dX10_mixes_72 ?_
      refine lv_iload hx hb dX10_mixes_73 (lv_at hl 0 rfl) ?_
      obtain ⟨c6, hf⟩ := xck_s hf
      obtain ⟨M7, eM7, hf⟩ := xl_s hf
      refine x_iast hx hb h kR_g (xin_in c6) eM7 dX10_mixes_75 (fun H locs h => ?_)
      refine lv_aload_n hx hb dX10_mixes_76 rfl (lv_at hl 1 rfl) ?_
      refine x_get (own := RX10) (ref := "TintDeskModel") (C := RX10) (T := TX10) (n := 20) (index := 9) (v := .ref (Γ.2.1 1)) hx hb hts (fun w h => xU_sub w (inU10 w h)) hown h kR_model rfl 1 (by decide) (hts _ (xU_sub _ q132)) (fun _ h9 => h9) rfl dX10_mixes_77 ?_
      refine lv_iconst (v := 3) hx hb dX10_mixes_80 (by decide) ?_
      refine lv_dup2_11 hx hb dX10_mixes_81 rfl rfl ?_
      refine x_iald hx hb h kR_g (xin_in (by decide)) dX10_mixes_82 ?_
      refine lv_iconst (v := 1) hx hb dX10_mixes_83 (by decide) ?_
      refine lv_iadd hx hb dX10_mixes_84 ?_
      obtain ⟨M8, eM8, hf⟩ := xl_s hf
      refine x_iast hx hb h kR_g (xin_in (by decide)) eM8 dX10_mixes_85 (fun H locs h => ?_)
      refine lv_aload_n hx hb dX10_mixes_86 rfl (lv_at hl 1 rfl) ?_
      refine x_get (own := RX10) (ref := "TintDeskModel") (C := RX10) (T := TX10) (n := 20) (index := 9) (v := .ref (Γ.2.1 1)) hx hb hts (fun w h => xU_sub w (inU10 w h)) hown h kR_model rfl 1 (by decide) (hts _ (xU_sub _ q132)) (fun _ h9 => h9) rfl dX10_mixes_87 ?_
      refine lv_sipush (v := 373) hx hb dX10_mixes_90 (by decide) ?_
      refine lv_bipush (v := 6) hx hb dX10_mixes_93 (by decide) ?_
      refine lv_iload hx hb dX10_mixes_95 (lv_at hl 0 rfl) ?_
      refine lv_imul hx hb dX10_mixes_97 ?_
      refine lv_iadd hx hb dX10_mixes_98 ?_
      refine lv_iconst (v := 4) hx hb dX10_mixes_99 (by decide) ?_
      refine lv_iadd hx hb dX10_mixes_100 ?_
      refine lv_dup2_11 hx hb dX10_mixes_101 rfl rfl ?_
      obtain ⟨c9, hf⟩ := xck_s hf
      refine x_iald hx hb h kR_g (xin_in c9) dX10_mixes_102 ?_
      refine lv_iconst (v := 1) hx hb dX10_mixes_103 (by decide) ?_
      refine lv_isub hx hb dX10_mixes_104 ?_
      obtain ⟨c10, hf⟩ := xck_s hf
      obtain ⟨M11, eM11, hf⟩ := xl_s hf
      refine x_iast hx hb h kR_g (xin_in c10) eM11 dX10_mixes_105 (fun H locs h => ?_)
      refine lv_aload_n hx hb dX10_mixes_106 rfl (lv_at hl 1 rfl) ?_
      refine x_get (own := RX10) (ref := "TintDeskModel") (C := RX10) (T := TX10) (n := 20) (index := 9) (v := .ref (Γ.2.1 1)) hx hb hts (fun w h => xU_sub w (inU10 w h)) hown h kR_model rfl 1 (by decide) (hts _ (xU_sub _ q132)) (fun _ h9 => h9) rfl dX10_mixes_107 ?_
      refine lv_sipush (v := 373) hx hb dX10_mixes_110 (by decide) ?_
      refine lv_bipush (v := 6) hx hb dX10_mixes_113 (by decide) ?_
      refine lv_iload hx hb dX10_mixes_115 (lv_at hl 0 rfl) ?_
      refine lv_imul hx hb dX10_mixes_117 ?_
      refine lv_iadd hx hb dX10_mixes_118 ?_
      refine lv_iconst (v := 5) hx hb dX10_mixes_119 (by decide) ?_
      refine lv_iadd hx hb dX10_mixes_120 ?_
      refine lv_dup2_11 hx hb dX10_mixes_121 rfl rfl ?_
      obtain ⟨c12, hf⟩ := xck_s hf
      refine x_iald hx hb h kR_g (xin_in c12) dX10_mixes_122 ?_
      refine lv_iconst (v := 1) hx hb dX10_mixes_123 (by decide) ?_
      refine lv_iadd hx hb dX10_mixes_124 ?_
      obtain ⟨c13, hf⟩ := xck_s hf
      obtain ⟨M14, eM14, hf⟩ := xl_s hf
      refine x_iast hx hb h kR_g (xin_in c13) eM14 dX10_mixes_125 (fun H locs h => ?_)
      refine lv_iconst (v := 0) hx hb dX10_mixes_126 (by decide) ?_
      refine lv_istore (lv' := [(5, .int 0), (4, .int y3), (0, .ref (Γ.2.1 0)), (1, .int v1), (2, .int v2), (3, .int v3)]) hx hb dX10_mixes_127 hl (by decide) rfl (fun ls hl => ?_)
      exact w_X10_mixes_129 l E N v1 v2 0 M14 hf _ _ _ h (lv_sub hl [2, 3, 4, 0] rfl)
    · replace hf := xif_f hf c1
      refine lv_aload_n hx hb dX10_mixes_26 rfl (lv_at hl 0 rfl) ?_
      refine x_get (own := RX10) (ref := "TintDeskModel") (C := RX10) (T := TX10) (n := 20) (index := 9) (v := .ref (Γ.2.1 1)) hx hb hts (fun w h => xU_sub w (inU10 w h)) hown h kR_model rfl 1 (by decide) (hts _ (xU_sub _ q132)) (fun _ h9 => h9) rfl dX10_mixes_27 ?_
      refine lv_iload_n hx hb dX10_mixes_30 rfl (lv_at hl 3 rfl) ?_
      refine lv_iload hx hb dX10_mixes_31 (lv_at hl 4 rfl) ?_
      refine lv_iadd hx hb dX10_mixes_33 ?_
      refine lv_iconst (v := 0) hx hb dX10_mixes_34 (by decide) ?_
      obtain ⟨c15, hf⟩ := xck_s hf
      obtain ⟨M16, eM16, hf⟩ := xl_s hf
      refine x_iast hx hb h kR_g (xin_in c15) eM16 dX10_mixes_35 (fun H locs h => ?_)
      obtain ⟨y17, ey17, hf⟩ := xl_s hf
      refine lv_iinc (v := y17) (lv' := [(4, .int y17), (0, .ref (Γ.2.1 0)), (1, .int v1), (2, .int v2), (3, .int v3)]) hx hb dX10_mixes_36 hl (k := 4) rfl (by rw [ey17]; rfl) (by decide) rfl (fun ls hl => ?_)
      refine lv_goto (tgt := 19) hx hb dX10_mixes_39 (by decide) ?_
      exact ih v1 v2 v3 y17 M16 hf _ _ _ h (lv_sub hl [1, 2, 3, 4, 0] rfl)
set_option maxHeartbeats 4000000 in
set_option maxRecDepth 100000 in
theorem m_X10_mixes (l : Launch) {Γ : xG} {N : Nat} {v1 : Int32} {M : xM} {res : xR} (hf : F_X10_mixes N v1 M = some res) (sz : Nat) : Met l yX10_mixes (xWs yX10_mixes cX10_mixes 7 (some .int)) ({ frames := 3, cells := 0, slots := 0, locals := 91 } : Room) (va_Pc [.ref (Γ.2.1 0), .int v1] (xPre Γ (wR Γ) M sz)) (xCi Γ (wR Γ) 10 res sz) 0 0 (xAd Γ 10 sz) := by
  refine x_met (Qc := fun sz => xCi Γ (wR Γ) 10 res sz) pnX10 wG_W (Nat.le_of_ble_eq_true rfl) (fun p e s m args below meth c _ E h ls hl => ?_) sz
  obtain ⟨⟨hx, hb, hml, hown, hts⟩, hr, hlocks⟩ := id E
  have hl : lv_has ls 7 [(0, .ref (Γ.2.1 0)), (1, .int v1)] := hl
  refine lv_aload_n hx hb dX10_mixes_0 rfl (lv_at hl 0 rfl) ?_
  refine x_get (own := RX10) (ref := "TintDeskModel") (C := RX10) (T := TX10) (n := 20) (index := 9) (v := .ref (Γ.2.1 1)) hx hb hts (fun w h => xU_sub w (inU10 w h)) hown h kR_model rfl 1 (by decide) (hts _ (xU_sub _ q132)) (fun _ h9 => h9) rfl dX10_mixes_1 ?_
  refine lv_iconst (v := 3) hx hb dX10_mixes_4 (by decide) ?_
  refine x_iald hx hb h kR_g (xin_in (by decide)) dX10_mixes_5 ?_
  obtain ⟨y1, ey1, hf⟩ := xl_s hf
  refine x_nm ey1 ?_
  refine lv_istore_n (lv' := [(2, .int y1), (0, .ref (Γ.2.1 0)), (1, .int v1)]) hx hb dX10_mixes_6 rfl hl (by decide) rfl (fun ls hl => ?_)
  refine lv_sipush (v := 579) hx hb dX10_mixes_7 (by decide) ?_
  refine lv_bipush (v := 44) hx hb dX10_mixes_10 (by decide) ?_
  refine lv_iload_n hx hb dX10_mixes_12 rfl (lv_at hl 0 rfl) ?_
  refine lv_imul hx hb dX10_mixes_13 ?_
  refine lv_iadd hx hb dX10_mixes_14 ?_
  obtain ⟨y2, ey2, hf⟩ := xl_s hf
  refine x_nm ey2 ?_
  refine lv_istore_n (lv' := [(3, .int y2), (2, .int y1), (0, .ref (Γ.2.1 0)), (1, .int v1)]) hx hb dX10_mixes_15 rfl hl (by decide) rfl (fun ls hl => ?_)
  refine lv_iconst (v := 0) hx hb dX10_mixes_16 (by decide) ?_
  refine lv_istore (lv' := [(4, .int 0), (3, .int y2), (2, .int y1), (0, .ref (Γ.2.1 0)), (1, .int v1)]) hx hb dX10_mixes_17 hl (by decide) rfl (fun ls hl => ?_)
  exact w_X10_mixes_19 l E N v1 y1 y2 0 M hf _ _ _ h (lv_sub hl [3, 4, 2, 1, 0] rfl)
theorem hdX10_mix : yX10_mix.cls = RX10 ∧ yX10_mix.cls ≠ "java/lang/invoke/MethodHandle" ∧ yX10_mix.cls ≠ "java/lang/invoke/VarHandle" ∧ (parseMethodDescriptor yX10_mix.desc).map (fun d => d.parameters.length) = some 1 := by decide +kernel
set_option maxHeartbeats 4000000 in
set_option maxRecDepth 100000 in
theorem m_X10_mix (l : Launch) {Γ : xG} {N : Nat} {v1 : Int32} {M : xM} {res : xR} (hf : F_X10_mix N v1 M = some res) (sz : Nat) : Met l yX10_mix (xWs yX10_mix cX10_mix 3 (some .int)) ({ frames := 4, cells := 0, slots := 0, locals := 117 } : Room) (va_Pc [.ref (Γ.2.1 0), .int v1] (xPre Γ (wR Γ) M sz)) (xCi Γ (wR Γ) 10 res sz) 0 0 (xAd Γ 10 sz) := by
  refine x_met (Qc := fun sz => xCi Γ (wR Γ) 10 res sz) pnX10 wG_W (Nat.le_of_ble_eq_true rfl) (fun p e s m args below meth c _ E h ls hl => ?_) sz
  obtain ⟨⟨hx, hb, hml, hown, hts⟩, hr, hlocks⟩ := id E
  have hl : lv_has ls 3 [(0, .ref (Γ.2.1 0)), (1, .int v1)] := hl
  refine lv_aload_n hx hb dX10_mix_0 rfl (lv_at hl 0 rfl) ?_
  refine lv_iload_n hx hb dX10_mix_1 rfl (lv_at hl 1 rfl) ?_
  obtain ⟨r1, er1, hf⟩ := xbd_s hf
  refine x_Vi (As := [.int v1]) (rest := []) E.1 (m_X10_isFormula l er1) (cwV 1 hts (xgV xU_sub q569 q570 q571 q5 q572) rfl rfl rfl hdX10_isFormula ⟨Nat.le_of_ble_eq_true rfl, Nat.le_of_ble_eq_true rfl⟩) h kR_model rfl rfl hl.1 rfl (Nat.le_of_ble_eq_true rfl) dX10_mix_2 ⟨Nat.le_of_ble_eq_true rfl, Nat.le_of_ble_eq_true rfl⟩ (fun H locs h => ?_)
  refine lv_if_ne (tgt := 14) hx hb dX10_mix_5 (by decide) (fun c2 => ?_) (fun c2 => ?_)
  · replace hf := xif_f hf c2
    refine lv_aload_n hx hb dX10_mix_14 rfl (lv_at hl 0 rfl) ?_
    refine lv_iload_n hx hb dX10_mix_15 rfl (lv_at hl 1 rfl) ?_
    obtain ⟨r3, er3, hf⟩ := xbd_s hf
    refine x_Vi (As := [.int v1]) (rest := []) E.1 (m_X10_hinders l er3) (cwV 1 hts (xgV xU_sub q683 q684 q685 q5 q686) rfl rfl rfl hdX10_hinders ⟨Nat.le_of_ble_eq_true rfl, Nat.le_of_ble_eq_true rfl⟩) h kR_model rfl rfl hl.1 rfl (Nat.le_of_ble_eq_true rfl) dX10_mix_16 ⟨Nat.le_of_ble_eq_true rfl, Nat.le_of_ble_eq_true rfl⟩ (fun H locs h => ?_)
    obtain ⟨y4, ey4, hf⟩ := xl_s hf
    refine x_nm ey4 ?_
    refine lv_istore_n (lv' := [(2, .int y4), (0, .ref (Γ.2.1 0)), (1, .int v1)]) hx hb dX10_mix_19 rfl hl (by decide) rfl (fun ls hl => ?_)
    refine lv_iload_n hx hb dX10_mix_20 rfl (lv_at hl 0 rfl) ?_
    refine lv_if_eq (tgt := 39) hx hb dX10_mix_21 (by decide) (fun c5 => ?_) (fun c5 => ?_)
    · replace hf := xif_t hf c5
      refine lv_aload_n hx hb dX10_mix_39 rfl (lv_at hl 1 rfl) ?_
      obtain ⟨r6, er6, hf⟩ := xbd_s hf
      refine x_Vv (As := []) (rest := []) E.1 (m_X10_remembers l er6) (cwV 0 hts (xgV xU_sub q213 q214 q215 q5 q216) rfl rfl rfl hdX10_remembers ⟨Nat.le_of_ble_eq_true rfl, Nat.le_of_ble_eq_true rfl⟩) h kR_model rfl rfl hl.1 rfl (Nat.le_of_ble_eq_true rfl) dX10_mix_40 ⟨Nat.le_of_ble_eq_true rfl, Nat.le_of_ble_eq_true rfl⟩ (fun H locs h => ?_)
      refine lv_aload_n hx hb dX10_mix_43 rfl (lv_at hl 1 rfl) ?_
      refine lv_aload_n hx hb dX10_mix_44 rfl (lv_at hl 1 rfl) ?_
      refine lv_iload_n hx hb dX10_mix_45 rfl (lv_at hl 2 rfl) ?_
      obtain ⟨r7, er7, hf⟩ := xbd_s hf
      refine x_Vi (As := [.int v1]) (rest := [.ref (Γ.2.1 0)]) E.1 (m_X10_mixes l er7) (cwV 1 hts (xgV xU_sub q691 q692 q693 q5 q694) rfl rfl rfl hdX10_mixes ⟨Nat.le_of_ble_eq_true rfl, Nat.le_of_ble_eq_true rfl⟩) h kR_model rfl rfl hl.1 rfl (Nat.le_of_ble_eq_true rfl) dX10_mix_46 ⟨Nat.le_of_ble_eq_true rfl, Nat.le_of_ble_eq_true rfl⟩ (fun H locs h => ?_)
      obtain ⟨r8, er8, hf⟩ := xbd_s hf
      refine x_Vi (As := [.int r7.2]) (rest := []) E.1 (m_X10_done l er8) (cwV 1 hts (xgV xU_sub q221 q222 q223 q5 q224) rfl rfl rfl hdX10_done ⟨Nat.le_of_ble_eq_true rfl, Nat.le_of_ble_eq_true rfl⟩) h kR_model rfl rfl hl.1 rfl (Nat.le_of_ble_eq_true rfl) dX10_mix_49 ⟨Nat.le_of_ble_eq_true rfl, Nat.le_of_ble_eq_true rfl⟩ (fun H locs h => ?_)
      exact x_iret hx hb h (Option.some.inj hf) hr hlocks dX10_mix_52
    · replace hf := xif_f hf c5
      refine lv_aload_n hx hb dX10_mix_24 rfl (lv_at hl 1 rfl) ?_
      refine lv_aload_n hx hb dX10_mix_25 rfl (lv_at hl 1 rfl) ?_
      refine x_get (own := RX10) (ref := "TintDeskModel") (C := RX10) (T := TX10) (n := 20) (index := 135) (v := .int (r3.1.1 0 15)) hx hb hts (fun w h => xU_sub w (inU10 w h)) hown h kR_model rfl 15 (by decide) (hts _ (xU_sub _ q681)) (fun _ h9 => h9) rfl dX10_mix_26 ?_
      obtain ⟨M9, eM9, hf⟩ := xl_s hf
      refine x_put (own := RX10) (ref := "TintDeskModel") (C := RX10) (T := TX10) (n := 20) (index := 145) (ty := .int) hx hb hts (fun w h => xU_sub w (inU10 w h)) tyX10 tyX10_ok nmX10 hown h kR_model rfl 8 (by decide) (hts _ (xU_sub _ q682)) (fun _ h9 => h9) rfl (by decide +kernel) rfl rfl (Nat.le_of_ble_eq_true rfl) rfl eM9 dX10_mix_29 (fun H locs h => ?_)
      refine lv_aload_n hx hb dX10_mix_32 rfl (lv_at hl 1 rfl) ?_
      refine lv_iload_n hx hb dX10_mix_33 rfl (lv_at hl 0 rfl) ?_
      refine lv_iconst (v := 2) hx hb dX10_mix_34 (by decide) ?_
      obtain ⟨r10, er10, hf⟩ := xbd_s hf
      refine x_Vi (As := [.int y4, .int 2]) (rest := []) E.1 (m_X10_refuses l er10) (cwV 2 hts (xgV xU_sub q288 q289 q290 q5 q291) rfl rfl rfl hdX10_refuses ⟨Nat.le_of_ble_eq_true rfl, Nat.le_of_ble_eq_true rfl⟩) h kR_model rfl rfl hl.1 rfl (Nat.le_of_ble_eq_true rfl) dX10_mix_35 ⟨Nat.le_of_ble_eq_true rfl, Nat.le_of_ble_eq_true rfl⟩ (fun H locs h => ?_)
      exact x_iret hx hb h (Option.some.inj hf) hr hlocks dX10_mix_38
  · replace hf := xif_t hf c2
    refine lv_aload_n hx hb dX10_mix_8 rfl (lv_at hl 0 rfl) ?_
    refine lv_iconst (v := 1) hx hb dX10_mix_9 (by decide) ?_
    obtain ⟨r11, er11, hf⟩ := xbd_s hf
    refine x_Vi (As := [.int 1]) (rest := []) E.1 (m_X10_fails l er11) (cwV 1 hts (xgV xU_sub q208 q209 q210 q5 q211) rfl rfl rfl hdX10_fails ⟨Nat.le_of_ble_eq_true rfl, Nat.le_of_ble_eq_true rfl⟩) h kR_model rfl rfl hl.1 rfl (Nat.le_of_ble_eq_true rfl) dX10_mix_10 ⟨Nat.le_of_ble_eq_true rfl, Nat.le_of_ble_eq_true rfl⟩ (fun H locs h => ?_)
    exact x_iret hx hb h (Option.some.inj hf) hr hlocks dX10_mix_13
theorem hdX10_possible : yX10_possible.cls = RX10 ∧ yX10_possible.cls ≠ "java/lang/invoke/MethodHandle" ∧ yX10_possible.cls ≠ "java/lang/invoke/VarHandle" ∧ (parseMethodDescriptor yX10_possible.desc).map (fun d => d.parameters.length) = some 1 := by decide +kernel
set_option maxHeartbeats 4000000 in
set_option maxRecDepth 100000 in
theorem w_X10_possible_29 (l : Launch) {p : Program} {e : Env} {s : State} {m : MethodId} {args : Array Value} {below : List Frame} {meth : Method} {c : Code} {Γ : xG} {N : Nat} {res : xR} (E : xEv p s m args meth c RX10 cX10_possible 4 (some .int) (xWs yX10_possible cX10_possible 4 (some .int))) : ∀ (n : Nat) (v1 : Int32) (v2 : Int32) (M : xM), L_X10_possible_29 N n v1 v2 M = some res → ∀ (H : Heap) (locs : List Loc) (ls : Array Slot), xH Γ (wR Γ) 10 s M H locs → lv_has ls 4 [(0, .ref (Γ.2.1 0)), (1, .int v1), (2, .int v2)] → W p l e ({ frames := 4, cells := 0, slots := 0, locals := 117 } : Room) s m args below meth c H locs 0 0 (MQ below (xCi Γ (wR Γ) 10 res s.heap.size) args s 0 0 (xAd Γ 10 s.heap.size)) (F0 m 29 ls []) := by
  obtain ⟨⟨hx, hb, hml, hown, hts⟩, hr, hlocks⟩ := id E
  intro n
  induction n with
  | zero => intro v1 v2 M hf; cases hf
  | succ n ih =>
    intro v1 v2 M hf H locs ls h hl
    refine lv_aload_n hx hb dX10_possible_29 rfl (lv_at hl 0 rfl) ?_
    refine lv_iload_n hx hb dX10_possible_30 rfl (lv_at hl 1 rfl) ?_
    obtain ⟨r1, er1, hf⟩ := xbd_s hf
    refine x_Vi (As := [.int v1]) (rest := []) E.1 (m_X10_hinders l er1) (cwV 1 hts (xgV xU_sub q683 q684 q685 q5 q686) rfl rfl rfl hdX10_hinders ⟨Nat.le_of_ble_eq_true rfl, Nat.le_of_ble_eq_true rfl⟩) h kR_model rfl rfl hl.1 rfl (Nat.le_of_ble_eq_true rfl) dX10_possible_31 ⟨Nat.le_of_ble_eq_true rfl, Nat.le_of_ble_eq_true rfl⟩ (fun H locs h => ?_)
    refine lv_if_ne (tgt := 49) hx hb dX10_possible_34 (by decide) (fun c2 => ?_) (fun c2 => ?_)
    · replace hf := xif_f hf c2
      refine lv_aload_n hx hb dX10_possible_49 rfl (lv_at hl 0 rfl) ?_
      refine x_get (own := RX10) (ref := "TintDeskModel") (C := RX10) (T := TX10) (n := 20) (index := 19) (v := .ref (Γ.2.1 4)) hx hb hts (fun w h => xU_sub w (inU10 w h)) hown h kR_model rfl 6 (by decide) (hts _ (xU_sub _ q135)) (fun _ h9 => h9) rfl dX10_possible_50 ?_
      refine lv_iconst (v := 0) hx hb dX10_possible_53 (by decide) ?_
      refine lv_aload_n hx hb dX10_possible_54 rfl (lv_at hl 0 rfl) ?_
      refine x_get (own := RX10) (ref := "TintDeskModel") (C := RX10) (T := TX10) (n := 20) (index := 9) (v := .ref (Γ.2.1 1)) hx hb hts (fun w h => xU_sub w (inU10 w h)) hown h kR_model rfl 1 (by decide) (hts _ (xU_sub _ q132)) (fun _ h9 => h9) rfl dX10_possible_55 ?_
      refine lv_iconst (v := 0) hx hb dX10_possible_58 (by decide) ?_
      obtain ⟨r3, er3, hf⟩ := xbd_s hf
      refine x_Sv (As := [.ref (Γ.2.1 4), .int 0, .ref (Γ.2.1 1), .int 0]) (rest := []) E.1 (m_X10_copy l kR_aside kR_g er3) (cwS 4 hts (xgS xU_sub q218 q219 q5 q220) rfl rfl rfl hdX10_copy ⟨Nat.le_of_ble_eq_true rfl, Nat.le_of_ble_eq_true rfl⟩) h rfl hl.1 rfl (Nat.le_of_ble_eq_true rfl) dX10_possible_59 ⟨Nat.le_of_ble_eq_true rfl, Nat.le_of_ble_eq_true rfl⟩ (fun H locs h => ?_)
      refine lv_aload_n hx hb dX10_possible_62 rfl (lv_at hl 0 rfl) ?_
      refine lv_iload_n hx hb dX10_possible_63 rfl (lv_at hl 2 rfl) ?_
      obtain ⟨r4, er4, hf⟩ := xbd_s hf
      refine x_Vi (As := [.int v2]) (rest := []) E.1 (m_X10_done l er4) (cwV 1 hts (xgV xU_sub q221 q222 q223 q5 q224) rfl rfl rfl hdX10_done ⟨Nat.le_of_ble_eq_true rfl, Nat.le_of_ble_eq_true rfl⟩) h kR_model rfl rfl hl.1 rfl (Nat.le_of_ble_eq_true rfl) dX10_possible_64 ⟨Nat.le_of_ble_eq_true rfl, Nat.le_of_ble_eq_true rfl⟩ (fun H locs h => ?_)
      exact x_iret hx hb h (Option.some.inj hf) hr hlocks dX10_possible_67
    · replace hf := xif_t hf c2
      refine lv_aload_n hx hb dX10_possible_37 rfl (lv_at hl 0 rfl) ?_
      refine lv_iload_n hx hb dX10_possible_38 rfl (lv_at hl 1 rfl) ?_
      obtain ⟨r5, er5, hf⟩ := xbd_s hf
      refine x_Vi (As := [.int v1]) (rest := []) E.1 (m_X10_mixes l er5) (cwV 1 hts (xgV xU_sub q691 q692 q693 q5 q694) rfl rfl rfl hdX10_mixes ⟨Nat.le_of_ble_eq_true rfl, Nat.le_of_ble_eq_true rfl⟩) h kR_model rfl rfl hl.1 rfl (Nat.le_of_ble_eq_true rfl) dX10_possible_39 ⟨Nat.le_of_ble_eq_true rfl, Nat.le_of_ble_eq_true rfl⟩ (fun H locs h => ?_)
      obtain ⟨y6, ey6, hf⟩ := xl_s hf
      refine x_nm ey6 ?_
      refine lv_istore_n (lv' := [(3, .int y6), (0, .ref (Γ.2.1 0)), (1, .int v1), (2, .int v2)]) hx hb dX10_possible_42 rfl hl (by decide) rfl (fun ls hl => ?_)
      obtain ⟨y7, ey7, hf⟩ := xl_s hf
      refine lv_iinc (v := y7) (lv' := [(2, .int y7), (3, .int y6), (0, .ref (Γ.2.1 0)), (1, .int v1)]) hx hb dX10_possible_43 hl (k := 3) rfl (by rw [ey7]; rfl) (by decide) rfl (fun ls hl => ?_)
      refine lv_goto (tgt := 29) hx hb dX10_possible_46 (by decide) ?_
      exact ih v1 y7 r5.1 hf _ _ _ h (lv_sub hl [2, 3, 0] rfl)
set_option maxHeartbeats 4000000 in
set_option maxRecDepth 100000 in
theorem m_X10_possible (l : Launch) {Γ : xG} {N : Nat} {v1 : Int32} {M : xM} {res : xR} (hf : F_X10_possible N v1 M = some res) (sz : Nat) : Met l yX10_possible (xWs yX10_possible cX10_possible 4 (some .int)) ({ frames := 4, cells := 0, slots := 0, locals := 117 } : Room) (va_Pc [.ref (Γ.2.1 0), .int v1] (xPre Γ (wR Γ) M sz)) (xCi Γ (wR Γ) 10 res sz) 0 0 (xAd Γ 10 sz) := by
  refine x_met (Qc := fun sz => xCi Γ (wR Γ) 10 res sz) pnX10 wG_W (Nat.le_of_ble_eq_true rfl) (fun p e s m args below meth c _ E h ls hl => ?_) sz
  obtain ⟨⟨hx, hb, hml, hown, hts⟩, hr, hlocks⟩ := id E
  have hl : lv_has ls 4 [(0, .ref (Γ.2.1 0)), (1, .int v1)] := hl
  refine lv_aload_n hx hb dX10_possible_0 rfl (lv_at hl 0 rfl) ?_
  refine lv_iload_n hx hb dX10_possible_1 rfl (lv_at hl 1 rfl) ?_
  obtain ⟨r1, er1, hf⟩ := xbd_s hf
  refine x_Vi (As := [.int v1]) (rest := []) E.1 (m_X10_isFormula l er1) (cwV 1 hts (xgV xU_sub q569 q570 q571 q5 q572) rfl rfl rfl hdX10_isFormula ⟨Nat.le_of_ble_eq_true rfl, Nat.le_of_ble_eq_true rfl⟩) h kR_model rfl rfl hl.1 rfl (Nat.le_of_ble_eq_true rfl) dX10_possible_2 ⟨Nat.le_of_ble_eq_true rfl, Nat.le_of_ble_eq_true rfl⟩ (fun H locs h => ?_)
  refine lv_if_ne (tgt := 14) hx hb dX10_possible_5 (by decide) (fun c2 => ?_) (fun c2 => ?_)
  · replace hf := xif_f hf c2
    refine lv_aload_n hx hb dX10_possible_14 rfl (lv_at hl 0 rfl) ?_
    refine x_get (own := RX10) (ref := "TintDeskModel") (C := RX10) (T := TX10) (n := 20) (index := 9) (v := .ref (Γ.2.1 1)) hx hb hts (fun w h => xU_sub w (inU10 w h)) hown h kR_model rfl 1 (by decide) (hts _ (xU_sub _ q132)) (fun _ h9 => h9) rfl dX10_possible_15 ?_
    refine lv_iconst (v := 0) hx hb dX10_possible_18 (by decide) ?_
    refine lv_aload_n hx hb dX10_possible_19 rfl (lv_at hl 0 rfl) ?_
    refine x_get (own := RX10) (ref := "TintDeskModel") (C := RX10) (T := TX10) (n := 20) (index := 19) (v := .ref (Γ.2.1 4)) hx hb hts (fun w h => xU_sub w (inU10 w h)) hown h kR_model rfl 6 (by decide) (hts _ (xU_sub _ q135)) (fun _ h9 => h9) rfl dX10_possible_20 ?_
    refine lv_iconst (v := 0) hx hb dX10_possible_23 (by decide) ?_
    obtain ⟨r3, er3, hf⟩ := xbd_s hf
    refine x_Sv (As := [.ref (Γ.2.1 1), .int 0, .ref (Γ.2.1 4), .int 0]) (rest := []) E.1 (m_X10_copy l kR_g kR_aside er3) (cwS 4 hts (xgS xU_sub q218 q219 q5 q220) rfl rfl rfl hdX10_copy ⟨Nat.le_of_ble_eq_true rfl, Nat.le_of_ble_eq_true rfl⟩) h rfl hl.1 rfl (Nat.le_of_ble_eq_true rfl) dX10_possible_24 ⟨Nat.le_of_ble_eq_true rfl, Nat.le_of_ble_eq_true rfl⟩ (fun H locs h => ?_)
    refine lv_iconst (v := 0) hx hb dX10_possible_27 (by decide) ?_
    refine lv_istore_n (lv' := [(2, .int 0), (0, .ref (Γ.2.1 0)), (1, .int v1)]) hx hb dX10_possible_28 rfl hl (by decide) rfl (fun ls hl => ?_)
    exact w_X10_possible_29 l E N v1 0 r3.1 hf _ _ _ h (lv_sub hl [1, 2, 0] rfl)
  · replace hf := xif_t hf c2
    refine lv_aload_n hx hb dX10_possible_8 rfl (lv_at hl 0 rfl) ?_
    refine lv_iconst (v := 1) hx hb dX10_possible_9 (by decide) ?_
    obtain ⟨r4, er4, hf⟩ := xbd_s hf
    refine x_Vi (As := [.int 1]) (rest := []) E.1 (m_X10_fails l er4) (cwV 1 hts (xgV xU_sub q208 q209 q210 q5 q211) rfl rfl rfl hdX10_fails ⟨Nat.le_of_ble_eq_true rfl, Nat.le_of_ble_eq_true rfl⟩) h kR_model rfl rfl hl.1 rfl (Nat.le_of_ble_eq_true rfl) dX10_possible_10 ⟨Nat.le_of_ble_eq_true rfl, Nat.le_of_ble_eq_true rfl⟩ (fun H locs h => ?_)
    exact x_iret hx hb h (Option.some.inj hf) hr hlocks dX10_possible_13
theorem hdX10_refusal : yX10_refusal.cls = RX10 ∧ yX10_refusal.cls ≠ "java/lang/invoke/MethodHandle" ∧ yX10_refusal.cls ≠ "java/lang/invoke/VarHandle" ∧ (parseMethodDescriptor yX10_refusal.desc).map (fun d => d.parameters.length) = some 0 := by decide +kernel
set_option maxHeartbeats 4000000 in
set_option maxRecDepth 100000 in
theorem m_X10_refusal (l : Launch) {Γ : xG} {N : Nat} {M : xM} {res : xR} (hf : F_X10_refusal N M = some res) (sz : Nat) : Met l yX10_refusal (xWs yX10_refusal cX10_refusal 1 (some .int)) ({ frames := 2, cells := 0, slots := 0, locals := 61 } : Room) (va_Pc [.ref (Γ.2.1 0)] (xPre Γ (wR Γ) M sz)) (xCi Γ (wR Γ) 10 res sz) 0 0 (xAd Γ 10 sz) := by
  refine x_met (Qc := fun sz => xCi Γ (wR Γ) 10 res sz) pnX10 wG_W (Nat.le_of_ble_eq_true rfl) (fun p e s m args below meth c _ E h ls hl => ?_) sz
  obtain ⟨⟨hx, hb, hml, hown, hts⟩, hr, hlocks⟩ := id E
  have hl : lv_has ls 1 [(0, .ref (Γ.2.1 0))] := hl
  refine lv_aload_n hx hb dX10_refusal_0 rfl (lv_at hl 0 rfl) ?_
  refine x_get (own := RX10) (ref := "TintDeskModel") (C := RX10) (T := TX10) (n := 20) (index := 45) (v := .int (M.1 0 7)) hx hb hts (fun w h => xU_sub w (inU10 w h)) hown h kR_model rfl 7 (by decide) (hts _ (xU_sub _ q292)) (fun _ h9 => h9) rfl dX10_refusal_1 ?_
  refine lv_if_ne (tgt := 15) hx hb dX10_refusal_4 (by decide) (fun c1 => ?_) (fun c1 => ?_)
  · replace hf := xif_f hf c1
    refine lv_aload_n hx hb dX10_refusal_15 rfl (lv_at hl 0 rfl) ?_
    refine lv_aload_n hx hb dX10_refusal_16 rfl (lv_at hl 0 rfl) ?_
    refine x_get (own := RX10) (ref := "TintDeskModel") (C := RX10) (T := TX10) (n := 20) (index := 45) (v := .int (M.1 0 7)) hx hb hts (fun w h => xU_sub w (inU10 w h)) hown h kR_model rfl 7 (by decide) (hts _ (xU_sub _ q292)) (fun _ h9 => h9) rfl dX10_refusal_17 ?_
    obtain ⟨r2, er2, hf⟩ := xbd_s hf
    refine x_Vi (As := [.int (M.1 0 7)]) (rest := []) E.1 (m_X10_done l er2) (cwV 1 hts (xgV xU_sub q221 q222 q223 q5 q224) rfl rfl rfl hdX10_done ⟨Nat.le_of_ble_eq_true rfl, Nat.le_of_ble_eq_true rfl⟩) h kR_model rfl rfl hl.1 rfl (Nat.le_of_ble_eq_true rfl) dX10_refusal_20 ⟨Nat.le_of_ble_eq_true rfl, Nat.le_of_ble_eq_true rfl⟩ (fun H locs h => ?_)
    exact x_iret hx hb h (Option.some.inj hf) hr hlocks dX10_refusal_23
  · replace hf := xif_t hf c1
    refine lv_aload_n hx hb dX10_refusal_7 rfl (lv_at hl 0 rfl) ?_
    refine lv_iconst (v := 1) hx hb dX10_refusal_8 (by decide) ?_
    obtain ⟨r3, er3, hf⟩ := xbd_s hf
    refine x_Vi (As := [.int 1]) (rest := []) E.1 (m_X10_fails l er3) (cwV 1 hts (xgV xU_sub q208 q209 q210 q5 q211) rfl rfl rfl hdX10_fails ⟨Nat.le_of_ble_eq_true rfl, Nat.le_of_ble_eq_true rfl⟩) h kR_model rfl rfl hl.1 rfl (Nat.le_of_ble_eq_true rfl) dX10_refusal_9 ⟨Nat.le_of_ble_eq_true rfl, Nat.le_of_ble_eq_true rfl⟩ (fun H locs h => ?_)
    refine lv_goto (tgt := 23) hx hb dX10_refusal_12 (by decide) ?_
    exact x_iret hx hb h (Option.some.inj hf) hr hlocks dX10_refusal_23
theorem hdX10_lacking : yX10_lacking.cls = RX10 ∧ yX10_lacking.cls ≠ "java/lang/invoke/MethodHandle" ∧ yX10_lacking.cls ≠ "java/lang/invoke/VarHandle" ∧ (parseMethodDescriptor yX10_lacking.desc).map (fun d => d.parameters.length) = some 0 := by decide +kernel
set_option maxHeartbeats 4000000 in
set_option maxRecDepth 100000 in
theorem m_X10_lacking (l : Launch) {Γ : xG} {N : Nat} {M : xM} {res : xR} (hf : F_X10_lacking N M = some res) (sz : Nat) : Met l yX10_lacking (xWs yX10_lacking cX10_lacking 1 (some .int)) ({ frames := 2, cells := 0, slots := 0, locals := 61 } : Room) (va_Pc [.ref (Γ.2.1 0)] (xPre Γ (wR Γ) M sz)) (xCi Γ (wR Γ) 10 res sz) 0 0 (xAd Γ 10 sz) := by
  refine x_met (Qc := fun sz => xCi Γ (wR Γ) 10 res sz) pnX10 wG_W (Nat.le_of_ble_eq_true rfl) (fun p e s m args below meth c _ E h ls hl => ?_) sz
  obtain ⟨⟨hx, hb, hml, hown, hts⟩, hr, hlocks⟩ := id E
  have hl : lv_has ls 1 [(0, .ref (Γ.2.1 0))] := hl
  refine lv_aload_n hx hb dX10_lacking_0 rfl (lv_at hl 0 rfl) ?_
  refine x_get (own := RX10) (ref := "TintDeskModel") (C := RX10) (T := TX10) (n := 20) (index := 45) (v := .int (M.1 0 7)) hx hb hts (fun w h => xU_sub w (inU10 w h)) hown h kR_model rfl 7 (by decide) (hts _ (xU_sub _ q292)) (fun _ h9 => h9) rfl dX10_lacking_1 ?_
  refine lv_iconst (v := 5) hx hb dX10_lacking_4 (by decide) ?_
  refine lv_icmp_ne (tgt := 19) hx hb dX10_lacking_5 (by decide) (fun c1 => ?_) (fun c1 => ?_)
  · replace hf := xif_f hf c1
    refine lv_aload_n hx hb dX10_lacking_19 rfl (lv_at hl 0 rfl) ?_
    refine lv_iconst (v := 1) hx hb dX10_lacking_20 (by decide) ?_
    obtain ⟨r2, er2, hf⟩ := xbd_s hf
    refine x_Vi (As := [.int 1]) (rest := []) E.1 (m_X10_fails l er2) (cwV 1 hts (xgV xU_sub q208 q209 q210 q5 q211) rfl rfl rfl hdX10_fails ⟨Nat.le_of_ble_eq_true rfl, Nat.le_of_ble_eq_true rfl⟩) h kR_model rfl rfl hl.1 rfl (Nat.le_of_ble_eq_true rfl) dX10_lacking_21 ⟨Nat.le_of_ble_eq_true rfl, Nat.le_of_ble_eq_true rfl⟩ (fun H locs h => ?_)
    exact x_iret hx hb h (Option.some.inj hf) hr hlocks dX10_lacking_24
  · replace hf := xif_t hf c1
    refine lv_aload_n hx hb dX10_lacking_8 rfl (lv_at hl 0 rfl) ?_
    refine lv_aload_n hx hb dX10_lacking_9 rfl (lv_at hl 0 rfl) ?_
    refine x_get (own := RX10) (ref := "TintDeskModel") (C := RX10) (T := TX10) (n := 20) (index := 145) (v := .int (M.1 0 8)) hx hb hts (fun w h => xU_sub w (inU10 w h)) hown h kR_model rfl 8 (by decide) (hts _ (xU_sub _ q682)) (fun _ h9 => h9) rfl dX10_lacking_10 ?_
    obtain ⟨r3, er3, hf⟩ := xbd_s hf
    refine x_Vi (As := [.int (M.1 0 8)]) (rest := []) E.1 (m_X10_done l er3) (cwV 1 hts (xgV xU_sub q221 q222 q223 q5 q224) rfl rfl rfl hdX10_done ⟨Nat.le_of_ble_eq_true rfl, Nat.le_of_ble_eq_true rfl⟩) h kR_model rfl rfl hl.1 rfl (Nat.le_of_ble_eq_true rfl) dX10_lacking_13 ⟨Nat.le_of_ble_eq_true rfl, Nat.le_of_ble_eq_true rfl⟩ (fun H locs h => ?_)
    refine lv_goto (tgt := 24) hx hb dX10_lacking_16 (by decide) ?_
    exact x_iret hx hb h (Option.some.inj hf) hr hlocks dX10_lacking_24
theorem hdX10_steps : yX10_steps.cls = RX10 ∧ yX10_steps.cls ≠ "java/lang/invoke/MethodHandle" ∧ yX10_steps.cls ≠ "java/lang/invoke/VarHandle" ∧ (parseMethodDescriptor yX10_steps.desc).map (fun d => d.parameters.length) = some 2 := by decide +kernel
set_option maxHeartbeats 4000000 in
set_option maxRecDepth 100000 in
theorem m_X10_steps (l : Launch) {Γ : xG} {N : Nat} {v1 : Int32} {v2 : Int32} {M : xM} {res : xR} (hf : F_X10_steps N v1 v2 M = some res) (sz : Nat) : Met l yX10_steps (xWs yX10_steps cX10_steps 3 (some .int)) ({ frames := 3, cells := 0, slots := 0, locals := 83 } : Room) (va_Pc [.ref (Γ.2.1 0), .int v1, .int v2] (xPre Γ (wR Γ) M sz)) (xCi Γ (wR Γ) 10 res sz) 0 0 (xAd Γ 10 sz) := by
  refine x_met (Qc := fun sz => xCi Γ (wR Γ) 10 res sz) pnX10 wG_W (Nat.le_of_ble_eq_true rfl) (fun p e s m args below meth c _ E h ls hl => ?_) sz
  obtain ⟨⟨hx, hb, hml, hown, hts⟩, hr, hlocks⟩ := id E
  have hl : lv_has ls 3 [(0, .ref (Γ.2.1 0)), (1, .int v1), (2, .int v2)] := hl
  refine lv_aload_n hx hb dX10_steps_0 rfl (lv_at hl 0 rfl) ?_
  refine lv_iload_n hx hb dX10_steps_1 rfl (lv_at hl 1 rfl) ?_
  obtain ⟨r1, er1, hf⟩ := xbd_s hf
  refine x_Vi (As := [.int v1]) (rest := []) E.1 (m_X10_isCan l er1) (cwV 1 hts (xgV xU_sub q626 q627 q628 q5 q629) rfl rfl rfl hdX10_isCan ⟨Nat.le_of_ble_eq_true rfl, Nat.le_of_ble_eq_true rfl⟩) h kR_model rfl rfl hl.1 rfl (Nat.le_of_ble_eq_true rfl) dX10_steps_2 ⟨Nat.le_of_ble_eq_true rfl, Nat.le_of_ble_eq_true rfl⟩ (fun H locs h => ?_)
  refine lv_if_eq (tgt := 31) hx hb dX10_steps_5 (by decide) (fun c2 => ?_) (fun c2 => ?_)
  · replace hf := xif_t hf c2
    refine lv_aload_n hx hb dX10_steps_31 rfl (lv_at hl 0 rfl) ?_
    refine lv_iconst (v := 1) hx hb dX10_steps_32 (by decide) ?_
    obtain ⟨r3, er3, hf⟩ := xbd_s hf
    refine x_Vi (As := [.int 1]) (rest := []) E.1 (m_X10_fails l er3) (cwV 1 hts (xgV xU_sub q208 q209 q210 q5 q211) rfl rfl rfl hdX10_fails ⟨Nat.le_of_ble_eq_true rfl, Nat.le_of_ble_eq_true rfl⟩) h kR_model rfl rfl hl.1 rfl (Nat.le_of_ble_eq_true rfl) dX10_steps_33 ⟨Nat.le_of_ble_eq_true rfl, Nat.le_of_ble_eq_true rfl⟩ (fun H locs h => ?_)
    exact x_iret hx hb h (Option.some.inj hf) hr hlocks dX10_steps_36
  · replace hf := xif_f hf c2
    refine lv_aload_n hx hb dX10_steps_8 rfl (lv_at hl 0 rfl) ?_
    refine lv_iload_n hx hb dX10_steps_9 rfl (lv_at hl 2 rfl) ?_
    obtain ⟨r4, er4, hf⟩ := xbd_s hf
    refine x_Vi (As := [.int v2]) (rest := []) E.1 (m_X10_isColorant l er4) (cwV 1 hts (xgV xU_sub q249 q250 q251 q5 q252) rfl rfl rfl hdX10_isColorant ⟨Nat.le_of_ble_eq_true rfl, Nat.le_of_ble_eq_true rfl⟩) h kR_model rfl rfl hl.1 rfl (Nat.le_of_ble_eq_true rfl) dX10_steps_10 ⟨Nat.le_of_ble_eq_true rfl, Nat.le_of_ble_eq_true rfl⟩ (fun H locs h => ?_)
    refine lv_if_eq (tgt := 31) hx hb dX10_steps_13 (by decide) (fun c5 => ?_) (fun c5 => ?_)
    · replace hf := xif_t hf c5
      refine lv_aload_n hx hb dX10_steps_31 rfl (lv_at hl 0 rfl) ?_
      refine lv_iconst (v := 1) hx hb dX10_steps_32 (by decide) ?_
      obtain ⟨r6, er6, hf⟩ := xbd_s hf
      refine x_Vi (As := [.int 1]) (rest := []) E.1 (m_X10_fails l er6) (cwV 1 hts (xgV xU_sub q208 q209 q210 q5 q211) rfl rfl rfl hdX10_fails ⟨Nat.le_of_ble_eq_true rfl, Nat.le_of_ble_eq_true rfl⟩) h kR_model rfl rfl hl.1 rfl (Nat.le_of_ble_eq_true rfl) dX10_steps_33 ⟨Nat.le_of_ble_eq_true rfl, Nat.le_of_ble_eq_true rfl⟩ (fun H locs h => ?_)
      exact x_iret hx hb h (Option.some.inj hf) hr hlocks dX10_steps_36
    · replace hf := xif_f hf c5
      refine lv_aload_n hx hb dX10_steps_16 rfl (lv_at hl 0 rfl) ?_
      refine lv_aload_n hx hb dX10_steps_17 rfl (lv_at hl 0 rfl) ?_
      refine lv_iload_n hx hb dX10_steps_18 rfl (lv_at hl 1 rfl) ?_
      refine lv_iconst (v := 2) hx hb dX10_steps_19 (by decide) ?_
      refine lv_iload_n hx hb dX10_steps_20 rfl (lv_at hl 2 rfl) ?_
      refine lv_iadd hx hb dX10_steps_21 ?_
      obtain ⟨r7, er7, hf⟩ := xbd_s hf
      refine x_Vi (As := [.int v1, .int (2 + v2)]) (rest := [.ref (Γ.2.1 0)]) E.1 (m_X10_canAt l er7) (cwV 2 hts (xgV xU_sub q630 q631 q632 q5 q633) rfl rfl rfl hdX10_canAt ⟨Nat.le_of_ble_eq_true rfl, Nat.le_of_ble_eq_true rfl⟩) h kR_model rfl rfl hl.1 rfl (Nat.le_of_ble_eq_true rfl) dX10_steps_22 ⟨Nat.le_of_ble_eq_true rfl, Nat.le_of_ble_eq_true rfl⟩ (fun H locs h => ?_)
      obtain ⟨r8, er8, hf⟩ := xbd_s hf
      refine x_Vi (As := [.int r7.2]) (rest := []) E.1 (m_X10_done l er8) (cwV 1 hts (xgV xU_sub q221 q222 q223 q5 q224) rfl rfl rfl hdX10_done ⟨Nat.le_of_ble_eq_true rfl, Nat.le_of_ble_eq_true rfl⟩) h kR_model rfl rfl hl.1 rfl (Nat.le_of_ble_eq_true rfl) dX10_steps_25 ⟨Nat.le_of_ble_eq_true rfl, Nat.le_of_ble_eq_true rfl⟩ (fun H locs h => ?_)
      refine lv_goto (tgt := 36) hx hb dX10_steps_28 (by decide) ?_
      exact x_iret hx hb h (Option.some.inj hf) hr hlocks dX10_steps_36
theorem hdX10_allIn : yX10_allIn.cls = RX10 ∧ yX10_allIn.cls ≠ "java/lang/invoke/MethodHandle" ∧ yX10_allIn.cls ≠ "java/lang/invoke/VarHandle" ∧ (parseMethodDescriptor yX10_allIn.desc).map (fun d => d.parameters.length) = some 1 := by decide +kernel
set_option maxHeartbeats 4000000 in
set_option maxRecDepth 100000 in
theorem w_X10_allIn_4 (l : Launch) {p : Program} {e : Env} {s : State} {m : MethodId} {args : Array Value} {below : List Frame} {meth : Method} {c : Code} {Γ : xG} {N : Nat} {res : xR} (E : xEv p s m args meth c RX10 cX10_allIn 4 (some .int) (xWs yX10_allIn cX10_allIn 4 (some .int))) : ∀ (n : Nat) (v1 : Int32) (v2 : Int32) (v3 : Int32) (M : xM), L_X10_allIn_4 N n v1 v2 v3 M = some res → ∀ (H : Heap) (locs : List Loc) (ls : Array Slot), xH Γ (wR Γ) 10 s M H locs → lv_has ls 4 [(0, .ref (Γ.2.1 0)), (1, .int v1), (2, .int v2), (3, .int v3)] → W p l e ({ frames := 2, cells := 0, slots := 0, locals := 62 } : Room) s m args below meth c H locs 0 0 (MQ below (xCi Γ (wR Γ) 10 res s.heap.size) args s 0 0 (xAd Γ 10 s.heap.size)) (F0 m 4 ls []) := by
  obtain ⟨⟨hx, hb, hml, hown, hts⟩, hr, hlocks⟩ := id E
  intro n
  induction n with
  | zero => intro v1 v2 v3 M hf; cases hf
  | succ n ih =>
    intro v1 v2 v3 M hf H locs ls h hl
    refine lv_iload_n hx hb dX10_allIn_4 rfl (lv_at hl 3 rfl) ?_
    refine lv_bipush (v := 8) hx hb dX10_allIn_5 (by decide) ?_
    refine lv_icmp_ge (tgt := 27) hx hb dX10_allIn_7 (by decide) (fun c1 => ?_) (fun c1 => ?_)
    · replace hf := xif_t hf c1
      refine lv_iload_n hx hb dX10_allIn_27 rfl (lv_at hl 2 rfl) ?_
      exact x_iret hx hb h (Option.some.inj hf) hr hlocks dX10_allIn_28
    · replace hf := xif_f hf c1
      refine lv_iload_n hx hb dX10_allIn_10 rfl (lv_at hl 2 rfl) ?_
      refine lv_aload_n hx hb dX10_allIn_11 rfl (lv_at hl 0 rfl) ?_
      refine lv_iload_n hx hb dX10_allIn_12 rfl (lv_at hl 1 rfl) ?_
      refine lv_iconst (v := 2) hx hb dX10_allIn_13 (by decide) ?_
      refine lv_iload_n hx hb dX10_allIn_14 rfl (lv_at hl 3 rfl) ?_
      refine lv_iadd hx hb dX10_allIn_15 ?_
      obtain ⟨r2, er2, hf⟩ := xbd_s hf
      refine x_Vi (As := [.int v1, .int (2 + v3)]) (rest := [.int v2]) E.1 (m_X10_canAt l er2) (cwV 2 hts (xgV xU_sub q630 q631 q632 q5 q633) rfl rfl rfl hdX10_canAt ⟨Nat.le_of_ble_eq_true rfl, Nat.le_of_ble_eq_true rfl⟩) h kR_model rfl rfl hl.1 rfl (Nat.le_of_ble_eq_true rfl) dX10_allIn_16 ⟨Nat.le_of_ble_eq_true rfl, Nat.le_of_ble_eq_true rfl⟩ (fun H locs h => ?_)
      refine lv_iadd hx hb dX10_allIn_19 ?_
      obtain ⟨y3, ey3, hf⟩ := xl_s hf
      refine x_nm ey3 ?_
      refine lv_istore_n (lv' := [(2, .int y3), (0, .ref (Γ.2.1 0)), (1, .int v1), (3, .int v3)]) hx hb dX10_allIn_20 rfl hl (by decide) rfl (fun ls hl => ?_)
      obtain ⟨y4, ey4, hf⟩ := xl_s hf
      refine lv_iinc (v := y4) (lv' := [(3, .int y4), (2, .int y3), (0, .ref (Γ.2.1 0)), (1, .int v1)]) hx hb dX10_allIn_21 hl (k := 3) rfl (by rw [ey4]; rfl) (by decide) rfl (fun ls hl => ?_)
      refine lv_goto (tgt := 4) hx hb dX10_allIn_24 (by decide) ?_
      exact ih v1 y3 y4 r2.1 hf _ _ _ h (lv_sub hl [2, 3, 1, 0] rfl)
set_option maxHeartbeats 4000000 in
set_option maxRecDepth 100000 in
theorem m_X10_allIn (l : Launch) {Γ : xG} {N : Nat} {v1 : Int32} {M : xM} {res : xR} (hf : F_X10_allIn N v1 M = some res) (sz : Nat) : Met l yX10_allIn (xWs yX10_allIn cX10_allIn 4 (some .int)) ({ frames := 2, cells := 0, slots := 0, locals := 62 } : Room) (va_Pc [.ref (Γ.2.1 0), .int v1] (xPre Γ (wR Γ) M sz)) (xCi Γ (wR Γ) 10 res sz) 0 0 (xAd Γ 10 sz) := by
  refine x_met (Qc := fun sz => xCi Γ (wR Γ) 10 res sz) pnX10 wG_W (Nat.le_of_ble_eq_true rfl) (fun p e s m args below meth c _ E h ls hl => ?_) sz
  obtain ⟨⟨hx, hb, hml, hown, hts⟩, hr, hlocks⟩ := id E
  have hl : lv_has ls 4 [(0, .ref (Γ.2.1 0)), (1, .int v1)] := hl
  refine lv_iconst (v := 0) hx hb dX10_allIn_0 (by decide) ?_
  refine lv_istore_n (lv' := [(2, .int 0), (0, .ref (Γ.2.1 0)), (1, .int v1)]) hx hb dX10_allIn_1 rfl hl (by decide) rfl (fun ls hl => ?_)
  refine lv_iconst (v := 0) hx hb dX10_allIn_2 (by decide) ?_
  refine lv_istore_n (lv' := [(3, .int 0), (2, .int 0), (0, .ref (Γ.2.1 0)), (1, .int v1)]) hx hb dX10_allIn_3 rfl hl (by decide) rfl (fun ls hl => ?_)
  exact w_X10_allIn_4 l E N v1 0 0 M hf _ _ _ h (lv_sub hl [2, 3, 1, 0] rfl)
theorem hdX10_roomIn : yX10_roomIn.cls = RX10 ∧ yX10_roomIn.cls ≠ "java/lang/invoke/MethodHandle" ∧ yX10_roomIn.cls ≠ "java/lang/invoke/VarHandle" ∧ (parseMethodDescriptor yX10_roomIn.desc).map (fun d => d.parameters.length) = some 1 := by decide +kernel
set_option maxHeartbeats 4000000 in
set_option maxRecDepth 100000 in
theorem m_X10_roomIn (l : Launch) {Γ : xG} {N : Nat} {v1 : Int32} {M : xM} {res : xR} (hf : F_X10_roomIn N v1 M = some res) (sz : Nat) : Met l yX10_roomIn (xWs yX10_roomIn cX10_roomIn 2 (some .int)) ({ frames := 3, cells := 0, slots := 0, locals := 85 } : Room) (va_Pc [.ref (Γ.2.1 0), .int v1] (xPre Γ (wR Γ) M sz)) (xCi Γ (wR Γ) 10 res sz) 0 0 (xAd Γ 10 sz) := by
  refine x_met (Qc := fun sz => xCi Γ (wR Γ) 10 res sz) pnX10 wG_W (Nat.le_of_ble_eq_true rfl) (fun p e s m args below meth c _ E h ls hl => ?_) sz
  obtain ⟨⟨hx, hb, hml, hown, hts⟩, hr, hlocks⟩ := id E
  have hl : lv_has ls 2 [(0, .ref (Γ.2.1 0)), (1, .int v1)] := hl
  refine lv_aload_n hx hb dX10_roomIn_0 rfl (lv_at hl 0 rfl) ?_
  refine lv_aload_n hx hb dX10_roomIn_1 rfl (lv_at hl 0 rfl) ?_
  refine lv_iload_n hx hb dX10_roomIn_2 rfl (lv_at hl 1 rfl) ?_
  refine lv_iconst (v := 1) hx hb dX10_roomIn_3 (by decide) ?_
  obtain ⟨r1, er1, hf⟩ := xbd_s hf
  refine x_Vi (As := [.int v1, .int 1]) (rest := [.ref (Γ.2.1 0)]) E.1 (m_X10_canAt l er1) (cwV 2 hts (xgV xU_sub q630 q631 q632 q5 q633) rfl rfl rfl hdX10_canAt ⟨Nat.le_of_ble_eq_true rfl, Nat.le_of_ble_eq_true rfl⟩) h kR_model rfl rfl hl.1 rfl (Nat.le_of_ble_eq_true rfl) dX10_roomIn_4 ⟨Nat.le_of_ble_eq_true rfl, Nat.le_of_ble_eq_true rfl⟩ (fun H locs h => ?_)
  refine lv_iconst (v := 3) hx hb dX10_roomIn_7 (by decide) ?_
  obtain ⟨r2, er2, hf⟩ := xbd_s hf
  refine x_Vi (As := [.int r1.2, .int 3]) (rest := []) E.1 (m_X10_baseAt l er2) (cwV 2 hts (xgV xU_sub q412 q413 q414 q5 q415) rfl rfl rfl hdX10_baseAt ⟨Nat.le_of_ble_eq_true rfl, Nat.le_of_ble_eq_true rfl⟩) h kR_model rfl rfl hl.1 rfl (Nat.le_of_ble_eq_true rfl) dX10_roomIn_8 ⟨Nat.le_of_ble_eq_true rfl, Nat.le_of_ble_eq_true rfl⟩ (fun H locs h => ?_)
  refine lv_aload_n hx hb dX10_roomIn_11 rfl (lv_at hl 0 rfl) ?_
  refine lv_iload_n hx hb dX10_roomIn_12 rfl (lv_at hl 1 rfl) ?_
  obtain ⟨r3, er3, hf⟩ := xbd_s hf
  refine x_Vi (As := [.int v1]) (rest := [.int r2.2]) E.1 (m_X10_allIn l er3) (cwV 1 hts (xgV xU_sub q774 q775 q776 q5 q777) rfl rfl rfl hdX10_allIn ⟨Nat.le_of_ble_eq_true rfl, Nat.le_of_ble_eq_true rfl⟩) h kR_model rfl rfl hl.1 rfl (Nat.le_of_ble_eq_true rfl) dX10_roomIn_13 ⟨Nat.le_of_ble_eq_true rfl, Nat.le_of_ble_eq_true rfl⟩ (fun H locs h => ?_)
  refine lv_isub hx hb dX10_roomIn_16 ?_
  exact x_iret hx hb h (Option.some.inj hf) hr hlocks dX10_roomIn_17
theorem hdX10_can : yX10_can.cls = RX10 ∧ yX10_can.cls ≠ "java/lang/invoke/MethodHandle" ∧ yX10_can.cls ≠ "java/lang/invoke/VarHandle" ∧ (parseMethodDescriptor yX10_can.desc).map (fun d => d.parameters.length) = some 2 := by decide +kernel
set_option maxHeartbeats 4000000 in
set_option maxRecDepth 100000 in
theorem m_X10_can (l : Launch) {Γ : xG} {N : Nat} {v1 : Int32} {v2 : Int32} {M : xM} {res : xR} (hf : F_X10_can N v1 v2 M = some res) (sz : Nat) : Met l yX10_can (xWs yX10_can cX10_can 3 (some .int)) ({ frames := 4, cells := 0, slots := 0, locals := 106 } : Room) (va_Pc [.ref (Γ.2.1 0), .int v1, .int v2] (xPre Γ (wR Γ) M sz)) (xCi Γ (wR Γ) 10 res sz) 0 0 (xAd Γ 10 sz) := by
  refine x_met (Qc := fun sz => xCi Γ (wR Γ) 10 res sz) pnX10 wG_W (Nat.le_of_ble_eq_true rfl) (fun p e s m args below meth c _ E h ls hl => ?_) sz
  obtain ⟨⟨hx, hb, hml, hown, hts⟩, hr, hlocks⟩ := id E
  have hl : lv_has ls 3 [(0, .ref (Γ.2.1 0)), (1, .int v1), (2, .int v2)] := hl
  refine lv_aload_n hx hb dX10_can_0 rfl (lv_at hl 0 rfl) ?_
  refine lv_iload_n hx hb dX10_can_1 rfl (lv_at hl 1 rfl) ?_
  obtain ⟨r1, er1, hf⟩ := xbd_s hf
  refine x_Vi (As := [.int v1]) (rest := []) E.1 (m_X10_isCan l er1) (cwV 1 hts (xgV xU_sub q626 q627 q628 q5 q629) rfl rfl rfl hdX10_isCan ⟨Nat.le_of_ble_eq_true rfl, Nat.le_of_ble_eq_true rfl⟩) h kR_model rfl rfl hl.1 rfl (Nat.le_of_ble_eq_true rfl) dX10_can_2 ⟨Nat.le_of_ble_eq_true rfl, Nat.le_of_ble_eq_true rfl⟩ (fun H locs h => ?_)
  refine lv_if_ne (tgt := 14) hx hb dX10_can_5 (by decide) (fun c2 => ?_) (fun c2 => ?_)
  · replace hf := xif_f hf c2
    refine lv_iload_n hx hb dX10_can_14 rfl (lv_at hl 2 rfl) ?_
    refine lv_iconst (v := 0) hx hb dX10_can_15 (by decide) ?_
    refine lv_iconst (v := 5) hx hb dX10_can_16 (by decide) ?_
    obtain ⟨r3, er3, hf⟩ := xbd_s hf
    refine x_Si (As := [.int v2, .int 0, .int 5]) (rest := []) E.1 (m_X10_in l er3) (cwS 3 hts (xgS xU_sub q205 q206 q5 q207) rfl rfl rfl hdX10_in ⟨Nat.le_of_ble_eq_true rfl, Nat.le_of_ble_eq_true rfl⟩) h rfl hl.1 rfl (Nat.le_of_ble_eq_true rfl) dX10_can_17 ⟨Nat.le_of_ble_eq_true rfl, Nat.le_of_ble_eq_true rfl⟩ (fun H locs h => ?_)
    refine lv_if_ne (tgt := 29) hx hb dX10_can_20 (by decide) (fun c4 => ?_) (fun c4 => ?_)
    · replace hf := xif_f hf c4
      refine lv_iload_n hx hb dX10_can_29 rfl (lv_at hl 2 rfl) ?_
      by_cases c5 : v2 = 2
      · replace hf := xif_t hf c5
        refine lv_tableIn (off := 30) (tgt := 60) hx hb dX10_can_30 (by rw [c5]; decide) (by rw [c5]; decide) (by rw [c5]; rfl) (by decide) ?_
        refine lv_aload_n hx hb dX10_can_60 rfl (lv_at hl 0 rfl) ?_
        refine lv_aload_n hx hb dX10_can_61 rfl (lv_at hl 0 rfl) ?_
        refine lv_iload_n hx hb dX10_can_62 rfl (lv_at hl 1 rfl) ?_
        obtain ⟨r6, er6, hf⟩ := xbd_s hf
        refine x_Vi (As := [.int v1]) (rest := [.ref (Γ.2.1 0)]) E.1 (m_X10_allIn l er6) (cwV 1 hts (xgV xU_sub q774 q775 q776 q5 q777) rfl rfl rfl hdX10_allIn ⟨Nat.le_of_ble_eq_true rfl, Nat.le_of_ble_eq_true rfl⟩) h kR_model rfl rfl hl.1 rfl (Nat.le_of_ble_eq_true rfl) dX10_can_63 ⟨Nat.le_of_ble_eq_true rfl, Nat.le_of_ble_eq_true rfl⟩ (fun H locs h => ?_)
        obtain ⟨r7, er7, hf⟩ := xbd_s hf
        refine x_Vi (As := [.int r6.2]) (rest := []) E.1 (m_X10_done l er7) (cwV 1 hts (xgV xU_sub q221 q222 q223 q5 q224) rfl rfl rfl hdX10_done ⟨Nat.le_of_ble_eq_true rfl, Nat.le_of_ble_eq_true rfl⟩) h kR_model rfl rfl hl.1 rfl (Nat.le_of_ble_eq_true rfl) dX10_can_66 ⟨Nat.le_of_ble_eq_true rfl, Nat.le_of_ble_eq_true rfl⟩ (fun H locs h => ?_)
        exact x_iret hx hb h (Option.some.inj hf) hr hlocks dX10_can_69
      replace hf := xif_f hf c5
      by_cases c8 : v2 = 3
      · replace hf := xif_t hf c8
        refine lv_tableIn (off := 40) (tgt := 70) hx hb dX10_can_30 (by rw [c8]; decide) (by rw [c8]; decide) (by rw [c8]; rfl) (by decide) ?_
        refine lv_aload_n hx hb dX10_can_70 rfl (lv_at hl 0 rfl) ?_
        refine lv_aload_n hx hb dX10_can_71 rfl (lv_at hl 0 rfl) ?_
        refine lv_iload_n hx hb dX10_can_72 rfl (lv_at hl 1 rfl) ?_
        refine lv_bipush (v := 10) hx hb dX10_can_73 (by decide) ?_
        obtain ⟨r9, er9, hf⟩ := xbd_s hf
        refine x_Vi (As := [.int v1, .int 10]) (rest := [.ref (Γ.2.1 0)]) E.1 (m_X10_canAt l er9) (cwV 2 hts (xgV xU_sub q630 q631 q632 q5 q633) rfl rfl rfl hdX10_canAt ⟨Nat.le_of_ble_eq_true rfl, Nat.le_of_ble_eq_true rfl⟩) h kR_model rfl rfl hl.1 rfl (Nat.le_of_ble_eq_true rfl) dX10_can_75 ⟨Nat.le_of_ble_eq_true rfl, Nat.le_of_ble_eq_true rfl⟩ (fun H locs h => ?_)
        obtain ⟨r10, er10, hf⟩ := xbd_s hf
        refine x_Vi (As := [.int r9.2]) (rest := []) E.1 (m_X10_done l er10) (cwV 1 hts (xgV xU_sub q221 q222 q223 q5 q224) rfl rfl rfl hdX10_done ⟨Nat.le_of_ble_eq_true rfl, Nat.le_of_ble_eq_true rfl⟩) h kR_model rfl rfl hl.1 rfl (Nat.le_of_ble_eq_true rfl) dX10_can_78 ⟨Nat.le_of_ble_eq_true rfl, Nat.le_of_ble_eq_true rfl⟩ (fun H locs h => ?_)
        exact x_iret hx hb h (Option.some.inj hf) hr hlocks dX10_can_81
      replace hf := xif_f hf c8
      by_cases c11 : v2 = 4
      · replace hf := xif_t hf c11
        refine lv_tableIn (off := 52) (tgt := 82) hx hb dX10_can_30 (by rw [c11]; decide) (by rw [c11]; decide) (by rw [c11]; rfl) (by decide) ?_
        refine lv_aload_n hx hb dX10_can_82 rfl (lv_at hl 0 rfl) ?_
        refine lv_aload_n hx hb dX10_can_83 rfl (lv_at hl 0 rfl) ?_
        refine lv_iload_n hx hb dX10_can_84 rfl (lv_at hl 1 rfl) ?_
        refine lv_bipush (v := 11) hx hb dX10_can_85 (by decide) ?_
        obtain ⟨r12, er12, hf⟩ := xbd_s hf
        refine x_Vi (As := [.int v1, .int 11]) (rest := [.ref (Γ.2.1 0)]) E.1 (m_X10_canAt l er12) (cwV 2 hts (xgV xU_sub q630 q631 q632 q5 q633) rfl rfl rfl hdX10_canAt ⟨Nat.le_of_ble_eq_true rfl, Nat.le_of_ble_eq_true rfl⟩) h kR_model rfl rfl hl.1 rfl (Nat.le_of_ble_eq_true rfl) dX10_can_87 ⟨Nat.le_of_ble_eq_true rfl, Nat.le_of_ble_eq_true rfl⟩ (fun H locs h => ?_)
        obtain ⟨r13, er13, hf⟩ := xbd_s hf
        refine x_Vi (As := [.int r12.2]) (rest := []) E.1 (m_X10_done l er13) (cwV 1 hts (xgV xU_sub q221 q222 q223 q5 q224) rfl rfl rfl hdX10_done ⟨Nat.le_of_ble_eq_true rfl, Nat.le_of_ble_eq_true rfl⟩) h kR_model rfl rfl hl.1 rfl (Nat.le_of_ble_eq_true rfl) dX10_can_90 ⟨Nat.le_of_ble_eq_true rfl, Nat.le_of_ble_eq_true rfl⟩ (fun H locs h => ?_)
        exact x_iret hx hb h (Option.some.inj hf) hr hlocks dX10_can_93
      replace hf := xif_f hf c11
      by_cases c14 : v2 = 5
      · replace hf := xif_t hf c14
        refine lv_tableIn (off := 64) (tgt := 94) hx hb dX10_can_30 (by rw [c14]; decide) (by rw [c14]; decide) (by rw [c14]; rfl) (by decide) ?_
        refine lv_aload_n hx hb dX10_can_94 rfl (lv_at hl 0 rfl) ?_
        refine lv_aload_n hx hb dX10_can_95 rfl (lv_at hl 0 rfl) ?_
        refine lv_iload_n hx hb dX10_can_96 rfl (lv_at hl 1 rfl) ?_
        obtain ⟨r15, er15, hf⟩ := xbd_s hf
        refine x_Vi (As := [.int v1]) (rest := [.ref (Γ.2.1 0)]) E.1 (m_X10_roomIn l er15) (cwV 1 hts (xgV xU_sub q778 q779 q780 q5 q781) rfl rfl rfl hdX10_roomIn ⟨Nat.le_of_ble_eq_true rfl, Nat.le_of_ble_eq_true rfl⟩) h kR_model rfl rfl hl.1 rfl (Nat.le_of_ble_eq_true rfl) dX10_can_97 ⟨Nat.le_of_ble_eq_true rfl, Nat.le_of_ble_eq_true rfl⟩ (fun H locs h => ?_)
        obtain ⟨r16, er16, hf⟩ := xbd_s hf
        refine x_Vi (As := [.int r15.2]) (rest := []) E.1 (m_X10_done l er16) (cwV 1 hts (xgV xU_sub q221 q222 q223 q5 q224) rfl rfl rfl hdX10_done ⟨Nat.le_of_ble_eq_true rfl, Nat.le_of_ble_eq_true rfl⟩) h kR_model rfl rfl hl.1 rfl (Nat.le_of_ble_eq_true rfl) dX10_can_100 ⟨Nat.le_of_ble_eq_true rfl, Nat.le_of_ble_eq_true rfl⟩ (fun H locs h => ?_)
        exact x_iret hx hb h (Option.some.inj hf) hr hlocks dX10_can_103
      replace hf := xif_f hf c14
      refine lv_tableOut (tgt := 104) hx hb dX10_can_30 (xsw_out (fun j hj1 hj2 hj => by
        have hj9 : j = 2 ∨ j = 3 ∨ j = 4 ∨ j = 5 := by omega
        rcases hj9 with rfl | rfl | rfl | rfl
        · exact c5 hj
        · exact c8 hj
        · exact c11 hj
        · exact c14 hj
        )) (by decide) ?_
      refine lv_aload_n hx hb dX10_can_104 rfl (lv_at hl 0 rfl) ?_
      refine lv_aload_n hx hb dX10_can_105 rfl (lv_at hl 0 rfl) ?_
      refine lv_iload_n hx hb dX10_can_106 rfl (lv_at hl 1 rfl) ?_
      refine lv_iload_n hx hb dX10_can_107 rfl (lv_at hl 2 rfl) ?_
      obtain ⟨r17, er17, hf⟩ := xbd_s hf
      refine x_Vi (As := [.int v1, .int v2]) (rest := [.ref (Γ.2.1 0)]) E.1 (m_X10_canAt l er17) (cwV 2 hts (xgV xU_sub q630 q631 q632 q5 q633) rfl rfl rfl hdX10_canAt ⟨Nat.le_of_ble_eq_true rfl, Nat.le_of_ble_eq_true rfl⟩) h kR_model rfl rfl hl.1 rfl (Nat.le_of_ble_eq_true rfl) dX10_can_108 ⟨Nat.le_of_ble_eq_true rfl, Nat.le_of_ble_eq_true rfl⟩ (fun H locs h => ?_)
      obtain ⟨r18, er18, hf⟩ := xbd_s hf
      refine x_Vi (As := [.int r17.2]) (rest := []) E.1 (m_X10_done l er18) (cwV 1 hts (xgV xU_sub q221 q222 q223 q5 q224) rfl rfl rfl hdX10_done ⟨Nat.le_of_ble_eq_true rfl, Nat.le_of_ble_eq_true rfl⟩) h kR_model rfl rfl hl.1 rfl (Nat.le_of_ble_eq_true rfl) dX10_can_111 ⟨Nat.le_of_ble_eq_true rfl, Nat.le_of_ble_eq_true rfl⟩ (fun H locs h => ?_)
      exact x_iret hx hb h (Option.some.inj hf) hr hlocks dX10_can_114
    · replace hf := xif_t hf c4
      refine lv_aload_n hx hb dX10_can_23 rfl (lv_at hl 0 rfl) ?_
      refine lv_iconst (v := 2) hx hb dX10_can_24 (by decide) ?_
      obtain ⟨r19, er19, hf⟩ := xbd_s hf
      refine x_Vi (As := [.int 2]) (rest := []) E.1 (m_X10_fails l er19) (cwV 1 hts (xgV xU_sub q208 q209 q210 q5 q211) rfl rfl rfl hdX10_fails ⟨Nat.le_of_ble_eq_true rfl, Nat.le_of_ble_eq_true rfl⟩) h kR_model rfl rfl hl.1 rfl (Nat.le_of_ble_eq_true rfl) dX10_can_25 ⟨Nat.le_of_ble_eq_true rfl, Nat.le_of_ble_eq_true rfl⟩ (fun H locs h => ?_)
      exact x_iret hx hb h (Option.some.inj hf) hr hlocks dX10_can_28
  · replace hf := xif_t hf c2
    refine lv_aload_n hx hb dX10_can_8 rfl (lv_at hl 0 rfl) ?_
    refine lv_iconst (v := 1) hx hb dX10_can_9 (by decide) ?_
    obtain ⟨r20, er20, hf⟩ := xbd_s hf
    refine x_Vi (As := [.int 1]) (rest := []) E.1 (m_X10_fails l er20) (cwV 1 hts (xgV xU_sub q208 q209 q210 q5 q211) rfl rfl rfl hdX10_fails ⟨Nat.le_of_ble_eq_true rfl, Nat.le_of_ble_eq_true rfl⟩) h kR_model rfl rfl hl.1 rfl (Nat.le_of_ble_eq_true rfl) dX10_can_10 ⟨Nat.le_of_ble_eq_true rfl, Nat.le_of_ble_eq_true rfl⟩ (fun H locs h => ?_)
    exact x_iret hx hb h (Option.some.inj hf) hr hlocks dX10_can_13
theorem hdX10_valueOf : yX10_valueOf.cls = RX10 ∧ yX10_valueOf.cls ≠ "java/lang/invoke/MethodHandle" ∧ yX10_valueOf.cls ≠ "java/lang/invoke/VarHandle" ∧ (parseMethodDescriptor yX10_valueOf.desc).map (fun d => d.parameters.length) = some 2 := by decide +kernel
set_option maxHeartbeats 4000000 in
set_option maxRecDepth 100000 in
theorem w_X10_valueOf_15 (l : Launch) {p : Program} {e : Env} {s : State} {m : MethodId} {args : Array Value} {below : List Frame} {meth : Method} {c : Code} {Γ : xG} {N : Nat} {res : xR} (E : xEv p s m args meth c RX10 cX10_valueOf 5 (some .int) (xWs yX10_valueOf cX10_valueOf 5 (some .int))) : ∀ (n : Nat) (v1 : Int32) (v2 : Int32) (v3 : Int32) (v4 : Int32) (M : xM), L_X10_valueOf_15 N n v1 v2 v3 v4 M = some res → ∀ (H : Heap) (locs : List Loc) (ls : Array Slot), xH Γ (wR Γ) 10 s M H locs → lv_has ls 5 [(0, .ref (Γ.2.1 0)), (1, .int v1), (2, .int v2), (3, .int v3), (4, .int v4)] → W p l e ({ frames := 2, cells := 0, slots := 0, locals := 62 } : Room) s m args below meth c H locs 0 0 (MQ below (xCi Γ (wR Γ) 10 res s.heap.size) args s 0 0 (xAd Γ 10 s.heap.size)) (F0 m 15 ls []) := by
  obtain ⟨⟨hx, hb, hml, hown, hts⟩, hr, hlocks⟩ := id E
  intro n
  induction n with
  | zero => intro v1 v2 v3 v4 M hf; cases hf
  | succ n ih =>
    intro v1 v2 v3 v4 M hf H locs ls h hl
    refine lv_iload hx hb dX10_valueOf_15 (lv_at hl 4 rfl) ?_
    refine lv_aload_n hx hb dX10_valueOf_17 rfl (lv_at hl 0 rfl) ?_
    refine x_get (own := RX10) (ref := "TintDeskModel") (C := RX10) (T := TX10) (n := 20) (index := 9) (v := .ref (Γ.2.1 1)) hx hb hts (fun w h => xU_sub w (inU10 w h)) hown h kR_model rfl 1 (by decide) (hts _ (xU_sub _ q132)) (fun _ h9 => h9) rfl dX10_valueOf_18 ?_
    refine lv_iconst (v := 0) hx hb dX10_valueOf_21 (by decide) ?_
    refine x_iald hx hb h kR_g (xin_in (by decide)) dX10_valueOf_22 ?_
    refine lv_icmp_ge (tgt := 52) hx hb dX10_valueOf_23 (by decide) (fun c1 => ?_) (fun c1 => ?_)
    · replace hf := xif_t hf c1
      refine lv_iload_n hx hb dX10_valueOf_52 rfl (lv_at hl 3 rfl) ?_
      exact x_iret hx hb h (Option.some.inj hf) hr hlocks dX10_valueOf_53
    · replace hf := xif_f hf c1
      refine lv_iload_n hx hb dX10_valueOf_26 rfl (lv_at hl 3 rfl) ?_
      refine lv_aload_n hx hb dX10_valueOf_27 rfl (lv_at hl 0 rfl) ?_
      refine lv_iload hx hb dX10_valueOf_28 (lv_at hl 4 rfl) ?_
      refine lv_iload_n hx hb dX10_valueOf_30 rfl (lv_at hl 2 rfl) ?_
      obtain ⟨r2, er2, hf⟩ := xbd_s hf
      refine x_Vi (As := [.int v4, .int v2]) (rest := [.int v3]) E.1 (m_X10_colorantAt l er2) (cwV 2 hts (xgV xU_sub q253 q254 q255 q5 q256) rfl rfl rfl hdX10_colorantAt ⟨Nat.le_of_ble_eq_true rfl, Nat.le_of_ble_eq_true rfl⟩) h kR_model rfl rfl hl.1 rfl (Nat.le_of_ble_eq_true rfl) dX10_valueOf_31 ⟨Nat.le_of_ble_eq_true rfl, Nat.le_of_ble_eq_true rfl⟩ (fun H locs h => ?_)
      refine lv_aload_n hx hb dX10_valueOf_34 rfl (lv_at hl 0 rfl) ?_
      refine lv_iload_n hx hb dX10_valueOf_35 rfl (lv_at hl 1 rfl) ?_
      refine lv_iconst (v := 2) hx hb dX10_valueOf_36 (by decide) ?_
      refine lv_iload hx hb dX10_valueOf_37 (lv_at hl 4 rfl) ?_
      refine lv_iadd hx hb dX10_valueOf_39 ?_
      obtain ⟨r3, er3, hf⟩ := xbd_s hf
      refine x_Vi (As := [.int v1, .int (2 + v4)]) (rest := [.int r2.2, .int v3]) E.1 (m_X10_canAt l er3) (cwV 2 hts (xgV xU_sub q630 q631 q632 q5 q633) rfl rfl rfl hdX10_canAt ⟨Nat.le_of_ble_eq_true rfl, Nat.le_of_ble_eq_true rfl⟩) h kR_model rfl rfl hl.1 rfl (Nat.le_of_ble_eq_true rfl) dX10_valueOf_40 ⟨Nat.le_of_ble_eq_true rfl, Nat.le_of_ble_eq_true rfl⟩ (fun H locs h => ?_)
      refine lv_imul hx hb dX10_valueOf_43 ?_
      refine lv_iadd hx hb dX10_valueOf_44 ?_
      obtain ⟨y4, ey4, hf⟩ := xl_s hf
      refine x_nm ey4 ?_
      refine lv_istore_n (lv' := [(3, .int y4), (0, .ref (Γ.2.1 0)), (1, .int v1), (2, .int v2), (4, .int v4)]) hx hb dX10_valueOf_45 rfl hl (by decide) rfl (fun ls hl => ?_)
      obtain ⟨y5, ey5, hf⟩ := xl_s hf
      refine lv_iinc (v := y5) (lv' := [(4, .int y5), (3, .int y4), (0, .ref (Γ.2.1 0)), (1, .int v1), (2, .int v2)]) hx hb dX10_valueOf_46 hl (k := 4) rfl (by rw [ey5]; rfl) (by decide) rfl (fun ls hl => ?_)
      refine lv_goto (tgt := 15) hx hb dX10_valueOf_49 (by decide) ?_
      exact ih v1 v2 y4 y5 r3.1 hf _ _ _ h (lv_sub hl [2, 3, 4, 1, 0] rfl)
set_option maxHeartbeats 4000000 in
set_option maxRecDepth 100000 in
theorem m_X10_valueOf (l : Launch) {Γ : xG} {N : Nat} {v1 : Int32} {v2 : Int32} {M : xM} {res : xR} (hf : F_X10_valueOf N v1 v2 M = some res) (sz : Nat) : Met l yX10_valueOf (xWs yX10_valueOf cX10_valueOf 5 (some .int)) ({ frames := 2, cells := 0, slots := 0, locals := 62 } : Room) (va_Pc [.ref (Γ.2.1 0), .int v1, .int v2] (xPre Γ (wR Γ) M sz)) (xCi Γ (wR Γ) 10 res sz) 0 0 (xAd Γ 10 sz) := by
  refine x_met (Qc := fun sz => xCi Γ (wR Γ) 10 res sz) pnX10 wG_W (Nat.le_of_ble_eq_true rfl) (fun p e s m args below meth c _ E h ls hl => ?_) sz
  obtain ⟨⟨hx, hb, hml, hown, hts⟩, hr, hlocks⟩ := id E
  have hl : lv_has ls 5 [(0, .ref (Γ.2.1 0)), (1, .int v1), (2, .int v2)] := hl
  refine lv_aload_n hx hb dX10_valueOf_0 rfl (lv_at hl 0 rfl) ?_
  refine lv_aload_n hx hb dX10_valueOf_1 rfl (lv_at hl 0 rfl) ?_
  refine lv_iload_n hx hb dX10_valueOf_2 rfl (lv_at hl 1 rfl) ?_
  refine lv_iconst (v := 1) hx hb dX10_valueOf_3 (by decide) ?_
  obtain ⟨r1, er1, hf⟩ := xbd_s hf
  refine x_Vi (As := [.int v1, .int 1]) (rest := [.ref (Γ.2.1 0)]) E.1 (m_X10_canAt l er1) (cwV 2 hts (xgV xU_sub q630 q631 q632 q5 q633) rfl rfl rfl hdX10_canAt ⟨Nat.le_of_ble_eq_true rfl, Nat.le_of_ble_eq_true rfl⟩) h kR_model rfl rfl hl.1 rfl (Nat.le_of_ble_eq_true rfl) dX10_valueOf_4 ⟨Nat.le_of_ble_eq_true rfl, Nat.le_of_ble_eq_true rfl⟩ (fun H locs h => ?_)
  refine lv_iload_n hx hb dX10_valueOf_7 rfl (lv_at hl 2 rfl) ?_
  obtain ⟨r2, er2, hf⟩ := xbd_s hf
  refine x_Vi (As := [.int r1.2, .int v2]) (rest := []) E.1 (m_X10_baseAt l er2) (cwV 2 hts (xgV xU_sub q412 q413 q414 q5 q415) rfl rfl rfl hdX10_baseAt ⟨Nat.le_of_ble_eq_true rfl, Nat.le_of_ble_eq_true rfl⟩) h kR_model rfl rfl hl.1 rfl (Nat.le_of_ble_eq_true rfl) dX10_valueOf_8 ⟨Nat.le_of_ble_eq_true rfl, Nat.le_of_ble_eq_true rfl⟩ (fun H locs h => ?_)
  obtain ⟨y3, ey3, hf⟩ := xl_s hf
  refine x_nm ey3 ?_
  refine lv_istore_n (lv' := [(3, .int y3), (0, .ref (Γ.2.1 0)), (1, .int v1), (2, .int v2)]) hx hb dX10_valueOf_11 rfl hl (by decide) rfl (fun ls hl => ?_)
  refine lv_iconst (v := 0) hx hb dX10_valueOf_12 (by decide) ?_
  refine lv_istore (lv' := [(4, .int 0), (3, .int y3), (0, .ref (Γ.2.1 0)), (1, .int v1), (2, .int v2)]) hx hb dX10_valueOf_13 hl (by decide) rfl (fun ls hl => ?_)
  exact w_X10_valueOf_15 l E N v1 v2 y3 0 r2.1 hf _ _ _ h (lv_sub hl [2, 3, 4, 1, 0] rfl)
theorem hdX10_colour : yX10_colour.cls = RX10 ∧ yX10_colour.cls ≠ "java/lang/invoke/MethodHandle" ∧ yX10_colour.cls ≠ "java/lang/invoke/VarHandle" ∧ (parseMethodDescriptor yX10_colour.desc).map (fun d => d.parameters.length) = some 2 := by decide +kernel
set_option maxHeartbeats 4000000 in
set_option maxRecDepth 100000 in
theorem m_X10_colour (l : Launch) {Γ : xG} {N : Nat} {v1 : Int32} {v2 : Int32} {M : xM} {res : xR} (hf : F_X10_colour N v1 v2 M = some res) (sz : Nat) : Met l yX10_colour (xWs yX10_colour cX10_colour 3 (some .int)) ({ frames := 3, cells := 0, slots := 0, locals := 86 } : Room) (va_Pc [.ref (Γ.2.1 0), .int v1, .int v2] (xPre Γ (wR Γ) M sz)) (xCi Γ (wR Γ) 10 res sz) 0 0 (xAd Γ 10 sz) := by
  refine x_met (Qc := fun sz => xCi Γ (wR Γ) 10 res sz) pnX10 wG_W (Nat.le_of_ble_eq_true rfl) (fun p e s m args below meth c _ E h ls hl => ?_) sz
  obtain ⟨⟨hx, hb, hml, hown, hts⟩, hr, hlocks⟩ := id E
  have hl : lv_has ls 3 [(0, .ref (Γ.2.1 0)), (1, .int v1), (2, .int v2)] := hl
  refine lv_aload_n hx hb dX10_colour_0 rfl (lv_at hl 0 rfl) ?_
  refine lv_iload_n hx hb dX10_colour_1 rfl (lv_at hl 1 rfl) ?_
  obtain ⟨r1, er1, hf⟩ := xbd_s hf
  refine x_Vi (As := [.int v1]) (rest := []) E.1 (m_X10_isCan l er1) (cwV 1 hts (xgV xU_sub q626 q627 q628 q5 q629) rfl rfl rfl hdX10_isCan ⟨Nat.le_of_ble_eq_true rfl, Nat.le_of_ble_eq_true rfl⟩) h kR_model rfl rfl hl.1 rfl (Nat.le_of_ble_eq_true rfl) dX10_colour_2 ⟨Nat.le_of_ble_eq_true rfl, Nat.le_of_ble_eq_true rfl⟩ (fun H locs h => ?_)
  refine lv_if_ne (tgt := 14) hx hb dX10_colour_5 (by decide) (fun c2 => ?_) (fun c2 => ?_)
  · replace hf := xif_f hf c2
    refine lv_iload_n hx hb dX10_colour_14 rfl (lv_at hl 2 rfl) ?_
    refine lv_iconst (v := 0) hx hb dX10_colour_15 (by decide) ?_
    refine lv_iconst (v := 2) hx hb dX10_colour_16 (by decide) ?_
    obtain ⟨r3, er3, hf⟩ := xbd_s hf
    refine x_Si (As := [.int v2, .int 0, .int 2]) (rest := []) E.1 (m_X10_in l er3) (cwS 3 hts (xgS xU_sub q205 q206 q5 q207) rfl rfl rfl hdX10_in ⟨Nat.le_of_ble_eq_true rfl, Nat.le_of_ble_eq_true rfl⟩) h rfl hl.1 rfl (Nat.le_of_ble_eq_true rfl) dX10_colour_17 ⟨Nat.le_of_ble_eq_true rfl, Nat.le_of_ble_eq_true rfl⟩ (fun H locs h => ?_)
    refine lv_if_eq (tgt := 36) hx hb dX10_colour_20 (by decide) (fun c4 => ?_) (fun c4 => ?_)
    · replace hf := xif_t hf c4
      refine lv_aload_n hx hb dX10_colour_36 rfl (lv_at hl 0 rfl) ?_
      refine lv_iconst (v := 2) hx hb dX10_colour_37 (by decide) ?_
      obtain ⟨r5, er5, hf⟩ := xbd_s hf
      refine x_Vi (As := [.int 2]) (rest := []) E.1 (m_X10_fails l er5) (cwV 1 hts (xgV xU_sub q208 q209 q210 q5 q211) rfl rfl rfl hdX10_fails ⟨Nat.le_of_ble_eq_true rfl, Nat.le_of_ble_eq_true rfl⟩) h kR_model rfl rfl hl.1 rfl (Nat.le_of_ble_eq_true rfl) dX10_colour_38 ⟨Nat.le_of_ble_eq_true rfl, Nat.le_of_ble_eq_true rfl⟩ (fun H locs h => ?_)
      exact x_iret hx hb h (Option.some.inj hf) hr hlocks dX10_colour_41
    · replace hf := xif_f hf c4
      refine lv_aload_n hx hb dX10_colour_23 rfl (lv_at hl 0 rfl) ?_
      refine lv_aload_n hx hb dX10_colour_24 rfl (lv_at hl 0 rfl) ?_
      refine lv_iload_n hx hb dX10_colour_25 rfl (lv_at hl 1 rfl) ?_
      refine lv_iload_n hx hb dX10_colour_26 rfl (lv_at hl 2 rfl) ?_
      obtain ⟨r6, er6, hf⟩ := xbd_s hf
      refine x_Vi (As := [.int v1, .int v2]) (rest := [.ref (Γ.2.1 0)]) E.1 (m_X10_valueOf l er6) (cwV 2 hts (xgV xU_sub q798 q799 q800 q5 q801) rfl rfl rfl hdX10_valueOf ⟨Nat.le_of_ble_eq_true rfl, Nat.le_of_ble_eq_true rfl⟩) h kR_model rfl rfl hl.1 rfl (Nat.le_of_ble_eq_true rfl) dX10_colour_27 ⟨Nat.le_of_ble_eq_true rfl, Nat.le_of_ble_eq_true rfl⟩ (fun H locs h => ?_)
      obtain ⟨r7, er7, hf⟩ := xbd_s hf
      refine x_Vi (As := [.int r6.2]) (rest := []) E.1 (m_X10_done l er7) (cwV 1 hts (xgV xU_sub q221 q222 q223 q5 q224) rfl rfl rfl hdX10_done ⟨Nat.le_of_ble_eq_true rfl, Nat.le_of_ble_eq_true rfl⟩) h kR_model rfl rfl hl.1 rfl (Nat.le_of_ble_eq_true rfl) dX10_colour_30 ⟨Nat.le_of_ble_eq_true rfl, Nat.le_of_ble_eq_true rfl⟩ (fun H locs h => ?_)
      refine lv_goto (tgt := 41) hx hb dX10_colour_33 (by decide) ?_
      exact x_iret hx hb h (Option.some.inj hf) hr hlocks dX10_colour_41
  · replace hf := xif_t hf c2
    refine lv_aload_n hx hb dX10_colour_8 rfl (lv_at hl 0 rfl) ?_
    refine lv_iconst (v := 1) hx hb dX10_colour_9 (by decide) ?_
    obtain ⟨r8, er8, hf⟩ := xbd_s hf
    refine x_Vi (As := [.int 1]) (rest := []) E.1 (m_X10_fails l er8) (cwV 1 hts (xgV xU_sub q208 q209 q210 q5 q211) rfl rfl rfl hdX10_fails ⟨Nat.le_of_ble_eq_true rfl, Nat.le_of_ble_eq_true rfl⟩) h kR_model rfl rfl hl.1 rfl (Nat.le_of_ble_eq_true rfl) dX10_colour_10 ⟨Nat.le_of_ble_eq_true rfl, Nat.le_of_ble_eq_true rfl⟩ (fun H locs h => ?_)
    exact x_iret hx hb h (Option.some.inj hf) hr hlocks dX10_colour_13
theorem hdX10_correct : yX10_correct.cls = RX10 ∧ yX10_correct.cls ≠ "java/lang/invoke/MethodHandle" ∧ yX10_correct.cls ≠ "java/lang/invoke/VarHandle" ∧ (parseMethodDescriptor yX10_correct.desc).map (fun d => d.parameters.length) = some 3 := by decide +kernel
set_option maxHeartbeats 4000000 in
set_option maxRecDepth 100000 in
theorem m_X10_correct (l : Launch) {Γ : xG} {N : Nat} {v1 : Int32} {v2 : Int32} {v3 : Int32} {M : xM} {res : xR} (hf : F_X10_correct N v1 v2 v3 M = some res) (sz : Nat) : Met l yX10_correct (xWs yX10_correct cX10_correct 4 (some .int)) ({ frames := 4, cells := 0, slots := 0, locals := 106 } : Room) (va_Pc [.ref (Γ.2.1 0), .int v1, .int v2, .int v3] (xPre Γ (wR Γ) M sz)) (xCi Γ (wR Γ) 10 res sz) 0 0 (xAd Γ 10 sz) := by
  refine x_met (Qc := fun sz => xCi Γ (wR Γ) 10 res sz) pnX10 wG_W (Nat.le_of_ble_eq_true rfl) (fun p e s m args below meth c _ E h ls hl => ?_) sz
  obtain ⟨⟨hx, hb, hml, hown, hts⟩, hr, hlocks⟩ := id E
  have hl : lv_has ls 4 [(0, .ref (Γ.2.1 0)), (1, .int v1), (2, .int v2), (3, .int v3)] := hl
  refine lv_aload_n hx hb dX10_correct_0 rfl (lv_at hl 0 rfl) ?_
  refine lv_iload_n hx hb dX10_correct_1 rfl (lv_at hl 1 rfl) ?_
  obtain ⟨r1, er1, hf⟩ := xbd_s hf
  refine x_Vi (As := [.int v1]) (rest := []) E.1 (m_X10_isCan l er1) (cwV 1 hts (xgV xU_sub q626 q627 q628 q5 q629) rfl rfl rfl hdX10_isCan ⟨Nat.le_of_ble_eq_true rfl, Nat.le_of_ble_eq_true rfl⟩) h kR_model rfl rfl hl.1 rfl (Nat.le_of_ble_eq_true rfl) dX10_correct_2 ⟨Nat.le_of_ble_eq_true rfl, Nat.le_of_ble_eq_true rfl⟩ (fun H locs h => ?_)
  refine lv_if_eq (tgt := 16) hx hb dX10_correct_5 (by decide) (fun c2 => ?_) (fun c2 => ?_)
  · replace hf := xif_t hf c2
    refine lv_aload_n hx hb dX10_correct_16 rfl (lv_at hl 0 rfl) ?_
    refine lv_iconst (v := 1) hx hb dX10_correct_17 (by decide) ?_
    obtain ⟨r3, er3, hf⟩ := xbd_s hf
    refine x_Vi (As := [.int 1]) (rest := []) E.1 (m_X10_fails l er3) (cwV 1 hts (xgV xU_sub q208 q209 q210 q5 q211) rfl rfl rfl hdX10_fails ⟨Nat.le_of_ble_eq_true rfl, Nat.le_of_ble_eq_true rfl⟩) h kR_model rfl rfl hl.1 rfl (Nat.le_of_ble_eq_true rfl) dX10_correct_18 ⟨Nat.le_of_ble_eq_true rfl, Nat.le_of_ble_eq_true rfl⟩ (fun H locs h => ?_)
    exact x_iret hx hb h (Option.some.inj hf) hr hlocks dX10_correct_21
  · replace hf := xif_f hf c2
    refine lv_aload_n hx hb dX10_correct_8 rfl (lv_at hl 0 rfl) ?_
    refine lv_iload_n hx hb dX10_correct_9 rfl (lv_at hl 2 rfl) ?_
    obtain ⟨r4, er4, hf⟩ := xbd_s hf
    refine x_Vi (As := [.int v2]) (rest := []) E.1 (m_X10_isColorant l er4) (cwV 1 hts (xgV xU_sub q249 q250 q251 q5 q252) rfl rfl rfl hdX10_isColorant ⟨Nat.le_of_ble_eq_true rfl, Nat.le_of_ble_eq_true rfl⟩) h kR_model rfl rfl hl.1 rfl (Nat.le_of_ble_eq_true rfl) dX10_correct_10 ⟨Nat.le_of_ble_eq_true rfl, Nat.le_of_ble_eq_true rfl⟩ (fun H locs h => ?_)
    refine lv_if_ne (tgt := 22) hx hb dX10_correct_13 (by decide) (fun c5 => ?_) (fun c5 => ?_)
    · replace hf := xif_f hf c5
      refine lv_iload_n hx hb dX10_correct_22 rfl (lv_at hl 3 rfl) ?_
      refine lv_iconst (v := 1) hx hb dX10_correct_23 (by decide) ?_
      refine lv_bipush (v := 50) hx hb dX10_correct_24 (by decide) ?_
      obtain ⟨r6, er6, hf⟩ := xbd_s hf
      refine x_Si (As := [.int v3, .int 1, .int 50]) (rest := []) E.1 (m_X10_in l er6) (cwS 3 hts (xgS xU_sub q205 q206 q5 q207) rfl rfl rfl hdX10_in ⟨Nat.le_of_ble_eq_true rfl, Nat.le_of_ble_eq_true rfl⟩) h rfl hl.1 rfl (Nat.le_of_ble_eq_true rfl) dX10_correct_26 ⟨Nat.le_of_ble_eq_true rfl, Nat.le_of_ble_eq_true rfl⟩ (fun H locs h => ?_)
      refine lv_if_ne (tgt := 38) hx hb dX10_correct_29 (by decide) (fun c7 => ?_) (fun c7 => ?_)
      · replace hf := xif_f hf c7
        refine lv_iload_n hx hb dX10_correct_38 rfl (lv_at hl 3 rfl) ?_
        refine lv_aload_n hx hb dX10_correct_39 rfl (lv_at hl 0 rfl) ?_
        refine lv_iload_n hx hb dX10_correct_40 rfl (lv_at hl 1 rfl) ?_
        obtain ⟨r8, er8, hf⟩ := xbd_s hf
        refine x_Vi (As := [.int v1]) (rest := [.int v3]) E.1 (m_X10_roomIn l er8) (cwV 1 hts (xgV xU_sub q778 q779 q780 q5 q781) rfl rfl rfl hdX10_roomIn ⟨Nat.le_of_ble_eq_true rfl, Nat.le_of_ble_eq_true rfl⟩) h kR_model rfl rfl hl.1 rfl (Nat.le_of_ble_eq_true rfl) dX10_correct_41 ⟨Nat.le_of_ble_eq_true rfl, Nat.le_of_ble_eq_true rfl⟩ (fun H locs h => ?_)
        refine lv_icmp_le (tgt := 54) hx hb dX10_correct_44 (by decide) (fun c9 => ?_) (fun c9 => ?_)
        · replace hf := xif_t hf c9
          refine lv_iload_n hx hb dX10_correct_54 rfl (lv_at hl 3 rfl) ?_
          refine lv_aload_n hx hb dX10_correct_55 rfl (lv_at hl 0 rfl) ?_
          refine lv_iload_n hx hb dX10_correct_56 rfl (lv_at hl 2 rfl) ?_
          obtain ⟨r10, er10, hf⟩ := xbd_s hf
          refine x_Vi (As := [.int v2]) (rest := [.int v3]) E.1 (m_X10_inCanister l er10) (cwV 1 hts (xgV xU_sub q293 q294 q295 q5 q296) rfl rfl rfl hdX10_inCanister ⟨Nat.le_of_ble_eq_true rfl, Nat.le_of_ble_eq_true rfl⟩) h kR_model rfl rfl hl.1 rfl (Nat.le_of_ble_eq_true rfl) dX10_correct_57 ⟨Nat.le_of_ble_eq_true rfl, Nat.le_of_ble_eq_true rfl⟩ (fun H locs h => ?_)
          refine lv_icmp_le (tgt := 75) hx hb dX10_correct_60 (by decide) (fun c11 => ?_) (fun c11 => ?_)
          · replace hf := xif_t hf c11
            refine lv_aload_n hx hb dX10_correct_75 rfl (lv_at hl 0 rfl) ?_
            obtain ⟨r12, er12, hf⟩ := xbd_s hf
            refine x_Vv (As := []) (rest := []) E.1 (m_X10_remembers l er12) (cwV 0 hts (xgV xU_sub q213 q214 q215 q5 q216) rfl rfl rfl hdX10_remembers ⟨Nat.le_of_ble_eq_true rfl, Nat.le_of_ble_eq_true rfl⟩) h kR_model rfl rfl hl.1 rfl (Nat.le_of_ble_eq_true rfl) dX10_correct_76 ⟨Nat.le_of_ble_eq_true rfl, Nat.le_of_ble_eq_true rfl⟩ (fun H locs h => ?_)
            refine lv_aload_n hx hb dX10_correct_79 rfl (lv_at hl 0 rfl) ?_
            refine lv_iload_n hx hb dX10_correct_80 rfl (lv_at hl 2 rfl) ?_
            refine lv_iload_n hx hb dX10_correct_81 rfl (lv_at hl 3 rfl) ?_
            refine lv_iload_n hx hb dX10_correct_82 rfl (lv_at hl 1 rfl) ?_
            obtain ⟨r13, er13, hf⟩ := xbd_s hf
            refine x_Vv (As := [.int v2, .int v3, .int v1]) (rest := []) E.1 (m_X10_pumps l er13) (cwV 3 hts (xgV xU_sub q695 q696 q697 q5 q698) rfl rfl rfl hdX10_pumps ⟨Nat.le_of_ble_eq_true rfl, Nat.le_of_ble_eq_true rfl⟩) h kR_model rfl rfl hl.1 rfl (Nat.le_of_ble_eq_true rfl) dX10_correct_83 ⟨Nat.le_of_ble_eq_true rfl, Nat.le_of_ble_eq_true rfl⟩ (fun H locs h => ?_)
            refine lv_aload_n hx hb dX10_correct_86 rfl (lv_at hl 0 rfl) ?_
            refine x_get (own := RX10) (ref := "TintDeskModel") (C := RX10) (T := TX10) (n := 20) (index := 9) (v := .ref (Γ.2.1 1)) hx hb hts (fun w h => xU_sub w (inU10 w h)) hown h kR_model rfl 1 (by decide) (hts _ (xU_sub _ q132)) (fun _ h9 => h9) rfl dX10_correct_87 ?_
            refine lv_sipush (v := 579) hx hb dX10_correct_90 (by decide) ?_
            refine lv_bipush (v := 44) hx hb dX10_correct_93 (by decide) ?_
            refine lv_iload_n hx hb dX10_correct_95 rfl (lv_at hl 1 rfl) ?_
            refine lv_imul hx hb dX10_correct_96 ?_
            refine lv_iadd hx hb dX10_correct_97 ?_
            refine lv_bipush (v := 10) hx hb dX10_correct_98 (by decide) ?_
            refine lv_iadd hx hb dX10_correct_100 ?_
            refine lv_dup2_11 hx hb dX10_correct_101 rfl rfl ?_
            obtain ⟨c14, hf⟩ := xck_s hf
            refine x_iald hx hb h kR_g (xin_in c14) dX10_correct_102 ?_
            refine lv_iconst (v := 1) hx hb dX10_correct_103 (by decide) ?_
            refine lv_iadd hx hb dX10_correct_104 ?_
            obtain ⟨c15, hf⟩ := xck_s hf
            obtain ⟨M16, eM16, hf⟩ := xl_s hf
            refine x_iast hx hb h kR_g (xin_in c15) eM16 dX10_correct_105 (fun H locs h => ?_)
            refine lv_aload_n hx hb dX10_correct_106 rfl (lv_at hl 0 rfl) ?_
            refine x_get (own := RX10) (ref := "TintDeskModel") (C := RX10) (T := TX10) (n := 20) (index := 9) (v := .ref (Γ.2.1 1)) hx hb hts (fun w h => xU_sub w (inU10 w h)) hown h kR_model rfl 1 (by decide) (hts _ (xU_sub _ q132)) (fun _ h9 => h9) rfl dX10_correct_107 ?_
            refine lv_sipush (v := 579) hx hb dX10_correct_110 (by decide) ?_
            refine lv_bipush (v := 44) hx hb dX10_correct_113 (by decide) ?_
            refine lv_iload_n hx hb dX10_correct_115 rfl (lv_at hl 1 rfl) ?_
            refine lv_imul hx hb dX10_correct_116 ?_
            refine lv_iadd hx hb dX10_correct_117 ?_
            refine lv_bipush (v := 11) hx hb dX10_correct_118 (by decide) ?_
            refine lv_iadd hx hb dX10_correct_120 ?_
            refine lv_dup2_11 hx hb dX10_correct_121 rfl rfl ?_
            obtain ⟨c17, hf⟩ := xck_s hf
            refine x_iald hx hb h kR_g (xin_in c17) dX10_correct_122 ?_
            refine lv_iload_n hx hb dX10_correct_123 rfl (lv_at hl 3 rfl) ?_
            refine lv_iadd hx hb dX10_correct_124 ?_
            obtain ⟨c18, hf⟩ := xck_s hf
            obtain ⟨M19, eM19, hf⟩ := xl_s hf
            refine x_iast hx hb h kR_g (xin_in c18) eM19 dX10_correct_125 (fun H locs h => ?_)
            refine lv_aload_n hx hb dX10_correct_126 rfl (lv_at hl 0 rfl) ?_
            refine lv_aload_n hx hb dX10_correct_127 rfl (lv_at hl 0 rfl) ?_
            refine lv_iload_n hx hb dX10_correct_128 rfl (lv_at hl 1 rfl) ?_
            obtain ⟨r20, er20, hf⟩ := xbd_s hf
            refine x_Vi (As := [.int v1]) (rest := [.ref (Γ.2.1 0)]) E.1 (m_X10_allIn l er20) (cwV 1 hts (xgV xU_sub q774 q775 q776 q5 q777) rfl rfl rfl hdX10_allIn ⟨Nat.le_of_ble_eq_true rfl, Nat.le_of_ble_eq_true rfl⟩) h kR_model rfl rfl hl.1 rfl (Nat.le_of_ble_eq_true rfl) dX10_correct_129 ⟨Nat.le_of_ble_eq_true rfl, Nat.le_of_ble_eq_true rfl⟩ (fun H locs h => ?_)
            obtain ⟨r21, er21, hf⟩ := xbd_s hf
            refine x_Vi (As := [.int r20.2]) (rest := []) E.1 (m_X10_done l er21) (cwV 1 hts (xgV xU_sub q221 q222 q223 q5 q224) rfl rfl rfl hdX10_done ⟨Nat.le_of_ble_eq_true rfl, Nat.le_of_ble_eq_true rfl⟩) h kR_model rfl rfl hl.1 rfl (Nat.le_of_ble_eq_true rfl) dX10_correct_132 ⟨Nat.le_of_ble_eq_true rfl, Nat.le_of_ble_eq_true rfl⟩ (fun H locs h => ?_)
            exact x_iret hx hb h (Option.some.inj hf) hr hlocks dX10_correct_135
          · replace hf := xif_f hf c11
            refine lv_aload_n hx hb dX10_correct_63 rfl (lv_at hl 0 rfl) ?_
            refine lv_iload_n hx hb dX10_correct_64 rfl (lv_at hl 2 rfl) ?_
            obtain ⟨M22, eM22, hf⟩ := xl_s hf
            refine x_put (own := RX10) (ref := "TintDeskModel") (C := RX10) (T := TX10) (n := 20) (index := 145) (ty := .int) hx hb hts (fun w h => xU_sub w (inU10 w h)) tyX10 tyX10_ok nmX10 hown h kR_model rfl 8 (by decide) (hts _ (xU_sub _ q682)) (fun _ h9 => h9) rfl (by decide +kernel) rfl rfl (Nat.le_of_ble_eq_true rfl) rfl eM22 dX10_correct_65 (fun H locs h => ?_)
            refine lv_aload_n hx hb dX10_correct_68 rfl (lv_at hl 0 rfl) ?_
            refine lv_iconst (v := 5) hx hb dX10_correct_69 (by decide) ?_
            refine lv_iconst (v := 3) hx hb dX10_correct_70 (by decide) ?_
            obtain ⟨r23, er23, hf⟩ := xbd_s hf
            refine x_Vi (As := [.int 5, .int 3]) (rest := []) E.1 (m_X10_refuses l er23) (cwV 2 hts (xgV xU_sub q288 q289 q290 q5 q291) rfl rfl rfl hdX10_refuses ⟨Nat.le_of_ble_eq_true rfl, Nat.le_of_ble_eq_true rfl⟩) h kR_model rfl rfl hl.1 rfl (Nat.le_of_ble_eq_true rfl) dX10_correct_71 ⟨Nat.le_of_ble_eq_true rfl, Nat.le_of_ble_eq_true rfl⟩ (fun H locs h => ?_)
            exact x_iret hx hb h (Option.some.inj hf) hr hlocks dX10_correct_74
        · replace hf := xif_f hf c9
          refine lv_aload_n hx hb dX10_correct_47 rfl (lv_at hl 0 rfl) ?_
          refine lv_iconst (v := 4) hx hb dX10_correct_48 (by decide) ?_
          refine lv_iconst (v := 3) hx hb dX10_correct_49 (by decide) ?_
          obtain ⟨r24, er24, hf⟩ := xbd_s hf
          refine x_Vi (As := [.int 4, .int 3]) (rest := []) E.1 (m_X10_refuses l er24) (cwV 2 hts (xgV xU_sub q288 q289 q290 q5 q291) rfl rfl rfl hdX10_refuses ⟨Nat.le_of_ble_eq_true rfl, Nat.le_of_ble_eq_true rfl⟩) h kR_model rfl rfl hl.1 rfl (Nat.le_of_ble_eq_true rfl) dX10_correct_50 ⟨Nat.le_of_ble_eq_true rfl, Nat.le_of_ble_eq_true rfl⟩ (fun H locs h => ?_)
          exact x_iret hx hb h (Option.some.inj hf) hr hlocks dX10_correct_53
      · replace hf := xif_t hf c7
        refine lv_aload_n hx hb dX10_correct_32 rfl (lv_at hl 0 rfl) ?_
        refine lv_iconst (v := 2) hx hb dX10_correct_33 (by decide) ?_
        obtain ⟨r25, er25, hf⟩ := xbd_s hf
        refine x_Vi (As := [.int 2]) (rest := []) E.1 (m_X10_fails l er25) (cwV 1 hts (xgV xU_sub q208 q209 q210 q5 q211) rfl rfl rfl hdX10_fails ⟨Nat.le_of_ble_eq_true rfl, Nat.le_of_ble_eq_true rfl⟩) h kR_model rfl rfl hl.1 rfl (Nat.le_of_ble_eq_true rfl) dX10_correct_34 ⟨Nat.le_of_ble_eq_true rfl, Nat.le_of_ble_eq_true rfl⟩ (fun H locs h => ?_)
        exact x_iret hx hb h (Option.some.inj hf) hr hlocks dX10_correct_37
    · replace hf := xif_t hf c5
      refine lv_aload_n hx hb dX10_correct_16 rfl (lv_at hl 0 rfl) ?_
      refine lv_iconst (v := 1) hx hb dX10_correct_17 (by decide) ?_
      obtain ⟨r26, er26, hf⟩ := xbd_s hf
      refine x_Vi (As := [.int 1]) (rest := []) E.1 (m_X10_fails l er26) (cwV 1 hts (xgV xU_sub q208 q209 q210 q5 q211) rfl rfl rfl hdX10_fails ⟨Nat.le_of_ble_eq_true rfl, Nat.le_of_ble_eq_true rfl⟩) h kR_model rfl rfl hl.1 rfl (Nat.le_of_ble_eq_true rfl) dX10_correct_18 ⟨Nat.le_of_ble_eq_true rfl, Nat.le_of_ble_eq_true rfl⟩ (fun H locs h => ?_)
      exact x_iret hx hb h (Option.some.inj hf) hr hlocks dX10_correct_21
theorem hdX10_reaches : yX10_reaches.cls = RX10 ∧ yX10_reaches.cls ≠ "java/lang/invoke/MethodHandle" ∧ yX10_reaches.cls ≠ "java/lang/invoke/VarHandle" ∧ (parseMethodDescriptor yX10_reaches.desc).map (fun d => d.parameters.length) = some 2 := by decide +kernel
set_option maxHeartbeats 4000000 in
set_option maxRecDepth 100000 in
theorem w_X10_reaches_95 (l : Launch) {p : Program} {e : Env} {s : State} {m : MethodId} {args : Array Value} {below : List Frame} {meth : Method} {c : Code} {Γ : xG} {N : Nat} {res : xR} (E : xEv p s m args meth c RX10 cX10_reaches 8 (some .boolean) (xWs yX10_reaches cX10_reaches 8 (some .boolean))) {K_5 : Int32 → Int32 → Int32 → Int32 → xM → Option xR} (hK_5 : ∀ (v1 : Int32) (v2 : Int32) (v3 : Int32) (v4 : Int32) (M : xM), K_5 v1 v2 v3 v4 M = some res → ∀ (H : Heap) (locs : List Loc) (ls : Array Slot), xH Γ (wR Γ) 10 s M H locs → lv_has ls 8 [(0, .ref (Γ.2.1 0)), (1, .int v1), (2, .int v2), (3, .int v3), (4, .int v4)] → W p l e ({ frames := 3, cells := 0, slots := 0, locals := 86 } : Room) s m args below meth c H locs 0 0 (MQ below (xCi Γ (wR Γ) 10 res s.heap.size) args s 0 0 (xAd Γ 10 s.heap.size)) (F0 m 5 ls [])) : ∀ (v1 : Int32) (v2 : Int32) (v4 : Int32) (t0 : Int32) (t1 : Int32) (M : xM), L_X10_reaches_95 N K_5 v1 v2 v4 t0 t1 M = some res → ∀ (H : Heap) (locs : List Loc) (ls : Array Slot), xH Γ (wR Γ) 10 s M H locs → lv_has ls 8 [(0, .ref (Γ.2.1 0)), (1, .int v1), (2, .int v2), (4, .int v4)] → W p l e ({ frames := 3, cells := 0, slots := 0, locals := 86 } : Room) s m args below meth c H locs 0 0 (MQ below (xCi Γ (wR Γ) 10 res s.heap.size) args s 0 0 (xAd Γ 10 s.heap.size)) (F0 m 95 ls [.int t0, .int t1]) := by
  obtain ⟨⟨hx, hb, hml, hown, hts⟩, hr, hlocks⟩ := id E
  intro v1 v2 v4 t0 t1 M hf H locs ls h hl
  refine lv_iand hx hb dX10_reaches_95 ?_
  obtain ⟨y1, ey1, hf⟩ := xl_s hf
  refine x_nm ey1 ?_
  refine lv_istore_n (lv' := [(3, .int y1), (0, .ref (Γ.2.1 0)), (1, .int v1), (2, .int v2), (4, .int v4)]) hx hb dX10_reaches_96 rfl hl (by decide) rfl (fun ls hl => ?_)
  obtain ⟨y2, ey2, hf⟩ := xl_s hf
  refine lv_iinc (v := y2) (lv' := [(4, .int y2), (3, .int y1), (0, .ref (Γ.2.1 0)), (1, .int v1), (2, .int v2)]) hx hb dX10_reaches_97 hl (k := 4) rfl (by rw [ey2]; rfl) (by decide) rfl (fun ls hl => ?_)
  refine lv_goto (tgt := 5) hx hb dX10_reaches_100 (by decide) ?_
  exact hK_5 v1 v2 y1 y2 M hf _ _ _ h (lv_sub hl [2, 3, 4, 1, 0] rfl)
set_option maxHeartbeats 4000000 in
set_option maxRecDepth 100000 in
theorem w_X10_reaches_94 (l : Launch) {p : Program} {e : Env} {s : State} {m : MethodId} {args : Array Value} {below : List Frame} {meth : Method} {c : Code} {Γ : xG} {N : Nat} {res : xR} (E : xEv p s m args meth c RX10 cX10_reaches 8 (some .boolean) (xWs yX10_reaches cX10_reaches 8 (some .boolean))) {K_95 : Int32 → Int32 → Int32 → Int32 → Int32 → xM → Option xR} (hK_95 : ∀ (v1 : Int32) (v2 : Int32) (v4 : Int32) (t0 : Int32) (t1 : Int32) (M : xM), K_95 v1 v2 v4 t0 t1 M = some res → ∀ (H : Heap) (locs : List Loc) (ls : Array Slot), xH Γ (wR Γ) 10 s M H locs → lv_has ls 8 [(0, .ref (Γ.2.1 0)), (1, .int v1), (2, .int v2), (4, .int v4)] → W p l e ({ frames := 3, cells := 0, slots := 0, locals := 86 } : Room) s m args below meth c H locs 0 0 (MQ below (xCi Γ (wR Γ) 10 res s.heap.size) args s 0 0 (xAd Γ 10 s.heap.size)) (F0 m 95 ls [.int t0, .int t1])) : ∀ (v1 : Int32) (v2 : Int32) (v4 : Int32) (t0 : Int32) (M : xM), L_X10_reaches_94 N K_95 v1 v2 v4 t0 M = some res → ∀ (H : Heap) (locs : List Loc) (ls : Array Slot), xH Γ (wR Γ) 10 s M H locs → lv_has ls 8 [(0, .ref (Γ.2.1 0)), (1, .int v1), (2, .int v2), (4, .int v4)] → W p l e ({ frames := 3, cells := 0, slots := 0, locals := 86 } : Room) s m args below meth c H locs 0 0 (MQ below (xCi Γ (wR Γ) 10 res s.heap.size) args s 0 0 (xAd Γ 10 s.heap.size)) (F0 m 94 ls [.int t0]) := by
  obtain ⟨⟨hx, hb, hml, hown, hts⟩, hr, hlocks⟩ := id E
  intro v1 v2 v4 t0 M hf H locs ls h hl
  refine lv_iconst (v := 0) hx hb dX10_reaches_94 (by decide) ?_
  exact hK_95 v1 v2 v4 0 t0 M hf _ _ _ h (lv_sub hl [0, 1, 2, 3] rfl)
set_option maxHeartbeats 4000000 in
set_option maxRecDepth 100000 in
theorem w_X10_reaches_139 (l : Launch) {p : Program} {e : Env} {s : State} {m : MethodId} {args : Array Value} {below : List Frame} {meth : Method} {c : Code} {Γ : xG} {N : Nat} {res : xR} (E : xEv p s m args meth c RX10 cX10_reaches 8 (some .boolean) (xWs yX10_reaches cX10_reaches 8 (some .boolean))) {K_106 : Int32 → Int32 → xM → Option xR} (hK_106 : ∀ (v3 : Int32) (v4 : Int32) (M : xM), K_106 v3 v4 M = some res → ∀ (H : Heap) (locs : List Loc) (ls : Array Slot), xH Γ (wR Γ) 10 s M H locs → lv_has ls 8 [(0, .ref (Γ.2.1 0)), (3, .int v3), (4, .int v4)] → W p l e ({ frames := 3, cells := 0, slots := 0, locals := 86 } : Room) s m args below meth c H locs 0 0 (MQ below (xCi Γ (wR Γ) 10 res s.heap.size) args s 0 0 (xAd Γ 10 s.heap.size)) (F0 m 106 ls [])) : ∀ (v4 : Int32) (t0 : Int32) (t1 : Int32) (M : xM), L_X10_reaches_139 N K_106 v4 t0 t1 M = some res → ∀ (H : Heap) (locs : List Loc) (ls : Array Slot), xH Γ (wR Γ) 10 s M H locs → lv_has ls 8 [(0, .ref (Γ.2.1 0)), (4, .int v4)] → W p l e ({ frames := 3, cells := 0, slots := 0, locals := 86 } : Room) s m args below meth c H locs 0 0 (MQ below (xCi Γ (wR Γ) 10 res s.heap.size) args s 0 0 (xAd Γ 10 s.heap.size)) (F0 m 139 ls [.int t0, .int t1]) := by
  obtain ⟨⟨hx, hb, hml, hown, hts⟩, hr, hlocks⟩ := id E
  intro v4 t0 t1 M hf H locs ls h hl
  refine lv_iand hx hb dX10_reaches_139 ?_
  obtain ⟨y1, ey1, hf⟩ := xl_s hf
  refine x_nm ey1 ?_
  refine lv_istore_n (lv' := [(3, .int y1), (0, .ref (Γ.2.1 0)), (4, .int v4)]) hx hb dX10_reaches_140 rfl hl (by decide) rfl (fun ls hl => ?_)
  obtain ⟨y2, ey2, hf⟩ := xl_s hf
  refine lv_iinc (v := y2) (lv' := [(4, .int y2), (3, .int y1), (0, .ref (Γ.2.1 0))]) hx hb dX10_reaches_141 hl (k := 2) rfl (by rw [ey2]; rfl) (by decide) rfl (fun ls hl => ?_)
  refine lv_goto (tgt := 106) hx hb dX10_reaches_144 (by decide) ?_
  exact hK_106 y1 y2 M hf _ _ _ h (lv_sub hl [2, 1, 0] rfl)
set_option maxHeartbeats 4000000 in
set_option maxRecDepth 100000 in
theorem w_X10_reaches_33 (l : Launch) {p : Program} {e : Env} {s : State} {m : MethodId} {args : Array Value} {below : List Frame} {meth : Method} {c : Code} {Γ : xG} {N : Nat} {res : xR} (E : xEv p s m args meth c RX10 cX10_reaches 8 (some .boolean) (xWs yX10_reaches cX10_reaches 8 (some .boolean))) {K_5 : Int32 → Int32 → Int32 → Int32 → xM → Option xR} (hK_5 : ∀ (v1 : Int32) (v2 : Int32) (v3 : Int32) (v4 : Int32) (M : xM), K_5 v1 v2 v3 v4 M = some res → ∀ (H : Heap) (locs : List Loc) (ls : Array Slot), xH Γ (wR Γ) 10 s M H locs → lv_has ls 8 [(0, .ref (Γ.2.1 0)), (1, .int v1), (2, .int v2), (3, .int v3), (4, .int v4)] → W p l e ({ frames := 3, cells := 0, slots := 0, locals := 86 } : Room) s m args below meth c H locs 0 0 (MQ below (xCi Γ (wR Γ) 10 res s.heap.size) args s 0 0 (xAd Γ 10 s.heap.size)) (F0 m 5 ls [])) : ∀ (n : Nat) (v1 : Int32) (v2 : Int32) (v3 : Int32) (v4 : Int32) (v5 : Int64) (v7 : Int32) (M : xM), L_X10_reaches_33 N K_5 n v1 v2 v3 v4 v5 v7 M = some res → ∀ (H : Heap) (locs : List Loc) (ls : Array Slot), xH Γ (wR Γ) 10 s M H locs → lv_has ls 8 [(0, .ref (Γ.2.1 0)), (1, .int v1), (2, .int v2), (3, .int v3), (4, .int v4), (5, .long v5), (7, .int v7)] → W p l e ({ frames := 3, cells := 0, slots := 0, locals := 86 } : Room) s m args below meth c H locs 0 0 (MQ below (xCi Γ (wR Γ) 10 res s.heap.size) args s 0 0 (xAd Γ 10 s.heap.size)) (F0 m 33 ls []) := by
  obtain ⟨⟨hx, hb, hml, hown, hts⟩, hr, hlocks⟩ := id E
  intro n
  induction n with
  | zero => intro v1 v2 v3 v4 v5 v7 M hf; cases hf
  | succ n ih =>
    intro v1 v2 v3 v4 v5 v7 M hf H locs ls h hl
    refine lv_iload hx hb dX10_reaches_33 (lv_at hl 6 rfl) ?_
    refine lv_aload_n hx hb dX10_reaches_35 rfl (lv_at hl 0 rfl) ?_
    refine x_get (own := RX10) (ref := "TintDeskModel") (C := RX10) (T := TX10) (n := 20) (index := 9) (v := .ref (Γ.2.1 1)) hx hb hts (fun w h => xU_sub w (inU10 w h)) hown h kR_model rfl 1 (by decide) (hts _ (xU_sub _ q132)) (fun _ h9 => h9) rfl dX10_reaches_36 ?_
    refine lv_iconst (v := 0) hx hb dX10_reaches_39 (by decide) ?_
    refine x_iald hx hb h kR_g (xin_in (by decide)) dX10_reaches_40 ?_
    refine lv_icmp_ge (tgt := 72) hx hb dX10_reaches_41 (by decide) (fun c1 => ?_) (fun c1 => ?_)
    · replace hf := xif_t hf c1
      refine lv_iload_n hx hb dX10_reaches_72 rfl (lv_at hl 3 rfl) ?_
      refine lv_lload hx hb dX10_reaches_73 (lv_at hl 5 rfl) ?_
      refine lv_iload_n hx hb dX10_reaches_75 rfl (lv_at hl 2 rfl) ?_
      refine lv_i2l (v := (v2).toInt64) hx hb dX10_reaches_76 rfl ?_
      refine W.lcmp hx hb dX10_reaches_77 ?_
      refine lv_if_gt (tgt := 94) hx hb dX10_reaches_78 (by decide) (fun c2 => ?_) (fun c2 => ?_)
      · replace hf := xif_t hf c2
        exact w_X10_reaches_94 l E (w_X10_reaches_95 l E (hK_5)) v1 v2 v4 v3 M hf _ _ _ h (lv_sub hl [0, 1, 2, 4] rfl)
      · replace hf := xif_f hf c2
        refine lv_lload hx hb dX10_reaches_81 (lv_at hl 5 rfl) ?_
        refine lv_lneg hx hb dX10_reaches_83 ?_
        refine lv_iload_n hx hb dX10_reaches_84 rfl (lv_at hl 2 rfl) ?_
        refine lv_i2l (v := (v2).toInt64) hx hb dX10_reaches_85 rfl ?_
        refine W.lcmp hx hb dX10_reaches_86 ?_
        refine lv_if_gt (tgt := 94) hx hb dX10_reaches_87 (by decide) (fun c3 => ?_) (fun c3 => ?_)
        · replace hf := xif_t hf c3
          exact w_X10_reaches_94 l E (w_X10_reaches_95 l E (hK_5)) v1 v2 v4 v3 M hf _ _ _ h (lv_sub hl [0, 1, 2, 4] rfl)
        · replace hf := xif_f hf c3
          refine lv_iconst (v := 1) hx hb dX10_reaches_90 (by decide) ?_
          refine lv_goto (tgt := 95) hx hb dX10_reaches_91 (by decide) ?_
          exact w_X10_reaches_95 l E (hK_5) v1 v2 v4 1 v3 M hf _ _ _ h (lv_sub hl [0, 1, 2, 4] rfl)
    · replace hf := xif_f hf c1
      refine lv_lload hx hb dX10_reaches_44 (lv_at hl 5 rfl) ?_
      refine lv_aload_n hx hb dX10_reaches_46 rfl (lv_at hl 0 rfl) ?_
      refine lv_iload hx hb dX10_reaches_47 (lv_at hl 6 rfl) ?_
      refine lv_iload hx hb dX10_reaches_49 (lv_at hl 4 rfl) ?_
      obtain ⟨r4, er4, hf⟩ := xbd_s hf
      refine x_Vi (As := [.int v7, .int v4]) (rest := [.long v5]) E.1 (m_X10_colorantAt l er4) (cwV 2 hts (xgV xU_sub q253 q254 q255 q5 q256) rfl rfl rfl hdX10_colorantAt ⟨Nat.le_of_ble_eq_true rfl, Nat.le_of_ble_eq_true rfl⟩) h kR_model rfl rfl hl.1 rfl (Nat.le_of_ble_eq_true rfl) dX10_reaches_51 ⟨Nat.le_of_ble_eq_true rfl, Nat.le_of_ble_eq_true rfl⟩ (fun H locs h => ?_)
      refine lv_aload_n hx hb dX10_reaches_54 rfl (lv_at hl 0 rfl) ?_
      refine x_get (own := RX10) (ref := "TintDeskModel") (C := RX10) (T := TX10) (n := 20) (index := 33) (v := .ref (Γ.2.1 7)) hx hb hts (fun w h => xU_sub w (inU10 w h)) hown h kR_model rfl 16 (by decide) (hts _ (xU_sub _ q139)) (fun _ h9 => h9) rfl dX10_reaches_55 ?_
      refine lv_iload hx hb dX10_reaches_58 (lv_at hl 6 rfl) ?_
      obtain ⟨c5, hf⟩ := xck_s hf
      refine x_iald hx hb h kR_adds (xin_in c5) dX10_reaches_60 ?_
      refine lv_imul hx hb dX10_reaches_61 ?_
      refine lv_i2l (v := ((r4.2 * (r4.1.1 7 v7.toNatClampNeg))).toInt64) hx hb dX10_reaches_62 rfl ?_
      refine lv_ladd hx hb dX10_reaches_63 ?_
      obtain ⟨y6, ey6, hf⟩ := xl_s hf
      refine x_nml ey6 ?_
      refine lv_lstore (lv' := [(5, .long y6), (0, .ref (Γ.2.1 0)), (1, .int v1), (2, .int v2), (3, .int v3), (4, .int v4), (7, .int v7)]) hx hb dX10_reaches_64 hl (by decide) rfl (fun ls hl => ?_)
      obtain ⟨y7, ey7, hf⟩ := xl_s hf
      refine lv_iinc (v := y7) (lv' := [(7, .int y7), (5, .long y6), (0, .ref (Γ.2.1 0)), (1, .int v1), (2, .int v2), (3, .int v3), (4, .int v4)]) hx hb dX10_reaches_66 hl (k := 6) rfl (by rw [ey7]; rfl) (by decide) rfl (fun ls hl => ?_)
      refine lv_goto (tgt := 33) hx hb dX10_reaches_69 (by decide) ?_
      exact ih v1 v2 v3 v4 y6 y7 r4.1 hf _ _ _ h (lv_sub hl [2, 3, 4, 5, 6, 1, 0] rfl)
set_option maxHeartbeats 4000000 in
set_option maxRecDepth 100000 in
theorem w_X10_reaches_106 (l : Launch) {p : Program} {e : Env} {s : State} {m : MethodId} {args : Array Value} {below : List Frame} {meth : Method} {c : Code} {Γ : xG} {N : Nat} {res : xR} (E : xEv p s m args meth c RX10 cX10_reaches 8 (some .boolean) (xWs yX10_reaches cX10_reaches 8 (some .boolean))) : ∀ (n : Nat) (v3 : Int32) (v4 : Int32) (M : xM), L_X10_reaches_106 N n v3 v4 M = some res → ∀ (H : Heap) (locs : List Loc) (ls : Array Slot), xH Γ (wR Γ) 10 s M H locs → lv_has ls 8 [(0, .ref (Γ.2.1 0)), (3, .int v3), (4, .int v4)] → W p l e ({ frames := 3, cells := 0, slots := 0, locals := 86 } : Room) s m args below meth c H locs 0 0 (MQ below (xCi Γ (wR Γ) 10 res s.heap.size) args s 0 0 (xAd Γ 10 s.heap.size)) (F0 m 106 ls []) := by
  obtain ⟨⟨hx, hb, hml, hown, hts⟩, hr, hlocks⟩ := id E
  intro n
  induction n with
  | zero => intro v3 v4 M hf; cases hf
  | succ n ih =>
    intro v3 v4 M hf H locs ls h hl
    refine lv_iload hx hb dX10_reaches_106 (lv_at hl 2 rfl) ?_
    refine lv_aload_n hx hb dX10_reaches_108 rfl (lv_at hl 0 rfl) ?_
    refine x_get (own := RX10) (ref := "TintDeskModel") (C := RX10) (T := TX10) (n := 20) (index := 9) (v := .ref (Γ.2.1 1)) hx hb hts (fun w h => xU_sub w (inU10 w h)) hown h kR_model rfl 1 (by decide) (hts _ (xU_sub _ q132)) (fun _ h9 => h9) rfl dX10_reaches_109 ?_
    refine lv_iconst (v := 0) hx hb dX10_reaches_112 (by decide) ?_
    refine x_iald hx hb h kR_g (xin_in (by decide)) dX10_reaches_113 ?_
    refine lv_icmp_ge (tgt := 147) hx hb dX10_reaches_114 (by decide) (fun c1 => ?_) (fun c1 => ?_)
    · replace hf := xif_t hf c1
      refine lv_iload_n hx hb dX10_reaches_147 rfl (lv_at hl 1 rfl) ?_
      obtain ⟨c2, hf⟩ := xck_s hf
      exact x_zret hx hb h (Option.some.inj hf) hr hlocks (xz_n c2) dX10_reaches_148
    · replace hf := xif_f hf c1
      refine lv_iload_n hx hb dX10_reaches_117 rfl (lv_at hl 1 rfl) ?_
      refine lv_aload_n hx hb dX10_reaches_118 rfl (lv_at hl 0 rfl) ?_
      refine x_get (own := RX10) (ref := "TintDeskModel") (C := RX10) (T := TX10) (n := 20) (index := 33) (v := .ref (Γ.2.1 7)) hx hb hts (fun w h => xU_sub w (inU10 w h)) hown h kR_model rfl 16 (by decide) (hts _ (xU_sub _ q139)) (fun _ h9 => h9) rfl dX10_reaches_119 ?_
      refine lv_iload hx hb dX10_reaches_122 (lv_at hl 2 rfl) ?_
      obtain ⟨c3, hf⟩ := xck_s hf
      refine x_iald hx hb h kR_adds (xin_in c3) dX10_reaches_124 ?_
      refine lv_aload_n hx hb dX10_reaches_125 rfl (lv_at hl 0 rfl) ?_
      refine lv_iload hx hb dX10_reaches_126 (lv_at hl 2 rfl) ?_
      obtain ⟨r4, er4, hf⟩ := xbd_s hf
      refine x_Vi (As := [.int v4]) (rest := [.int (M.1 7 v4.toNatClampNeg), .int v3]) E.1 (m_X10_inCanister l er4) (cwV 1 hts (xgV xU_sub q293 q294 q295 q5 q296) rfl rfl rfl hdX10_inCanister ⟨Nat.le_of_ble_eq_true rfl, Nat.le_of_ble_eq_true rfl⟩) h kR_model rfl rfl hl.1 rfl (Nat.le_of_ble_eq_true rfl) dX10_reaches_128 ⟨Nat.le_of_ble_eq_true rfl, Nat.le_of_ble_eq_true rfl⟩ (fun H locs h => ?_)
      refine lv_icmp_gt (tgt := 138) hx hb dX10_reaches_131 (by decide) (fun c5 => ?_) (fun c5 => ?_)
      · replace hf := xif_t hf c5
        refine lv_iconst (v := 0) hx hb dX10_reaches_138 (by decide) ?_
        exact w_X10_reaches_139 l E (ih) v4 0 v3 r4.1 hf _ _ _ h (lv_sub hl [0, 2] rfl)
      · replace hf := xif_f hf c5
        refine lv_iconst (v := 1) hx hb dX10_reaches_134 (by decide) ?_
        refine lv_goto (tgt := 139) hx hb dX10_reaches_135 (by decide) ?_
        exact w_X10_reaches_139 l E (ih) v4 1 v3 r4.1 hf _ _ _ h (lv_sub hl [0, 2] rfl)
set_option maxHeartbeats 4000000 in
set_option maxRecDepth 100000 in
theorem w_X10_reaches_5 (l : Launch) {p : Program} {e : Env} {s : State} {m : MethodId} {args : Array Value} {below : List Frame} {meth : Method} {c : Code} {Γ : xG} {N : Nat} {res : xR} (E : xEv p s m args meth c RX10 cX10_reaches 8 (some .boolean) (xWs yX10_reaches cX10_reaches 8 (some .boolean))) : ∀ (n : Nat) (v1 : Int32) (v2 : Int32) (v3 : Int32) (v4 : Int32) (M : xM), L_X10_reaches_5 N n v1 v2 v3 v4 M = some res → ∀ (H : Heap) (locs : List Loc) (ls : Array Slot), xH Γ (wR Γ) 10 s M H locs → lv_has ls 8 [(0, .ref (Γ.2.1 0)), (1, .int v1), (2, .int v2), (3, .int v3), (4, .int v4)] → W p l e ({ frames := 3, cells := 0, slots := 0, locals := 86 } : Room) s m args below meth c H locs 0 0 (MQ below (xCi Γ (wR Γ) 10 res s.heap.size) args s 0 0 (xAd Γ 10 s.heap.size)) (F0 m 5 ls []) := by
  obtain ⟨⟨hx, hb, hml, hown, hts⟩, hr, hlocks⟩ := id E
  intro n
  induction n with
  | zero => intro v1 v2 v3 v4 M hf; cases hf
  | succ n ih =>
    intro v1 v2 v3 v4 M hf H locs ls h hl
    refine lv_iload hx hb dX10_reaches_5 (lv_at hl 4 rfl) ?_
    refine lv_iconst (v := 3) hx hb dX10_reaches_7 (by decide) ?_
    refine lv_icmp_ge (tgt := 103) hx hb dX10_reaches_8 (by decide) (fun c1 => ?_) (fun c1 => ?_)
    · replace hf := xif_t hf c1
      refine lv_iconst (v := 0) hx hb dX10_reaches_103 (by decide) ?_
      refine lv_istore (lv' := [(4, .int 0), (0, .ref (Γ.2.1 0)), (1, .int v1), (2, .int v2), (3, .int v3)]) hx hb dX10_reaches_104 hl (by decide) rfl (fun ls hl => ?_)
      exact w_X10_reaches_106 l E N v3 0 M hf _ _ _ h (lv_sub hl [1, 4, 0] rfl)
    · replace hf := xif_f hf c1
      refine lv_aload_n hx hb dX10_reaches_11 rfl (lv_at hl 0 rfl) ?_
      refine lv_iload_n hx hb dX10_reaches_12 rfl (lv_at hl 1 rfl) ?_
      refine lv_iload hx hb dX10_reaches_13 (lv_at hl 4 rfl) ?_
      obtain ⟨r2, er2, hf⟩ := xbd_s hf
      refine x_Vi (As := [.int v1, .int v4]) (rest := []) E.1 (m_X10_valueOf l er2) (cwV 2 hts (xgV xU_sub q798 q799 q800 q5 q801) rfl rfl rfl hdX10_valueOf ⟨Nat.le_of_ble_eq_true rfl, Nat.le_of_ble_eq_true rfl⟩) h kR_model rfl rfl hl.1 rfl (Nat.le_of_ble_eq_true rfl) dX10_reaches_15 ⟨Nat.le_of_ble_eq_true rfl, Nat.le_of_ble_eq_true rfl⟩ (fun H locs h => ?_)
      refine lv_i2l (v := (r2.2).toInt64) hx hb dX10_reaches_18 rfl ?_
      refine lv_aload_n hx hb dX10_reaches_19 rfl (lv_at hl 0 rfl) ?_
      refine x_get (own := RX10) (ref := "TintDeskModel") (C := RX10) (T := TX10) (n := 20) (index := 36) (v := .ref (Γ.2.1 8)) hx hb hts (fun w h => xU_sub w (inU10 w h)) hown h kR_model rfl 17 (by decide) (hts _ (xU_sub _ q140)) (fun _ h9 => h9) rfl dX10_reaches_20 ?_
      refine lv_iload hx hb dX10_reaches_23 (lv_at hl 4 rfl) ?_
      obtain ⟨c3, hf⟩ := xck_s hf
      refine x_iald hx hb h kR_wanted (xin_in c3) dX10_reaches_25 ?_
      refine lv_i2l (v := ((r2.1.1 8 v4.toNatClampNeg)).toInt64) hx hb dX10_reaches_26 rfl ?_
      refine lv_lsub hx hb dX10_reaches_27 ?_
      obtain ⟨y4, ey4, hf⟩ := xl_s hf
      refine x_nml ey4 ?_
      refine lv_lstore (lv' := [(5, .long y4), (0, .ref (Γ.2.1 0)), (1, .int v1), (2, .int v2), (3, .int v3), (4, .int v4)]) hx hb dX10_reaches_28 hl (by decide) rfl (fun ls hl => ?_)
      refine lv_iconst (v := 0) hx hb dX10_reaches_30 (by decide) ?_
      refine lv_istore (lv' := [(7, .int 0), (5, .long y4), (0, .ref (Γ.2.1 0)), (1, .int v1), (2, .int v2), (3, .int v3), (4, .int v4)]) hx hb dX10_reaches_31 hl (by decide) rfl (fun ls hl => ?_)
      exact w_X10_reaches_33 l E (ih) N v1 v2 v3 v4 y4 0 r2.1 hf _ _ _ h (lv_sub hl [2, 3, 4, 5, 6, 1, 0] rfl)
set_option maxHeartbeats 4000000 in
set_option maxRecDepth 100000 in
theorem m_X10_reaches (l : Launch) {Γ : xG} {N : Nat} {v1 : Int32} {v2 : Int32} {M : xM} {res : xR} (hf : F_X10_reaches N v1 v2 M = some res) (sz : Nat) : Met l yX10_reaches (xWs yX10_reaches cX10_reaches 8 (some .boolean)) ({ frames := 3, cells := 0, slots := 0, locals := 86 } : Room) (va_Pc [.ref (Γ.2.1 0), .int v1, .int v2] (xPre Γ (wR Γ) M sz)) (xCi Γ (wR Γ) 10 res sz) 0 0 (xAd Γ 10 sz) := by
  refine x_met (Qc := fun sz => xCi Γ (wR Γ) 10 res sz) pnX10 wG_W (Nat.le_of_ble_eq_true rfl) (fun p e s m args below meth c _ E h ls hl => ?_) sz
  obtain ⟨⟨hx, hb, hml, hown, hts⟩, hr, hlocks⟩ := id E
  have hl : lv_has ls 8 [(0, .ref (Γ.2.1 0)), (1, .int v1), (2, .int v2)] := hl
  refine lv_iconst (v := 1) hx hb dX10_reaches_0 (by decide) ?_
  refine lv_istore_n (lv' := [(3, .int 1), (0, .ref (Γ.2.1 0)), (1, .int v1), (2, .int v2)]) hx hb dX10_reaches_1 rfl hl (by decide) rfl (fun ls hl => ?_)
  refine lv_iconst (v := 0) hx hb dX10_reaches_2 (by decide) ?_
  refine lv_istore (lv' := [(4, .int 0), (3, .int 1), (0, .ref (Γ.2.1 0)), (1, .int v1), (2, .int v2)]) hx hb dX10_reaches_3 hl (by decide) rfl (fun ls hl => ?_)
  exact w_X10_reaches_5 l E N v1 v2 1 0 M hf _ _ _ h (lv_sub hl [2, 3, 4, 1, 0] rfl)
theorem hdX10_nextWay : yX10_nextWay.cls = RX10 ∧ yX10_nextWay.cls ≠ "java/lang/invoke/MethodHandle" ∧ yX10_nextWay.cls ≠ "java/lang/invoke/VarHandle" ∧ (parseMethodDescriptor yX10_nextWay.desc).map (fun d => d.parameters.length) = some 0 := by decide +kernel
set_option maxHeartbeats 4000000 in
set_option maxRecDepth 100000 in
theorem w_X10_nextWay_47 (l : Launch) {p : Program} {e : Env} {s : State} {m : MethodId} {args : Array Value} {below : List Frame} {meth : Method} {c : Code} {Γ : xG} {N : Nat} {res : xR} (E : xEv p s m args meth c RX10 cX10_nextWay 4 (some .boolean) (xWs yX10_nextWay cX10_nextWay 4 (some .boolean))) : ∀ (v1 : Int32) (v2 : Int32) (v3 : Int32) (M : xM), L_X10_nextWay_47 N v1 v2 v3 M = some res → ∀ (H : Heap) (locs : List Loc) (ls : Array Slot), xH Γ (wR Γ) 10 s M H locs → lv_has ls 4 [(0, .ref (Γ.2.1 0)), (1, .int v1), (2, .int v2), (3, .int v3)] → W p l e ({ frames := 1, cells := 0, slots := 0, locals := 40 } : Room) s m args below meth c H locs 0 0 (MQ below (xCi Γ (wR Γ) 10 res s.heap.size) args s 0 0 (xAd Γ 10 s.heap.size)) (F0 m 47 ls []) := by
  obtain ⟨⟨hx, hb, hml, hown, hts⟩, hr, hlocks⟩ := id E
  intro v1 v2 v3 M hf H locs ls h hl
  refine lv_iload_n hx hb dX10_nextWay_47 rfl (lv_at hl 3 rfl) ?_
  refine lv_if_ge (tgt := 53) hx hb dX10_nextWay_48 (by decide) (fun c1 => ?_) (fun c1 => ?_)
  · replace hf := xif_t hf c1
    refine lv_aload_n hx hb dX10_nextWay_53 rfl (lv_at hl 0 rfl) ?_
    refine x_get (own := RX10) (ref := "TintDeskModel") (C := RX10) (T := TX10) (n := 20) (index := 33) (v := .ref (Γ.2.1 7)) hx hb hts (fun w h => xU_sub w (inU10 w h)) hown h kR_model rfl 16 (by decide) (hts _ (xU_sub _ q139)) (fun _ h9 => h9) rfl dX10_nextWay_54 ?_
    refine lv_iload_n hx hb dX10_nextWay_57 rfl (lv_at hl 1 rfl) ?_
    refine lv_iconst (v := 0) hx hb dX10_nextWay_58 (by decide) ?_
    obtain ⟨c2, hf⟩ := xck_s hf
    obtain ⟨M3, eM3, hf⟩ := xl_s hf
    refine x_iast hx hb h kR_adds (xin_in c2) eM3 dX10_nextWay_59 (fun H locs h => ?_)
    refine lv_aload_n hx hb dX10_nextWay_60 rfl (lv_at hl 0 rfl) ?_
    refine x_get (own := RX10) (ref := "TintDeskModel") (C := RX10) (T := TX10) (n := 20) (index := 33) (v := .ref (Γ.2.1 7)) hx hb hts (fun w h => xU_sub w (inU10 w h)) hown h kR_model rfl 16 (by decide) (hts _ (xU_sub _ q139)) (fun _ h9 => h9) rfl dX10_nextWay_61 ?_
    refine lv_iload_n hx hb dX10_nextWay_64 rfl (lv_at hl 3 rfl) ?_
    refine lv_dup2_11 hx hb dX10_nextWay_65 rfl rfl ?_
    obtain ⟨c4, hf⟩ := xck_s hf
    refine x_iald hx hb h kR_adds (xin_in c4) dX10_nextWay_66 ?_
    refine lv_iconst (v := 1) hx hb dX10_nextWay_67 (by decide) ?_
    refine lv_isub hx hb dX10_nextWay_68 ?_
    obtain ⟨c5, hf⟩ := xck_s hf
    obtain ⟨M6, eM6, hf⟩ := xl_s hf
    refine x_iast hx hb h kR_adds (xin_in c5) eM6 dX10_nextWay_69 (fun H locs h => ?_)
    refine lv_aload_n hx hb dX10_nextWay_70 rfl (lv_at hl 0 rfl) ?_
    refine x_get (own := RX10) (ref := "TintDeskModel") (C := RX10) (T := TX10) (n := 20) (index := 33) (v := .ref (Γ.2.1 7)) hx hb hts (fun w h => xU_sub w (inU10 w h)) hown h kR_model rfl 16 (by decide) (hts _ (xU_sub _ q139)) (fun _ h9 => h9) rfl dX10_nextWay_71 ?_
    refine lv_iload_n hx hb dX10_nextWay_74 rfl (lv_at hl 3 rfl) ?_
    refine lv_iconst (v := 1) hx hb dX10_nextWay_75 (by decide) ?_
    refine lv_iadd hx hb dX10_nextWay_76 ?_
    refine lv_iload_n hx hb dX10_nextWay_77 rfl (lv_at hl 2 rfl) ?_
    refine lv_iconst (v := 1) hx hb dX10_nextWay_78 (by decide) ?_
    refine lv_iadd hx hb dX10_nextWay_79 ?_
    obtain ⟨c7, hf⟩ := xck_s hf
    obtain ⟨M8, eM8, hf⟩ := xl_s hf
    refine x_iast hx hb h kR_adds (xin_in c7) eM8 dX10_nextWay_80 (fun H locs h => ?_)
    refine lv_iconst (v := 1) hx hb dX10_nextWay_81 (by decide) ?_
    exact x_zret hx hb h (Option.some.inj hf) hr hlocks (by decide) dX10_nextWay_82
  · replace hf := xif_f hf c1
    refine lv_iconst (v := 0) hx hb dX10_nextWay_51 (by decide) ?_
    exact x_zret hx hb h (Option.some.inj hf) hr hlocks (by decide) dX10_nextWay_52
set_option maxHeartbeats 4000000 in
set_option maxRecDepth 100000 in
theorem w_X10_nextWay_28 (l : Launch) {p : Program} {e : Env} {s : State} {m : MethodId} {args : Array Value} {below : List Frame} {meth : Method} {c : Code} {Γ : xG} {N : Nat} {res : xR} (E : xEv p s m args meth c RX10 cX10_nextWay 4 (some .boolean) (xWs yX10_nextWay cX10_nextWay 4 (some .boolean))) : ∀ (n : Nat) (v1 : Int32) (v2 : Int32) (v3 : Int32) (M : xM), L_X10_nextWay_28 N n v1 v2 v3 M = some res → ∀ (H : Heap) (locs : List Loc) (ls : Array Slot), xH Γ (wR Γ) 10 s M H locs → lv_has ls 4 [(0, .ref (Γ.2.1 0)), (1, .int v1), (2, .int v2), (3, .int v3)] → W p l e ({ frames := 1, cells := 0, slots := 0, locals := 40 } : Room) s m args below meth c H locs 0 0 (MQ below (xCi Γ (wR Γ) 10 res s.heap.size) args s 0 0 (xAd Γ 10 s.heap.size)) (F0 m 28 ls []) := by
  obtain ⟨⟨hx, hb, hml, hown, hts⟩, hr, hlocks⟩ := id E
  intro n
  induction n with
  | zero => intro v1 v2 v3 M hf; cases hf
  | succ n ih =>
    intro v1 v2 v3 M hf H locs ls h hl
    refine lv_iload_n hx hb dX10_nextWay_28 rfl (lv_at hl 3 rfl) ?_
    refine lv_if_lt (tgt := 47) hx hb dX10_nextWay_29 (by decide) (fun c1 => ?_) (fun c1 => ?_)
    · replace hf := xif_t hf c1
      exact w_X10_nextWay_47 l E v1 v2 v3 M hf _ _ _ h (lv_sub hl [0, 1, 2, 3] rfl)
    · replace hf := xif_f hf c1
      refine lv_aload_n hx hb dX10_nextWay_32 rfl (lv_at hl 0 rfl) ?_
      refine x_get (own := RX10) (ref := "TintDeskModel") (C := RX10) (T := TX10) (n := 20) (index := 33) (v := .ref (Γ.2.1 7)) hx hb hts (fun w h => xU_sub w (inU10 w h)) hown h kR_model rfl 16 (by decide) (hts _ (xU_sub _ q139)) (fun _ h9 => h9) rfl dX10_nextWay_33 ?_
      refine lv_iload_n hx hb dX10_nextWay_36 rfl (lv_at hl 3 rfl) ?_
      obtain ⟨c2, hf⟩ := xck_s hf
      refine x_iald hx hb h kR_adds (xin_in c2) dX10_nextWay_37 ?_
      refine lv_if_ne (tgt := 47) hx hb dX10_nextWay_38 (by decide) (fun c3 => ?_) (fun c3 => ?_)
      · replace hf := xif_f hf c3
        exact w_X10_nextWay_47 l E v1 v2 v3 M hf _ _ _ h (lv_sub hl [0, 1, 2, 3] rfl)
      · replace hf := xif_t hf c3
        obtain ⟨y4, ey4, hf⟩ := xl_s hf
        refine lv_iinc (v := y4) (lv' := [(3, .int y4), (0, .ref (Γ.2.1 0)), (1, .int v1), (2, .int v2)]) hx hb dX10_nextWay_41 hl (k := 3) rfl (by rw [ey4]; rfl) (by decide) rfl (fun ls hl => ?_)
        refine lv_goto (tgt := 28) hx hb dX10_nextWay_44 (by decide) ?_
        exact ih v1 v2 y4 M hf _ _ _ h (lv_sub hl [1, 2, 3, 0] rfl)
set_option maxHeartbeats 4000000 in
set_option maxRecDepth 100000 in
theorem w_X10_nextWay_23 (l : Launch) {p : Program} {e : Env} {s : State} {m : MethodId} {args : Array Value} {below : List Frame} {meth : Method} {c : Code} {Γ : xG} {N : Nat} {res : xR} (E : xEv p s m args meth c RX10 cX10_nextWay 4 (some .boolean) (xWs yX10_nextWay cX10_nextWay 4 (some .boolean))) : ∀ (v1 : Int32) (t0 : Int32) (M : xM), L_X10_nextWay_23 N v1 t0 M = some res → ∀ (H : Heap) (locs : List Loc) (ls : Array Slot), xH Γ (wR Γ) 10 s M H locs → lv_has ls 4 [(0, .ref (Γ.2.1 0)), (1, .int v1)] → W p l e ({ frames := 1, cells := 0, slots := 0, locals := 40 } : Room) s m args below meth c H locs 0 0 (MQ below (xCi Γ (wR Γ) 10 res s.heap.size) args s 0 0 (xAd Γ 10 s.heap.size)) (F0 m 23 ls [.int t0]) := by
  obtain ⟨⟨hx, hb, hml, hown, hts⟩, hr, hlocks⟩ := id E
  intro v1 t0 M hf H locs ls h hl
  refine lv_istore_n (lv' := [(2, .int t0), (0, .ref (Γ.2.1 0)), (1, .int v1)]) hx hb dX10_nextWay_23 rfl hl (by decide) rfl (fun ls hl => ?_)
  refine lv_iload_n hx hb dX10_nextWay_24 rfl (lv_at hl 2 rfl) ?_
  refine lv_iconst (v := 1) hx hb dX10_nextWay_25 (by decide) ?_
  refine lv_isub hx hb dX10_nextWay_26 ?_
  obtain ⟨y1, ey1, hf⟩ := xl_s hf
  refine x_nm ey1 ?_
  refine lv_istore_n (lv' := [(3, .int y1), (2, .int t0), (0, .ref (Γ.2.1 0)), (1, .int v1)]) hx hb dX10_nextWay_27 rfl hl (by decide) rfl (fun ls hl => ?_)
  exact w_X10_nextWay_28 l E N v1 t0 y1 M hf _ _ _ h (lv_sub hl [2, 3, 1, 0] rfl)
set_option maxHeartbeats 4000000 in
set_option maxRecDepth 100000 in
theorem m_X10_nextWay (l : Launch) {Γ : xG} {N : Nat} {M : xM} {res : xR} (hf : F_X10_nextWay N M = some res) (sz : Nat) : Met l yX10_nextWay (xWs yX10_nextWay cX10_nextWay 4 (some .boolean)) ({ frames := 1, cells := 0, slots := 0, locals := 40 } : Room) (va_Pc [.ref (Γ.2.1 0)] (xPre Γ (wR Γ) M sz)) (xCi Γ (wR Γ) 10 res sz) 0 0 (xAd Γ 10 sz) := by
  refine x_met (Qc := fun sz => xCi Γ (wR Γ) 10 res sz) pnX10 wG_W (Nat.le_of_ble_eq_true rfl) (fun p e s m args below meth c _ E h ls hl => ?_) sz
  obtain ⟨⟨hx, hb, hml, hown, hts⟩, hr, hlocks⟩ := id E
  have hl : lv_has ls 4 [(0, .ref (Γ.2.1 0))] := hl
  refine lv_aload_n hx hb dX10_nextWay_0 rfl (lv_at hl 0 rfl) ?_
  refine x_get (own := RX10) (ref := "TintDeskModel") (C := RX10) (T := TX10) (n := 20) (index := 9) (v := .ref (Γ.2.1 1)) hx hb hts (fun w h => xU_sub w (inU10 w h)) hown h kR_model rfl 1 (by decide) (hts _ (xU_sub _ q132)) (fun _ h9 => h9) rfl dX10_nextWay_1 ?_
  refine lv_iconst (v := 0) hx hb dX10_nextWay_4 (by decide) ?_
  refine x_iald hx hb h kR_g (xin_in (by decide)) dX10_nextWay_5 ?_
  refine lv_iconst (v := 1) hx hb dX10_nextWay_6 (by decide) ?_
  refine lv_isub hx hb dX10_nextWay_7 ?_
  obtain ⟨y1, ey1, hf⟩ := xl_s hf
  refine x_nm ey1 ?_
  refine lv_istore_n (lv' := [(1, .int y1), (0, .ref (Γ.2.1 0))]) hx hb dX10_nextWay_8 rfl hl (by decide) rfl (fun ls hl => ?_)
  refine lv_iload_n hx hb dX10_nextWay_9 rfl (lv_at hl 0 rfl) ?_
  refine lv_if_lt (tgt := 22) hx hb dX10_nextWay_10 (by decide) (fun c2 => ?_) (fun c2 => ?_)
  · replace hf := xif_t hf c2
    refine lv_iconst (v := 0) hx hb dX10_nextWay_22 (by decide) ?_
    exact w_X10_nextWay_23 l E y1 0 M hf _ _ _ h (lv_sub hl [1, 0] rfl)
  · replace hf := xif_f hf c2
    refine lv_aload_n hx hb dX10_nextWay_13 rfl (lv_at hl 1 rfl) ?_
    refine x_get (own := RX10) (ref := "TintDeskModel") (C := RX10) (T := TX10) (n := 20) (index := 33) (v := .ref (Γ.2.1 7)) hx hb hts (fun w h => xU_sub w (inU10 w h)) hown h kR_model rfl 16 (by decide) (hts _ (xU_sub _ q139)) (fun _ h9 => h9) rfl dX10_nextWay_14 ?_
    refine lv_iload_n hx hb dX10_nextWay_17 rfl (lv_at hl 0 rfl) ?_
    obtain ⟨c3, hf⟩ := xck_s hf
    refine x_iald hx hb h kR_adds (xin_in c3) dX10_nextWay_18 ?_
    refine lv_goto (tgt := 23) hx hb dX10_nextWay_19 (by decide) ?_
    exact w_X10_nextWay_23 l E y1 (M.1 7 y1.toNatClampNeg) M hf _ _ _ h (lv_sub hl [1, 0] rfl)
theorem hdX10_finds : yX10_finds.cls = RX10 ∧ yX10_finds.cls ≠ "java/lang/invoke/MethodHandle" ∧ yX10_finds.cls ≠ "java/lang/invoke/VarHandle" ∧ (parseMethodDescriptor yX10_finds.desc).map (fun d => d.parameters.length) = some 2 := by decide +kernel
set_option maxHeartbeats 4000000 in
set_option maxRecDepth 100000 in
theorem w_X10_finds_64 (l : Launch) {p : Program} {e : Env} {s : State} {m : MethodId} {args : Array Value} {below : List Frame} {meth : Method} {c : Code} {Γ : xG} {N : Nat} {res : xR} (E : xEv p s m args meth c RX10 cX10_finds 5 (some .int) (xWs yX10_finds cX10_finds 5 (some .int))) {K_2 : Int32 → Int32 → Int32 → xM → Option xR} (hK_2 : ∀ (v1 : Int32) (v2 : Int32) (v3 : Int32) (M : xM), K_2 v1 v2 v3 M = some res → ∀ (H : Heap) (locs : List Loc) (ls : Array Slot), xH Γ (wR Γ) 10 s M H locs → lv_has ls 5 [(0, .ref (Γ.2.1 0)), (1, .int v1), (2, .int v2), (3, .int v3)] → W p l e ({ frames := 4, cells := 0, slots := 0, locals := 113 } : Room) s m args below meth c H locs 0 0 (MQ below (xCi Γ (wR Γ) 10 res s.heap.size) args s 0 0 (xAd Γ 10 s.heap.size)) (F0 m 2 ls [])) : ∀ (n : Nat) (v1 : Int32) (v2 : Int32) (v3 : Int32) (v4 : Int32) (M : xM), L_X10_finds_64 N K_2 n v1 v2 v3 v4 M = some res → ∀ (H : Heap) (locs : List Loc) (ls : Array Slot), xH Γ (wR Γ) 10 s M H locs → lv_has ls 5 [(0, .ref (Γ.2.1 0)), (1, .int v1), (2, .int v2), (3, .int v3), (4, .int v4)] → W p l e ({ frames := 4, cells := 0, slots := 0, locals := 113 } : Room) s m args below meth c H locs 0 0 (MQ below (xCi Γ (wR Γ) 10 res s.heap.size) args s 0 0 (xAd Γ 10 s.heap.size)) (F0 m 64 ls []) := by
  obtain ⟨⟨hx, hb, hml, hown, hts⟩, hr, hlocks⟩ := id E
  intro n
  induction n with
  | zero => intro v1 v2 v3 v4 M hf; cases hf
  | succ n ih =>
    intro v1 v2 v3 v4 M hf H locs ls h hl
    refine lv_iload hx hb dX10_finds_64 (lv_at hl 4 rfl) ?_
    refine lv_if_eq (tgt := 89) hx hb dX10_finds_66 (by decide) (fun c1 => ?_) (fun c1 => ?_)
    · replace hf := xif_t hf c1
      obtain ⟨y2, ey2, hf⟩ := xl_s hf
      refine lv_iinc (v := y2) (lv' := [(3, .int y2), (0, .ref (Γ.2.1 0)), (1, .int v1), (2, .int v2), (4, .int v4)]) hx hb dX10_finds_89 hl (k := 3) rfl (by rw [ey2]; rfl) (by decide) rfl (fun ls hl => ?_)
      refine lv_goto (tgt := 2) hx hb dX10_finds_92 (by decide) ?_
      exact hK_2 v1 v2 y2 M hf _ _ _ h (lv_sub hl [1, 2, 3, 0] rfl)
    · replace hf := xif_f hf c1
      refine lv_aload_n hx hb dX10_finds_69 rfl (lv_at hl 0 rfl) ?_
      refine lv_iload_n hx hb dX10_finds_70 rfl (lv_at hl 1 rfl) ?_
      refine lv_iload_n hx hb dX10_finds_71 rfl (lv_at hl 2 rfl) ?_
      obtain ⟨r3, er3, hf⟩ := xbd_s hf
      refine x_Vi (As := [.int v1, .int v2]) (rest := []) E.1 (m_X10_reaches l er3) (cwV 2 hts (xgV xU_sub q861 q862 q863 q5 q864) rfl rfl rfl hdX10_reaches ⟨Nat.le_of_ble_eq_true rfl, Nat.le_of_ble_eq_true rfl⟩) h kR_model rfl rfl hl.1 rfl (Nat.le_of_ble_eq_true rfl) dX10_finds_72 ⟨Nat.le_of_ble_eq_true rfl, Nat.le_of_ble_eq_true rfl⟩ (fun H locs h => ?_)
      refine lv_if_eq (tgt := 80) hx hb dX10_finds_75 (by decide) (fun c4 => ?_) (fun c4 => ?_)
      · replace hf := xif_t hf c4
        refine lv_aload_n hx hb dX10_finds_80 rfl (lv_at hl 0 rfl) ?_
        obtain ⟨r5, er5, hf⟩ := xbd_s hf
        refine x_Vi (As := []) (rest := []) E.1 (m_X10_nextWay l er5) (cwV 0 hts (xgV xU_sub q865 q866 q867 q5 q868) rfl rfl rfl hdX10_nextWay ⟨Nat.le_of_ble_eq_true rfl, Nat.le_of_ble_eq_true rfl⟩) h kR_model rfl rfl hl.1 rfl (Nat.le_of_ble_eq_true rfl) dX10_finds_81 ⟨Nat.le_of_ble_eq_true rfl, Nat.le_of_ble_eq_true rfl⟩ (fun H locs h => ?_)
        obtain ⟨y6, ey6, hf⟩ := xl_s hf
        refine x_nm ey6 ?_
        refine lv_istore (lv' := [(4, .int y6), (0, .ref (Γ.2.1 0)), (1, .int v1), (2, .int v2), (3, .int v3)]) hx hb dX10_finds_84 hl (by decide) rfl (fun ls hl => ?_)
        refine lv_goto (tgt := 64) hx hb dX10_finds_86 (by decide) ?_
        exact ih v1 v2 v3 y6 r5.1 hf _ _ _ h (lv_sub hl [1, 2, 3, 4, 0] rfl)
      · replace hf := xif_f hf c4
        refine lv_iload_n hx hb dX10_finds_78 rfl (lv_at hl 3 rfl) ?_
        exact x_iret hx hb h (Option.some.inj hf) hr hlocks dX10_finds_79
set_option maxHeartbeats 4000000 in
set_option maxRecDepth 100000 in
theorem w_X10_finds_33 (l : Launch) {p : Program} {e : Env} {s : State} {m : MethodId} {args : Array Value} {below : List Frame} {meth : Method} {c : Code} {Γ : xG} {N : Nat} {res : xR} (E : xEv p s m args meth c RX10 cX10_finds 5 (some .int) (xWs yX10_finds cX10_finds 5 (some .int))) {K_2 : Int32 → Int32 → Int32 → xM → Option xR} (hK_2 : ∀ (v1 : Int32) (v2 : Int32) (v3 : Int32) (M : xM), K_2 v1 v2 v3 M = some res → ∀ (H : Heap) (locs : List Loc) (ls : Array Slot), xH Γ (wR Γ) 10 s M H locs → lv_has ls 5 [(0, .ref (Γ.2.1 0)), (1, .int v1), (2, .int v2), (3, .int v3)] → W p l e ({ frames := 4, cells := 0, slots := 0, locals := 113 } : Room) s m args below meth c H locs 0 0 (MQ below (xCi Γ (wR Γ) 10 res s.heap.size) args s 0 0 (xAd Γ 10 s.heap.size)) (F0 m 2 ls [])) : ∀ (n : Nat) (v1 : Int32) (v2 : Int32) (v3 : Int32) (v4 : Int32) (M : xM), L_X10_finds_33 N K_2 n v1 v2 v3 v4 M = some res → ∀ (H : Heap) (locs : List Loc) (ls : Array Slot), xH Γ (wR Γ) 10 s M H locs → lv_has ls 5 [(0, .ref (Γ.2.1 0)), (1, .int v1), (2, .int v2), (3, .int v3), (4, .int v4)] → W p l e ({ frames := 4, cells := 0, slots := 0, locals := 113 } : Room) s m args below meth c H locs 0 0 (MQ below (xCi Γ (wR Γ) 10 res s.heap.size) args s 0 0 (xAd Γ 10 s.heap.size)) (F0 m 33 ls []) := by
  obtain ⟨⟨hx, hb, hml, hown, hts⟩, hr, hlocks⟩ := id E
  intro n
  induction n with
  | zero => intro v1 v2 v3 v4 M hf; cases hf
  | succ n ih =>
    intro v1 v2 v3 v4 M hf H locs ls h hl
    refine lv_iload hx hb dX10_finds_33 (lv_at hl 4 rfl) ?_
    refine lv_bipush (v := 8) hx hb dX10_finds_35 (by decide) ?_
    refine lv_icmp_ge (tgt := 54) hx hb dX10_finds_37 (by decide) (fun c1 => ?_) (fun c1 => ?_)
    · replace hf := xif_t hf c1
      refine lv_aload_n hx hb dX10_finds_54 rfl (lv_at hl 0 rfl) ?_
      refine x_get (own := RX10) (ref := "TintDeskModel") (C := RX10) (T := TX10) (n := 20) (index := 33) (v := .ref (Γ.2.1 7)) hx hb hts (fun w h => xU_sub w (inU10 w h)) hown h kR_model rfl 16 (by decide) (hts _ (xU_sub _ q139)) (fun _ h9 => h9) rfl dX10_finds_55 ?_
      refine lv_iconst (v := 0) hx hb dX10_finds_58 (by decide) ?_
      refine lv_iload_n hx hb dX10_finds_59 rfl (lv_at hl 3 rfl) ?_
      obtain ⟨M2, eM2, hf⟩ := xl_s hf
      refine x_iast hx hb h kR_adds (xin_in (by decide)) eM2 dX10_finds_60 (fun H locs h => ?_)
      refine lv_iconst (v := 1) hx hb dX10_finds_61 (by decide) ?_
      refine lv_istore (lv' := [(4, .int 1), (0, .ref (Γ.2.1 0)), (1, .int v1), (2, .int v2), (3, .int v3)]) hx hb dX10_finds_62 hl (by decide) rfl (fun ls hl => ?_)
      exact w_X10_finds_64 l E (hK_2) N v1 v2 v3 1 M2 hf _ _ _ h (lv_sub hl [1, 2, 3, 4, 0] rfl)
    · replace hf := xif_f hf c1
      refine lv_aload_n hx hb dX10_finds_40 rfl (lv_at hl 0 rfl) ?_
      refine x_get (own := RX10) (ref := "TintDeskModel") (C := RX10) (T := TX10) (n := 20) (index := 33) (v := .ref (Γ.2.1 7)) hx hb hts (fun w h => xU_sub w (inU10 w h)) hown h kR_model rfl 16 (by decide) (hts _ (xU_sub _ q139)) (fun _ h9 => h9) rfl dX10_finds_41 ?_
      refine lv_iload hx hb dX10_finds_44 (lv_at hl 4 rfl) ?_
      refine lv_iconst (v := 0) hx hb dX10_finds_46 (by decide) ?_
      obtain ⟨c3, hf⟩ := xck_s hf
      obtain ⟨M4, eM4, hf⟩ := xl_s hf
      refine x_iast hx hb h kR_adds (xin_in c3) eM4 dX10_finds_47 (fun H locs h => ?_)
      obtain ⟨y5, ey5, hf⟩ := xl_s hf
      refine lv_iinc (v := y5) (lv' := [(4, .int y5), (0, .ref (Γ.2.1 0)), (1, .int v1), (2, .int v2), (3, .int v3)]) hx hb dX10_finds_48 hl (k := 4) rfl (by rw [ey5]; rfl) (by decide) rfl (fun ls hl => ?_)
      refine lv_goto (tgt := 33) hx hb dX10_finds_51 (by decide) ?_
      exact ih v1 v2 v3 y5 M4 hf _ _ _ h (lv_sub hl [1, 2, 3, 4, 0] rfl)
set_option maxHeartbeats 4000000 in
set_option maxRecDepth 100000 in
theorem w_X10_finds_30 (l : Launch) {p : Program} {e : Env} {s : State} {m : MethodId} {args : Array Value} {below : List Frame} {meth : Method} {c : Code} {Γ : xG} {N : Nat} {res : xR} (E : xEv p s m args meth c RX10 cX10_finds 5 (some .int) (xWs yX10_finds cX10_finds 5 (some .int))) {K_2 : Int32 → Int32 → Int32 → xM → Option xR} (hK_2 : ∀ (v1 : Int32) (v2 : Int32) (v3 : Int32) (M : xM), K_2 v1 v2 v3 M = some res → ∀ (H : Heap) (locs : List Loc) (ls : Array Slot), xH Γ (wR Γ) 10 s M H locs → lv_has ls 5 [(0, .ref (Γ.2.1 0)), (1, .int v1), (2, .int v2), (3, .int v3)] → W p l e ({ frames := 4, cells := 0, slots := 0, locals := 113 } : Room) s m args below meth c H locs 0 0 (MQ below (xCi Γ (wR Γ) 10 res s.heap.size) args s 0 0 (xAd Γ 10 s.heap.size)) (F0 m 2 ls [])) : ∀ (v1 : Int32) (v2 : Int32) (v3 : Int32) (M : xM), L_X10_finds_30 N K_2 v1 v2 v3 M = some res → ∀ (H : Heap) (locs : List Loc) (ls : Array Slot), xH Γ (wR Γ) 10 s M H locs → lv_has ls 5 [(0, .ref (Γ.2.1 0)), (1, .int v1), (2, .int v2), (3, .int v3)] → W p l e ({ frames := 4, cells := 0, slots := 0, locals := 113 } : Room) s m args below meth c H locs 0 0 (MQ below (xCi Γ (wR Γ) 10 res s.heap.size) args s 0 0 (xAd Γ 10 s.heap.size)) (F0 m 30 ls []) := by
  obtain ⟨⟨hx, hb, hml, hown, hts⟩, hr, hlocks⟩ := id E
  intro v1 v2 v3 M hf H locs ls h hl
  refine lv_iconst (v := 0) hx hb dX10_finds_30 (by decide) ?_
  refine lv_istore (lv' := [(4, .int 0), (0, .ref (Γ.2.1 0)), (1, .int v1), (2, .int v2), (3, .int v3)]) hx hb dX10_finds_31 hl (by decide) rfl (fun ls hl => ?_)
  exact w_X10_finds_33 l E (hK_2) N v1 v2 v3 0 M hf _ _ _ h (lv_sub hl [1, 2, 3, 4, 0] rfl)
set_option maxHeartbeats 4000000 in
set_option maxRecDepth 100000 in
theorem w_X10_finds_2 (l : Launch) {p : Program} {e : Env} {s : State} {m : MethodId} {args : Array Value} {below : List Frame} {meth : Method} {c : Code} {Γ : xG} {N : Nat} {res : xR} (E : xEv p s m args meth c RX10 cX10_finds 5 (some .int) (xWs yX10_finds cX10_finds 5 (some .int))) : ∀ (n : Nat) (v1 : Int32) (v2 : Int32) (v3 : Int32) (M : xM), L_X10_finds_2 N n v1 v2 v3 M = some res → ∀ (H : Heap) (locs : List Loc) (ls : Array Slot), xH Γ (wR Γ) 10 s M H locs → lv_has ls 5 [(0, .ref (Γ.2.1 0)), (1, .int v1), (2, .int v2), (3, .int v3)] → W p l e ({ frames := 4, cells := 0, slots := 0, locals := 113 } : Room) s m args below meth c H locs 0 0 (MQ below (xCi Γ (wR Γ) 10 res s.heap.size) args s 0 0 (xAd Γ 10 s.heap.size)) (F0 m 2 ls []) := by
  obtain ⟨⟨hx, hb, hml, hown, hts⟩, hr, hlocks⟩ := id E
  intro n
  induction n with
  | zero => intro v1 v2 v3 M hf; cases hf
  | succ n ih =>
    intro v1 v2 v3 M hf H locs ls h hl
    refine lv_iload_n hx hb dX10_finds_2 rfl (lv_at hl 3 rfl) ?_
    refine lv_bipush (v := 6) hx hb dX10_finds_3 (by decide) ?_
    refine lv_icmp_gt (tgt := 95) hx hb dX10_finds_5 (by decide) (fun c1 => ?_) (fun c1 => ?_)
    · replace hf := xif_t hf c1
      refine lv_iconst (v := (-1)) hx hb dX10_finds_95 (by decide) ?_
      exact x_iret hx hb h (Option.some.inj hf) hr hlocks dX10_finds_96
    · replace hf := xif_f hf c1
      refine lv_iload_n hx hb dX10_finds_8 rfl (lv_at hl 3 rfl) ?_
      refine lv_aload_n hx hb dX10_finds_9 rfl (lv_at hl 0 rfl) ?_
      refine lv_iload_n hx hb dX10_finds_10 rfl (lv_at hl 1 rfl) ?_
      obtain ⟨r2, er2, hf⟩ := xbd_s hf
      refine x_Vi (As := [.int v1]) (rest := [.int v3]) E.1 (m_X10_roomIn l er2) (cwV 1 hts (xgV xU_sub q778 q779 q780 q5 q781) rfl rfl rfl hdX10_roomIn ⟨Nat.le_of_ble_eq_true rfl, Nat.le_of_ble_eq_true rfl⟩) h kR_model rfl rfl hl.1 rfl (Nat.le_of_ble_eq_true rfl) dX10_finds_11 ⟨Nat.le_of_ble_eq_true rfl, Nat.le_of_ble_eq_true rfl⟩ (fun H locs h => ?_)
      refine lv_icmp_gt (tgt := 95) hx hb dX10_finds_14 (by decide) (fun c3 => ?_) (fun c3 => ?_)
      · replace hf := xif_t hf c3
        refine lv_iconst (v := (-1)) hx hb dX10_finds_95 (by decide) ?_
        exact x_iret hx hb h (Option.some.inj hf) hr hlocks dX10_finds_96
      · replace hf := xif_f hf c3
        refine lv_iload_n hx hb dX10_finds_17 rfl (lv_at hl 3 rfl) ?_
        refine lv_if_eq (tgt := 30) hx hb dX10_finds_18 (by decide) (fun c4 => ?_) (fun c4 => ?_)
        · replace hf := xif_t hf c4
          exact w_X10_finds_30 l E (ih) v1 v2 v3 r2.1 hf _ _ _ h (lv_sub hl [0, 1, 2, 3] rfl)
        · replace hf := xif_f hf c4
          refine lv_aload_n hx hb dX10_finds_21 rfl (lv_at hl 0 rfl) ?_
          refine x_get (own := RX10) (ref := "TintDeskModel") (C := RX10) (T := TX10) (n := 20) (index := 9) (v := .ref (Γ.2.1 1)) hx hb hts (fun w h => xU_sub w (inU10 w h)) hown h kR_model rfl 1 (by decide) (hts _ (xU_sub _ q132)) (fun _ h9 => h9) rfl dX10_finds_22 ?_
          refine lv_iconst (v := 0) hx hb dX10_finds_25 (by decide) ?_
          refine x_iald hx hb h kR_g (xin_in (by decide)) dX10_finds_26 ?_
          refine lv_if_le (tgt := 95) hx hb dX10_finds_27 (by decide) (fun c5 => ?_) (fun c5 => ?_)
          · replace hf := xif_t hf c5
            refine lv_iconst (v := (-1)) hx hb dX10_finds_95 (by decide) ?_
            exact x_iret hx hb h (Option.some.inj hf) hr hlocks dX10_finds_96
          · replace hf := xif_f hf c5
            exact w_X10_finds_30 l E (ih) v1 v2 v3 r2.1 hf _ _ _ h (lv_sub hl [0, 1, 2, 3] rfl)
set_option maxHeartbeats 4000000 in
set_option maxRecDepth 100000 in
theorem m_X10_finds (l : Launch) {Γ : xG} {N : Nat} {v1 : Int32} {v2 : Int32} {M : xM} {res : xR} (hf : F_X10_finds N v1 v2 M = some res) (sz : Nat) : Met l yX10_finds (xWs yX10_finds cX10_finds 5 (some .int)) ({ frames := 4, cells := 0, slots := 0, locals := 113 } : Room) (va_Pc [.ref (Γ.2.1 0), .int v1, .int v2] (xPre Γ (wR Γ) M sz)) (xCi Γ (wR Γ) 10 res sz) 0 0 (xAd Γ 10 sz) := by
  refine x_met (Qc := fun sz => xCi Γ (wR Γ) 10 res sz) pnX10 wG_W (Nat.le_of_ble_eq_true rfl) (fun p e s m args below meth c _ E h ls hl => ?_) sz
  obtain ⟨⟨hx, hb, hml, hown, hts⟩, hr, hlocks⟩ := id E
  have hl : lv_has ls 5 [(0, .ref (Γ.2.1 0)), (1, .int v1), (2, .int v2)] := hl
  refine lv_iconst (v := 0) hx hb dX10_finds_0 (by decide) ?_
  refine lv_istore_n (lv' := [(3, .int 0), (0, .ref (Γ.2.1 0)), (1, .int v1), (2, .int v2)]) hx hb dX10_finds_1 rfl hl (by decide) rfl (fun ls hl => ?_)
  exact w_X10_finds_2 l E N v1 v2 0 M hf _ _ _ h (lv_sub hl [1, 2, 3, 0] rfl)
theorem hdX10_least : yX10_least.cls = RX10 ∧ yX10_least.cls ≠ "java/lang/invoke/MethodHandle" ∧ yX10_least.cls ≠ "java/lang/invoke/VarHandle" ∧ (parseMethodDescriptor yX10_least.desc).map (fun d => d.parameters.length) = some 6 := by decide +kernel
set_option maxHeartbeats 4000000 in
set_option maxRecDepth 100000 in
theorem w_X10_least_29 (l : Launch) {p : Program} {e : Env} {s : State} {m : MethodId} {args : Array Value} {below : List Frame} {meth : Method} {c : Code} {Γ : xG} {N : Nat} {res : xR} (E : xEv p s m args meth c RX10 cX10_least 8 (some .int) (xWs yX10_least cX10_least 8 (some .int))) : ∀ (v1 : Int32) (v2 : Int32) (v3 : Int32) (v4 : Int32) (v5 : Int32) (v6 : Int32) (M : xM), L_X10_least_29 N v1 v2 v3 v4 v5 v6 M = some res → ∀ (H : Heap) (locs : List Loc) (ls : Array Slot), xH Γ (wR Γ) 10 s M H locs → lv_has ls 8 [(0, .ref (Γ.2.1 0)), (1, .int v1), (2, .int v2), (3, .int v3), (4, .int v4), (5, .int v5), (6, .int v6)] → W p l e ({ frames := 5, cells := 0, slots := 0, locals := 137 } : Room) s m args below meth c H locs 0 0 (MQ below (xCi Γ (wR Γ) 10 res s.heap.size) args s 0 0 (xAd Γ 10 s.heap.size)) (F0 m 29 ls []) := by
  obtain ⟨⟨hx, hb, hml, hown, hts⟩, hr, hlocks⟩ := id E
  intro v1 v2 v3 v4 v5 v6 M hf H locs ls h hl
  refine lv_iload hx hb dX10_least_29 (lv_at hl 5 rfl) ?_
  refine lv_iconst (v := 0) hx hb dX10_least_31 (by decide) ?_
  refine lv_bipush (v := 99) hx hb dX10_least_32 (by decide) ?_
  obtain ⟨r1, er1, hf⟩ := xbd_s hf
  refine x_Si (As := [.int v5, .int 0, .int 99]) (rest := []) E.1 (m_X10_in l er1) (cwS 3 hts (xgS xU_sub q205 q206 q5 q207) rfl rfl rfl hdX10_in ⟨Nat.le_of_ble_eq_true rfl, Nat.le_of_ble_eq_true rfl⟩) h rfl hl.1 rfl (Nat.le_of_ble_eq_true rfl) dX10_least_34 ⟨Nat.le_of_ble_eq_true rfl, Nat.le_of_ble_eq_true rfl⟩ (fun H locs h => ?_)
  refine lv_if_ne (tgt := 46) hx hb dX10_least_37 (by decide) (fun c2 => ?_) (fun c2 => ?_)
  · replace hf := xif_f hf c2
    refine lv_aload_n hx hb dX10_least_46 rfl (lv_at hl 0 rfl) ?_
    refine x_get (own := RX10) (ref := "TintDeskModel") (C := RX10) (T := TX10) (n := 20) (index := 36) (v := .ref (Γ.2.1 8)) hx hb hts (fun w h => xU_sub w (inU10 w h)) hown h kR_model rfl 17 (by decide) (hts _ (xU_sub _ q140)) (fun _ h9 => h9) rfl dX10_least_47 ?_
    refine lv_iconst (v := 0) hx hb dX10_least_50 (by decide) ?_
    refine lv_iload_n hx hb dX10_least_51 rfl (lv_at hl 2 rfl) ?_
    obtain ⟨M3, eM3, hf⟩ := xl_s hf
    refine x_iast hx hb h kR_wanted (xin_in (by decide)) eM3 dX10_least_52 (fun H locs h => ?_)
    refine lv_aload_n hx hb dX10_least_53 rfl (lv_at hl 0 rfl) ?_
    refine x_get (own := RX10) (ref := "TintDeskModel") (C := RX10) (T := TX10) (n := 20) (index := 36) (v := .ref (Γ.2.1 8)) hx hb hts (fun w h => xU_sub w (inU10 w h)) hown h kR_model rfl 17 (by decide) (hts _ (xU_sub _ q140)) (fun _ h9 => h9) rfl dX10_least_54 ?_
    refine lv_iconst (v := 1) hx hb dX10_least_57 (by decide) ?_
    refine lv_iload_n hx hb dX10_least_58 rfl (lv_at hl 3 rfl) ?_
    obtain ⟨M4, eM4, hf⟩ := xl_s hf
    refine x_iast hx hb h kR_wanted (xin_in (by decide)) eM4 dX10_least_59 (fun H locs h => ?_)
    refine lv_aload_n hx hb dX10_least_60 rfl (lv_at hl 0 rfl) ?_
    refine x_get (own := RX10) (ref := "TintDeskModel") (C := RX10) (T := TX10) (n := 20) (index := 36) (v := .ref (Γ.2.1 8)) hx hb hts (fun w h => xU_sub w (inU10 w h)) hown h kR_model rfl 17 (by decide) (hts _ (xU_sub _ q140)) (fun _ h9 => h9) rfl dX10_least_61 ?_
    refine lv_iconst (v := 2) hx hb dX10_least_64 (by decide) ?_
    refine lv_iload hx hb dX10_least_65 (lv_at hl 4 rfl) ?_
    obtain ⟨M5, eM5, hf⟩ := xl_s hf
    refine x_iast hx hb h kR_wanted (xin_in (by decide)) eM5 dX10_least_67 (fun H locs h => ?_)
    refine lv_aload_n hx hb dX10_least_68 rfl (lv_at hl 0 rfl) ?_
    refine lv_iload_n hx hb dX10_least_69 rfl (lv_at hl 1 rfl) ?_
    refine lv_iload hx hb dX10_least_70 (lv_at hl 5 rfl) ?_
    obtain ⟨r6, er6, hf⟩ := xbd_s hf
    refine x_Vi (As := [.int v1, .int v5]) (rest := []) E.1 (m_X10_finds l er6) (cwV 2 hts (xgV xU_sub q857 q858 q859 q5 q860) rfl rfl rfl hdX10_finds ⟨Nat.le_of_ble_eq_true rfl, Nat.le_of_ble_eq_true rfl⟩) h kR_model rfl rfl hl.1 rfl (Nat.le_of_ble_eq_true rfl) dX10_least_72 ⟨Nat.le_of_ble_eq_true rfl, Nat.le_of_ble_eq_true rfl⟩ (fun H locs h => ?_)
    obtain ⟨y7, ey7, hf⟩ := xl_s hf
    refine x_nm ey7 ?_
    refine lv_istore (lv' := [(7, .int y7), (0, .ref (Γ.2.1 0)), (1, .int v1), (2, .int v2), (3, .int v3), (4, .int v4), (5, .int v5), (6, .int v6)]) hx hb dX10_least_75 hl (by decide) rfl (fun ls hl => ?_)
    refine lv_iload hx hb dX10_least_77 (lv_at hl 0 rfl) ?_
    refine lv_iconst (v := (-1)) hx hb dX10_least_79 (by decide) ?_
    refine lv_icmp_ne (tgt := 91) hx hb dX10_least_80 (by decide) (fun c8 => ?_) (fun c8 => ?_)
    · replace hf := xif_f hf c8
      refine lv_aload_n hx hb dX10_least_91 rfl (lv_at hl 1 rfl) ?_
      refine lv_iload hx hb dX10_least_92 (lv_at hl 7 rfl) ?_
      refine lv_iconst (v := (-1)) hx hb dX10_least_94 (by decide) ?_
      refine lv_icmp_ne (tgt := 103) hx hb dX10_least_95 (by decide) (fun c9 => ?_) (fun c9 => ?_)
      · replace hf := xif_f hf c9
        refine lv_aload_n hx hb dX10_least_103 rfl (lv_at hl 1 rfl) ?_
        refine x_get (own := RX10) (ref := "TintDeskModel") (C := RX10) (T := TX10) (n := 20) (index := 33) (v := .ref (Γ.2.1 7)) hx hb hts (fun w h => xU_sub w (inU10 w h)) hown h kR_model rfl 16 (by decide) (hts _ (xU_sub _ q139)) (fun _ h9 => h9) rfl dX10_least_104 ?_
        refine lv_iload hx hb dX10_least_107 (lv_at hl 7 rfl) ?_
        obtain ⟨c10, hf⟩ := xck_s hf
        refine x_iald hx hb h kR_adds (xin_in c10) dX10_least_109 ?_
        obtain ⟨r11, er11, hf⟩ := xbd_s hf
        refine x_Vi (As := [.int (r6.1.1 7 v6.toNatClampNeg)]) (rest := []) E.1 (m_X10_done l er11) (cwV 1 hts (xgV xU_sub q221 q222 q223 q5 q224) rfl rfl rfl hdX10_done ⟨Nat.le_of_ble_eq_true rfl, Nat.le_of_ble_eq_true rfl⟩) h kR_model rfl rfl hl.1 rfl (Nat.le_of_ble_eq_true rfl) dX10_least_110 ⟨Nat.le_of_ble_eq_true rfl, Nat.le_of_ble_eq_true rfl⟩ (fun H locs h => ?_)
        exact x_iret hx hb h (Option.some.inj hf) hr hlocks dX10_least_113
      · replace hf := xif_t hf c9
        refine lv_iload hx hb dX10_least_98 (lv_at hl 0 rfl) ?_
        refine lv_goto (tgt := 110) hx hb dX10_least_100 (by decide) ?_
        obtain ⟨r12, er12, hf⟩ := xbd_s hf
        refine x_Vi (As := [.int y7]) (rest := []) E.1 (m_X10_done l er12) (cwV 1 hts (xgV xU_sub q221 q222 q223 q5 q224) rfl rfl rfl hdX10_done ⟨Nat.le_of_ble_eq_true rfl, Nat.le_of_ble_eq_true rfl⟩) h kR_model rfl rfl hl.1 rfl (Nat.le_of_ble_eq_true rfl) dX10_least_110 ⟨Nat.le_of_ble_eq_true rfl, Nat.le_of_ble_eq_true rfl⟩ (fun H locs h => ?_)
        exact x_iret hx hb h (Option.some.inj hf) hr hlocks dX10_least_113
    · replace hf := xif_t hf c8
      refine lv_aload_n hx hb dX10_least_83 rfl (lv_at hl 1 rfl) ?_
      refine lv_iconst (v := 3) hx hb dX10_least_84 (by decide) ?_
      obtain ⟨r13, er13, hf⟩ := xbd_s hf
      refine x_Vi (As := [.int 3]) (rest := []) E.1 (m_X10_fails l er13) (cwV 1 hts (xgV xU_sub q208 q209 q210 q5 q211) rfl rfl rfl hdX10_fails ⟨Nat.le_of_ble_eq_true rfl, Nat.le_of_ble_eq_true rfl⟩) h kR_model rfl rfl hl.1 rfl (Nat.le_of_ble_eq_true rfl) dX10_least_85 ⟨Nat.le_of_ble_eq_true rfl, Nat.le_of_ble_eq_true rfl⟩ (fun H locs h => ?_)
      refine lv_goto (tgt := 113) hx hb dX10_least_88 (by decide) ?_
      exact x_iret hx hb h (Option.some.inj hf) hr hlocks dX10_least_113
  · replace hf := xif_t hf c2
    refine lv_aload_n hx hb dX10_least_40 rfl (lv_at hl 0 rfl) ?_
    refine lv_iconst (v := 2) hx hb dX10_least_41 (by decide) ?_
    obtain ⟨r14, er14, hf⟩ := xbd_s hf
    refine x_Vi (As := [.int 2]) (rest := []) E.1 (m_X10_fails l er14) (cwV 1 hts (xgV xU_sub q208 q209 q210 q5 q211) rfl rfl rfl hdX10_fails ⟨Nat.le_of_ble_eq_true rfl, Nat.le_of_ble_eq_true rfl⟩) h kR_model rfl rfl hl.1 rfl (Nat.le_of_ble_eq_true rfl) dX10_least_42 ⟨Nat.le_of_ble_eq_true rfl, Nat.le_of_ble_eq_true rfl⟩ (fun H locs h => ?_)
    exact x_iret hx hb h (Option.some.inj hf) hr hlocks dX10_least_45
set_option maxHeartbeats 4000000 in
set_option maxRecDepth 100000 in
theorem m_X10_least (l : Launch) {Γ : xG} {N : Nat} {v1 : Int32} {v2 : Int32} {v3 : Int32} {v4 : Int32} {v5 : Int32} {v6 : Int32} {M : xM} {res : xR} (hf : F_X10_least N v1 v2 v3 v4 v5 v6 M = some res) (sz : Nat) : Met l yX10_least (xWs yX10_least cX10_least 8 (some .int)) ({ frames := 5, cells := 0, slots := 0, locals := 137 } : Room) (va_Pc [.ref (Γ.2.1 0), .int v1, .int v2, .int v3, .int v4, .int v5, .int v6] (xPre Γ (wR Γ) M sz)) (xCi Γ (wR Γ) 10 res sz) 0 0 (xAd Γ 10 sz) := by
  refine x_met (Qc := fun sz => xCi Γ (wR Γ) 10 res sz) pnX10 wG_W (Nat.le_of_ble_eq_true rfl) (fun p e s m args below meth c _ E h ls hl => ?_) sz
  obtain ⟨⟨hx, hb, hml, hown, hts⟩, hr, hlocks⟩ := id E
  have hl : lv_has ls 8 [(0, .ref (Γ.2.1 0)), (1, .int v1), (2, .int v2), (3, .int v3), (4, .int v4), (5, .int v5), (6, .int v6)] := hl
  refine lv_aload_n hx hb dX10_least_0 rfl (lv_at hl 0 rfl) ?_
  refine lv_iload_n hx hb dX10_least_1 rfl (lv_at hl 1 rfl) ?_
  obtain ⟨r1, er1, hf⟩ := xbd_s hf
  refine x_Vi (As := [.int v1]) (rest := []) E.1 (m_X10_isCan l er1) (cwV 1 hts (xgV xU_sub q626 q627 q628 q5 q629) rfl rfl rfl hdX10_isCan ⟨Nat.le_of_ble_eq_true rfl, Nat.le_of_ble_eq_true rfl⟩) h kR_model rfl rfl hl.1 rfl (Nat.le_of_ble_eq_true rfl) dX10_least_2 ⟨Nat.le_of_ble_eq_true rfl, Nat.le_of_ble_eq_true rfl⟩ (fun H locs h => ?_)
  refine lv_if_eq (tgt := 23) hx hb dX10_least_5 (by decide) (fun c2 => ?_) (fun c2 => ?_)
  · replace hf := xif_t hf c2
    refine lv_aload_n hx hb dX10_least_23 rfl (lv_at hl 0 rfl) ?_
    refine lv_iconst (v := 1) hx hb dX10_least_24 (by decide) ?_
    obtain ⟨r3, er3, hf⟩ := xbd_s hf
    refine x_Vi (As := [.int 1]) (rest := []) E.1 (m_X10_fails l er3) (cwV 1 hts (xgV xU_sub q208 q209 q210 q5 q211) rfl rfl rfl hdX10_fails ⟨Nat.le_of_ble_eq_true rfl, Nat.le_of_ble_eq_true rfl⟩) h kR_model rfl rfl hl.1 rfl (Nat.le_of_ble_eq_true rfl) dX10_least_25 ⟨Nat.le_of_ble_eq_true rfl, Nat.le_of_ble_eq_true rfl⟩ (fun H locs h => ?_)
    exact x_iret hx hb h (Option.some.inj hf) hr hlocks dX10_least_28
  · replace hf := xif_f hf c2
    refine lv_iload hx hb dX10_least_8 (lv_at hl 6 rfl) ?_
    refine lv_iconst (v := (-1)) hx hb dX10_least_10 (by decide) ?_
    refine lv_icmp_eq (tgt := 29) hx hb dX10_least_11 (by decide) (fun c4 => ?_) (fun c4 => ?_)
    · replace hf := xif_t hf c4
      exact w_X10_least_29 l E v1 v2 v3 v4 v5 v6 r1.1 hf _ _ _ h (lv_sub hl [0, 1, 2, 3, 4, 5, 6] rfl)
    · replace hf := xif_f hf c4
      refine lv_aload_n hx hb dX10_least_14 rfl (lv_at hl 0 rfl) ?_
      refine lv_iload hx hb dX10_least_15 (lv_at hl 6 rfl) ?_
      obtain ⟨r5, er5, hf⟩ := xbd_s hf
      refine x_Vi (As := [.int v6]) (rest := []) E.1 (m_X10_isColorant l er5) (cwV 1 hts (xgV xU_sub q249 q250 q251 q5 q252) rfl rfl rfl hdX10_isColorant ⟨Nat.le_of_ble_eq_true rfl, Nat.le_of_ble_eq_true rfl⟩) h kR_model rfl rfl hl.1 rfl (Nat.le_of_ble_eq_true rfl) dX10_least_17 ⟨Nat.le_of_ble_eq_true rfl, Nat.le_of_ble_eq_true rfl⟩ (fun H locs h => ?_)
      refine lv_if_ne (tgt := 29) hx hb dX10_least_20 (by decide) (fun c6 => ?_) (fun c6 => ?_)
      · replace hf := xif_f hf c6
        exact w_X10_least_29 l E v1 v2 v3 v4 v5 v6 r5.1 hf _ _ _ h (lv_sub hl [0, 1, 2, 3, 4, 5, 6] rfl)
      · replace hf := xif_t hf c6
        refine lv_aload_n hx hb dX10_least_23 rfl (lv_at hl 0 rfl) ?_
        refine lv_iconst (v := 1) hx hb dX10_least_24 (by decide) ?_
        obtain ⟨r7, er7, hf⟩ := xbd_s hf
        refine x_Vi (As := [.int 1]) (rest := []) E.1 (m_X10_fails l er7) (cwV 1 hts (xgV xU_sub q208 q209 q210 q5 q211) rfl rfl rfl hdX10_fails ⟨Nat.le_of_ble_eq_true rfl, Nat.le_of_ble_eq_true rfl⟩) h kR_model rfl rfl hl.1 rfl (Nat.le_of_ble_eq_true rfl) dX10_least_25 ⟨Nat.le_of_ble_eq_true rfl, Nat.le_of_ble_eq_true rfl⟩ (fun H locs h => ?_)
        exact x_iret hx hb h (Option.some.inj hf) hr hlocks dX10_least_28
theorem hdX10_has : yX10_has.cls = RX10 ∧ yX10_has.cls ≠ "java/lang/invoke/MethodHandle" ∧ yX10_has.cls ≠ "java/lang/invoke/VarHandle" ∧ (parseMethodDescriptor yX10_has.desc).map (fun d => d.parameters.length) = some 3 := by decide +kernel
set_option maxHeartbeats 4000000 in
set_option maxRecDepth 100000 in
theorem m_X10_has (l : Launch) {Γ : xG} {N : Nat} {v1 : Int32} {v2 : Int32} {v3 : Int32} {M : xM} {res : xR} (hf : F_X10_has N v1 v2 v3 M = some res) (sz : Nat) : Met l yX10_has (xWs yX10_has cX10_has 4 (some .boolean)) ({ frames := 2, cells := 0, slots := 0, locals := 62 } : Room) (va_Pc [.ref (Γ.2.1 0), .int v1, .int v2, .int v3] (xPre Γ (wR Γ) M sz)) (xCi Γ (wR Γ) 10 res sz) 0 0 (xAd Γ 10 sz) := by
  refine x_met (Qc := fun sz => xCi Γ (wR Γ) 10 res sz) pnX10 wG_W (Nat.le_of_ble_eq_true rfl) (fun p e s m args below meth c _ E h ls hl => ?_) sz
  obtain ⟨⟨hx, hb, hml, hown, hts⟩, hr, hlocks⟩ := id E
  have hl : lv_has ls 4 [(0, .ref (Γ.2.1 0)), (1, .int v1), (2, .int v2), (3, .int v3)] := hl
  refine lv_aload_n hx hb dX10_has_0 rfl (lv_at hl 0 rfl) ?_
  refine lv_iload_n hx hb dX10_has_1 rfl (lv_at hl 1 rfl) ?_
  refine lv_bipush (v := 12) hx hb dX10_has_2 (by decide) ?_
  refine lv_iconst (v := 4) hx hb dX10_has_4 (by decide) ?_
  refine lv_iload_n hx hb dX10_has_5 rfl (lv_at hl 2 rfl) ?_
  refine lv_imul hx hb dX10_has_6 ?_
  refine lv_iadd hx hb dX10_has_7 ?_
  refine lv_iload_n hx hb dX10_has_8 rfl (lv_at hl 3 rfl) ?_
  refine lv_bipush (v := 25) hx hb dX10_has_9 (by decide) ?_
  refine lv_idiv hx hb dX10_has_11 (by decide) ?_
  refine lv_iadd hx hb dX10_has_12 ?_
  obtain ⟨r1, er1, hf⟩ := xbd_s hf
  refine x_Vi (As := [.int v1, .int ((12 + (4 * v2)) + (v3 / 25))]) (rest := []) E.1 (m_X10_canAt l er1) (cwV 2 hts (xgV xU_sub q630 q631 q632 q5 q633) rfl rfl rfl hdX10_canAt ⟨Nat.le_of_ble_eq_true rfl, Nat.le_of_ble_eq_true rfl⟩) h kR_model rfl rfl hl.1 rfl (Nat.le_of_ble_eq_true rfl) dX10_has_13 ⟨Nat.le_of_ble_eq_true rfl, Nat.le_of_ble_eq_true rfl⟩ (fun H locs h => ?_)
  refine lv_iload_n hx hb dX10_has_16 rfl (lv_at hl 3 rfl) ?_
  refine lv_bipush (v := 25) hx hb dX10_has_17 (by decide) ?_
  refine lv_irem hx hb dX10_has_19 (by decide) ?_
  refine lv_ishr hx hb dX10_has_20 ?_
  refine lv_iconst (v := 1) hx hb dX10_has_21 (by decide) ?_
  refine lv_iand hx hb dX10_has_22 ?_
  refine lv_iconst (v := 1) hx hb dX10_has_23 (by decide) ?_
  refine lv_icmp_ne (tgt := 31) hx hb dX10_has_24 (by decide) (fun c2 => ?_) (fun c2 => ?_)
  · replace hf := xif_f hf c2
    refine lv_iconst (v := 0) hx hb dX10_has_31 (by decide) ?_
    exact x_zret hx hb h (Option.some.inj hf) hr hlocks (by decide) dX10_has_32
  · replace hf := xif_t hf c2
    refine lv_iconst (v := 1) hx hb dX10_has_27 (by decide) ?_
    refine lv_goto (tgt := 32) hx hb dX10_has_28 (by decide) ?_
    exact x_zret hx hb h (Option.some.inj hf) hr hlocks (by decide) dX10_has_32
theorem hdX10_hasLot : yX10_hasLot.cls = RX10 ∧ yX10_hasLot.cls ≠ "java/lang/invoke/MethodHandle" ∧ yX10_hasLot.cls ≠ "java/lang/invoke/VarHandle" ∧ (parseMethodDescriptor yX10_hasLot.desc).map (fun d => d.parameters.length) = some 3 := by decide +kernel
set_option maxHeartbeats 4000000 in
set_option maxRecDepth 100000 in
theorem w_X10_hasLot_16 (l : Launch) {p : Program} {e : Env} {s : State} {m : MethodId} {args : Array Value} {below : List Frame} {meth : Method} {c : Code} {Γ : xG} {N : Nat} {res : xR} (E : xEv p s m args meth c RX10 cX10_hasLot 4 (some .boolean) (xWs yX10_hasLot cX10_hasLot 4 (some .boolean))) : ∀ (M : xM), L_X10_hasLot_16 N M = some res → ∀ (H : Heap) (locs : List Loc) (ls : Array Slot), xH Γ (wR Γ) 10 s M H locs → lv_has ls 4 [(0, .ref (Γ.2.1 0))] → W p l e ({ frames := 3, cells := 0, slots := 0, locals := 85 } : Room) s m args below meth c H locs 0 0 (MQ below (xCi Γ (wR Γ) 10 res s.heap.size) args s 0 0 (xAd Γ 10 s.heap.size)) (F0 m 16 ls []) := by
  obtain ⟨⟨hx, hb, hml, hown, hts⟩, hr, hlocks⟩ := id E
  intro M hf H locs ls h hl
  refine lv_aload_n hx hb dX10_hasLot_16 rfl (lv_at hl 0 rfl) ?_
  refine lv_iconst (v := 1) hx hb dX10_hasLot_17 (by decide) ?_
  obtain ⟨r1, er1, hf⟩ := xbd_s hf
  refine x_Vi (As := [.int 1]) (rest := []) E.1 (m_X10_fails l er1) (cwV 1 hts (xgV xU_sub q208 q209 q210 q5 q211) rfl rfl rfl hdX10_fails ⟨Nat.le_of_ble_eq_true rfl, Nat.le_of_ble_eq_true rfl⟩) h kR_model rfl rfl hl.1 rfl (Nat.le_of_ble_eq_true rfl) dX10_hasLot_18 ⟨Nat.le_of_ble_eq_true rfl, Nat.le_of_ble_eq_true rfl⟩ (fun H locs h => ?_)
  refine lv_if_le (tgt := 28) hx hb dX10_hasLot_21 (by decide) (fun c2 => ?_) (fun c2 => ?_)
  · replace hf := xif_t hf c2
    refine lv_iconst (v := 0) hx hb dX10_hasLot_28 (by decide) ?_
    exact x_zret hx hb h (Option.some.inj hf) hr hlocks (by decide) dX10_hasLot_29
  · replace hf := xif_f hf c2
    refine lv_iconst (v := 1) hx hb dX10_hasLot_24 (by decide) ?_
    refine lv_goto (tgt := 29) hx hb dX10_hasLot_25 (by decide) ?_
    exact x_zret hx hb h (Option.some.inj hf) hr hlocks (by decide) dX10_hasLot_29
set_option maxHeartbeats 4000000 in
set_option maxRecDepth 100000 in
theorem m_X10_hasLot (l : Launch) {Γ : xG} {N : Nat} {v1 : Int32} {v2 : Int32} {v3 : Int32} {M : xM} {res : xR} (hf : F_X10_hasLot N v1 v2 v3 M = some res) (sz : Nat) : Met l yX10_hasLot (xWs yX10_hasLot cX10_hasLot 4 (some .boolean)) ({ frames := 3, cells := 0, slots := 0, locals := 85 } : Room) (va_Pc [.ref (Γ.2.1 0), .int v1, .int v2, .int v3] (xPre Γ (wR Γ) M sz)) (xCi Γ (wR Γ) 10 res sz) 0 0 (xAd Γ 10 sz) := by
  refine x_met (Qc := fun sz => xCi Γ (wR Γ) 10 res sz) pnX10 wG_W (Nat.le_of_ble_eq_true rfl) (fun p e s m args below meth c _ E h ls hl => ?_) sz
  obtain ⟨⟨hx, hb, hml, hown, hts⟩, hr, hlocks⟩ := id E
  have hl : lv_has ls 4 [(0, .ref (Γ.2.1 0)), (1, .int v1), (2, .int v2), (3, .int v3)] := hl
  refine lv_aload_n hx hb dX10_hasLot_0 rfl (lv_at hl 0 rfl) ?_
  refine lv_iload_n hx hb dX10_hasLot_1 rfl (lv_at hl 1 rfl) ?_
  obtain ⟨r1, er1, hf⟩ := xbd_s hf
  refine x_Vi (As := [.int v1]) (rest := []) E.1 (m_X10_isCan l er1) (cwV 1 hts (xgV xU_sub q626 q627 q628 q5 q629) rfl rfl rfl hdX10_isCan ⟨Nat.le_of_ble_eq_true rfl, Nat.le_of_ble_eq_true rfl⟩) h kR_model rfl rfl hl.1 rfl (Nat.le_of_ble_eq_true rfl) dX10_hasLot_2 ⟨Nat.le_of_ble_eq_true rfl, Nat.le_of_ble_eq_true rfl⟩ (fun H locs h => ?_)
  refine lv_if_eq (tgt := 16) hx hb dX10_hasLot_5 (by decide) (fun c2 => ?_) (fun c2 => ?_)
  · replace hf := xif_t hf c2
    exact w_X10_hasLot_16 l E r1.1 hf _ _ _ h (lv_sub hl [0] rfl)
  · replace hf := xif_f hf c2
    refine lv_aload_n hx hb dX10_hasLot_8 rfl (lv_at hl 0 rfl) ?_
    refine lv_iload_n hx hb dX10_hasLot_9 rfl (lv_at hl 2 rfl) ?_
    obtain ⟨r3, er3, hf⟩ := xbd_s hf
    refine x_Vi (As := [.int v2]) (rest := []) E.1 (m_X10_isColorant l er3) (cwV 1 hts (xgV xU_sub q249 q250 q251 q5 q252) rfl rfl rfl hdX10_isColorant ⟨Nat.le_of_ble_eq_true rfl, Nat.le_of_ble_eq_true rfl⟩) h kR_model rfl rfl hl.1 rfl (Nat.le_of_ble_eq_true rfl) dX10_hasLot_10 ⟨Nat.le_of_ble_eq_true rfl, Nat.le_of_ble_eq_true rfl⟩ (fun H locs h => ?_)
    refine lv_if_ne (tgt := 30) hx hb dX10_hasLot_13 (by decide) (fun c4 => ?_) (fun c4 => ?_)
    · replace hf := xif_f hf c4
      refine lv_iload_n hx hb dX10_hasLot_30 rfl (lv_at hl 3 rfl) ?_
      obtain ⟨r5, er5, hf⟩ := xbd_s hf
      refine x_Si (As := [.int v3]) (rest := []) E.1 (m_X10_isLot l er5) (cwS 1 hts (xgS xU_sub q285 q286 q5 q287) rfl rfl rfl hdX10_isLot ⟨Nat.le_of_ble_eq_true rfl, Nat.le_of_ble_eq_true rfl⟩) h rfl hl.1 rfl (Nat.le_of_ble_eq_true rfl) dX10_hasLot_31 ⟨Nat.le_of_ble_eq_true rfl, Nat.le_of_ble_eq_true rfl⟩ (fun H locs h => ?_)
      refine lv_if_ne (tgt := 51) hx hb dX10_hasLot_34 (by decide) (fun c6 => ?_) (fun c6 => ?_)
      · replace hf := xif_f hf c6
        refine lv_aload_n hx hb dX10_hasLot_51 rfl (lv_at hl 0 rfl) ?_
        refine lv_iconst (v := 0) hx hb dX10_hasLot_52 (by decide) ?_
        obtain ⟨M7, eM7, hf⟩ := xl_s hf
        refine x_put (own := RX10) (ref := "TintDeskModel") (C := RX10) (T := TX10) (n := 20) (index := 42) (ty := .int) hx hb hts (fun w h => xU_sub w (inU10 w h)) tyX10 tyX10_ok nmX10 hown h kR_model rfl 0 (by decide) (hts _ (xU_sub _ q212)) (fun _ h9 => h9) rfl (by decide +kernel) rfl rfl (Nat.le_of_ble_eq_true rfl) rfl eM7 dX10_hasLot_53 (fun H locs h => ?_)
        refine lv_aload_n hx hb dX10_hasLot_56 rfl (lv_at hl 0 rfl) ?_
        refine lv_iload_n hx hb dX10_hasLot_57 rfl (lv_at hl 1 rfl) ?_
        refine lv_iload_n hx hb dX10_hasLot_58 rfl (lv_at hl 2 rfl) ?_
        refine lv_iload_n hx hb dX10_hasLot_59 rfl (lv_at hl 3 rfl) ?_
        obtain ⟨r8, er8, hf⟩ := xbd_s hf
        refine x_Vi (As := [.int v1, .int v2, .int v3]) (rest := []) E.1 (m_X10_has l er8) (cwV 3 hts (xgV xU_sub q884 q885 q886 q5 q887) rfl rfl rfl hdX10_has ⟨Nat.le_of_ble_eq_true rfl, Nat.le_of_ble_eq_true rfl⟩) h kR_model rfl rfl hl.1 rfl (Nat.le_of_ble_eq_true rfl) dX10_hasLot_60 ⟨Nat.le_of_ble_eq_true rfl, Nat.le_of_ble_eq_true rfl⟩ (fun H locs h => ?_)
        obtain ⟨c9, hf⟩ := xck_s hf
        exact x_zret hx hb h (Option.some.inj hf) hr hlocks (xz_n c9) dX10_hasLot_63
      · replace hf := xif_t hf c6
        refine lv_aload_n hx hb dX10_hasLot_37 rfl (lv_at hl 0 rfl) ?_
        refine lv_iconst (v := 2) hx hb dX10_hasLot_38 (by decide) ?_
        obtain ⟨r10, er10, hf⟩ := xbd_s hf
        refine x_Vi (As := [.int 2]) (rest := []) E.1 (m_X10_fails l er10) (cwV 1 hts (xgV xU_sub q208 q209 q210 q5 q211) rfl rfl rfl hdX10_fails ⟨Nat.le_of_ble_eq_true rfl, Nat.le_of_ble_eq_true rfl⟩) h kR_model rfl rfl hl.1 rfl (Nat.le_of_ble_eq_true rfl) dX10_hasLot_39 ⟨Nat.le_of_ble_eq_true rfl, Nat.le_of_ble_eq_true rfl⟩ (fun H locs h => ?_)
        refine lv_if_le (tgt := 49) hx hb dX10_hasLot_42 (by decide) (fun c11 => ?_) (fun c11 => ?_)
        · replace hf := xif_t hf c11
          refine lv_iconst (v := 0) hx hb dX10_hasLot_49 (by decide) ?_
          exact x_zret hx hb h (Option.some.inj hf) hr hlocks (by decide) dX10_hasLot_50
        · replace hf := xif_f hf c11
          refine lv_iconst (v := 1) hx hb dX10_hasLot_45 (by decide) ?_
          refine lv_goto (tgt := 50) hx hb dX10_hasLot_46 (by decide) ?_
          exact x_zret hx hb h (Option.some.inj hf) hr hlocks (by decide) dX10_hasLot_50
    · replace hf := xif_t hf c4
      exact w_X10_hasLot_16 l E r3.1 hf _ _ _ h (lv_sub hl [0] rfl)
theorem hdX10_canWith : yX10_canWith.cls = RX10 ∧ yX10_canWith.cls ≠ "java/lang/invoke/MethodHandle" ∧ yX10_canWith.cls ≠ "java/lang/invoke/VarHandle" ∧ (parseMethodDescriptor yX10_canWith.desc).map (fun d => d.parameters.length) = some 3 := by decide +kernel
set_option maxHeartbeats 4000000 in
set_option maxRecDepth 100000 in
theorem w_X10_canWith_71 (l : Launch) {p : Program} {e : Env} {s : State} {m : MethodId} {args : Array Value} {below : List Frame} {meth : Method} {c : Code} {Γ : xG} {N : Nat} {res : xR} (E : xEv p s m args meth c RX10 cX10_canWith 6 (some .int) (xWs yX10_canWith cX10_canWith 6 (some .int))) {K_33 : Int32 → Int32 → Int32 → Int32 → Int32 → xM → Option xR} (hK_33 : ∀ (v1 : Int32) (v2 : Int32) (v3 : Int32) (v4 : Int32) (v5 : Int32) (M : xM), K_33 v1 v2 v3 v4 v5 M = some res → ∀ (H : Heap) (locs : List Loc) (ls : Array Slot), xH Γ (wR Γ) 10 s M H locs → lv_has ls 6 [(0, .ref (Γ.2.1 0)), (1, .int v1), (2, .int v2), (3, .int v3), (4, .int v4), (5, .int v5)] → W p l e ({ frames := 3, cells := 0, slots := 0, locals := 85 } : Room) s m args below meth c H locs 0 0 (MQ below (xCi Γ (wR Γ) 10 res s.heap.size) args s 0 0 (xAd Γ 10 s.heap.size)) (F0 m 33 ls [])) : ∀ (v1 : Int32) (v2 : Int32) (v3 : Int32) (v4 : Int32) (v5 : Int32) (M : xM), L_X10_canWith_71 N K_33 v1 v2 v3 v4 v5 M = some res → ∀ (H : Heap) (locs : List Loc) (ls : Array Slot), xH Γ (wR Γ) 10 s M H locs → lv_has ls 6 [(0, .ref (Γ.2.1 0)), (1, .int v1), (2, .int v2), (3, .int v3), (4, .int v4), (5, .int v5)] → W p l e ({ frames := 3, cells := 0, slots := 0, locals := 85 } : Room) s m args below meth c H locs 0 0 (MQ below (xCi Γ (wR Γ) 10 res s.heap.size) args s 0 0 (xAd Γ 10 s.heap.size)) (F0 m 71 ls []) := by
  obtain ⟨⟨hx, hb, hml, hown, hts⟩, hr, hlocks⟩ := id E
  intro v1 v2 v3 v4 v5 M hf H locs ls h hl
  obtain ⟨y1, ey1, hf⟩ := xl_s hf
  refine lv_iinc (v := y1) (lv' := [(5, .int y1), (0, .ref (Γ.2.1 0)), (1, .int v1), (2, .int v2), (3, .int v3), (4, .int v4)]) hx hb dX10_canWith_71 hl (k := 5) rfl (by rw [ey1]; rfl) (by decide) rfl (fun ls hl => ?_)
  refine lv_goto (tgt := 33) hx hb dX10_canWith_74 (by decide) ?_
  exact hK_33 v1 v2 v3 v4 y1 M hf _ _ _ h (lv_sub hl [1, 2, 3, 4, 5, 0] rfl)
set_option maxHeartbeats 4000000 in
set_option maxRecDepth 100000 in
theorem w_X10_canWith_33 (l : Launch) {p : Program} {e : Env} {s : State} {m : MethodId} {args : Array Value} {below : List Frame} {meth : Method} {c : Code} {Γ : xG} {N : Nat} {res : xR} (E : xEv p s m args meth c RX10 cX10_canWith 6 (some .int) (xWs yX10_canWith cX10_canWith 6 (some .int))) : ∀ (n : Nat) (v1 : Int32) (v2 : Int32) (v3 : Int32) (v4 : Int32) (v5 : Int32) (M : xM), L_X10_canWith_33 N n v1 v2 v3 v4 v5 M = some res → ∀ (H : Heap) (locs : List Loc) (ls : Array Slot), xH Γ (wR Γ) 10 s M H locs → lv_has ls 6 [(0, .ref (Γ.2.1 0)), (1, .int v1), (2, .int v2), (3, .int v3), (4, .int v4), (5, .int v5)] → W p l e ({ frames := 3, cells := 0, slots := 0, locals := 85 } : Room) s m args below meth c H locs 0 0 (MQ below (xCi Γ (wR Γ) 10 res s.heap.size) args s 0 0 (xAd Γ 10 s.heap.size)) (F0 m 33 ls []) := by
  obtain ⟨⟨hx, hb, hml, hown, hts⟩, hr, hlocks⟩ := id E
  intro n
  induction n with
  | zero => intro v1 v2 v3 v4 v5 M hf; cases hf
  | succ n ih =>
    intro v1 v2 v3 v4 v5 M hf H locs ls h hl
    refine lv_iload hx hb dX10_canWith_33 (lv_at hl 5 rfl) ?_
    refine lv_aload_n hx hb dX10_canWith_35 rfl (lv_at hl 0 rfl) ?_
    refine x_get (own := RX10) (ref := "TintDeskModel") (C := RX10) (T := TX10) (n := 20) (index := 9) (v := .ref (Γ.2.1 1)) hx hb hts (fun w h => xU_sub w (inU10 w h)) hown h kR_model rfl 1 (by decide) (hts _ (xU_sub _ q132)) (fun _ h9 => h9) rfl dX10_canWith_36 ?_
    refine lv_iconst (v := 3) hx hb dX10_canWith_39 (by decide) ?_
    refine x_iald hx hb h kR_g (xin_in (by decide)) dX10_canWith_40 ?_
    refine lv_icmp_ge (tgt := 77) hx hb dX10_canWith_41 (by decide) (fun c1 => ?_) (fun c1 => ?_)
    · replace hf := xif_t hf c1
      refine lv_aload_n hx hb dX10_canWith_77 rfl (lv_at hl 0 rfl) ?_
      refine lv_iconst (v := 3) hx hb dX10_canWith_78 (by decide) ?_
      obtain ⟨r2, er2, hf⟩ := xbd_s hf
      refine x_Vi (As := [.int 3]) (rest := []) E.1 (m_X10_fails l er2) (cwV 1 hts (xgV xU_sub q208 q209 q210 q5 q211) rfl rfl rfl hdX10_fails ⟨Nat.le_of_ble_eq_true rfl, Nat.le_of_ble_eq_true rfl⟩) h kR_model rfl rfl hl.1 rfl (Nat.le_of_ble_eq_true rfl) dX10_canWith_79 ⟨Nat.le_of_ble_eq_true rfl, Nat.le_of_ble_eq_true rfl⟩ (fun H locs h => ?_)
      exact x_iret hx hb h (Option.some.inj hf) hr hlocks dX10_canWith_82
    · replace hf := xif_f hf c1
      refine lv_aload_n hx hb dX10_canWith_44 rfl (lv_at hl 0 rfl) ?_
      refine lv_iload hx hb dX10_canWith_45 (lv_at hl 5 rfl) ?_
      refine lv_iload_n hx hb dX10_canWith_47 rfl (lv_at hl 1 rfl) ?_
      refine lv_iload_n hx hb dX10_canWith_48 rfl (lv_at hl 2 rfl) ?_
      obtain ⟨r3, er3, hf⟩ := xbd_s hf
      refine x_Vi (As := [.int v5, .int v1, .int v2]) (rest := []) E.1 (m_X10_has l er3) (cwV 3 hts (xgV xU_sub q884 q885 q886 q5 q887) rfl rfl rfl hdX10_has ⟨Nat.le_of_ble_eq_true rfl, Nat.le_of_ble_eq_true rfl⟩) h kR_model rfl rfl hl.1 rfl (Nat.le_of_ble_eq_true rfl) dX10_canWith_49 ⟨Nat.le_of_ble_eq_true rfl, Nat.le_of_ble_eq_true rfl⟩ (fun H locs h => ?_)
      refine lv_if_eq (tgt := 71) hx hb dX10_canWith_52 (by decide) (fun c4 => ?_) (fun c4 => ?_)
      · replace hf := xif_t hf c4
        exact w_X10_canWith_71 l E (ih) v1 v2 v3 v4 v5 r3.1 hf _ _ _ h (lv_sub hl [0, 1, 2, 3, 4, 5] rfl)
      · replace hf := xif_f hf c4
        refine lv_iload hx hb dX10_canWith_55 (lv_at hl 4 rfl) ?_
        refine lv_iload_n hx hb dX10_canWith_57 rfl (lv_at hl 3 rfl) ?_
        refine lv_icmp_ne (tgt := 68) hx hb dX10_canWith_58 (by decide) (fun c5 => ?_) (fun c5 => ?_)
        · replace hf := xif_f hf c5
          obtain ⟨y6, ey6, hf⟩ := xl_s hf
          refine lv_iinc (v := y6) (lv' := [(4, .int y6), (0, .ref (Γ.2.1 0)), (1, .int v1), (2, .int v2), (3, .int v3), (5, .int v5)]) hx hb dX10_canWith_68 hl (k := 4) rfl (by rw [ey6]; rfl) (by decide) rfl (fun ls hl => ?_)
          exact w_X10_canWith_71 l E (ih) v1 v2 v3 y6 v5 r3.1 hf _ _ _ h (lv_sub hl [1, 2, 3, 4, 0, 5] rfl)
        · replace hf := xif_t hf c5
          refine lv_aload_n hx hb dX10_canWith_61 rfl (lv_at hl 0 rfl) ?_
          refine lv_iload hx hb dX10_canWith_62 (lv_at hl 5 rfl) ?_
          obtain ⟨r7, er7, hf⟩ := xbd_s hf
          refine x_Vi (As := [.int v5]) (rest := []) E.1 (m_X10_done l er7) (cwV 1 hts (xgV xU_sub q221 q222 q223 q5 q224) rfl rfl rfl hdX10_done ⟨Nat.le_of_ble_eq_true rfl, Nat.le_of_ble_eq_true rfl⟩) h kR_model rfl rfl hl.1 rfl (Nat.le_of_ble_eq_true rfl) dX10_canWith_64 ⟨Nat.le_of_ble_eq_true rfl, Nat.le_of_ble_eq_true rfl⟩ (fun H locs h => ?_)
          exact x_iret hx hb h (Option.some.inj hf) hr hlocks dX10_canWith_67
set_option maxHeartbeats 4000000 in
set_option maxRecDepth 100000 in
theorem m_X10_canWith (l : Launch) {Γ : xG} {N : Nat} {v1 : Int32} {v2 : Int32} {v3 : Int32} {M : xM} {res : xR} (hf : F_X10_canWith N v1 v2 v3 M = some res) (sz : Nat) : Met l yX10_canWith (xWs yX10_canWith cX10_canWith 6 (some .int)) ({ frames := 3, cells := 0, slots := 0, locals := 85 } : Room) (va_Pc [.ref (Γ.2.1 0), .int v1, .int v2, .int v3] (xPre Γ (wR Γ) M sz)) (xCi Γ (wR Γ) 10 res sz) 0 0 (xAd Γ 10 sz) := by
  refine x_met (Qc := fun sz => xCi Γ (wR Γ) 10 res sz) pnX10 wG_W (Nat.le_of_ble_eq_true rfl) (fun p e s m args below meth c _ E h ls hl => ?_) sz
  obtain ⟨⟨hx, hb, hml, hown, hts⟩, hr, hlocks⟩ := id E
  have hl : lv_has ls 6 [(0, .ref (Γ.2.1 0)), (1, .int v1), (2, .int v2), (3, .int v3)] := hl
  refine lv_aload_n hx hb dX10_canWith_0 rfl (lv_at hl 0 rfl) ?_
  refine lv_iload_n hx hb dX10_canWith_1 rfl (lv_at hl 1 rfl) ?_
  obtain ⟨r1, er1, hf⟩ := xbd_s hf
  refine x_Vi (As := [.int v1]) (rest := []) E.1 (m_X10_isColorant l er1) (cwV 1 hts (xgV xU_sub q249 q250 q251 q5 q252) rfl rfl rfl hdX10_isColorant ⟨Nat.le_of_ble_eq_true rfl, Nat.le_of_ble_eq_true rfl⟩) h kR_model rfl rfl hl.1 rfl (Nat.le_of_ble_eq_true rfl) dX10_canWith_2 ⟨Nat.le_of_ble_eq_true rfl, Nat.le_of_ble_eq_true rfl⟩ (fun H locs h => ?_)
  refine lv_if_ne (tgt := 14) hx hb dX10_canWith_5 (by decide) (fun c2 => ?_) (fun c2 => ?_)
  · replace hf := xif_f hf c2
    refine lv_iload_n hx hb dX10_canWith_14 rfl (lv_at hl 2 rfl) ?_
    obtain ⟨r3, er3, hf⟩ := xbd_s hf
    refine x_Si (As := [.int v2]) (rest := []) E.1 (m_X10_isLot l er3) (cwS 1 hts (xgS xU_sub q285 q286 q5 q287) rfl rfl rfl hdX10_isLot ⟨Nat.le_of_ble_eq_true rfl, Nat.le_of_ble_eq_true rfl⟩) h rfl hl.1 rfl (Nat.le_of_ble_eq_true rfl) dX10_canWith_15 ⟨Nat.le_of_ble_eq_true rfl, Nat.le_of_ble_eq_true rfl⟩ (fun H locs h => ?_)
    refine lv_if_ne (tgt := 27) hx hb dX10_canWith_18 (by decide) (fun c4 => ?_) (fun c4 => ?_)
    · replace hf := xif_f hf c4
      refine lv_iconst (v := 0) hx hb dX10_canWith_27 (by decide) ?_
      refine lv_istore (lv' := [(4, .int 0), (0, .ref (Γ.2.1 0)), (1, .int v1), (2, .int v2), (3, .int v3)]) hx hb dX10_canWith_28 hl (by decide) rfl (fun ls hl => ?_)
      refine lv_iconst (v := 0) hx hb dX10_canWith_30 (by decide) ?_
      refine lv_istore (lv' := [(5, .int 0), (4, .int 0), (0, .ref (Γ.2.1 0)), (1, .int v1), (2, .int v2), (3, .int v3)]) hx hb dX10_canWith_31 hl (by decide) rfl (fun ls hl => ?_)
      exact w_X10_canWith_33 l E N v1 v2 v3 0 0 r3.1 hf _ _ _ h (lv_sub hl [2, 3, 4, 5, 1, 0] rfl)
    · replace hf := xif_t hf c4
      refine lv_aload_n hx hb dX10_canWith_21 rfl (lv_at hl 0 rfl) ?_
      refine lv_iconst (v := 2) hx hb dX10_canWith_22 (by decide) ?_
      obtain ⟨r5, er5, hf⟩ := xbd_s hf
      refine x_Vi (As := [.int 2]) (rest := []) E.1 (m_X10_fails l er5) (cwV 1 hts (xgV xU_sub q208 q209 q210 q5 q211) rfl rfl rfl hdX10_fails ⟨Nat.le_of_ble_eq_true rfl, Nat.le_of_ble_eq_true rfl⟩) h kR_model rfl rfl hl.1 rfl (Nat.le_of_ble_eq_true rfl) dX10_canWith_23 ⟨Nat.le_of_ble_eq_true rfl, Nat.le_of_ble_eq_true rfl⟩ (fun H locs h => ?_)
      exact x_iret hx hb h (Option.some.inj hf) hr hlocks dX10_canWith_26
  · replace hf := xif_t hf c2
    refine lv_aload_n hx hb dX10_canWith_8 rfl (lv_at hl 0 rfl) ?_
    refine lv_iconst (v := 1) hx hb dX10_canWith_9 (by decide) ?_
    obtain ⟨r6, er6, hf⟩ := xbd_s hf
    refine x_Vi (As := [.int 1]) (rest := []) E.1 (m_X10_fails l er6) (cwV 1 hts (xgV xU_sub q208 q209 q210 q5 q211) rfl rfl rfl hdX10_fails ⟨Nat.le_of_ble_eq_true rfl, Nat.le_of_ble_eq_true rfl⟩) h kR_model rfl rfl hl.1 rfl (Nat.le_of_ble_eq_true rfl) dX10_canWith_10 ⟨Nat.le_of_ble_eq_true rfl, Nat.le_of_ble_eq_true rfl⟩ (fun H locs h => ?_)
    exact x_iret hx hb h (Option.some.inj hf) hr hlocks dX10_canWith_13
theorem hdX10_formulasWith : yX10_formulasWith.cls = RX10 ∧ yX10_formulasWith.cls ≠ "java/lang/invoke/MethodHandle" ∧ yX10_formulasWith.cls ≠ "java/lang/invoke/VarHandle" ∧ (parseMethodDescriptor yX10_formulasWith.desc).map (fun d => d.parameters.length) = some 2 := by decide +kernel
set_option maxHeartbeats 4000000 in
set_option maxRecDepth 100000 in
theorem w_X10_formulasWith_68 (l : Launch) {p : Program} {e : Env} {s : State} {m : MethodId} {args : Array Value} {below : List Frame} {meth : Method} {c : Code} {Γ : xG} {N : Nat} {res : xR} (E : xEv p s m args meth c RX10 cX10_formulasWith 5 (some .int) (xWs yX10_formulasWith cX10_formulasWith 5 (some .int))) {K_32 : Int32 → Int32 → Int32 → Int32 → xM → Option xR} (hK_32 : ∀ (v1 : Int32) (v2 : Int32) (v3 : Int32) (v4 : Int32) (M : xM), K_32 v1 v2 v3 v4 M = some res → ∀ (H : Heap) (locs : List Loc) (ls : Array Slot), xH Γ (wR Γ) 10 s M H locs → lv_has ls 5 [(0, .ref (Γ.2.1 0)), (1, .int v1), (2, .int v2), (3, .int v3), (4, .int v4)] → W p l e ({ frames := 3, cells := 0, slots := 0, locals := 85 } : Room) s m args below meth c H locs 0 0 (MQ below (xCi Γ (wR Γ) 10 res s.heap.size) args s 0 0 (xAd Γ 10 s.heap.size)) (F0 m 32 ls [])) : ∀ (v1 : Int32) (v2 : Int32) (v4 : Int32) (t0 : Int32) (t1 : Int32) (M : xM), L_X10_formulasWith_68 N K_32 v1 v2 v4 t0 t1 M = some res → ∀ (H : Heap) (locs : List Loc) (ls : Array Slot), xH Γ (wR Γ) 10 s M H locs → lv_has ls 5 [(0, .ref (Γ.2.1 0)), (1, .int v1), (2, .int v2), (4, .int v4)] → W p l e ({ frames := 3, cells := 0, slots := 0, locals := 85 } : Room) s m args below meth c H locs 0 0 (MQ below (xCi Γ (wR Γ) 10 res s.heap.size) args s 0 0 (xAd Γ 10 s.heap.size)) (F0 m 68 ls [.int t0, .int t1]) := by
  obtain ⟨⟨hx, hb, hml, hown, hts⟩, hr, hlocks⟩ := id E
  intro v1 v2 v4 t0 t1 M hf H locs ls h hl
  refine lv_ior hx hb dX10_formulasWith_68 ?_
  obtain ⟨y1, ey1, hf⟩ := xl_s hf
  refine x_nm ey1 ?_
  refine lv_istore_n (lv' := [(3, .int y1), (0, .ref (Γ.2.1 0)), (1, .int v1), (2, .int v2), (4, .int v4)]) hx hb dX10_formulasWith_69 rfl hl (by decide) rfl (fun ls hl => ?_)
  obtain ⟨y2, ey2, hf⟩ := xl_s hf
  refine lv_iinc (v := y2) (lv' := [(4, .int y2), (3, .int y1), (0, .ref (Γ.2.1 0)), (1, .int v1), (2, .int v2)]) hx hb dX10_formulasWith_70 hl (k := 4) rfl (by rw [ey2]; rfl) (by decide) rfl (fun ls hl => ?_)
  refine lv_goto (tgt := 32) hx hb dX10_formulasWith_73 (by decide) ?_
  exact hK_32 v1 v2 y1 y2 M hf _ _ _ h (lv_sub hl [2, 3, 4, 1, 0] rfl)
set_option maxHeartbeats 4000000 in
set_option maxRecDepth 100000 in
theorem w_X10_formulasWith_32 (l : Launch) {p : Program} {e : Env} {s : State} {m : MethodId} {args : Array Value} {below : List Frame} {meth : Method} {c : Code} {Γ : xG} {N : Nat} {res : xR} (E : xEv p s m args meth c RX10 cX10_formulasWith 5 (some .int) (xWs yX10_formulasWith cX10_formulasWith 5 (some .int))) : ∀ (n : Nat) (v1 : Int32) (v2 : Int32) (v3 : Int32) (v4 : Int32) (M : xM), L_X10_formulasWith_32 N n v1 v2 v3 v4 M = some res → ∀ (H : Heap) (locs : List Loc) (ls : Array Slot), xH Γ (wR Γ) 10 s M H locs → lv_has ls 5 [(0, .ref (Γ.2.1 0)), (1, .int v1), (2, .int v2), (3, .int v3), (4, .int v4)] → W p l e ({ frames := 3, cells := 0, slots := 0, locals := 85 } : Room) s m args below meth c H locs 0 0 (MQ below (xCi Γ (wR Γ) 10 res s.heap.size) args s 0 0 (xAd Γ 10 s.heap.size)) (F0 m 32 ls []) := by
  obtain ⟨⟨hx, hb, hml, hown, hts⟩, hr, hlocks⟩ := id E
  intro n
  induction n with
  | zero => intro v1 v2 v3 v4 M hf; cases hf
  | succ n ih =>
    intro v1 v2 v3 v4 M hf H locs ls h hl
    refine lv_iload hx hb dX10_formulasWith_32 (lv_at hl 4 rfl) ?_
    refine lv_aload_n hx hb dX10_formulasWith_34 rfl (lv_at hl 0 rfl) ?_
    refine x_get (own := RX10) (ref := "TintDeskModel") (C := RX10) (T := TX10) (n := 20) (index := 9) (v := .ref (Γ.2.1 1)) hx hb hts (fun w h => xU_sub w (inU10 w h)) hown h kR_model rfl 1 (by decide) (hts _ (xU_sub _ q132)) (fun _ h9 => h9) rfl dX10_formulasWith_35 ?_
    refine lv_iconst (v := 3) hx hb dX10_formulasWith_38 (by decide) ?_
    refine x_iald hx hb h kR_g (xin_in (by decide)) dX10_formulasWith_39 ?_
    refine lv_icmp_ge (tgt := 76) hx hb dX10_formulasWith_40 (by decide) (fun c1 => ?_) (fun c1 => ?_)
    · replace hf := xif_t hf c1
      refine lv_aload_n hx hb dX10_formulasWith_76 rfl (lv_at hl 0 rfl) ?_
      refine lv_iload_n hx hb dX10_formulasWith_77 rfl (lv_at hl 3 rfl) ?_
      obtain ⟨r2, er2, hf⟩ := xbd_s hf
      refine x_Vi (As := [.int v3]) (rest := []) E.1 (m_X10_done l er2) (cwV 1 hts (xgV xU_sub q221 q222 q223 q5 q224) rfl rfl rfl hdX10_done ⟨Nat.le_of_ble_eq_true rfl, Nat.le_of_ble_eq_true rfl⟩) h kR_model rfl rfl hl.1 rfl (Nat.le_of_ble_eq_true rfl) dX10_formulasWith_78 ⟨Nat.le_of_ble_eq_true rfl, Nat.le_of_ble_eq_true rfl⟩ (fun H locs h => ?_)
      exact x_iret hx hb h (Option.some.inj hf) hr hlocks dX10_formulasWith_81
    · replace hf := xif_f hf c1
      refine lv_iload_n hx hb dX10_formulasWith_43 rfl (lv_at hl 3 rfl) ?_
      refine lv_aload_n hx hb dX10_formulasWith_44 rfl (lv_at hl 0 rfl) ?_
      refine lv_iload hx hb dX10_formulasWith_45 (lv_at hl 4 rfl) ?_
      refine lv_iload_n hx hb dX10_formulasWith_47 rfl (lv_at hl 1 rfl) ?_
      refine lv_iload_n hx hb dX10_formulasWith_48 rfl (lv_at hl 2 rfl) ?_
      obtain ⟨r3, er3, hf⟩ := xbd_s hf
      refine x_Vi (As := [.int v4, .int v1, .int v2]) (rest := [.int v3]) E.1 (m_X10_has l er3) (cwV 3 hts (xgV xU_sub q884 q885 q886 q5 q887) rfl rfl rfl hdX10_has ⟨Nat.le_of_ble_eq_true rfl, Nat.le_of_ble_eq_true rfl⟩) h kR_model rfl rfl hl.1 rfl (Nat.le_of_ble_eq_true rfl) dX10_formulasWith_49 ⟨Nat.le_of_ble_eq_true rfl, Nat.le_of_ble_eq_true rfl⟩ (fun H locs h => ?_)
      refine lv_if_eq (tgt := 67) hx hb dX10_formulasWith_52 (by decide) (fun c4 => ?_) (fun c4 => ?_)
      · replace hf := xif_t hf c4
        refine lv_iconst (v := 0) hx hb dX10_formulasWith_67 (by decide) ?_
        exact w_X10_formulasWith_68 l E (ih) v1 v2 v4 0 v3 r3.1 hf _ _ _ h (lv_sub hl [0, 1, 2, 4] rfl)
      · replace hf := xif_f hf c4
        refine lv_iconst (v := 1) hx hb dX10_formulasWith_55 (by decide) ?_
        refine lv_aload_n hx hb dX10_formulasWith_56 rfl (lv_at hl 0 rfl) ?_
        refine lv_iload hx hb dX10_formulasWith_57 (lv_at hl 4 rfl) ?_
        refine lv_iconst (v := 0) hx hb dX10_formulasWith_59 (by decide) ?_
        obtain ⟨r5, er5, hf⟩ := xbd_s hf
        refine x_Vi (As := [.int v4, .int 0]) (rest := [.int 1, .int v3]) E.1 (m_X10_canAt l er5) (cwV 2 hts (xgV xU_sub q630 q631 q632 q5 q633) rfl rfl rfl hdX10_canAt ⟨Nat.le_of_ble_eq_true rfl, Nat.le_of_ble_eq_true rfl⟩) h kR_model rfl rfl hl.1 rfl (Nat.le_of_ble_eq_true rfl) dX10_formulasWith_60 ⟨Nat.le_of_ble_eq_true rfl, Nat.le_of_ble_eq_true rfl⟩ (fun H locs h => ?_)
        refine lv_ishl hx hb dX10_formulasWith_63 ?_
        refine lv_goto (tgt := 68) hx hb dX10_formulasWith_64 (by decide) ?_
        exact w_X10_formulasWith_68 l E (ih) v1 v2 v4 ((1 : Int32) <<< (r5.2 &&& 31)) v3 r5.1 hf _ _ _ h (lv_sub hl [0, 1, 2, 4] rfl)
set_option maxHeartbeats 4000000 in
set_option maxRecDepth 100000 in
theorem m_X10_formulasWith (l : Launch) {Γ : xG} {N : Nat} {v1 : Int32} {v2 : Int32} {M : xM} {res : xR} (hf : F_X10_formulasWith N v1 v2 M = some res) (sz : Nat) : Met l yX10_formulasWith (xWs yX10_formulasWith cX10_formulasWith 5 (some .int)) ({ frames := 3, cells := 0, slots := 0, locals := 85 } : Room) (va_Pc [.ref (Γ.2.1 0), .int v1, .int v2] (xPre Γ (wR Γ) M sz)) (xCi Γ (wR Γ) 10 res sz) 0 0 (xAd Γ 10 sz) := by
  refine x_met (Qc := fun sz => xCi Γ (wR Γ) 10 res sz) pnX10 wG_W (Nat.le_of_ble_eq_true rfl) (fun p e s m args below meth c _ E h ls hl => ?_) sz
  obtain ⟨⟨hx, hb, hml, hown, hts⟩, hr, hlocks⟩ := id E
  have hl : lv_has ls 5 [(0, .ref (Γ.2.1 0)), (1, .int v1), (2, .int v2)] := hl
  refine lv_aload_n hx hb dX10_formulasWith_0 rfl (lv_at hl 0 rfl) ?_
  refine lv_iload_n hx hb dX10_formulasWith_1 rfl (lv_at hl 1 rfl) ?_
  obtain ⟨r1, er1, hf⟩ := xbd_s hf
  refine x_Vi (As := [.int v1]) (rest := []) E.1 (m_X10_isColorant l er1) (cwV 1 hts (xgV xU_sub q249 q250 q251 q5 q252) rfl rfl rfl hdX10_isColorant ⟨Nat.le_of_ble_eq_true rfl, Nat.le_of_ble_eq_true rfl⟩) h kR_model rfl rfl hl.1 rfl (Nat.le_of_ble_eq_true rfl) dX10_formulasWith_2 ⟨Nat.le_of_ble_eq_true rfl, Nat.le_of_ble_eq_true rfl⟩ (fun H locs h => ?_)
  refine lv_if_ne (tgt := 14) hx hb dX10_formulasWith_5 (by decide) (fun c2 => ?_) (fun c2 => ?_)
  · replace hf := xif_f hf c2
    refine lv_iload_n hx hb dX10_formulasWith_14 rfl (lv_at hl 2 rfl) ?_
    obtain ⟨r3, er3, hf⟩ := xbd_s hf
    refine x_Si (As := [.int v2]) (rest := []) E.1 (m_X10_isLot l er3) (cwS 1 hts (xgS xU_sub q285 q286 q5 q287) rfl rfl rfl hdX10_isLot ⟨Nat.le_of_ble_eq_true rfl, Nat.le_of_ble_eq_true rfl⟩) h rfl hl.1 rfl (Nat.le_of_ble_eq_true rfl) dX10_formulasWith_15 ⟨Nat.le_of_ble_eq_true rfl, Nat.le_of_ble_eq_true rfl⟩ (fun H locs h => ?_)
    refine lv_if_ne (tgt := 27) hx hb dX10_formulasWith_18 (by decide) (fun c4 => ?_) (fun c4 => ?_)
    · replace hf := xif_f hf c4
      refine lv_iconst (v := 0) hx hb dX10_formulasWith_27 (by decide) ?_
      refine lv_istore_n (lv' := [(3, .int 0), (0, .ref (Γ.2.1 0)), (1, .int v1), (2, .int v2)]) hx hb dX10_formulasWith_28 rfl hl (by decide) rfl (fun ls hl => ?_)
      refine lv_iconst (v := 0) hx hb dX10_formulasWith_29 (by decide) ?_
      refine lv_istore (lv' := [(4, .int 0), (3, .int 0), (0, .ref (Γ.2.1 0)), (1, .int v1), (2, .int v2)]) hx hb dX10_formulasWith_30 hl (by decide) rfl (fun ls hl => ?_)
      exact w_X10_formulasWith_32 l E N v1 v2 0 0 r3.1 hf _ _ _ h (lv_sub hl [2, 3, 4, 1, 0] rfl)
    · replace hf := xif_t hf c4
      refine lv_aload_n hx hb dX10_formulasWith_21 rfl (lv_at hl 0 rfl) ?_
      refine lv_iconst (v := 2) hx hb dX10_formulasWith_22 (by decide) ?_
      obtain ⟨r5, er5, hf⟩ := xbd_s hf
      refine x_Vi (As := [.int 2]) (rest := []) E.1 (m_X10_fails l er5) (cwV 1 hts (xgV xU_sub q208 q209 q210 q5 q211) rfl rfl rfl hdX10_fails ⟨Nat.le_of_ble_eq_true rfl, Nat.le_of_ble_eq_true rfl⟩) h kR_model rfl rfl hl.1 rfl (Nat.le_of_ble_eq_true rfl) dX10_formulasWith_23 ⟨Nat.le_of_ble_eq_true rfl, Nat.le_of_ble_eq_true rfl⟩ (fun H locs h => ?_)
      exact x_iret hx hb h (Option.some.inj hf) hr hlocks dX10_formulasWith_26
  · replace hf := xif_t hf c2
    refine lv_aload_n hx hb dX10_formulasWith_8 rfl (lv_at hl 0 rfl) ?_
    refine lv_iconst (v := 1) hx hb dX10_formulasWith_9 (by decide) ?_
    obtain ⟨r6, er6, hf⟩ := xbd_s hf
    refine x_Vi (As := [.int 1]) (rest := []) E.1 (m_X10_fails l er6) (cwV 1 hts (xgV xU_sub q208 q209 q210 q5 q211) rfl rfl rfl hdX10_fails ⟨Nat.le_of_ble_eq_true rfl, Nat.le_of_ble_eq_true rfl⟩) h kR_model rfl rfl hl.1 rfl (Nat.le_of_ble_eq_true rfl) dX10_formulasWith_10 ⟨Nat.le_of_ble_eq_true rfl, Nat.le_of_ble_eq_true rfl⟩ (fun H locs h => ?_)
    exact x_iret hx hb h (Option.some.inj hf) hr hlocks dX10_formulasWith_13
theorem hdX10_writesLetter : yX10_writesLetter.cls = RX10 ∧ yX10_writesLetter.cls ≠ "java/lang/invoke/MethodHandle" ∧ yX10_writesLetter.cls ≠ "java/lang/invoke/VarHandle" ∧ (parseMethodDescriptor yX10_writesLetter.desc).map (fun d => d.parameters.length) = some 1 := by decide +kernel
set_option maxHeartbeats 4000000 in
set_option maxRecDepth 100000 in
theorem m_X10_writesLetter (l : Launch) {Γ : xG} {N : Nat} {v1 : Int32} {M : xM} {res : xR} (hf : F_X10_writesLetter N v1 M = some res) (sz : Nat) : Met l yX10_writesLetter (xWs yX10_writesLetter cX10_writesLetter 2 none) ({ frames := 1, cells := 0, slots := 0, locals := 40 } : Room) (va_Pc [.ref (Γ.2.1 0), .int v1] (xPre Γ (wR Γ) M sz)) (xCv Γ (wR Γ) 10 res sz) 0 0 (xAd Γ 10 sz) := by
  refine x_met (Qc := fun sz => xCv Γ (wR Γ) 10 res sz) pnX10 wG_W (Nat.le_of_ble_eq_true rfl) (fun p e s m args below meth c _ E h ls hl => ?_) sz
  obtain ⟨⟨hx, hb, hml, hown, hts⟩, hr, hlocks⟩ := id E
  have hl : lv_has ls 2 [(0, .ref (Γ.2.1 0)), (1, .int v1)] := hl
  refine lv_aload_n hx hb dX10_writesLetter_0 rfl (lv_at hl 0 rfl) ?_
  refine x_get (own := RX10) (ref := "TintDeskModel") (C := RX10) (T := TX10) (n := 20) (index := 39) (v := .ref (Γ.2.1 9)) hx hb hts (fun w h => xU_sub w (inU10 w h)) hown h kR_model rfl 18 (by decide) (hts _ (xU_sub _ q141)) (fun _ h9 => h9) rfl dX10_writesLetter_1 ?_
  refine lv_aload_n hx hb dX10_writesLetter_4 rfl (lv_at hl 0 rfl) ?_
  refine x_get (own := RX10) (ref := "TintDeskModel") (C := RX10) (T := TX10) (n := 20) (index := 174) (v := .int (M.1 0 19)) hx hb hts (fun w h => xU_sub w (inU10 w h)) hown h kR_model rfl 19 (by decide) (hts _ (xU_sub _ q952)) (fun _ h9 => h9) rfl dX10_writesLetter_5 ?_
  refine lv_iload_n hx hb dX10_writesLetter_8 rfl (lv_at hl 1 rfl) ?_
  obtain ⟨c1, hf⟩ := xck_s hf
  obtain ⟨M2, eM2, hf⟩ := xl_s hf
  refine x_cast hx hb h kR_paper (xin_in c1) eM2 dX10_writesLetter_9 (fun H locs h => ?_)
  refine lv_aload_n hx hb dX10_writesLetter_10 rfl (lv_at hl 0 rfl) ?_
  refine lv_dup hx hb dX10_writesLetter_11 rfl ?_
  refine x_get (own := RX10) (ref := "TintDeskModel") (C := RX10) (T := TX10) (n := 20) (index := 174) (v := .int (M2.1 0 19)) hx hb hts (fun w h => xU_sub w (inU10 w h)) hown h kR_model rfl 19 (by decide) (hts _ (xU_sub _ q952)) (fun _ h9 => h9) rfl dX10_writesLetter_12 ?_
  refine lv_iconst (v := 1) hx hb dX10_writesLetter_15 (by decide) ?_
  refine lv_iadd hx hb dX10_writesLetter_16 ?_
  obtain ⟨M3, eM3, hf⟩ := xl_s hf
  refine x_put (own := RX10) (ref := "TintDeskModel") (C := RX10) (T := TX10) (n := 20) (index := 174) (ty := .int) hx hb hts (fun w h => xU_sub w (inU10 w h)) tyX10 tyX10_ok nmX10 hown h kR_model rfl 19 (by decide) (hts _ (xU_sub _ q952)) (fun _ h9 => h9) rfl (by decide +kernel) rfl rfl (Nat.le_of_ble_eq_true rfl) rfl eM3 dX10_writesLetter_17 (fun H locs h => ?_)
  exact x_vret hx hb h (Option.some.inj hf) hr hlocks dX10_writesLetter_20
theorem hdX10_writesNumber : yX10_writesNumber.cls = RX10 ∧ yX10_writesNumber.cls ≠ "java/lang/invoke/MethodHandle" ∧ yX10_writesNumber.cls ≠ "java/lang/invoke/VarHandle" ∧ (parseMethodDescriptor yX10_writesNumber.desc).map (fun d => d.parameters.length) = some 1 := by decide +kernel
set_option maxHeartbeats 4000000 in
set_option maxRecDepth 100000 in
theorem w_X10_writesNumber_20 (l : Launch) {p : Program} {e : Env} {s : State} {m : MethodId} {args : Array Value} {below : List Frame} {meth : Method} {c : Code} {Γ : xG} {N : Nat} {res : xR} (E : xEv p s m args meth c RX10 cX10_writesNumber 4 none (xWs yX10_writesNumber cX10_writesNumber 4 none)) : ∀ (n : Nat) (v1 : Int32) (v3 : Int32) (M : xM), L_X10_writesNumber_20 N n v1 v3 M = some res → ∀ (H : Heap) (locs : List Loc) (ls : Array Slot), xH Γ (wR Γ) 10 s M H locs → lv_has ls 4 [(0, .ref (Γ.2.1 0)), (1, .int v1), (3, .int v3)] → W p l e ({ frames := 2, cells := 0, slots := 0, locals := 61 } : Room) s m args below meth c H locs 0 0 (MQ below (xCv Γ (wR Γ) 10 res s.heap.size) args s 0 0 (xAd Γ 10 s.heap.size)) (F0 m 20 ls []) := by
  obtain ⟨⟨hx, hb, hml, hown, hts⟩, hr, hlocks⟩ := id E
  intro n
  induction n with
  | zero => intro v1 v3 M hf; cases hf
  | succ n ih =>
    intro v1 v3 M hf H locs ls h hl
    refine lv_iload_n hx hb dX10_writesNumber_20 rfl (lv_at hl 2 rfl) ?_
    refine lv_if_le (tgt := 46) hx hb dX10_writesNumber_21 (by decide) (fun c1 => ?_) (fun c1 => ?_)
    · replace hf := xif_t hf c1
      exact x_vret hx hb h (Option.some.inj hf) hr hlocks dX10_writesNumber_46
    · replace hf := xif_f hf c1
      refine lv_aload_n hx hb dX10_writesNumber_24 rfl (lv_at hl 0 rfl) ?_
      refine lv_bipush (v := 48) hx hb dX10_writesNumber_25 (by decide) ?_
      refine lv_iload_n hx hb dX10_writesNumber_27 rfl (lv_at hl 1 rfl) ?_
      refine lv_iload_n hx hb dX10_writesNumber_28 rfl (lv_at hl 2 rfl) ?_
      obtain ⟨c2, hf⟩ := xck_s hf
      refine lv_idiv hx hb dX10_writesNumber_29 (xnz c2) ?_
      refine lv_bipush (v := 10) hx hb dX10_writesNumber_30 (by decide) ?_
      refine lv_irem hx hb dX10_writesNumber_32 (by decide) ?_
      refine lv_iadd hx hb dX10_writesNumber_33 ?_
      refine lv_i2c (v := (((48 + ((v1 / v3) - (v1 / v3) / 10 * 10))).toUInt32 % 65536).toInt32) hx hb dX10_writesNumber_34 rfl ?_
      obtain ⟨r3, er3, hf⟩ := xbd_s hf
      refine x_Vv (As := [.int (((48 + ((v1 / v3) - (v1 / v3) / 10 * 10))).toUInt32 % 65536).toInt32]) (rest := []) E.1 (m_X10_writesLetter l er3) (cwV 1 hts (xgV xU_sub q957 q958 q959 q5 q960) rfl rfl rfl hdX10_writesLetter ⟨Nat.le_of_ble_eq_true rfl, Nat.le_of_ble_eq_true rfl⟩) h kR_model rfl rfl hl.1 rfl (Nat.le_of_ble_eq_true rfl) dX10_writesNumber_35 ⟨Nat.le_of_ble_eq_true rfl, Nat.le_of_ble_eq_true rfl⟩ (fun H locs h => ?_)
      refine lv_iload_n hx hb dX10_writesNumber_38 rfl (lv_at hl 2 rfl) ?_
      refine lv_bipush (v := 10) hx hb dX10_writesNumber_39 (by decide) ?_
      refine lv_idiv hx hb dX10_writesNumber_41 (by decide) ?_
      obtain ⟨y4, ey4, hf⟩ := xl_s hf
      refine x_nm ey4 ?_
      refine lv_istore_n (lv' := [(3, .int y4), (0, .ref (Γ.2.1 0)), (1, .int v1)]) hx hb dX10_writesNumber_42 rfl hl (by decide) rfl (fun ls hl => ?_)
      refine lv_goto (tgt := 20) hx hb dX10_writesNumber_43 (by decide) ?_
      exact ih v1 y4 r3.1 hf _ _ _ h (lv_sub hl [1, 2, 0] rfl)
set_option maxHeartbeats 4000000 in
set_option maxRecDepth 100000 in
theorem w_X10_writesNumber_2 (l : Launch) {p : Program} {e : Env} {s : State} {m : MethodId} {args : Array Value} {below : List Frame} {meth : Method} {c : Code} {Γ : xG} {N : Nat} {res : xR} (E : xEv p s m args meth c RX10 cX10_writesNumber 4 none (xWs yX10_writesNumber cX10_writesNumber 4 none)) : ∀ (n : Nat) (v1 : Int32) (v2 : Int32) (M : xM), L_X10_writesNumber_2 N n v1 v2 M = some res → ∀ (H : Heap) (locs : List Loc) (ls : Array Slot), xH Γ (wR Γ) 10 s M H locs → lv_has ls 4 [(0, .ref (Γ.2.1 0)), (1, .int v1), (2, .int v2)] → W p l e ({ frames := 2, cells := 0, slots := 0, locals := 61 } : Room) s m args below meth c H locs 0 0 (MQ below (xCv Γ (wR Γ) 10 res s.heap.size) args s 0 0 (xAd Γ 10 s.heap.size)) (F0 m 2 ls []) := by
  obtain ⟨⟨hx, hb, hml, hown, hts⟩, hr, hlocks⟩ := id E
  intro n
  induction n with
  | zero => intro v1 v2 M hf; cases hf
  | succ n ih =>
    intro v1 v2 M hf H locs ls h hl
    refine lv_iload_n hx hb dX10_writesNumber_2 rfl (lv_at hl 2 rfl) ?_
    refine lv_bipush (v := 10) hx hb dX10_writesNumber_3 (by decide) ?_
    refine lv_imul hx hb dX10_writesNumber_5 ?_
    refine lv_iload_n hx hb dX10_writesNumber_6 rfl (lv_at hl 1 rfl) ?_
    refine lv_icmp_gt (tgt := 18) hx hb dX10_writesNumber_7 (by decide) (fun c1 => ?_) (fun c1 => ?_)
    · replace hf := xif_t hf c1
      refine lv_iload_n hx hb dX10_writesNumber_18 rfl (lv_at hl 2 rfl) ?_
      refine lv_istore_n (lv' := [(3, .int v2), (0, .ref (Γ.2.1 0)), (1, .int v1), (2, .int v2)]) hx hb dX10_writesNumber_19 rfl hl (by decide) rfl (fun ls hl => ?_)
      exact w_X10_writesNumber_20 l E N v1 v2 M hf _ _ _ h (lv_sub hl [1, 2, 0] rfl)
    · replace hf := xif_f hf c1
      refine lv_iload_n hx hb dX10_writesNumber_10 rfl (lv_at hl 2 rfl) ?_
      refine lv_bipush (v := 10) hx hb dX10_writesNumber_11 (by decide) ?_
      refine lv_imul hx hb dX10_writesNumber_13 ?_
      obtain ⟨y2, ey2, hf⟩ := xl_s hf
      refine x_nm ey2 ?_
      refine lv_istore_n (lv' := [(2, .int y2), (0, .ref (Γ.2.1 0)), (1, .int v1)]) hx hb dX10_writesNumber_14 rfl hl (by decide) rfl (fun ls hl => ?_)
      refine lv_goto (tgt := 2) hx hb dX10_writesNumber_15 (by decide) ?_
      exact ih v1 y2 M hf _ _ _ h (lv_sub hl [1, 2, 0] rfl)
set_option maxHeartbeats 4000000 in
set_option maxRecDepth 100000 in
theorem m_X10_writesNumber (l : Launch) {Γ : xG} {N : Nat} {v1 : Int32} {M : xM} {res : xR} (hf : F_X10_writesNumber N v1 M = some res) (sz : Nat) : Met l yX10_writesNumber (xWs yX10_writesNumber cX10_writesNumber 4 none) ({ frames := 2, cells := 0, slots := 0, locals := 61 } : Room) (va_Pc [.ref (Γ.2.1 0), .int v1] (xPre Γ (wR Γ) M sz)) (xCv Γ (wR Γ) 10 res sz) 0 0 (xAd Γ 10 sz) := by
  refine x_met (Qc := fun sz => xCv Γ (wR Γ) 10 res sz) pnX10 wG_W (Nat.le_of_ble_eq_true rfl) (fun p e s m args below meth c _ E h ls hl => ?_) sz
  obtain ⟨⟨hx, hb, hml, hown, hts⟩, hr, hlocks⟩ := id E
  have hl : lv_has ls 4 [(0, .ref (Γ.2.1 0)), (1, .int v1)] := hl
  refine lv_iconst (v := 1) hx hb dX10_writesNumber_0 (by decide) ?_
  refine lv_istore_n (lv' := [(2, .int 1), (0, .ref (Γ.2.1 0)), (1, .int v1)]) hx hb dX10_writesNumber_1 rfl hl (by decide) rfl (fun ls hl => ?_)
  exact w_X10_writesNumber_2 l E N v1 1 M hf _ _ _ h (lv_sub hl [1, 2, 0] rfl)
theorem hdX10_writes : yX10_writes.cls = RX10 ∧ yX10_writes.cls ≠ "java/lang/invoke/MethodHandle" ∧ yX10_writes.cls ≠ "java/lang/invoke/VarHandle" ∧ (parseMethodDescriptor yX10_writes.desc).map (fun d => d.parameters.length) = some 1 := by decide +kernel
set_option maxHeartbeats 4000000 in
set_option maxRecDepth 100000 in
theorem w_X10_writes_102 (l : Launch) {p : Program} {e : Env} {s : State} {m : MethodId} {args : Array Value} {below : List Frame} {meth : Method} {c : Code} {Γ : xG} {N : Nat} {res : xR} (E : xEv p s m args meth c RX10 cX10_writes 4 none (xWs yX10_writes cX10_writes 4 none)) {K_75 : Int32 → Int32 → Int32 → xM → Option xR} (hK_75 : ∀ (v1 : Int32) (v2 : Int32) (v3 : Int32) (M : xM), K_75 v1 v2 v3 M = some res → ∀ (H : Heap) (locs : List Loc) (ls : Array Slot), xH Γ (wR Γ) 10 s M H locs → lv_has ls 4 [(0, .ref (Γ.2.1 0)), (1, .int v1), (2, .int v2), (3, .int v3)] → W p l e ({ frames := 3, cells := 0, slots := 0, locals := 85 } : Room) s m args below meth c H locs 0 0 (MQ below (xCv Γ (wR Γ) 10 res s.heap.size) args s 0 0 (xAd Γ 10 s.heap.size)) (F0 m 75 ls [])) : ∀ (v1 : Int32) (v2 : Int32) (v3 : Int32) (M : xM), L_X10_writes_102 N K_75 v1 v2 v3 M = some res → ∀ (H : Heap) (locs : List Loc) (ls : Array Slot), xH Γ (wR Γ) 10 s M H locs → lv_has ls 4 [(0, .ref (Γ.2.1 0)), (1, .int v1), (2, .int v2), (3, .int v3)] → W p l e ({ frames := 3, cells := 0, slots := 0, locals := 85 } : Room) s m args below meth c H locs 0 0 (MQ below (xCv Γ (wR Γ) 10 res s.heap.size) args s 0 0 (xAd Γ 10 s.heap.size)) (F0 m 102 ls []) := by
  obtain ⟨⟨hx, hb, hml, hown, hts⟩, hr, hlocks⟩ := id E
  intro v1 v2 v3 M hf H locs ls h hl
  obtain ⟨y1, ey1, hf⟩ := xl_s hf
  refine lv_iinc (v := y1) (lv' := [(3, .int y1), (0, .ref (Γ.2.1 0)), (1, .int v1), (2, .int v2)]) hx hb dX10_writes_102 hl (k := 3) rfl (by rw [ey1]; rfl) (by decide) rfl (fun ls hl => ?_)
  refine lv_goto (tgt := 75) hx hb dX10_writes_105 (by decide) ?_
  exact hK_75 v1 v2 y1 M hf _ _ _ h (lv_sub hl [1, 2, 3, 0] rfl)
set_option maxHeartbeats 4000000 in
set_option maxRecDepth 100000 in
theorem w_X10_writes_75 (l : Launch) {p : Program} {e : Env} {s : State} {m : MethodId} {args : Array Value} {below : List Frame} {meth : Method} {c : Code} {Γ : xG} {N : Nat} {res : xR} (E : xEv p s m args meth c RX10 cX10_writes 4 none (xWs yX10_writes cX10_writes 4 none)) {K_108 : Int32 → Int32 → xM → Option xR} (hK_108 : ∀ (v1 : Int32) (v2 : Int32) (M : xM), K_108 v1 v2 M = some res → ∀ (H : Heap) (locs : List Loc) (ls : Array Slot), xH Γ (wR Γ) 10 s M H locs → lv_has ls 4 [(0, .ref (Γ.2.1 0)), (1, .int v1), (2, .int v2)] → W p l e ({ frames := 3, cells := 0, slots := 0, locals := 85 } : Room) s m args below meth c H locs 0 0 (MQ below (xCv Γ (wR Γ) 10 res s.heap.size) args s 0 0 (xAd Γ 10 s.heap.size)) (F0 m 108 ls [])) : ∀ (n : Nat) (v1 : Int32) (v2 : Int32) (v3 : Int32) (M : xM), L_X10_writes_75 N K_108 n v1 v2 v3 M = some res → ∀ (H : Heap) (locs : List Loc) (ls : Array Slot), xH Γ (wR Γ) 10 s M H locs → lv_has ls 4 [(0, .ref (Γ.2.1 0)), (1, .int v1), (2, .int v2), (3, .int v3)] → W p l e ({ frames := 3, cells := 0, slots := 0, locals := 85 } : Room) s m args below meth c H locs 0 0 (MQ below (xCv Γ (wR Γ) 10 res s.heap.size) args s 0 0 (xAd Γ 10 s.heap.size)) (F0 m 75 ls []) := by
  obtain ⟨⟨hx, hb, hml, hown, hts⟩, hr, hlocks⟩ := id E
  intro n
  induction n with
  | zero => intro v1 v2 v3 M hf; cases hf
  | succ n ih =>
    intro v1 v2 v3 M hf H locs ls h hl
    refine lv_iload_n hx hb dX10_writes_75 rfl (lv_at hl 3 rfl) ?_
    refine lv_bipush (v := 100) hx hb dX10_writes_76 (by decide) ?_
    refine lv_icmp_ge (tgt := 108) hx hb dX10_writes_78 (by decide) (fun c1 => ?_) (fun c1 => ?_)
    · replace hf := xif_t hf c1
      exact hK_108 v1 v2 M hf _ _ _ h (lv_sub hl [0, 1, 2] rfl)
    · replace hf := xif_f hf c1
      refine lv_aload_n hx hb dX10_writes_81 rfl (lv_at hl 0 rfl) ?_
      refine lv_iload_n hx hb dX10_writes_82 rfl (lv_at hl 1 rfl) ?_
      refine lv_iload_n hx hb dX10_writes_83 rfl (lv_at hl 2 rfl) ?_
      refine lv_iload_n hx hb dX10_writes_84 rfl (lv_at hl 3 rfl) ?_
      obtain ⟨r2, er2, hf⟩ := xbd_s hf
      refine x_Vi (As := [.int v1, .int v2, .int v3]) (rest := []) E.1 (m_X10_has l er2) (cwV 3 hts (xgV xU_sub q884 q885 q886 q5 q887) rfl rfl rfl hdX10_has ⟨Nat.le_of_ble_eq_true rfl, Nat.le_of_ble_eq_true rfl⟩) h kR_model rfl rfl hl.1 rfl (Nat.le_of_ble_eq_true rfl) dX10_writes_85 ⟨Nat.le_of_ble_eq_true rfl, Nat.le_of_ble_eq_true rfl⟩ (fun H locs h => ?_)
      refine lv_if_eq (tgt := 102) hx hb dX10_writes_88 (by decide) (fun c3 => ?_) (fun c3 => ?_)
      · replace hf := xif_t hf c3
        exact w_X10_writes_102 l E (ih) v1 v2 v3 r2.1 hf _ _ _ h (lv_sub hl [0, 1, 2, 3] rfl)
      · replace hf := xif_f hf c3
        refine lv_aload_n hx hb dX10_writes_91 rfl (lv_at hl 0 rfl) ?_
        refine lv_bipush (v := 58) hx hb dX10_writes_92 (by decide) ?_
        obtain ⟨r4, er4, hf⟩ := xbd_s hf
        refine x_Vv (As := [.int 58]) (rest := []) E.1 (m_X10_writesLetter l er4) (cwV 1 hts (xgV xU_sub q957 q958 q959 q5 q960) rfl rfl rfl hdX10_writesLetter ⟨Nat.le_of_ble_eq_true rfl, Nat.le_of_ble_eq_true rfl⟩) h kR_model rfl rfl hl.1 rfl (Nat.le_of_ble_eq_true rfl) dX10_writes_94 ⟨Nat.le_of_ble_eq_true rfl, Nat.le_of_ble_eq_true rfl⟩ (fun H locs h => ?_)
        refine lv_aload_n hx hb dX10_writes_97 rfl (lv_at hl 0 rfl) ?_
        refine lv_iload_n hx hb dX10_writes_98 rfl (lv_at hl 3 rfl) ?_
        obtain ⟨r5, er5, hf⟩ := xbd_s hf
        refine x_Vv (As := [.int v3]) (rest := []) E.1 (m_X10_writesNumber l er5) (cwV 1 hts (xgV xU_sub q961 q962 q963 q5 q964) rfl rfl rfl hdX10_writesNumber ⟨Nat.le_of_ble_eq_true rfl, Nat.le_of_ble_eq_true rfl⟩) h kR_model rfl rfl hl.1 rfl (Nat.le_of_ble_eq_true rfl) dX10_writes_99 ⟨Nat.le_of_ble_eq_true rfl, Nat.le_of_ble_eq_true rfl⟩ (fun H locs h => ?_)
        exact w_X10_writes_102 l E (ih) v1 v2 v3 r5.1 hf _ _ _ h (lv_sub hl [0, 1, 2, 3] rfl)
set_option maxHeartbeats 4000000 in
set_option maxRecDepth 100000 in
theorem w_X10_writes_108 (l : Launch) {p : Program} {e : Env} {s : State} {m : MethodId} {args : Array Value} {below : List Frame} {meth : Method} {c : Code} {Γ : xG} {N : Nat} {res : xR} (E : xEv p s m args meth c RX10 cX10_writes 4 none (xWs yX10_writes cX10_writes 4 none)) {K_23 : Int32 → Int32 → xM → Option xR} (hK_23 : ∀ (v1 : Int32) (v2 : Int32) (M : xM), K_23 v1 v2 M = some res → ∀ (H : Heap) (locs : List Loc) (ls : Array Slot), xH Γ (wR Γ) 10 s M H locs → lv_has ls 4 [(0, .ref (Γ.2.1 0)), (1, .int v1), (2, .int v2)] → W p l e ({ frames := 3, cells := 0, slots := 0, locals := 85 } : Room) s m args below meth c H locs 0 0 (MQ below (xCv Γ (wR Γ) 10 res s.heap.size) args s 0 0 (xAd Γ 10 s.heap.size)) (F0 m 23 ls [])) : ∀ (v1 : Int32) (v2 : Int32) (M : xM), L_X10_writes_108 N K_23 v1 v2 M = some res → ∀ (H : Heap) (locs : List Loc) (ls : Array Slot), xH Γ (wR Γ) 10 s M H locs → lv_has ls 4 [(0, .ref (Γ.2.1 0)), (1, .int v1), (2, .int v2)] → W p l e ({ frames := 3, cells := 0, slots := 0, locals := 85 } : Room) s m args below meth c H locs 0 0 (MQ below (xCv Γ (wR Γ) 10 res s.heap.size) args s 0 0 (xAd Γ 10 s.heap.size)) (F0 m 108 ls []) := by
  obtain ⟨⟨hx, hb, hml, hown, hts⟩, hr, hlocks⟩ := id E
  intro v1 v2 M hf H locs ls h hl
  obtain ⟨y1, ey1, hf⟩ := xl_s hf
  refine lv_iinc (v := y1) (lv' := [(2, .int y1), (0, .ref (Γ.2.1 0)), (1, .int v1)]) hx hb dX10_writes_108 hl (k := 2) rfl (by rw [ey1]; rfl) (by decide) rfl (fun ls hl => ?_)
  refine lv_goto (tgt := 23) hx hb dX10_writes_111 (by decide) ?_
  exact hK_23 v1 y1 M hf _ _ _ h (lv_sub hl [1, 2, 0] rfl)
set_option maxHeartbeats 4000000 in
set_option maxRecDepth 100000 in
theorem w_X10_writes_23 (l : Launch) {p : Program} {e : Env} {s : State} {m : MethodId} {args : Array Value} {below : List Frame} {meth : Method} {c : Code} {Γ : xG} {N : Nat} {res : xR} (E : xEv p s m args meth c RX10 cX10_writes 4 none (xWs yX10_writes cX10_writes 4 none)) : ∀ (n : Nat) (v1 : Int32) (v2 : Int32) (M : xM), L_X10_writes_23 N n v1 v2 M = some res → ∀ (H : Heap) (locs : List Loc) (ls : Array Slot), xH Γ (wR Γ) 10 s M H locs → lv_has ls 4 [(0, .ref (Γ.2.1 0)), (1, .int v1), (2, .int v2)] → W p l e ({ frames := 3, cells := 0, slots := 0, locals := 85 } : Room) s m args below meth c H locs 0 0 (MQ below (xCv Γ (wR Γ) 10 res s.heap.size) args s 0 0 (xAd Γ 10 s.heap.size)) (F0 m 23 ls []) := by
  obtain ⟨⟨hx, hb, hml, hown, hts⟩, hr, hlocks⟩ := id E
  intro n
  induction n with
  | zero => intro v1 v2 M hf; cases hf
  | succ n ih =>
    intro v1 v2 M hf H locs ls h hl
    refine lv_iload_n hx hb dX10_writes_23 rfl (lv_at hl 2 rfl) ?_
    refine lv_aload_n hx hb dX10_writes_24 rfl (lv_at hl 0 rfl) ?_
    refine x_get (own := RX10) (ref := "TintDeskModel") (C := RX10) (T := TX10) (n := 20) (index := 9) (v := .ref (Γ.2.1 1)) hx hb hts (fun w h => xU_sub w (inU10 w h)) hown h kR_model rfl 1 (by decide) (hts _ (xU_sub _ q132)) (fun _ h9 => h9) rfl dX10_writes_25 ?_
    refine lv_iconst (v := 0) hx hb dX10_writes_28 (by decide) ?_
    refine x_iald hx hb h kR_g (xin_in (by decide)) dX10_writes_29 ?_
    refine lv_icmp_ge (tgt := 114) hx hb dX10_writes_30 (by decide) (fun c1 => ?_) (fun c1 => ?_)
    · replace hf := xif_t hf c1
      refine lv_aload_n hx hb dX10_writes_114 rfl (lv_at hl 0 rfl) ?_
      refine lv_iload_n hx hb dX10_writes_115 rfl (lv_at hl 1 rfl) ?_
      refine lv_bipush (v := 10) hx hb dX10_writes_116 (by decide) ?_
      obtain ⟨r2, er2, hf⟩ := xbd_s hf
      refine x_Vi (As := [.int v1, .int 10]) (rest := []) E.1 (m_X10_canAt l er2) (cwV 2 hts (xgV xU_sub q630 q631 q632 q5 q633) rfl rfl rfl hdX10_canAt ⟨Nat.le_of_ble_eq_true rfl, Nat.le_of_ble_eq_true rfl⟩) h kR_model rfl rfl hl.1 rfl (Nat.le_of_ble_eq_true rfl) dX10_writes_118 ⟨Nat.le_of_ble_eq_true rfl, Nat.le_of_ble_eq_true rfl⟩ (fun H locs h => ?_)
      refine lv_if_le (tgt := 141) hx hb dX10_writes_121 (by decide) (fun c3 => ?_) (fun c3 => ?_)
      · replace hf := xif_t hf c3
        exact x_vret hx hb h (Option.some.inj hf) hr hlocks dX10_writes_141
      · replace hf := xif_f hf c3
        refine lv_aload_n hx hb dX10_writes_124 rfl (lv_at hl 0 rfl) ?_
        refine lv_bipush (v := 43) hx hb dX10_writes_125 (by decide) ?_
        obtain ⟨r4, er4, hf⟩ := xbd_s hf
        refine x_Vv (As := [.int 43]) (rest := []) E.1 (m_X10_writesLetter l er4) (cwV 1 hts (xgV xU_sub q957 q958 q959 q5 q960) rfl rfl rfl hdX10_writesLetter ⟨Nat.le_of_ble_eq_true rfl, Nat.le_of_ble_eq_true rfl⟩) h kR_model rfl rfl hl.1 rfl (Nat.le_of_ble_eq_true rfl) dX10_writes_127 ⟨Nat.le_of_ble_eq_true rfl, Nat.le_of_ble_eq_true rfl⟩ (fun H locs h => ?_)
        refine lv_aload_n hx hb dX10_writes_130 rfl (lv_at hl 0 rfl) ?_
        refine lv_aload_n hx hb dX10_writes_131 rfl (lv_at hl 0 rfl) ?_
        refine lv_iload_n hx hb dX10_writes_132 rfl (lv_at hl 1 rfl) ?_
        refine lv_bipush (v := 11) hx hb dX10_writes_133 (by decide) ?_
        obtain ⟨r5, er5, hf⟩ := xbd_s hf
        refine x_Vi (As := [.int v1, .int 11]) (rest := [.ref (Γ.2.1 0)]) E.1 (m_X10_canAt l er5) (cwV 2 hts (xgV xU_sub q630 q631 q632 q5 q633) rfl rfl rfl hdX10_canAt ⟨Nat.le_of_ble_eq_true rfl, Nat.le_of_ble_eq_true rfl⟩) h kR_model rfl rfl hl.1 rfl (Nat.le_of_ble_eq_true rfl) dX10_writes_135 ⟨Nat.le_of_ble_eq_true rfl, Nat.le_of_ble_eq_true rfl⟩ (fun H locs h => ?_)
        obtain ⟨r6, er6, hf⟩ := xbd_s hf
        refine x_Vv (As := [.int r5.2]) (rest := []) E.1 (m_X10_writesNumber l er6) (cwV 1 hts (xgV xU_sub q961 q962 q963 q5 q964) rfl rfl rfl hdX10_writesNumber ⟨Nat.le_of_ble_eq_true rfl, Nat.le_of_ble_eq_true rfl⟩) h kR_model rfl rfl hl.1 rfl (Nat.le_of_ble_eq_true rfl) dX10_writes_138 ⟨Nat.le_of_ble_eq_true rfl, Nat.le_of_ble_eq_true rfl⟩ (fun H locs h => ?_)
        exact x_vret hx hb h (Option.some.inj hf) hr hlocks dX10_writes_141
    · replace hf := xif_f hf c1
      refine lv_aload_n hx hb dX10_writes_33 rfl (lv_at hl 0 rfl) ?_
      refine lv_iload_n hx hb dX10_writes_34 rfl (lv_at hl 1 rfl) ?_
      refine lv_iconst (v := 2) hx hb dX10_writes_35 (by decide) ?_
      refine lv_iload_n hx hb dX10_writes_36 rfl (lv_at hl 2 rfl) ?_
      refine lv_iadd hx hb dX10_writes_37 ?_
      obtain ⟨r7, er7, hf⟩ := xbd_s hf
      refine x_Vi (As := [.int v1, .int (2 + v2)]) (rest := []) E.1 (m_X10_canAt l er7) (cwV 2 hts (xgV xU_sub q630 q631 q632 q5 q633) rfl rfl rfl hdX10_canAt ⟨Nat.le_of_ble_eq_true rfl, Nat.le_of_ble_eq_true rfl⟩) h kR_model rfl rfl hl.1 rfl (Nat.le_of_ble_eq_true rfl) dX10_writes_38 ⟨Nat.le_of_ble_eq_true rfl, Nat.le_of_ble_eq_true rfl⟩ (fun H locs h => ?_)
      refine lv_if_le (tgt := 108) hx hb dX10_writes_41 (by decide) (fun c8 => ?_) (fun c8 => ?_)
      · replace hf := xif_t hf c8
        exact w_X10_writes_108 l E (ih) v1 v2 r7.1 hf _ _ _ h (lv_sub hl [0, 1, 2] rfl)
      · replace hf := xif_f hf c8
        refine lv_aload_n hx hb dX10_writes_44 rfl (lv_at hl 0 rfl) ?_
        refine lv_bipush (v := 44) hx hb dX10_writes_45 (by decide) ?_
        obtain ⟨r9, er9, hf⟩ := xbd_s hf
        refine x_Vv (As := [.int 44]) (rest := []) E.1 (m_X10_writesLetter l er9) (cwV 1 hts (xgV xU_sub q957 q958 q959 q5 q960) rfl rfl rfl hdX10_writesLetter ⟨Nat.le_of_ble_eq_true rfl, Nat.le_of_ble_eq_true rfl⟩) h kR_model rfl rfl hl.1 rfl (Nat.le_of_ble_eq_true rfl) dX10_writes_47 ⟨Nat.le_of_ble_eq_true rfl, Nat.le_of_ble_eq_true rfl⟩ (fun H locs h => ?_)
        refine lv_aload_n hx hb dX10_writes_50 rfl (lv_at hl 0 rfl) ?_
        refine lv_iload_n hx hb dX10_writes_51 rfl (lv_at hl 2 rfl) ?_
        obtain ⟨r10, er10, hf⟩ := xbd_s hf
        refine x_Vv (As := [.int v2]) (rest := []) E.1 (m_X10_writesNumber l er10) (cwV 1 hts (xgV xU_sub q961 q962 q963 q5 q964) rfl rfl rfl hdX10_writesNumber ⟨Nat.le_of_ble_eq_true rfl, Nat.le_of_ble_eq_true rfl⟩) h kR_model rfl rfl hl.1 rfl (Nat.le_of_ble_eq_true rfl) dX10_writes_52 ⟨Nat.le_of_ble_eq_true rfl, Nat.le_of_ble_eq_true rfl⟩ (fun H locs h => ?_)
        refine lv_aload_n hx hb dX10_writes_55 rfl (lv_at hl 0 rfl) ?_
        refine lv_bipush (v := 61) hx hb dX10_writes_56 (by decide) ?_
        obtain ⟨r11, er11, hf⟩ := xbd_s hf
        refine x_Vv (As := [.int 61]) (rest := []) E.1 (m_X10_writesLetter l er11) (cwV 1 hts (xgV xU_sub q957 q958 q959 q5 q960) rfl rfl rfl hdX10_writesLetter ⟨Nat.le_of_ble_eq_true rfl, Nat.le_of_ble_eq_true rfl⟩) h kR_model rfl rfl hl.1 rfl (Nat.le_of_ble_eq_true rfl) dX10_writes_58 ⟨Nat.le_of_ble_eq_true rfl, Nat.le_of_ble_eq_true rfl⟩ (fun H locs h => ?_)
        refine lv_aload_n hx hb dX10_writes_61 rfl (lv_at hl 0 rfl) ?_
        refine lv_aload_n hx hb dX10_writes_62 rfl (lv_at hl 0 rfl) ?_
        refine lv_iload_n hx hb dX10_writes_63 rfl (lv_at hl 1 rfl) ?_
        refine lv_iconst (v := 2) hx hb dX10_writes_64 (by decide) ?_
        refine lv_iload_n hx hb dX10_writes_65 rfl (lv_at hl 2 rfl) ?_
        refine lv_iadd hx hb dX10_writes_66 ?_
        obtain ⟨r12, er12, hf⟩ := xbd_s hf
        refine x_Vi (As := [.int v1, .int (2 + v2)]) (rest := [.ref (Γ.2.1 0)]) E.1 (m_X10_canAt l er12) (cwV 2 hts (xgV xU_sub q630 q631 q632 q5 q633) rfl rfl rfl hdX10_canAt ⟨Nat.le_of_ble_eq_true rfl, Nat.le_of_ble_eq_true rfl⟩) h kR_model rfl rfl hl.1 rfl (Nat.le_of_ble_eq_true rfl) dX10_writes_67 ⟨Nat.le_of_ble_eq_true rfl, Nat.le_of_ble_eq_true rfl⟩ (fun H locs h => ?_)
        obtain ⟨r13, er13, hf⟩ := xbd_s hf
        refine x_Vv (As := [.int r12.2]) (rest := []) E.1 (m_X10_writesNumber l er13) (cwV 1 hts (xgV xU_sub q961 q962 q963 q5 q964) rfl rfl rfl hdX10_writesNumber ⟨Nat.le_of_ble_eq_true rfl, Nat.le_of_ble_eq_true rfl⟩) h kR_model rfl rfl hl.1 rfl (Nat.le_of_ble_eq_true rfl) dX10_writes_70 ⟨Nat.le_of_ble_eq_true rfl, Nat.le_of_ble_eq_true rfl⟩ (fun H locs h => ?_)
        refine lv_iconst (v := 0) hx hb dX10_writes_73 (by decide) ?_
        refine lv_istore_n (lv' := [(3, .int 0), (0, .ref (Γ.2.1 0)), (1, .int v1), (2, .int v2)]) hx hb dX10_writes_74 rfl hl (by decide) rfl (fun ls hl => ?_)
        exact w_X10_writes_75 l E (w_X10_writes_108 l E (ih)) N v1 v2 0 r13.1 hf _ _ _ h (lv_sub hl [1, 2, 3, 0] rfl)
set_option maxHeartbeats 4000000 in
set_option maxRecDepth 100000 in
theorem m_X10_writes (l : Launch) {Γ : xG} {N : Nat} {v1 : Int32} {M : xM} {res : xR} (hf : F_X10_writes N v1 M = some res) (sz : Nat) : Met l yX10_writes (xWs yX10_writes cX10_writes 4 none) ({ frames := 3, cells := 0, slots := 0, locals := 85 } : Room) (va_Pc [.ref (Γ.2.1 0), .int v1] (xPre Γ (wR Γ) M sz)) (xCv Γ (wR Γ) 10 res sz) 0 0 (xAd Γ 10 sz) := by
  refine x_met (Qc := fun sz => xCv Γ (wR Γ) 10 res sz) pnX10 wG_W (Nat.le_of_ble_eq_true rfl) (fun p e s m args below meth c _ E h ls hl => ?_) sz
  obtain ⟨⟨hx, hb, hml, hown, hts⟩, hr, hlocks⟩ := id E
  have hl : lv_has ls 4 [(0, .ref (Γ.2.1 0)), (1, .int v1)] := hl
  refine lv_aload_n hx hb dX10_writes_0 rfl (lv_at hl 0 rfl) ?_
  refine lv_iconst (v := 0) hx hb dX10_writes_1 (by decide) ?_
  obtain ⟨M1, eM1, hf⟩ := xl_s hf
  refine x_put (own := RX10) (ref := "TintDeskModel") (C := RX10) (T := TX10) (n := 20) (index := 174) (ty := .int) hx hb hts (fun w h => xU_sub w (inU10 w h)) tyX10 tyX10_ok nmX10 hown h kR_model rfl 19 (by decide) (hts _ (xU_sub _ q952)) (fun _ h9 => h9) rfl (by decide +kernel) rfl rfl (Nat.le_of_ble_eq_true rfl) rfl eM1 dX10_writes_2 (fun H locs h => ?_)
  refine lv_aload_n hx hb dX10_writes_5 rfl (lv_at hl 0 rfl) ?_
  refine lv_bipush (v := 98) hx hb dX10_writes_6 (by decide) ?_
  obtain ⟨r2, er2, hf⟩ := xbd_s hf
  refine x_Vv (As := [.int 98]) (rest := []) E.1 (m_X10_writesLetter l er2) (cwV 1 hts (xgV xU_sub q957 q958 q959 q5 q960) rfl rfl rfl hdX10_writesLetter ⟨Nat.le_of_ble_eq_true rfl, Nat.le_of_ble_eq_true rfl⟩) h kR_model rfl rfl hl.1 rfl (Nat.le_of_ble_eq_true rfl) dX10_writes_8 ⟨Nat.le_of_ble_eq_true rfl, Nat.le_of_ble_eq_true rfl⟩ (fun H locs h => ?_)
  refine lv_aload_n hx hb dX10_writes_11 rfl (lv_at hl 0 rfl) ?_
  refine lv_aload_n hx hb dX10_writes_12 rfl (lv_at hl 0 rfl) ?_
  refine lv_iload_n hx hb dX10_writes_13 rfl (lv_at hl 1 rfl) ?_
  refine lv_iconst (v := 1) hx hb dX10_writes_14 (by decide) ?_
  obtain ⟨r3, er3, hf⟩ := xbd_s hf
  refine x_Vi (As := [.int v1, .int 1]) (rest := [.ref (Γ.2.1 0)]) E.1 (m_X10_canAt l er3) (cwV 2 hts (xgV xU_sub q630 q631 q632 q5 q633) rfl rfl rfl hdX10_canAt ⟨Nat.le_of_ble_eq_true rfl, Nat.le_of_ble_eq_true rfl⟩) h kR_model rfl rfl hl.1 rfl (Nat.le_of_ble_eq_true rfl) dX10_writes_15 ⟨Nat.le_of_ble_eq_true rfl, Nat.le_of_ble_eq_true rfl⟩ (fun H locs h => ?_)
  obtain ⟨r4, er4, hf⟩ := xbd_s hf
  refine x_Vv (As := [.int r3.2]) (rest := []) E.1 (m_X10_writesNumber l er4) (cwV 1 hts (xgV xU_sub q961 q962 q963 q5 q964) rfl rfl rfl hdX10_writesNumber ⟨Nat.le_of_ble_eq_true rfl, Nat.le_of_ble_eq_true rfl⟩) h kR_model rfl rfl hl.1 rfl (Nat.le_of_ble_eq_true rfl) dX10_writes_18 ⟨Nat.le_of_ble_eq_true rfl, Nat.le_of_ble_eq_true rfl⟩ (fun H locs h => ?_)
  refine lv_iconst (v := 0) hx hb dX10_writes_21 (by decide) ?_
  refine lv_istore_n (lv' := [(2, .int 0), (0, .ref (Γ.2.1 0)), (1, .int v1)]) hx hb dX10_writes_22 rfl hl (by decide) rfl (fun ls hl => ?_)
  exact w_X10_writes_23 l E N v1 0 r4.1 hf _ _ _ h (lv_sub hl [1, 2, 0] rfl)
theorem hdX10_labelLength : yX10_labelLength.cls = RX10 ∧ yX10_labelLength.cls ≠ "java/lang/invoke/MethodHandle" ∧ yX10_labelLength.cls ≠ "java/lang/invoke/VarHandle" ∧ (parseMethodDescriptor yX10_labelLength.desc).map (fun d => d.parameters.length) = some 1 := by decide +kernel
set_option maxHeartbeats 4000000 in
set_option maxRecDepth 100000 in
theorem m_X10_labelLength (l : Launch) {Γ : xG} {N : Nat} {v1 : Int32} {M : xM} {res : xR} (hf : F_X10_labelLength N v1 M = some res) (sz : Nat) : Met l yX10_labelLength (xWs yX10_labelLength cX10_labelLength 2 (some .int)) ({ frames := 4, cells := 0, slots := 0, locals := 108 } : Room) (va_Pc [.ref (Γ.2.1 0), .int v1] (xPre Γ (wR Γ) M sz)) (xCi Γ (wR Γ) 10 res sz) 0 0 (xAd Γ 10 sz) := by
  refine x_met (Qc := fun sz => xCi Γ (wR Γ) 10 res sz) pnX10 wG_W (Nat.le_of_ble_eq_true rfl) (fun p e s m args below meth c _ E h ls hl => ?_) sz
  obtain ⟨⟨hx, hb, hml, hown, hts⟩, hr, hlocks⟩ := id E
  have hl : lv_has ls 2 [(0, .ref (Γ.2.1 0)), (1, .int v1)] := hl
  refine lv_aload_n hx hb dX10_labelLength_0 rfl (lv_at hl 0 rfl) ?_
  refine lv_iload_n hx hb dX10_labelLength_1 rfl (lv_at hl 1 rfl) ?_
  obtain ⟨r1, er1, hf⟩ := xbd_s hf
  refine x_Vi (As := [.int v1]) (rest := []) E.1 (m_X10_isCan l er1) (cwV 1 hts (xgV xU_sub q626 q627 q628 q5 q629) rfl rfl rfl hdX10_isCan ⟨Nat.le_of_ble_eq_true rfl, Nat.le_of_ble_eq_true rfl⟩) h kR_model rfl rfl hl.1 rfl (Nat.le_of_ble_eq_true rfl) dX10_labelLength_2 ⟨Nat.le_of_ble_eq_true rfl, Nat.le_of_ble_eq_true rfl⟩ (fun H locs h => ?_)
  refine lv_if_ne (tgt := 14) hx hb dX10_labelLength_5 (by decide) (fun c2 => ?_) (fun c2 => ?_)
  · replace hf := xif_f hf c2
    refine lv_aload_n hx hb dX10_labelLength_14 rfl (lv_at hl 0 rfl) ?_
    refine lv_iload_n hx hb dX10_labelLength_15 rfl (lv_at hl 1 rfl) ?_
    obtain ⟨r3, er3, hf⟩ := xbd_s hf
    refine x_Vv (As := [.int v1]) (rest := []) E.1 (m_X10_writes l er3) (cwV 1 hts (xgV xU_sub q953 q954 q955 q5 q956) rfl rfl rfl hdX10_writes ⟨Nat.le_of_ble_eq_true rfl, Nat.le_of_ble_eq_true rfl⟩) h kR_model rfl rfl hl.1 rfl (Nat.le_of_ble_eq_true rfl) dX10_labelLength_16 ⟨Nat.le_of_ble_eq_true rfl, Nat.le_of_ble_eq_true rfl⟩ (fun H locs h => ?_)
    refine lv_aload_n hx hb dX10_labelLength_19 rfl (lv_at hl 0 rfl) ?_
    refine lv_aload_n hx hb dX10_labelLength_20 rfl (lv_at hl 0 rfl) ?_
    refine x_get (own := RX10) (ref := "TintDeskModel") (C := RX10) (T := TX10) (n := 20) (index := 174) (v := .int (r3.1.1 0 19)) hx hb hts (fun w h => xU_sub w (inU10 w h)) hown h kR_model rfl 19 (by decide) (hts _ (xU_sub _ q952)) (fun _ h9 => h9) rfl dX10_labelLength_21 ?_
    obtain ⟨r4, er4, hf⟩ := xbd_s hf
    refine x_Vi (As := [.int (r3.1.1 0 19)]) (rest := []) E.1 (m_X10_done l er4) (cwV 1 hts (xgV xU_sub q221 q222 q223 q5 q224) rfl rfl rfl hdX10_done ⟨Nat.le_of_ble_eq_true rfl, Nat.le_of_ble_eq_true rfl⟩) h kR_model rfl rfl hl.1 rfl (Nat.le_of_ble_eq_true rfl) dX10_labelLength_24 ⟨Nat.le_of_ble_eq_true rfl, Nat.le_of_ble_eq_true rfl⟩ (fun H locs h => ?_)
    exact x_iret hx hb h (Option.some.inj hf) hr hlocks dX10_labelLength_27
  · replace hf := xif_t hf c2
    refine lv_aload_n hx hb dX10_labelLength_8 rfl (lv_at hl 0 rfl) ?_
    refine lv_iconst (v := 1) hx hb dX10_labelLength_9 (by decide) ?_
    obtain ⟨r5, er5, hf⟩ := xbd_s hf
    refine x_Vi (As := [.int 1]) (rest := []) E.1 (m_X10_fails l er5) (cwV 1 hts (xgV xU_sub q208 q209 q210 q5 q211) rfl rfl rfl hdX10_fails ⟨Nat.le_of_ble_eq_true rfl, Nat.le_of_ble_eq_true rfl⟩) h kR_model rfl rfl hl.1 rfl (Nat.le_of_ble_eq_true rfl) dX10_labelLength_10 ⟨Nat.le_of_ble_eq_true rfl, Nat.le_of_ble_eq_true rfl⟩ (fun H locs h => ?_)
    exact x_iret hx hb h (Option.some.inj hf) hr hlocks dX10_labelLength_13
theorem hdX10_label : yX10_label.cls = RX10 ∧ yX10_label.cls ≠ "java/lang/invoke/MethodHandle" ∧ yX10_label.cls ≠ "java/lang/invoke/VarHandle" ∧ (parseMethodDescriptor yX10_label.desc).map (fun d => d.parameters.length) = some 2 := by decide +kernel
set_option maxHeartbeats 4000000 in
set_option maxRecDepth 100000 in
theorem m_X10_label (l : Launch) {Γ : xG} {N : Nat} {v1 : Int32} {v2 : Int32} {M : xM} {res : xR} (hf : F_X10_label N v1 v2 M = some res) (sz : Nat) : Met l yX10_label (xWs yX10_label cX10_label 3 (some .char)) ({ frames := 4, cells := 0, slots := 0, locals := 108 } : Room) (va_Pc [.ref (Γ.2.1 0), .int v1, .int v2] (xPre Γ (wR Γ) M sz)) (xCi Γ (wR Γ) 10 res sz) 0 0 (xAd Γ 10 sz) := by
  refine x_met (Qc := fun sz => xCi Γ (wR Γ) 10 res sz) pnX10 wG_W (Nat.le_of_ble_eq_true rfl) (fun p e s m args below meth c _ E h ls hl => ?_) sz
  obtain ⟨⟨hx, hb, hml, hown, hts⟩, hr, hlocks⟩ := id E
  have hl : lv_has ls 3 [(0, .ref (Γ.2.1 0)), (1, .int v1), (2, .int v2)] := hl
  refine lv_aload_n hx hb dX10_label_0 rfl (lv_at hl 0 rfl) ?_
  refine lv_iload_n hx hb dX10_label_1 rfl (lv_at hl 1 rfl) ?_
  obtain ⟨r1, er1, hf⟩ := xbd_s hf
  refine x_Vi (As := [.int v1]) (rest := []) E.1 (m_X10_isCan l er1) (cwV 1 hts (xgV xU_sub q626 q627 q628 q5 q629) rfl rfl rfl hdX10_isCan ⟨Nat.le_of_ble_eq_true rfl, Nat.le_of_ble_eq_true rfl⟩) h kR_model rfl rfl hl.1 rfl (Nat.le_of_ble_eq_true rfl) dX10_label_2 ⟨Nat.le_of_ble_eq_true rfl, Nat.le_of_ble_eq_true rfl⟩ (fun H locs h => ?_)
  refine lv_if_ne (tgt := 15) hx hb dX10_label_5 (by decide) (fun c2 => ?_) (fun c2 => ?_)
  · replace hf := xif_f hf c2
    refine lv_aload_n hx hb dX10_label_15 rfl (lv_at hl 0 rfl) ?_
    refine lv_iload_n hx hb dX10_label_16 rfl (lv_at hl 1 rfl) ?_
    obtain ⟨r3, er3, hf⟩ := xbd_s hf
    refine x_Vv (As := [.int v1]) (rest := []) E.1 (m_X10_writes l er3) (cwV 1 hts (xgV xU_sub q953 q954 q955 q5 q956) rfl rfl rfl hdX10_writes ⟨Nat.le_of_ble_eq_true rfl, Nat.le_of_ble_eq_true rfl⟩) h kR_model rfl rfl hl.1 rfl (Nat.le_of_ble_eq_true rfl) dX10_label_17 ⟨Nat.le_of_ble_eq_true rfl, Nat.le_of_ble_eq_true rfl⟩ (fun H locs h => ?_)
    refine lv_iload_n hx hb dX10_label_20 rfl (lv_at hl 2 rfl) ?_
    refine lv_iconst (v := 0) hx hb dX10_label_21 (by decide) ?_
    refine lv_aload_n hx hb dX10_label_22 rfl (lv_at hl 0 rfl) ?_
    refine x_get (own := RX10) (ref := "TintDeskModel") (C := RX10) (T := TX10) (n := 20) (index := 174) (v := .int (r3.1.1 0 19)) hx hb hts (fun w h => xU_sub w (inU10 w h)) hown h kR_model rfl 19 (by decide) (hts _ (xU_sub _ q952)) (fun _ h9 => h9) rfl dX10_label_23 ?_
    refine lv_iconst (v := 1) hx hb dX10_label_26 (by decide) ?_
    refine lv_isub hx hb dX10_label_27 ?_
    obtain ⟨r4, er4, hf⟩ := xbd_s hf
    refine x_Si (As := [.int v2, .int 0, .int ((r3.1.1 0 19) - 1)]) (rest := []) E.1 (m_X10_in l er4) (cwS 3 hts (xgS xU_sub q205 q206 q5 q207) rfl rfl rfl hdX10_in ⟨Nat.le_of_ble_eq_true rfl, Nat.le_of_ble_eq_true rfl⟩) h rfl hl.1 rfl (Nat.le_of_ble_eq_true rfl) dX10_label_28 ⟨Nat.le_of_ble_eq_true rfl, Nat.le_of_ble_eq_true rfl⟩ (fun H locs h => ?_)
    refine lv_if_ne (tgt := 41) hx hb dX10_label_31 (by decide) (fun c5 => ?_) (fun c5 => ?_)
    · replace hf := xif_f hf c5
      refine lv_aload_n hx hb dX10_label_41 rfl (lv_at hl 0 rfl) ?_
      refine lv_iconst (v := 0) hx hb dX10_label_42 (by decide) ?_
      obtain ⟨M6, eM6, hf⟩ := xl_s hf
      refine x_put (own := RX10) (ref := "TintDeskModel") (C := RX10) (T := TX10) (n := 20) (index := 42) (ty := .int) hx hb hts (fun w h => xU_sub w (inU10 w h)) tyX10 tyX10_ok nmX10 hown h kR_model rfl 0 (by decide) (hts _ (xU_sub _ q212)) (fun _ h9 => h9) rfl (by decide +kernel) rfl rfl (Nat.le_of_ble_eq_true rfl) rfl eM6 dX10_label_43 (fun H locs h => ?_)
      refine lv_aload_n hx hb dX10_label_46 rfl (lv_at hl 0 rfl) ?_
      refine x_get (own := RX10) (ref := "TintDeskModel") (C := RX10) (T := TX10) (n := 20) (index := 39) (v := .ref (Γ.2.1 9)) hx hb hts (fun w h => xU_sub w (inU10 w h)) hown h kR_model rfl 18 (by decide) (hts _ (xU_sub _ q141)) (fun _ h9 => h9) rfl dX10_label_47 ?_
      refine lv_iload_n hx hb dX10_label_50 rfl (lv_at hl 2 rfl) ?_
      obtain ⟨c7, hf⟩ := xck_s hf
      refine x_cald hx hb h kR_paper (xin_in c7) dX10_label_51 ?_
      obtain ⟨c8, hf⟩ := xck_s hf
      exact x_zret hx hb h (Option.some.inj hf) hr hlocks (xch_n c8) dX10_label_52
    · replace hf := xif_t hf c5
      refine lv_aload_n hx hb dX10_label_34 rfl (lv_at hl 0 rfl) ?_
      refine lv_iconst (v := 2) hx hb dX10_label_35 (by decide) ?_
      obtain ⟨r9, er9, hf⟩ := xbd_s hf
      refine x_Vi (As := [.int 2]) (rest := []) E.1 (m_X10_fails l er9) (cwV 1 hts (xgV xU_sub q208 q209 q210 q5 q211) rfl rfl rfl hdX10_fails ⟨Nat.le_of_ble_eq_true rfl, Nat.le_of_ble_eq_true rfl⟩) h kR_model rfl rfl hl.1 rfl (Nat.le_of_ble_eq_true rfl) dX10_label_36 ⟨Nat.le_of_ble_eq_true rfl, Nat.le_of_ble_eq_true rfl⟩ (fun H locs h => ?_)
      refine lv_i2c (v := ((r9.2).toUInt32 % 65536).toInt32) hx hb dX10_label_39 rfl ?_
      obtain ⟨c10, hf⟩ := xck_s hf
      exact x_zret hx hb h (Option.some.inj hf) hr hlocks (xch_n c10) dX10_label_40
  · replace hf := xif_t hf c2
    refine lv_aload_n hx hb dX10_label_8 rfl (lv_at hl 0 rfl) ?_
    refine lv_iconst (v := 1) hx hb dX10_label_9 (by decide) ?_
    obtain ⟨r11, er11, hf⟩ := xbd_s hf
    refine x_Vi (As := [.int 1]) (rest := []) E.1 (m_X10_fails l er11) (cwV 1 hts (xgV xU_sub q208 q209 q210 q5 q211) rfl rfl rfl hdX10_fails ⟨Nat.le_of_ble_eq_true rfl, Nat.le_of_ble_eq_true rfl⟩) h kR_model rfl rfl hl.1 rfl (Nat.le_of_ble_eq_true rfl) dX10_label_10 ⟨Nat.le_of_ble_eq_true rfl, Nat.le_of_ble_eq_true rfl⟩ (fun H locs h => ?_)
    refine lv_i2c (v := ((r11.2).toUInt32 % 65536).toInt32) hx hb dX10_label_13 rfl ?_
    obtain ⟨c12, hf⟩ := xck_s hf
    exact x_zret hx hb h (Option.some.inj hf) hr hlocks (xch_n c12) dX10_label_14
theorem hdX10_sumOf : yX10_sumOf.cls = RX10 ∧ yX10_sumOf.cls ≠ "java/lang/invoke/MethodHandle" ∧ yX10_sumOf.cls ≠ "java/lang/invoke/VarHandle" ∧ (parseMethodDescriptor yX10_sumOf.desc).map (fun d => d.parameters.length) = some 1 := by decide +kernel
set_option maxHeartbeats 4000000 in
set_option maxRecDepth 100000 in
theorem w_X10_sumOf_189 (l : Launch) {p : Program} {e : Env} {s : State} {m : MethodId} {args : Array Value} {below : List Frame} {meth : Method} {c : Code} {Γ : xG} {N : Nat} {res : xR} (E : xEv p s m args meth c RX10 cX10_sumOf 5 (some .int) (xWs yX10_sumOf cX10_sumOf 5 (some .int))) {K_170 : Int32 → Int32 → Int32 → xM → Option xR} (hK_170 : ∀ (v1 : Int32) (v2 : Int32) (v3 : Int32) (M : xM), K_170 v1 v2 v3 M = some res → ∀ (H : Heap) (locs : List Loc) (ls : Array Slot), xH Γ (wR Γ) 10 s M H locs → lv_has ls 5 [(0, .ref (Γ.2.1 0)), (1, .int v1), (2, .int v2), (3, .int v3)] → W p l e ({ frames := 3, cells := 0, slots := 0, locals := 85 } : Room) s m args below meth c H locs 0 0 (MQ below (xCi Γ (wR Γ) 10 res s.heap.size) args s 0 0 (xAd Γ 10 s.heap.size)) (F0 m 170 ls [])) : ∀ (n : Nat) (v1 : Int32) (v2 : Int32) (v3 : Int32) (v4 : Int32) (M : xM), L_X10_sumOf_189 N K_170 n v1 v2 v3 v4 M = some res → ∀ (H : Heap) (locs : List Loc) (ls : Array Slot), xH Γ (wR Γ) 10 s M H locs → lv_has ls 5 [(0, .ref (Γ.2.1 0)), (1, .int v1), (2, .int v2), (3, .int v3), (4, .int v4)] → W p l e ({ frames := 3, cells := 0, slots := 0, locals := 85 } : Room) s m args below meth c H locs 0 0 (MQ below (xCi Γ (wR Γ) 10 res s.heap.size) args s 0 0 (xAd Γ 10 s.heap.size)) (F0 m 189 ls []) := by
  obtain ⟨⟨hx, hb, hml, hown, hts⟩, hr, hlocks⟩ := id E
  intro n
  induction n with
  | zero => intro v1 v2 v3 v4 M hf; cases hf
  | succ n ih =>
    intro v1 v2 v3 v4 M hf H locs ls h hl
    refine lv_iload hx hb dX10_sumOf_189 (lv_at hl 4 rfl) ?_
    refine lv_bipush (v := 8) hx hb dX10_sumOf_191 (by decide) ?_
    refine lv_icmp_ge (tgt := 224) hx hb dX10_sumOf_193 (by decide) (fun c1 => ?_) (fun c1 => ?_)
    · replace hf := xif_t hf c1
      obtain ⟨y2, ey2, hf⟩ := xl_s hf
      refine lv_iinc (v := y2) (lv' := [(3, .int y2), (0, .ref (Γ.2.1 0)), (1, .int v1), (2, .int v2), (4, .int v4)]) hx hb dX10_sumOf_224 hl (k := 3) rfl (by rw [ey2]; rfl) (by decide) rfl (fun ls hl => ?_)
      refine lv_goto (tgt := 170) hx hb dX10_sumOf_227 (by decide) ?_
      exact hK_170 v1 v2 y2 M hf _ _ _ h (lv_sub hl [1, 2, 3, 0] rfl)
    · replace hf := xif_f hf c1
      refine lv_iload_n hx hb dX10_sumOf_196 rfl (lv_at hl 2 rfl) ?_
      refine lv_aload_n hx hb dX10_sumOf_197 rfl (lv_at hl 0 rfl) ?_
      refine x_get (own := RX10) (ref := "TintDeskModel") (C := RX10) (T := TX10) (n := 20) (index := 9) (v := .ref (Γ.2.1 1)) hx hb hts (fun w h => xU_sub w (inU10 w h)) hown h kR_model rfl 1 (by decide) (hts _ (xU_sub _ q132)) (fun _ h9 => h9) rfl dX10_sumOf_198 ?_
      refine lv_sipush (v := 409) hx hb dX10_sumOf_201 (by decide) ?_
      refine lv_bipush (v := 17) hx hb dX10_sumOf_204 (by decide) ?_
      refine lv_iload_n hx hb dX10_sumOf_206 rfl (lv_at hl 3 rfl) ?_
      refine lv_imul hx hb dX10_sumOf_207 ?_
      refine lv_iadd hx hb dX10_sumOf_208 ?_
      refine lv_bipush (v := 9) hx hb dX10_sumOf_209 (by decide) ?_
      refine lv_iadd hx hb dX10_sumOf_211 ?_
      refine lv_iload hx hb dX10_sumOf_212 (lv_at hl 4 rfl) ?_
      refine lv_iadd hx hb dX10_sumOf_214 ?_
      obtain ⟨c3, hf⟩ := xck_s hf
      refine x_iald hx hb h kR_g (xin_in c3) dX10_sumOf_215 ?_
      refine lv_iadd hx hb dX10_sumOf_216 ?_
      obtain ⟨y4, ey4, hf⟩ := xl_s hf
      refine x_nm ey4 ?_
      refine lv_istore_n (lv' := [(2, .int y4), (0, .ref (Γ.2.1 0)), (1, .int v1), (3, .int v3), (4, .int v4)]) hx hb dX10_sumOf_217 rfl hl (by decide) rfl (fun ls hl => ?_)
      obtain ⟨y5, ey5, hf⟩ := xl_s hf
      refine lv_iinc (v := y5) (lv' := [(4, .int y5), (2, .int y4), (0, .ref (Γ.2.1 0)), (1, .int v1), (3, .int v3)]) hx hb dX10_sumOf_218 hl (k := 4) rfl (by rw [ey5]; rfl) (by decide) rfl (fun ls hl => ?_)
      refine lv_goto (tgt := 189) hx hb dX10_sumOf_221 (by decide) ?_
      exact ih v1 y4 v3 y5 M hf _ _ _ h (lv_sub hl [2, 3, 1, 4, 0] rfl)
set_option maxHeartbeats 4000000 in
set_option maxRecDepth 100000 in
theorem w_X10_sumOf_160 (l : Launch) {p : Program} {e : Env} {s : State} {m : MethodId} {args : Array Value} {below : List Frame} {meth : Method} {c : Code} {Γ : xG} {N : Nat} {res : xR} (E : xEv p s m args meth c RX10 cX10_sumOf 5 (some .int) (xWs yX10_sumOf cX10_sumOf 5 (some .int))) {K_119 : Int32 → Int32 → Int32 → xM → Option xR} (hK_119 : ∀ (v1 : Int32) (v2 : Int32) (v3 : Int32) (M : xM), K_119 v1 v2 v3 M = some res → ∀ (H : Heap) (locs : List Loc) (ls : Array Slot), xH Γ (wR Γ) 10 s M H locs → lv_has ls 5 [(0, .ref (Γ.2.1 0)), (1, .int v1), (2, .int v2), (3, .int v3)] → W p l e ({ frames := 3, cells := 0, slots := 0, locals := 85 } : Room) s m args below meth c H locs 0 0 (MQ below (xCi Γ (wR Γ) 10 res s.heap.size) args s 0 0 (xAd Γ 10 s.heap.size)) (F0 m 119 ls [])) : ∀ (v1 : Int32) (v3 : Int32) (t0 : Int32) (t1 : Int32) (M : xM), L_X10_sumOf_160 N K_119 v1 v3 t0 t1 M = some res → ∀ (H : Heap) (locs : List Loc) (ls : Array Slot), xH Γ (wR Γ) 10 s M H locs → lv_has ls 5 [(0, .ref (Γ.2.1 0)), (1, .int v1), (3, .int v3)] → W p l e ({ frames := 3, cells := 0, slots := 0, locals := 85 } : Room) s m args below meth c H locs 0 0 (MQ below (xCi Γ (wR Γ) 10 res s.heap.size) args s 0 0 (xAd Γ 10 s.heap.size)) (F0 m 160 ls [.int t0, .int t1]) := by
  obtain ⟨⟨hx, hb, hml, hown, hts⟩, hr, hlocks⟩ := id E
  intro v1 v3 t0 t1 M hf H locs ls h hl
  refine lv_iadd hx hb dX10_sumOf_160 ?_
  obtain ⟨y1, ey1, hf⟩ := xl_s hf
  refine x_nm ey1 ?_
  refine lv_istore_n (lv' := [(2, .int y1), (0, .ref (Γ.2.1 0)), (1, .int v1), (3, .int v3)]) hx hb dX10_sumOf_161 rfl hl (by decide) rfl (fun ls hl => ?_)
  obtain ⟨y2, ey2, hf⟩ := xl_s hf
  refine lv_iinc (v := y2) (lv' := [(3, .int y2), (2, .int y1), (0, .ref (Γ.2.1 0)), (1, .int v1)]) hx hb dX10_sumOf_162 hl (k := 3) rfl (by rw [ey2]; rfl) (by decide) rfl (fun ls hl => ?_)
  refine lv_goto (tgt := 119) hx hb dX10_sumOf_165 (by decide) ?_
  exact hK_119 v1 y1 y2 M hf _ _ _ h (lv_sub hl [2, 3, 1, 0] rfl)
set_option maxHeartbeats 4000000 in
set_option maxRecDepth 100000 in
theorem w_X10_sumOf_170 (l : Launch) {p : Program} {e : Env} {s : State} {m : MethodId} {args : Array Value} {below : List Frame} {meth : Method} {c : Code} {Γ : xG} {N : Nat} {res : xR} (E : xEv p s m args meth c RX10 cX10_sumOf 5 (some .int) (xWs yX10_sumOf cX10_sumOf 5 (some .int))) : ∀ (n : Nat) (v1 : Int32) (v2 : Int32) (v3 : Int32) (M : xM), L_X10_sumOf_170 N n v1 v2 v3 M = some res → ∀ (H : Heap) (locs : List Loc) (ls : Array Slot), xH Γ (wR Γ) 10 s M H locs → lv_has ls 5 [(0, .ref (Γ.2.1 0)), (1, .int v1), (2, .int v2), (3, .int v3)] → W p l e ({ frames := 3, cells := 0, slots := 0, locals := 85 } : Room) s m args below meth c H locs 0 0 (MQ below (xCi Γ (wR Γ) 10 res s.heap.size) args s 0 0 (xAd Γ 10 s.heap.size)) (F0 m 170 ls []) := by
  obtain ⟨⟨hx, hb, hml, hown, hts⟩, hr, hlocks⟩ := id E
  intro n
  induction n with
  | zero => intro v1 v2 v3 M hf; cases hf
  | succ n ih =>
    intro v1 v2 v3 M hf H locs ls h hl
    refine lv_iload_n hx hb dX10_sumOf_170 rfl (lv_at hl 3 rfl) ?_
    refine lv_aload_n hx hb dX10_sumOf_171 rfl (lv_at hl 0 rfl) ?_
    refine x_get (own := RX10) (ref := "TintDeskModel") (C := RX10) (T := TX10) (n := 20) (index := 9) (v := .ref (Γ.2.1 1)) hx hb hts (fun w h => xU_sub w (inU10 w h)) hown h kR_model rfl 1 (by decide) (hts _ (xU_sub _ q132)) (fun _ h9 => h9) rfl dX10_sumOf_172 ?_
    refine lv_iconst (v := 2) hx hb dX10_sumOf_175 (by decide) ?_
    refine x_iald hx hb h kR_g (xin_in (by decide)) dX10_sumOf_176 ?_
    refine lv_icmp_ge (tgt := 230) hx hb dX10_sumOf_177 (by decide) (fun c1 => ?_) (fun c1 => ?_)
    · replace hf := xif_t hf c1
      refine lv_iload_n hx hb dX10_sumOf_230 rfl (lv_at hl 2 rfl) ?_
      exact x_iret hx hb h (Option.some.inj hf) hr hlocks dX10_sumOf_231
    · replace hf := xif_f hf c1
      refine lv_iload_n hx hb dX10_sumOf_180 rfl (lv_at hl 1 rfl) ?_
      refine lv_bipush (v := 10) hx hb dX10_sumOf_181 (by decide) ?_
      refine lv_icmp_ne (tgt := 230) hx hb dX10_sumOf_183 (by decide) (fun c2 => ?_) (fun c2 => ?_)
      · replace hf := xif_f hf c2
        refine lv_iload_n hx hb dX10_sumOf_230 rfl (lv_at hl 2 rfl) ?_
        exact x_iret hx hb h (Option.some.inj hf) hr hlocks dX10_sumOf_231
      · replace hf := xif_t hf c2
        refine lv_iconst (v := 0) hx hb dX10_sumOf_186 (by decide) ?_
        refine lv_istore (lv' := [(4, .int 0), (0, .ref (Γ.2.1 0)), (1, .int v1), (2, .int v2), (3, .int v3)]) hx hb dX10_sumOf_187 hl (by decide) rfl (fun ls hl => ?_)
        exact w_X10_sumOf_189 l E (ih) N v1 v2 v3 0 M hf _ _ _ h (lv_sub hl [1, 2, 3, 4, 0] rfl)
set_option maxHeartbeats 4000000 in
set_option maxRecDepth 100000 in
theorem w_X10_sumOf_119 (l : Launch) {p : Program} {e : Env} {s : State} {m : MethodId} {args : Array Value} {below : List Frame} {meth : Method} {c : Code} {Γ : xG} {N : Nat} {res : xR} (E : xEv p s m args meth c RX10 cX10_sumOf 5 (some .int) (xWs yX10_sumOf cX10_sumOf 5 (some .int))) : ∀ (n : Nat) (v1 : Int32) (v2 : Int32) (v3 : Int32) (M : xM), L_X10_sumOf_119 N n v1 v2 v3 M = some res → ∀ (H : Heap) (locs : List Loc) (ls : Array Slot), xH Γ (wR Γ) 10 s M H locs → lv_has ls 5 [(0, .ref (Γ.2.1 0)), (1, .int v1), (2, .int v2), (3, .int v3)] → W p l e ({ frames := 3, cells := 0, slots := 0, locals := 85 } : Room) s m args below meth c H locs 0 0 (MQ below (xCi Γ (wR Γ) 10 res s.heap.size) args s 0 0 (xAd Γ 10 s.heap.size)) (F0 m 119 ls []) := by
  obtain ⟨⟨hx, hb, hml, hown, hts⟩, hr, hlocks⟩ := id E
  intro n
  induction n with
  | zero => intro v1 v2 v3 M hf; cases hf
  | succ n ih =>
    intro v1 v2 v3 M hf H locs ls h hl
    refine lv_iload_n hx hb dX10_sumOf_119 rfl (lv_at hl 3 rfl) ?_
    refine lv_aload_n hx hb dX10_sumOf_120 rfl (lv_at hl 0 rfl) ?_
    refine x_get (own := RX10) (ref := "TintDeskModel") (C := RX10) (T := TX10) (n := 20) (index := 9) (v := .ref (Γ.2.1 1)) hx hb hts (fun w h => xU_sub w (inU10 w h)) hown h kR_model rfl 1 (by decide) (hts _ (xU_sub _ q132)) (fun _ h9 => h9) rfl dX10_sumOf_121 ?_
    refine lv_iconst (v := 3) hx hb dX10_sumOf_124 (by decide) ?_
    refine x_iald hx hb h kR_g (xin_in (by decide)) dX10_sumOf_125 ?_
    refine lv_icmp_ge (tgt := 168) hx hb dX10_sumOf_126 (by decide) (fun c1 => ?_) (fun c1 => ?_)
    · replace hf := xif_t hf c1
      refine lv_iconst (v := 0) hx hb dX10_sumOf_168 (by decide) ?_
      refine lv_istore_n (lv' := [(3, .int 0), (0, .ref (Γ.2.1 0)), (1, .int v1), (2, .int v2)]) hx hb dX10_sumOf_169 rfl hl (by decide) rfl (fun ls hl => ?_)
      exact w_X10_sumOf_170 l E N v1 v2 0 M hf _ _ _ h (lv_sub hl [1, 2, 3, 0] rfl)
    · replace hf := xif_f hf c1
      refine lv_iload_n hx hb dX10_sumOf_129 rfl (lv_at hl 2 rfl) ?_
      refine lv_iload_n hx hb dX10_sumOf_130 rfl (lv_at hl 1 rfl) ?_
      refine lv_iconst (v := 5) hx hb dX10_sumOf_131 (by decide) ?_
      refine lv_icmp_ne (tgt := 143) hx hb dX10_sumOf_132 (by decide) (fun c2 => ?_) (fun c2 => ?_)
      · replace hf := xif_f hf c2
        refine lv_iload_n hx hb dX10_sumOf_143 rfl (lv_at hl 1 rfl) ?_
        refine lv_bipush (v := 9) hx hb dX10_sumOf_144 (by decide) ?_
        refine lv_icmp_ne (tgt := 159) hx hb dX10_sumOf_146 (by decide) (fun c3 => ?_) (fun c3 => ?_)
        · replace hf := xif_f hf c3
          refine lv_iconst (v := 0) hx hb dX10_sumOf_159 (by decide) ?_
          exact w_X10_sumOf_160 l E (ih) v1 v3 0 v2 M hf _ _ _ h (lv_sub hl [0, 1, 3] rfl)
        · replace hf := xif_t hf c3
          refine lv_aload_n hx hb dX10_sumOf_149 rfl (lv_at hl 0 rfl) ?_
          refine lv_iload_n hx hb dX10_sumOf_150 rfl (lv_at hl 3 rfl) ?_
          refine lv_bipush (v := 10) hx hb dX10_sumOf_151 (by decide) ?_
          obtain ⟨r4, er4, hf⟩ := xbd_s hf
          refine x_Vi (As := [.int v3, .int 10]) (rest := [.int v2]) E.1 (m_X10_canAt l er4) (cwV 2 hts (xgV xU_sub q630 q631 q632 q5 q633) rfl rfl rfl hdX10_canAt ⟨Nat.le_of_ble_eq_true rfl, Nat.le_of_ble_eq_true rfl⟩) h kR_model rfl rfl hl.1 rfl (Nat.le_of_ble_eq_true rfl) dX10_sumOf_153 ⟨Nat.le_of_ble_eq_true rfl, Nat.le_of_ble_eq_true rfl⟩ (fun H locs h => ?_)
          refine lv_goto (tgt := 160) hx hb dX10_sumOf_156 (by decide) ?_
          exact w_X10_sumOf_160 l E (ih) v1 v3 (r4.2) v2 r4.1 hf _ _ _ h (lv_sub hl [0, 1, 3] rfl)
      · replace hf := xif_t hf c2
        refine lv_aload_n hx hb dX10_sumOf_135 rfl (lv_at hl 0 rfl) ?_
        refine lv_iload_n hx hb dX10_sumOf_136 rfl (lv_at hl 3 rfl) ?_
        obtain ⟨r5, er5, hf⟩ := xbd_s hf
        refine x_Vi (As := [.int v3]) (rest := [.int v2]) E.1 (m_X10_allIn l er5) (cwV 1 hts (xgV xU_sub q774 q775 q776 q5 q777) rfl rfl rfl hdX10_allIn ⟨Nat.le_of_ble_eq_true rfl, Nat.le_of_ble_eq_true rfl⟩) h kR_model rfl rfl hl.1 rfl (Nat.le_of_ble_eq_true rfl) dX10_sumOf_137 ⟨Nat.le_of_ble_eq_true rfl, Nat.le_of_ble_eq_true rfl⟩ (fun H locs h => ?_)
        refine lv_goto (tgt := 160) hx hb dX10_sumOf_140 (by decide) ?_
        exact w_X10_sumOf_160 l E (ih) v1 v3 (r5.2) v2 r5.1 hf _ _ _ h (lv_sub hl [0, 1, 3] rfl)
set_option maxHeartbeats 4000000 in
set_option maxRecDepth 100000 in
theorem w_X10_sumOf_117 (l : Launch) {p : Program} {e : Env} {s : State} {m : MethodId} {args : Array Value} {below : List Frame} {meth : Method} {c : Code} {Γ : xG} {N : Nat} {res : xR} (E : xEv p s m args meth c RX10 cX10_sumOf 5 (some .int) (xWs yX10_sumOf cX10_sumOf 5 (some .int))) : ∀ (v1 : Int32) (v2 : Int32) (M : xM), L_X10_sumOf_117 N v1 v2 M = some res → ∀ (H : Heap) (locs : List Loc) (ls : Array Slot), xH Γ (wR Γ) 10 s M H locs → lv_has ls 5 [(0, .ref (Γ.2.1 0)), (1, .int v1), (2, .int v2)] → W p l e ({ frames := 3, cells := 0, slots := 0, locals := 85 } : Room) s m args below meth c H locs 0 0 (MQ below (xCi Γ (wR Γ) 10 res s.heap.size) args s 0 0 (xAd Γ 10 s.heap.size)) (F0 m 117 ls []) := by
  obtain ⟨⟨hx, hb, hml, hown, hts⟩, hr, hlocks⟩ := id E
  intro v1 v2 M hf H locs ls h hl
  refine lv_iconst (v := 0) hx hb dX10_sumOf_117 (by decide) ?_
  refine lv_istore_n (lv' := [(3, .int 0), (0, .ref (Γ.2.1 0)), (1, .int v1), (2, .int v2)]) hx hb dX10_sumOf_118 rfl hl (by decide) rfl (fun ls hl => ?_)
  exact w_X10_sumOf_119 l E N v1 v2 0 M hf _ _ _ h (lv_sub hl [1, 2, 3, 0] rfl)
set_option maxHeartbeats 4000000 in
set_option maxRecDepth 100000 in
theorem w_X10_sumOf_76 (l : Launch) {p : Program} {e : Env} {s : State} {m : MethodId} {args : Array Value} {below : List Frame} {meth : Method} {c : Code} {Γ : xG} {N : Nat} {res : xR} (E : xEv p s m args meth c RX10 cX10_sumOf 5 (some .int) (xWs yX10_sumOf cX10_sumOf 5 (some .int))) {K_4 : Int32 → Int32 → Int32 → xM → Option xR} (hK_4 : ∀ (v1 : Int32) (v2 : Int32) (v3 : Int32) (M : xM), K_4 v1 v2 v3 M = some res → ∀ (H : Heap) (locs : List Loc) (ls : Array Slot), xH Γ (wR Γ) 10 s M H locs → lv_has ls 5 [(0, .ref (Γ.2.1 0)), (1, .int v1), (2, .int v2), (3, .int v3)] → W p l e ({ frames := 3, cells := 0, slots := 0, locals := 85 } : Room) s m args below meth c H locs 0 0 (MQ below (xCi Γ (wR Γ) 10 res s.heap.size) args s 0 0 (xAd Γ 10 s.heap.size)) (F0 m 4 ls [])) : ∀ (v1 : Int32) (v3 : Int32) (t0 : Int32) (t1 : Int32) (M : xM), L_X10_sumOf_76 N K_4 v1 v3 t0 t1 M = some res → ∀ (H : Heap) (locs : List Loc) (ls : Array Slot), xH Γ (wR Γ) 10 s M H locs → lv_has ls 5 [(0, .ref (Γ.2.1 0)), (1, .int v1), (3, .int v3)] → W p l e ({ frames := 3, cells := 0, slots := 0, locals := 85 } : Room) s m args below meth c H locs 0 0 (MQ below (xCi Γ (wR Γ) 10 res s.heap.size) args s 0 0 (xAd Γ 10 s.heap.size)) (F0 m 76 ls [.int t0, .int t1]) := by
  obtain ⟨⟨hx, hb, hml, hown, hts⟩, hr, hlocks⟩ := id E
  intro v1 v3 t0 t1 M hf H locs ls h hl
  refine lv_iadd hx hb dX10_sumOf_76 ?_
  obtain ⟨y1, ey1, hf⟩ := xl_s hf
  refine x_nm ey1 ?_
  refine lv_istore_n (lv' := [(2, .int y1), (0, .ref (Γ.2.1 0)), (1, .int v1), (3, .int v3)]) hx hb dX10_sumOf_77 rfl hl (by decide) rfl (fun ls hl => ?_)
  obtain ⟨y2, ey2, hf⟩ := xl_s hf
  refine lv_iinc (v := y2) (lv' := [(3, .int y2), (2, .int y1), (0, .ref (Γ.2.1 0)), (1, .int v1)]) hx hb dX10_sumOf_78 hl (k := 3) rfl (by rw [ey2]; rfl) (by decide) rfl (fun ls hl => ?_)
  refine lv_goto (tgt := 4) hx hb dX10_sumOf_81 (by decide) ?_
  exact hK_4 v1 y1 y2 M hf _ _ _ h (lv_sub hl [2, 3, 1, 0] rfl)
set_option maxHeartbeats 4000000 in
set_option maxRecDepth 100000 in
theorem w_X10_sumOf_86 (l : Launch) {p : Program} {e : Env} {s : State} {m : MethodId} {args : Array Value} {below : List Frame} {meth : Method} {c : Code} {Γ : xG} {N : Nat} {res : xR} (E : xEv p s m args meth c RX10 cX10_sumOf 5 (some .int) (xWs yX10_sumOf cX10_sumOf 5 (some .int))) : ∀ (n : Nat) (v1 : Int32) (v2 : Int32) (v3 : Int32) (M : xM), L_X10_sumOf_86 N n v1 v2 v3 M = some res → ∀ (H : Heap) (locs : List Loc) (ls : Array Slot), xH Γ (wR Γ) 10 s M H locs → lv_has ls 5 [(0, .ref (Γ.2.1 0)), (1, .int v1), (2, .int v2), (3, .int v3)] → W p l e ({ frames := 3, cells := 0, slots := 0, locals := 85 } : Room) s m args below meth c H locs 0 0 (MQ below (xCi Γ (wR Γ) 10 res s.heap.size) args s 0 0 (xAd Γ 10 s.heap.size)) (F0 m 86 ls []) := by
  obtain ⟨⟨hx, hb, hml, hown, hts⟩, hr, hlocks⟩ := id E
  intro n
  induction n with
  | zero => intro v1 v2 v3 M hf; cases hf
  | succ n ih =>
    intro v1 v2 v3 M hf H locs ls h hl
    refine lv_iload_n hx hb dX10_sumOf_86 rfl (lv_at hl 3 rfl) ?_
    refine lv_aload_n hx hb dX10_sumOf_87 rfl (lv_at hl 0 rfl) ?_
    refine x_get (own := RX10) (ref := "TintDeskModel") (C := RX10) (T := TX10) (n := 20) (index := 9) (v := .ref (Γ.2.1 1)) hx hb hts (fun w h => xU_sub w (inU10 w h)) hown h kR_model rfl 1 (by decide) (hts _ (xU_sub _ q132)) (fun _ h9 => h9) rfl dX10_sumOf_88 ?_
    refine lv_iconst (v := 1) hx hb dX10_sumOf_91 (by decide) ?_
    refine x_iald hx hb h kR_g (xin_in (by decide)) dX10_sumOf_92 ?_
    refine lv_icmp_ge (tgt := 117) hx hb dX10_sumOf_93 (by decide) (fun c1 => ?_) (fun c1 => ?_)
    · replace hf := xif_t hf c1
      exact w_X10_sumOf_117 l E v1 v2 M hf _ _ _ h (lv_sub hl [0, 1, 2] rfl)
    · replace hf := xif_f hf c1
      refine lv_iload_n hx hb dX10_sumOf_96 rfl (lv_at hl 1 rfl) ?_
      refine lv_bipush (v := 8) hx hb dX10_sumOf_97 (by decide) ?_
      refine lv_icmp_ne (tgt := 117) hx hb dX10_sumOf_99 (by decide) (fun c2 => ?_) (fun c2 => ?_)
      · replace hf := xif_f hf c2
        exact w_X10_sumOf_117 l E v1 v2 M hf _ _ _ h (lv_sub hl [0, 1, 2] rfl)
      · replace hf := xif_t hf c2
        refine lv_iload_n hx hb dX10_sumOf_102 rfl (lv_at hl 2 rfl) ?_
        refine lv_aload_n hx hb dX10_sumOf_103 rfl (lv_at hl 0 rfl) ?_
        refine lv_iload_n hx hb dX10_sumOf_104 rfl (lv_at hl 3 rfl) ?_
        refine lv_iconst (v := 4) hx hb dX10_sumOf_105 (by decide) ?_
        obtain ⟨r3, er3, hf⟩ := xbd_s hf
        refine x_Vi (As := [.int v3, .int 4]) (rest := [.int v2]) E.1 (m_X10_baseAt l er3) (cwV 2 hts (xgV xU_sub q412 q413 q414 q5 q415) rfl rfl rfl hdX10_baseAt ⟨Nat.le_of_ble_eq_true rfl, Nat.le_of_ble_eq_true rfl⟩) h kR_model rfl rfl hl.1 rfl (Nat.le_of_ble_eq_true rfl) dX10_sumOf_106 ⟨Nat.le_of_ble_eq_true rfl, Nat.le_of_ble_eq_true rfl⟩ (fun H locs h => ?_)
        refine lv_iadd hx hb dX10_sumOf_109 ?_
        obtain ⟨y4, ey4, hf⟩ := xl_s hf
        refine x_nm ey4 ?_
        refine lv_istore_n (lv' := [(2, .int y4), (0, .ref (Γ.2.1 0)), (1, .int v1), (3, .int v3)]) hx hb dX10_sumOf_110 rfl hl (by decide) rfl (fun ls hl => ?_)
        obtain ⟨y5, ey5, hf⟩ := xl_s hf
        refine lv_iinc (v := y5) (lv' := [(3, .int y5), (2, .int y4), (0, .ref (Γ.2.1 0)), (1, .int v1)]) hx hb dX10_sumOf_111 hl (k := 3) rfl (by rw [ey5]; rfl) (by decide) rfl (fun ls hl => ?_)
        refine lv_goto (tgt := 86) hx hb dX10_sumOf_114 (by decide) ?_
        exact ih v1 y4 y5 r3.1 hf _ _ _ h (lv_sub hl [2, 3, 1, 0] rfl)
set_option maxHeartbeats 4000000 in
set_option maxRecDepth 100000 in
theorem w_X10_sumOf_4 (l : Launch) {p : Program} {e : Env} {s : State} {m : MethodId} {args : Array Value} {below : List Frame} {meth : Method} {c : Code} {Γ : xG} {N : Nat} {res : xR} (E : xEv p s m args meth c RX10 cX10_sumOf 5 (some .int) (xWs yX10_sumOf cX10_sumOf 5 (some .int))) : ∀ (n : Nat) (v1 : Int32) (v2 : Int32) (v3 : Int32) (M : xM), L_X10_sumOf_4 N n v1 v2 v3 M = some res → ∀ (H : Heap) (locs : List Loc) (ls : Array Slot), xH Γ (wR Γ) 10 s M H locs → lv_has ls 5 [(0, .ref (Γ.2.1 0)), (1, .int v1), (2, .int v2), (3, .int v3)] → W p l e ({ frames := 3, cells := 0, slots := 0, locals := 85 } : Room) s m args below meth c H locs 0 0 (MQ below (xCi Γ (wR Γ) 10 res s.heap.size) args s 0 0 (xAd Γ 10 s.heap.size)) (F0 m 4 ls []) := by
  obtain ⟨⟨hx, hb, hml, hown, hts⟩, hr, hlocks⟩ := id E
  intro n
  induction n with
  | zero => intro v1 v2 v3 M hf; cases hf
  | succ n ih =>
    intro v1 v2 v3 M hf H locs ls h hl
    refine lv_iload_n hx hb dX10_sumOf_4 rfl (lv_at hl 3 rfl) ?_
    refine lv_aload_n hx hb dX10_sumOf_5 rfl (lv_at hl 0 rfl) ?_
    refine x_get (own := RX10) (ref := "TintDeskModel") (C := RX10) (T := TX10) (n := 20) (index := 9) (v := .ref (Γ.2.1 1)) hx hb hts (fun w h => xU_sub w (inU10 w h)) hown h kR_model rfl 1 (by decide) (hts _ (xU_sub _ q132)) (fun _ h9 => h9) rfl dX10_sumOf_6 ?_
    refine lv_iconst (v := 0) hx hb dX10_sumOf_9 (by decide) ?_
    refine x_iald hx hb h kR_g (xin_in (by decide)) dX10_sumOf_10 ?_
    refine lv_icmp_ge (tgt := 84) hx hb dX10_sumOf_11 (by decide) (fun c1 => ?_) (fun c1 => ?_)
    · replace hf := xif_t hf c1
      refine lv_iconst (v := 0) hx hb dX10_sumOf_84 (by decide) ?_
      refine lv_istore_n (lv' := [(3, .int 0), (0, .ref (Γ.2.1 0)), (1, .int v1), (2, .int v2)]) hx hb dX10_sumOf_85 rfl hl (by decide) rfl (fun ls hl => ?_)
      exact w_X10_sumOf_86 l E N v1 v2 0 M hf _ _ _ h (lv_sub hl [1, 2, 3, 0] rfl)
    · replace hf := xif_f hf c1
      refine lv_iload_n hx hb dX10_sumOf_14 rfl (lv_at hl 2 rfl) ?_
      refine lv_iload_n hx hb dX10_sumOf_15 rfl (lv_at hl 1 rfl) ?_
      refine lv_iconst (v := 4) hx hb dX10_sumOf_16 (by decide) ?_
      refine lv_icmp_ne (tgt := 28) hx hb dX10_sumOf_17 (by decide) (fun c2 => ?_) (fun c2 => ?_)
      · replace hf := xif_f hf c2
        refine lv_iload_n hx hb dX10_sumOf_28 rfl (lv_at hl 1 rfl) ?_
        refine lv_bipush (v := 6) hx hb dX10_sumOf_29 (by decide) ?_
        refine lv_icmp_ne (tgt := 43) hx hb dX10_sumOf_31 (by decide) (fun c3 => ?_) (fun c3 => ?_)
        · replace hf := xif_f hf c3
          refine lv_iload_n hx hb dX10_sumOf_43 rfl (lv_at hl 1 rfl) ?_
          refine lv_bipush (v := 7) hx hb dX10_sumOf_44 (by decide) ?_
          refine lv_icmp_ne (tgt := 59) hx hb dX10_sumOf_46 (by decide) (fun c4 => ?_) (fun c4 => ?_)
          · replace hf := xif_f hf c4
            refine lv_iload_n hx hb dX10_sumOf_59 rfl (lv_at hl 1 rfl) ?_
            refine lv_bipush (v := 11) hx hb dX10_sumOf_60 (by decide) ?_
            refine lv_icmp_ne (tgt := 75) hx hb dX10_sumOf_62 (by decide) (fun c5 => ?_) (fun c5 => ?_)
            · replace hf := xif_f hf c5
              refine lv_iconst (v := 0) hx hb dX10_sumOf_75 (by decide) ?_
              exact w_X10_sumOf_76 l E (ih) v1 v3 0 v2 M hf _ _ _ h (lv_sub hl [0, 1, 3] rfl)
            · replace hf := xif_t hf c5
              refine lv_aload_n hx hb dX10_sumOf_65 rfl (lv_at hl 0 rfl) ?_
              refine lv_iload_n hx hb dX10_sumOf_66 rfl (lv_at hl 3 rfl) ?_
              refine lv_bipush (v := 43) hx hb dX10_sumOf_67 (by decide) ?_
              obtain ⟨r6, er6, hf⟩ := xbd_s hf
              refine x_Vi (As := [.int v3, .int 43]) (rest := [.int v2]) E.1 (m_X10_colorantAt l er6) (cwV 2 hts (xgV xU_sub q253 q254 q255 q5 q256) rfl rfl rfl hdX10_colorantAt ⟨Nat.le_of_ble_eq_true rfl, Nat.le_of_ble_eq_true rfl⟩) h kR_model rfl rfl hl.1 rfl (Nat.le_of_ble_eq_true rfl) dX10_sumOf_69 ⟨Nat.le_of_ble_eq_true rfl, Nat.le_of_ble_eq_true rfl⟩ (fun H locs h => ?_)
              refine lv_goto (tgt := 76) hx hb dX10_sumOf_72 (by decide) ?_
              exact w_X10_sumOf_76 l E (ih) v1 v3 (r6.2) v2 r6.1 hf _ _ _ h (lv_sub hl [0, 1, 3] rfl)
          · replace hf := xif_t hf c4
            refine lv_aload_n hx hb dX10_sumOf_49 rfl (lv_at hl 0 rfl) ?_
            refine lv_iload_n hx hb dX10_sumOf_50 rfl (lv_at hl 3 rfl) ?_
            refine lv_bipush (v := 6) hx hb dX10_sumOf_51 (by decide) ?_
            obtain ⟨r7, er7, hf⟩ := xbd_s hf
            refine x_Vi (As := [.int v3, .int 6]) (rest := [.int v2]) E.1 (m_X10_colorantAt l er7) (cwV 2 hts (xgV xU_sub q253 q254 q255 q5 q256) rfl rfl rfl hdX10_colorantAt ⟨Nat.le_of_ble_eq_true rfl, Nat.le_of_ble_eq_true rfl⟩) h kR_model rfl rfl hl.1 rfl (Nat.le_of_ble_eq_true rfl) dX10_sumOf_53 ⟨Nat.le_of_ble_eq_true rfl, Nat.le_of_ble_eq_true rfl⟩ (fun H locs h => ?_)
            refine lv_goto (tgt := 76) hx hb dX10_sumOf_56 (by decide) ?_
            exact w_X10_sumOf_76 l E (ih) v1 v3 (r7.2) v2 r7.1 hf _ _ _ h (lv_sub hl [0, 1, 3] rfl)
        · replace hf := xif_t hf c3
          refine lv_aload_n hx hb dX10_sumOf_34 rfl (lv_at hl 0 rfl) ?_
          refine lv_iload_n hx hb dX10_sumOf_35 rfl (lv_at hl 3 rfl) ?_
          refine lv_iconst (v := 4) hx hb dX10_sumOf_36 (by decide) ?_
          obtain ⟨r8, er8, hf⟩ := xbd_s hf
          refine x_Vi (As := [.int v3, .int 4]) (rest := [.int v2]) E.1 (m_X10_colorantAt l er8) (cwV 2 hts (xgV xU_sub q253 q254 q255 q5 q256) rfl rfl rfl hdX10_colorantAt ⟨Nat.le_of_ble_eq_true rfl, Nat.le_of_ble_eq_true rfl⟩) h kR_model rfl rfl hl.1 rfl (Nat.le_of_ble_eq_true rfl) dX10_sumOf_37 ⟨Nat.le_of_ble_eq_true rfl, Nat.le_of_ble_eq_true rfl⟩ (fun H locs h => ?_)
          refine lv_goto (tgt := 76) hx hb dX10_sumOf_40 (by decide) ?_
          exact w_X10_sumOf_76 l E (ih) v1 v3 (r8.2) v2 r8.1 hf _ _ _ h (lv_sub hl [0, 1, 3] rfl)
      · replace hf := xif_t hf c2
        refine lv_aload_n hx hb dX10_sumOf_20 rfl (lv_at hl 0 rfl) ?_
        refine lv_iload_n hx hb dX10_sumOf_21 rfl (lv_at hl 3 rfl) ?_
        obtain ⟨r9, er9, hf⟩ := xbd_s hf
        refine x_Vi (As := [.int v3]) (rest := [.int v2]) E.1 (m_X10_inCanister l er9) (cwV 1 hts (xgV xU_sub q293 q294 q295 q5 q296) rfl rfl rfl hdX10_inCanister ⟨Nat.le_of_ble_eq_true rfl, Nat.le_of_ble_eq_true rfl⟩) h kR_model rfl rfl hl.1 rfl (Nat.le_of_ble_eq_true rfl) dX10_sumOf_22 ⟨Nat.le_of_ble_eq_true rfl, Nat.le_of_ble_eq_true rfl⟩ (fun H locs h => ?_)
        refine lv_goto (tgt := 76) hx hb dX10_sumOf_25 (by decide) ?_
        exact w_X10_sumOf_76 l E (ih) v1 v3 (r9.2) v2 r9.1 hf _ _ _ h (lv_sub hl [0, 1, 3] rfl)
set_option maxHeartbeats 4000000 in
set_option maxRecDepth 100000 in
theorem m_X10_sumOf (l : Launch) {Γ : xG} {N : Nat} {v1 : Int32} {M : xM} {res : xR} (hf : F_X10_sumOf N v1 M = some res) (sz : Nat) : Met l yX10_sumOf (xWs yX10_sumOf cX10_sumOf 5 (some .int)) ({ frames := 3, cells := 0, slots := 0, locals := 85 } : Room) (va_Pc [.ref (Γ.2.1 0), .int v1] (xPre Γ (wR Γ) M sz)) (xCi Γ (wR Γ) 10 res sz) 0 0 (xAd Γ 10 sz) := by
  refine x_met (Qc := fun sz => xCi Γ (wR Γ) 10 res sz) pnX10 wG_W (Nat.le_of_ble_eq_true rfl) (fun p e s m args below meth c _ E h ls hl => ?_) sz
  obtain ⟨⟨hx, hb, hml, hown, hts⟩, hr, hlocks⟩ := id E
  have hl : lv_has ls 5 [(0, .ref (Γ.2.1 0)), (1, .int v1)] := hl
  refine lv_iconst (v := 0) hx hb dX10_sumOf_0 (by decide) ?_
  refine lv_istore_n (lv' := [(2, .int 0), (0, .ref (Γ.2.1 0)), (1, .int v1)]) hx hb dX10_sumOf_1 rfl hl (by decide) rfl (fun ls hl => ?_)
  refine lv_iconst (v := 0) hx hb dX10_sumOf_2 (by decide) ?_
  refine lv_istore_n (lv' := [(3, .int 0), (2, .int 0), (0, .ref (Γ.2.1 0)), (1, .int v1)]) hx hb dX10_sumOf_3 rfl hl (by decide) rfl (fun ls hl => ?_)
  exact w_X10_sumOf_4 l E N v1 0 0 M hf _ _ _ h (lv_sub hl [2, 3, 1, 0] rfl)
theorem hdX10_account : yX10_account.cls = RX10 ∧ yX10_account.cls ≠ "java/lang/invoke/MethodHandle" ∧ yX10_account.cls ≠ "java/lang/invoke/VarHandle" ∧ (parseMethodDescriptor yX10_account.desc).map (fun d => d.parameters.length) = some 1 := by decide +kernel
set_option maxHeartbeats 4000000 in
set_option maxRecDepth 100000 in
theorem m_X10_account (l : Launch) {Γ : xG} {N : Nat} {v1 : Int32} {M : xM} {res : xR} (hf : F_X10_account N v1 M = some res) (sz : Nat) : Met l yX10_account (xWs yX10_account cX10_account 2 (some .int)) ({ frames := 4, cells := 0, slots := 0, locals := 109 } : Room) (va_Pc [.ref (Γ.2.1 0), .int v1] (xPre Γ (wR Γ) M sz)) (xCi Γ (wR Γ) 10 res sz) 0 0 (xAd Γ 10 sz) := by
  refine x_met (Qc := fun sz => xCi Γ (wR Γ) 10 res sz) pnX10 wG_W (Nat.le_of_ble_eq_true rfl) (fun p e s m args below meth c _ E h ls hl => ?_) sz
  obtain ⟨⟨hx, hb, hml, hown, hts⟩, hr, hlocks⟩ := id E
  have hl : lv_has ls 2 [(0, .ref (Γ.2.1 0)), (1, .int v1)] := hl
  refine lv_iload_n hx hb dX10_account_0 rfl (lv_at hl 1 rfl) ?_
  refine lv_iconst (v := 0) hx hb dX10_account_1 (by decide) ?_
  refine lv_bipush (v := 12) hx hb dX10_account_2 (by decide) ?_
  obtain ⟨r1, er1, hf⟩ := xbd_s hf
  refine x_Si (As := [.int v1, .int 0, .int 12]) (rest := []) E.1 (m_X10_in l er1) (cwS 3 hts (xgS xU_sub q205 q206 q5 q207) rfl rfl rfl hdX10_in ⟨Nat.le_of_ble_eq_true rfl, Nat.le_of_ble_eq_true rfl⟩) h rfl hl.1 rfl (Nat.le_of_ble_eq_true rfl) dX10_account_4 ⟨Nat.le_of_ble_eq_true rfl, Nat.le_of_ble_eq_true rfl⟩ (fun H locs h => ?_)
  refine lv_if_ne (tgt := 16) hx hb dX10_account_7 (by decide) (fun c2 => ?_) (fun c2 => ?_)
  · replace hf := xif_f hf c2
    refine lv_aload_n hx hb dX10_account_16 rfl (lv_at hl 0 rfl) ?_
    refine lv_iload_n hx hb dX10_account_17 rfl (lv_at hl 1 rfl) ?_
    refine lv_iconst (v := 4) hx hb dX10_account_18 (by decide) ?_
    refine lv_icmp_ge (tgt := 31) hx hb dX10_account_19 (by decide) (fun c3 => ?_) (fun c3 => ?_)
    · replace hf := xif_t hf c3
      refine lv_iload_n hx hb dX10_account_31 rfl (lv_at hl 1 rfl) ?_
      refine lv_bipush (v := 12) hx hb dX10_account_32 (by decide) ?_
      refine lv_icmp_ne (tgt := 46) hx hb dX10_account_34 (by decide) (fun c4 => ?_) (fun c4 => ?_)
      · replace hf := xif_f hf c4
        refine lv_aload_n hx hb dX10_account_46 rfl (lv_at hl 0 rfl) ?_
        refine lv_iload_n hx hb dX10_account_47 rfl (lv_at hl 1 rfl) ?_
        obtain ⟨r5, er5, hf⟩ := xbd_s hf
        refine x_Vi (As := [.int v1]) (rest := [.ref (Γ.2.1 0)]) E.1 (m_X10_sumOf l er5) (cwV 1 hts (xgV xU_sub q1033 q1034 q1035 q5 q1036) rfl rfl rfl hdX10_sumOf ⟨Nat.le_of_ble_eq_true rfl, Nat.le_of_ble_eq_true rfl⟩) h kR_model rfl rfl hl.1 rfl (Nat.le_of_ble_eq_true rfl) dX10_account_48 ⟨Nat.le_of_ble_eq_true rfl, Nat.le_of_ble_eq_true rfl⟩ (fun H locs h => ?_)
        obtain ⟨r6, er6, hf⟩ := xbd_s hf
        refine x_Vi (As := [.int r5.2]) (rest := []) E.1 (m_X10_done l er6) (cwV 1 hts (xgV xU_sub q221 q222 q223 q5 q224) rfl rfl rfl hdX10_done ⟨Nat.le_of_ble_eq_true rfl, Nat.le_of_ble_eq_true rfl⟩) h kR_model rfl rfl hl.1 rfl (Nat.le_of_ble_eq_true rfl) dX10_account_51 ⟨Nat.le_of_ble_eq_true rfl, Nat.le_of_ble_eq_true rfl⟩ (fun H locs h => ?_)
        exact x_iret hx hb h (Option.some.inj hf) hr hlocks dX10_account_54
      · replace hf := xif_t hf c4
        refine lv_aload_n hx hb dX10_account_37 rfl (lv_at hl 0 rfl) ?_
        refine x_get (own := RX10) (ref := "TintDeskModel") (C := RX10) (T := TX10) (n := 20) (index := 9) (v := .ref (Γ.2.1 1)) hx hb hts (fun w h => xU_sub w (inU10 w h)) hown h kR_model rfl 1 (by decide) (hts _ (xU_sub _ q132)) (fun _ h9 => h9) rfl dX10_account_38 ?_
        refine lv_iconst (v := 4) hx hb dX10_account_41 (by decide) ?_
        refine x_iald hx hb h kR_g (xin_in (by decide)) dX10_account_42 ?_
        refine lv_goto (tgt := 51) hx hb dX10_account_43 (by decide) ?_
        obtain ⟨r7, er7, hf⟩ := xbd_s hf
        refine x_Vi (As := [.int (r1.1.1 1 (4 : Int32).toNatClampNeg)]) (rest := []) E.1 (m_X10_done l er7) (cwV 1 hts (xgV xU_sub q221 q222 q223 q5 q224) rfl rfl rfl hdX10_done ⟨Nat.le_of_ble_eq_true rfl, Nat.le_of_ble_eq_true rfl⟩) h kR_model rfl rfl hl.1 rfl (Nat.le_of_ble_eq_true rfl) dX10_account_51 ⟨Nat.le_of_ble_eq_true rfl, Nat.le_of_ble_eq_true rfl⟩ (fun H locs h => ?_)
        exact x_iret hx hb h (Option.some.inj hf) hr hlocks dX10_account_54
    · replace hf := xif_f hf c3
      refine lv_aload_n hx hb dX10_account_22 rfl (lv_at hl 0 rfl) ?_
      refine x_get (own := RX10) (ref := "TintDeskModel") (C := RX10) (T := TX10) (n := 20) (index := 9) (v := .ref (Γ.2.1 1)) hx hb hts (fun w h => xU_sub w (inU10 w h)) hown h kR_model rfl 1 (by decide) (hts _ (xU_sub _ q132)) (fun _ h9 => h9) rfl dX10_account_23 ?_
      refine lv_iload_n hx hb dX10_account_26 rfl (lv_at hl 1 rfl) ?_
      obtain ⟨c8, hf⟩ := xck_s hf
      refine x_iald hx hb h kR_g (xin_in c8) dX10_account_27 ?_
      refine lv_goto (tgt := 51) hx hb dX10_account_28 (by decide) ?_
      obtain ⟨r9, er9, hf⟩ := xbd_s hf
      refine x_Vi (As := [.int (r1.1.1 1 v1.toNatClampNeg)]) (rest := []) E.1 (m_X10_done l er9) (cwV 1 hts (xgV xU_sub q221 q222 q223 q5 q224) rfl rfl rfl hdX10_done ⟨Nat.le_of_ble_eq_true rfl, Nat.le_of_ble_eq_true rfl⟩) h kR_model rfl rfl hl.1 rfl (Nat.le_of_ble_eq_true rfl) dX10_account_51 ⟨Nat.le_of_ble_eq_true rfl, Nat.le_of_ble_eq_true rfl⟩ (fun H locs h => ?_)
      exact x_iret hx hb h (Option.some.inj hf) hr hlocks dX10_account_54
  · replace hf := xif_t hf c2
    refine lv_aload_n hx hb dX10_account_10 rfl (lv_at hl 0 rfl) ?_
    refine lv_iconst (v := 1) hx hb dX10_account_11 (by decide) ?_
    obtain ⟨r10, er10, hf⟩ := xbd_s hf
    refine x_Vi (As := [.int 1]) (rest := []) E.1 (m_X10_fails l er10) (cwV 1 hts (xgV xU_sub q208 q209 q210 q5 q211) rfl rfl rfl hdX10_fails ⟨Nat.le_of_ble_eq_true rfl, Nat.le_of_ble_eq_true rfl⟩) h kR_model rfl rfl hl.1 rfl (Nat.le_of_ble_eq_true rfl) dX10_account_12 ⟨Nat.le_of_ble_eq_true rfl, Nat.le_of_ble_eq_true rfl⟩ (fun H locs h => ?_)
    exact x_iret hx hb h (Option.some.inj hf) hr hlocks dX10_account_15
theorem hdX10_undo : yX10_undo.cls = RX10 ∧ yX10_undo.cls ≠ "java/lang/invoke/MethodHandle" ∧ yX10_undo.cls ≠ "java/lang/invoke/VarHandle" ∧ (parseMethodDescriptor yX10_undo.desc).map (fun d => d.parameters.length) = some 0 := by decide +kernel
set_option maxHeartbeats 4000000 in
set_option maxRecDepth 100000 in
theorem m_X10_undo (l : Launch) {Γ : xG} {N : Nat} {M : xM} {res : xR} (hf : F_X10_undo N M = some res) (sz : Nat) : Met l yX10_undo (xWs yX10_undo cX10_undo 1 (some .int)) ({ frames := 2, cells := 0, slots := 0, locals := 64 } : Room) (va_Pc [.ref (Γ.2.1 0)] (xPre Γ (wR Γ) M sz)) (xCi Γ (wR Γ) 10 res sz) 0 0 (xAd Γ 10 sz) := by
  refine x_met (Qc := fun sz => xCi Γ (wR Γ) 10 res sz) pnX10 wG_W (Nat.le_of_ble_eq_true rfl) (fun p e s m args below meth c _ E h ls hl => ?_) sz
  obtain ⟨⟨hx, hb, hml, hown, hts⟩, hr, hlocks⟩ := id E
  have hl : lv_has ls 1 [(0, .ref (Γ.2.1 0))] := hl
  refine lv_aload_n hx hb dX10_undo_0 rfl (lv_at hl 0 rfl) ?_
  refine x_get (own := RX10) (ref := "TintDeskModel") (C := RX10) (T := TX10) (n := 20) (index := 52) (v := .int (M.1 0 3)) hx hb hts (fun w h => xU_sub w (inU10 w h)) hown h kR_model rfl 3 (by decide) (hts _ (xU_sub _ q217)) (fun _ h9 => h9) rfl dX10_undo_1 ?_
  refine lv_if_ne (tgt := 13) hx hb dX10_undo_4 (by decide) (fun c1 => ?_) (fun c1 => ?_)
  · replace hf := xif_f hf c1
    refine lv_aload_n hx hb dX10_undo_13 rfl (lv_at hl 0 rfl) ?_
    refine lv_dup hx hb dX10_undo_14 rfl ?_
    refine x_get (own := RX10) (ref := "TintDeskModel") (C := RX10) (T := TX10) (n := 20) (index := 52) (v := .int (M.1 0 3)) hx hb hts (fun w h => xU_sub w (inU10 w h)) hown h kR_model rfl 3 (by decide) (hts _ (xU_sub _ q217)) (fun _ h9 => h9) rfl dX10_undo_15 ?_
    refine lv_iconst (v := 1) hx hb dX10_undo_18 (by decide) ?_
    refine lv_isub hx hb dX10_undo_19 ?_
    obtain ⟨M2, eM2, hf⟩ := xl_s hf
    refine x_put (own := RX10) (ref := "TintDeskModel") (C := RX10) (T := TX10) (n := 20) (index := 52) (ty := .int) hx hb hts (fun w h => xU_sub w (inU10 w h)) tyX10 tyX10_ok nmX10 hown h kR_model rfl 3 (by decide) (hts _ (xU_sub _ q217)) (fun _ h9 => h9) rfl (by decide +kernel) rfl rfl (Nat.le_of_ble_eq_true rfl) rfl eM2 dX10_undo_20 (fun H locs h => ?_)
    refine lv_aload_n hx hb dX10_undo_23 rfl (lv_at hl 0 rfl) ?_
    refine x_get (own := RX10) (ref := "TintDeskModel") (C := RX10) (T := TX10) (n := 20) (index := 13) (v := .ref (Γ.2.1 2)) hx hb hts (fun w h => xU_sub w (inU10 w h)) hown h kR_model rfl 2 (by decide) (hts _ (xU_sub _ q133)) (fun _ h9 => h9) rfl dX10_undo_24 ?_
    refine lv_aload_n hx hb dX10_undo_27 rfl (lv_at hl 0 rfl) ?_
    refine x_get (own := RX10) (ref := "TintDeskModel") (C := RX10) (T := TX10) (n := 20) (index := 52) (v := .int (M2.1 0 3)) hx hb hts (fun w h => xU_sub w (inU10 w h)) hown h kR_model rfl 3 (by decide) (hts _ (xU_sub _ q217)) (fun _ h9 => h9) rfl dX10_undo_28 ?_
    refine lv_sipush (v := 1460) hx hb dX10_undo_31 (by decide) ?_
    refine lv_imul hx hb dX10_undo_34 ?_
    refine lv_aload_n hx hb dX10_undo_35 rfl (lv_at hl 0 rfl) ?_
    refine x_get (own := RX10) (ref := "TintDeskModel") (C := RX10) (T := TX10) (n := 20) (index := 9) (v := .ref (Γ.2.1 1)) hx hb hts (fun w h => xU_sub w (inU10 w h)) hown h kR_model rfl 1 (by decide) (hts _ (xU_sub _ q132)) (fun _ h9 => h9) rfl dX10_undo_36 ?_
    refine lv_iconst (v := 0) hx hb dX10_undo_39 (by decide) ?_
    obtain ⟨r3, er3, hf⟩ := xbd_s hf
    refine x_Sv (As := [.ref (Γ.2.1 2), .int ((M2.1 0 3) * 1460), .ref (Γ.2.1 1), .int 0]) (rest := []) E.1 (m_X10_copy l kR_history kR_g er3) (cwS 4 hts (xgS xU_sub q218 q219 q5 q220) rfl rfl rfl hdX10_copy ⟨Nat.le_of_ble_eq_true rfl, Nat.le_of_ble_eq_true rfl⟩) h rfl hl.1 rfl (Nat.le_of_ble_eq_true rfl) dX10_undo_40 ⟨Nat.le_of_ble_eq_true rfl, Nat.le_of_ble_eq_true rfl⟩ (fun H locs h => ?_)
    refine lv_aload_n hx hb dX10_undo_43 rfl (lv_at hl 0 rfl) ?_
    refine lv_aload_n hx hb dX10_undo_44 rfl (lv_at hl 0 rfl) ?_
    refine x_get (own := RX10) (ref := "TintDeskModel") (C := RX10) (T := TX10) (n := 20) (index := 52) (v := .int (r3.1.1 0 3)) hx hb hts (fun w h => xU_sub w (inU10 w h)) hown h kR_model rfl 3 (by decide) (hts _ (xU_sub _ q217)) (fun _ h9 => h9) rfl dX10_undo_45 ?_
    obtain ⟨r4, er4, hf⟩ := xbd_s hf
    refine x_Vi (As := [.int (r3.1.1 0 3)]) (rest := []) E.1 (m_X10_done l er4) (cwV 1 hts (xgV xU_sub q221 q222 q223 q5 q224) rfl rfl rfl hdX10_done ⟨Nat.le_of_ble_eq_true rfl, Nat.le_of_ble_eq_true rfl⟩) h kR_model rfl rfl hl.1 rfl (Nat.le_of_ble_eq_true rfl) dX10_undo_48 ⟨Nat.le_of_ble_eq_true rfl, Nat.le_of_ble_eq_true rfl⟩ (fun H locs h => ?_)
    exact x_iret hx hb h (Option.some.inj hf) hr hlocks dX10_undo_51
  · replace hf := xif_t hf c1
    refine lv_aload_n hx hb dX10_undo_7 rfl (lv_at hl 0 rfl) ?_
    refine lv_iconst (v := 1) hx hb dX10_undo_8 (by decide) ?_
    obtain ⟨r5, er5, hf⟩ := xbd_s hf
    refine x_Vi (As := [.int 1]) (rest := []) E.1 (m_X10_fails l er5) (cwV 1 hts (xgV xU_sub q208 q209 q210 q5 q211) rfl rfl rfl hdX10_fails ⟨Nat.le_of_ble_eq_true rfl, Nat.le_of_ble_eq_true rfl⟩) h kR_model rfl rfl hl.1 rfl (Nat.le_of_ble_eq_true rfl) dX10_undo_9 ⟨Nat.le_of_ble_eq_true rfl, Nat.le_of_ble_eq_true rfl⟩ (fun H locs h => ?_)
    exact x_iret hx hb h (Option.some.inj hf) hr hlocks dX10_undo_12
theorem hdX10_save : yX10_save.cls = RX10 ∧ yX10_save.cls ≠ "java/lang/invoke/MethodHandle" ∧ yX10_save.cls ≠ "java/lang/invoke/VarHandle" ∧ (parseMethodDescriptor yX10_save.desc).map (fun d => d.parameters.length) = some 0 := by decide +kernel
set_option maxHeartbeats 4000000 in
set_option maxRecDepth 100000 in
theorem m_X10_save (l : Launch) {Γ : xG} {N : Nat} {M : xM} {res : xR} (hf : F_X10_save N M = some res) (sz : Nat) : Met l yX10_save (xWs yX10_save cX10_save 1 none) ({ frames := 2, cells := 0, slots := 0, locals := 64 } : Room) (va_Pc [.ref (Γ.2.1 0)] (xPre Γ (wR Γ) M sz)) (xCv Γ (wR Γ) 10 res sz) 0 0 (xAd Γ 10 sz) := by
  refine x_met (Qc := fun sz => xCv Γ (wR Γ) 10 res sz) pnX10 wG_W (Nat.le_of_ble_eq_true rfl) (fun p e s m args below meth c _ E h ls hl => ?_) sz
  obtain ⟨⟨hx, hb, hml, hown, hts⟩, hr, hlocks⟩ := id E
  have hl : lv_has ls 1 [(0, .ref (Γ.2.1 0))] := hl
  refine lv_aload_n hx hb dX10_save_0 rfl (lv_at hl 0 rfl) ?_
  refine x_get (own := RX10) (ref := "TintDeskModel") (C := RX10) (T := TX10) (n := 20) (index := 9) (v := .ref (Γ.2.1 1)) hx hb hts (fun w h => xU_sub w (inU10 w h)) hown h kR_model rfl 1 (by decide) (hts _ (xU_sub _ q132)) (fun _ h9 => h9) rfl dX10_save_1 ?_
  refine lv_iconst (v := 0) hx hb dX10_save_4 (by decide) ?_
  refine lv_aload_n hx hb dX10_save_5 rfl (lv_at hl 0 rfl) ?_
  refine x_get (own := RX10) (ref := "TintDeskModel") (C := RX10) (T := TX10) (n := 20) (index := 16) (v := .ref (Γ.2.1 3)) hx hb hts (fun w h => xU_sub w (inU10 w h)) hown h kR_model rfl 4 (by decide) (hts _ (xU_sub _ q134)) (fun _ h9 => h9) rfl dX10_save_6 ?_
  refine lv_iconst (v := 0) hx hb dX10_save_9 (by decide) ?_
  obtain ⟨r1, er1, hf⟩ := xbd_s hf
  refine x_Sv (As := [.ref (Γ.2.1 1), .int 0, .ref (Γ.2.1 3), .int 0]) (rest := []) E.1 (m_X10_copy l kR_g kR_kept er1) (cwS 4 hts (xgS xU_sub q218 q219 q5 q220) rfl rfl rfl hdX10_copy ⟨Nat.le_of_ble_eq_true rfl, Nat.le_of_ble_eq_true rfl⟩) h rfl hl.1 rfl (Nat.le_of_ble_eq_true rfl) dX10_save_10 ⟨Nat.le_of_ble_eq_true rfl, Nat.le_of_ble_eq_true rfl⟩ (fun H locs h => ?_)
  refine lv_aload_n hx hb dX10_save_13 rfl (lv_at hl 0 rfl) ?_
  refine lv_iconst (v := 1) hx hb dX10_save_14 (by decide) ?_
  obtain ⟨M2, eM2, hf⟩ := xl_s hf
  refine x_put (own := RX10) (ref := "TintDeskModel") (C := RX10) (T := TX10) (n := 20) (index := 190) (ty := .boolean) hx hb hts (fun w h => xU_sub w (inU10 w h)) tyX10 tyX10_ok nmX10 hown h kR_model rfl 5 (by decide) (hts _ (xU_sub _ q1062)) (fun _ h9 => h9) rfl (by decide +kernel) (by decide) (by decide) (Nat.le_of_ble_eq_true rfl) rfl eM2 dX10_save_15 (fun H locs h => ?_)
  refine lv_aload_n hx hb dX10_save_18 rfl (lv_at hl 0 rfl) ?_
  refine lv_iconst (v := 0) hx hb dX10_save_19 (by decide) ?_
  obtain ⟨M3, eM3, hf⟩ := xl_s hf
  refine x_put (own := RX10) (ref := "TintDeskModel") (C := RX10) (T := TX10) (n := 20) (index := 42) (ty := .int) hx hb hts (fun w h => xU_sub w (inU10 w h)) tyX10 tyX10_ok nmX10 hown h kR_model rfl 0 (by decide) (hts _ (xU_sub _ q212)) (fun _ h9 => h9) rfl (by decide +kernel) rfl rfl (Nat.le_of_ble_eq_true rfl) rfl eM3 dX10_save_20 (fun H locs h => ?_)
  exact x_vret hx hb h (Option.some.inj hf) hr hlocks dX10_save_23
theorem hdX10_restore : yX10_restore.cls = RX10 ∧ yX10_restore.cls ≠ "java/lang/invoke/MethodHandle" ∧ yX10_restore.cls ≠ "java/lang/invoke/VarHandle" ∧ (parseMethodDescriptor yX10_restore.desc).map (fun d => d.parameters.length) = some 0 := by decide +kernel
set_option maxHeartbeats 4000000 in
set_option maxRecDepth 100000 in
theorem m_X10_restore (l : Launch) {Γ : xG} {N : Nat} {M : xM} {res : xR} (hf : F_X10_restore N M = some res) (sz : Nat) : Met l yX10_restore (xWs yX10_restore cX10_restore 1 none) ({ frames := 2, cells := 0, slots := 0, locals := 64 } : Room) (va_Pc [.ref (Γ.2.1 0)] (xPre Γ (wR Γ) M sz)) (xCv Γ (wR Γ) 10 res sz) 0 0 (xAd Γ 10 sz) := by
  refine x_met (Qc := fun sz => xCv Γ (wR Γ) 10 res sz) pnX10 wG_W (Nat.le_of_ble_eq_true rfl) (fun p e s m args below meth c _ E h ls hl => ?_) sz
  obtain ⟨⟨hx, hb, hml, hown, hts⟩, hr, hlocks⟩ := id E
  have hl : lv_has ls 1 [(0, .ref (Γ.2.1 0))] := hl
  refine lv_aload_n hx hb dX10_restore_0 rfl (lv_at hl 0 rfl) ?_
  refine x_get (own := RX10) (ref := "TintDeskModel") (C := RX10) (T := TX10) (n := 20) (index := 190) (v := .int (M.1 0 5)) hx hb hts (fun w h => xU_sub w (inU10 w h)) hown h kR_model rfl 5 (by decide) (hts _ (xU_sub _ q1062)) (fun _ h9 => h9) rfl dX10_restore_1 ?_
  refine lv_if_ne (tgt := 13) hx hb dX10_restore_4 (by decide) (fun c1 => ?_) (fun c1 => ?_)
  · replace hf := xif_f hf c1
    refine lv_aload_n hx hb dX10_restore_13 rfl (lv_at hl 0 rfl) ?_
    refine x_get (own := RX10) (ref := "TintDeskModel") (C := RX10) (T := TX10) (n := 20) (index := 16) (v := .ref (Γ.2.1 3)) hx hb hts (fun w h => xU_sub w (inU10 w h)) hown h kR_model rfl 4 (by decide) (hts _ (xU_sub _ q134)) (fun _ h9 => h9) rfl dX10_restore_14 ?_
    refine lv_iconst (v := 0) hx hb dX10_restore_17 (by decide) ?_
    refine lv_aload_n hx hb dX10_restore_18 rfl (lv_at hl 0 rfl) ?_
    refine x_get (own := RX10) (ref := "TintDeskModel") (C := RX10) (T := TX10) (n := 20) (index := 9) (v := .ref (Γ.2.1 1)) hx hb hts (fun w h => xU_sub w (inU10 w h)) hown h kR_model rfl 1 (by decide) (hts _ (xU_sub _ q132)) (fun _ h9 => h9) rfl dX10_restore_19 ?_
    refine lv_iconst (v := 0) hx hb dX10_restore_22 (by decide) ?_
    obtain ⟨r2, er2, hf⟩ := xbd_s hf
    refine x_Sv (As := [.ref (Γ.2.1 3), .int 0, .ref (Γ.2.1 1), .int 0]) (rest := []) E.1 (m_X10_copy l kR_kept kR_g er2) (cwS 4 hts (xgS xU_sub q218 q219 q5 q220) rfl rfl rfl hdX10_copy ⟨Nat.le_of_ble_eq_true rfl, Nat.le_of_ble_eq_true rfl⟩) h rfl hl.1 rfl (Nat.le_of_ble_eq_true rfl) dX10_restore_23 ⟨Nat.le_of_ble_eq_true rfl, Nat.le_of_ble_eq_true rfl⟩ (fun H locs h => ?_)
    refine lv_aload_n hx hb dX10_restore_26 rfl (lv_at hl 0 rfl) ?_
    refine lv_iconst (v := 0) hx hb dX10_restore_27 (by decide) ?_
    obtain ⟨M3, eM3, hf⟩ := xl_s hf
    refine x_put (own := RX10) (ref := "TintDeskModel") (C := RX10) (T := TX10) (n := 20) (index := 52) (ty := .int) hx hb hts (fun w h => xU_sub w (inU10 w h)) tyX10 tyX10_ok nmX10 hown h kR_model rfl 3 (by decide) (hts _ (xU_sub _ q217)) (fun _ h9 => h9) rfl (by decide +kernel) rfl rfl (Nat.le_of_ble_eq_true rfl) rfl eM3 dX10_restore_28 (fun H locs h => ?_)
    refine lv_aload_n hx hb dX10_restore_31 rfl (lv_at hl 0 rfl) ?_
    refine lv_iconst (v := 0) hx hb dX10_restore_32 (by decide) ?_
    obtain ⟨M4, eM4, hf⟩ := xl_s hf
    refine x_put (own := RX10) (ref := "TintDeskModel") (C := RX10) (T := TX10) (n := 20) (index := 42) (ty := .int) hx hb hts (fun w h => xU_sub w (inU10 w h)) tyX10 tyX10_ok nmX10 hown h kR_model rfl 0 (by decide) (hts _ (xU_sub _ q212)) (fun _ h9 => h9) rfl (by decide +kernel) rfl rfl (Nat.le_of_ble_eq_true rfl) rfl eM4 dX10_restore_33 (fun H locs h => ?_)
    exact x_vret hx hb h (Option.some.inj hf) hr hlocks dX10_restore_36
  · replace hf := xif_t hf c1
    refine lv_aload_n hx hb dX10_restore_7 rfl (lv_at hl 0 rfl) ?_
    refine lv_iconst (v := 1) hx hb dX10_restore_8 (by decide) ?_
    obtain ⟨M5, eM5, hf⟩ := xl_s hf
    refine x_put (own := RX10) (ref := "TintDeskModel") (C := RX10) (T := TX10) (n := 20) (index := 42) (ty := .int) hx hb hts (fun w h => xU_sub w (inU10 w h)) tyX10 tyX10_ok nmX10 hown h kR_model rfl 0 (by decide) (hts _ (xU_sub _ q212)) (fun _ h9 => h9) rfl (by decide +kernel) rfl rfl (Nat.le_of_ble_eq_true rfl) rfl eM5 dX10_restore_9 (fun H locs h => ?_)
    exact x_vret hx hb h (Option.some.inj hf) hr hlocks dX10_restore_12
