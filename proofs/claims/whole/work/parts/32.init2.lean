theorem y_cs {p : Program} {l : Launch} {e : Env} {R : Room} {s : State} {m : MethodId} {args : Array Value} {below : List Frame} {meth : Method} {c : Code} {H : Heap} {locs : List Loc} {a b a' b' : Nat} {Q : State → Prop} {g : JFrame} (h : W p l e R s m args below meth c H locs a b Q g) (e1 : a = a') (e2 : b = b') : W p l e R s m args below meth c H locs a' b' Q g := by
  subst e1
  subst e2
  exact h
theorem yCat_lt {α : Type} {n k : Nat} {f g : Nat → α} (h : k < n) : yCat n f g k = f k := if_pos h
theorem yCat_ge {α : Type} {n k : Nat} {f g : Nat → α} (h : n ≤ k) : yCat n f g k = g (k - n) := if_neg (by omega)
abbrev cDesk (Γ : xG) (ad : Nat → Nat) : Nat → va_E := fun r => cDk Γ ad 8 6 10 20 r
theorem cDesk_cong {Γ : xG} {f g : Nat → Nat} (h : ∀ j, j < 147 → f j = g j) {r : Nat} (hr : r < 147) : cDesk Γ f r = cDesk Γ g r := cDk_low hr h (by omega) (fun j hj => by omega) (fun j hj => by omega) (fun j hj => by omega) (fun j hj => by omega) (by omega)
def cHs (Γ : xG) (ad : Nat → Nat) (i : Nat) : Nat → va_E := fun k =>
  if k = 0 then .inr (8, [.ref (ad 1), .int 0, .int 0])
  else if k = 1 then .inl (Γ.2.2 6, 8, .inr (.inr (.inr (.inr (fun j => if j < i then some (ad (2 + 147 * j)) else none)))))
  else cDesk Γ (fun j => ad (k - (k - 2) % 147 + j)) ((k - 2) % 147)
theorem cHs_z {Γ : xG} {ad : Nat → Nat} {i k : Nat} (h : 2 ≤ k) : cHs Γ ad i k = cDesk Γ (fun j => ad (k - (k - 2) % 147 + j)) ((k - 2) % 147) := by
  unfold cHs
  rw [if_neg (by omega), if_neg (by omega)]
theorem cHs_low {Γ : xG} {ad ad' : Nat → Nat} {i k m n : Nat} (hi : i ≤ m) (hn : n = 2 + 147 * m) (hk : k < n) (h : ∀ j, j < n → ad j = ad' j) : cHs Γ ad i k = cHs Γ ad' i k := by
  by_cases k2 : k < 2
  · unfold cHs
    have h1 : k = 0 ∨ k = 1 := by omega
    rcases h1 with rfl | rfl
    · rw [h 1 (by omega)]
      rfl
    · rw [yFn h (fun j hj => by omega)]
      rfl
  · rw [cHs_z (by omega), cHs_z (by omega)]
    exact cDesk_cong (fun j hj => h _ (by omega)) (by omega)
theorem cHs_cat {Γ : xG} {ad ad1 : Nat → Nat} {i : Nat} (hi : i < 8) : wS ad (2 + 147 * i) (cHs Γ ad i) ++ wS ad1 147 (cDesk Γ ad1) = wS (yCat (2 + 147 * i) ad ad1) (2 + 147 * (i + 1)) (cHs Γ (yCat (2 + 147 * i) ad ad1) i) := by
  rw [wS_cat, show 2 + 147 * i + 147 = 2 + 147 * (i + 1) by omega]
  refine wS_ext (fun k hk => ⟨rfl, ?_⟩)
  by_cases h : k < 2 + 147 * i
  · rw [yCat_lt h]
    exact cHs_low (m := i) (Nat.le_refl _) rfl h (fun j hj => (yCat_lt hj).symm)
  · rw [yCat_ge (by omega)]
    have hr : (k - 2) % 147 = k - (2 + 147 * i) := by omega
    rw [cHs_z (by omega), hr]
    exact cDesk_cong (fun j hj => by rw [yCat_ge (by omega)]; congr 1; omega) (by omega)
theorem cHs_obj {Γ : xG} {ad : Nat → Nat} {a i : Nat} : cHs Γ ad a (2 + 147 * i) = cDesk Γ (fun j => ad (2 + 147 * i + j)) 0 := by
  have hr : (2 + 147 * i - 2) % 147 = 0 := by omega
  rw [cHs_z (by omega), hr]
  rfl
theorem cHs_st {Γ : xG} {ad : Nat → Nat} {i n v : Nat} (hv : v = ad (2 + 147 * i)) : wS ad n (fun j => if j = 1 then .inl (Γ.2.2 6, 8, .inr (.inr (.inr (.inr (va_up (fun j => if j < i then some (ad (2 + 147 * j)) else none) i (some v)))))) else cHs Γ ad i j) = wS ad n (cHs Γ ad (i + 1)) := by
  refine wS_ext (fun k hk => ⟨rfl, ?_⟩)
  rw [yFu hv]
  by_cases h : k = 1
  · subst h
    rfl
  · rw [if_neg h]
    by_cases k2 : k < 2
    · have h1 : k = 0 := by omega
      subst h1
      rfl
    · rw [cHs_z (by omega), cHs_z (by omega)]
set_option maxHeartbeats 4000000 in
set_option maxRecDepth 100000 in
theorem w_X6_init_25 (l : Launch) {p : Program} {e : Env} {s : State} {m : MethodId} {args : Array Value} {below : List Frame} {meth : Method} {c : Code} {Γ : xG} {h0 : Nat} (E : xEv p s m args meth c RX6 cX6_init 2 none (xWs yX6_init cX6_init 2 none)) (hN : yN s) : ∀ (n i : Nat), i + n = 8 → ∀ (ad : Nat → Nat) (H : Heap) (locs : List Loc) (ls : Array Slot), yH Γ (yA h0 s.heap.size) s (wS ad (2 + 147 * i) (cHs Γ ad i)) H locs → ad 0 = h0 → lv_has ls 2 [(1, .int (Int32.ofNat i)), (0, .ref h0)] → W p l e ({ frames := 4, cells := 1177, slots := 10176, locals := 160 } : Room) s m args below meth c H locs (1 + 147 * i) (8 + 1271 * i) (MQ below (yQ Γ h0 1178 (fun ad => cHs Γ ad 8) s.heap.size) args s 1177 10176 (yA h0 s.heap.size)) (F0 m 25 ls []) := by
  obtain ⟨⟨hx, hb, hml, hown, hts⟩, hr, hlocks⟩ := id E
  have hA : ∀ q, s.heap.size ≤ q → yA h0 s.heap.size q := fun q hq => Or.inr hq
  intro n
  induction n with
  | zero =>
    intro i hi ad H locs ls h h00 hl
    have hi8 : i = 8 := by omega
    subst hi8
    refine lv_iload_n hx hb dX6_init_25 rfl (lv_at hl 0 rfl) ?_
    refine lv_bipush (v := 8) hx hb dX6_init_26 (by decide) ?_
    refine lv_icmp_ge (tgt := 50) hx hb dX6_init_28 (by decide) (fun c1 => ?_) (fun c1 => absurd (by decide) c1)
    exact y_ret (cf := fun ad => cHs Γ ad 8) ad hx hb h rfl h00 hr hlocks dX6_init_50
  | succ n ih =>
    intro i hi ad H locs ls h h00 hl
    have hi8 : i < 8 := by omega
    refine lv_iload_n hx hb dX6_init_25 rfl (lv_at hl 0 rfl) ?_
    refine lv_bipush (v := 8) hx hb dX6_init_26 (by decide) ?_
    refine lv_icmp_ge (tgt := 50) hx hb dX6_init_28 (by decide) (fun c1 => absurd c1 (yO8 i hi8)) (fun c1 => ?_)
    refine lv_aload_n hx hb dX6_init_31 rfl (lv_at hl 1 rfl) ?_
    refine y_get (own := RX6) (ref := "TintDesk$History") (C := RX6) (T := TX6) (N := 3) (index := 11) (ci := 8) (v := .ref (ad 1)) hx hb hts (fun w h => xU_sub w (inU6 w h)) hown h 0 (by rw [wS_get (by omega), h00]; rfl) rfl 0 (by decide) (hts _ (xU_sub _ q103)) (fun _ h9 => h9) rfl dX6_init_32 ?_
    refine lv_iload_n hx hb dX6_init_35 rfl (lv_at hl 0 rfl) ?_
    refine y_new (ci := 5) (fs := [.null, .null, .null, .null, .int 0, .int 0, .int 0, .int 0, .int 0]) (C := RX3) (T := TX3) (N := 9) hx hb hts (fun w h => xU_sub w (inU3 w h)) tyX3 tyX3_ok hown (hts _ (xU_sub _ q102)) (hts _ (xU_sub _ q14)) (hts _ (xU_sub _ q15)) h hA rfl (by decide) (by show 1 + 147 * i + 1 ≤ 1177; omega) (by show 8 + 1271 * i + 9 ≤ 10176; omega) dX6_init_36 (fun q H h => ?_)
    refine lv_dup hx hb dX6_init_39 rfl ?_
    refine y_call hN h hA (fun hp9 => va_runI (As := []) (rest := [.ref q, .int (Int32.ofNat i), .ref (ad 1)]) ⟨hx, hb, hml, hown, hts⟩ (m_X3_init l (h0 := q) H.size) (by exact y_ci hts xU_sub q40 rfl rfl q15 q106 q39 rfl hdX3_init ⟨Nat.le_of_ble_eq_true rfl, Nat.le_of_ble_eq_true rfl⟩) hp9 rfl rfl hl.1 rfl (lv_room (Nat.le_of_ble_eq_true rfl)) dX6_init_40 ⟨by show 1 + 147 * i + 1 + 146 ≤ 1177; omega, by show 8 + 1271 * i + 9 + 1262 ≤ 10176; omega⟩) (fun ad1 H locs h01 h9 => ?_)
    subst h01
    rw [cHs_cat hi8] at h9
    replace h := h9
    clear h9
    have e0 : ad1 0 = yCat (2 + 147 * i) ad ad1 (2 + 147 * i) := by rw [yCat_ge (Nat.le_refl _), Nat.sub_self]
    have e1 : ad 1 = yCat (2 + 147 * i) ad ad1 1 := by rw [yCat_lt (by omega)]
    have e2 : yCat (2 + 147 * i) ad ad1 0 = h0 := by rw [yCat_lt (by omega), h00]
    rw [e1]
    generalize yCat (2 + 147 * i) ad ad1 = ad2 at h e0 e1 e2 ⊢
    refine y_astq hx hb h 1 6 (2 + 147 * i) 5 (wS_get (by omega)) rfl (by rw [wS_get (by omega), e0, cHs_obj]; rfl) rfl (yOi hi8 (by decide)) dX6_init_43 (fun H locs h => ?_)
    rw [wS_set (by omega), yO2 i (by omega), cHs_st e0] at h
    refine lv_iinc (v := Int32.ofNat (i + 1)) (lv' := [(1, .int (Int32.ofNat (i + 1))), (0, .ref h0)]) hx hb dX6_init_44 hl (k := 0) rfl (by rw [← yO1 i (by omega)]; rfl) (by decide) rfl (fun ls hl => ?_)
    refine lv_goto (tgt := 25) hx hb dX6_init_47 (by decide) ?_
    exact y_cs (ih (i + 1) (by omega) ad2 H locs ls h e2 hl) (by omega) (by omega)
theorem hdX6_init : yX6_init.cls ≠ "java/lang/invoke/MethodHandle" ∧ yX6_init.cls ≠ "java/lang/invoke/VarHandle" ∧ (parseMethodDescriptor yX6_init.desc).map (fun d => d.parameters.length) = some 0 := by decide +kernel
set_option maxHeartbeats 4000000 in
set_option maxRecDepth 100000 in
theorem m_X6_init (l : Launch) {Γ : xG} {h0 : Nat} (sz : Nat) : Met l yX6_init (xWs yX6_init cX6_init 2 none) ({ frames := 4, cells := 1177, slots := 10176, locals := 160 } : Room) (va_Pc [.ref h0] (yPre Γ h0 (.inr (8, [.null, .int 0, .int 0])) sz)) (yQ Γ h0 1178 (fun ad => cHs Γ ad 8) sz) 1177 10176 (yA h0 sz) := by
  refine y_met pnX6 rfl (by decide) (fun p e s m args below meth c E hN hin h ls hl => ?_) sz
  obtain ⟨⟨hx, hb, hml, hown, hts⟩, hr, hlocks⟩ := id E
  have hA : ∀ q, s.heap.size ≤ q → yA h0 s.heap.size q := fun q hq => Or.inr hq
  refine lv_aload_n hx hb dX6_init_0 rfl (lv_at hl 0 rfl) ?_
  refine W.objInit hx hb hown (hts _ (xU_sub _ q101)) (hts _ (xU_sub _ q12)) (hts _ (xU_sub _ qOI)) rfl (by rw [hml]; exact hl.1) rfl dX6_init_1 (Nat.le_of_ble_eq_true rfl) (Nat.le_of_ble_eq_true rfl) ?_
  refine W.eq (g2 := F0 m 4 ls []) rfl ?_
  refine lv_aload_n hx hb dX6_init_4 rfl (lv_at hl 0 rfl) ?_
  refine lv_bipush (v := 8) hx hb dX6_init_5 (by decide) ?_
  refine y_newq (N' := 8) hx hb 6 hown (hts _ (xU_sub _ q102)) (hN.1 _ (by decide +kernel)) h hA rfl (by decide) (by decide) (by decide) (Nat.le_of_ble_eq_true rfl) (Nat.le_of_ble_eq_true rfl) dX6_init_7 (fun q7 H h => ?_)
  have h : yH Γ _ s [(h0, .inr (8, [.null, .int 0, .int 0])), (q7, .inl (Γ.2.2 6, 8, .inr (.inr (.inr (.inr (fun _ => none))))))] H _ := h
  refine y_putF (own := RX6) (ref := "TintDesk$History") (C := RX6) (T := TX6) (N := 3) (index := 11) (v := .ref q7) (ty := .array (.object "TintDesk$Desk")) hx hb hts (fun w h => xU_sub w (inU6 w h)) tyX6 tyX6_ok nmX6 hown h 0 rfl rfl 0 (by decide) (hts _ (xU_sub _ q103)) (fun _ h9 => h9) rfl hin rfl rfl rfl rfl (Nat.le_of_ble_eq_true rfl) dX6_init_10 (fun H locs h => ?_)
  have h : yH Γ _ s [(h0, .inr (8, [.ref q7, .int 0, .int 0])), (q7, .inl (Γ.2.2 6, 8, .inr (.inr (.inr (.inr (fun _ => none))))))] H _ := h
  refine lv_aload_n hx hb dX6_init_13 rfl (lv_at hl 0 rfl) ?_
  refine lv_iconst (v := 0) hx hb dX6_init_14 (by decide) ?_
  refine y_put (own := RX6) (ref := "TintDesk$History") (C := RX6) (T := TX6) (N := 3) (index := 17) (v := .int 0) (ty := .int) hx hb hts (fun w h => xU_sub w (inU6 w h)) tyX6 tyX6_ok nmX6 hown h 0 rfl rfl 1 (by decide) (hts _ (xU_sub _ q104)) (fun _ h9 => h9) rfl rfl rfl rfl (Nat.le_of_ble_eq_true rfl) dX6_init_15 (fun H locs h => ?_)
  have h : yH Γ _ s [(h0, .inr (8, [.ref q7, .int 0, .int 0])), (q7, .inl (Γ.2.2 6, 8, .inr (.inr (.inr (.inr (fun _ => none))))))] H _ := h
  refine lv_aload_n hx hb dX6_init_18 rfl (lv_at hl 0 rfl) ?_
  refine lv_iconst (v := 0) hx hb dX6_init_19 (by decide) ?_
  refine y_put (own := RX6) (ref := "TintDesk$History") (C := RX6) (T := TX6) (N := 3) (index := 21) (v := .int 0) (ty := .int) hx hb hts (fun w h => xU_sub w (inU6 w h)) tyX6 tyX6_ok nmX6 hown h 0 rfl rfl 2 (by decide) (hts _ (xU_sub _ q105)) (fun _ h9 => h9) rfl rfl rfl rfl (Nat.le_of_ble_eq_true rfl) dX6_init_20 (fun H locs h => ?_)
  have h : yH Γ _ s [(h0, .inr (8, [.ref q7, .int 0, .int 0])), (q7, .inl (Γ.2.2 6, 8, .inr (.inr (.inr (.inr (fun _ => none))))))] H _ := h
  refine lv_iconst (v := 0) hx hb dX6_init_23 (by decide) ?_
  refine lv_istore_n (lv' := [(1, .int 0), (0, .ref h0)]) hx hb dX6_init_24 rfl hl (by decide) rfl (fun ls hl => ?_)
  exact w_X6_init_25 l E hN 8 0 rfl (fun k => match k with | 0 => h0 | _ => q7) _ _ ls h rfl hl
