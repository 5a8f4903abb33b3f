theorem zI7 {i : Nat} (h : i ≤ 3584) : Int32.ofNat i + 7 = Int32.ofNat (i + 7) := by
  refine Int32.toInt_inj.mp ?_
  rw [zAdd (y := 7) (zN (by omega)) rfl (by omega) (by omega), zN (by omega)]
  omega
theorem zTop {i L : Nat} (hL : L ≤ 3584) (hi : i ≤ 3584 + 7) : (Int32.ofNat L - 7 < Int32.ofNat i) ↔ L < i + 7 := by
  rw [Int32.lt_iff_toInt_lt, zSub (y := 7) (zN (by omega)) rfl (by omega) (by omega), zN (by omega)]
  omega
set_option maxHeartbeats 4000000 in
set_option maxRecDepth 100000 in
theorem w_loop {p : Program} (l : Launch) {e : Env} {s0 : State} {m : MethodId} {b : Nat} {below : List Frame} {meth : Method} {c : Code} {Γ : xG} {a : Nat → Nat} {N L : Nat} {xs : Nat → Int32} {d0 : Drawn} (Rel : xM → xM → Prop)
    (hrel : ∀ M R, Rel M R → ∀ v0 v1 v2 v3 v4 v5 v6 : Int32, ∃ q, zOp N v0 v1 v2 v3 v4 v5 v6 M R = some q ∧ Rel q.1 q.2)
    (hlt : l.stackTraces = false) (hd0 : s0.drawn.sameBut d0 lw_cs) (S9 : CallFix p m c cL_law 9 (s0.setDrawn d0) #[Value.ref b] lw_tbl RL) (hr : meth.sig.returnType = ret) (hlocks : meth.locks = false) (hd : zD Γ a (s0.setDrawn d0).heap.size) (hz : zZ (s0.setDrawn d0)) (hX : va_X b L xs (s0.setDrawn d0) (s0.setDrawn d0).heap) (hbl : b < (s0.setDrawn d0).heap.size) (hL : L ≤ 3584) :
    ∀ (n i : Nat) (M R : xM) (cells slots : Nat) (H : Heap) (locs : List Loc) (ls : Array Slot), L ≤ i + 7 * n → i ≤ 3584 → cells + 5 * n ≤ 603072 → slots + 30 * n ≤ 7190634 → zH Γ a (s0.setDrawn d0) M R H locs → Rel M R → lv_has ls 9 [(5, .int (Int32.ofNat i)), (4, .ref (Γ.2.1 1482)), (3, .ref (Γ.2.1 1481)), (2, .ref (a 0)), (1, .ref (Γ.2.1 1470)), (0, .ref b)] → W p l e room_1 (s0.setDrawn d0) m #[Value.ref b] below meth c H locs cells slots (lw_Z below #[Value.ref b] s0) (F0 m 28 ls []) := by
  obtain ⟨hx, hb, hml, hown, hts⟩ := id S9
  have hbA : ¬ (fun q => (s0.setDrawn d0).heap.size ≤ q) b := Nat.not_le.mpr hbl
  intro n
  induction n with
  | zero =>
    intro i M R cells slots H locs ls h1 h2 h3 h4 h hR hl
    refine lv_iload hx hb dL_law_28 (lv_at hl 0 rfl) ?_
    refine lv_aload_n hx hb dL_law_30 rfl (lv_at hl 5 rfl) ?_
    refine va_slen hx hb hX hbl hbA h.2.2.2 dL_law_31 ?_
    refine lv_bipush (v := 7) hx hb dL_law_32 (by decide) ?_
    refine lv_isub hx hb dL_law_34 ?_
    refine lv_icmp_gt (tgt := 2494) hx hb dL_law_35 (by decide) (fun c1 => ?_) (fun c1 => absurd ((zTop hL (by omega)).mpr (by omega)) c1)
    refine lv_iconst (v := 1) hx hb dL_law_2494 (by decide) ?_
    refine va_forget (fun q hq => h.2.2.2.2.2 q hq) ?_
    refine W.widen (k := 603072) (n := 7190634) (by omega) (by omega) ?_
    exact lw_ret hd0 hx hb hr hlocks dL_law_2495
  | succ n ih =>
    intro i M R cells slots H locs ls h1 h2 h3 h4 h hR hl
    refine lv_iload hx hb dL_law_28 (lv_at hl 0 rfl) ?_
    refine lv_aload_n hx hb dL_law_30 rfl (lv_at hl 5 rfl) ?_
    refine va_slen hx hb hX hbl hbA h.2.2.2 dL_law_31 ?_
    refine lv_bipush (v := 7) hx hb dL_law_32 (by decide) ?_
    refine lv_isub hx hb dL_law_34 ?_
    refine lv_icmp_gt (tgt := 2494) hx hb dL_law_35 (by decide) (fun c1 => ?_) (fun c1 => ?_)
    · refine lv_iconst (v := 1) hx hb dL_law_2494 (by decide) ?_
      refine va_forget (fun q hq => h.2.2.2.2.2 q hq) ?_
      refine W.widen (k := 603072) (n := 7190634) (by omega) (by omega) ?_
      exact lw_ret hd0 hx hb hr hlocks dL_law_2495
    have hi7 : i + 7 ≤ L := by
      have h9 := mt (zTop hL (by omega)).mpr c1
      omega
    refine lv_aload_n hx hb dL_law_38 rfl (lv_at hl 5 rfl) ?_
    refine lv_iload hx hb dL_law_39 (lv_at hl 0 rfl) ?_
    refine va_sld hx hb hX hbl hbA h.2.2.2 (vp_in_iff.mpr (by rw [zN (by omega)]; omega)) dL_law_41 ?_
    rw [zClamp (zN (n := i) (by omega))]
    refine lv_bipush (v := 63) hx hb dL_law_42 (by decide) ?_
    refine lv_iand hx hb dL_law_44 ?_
    obtain ⟨q, hq, hR1⟩ := hrel M R hR (xs i) (xs (i + 1)) (xs (i + 2)) (xs (i + 3)) (xs (i + 4)) (xs (i + 5)) (xs (i + 6))
    have kk : ∀ (H : Heap) (locs : List Loc) (ls : Array Slot), zH Γ a (s0.setDrawn d0) q.1 q.2 H locs → lv_has ls 9 [(5, .int (Int32.ofNat i)), (4, .ref (Γ.2.1 1482)), (3, .ref (Γ.2.1 1481)), (2, .ref (a 0)), (1, .ref (Γ.2.1 1470)), (0, .ref b)] → W p l e room_1 (s0.setDrawn d0) m #[Value.ref b] below meth c H locs (cells + 5) (slots + 30) (lw_Z below #[Value.ref b] s0) (F0 m 2488 ls []) := by
      intro H locs ls h hl
      refine lv_iinc (v := Int32.ofNat (i + 7)) (lv' := [(5, .int (Int32.ofNat (i + 7))), (4, .ref (Γ.2.1 1482)), (3, .ref (Γ.2.1 1481)), (2, .ref (a 0)), (1, .ref (Γ.2.1 1470)), (0, .ref b)]) hx hb dL_law_2488 hl (k := 0) rfl (by rw [← zI7 h2]; rfl) (by decide) rfl (fun ls hl => ?_)
      refine lv_goto (tgt := 28) hx hb dL_law_2491 (by decide) ?_
      exact ih (i + 7) q.1 q.2 (cells + 5) (slots + 30) H locs ls (by omega) (by omega) (by omega) (by omega) h hR1 hl
    unfold zOp at hq
    obtain ⟨w9, hw9⟩ : ∃ w9, w9 = xs i &&& 63 := ⟨_, rfl⟩
    rw [← hw9] at hq ⊢
    by_cases c0 : w9 = 0
    · rw [if_pos c0] at hq
      refine lv_tableIn (off := 159) (tgt := 204) hx hb dL_law_45 (by rw [c0]; decide) (by rw [c0]; decide) (by rw [c0]; rfl) (by decide) ?_
      exact law_0 l hlt S9 hd hz hX hbl hL (by omega) rfl rfl rfl rfl rfl rfl (by omega) (by omega) hq h hl kk
    rw [if_neg c0] at hq
    by_cases c1 : w9 = 1
    · rw [if_pos c1] at hq
      refine lv_tableIn (off := 239) (tgt := 284) hx hb dL_law_45 (by rw [c1]; decide) (by rw [c1]; decide) (by rw [c1]; rfl) (by decide) ?_
      exact law_1 l hlt S9 hd hz hX hbl hL (by omega) rfl rfl rfl rfl rfl rfl (by omega) (by omega) hq h hl kk
    rw [if_neg c1] at hq
    by_cases c2 : w9 = 2
    · rw [if_pos c2] at hq
      refine lv_tableIn (off := 307) (tgt := 352) hx hb dL_law_45 (by rw [c2]; decide) (by rw [c2]; decide) (by rw [c2]; rfl) (by decide) ?_
      exact law_2 l hlt S9 hd hz hX hbl hL (by omega) rfl rfl rfl rfl rfl rfl (by omega) (by omega) hq h hl kk
    rw [if_neg c2] at hq
    by_cases c3 : w9 = 3
    · rw [if_pos c3] at hq
      refine lv_tableIn (off := 387) (tgt := 432) hx hb dL_law_45 (by rw [c3]; decide) (by rw [c3]; decide) (by rw [c3]; rfl) (by decide) ?_
      exact law_3 l hlt S9 hd hz hX hbl hL (by omega) rfl rfl rfl rfl rfl rfl (by omega) (by omega) hq h hl kk
    rw [if_neg c3] at hq
    by_cases c4 : w9 = 4
    · rw [if_pos c4] at hq
      refine lv_tableIn (off := 455) (tgt := 500) hx hb dL_law_45 (by rw [c4]; decide) (by rw [c4]; decide) (by rw [c4]; rfl) (by decide) ?_
      exact law_4 l hlt S9 hd hz hX hbl hL (by omega) rfl rfl rfl rfl rfl rfl (by omega) (by omega) hq h hl kk
    rw [if_neg c4] at hq
    by_cases c5 : w9 = 5
    · rw [if_pos c5] at hq
      refine lv_tableIn (off := 523) (tgt := 568) hx hb dL_law_45 (by rw [c5]; decide) (by rw [c5]; decide) (by rw [c5]; rfl) (by decide) ?_
      exact law_5 l hlt S9 hd hz hX hbl hL (by omega) rfl rfl rfl rfl rfl rfl (by omega) (by omega) hq h hl kk
    rw [if_neg c5] at hq
    by_cases c6 : w9 = 6
    · rw [if_pos c6] at hq
      refine lv_tableIn (off := 603) (tgt := 648) hx hb dL_law_45 (by rw [c6]; decide) (by rw [c6]; decide) (by rw [c6]; rfl) (by decide) ?_
      exact law_6 l hlt S9 hd hz hX hbl hL (by omega) rfl rfl rfl rfl rfl rfl (by omega) (by omega) hq h hl kk
    rw [if_neg c6] at hq
    by_cases c7 : w9 = 7
    · rw [if_pos c7] at hq
      refine lv_tableIn (off := 659) (tgt := 704) hx hb dL_law_45 (by rw [c7]; decide) (by rw [c7]; decide) (by rw [c7]; rfl) (by decide) ?_
      exact law_7 l hlt S9 hd hz hX hbl hL (by omega) rfl rfl rfl rfl rfl rfl (by omega) (by omega) hq h hl kk
    rw [if_neg c7] at hq
    by_cases c8 : w9 = 8
    · rw [if_pos c8] at hq
      refine lv_tableIn (off := 751) (tgt := 796) hx hb dL_law_45 (by rw [c8]; decide) (by rw [c8]; decide) (by rw [c8]; rfl) (by decide) ?_
      exact law_8 l hlt S9 hd hz hX hbl hL (by omega) rfl rfl rfl rfl rfl rfl (by omega) (by omega) hq h hl kk
    rw [if_neg c8] at hq
    by_cases c9 : w9 = 9
    · rw [if_pos c9] at hq
      refine lv_tableIn (off := 819) (tgt := 864) hx hb dL_law_45 (by rw [c9]; decide) (by rw [c9]; decide) (by rw [c9]; rfl) (by decide) ?_
      exact law_9 l hlt S9 hd hz hX hbl hL (by omega) rfl rfl rfl rfl rfl rfl (by omega) (by omega) hq h hl kk
    rw [if_neg c9] at hq
    by_cases c10 : w9 = 10
    · rw [if_pos c10] at hq
      refine lv_tableIn (off := 887) (tgt := 932) hx hb dL_law_45 (by rw [c10]; decide) (by rw [c10]; decide) (by rw [c10]; rfl) (by decide) ?_
      exact law_10 l hlt S9 hd hz hX hbl hL (by omega) rfl rfl rfl rfl rfl rfl (by omega) (by omega) hq h hl kk
    rw [if_neg c10] at hq
    by_cases c11 : w9 = 11
    · rw [if_pos c11] at hq
      refine lv_tableIn (off := 925) (tgt := 970) hx hb dL_law_45 (by rw [c11]; decide) (by rw [c11]; decide) (by rw [c11]; rfl) (by decide) ?_
      exact law_11 l hlt S9 hd hz hX hbl hL (by omega) rfl rfl rfl rfl rfl rfl (by omega) (by omega) hq h hl kk
    rw [if_neg c11] at hq
    by_cases c12 : w9 = 12
    · rw [if_pos c12] at hq
      refine lv_tableIn (off := 969) (tgt := 1014) hx hb dL_law_45 (by rw [c12]; decide) (by rw [c12]; decide) (by rw [c12]; rfl) (by decide) ?_
      exact law_12 l hlt S9 hd hz hX hbl hL (by omega) rfl rfl rfl rfl rfl rfl (by omega) (by omega) hq h hl kk
    rw [if_neg c12] at hq
    by_cases c13 : w9 = 13
    · rw [if_pos c13] at hq
      refine lv_tableIn (off := 982) (tgt := 1027) hx hb dL_law_45 (by rw [c13]; decide) (by rw [c13]; decide) (by rw [c13]; rfl) (by decide) ?_
      exact law_13 l hlt S9 hd hz hX hbl hL (by omega) rfl rfl rfl rfl rfl rfl (by omega) (by omega) hq h hl kk
    rw [if_neg c13] at hq
    by_cases c14 : w9 = 14
    · rw [if_pos c14] at hq
      refine lv_tableIn (off := 1062) (tgt := 1107) hx hb dL_law_45 (by rw [c14]; decide) (by rw [c14]; decide) (by rw [c14]; rfl) (by decide) ?_
      exact law_14 l hlt S9 hd hz hX hbl hL (by omega) rfl rfl rfl rfl rfl rfl (by omega) (by omega) hq h hl kk
    rw [if_neg c14] at hq
    by_cases c15 : w9 = 15
    · rw [if_pos c15] at hq
      refine lv_tableIn (off := 1158) (tgt := 1203) hx hb dL_law_45 (by rw [c15]; decide) (by rw [c15]; decide) (by rw [c15]; rfl) (by decide) ?_
      exact law_15 l hlt S9 hd hz hX hbl hL (by omega) rfl rfl rfl rfl rfl rfl (by omega) (by omega) hq h hl kk
    rw [if_neg c15] at hq
    by_cases c16 : w9 = 16
    · rw [if_pos c16] at hq
      refine lv_tableIn (off := 1214) (tgt := 1259) hx hb dL_law_45 (by rw [c16]; decide) (by rw [c16]; decide) (by rw [c16]; rfl) (by decide) ?_
      exact law_16 l hlt S9 hd hz hX hbl hL (by omega) rfl rfl rfl rfl rfl rfl (by omega) (by omega) hq h hl kk
    rw [if_neg c16] at hq
    by_cases c17 : w9 = 17
    · rw [if_pos c17] at hq
      refine lv_tableIn (off := 1270) (tgt := 1315) hx hb dL_law_45 (by rw [c17]; decide) (by rw [c17]; decide) (by rw [c17]; rfl) (by decide) ?_
      exact law_17 l hlt S9 hd hz hX hbl hL (by omega) rfl rfl rfl rfl rfl rfl (by omega) (by omega) hq h hl kk
    rw [if_neg c17] at hq
    by_cases c18 : w9 = 18
    · rw [if_pos c18] at hq
      refine lv_tableIn (off := 1326) (tgt := 1371) hx hb dL_law_45 (by rw [c18]; decide) (by rw [c18]; decide) (by rw [c18]; rfl) (by decide) ?_
      exact law_18 l hlt S9 hd hz hX hbl hL (by omega) rfl rfl rfl rfl rfl rfl (by omega) (by omega) hq h hl kk
    rw [if_neg c18] at hq
    by_cases c19 : w9 = 19
    · rw [if_pos c19] at hq
      refine lv_tableIn (off := 1382) (tgt := 1427) hx hb dL_law_45 (by rw [c19]; decide) (by rw [c19]; decide) (by rw [c19]; rfl) (by decide) ?_
      exact law_19 l hlt S9 hd hz hX hbl hL (by omega) rfl rfl rfl rfl rfl rfl (by omega) (by omega) hq h hl kk
    rw [if_neg c19] at hq
    by_cases c20 : w9 = 20
    · rw [if_pos c20] at hq
      refine lv_tableIn (off := 1426) (tgt := 1471) hx hb dL_law_45 (by rw [c20]; decide) (by rw [c20]; decide) (by rw [c20]; rfl) (by decide) ?_
      exact law_20 l hlt S9 hd hz hX hbl hL (by omega) rfl rfl rfl rfl rfl rfl (by omega) (by omega) hq h hl kk
    rw [if_neg c20] at hq
    by_cases c21 : w9 = 21
    · rw [if_pos c21] at hq
      refine lv_tableIn (off := 1470) (tgt := 1515) hx hb dL_law_45 (by rw [c21]; decide) (by rw [c21]; decide) (by rw [c21]; rfl) (by decide) ?_
      exact law_21 l hlt S9 hd hz hX hbl hL (by omega) rfl rfl rfl rfl rfl rfl (by omega) (by omega) hq h hl kk
    rw [if_neg c21] at hq
    by_cases c22 : w9 = 22
    · rw [if_pos c22] at hq
      refine lv_tableIn (off := 1538) (tgt := 1583) hx hb dL_law_45 (by rw [c22]; decide) (by rw [c22]; decide) (by rw [c22]; rfl) (by decide) ?_
      exact law_22 l hlt S9 hd hz hX hbl hL (by omega) rfl rfl rfl rfl rfl rfl (by omega) (by omega) hq h hl kk
    rw [if_neg c22] at hq
    by_cases c23 : w9 = 23
    · rw [if_pos c23] at hq
      refine lv_tableIn (off := 1606) (tgt := 1651) hx hb dL_law_45 (by rw [c23]; decide) (by rw [c23]; decide) (by rw [c23]; rfl) (by decide) ?_
      exact law_23 l hlt S9 hd hz hX hbl hL (by omega) rfl rfl rfl rfl rfl rfl (by omega) (by omega) hq h hl kk
    rw [if_neg c23] at hq
    by_cases c24 : w9 = 24
    · rw [if_pos c24] at hq
      refine lv_tableIn (off := 1674) (tgt := 1719) hx hb dL_law_45 (by rw [c24]; decide) (by rw [c24]; decide) (by rw [c24]; rfl) (by decide) ?_
      exact law_24 l hlt S9 hd hz hX hbl hL (by omega) rfl rfl rfl rfl rfl rfl (by omega) (by omega) hq h hl kk
    rw [if_neg c24] at hq
    by_cases c25 : w9 = 25
    · rw [if_pos c25] at hq
      refine lv_tableIn (off := 1754) (tgt := 1799) hx hb dL_law_45 (by rw [c25]; decide) (by rw [c25]; decide) (by rw [c25]; rfl) (by decide) ?_
      exact law_25 l hlt S9 hd hz hX hbl hL (by omega) rfl rfl rfl rfl rfl rfl (by omega) (by omega) hq h hl kk
    rw [if_neg c25] at hq
    by_cases c26 : w9 = 26
    · rw [if_pos c26] at hq
      refine lv_tableIn (off := 1872) (tgt := 1917) hx hb dL_law_45 (by rw [c26]; decide) (by rw [c26]; decide) (by rw [c26]; rfl) (by decide) ?_
      exact law_26 l hlt S9 hd hz hX hbl hL (by omega) rfl rfl rfl rfl rfl rfl (by omega) (by omega) hq h hl kk
    rw [if_neg c26] at hq
    by_cases c27 : w9 = 27
    · rw [if_pos c27] at hq
      refine lv_tableIn (off := 1959) (tgt := 2004) hx hb dL_law_45 (by rw [c27]; decide) (by rw [c27]; decide) (by rw [c27]; rfl) (by decide) ?_
      exact law_27 l hlt S9 hd hz hX hbl hL (by omega) rfl rfl rfl rfl rfl rfl (by omega) (by omega) hq h hl kk
    rw [if_neg c27] at hq
    by_cases c28 : w9 = 28
    · rw [if_pos c28] at hq
      refine lv_tableIn (off := 2039) (tgt := 2084) hx hb dL_law_45 (by rw [c28]; decide) (by rw [c28]; decide) (by rw [c28]; rfl) (by decide) ?_
      exact law_28 l hlt S9 hd hz hX hbl hL (by omega) rfl rfl rfl rfl rfl rfl (by omega) (by omega) hq h hl kk
    rw [if_neg c28] at hq
    by_cases c29 : w9 = 29
    · rw [if_pos c29] at hq
      refine lv_tableIn (off := 2107) (tgt := 2152) hx hb dL_law_45 (by rw [c29]; decide) (by rw [c29]; decide) (by rw [c29]; rfl) (by decide) ?_
      exact law_29 l hlt S9 hd hz hX hbl hL (by omega) rfl rfl rfl rfl rfl rfl (by omega) (by omega) hq h hl kk
    rw [if_neg c29] at hq
    by_cases c30 : w9 = 30
    · rw [if_pos c30] at hq
      refine lv_tableIn (off := 2163) (tgt := 2208) hx hb dL_law_45 (by rw [c30]; decide) (by rw [c30]; decide) (by rw [c30]; rfl) (by decide) ?_
      exact law_30 l hlt S9 hd hz hX hbl hL (by omega) rfl rfl rfl rfl rfl rfl (by omega) (by omega) hq h hl kk
    rw [if_neg c30] at hq
    by_cases c31 : w9 = 31
    · rw [if_pos c31] at hq
      refine lv_tableIn (off := 2231) (tgt := 2276) hx hb dL_law_45 (by rw [c31]; decide) (by rw [c31]; decide) (by rw [c31]; rfl) (by decide) ?_
      exact law_31 l hlt S9 hd hz hX hbl hL (by omega) rfl rfl rfl rfl rfl rfl (by omega) (by omega) hq h hl kk
    rw [if_neg c31] at hq
    by_cases c32 : w9 = 32
    · rw [if_pos c32] at hq
      refine lv_tableIn (off := 2308) (tgt := 2353) hx hb dL_law_45 (by rw [c32]; decide) (by rw [c32]; decide) (by rw [c32]; rfl) (by decide) ?_
      exact law_32 l hlt S9 hd hz hX hbl hL (by omega) rfl rfl rfl rfl rfl rfl (by omega) (by omega) hq h hl kk
    rw [if_neg c32] at hq
    by_cases c33 : w9 = 33
    · rw [if_pos c33] at hq
      refine lv_tableIn (off := 2364) (tgt := 2409) hx hb dL_law_45 (by rw [c33]; decide) (by rw [c33]; decide) (by rw [c33]; rfl) (by decide) ?_
      exact law_33 l hlt S9 hd hz hX hbl hL (by omega) rfl rfl rfl rfl rfl rfl (by omega) (by omega) hq h hl kk
    rw [if_neg c33] at hq
    by_cases c34 : w9 = 34
    · rw [if_pos c34] at hq
      refine lv_tableIn (off := 2408) (tgt := 2453) hx hb dL_law_45 (by rw [c34]; decide) (by rw [c34]; decide) (by rw [c34]; rfl) (by decide) ?_
      exact law_34 l hlt S9 hd hz hX hbl hL (by omega) rfl rfl rfl rfl rfl rfl (by omega) (by omega) hq h hl kk
    rw [if_neg c34] at hq
    by_cases c35 : w9 = 35
    · rw [if_pos c35] at hq
      refine lv_tableIn (off := 2419) (tgt := 2464) hx hb dL_law_45 (by rw [c35]; decide) (by rw [c35]; decide) (by rw [c35]; rfl) (by decide) ?_
      exact law_35 l hlt S9 hd hz hX hbl hL (by omega) rfl rfl rfl rfl rfl rfl (by omega) (by omega) hq h hl kk
    rw [if_neg c35] at hq
    refine lv_tableOut (tgt := 2488) hx hb dL_law_45 (xsw_out (fun j hj1 hj2 hj => by
      have hj9 : j = 0 ∨ j = 1 ∨ j = 2 ∨ j = 3 ∨ j = 4 ∨ j = 5 ∨ j = 6 ∨ j = 7 ∨ j = 8 ∨ j = 9 ∨ j = 10 ∨ j = 11 ∨ j = 12 ∨ j = 13 ∨ j = 14 ∨ j = 15 ∨ j = 16 ∨ j = 17 ∨ j = 18 ∨ j = 19 ∨ j = 20 ∨ j = 21 ∨ j = 22 ∨ j = 23 ∨ j = 24 ∨ j = 25 ∨ j = 26 ∨ j = 27 ∨ j = 28 ∨ j = 29 ∨ j = 30 ∨ j = 31 ∨ j = 32 ∨ j = 33 ∨ j = 34 ∨ j = 35 := by omega
      rcases hj9 with rfl | rfl | rfl | rfl | rfl | rfl | rfl | rfl | rfl | rfl | rfl | rfl | rfl | rfl | rfl | rfl | rfl | rfl | rfl | rfl | rfl | rfl | rfl | rfl | rfl | rfl | rfl | rfl | rfl | rfl | rfl | rfl | rfl | rfl | rfl | rfl
      · exact c0 hj
      · exact c1 hj
      · exact c2 hj
      · exact c3 hj
      · exact c4 hj
      · exact c5 hj
      · exact c6 hj
      · exact c7 hj
      · exact c8 hj
      · exact c9 hj
      · exact c10 hj
      · exact c11 hj
      · exact c12 hj
      · exact c13 hj
      · exact c14 hj
      · exact c15 hj
      · exact c16 hj
      · exact c17 hj
      · exact c18 hj
      · exact c19 hj
      · exact c20 hj
      · exact c21 hj
      · exact c22 hj
      · exact c23 hj
      · exact c24 hj
      · exact c25 hj
      · exact c26 hj
      · exact c27 hj
      · exact c28 hj
      · exact c29 hj
      · exact c30 hj
      · exact c31 hj
      · exact c32 hj
      · exact c33 hj
      · exact c34 hj
      · exact c35 hj
      )) (by decide) ?_
    obtain rfl := Option.some.inj hq
    refine W.widen (k := cells + 5) (n := slots + 30) (by omega) (by omega) ?_
    exact kk H locs ls h hl
