/-! refill, recall -/
abbrev h3 : xM → String → Option xR := fun (M8 : xM) (E : String) => if E = "java/lang/IndexOutOfBoundsException" then some (M8, 1) else if E = "java/lang/IllegalArgumentException" then some (M8, 2) else if E = "java/lang/UnsupportedOperationException" then some (M8, 3) else none
theorem KI.cong {M M1 R R1 : xM} (h : KI M R) (h1 : M1.1 1470 2 = M.1 1470 2) (h2 : ∀ k, 147 ≤ k → k < 294 → M1.1 k = M.1 k ∧ M1.2 k = M.2 k) (h3 : R1.1 0 5 = R.1 0 5) (h4 : R1.1 3 = R.1 3) : KI M1 R1 := by
  rcases h with ⟨k1, k2⟩ | ⟨k1, k2, G, B, hd⟩
  · exact Or.inl ⟨by rw [h1]; exact k1, by rw [h3]; exact k2⟩
  · exact Or.inr ⟨by rw [h1]; exact k1, by rw [h3]; exact k2, G, B, hd.cong (fun k hk => (h2 _ (by omega) (by omega)).1) (fun k hk => (h2 _ (by omega) (by omega)).2) (fun i hi => by rw [h4])⟩
theorem Rel.refuse {M R R1 : xM} (h : Rel M R) {w lk : Int32} (r1 : ∀ k, k ≠ 0 → R1.1 k = R.1 k) (r0 : R1.1 0 3 = R.1 0 3 ∧ R1.1 0 5 = R.1 0 5 ∧ R1.1 0 10 = R.1 0 10 ∧ R1.1 0 11 = R.1 0 11) (r7 : R1.1 0 7 = w) (r8 : w = 5 → lk = R1.1 0 8) : Rel (xS (xS M 1470 (upd (M.1 1470) 6 w)) 1470 (upd ((xS M 1470 (upd (M.1 1470) 6 w)).1 1470) 7 lk)) R1 := by
  obtain ⟨M1, hM1⟩ : ∃ M1, M1 = xS M 1470 (upd (M.1 1470) 6 w) := ⟨_, rfl⟩
  obtain ⟨M2, hM2⟩ : ∃ M2, M2 = xS M1 1470 (upd (M1.1 1470) 7 lk) := ⟨_, rfl⟩
  rw [← hM1, ← hM2]
  have m1 : ∀ k, k ≠ 1470 → M2.1 k = M.1 k := fun k hk => by rw [hM2, xS_ne hk, hM1, xS_ne hk]
  have m2 : M2.2 = M.2 := by rw [hM2, hM1]; rfl
  have m3 : ∀ s, s ≠ 6 → s ≠ 7 → M2.1 1470 s = M.1 1470 s := fun s a b => by rw [hM2, xS_f b, hM1, xS_f a]
  have m6 : M2.1 1470 6 = w := by rw [hM2, xS_f (by omega), hM1]; exact xS_in
  have m7 : M2.1 1470 7 = lk := by rw [hM2]; exact xS_in
  obtain ⟨⟨G, B, hd⟩, hh, hk, ht, l1, l2, l3⟩ := h
  obtain ⟨s3, s5, s10, s11⟩ := r0
  exact ⟨⟨G, B, hd.cong (fun k hk => m1 _ (by omega)) (fun k hk => by rw [m2]) (fun i hi => by rw [r1 1 (by omega)])⟩, hh.cong (fun k a b => ⟨m1 k (by omega), by rw [m2]⟩) (m1 _ (by omega)) (r1 2 (by omega)) s3, hk.cong (m3 2 (by omega) (by omega)) (fun k a b => ⟨m1 k (by omega), by rw [m2]⟩) s5 (r1 3 (by omega)), ht.cong (by rw [m1 1473 (by omega)]) (m1 1474 (by omega)) s10 (r1 5 (by omega)), by rw [m3 5 (by omega) (by omega), s11]; exact l1, by rw [m6, r7], fun e => by rw [m7]; exact r8 (r7.symm.trans e)⟩
theorem CM.cong {M M1 : xM} {p : Nat} {l : List LT} (h : CM M p l) (e : ∀ k, p ≤ k → k < p + 5 → M1.1 k = M.1 k) : CM M1 p l := by
  unfold CM
  rw [e p (by omega) (by omega), e (p + 2) (by omega) (by omega), e (p + 3) (by omega) (by omega), e (p + 4) (by omega) (by omega)]
  exact h
theorem len_some {l : List LT} {j : Nat} {x : LT} (h : l[j]? = some x) : j < l.length := by
  rcases Nat.lt_or_ge j l.length with q | q
  · exact q
  · rw [List.getElem?_eq_none q] at h; cases h
theorem CR.cong {r r1 : Nat → Int32} {o : Nat} {l : List LT} (h : CR r o l) (hl : l.length ≤ 12) (e : ∀ j, o + 3 ≤ j → j < o + 43 → r1 j = r j) : CR r1 o l := by
  refine ⟨by rw [e (o + 3) (by omega) (by omega)]; exact h.1, fun j x hx => ?_⟩
  have hj := len_some hx
  dsimp only
  rw [e _ (by omega) (by omega), e _ (by omega) (by omega), e _ (by omega) (by omega)]
  exact h.2 j x hx
theorem CE.cong {M M1 : xM} {r r1 : Nat → Int32} {c : Nat} {l : List LT} (h : CE M r c l) (hl : l.length ≤ 12) (em : ∀ k, 5 + 5 * c ≤ k → k < 10 + 5 * c → M1.1 k = M.1 k) (er : ∀ j, 5 + 46 * c ≤ j → j < 5 + 46 * c + 46 → r1 j = r j) : CE M1 r1 c l := by
  obtain ⟨a1, a2, a3, a4, a5, a6, a7, a8⟩ := h
  refine ⟨a1.cong (fun k q1 q2 => em k q1 (by omega)), a2.cong hl (fun j q1 q2 => er j (by omega) (by omega)), fun a ha => ?_, ?_, ?_, ?_, ?_, ?_⟩
  · rw [em _ (by omega) (by omega), er _ (by omega) (by omega)]; exact a3 a ha
  · rw [em _ (by omega) (by omega), er _ (by omega) (by omega)]; exact a4
  · rw [em _ (by omega) (by omega), er _ (by omega) (by omega)]; exact a5
  · rw [em _ (by omega) (by omega), er _ (by omega) (by omega)]; exact a6
  · rw [em _ (by omega) (by omega), er _ (by omega) (by omega)]; exact a7
  · rw [em _ (by omega) (by omega), er _ (by omega) (by omega)]; exact a8
/-- one canister changes -/
theorem DS.can1 {M M1 : xM} {r r1 : Nat → Int32} {G : Nat → Nat} {B : Nat → Nat → Nat → Bool} {c : Nat} {l : List LT} (h : DS M 0 r G B) (hc : c < 8) (mm : ∀ k, k < 147 → (k < 5 + 5 * c ∨ 10 + 5 * c ≤ k) → M1.1 k = M.1 k) (m2 : ∀ k, k < 147 → M1.2 k = M.2 k) (rr : ∀ j, j < 1460 → (j < 5 + 46 * c ∨ 5 + 46 * c + 46 ≤ j) → r1 j = r j) (ce : CE M1 r1 c l) (ok : okL l) (hv : ∀ a, a < 3 → r1 (5 + 46 * c + a) = r (5 + 46 * c + a)) (hw : r1 (5 + 46 * c + 44) = r (5 + 46 * c + 44)) : ∃ G1, DS M1 0 r1 G1 B := by
  have hg := h.2.2.2.2
  have hr := h.2.2.1
  have n4 := h.n0.2.2.2.2
  refine h.cans (d := G 4) (fun s a b => by rw [mm 0 (by omega) (by omega)]) hg.1.2.2.2.2 (by rw [mm 0 (by omega) (by omega)]; exact n4.1) (by rw [rr 4 (by omega) (by omega)]; exact n4.2) (fun j q1 q2 => rr j q2 (by omega)) (fun k q1 q2 => mm k q2 (by omega)) m2 (fun d hd => ?_)
  by_cases e : d = c
  · subst e
    exact ⟨l, ce, ok, hv, G (5 + 46 * d + 44), (hg.2.1 d hd).2.2.1, hw.trans (hr _ (by omega))⟩
  · have lo := LG_ok (hg.2.1 d hd)
    exact ⟨LG G d, (h.ce hd).cong lo.1 (fun k q1 q2 => mm k (by omega) (by omega)) (fun j q1 q2 => rr j (by omega) (by omega)), lo, fun a ha => rr _ (by omega) (by omega), G (5 + 46 * d + 44), (hg.2.1 d hd).2.2.1, (rr _ (by omega) (by omega)).trans (hr _ (by omega))⟩
theorem app_get {l : List LT} {x y : LT} {j : Nat} (h : (l ++ [x])[j]? = some y) : j = l.length ∧ y = x ∨ l[j]? = some y := by
  have hj := len_some h
  rw [List.length_append] at hj
  have hj : j < l.length + 1 := hj
  by_cases e : j = l.length
  · subst e
    have := get_mid (a := l) (F := []) (x := x)
    rw [this] at h
    exact Or.inl ⟨rfl, (Option.some.inj h).symm⟩
  · rw [List.getElem?_append_left (by omega)] at h
    exact Or.inr h
theorem putLot_ok {N p a b d w : Nat} {M : xM} {l : List LT} (h : CM M p l) (hl : l.length < 12) (hw : M.1 p 1 = nI w) : ∃ M1, F_X2_putLot N p (nI a) (nI b) (nI d) M = some (M1, 0) ∧ CM M1 p (l ++ [(a, b, d + w)]) ∧ M1.2 = M.2 ∧ (∀ k, k ≠ p → k ≠ p + 2 → k ≠ p + 3 → k ≠ p + 4 → M1.1 k = M.1 k) ∧ (∀ s, s ≠ 6 → s ≠ 2 → M1.1 p s = M.1 p s) ∧ M1.1 p 2 = M.1 p 2 + nI b := by
  obtain ⟨M1, hM1⟩ : ∃ M1, M1 = xS M (p + 2) (upd (M.1 (p + 2)) l.length (nI a)) := ⟨_, rfl⟩
  obtain ⟨M2, hM2⟩ : ∃ M2, M2 = xS M1 (p + 3) (upd (M1.1 (p + 3)) l.length (nI b)) := ⟨_, rfl⟩
  obtain ⟨M3, hM3⟩ : ∃ M3, M3 = xS M2 (p + 4) (upd (M2.1 (p + 4)) l.length (nI (d + w))) := ⟨_, rfl⟩
  obtain ⟨M4, hM4⟩ : ∃ M4, M4 = xS M3 p (upd (M3.1 p) 6 (nI (l.length + 1))) := ⟨_, rfl⟩
  obtain ⟨M5, hM5⟩ : ∃ M5, M5 = xS M4 p (upd (M4.1 p) 2 (M4.1 p 2 + nI b)) := ⟨_, rfl⟩
  have p1 : M1.1 p = M.1 p := by rw [hM1, xS_ne (by omega)]
  have p2 : M2.1 p = M.1 p := by rw [hM2, xS_ne (by omega), p1]
  have p3 : M3.1 p = M.1 p := by rw [hM3, xS_ne (by omega), p2]
  have p4 : ∀ s, s ≠ 6 → M4.1 p s = M.1 p s := fun s hs => by rw [hM4, xS_f hs, p3]
  have q2 : M5.1 (p + 2) = upd (M.1 (p + 2)) l.length (nI a) := by rw [hM5, xS_ne (by omega), hM4, xS_ne (by omega), hM3, xS_ne (by omega), hM2, xS_ne (by omega), hM1, xS_at]
  have q3 : M5.1 (p + 3) = upd (M.1 (p + 3)) l.length (nI b) := by rw [hM5, xS_ne (by omega), hM4, xS_ne (by omega), hM3, xS_ne (by omega), hM2, xS_at, hM1, xS_ne (by omega)]
  have q4 : M5.1 (p + 4) = upd (M.1 (p + 4)) l.length (nI (d + w)) := by rw [hM5, xS_ne (by omega), hM4, xS_ne (by omega), hM3, xS_at, hM2, xS_ne (by omega), hM1, xS_ne (by omega)]
  refine ⟨M5, ?_, ⟨?_, fun j x hx => ?_⟩, by rw [hM5, hM4, hM3, hM2, hM1]; rfl, fun k a b c d => by rw [hM5, xS_ne a, hM4, xS_ne a, hM3, xS_ne d, hM2, xS_ne c, hM1, xS_ne b], fun s a b => by rw [hM5, xS_f b, p4 s a], ?_⟩
  · unfold F_X2_putLot
    rw [h.1, if_pos (show nI l.length < (12 : Int32) from nI_lt (a := l.length) (b := 12) hl (by omega)), ck_nI hl (by decide), nI_clamp (by omega), xl_v, ← hM1, p1, h.1, ck_nI hl (by decide), nI_clamp (by omega), xl_v, ← hM2, p2, h.1, ck_nI hl (by decide), nI_clamp (by omega), hw, nI_add, xl_v, ← hM3, p3, h.1, nI_1, xl_v, ← p3, ← hM4, xl_v, ← hM5]
  · rw [hM5, xS_f (by omega), hM4, xS_in, List.length_append]
    rfl
  · rw [q2, q3, q4]
    rcases app_get hx with ⟨rfl, rfl⟩ | hx
    · rw [pk_us, pk_us, pk_us]
      exact ⟨rfl, rfl, rfl⟩
    · have := len_some hx
      rw [pk_un (by omega), pk_un (by omega), pk_un (by omega)]
      exact h.2 j x hx
  · rw [hM5, xS_in, p4 2 (by omega)]
theorem o_2 {N : Nat} (hN : 12000 ≤ N) {v1 v2 v3 v4 v5 v6 : Int32} {M R : xM} (h : Rel M R) : ∃ q, zOp_2 N v1 v2 v3 v4 v5 v6 M R = some q ∧ Rel q.1 q.2 := by
  refine zAgr (hd := h3) ?_
  obtain ⟨⟨G, B, hd⟩, hx⟩ := id h
  obtain ⟨⟨m0, r0⟩, -, -, -, m4, r4⟩ := hd.n0
  have hb := hd.2.2.2.2.1
  rcases zCol (N := N) (n := G 0) (by omega) m0 r0 v1 with ⟨c, hc, rfl, e1, e2⟩ | ⟨e1, e2⟩
  · have hc8 : c < 8 := by omega
    rcases zRange (N := N) v2 0 99 M R with ⟨l1, l2, e3, e4⟩ | ⟨e3, e4⟩
    · obtain ⟨x, hx1, hx2, rfl⟩ := zNat (a := 0) (b := 99) rfl rfl l1 l2
      rcases zRange (N := N) v3 1 500 M R with ⟨l3, l4, e5, e6⟩ | ⟨e5, e6⟩
      · obtain ⟨y, hy1, hy2, rfl⟩ := zNat (a := 1) (b := 500) rfl rfl l3 l4
        have e4' : F_X10_isLot N (nI x) R = some (R, 1) := by unfold F_X10_isLot; rw [e4]; rfl
        have hce := hd.ce hc8
        have hlo := LG_ok (hd.2.2.2.2.2.1 c hc8)
        have rl : F_X10_colorantAt N (nI c) 3 R = some (R, nI (LG G c).length) := (rdCx (k := 3) hc8 (by omega)).trans (by rw [hce.2.1.1])
        by_cases h12 : (LG G c).length = 12
        · refine Or.inr ⟨_, _, "java/lang/UnsupportedOperationException", 3, 0, ?_, rfl, ?_, ?_, by decide, (h.refuse (w := 2) (lk := -1) (R1 := xS R 0 (upd (R.1 0) 7 2)) (fun k hk => xS_ne hk) ⟨xS_f (by omega), xS_f (by omega), xS_f (by omega), xS_f (by omega)⟩ xS_in (fun e => absurd e (by decide))).thrown (x := 3)⟩
          · unfold F_X9_refill
            rw [e1, xbd_some, xth_inl, e3, xbd_some, xth_inl, e5, xbd_some, xth_inl, ck_nI (by omega) (by decide), nI_clamp (by omega), show (0 : Nat) + 5 + 5 * c = 5 + 5 * c by omega, hce.1.1, h12, if_neg (by decide)]
            rfl
          · unfold F_X10_refill
            rw [e2, xbd_some, if_neg i1n, e4', xbd_some, if_neg i1n, e6, xbd_some, if_neg i1n, rl, h12, xbd_some, if_pos (show nI 12 = (12 : Int32) from by decide)]
            rfl
          · exact xS_in
        · have hl12 : (LG G c).length < 12 := by have := hlo.1; omega
          obtain ⟨M1, R1, k1, k2, kx, km, kr, ks⟩ := keep_ok hN h
          have hd1 : DS M1 0 (R1.1 1) G B := hd.cong (fun k hk => (km _ (by omega)).1) (fun k hk => (km _ (by omega)).2) (fun i hi => by rw [kr 1 (by omega) (by omega)])
          have ce1 := hd1.ce hc8
          obtain ⟨-, -, -, -, m4', r4'⟩ := hd1.n0
          have hw := hd1.2.2.1 (5 + 46 * c + 44) (by omega)
          have gw := (hd1.2.2.2.2.2.1 c hc8).2.2.1
          obtain ⟨M2, f1, f2, f3, f4, f5, f6⟩ := putLot_ok (N := N) (p := 5 + 5 * c) (a := x) (b := y) (d := G 4) (w := G (5 + 46 * c + 44)) ce1.1 hl12 (ce1.2.2.2.2.2.2.2.trans hw)
          obtain ⟨L, hL⟩ : ∃ L, L = (LG G c).length := ⟨_, rfl⟩
          obtain ⟨o, ho⟩ : ∃ o, o = 5 + 46 * c := ⟨_, rfl⟩
          obtain ⟨R2, hR2⟩ : ∃ R2, R2 = xS R1 1 (upd (R1.1 1) (o + 7 + L) (nI x)) := ⟨_, rfl⟩
          obtain ⟨R3, hR3⟩ : ∃ R3, R3 = xS R2 1 (upd (R2.1 1) (o + 19 + L) (nI y)) := ⟨_, rfl⟩
          obtain ⟨R4, hR4⟩ : ∃ R4, R4 = xS R3 1 (upd (R3.1 1) (o + 31 + L) (nI (G 4 + G (o + 44)))) := ⟨_, rfl⟩
          obtain ⟨R5, hR5⟩ : ∃ R5, R5 = xS R4 1 (upd (R4.1 1) (o + 3) (nI (L + 1))) := ⟨_, rfl⟩
          obtain ⟨R6, hR6⟩ : ∃ R6, R6 = xS R5 1 (upd (R5.1 1) (o + 4) (R5.1 1 (o + 4) + nI y)) := ⟨_, rfl⟩
          have hl12' : L < 12 := by omega
          have g3 : R1.1 1 (o + 3) = nI L := by rw [ho, hL]; exact ce1.2.1.1
          have g3' : R2.1 1 (o + 3) = nI L := by rw [hR2, xS_f (by omega), g3]
          have g3'' : R3.1 1 (o + 3) = nI L := by rw [hR3, xS_f (by omega), g3']
          have g4 : R3.1 1 4 = nI (G 4) := by rw [hR3, xS_f (by omega), hR2, xS_f (by omega)]; exact r4'
          have g44 : R3.1 1 (o + 44) = nI (G (o + 44)) := by rw [hR3, xS_f (by omega), hR2, xS_f (by omega), ho]; exact hw
          have g5 : R4.1 1 (o + 3) = nI L := by rw [hR4, xS_f (by omega), g3'']
          have u0 : ∀ j, j ≠ o + 3 → j ≠ o + 4 → j ≠ o + 7 + L → j ≠ o + 19 + L → j ≠ o + 31 + L → R6.1 1 j = R1.1 1 j := fun j a b c d e => by rw [hR6, xS_f b, hR5, xS_f a, hR4, xS_f e, hR3, xS_f d, hR2, xS_f c]
          have u3 : R6.1 1 (o + 3) = nI (L + 1) := by rw [hR6, xS_f (by omega), hR5, xS_in]
          have u4 : R6.1 1 (o + 4) = R1.1 1 (o + 4) + nI y := by rw [hR6, xS_in, hR5, xS_f (by omega), hR4, xS_f (by omega), hR3, xS_f (by omega), hR2, xS_f (by omega)]
          have u7 : R6.1 1 (o + 7 + L) = nI x := by rw [hR6, xS_f (by omega), hR5, xS_f (by omega), hR4, xS_f (by omega), hR3, xS_f (by omega), hR2, xS_in]
          have u19 : R6.1 1 (o + 19 + L) = nI y := by rw [hR6, xS_f (by omega), hR5, xS_f (by omega), hR4, xS_f (by omega), hR3, xS_in]
          have u31 : R6.1 1 (o + 31 + L) = nI (G 4 + G (o + 44)) := by rw [hR6, xS_f (by omega), hR5, xS_f (by omega), hR4, xS_in]
          have uk : ∀ k, k ≠ 1 → R6.1 k = R1.1 k := fun k a => by rw [hR6, xS_ne a, hR5, xS_ne a, hR4, xS_ne a, hR3, xS_ne a, hR2, xS_ne a]
          have hok : okL (LG G c ++ [(x, y, G 4 + G (5 + 46 * c + 44))]) := by
            refine ⟨by rw [List.length_append]; exact hl12, fun z hz => ?_⟩
            rcases List.mem_append.mp hz with m | m
            · exact hlo.2 z m
            · rw [List.mem_singleton.mp m]
              exact ⟨hx2, hy1, hy2, by show G 4 + G (5 + 46 * c + 44) ≤ 499; omega⟩
          have hCR : CR (R6.1 1) (5 + 46 * c) (LG G c ++ [(x, y, G 4 + G (5 + 46 * c + 44))]) := by
            rw [← ho]
            refine ⟨by rw [u3, List.length_append, hL]; rfl, fun j z hz => ?_⟩
            dsimp only
            rcases app_get hz with ⟨rfl, rfl⟩ | hz
            · rw [← hL, u7, u19, u31]
              exact ⟨rfl, rfl, rfl⟩
            · have := len_some hz
              rw [u0 _ (by omega) (by omega) (by omega) (by omega) (by omega), u0 _ (by omega) (by omega) (by omega) (by omega) (by omega), u0 _ (by omega) (by omega) (by omega) (by omega) (by omega), ho]
              exact ce1.2.1.2 j z hz
          refine Or.inl ⟨M2, xS R6 0 (upd (R6.1 0) 0 0), nI (sumL (LG G c ++ [(x, y, G 4 + G (5 + 46 * c + 44))])), ?_, ?_, xS_in, ?_⟩
          · unfold F_X9_refill
            rw [e1, xbd_some, xth_inl, e3, xbd_some, xth_inl, e5, xbd_some, xth_inl, ck_nI (by omega) (by decide), nI_clamp (by omega), show (0 : Nat) + 5 + 5 * c = 5 + 5 * c by omega, hce.1.1, if_pos (show nI (LG G c).length < (12 : Int32) from nI_lt (b := 12) hl12 (by omega))]
            unfold L_X9_refill_47
            rw [show F_X9_stopIfRefused N 0 (-1) M = some (M, Sum.inl (0 : Int32)) from by unfold F_X9_stopIfRefused; rw [if_pos rfl], xbd_some, xth_inl, k1, xbd_some]
            dsimp only
            rw [m4', f1, xbd_some, f2.sum (by omega) hok.1]
            rfl
          · unfold F_X10_refill
            rw [e2, xbd_some, if_neg i1n, e4', xbd_some, if_neg i1n, e6, xbd_some, if_neg i1n, rl, xbd_some, if_neg (show ¬ nI (LG G c).length = (12 : Int32) from fun e => h12 ((nI_eq (b := 12) (by omega) (by omega)).mp e)), k2, xbd_some, show (5 : Int32) + 46 * nI c = nI o from by rw [ho]; show nI 5 + nI 46 * nI c = _; rw [pk_mul, nI_add], xl_v, show nI o + 3 = nI (o + 3) from nI_add o 3, show nI o + 7 = nI (o + 7) from nI_add o 7, show nI o + 19 = nI (o + 19) from nI_add o 19, show nI o + 31 = nI (o + 31) from nI_add o 31, show nI o + 44 = nI (o + 44) from nI_add o 44, show nI o + 4 = nI (o + 4) from nI_add o 4, ck_nI (by omega) (by decide)]
            simp only [nI_clamp (show o + 3 < 2 ^ 31 by omega), nI_clamp (show o + 44 < 2 ^ 31 by omega), nI_clamp (show o + 4 < 2 ^ 31 by omega)]
            rw [g3, nI_add, ck_nI (by omega) (by decide), nI_clamp (by omega), xl_v, ← hR2, g3', nI_add, ck_nI (by omega) (by decide), ck_nI (by omega) (by decide), nI_clamp (by omega), xl_v, ← hR3, g3'', nI_add, ck_nI (by omega) (by decide), ck_nI (by omega) (by decide), ck_nI (by omega) (by decide), nI_clamp (by omega), show R3.1 1 (4 : Int32).toNatClampNeg = nI (G 4) from g4, g44, nI_add, xl_v, ← hR4, g5, nI_1, ck_nI (by omega) (by decide), ck_nI (by omega) (by decide), xl_v, ← hR5, ck_nI (by omega) (by decide), ck_nI (by omega) (by decide), xl_v, ← hR6, CR.sum hCR hc8 (by omega) hok.1]
            rfl
          · obtain ⟨G1, hd6⟩ := hd1.can1 (M1 := M2) (r1 := R6.1 1) (c := c) (l := LG G c ++ [(x, y, G 4 + G (5 + 46 * c + 44))]) hc8 (fun k q1 q2 => f4 k (by omega) (by omega) (by omega) (by omega)) (fun k hk => by rw [f3]) (fun j q1 q2 => u0 j (by omega) (by omega) (by omega) (by omega) (by omega)) ⟨f2, hCR, fun a ha => by rw [f4 _ (by omega) (by omega) (by omega) (by omega), u0 _ (by omega) (by omega) (by omega) (by omega) (by omega)]; exact ce1.2.2.1 a ha, by rw [f6, ← ho, u4, ho, ce1.2.2.2.1], by rw [f5 3 (by omega) (by omega), u0 _ (by omega) (by omega) (by omega) (by omega) (by omega)]; exact ce1.2.2.2.2.1, by rw [f5 4 (by omega) (by omega), u0 _ (by omega) (by omega) (by omega) (by omega) (by omega)]; exact ce1.2.2.2.2.2.1, by rw [f5 5 (by omega) (by omega), u0 _ (by omega) (by omega) (by omega) (by omega) (by omega)]; exact ce1.2.2.2.2.2.2.1, by rw [f5 1 (by omega) (by omega), u0 _ (by omega) (by omega) (by omega) (by omega) (by omega)]; exact ce1.2.2.2.2.2.2.2⟩ hok (fun a ha => u0 _ (by omega) (by omega) (by omega) (by omega) (by omega)) (u0 _ (by omega) (by omega) (by omega) (by omega) (by omega))
            refine (Rel.after (M := M1) (R := R1) kx ⟨fun k q1 q2 => f4 k (by omega) (by omega) (by omega) (by omega), fun k q1 q2 => by rw [f3]⟩ ⟨uk 2 (by omega), uk 3 (by omega), uk 5 (by omega), by rw [uk 0 (by omega)], by rw [uk 0 (by omega)], by rw [uk 0 (by omega)], by rw [uk 0 (by omega)], by rw [uk 0 (by omega)], by rw [uk 0 (by omega)]⟩ hd6).thrown
      · have e4' : F_X10_isLot N (nI x) R = some (R, 1) := by unfold F_X10_isLot; rw [e4]; rfl
        refine Agr.no (E := "java/lang/IllegalArgumentException") (k := 2) (w := 0) h rfl (by decide) ?_ ?_
        · unfold F_X9_refill; rw [e1, xbd_some, xth_inl, e3, xbd_some, xth_inl, e5]; rfl
        · unfold F_X10_refill; rw [e2, xbd_some, if_neg i1n, e4', xbd_some, if_neg i1n, e6]; rfl
    · have e4' : F_X10_isLot N v2 R = some (R, 0) := by unfold F_X10_isLot; rw [e4]; rfl
      refine Agr.no (E := "java/lang/IllegalArgumentException") (k := 2) (w := 0) h rfl (by decide) ?_ ?_
      · unfold F_X9_refill; rw [e1, xbd_some, xth_inl, e3]; rfl
      · unfold F_X10_refill; rw [e2, xbd_some, if_neg i1n, e4']; rfl
  · refine Agr.no (E := "java/lang/IndexOutOfBoundsException") (k := 1) (w := 0) h rfl (by decide) ?_ ?_
    · unfold F_X9_refill; rw [e1]; rfl
    · unfold F_X10_refill; rw [e2]; rfl
