/-! addColorant, addBase -/
abbrev hA : xM → String → Option xR := fun (M8 : xM) (E : String) => if E = "java/lang/IllegalArgumentException" then some (M8, 1) else if E = "java/lang/IllegalStateException" then some (M8, 2) else none
theorem GI.newC {G G1 : Nat → Nat} {B : Nat → Nat → Nat → Bool} {c : Nat} (h : GI G B) (hc : c < 8) (e : ∀ j, j ≠ 0 → (j < 5 + 46 * c ∨ 5 + 46 * c + 46 ≤ j) → G1 j = G j) (e0 : G1 0 = G 0 + 1) (e8 : G 0 < 8) (h9 : GIc G1 c) : GI G1 B := by
  obtain ⟨h0, h1, h2, h3, h4⟩ := h
  have eK : ∀ k, allK G1 k = allK G k := fun k => sumN_cong (fun c hc => e _ (by omega) (by omega))
  refine ⟨by rw [e0, e 1 (by omega) (by omega), e 2 (by omega) (by omega), e 3 (by omega) (by omega), e 4 (by omega) (by omega)]; exact ⟨by omega, h0.2⟩, fun d hd => ?_, fun b hb => ?_, fun f hf => ?_, fun k hk => ?_⟩
  · by_cases hdc : d = c
    · subst hdc
      exact h9
    · obtain ⟨a1, a2, a3, a4⟩ := h1 d hd
      refine ⟨by rw [e _ (by omega) (by omega)]; exact a1, fun r hr => by rw [e _ (by omega) (by omega)]; exact a2 r hr, by rw [e _ (by omega) (by omega)]; exact a3, fun j hj => ?_⟩
      rw [e _ (by omega) (by omega)] at hj
      rw [e _ (by omega) (by omega), e _ (by omega) (by omega), e _ (by omega) (by omega)]
      exact a4 j hj
  · obtain ⟨a1, a2, a3, a4⟩ := h2 b hb
    refine ⟨fun r hr => by rw [e _ (by omega) (by omega)]; exact a1 r hr, by rw [e _ (by omega) (by omega)]; exact a2, by rw [e _ (by omega) (by omega)]; exact a3, ?_⟩
    rw [e 3 (by omega) (by omega), e _ (by omega) (by omega), a4]
    exact cntN_cong (fun k hk => by rw [e _ (by omega) (by omega)])
  · obtain ⟨a1, a2⟩ := h3 f hf
    refine ⟨by rw [e 2 (by omega) (by omega), e _ (by omega) (by omega), e 1 (by omega) (by omega)]; exact a1, fun d hd => ?_⟩
    rw [e _ (by omega) (by omega), e _ (by omega) (by omega), e 2 (by omega) (by omega), e0]
    obtain ⟨b1, b2, b3⟩ := a2 d hd
    exact ⟨b1, b2, by omega⟩
  · obtain ⟨a1, a2, a3, a4, a5⟩ := h4 k hk
    refine ⟨fun hk3 => ?_, fun d hd => ?_, by rw [e _ (by omega) (by omega), e _ (by omega) (by omega)]; exact a3, by rw [eK, e _ (by omega) (by omega)]; exact a4, ?_⟩
    · rw [e 3 (by omega) (by omega)] at hk3
      obtain ⟨b1, b2, b3, b4⟩ := a1 hk3
      rw [e (579 + 44 * k) (by omega) (by omega), e (579 + 44 * k + 1) (by omega) (by omega), eK, e 2 (by omega) (by omega), e 1 (by omega) (by omega), e (409 + 17 * G (579 + 44 * k)) (by omega) (by omega), e (373 + 6 * G (579 + 44 * k + 1) + 3) (by omega) (by omega)]
      exact ⟨b1, b2, b3, b4⟩
    · rw [e _ (by omega) (by omega), e0]
      have := a2 d hd
      exact ⟨this.1, by omega⟩
    · rw [e 3 (by omega) (by omega), e _ (by omega) (by omega), e _ (by omega) (by omega)]
      rcases a5 with a5 | ⟨a5, a6⟩
      · exact Or.inl a5
      · exact Or.inr ⟨fun d hd => by rw [e _ (by omega) (by omega)]; exact a5 d hd, a6⟩
theorem GI.newB {G G1 : Nat → Nat} {B : Nat → Nat → Nat → Bool} (h : GI G B) (e : ∀ j, j ≠ 1 → (j < 373 + 6 * G 1 ∨ 373 + 6 * G 1 + 4 ≤ j) → G1 j = G j) (e1 : G1 1 = G 1 + 1) (e8 : G 1 < 6) (h9 : (∀ r, r < 3 → G1 (373 + 6 * G 1 + r) ≤ 99) ∧ G1 (373 + 6 * G 1 + 3) ≤ 200) : GI G1 B := by
  obtain ⟨h0, h1, h2, h3, h4⟩ := h
  have eK : ∀ k, allK G1 k = allK G k := fun k => sumN_cong (fun c hc => e _ (by omega) (by omega))
  refine ⟨by rw [e1, e 0 (by omega) (by omega), e 2 (by omega) (by omega), e 3 (by omega) (by omega), e 4 (by omega) (by omega)]; exact ⟨h0.1, by omega, h0.2.2⟩, fun d hd => ?_, fun b hb => ?_, fun f hf => ?_, fun k hk => ?_⟩
  · obtain ⟨a1, a2, a3, a4⟩ := h1 d hd
    refine ⟨by rw [e _ (by omega) (by omega)]; exact a1, fun r hr => by rw [e _ (by omega) (by omega)]; exact a2 r hr, by rw [e _ (by omega) (by omega)]; exact a3, fun j hj => ?_⟩
    rw [e _ (by omega) (by omega)] at hj
    have hj12 : j < 12 := by omega
    rw [e _ (by omega) (by omega), e _ (by omega) (by omega), e _ (by omega) (by omega)]
    exact a4 j hj
  · obtain ⟨a1, a2, a3, a4⟩ := h2 b hb
    have a4' : G1 (373 + 6 * b + 5) = cntN (fun k => decide (G1 (579 + 44 * k + 1) = b)) (G1 3) := by
      rw [e 3 (by omega) (by omega), e _ (by omega) (by omega), a4]
      exact cntN_cong (fun k hk => by rw [e _ (by omega) (by omega)])
    by_cases hb1 : b = G 1
    · subst hb1
      exact ⟨h9.1, h9.2, by rw [e _ (by omega) (by omega)]; exact a3, a4'⟩
    · exact ⟨fun r hr => by rw [e _ (by omega) (by omega)]; exact a1 r hr, by rw [e _ (by omega) (by omega)]; exact a2, by rw [e _ (by omega) (by omega)]; exact a3, a4'⟩
  · obtain ⟨a1, a2⟩ := h3 f hf
    refine ⟨by rw [e 2 (by omega) (by omega), e _ (by omega) (by omega), e1]; exact fun q => Nat.lt_succ_of_lt (a1 q), fun d hd => ?_⟩
    rw [e _ (by omega) (by omega), e _ (by omega) (by omega), e 2 (by omega) (by omega), e 0 (by omega) (by omega)]
    exact a2 d hd
  · obtain ⟨a1, a2, a3, a4, a5⟩ := h4 k hk
    refine ⟨fun hk3 => ?_, fun d hd => ?_, by rw [e _ (by omega) (by omega), e _ (by omega) (by omega)]; exact a3, by rw [eK, e _ (by omega) (by omega)]; exact a4, ?_⟩
    · rw [e 3 (by omega) (by omega)] at hk3
      obtain ⟨b1, b2, b3, b4⟩ := a1 hk3
      rw [e (579 + 44 * k) (by omega) (by omega), e (579 + 44 * k + 1) (by omega) (by omega), eK, e 2 (by omega) (by omega), e1, e (409 + 17 * G (579 + 44 * k)) (by omega) (by omega), e (373 + 6 * G (579 + 44 * k + 1) + 3) (by omega) (by omega)]
      exact ⟨b1, b2, Nat.lt_succ_of_lt b3, b4⟩
    · rw [e _ (by omega) (by omega), e 0 (by omega) (by omega)]
      exact a2 d hd
    · rw [e 3 (by omega) (by omega), e _ (by omega) (by omega), e _ (by omega) (by omega)]
      rcases a5 with a5 | ⟨a5, a6⟩
      · exact Or.inl a5
      · exact Or.inr ⟨fun d hd => by rw [e _ (by omega) (by omega)]; exact a5 d hd, a6⟩
/-- one write on both sides, by names -/
theorem DP.w {V : Nat → Prop} {M M1 : xM} {R R1 : xM} {i k s x : Nat} {G : Nat → Nat} {B : Nat → Nat → Nat → Bool} (h : DP V M 0 (R.1 1) G B) (hl : loc i = (k, s) ∧ isP i = true) (hM : M1 = xS M k (upd (M.1 k) s (nI x))) (hR : R1 = xS R 1 (upd (R.1 1) i (nI x))) : DP (fun j => V j ∨ j = i) M1 0 (R1.1 1) (updN G i x) B := by
  have h8 := h.put (x := x) hl
  rw [Nat.zero_add, ← hM, show upd (R.1 1) i (nI x) = R1.1 1 from by rw [hR, xS_at]] at h8
  exact h8
theorem DP.n {V : Nat → Prop} {M : xM} {r : Nat → Int32} {G : Nat → Nat} {B : Nat → Nat → Nat → Bool} (h : DP V M 0 r G B) {i k s : Nat} (hl : loc i = (k, s) ∧ isP i = true) (hv : V i) : M.1 k s = nI (G i) := by
  have := h.1.of hl.2 hv hl.1
  rw [Nat.zero_add] at this
  exact this
theorem o_0 {N : Nat} (hN : 12000 ≤ N) {v1 v2 v3 v4 v5 v6 : Int32} {M R : xM} (h : Rel M R) : ∃ q, zOp_0 N v1 v2 v3 v4 v5 v6 M R = some q ∧ Rel q.1 q.2 := by
  refine zAgr (hd := hA) ?_
  obtain ⟨⟨G, B, hd⟩, hx⟩ := id h
  obtain ⟨⟨m0, r0⟩, -⟩ := hd.n0
  have r0' : R.1 1 (0 : Int32).toNatClampNeg = nI (G 0) := r0
  have hb := hd.2.2.2.2.1
  rcases zRange (N := N) v1 0 9 M R with ⟨l1, l2, e1, e2⟩ | ⟨e1, e2⟩
  · obtain ⟨x, -, hx2, rfl⟩ := zNat (a := 0) (b := 9) rfl rfl l1 l2
    rcases zRange (N := N) v2 0 9 M R with ⟨l1, l2, e3, e4⟩ | ⟨e3, e4⟩
    · obtain ⟨y, -, hy2, rfl⟩ := zNat (a := 0) (b := 9) rfl rfl l1 l2
      rcases zRange (N := N) v3 0 9 M R with ⟨l1, l2, e5, e6⟩ | ⟨e5, e6⟩
      · obtain ⟨z, -, hz2, rfl⟩ := zNat (a := 0) (b := 9) rfl rfl l1 l2
        by_cases h8 : G 0 = 8
        · refine Agr.no (E := "java/lang/IllegalStateException") (k := 2) (w := 0) h rfl (by decide) ?_ ?_
          · unfold F_X9_addColorant; rw [e1, xbd_some, xth_inl, e3, xbd_some, xth_inl, e5, xbd_some, xth_inl, m0, h8, if_neg (show ¬ nI 8 < (8 : Int32) from by decide)]
          · unfold F_X10_addColorant; rw [e2, xbd_some, if_neg i1n, e4, xbd_some, if_neg i1n, e6, xbd_some, if_neg i1n, if_pos (show (R, (1 : Int32)).1.1 1 (0 : Int32).toNatClampNeg = (8 : Int32) from by show R.1 1 (0 : Int32).toNatClampNeg = 8; rw [r0', h8]; rfl)]; rfl
        · obtain ⟨M1, R1, k1, k2, kx, km, kr, ks⟩ := keep_ok hN h
          have hd1 : DS M1 0 (R1.1 1) G B := hd.cong (fun k hk => (km _ (by omega)).1) (fun k hk => (km _ (by omega)).2) (fun i hi => by rw [kr 1 (by omega) (by omega)])
          obtain ⟨c, hc⟩ : ∃ c, c = G 0 := ⟨_, rfl⟩
          have hc8 : c < 8 := by omega
          obtain ⟨⟨m0', r0''⟩, -⟩ := hd1.n0
          rw [← hc] at m0' r0''
          have lc := loc_c c hc8
          obtain ⟨o, ho⟩ : ∃ o, o = 5 + 46 * c := ⟨_, rfl⟩
          rw [← ho] at lc
          obtain ⟨M2, hM2⟩ : ∃ M2, M2 = xS M1 (6 + 5 * c) (upd (M1.1 (6 + 5 * c)) 0 (nI x)) := ⟨_, rfl⟩
          obtain ⟨M3, hM3⟩ : ∃ M3, M3 = xS M2 (6 + 5 * c) (upd (M2.1 (6 + 5 * c)) 1 (nI y)) := ⟨_, rfl⟩
          obtain ⟨M4, hM4⟩ : ∃ M4, M4 = xS M3 (6 + 5 * c) (upd (M3.1 (6 + 5 * c)) 2 (nI z)) := ⟨_, rfl⟩
          obtain ⟨M5, hM5⟩ : ∃ M5, M5 = xS M4 (5 + 5 * c) (upd (M4.1 (5 + 5 * c)) 1 (nI 60)) := ⟨_, rfl⟩
          obtain ⟨M6, hM6⟩ : ∃ M6, M6 = xS M5 0 (upd (M5.1 0) 4 (nI (c + 1))) := ⟨_, rfl⟩
          obtain ⟨R2, hR2⟩ : ∃ R2, R2 = xS R1 1 (upd (R1.1 1) o (nI x)) := ⟨_, rfl⟩
          obtain ⟨R3, hR3⟩ : ∃ R3, R3 = xS R2 1 (upd (R2.1 1) (o + 1) (nI y)) := ⟨_, rfl⟩
          obtain ⟨R4, hR4⟩ : ∃ R4, R4 = xS R3 1 (upd (R3.1 1) (o + 2) (nI z)) := ⟨_, rfl⟩
          obtain ⟨R5, hR5⟩ : ∃ R5, R5 = xS R4 1 (upd (R4.1 1) (o + 44) (nI 60)) := ⟨_, rfl⟩
          obtain ⟨R6, hR6⟩ : ∃ R6, R6 = xS R5 1 (upd (R5.1 1) 0 (nI (c + 1))) := ⟨_, rfl⟩
          have p2 := hd1.dp.w (i := o) (lc.1 0 (by omega)) hM2 hR2
          have p3 := p2.w (lc.1 1 (by omega)) hM3 hR3
          have p4 := p3.w (lc.1 2 (by omega)) hM4 hR4
          have p5 := p4.w lc.2.2.2.2.2.2 hM5 hR5
          have p6 := p5.w (loc_n 0 (by omega)) hM6 hR6
          obtain ⟨G6, hG6⟩ : ∃ G6, G6 = updN (updN (updN (updN (updN G o x) (o + 1) y) (o + 2) z) (o + 44) 60) 0 (c + 1) := ⟨_, rfl⟩
          rw [← hG6] at p6
          have g0 : ∀ j, j ≠ 0 → j ≠ o → j ≠ o + 1 → j ≠ o + 2 → j ≠ o + 44 → G6 j = G j := fun j a b d e f => by rw [hG6, updN_n a, updN_n f, updN_n e, updN_n d, updN_n b]
          have gx : G6 o = x := by rw [hG6, updN_n (by omega), updN_n (by omega), updN_n (by omega), updN_n (by omega), updN_s]
          have gy : G6 (o + 1) = y := by rw [hG6, updN_n (by omega), updN_n (by omega), updN_n (by omega), updN_s]
          have gz : G6 (o + 2) = z := by rw [hG6, updN_n (by omega), updN_n (by omega), updN_s]
          have gl : G6 (o + 44) = 60 := by rw [hG6, updN_n (by omega), updN_s]
          have gc : G6 0 = G 0 + 1 := by rw [hG6, updN_s, hc]
          have n0 : M5.1 0 4 = nI c := by rw [hM5, xS_ne (by omega), hM4, xS_ne (by omega), hM3, xS_ne (by omega), hM2, xS_ne (by omega)]; exact m0'
          have q0 : R5.1 1 (0 : Int32).toNatClampNeg = nI c := by show R5.1 1 0 = nI c; rw [hR5, xS_f (by omega), hR4, xS_f (by omega), hR3, xS_f (by omega), hR2, xS_f (by omega)]; exact r0''
          have n6 : M6.1 0 4 = nI (c + 1) := by rw [hM6]; exact xS_in
          have q6 : R6.1 1 (0 : Int32).toNatClampNeg = nI (c + 1) := by show R6.1 1 0 = nI (c + 1); rw [hR6]; exact xS_in
          refine Or.inl ⟨M6, xS R6 0 (upd (R6.1 0) 0 0), nI c, ?_, ?_, xS_in, ?_⟩
          · unfold F_X9_addColorant
            rw [e1, xbd_some, xth_inl, e3, xbd_some, xth_inl, e5, xbd_some, xth_inl, m0, if_pos (show nI (G 0) < (8 : Int32) from nI_lt (b := 8) (by omega) (by omega)), k1, xbd_some]
            unfold F_X3_makeColorant
            dsimp only
            rw [m0', ck_nI hc8 (by decide), nI_clamp (by omega), show (0 : Nat) + 5 + 5 * c = 5 + 5 * c by omega, show 5 + 5 * c + 1 = 6 + 5 * c by omega, xl_v, show xS M1 (6 + 5 * c) (upd (M1.1 (6 + 5 * c)) (0 : Int32).toNatClampNeg (nI x)) = M2 from hM2.symm, xl_v, show xS M2 (6 + 5 * c) (upd (M2.1 (6 + 5 * c)) (1 : Int32).toNatClampNeg (nI y)) = M3 from hM3.symm, xl_v, show xS M3 (6 + 5 * c) (upd (M3.1 (6 + 5 * c)) (2 : Int32).toNatClampNeg (nI z)) = M4 from hM4.symm, xl_v, show xS M4 (5 + 5 * c) (upd (M4.1 (5 + 5 * c)) 1 60) = M5 from hM5.symm, xl_v, n0, nI_1, ← hM6, n6, nI_pred, xbd_some]
          · unfold F_X10_addColorant
            rw [e2, xbd_some, if_neg i1n, e4, xbd_some, if_neg i1n, e6, xbd_some, if_neg i1n, if_neg (show ¬ (R, (1 : Int32)).1.1 1 (0 : Int32).toNatClampNeg = (8 : Int32) from by show ¬ R.1 1 (0 : Int32).toNatClampNeg = 8; rw [r0']; exact fun e => h8 ((nI_eq (b := 8) (by omega) (by omega)).mp e)), k2, xbd_some]
            dsimp only
            rw [show R1.1 1 (0 : Int32).toNatClampNeg = nI c from r0'', show (5 : Int32) + 46 * nI c = nI o from by rw [ho]; show nI 5 + nI 46 * nI c = _; rw [pk_mul, nI_add], xl_v, ck_nI (by omega) (by decide), nI_clamp (by omega), xl_v, ← hR2, nI_1, ck_nI (by omega) (by decide), nI_clamp (by omega), xl_v, ← hR3, show nI o + 2 = nI (o + 2) from nI_add o 2, ck_nI (by omega) (by decide), nI_clamp (by omega), xl_v, ← hR4, show nI o + 44 = nI (o + 44) from nI_add o 44, ck_nI (by omega) (by decide), nI_clamp (by omega), xl_v, show xS R4 1 (upd (R4.1 1) (o + 44) 60) = R5 from hR5.symm, q0, nI_1, xl_v, show xS R5 1 (upd (R5.1 1) (0 : Int32).toNatClampNeg (nI (c + 1))) = R6 from hR6.symm, q6, nI_pred]
            rfl
          · have hd6 : DS M6 0 (R6.1 1) G6 B := by
              refine p6.ds (fun i hi hv => Or.inl (Or.inl (Or.inl (Or.inl (Or.inl (vis_same (fun d hd => g0 _ (by omega) (by omega) (by omega) (by omega) (by omega)) hv)))))) (hd1.2.2.2.2.newC hc8 (fun j a b => g0 j a (by omega) (by omega) (by omega) (by omega)) gc (by omega) ?_)
              obtain ⟨a1, a2, a3, a4⟩ := hd1.2.2.2.2.2.1 c hc8
              refine ⟨by rw [g0 _ (by omega) (by omega) (by omega) (by omega) (by omega)]; exact a1, fun r hr => ?_, ?_, fun j hj => ?_⟩
              · rw [← ho]
                have : r = 0 ∨ r = 1 ∨ r = 2 := by omega
                rcases this with rfl | rfl | rfl
                · rw [Nat.add_zero, gx]; exact hx2
                · rw [gy]; exact hy2
                · rw [gz]; exact hz2
              · rw [← ho, gl]; omega
              · rw [g0 _ (by omega) (by omega) (by omega) (by omega) (by omega)] at hj
                rw [g0 _ (by omega) (by omega) (by omega) (by omega) (by omega), g0 _ (by omega) (by omega) (by omega) (by omega) (by omega), g0 _ (by omega) (by omega) (by omega) (by omega) (by omega)]
                exact a4 j hj
            have wm : ∀ k, k ≠ 0 → k ≠ 5 + 5 * c → k ≠ 6 + 5 * c → M6.1 k = M1.1 k := fun k a b d => by rw [hM6, xS_ne a, hM5, xS_ne b, hM4, xS_ne d, hM3, xS_ne d, hM2, xS_ne d]
            have wr : ∀ k, k ≠ 1 → R6.1 k = R1.1 k := fun k a => by rw [hR6, xS_ne a, hR5, xS_ne a, hR4, xS_ne a, hR3, xS_ne a, hR2, xS_ne a]
            exact (Rel.after (M := M1) (R := R1) kx ⟨fun k q1 q2 => wm k (by omega) (by omega) (by omega), fun k q1 q2 => by rw [hM6, hM5, hM4, hM3, hM2]; rfl⟩ ⟨wr 2 (by omega), wr 3 (by omega), wr 5 (by omega), by rw [wr 0 (by omega)], by rw [wr 0 (by omega)], by rw [wr 0 (by omega)], by rw [wr 0 (by omega)], by rw [wr 0 (by omega)], by rw [wr 0 (by omega)]⟩ hd6).thrown
      · refine Agr.no (E := "java/lang/IllegalArgumentException") (k := 1) (w := 0) h rfl (by decide) ?_ ?_
        · unfold F_X9_addColorant; rw [e1, xbd_some, xth_inl, e3, xbd_some, xth_inl, e5]; rfl
        · unfold F_X10_addColorant; rw [e2, xbd_some, if_neg i1n, e4, xbd_some, if_neg i1n, e6]; rfl
    · refine Agr.no (E := "java/lang/IllegalArgumentException") (k := 1) (w := 0) h rfl (by decide) ?_ ?_
      · unfold F_X9_addColorant; rw [e1, xbd_some, xth_inl, e3]; rfl
      · unfold F_X10_addColorant; rw [e2, xbd_some, if_neg i1n, e4]; rfl
  · refine Agr.no (E := "java/lang/IllegalArgumentException") (k := 1) (w := 0) h rfl (by decide) ?_ ?_
    · unfold F_X9_addColorant; rw [e1]; rfl
    · unfold F_X10_addColorant; rw [e2]; rfl
theorem o_7 {N : Nat} (hN : 12000 ≤ N) {v1 v2 v3 v4 v5 v6 : Int32} {M R : xM} (h : Rel M R) : ∃ q, zOp_7 N v1 v2 v3 v4 v5 v6 M R = some q ∧ Rel q.1 q.2 := by
  refine zAgr (hd := hA) ?_
  obtain ⟨⟨G, B, hd⟩, hx⟩ := id h
  obtain ⟨-, ⟨m0, r0⟩, -⟩ := hd.n0
  have r0' : R.1 1 (1 : Int32).toNatClampNeg = nI (G 1) := r0
  have hb := hd.2.2.2.2.1
  rcases zRange (N := N) v1 0 99 M R with ⟨l1, l2, e1, e2⟩ | ⟨e1, e2⟩
  · obtain ⟨x, -, hx2, rfl⟩ := zNat (a := 0) (b := 99) rfl rfl l1 l2
    rcases zRange (N := N) v2 0 99 M R with ⟨l1, l2, e3, e4⟩ | ⟨e3, e4⟩
    · obtain ⟨y, -, hy2, rfl⟩ := zNat (a := 0) (b := 99) rfl rfl l1 l2
      rcases zRange (N := N) v3 0 99 M R with ⟨l1, l2, e5, e6⟩ | ⟨e5, e6⟩
      · obtain ⟨z, -, hz2, rfl⟩ := zNat (a := 0) (b := 99) rfl rfl l1 l2
        rcases zRange (N := N) v4 0 200 M R with ⟨l1, l2, e7, e8⟩ | ⟨e7, e8⟩
        · obtain ⟨t, -, ht2, rfl⟩ := zNat (a := 0) (b := 200) rfl rfl l1 l2
          by_cases h8 : G 1 = 6
          · refine Agr.no (E := "java/lang/IllegalStateException") (k := 2) (w := 0) h rfl (by decide) ?_ ?_
            · unfold F_X9_addBase; rw [e1, xbd_some, xth_inl, e3, xbd_some, xth_inl, e5, xbd_some, xth_inl, e7, xbd_some, xth_inl, m0, h8, if_neg (show ¬ nI 6 < (6 : Int32) from by decide)]
            · unfold F_X10_addBase; rw [e2, xbd_some, if_neg i1n, e4, xbd_some, if_neg i1n, e6, xbd_some, if_neg i1n, e8, xbd_some, if_neg i1n, if_pos (show (R, (1 : Int32)).1.1 1 (1 : Int32).toNatClampNeg = (6 : Int32) from by show R.1 1 (1 : Int32).toNatClampNeg = 6; rw [r0', h8]; rfl)]; rfl
          · obtain ⟨M1, R1, k1, k2, kx, km, kr, ks⟩ := keep_ok hN h
            have hd1 : DS M1 0 (R1.1 1) G B := hd.cong (fun k hk => (km _ (by omega)).1) (fun k hk => (km _ (by omega)).2) (fun i hi => by rw [kr 1 (by omega) (by omega)])
            obtain ⟨c, hc⟩ : ∃ c, c = G 1 := ⟨_, rfl⟩
            have hc8 : c < 6 := by omega
            obtain ⟨-, ⟨m0', r0''⟩, -⟩ := hd1.n0
            rw [← hc] at m0' r0''
            have lc := loc_b c hc8
            obtain ⟨o, ho⟩ : ∃ o, o = 373 + 6 * c := ⟨_, rfl⟩
            rw [← ho] at lc
            obtain ⟨M2, hM2⟩ : ∃ M2, M2 = xS M1 (46 + 2 * c) (upd (M1.1 (46 + 2 * c)) 0 (nI x)) := ⟨_, rfl⟩
            obtain ⟨M3, hM3⟩ : ∃ M3, M3 = xS M2 (46 + 2 * c) (upd (M2.1 (46 + 2 * c)) 1 (nI y)) := ⟨_, rfl⟩
            obtain ⟨M4, hM4⟩ : ∃ M4, M4 = xS M3 (46 + 2 * c) (upd (M3.1 (46 + 2 * c)) 2 (nI z)) := ⟨_, rfl⟩
            obtain ⟨M5, hM5⟩ : ∃ M5, M5 = xS M4 (45 + 2 * c) (upd (M4.1 (45 + 2 * c)) 1 (nI t)) := ⟨_, rfl⟩
            obtain ⟨M6, hM6⟩ : ∃ M6, M6 = xS M5 0 (upd (M5.1 0) 5 (nI (c + 1))) := ⟨_, rfl⟩
            obtain ⟨R2, hR2⟩ : ∃ R2, R2 = xS R1 1 (upd (R1.1 1) o (nI x)) := ⟨_, rfl⟩
            obtain ⟨R3, hR3⟩ : ∃ R3, R3 = xS R2 1 (upd (R2.1 1) (o + 1) (nI y)) := ⟨_, rfl⟩
            obtain ⟨R4, hR4⟩ : ∃ R4, R4 = xS R3 1 (upd (R3.1 1) (o + 2) (nI z)) := ⟨_, rfl⟩
            obtain ⟨R5, hR5⟩ : ∃ R5, R5 = xS R4 1 (upd (R4.1 1) (o + 3) (nI t)) := ⟨_, rfl⟩
            obtain ⟨R6, hR6⟩ : ∃ R6, R6 = xS R5 1 (upd (R5.1 1) 1 (nI (c + 1))) := ⟨_, rfl⟩
            have p2 := hd1.dp.w (i := o) (lc.1 0 (by omega)) hM2 hR2
            have p3 := p2.w (lc.1 1 (by omega)) hM3 hR3
            have p4 := p3.w (lc.1 2 (by omega)) hM4 hR4
            have p5 := p4.w lc.2.1 hM5 hR5
            have p6 := p5.w (loc_n 1 (by omega)) hM6 hR6
            obtain ⟨G6, hG6⟩ : ∃ G6, G6 = updN (updN (updN (updN (updN G o x) (o + 1) y) (o + 2) z) (o + 3) t) 1 (c + 1) := ⟨_, rfl⟩
            rw [← hG6] at p6
            have g0 : ∀ j, j ≠ 1 → j ≠ o → j ≠ o + 1 → j ≠ o + 2 → j ≠ o + 3 → G6 j = G j := fun j a b d e f => by rw [hG6, updN_n a, updN_n f, updN_n e, updN_n d, updN_n b]
            have gx : G6 o = x := by rw [hG6, updN_n (by omega), updN_n (by omega), updN_n (by omega), updN_n (by omega), updN_s]
            have gy : G6 (o + 1) = y := by rw [hG6, updN_n (by omega), updN_n (by omega), updN_n (by omega), updN_s]
            have gz : G6 (o + 2) = z := by rw [hG6, updN_n (by omega), updN_n (by omega), updN_s]
            have gl : G6 (o + 3) = t := by rw [hG6, updN_n (by omega), updN_s]
            have gc : G6 1 = G 1 + 1 := by rw [hG6, updN_s, hc]
            have n0 : M5.1 0 5 = nI c := by rw [hM5, xS_ne (by omega), hM4, xS_ne (by omega), hM3, xS_ne (by omega), hM2, xS_ne (by omega)]; exact m0'
            have q0 : R5.1 1 (1 : Int32).toNatClampNeg = nI c := by show R5.1 1 1 = nI c; rw [hR5, xS_f (by omega), hR4, xS_f (by omega), hR3, xS_f (by omega), hR2, xS_f (by omega)]; exact r0''
            have n6 : M6.1 0 5 = nI (c + 1) := by rw [hM6]; exact xS_in
            have q6 : R6.1 1 (1 : Int32).toNatClampNeg = nI (c + 1) := by show R6.1 1 1 = nI (c + 1); rw [hR6]; exact xS_in
            refine Or.inl ⟨M6, xS R6 0 (upd (R6.1 0) 0 0), nI c, ?_, ?_, xS_in, ?_⟩
            · unfold F_X9_addBase
              rw [e1, xbd_some, xth_inl, e3, xbd_some, xth_inl, e5, xbd_some, xth_inl, e7, xbd_some, xth_inl, m0, if_pos (show nI (G 1) < (6 : Int32) from nI_lt (b := 6) (by omega) (by omega)), k1, xbd_some]
              unfold F_X3_makeBase
              dsimp only
              rw [m0', ck_nI hc8 (by decide), nI_clamp (by omega), show (0 : Nat) + 45 + 2 * c = 45 + 2 * c by omega, show 45 + 2 * c + 1 = 46 + 2 * c by omega, xl_v, show xS M1 (46 + 2 * c) (upd (M1.1 (46 + 2 * c)) (0 : Int32).toNatClampNeg (nI x)) = M2 from hM2.symm, xl_v, show xS M2 (46 + 2 * c) (upd (M2.1 (46 + 2 * c)) (1 : Int32).toNatClampNeg (nI y)) = M3 from hM3.symm, xl_v, show xS M3 (46 + 2 * c) (upd (M3.1 (46 + 2 * c)) (2 : Int32).toNatClampNeg (nI z)) = M4 from hM4.symm, xl_v, ← hM5, xl_v, n0, nI_1, ← hM6, n6, nI_pred, xbd_some]
            · unfold F_X10_addBase
              rw [e2, xbd_some, if_neg i1n, e4, xbd_some, if_neg i1n, e6, xbd_some, if_neg i1n, e8, xbd_some, if_neg i1n, if_neg (show ¬ (R, (1 : Int32)).1.1 1 (1 : Int32).toNatClampNeg = (6 : Int32) from by show ¬ R.1 1 (1 : Int32).toNatClampNeg = 6; rw [r0']; exact fun e => h8 ((nI_eq (b := 6) (by omega) (by omega)).mp e)), k2, xbd_some]
              dsimp only
              rw [show R1.1 1 (1 : Int32).toNatClampNeg = nI c from r0'', show (373 : Int32) + 6 * nI c = nI o from by rw [ho]; show nI 373 + nI 6 * nI c = _; rw [pk_mul, nI_add], xl_v, ck_nI (by omega) (by decide), nI_clamp (by omega), xl_v, ← hR2, nI_1, ck_nI (by omega) (by decide), nI_clamp (by omega), xl_v, ← hR3, show nI o + 2 = nI (o + 2) from nI_add o 2, ck_nI (by omega) (by decide), nI_clamp (by omega), xl_v, ← hR4, show nI o + 3 = nI (o + 3) from nI_add o 3, ck_nI (by omega) (by decide), nI_clamp (by omega), xl_v, ← hR5, q0, nI_1, xl_v, show xS R5 1 (upd (R5.1 1) (1 : Int32).toNatClampNeg (nI (c + 1))) = R6 from hR6.symm, q6, nI_pred]
              rfl
            · have hd6 : DS M6 0 (R6.1 1) G6 B := by
                refine p6.ds (fun i hi hv => Or.inl (Or.inl (Or.inl (Or.inl (Or.inl (vis_same (fun d hd => g0 _ (by omega) (by omega) (by omega) (by omega) (by omega)) hv)))))) (hd1.2.2.2.2.newB (fun j a b => g0 j a (by omega) (by omega) (by omega) (by omega)) gc (by omega) ?_)
                rw [← hc, ← ho]
                refine ⟨fun r hr => ?_, by rw [gl]; exact ht2⟩
                have : r = 0 ∨ r = 1 ∨ r = 2 := by omega
                rcases this with rfl | rfl | rfl
                · rw [Nat.add_zero, gx]; exact hx2
                · rw [gy]; exact hy2
                · rw [gz]; exact hz2
              have wm : ∀ k, k ≠ 0 → k ≠ 45 + 2 * c → k ≠ 46 + 2 * c → M6.1 k = M1.1 k := fun k a b d => by rw [hM6, xS_ne a, hM5, xS_ne b, hM4, xS_ne d, hM3, xS_ne d, hM2, xS_ne d]
              have wr : ∀ k, k ≠ 1 → R6.1 k = R1.1 k := fun k a => by rw [hR6, xS_ne a, hR5, xS_ne a, hR4, xS_ne a, hR3, xS_ne a, hR2, xS_ne a]
              exact (Rel.after (M := M1) (R := R1) kx ⟨fun k q1 q2 => wm k (by omega) (by omega) (by omega), fun k q1 q2 => by rw [hM6, hM5, hM4, hM3, hM2]; rfl⟩ ⟨wr 2 (by omega), wr 3 (by omega), wr 5 (by omega), by rw [wr 0 (by omega)], by rw [wr 0 (by omega)], by rw [wr 0 (by omega)], by rw [wr 0 (by omega)], by rw [wr 0 (by omega)], by rw [wr 0 (by omega)]⟩ hd6).thrown
        · refine Agr.no (E := "java/lang/IllegalArgumentException") (k := 1) (w := 0) h rfl (by decide) ?_ ?_
          · unfold F_X9_addBase; rw [e1, xbd_some, xth_inl, e3, xbd_some, xth_inl, e5, xbd_some, xth_inl, e7]; rfl
          · unfold F_X10_addBase; rw [e2, xbd_some, if_neg i1n, e4, xbd_some, if_neg i1n, e6, xbd_some, if_neg i1n, e8]; rfl
      · refine Agr.no (E := "java/lang/IllegalArgumentException") (k := 1) (w := 0) h rfl (by decide) ?_ ?_
        · unfold F_X9_addBase; rw [e1, xbd_some, xth_inl, e3, xbd_some, xth_inl, e5]; rfl
        · unfold F_X10_addBase; rw [e2, xbd_some, if_neg i1n, e4, xbd_some, if_neg i1n, e6]; rfl
    · refine Agr.no (E := "java/lang/IllegalArgumentException") (k := 1) (w := 0) h rfl (by decide) ?_ ?_
      · unfold F_X9_addBase; rw [e1, xbd_some, xth_inl, e3]; rfl
      · unfold F_X10_addBase; rw [e2, xbd_some, if_neg i1n, e4]; rfl
  · refine Agr.no (E := "java/lang/IllegalArgumentException") (k := 1) (w := 0) h rfl (by decide) ?_ ?_
    · unfold F_X9_addBase; rw [e1]; rfl
    · unfold F_X10_addBase; rw [e2]; rfl
