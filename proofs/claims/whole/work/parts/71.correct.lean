/-! correct -/
theorem sumN_up {f g : Nat → Nat} {i d : Nat} : ∀ {n : Nat}, i < n → (∀ k, k < n → k ≠ i → g k = f k) → g i = f i + d → sumN g n = sumN f n + d
  | 0, h, _, _ => absurd h (Nat.not_lt_zero _)
  | n + 1, h, h1, h2 => by
    show sumN g n + g n = sumN f n + f n + d
    by_cases e : i = n
    · subst e
      rw [sumN_cong (fun k hk => h1 k (by omega) (by omega)), h2]
      omega
    · rw [sumN_up (n := n) (by omega) (fun k a b => h1 k (by omega) b) h2, h1 n (by omega) (by omega)]
      omega
theorem GI.corr {G G1 : Nat → Nat} {B B1 : Nat → Nat → Nat → Bool} {k c s : Nat} {P : Nat → Bool} (h : GI G B) (hk : k < G 3) (hc : c < G 0) (hs : 1 ≤ s) (e : ∀ j, (j < 5 ∨ 373 ≤ j) → j ≠ 579 + 44 * k + 2 + c → j ≠ 579 + 44 * k + 10 → j ≠ 579 + 44 * k + 11 → (j < 579 + 44 * k + 12 ∨ 579 + 44 * k + 44 ≤ j) → G1 j = G j) (e2 : G1 (579 + 44 * k + 2 + c) = G (579 + 44 * k + 2 + c) + s) (e10 : G1 (579 + 44 * k + 10) = G (579 + 44 * k + 10) + 1) (e11 : G1 (579 + 44 * k + 11) = G (579 + 44 * k + 11) + s) (hroom : allK G k + s ≤ G (373 + 6 * G (579 + 44 * k + 1) + 3)) (hcan : ∀ d, d < 8 → GIc G1 d) (hB : ∀ k2 d q, k2 < 20 → d < 8 → q < 100 → B1 k2 d q = (B k2 d q || (decide (k2 = k) && (decide (d = c) && P q)))) (hP : cntN P 100 ≤ s) : GI G1 B1 := by
  obtain ⟨h0, h1, h2, h3, h4⟩ := h
  have hk20 : k < 20 := by omega
  have hc8 : c < 8 := by omega
  have g0 := e 0 (by omega) (by omega) (by omega) (by omega) (by omega)
  have g1 := e 1 (by omega) (by omega) (by omega) (by omega) (by omega)
  have g2 := e 2 (by omega) (by omega) (by omega) (by omega) (by omega)
  have g3 := e 3 (by omega) (by omega) (by omega) (by omega) (by omega)
  have g4 := e 4 (by omega) (by omega) (by omega) (by omega) (by omega)
  have eK : ∀ k2, k2 < 20 → k2 ≠ k → allK G1 k2 = allK G k2 := fun k2 a b => sumN_cong (fun d hd => e _ (by omega) (by omega) (by omega) (by omega) (by omega))
  have eK1 : allK G1 k = allK G k + s := sumN_up (i := c) (n := 8) (f := fun d => G (579 + 44 * k + 2 + d)) (g := fun d => G1 (579 + 44 * k + 2 + d)) hc8 (fun d hd hn => e _ (by omega) (by omega) (by omega) (by omega) (by omega)) e2
  refine ⟨by rw [g0, g1, g2, g3, g4]; exact h0, hcan, fun b hb => ?_, fun f hf => ?_, fun k2 hk2 => ?_⟩
  · obtain ⟨a1, a2, a3, a4⟩ := h2 b hb
    have x : ∀ t, t < 6 → G1 (373 + 6 * b + t) = G (373 + 6 * b + t) := fun t ht => e _ (by omega) (by omega) (by omega) (by omega) (by omega)
    refine ⟨fun r hr => by rw [x r (by omega)]; exact a1 r hr, by rw [x 3 (by omega)]; exact a2, by rw [x 4 (by omega)]; exact a3, ?_⟩
    rw [g3, x 5 (by omega), a4]
    exact cntN_cong (fun k2 hk2 => by rw [e (579 + 44 * k2 + 1) (by omega) (by omega) (by omega) (by omega) (by omega)])
  · obtain ⟨a1, a2⟩ := h3 f hf
    have x : ∀ t, t < 17 → G1 (409 + 17 * f + t) = G (409 + 17 * f + t) := fun t ht => e _ (by omega) (by omega) (by omega) (by omega) (by omega)
    refine ⟨by rw [g2, show G1 (409 + 17 * f) = G (409 + 17 * f) from x 0 (by omega), g1]; exact a1, fun d hd => ?_⟩
    have x1 : G1 (409 + 17 * f + 1 + d) = G (409 + 17 * f + 1 + d) := by rw [show 409 + 17 * f + 1 + d = 409 + 17 * f + (1 + d) by omega]; exact x _ (by omega)
    have x9 : G1 (409 + 17 * f + 9 + d) = G (409 + 17 * f + 9 + d) := by rw [show 409 + 17 * f + 9 + d = 409 + 17 * f + (9 + d) by omega]; exact x _ (by omega)
    rw [x1, x9, g2, g0]
    exact a2 d hd
  · obtain ⟨a1, a2, a3, a4, a5⟩ := h4 k2 hk2
    by_cases hkk : k2 = k
    · subst hkk
      obtain ⟨b1, b2, b3, b4⟩ := a1 hk
      have y0 : G1 (579 + 44 * k2) = G (579 + 44 * k2) := e _ (by omega) (by omega) (by omega) (by omega) (by omega)
      have y1 : G1 (579 + 44 * k2 + 1) = G (579 + 44 * k2 + 1) := e _ (by omega) (by omega) (by omega) (by omega) (by omega)
      refine ⟨fun _ => ?_, fun d hd => ?_, by rw [e10, e11]; omega, by rw [e11, eK1]; omega, Or.inl (by rw [g3]; exact hk)⟩
      · rw [y0, y1, eK1, g2, g1, e (409 + 17 * G (579 + 44 * k2)) (by omega) (by omega) (by omega) (by omega) (by omega), e (373 + 6 * G (579 + 44 * k2 + 1) + 3) (by omega) (by omega) (by omega) (by omega) (by omega)]
        exact ⟨b1, b2, b3, hroom⟩
      · obtain ⟨c1, c2⟩ := a2 d hd
        rw [g0]
        by_cases hdc : d = c
        · subst hdc
          rw [e2]
          refine ⟨?_, Or.inl hc⟩
          have : cntN (fun q => B1 k2 d q) 100 = cntN (fun q => B k2 d q || P q) 100 := cntN_cong (fun q hq => by rw [hB k2 d q hk2 hd hq, decide_eq_true rfl, decide_eq_true rfl, Bool.true_and, Bool.true_and])
          rw [this]
          have := cntN_or (f := fun q => B k2 d q) (g := P) 100
          omega
        · rw [e (579 + 44 * k2 + 2 + d) (by omega) (by omega) (by omega) (by omega) (by omega)]
          refine ⟨?_, c2⟩
          have : cntN (fun q => B1 k2 d q) 100 = cntN (fun q => B k2 d q) 100 := cntN_cong (fun q hq => by rw [hB k2 d q hk2 hd hq, decide_eq_false hdc, Bool.false_and, Bool.and_false, Bool.or_false])
          rw [this]
          exact c1
    · have x : ∀ t, t < 12 → G1 (579 + 44 * k2 + t) = G (579 + 44 * k2 + t) := fun t ht => e _ (by omega) (by omega) (by omega) (by omega) (by omega)
      have x2 : ∀ d, d < 8 → G1 (579 + 44 * k2 + 2 + d) = G (579 + 44 * k2 + 2 + d) := fun d hd => by rw [show 579 + 44 * k2 + 2 + d = 579 + 44 * k2 + (2 + d) by omega]; exact x _ (by omega)
      have xB : ∀ d q, d < 8 → q < 100 → B1 k2 d q = B k2 d q := fun d q hd hq => by rw [hB k2 d q hk2 hd hq, decide_eq_false hkk, Bool.false_and, Bool.or_false]
      refine ⟨fun hk3 => ?_, fun d hd => ?_, by rw [x 10 (by omega), x 11 (by omega)]; exact a3, by rw [eK k2 hk2 hkk, x 11 (by omega)]; exact a4, ?_⟩
      · rw [g3] at hk3
        obtain ⟨b1, b2, b3, b4⟩ := a1 hk3
        rw [show G1 (579 + 44 * k2) = G (579 + 44 * k2) from x 0 (by omega), x 1 (by omega), eK k2 hk2 hkk, g2, g1, e (409 + 17 * G (579 + 44 * k2)) (by omega) (by omega) (by omega) (by omega) (by omega), e (373 + 6 * G (579 + 44 * k2 + 1) + 3) (by omega) (by omega) (by omega) (by omega) (by omega)]
        exact ⟨b1, b2, b3, b4⟩
      · rw [x2 d hd, g0, show cntN (fun q => B1 k2 d q) 100 = cntN (fun q => B k2 d q) 100 from cntN_cong (fun q hq => xB d q hd hq)]
        exact a2 d hd
      · rw [g3, x 10 (by omega), x 11 (by omega)]
        rcases a5 with a5 | ⟨a5, a6, a7⟩
        · exact Or.inl a5
        · exact Or.inr ⟨fun d hd => by rw [x2 d hd]; exact a5 d hd, fun d q hd hq => by rw [xB d q hd hq]; exact a6 d q hd hq, a7⟩
theorem isP_k {i k : Nat} (h : isP i = true) (hk : k < 20) (hi : 579 + 44 * k ≤ i) (h2 : i < 579 + 44 * k + 44) : i < 579 + 44 * k + 12 := by
  unfold isP at h
  rw [if_neg (by omega), if_neg (by omega), if_neg (by omega), if_neg (by omega)] at h
  have := of_decide_eq_true (Bool.and_eq_true_iff.mp h).2
  omega
theorem refuse_ok {N : Nat} {w lk : Int32} {M : xM} (hw : ¬ w = 0) : F_X9_stopIfRefused N w lk M = some (xS (xS M 1470 (upd (M.1 1470) 6 w)) 1470 (upd ((xS M 1470 (upd (M.1 1470) 6 w)).1 1470) 7 lk), Sum.inr "java/lang/UnsupportedOperationException") := by
  unfold F_X9_stopIfRefused
  rw [if_neg hw]
  rfl
theorem norefuse_ok {N : Nat} {lk : Int32} {M : xM} : F_X9_stopIfRefused N 0 lk M = some (M, Sum.inl (0 : Int32)) := by
  unfold F_X9_stopIfRefused
  rw [if_pos rfl]
theorem o_24 {N : Nat} (hN : 12000 ≤ N) {v1 v2 v3 v4 v5 v6 : Int32} {M R : xM} (h : Rel M R) : ∃ q, zOp_24 N v1 v2 v3 v4 v5 v6 M R = some q ∧ Rel q.1 q.2 := by
  refine zAgr (hd := h3) ?_
  obtain ⟨⟨G, B, hd⟩, hx⟩ := id h
  obtain ⟨⟨m0, r0⟩, -, -, ⟨m3, r3⟩, -⟩ := hd.n0
  have hg := hd.2.2.2.2
  have hb := hg.1
  rcases zCan (N := N) (n := G 3) (by omega) m3 r3 v1 with ⟨k, hk, rfl, e1, e2⟩ | ⟨e1, e2⟩
  · have hk20 : k < 20 := by omega
    rcases zCol (N := N) (n := G 0) (by omega) m0 r0 v2 with ⟨c, hc, rfl, e3, e4⟩ | ⟨e3, e4⟩
    · have hc8 : c < 8 := by omega
      rcases zRange (N := N) v3 1 50 M R with ⟨l1, l2, e5, e6⟩ | ⟨e5, e6⟩
      · obtain ⟨s, hs1, hs2, rfl⟩ := zNat (a := 1) (b := 50) rfl rfl l1 l2
        obtain ⟨q1, q2, q3, q4⟩ := (hg.2.2.2.2 k hk20).1 hk
        have hb6 : G (579 + 44 * k + 1) < 6 := by omega
        have hl200 := (hg.2.2.1 _ hb6).2.1
        have hrm : room G k ≤ 200 := by unfold room; omega
        have hin : inC G c ≤ 12 * 500 := by
          have h9 := hg.2.1 c hc8
          have := sumN_le (f := fun j => G (5 + 46 * c + 19 + j)) (b := 500) (n := G (5 + 46 * c + 3)) (fun i hi => (h9.2.2.2 i hi).2.2.1)
          exact Nat.le_trans this (Nat.mul_le_mul_right 500 h9.1)
        by_cases hroom : s ≤ room G k
        · by_cases hins : s ≤ inC G c
          · obtain ⟨M1, R1, k1, k2, kx, km, kr, ks⟩ := keep_ok hN h
            have hd1 : DS M1 0 (R1.1 1) G B := hd.cong (fun k hk => (km _ (by omega)).1) (fun k hk => (km _ (by omega)).2) (fun i hi => by rw [kr 1 (by omega) (by omega)])
            have hr1 := hd1.2.2.1
            have ce1 := hd1.ce hc8
            have hlo := LG_ok (hg.2.1 c hc8)
            obtain ⟨l, hl⟩ : ∃ l, l = LG G c := ⟨_, rfl⟩
            rw [← hl] at ce1 hlo
            have hsum : sumL l = inC G c := by
              have t1 := ce1.1.sum (N := N) (by omega) hlo.1
              have t2 := hd1.steps (N := N) (c := c) (by omega) hc8 (p := 5 + 5 * c) rfl
              rw [t1] at t2
              have t3 := congrArg Prod.snd (Option.some.inj t2)
              have t4 : sumL l ≤ 6000 := by have := sumL_le hlo; have := hlo.1; omega
              exact (nI_eq (by omega) (by omega)).mp t3
            obtain ⟨M2, f1, f2, f3, f4, f5, f6, f7, f8, f9⟩ := pumpInto_ok (N := N) (p := 5 + 5 * c) (k1 := 87 + 3 * k) (c := c) (s := s) (by omega) hc8 ⟨by omega, by omega, by omega, by omega⟩ ce1.1 hlo (by omega)
            rw [show 87 + 3 * k + 1 = 88 + 3 * k by omega] at f6 f7
            obtain ⟨R2, g1, g2, g3, g4, g5, g6, g7⟩ := pumps_ok (N := N) (c := c) (k := k) (s := s) (by omega) hc8 hk20 ce1.2.1 hlo (by omega)
            obtain ⟨M3, hM3⟩ : ∃ M3, M3 = xS M2 (87 + 3 * k) (upd (M2.1 (87 + 3 * k)) 2 (M2.1 (87 + 3 * k) 2 + 1)) := ⟨_, rfl⟩
            obtain ⟨M4, hM4⟩ : ∃ M4, M4 = xS M3 (87 + 3 * k) (upd (M3.1 (87 + 3 * k)) 3 (M3.1 (87 + 3 * k) 3 + nI s)) := ⟨_, rfl⟩
            obtain ⟨R3, hR3⟩ : ∃ R3, R3 = xS R2 1 (upd (R2.1 1) (579 + 44 * k + 10) (R2.1 1 (579 + 44 * k + 10) + 1)) := ⟨_, rfl⟩
            obtain ⟨R4, hR4⟩ : ∃ R4, R4 = xS R3 1 (upd (R3.1 1) (579 + 44 * k + 11) (R3.1 1 (579 + 44 * k + 11) + nI s)) := ⟨_, rfl⟩
            -- what the class's places hold
            have w0 : ∀ p, p ≠ 5 + 5 * c → p ≠ 7 + 5 * c → p ≠ 8 + 5 * c → p ≠ 9 + 5 * c → p ≠ 88 + 3 * k → p ≠ 87 + 3 * k → M4.1 p = M1.1 p := fun p a1 a2 a3 a4 a5 a6 => by rw [hM4, xS_ne a6, hM3, xS_ne a6, f3 p a1 (by omega) (by omega) (by omega) (by omega)]
            have wp : ∀ p, p ≠ 87 + 3 * k → M4.1 p = M2.1 p := fun p a => by rw [hM4, xS_ne a, hM3, xS_ne a]
            have wk : ∀ t, t ≠ 2 → t ≠ 3 → M4.1 (87 + 3 * k) t = M1.1 (87 + 3 * k) t := fun t a b => by rw [hM4, xS_f b, hM3, xS_f a, f3 _ (by omega) (by omega) (by omega) (by omega) (by omega)]
            have wk2 : M4.1 (87 + 3 * k) 2 = M1.1 (87 + 3 * k) 2 + 1 := by rw [hM4, xS_f (by omega), hM3, xS_in, f3 _ (by omega) (by omega) (by omega) (by omega) (by omega)]
            have wk3 : M4.1 (87 + 3 * k) 3 = M1.1 (87 + 3 * k) 3 + nI s := by rw [hM4, xS_in, hM3, xS_f (by omega), f3 _ (by omega) (by omega) (by omega) (by omega) (by omega)]
            have w2 : M4.2 = M2.2 := by rw [hM4, hM3]; rfl
            have u0 : ∀ j, j ≠ 5 + 46 * c + 3 → j ≠ 5 + 46 * c + 5 → (j < 5 + 46 * c + 7 ∨ 5 + 46 * c + 43 ≤ j) → (j < 579 + 44 * k + 12 ∨ 579 + 44 * k + 44 ≤ j) → j ≠ 579 + 44 * k + 2 + c → j ≠ 579 + 44 * k + 10 → j ≠ 579 + 44 * k + 11 → R4.1 1 j = R1.1 1 j := fun j a1 a2 a3 a4 a5 a6 a7 => by rw [hR4, xS_f a7, hR3, xS_f a6, g3 j a1 a2 a3 (by omega) a5]
            have ur : ∀ j, j ≠ 579 + 44 * k + 10 → j ≠ 579 + 44 * k + 11 → R4.1 1 j = R2.1 1 j := fun j a6 a7 => by rw [hR4, xS_f a7, hR3, xS_f a6]
            have u10 : R4.1 1 (579 + 44 * k + 10) = R1.1 1 (579 + 44 * k + 10) + 1 := by rw [hR4, xS_f (by omega), hR3, xS_in, g3 _ (by omega) (by omega) (by omega) (by omega) (by omega)]
            have u11 : R4.1 1 (579 + 44 * k + 11) = R1.1 1 (579 + 44 * k + 11) + nI s := by rw [hR4, xS_in, hR3, xS_f (by omega), g3 _ (by omega) (by omega) (by omega) (by omega) (by omega)]
            have u2 : R4.1 1 (579 + 44 * k + 2 + c) = R1.1 1 (579 + 44 * k + 2 + c) + nI s := by rw [ur _ (by omega) (by omega)]; exact g5
            have uk : ∀ p, p ≠ 1 → R4.1 p = R1.1 p := fun p a => by rw [hR4, xS_ne a, hR3, xS_ne a, g6 p a]
            have hpo := pumpL_ok (s := s) hlo
            -- the canister
            have hCE : CE M4 (R4.1 1) c (pumpL l s) := by
              refine ⟨f2.cong (fun p a b => wp p (by omega)), g2.cong hpo.1.1 (fun j a b => ur j (by omega) (by omega)), fun a ha => ?_, ?_, ?_, ?_, ?_, ?_⟩
              · rw [w0 _ (by omega) (by omega) (by omega) (by omega) (by omega) (by omega), u0 _ (by omega) (by omega) (by omega) (by omega) (by omega) (by omega) (by omega)]; exact ce1.2.2.1 a ha
              · rw [wp _ (by omega), f4 2 (by omega) (by omega), u0 _ (by omega) (by omega) (by omega) (by omega) (by omega) (by omega) (by omega)]; exact ce1.2.2.2.1
              · rw [wp _ (by omega), f5, ur _ (by omega) (by omega), g4, ce1.2.2.2.2.1]
              · rw [wp _ (by omega), f4 4 (by omega) (by omega), u0 _ (by omega) (by omega) (by omega) (by omega) (by omega) (by omega) (by omega)]; exact ce1.2.2.2.2.2.1
              · rw [wp _ (by omega), f4 5 (by omega) (by omega), u0 _ (by omega) (by omega) (by omega) (by omega) (by omega) (by omega) (by omega)]; exact ce1.2.2.2.2.2.2.1
              · rw [wp _ (by omega), f4 1 (by omega) (by omega), u0 _ (by omega) (by omega) (by omega) (by omega) (by omega) (by omega) (by omega)]; exact ce1.2.2.2.2.2.2.2
            obtain ⟨G1, hG1⟩ : ∃ G1 : Nat → Nat, G1 = fun j => if 5 ≤ j ∧ j < 373 ∨ 579 + 44 * k + 12 ≤ j ∧ j < 579 + 44 * k + 44 then GR (R4.1 1) j else if j = 579 + 44 * k + 2 + c then G j + s else if j = 579 + 44 * k + 10 then G j + 1 else if j = 579 + 44 * k + 11 then G j + s else G j := ⟨_, rfl⟩
            have y1 : ∀ j, (5 ≤ j ∧ j < 373 ∨ 579 + 44 * k + 12 ≤ j ∧ j < 579 + 44 * k + 44) → G1 j = GR (R4.1 1) j := fun j hj => by rw [hG1]; exact if_pos hj
            have y2 : G1 (579 + 44 * k + 2 + c) = G (579 + 44 * k + 2 + c) + s := by rw [hG1]; dsimp only; rw [if_neg (by omega), if_pos rfl]
            have y10 : G1 (579 + 44 * k + 10) = G (579 + 44 * k + 10) + 1 := by rw [hG1]; dsimp only; rw [if_neg (by omega), if_neg (by omega), if_pos rfl]
            have y11 : G1 (579 + 44 * k + 11) = G (579 + 44 * k + 11) + s := by rw [hG1]; dsimp only; rw [if_neg (by omega), if_neg (by omega), if_neg (by omega), if_pos rfl]
            have y0 : ∀ j, (j < 5 ∨ 373 ≤ j) → j ≠ 579 + 44 * k + 2 + c → j ≠ 579 + 44 * k + 10 → j ≠ 579 + 44 * k + 11 → (j < 579 + 44 * k + 12 ∨ 579 + 44 * k + 44 ≤ j) → G1 j = G j := fun j a1 a2 a3 a4 a5 => by rw [hG1]; dsimp only; rw [if_neg (by omega), if_neg a2, if_neg a3, if_neg a4]
            have hcanG : ∀ d, d < 8 → ∃ l2, CE M4 (R4.1 1) d l2 ∧ GIc G1 d ∧ G1 (5 + 46 * d + 3) = l2.length := fun d hd8 => by
              have hv : ∀ a, a < 3 → ∃ v, v ≤ 9 ∧ R4.1 1 (5 + 46 * d + a) = nI v := fun a ha => ⟨G (5 + 46 * d + a), (hg.2.1 d hd8).2.1 a ha, by rw [u0 _ (by omega) (by omega) (by omega) (by omega) (by omega) (by omega) (by omega)]; exact hr1 _ (by omega)⟩
              have hw : ∃ v, v ≤ 99 ∧ R4.1 1 (5 + 46 * d + 44) = nI v := ⟨G (5 + 46 * d + 44), (hg.2.1 d hd8).2.2.1, by rw [u0 _ (by omega) (by omega) (by omega) (by omega) (by omega) (by omega) (by omega)]; exact hr1 _ (by omega)⟩
              by_cases e : d = c
              · subst e
                have := GIc_of (G := G1) hd8 (fun t ht => y1 _ (by omega)) hCE.2.1 hpo.1 hv hw
                exact ⟨_, hCE, this.1, this.2⟩
              · have lo := LG_ok (hg.2.1 d hd8)
                have hCEd : CE M4 (R4.1 1) d (LG G d) := (hd1.ce hd8).cong lo.1 (fun p a b => w0 p (by omega) (by omega) (by omega) (by omega) (by omega) (by omega)) (fun j a b => u0 j (by omega) (by omega) (by omega) (by omega) (by omega) (by omega) (by omega))
                have := GIc_of (G := G1) hd8 (fun t ht => y1 _ (by omega)) hCEd.2.1 lo hv hw
                exact ⟨_, hCEd, this.1, this.2⟩
            have hB1 : ∃ B1 : Nat → Nat → Nat → Bool, B1 = fun k2 d q => (B k2 d q || (decide (k2 = k) && (decide (d = c) && pumpN l s q))) := ⟨_, rfl⟩
            obtain ⟨B1, hB1⟩ := hB1
            have hd4 : DS M4 0 (R4.1 1) G1 B1 := by
              refine DS.build (fun i hi => ?_) (hg.corr hk hc hs1 y0 y2 y10 y11 ?_ (fun d hd8 => by obtain ⟨l2, z1, z2, z3⟩ := hcanG d hd8; exact z2) (P := pumpN l s) (fun k2 d q _ _ _ => by rw [hB1]) (pumpN_cnt hlo)) (fun k2 d q hk2 hd8 hq => ?_) (fun k2 d q hk2 hd8 hq => ?_) (fun t ht => ?_) (fun d hd8 => by obtain ⟨l2, z1, z2, z3⟩ := hcanG d hd8; exact ⟨l2, z1, z3⟩) (fun i hi hp => ?_)
              · by_cases a1 : 5 ≤ i ∧ i < 373 ∨ 579 + 44 * k + 12 ≤ i ∧ i < 579 + 44 * k + 44
                · rw [y1 i a1, nI_GR]
                · by_cases a2 : i = 579 + 44 * k + 2 + c
                  · rw [a2, u2, y2, hr1 _ (by omega), nI_add]
                  · by_cases a3 : i = 579 + 44 * k + 10
                    · rw [a3, u10, y10, hr1 _ (by omega), nI_1]
                    · by_cases a4 : i = 579 + 44 * k + 11
                      · rw [a4, u11, y11, hr1 _ (by omega), nI_add]
                      · rw [u0 i (by omega) (by omega) (by omega) (by omega) a2 a3 a4, y0 i (by omega) a2 a3 a4 (by omega)]
                        exact hr1 i hi
              · unfold room at hroom
                omega
              · rw [hB1]
                dsimp only
                by_cases e : k2 = k
                · subst e
                  rw [decide_eq_true rfl, Bool.true_and]
                  have t1 := f9 d q hd8 hq
                  rw [(hd1.bits hk2 hd8 hq rfl).1] at t1
                  rw [← t1]
                  unfold bitsM
                  rw [w2, show 0 + 89 + 3 * k2 = 87 + 3 * k2 + 2 by omega]
                · rw [decide_eq_false e, Bool.false_and, Bool.or_false, w2, f8 _ (by omega)]
                  exact hd1.2.1 k2 d q hk2 hd8 hq
              · rw [hB1]
                dsimp only
                have t1 := g7 k2 d q hk2 hd8 hq
                rw [(hd1.bits hk2 hd8 hq rfl).2] at t1
                rw [← t1]
                unfold bitsR
                rw [ur _ (by omega) (by omega)]
              · rw [w0 0 (by omega) (by omega) (by omega) (by omega) (by omega) (by omega), u0 t (by omega) (by omega) (by omega) (by omega) (by omega) (by omega) (by omega), hr1 t (by omega)]
                exact hd1.m (loc_n t ht) (vis_lo (by omega)) rfl
              · have hi1 := isP_lt hp
                have old1 : M1.1 (loc i).1 (loc i).2 = nI (G i) := hd1.m ⟨rfl, hp⟩ (vis_hi hi) (Nat.zero_add _).symm
                have lk := loc_k k hk20
                have lge := loc_ge i hi1 hi hp
                by_cases a2 : i = 579 + 44 * k + 2 + c
                · subst a2
                  have t2 := (lk.2.2.2.2 c hc8).1
                  rw [t2] at old1 ⊢
                  rw [u2, hr1 _ hi1, ← old1]
                  show M4.1 (88 + 3 * k) c = M1.1 (88 + 3 * k) c + nI s
                  rw [wp _ (by omega)]
                  exact f7
                · by_cases a3 : i = 579 + 44 * k + 10
                  · subst a3
                    have t2 := lk.2.2.1.1
                    rw [t2] at old1 ⊢
                    rw [u10, hr1 _ hi1, ← old1]
                    exact wk2
                  · by_cases a4 : i = 579 + 44 * k + 11
                    · subst a4
                      have t2 := lk.2.2.2.1.1
                      rw [t2] at old1 ⊢
                      rw [u11, hr1 _ hi1, ← old1]
                      exact wk3
                    · have nb : i < 579 + 44 * k + 12 ∨ 579 + 44 * k + 44 ≤ i := by
                        by_cases q : 579 + 44 * k ≤ i ∧ i < 579 + 44 * k + 44
                        · exact Or.inl (isP_k hp hk20 q.1 q.2)
                        · omega
                      rw [u0 i (by omega) (by omega) (by omega) nb a2 a3 a4, hr1 i hi1, ← old1]
                      have n2 : loc i ≠ (88 + 3 * k, c) := fun e => a2 (loc_inj hp (lk.2.2.2.2 c hc8).2 (e.trans (lk.2.2.2.2 c hc8).1.symm))
                      have n10 : loc i ≠ (87 + 3 * k, 2) := fun e => a3 (loc_inj hp lk.2.2.1.2 (e.trans lk.2.2.1.1.symm))
                      have n11 : loc i ≠ (87 + 3 * k, 3) := fun e => a4 (loc_inj hp lk.2.2.2.1.2 (e.trans lk.2.2.2.1.1.symm))
                      by_cases p88 : (loc i).1 = 88 + 3 * k
                      · rw [p88, wp _ (by omega)]
                        exact f6 _ (fun e => n2 (Prod.ext p88 e))
                      · by_cases p87 : (loc i).1 = 87 + 3 * k
                        · rw [p87]
                          exact wk _ (fun e => n10 (Prod.ext p87 e)) (fun e => n11 (Prod.ext p87 e))
                        · rw [w0 _ (by omega) (by omega) (by omega) (by omega) p88 p87]
            refine Or.inl ⟨M4, xS R4 0 (upd (R4.1 0) 0 0), nI (allK G1 k), ?_, ?_, xS_in, ?_⟩
            · unfold F_X9_correct
              rw [e1, xbd_some, xth_inl, e3, xbd_some, xth_inl, e5, xbd_some, xth_inl, ck_nI hk20 (by decide), nI_clamp (by omega), show (0 : Nat) + 87 + 3 * k = 87 + 3 * k by omega]
              unfold F_X3_whyNoCorrection
              rw [hd.room (by omega) hk rfl, xbd_some, if_pos (show nI s ≤ (M, nI (room G k)).2 from nI_le hroom (by omega)), ck_nI hc8 (by decide), nI_clamp (by omega), hd.steps (c := c) (by omega) hc8 (p := 0 + 5 + 5 * c) (by omega), xbd_some, if_pos (show nI s ≤ (M, nI (inC G c)).2 from nI_le hins (by omega)), xbd_some]
              dsimp only
              rw [norefuse_ok, xbd_some, xth_inl, k1, xbd_some, ck_nI hc8 (by decide), show (0 : Nat) + 5 + 5 * c = 5 + 5 * c by omega, f1, xbd_some, xl_v, ← hM3, xl_v, ← hM4, hd4.allS (by omega) hk20 rfl]
              rfl
            · unfold F_X10_correct
              rw [e2, xbd_some, if_neg i1n, e4, xbd_some, if_neg i1n, e6, xbd_some, if_neg i1n, show F_X10_roomIn N (nI k) (R, (1 : Int32)).1 = _ from roomIn_ok (by omega) hd hk, xbd_some, if_pos (show nI s ≤ (R, nI (room G k)).2 from nI_le hroom (by omega)), show F_X10_inCanister N (nI c) (R, nI (room G k)).1 = _ from inCanister_ok (by omega) hd.2.2.1 hc8 (hg.2.1 c hc8).1, xbd_some, if_pos (show nI s ≤ (R, nI (inC G c)).2 from nI_le hins (by omega)), k2, xbd_some, g1, xbd_some, show ((579 : Int32) + (44 * nI k)) + 10 = nI (579 + 44 * k + 10) from by show nI 579 + nI 44 * nI k + nI 10 = _; rw [pk_mul, nI_add, nI_add], show ((579 : Int32) + (44 * nI k)) + 11 = nI (579 + 44 * k + 11) from by show nI 579 + nI 44 * nI k + nI 11 = _; rw [pk_mul, nI_add, nI_add], ck_nI (by omega) (by decide), ck_nI (by omega) (by decide), nI_clamp (by omega), nI_clamp (by omega), xl_v, ← hR3, ck_nI (by omega) (by decide), ck_nI (by omega) (by decide), xl_v, ← hR4, allIn_ok (by omega) hd4.2.2.1 hk20]
              rfl
            · exact (Rel.after (M := M1) (R := R1) kx ⟨fun p a b => w0 p (by omega) (by omega) (by omega) (by omega) (by omega) (by omega), fun p a b => by rw [w2, f8 p (by omega)]⟩ ⟨uk 2 (by omega), uk 3 (by omega), uk 5 (by omega), by rw [uk 0 (by omega)], by rw [uk 0 (by omega)], by rw [uk 0 (by omega)], by rw [uk 0 (by omega)], by rw [uk 0 (by omega)], by rw [uk 0 (by omega)]⟩ hd4).thrown
          · -- refused for reason 5
            refine Or.inr ⟨_, xS (xS (xS R 0 (upd (R.1 0) 8 (nI c))) 0 (upd ((xS R 0 (upd (R.1 0) 8 (nI c))).1 0) 7 5)) 0 (upd ((xS (xS R 0 (upd (R.1 0) 8 (nI c))) 0 (upd ((xS R 0 (upd (R.1 0) 8 (nI c))).1 0) 7 5)).1 0) 0 3), "java/lang/UnsupportedOperationException", 3, 0, ?_, rfl, ?_, xS_in, by decide, (h.refuse (w := 5) (lk := nI c) (R1 := xS (xS R 0 (upd (R.1 0) 8 (nI c))) 0 (upd ((xS R 0 (upd (R.1 0) 8 (nI c))).1 0) 7 5)) (fun p hp => (xS_ne hp).trans (xS_ne hp)) ⟨(xS_f (by omega)).trans (xS_f (by omega)), (xS_f (by omega)).trans (xS_f (by omega)), (xS_f (by omega)).trans (xS_f (by omega)), (xS_f (by omega)).trans (xS_f (by omega))⟩ xS_in (fun _ => ((xS_f (by omega)).trans xS_in).symm)).thrown (x := 3)⟩
            · unfold F_X9_correct
              rw [e1, xbd_some, xth_inl, e3, xbd_some, xth_inl, e5, xbd_some, xth_inl, ck_nI hk20 (by decide), nI_clamp (by omega), show (0 : Nat) + 87 + 3 * k = 87 + 3 * k by omega]
              unfold F_X3_whyNoCorrection
              rw [hd.room (by omega) hk rfl, xbd_some, if_pos (show nI s ≤ (M, nI (room G k)).2 from nI_le hroom (by omega)), ck_nI hc8 (by decide), nI_clamp (by omega), hd.steps (c := c) (by omega) hc8 (p := 0 + 5 + 5 * c) (by omega), xbd_some, if_neg (show ¬ nI s ≤ (M, nI (inC G c)).2 from nI_ge (by omega) (by omega)), xbd_some]
              dsimp only
              rw [refuse_ok (by decide)]
              rfl
            · unfold F_X10_correct
              rw [e2, xbd_some, if_neg i1n, e4, xbd_some, if_neg i1n, e6, xbd_some, if_neg i1n, show F_X10_roomIn N (nI k) (R, (1 : Int32)).1 = _ from roomIn_ok (by omega) hd hk, xbd_some, if_pos (show nI s ≤ (R, nI (room G k)).2 from nI_le hroom (by omega)), show F_X10_inCanister N (nI c) (R, nI (room G k)).1 = _ from inCanister_ok (by omega) hd.2.2.1 hc8 (hg.2.1 c hc8).1, xbd_some, if_neg (show ¬ nI s ≤ (R, nI (inC G c)).2 from nI_ge (by omega) (by omega))]
              rfl
        · refine Or.inr ⟨_, xS (xS R 0 (upd (R.1 0) 7 4)) 0 (upd ((xS R 0 (upd (R.1 0) 7 4)).1 0) 0 3), "java/lang/UnsupportedOperationException", 3, 0, ?_, rfl, ?_, xS_in, by decide, (h.refuse (w := 4) (lk := nI c) (R1 := xS R 0 (upd (R.1 0) 7 4)) (fun p hp => xS_ne hp) ⟨xS_f (by omega), xS_f (by omega), xS_f (by omega), xS_f (by omega)⟩ xS_in (fun e => absurd e (by decide))).thrown (x := 3)⟩
          · unfold F_X9_correct
            rw [e1, xbd_some, xth_inl, e3, xbd_some, xth_inl, e5, xbd_some, xth_inl, ck_nI hk20 (by decide), nI_clamp (by omega), show (0 : Nat) + 87 + 3 * k = 87 + 3 * k by omega]
            unfold F_X3_whyNoCorrection
            rw [hd.room (by omega) hk rfl, xbd_some, if_neg (show ¬ nI s ≤ (M, nI (room G k)).2 from nI_ge (by omega) (by omega)), xbd_some]
            dsimp only
            rw [refuse_ok (by decide)]
            rfl
          · unfold F_X10_correct
            rw [e2, xbd_some, if_neg i1n, e4, xbd_some, if_neg i1n, e6, xbd_some, if_neg i1n, show F_X10_roomIn N (nI k) (R, (1 : Int32)).1 = _ from roomIn_ok (by omega) hd hk, xbd_some, if_neg (show ¬ nI s ≤ (R, nI (room G k)).2 from nI_ge (by omega) (by omega))]
            rfl
      · refine Agr.no (E := "java/lang/IllegalArgumentException") (k := 2) (w := 0) h rfl (by decide) ?_ ?_
        · unfold F_X9_correct; rw [e1, xbd_some, xth_inl, e3, xbd_some, xth_inl, e5]; rfl
        · unfold F_X10_correct; rw [e2, xbd_some, if_neg i1n, e4, xbd_some, if_neg i1n, e6]; rfl
    · refine Agr.no (E := "java/lang/IndexOutOfBoundsException") (k := 1) (w := 0) h rfl (by decide) ?_ ?_
      · unfold F_X9_correct; rw [e1, xbd_some, xth_inl, e3]; rfl
      · unfold F_X10_correct; rw [e2, xbd_some, if_neg i1n, e4]; rfl
  · refine Agr.no (E := "java/lang/IndexOutOfBoundsException") (k := 1) (w := 0) h rfl (by decide) ?_ ?_
    · unfold F_X9_correct; rw [e1]; rfl
    · unfold F_X10_correct; rw [e2]; rfl
