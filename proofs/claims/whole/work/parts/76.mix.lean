/-! mix -/
theorem whyF_cases {G : Nat → Nat} {B : Nat → Nat → Nat → Bool} {R : xM} (hR : ∀ i, i < 1460 → R.1 1 i = nI (G i)) (hg : GI G B) {f : Nat} (hf : f < G 2) : (whyF G f = 0 ∧ G 3 < 20 ∧ 1 ≤ G (373 + 6 * G (409 + 17 * f) + 4) ∧ sumN (stF G f) (G 0) ≤ G (373 + 6 * G (409 + 17 * f) + 3) ∧ ∀ c, c < G 0 → stF G f c ≤ sumL (LG G c)) ∨ (whyF G f = 2 ∨ whyF G f = 3 ∨ whyF G f = 4 ∨ whyF G f = 5) := by
  have hg3 : G 3 ≤ 20 := hg.1.2.2.2.1
  have hg0 : G 0 ≤ 8 := hg.1.1
  by_cases q1 : G 3 = 20
  · exact Or.inr (Or.inl (by unfold whyF; rw [if_pos q1]))
  · by_cases q2 : G (373 + 6 * G (409 + 17 * f) + 4) = 0
    · exact Or.inr (Or.inr (Or.inl (by unfold whyF; rw [if_neg q1, if_pos q2])))
    · by_cases q3 : sumN (stF G f) (G 0) ≤ G (373 + 6 * G (409 + 17 * f) + 3)
      · by_cases q4 : lackF G f 1 = -1
        · refine Or.inl ⟨by unfold whyF; rw [if_neg q1, if_neg q2, if_pos q3, if_pos q4], by omega, by omega, q3, fun c hc => ?_⟩
          rcases low_cases (fun c => decide (inC G c < SF G f 1 c)) (G 0) with ⟨t1, -⟩ | ⟨j, t1, t2, t3⟩
          · have := of_decide_eq_false (t1 c hc)
            rw [SF_1, inC_LG hR (by omega) (hg.2.1 c (by omega))] at this
            omega
          · exfalso
            have t4 : nI j = -1 := t3.symm.trans q4
            have t := congrArg Int32.toInt t4
            rw [nI_toInt (by omega)] at t
            have : (-1 : Int32).toInt = -1 := rfl
            omega
        · exact Or.inr (Or.inr (Or.inr (Or.inr (by unfold whyF; rw [if_neg q1, if_neg q2, if_pos q3, if_neg q4]))))
      · exact Or.inr (Or.inr (Or.inr (Or.inl (by unfold whyF; rw [if_neg q1, if_neg q2, if_neg q3]))))
theorem isP_1459 {i : Nat} (h : isP i = true) (h1 : ¬ i < 579) : i < 1459 := by
  unfold isP at h
  rw [if_neg (by omega), if_neg (by omega), if_neg (by omega), if_neg h1] at h
  exact of_decide_eq_true (Bool.and_eq_true_iff.mp h).1
theorem mixDS {f : Nat} {M M0 Mi M1 R R1 : xM} {G G1 : Nat → Nat} {B : Nat → Nat → Nat → Bool} (hd : DS M 0 (R.1 1) G B) (hf : f < G 2) (h3 : G 3 < 20) (hs : ∀ c, c < G 0 → stF G f c ≤ sumL (LG G c)) (htot : sumN (stF G f) (G 0) ≤ G (373 + 6 * G (409 + 17 * f) + 3)) (hst : 1 ≤ G (373 + 6 * G (409 + 17 * f) + 4)) (e0 : M0 = xS (xS M (87 + 3 * G 3) (upd (M.1 (87 + 3 * G 3)) 0 (nI f))) (87 + 3 * G 3) (upd ((xS M (87 + 3 * G 3) (upd (M.1 (87 + 3 * G 3)) 0 (nI f))).1 (87 + 3 * G 3)) 1 (nI (G (409 + 17 * f))))) (ei : XM G M0 Mi f (G 3) (G 0)) (e1 : M1 = xS (xS Mi (45 + 2 * G (409 + 17 * f)) (upd (Mi.1 (45 + 2 * G (409 + 17 * f))) 2 (nI (G (373 + 6 * G (409 + 17 * f) + 4) - 1)))) 0 (upd ((xS Mi (45 + 2 * G (409 + 17 * f)) (upd (Mi.1 (45 + 2 * G (409 + 17 * f))) 2 (nI (G (373 + 6 * G (409 + 17 * f) + 4) - 1)))).1 0) 7 (nI (G 3 + 1)))) (hX : RX G B R R1 f (G 3) (G (409 + 17 * f))) (hr1 : ∀ i, i < 1460 → R1.1 1 i = nI (G1 i)) (hG : RG G G1 f (G 3) (G (409 + 17 * f))) : ∃ B1, DS M1 0 (R1.1 1) G1 B1 := by
  have hg := hd.2.2.2.2
  have hR := hd.2.2.1
  have hf10 : f < 10 := by have := hg.1; omega
  have hg0 : G 0 ≤ 8 := hg.1.1
  have hbG := (hg.2.2.2.1 f hf10).1 hf
  have hgi := hG.gi (B1 := fun k2 d q => (B k2 d q || (decide (k2 = G 3) && (decide (d < G 0) && pumpN (LG G d) (stF G f d) q)))) hg hf h3 htot hst (fun _ _ _ _ _ _ => rfl)
  obtain ⟨b, hbe⟩ : ∃ b, b = G (409 + 17 * f) := ⟨_, rfl⟩
  obtain ⟨k, hke⟩ : ∃ k, k = G 3 := ⟨_, rfl⟩
  rw [← hbe] at hbG htot hst e0 e1 hX hG
  rw [← hke] at h3 e0 ei e1 hX hG hgi
  have hb6 : b < 6 := by have := hg.1; omega
  have hblank : ((∀ c, c < 8 → G (579 + 44 * k + 2 + c) = 0) ∧ (∀ d q, d < 8 → q < 100 → B k d q = false) ∧ G (579 + 44 * k + 10) = 0 ∧ G (579 + 44 * k + 11) = 0) := by
    rcases (hg.2.2.2.2 k h3).2.2.2.2 with t | t
    · omega
    · exact t
  obtain ⟨x1, x2, x3, x4, ⟨y3, ys, ym, yf, yb, y10, y11⟩, x5, x6⟩ := hX
  obtain ⟨m1, m2, m3, m4, m5⟩ := ei
  -- places of the class
  have p0 : ∀ p, p ≠ 87 + 3 * k → M0.1 p = M.1 p := fun p hp => by rw [e0, xS_ne hp, xS_ne hp]
  have p00 : M0.1 (87 + 3 * k) 0 = nI f := by rw [e0, xS_f (by omega)]; exact xS_in
  have p01 : M0.1 (87 + 3 * k) 1 = nI b := by rw [e0]; exact xS_in
  have p0t : ∀ t, t ≠ 0 → t ≠ 1 → M0.1 (87 + 3 * k) t = M.1 (87 + 3 * k) t := fun t q1 q2 => by rw [e0, xS_f q2, xS_f q1]
  have q1 : ∀ p, p ≠ 0 → p ≠ 45 + 2 * b → M1.1 p = Mi.1 p := fun p a1 a2 => by rw [e1, xS_ne a1, xS_ne a2]
  have qb : ∀ t, t ≠ 2 → M1.1 (45 + 2 * b) t = Mi.1 (45 + 2 * b) t := fun t ht => by rw [e1, xS_ne (by omega), xS_f ht]
  have qb2 : M1.1 (45 + 2 * b) 2 = nI (G (373 + 6 * b + 4) - 1) := by rw [e1, xS_ne (by omega)]; exact xS_in
  have q0 : ∀ t, t ≠ 7 → M1.1 0 t = Mi.1 0 t := fun t ht => by rw [e1, xS_f ht, xS_ne (by omega)]
  have q07 : M1.1 0 7 = nI (k + 1) := by rw [e1]; exact xS_in
  have e2 : M1.2 = Mi.2 := by rw [e1]; rfl
  have e02 : M0.2 = M.2 := by rw [e0]; rfl
  have un : ∀ p, 45 ≤ p → p ≠ 45 + 2 * b → p ≠ 88 + 3 * k → p ≠ 59 + 3 * f → p ≠ 87 + 3 * k → M1.1 p = M.1 p := fun p a1 a2 a3 a4 a5 => by rw [q1 p (by omega) a2, m2 p (by omega) a3 a4, p0 p a5]
  have old : ∀ {i p s}, loc i = (p, s) ∧ isP i = true → 373 ≤ i → M.1 p s = R.1 1 i := fun {i p s} hl hi => by
    rw [hR i (isP_lt hl.2)]
    exact hd.m hl (vis_hi hi) (Nat.zero_add _).symm
  have rs : ∀ j, 373 ≤ j → j ≠ 373 + 6 * b + 4 → j ≠ 373 + 6 * b + 5 → (j < 579 + 44 * k ∨ 579 + 44 * k + 44 ≤ j) → (j < 409 + 17 * f + 9 ∨ 409 + 17 * f + 17 ≤ j) → R1.1 1 j = R.1 1 j := fun j a1 a2 a3 a4 a5 => x4 j (by omega) (by omega) a2 a3 a4 a5
  refine ⟨_, DS.build hr1 hgi (fun k2 d q hk2 hd8 hq => ?_) (fun k2 d q hk2 hd8 hq => ?_) (fun s hs5 => ?_) (fun c hc => ?_) (fun i hi hp => ?_)⟩
  · show _ = (B k2 d q || (decide (k2 = k) && (decide (d < G 0) && pumpN (LG G d) (stF G f d) q)))
    by_cases e : k2 = k
    · subst e
      rw [decide_eq_true rfl, Bool.true_and]
      have t1 := m5 d q hd8 hq
      have t2 : bitsM M0 (87 + 3 * k2) d q = B k2 d q := by
        rw [← (hd.bits hk2 hd8 hq rfl).1]
        unfold bitsM
        rw [e02]
      rw [t2] at t1
      rw [← t1]
      unfold bitsM
      rw [e2, show 0 + 89 + 3 * k2 = 87 + 3 * k2 + 2 by omega]
    · rw [decide_eq_false e, Bool.false_and, Bool.or_false, e2, m4 _ (by omega), e02]
      exact hd.2.1 k2 d q hk2 hd8 hq
  · exact x6 k2 d q hk2 hd8 hq
  · by_cases s3 : s = 3
    · subst s3
      rw [y3]
      exact q07
    · rw [q0 _ (by omega), m2 0 (by omega) (by omega) (by omega), p0 0 (by omega), x4 s (by omega) s3 (by omega) (by omega) (by omega) (by omega), hR s (by omega)]
      exact hd.m (loc_n s hs5) (vis_lo (by omega)) rfl
  · have ce := hd.ce hc
    have lo := LG_ok (hg.2.1 c hc)
    by_cases e : c < G 0
    · obtain ⟨a1, a2, a3, a4, a5, a6⟩ := m1 c e
      obtain ⟨b1, b2, b3, b4⟩ := x1 c e
      have a3' : ∀ t, t ≠ 6 → t ≠ 3 → M1.1 (5 + 5 * c) t = M.1 (5 + 5 * c) t := fun t r1 r2 => by rw [q1 _ (by omega) (by omega), a3 t r1 r2, p0 _ (by omega)]
      refine ⟨_, ⟨a1.cong (fun p r1 r2 => q1 p (by omega) (by omega)), b1, fun a ha => ?_, ?_, ?_, ?_, ?_, ?_⟩, (hG.2.2.1 c e).2.2.2⟩
      · rw [q1 _ (by omega) (by omega), a4, p0 _ (by omega), x2 c hc a (by omega)]; exact ce.2.2.1 a ha
      · rw [a3' _ (by omega) (by omega), x2 c hc 4 (by omega)]; exact ce.2.2.2.1
      · rw [q1 _ (by omega) (by omega), a2, p0 _ (by omega), b2, ce.2.2.2.2.1]
      · rw [a3' _ (by omega) (by omega), x2 c hc 6 (by omega)]; exact ce.2.2.2.2.2.1
      · rw [a3' _ (by omega) (by omega), x2 c hc 43 (by omega)]; exact ce.2.2.2.2.2.2.1
      · rw [a3' _ (by omega) (by omega), x2 c hc 44 (by omega)]; exact ce.2.2.2.2.2.2.2
    · refine ⟨_, ce.cong lo.1 (fun p r1 r2 => ?_) (fun j r1 r2 => ?_), (hG.2.2.2.1 c (by omega) hc).2.2.2⟩
      · rw [q1 p (by omega) (by omega), m2 p (by omega) (by omega) (by omega), p0 p (by omega)]
      · have := (x3 c (by omega) hc).1 (j - (5 + 46 * c)) (by omega)
        rw [show 5 + 46 * c + (j - (5 + 46 * c)) = j by omega] at this
        exact this
  · have hi1 := isP_lt hp
    by_cases h409 : i < 409
    · obtain ⟨b2, t, hb2, ht, rfl⟩ : ∃ b2 t, b2 < 6 ∧ t < 6 ∧ i = 373 + 6 * b2 + t := ⟨(i - 373) / 6, (i - 373) % 6, by omega, Nat.mod_lt _ (by decide), by omega⟩
      have lb := loc_b b2 hb2
      have : t < 3 ∨ t = 3 ∨ t = 4 ∨ t = 5 := by omega
      rcases this with t3 | rfl | rfl | rfl
      · rw [(lb.1 t t3).1, rs _ hi (by omega) (by omega) (by omega) (by omega), ← old (lb.1 t t3) hi]
        show M1.1 (46 + 2 * b2) t = M.1 (46 + 2 * b2) t
        rw [un _ (by omega) (by omega) (by omega) (by omega) (by omega)]
      · rw [lb.2.1.1, rs _ hi (by omega) (by omega) (by omega) (by omega), ← old lb.2.1 hi]
        show M1.1 (45 + 2 * b2) 1 = M.1 (45 + 2 * b2) 1
        by_cases e : b2 = b
        · subst e
          rw [qb 1 (by omega), m2 _ (by omega) (by omega) (by omega), p0 _ (by omega)]
        · rw [un _ (by omega) (by omega) (by omega) (by omega) (by omega)]
      · rw [lb.2.2.1]
        show M1.1 (45 + 2 * b2) 2 = _
        by_cases e : b2 = b
        · subst e
          rw [qb2, ys]
        · rw [rs _ hi (by omega) (by omega) (by omega) (by omega), ← old lb.2.2 hi, un _ (by omega) (by omega) (by omega) (by omega) (by omega)]
      · exfalso
        unfold isP at hp
        rw [if_neg (by omega), if_neg (by omega), if_pos (by omega), show (373 + 6 * b2 + 5 - 373) % 6 = 5 by omega] at hp
        exact absurd hp (by decide)
    · by_cases h579 : i < 579
      · obtain ⟨f2, t, hf2, ht, rfl⟩ : ∃ f2 t, f2 < 10 ∧ t < 17 ∧ i = 409 + 17 * f2 + t := ⟨(i - 409) / 17, (i - 409) % 17, by omega, Nat.mod_lt _ (by decide), by omega⟩
        have lf := loc_f f2 hf2
        have : t = 0 ∨ (1 ≤ t ∧ t < 9) ∨ 9 ≤ t := by omega
        rcases this with rfl | t1 | t9
        · rw [show 409 + 17 * f2 + 0 = 409 + 17 * f2 from rfl, lf.1.1, rs _ (by omega) (by omega) (by omega) (by omega) (by omega), ← old lf.1 (by omega)]
          show M1.1 (57 + 3 * f2) 0 = M.1 (57 + 3 * f2) 0
          rw [un _ (by omega) (by omega) (by omega) (by omega) (by omega)]
        · have l1 := (lf.2 (t - 1) (by omega)).1
          rw [show 409 + 17 * f2 + 1 + (t - 1) = 409 + 17 * f2 + t by omega] at l1
          rw [l1.1, rs _ hi (by omega) (by omega) (by omega) (by omega), ← old l1 hi]
          show M1.1 (58 + 3 * f2) (t - 1) = M.1 (58 + 3 * f2) (t - 1)
          rw [un _ (by omega) (by omega) (by omega) (by omega) (by omega)]
        · obtain ⟨c, hc8, rfl⟩ : ∃ c, c < 8 ∧ t = 9 + c := ⟨t - 9, by omega, by omega⟩
          have l1 := (lf.2 c hc8).2
          rw [show 409 + 17 * f2 + (9 + c) = 409 + 17 * f2 + 9 + c by omega, l1.1]
          show M1.1 (59 + 3 * f2) c = _
          by_cases e : f2 = f
          · subst e
            rw [q1 _ (by omega) (by omega)]
            by_cases ec : c < G 0
            · rw [(m1 c ec).2.2.2.2.2, (x1 c ec).2.2.2]
            · rw [(m3 c (by omega)).2, p0 _ (by omega), (x3 c (by omega) hc8).2.2]
              exact old l1 (by omega)
          · rw [rs _ (by omega) (by omega) (by omega) (by omega) (by omega), ← old l1 (by omega), un _ (by omega) (by omega) (by omega) (by omega) (by omega)]
      · have h1459 := isP_1459 hp h579
        obtain ⟨k2, t, hk2, ht, rfl⟩ : ∃ k2 t, k2 < 20 ∧ t < 44 ∧ i = 579 + 44 * k2 + t := ⟨(i - 579) / 44, (i - 579) % 44, by omega, Nat.mod_lt _ (by decide), by omega⟩
        have t12 := isP_k hp hk2 (by omega) (by omega)
        have lk := loc_k k2 hk2
        have : t = 0 ∨ t = 1 ∨ (2 ≤ t ∧ t < 10) ∨ t = 10 ∨ t = 11 := by omega
        by_cases e : k2 = k
        · subst e
          have kp : ∀ s, s ≠ 0 → s ≠ 1 → M1.1 (87 + 3 * k2) s = M.1 (87 + 3 * k2) s := fun s r1 r2 => by rw [q1 _ (by omega) (by omega), m2 _ (by omega) (by omega) (by omega), p0t s r1 r2]
          rcases this with rfl | rfl | t2 | rfl | rfl
          · rw [show 579 + 44 * k2 + 0 = 579 + 44 * k2 from rfl, lk.1.1, yf]
            show M1.1 (87 + 3 * k2) 0 = nI f
            rw [q1 _ (by omega) (by omega), m2 _ (by omega) (by omega) (by omega), p00]
          · rw [lk.2.1.1, yb]
            show M1.1 (87 + 3 * k2) 1 = nI b
            rw [q1 _ (by omega) (by omega), m2 _ (by omega) (by omega) (by omega), p01]
          · obtain ⟨c, hc8, rfl⟩ : ∃ c, c < 8 ∧ t = 2 + c := ⟨t - 2, by omega, by omega⟩
            have l1 := lk.2.2.2.2 c hc8
            have z : M0.1 (88 + 3 * k2) c = nI 0 := by
              rw [p0 _ (by omega), ← hblank.1 c hc8]
              exact hd.m l1 (vis_hi (by omega)) (by omega)
            rw [show 579 + 44 * k2 + (2 + c) = 579 + 44 * k2 + 2 + c by omega, l1.1]
            show M1.1 (88 + 3 * k2) c = _
            rw [q1 _ (by omega) (by omega)]
            by_cases ec : c < G 0
            · rw [(m1 c ec).2.2.2.2.1, (x1 c ec).2.2.1, z, nI_add, Nat.zero_add]
            · rw [(m3 c (by omega)).1, z, (x3 c (by omega) hc8).2.1]
          · rw [lk.2.2.1.1, y10]
            show M1.1 (87 + 3 * k2) 2 = nI 0
            rw [kp 2 (by omega) (by omega), ← hblank.2.2.1]
            exact hd.m lk.2.2.1 (vis_hi (by omega)) (by omega)
          · rw [lk.2.2.2.1.1, y11]
            show M1.1 (87 + 3 * k2) 3 = nI 0
            rw [kp 3 (by omega) (by omega), ← hblank.2.2.2]
            exact hd.m lk.2.2.2.1 (vis_hi (by omega)) (by omega)
        · have u87 : M1.1 (87 + 3 * k2) = M.1 (87 + 3 * k2) := un _ (by omega) (by omega) (by omega) (by omega) (by omega)
          have u88 : M1.1 (88 + 3 * k2) = M.1 (88 + 3 * k2) := un _ (by omega) (by omega) (by omega) (by omega) (by omega)
          rw [rs _ hi (by omega) (by omega) (by omega) (by omega)]
          rcases this with rfl | rfl | t2 | rfl | rfl
          · rw [show 579 + 44 * k2 + 0 = 579 + 44 * k2 from rfl, lk.1.1, ← old lk.1 (by omega)]
            exact congrFun u87 _
          · rw [lk.2.1.1, ← old lk.2.1 (by omega)]
            exact congrFun u87 _
          · obtain ⟨c, hc8, rfl⟩ : ∃ c, c < 8 ∧ t = 2 + c := ⟨t - 2, by omega, by omega⟩
            have l1 := lk.2.2.2.2 c hc8
            rw [show 579 + 44 * k2 + (2 + c) = 579 + 44 * k2 + 2 + c by omega, l1.1, ← old l1 (by omega)]
            exact congrFun u88 _
          · rw [lk.2.2.1.1, ← old lk.2.2.1 (by omega)]
            exact congrFun u87 _
          · rw [lk.2.2.2.1.1, ← old lk.2.2.2.1 (by omega)]
            exact congrFun u87 _
abbrev hM : xM → String → Option xR := fun (M8 : xM) (E : String) => if E = "java/lang/IndexOutOfBoundsException" then some (M8, 1) else if E = "java/lang/UnsupportedOperationException" then some (M8, 2) else none
theorem o_17 {N : Nat} (hN : 12000 ≤ N) {v1 v2 v3 v4 v5 v6 : Int32} {M R : xM} (h : Rel M R) : ∃ q, zOp_17 N v1 v2 v3 v4 v5 v6 M R = some q ∧ Rel q.1 q.2 := by
  refine zAgr (hd := hM) ?_
  obtain ⟨⟨G, B, hd⟩, hx⟩ := id h
  obtain ⟨-, -, ⟨m2, r2⟩, -⟩ := hd.n0
  have hg := hd.2.2.2.2
  have hb := hg.1
  rcases zFor (N := N) (n := G 2) (by omega) m2 r2 v1 with ⟨f, hf, rfl, e1, e2⟩ | ⟨e1, e2⟩
  · have hf10 : f < 10 := by omega
    have hbG := (hg.2.2.2.1 f hf10).1 hf
    obtain ⟨R0, g1, g2, g3, g4, g5⟩ := hinders_ok (N := N) (by omega) hd.2.2.1 hg hf
    have h0 : Rel M R0 := ⟨⟨G, B, hd.cong (fun k hk => rfl) (fun k hk => rfl) (fun i hi => by rw [g3 1 (by omega)])⟩, hx.cong sameX.rf ⟨g3 2 (by omega), g3 3 (by omega), g3 5 (by omega), g4 3 (by omega), g4 5 (by omega), g4 7 (by omega), g4 8 (by omega), g4 10 (by omega), g4 11 (by omega)⟩⟩
    have fX : F_X9_mix N (nI f) M = xbd (F_X9_stopIfRefused N (nI (whyF G f)) (lackF G f 1) M) (fun (r7 : xE) => xth r7 (fun (M8 : xM) (_ : Int32) => xbd (F_X6_keep N 0 M8) (fun (r10 : xR) => xbd (F_X3_makeCan N 0 (nI f) r10.1) (fun (r11 : xR) => some (r11.1, Sum.inl r11.2))))) := by
      unfold F_X9_mix
      rw [e1, xbd_some, xth_inl, ck_nI hf10 (by decide), nI_clamp (by omega), show (0 : Nat) + 57 + 3 * f = 57 + 3 * f by omega, hd.why (by omega) hf rfl, xbd_some, show F_X3_firstLacking N 0 (57 + 3 * f) 1 (M, nI (whyF G f)).1 = _ from hd.lack (m := 1) (by omega) hf (by omega) rfl, xbd_some]
    rcases whyF_cases hd.2.2.1 hg hf with ⟨w0, w1, w2, w3, w4⟩ | hw
    · obtain ⟨M1, R1, k1, k2, kx, km, kr, ks⟩ := keep_ok hN h0
      have hd1 : DS M1 0 (R1.1 1) G B := hd.cong (fun k hk => (km _ (by omega)).1) (fun k hk => (km _ (by omega)).2) (fun i hi => by rw [kr 1 (by omega) (by omega), g3 1 (by omega)])
      obtain ⟨M0, Mi, M2, c1, c2, c3, c4⟩ := makeCan_ok (N := N) (by omega) hd1 hf w1 w4 w2
      obtain ⟨R2, d1, d2⟩ := mixesR_ok (N := N) (R := R1) (by omega) hd1.2.2.1 hd1.2.2.2.1 hg hf w1 w4 w2
      obtain ⟨G2, s1, s2⟩ := d2.rg hd1.2.2.1 hg hf w1 (by omega) w4
      obtain ⟨B2, hd2⟩ := mixDS hd1 hf w1 w4 w3 w2 c2 c3 c4 d2 s1 s2
      refine Or.inl ⟨M2, xS R2 0 (upd (R2.1 0) 0 0), nI (G 3), ?_, ?_, xS_in, ?_⟩
      · rw [fX, w0, show F_X9_stopIfRefused N (nI 0) (lackF G f 1) M = _ from norefuse_ok, xbd_some, xth_inl, k1, xbd_some, c1]
        rfl
      · unfold F_X10_mix
        rw [e2, xbd_some, if_neg i1n, g1, xbd_some]
        dsimp only
        rw [w0, xl_v, if_pos (show nI 0 = (0 : Int32) from rfl), k2, xbd_some, d1]
        rfl
      · have px : ∀ p, 147 ≤ p → M2.1 p = M1.1 p := fun p hp => by
          rw [c4, xS_ne (by omega), xS_ne (by omega), c3.2.1 p (by omega) (by omega) (by omega), c2, xS_ne (by omega), xS_ne (by omega)]
        have px2 : ∀ p, 147 ≤ p → M2.2 p = M1.2 p := fun p hp => by
          rw [c4]
          show Mi.2 p = M1.2 p
          rw [c3.2.2.2.1 p (by omega), c2]
          rfl
        have uk := d2.2.2.2.2.2.1
        exact (Rel.after (M := M1) (R := R1) kx ⟨fun p a b => px p a, fun p a b => px2 p a⟩ ⟨uk 2 (by omega), uk 3 (by omega), uk 5 (by omega), by rw [uk 0 (by omega)], by rw [uk 0 (by omega)], by rw [uk 0 (by omega)], by rw [uk 0 (by omega)], by rw [uk 0 (by omega)], by rw [uk 0 (by omega)]⟩ hd2).thrown
    · have hw5 : whyF G f ≤ 5 := by omega
      have hw0 : ¬ nI (whyF G f) = 0 := nI_ne0 (by omega) (by omega)
      obtain ⟨Ra, hRa⟩ : ∃ Ra, Ra = xS R0 0 (upd (R0.1 0) 8 (R0.1 0 15)) := ⟨_, rfl⟩
      obtain ⟨Rb, hRb⟩ : ∃ Rb, Rb = xS Ra 0 (upd (Ra.1 0) 7 (nI (whyF G f))) := ⟨_, rfl⟩
      have rb : ∀ s, s ≠ 7 → s ≠ 8 → Rb.1 0 s = R0.1 0 s := fun s a b => by rw [hRb, xS_f a, hRa, xS_f b]
      refine Or.inr ⟨_, xS Rb 0 (upd (Rb.1 0) 0 2), "java/lang/UnsupportedOperationException", 2, 0, ?_, rfl, ?_, xS_in, by decide, (h0.refuse (w := nI (whyF G f)) (lk := lackF G f 1) (R1 := Rb) (fun p hp => by rw [hRb, xS_ne hp, hRa, xS_ne hp]) ⟨rb 3 (by omega) (by omega), rb 5 (by omega) (by omega), rb 10 (by omega) (by omega), rb 11 (by omega) (by omega)⟩ (by rw [hRb]; exact xS_in) (fun e => ?_)).thrown (x := 2)⟩
      · rw [fX, refuse_ok hw0]
        rfl
      · unfold F_X10_mix
        rw [e2, xbd_some, if_neg i1n, g1, xbd_some]
        dsimp only
        rw [xl_v, if_neg hw0, ← hRa, xl_v]
        unfold F_X10_refuses
        rw [← hRb, xl_v]
        rfl
      · have e5 : whyF G f = 5 := (nI_eq (b := 5) (by omega) (by omega)).mp e
        rw [hRb, xS_f (by omega), hRa, xS_in, g5 e5]
  · refine Agr.no (E := "java/lang/IndexOutOfBoundsException") (k := 1) (w := 0) h rfl (by decide) ?_ ?_
    · unfold F_X9_mix; rw [e1]; rfl
    · unfold F_X10_mix; rw [e2]; rfl
