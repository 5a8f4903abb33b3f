/-! the class mixes -/
theorem stepsFor_r {N p c a b m : Nat} {M : xM} (hc : c < 8) (h1 : M.1 (p + 1) c = nI a) (h2 : M.1 (p + 2) c = nI b) (hb : a * m + b < 2147483648) : F_X4_stepsForCans N p (nI c) (nI m) M = some (M, nI ((a * m + b) / 100)) := by
  unfold F_X4_stepsForCans
  rw [ck_nI hc (by decide), ck_nI hc (by decide), nI_clamp (by omega), h1, h2, pk_mul, nI_add, show nI (a * m + b) / 100 = nI ((a * m + b) / 100) from pk_div (d := 100) (by omega) (by decide) (by decide)]
theorem carryOn_r {N p c a b : Nat} {M : xM} (hc : c < 8) (h1 : M.1 (p + 1) c = nI a) (h2 : M.1 (p + 2) c = nI b) (hb : a + b < 2147483648) : F_X4_carryOn N p (nI c) M = some (xS M (p + 2) (upd (M.1 (p + 2)) c (nI ((a + b) % 100))), 0) := by
  unfold F_X4_carryOn
  rw [ck_nI hc (by decide), ck_nI hc (by decide), ck_nI hc (by decide), nI_clamp (by omega), h1, h2, nI_add, show nI (a + b) - nI (a + b) / 100 * 100 = nI ((a + b) % 100) from pk_rem (d := 100) (by omega) (by decide) (by decide), xl_v]
def carF1 (G : Nat → Nat) (f c : Nat) : Nat := (G (409 + 17 * f + 1 + c) + G (409 + 17 * f + 9 + c)) % 100
def XM (G : Nat → Nat) (M0 M : xM) (f k i : Nat) : Prop := (∀ c, c < i → CM M (5 + 5 * c) (pumpL (LG G c) (stF G f c)) ∧ M.1 (5 + 5 * c) 3 = M0.1 (5 + 5 * c) 3 + nI (stF G f c) ∧ (∀ t, t ≠ 6 → t ≠ 3 → M.1 (5 + 5 * c) t = M0.1 (5 + 5 * c) t) ∧ M.1 (6 + 5 * c) = M0.1 (6 + 5 * c) ∧ M.1 (88 + 3 * k) c = M0.1 (88 + 3 * k) c + nI (stF G f c) ∧ M.1 (59 + 3 * f) c = nI (carF1 G f c)) ∧ (∀ p, (p < 5 ∨ 5 + 5 * i ≤ p) → p ≠ 88 + 3 * k → p ≠ 59 + 3 * f → M.1 p = M0.1 p) ∧ (∀ c, i ≤ c → M.1 (88 + 3 * k) c = M0.1 (88 + 3 * k) c ∧ M.1 (59 + 3 * f) c = M0.1 (59 + 3 * f) c) ∧ (∀ p, p ≠ 89 + 3 * k → M.2 p = M0.2 p) ∧ ∀ d q, d < 8 → q < 100 → bitsM M (87 + 3 * k) d q = (bitsM M0 (87 + 3 * k) d q || (decide (d < i) && pumpN (LG G d) (stF G f d) q))
theorem XM.step {N f k i : Nat} {G : Nat → Nat} {B : Nat → Nat → Nat → Bool} {M0 M : xM} (hN : 40 ≤ N) (hg : GI G B) (hf : f < 10) (hk : k < 20) (hi : i < 8) (h : XM G M0 M f k i) (hc0 : CM M0 (5 + 5 * i) (LG G i)) (ha : M0.1 (58 + 3 * f) i = nI (G (409 + 17 * f + 1 + i))) (hcr : M0.1 (59 + 3 * f) i = nI (G (409 + 17 * f + 9 + i))) (hs : stF G f i ≤ sumL (LG G i)) : ∃ M1, xbd (F_X4_stepsForCans N (57 + 3 * f) (nI i) 1 M) (fun (r6 : xR) => xbd (F_X2_pumpInto N (5 + 5 * i) (87 + 3 * k) (nI i) (r6.2) r6.1) (fun (r7 : xR) => F_X4_carryOn N (57 + 3 * f) (nI i) r7.1)) = some (M1, 0) ∧ XM G M0 M1 f k (i + 1) := by
  obtain ⟨a1, a2, a3, a4, a5⟩ := h
  obtain ⟨b1, b2, -⟩ := (hg.2.2.2.1 f hf).2 i hi
  have lo := LG_ok (hg.2.1 i hi)
  have m1 : M.1 (58 + 3 * f) i = nI (G (409 + 17 * f + 1 + i)) := by rw [a2 _ (by omega) (by omega) (by omega)]; exact ha
  have m2 : M.1 (59 + 3 * f) i = nI (G (409 + 17 * f + 9 + i)) := (a3 i (Nat.le_refl _)).2.trans hcr
  have hc1 : CM M (5 + 5 * i) (LG G i) := hc0.cong (fun p q1 q2 => a2 p (by omega) (by omega) (by omega))
  obtain ⟨M1, f1, f2, f3, f4, f5, f6, f7, f8, f9⟩ := pumpInto_ok (N := N) (p := 5 + 5 * i) (k1 := 87 + 3 * k) (c := i) (s := stF G f i) hN hi ⟨by omega, by omega, by omega, by omega⟩ hc1 lo hs
  rw [show 87 + 3 * k + 1 = 88 + 3 * k by omega] at f6 f7
  have m1' : M1.1 (57 + 3 * f + 1) i = nI (G (409 + 17 * f + 1 + i)) := by rw [f3 _ (by omega) (by omega) (by omega) (by omega) (by omega), show 57 + 3 * f + 1 = 58 + 3 * f by omega]; exact m1
  have m2' : M1.1 (57 + 3 * f + 2) i = nI (G (409 + 17 * f + 9 + i)) := by rw [f3 _ (by omega) (by omega) (by omega) (by omega) (by omega), show 57 + 3 * f + 2 = 59 + 3 * f by omega]; exact m2
  refine ⟨xS M1 (59 + 3 * f) (upd (M1.1 (59 + 3 * f)) i (nI (carF1 G f i))), ?_, ?_⟩
  · rw [show F_X4_stepsForCans N (57 + 3 * f) (nI i) 1 M = _ from stepsFor_r (m := 1) (a := G (409 + 17 * f + 1 + i)) (b := G (409 + 17 * f + 9 + i)) hi (by rw [show 57 + 3 * f + 1 = 58 + 3 * f by omega]; exact m1) (by rw [show 57 + 3 * f + 2 = 59 + 3 * f by omega]; exact m2) (by omega), xbd_some, Nat.mul_one]
    dsimp only
    rw [show F_X2_pumpInto N (5 + 5 * i) (87 + 3 * k) (nI i) (nI ((G (409 + 17 * f + 1 + i) + G (409 + 17 * f + 9 + i)) / 100)) M = some (M1, 0) from f1, xbd_some, carryOn_r hi m1' m2' (by omega), show 57 + 3 * f + 2 = 59 + 3 * f by omega]
    rfl
  · obtain ⟨M2, hM2⟩ : ∃ M2, M2 = xS M1 (59 + 3 * f) (upd (M1.1 (59 + 3 * f)) i (nI (carF1 G f i))) := ⟨_, rfl⟩
    rw [← hM2]
    have w : ∀ p, p ≠ 59 + 3 * f → M2.1 p = M1.1 p := fun p hp => by rw [hM2, xS_ne hp]
    have wf : ∀ c, c ≠ i → M2.1 (59 + 3 * f) c = M.1 (59 + 3 * f) c := fun c hc => by rw [hM2, xS_f hc, f3 _ (by omega) (by omega) (by omega) (by omega) (by omega)]
    have u : ∀ p, p ≠ 5 + 5 * i → p ≠ 7 + 5 * i → p ≠ 8 + 5 * i → p ≠ 9 + 5 * i → p ≠ 88 + 3 * k → p ≠ 59 + 3 * f → M2.1 p = M.1 p := fun p q1 q2 q3 q4 q5 q6 => by rw [w p q6, f3 p q1 (by omega) (by omega) (by omega) (by omega)]
    refine ⟨fun c hc => ?_, fun p q1 q2 q3 => ?_, fun c hc => ⟨?_, ?_⟩, fun p hp => ?_, fun d q hd hq => ?_⟩
    · by_cases e : c = i
      · subst e
        refine ⟨f2.cong (fun p q1 q2 => w p (by omega)), ?_, fun t q1 q2 => ?_, ?_, ?_, ?_⟩
        · rw [w _ (by omega), f5, a2 _ (by omega) (by omega) (by omega)]
        · rw [w _ (by omega), f4 t q1 q2, a2 _ (by omega) (by omega) (by omega)]
        · rw [u _ (by omega) (by omega) (by omega) (by omega) (by omega) (by omega), a2 _ (by omega) (by omega) (by omega)]
        · rw [w _ (by omega), f7, (a3 c (Nat.le_refl _)).1]
        · rw [hM2]; exact xS_in
      · obtain ⟨c1, c2, c3, c4, c5, c6⟩ := a1 c (by omega)
        refine ⟨c1.cong (fun p q1 q2 => u p (by omega) (by omega) (by omega) (by omega) (by omega) (by omega)), ?_, fun t q1 q2 => ?_, ?_, ?_, ?_⟩
        · rw [u _ (by omega) (by omega) (by omega) (by omega) (by omega) (by omega)]; exact c2
        · rw [u _ (by omega) (by omega) (by omega) (by omega) (by omega) (by omega)]; exact c3 t q1 q2
        · rw [u _ (by omega) (by omega) (by omega) (by omega) (by omega) (by omega)]; exact c4
        · rw [w _ (by omega), f6 c e]; exact c5
        · rw [wf c e]; exact c6
    · rw [u p (by omega) (by omega) (by omega) (by omega) q2 q3]; exact a2 p (by omega) q2 q3
    · rw [w _ (by omega), f6 c (by omega)]; exact (a3 c (by omega)).1
    · rw [wf c (by omega)]; exact (a3 c (by omega)).2
    · rw [hM2]
      show M1.2 p = M0.2 p
      rw [f8 p (by omega)]
      exact a4 p hp
    · have e1 : bitsM M2 (87 + 3 * k) d q = bitsM M1 (87 + 3 * k) d q := by rw [hM2]; rfl
      rw [e1, f9 d q hd hq, a5 d q hd hq]
      by_cases e : d = i
      · subst e
        rw [decide_eq_true rfl, decide_eq_false (Nat.lt_irrefl _), decide_eq_true (Nat.lt_succ_self _), Bool.true_and, Bool.false_and, Bool.or_false]
      · rw [decide_eq_false e, Bool.false_and, Bool.or_false]
        by_cases e2 : d < i
        · rw [decide_eq_true e2, decide_eq_true (show d < i + 1 by omega)]
        · rw [decide_eq_false e2, decide_eq_false (show ¬ d < i + 1 by omega)]
theorem makeCan_ok {N f : Nat} {M : xM} {r : Nat → Int32} {G : Nat → Nat} {B : Nat → Nat → Nat → Bool} (hN : 40 ≤ N) (hd : DS M 0 r G B) (hf : f < G 2) (h3 : G 3 < 20) (hs : ∀ c, c < G 0 → stF G f c ≤ sumL (LG G c)) (hst : 1 ≤ G (373 + 6 * G (409 + 17 * f) + 4)) : ∃ M0 Mi M1, F_X3_makeCan N 0 (nI f) M = some (M1, nI (G 3)) ∧ M0 = xS (xS M (87 + 3 * G 3) (upd (M.1 (87 + 3 * G 3)) 0 (nI f))) (87 + 3 * G 3) (upd ((xS M (87 + 3 * G 3) (upd (M.1 (87 + 3 * G 3)) 0 (nI f))).1 (87 + 3 * G 3)) 1 (nI (G (409 + 17 * f)))) ∧ XM G M0 Mi f (G 3) (G 0) ∧ M1 = xS (xS Mi (45 + 2 * G (409 + 17 * f)) (upd (Mi.1 (45 + 2 * G (409 + 17 * f))) 2 (nI (G (373 + 6 * G (409 + 17 * f) + 4) - 1)))) 0 (upd ((xS Mi (45 + 2 * G (409 + 17 * f)) (upd (Mi.1 (45 + 2 * G (409 + 17 * f))) 2 (nI (G (373 + 6 * G (409 + 17 * f) + 4) - 1)))).1 0) 7 (nI (G 3 + 1))) := by
  have hg := hd.2.2.2.2
  have hf10 : f < 10 := by have := hg.1; omega
  have hg0 : G 0 ≤ 8 := hg.1.1
  have hb := (hg.2.2.2.1 f hf10).1 hf
  obtain ⟨b, hbe⟩ : ∃ b, b = G (409 + 17 * f) := ⟨_, rfl⟩
  obtain ⟨k, hke⟩ : ∃ k, k = G 3 := ⟨_, rfl⟩
  rw [← hbe] at hb hst ⊢
  rw [← hke] at h3 ⊢
  have hb6 : b < 6 := by have := hg.1; omega
  obtain ⟨Ma, hMa⟩ : ∃ Ma, Ma = xS M (87 + 3 * k) (upd (M.1 (87 + 3 * k)) 0 (nI f)) := ⟨_, rfl⟩
  obtain ⟨M0, hM0⟩ : ∃ M0, M0 = xS Ma (87 + 3 * k) (upd (Ma.1 (87 + 3 * k)) 1 (nI b)) := ⟨_, rfl⟩
  have o0 : ∀ p, p ≠ 87 + 3 * k → M0.1 p = M.1 p := fun p hp => by rw [hM0, xS_ne hp, hMa, xS_ne hp]
  have n4 : M0.1 0 4 = nI (G 0) := by rw [o0 0 (by omega)]; exact hd.n0.1.1
  have hstb : G (373 + 6 * b + 4) ≤ 99 := (hg.2.2.1 b hb6).2.2.1
  have loop : ∀ n i (M2 : xM), i ≤ G 0 → G 0 < n + i → XM G M0 M2 f k i → ∃ Mi M1, L_X3_makeCan_33 N 0 (57 + 3 * f) (87 + 3 * k) n (nI i) M2 = some (M1, nI k) ∧ XM G M0 Mi f k (G 0) ∧ M1 = xS (xS Mi (45 + 2 * b) (upd (Mi.1 (45 + 2 * b)) 2 (nI (G (373 + 6 * b + 4) - 1)))) 0 (upd ((xS Mi (45 + 2 * b) (upd (Mi.1 (45 + 2 * b)) 2 (nI (G (373 + 6 * b + 4) - 1)))).1 0) 7 (nI (k + 1))) := by
    intro n
    induction n with
    | zero => intro i M2 a1 a2; omega
    | succ n ih =>
      intro i M2 a1 a2 hq
      have m0 : M2.1 0 = M0.1 0 := hq.2.1 0 (by omega) (by omega) (by omega)
      rw [L_X3_makeCan_33, m0, n4]
      by_cases hi : i = G 0
      · subst hi
        have mf : M2.1 (57 + 3 * f) 0 = nI b := by rw [hq.2.1 _ (by omega) (by omega) (by omega), o0 _ (by omega), hbe]; exact hd.m (loc_f f hf10).1 (vis_hi (by omega)) (by omega)
        have mb : M2.1 (45 + 2 * b) 2 = nI (G (373 + 6 * b + 4)) := by rw [hq.2.1 _ (by omega) (by omega) (by omega), o0 _ (by omega)]; exact hd.m (loc_b b hb6).2.2 (vis_hi (by omega)) (by omega)
        have m7 : M2.1 0 7 = nI k := by rw [m0, o0 0 (by omega), hke]; exact hd.n0.2.2.2.1.1
        rw [if_pos (nI_le (Nat.le_refl _) (by omega)), mf, ck_nI hb6 (by decide), nI_clamp (by omega), show (0 : Nat) + 45 + 2 * b = 45 + 2 * b by omega, mb, show nI (G (373 + 6 * b + 4)) - 1 = nI (G (373 + 6 * b + 4) - 1) from pk_sub (b := 1) hst, xl_v]
        obtain ⟨M3, hM3⟩ : ∃ M3, M3 = xS M2 (45 + 2 * b) (upd (M2.1 (45 + 2 * b)) 2 (nI (G (373 + 6 * b + 4) - 1))) := ⟨_, rfl⟩
        rw [← hM3, show M3.1 0 7 = nI k from by rw [hM3, xS_ne (by omega)]; exact m7, nI_1, xl_v]
        refine ⟨M2, _, ?_, hq, rfl⟩
        rw [← hM3, show (xS M3 0 (upd (M3.1 0) 7 (nI (k + 1)))).1 0 7 = nI (k + 1) from xS_in, nI_pred]
      · have hl := (loc_f f hf10).2 i (by omega)
        obtain ⟨M3, g1, g2⟩ := hq.step (N := N) hN hg hf10 h3 (by omega) ((hd.ce (c := i) (by omega)).1.cong (fun p q1 q2 => o0 p (by omega))) (by rw [o0 _ (by omega)]; exact hd.m hl.1 (vis_hi (by omega)) (by omega)) (by rw [o0 _ (by omega)]; exact hd.m hl.2 (vis_hi (by omega)) (by omega)) (hs i (by omega))
        rw [if_neg (nI_ge (a := i) (by omega) (by omega)), ck_nI (by omega) (by decide), nI_clamp (by omega), show (0 : Nat) + 5 + 5 * i = 5 + 5 * i by omega]
        obtain ⟨Mi, M1, z1, z2, z3⟩ := ih (i + 1) M3 (by omega) (by omega) g2
        refine ⟨Mi, M1, ?_, z2, z3⟩
        rw [← z1]
        cases e1 : F_X4_stepsForCans N (57 + 3 * f) (nI i) 1 M2 with
        | none => rw [e1] at g1; cases g1
        | some r6 =>
          rw [e1] at g1
          rw [xbd_some] at g1 ⊢
          cases e2 : F_X2_pumpInto N (5 + 5 * i) (87 + 3 * k) (nI i) r6.2 r6.1 with
          | none => rw [e2] at g1; cases g1
          | some r7 =>
            rw [e2] at g1
            rw [xbd_some] at g1 ⊢
            rw [g1, xbd_some, nI_1, xl_v]
  obtain ⟨Mi, M1, z1, z2, z3⟩ := loop N 0 M0 (by omega) (by omega) ⟨fun c hc => absurd hc (Nat.not_lt_zero _), fun p _ _ _ => rfl, fun c _ => ⟨rfl, rfl⟩, fun p _ => rfl, fun d q _ _ => by rw [decide_eq_false (Nat.not_lt_zero _), Bool.false_and, Bool.or_false]⟩
  refine ⟨M0, Mi, M1, ?_, by rw [hM0, hMa], z2, z3⟩
  unfold F_X3_makeCan
  rw [ck_nI hf10 (by decide), show M.1 0 7 = nI k from by rw [hke]; exact hd.n0.2.2.2.1.1, ck_nI h3 (by decide), nI_clamp (by omega), nI_clamp (by omega), show (0 : Nat) + 87 + 3 * k = 87 + 3 * k by omega, show (0 : Nat) + 57 + 3 * f = 57 + 3 * f by omega, xl_v, ← hMa, show Ma.1 (57 + 3 * f) 0 = nI b from by rw [hMa, xS_ne (by omega), hbe]; exact hd.m (loc_f f hf10).1 (vis_hi (by omega)) (by omega), xl_v, ← hM0]
  exact z1
