/-! the reference mixes -/
def XR (G : Nat → Nat) (R0 R : xM) (f k i : Nat) : Prop := (∀ c, c < i → CR (R.1 1) (5 + 46 * c) (pumpL (LG G c) (stF G f c)) ∧ R.1 1 (5 + 46 * c + 5) = R0.1 1 (5 + 46 * c + 5) + nI (stF G f c) ∧ R.1 1 (579 + 44 * k + 2 + c) = R0.1 1 (579 + 44 * k + 2 + c) + nI (stF G f c) ∧ R.1 1 (409 + 17 * f + 9 + c) = nI (carF1 G f c)) ∧ (∀ c, c < 8 → ∀ t, (t < 3 ∨ t = 4 ∨ t = 6 ∨ 43 ≤ t ∧ t < 46) → R.1 1 (5 + 46 * c + t) = R0.1 1 (5 + 46 * c + t)) ∧ (∀ c, i ≤ c → c < 8 → (∀ t, t < 46 → R.1 1 (5 + 46 * c + t) = R0.1 1 (5 + 46 * c + t)) ∧ R.1 1 (579 + 44 * k + 2 + c) = R0.1 1 (579 + 44 * k + 2 + c) ∧ R.1 1 (409 + 17 * f + 9 + c) = R0.1 1 (409 + 17 * f + 9 + c)) ∧ (∀ j, (j < 5 ∨ 373 ≤ j) → (j < 579 + 44 * k + 2 ∨ 579 + 44 * k + 44 ≤ j ∨ j = 579 + 44 * k + 10 ∨ j = 579 + 44 * k + 11) → (j < 409 + 17 * f + 9 ∨ 409 + 17 * f + 17 ≤ j) → R.1 1 j = R0.1 1 j) ∧ (∀ p, p ≠ 1 → R.1 p = R0.1 p) ∧ ∀ k2 d q, k2 < 20 → d < 8 → q < 100 → bitsR (R.1 1) k2 d q = (bitsR (R0.1 1) k2 d q || (decide (k2 = k) && (decide (d < i) && pumpN (LG G d) (stF G f d) q)))
theorem XR.step {N f k i : Nat} {G : Nat → Nat} {B : Nat → Nat → Nat → Bool} {R0 R : xM} (hN : 40 ≤ N) (hg : GI G B) (hf : f < 10) (hk : k < 20) (hi : i < 8) (h : XR G R0 R f k i) (hc0 : CR (R0.1 1) (5 + 46 * i) (LG G i)) (ha : R0.1 1 (409 + 17 * f + 1 + i) = nI (G (409 + 17 * f + 1 + i))) (hcr : R0.1 1 (409 + 17 * f + 9 + i) = nI (G (409 + 17 * f + 9 + i))) (hs : stF G f i ≤ sumL (LG G i)) : R.1 1 (409 + 17 * f + 1 + i) = nI (G (409 + 17 * f + 1 + i)) ∧ R.1 1 (409 + 17 * f + 9 + i) = nI (G (409 + 17 * f + 9 + i)) ∧ ∃ R1, F_X10_pumps N (nI i) (nI (stF G f i)) (nI k) R = some (R1, 0) ∧ XR G R0 (xS R1 1 (upd (R1.1 1) (409 + 17 * f + 9 + i) (nI (carF1 G f i)))) f k (i + 1) := by
  obtain ⟨a1, a2, a3, a4, a5, a6⟩ := h
  have lo := LG_ok (hg.2.1 i hi)
  have m1 : R.1 1 (409 + 17 * f + 1 + i) = nI (G (409 + 17 * f + 1 + i)) := by rw [a4 _ (by omega) (by omega) (by omega)]; exact ha
  have m2 : R.1 1 (409 + 17 * f + 9 + i) = nI (G (409 + 17 * f + 9 + i)) := (a3 i (Nat.le_refl _) hi).2.2.trans hcr
  have hc1 : CR (R.1 1) (5 + 46 * i) (LG G i) := hc0.cong lo.1 (fun j q1 q2 => by
    have := (a3 i (Nat.le_refl _) hi).1 (j - (5 + 46 * i)) (by omega)
    rw [show 5 + 46 * i + (j - (5 + 46 * i)) = j by omega] at this
    exact this)
  obtain ⟨R1, f1, f2, f3, f4, f5, f6, f7⟩ := pumps_ok (N := N) (c := i) (k := k) (s := stF G f i) hN hi hk hc1 lo hs
  refine ⟨m1, m2, R1, f1, ?_⟩
  obtain ⟨R2, hR2⟩ : ∃ R2, R2 = xS R1 1 (upd (R1.1 1) (409 + 17 * f + 9 + i) (nI (carF1 G f i))) := ⟨_, rfl⟩
  rw [← hR2]
  have w : ∀ j, j ≠ 409 + 17 * f + 9 + i → R2.1 1 j = R1.1 1 j := fun j hj => by rw [hR2, xS_f hj]
  have u : ∀ j, j ≠ 5 + 46 * i + 3 → j ≠ 5 + 46 * i + 5 → (j < 5 + 46 * i + 7 ∨ 5 + 46 * i + 43 ≤ j) → (j < 579 + 44 * k + 12 + 4 * i ∨ 579 + 44 * k + 16 + 4 * i ≤ j) → j ≠ 579 + 44 * k + 2 + i → j ≠ 409 + 17 * f + 9 + i → R2.1 1 j = R.1 1 j := fun j q1 q2 q3 q4 q5 q6 => by rw [w j q6, f3 j q1 q2 q3 q4 q5]
  refine ⟨fun c hc => ?_, fun c hc t ht => ?_, fun c hc hc8 => ⟨fun t ht => ?_, ?_, ?_⟩, fun j q1 q2 q3 => ?_, fun p hp => ?_, fun k2 d q hk2 hd hq => ?_⟩
  · by_cases e : c = i
    · subst e
      refine ⟨f2.cong ((pumpL_ok lo).1.1) (fun j q1 q2 => w j (by omega)), ?_, ?_, ?_⟩
      · rw [w _ (by omega), f4, (a3 c (Nat.le_refl _) hi).1 5 (by omega)]
      · rw [w _ (by omega), f5, (a3 c (Nat.le_refl _) hi).2.1]
      · rw [hR2]; exact xS_in
    · obtain ⟨c1, c2, c3, c4⟩ := a1 c (by omega)
      have lo2 := LG_ok (hg.2.1 c (by omega))
      refine ⟨c1.cong ((pumpL_ok lo2).1.1) (fun j q1 q2 => u j (by omega) (by omega) (by omega) (by omega) (by omega) (by omega)), ?_, ?_, ?_⟩
      · rw [u _ (by omega) (by omega) (by omega) (by omega) (by omega) (by omega)]; exact c2
      · rw [u _ (by omega) (by omega) (by omega) (by omega) (by omega) (by omega)]; exact c3
      · rw [u _ (by omega) (by omega) (by omega) (by omega) (by omega) (by omega)]; exact c4
  · rw [u _ (by omega) (by omega) (by omega) (by omega) (by omega) (by omega)]; exact a2 c hc t ht
  · rw [u _ (by omega) (by omega) (by omega) (by omega) (by omega) (by omega)]; exact (a3 c (by omega) hc8).1 t ht
  · rw [u _ (by omega) (by omega) (by omega) (by omega) (by omega) (by omega)]; exact (a3 c (by omega) hc8).2.1
  · rw [u _ (by omega) (by omega) (by omega) (by omega) (by omega) (by omega)]; exact (a3 c (by omega) hc8).2.2
  · rw [u _ (by omega) (by omega) (by omega) (by omega) (by omega) (by omega)]; exact a4 j q1 q2 q3
  · rw [hR2, xS_ne hp, f6 p hp]; exact a5 p hp
  · have e1 : bitsR (R2.1 1) k2 d q = bitsR (R1.1 1) k2 d q := by
      unfold bitsR
      rw [w _ (by omega)]
    rw [e1, f7 k2 d q hk2 hd hq, a6 k2 d q hk2 hd hq]
    by_cases e : d = i
    · subst e
      rw [decide_eq_true rfl, decide_eq_false (Nat.lt_irrefl _), decide_eq_true (Nat.lt_succ_self _), Bool.true_and, Bool.false_and, Bool.and_false, Bool.or_false]
    · rw [decide_eq_false e, Bool.false_and, Bool.and_false, Bool.or_false]
      by_cases e2 : d < i
      · rw [decide_eq_true e2, decide_eq_true (show d < i + 1 by omega)]
      · rw [decide_eq_false e2, decide_eq_false (show ¬ d < i + 1 by omega)]
/-- what the reference's row holds when a can was mixed -/
def RX (G : Nat → Nat) (B : Nat → Nat → Nat → Bool) (R R1 : xM) (f k b : Nat) : Prop := (∀ c, c < G 0 → CR (R1.1 1) (5 + 46 * c) (pumpL (LG G c) (stF G f c)) ∧ R1.1 1 (5 + 46 * c + 5) = R.1 1 (5 + 46 * c + 5) + nI (stF G f c) ∧ R1.1 1 (579 + 44 * k + 2 + c) = nI (stF G f c) ∧ R1.1 1 (409 + 17 * f + 9 + c) = nI (carF1 G f c)) ∧ (∀ c, c < 8 → ∀ t, (t < 3 ∨ t = 4 ∨ t = 6 ∨ 43 ≤ t ∧ t < 46) → R1.1 1 (5 + 46 * c + t) = R.1 1 (5 + 46 * c + t)) ∧ (∀ c, G 0 ≤ c → c < 8 → (∀ t, t < 46 → R1.1 1 (5 + 46 * c + t) = R.1 1 (5 + 46 * c + t)) ∧ R1.1 1 (579 + 44 * k + 2 + c) = nI 0 ∧ R1.1 1 (409 + 17 * f + 9 + c) = R.1 1 (409 + 17 * f + 9 + c)) ∧ (∀ j, (j < 5 ∨ 373 ≤ j) → j ≠ 3 → j ≠ 373 + 6 * b + 4 → j ≠ 373 + 6 * b + 5 → (j < 579 + 44 * k ∨ 579 + 44 * k + 44 ≤ j) → (j < 409 + 17 * f + 9 ∨ 409 + 17 * f + 17 ≤ j) → R1.1 1 j = R.1 1 j) ∧ (R1.1 1 3 = nI (k + 1) ∧ R1.1 1 (373 + 6 * b + 4) = nI (G (373 + 6 * b + 4) - 1) ∧ R1.1 1 (373 + 6 * b + 5) = nI (G (373 + 6 * b + 5) + 1) ∧ R1.1 1 (579 + 44 * k) = nI f ∧ R1.1 1 (579 + 44 * k + 1) = nI b ∧ R1.1 1 (579 + 44 * k + 10) = nI 0 ∧ R1.1 1 (579 + 44 * k + 11) = nI 0) ∧ (∀ p, p ≠ 1 → R1.1 p = R.1 p) ∧ ∀ k2 d q, k2 < 20 → d < 8 → q < 100 → bitsR (R1.1 1) k2 d q = (B k2 d q || (decide (k2 = k) && (decide (d < G 0) && pumpN (LG G d) (stF G f d) q)))
theorem mixesR_ok {N f : Nat} {R : xM} {G : Nat → Nat} {B : Nat → Nat → Nat → Bool} (hN : 100 ≤ N) (hR : ∀ i, i < 1460 → R.1 1 i = nI (G i)) (hB : BG (R.1 1) B) (hg : GI G B) (hf : f < G 2) (h3 : G 3 < 20) (hs : ∀ c, c < G 0 → stF G f c ≤ sumL (LG G c)) (hst : 1 ≤ G (373 + 6 * G (409 + 17 * f) + 4)) : ∃ R1, F_X10_mixes N (nI f) R = some (R1, nI (G 3)) ∧ RX G B R R1 f (G 3) (G (409 + 17 * f)) := by
  have hf10 : f < 10 := by have := hg.1; omega
  have hg0 : G 0 ≤ 8 := hg.1.1
  have hbG := (hg.2.2.2.1 f hf10).1 hf
  obtain ⟨b, hbe⟩ : ∃ b, b = G (409 + 17 * f) := ⟨_, rfl⟩
  obtain ⟨k, hke⟩ : ∃ k, k = G 3 := ⟨_, rfl⟩
  rw [← hbe] at hbG hst ⊢
  have h3k := h3
  rw [← hke] at h3k ⊢
  have hb6 : b < 6 := by have := hg.1; omega
  obtain ⟨o, ho⟩ : ∃ o, o = 579 + 44 * k := ⟨_, rfl⟩
  have hGb : R.1 1 (409 + 17 * f) = nI b := by rw [hbe]; exact hR _ (by omega)
  -- the can is blank in the class's eyes
  have hblank : ∀ d q, d < 8 → q < 100 → B k d q = false := by
    rcases (hg.2.2.2.2 k h3k).2.2.2.2 with t | t
    · omega
    · exact t.2.1
  -- cleared
  have clr : ∀ n i (R0 : xM), i ≤ 44 → 44 < n + i → (∀ j, R0.1 1 j = if o ≤ j ∧ j < o + i then 0 else R.1 1 j) → (∀ p, p ≠ 1 → R0.1 p = R.1 p) → ∃ Rz m, L_X10_mixes_19 N n (nI f) (nI k) (nI o) (nI i) R0 = L_X10_mixes_19 N (m + 1) (nI f) (nI k) (nI o) (nI 44) Rz ∧ (∀ j, Rz.1 1 j = if o ≤ j ∧ j < o + 44 then 0 else R.1 1 j) ∧ ∀ p, p ≠ 1 → Rz.1 p = R.1 p := by
    intro n
    induction n with
    | zero => intro i R0 a1 a2; omega
    | succ n ih =>
      intro i R0 a1 a2 a3 a4
      by_cases hi : i = 44
      · subst hi
        exact ⟨R0, n, rfl, a3, a4⟩
      · rw [L_X10_mixes_19, if_neg (show ¬ (44 : Int32) ≤ nI i from nI_ge (b := 44) (by omega) (by omega)), nI_add, ck_nI (by omega) (by decide), nI_clamp (by omega), xl_v, nI_1, xl_v]
        refine ih (i + 1) _ (by omega) (by omega) (fun j => ?_) (fun p hp => (xS_ne hp).trans (a4 p hp))
        by_cases hj : j = o + i
        · rw [hj, xS_in, if_pos (by omega)]
        · rw [xS_f hj, a3 j]
          by_cases hc : o ≤ j ∧ j < o + i
          · rw [if_pos hc, if_pos (by omega)]
          · rw [if_neg hc, if_neg (by omega)]
  obtain ⟨Rz, m, z1, z2, z3⟩ := clr N 0 R (by omega) (by omega) (fun j => (if_neg (by omega)).symm) (fun _ _ => rfl)
  -- the can's, the base's entries
  obtain ⟨Ra, hRa⟩ : ∃ Ra, Ra = xS Rz 1 (upd (Rz.1 1) o (nI f)) := ⟨_, rfl⟩
  obtain ⟨Rb, hRb⟩ : ∃ Rb, Rb = xS Ra 1 (upd (Ra.1 1) (o + 1) (nI b)) := ⟨_, rfl⟩
  obtain ⟨Rc, hRc⟩ : ∃ Rc, Rc = xS Rb 1 (upd (Rb.1 1) 3 (nI (k + 1))) := ⟨_, rfl⟩
  obtain ⟨Rd, hRd⟩ : ∃ Rd, Rd = xS Rc 1 (upd (Rc.1 1) (373 + 6 * b + 4) (nI (G (373 + 6 * b + 4) - 1))) := ⟨_, rfl⟩
  obtain ⟨Re, hRe⟩ : ∃ Re, Re = xS Rd 1 (upd (Rd.1 1) (373 + 6 * b + 5) (nI (G (373 + 6 * b + 5) + 1))) := ⟨_, rfl⟩
  have v0 : ∀ j, j ≠ 3 → j ≠ 373 + 6 * b + 4 → j ≠ 373 + 6 * b + 5 → (j < o ∨ o + 44 ≤ j) → Re.1 1 j = R.1 1 j := fun j q1 q2 q3 q4 => by rw [hRe, xS_f q3, hRd, xS_f q2, hRc, xS_f q1, hRb, xS_f (by omega), hRa, xS_f (by omega), z2, if_neg (by omega)]
  have v1 : ∀ t, 2 ≤ t → t < 44 → Re.1 1 (o + t) = nI 0 := fun t q1 q2 => by rw [hRe, xS_f (by omega), hRd, xS_f (by omega), hRc, xS_f (by omega), hRb, xS_f (by omega), hRa, xS_f (by omega), z2, if_pos (by omega)]; rfl
  have vo : Re.1 1 o = nI f := by rw [hRe, xS_f (by omega), hRd, xS_f (by omega), hRc, xS_f (by omega), hRb, xS_f (by omega), hRa, xS_in]
  have vo1 : Re.1 1 (o + 1) = nI b := by rw [hRe, xS_f (by omega), hRd, xS_f (by omega), hRc, xS_f (by omega), hRb, xS_in]
  have v3 : Re.1 1 3 = nI (k + 1) := by rw [hRe, xS_f (by omega), hRd, xS_f (by omega), hRc, xS_in]
  have v4 : Re.1 1 (373 + 6 * b + 4) = nI (G (373 + 6 * b + 4) - 1) := by rw [hRe, xS_f (by omega), hRd, xS_in]
  have v5 : Re.1 1 (373 + 6 * b + 5) = nI (G (373 + 6 * b + 5) + 1) := by rw [hRe, xS_in]
  have vp : ∀ p, p ≠ 1 → Re.1 p = R.1 p := fun p hp => by rw [hRe, xS_ne hp, hRd, xS_ne hp, hRc, xS_ne hp, hRb, xS_ne hp, hRa, xS_ne hp, z3 p hp]
  have vb : ∀ k2 d q, k2 < 20 → d < 8 → q < 100 → bitsR (Re.1 1) k2 d q = B k2 d q := fun k2 d q hk2 hd hq => by
    by_cases e : k2 = k
    · subst e
      rw [hblank d q hd hq]
      unfold bitsR
      rw [show 579 + 44 * k2 + 12 + 4 * d + q / 25 = o + (12 + 4 * d + q / 25) by omega, v1 _ (by omega) (by omega)]
      exact BitVec.getLsbD_zero
    · rw [← hB k2 d q hk2 hd hq]
      unfold bitsR
      rw [v0 _ (by omega) (by omega) (by omega) (by omega)]
  -- what each colorant gives
  have loop : ∀ n i (R2 : xM), i ≤ G 0 → G 0 < n + i → XR G Re R2 f k i → ∃ R1, L_X10_mixes_129 N n (nI f) (nI k) (nI i) R2 = some (R1, nI k) ∧ XR G Re R1 f k (G 0) := by
    intro n
    induction n with
    | zero => intro i R2 a1 a2; omega
    | succ n ih =>
      intro i R2 a1 a2 hq
      have r0 : R2.1 1 (0 : Int32).toNatClampNeg = nI (G 0) := (hq.2.2.2.1 0 (by omega) (by omega) (by omega)).trans ((v0 0 (by omega) (by omega) (by omega) (by omega)).trans (hR 0 (by omega)))
      rw [L_X10_mixes_129, r0]
      by_cases hi : i = G 0
      · subst hi
        rw [if_pos (nI_le (Nat.le_refl _) (by omega))]
        exact ⟨R2, rfl, hq⟩
      · obtain ⟨b1, b2, -⟩ := (hg.2.2.2.1 f hf10).2 i (by omega)
        have lo := LG_ok (hg.2.1 i (by omega))
        have hc : CR (Re.1 1) (5 + 46 * i) (LG G i) := by
          refine ⟨?_, fun j x hx => ?_⟩
          · rw [v0 _ (by omega) (by omega) (by omega) (by omega), hR _ (by omega), LG_len]
          · obtain ⟨hj, rfl⟩ := LG_get hx
            have hj12 : j < 12 := by have := len_some hx; have := lo.1; omega
            dsimp only
            rw [v0 _ (by omega) (by omega) (by omega) (by omega), v0 _ (by omega) (by omega) (by omega) (by omega), v0 _ (by omega) (by omega) (by omega) (by omega), hR _ (by omega), hR _ (by omega), hR _ (by omega)]
            exact ⟨rfl, rfl, rfl⟩
        obtain ⟨x1, x2, R3, g1, g2⟩ := hq.step (N := N) (by omega) hg hf10 h3k (by omega) hc ((v0 _ (by omega) (by omega) (by omega) (by omega)).trans (hR _ (by omega))) ((v0 _ (by omega) (by omega) (by omega) (by omega)).trans (hR _ (by omega))) (hs i (by omega))
        rw [if_neg (nI_ge (a := i) (by omega) (by omega)), show (((409 : Int32) + 17 * nI f) + 1) + nI i = nI (409 + 17 * f + 1 + i) from by show nI 409 + nI 17 * nI f + nI 1 + nI i = _; rw [pk_mul, nI_add, nI_add, nI_add], show (((409 : Int32) + 17 * nI f) + 9) + nI i = nI (409 + 17 * f + 9 + i) from by show nI 409 + nI 17 * nI f + nI 9 + nI i = _; rw [pk_mul, nI_add, nI_add, nI_add], ck_nI (by omega) (by decide), ck_nI (by omega) (by decide), nI_clamp (by omega), nI_clamp (by omega), x1, x2, nI_add, xl_v, show nI (G (409 + 17 * f + 1 + i) + G (409 + 17 * f + 9 + i)) / 100 = nI (stF G f i) from pk_div (d := 100) (by omega) (by decide) (by decide), g1, xbd_some, ck_nI (by omega) (by decide), show nI (G (409 + 17 * f + 1 + i) + G (409 + 17 * f + 9 + i)) - nI (stF G f i) * 100 = nI (carF1 G f i) from by
          rw [show nI (stF G f i) = nI (G (409 + 17 * f + 1 + i) + G (409 + 17 * f + 9 + i)) / 100 from (pk_div (d := 100) (by omega) (by decide) (by decide)).symm]
          exact pk_rem (d := 100) (by omega) (by decide) (by decide), xl_v, nI_1, xl_v]
        exact ih (i + 1) _ (by omega) (by omega) g2
  obtain ⟨R1, w1, w2⟩ := loop N 0 Re (by omega) (by omega) ⟨fun c hc => absurd hc (Nat.not_lt_zero _), fun _ _ _ _ => rfl, fun _ _ _ => ⟨fun _ _ => rfl, rfl, rfl⟩, fun _ _ _ _ => rfl, fun _ _ => rfl, fun k2 d q _ _ _ => by rw [decide_eq_false (Nat.not_lt_zero _), Bool.false_and, Bool.and_false, Bool.or_false]⟩
  refine ⟨R1, ?_, ?_⟩
  · unfold F_X10_mixes
    have s3 : R.1 1 (3 : Int32).toNatClampNeg = nI k := by rw [hke]; exact hR 3 (by omega)
    have q3 : Rb.1 1 (3 : Int32).toNatClampNeg = nI k := by
      rw [show (3 : Int32).toNatClampNeg = 3 from rfl, hRb, xS_f (by omega), hRa, xS_f (by omega), z2, if_neg (by omega), hke]
      exact hR 3 (by omega)
    have q4 : Rc.1 1 (373 + 6 * b + 4) = nI (G (373 + 6 * b + 4)) := by
      rw [hRc, xS_f (by omega), hRb, xS_f (by omega), hRa, xS_f (by omega), z2, if_neg (by omega)]
      exact hR _ (by omega)
    have q5 : Rd.1 1 (373 + 6 * b + 5) = nI (G (373 + 6 * b + 5)) := by
      rw [hRd, xS_f (by omega), hRc, xS_f (by omega), hRb, xS_f (by omega), hRa, xS_f (by omega), z2, if_neg (by omega)]
      exact hR _ (by omega)
    rw [s3, xl_v, show (579 : Int32) + 44 * nI k = nI o from by rw [ho]; show nI 579 + nI 44 * nI k = _; rw [pk_mul, nI_add], xl_v, show L_X10_mixes_19 N N (nI f) (nI k) (nI o) 0 R = _ from z1, L_X10_mixes_19, if_pos (show (44 : Int32) ≤ nI 44 from by decide), show (409 : Int32) + 17 * nI f = nI (409 + 17 * f) from by show nI 409 + nI 17 * nI f = _; rw [pk_mul, nI_add], ck_nI (by omega) (by decide), nI_clamp (by omega), show Rz.1 1 (409 + 17 * f) = nI b from by rw [z2, if_neg (by omega)]; exact hGb, xl_v, show nI o + 0 = nI o from Int32.add_zero _, ck_nI (by omega) (by decide), nI_clamp (by omega), xl_v, ← hRa, nI_1, ck_nI (by omega) (by decide), nI_clamp (by omega), xl_v, ← hRb, q3, nI_1, xl_v, show xS Rb 1 (upd (Rb.1 1) (3 : Int32).toNatClampNeg (nI (k + 1))) = Rc from hRc.symm, show ((373 : Int32) + (6 * nI b)) + 4 = nI (373 + 6 * b + 4) from by show nI 373 + nI 6 * nI b + nI 4 = _; rw [pk_mul, nI_add, nI_add], show ((373 : Int32) + (6 * nI b)) + 5 = nI (373 + 6 * b + 5) from by show nI 373 + nI 6 * nI b + nI 5 = _; rw [pk_mul, nI_add, nI_add], ck_nI (by omega) (by decide), ck_nI (by omega) (by decide), nI_clamp (by omega), nI_clamp (by omega), q4, show nI (G (373 + 6 * b + 4)) - 1 = nI (G (373 + 6 * b + 4) - 1) from pk_sub (b := 1) hst, xl_v, ← hRd, ck_nI (by omega) (by decide), ck_nI (by omega) (by decide), q5, nI_1, xl_v, ← hRe]
    exact w1
  · obtain ⟨a1, a2, a3, a4, a5, a6⟩ := w2
    subst ho
    refine ⟨fun c hc => ?_, fun c hc t ht => ?_, fun c hc hc8 => ⟨fun t ht => ?_, ?_, ?_⟩, fun j q1 q2 q3 q4 q5 q6 => ?_, ⟨?_, ?_, ?_, ?_, ?_, ?_, ?_⟩, fun p hp => ?_, fun k2 d q hk2 hd hq => ?_⟩
    · obtain ⟨c1, c2, c3, c4⟩ := a1 c hc
      refine ⟨c1, ?_, ?_, c4⟩
      · rw [c2, v0 _ (by omega) (by omega) (by omega) (by omega)]
      · rw [c3, show 579 + 44 * k + 2 + c = 579 + 44 * k + (2 + c) by omega, v1 _ (by omega) (by omega), nI_add, Nat.zero_add]
    · rw [a2 c hc t ht, v0 _ (by omega) (by omega) (by omega) (by omega)]
    · rw [(a3 c hc hc8).1 t ht, v0 _ (by omega) (by omega) (by omega) (by omega)]
    · rw [(a3 c hc hc8).2.1, show 579 + 44 * k + 2 + c = 579 + 44 * k + (2 + c) by omega, v1 _ (by omega) (by omega)]
    · rw [(a3 c hc hc8).2.2, v0 _ (by omega) (by omega) (by omega) (by omega)]
    · rw [a4 j q1 (by omega) q6, v0 j q2 q3 q4 q5]
    · rw [a4 3 (by omega) (by omega) (by omega)]; exact v3
    · rw [a4 _ (by omega) (by omega) (by omega)]; exact v4
    · rw [a4 _ (by omega) (by omega) (by omega)]; exact v5
    · rw [a4 _ (by omega) (by omega) (by omega)]; exact vo
    · rw [a4 _ (by omega) (by omega) (by omega)]; exact vo1
    · rw [a4 _ (by omega) (by omega) (by omega)]; exact v1 10 (by omega) (by omega)
    · rw [a4 _ (by omega) (by omega) (by omega)]; exact v1 11 (by omega) (by omega)
    · rw [a5 p hp, vp p hp]
    · rw [a6 k2 d q hk2 hd hq, vb k2 d q hk2 hd hq]
