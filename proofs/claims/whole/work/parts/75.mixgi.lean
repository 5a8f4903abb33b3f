/-! what holds after a can was mixed -/
theorem inC_of {c : Nat} {R : xM} {G : Nat → Nat} {l : List LT} (hR : ∀ i, i < 1460 → R.1 1 i = nI (G i)) (hc : c < 8) (hg : GIc G c) (h : CR (R.1 1) (5 + 46 * c) l) (ho : okL l) : inC G c = sumL l := by
  have t1 := h.sum (N := 30) hc (by omega) ho.1
  have t2 := inCanister_ok (N := 30) (c := c) (by omega) hR hc hg.1
  rw [t1] at t2
  have t3 := congrArg Prod.snd (Option.some.inj t2)
  have t4 := sumL_le ho
  have t5 := ho.1
  have t6 := sumN_le (f := fun j => G (5 + 46 * c + 19 + j)) (b := 500) (n := G (5 + 46 * c + 3)) (fun i hi => (hg.2.2.2 i hi).2.2.1)
  have t7 : inC G c ≤ 6000 := Nat.le_trans t6 (Nat.mul_le_mul_right 500 hg.1)
  exact ((nI_eq (by omega) (by omega)).mp t3).symm
theorem CR_LG {c : Nat} {r : Nat → Int32} {G : Nat → Nat} (hR : ∀ i, i < 1460 → r i = nI (G i)) (hc : c < 8) (hg : GIc G c) : CR r (5 + 46 * c) (LG G c) := by
  refine ⟨?_, fun j x hx => ?_⟩
  · rw [LG_len]
    exact hR _ (by omega)
  · obtain ⟨hj, rfl⟩ := LG_get hx
    have := hg.1
    exact ⟨hR _ (by omega), hR _ (by omega), hR _ (by omega)⟩
theorem inC_LG {c : Nat} {R : xM} {G : Nat → Nat} (hR : ∀ i, i < 1460 → R.1 1 i = nI (G i)) (hc : c < 8) (hg : GIc G c) : inC G c = sumL (LG G c) := inC_of hR hc hg (CR_LG hR hc hg) (LG_ok hg)
def RA (f k b j : Nat) : Prop := (5 ≤ j ∧ j < 373) ∨ (579 + 44 * k ≤ j ∧ j < 579 + 44 * k + 44) ∨ (409 + 17 * f + 9 ≤ j ∧ j < 409 + 17 * f + 17) ∨ j = 3 ∨ j = 373 + 6 * b + 4 ∨ j = 373 + 6 * b + 5
/-- the reference's row after a can was mixed -/
def RG (G G1 : Nat → Nat) (f k b : Nat) : Prop := (∀ j, ¬ RA f k b j → G1 j = G j) ∧ (G1 3 = k + 1 ∧ G1 (373 + 6 * b + 4) = G (373 + 6 * b + 4) - 1 ∧ G1 (373 + 6 * b + 5) = G (373 + 6 * b + 5) + 1 ∧ G1 (579 + 44 * k) = f ∧ G1 (579 + 44 * k + 1) = b ∧ G1 (579 + 44 * k + 10) = 0 ∧ G1 (579 + 44 * k + 11) = 0) ∧ (∀ c, c < G 0 → G1 (579 + 44 * k + 2 + c) = stF G f c ∧ G1 (409 + 17 * f + 9 + c) = carF1 G f c ∧ inC G1 c = sumL (pumpL (LG G c) (stF G f c)) ∧ G1 (5 + 46 * c + 3) = (pumpL (LG G c) (stF G f c)).length) ∧ (∀ c, G 0 ≤ c → c < 8 → G1 (579 + 44 * k + 2 + c) = 0 ∧ G1 (409 + 17 * f + 9 + c) = G (409 + 17 * f + 9 + c) ∧ inC G1 c = inC G c ∧ G1 (5 + 46 * c + 3) = (LG G c).length) ∧ ∀ c, c < 8 → GIc G1 c
theorem RX.rg {f b : Nat} {R R1 : xM} {G : Nat → Nat} {B : Nat → Nat → Nat → Bool} (h : RX G B R R1 f (G 3) b) (hR : ∀ i, i < 1460 → R.1 1 i = nI (G i)) (hg : GI G B) (hf : f < G 2) (h3 : G 3 < 20) (hb : b < 6) (hs : ∀ c, c < G 0 → stF G f c ≤ sumL (LG G c)) : ∃ G1, (∀ i, i < 1460 → R1.1 1 i = nI (G1 i)) ∧ RG G G1 f (G 3) b := by
  have hf10 : f < 10 := by have := hg.1; omega
  have hg0 : G 0 ≤ 8 := hg.1.1
  obtain ⟨k, hke⟩ : ∃ k, k = G 3 := ⟨_, rfl⟩
  rw [← hke] at h h3 ⊢
  obtain ⟨x1, x2, x3, x4, ⟨y3, ys, ym, yf, yb, y10, y11⟩, x5, x6⟩ := h
  have dA : ∀ j, Decidable (RA f k b j) := fun j => by unfold RA; infer_instance
  obtain ⟨G1, hG1⟩ : ∃ G1 : Nat → Nat, G1 = fun j => @ite _ (RA f k b j) (dA j) (GR (R1.1 1) j) (G j) := ⟨_, rfl⟩
  have g1 : ∀ j, RA f k b j → G1 j = GR (R1.1 1) j := fun j hj => by rw [hG1]; exact if_pos hj
  have g2 : ∀ j, ¬ RA f k b j → G1 j = G j := fun j hj => by rw [hG1]; exact if_neg hj
  have gn : ∀ {j n}, RA f k b j → R1.1 1 j = nI n → n < 4294967296 → G1 j = n := fun {j n} a1 a2 a3 => (g1 j a1).trans (GR_nI a2 a3)
  have hst := (hg.2.2.1 b hb).2.2.1
  have hmx : G (373 + 6 * b + 5) ≤ 20 := by
    rw [(hg.2.2.1 b hb).2.2.2]
    have t1 : ∀ (p : Nat → Bool) n, cntN p n ≤ n := by
      intro p n
      induction n with
      | zero => exact Nat.le_refl _
      | succ n ih =>
        show cntN p n + (if p n = true then 1 else 0) ≤ n + 1
        split <;> omega
    have := t1 (fun k => decide (G (579 + 44 * k + 1) = b)) (G 3)
    omega
  have hr1 : ∀ i, i < 1460 → R1.1 1 i = nI (G1 i) := fun i hi => by
    by_cases hA : RA f k b i
    · rw [g1 i hA, nI_GR]
    · rw [g2 i hA]
      unfold RA at hA
      rw [x4 i (by omega) (by omega) (by omega) (by omega) (by omega) (by omega)]
      exact hR i hi
  have gc : ∀ c, c < 8 → ∀ l, CR (R1.1 1) (5 + 46 * c) l → okL l → GIc G1 c ∧ G1 (5 + 46 * c + 3) = l.length ∧ inC G1 c = sumL l := fun c hc l hl ho => by
    have := GIc_of (G := G1) hc (fun t ht => g1 _ (Or.inl (by omega))) hl ho (fun a ha => ⟨G (5 + 46 * c + a), (hg.2.1 c hc).2.1 a ha, by rw [x2 c hc a (by omega)]; exact hR _ (by omega)⟩) ⟨G (5 + 46 * c + 44), (hg.2.1 c hc).2.2.1, by rw [x2 c hc 44 (by omega)]; exact hR _ (by omega)⟩
    exact ⟨this.1, this.2, inC_of hr1 hc this.1 hl ho⟩
  have gp : ∀ c, c < G 0 → GIc G1 c ∧ G1 (5 + 46 * c + 3) = (pumpL (LG G c) (stF G f c)).length ∧ inC G1 c = sumL (pumpL (LG G c) (stF G f c)) := fun c hc => gc c (by omega) _ (x1 c hc).1 (pumpL_ok (LG_ok (hg.2.1 c (by omega)))).1
  have gq : ∀ c, G 0 ≤ c → c < 8 → GIc G1 c ∧ G1 (5 + 46 * c + 3) = (LG G c).length ∧ inC G1 c = sumL (LG G c) := fun c hc hc8 => gc c hc8 _ ((CR_LG hR hc8 (hg.2.1 c hc8)).cong (LG_ok (hg.2.1 c hc8)).1 (fun j q1 q2 => by
    have := (x3 c hc hc8).1 (j - (5 + 46 * c)) (by omega)
    rw [show 5 + 46 * c + (j - (5 + 46 * c)) = j by omega] at this
    exact this)) (LG_ok (hg.2.1 c hc8))
  refine ⟨G1, hr1, g2, ⟨gn (by unfold RA; omega) y3 (by omega), gn (by unfold RA; omega) ys (by omega), gn (by unfold RA; omega) ym (by omega), gn (by unfold RA; omega) yf (by omega), gn (by unfold RA; omega) yb (by omega), gn (by unfold RA; omega) y10 (by omega), gn (by unfold RA; omega) y11 (by omega)⟩, fun c hc => ?_, fun c hc hc8 => ?_, fun c hc => ?_⟩
  · have l1 := stF_le hg hf10 (c := c) (by omega)
    have l2 : carF1 G f c < 100 := Nat.mod_lt _ (by decide)
    exact ⟨gn (by unfold RA; omega) (x1 c hc).2.2.1 (by omega), gn (by unfold RA; omega) (x1 c hc).2.2.2 (by omega), (gp c hc).2.2, (gp c hc).2.1⟩
  · obtain ⟨b1, b2, b3⟩ := (hg.2.2.2.1 f hf10).2 c hc8
    exact ⟨gn (by unfold RA; omega) (x3 c hc hc8).2.1 (by omega), gn (by unfold RA; omega) ((x3 c hc hc8).2.2.trans (hR _ (by omega))) (by omega), (gq c hc hc8).2.2.trans (inC_LG hR hc8 (hg.2.1 c hc8)).symm, (gq c hc hc8).2.1⟩
  · by_cases e : c < G 0
    · exact (gp c e).1
    · exact (gq c (by omega) hc).1
theorem RG.gi {f : Nat} {G G1 : Nat → Nat} {B B1 : Nat → Nat → Nat → Bool} (h : RG G G1 f (G 3) (G (409 + 17 * f))) (hg : GI G B) (hf : f < G 2) (h3 : G 3 < 20) (htot : sumN (stF G f) (G 0) ≤ G (373 + 6 * G (409 + 17 * f) + 3)) (hst : 1 ≤ G (373 + 6 * G (409 + 17 * f) + 4)) (hB1 : ∀ k2 d q, k2 < 20 → d < 8 → q < 100 → B1 k2 d q = (B k2 d q || (decide (k2 = G 3) && (decide (d < G 0) && pumpN (LG G d) (stF G f d) q)))) : GI G1 B1 := by
  have hf10 : f < 10 := by have := hg.1; omega
  have hg0 : G 0 ≤ 8 := hg.1.1
  have hbG := (hg.2.2.2.1 f hf10).1 hf
  obtain ⟨b, hbe⟩ : ∃ b, b = G (409 + 17 * f) := ⟨_, rfl⟩
  obtain ⟨k, hke⟩ : ∃ k, k = G 3 := ⟨_, rfl⟩
  rw [← hbe] at h hbG htot hst
  rw [← hke] at h h3 hB1
  have hb6 : b < 6 := by have := hg.1; omega
  obtain ⟨z0, z1, z2, z3, z4⟩ := hg.1
  obtain ⟨e, ⟨y3, ys, ym, yf, yb, y10, y11⟩, p1, p2, p3⟩ := h
  have g0 : G1 0 = G 0 := e 0 (by unfold RA; omega)
  have g1 : G1 1 = G 1 := e 1 (by unfold RA; omega)
  have g2 : G1 2 = G 2 := e 2 (by unfold RA; omega)
  have g4 : G1 4 = G 4 := e 4 (by unfold RA; omega)
  have hblank : (∀ c, c < 8 → G (579 + 44 * k + 2 + c) = 0) ∧ ∀ d q, d < 8 → q < 100 → B k d q = false := by
    rcases (hg.2.2.2.2 k h3).2.2.2.2 with t | t
    · omega
    · exact ⟨t.1, t.2.1⟩
  have eB : ∀ t, t < 4 → ∀ b2, b2 < 6 → G1 (373 + 6 * b2 + t) = G (373 + 6 * b2 + t) := fun t ht b2 hb2 => e _ (by unfold RA; omega)
  have eF : ∀ f2, f2 < 10 → ∀ t, t < 9 → G1 (409 + 17 * f2 + t) = G (409 + 17 * f2 + t) := fun f2 hf2 t ht => e _ (by unfold RA; omega)
  have eK : ∀ k2, k2 < 20 → k2 ≠ k → ∀ t, t < 44 → G1 (579 + 44 * k2 + t) = G (579 + 44 * k2 + t) := fun k2 a b t ht => e _ (by unfold RA; omega)
  have eK1 : ∀ k2, k2 < 20 → k2 ≠ k → G1 (579 + 44 * k2 + 1) = G (579 + 44 * k2 + 1) := fun k2 a b => eK k2 a b 1 (by omega)
  have aK : allK G1 k = sumN (stF G f) (G 0) := by
    unfold allK
    rw [sumN_ext (m := G 0) (n := 8) (by omega) (fun c a1 a2 => (p2 c a1 a2).1)]
    exact sumN_cong (fun c hc => (p1 c hc).1)
  refine ⟨⟨by omega, by omega, by omega, by omega, by omega⟩, p3, fun b2 hb2 => ?_, fun f2 hf2 => ?_, fun k2 hk2 => ?_⟩
  · obtain ⟨a1, a2, a3, a4⟩ := hg.2.2.1 b2 hb2
    refine ⟨fun r hr => by rw [eB r (by omega) b2 hb2]; exact a1 r hr, by rw [eB 3 (by omega) b2 hb2]; exact a2, ?_, ?_⟩
    · by_cases q : b2 = b
      · rw [q, ys]
        rw [q] at a3
        omega
      · rw [e _ (by unfold RA; omega)]
        exact a3
    · rw [y3]
      show _ = cntN (fun k2 => decide (G1 (579 + 44 * k2 + 1) = b2)) k + (if decide (G1 (579 + 44 * k + 1) = b2) = true then 1 else 0)
      rw [cntN_cong (q := fun k2 => decide (G (579 + 44 * k2 + 1) = b2)) (fun k2 hk2 => by rw [eK1 k2 (by omega) (by omega)]), yb]
      rw [← hke] at a4
      by_cases q : b2 = b
      · rw [if_pos (decide_eq_true q.symm)]
        rw [q] at a4 ⊢
        omega
      · rw [if_neg (by rw [decide_eq_true_iff]; exact fun e => q e.symm), e _ (by unfold RA; omega)]
        exact a4
  · obtain ⟨a1, a2⟩ := hg.2.2.2.1 f2 hf2
    refine ⟨by rw [g2, show G1 (409 + 17 * f2) = G (409 + 17 * f2) from eF f2 hf2 0 (by omega), g1]; exact a1, fun d hd => ?_⟩
    obtain ⟨b1, b2, b3⟩ := a2 d hd
    rw [g2, g0, show G1 (409 + 17 * f2 + 1 + d) = G (409 + 17 * f2 + 1 + d) from by rw [show 409 + 17 * f2 + 1 + d = 409 + 17 * f2 + (1 + d) by omega]; exact eF f2 hf2 _ (by omega)]
    by_cases q : f2 = f
    · rw [q] at b1 b3 ⊢
      by_cases qd : d < G 0
      · rw [(p1 d qd).2.1]
        have : carF1 G f d < 100 := Nat.mod_lt _ (by decide)
        exact ⟨b1, by omega, Or.inl ⟨hf, qd⟩⟩
      · rw [(p2 d (by omega) hd).2.1]
        rw [q] at b2
        exact ⟨b1, b2, b3⟩
    · rw [e (409 + 17 * f2 + 9 + d) (by unfold RA; omega)]
      exact ⟨b1, b2, b3⟩
  · by_cases q : k2 = k
    · subst q
      refine ⟨fun _ => ?_, fun c hc => ?_, by rw [y10, y11]; exact Nat.le_refl _, by rw [y11]; exact Nat.zero_le _, Or.inl (by rw [y3]; omega)⟩
      · rw [yf, yb, aK, g2, g1, show G1 (409 + 17 * f) = G (409 + 17 * f) from eF f hf10 0 (by omega), eB 3 (by omega) b hb6]
        exact ⟨hf, hbe, hbG, htot⟩
      · rw [g0]
        have lo := LG_ok (hg.2.1 c hc)
        by_cases qc : c < G 0
        · rw [(p1 c qc).1]
          refine ⟨?_, Or.inl qc⟩
          rw [show cntN (fun q => B1 k2 c q) 100 = cntN (pumpN (LG G c) (stF G f c)) 100 from cntN_cong (fun q hq => by rw [hB1 k2 c q hk2 hc hq, hblank.2 c q hc hq, decide_eq_true rfl, decide_eq_true qc, Bool.true_and, Bool.true_and, Bool.false_or])]
          exact pumpN_cnt lo
        · rw [(p2 c (by omega) hc).1]
          refine ⟨?_, Or.inr rfl⟩
          rw [show cntN (fun q => B1 k2 c q) 100 = cntN (fun _ => false) 100 from cntN_cong (fun q hq => by rw [hB1 k2 c q hk2 hc hq, hblank.2 c q hc hq, decide_eq_false qc, Bool.false_and, Bool.and_false, Bool.or_false]), cntN_0]
          exact Nat.le_refl _
    · obtain ⟨a1, a2, a3, a4, a5⟩ := hg.2.2.2.2 k2 hk2
      have xB : ∀ d q2, d < 8 → q2 < 100 → B1 k2 d q2 = B k2 d q2 := fun d q2 hd hq => by rw [hB1 k2 d q2 hk2 hd hq, decide_eq_false q, Bool.false_and, Bool.or_false]
      have x2 : ∀ d, d < 8 → G1 (579 + 44 * k2 + 2 + d) = G (579 + 44 * k2 + 2 + d) := fun d hd => by rw [show 579 + 44 * k2 + 2 + d = 579 + 44 * k2 + (2 + d) by omega]; exact eK k2 hk2 q _ (by omega)
      have aK2 : allK G1 k2 = allK G k2 := sumN_cong (fun d hd => x2 d hd)
      refine ⟨fun hk3 => ?_, fun d hd => ?_, by rw [eK k2 hk2 q 10 (by omega), eK k2 hk2 q 11 (by omega)]; exact a3, by rw [aK2, eK k2 hk2 q 11 (by omega)]; exact a4, ?_⟩
      · obtain ⟨b1, b2, b3, b4⟩ := a1 (by omega)
        rw [show G1 (579 + 44 * k2) = G (579 + 44 * k2) from eK k2 hk2 q 0 (by omega), eK1 k2 hk2 q, aK2, g2, g1, show G1 (409 + 17 * G (579 + 44 * k2)) = G (409 + 17 * G (579 + 44 * k2)) from eF _ (by omega) 0 (by omega), eB 3 (by omega) _ (by omega)]
        exact ⟨b1, b2, b3, b4⟩
      · rw [x2 d hd, g0, show cntN (fun q => B1 k2 d q) 100 = cntN (fun q => B k2 d q) 100 from cntN_cong (fun q hq => xB d q hd hq)]
        exact a2 d hd
      · rw [y3, eK k2 hk2 q 10 (by omega), eK k2 hk2 q 11 (by omega)]
        rcases a5 with a5 | ⟨a5, a6, a7⟩
        · exact Or.inl (by omega)
        · exact Or.inr ⟨fun d hd => by rw [x2 d hd]; exact a5 d hd, fun d q hd hq => by rw [xB d q hd hq]; exact a6 d q hd hq, a7⟩
