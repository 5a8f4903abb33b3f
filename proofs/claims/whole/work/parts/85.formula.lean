/-! readFormula -/
abbrev hF : xM → String → Option xR := fun (M8 : xM) (E : String) => if E = "java/lang/IllegalArgumentException" then some (M8, 1) else if E = "java/lang/UnsupportedOperationException" then some (M8, 2) else none
/-- a text was read: the buffer is empty, the fault position is told -/
theorem Rel.read {M M3 R R3 : xM} {x : Int32} (h : Rel M R) (m2 : M3.2 = M.2) (m1 : ∀ k, k ≠ 1470 → k ≠ 1473 → k ≠ 1475 → M3.1 k = M.1 k) (m0 : ∀ s, s ≠ 5 → M3.1 1470 s = M.1 1470 s) (m5 : M3.1 1470 5 = x) (mt : M3.1 1473 1 = 0) (r1 : ∀ k, k ≠ 0 → k ≠ 6 → R3.1 k = R.1 k) (r0 : ∀ s, s ≠ 10 → s ≠ 11 → s ≠ 12 → s ≠ 13 → R3.1 0 s = R.1 0 s) (rt : R3.1 0 10 = 0) (r11 : R3.1 0 11 = x) : Rel M3 R3 := by
  obtain ⟨⟨G, B, hd⟩, hh, hk, ht, l1, l2, l3⟩ := h
  exact ⟨⟨G, B, hd.cong (fun k hk => m1 _ (by omega) (by omega) (by omega)) (fun k hk => by rw [m2]) (fun i hi => by rw [r1 1 (by omega) (by omega)])⟩, hh.cong (fun k a b => ⟨m1 k (by omega) (by omega) (by omega), by rw [m2]⟩) (m1 _ (by omega) (by omega) (by omega)) (r1 2 (by omega) (by omega)) (r0 3 (by omega) (by omega) (by omega) (by omega)), hk.cong (m0 2 (by omega)) (fun k a b => ⟨m1 k (by omega) (by omega) (by omega), by rw [m2]⟩) (r0 5 (by omega) (by omega) (by omega) (by omega)) (r1 3 (by omega) (by omega)), ⟨0, by omega, mt, rt, fun i hi => absurd hi (Nat.not_lt_zero _)⟩, by rw [m5, r11], by rw [m0 6 (by omega), r0 7 (by omega) (by omega) (by omega) (by omega)]; exact l2, fun e => by rw [m0 7 (by omega), r0 8 (by omega) (by omega) (by omega) (by omega)]; exact l3 (by rw [← r0 7 (by omega) (by omega) (by omega) (by omega)]; exact e)⟩
section
variable {N : Nat} {M R : xM} {A : Nat → Int32}
theorem nmM_all (hM : ∀ i, i < 10 → M.1 1475 i = A i) : ∀ n i, i ≤ 10 → 10 < n + i → (∀ j, i ≤ j → j < 10 → A j = -1) → L_X5_namesFrom_2 N n (nI i) M = some (M, 0) := by
  intro n
  induction n with
  | zero => intro i a1 a2; omega
  | succ n ih =>
    intro i a1 a2 h
    rw [L_X5_namesFrom_2]
    by_cases hi : i = 10
    · subst hi
      rw [if_pos (show (10 : Int32) ≤ nI 10 from by decide)]
    · rw [if_neg (show ¬ (10 : Int32) ≤ nI i from nI_ge (b := 10) (by omega) (by omega)), ck_nI (by omega) (by decide), nI_clamp (by omega), hM i (by omega), if_pos (h i (Nat.le_refl _) (by omega)), nI_1, xl_v]
      exact ih (i + 1) (by omega) (by omega) (fun j q1 q2 => h j (by omega) q2)
theorem nmM_some (hM : ∀ i, i < 10 → M.1 1475 i = A i) : ∀ n i, i ≤ 10 → 10 < n + i → (∃ j, i ≤ j ∧ j < 10 ∧ ¬ A j = -1) → L_X5_namesFrom_2 N n (nI i) M = some (M, 1) := by
  intro n
  induction n with
  | zero => intro i a1 a2; omega
  | succ n ih =>
    intro i a1 a2 ⟨j, h1, h2, h3⟩
    rw [L_X5_namesFrom_2, if_neg (show ¬ (10 : Int32) ≤ nI i from nI_ge (b := 10) (by omega) (by omega)), ck_nI (by omega) (by decide), nI_clamp (by omega), hM i (by omega)]
    by_cases hA : A i = -1
    · rw [if_pos hA, nI_1, xl_v]
      exact ih (i + 1) (by omega) (by omega) ⟨j, by have : ¬ j = i := fun e => h3 (by rw [e]; exact hA); omega, h2, h3⟩
    · rw [if_neg hA]
abbrev fin65 (N : Nat) (v1 v2 : Int32) (M : xM) : Option xR := (if v2 = 0 then xbd (F_X10_refuses N 1 2 M) (fun (r9 : xR) => some (r9.1, r9.2)) else (if (M.1 1 (2 : Int32).toNatClampNeg) = (10 : Int32) then xbd (F_X10_refuses N 2 2 M) (fun (r8 : xR) => some (r8.1, r8.2)) else xbd (F_X10_remembers N M) (fun (r4 : xR) => xl (409 + (17 * (r4.1.1 1 (2 : Int32).toNatClampNeg))) (fun (y5 : Int32) => xck (xin y5 1460) (xl (xS r4.1 1 (upd (r4.1.1 1) y5.toNatClampNeg v1)) (fun (M7 : xM) => L_X10_readFormula_152 N N y5 0 M7))))))
theorem nmR_0 (hR : ∀ i, i < 10 → R.1 6 i = A i) {v1 : Int32} : ∀ n i, i ≤ 10 → 10 < n + i → L_X10_readFormula_65 N n v1 0 (nI i) R = fin65 N v1 0 R := by
  intro n
  induction n with
  | zero => intro i a1 a2; omega
  | succ n ih =>
    intro i a1 a2
    rw [L_X10_readFormula_65]
    by_cases hi : i = 10
    · subst hi
      rw [if_pos (show (10 : Int32) ≤ nI 10 from by decide)]
    · have e : ∀ t0 : Int32, (t0 = 0 ∨ t0 = 1) → L_X10_readFormula_87 N (L_X10_readFormula_65 N n) v1 (nI i) t0 0 R = L_X10_readFormula_65 N n v1 0 (nI (i + 1)) R := fun t0 ht0 => by
        unfold L_X10_readFormula_87
        rw [show (0 : Int32) &&& t0 = 0 from by rcases ht0 with rfl | rfl <;> decide, xl_v, nI_1, xl_v]
      rw [if_neg (show ¬ (10 : Int32) ≤ nI i from nI_ge (b := 10) (by omega) (by omega)), ck_nI (by omega) (by decide), e 1 (Or.inr rfl), e 0 (Or.inl rfl)]
      rw [ih (i + 1) (by omega) (by omega)]
      split <;> rfl
theorem nmR_all (hR : ∀ i, i < 10 → R.1 6 i = A i) {v1 : Int32} : ∀ n i, i ≤ 10 → 10 < n + i → (∀ j, i ≤ j → j < 10 → A j = -1) → L_X10_readFormula_65 N n v1 1 (nI i) R = fin65 N v1 1 R := by
  intro n
  induction n with
  | zero => intro i a1 a2; omega
  | succ n ih =>
    intro i a1 a2 h
    rw [L_X10_readFormula_65]
    by_cases hi : i = 10
    · subst hi
      rw [if_pos (show (10 : Int32) ≤ nI 10 from by decide)]
    · rw [if_neg (show ¬ (10 : Int32) ≤ nI i from nI_ge (b := 10) (by omega) (by omega)), ck_nI (by omega) (by decide), nI_clamp (by omega), hR i (by omega), if_pos (h i (Nat.le_refl _) (by omega))]
      unfold L_X10_readFormula_87
      rw [show (1 : Int32) &&& 1 = 1 from by decide, xl_v, nI_1, xl_v]
      exact ih (i + 1) (by omega) (by omega) (fun j q1 q2 => h j (by omega) q2)
theorem nmR_some (hR : ∀ i, i < 10 → R.1 6 i = A i) {v1 : Int32} : ∀ n i, i ≤ 10 → 10 < n + i → (∃ j, i ≤ j ∧ j < 10 ∧ ¬ A j = -1) → L_X10_readFormula_65 N n v1 1 (nI i) R = fin65 N v1 0 R := by
  intro n
  induction n with
  | zero => intro i a1 a2; omega
  | succ n ih =>
    intro i a1 a2 ⟨j, h1, h2, h3⟩
    rw [L_X10_readFormula_65, if_neg (show ¬ (10 : Int32) ≤ nI i from nI_ge (b := 10) (by omega) (by omega)), ck_nI (by omega) (by decide), nI_clamp (by omega), hR i (by omega)]
    unfold L_X10_readFormula_87
    rw [show (1 : Int32) &&& 1 = 1 from by decide, show (1 : Int32) &&& 0 = 0 from by decide, xl_v, nI_1, xl_v, xl_v, xl_v]
    by_cases hA : A i = -1
    · rw [if_pos hA]
      exact ih (i + 1) (by omega) (by omega) ⟨j, by have : ¬ j = i := fun e => h3 (by rw [e]; exact hA); omega, h2, h3⟩
    · rw [if_neg hA]
      exact nmR_0 hR n (i + 1) (by omega) (by omega)
end
theorem GI.newF {G G1 : Nat → Nat} {B : Nat → Nat → Nat → Bool} (h : GI G B) (hf : G 2 < 10) (e : ∀ j, j ≠ 2 → (j < 409 + 17 * G 2 ∨ 409 + 17 * G 2 + 17 ≤ j) → G1 j = G j) (e2 : G1 2 = G 2 + 1) (eb : G1 (409 + 17 * G 2) < G 1) (ea : ∀ c, c < 8 → G1 (409 + 17 * G 2 + 1 + c) ≤ 9999 ∧ G1 (409 + 17 * G 2 + 9 + c) = 0 ∧ (c < G 0 ∨ G1 (409 + 17 * G 2 + 1 + c) = 0)) : GI G1 B := by
  obtain ⟨h0, h1, h2, h3, h4⟩ := h
  have eK : ∀ k, allK G1 k = allK G k := fun k => sumN_cong (fun c hc => e _ (by omega) (by omega))
  have g0 := e 0 (by omega) (by omega)
  have g1 := e 1 (by omega) (by omega)
  have g3 := e 3 (by omega) (by omega)
  have g4 := e 4 (by omega) (by omega)
  refine ⟨by rw [g0, g1, e2, g3, g4]; exact ⟨h0.1, h0.2.1, by omega, h0.2.2.2⟩, fun d hd => ?_, fun b hb => ?_, fun f hf2 => ?_, fun k hk => ?_⟩
  · obtain ⟨a1, a2, a3, a4⟩ := h1 d hd
    refine ⟨by rw [e _ (by omega) (by omega)]; exact a1, fun r hr => by rw [e _ (by omega) (by omega)]; exact a2 r hr, by rw [e _ (by omega) (by omega)]; exact a3, fun j hj => ?_⟩
    rw [e _ (by omega) (by omega)] at hj
    have hj12 : j < 12 := by omega
    rw [e _ (by omega) (by omega), e _ (by omega) (by omega), e _ (by omega) (by omega)]
    exact a4 j hj
  · obtain ⟨a1, a2, a3, a4⟩ := h2 b hb
    refine ⟨fun r hr => by rw [e _ (by omega) (by omega)]; exact a1 r hr, by rw [e _ (by omega) (by omega)]; exact a2, by rw [e _ (by omega) (by omega)]; exact a3, ?_⟩
    rw [g3, e _ (by omega) (by omega), a4]
    exact cntN_cong (fun k hk => by rw [e _ (by omega) (by omega)])
  · obtain ⟨a1, a2⟩ := h3 f hf2
    by_cases q : f = G 2
    · rw [q]
      unfold GIf
      rw [e2, g1, g0]
      refine ⟨fun _ => eb, fun d hd => ?_⟩
      obtain ⟨b1, b2, b3⟩ := ea d hd
      exact ⟨b1, by rw [b2]; exact Nat.zero_le _, by rcases b3 with b3 | b3; exact Or.inl ⟨Nat.lt_succ_self _, b3⟩; exact Or.inr ⟨b3, b2⟩⟩
    · refine ⟨by rw [e2, e _ (by omega) (by omega), g1]; exact fun z => a1 (by omega), fun d hd => ?_⟩
      obtain ⟨b1, b2, b3⟩ := a2 d hd
      rw [e _ (by omega) (by omega), e _ (by omega) (by omega), e2, g0]
      exact ⟨b1, b2, by omega⟩
  · obtain ⟨a1, a2, a3, a4, a5⟩ := h4 k hk
    refine ⟨fun hk3 => ?_, fun d hd => ?_, by rw [e _ (by omega) (by omega), e _ (by omega) (by omega)]; exact a3, by rw [eK, e _ (by omega) (by omega)]; exact a4, ?_⟩
    · rw [g3] at hk3
      obtain ⟨b1, b2, b3, b4⟩ := a1 hk3
      rw [e (579 + 44 * k) (by omega) (by omega), e (579 + 44 * k + 1) (by omega) (by omega), eK, e2, g1, e (409 + 17 * G (579 + 44 * k)) (by omega) (by omega), e (373 + 6 * G (579 + 44 * k + 1) + 3) (by omega) (by omega)]
      exact ⟨Nat.lt_succ_of_lt b1, b2, b3, b4⟩
    · rw [e _ (by omega) (by omega), g0]
      exact a2 d hd
    · rw [g3, e _ (by omega) (by omega), e _ (by omega) (by omega)]
      rcases a5 with a5 | ⟨a5, a6⟩
      · exact Or.inl a5
      · exact Or.inr ⟨fun d hd => by rw [e _ (by omega) (by omega)]; exact a5 d hd, a6⟩
/-- a formula is made, on both sides -/
theorem makeF {N b : Nat} {M R : xM} {G : Nat → Nat} {B : Nat → Nat → Nat → Bool} {A : Nat → Int32} {a : Nat → Nat} (hN : 30 ≤ N) (hd : DS M 0 (R.1 1) G B) (hf : G 2 < 10) (hb : b < G 1) (hM : ∀ i, i < 10 → M.1 1475 i = A i) (hMb : M.1 1473 3 = nI b) (hR : ∀ i, i < 10 → R.1 6 i = A i) (ha : ∀ i, i < 10 → a i ≤ 9999 ∧ (A i = -1 ∧ a i = 0 ∨ ¬ A i = -1 ∧ A i = nI (a i))) (hn : ∀ j, G 0 ≤ j → j < 10 → A j = -1) : ∃ M1 R1 G1, F_X3_makeFormula N 0 M = some (M1, nI (G 2)) ∧ L_X10_readFormula_152 N N (nI (409 + 17 * G 2)) 0 (xS R 1 (upd (R.1 1) (409 + 17 * G 2) (nI b))) = some (xS R1 0 (upd (R1.1 0) 0 0), nI (G 2)) ∧ DS M1 0 (R1.1 1) G1 B ∧ (∀ p, 147 ≤ p → M1.1 p = M.1 p) ∧ M1.2 = M.2 ∧ ∀ p, p ≠ 1 → R1.1 p = R.1 p := by
  have hg := hd.2.2.2.2
  have hr := hd.2.2.1
  have hg0 : G 0 ≤ 8 := hg.1.1
  obtain ⟨f, hfe⟩ : ∃ f, f = G 2 := ⟨_, rfl⟩
  obtain ⟨o, ho⟩ : ∃ o, o = 409 + 17 * f := ⟨_, rfl⟩
  rw [← hfe, ← ho]
  have hf10 : f < 10 := by omega
  have hb6 : b < 6 := by have := hg.1; omega
  have blank : ∀ c, c < 8 → G (409 + 17 * f + 1 + c) = 0 ∧ G (409 + 17 * f + 9 + c) = 0 := fun c hc => by
    rcases ((hg.2.2.2.1 f hf10).2 c hc).2.2 with t | t
    · omega
    · exact t
  have a0 : ∀ c, G 0 ≤ c → c < 10 → a c = 0 := fun c q1 q2 => by
    rcases (ha c q2).2 with t | t
    · exact t.2
    · exact absurd (hn c q1 q2) t.1
  have lf := loc_f f hf10
  -- the class
  obtain ⟨Ma, hMa⟩ : ∃ Ma, Ma = xS M (57 + 3 * f) (upd (M.1 (57 + 3 * f)) 0 (nI b)) := ⟨_, rfl⟩
  have na : ∀ p, p ≠ 57 + 3 * f → Ma.1 p = M.1 p := fun p hp => by rw [hMa, xS_ne hp]
  have vA : ∀ i, i < 10 → (if A i < (0 : Int32) then 0 else A i) = nI (a i) := fun i hi => by
    rcases (ha i hi).2 with ⟨t1, t2⟩ | ⟨t1, t2⟩
    · rw [t1, t2]; decide
    · have := (ha i hi).1
      rw [t2, if_neg (nI_pos (by omega))]
  have loopM : ∀ n i (M2 : xM), i ≤ G 0 → G 0 < n + i → M2.2 = M.2 → (∀ p, p ≠ 58 + 3 * f → M2.1 p = Ma.1 p) → (∀ j, j < i → M2.1 (58 + 3 * f) j = nI (a j)) → (∀ j, i ≤ j → M2.1 (58 + 3 * f) j = M.1 (58 + 3 * f) j) → ∃ M1, L_X3_makeFormula_20 N 0 (57 + 3 * f) n (nI i) M2 = some (M1, nI f) ∧ M1.2 = M.2 ∧ (∀ p, p ≠ 0 → p ≠ 58 + 3 * f → M1.1 p = Ma.1 p) ∧ (∀ s, s ≠ 6 → M1.1 0 s = M.1 0 s) ∧ M1.1 0 6 = nI (f + 1) ∧ (∀ j, j < G 0 → M1.1 (58 + 3 * f) j = nI (a j)) ∧ ∀ j, G 0 ≤ j → M1.1 (58 + 3 * f) j = M.1 (58 + 3 * f) j := by
    intro n
    induction n with
    | zero => intro i M2 a1 a2; omega
    | succ n ih =>
      intro i M2 a1 a2 k0 k1 k2 k3
      have m0 : M2.1 0 = M.1 0 := by rw [k1 0 (by omega), na 0 (by omega)]
      rw [L_X3_makeFormula_20, m0, hd.n0.1.1]
      by_cases hi : i = G 0
      · subst hi
        rw [if_pos (nI_le (Nat.le_refl _) (by omega)), hd.n0.2.2.1.1, ← hfe, nI_1, xl_v, show (xS M2 0 (upd (M.1 0) 6 (nI (f + 1)))).1 0 6 = nI (f + 1) from by rw [xS_at]; exact pk_us, nI_pred]
        refine ⟨_, rfl, k0, fun p p0 p1 => (xS_ne p0).trans (k1 p p1), fun s hs => ?_, ?_, fun j hj => ?_, fun j hj => ?_⟩
        · rw [xS_at]; exact pk_un hs
        · rw [xS_at]; exact pk_us
        · rw [xS_ne (by omega)]; exact k2 j hj
        · rw [xS_ne (by omega)]; exact k3 j hj
      · rw [if_neg (nI_ge (a := i) (by omega) (by omega)), ck_nI (by omega) (by decide), ck_nI (by omega) (by decide), nI_clamp (by omega), show M2.1 1475 i = A i from by rw [k1 1475 (by omega), na 1475 (by omega)]; exact hM i (by omega), vA i (by omega), show 57 + 3 * f + 1 = 58 + 3 * f by omega, xl_v, nI_1, xl_v]
        refine ih (i + 1) _ (by omega) (by omega) k0 (fun p hp => (xS_ne hp).trans (k1 p hp)) (fun j hj => ?_) (fun j hj => ?_)
        · rw [xS_at]
          by_cases q : j = i
          · subst q; exact pk_us
          · rw [pk_un q]; exact k2 j (by omega)
        · rw [xS_at, pk_un (by omega)]; exact k3 j (by omega)
  obtain ⟨M1, x1, x2, x3, x4, x5, x6, x7⟩ := loopM N 0 Ma (Nat.zero_le _) (by omega) (by rw [hMa]; rfl) (fun _ _ => rfl) (fun j hj => absurd hj (Nat.not_lt_zero _)) (fun j _ => by rw [na _ (by omega)])
  -- the reference
  obtain ⟨Ra, hRa⟩ : ∃ Ra, Ra = xS R 1 (upd (R.1 1) o (nI b)) := ⟨_, rfl⟩
  have ra : ∀ j, j ≠ o → Ra.1 1 j = R.1 1 j := fun j hj => by rw [hRa, xS_f hj]
  have loopR : ∀ n i (R2 : xM), i ≤ 8 → 8 < n + i → (∀ p, p ≠ 1 → R2.1 p = R.1 p) → (∀ j, (j < o + 1 ∨ o + 17 ≤ j) → R2.1 1 j = Ra.1 1 j) → (∀ j, j < i → R2.1 1 (o + 1 + j) = nI (a j) ∧ R2.1 1 (o + 9 + j) = nI 0) → ∃ R1, L_X10_readFormula_152 N n (nI o) (nI i) R2 = some (xS R1 0 (upd (R1.1 0) 0 0), nI f) ∧ (∀ p, p ≠ 1 → R1.1 p = R.1 p) ∧ (∀ j, j ≠ 2 → (j < o + 1 ∨ o + 17 ≤ j) → R1.1 1 j = Ra.1 1 j) ∧ R1.1 1 2 = nI (f + 1) ∧ ∀ j, j < 8 → R1.1 1 (o + 1 + j) = nI (a j) ∧ R1.1 1 (o + 9 + j) = nI 0 := by
    intro n
    induction n with
    | zero => intro i R2 a1 a2; omega
    | succ n ih =>
      intro i R2 a1 a2 k1 k2 k3
      rw [L_X10_readFormula_152]
      by_cases hi : i = 8
      · subst hi
        have r2 : R2.1 1 (2 : Int32).toNatClampNeg = nI f := by
          show R2.1 1 2 = nI f
          rw [k2 2 (by omega), ra 2 (by omega), hr 2 (by omega), hfe]
        obtain ⟨R3, hR3⟩ : ∃ R3, R3 = xS R2 1 (upd (R2.1 1) 2 (nI (f + 1))) := ⟨_, rfl⟩
        rw [if_pos (show (8 : Int32) ≤ nI 8 from by decide), r2, nI_1, xl_v, show xS R2 1 (upd (R2.1 1) (2 : Int32).toNatClampNeg (nI (f + 1))) = R3 from hR3.symm, show R3.1 1 (2 : Int32).toNatClampNeg = nI (f + 1) from by show R3.1 1 2 = _; rw [hR3]; exact xS_in, nI_pred]
        refine ⟨R3, rfl, fun p hp => by rw [hR3, xS_ne hp]; exact k1 p hp, fun j j2 hj => by rw [hR3, xS_f j2]; exact k2 j hj, by rw [hR3]; exact xS_in, fun j hj => ⟨?_, ?_⟩⟩
        · rw [hR3, xS_f (by omega)]; exact (k3 j hj).1
        · rw [hR3, xS_f (by omega)]; exact (k3 j hj).2
      · have e191 : L_X10_readFormula_191 N (L_X10_readFormula_152 N n) (nI o) (nI i) (nI (a i)) (nI o + 1 + nI i) R2 = L_X10_readFormula_152 N n (nI o) (nI (i + 1)) (xS (xS R2 1 (upd (R2.1 1) (o + 1 + i) (nI (a i)))) 1 (upd ((xS R2 1 (upd (R2.1 1) (o + 1 + i) (nI (a i)))).1 1) (o + 9 + i) 0)) := by
          unfold L_X10_readFormula_191
          rw [show nI o + 1 + nI i = nI (o + 1 + i) from by rw [nI_1, nI_add], show nI o + 9 + nI i = nI (o + 9 + i) from by show nI o + nI 9 + nI i = _; rw [nI_add, nI_add], ck_nI (by omega) (by decide), nI_clamp (by omega), xl_v, ck_nI (by omega) (by decide), nI_clamp (by omega), xl_v, nI_1, xl_v]
        have nxt := ih (i + 1) (xS (xS R2 1 (upd (R2.1 1) (o + 1 + i) (nI (a i)))) 1 (upd ((xS R2 1 (upd (R2.1 1) (o + 1 + i) (nI (a i)))).1 1) (o + 9 + i) 0)) (by omega) (by omega) (fun p hp => by rw [xS_ne hp, xS_ne hp]; exact k1 p hp) (fun j hj => by rw [xS_f (by omega), xS_f (by omega)]; exact k2 j hj) (fun j hj => by
          by_cases q : j = i
          · subst q
            exact ⟨by rw [xS_f (by omega)]; exact xS_in, xS_in⟩
          · rw [xS_f (by omega), xS_f (by omega), xS_f (by omega), xS_f (by omega)]
            exact k3 j (by omega))
        rw [if_neg (show ¬ (8 : Int32) ≤ nI i from nI_ge (b := 8) (by omega) (by omega)), ck_nI (by omega) (by decide), nI_clamp (by omega), show R2.1 6 i = A i from by rw [k1 6 (by omega)]; exact hR i (by omega)]
        rcases (ha i (by omega)).2 with ⟨t1, t2⟩ | ⟨t1, t2⟩
        · rw [if_pos t1]
          refine Exists.elim nxt (fun R9 h9 => ⟨R9, Eq.trans ?_ h9.1, h9.2⟩)
          have e := e191
          rw [t2] at e ⊢
          exact e
        · rw [if_neg t1, ck_nI (by omega) (by decide), t2, e191]
          exact nxt
  obtain ⟨R1, y1, y2, y3, y4, y5⟩ := loopR N 0 Ra (Nat.zero_le _) (by omega) (fun p hp => by rw [hRa, xS_ne hp]) (fun _ _ => rfl) (fun j hj => absurd hj (Nat.not_lt_zero _))
  -- what holds
  obtain ⟨G1, hG1⟩ : ∃ G1 : Nat → Nat, G1 = fun j => if j = 2 then f + 1 else if j = o then b else if o + 1 ≤ j ∧ j < o + 9 then a (j - (o + 1)) else if o + 9 ≤ j ∧ j < o + 17 then 0 else G j := ⟨_, rfl⟩
  have z0 : ∀ j, j ≠ 2 → (j < o ∨ o + 17 ≤ j) → G1 j = G j := fun j q1 q2 => by rw [hG1]; dsimp only; rw [if_neg q1, if_neg (by omega), if_neg (by omega), if_neg (by omega)]
  have z2 : G1 2 = f + 1 := by rw [hG1]; exact if_pos rfl
  have zb : G1 o = b := by rw [hG1]; dsimp only; rw [if_neg (by omega), if_pos rfl]
  have za : ∀ c, c < 8 → G1 (o + 1 + c) = a c := fun c hc => by
    rw [hG1]; dsimp only
    rw [if_neg (by omega), if_neg (by omega), if_pos (by omega)]
    exact congrArg a (by omega)
  have zc : ∀ c, c < 8 → G1 (o + 9 + c) = 0 := fun c hc => by rw [hG1]; dsimp only; rw [if_neg (by omega), if_neg (by omega), if_neg (by omega), if_pos (by omega)]
  have hr1 : ∀ i, i < 1460 → R1.1 1 i = nI (G1 i) := fun i hi => by
    by_cases q2 : i = 2
    · rw [q2, y4, z2]
    · by_cases qo : i = o
      · rw [qo, y3 o (by omega) (by omega), zb, hRa]; exact xS_in
      · by_cases qa : o + 1 ≤ i ∧ i < o + 9
        · obtain ⟨c, hc, rfl⟩ : ∃ c, c < 8 ∧ i = o + 1 + c := ⟨i - (o + 1), by omega, by omega⟩
          rw [(y5 c hc).1, za c hc]
        · by_cases qc : o + 9 ≤ i ∧ i < o + 17
          · obtain ⟨c, hc, rfl⟩ : ∃ c, c < 8 ∧ i = o + 9 + c := ⟨i - (o + 9), by omega, by omega⟩
            rw [(y5 c hc).2, zc c hc]
          · rw [y3 i q2 (by omega), ra i qo, z0 i q2 (by omega)]
            exact hr i hi
  have hgi : GI G1 B := by
    refine hg.newF hf (fun j q1 q2 => z0 j q1 (by omega)) (by rw [z2, hfe]) (by rw [← hfe, ← ho, zb]; exact hb) (fun c hc => ?_)
    rw [← hfe, ← ho, za c hc, zc c hc]
    refine ⟨(ha c (by omega)).1, rfl, ?_⟩
    by_cases q : c < G 0
    · exact Or.inl q
    · exact Or.inr (a0 c (by omega) (by omega))
  have un : ∀ p, p ≠ 0 → p ≠ 57 + 3 * f → p ≠ 58 + 3 * f → M1.1 p = M.1 p := fun p q1 q2 q3 => by rw [x3 p q1 q3, na p q2]
  have old : ∀ {i p s}, loc i = (p, s) ∧ isP i = true → 373 ≤ i → M.1 p s = R.1 1 i := fun {i p s} hl hi => by
    rw [hr i (isP_lt hl.2)]
    exact hd.m hl (vis_hi hi) (Nat.zero_add _).symm
  have rs : ∀ j, 373 ≤ j → (j < o ∨ o + 17 ≤ j) → R1.1 1 j = R.1 1 j := fun j q1 q2 => by rw [y3 j (by omega) (by omega), ra j (by omega)]
  refine ⟨M1, R1, G1, ?_, ?_, DS.build hr1 hgi (hd.2.1.cong (fun k hk => by rw [x2])) (fun k c q hk hc hq => by rw [rs _ (by omega) (by omega)]; exact hd.2.2.2.1 k c q hk hc hq) (fun s hs => ?_) (fun c hc => ?_) (fun i hi hp => ?_), fun p hp => un p (by omega) (by omega) (by omega), x2, y2⟩
  · unfold F_X3_makeFormula
    rw [show M.1 0 6 = nI f from by rw [hfe]; exact hd.n0.2.2.1.1, ck_nI hf10 (by decide), nI_clamp (by omega), show (0 : Nat) + 57 + 3 * f = 57 + 3 * f by omega, hMb, xl_v, ← hMa]
    exact x1
  · rw [← hRa]
    exact y1
  · by_cases q : s = 2
    · subst q
      rw [y4]
      exact x5
    · rw [x4 _ (by omega), y3 s q (by omega), ra s (by omega), hr s (by omega)]
      exact hd.m (loc_n s hs) (vis_lo (by omega)) rfl
  · have lo := LG_ok (hg.2.1 c hc)
    refine ⟨_, (hd.ce hc).cong lo.1 (fun p q1 q2 => un p (by omega) (by omega) (by omega)) (fun j q1 q2 => by rw [y3 j (by omega) (by omega), ra j (by omega)]), ?_⟩
    rw [LG_len, z0 _ (by omega) (by omega)]
  · by_cases hof : o ≤ i ∧ i < o + 17
    · obtain ⟨t, ht, rfl⟩ : ∃ t, t < 17 ∧ i = 409 + 17 * f + t := ⟨i - o, by omega, by omega⟩
      have : t = 0 ∨ (1 ≤ t ∧ t < 9) ∨ 9 ≤ t := by omega
      rcases this with rfl | t1 | t9
      · rw [show 409 + 17 * f + 0 = 409 + 17 * f from rfl, lf.1.1, hr1 _ (by omega), ← ho, zb]
        show M1.1 (57 + 3 * f) 0 = nI b
        rw [x3 _ (by omega) (by omega), hMa]
        exact xS_in
      · obtain ⟨c, hc, rfl⟩ : ∃ c, c < 8 ∧ t = 1 + c := ⟨t - 1, by omega, by omega⟩
        have l1 := (lf.2 c hc).1
        rw [show 409 + 17 * f + (1 + c) = 409 + 17 * f + 1 + c by omega, l1.1, hr1 _ (by omega), show G1 (409 + 17 * f + 1 + c) = a c from by rw [← ho]; exact za c hc]
        show M1.1 (58 + 3 * f) c = nI (a c)
        by_cases q : c < G 0
        · exact x6 c q
        · rw [x7 c (by omega), a0 c (by omega) (by omega), ← (blank c hc).1]
          exact hd.m l1 (vis_hi (by omega)) (by omega)
      · obtain ⟨c, hc, rfl⟩ : ∃ c, c < 8 ∧ t = 9 + c := ⟨t - 9, by omega, by omega⟩
        have l1 := (lf.2 c hc).2
        rw [show 409 + 17 * f + (9 + c) = 409 + 17 * f + 9 + c by omega, l1.1, hr1 _ (by omega), show G1 (409 + 17 * f + 9 + c) = 0 from by rw [← ho]; exact zc c hc]
        show M1.1 (59 + 3 * f) c = nI 0
        rw [un _ (by omega) (by omega) (by omega), ← (blank c hc).2]
        exact hd.m l1 (vis_hi (by omega)) (by omega)
    · have hge := loc_ge i (isP_lt hp) hi hp
      rw [rs i hi (by omega), hr i (isP_lt hp)]
      have old1 : M.1 (loc i).1 (loc i).2 = nI (G i) := hd.m ⟨rfl, hp⟩ (vis_hi hi) (Nat.zero_add _).symm
      rw [← old1]
      by_cases h409 : i < 409
      · obtain ⟨b2, t, hb2, ht, rfl⟩ : ∃ b2 t, b2 < 6 ∧ t < 6 ∧ i = 373 + 6 * b2 + t := ⟨(i - 373) / 6, (i - 373) % 6, by omega, Nat.mod_lt _ (by decide), by omega⟩
        have lb := loc_b b2 hb2
        have : t < 3 ∨ t = 3 ∨ t = 4 ∨ t = 5 := by omega
        rcases this with t3 | rfl | rfl | rfl
        · rw [(lb.1 t t3).1]
          exact congrFun (un _ (by show 46 + 2 * b2 ≠ 0; omega) (by show 46 + 2 * b2 ≠ _; omega) (by show 46 + 2 * b2 ≠ _; omega)) _
        · rw [lb.2.1.1]
          exact congrFun (un _ (by show 45 + 2 * b2 ≠ 0; omega) (by show 45 + 2 * b2 ≠ _; omega) (by show 45 + 2 * b2 ≠ _; omega)) _
        · rw [lb.2.2.1]
          exact congrFun (un _ (by show 45 + 2 * b2 ≠ 0; omega) (by show 45 + 2 * b2 ≠ _; omega) (by show 45 + 2 * b2 ≠ _; omega)) _
        · exfalso
          unfold isP at hp
          rw [if_neg (by omega), if_neg (by omega), if_pos (by omega), show (373 + 6 * b2 + 5 - 373) % 6 = 5 by omega] at hp
          exact absurd hp (by decide)
      · by_cases h579 : i < 579
        · obtain ⟨f2, t, hf2, ht, rfl⟩ : ∃ f2 t, f2 < 10 ∧ t < 17 ∧ i = 409 + 17 * f2 + t := ⟨(i - 409) / 17, (i - 409) % 17, by omega, Nat.mod_lt _ (by decide), by omega⟩
          have hne : f2 ≠ f := by omega
          have lf2 := loc_f f2 hf2
          have : t = 0 ∨ (1 ≤ t ∧ t < 9) ∨ 9 ≤ t := by omega
          rcases this with rfl | t1 | t9
          · rw [show 409 + 17 * f2 + 0 = 409 + 17 * f2 from rfl, lf2.1.1]
            exact congrFun (un _ (by show 57 + 3 * f2 ≠ 0; omega) (by show 57 + 3 * f2 ≠ _; omega) (by show 57 + 3 * f2 ≠ _; omega)) _
          · have l1 := (lf2.2 (t - 1) (by omega)).1.1
            rw [show 409 + 17 * f2 + 1 + (t - 1) = 409 + 17 * f2 + t by omega] at l1
            rw [l1]
            exact congrFun (un _ (by show 58 + 3 * f2 ≠ 0; omega) (by show 58 + 3 * f2 ≠ _; omega) (by show 58 + 3 * f2 ≠ _; omega)) _
          · have l1 := (lf2.2 (t - 9) (by omega)).2.1
            rw [show 409 + 17 * f2 + 9 + (t - 9) = 409 + 17 * f2 + t by omega] at l1
            rw [l1]
            exact congrFun (un _ (by show 59 + 3 * f2 ≠ 0; omega) (by show 59 + 3 * f2 ≠ _; omega) (by show 59 + 3 * f2 ≠ _; omega)) _
        · have h1459 := isP_1459 hp h579
          obtain ⟨k2, t, hk2, ht, rfl⟩ : ∃ k2 t, k2 < 20 ∧ t < 44 ∧ i = 579 + 44 * k2 + t := ⟨(i - 579) / 44, (i - 579) % 44, by omega, Nat.mod_lt _ (by decide), by omega⟩
          have t12 := isP_k hp hk2 (by omega) (by omega)
          have lk := loc_k k2 hk2
          have u87 : M1.1 (87 + 3 * k2) = M.1 (87 + 3 * k2) := un _ (by omega) (by omega) (by omega)
          have u88 : M1.1 (88 + 3 * k2) = M.1 (88 + 3 * k2) := un _ (by omega) (by omega) (by omega)
          have : t = 0 ∨ t = 1 ∨ (2 ≤ t ∧ t < 10) ∨ t = 10 ∨ t = 11 := by omega
          rcases this with rfl | rfl | t2 | rfl | rfl
          · rw [show 579 + 44 * k2 + 0 = 579 + 44 * k2 from rfl, lk.1.1]
            exact congrFun u87 _
          · rw [lk.2.1.1]
            exact congrFun u87 _
          · have l1 := (lk.2.2.2.2 (t - 2) (by omega)).1
            rw [show 579 + 44 * k2 + 2 + (t - 2) = 579 + 44 * k2 + t by omega] at l1
            rw [l1]
            exact congrFun u88 _
          · rw [lk.2.2.1.1]
            exact congrFun u87 _
          · rw [lk.2.2.2.1.1]
            exact congrFun u87 _
