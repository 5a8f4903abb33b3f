/-! keep and remembers -/
theorem L_shift {N : Nat} {R : xM} {K : xM → Option xR} : ∀ (n i : Nat) (R0 : xM), i ≤ 10220 → 10220 < n + i → R0.2 = R.2 → (∀ p, p ≠ 2 → R0.1 p = R.1 p) → (∀ j, R0.1 2 j = if j < i then R.1 2 (j + 1460) else R.1 2 j) →
    ∃ R1, L_X10_remembers_11 N K n (nI i) R0 = K (xS R1 0 (upd (R1.1 0) 3 (R1.1 0 3 - 1))) ∧ R1.2 = R.2 ∧ (∀ p, p ≠ 2 → R1.1 p = R.1 p) ∧ ∀ j, R1.1 2 j = if j < 10220 then R.1 2 (j + 1460) else R.1 2 j := by
  intro n
  induction n with
  | zero => intro i R0 a1 a2; omega
  | succ n ih =>
    intro i R0 a1 a2 e1 e2 e3
    rw [L_X10_remembers_11]
    by_cases hi : i = 10220
    · subst hi
      rw [if_pos (show (10220 : Int32) ≤ nI 10220 from by decide), xl_v]
      exact ⟨R0, rfl, e1, e2, e3⟩
    · rw [if_neg (show ¬ (10220 : Int32) ≤ nI i from nI_ge (a := i) (b := 10220) (by omega) (by decide)), show nI i + 1460 = nI (i + 1460) from nI_add i 1460, ck_nI (by omega) (by decide), ck_nI (by omega) (by decide), nI_clamp (by omega), nI_clamp (by omega), xl_v, xl_v, nI_1]
      refine ih (i + 1) _ (by omega) (by omega) e1 (fun p hp => (xS_ne hp).trans (e2 p hp)) (fun j => ?_)
      rw [xS_at]
      by_cases hj : j = i
      · subst hj
        rw [pk_us, if_pos (by omega), e3, if_neg (by omega)]
      · rw [pk_un hj, e3]
        by_cases hc : j < i
        · rw [if_pos hc, if_pos (by omega)]
        · rw [if_neg hc, if_neg (by omega)]
/-- the second half: the reference's row goes to its place -/
theorem rem50 {N n : Nat} (hN : 2000 ≤ N) (hn : n < 8) {R : xM} (h3 : R.1 0 3 = nI n) : ∃ R1, L_X10_remembers_50 N R = some (R1, 0) ∧ (∀ p, p ≠ 0 → p ≠ 2 → R1.1 p = R.1 p) ∧ (∀ s, s ≠ 3 → R1.1 0 s = R.1 0 s) ∧ R1.1 0 3 = nI (n + 1) ∧ ∀ j, R1.1 2 j = if 1460 * n ≤ j ∧ j < 1460 * n + 1460 then R.1 1 (j - 1460 * n) else R.1 2 j := by
  obtain ⟨R1, e2, d1, d2, d3⟩ := rcopy (N := N) (k0 := 1) (n0 := 1460) (k2 := 2) (n2 := 11680) (o1 := 0) (o2 := 1460 * n) (R := R) hN (by omega) (by omega) (by omega) (by omega) (by omega)
  have e2 : F_X10_copy N 1 1460 2 11680 0 (nI (1460 * n)) R = some (R1, 0) := e2
  refine ⟨xS R1 0 (upd (R1.1 0) 3 (R1.1 0 3 + 1)), ?_, fun p h1 h2 => (xS_ne h1).trans (d2 p h2), fun s hs => (xS_f hs).trans (congrFun (d2 0 (by omega)) s), ?_, fun j => ?_⟩
  · unfold L_X10_remembers_50
    rw [h3, show nI n * 1460 = nI (1460 * n) from (pk_mul n 1460).trans (congrArg nI (Nat.mul_comm n 1460)), e2]
    rfl
  · rw [xS_in, congrFun (d2 0 (by omega)) 3, h3, nI_1]
  · rw [xS_ne (by omega), d3 j]
    by_cases hc : 1460 * n ≤ j ∧ j < 1460 * n + 1460
    · rw [if_pos hc, if_pos hc]
      exact congrArg (R.1 1) (by omega)
    · rw [if_neg hc, if_neg hc]
theorem keep_ok {N : Nat} (hN : 12000 ≤ N) {M R : xM} (h : Rel M R) : ∃ M1 R1, F_X6_keep N 0 M = some (M1, 0) ∧ F_X10_remembers N R = some (R1, 0) ∧ RelX M1 R1 ∧ (∀ k, k < 294 ∨ 1472 ≤ k → M1.1 k = M.1 k ∧ M1.2 k = M.2 k) ∧ (∀ p, p ≠ 0 → p ≠ 2 → R1.1 p = R.1 p) ∧ ∀ s, s ≠ 3 → R1.1 0 s = R.1 0 s := by
  obtain ⟨⟨G0, B0, hd0⟩, ⟨n, nx, a1, a2, a3, a4, a5, a6⟩, hk, ht, hl⟩ := h
  obtain ⟨M1, e1, c1, c2, c3⟩ := copyFrom_ok (N := N) (a := 294 + 147 * nx) (b := 0) (M := M) (by omega) (by omega)
  obtain ⟨M2, hM2⟩ : ∃ M2, M2 = xS (xS M1 1471 (upd (M1.1 1471) 2 (nI ((nx + 1) % 8)))) 1471 (upd ((xS M1 1471 (upd (M1.1 1471) 2 (nI ((nx + 1) % 8)))).1 1471) 1 (nI (if 8 < n + 1 then 8 else n + 1))) := ⟨_, rfl⟩
  have z1 : ∀ k, k ≠ 1471 → M2.1 k = M1.1 k := fun k hk => by rw [hM2]; exact (xS_ne hk).trans (xS_ne hk)
  have z2 : M2.2 = M1.2 := by rw [hM2]; rfl
  have z3 : M2.1 1471 1 = nI (if 8 < n + 1 then 8 else n + 1) := by rw [hM2]; exact xS_in
  have z4 : M2.1 1471 2 = nI ((nx + 1) % 8) := by rw [hM2]; exact (xS_f (by omega)).trans xS_in
  have fX : F_X6_keep N 0 M = some (M2, 0) := by
    unfold F_X6_keep
    have w1 : M1.1 1471 = M.1 1471 := (c3 1471 (by omega)).1
    rw [a5, ck_nI (by omega) (by decide), nI_clamp (by omega), e1, xbd_some, xl_v, w1, a5, nI_1, show nI (nx + 1) - nI (nx + 1) / 8 * 8 = nI ((nx + 1) % 8) from pk_rem (d := 8) (by omega) (by decide) (by decide), xl_v]
    have w2 : (xS M1 1471 (upd (M.1 1471) 2 (nI ((nx + 1) % 8)))).1 1471 1 = nI n := by rw [← w1, xS_f (by omega), w1]; exact a4
    rw [w2, nI_1, show (if (8 : Int32) < nI (n + 1) then (8 : Int32) else nI (n + 1)) = nI (if 8 < n + 1 then 8 else n + 1) from ?_]
    · rw [hM2, w1]
    · by_cases hc : 8 < n + 1
      · rw [if_pos hc, if_pos (show (8 : Int32) < nI (n + 1) from nI_lt (a := 8) hc (by omega))]
        rfl
      · rw [if_neg hc, if_neg (show ¬ (8 : Int32) < nI (n + 1) from nI_nlt (b := n + 1) (a := 8) (by omega) (by decide))]
  -- the reference's first half
  obtain ⟨n0, R0, f1, f2, f3, f4, f5, f6⟩ : ∃ n0 R0, F_X10_remembers N R = L_X10_remembers_50 N R0 ∧ n0 < 8 ∧ (n0 + 1 = if 8 < n + 1 then 8 else n + 1) ∧ R0.1 0 3 = nI n0 ∧ ((∀ p, p ≠ 0 → p ≠ 2 → R0.1 p = R.1 p) ∧ ∀ s, s ≠ 3 → R0.1 0 s = R.1 0 s) ∧ ∀ j, j < n0 → ∃ G B, DS M (294 + 147 * ((nx + 8 - n0 + j) % 8)) (fun i => R0.1 2 (1460 * j + i)) G B := by
    by_cases hn : n = 8
    · subst hn
      obtain ⟨R1, g1, g2, g3, g4⟩ := L_shift (N := N) (R := R) (K := L_X10_remembers_50 N) N 0 R (by omega) (by omega) rfl (fun _ _ => rfl) (fun j => by rw [if_neg (by omega)])
      refine ⟨7, xS R1 0 (upd (R1.1 0) 3 (R1.1 0 3 - 1)), ?_, by omega, by decide, ?_, ⟨fun p h1 h2 => (xS_ne h1).trans (g3 p h2), fun s hs => (xS_f hs).trans (congrFun (g3 0 (by omega)) s)⟩, fun j hj => ?_⟩
      · unfold F_X10_remembers
        rw [if_pos (show R.1 0 3 = (8 : Int32) from a3)]
        exact g1
      · rw [xS_in, congrFun (g3 0 (by omega)) 3, a3]
        exact nI_pred 7
      · obtain ⟨G, B, hd⟩ := a6 (j + 1) (by omega)
        have ej : (nx + 8 - 8 + (j + 1)) % 8 = (nx + 8 - 7 + j) % 8 := by omega
        rw [ej] at hd
        exact ⟨G, B, hd.cong (fun k hk => rfl) (fun k hk => rfl) (fun i hi => by rw [xS_ne (by omega), g4, if_pos (by omega)]; exact congrArg (R.1 2) (by omega))⟩
    · refine ⟨n, R, ?_, by omega, by rw [if_neg (by omega)], a3, ⟨fun _ _ _ => rfl, fun _ _ => rfl⟩, a6⟩
      unfold F_X10_remembers
      rw [if_neg (show ¬ R.1 0 3 = (8 : Int32) from by rw [a3]; exact fun e => hn ((nI_eq (a := n) (b := 8) (by omega) (by decide)).mp e))]
  obtain ⟨R1, g1, g2, g3, g4, g5⟩ := rem50 (N := N) (n := n0) (by omega) f2 f4
  refine ⟨M2, R1, fX, f1.trans g1, ⟨⟨n0 + 1, (nx + 1) % 8, by omega, Nat.mod_lt _ (by decide), g4, by rw [z3, f3], z4, fun j hj => ?_⟩, ?_, ht.cong (by rw [z1 1473 (by omega), (c3 1473 (by omega)).1]) ((z1 1474 (by omega)).trans (c3 1474 (by omega)).1) ((g3 10 (by omega)).trans (f5.2 10 (by omega))) ((g2 5 (by omega) (by omega)).trans (f5.1 5 (by omega) (by omega))), hl.cong (by rw [z1 1470 (by omega), (c3 1470 (by omega)).1]; exact ⟨rfl, rfl, rfl⟩) ⟨(g3 7 (by omega)).trans (f5.2 7 (by omega)), (g3 8 (by omega)).trans (f5.2 8 (by omega)), (g3 11 (by omega)).trans (f5.2 11 (by omega))⟩⟩, fun k hk => ⟨(z1 k (by omega)).trans (c3 k (by omega)).1, by rw [z2]; exact (c3 k (by omega)).2⟩, fun p h1 h2 => (g2 p h1 h2).trans (f5.1 p h1 h2), fun s hs => (g3 s hs).trans (f5.2 s hs)⟩
  · have hlt : ((nx + 1) % 8 + 8 - (n0 + 1) + j) % 8 < 8 := Nat.mod_lt _ (by decide)
    by_cases hjn : j = n0
    · subst hjn
      have ej : ((nx + 1) % 8 + 8 - (j + 1) + j) % 8 = nx := by omega
      rw [ej]
      refine ⟨G0, B0, ?_⟩
      have h9 : DS M1 (294 + 147 * nx) (R.1 1) G0 B0 := hd0.copied c1 c2
      exact h9.cong (fun k hk => z1 _ (by omega)) (fun k hk => by rw [z2]) (fun i hi => by rw [g5, if_pos (by omega), f5.1 1 (by omega) (by omega)]; exact congrArg (R.1 1) (by omega))
    · obtain ⟨G, B, hd⟩ := f6 j (by omega)
      have ej : ((nx + 1) % 8 + 8 - (n0 + 1) + j) % 8 = (nx + 8 - n0 + j) % 8 := by omega
      have hne : (nx + 8 - n0 + j) % 8 ≠ nx := by omega
      rw [ej] at hlt ⊢
      exact ⟨G, B, hd.cong (fun k hk => (z1 _ (by omega)).trans (c3 _ (by omega)).1) (fun k hk => by rw [z2]; exact (c3 _ (by omega)).2) (fun i hi => by rw [g5, if_neg (by omega)])⟩
  · rcases hk with ⟨k1, k2⟩ | ⟨k1, k2, G, B, hd⟩
    · exact Or.inl ⟨by rw [z1 1470 (by omega), (c3 1470 (by omega)).1]; exact k1, ((g3 5 (by omega)).trans (f5.2 5 (by omega))).trans k2⟩
    · exact Or.inr ⟨by rw [z1 1470 (by omega), (c3 1470 (by omega)).1]; exact k1, ((g3 5 (by omega)).trans (f5.2 5 (by omega))).trans k2, G, B, hd.cong (fun k hk => (z1 _ (by omega)).trans (c3 _ (by omega)).1) (fun k hk => by rw [z2]; exact (c3 _ (by omega)).2) (fun i hi => by rw [g2 3 (by omega) (by omega), f5.1 3 (by omega) (by omega)])⟩
