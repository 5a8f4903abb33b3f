/-! the reference's copies, save -/
theorem L_copy {N k0 n0 k2 n2 o1 o2 : Nat} {R : xM} (hk : k0 ≠ k2) (h1 : o1 + 1460 ≤ n0) (h2 : o2 + 1460 ≤ n2) (b0 : n0 < 20000) (b2 : n2 < 20000) : ∀ (n i : Nat) (R0 : xM), i ≤ 1460 → 1460 < n + i → R0.2 = R.2 → (∀ p, p ≠ k2 → R0.1 p = R.1 p) → (∀ j, R0.1 k2 j = if o2 ≤ j ∧ j < o2 + i then R.1 k0 (o1 + (j - o2)) else R.1 k2 j) →
    ∃ R1, L_X10_copy_3 N k0 n0 k2 n2 n (nI o1) (nI o2) (nI i) R0 = some (R1, 0) ∧ R1.2 = R.2 ∧ (∀ p, p ≠ k2 → R1.1 p = R.1 p) ∧ ∀ j, R1.1 k2 j = if o2 ≤ j ∧ j < o2 + 1460 then R.1 k0 (o1 + (j - o2)) else R.1 k2 j := by
  intro n
  induction n with
  | zero => intro i R0 a1 a2; omega
  | succ n ih =>
    intro i R0 a1 a2 e1 e2 e3
    rw [L_X10_copy_3]
    by_cases hi : i = 1460
    · subst hi
      rw [if_pos (show (1460 : Int32) ≤ nI 1460 from by decide)]
      exact ⟨R0, rfl, e1, e2, e3⟩
    · rw [if_neg (show ¬ (1460 : Int32) ≤ nI i from nI_ge (a := i) (b := 1460) (by omega) (by decide)), nI_add, nI_add, ck_nI (by omega) (by omega), ck_nI (by omega) (by omega), nI_clamp (by omega), nI_clamp (by omega), xl_v, xl_v, nI_1]
      refine ih (i + 1) _ (by omega) (by omega) e1 (fun p hp => (xS_ne hp).trans (e2 p hp)) (fun j => ?_)
      rw [xS_at]
      by_cases hj : j = o2 + i
      · subst hj
        rw [pk_us, if_pos ⟨by omega, by omega⟩, e2 _ hk]
        exact congrArg (R.1 k0) (by omega)
      · rw [pk_un hj, e3]
        by_cases hc : o2 ≤ j ∧ j < o2 + i
        · rw [if_pos hc, if_pos ⟨hc.1, by omega⟩]
        · rw [if_neg hc, if_neg (fun q => hc ⟨q.1, by omega⟩)]
theorem rcopy {N k0 n0 k2 n2 o1 o2 : Nat} {R : xM} (hN : 2000 ≤ N) (hk : k0 ≠ k2) (h1 : o1 + 1460 ≤ n0) (h2 : o2 + 1460 ≤ n2) (b0 : n0 < 20000) (b2 : n2 < 20000) : ∃ R1, F_X10_copy N k0 n0 k2 n2 (nI o1) (nI o2) R = some (R1, 0) ∧ R1.2 = R.2 ∧ (∀ p, p ≠ k2 → R1.1 p = R.1 p) ∧ ∀ j, R1.1 k2 j = if o2 ≤ j ∧ j < o2 + 1460 then R.1 k0 (o1 + (j - o2)) else R.1 k2 j :=
  L_copy hk h1 h2 b0 b2 N 0 R (by omega) (by omega) rfl (fun _ _ => rfl) (fun j => by rw [if_neg (by omega)])
theorem HI.cong {M M1 R R1 : xM} (h : HI M R) (h1 : ∀ k, 294 ≤ k → k < 1470 → M1.1 k = M.1 k ∧ M1.2 k = M.2 k) (h2 : M1.1 1471 = M.1 1471) (h3 : R1.1 2 = R.1 2) (h4 : R1.1 0 3 = R.1 0 3) : HI M1 R1 := by
  obtain ⟨n, nx, a1, a2, a3, a4, a5, a6⟩ := h
  refine ⟨n, nx, a1, a2, h4.trans a3, by rw [h2]; exact a4, by rw [h2]; exact a5, fun j hj => ?_⟩
  obtain ⟨G, B, hd⟩ := a6 j hj
  have hlt : (nx + 8 - n + j) % 8 < 8 := Nat.mod_lt _ (by decide)
  exact ⟨G, B, hd.cong (fun k hk => (h1 _ (by omega) (by omega)).1) (fun k hk => (h1 _ (by omega) (by omega)).2) (fun i hi => by rw [h3])⟩
theorem TI.cong {M M1 R R1 : xM} (h : TI M R) (h1 : M1.1 1473 1 = M.1 1473 1) (h2 : M1.1 1474 = M.1 1474) (h3 : R1.1 0 10 = R.1 0 10) (h4 : R1.1 5 = R.1 5) : TI M1 R1 := by
  obtain ⟨t, a1, a2, a3, a4⟩ := h
  exact ⟨t, a1, h1.trans a2, h3.trans a3, fun i hi => by rw [h2, h4]; exact a4 i hi⟩
theorem LI.cong {M M1 R R1 : xM} (h : LI M R) (h1 : M1.1 1470 5 = M.1 1470 5 ∧ M1.1 1470 6 = M.1 1470 6 ∧ M1.1 1470 7 = M.1 1470 7) (h2 : R1.1 0 7 = R.1 0 7 ∧ R1.1 0 8 = R.1 0 8 ∧ R1.1 0 11 = R.1 0 11) : LI M1 R1 := by
  obtain ⟨a1, a2, a3⟩ := h
  exact ⟨by rw [h1.1, h2.2.2]; exact a1, by rw [h1.2.1, h2.1]; exact a2, fun e => by rw [h1.2.2, h2.2.1]; exact a3 (h2.1.symm.trans e)⟩
theorem xS_f {M : xM} {k s j : Nat} {x : Int32} (h : j ≠ s) : (xS M k (upd (M.1 k) s x)).1 k j = M.1 k j := (congrFun xS_at _).trans (pk_un h)
theorem o_34 {N : Nat} (hN : 2000 ≤ N) {v1 v2 v3 v4 v5 v6 : Int32} {M R : xM} (h : Rel M R) : ∃ q, zOp_34 N v1 v2 v3 v4 v5 v6 M R = some q ∧ Rel q.1 q.2 := by
  obtain ⟨⟨G, B, hd⟩, hh, hk, ht, hl⟩ := h
  obtain ⟨M1, e1, c1, c2, c3⟩ := copyFrom_ok (N := N) (a := 147) (b := 0) (M := M) (by omega) (by omega)
  obtain ⟨R1, e2, d1, d2, d3⟩ := rcopy (N := N) (k0 := 1) (n0 := 1460) (k2 := 3) (n2 := 1460) (o1 := 0) (o2 := 0) (R := R) hN (by omega) (by omega) (by omega) (by omega) (by omega)
  have e2 : F_X10_copy N 1 1460 3 1460 0 0 R = some (R1, 0) := e2
  refine ⟨(xS M1 1470 (upd (M1.1 1470) 2 1), xS (xS R1 0 (upd (R1.1 0) 5 1)) 0 (upd ((xS R1 0 (upd (R1.1 0) 5 1)).1 0) 0 0)), ?_, ?_⟩
  · unfold zOp_34 F_X9_save F_X10_save
    rw [e1, e2]
    rfl
  · have m1 : ∀ k, k ≠ 1470 → (k < 147 ∨ 294 ≤ k) → (xS M1 1470 (upd (M1.1 1470) 2 1)).1 k = M.1 k ∧ (xS M1 1470 (upd (M1.1 1470) 2 1)).2 k = M.2 k := fun k h1 h2 => ⟨(xS_ne h1).trans (c3 k (by omega)).1, (c3 k (by omega)).2⟩
    have m2 : ∀ s, s ≠ 2 → (xS M1 1470 (upd (M1.1 1470) 2 1)).1 1470 s = M.1 1470 s := fun s hs => (xS_f hs).trans (congrFun (c3 1470 (by omega)).1 s)
    have r1 : ∀ k, k ≠ 0 → k ≠ 3 → (xS (xS R1 0 (upd (R1.1 0) 5 1)) 0 (upd ((xS R1 0 (upd (R1.1 0) 5 1)).1 0) 0 0)).1 k = R.1 k := fun k h1 h2 => (xS_ne h1).trans ((xS_ne h1).trans (d2 k h2))
    have r3 : ∀ j, j < 1460 → (xS (xS R1 0 (upd (R1.1 0) 5 1)) 0 (upd ((xS R1 0 (upd (R1.1 0) 5 1)).1 0) 0 0)).1 3 j = R.1 1 j := fun j hj => by
      rw [xS_ne (by omega), xS_ne (by omega), d3 j, if_pos ⟨by omega, by omega⟩]
      exact congrArg (R.1 1) (by omega)
    have r0 : ∀ s, s ≠ 0 → s ≠ 5 → (xS (xS R1 0 (upd (R1.1 0) 5 1)) 0 (upd ((xS R1 0 (upd (R1.1 0) 5 1)).1 0) 0 0)).1 0 s = R.1 0 s := fun s h1 h2 => (xS_f h1).trans ((xS_f h2).trans (congrFun (d2 0 (by omega)) s))
    refine ⟨⟨G, B, hd.cong (fun k hk => (m1 _ (by omega) (by omega)).1) (fun k hk => (m1 _ (by omega) (by omega)).2) (fun i hi => by rw [r1 1 (by omega) (by omega)])⟩, hh.cong (fun k k1 k2 => m1 k (by omega) (by omega)) (m1 _ (by omega) (by omega)).1 (r1 2 (by omega) (by omega)) (r0 3 (by omega) (by omega)), Or.inr ⟨xS_in, (xS_f (by omega)).trans xS_in, G, B, ?_⟩, ht.cong (by rw [(m1 1473 (by omega) (by omega)).1]) (m1 1474 (by omega) (by omega)).1 (r0 10 (by omega) (by omega)) (r1 5 (by omega) (by omega)), hl.cong ⟨m2 5 (by omega), m2 6 (by omega), m2 7 (by omega)⟩ ⟨r0 7 (by omega) (by omega), r0 8 (by omega) (by omega), r0 11 (by omega) (by omega)⟩⟩
    have h9 : DS M1 147 (R.1 1) G B := hd.copied c1 c2
    exact h9.cong (fun k hk => xS_ne (by omega)) (fun k hk => rfl) (fun i hi => r3 i hi)
