/-! restore, undo -/
theorem o_35 {N : Nat} (hN : 2000 ≤ N) {v1 v2 v3 v4 v5 v6 : Int32} {M R : xM} (h : Rel M R) : ∃ q, zOp_35 N v1 v2 v3 v4 v5 v6 M R = some q ∧ Rel q.1 q.2 := by
  have h' := h
  obtain ⟨⟨G0, B0, hd0⟩, hh, hk, ht, hl⟩ := h
  rcases hk with ⟨k1, k2⟩ | ⟨k1, k2, G, B, hd⟩
  · refine ⟨(M, xS R 0 (upd (R.1 0) 0 1)), ?_, h'.thrown⟩
    unfold zOp_35 F_L_restore F_X9_restore F_X10_restore
    rw [if_pos k1, if_pos k2]
    show (if (xS R 0 (upd (R.1 0) 0 1)).1 0 0 = 1 then some (M, xS R 0 (upd (R.1 0) 0 1)) else none) = _
    rw [if_pos xS_in]
  · obtain ⟨M1, e1, c1, c2, c3⟩ := copyFrom_ok (N := N) (a := 0) (b := 147) (M := M) (by omega) (by omega)
    obtain ⟨R1, e2, d1, d2, d3⟩ := rcopy (N := N) (k0 := 3) (n0 := 1460) (k2 := 1) (n2 := 1460) (o1 := 0) (o2 := 0) (R := R) hN (by omega) (by omega) (by omega) (by omega) (by omega)
    have e2 : F_X10_copy N 3 1460 1 1460 0 0 R = some (R1, 0) := e2
    refine ⟨(xS M1 1471 (upd (M1.1 1471) 1 0), xS (xS R1 0 (upd (R1.1 0) 3 0)) 0 (upd ((xS R1 0 (upd (R1.1 0) 3 0)).1 0) 0 0)), ?_, ?_⟩
    · unfold zOp_35 F_L_restore F_X9_restore F_X10_restore
      rw [if_neg (by rw [k1]; decide), if_neg (by rw [k2]; decide), e1, e2]
      show (if (xS (xS R1 0 (upd (R1.1 0) 3 0)) 0 (upd ((xS R1 0 (upd (R1.1 0) 3 0)).1 0) 0 0)).1 0 0 = 0 then some (xS M1 1471 (upd (M1.1 1471) 1 0), xS (xS R1 0 (upd (R1.1 0) 3 0)) 0 (upd ((xS R1 0 (upd (R1.1 0) 3 0)).1 0) 0 0)) else none) = _
      rw [if_pos xS_in]
    · have m1 : ∀ k, k ≠ 1471 → 147 ≤ k → (xS M1 1471 (upd (M1.1 1471) 1 0)).1 k = M.1 k ∧ (xS M1 1471 (upd (M1.1 1471) 1 0)).2 k = M.2 k := fun k h1 h2 => ⟨(xS_ne h1).trans (c3 k (by omega)).1, (c3 k (by omega)).2⟩
      have m2 : ∀ s, s ≠ 1 → (xS M1 1471 (upd (M1.1 1471) 1 0)).1 1471 s = M.1 1471 s := fun s hs => (xS_f hs).trans (congrFun (c3 1471 (by omega)).1 s)
      have r1 : ∀ k, k ≠ 0 → k ≠ 1 → (xS (xS R1 0 (upd (R1.1 0) 3 0)) 0 (upd ((xS R1 0 (upd (R1.1 0) 3 0)).1 0) 0 0)).1 k = R.1 k := fun k h1 h2 => (xS_ne h1).trans ((xS_ne h1).trans (d2 k h2))
      have r3 : ∀ j, j < 1460 → (xS (xS R1 0 (upd (R1.1 0) 3 0)) 0 (upd ((xS R1 0 (upd (R1.1 0) 3 0)).1 0) 0 0)).1 1 j = R.1 3 j := fun j hj => by
        rw [xS_ne (by omega), xS_ne (by omega), d3 j, if_pos ⟨by omega, by omega⟩]
        exact congrArg (R.1 3) (by omega)
      have r0 : ∀ s, s ≠ 0 → s ≠ 3 → (xS (xS R1 0 (upd (R1.1 0) 3 0)) 0 (upd ((xS R1 0 (upd (R1.1 0) 3 0)).1 0) 0 0)).1 0 s = R.1 0 s := fun s h1 h2 => (xS_f h1).trans ((xS_f h2).trans (congrFun (d2 0 (by omega)) s))
      obtain ⟨n, nx, a1, a2, a3, a4, a5, a6⟩ := hh
      refine ⟨⟨G, B, ?_⟩, ⟨0, nx, by omega, a2, (xS_f (by omega)).trans xS_in, xS_in, (m2 2 (by omega)).trans a5, fun j hj => absurd hj (Nat.not_lt_zero j)⟩, Or.inr ⟨by rw [(m1 1470 (by omega) (by omega)).1]; exact k1, (r0 5 (by omega) (by omega)).trans k2, G, B, hd.cong (fun k hk => (m1 _ (by omega) (by omega)).1) (fun k hk => (m1 _ (by omega) (by omega)).2) (fun i hi => by rw [r1 3 (by omega) (by omega)])⟩, ht.cong (by rw [(m1 1473 (by omega) (by omega)).1]) (m1 1474 (by omega) (by omega)).1 (r0 10 (by omega) (by omega)) (r1 5 (by omega) (by omega)), hl.cong (by rw [(m1 1470 (by omega) (by omega)).1]; exact ⟨rfl, rfl, rfl⟩) ⟨r0 7 (by omega) (by omega), r0 8 (by omega) (by omega), r0 11 (by omega) (by omega)⟩⟩
      have h9 : DS M1 0 (R.1 3) G B := hd.copied c1 c2
      exact h9.cong (fun k hk => xS_ne (by omega)) (fun k hk => rfl) (fun i hi => r3 i hi)
theorem o_33 {N : Nat} (hN : 2000 ≤ N) {v1 v2 v3 v4 v5 v6 : Int32} {M R : xM} (h : Rel M R) : ∃ q, zOp_33 N v1 v2 v3 v4 v5 v6 M R = some q ∧ Rel q.1 q.2 := by
  refine zAgr (hd := fun (M8 : xM) (E : String) => if E = "java/lang/IllegalStateException" then some (M8, 1) else none) ?_
  have h' := h
  obtain ⟨⟨G0, B0, hd0⟩, ⟨n, nx, a1, a2, a3, a4, a5, a6⟩, hk, ht, hl⟩ := h
  cases n with
  | zero =>
    refine Agr.no (E := "java/lang/IllegalStateException") (k := 1) (w := 0) h' rfl (by decide) ?_ ?_
    · unfold F_X9_undo; rw [a4]; rfl
    · unfold F_X10_undo; rw [a3]; rfl
  | succ n =>
    obtain ⟨G, B, hd⟩ := a6 n (by omega)
    have ei : (nx + 8 - (n + 1) + n) % 8 = (nx + 7) % 8 := by omega
    rw [ei] at hd
    obtain ⟨M0, hM0⟩ : ∃ M0, M0 = xS (xS M 1471 (upd (M.1 1471) 2 (nI ((nx + 7) % 8)))) 1471 (upd ((xS M 1471 (upd (M.1 1471) 2 (nI ((nx + 7) % 8)))).1 1471) 1 (nI n)) := ⟨_, rfl⟩
    have z1 : ∀ k, k ≠ 1471 → M0.1 k = M.1 k := fun k hk => by rw [hM0]; exact (xS_ne hk).trans (xS_ne hk)
    have z2 : M0.2 = M.2 := by rw [hM0]; rfl
    have z3 : M0.1 1471 1 = nI n := by rw [hM0]; exact xS_in
    have z4 : M0.1 1471 2 = nI ((nx + 7) % 8) := by rw [hM0]; exact (xS_f (by omega)).trans xS_in
    have hx8 : (nx + 7) % 8 < 8 := Nat.mod_lt _ (by decide)
    obtain ⟨M1, e1, c1, c2, c3⟩ := copyFrom_ok (N := N) (a := 0) (b := 294 + 147 * ((nx + 7) % 8)) (M := M0) (by omega) (by omega)
    obtain ⟨R0, hR0⟩ : ∃ R0, R0 = xS R 0 (upd (R.1 0) 3 (nI n)) := ⟨_, rfl⟩
    obtain ⟨R1, e2, d1, d2, d3⟩ := rcopy (N := N) (k0 := 2) (n0 := 11680) (k2 := 1) (n2 := 1460) (o1 := n * 1460) (o2 := 0) (R := R0) hN (by omega) (by omega) (by omega) (by omega) (by omega)
    have e2 : F_X10_copy N 2 11680 1 1460 (nI (n * 1460)) 0 R0 = some (R1, 0) := e2
    have y3 : R0.1 0 3 = nI n := by rw [hR0]; exact xS_in
    have y0 : ∀ s, s ≠ 3 → R0.1 0 s = R.1 0 s := fun s hs => by rw [hR0]; exact xS_f hs
    have y1 : ∀ k, k ≠ 0 → R0.1 k = R.1 k := fun k hk => by rw [hR0]; exact xS_ne hk
    have w3 : R1.1 0 3 = nI n := (congrFun (d2 0 (by omega)) 3).trans y3
    have w4 : M1.1 1471 1 = nI n := (congrFun (c3 1471 (by omega)).1 1).trans z3
    have fX : F_X9_undo N M = some (M1, Sum.inl (nI n)) := by
      unfold F_X9_undo F_X6_giveBack
      rw [a4, if_neg (nI_ne0 (by omega) (by omega)), a5]
      have q1 : ((nI nx + 8) - 1) - ((nI nx + 8) - 1) / 8 * 8 = nI ((nx + 7) % 8) := by
        have q2 : (nI nx + 8) - 1 = nI (nx + 7) := by
          show nI nx + nI 8 - nI 1 = _
          rw [nI_add, pk_sub (by omega), show nx + 8 - 1 = nx + 7 by omega]
        rw [q2]
        exact pk_rem (d := 8) (by omega) (by decide) (by decide)
      rw [q1, xl_v, xl_v]
      have q3 : (xS M 1471 (upd (M.1 1471) 2 (nI ((nx + 7) % 8)))).1 1471 1 - 1 = nI n := by
        rw [xS_f (by omega), a4]
        exact nI_pred n
      rw [q3, ← hM0, z4, ck_nI hx8 (by decide), nI_clamp (by omega), e1, xbd_some, xbd_some, w4]
    have fR : F_X10_undo N R = some (xS R1 0 (upd (R1.1 0) 0 0), nI n) := by
      unfold F_X10_undo
      rw [a3, if_neg (nI_ne0 (by omega) (by omega)), nI_pred, xl_v, ← hR0, y3, show nI n * 1460 = nI (n * 1460) from pk_mul n 1460, e2, xbd_some, w3]
      rfl
    refine Or.inl ⟨M1, _, nI n, fX, fR, xS_in, ?_⟩
    have m1 : ∀ k, k ≠ 1471 → 147 ≤ k → M1.1 k = M.1 k ∧ M1.2 k = M.2 k := fun k h1 h2 => ⟨(c3 k (by omega)).1.trans (z1 k h1), (c3 k (by omega)).2.trans (by rw [z2])⟩
    have r1 : ∀ k, k ≠ 0 → k ≠ 1 → (xS R1 0 (upd (R1.1 0) 0 0)).1 k = R.1 k := fun k h1 h2 => (xS_ne h1).trans ((d2 k h2).trans (y1 k h1))
    have r0 : ∀ s, s ≠ 0 → s ≠ 3 → (xS R1 0 (upd (R1.1 0) 0 0)).1 0 s = R.1 0 s := fun s h1 h2 => (xS_f h1).trans ((congrFun (d2 0 (by omega)) s).trans (y0 s h2))
    have r3 : ∀ j, j < 1460 → (xS R1 0 (upd (R1.1 0) 0 0)).1 1 j = R.1 2 (1460 * n + j) := fun j hj => by
      rw [xS_ne (by omega), d3 j, if_pos ⟨by omega, by omega⟩, y1 2 (by omega)]
      exact congrArg (R.1 2) (by omega)
    refine ⟨⟨G, B, ?_⟩, ⟨n, (nx + 7) % 8, by omega, hx8, (xS_f (by omega)).trans w3, w4, (congrFun (c3 1471 (by omega)).1 2).trans z4, fun j hj => ?_⟩, ?_, ht.cong (by rw [(m1 1473 (by omega) (by omega)).1]) (m1 1474 (by omega) (by omega)).1 (r0 10 (by omega) (by omega)) (r1 5 (by omega) (by omega)), hl.cong (by rw [(m1 1470 (by omega) (by omega)).1]; exact ⟨rfl, rfl, rfl⟩) ⟨r0 7 (by omega) (by omega), r0 8 (by omega) (by omega), r0 11 (by omega) (by omega)⟩⟩
    · have h8 : DS M0 (294 + 147 * ((nx + 7) % 8)) (fun i => R.1 2 (1460 * n + i)) G B := hd.cong (fun k hk => z1 _ (by omega)) (fun k hk => by rw [z2]) (fun i hi => rfl)
      have h9 : DS M1 0 (fun i => R.1 2 (1460 * n + i)) G B := h8.copied c1 c2
      exact h9.cong (fun k hk => rfl) (fun k hk => rfl) (fun i hi => r3 i hi)
    · obtain ⟨G9, B9, hd9⟩ := a6 j (by omega)
      have ej : (nx + 8 - (n + 1) + j) % 8 = ((nx + 7) % 8 + 8 - n + j) % 8 := by omega
      rw [ej] at hd9
      have hlt : ((nx + 7) % 8 + 8 - n + j) % 8 < 8 := Nat.mod_lt _ (by decide)
      exact ⟨G9, B9, hd9.cong (fun k hk => (m1 _ (by omega) (by omega)).1) (fun k hk => (m1 _ (by omega) (by omega)).2) (fun i hi => by rw [r1 2 (by omega) (by omega)])⟩
    · rcases hk with ⟨k1, k2⟩ | ⟨k1, k2, G9, B9, hd9⟩
      · exact Or.inl ⟨by rw [(m1 1470 (by omega) (by omega)).1]; exact k1, (r0 5 (by omega) (by omega)).trans k2⟩
      · exact Or.inr ⟨by rw [(m1 1470 (by omega) (by omega)).1]; exact k1, (r0 5 (by omega) (by omega)).trans k2, G9, B9, hd9.cong (fun k hk => (m1 _ (by omega) (by omega)).1) (fun k hk => (m1 _ (by omega) (by omega)).2) (fun i hi => by rw [r1 3 (by omega) (by omega)])⟩
