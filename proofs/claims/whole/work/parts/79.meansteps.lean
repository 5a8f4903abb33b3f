/-! meanSteps -/
def cntF (G : Nat → Nat) (f n : Nat) : Nat := cntN (fun k => decide (G (579 + 44 * k) = f)) n
def sumF (G : Nat → Nat) (f n : Nat) : Nat := sumN (fun k => if G (579 + 44 * k) = f then allK G k else 0) n
theorem sumF_le {G : Nat → Nat} {B : Nat → Nat → Nat → Bool} (hg : GI G B) {f : Nat} : ∀ n, n ≤ G 3 → sumF G f n ≤ 200 * cntF G f n ∧ cntF G f n ≤ n
  | 0, _ => ⟨Nat.le_refl _, Nat.le_refl _⟩
  | n + 1, h => by
    obtain ⟨i1, i2⟩ := sumF_le hg (f := f) n (by omega)
    have h3 := (hg.step200 (k := n) (c := 0) (by omega) (by omega)).2
    show sumF G f n + (if G (579 + 44 * n) = f then allK G n else 0) ≤ 200 * (cntF G f n + (if decide (G (579 + 44 * n) = f) = true then 1 else 0)) ∧ cntF G f n + (if decide (G (579 + 44 * n) = f) = true then 1 else 0) ≤ n + 1
    by_cases q : G (579 + 44 * n) = f
    · rw [if_pos q, if_pos (decide_eq_true q)]
      omega
    · rw [if_neg q, if_neg (by rw [decide_eq_true_iff]; exact q)]
      omega
theorem DS.cntFo {N f : Nat} {M : xM} {r : Nat → Int32} {G : Nat → Nat} {B : Nat → Nat → Nat → Bool} (h : DS M 0 r G B) (hN : 30 ≤ N) (hf : f < 10) : F_X3_countCansOfFormula N 0 (nI f) M = some (M, nI (cntF G f (G 3))) := by
  have hg := h.2.2.2.2
  have hg3 : G 3 ≤ 20 := hg.1.2.2.2.1
  have hg2 : G 2 ≤ 10 := hg.1.2.2.1
  have m3 := h.n0.2.2.2.1.1
  have loop : ∀ n i, i ≤ G 3 → G 3 < n + i → L_X3_countCansOfFormula_4 N 0 n (nI f) (nI (cntF G f i)) (nI i) M = some (M, nI (cntF G f (G 3))) := by
    intro n
    induction n with
    | zero => intro i a1 a2; omega
    | succ n ih =>
      intro i a1 a2
      rw [L_X3_countCansOfFormula_4, m3]
      by_cases hi : i = G 3
      · rw [if_pos (nI_le (by omega) (by omega)), hi]
      · have q := ((hg.2.2.2.2 i (by omega)).1 (by omega)).1
        rw [if_neg (nI_ge (a := i) (by omega) (by omega)), ck_nI (by omega) (by decide), nI_clamp (by omega), h.m (loc_k i (by omega)).1 (vis_hi (by omega)) (p := 0 + 87 + 3 * i) (by omega)]
        have i2 := ih (i + 1) (by omega) (by omega)
        rw [show cntF G f (i + 1) = cntF G f i + (if decide (G (579 + 44 * i) = f) = true then 1 else 0) from rfl] at i2
        unfold L_X3_countCansOfFormula_28
        by_cases hq : G (579 + 44 * i) = f
        · rw [if_pos (congrArg nI hq), nI_1, xl_v, nI_1, xl_v]
          rw [if_pos (decide_eq_true hq)] at i2
          exact i2
        · rw [if_neg (fun e => hq ((nI_eq (by omega) (by omega)).mp e)), nI_1, xl_v]
          rw [if_neg (by rw [decide_eq_true_iff]; exact hq)] at i2
          exact i2
  exact loop N 0 (by omega) (by omega)
theorem DS.sumFo {N f : Nat} {M : xM} {r : Nat → Int32} {G : Nat → Nat} {B : Nat → Nat → Nat → Bool} (h : DS M 0 r G B) (hN : 30 ≤ N) (hf : f < 10) : F_X3_stepsInCansOfFormula N 0 (nI f) M = some (M, nI (sumF G f (G 3))) := by
  have hg := h.2.2.2.2
  have hg3 : G 3 ≤ 20 := hg.1.2.2.2.1
  have hg2 : G 2 ≤ 10 := hg.1.2.2.1
  have m3 := h.n0.2.2.2.1.1
  have loop : ∀ n i, i ≤ G 3 → G 3 < n + i → L_X3_stepsInCansOfFormula_4 N 0 n (nI f) (nI (sumF G f i)) (nI i) M = some (M, nI (sumF G f (G 3))) := by
    intro n
    induction n with
    | zero => intro i a1 a2; omega
    | succ n ih =>
      intro i a1 a2
      rw [L_X3_stepsInCansOfFormula_4, m3]
      by_cases hi : i = G 3
      · rw [if_pos (nI_le (by omega) (by omega)), hi]
      · have q := ((hg.2.2.2.2 i (by omega)).1 (by omega)).1
        rw [if_neg (nI_ge (a := i) (by omega) (by omega)), ck_nI (by omega) (by decide), ck_nI (by omega) (by decide), nI_clamp (by omega), h.m (loc_k i (by omega)).1 (vis_hi (by omega)) (p := 0 + 87 + 3 * i) (by omega)]
        have i2 := ih (i + 1) (by omega) (by omega)
        rw [show sumF G f (i + 1) = sumF G f i + (if G (579 + 44 * i) = f then allK G i else 0) from rfl] at i2
        unfold L_X3_stepsInCansOfFormula_37
        by_cases hq : G (579 + 44 * i) = f
        · rw [if_pos (congrArg nI hq), h.allS (by omega) (k := i) (by omega) (p := 0 + 87 + 3 * i) (by omega), xbd_some, nI_add, xl_v, nI_1, xl_v]
          rw [if_pos hq] at i2
          exact i2
        · rw [if_neg (fun e => hq ((nI_eq (by omega) (by omega)).mp e)), nI_1, xl_v]
          rw [if_neg hq] at i2
          exact i2
  exact loop N 0 (by omega) (by omega)
theorem meanR_ok {N f : Nat} {M R : xM} {G : Nat → Nat} {B : Nat → Nat → Nat → Bool} (h : DS M 0 (R.1 1) G B) (hN : 30 ≤ N) (hf : f < 10) : ∃ n, L_X10_meanSteps_22 N N (nI f) 0 0 0 R = L_X10_meanSteps_22 N (n + 1) (nI f) (nI (sumF G f (G 3))) (nI (cntF G f (G 3))) (nI (G 3)) R := by
  have hg := h.2.2.2.2
  have hg3 : G 3 ≤ 20 := hg.1.2.2.2.1
  have hg2 : G 2 ≤ 10 := hg.1.2.2.1
  have r3 : R.1 1 (3 : Int32).toNatClampNeg = nI (G 3) := h.n0.2.2.2.1.2
  have loop : ∀ n i, i ≤ G 3 → G 3 < n + i → ∃ m, L_X10_meanSteps_22 N n (nI f) (nI (sumF G f i)) (nI (cntF G f i)) (nI i) R = L_X10_meanSteps_22 N (m + 1) (nI f) (nI (sumF G f (G 3))) (nI (cntF G f (G 3))) (nI (G 3)) R := by
    intro n
    induction n with
    | zero => intro i a1 a2; omega
    | succ n ih =>
      intro i a1 a2
      by_cases hi : i = G 3
      · rw [hi]
        exact ⟨n, rfl⟩
      · have q := ((hg.2.2.2.2 i (by omega)).1 (by omega)).1
        obtain ⟨m, i2⟩ := ih (i + 1) (by omega) (by omega)
        refine ⟨m, ?_⟩
        rw [← i2, L_X10_meanSteps_22, r3, if_neg (nI_ge (a := i) (by omega) (by omega)), show F_X10_canAt N (nI i) 0 R = some (R, nI (G (579 + 44 * i))) from rdK (k := 0) h.2.2.1 (by omega) (by omega), xbd_some, show sumF G f (i + 1) = sumF G f i + (if G (579 + 44 * i) = f then allK G i else 0) from rfl, show cntF G f (i + 1) = cntF G f i + (if decide (G (579 + 44 * i) = f) = true then 1 else 0) from rfl]
        unfold L_X10_meanSteps_49 L_X10_meanSteps_67 L_X10_meanSteps_80
        by_cases hq : G (579 + 44 * i) = f
        · rw [if_pos (show (R, nI (G (579 + 44 * i))).2 = nI f from congrArg nI hq), if_neg (show ¬ (1 : Int32) = 0 from by decide), show F_X10_allIn N (nI i) (R, nI (G (579 + 44 * i))).1 = _ from allIn_ok (k := i) (by omega) h.2.2.1 (by omega), xbd_some, if_pos hq, if_pos (decide_eq_true hq), nI_add, xl_v, if_neg (show ¬ (1 : Int32) = 0 from by decide), nI_1, xl_v, nI_1, xl_v]
        · rw [if_neg (show ¬ (R, nI (G (579 + 44 * i))).2 = nI f from fun e => hq ((nI_eq (by omega) (by omega)).mp e)), if_pos (show (0 : Int32) = 0 from rfl), if_neg hq, if_neg (by rw [decide_eq_true_iff]; exact hq), show nI (sumF G f i) + 0 = nI (sumF G f i + 0) from nI_add _ 0, xl_v, if_pos (show (0 : Int32) = 0 from rfl), show nI (cntF G f i) + 0 = nI (cntF G f i + 0) from nI_add _ 0, xl_v, nI_1, xl_v]
  exact loop N 0 (by omega) (by omega)
theorem o_31 {N : Nat} (hN : 12000 ≤ N) {v1 v2 v3 v4 v5 v6 : Int32} {M R : xM} (h : Rel M R) : ∃ q, zOp_31 N v1 v2 v3 v4 v5 v6 M R = some q ∧ Rel q.1 q.2 := by
  obtain ⟨⟨G, B, hd⟩, hx⟩ := id h
  obtain ⟨-, -, ⟨m2, r2⟩, -⟩ := hd.n0
  have hg := hd.2.2.2.2
  have hb := hg.1
  have r3 : R.1 1 (3 : Int32).toNatClampNeg = nI (G 3) := hd.n0.2.2.2.1.2
  rcases zFor (N := N) (n := G 2) (by omega) m2 r2 v1 with ⟨f, hf, rfl, e1, e2⟩ | ⟨e1, e2⟩
  · have hf10 : f < 10 := by omega
    obtain ⟨s1, s2⟩ := sumF_le hg (f := f) (G 3) (Nat.le_refl _)
    obtain ⟨n, hn⟩ := meanR_ok (N := N) hd (by omega) hf10
    rw [L_X10_meanSteps_22, r3, if_pos (nI_le (Nat.le_refl _) (by omega))] at hn
    by_cases h0 : cntF G f (G 3) = 0
    · refine ⟨(M, xSL (xS R 0 (upd (R.1 0) 0 2)) 5000 (fun _ => FP.dconst0.toInt64)), ?_, h.thrown (x := 2)⟩
      rw [h0, if_pos (show nI 0 = (0 : Int32) from rfl)] at hn
      unfold zOp_31 F_L_meanSteps F_X9_meanSteps F_X10_meanSteps
      rw [e1, xbd_some, xth_inl, hd.cntFo (by omega) hf10, xbd_some, h0, xl_v, if_pos (show nI 0 = (0 : Int32) from rfl), xbd_some]
      rw [e2, xbd_some, if_neg i1n, show L_X10_meanSteps_22 N N (nI f) 0 0 0 (R, (1 : Int32)).1 = _ from hn]
      show (if (xS R 0 (upd (R.1 0) 0 2)).1 0 0 = 2 then some (M, xSL (xS R 0 (upd (R.1 0) 0 2)) 5000 (fun _ => FP.dconst0.toInt64)) else none) = _
      rw [if_pos xS_in]
    · have hc : ¬ nI (cntF G f (G 3)) = 0 := nI_ne0 (by omega) (by omega)
      have hz := xnn_all (s := sumF G f (G 3)) (n := cntF G f (G 3)) (by omega) (by omega) s1
      obtain ⟨Z, hZ⟩ : ∃ Z, Z = FP.ddiv (FP.i2d (nI (sumF G f (G 3)))) (FP.i2d (nI (cntF G f (G 3)))) := ⟨_, rfl⟩
      rw [← hZ] at hz
      rw [if_neg hc, xl_v, ← hZ, hz, xck_t] at hn
      have z1 : ((xSL M 5000 (fun _ => Z.toInt64)).2 5000 0).toUInt64 = Z := xD_b
      obtain ⟨M1, hM1⟩ : ∃ M1, M1 = xSL (xSL M 5000 (fun _ => Z.toInt64)) 1482 (vp_updL ((xSL M 5000 (fun _ => Z.toInt64)).2 1482) (0 : Int32).toNatClampNeg Z.toInt64) := ⟨_, rfl⟩
      obtain ⟨R1, hR1⟩ : ∃ R1, R1 = xSL (xS R 0 (upd (R.1 0) 0 0)) 5000 (fun _ => Z.toInt64) := ⟨_, rfl⟩
      have z2 : (M1.2 1482 (0 : Int32).toNatClampNeg).toUInt64 = Z := by
        rw [hM1]
        show ((if (1482 : Nat) = 1482 then vp_updL ((xSL M 5000 (fun _ => Z.toInt64)).2 1482) (0 : Int32).toNatClampNeg Z.toInt64 else (xSL M 5000 (fun _ => Z.toInt64)).2 1482) (0 : Int32).toNatClampNeg).toUInt64 = Z
        rw [if_pos rfl, pk_uLs]
        exact UInt64.toUInt64_toInt64 Z
      have z3 : (R1.2 5000 0).toUInt64 = Z := by rw [hR1]; exact xD_b
      have z4 : R1.1 0 0 = 0 := by rw [hR1]; exact xS_in (M := R) (k := 0) (s := 0) (x := 0)
      refine ⟨(M1, R1), ?_, ?_⟩
      · unfold zOp_31 F_L_meanSteps F_X9_meanSteps F_X10_meanSteps
        rw [e1, xbd_some, xth_inl, hd.cntFo (by omega) hf10, xbd_some, xl_v, if_neg hc, show F_X3_stepsInCansOfFormula N 0 (nI f) (M, nI (cntF G f (G 3))).1 = _ from hd.sumFo (by omega) hf10, xbd_some]
        dsimp only
        rw [← hZ, hz, xck_t, xbd_some]
        show xbd (xl (xSL (xSL M 5000 (fun _ => Z.toInt64)) 1482 (vp_updL ((xSL M 5000 (fun _ => Z.toInt64)).2 1482) (0 : Int32).toNatClampNeg (((xSL M 5000 (fun _ => Z.toInt64)).2 5000 0).toUInt64).toInt64)) (fun (M6 : xM) => some (M6, 0))) _ = _
        rw [z1, ← hM1, xl_v, xbd_some, e2, xbd_some, if_neg i1n, show L_X10_meanSteps_22 N N (nI f) 0 0 0 (R, (1 : Int32)).1 = some (R1, 0) from by rw [hR1]; exact hn, xbd_some]
        show (if R1.1 0 0 = 0 then (if (0 : Int32) = 0 then (if (Op.cmpValue (FP.dcmp ((M1.2 1482 (0 : Int32).toNatClampNeg).toUInt64) ((R1.2 5000 0).toUInt64)) .l) = 0 then some (M1, R1) else (if (Op.cmpValue (FP.dcmp ((M1.2 1482 (0 : Int32).toNatClampNeg).toUInt64) ((M1.2 1482 (0 : Int32).toNatClampNeg).toUInt64)) .l) = 0 then none else (if (Op.cmpValue (FP.dcmp ((R1.2 5000 0).toUInt64) ((R1.2 5000 0).toUInt64)) .l) = 0 then none else some (M1, R1)))) else some (M1, R1)) else none) = some (M1, R1)
        rw [if_pos z4, if_pos rfl, z2, z3]
        by_cases q : (Op.cmpValue (FP.dcmp Z Z) .l) = 0
        · rw [if_pos q]
        · rw [if_neg q, if_neg q, if_neg q]
      · rw [hM1, hR1]
        have h9 : Rel M (xSL (xS R 0 (upd (R.1 0) 0 0)) 5000 (fun _ => Z.toInt64)) := h.thrown (x := 0)
        obtain ⟨⟨G', B', hd'⟩, hx'⟩ := h9
        have e : ∀ k, k < 1480 → (xSL (xSL M 5000 (fun _ => Z.toInt64)) 1482 (vp_updL ((xSL M 5000 (fun _ => Z.toInt64)).2 1482) (0 : Int32).toNatClampNeg Z.toInt64)).2 k = M.2 k := fun k hk => (if_neg (by omega)).trans (if_neg (by omega))
        exact ⟨⟨G', B', hd'.cong (fun k hk => rfl) (fun k hk => e _ (by omega)) (fun i hi => rfl)⟩, hx'.cong ⟨fun k a b => rfl, fun k a b => e _ (by omega)⟩ sameR.rf⟩
  · refine ⟨(M, xSL (xS R 0 (upd (R.1 0) 0 1)) 5000 (fun _ => FP.dconst0.toInt64)), ?_, h.thrown (x := 1)⟩
    unfold zOp_31 F_L_meanSteps F_X9_meanSteps F_X10_meanSteps
    rw [e1, e2]
    show (if (xS R 0 (upd (R.1 0) 0 1)).1 0 0 = 1 then some (M, xSL (xS R 0 (upd (R.1 0) 0 1)) 5000 (fun _ => FP.dconst0.toInt64)) else none) = _
    rw [if_pos xS_in]
