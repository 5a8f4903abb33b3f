/-! readFormula, whole -/
theorem o_11 {N : Nat} (hN : 12000 ≤ N) {v1 v2 v3 v4 v5 v6 : Int32} {M R : xM} (h : Rel M R) : ∃ q, zOp_11 N v1 v2 v3 v4 v5 v6 M R = some q ∧ Rel q.1 q.2 := by
  refine zAgr (hd := hF) ?_
  obtain ⟨⟨G, B, hd⟩, hx⟩ := id h
  obtain ⟨-, -, ⟨t, t1, t2, t3, t4⟩, -⟩ := hx
  have hg := hd.2.2.2.2
  have hb := hg.1
  obtain ⟨T, hTe⟩ : ∃ T : Nat → Nat, T = GR (R.1 5) := ⟨_, rfl⟩
  have hT : TT T t := ⟨t1, fun i hi => by
    obtain ⟨ch, c1, c2⟩ := (t4 i hi).2
    rw [hTe, GR_nI c2 (by omega)]
    exact c1⟩
  have r5 : ∀ i, i < t → R.1 5 i = nI (T i) := fun i _ => by rw [hTe, nI_GR]
  have m4 : ∀ i, i < t → M.1 1474 i = nI (T i) := fun i hi => (t4 i hi).1.trans (r5 i hi)
  obtain ⟨M1, R1, hj⟩ := jText (N := N) (by omega) hT t2 m4 t3 r5
  obtain ⟨R2, hR2⟩ : ∃ R2, R2 = xS R1 0 (upd (R1.1 0) 10 0) := ⟨_, rfl⟩
  -- what both leave
  have left : ∀ {p : Nat} {x bs w : Int32} {A A2 : Nat → Int32} {M3 R3 : xM}, PM T t M M1 p bs A → PR T t R R1 p w A2 → M3 = xS (xS M1 1470 (upd (M1.1 1470) 5 x)) 1473 (upd ((xS M1 1470 (upd (M1.1 1470) 5 x)).1 1473) 1 0) → R3 = xS R2 0 (upd (R2.1 0) 11 x) → Rel M3 R3 ∧ (∀ i, i < 10 → M3.1 1475 i = A i) ∧ M3.1 1473 3 = bs ∧ (∀ i, i < 10 → R3.1 6 i = A2 i) ∧ R3.1 0 13 = w ∧ M3.1 1470 5 = x := fun {p x bs w A A2 M3 R3} hM hR e1 e2 => by
    obtain ⟨⟨q1, q2⟩, q3, q4, q5, q6, q7, q8⟩ := hM
    obtain ⟨⟨s1, s2⟩, s3, s4, s5, s6, s7, s8⟩ := hR
    refine ⟨h.read (x := x) (by rw [e1]; exact q1) (fun k k1 k2 k3 => ?_) (fun s hs => ?_) ?_ ?_ (fun k k1 k2 => ?_) (fun s h1 h2 h3 h4 => ?_) ?_ ?_, fun i hi => ?_, ?_, fun i hi => ?_, ?_, ?_⟩
    · rw [e1, xS_ne k2, xS_ne k1, q2 k k2 k3]
    · rw [e1, xS_ne (by omega), xS_f hs, q2 1470 (by omega) (by omega)]
    · rw [e1, xS_ne (by omega)]; exact xS_in
    · rw [e1]; exact xS_in
    · rw [e2, xS_ne k1, hR2, xS_ne k1, s1 k k1 k2]
    · rw [e2, xS_f h2, hR2, xS_f h1, s2 s h3 h4]
    · rw [e2, xS_f (by omega), hR2]; exact xS_in
    · rw [e2]; exact xS_in
    · rw [e1, xS_ne (by omega), xS_ne (by omega)]; exact q6 i hi
    · rw [e1, xS_f (by omega), xS_ne (by omega)]; exact q5
    · rw [e2, xS_ne (by omega), hR2, xS_ne (by omega)]; exact s6 i hi
    · rw [e2, xS_f (by omega), hR2, xS_f (by omega)]; exact s5
    · rw [e1, xS_ne (by omega)]; exact xS_in
  rcases hj with ⟨f1, b, p, A, hb10, hA, g1, hM, hR⟩ | ⟨q, bs, v, A1, A2, f1, g1, hM, hR⟩
  · obtain ⟨M3, hM3⟩ : ∃ M3, M3 = xS (xS M1 1470 (upd (M1.1 1470) 5 (-1))) 1473 (upd ((xS M1 1470 (upd (M1.1 1470) 5 (-1))).1 1473) 1 0) := ⟨_, rfl⟩
    obtain ⟨R3, hR3⟩ : ∃ R3, R3 = xS R2 0 (upd (R2.1 0) 11 (-1)) := ⟨_, rfl⟩
    obtain ⟨h3, a1, a2, a3, a4, a5⟩ := left hM hR hM3 hR3
    have w2 : R2.1 0 13 = 0 := by rw [hR2, xS_f (by omega)]; exact hR.2.2.2.1
    have dsame : DS M3 0 (R3.1 1) G B := hd.cong (fun k hk => by rw [hM3, xS_ne (by omega), xS_ne (by omega), hM.1.2 _ (by omega) (by omega)]) (fun k hk => by rw [hM3]; exact congrFun hM.1.1 _) (fun i hi => by rw [hR3, xS_ne (by omega), hR2, xS_ne (by omega), hR.1.1 1 (by omega) (by omega)])
    have n0 := dsame.n0
    have fX : F_X9_readFormula N M = xbd (F_X3_whyNoFormula N 0 M3) (fun (r5 : xR) => xbd (F_X9_stopIfRefused N (r5.2) (-1) r5.1) (fun (r6 : xE) => xth r6 (fun (M7 : xM) (_ : Int32) => xbd (F_X6_keep N 0 M7) (fun (r9 : xR) => xbd (F_X3_makeFormula N 0 r9.1) (fun (r10 : xR) => some (r10.1, Sum.inl r10.2)))))) := by
      unfold F_X9_readFormula F_X5_empty
      rw [f1, xbd_some]
      dsimp only
      rw [xl_v, xl_v, ← hM3, xbd_some, if_pos (show (M3, (0 : Int32)).1.1 1470 5 = -1 from a5)]
    have fR : F_X10_readFormula N R = (if nI (G 1) ≤ nI b then L_X10_readFormula_65 N N (nI b) 0 (nI (G 0)) R3 else L_X10_readFormula_65 N N (nI b) 1 (nI (G 0)) R3) := by
      unfold F_X10_readFormula L_X10_readFormula_26 L_X10_readFormula_57
      rw [g1, xbd_some]
      dsimp only
      rw [xl_v, ← hR2, xl_v, if_pos w2, ← hR3, xl_v, if_pos a4, show R3.1 1 (1 : Int32).toNatClampNeg = nI (G 1) from n0.2.1.2, show R3.1 1 (0 : Int32).toNatClampNeg = nI (G 0) from n0.1.2, xl_v, xl_v]
    -- a refusal
    have ref : ∀ (w : Int32), ¬ w = 0 → (w = 5 → False) → F_X3_whyNoFormula N 0 M3 = some (M3, w) → F_X10_readFormula N R = xbd (F_X10_refuses N w 2 R3) (fun (r9 : xR) => some (r9.1, r9.2)) → Agr hF (F_X9_readFormula N M) (F_X10_readFormula N R) := fun w w0 w5 e1 e2 => by
      refine Or.inr ⟨_, xS (xS R3 0 (upd (R3.1 0) 7 w)) 0 (upd ((xS R3 0 (upd (R3.1 0) 7 w)).1 0) 0 2), "java/lang/UnsupportedOperationException", 2, 0, ?_, rfl, ?_, xS_in, by decide, (h3.refuse (w := w) (lk := -1) (R1 := xS R3 0 (upd (R3.1 0) 7 w)) (fun k hk => xS_ne hk) ⟨xS_f (by omega), xS_f (by omega), xS_f (by omega), xS_f (by omega)⟩ xS_in (fun e => absurd e w5)).thrown (x := 2)⟩
      · rw [fX, e1, xbd_some]
        dsimp only
        rw [refuse_ok w0]
        rfl
      · rw [e2]
        rfl
    by_cases hbn : G 1 ≤ b
    · refine ref 1 (by decide) (by decide) ?_ ?_
      · unfold F_X3_whyNoFormula
        rw [n0.2.1.1, a2, if_pos (nI_le hbn (by omega))]
      · rw [fR, if_pos (nI_le hbn (by omega)), nmR_0 a3 N (G 0) (by omega) (by omega)]
        show (if (0 : Int32) = 0 then _ else _) = _
        rw [if_pos rfl]
    · by_cases hnm : ∃ j, G 0 ≤ j ∧ j < 10 ∧ ¬ A j = -1
      · refine ref 1 (by decide) (by decide) ?_ ?_
        · unfold F_X3_whyNoFormula F_X5_namesFrom
          rw [n0.2.1.1, a2, if_neg (nI_ge (by omega) (by omega)), n0.1.1, nmM_some a1 N (G 0) (by omega) (by omega) hnm, xbd_some, if_neg (show ¬ (M3, (1 : Int32)).2 = 0 from by show ¬ (1 : Int32) = 0; decide)]
        · rw [fR, if_neg (nI_ge (by omega) (by omega)), nmR_some a3 N (G 0) (by omega) (by omega) hnm]
          show (if (0 : Int32) = 0 then _ else _) = _
          rw [if_pos rfl]
      · have hall : ∀ j, G 0 ≤ j → j < 10 → A j = -1 := fun j q1 q2 => by
          by_cases q : A j = -1
          · exact q
          · exact absurd ⟨j, q1, q2, q⟩ hnm
        have eW : F_X3_whyNoFormula N 0 M3 = (if nI (G 2) < (10 : Int32) then some (M3, 0) else some (M3, 2)) := by
          unfold F_X3_whyNoFormula F_X5_namesFrom
          rw [n0.2.1.1, a2, if_neg (nI_ge (by omega) (by omega)), n0.1.1, nmM_all a1 N (G 0) (by omega) (by omega) hall, xbd_some, if_pos (show (M3, (0 : Int32)).2 = 0 from rfl), show (M3, (0 : Int32)).1.1 0 6 = nI (G 2) from n0.2.2.1.1]
        have eF : F_X10_readFormula N R = fin65 N (nI b) 1 R3 := by
          rw [fR, if_neg (nI_ge (by omega) (by omega)), nmR_all a3 N (G 0) (by omega) (by omega) hall]
        have r2' : R3.1 1 (2 : Int32).toNatClampNeg = nI (G 2) := n0.2.2.1.2
        by_cases h10 : G 2 = 10
        · refine ref 2 (by decide) (by decide) ?_ ?_
          · rw [eW, h10, if_neg (show ¬ nI 10 < (10 : Int32) from by decide)]
          · rw [eF]
            show (if (1 : Int32) = 0 then _ else (if (R3.1 1 (2 : Int32).toNatClampNeg) = (10 : Int32) then _ else _)) = _
            rw [if_neg (by decide), r2', h10, if_pos (show nI 10 = (10 : Int32) from rfl)]
        · obtain ⟨M4, R4, k1, k2, kx, km, kr, ks⟩ := keep_ok hN h3
          have hd4 : DS M4 0 (R4.1 1) G B := dsame.cong (fun k hk => (km _ (by omega)).1) (fun k hk => (km _ (by omega)).2) (fun i hi => by rw [kr 1 (by omega) (by omega)])
          obtain ⟨a, hae⟩ : ∃ a : Nat → Nat, a = fun i => if A i = -1 then 0 else GR A i := ⟨_, rfl⟩
          have ha : ∀ i, i < 10 → a i ≤ 9999 ∧ (A i = -1 ∧ a i = 0 ∨ ¬ A i = -1 ∧ A i = nI (a i)) := fun i hi => by
            rw [hae]
            dsimp only
            by_cases q : A i = -1
            · rw [if_pos q]
              exact ⟨Nat.zero_le _, Or.inl ⟨q, rfl⟩⟩
            · rw [if_neg q]
              rcases hA i hi with q1 | ⟨c, c1, c2⟩
              · exact absurd q1 q
              · rw [GR_nI c2 (by omega)]
                exact ⟨c1, Or.inr ⟨q, c2⟩⟩
          obtain ⟨M5, R5, G5, z1, z2, z3, z4, z5, z6⟩ := makeF (N := N) (b := b) (a := a) (by omega) hd4 (by omega) (by omega) (fun i hi => by rw [(km 1475 (by omega)).1]; exact a1 i hi) (by rw [(km 1473 (by omega)).1]; exact a2) (fun i hi => by rw [kr 6 (by omega) (by omega)]; exact a3 i hi) ha hall
          refine Or.inl ⟨M5, xS R5 0 (upd (R5.1 0) 0 0), nI (G 2), ?_, ?_, xS_in, ?_⟩
          · rw [fX, eW, if_pos (show nI (G 2) < (10 : Int32) from nI_lt (b := 10) (by omega) (by omega)), xbd_some]
            dsimp only
            rw [norefuse_ok, xbd_some, xth_inl, k1, xbd_some, z1]
            rfl
          · rw [eF]
            show (if (1 : Int32) = 0 then _ else (if (R3.1 1 (2 : Int32).toNatClampNeg) = (10 : Int32) then _ else _)) = _
            rw [if_neg (by decide), r2', if_neg (show ¬ nI (G 2) = (10 : Int32) from fun e => h10 ((nI_eq (b := 10) (by omega) (by omega)).mp e)), k2, xbd_some]
            dsimp only
            rw [show R4.1 1 (2 : Int32).toNatClampNeg = nI (G 2) from hd4.n0.2.2.1.2, show (409 : Int32) + 17 * nI (G 2) = nI (409 + 17 * G 2) from by show nI 409 + nI 17 * nI (G 2) = _; rw [pk_mul, nI_add], xl_v, ck_nI (by omega) (by decide), nI_clamp (by omega), xl_v]
            exact z2
          · exact (Rel.after (M := M4) (R := R4) kx ⟨fun p q1 q2 => z4 p q1, fun p q1 q2 => by rw [z5]⟩ ⟨z6 2 (by omega), z6 3 (by omega), z6 5 (by omega), by rw [z6 0 (by omega)], by rw [z6 0 (by omega)], by rw [z6 0 (by omega)], by rw [z6 0 (by omega)], by rw [z6 0 (by omega)], by rw [z6 0 (by omega)]⟩ z3).thrown
  · obtain ⟨M3, hM3⟩ : ∃ M3, M3 = xS (xS M1 1470 (upd (M1.1 1470) 5 (nI q))) 1473 (upd ((xS M1 1470 (upd (M1.1 1470) 5 (nI q))).1 1473) 1 0) := ⟨_, rfl⟩
    obtain ⟨R3, hR3⟩ : ∃ R3, R3 = xS R2 0 (upd (R2.1 0) 11 (nI q)) := ⟨_, rfl⟩
    obtain ⟨h3, a1, a2, a3, a4, a5⟩ := left hM hR hM3 hR3
    have hq := hM.2.2.2.2.2.2
    have w2 : ¬ R2.1 0 13 = 0 := by rw [hR2, xS_f (by omega), hR.2.2.2.1]; decide
    have p2 : R2.1 0 12 = nI q := by rw [hR2, xS_f (by omega)]; exact hR.2.2.1
    refine Or.inr ⟨M3, xS R3 0 (upd (R3.1 0) 0 1), "java/lang/IllegalArgumentException", 1, 0, ?_, rfl, ?_, xS_in, by decide, h3.thrown⟩
    · unfold F_X9_readFormula F_X5_empty
      rw [f1, xbd_some]
      dsimp only
      rw [xl_v, xl_v, ← hM3, xbd_some, if_neg (show ¬ (M3, (0 : Int32)).1.1 1470 5 = -1 from by show ¬ M3.1 1470 5 = -1; rw [a5]; exact fun e => n_m1 (by omega) e.symm)]
    · unfold F_X10_readFormula L_X10_readFormula_26
      rw [g1, xbd_some]
      dsimp only
      rw [xl_v, ← hR2, xl_v, if_neg w2, p2, ← hR3, xl_v, if_neg (show ¬ R3.1 0 13 = 0 from by rw [a4]; decide)]
      rfl
