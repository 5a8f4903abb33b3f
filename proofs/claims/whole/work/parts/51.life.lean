/-! setLife, setStock -/
abbrev h2 : xM → String → Option xR := fun (M8 : xM) (E : String) => if E = "java/lang/IndexOutOfBoundsException" then some (M8, 1) else if E = "java/lang/IllegalArgumentException" then some (M8, 2) else none
theorem o_1 {N : Nat} (hN : 12000 ≤ N) {v1 v2 v3 v4 v5 v6 : Int32} {M R : xM} (h : Rel M R) : ∃ q, zOp_1 N v1 v2 v3 v4 v5 v6 M R = some q ∧ Rel q.1 q.2 := by
  refine zAgr (hd := h2) ?_
  obtain ⟨⟨G, B, hd⟩, hx⟩ := id h
  obtain ⟨⟨m0, r0⟩, -⟩ := hd.n0
  have hb := hd.2.2.2.2.1
  rcases zCol (N := N) (n := G 0) (by omega) m0 r0 v1 with ⟨c, hc, rfl, e1, e2⟩ | ⟨e1, e2⟩
  · rcases zRange (N := N) v2 1 99 M R with ⟨l1, l2, e3, e4⟩ | ⟨e3, e4⟩
    · obtain ⟨x, hx1, hx2, rfl⟩ := zNat (a := 1) (b := 99) rfl rfl l1 l2
      obtain ⟨M1, R1, k1, k2, kx, km, kr, ks⟩ := keep_ok hN h
      have hc8 : c < 8 := by omega
      have hd1 : DS M1 0 (R1.1 1) G B := hd.cong (fun k hk => (km _ (by omega)).1) (fun k hk => (km _ (by omega)).2) (fun i hi => by rw [kr 1 (by omega) (by omega)])
      have hl := (loc_c c hc8).2.2.2.2.2.2
      have hvv : vis G (5 + 46 * c + 44) := vis_c hc8 (by omega) (by omega)
      refine Or.inl ⟨xS M1 (5 + 5 * c) (upd (M1.1 (5 + 5 * c)) 1 (nI x)), xS (xS R1 1 (upd (R1.1 1) (5 + 46 * c + 44) (nI x))) 0 (upd ((xS R1 1 (upd (R1.1 1) (5 + 46 * c + 44) (nI x))).1 0) 0 0), nI (G (5 + 46 * c + 44)), ?_, ?_, xS_in, ?_⟩
      · unfold F_X9_setLife
        rw [e1, xbd_some, xth_inl, e3, xbd_some, xth_inl, k1, xbd_some, ck_nI (by omega) (by decide), nI_clamp (by omega)]
        simp only [Nat.zero_add]
        rw [hd1.m hl hvv (p := 5 + 5 * c) (by omega)]
        rfl
      · unfold F_X10_setLife
        rw [e2, xbd_some, if_neg i1n, e4, xbd_some, if_neg i1n, k2, xbd_some, show F_X10_colorantAt N (nI c) 44 R1 = _ from rdC (k := 44) hd1.2.2.1 hc8 (by omega), xbd_some, xl_v, show ((5 : Int32) + 46 * nI c) + 44 = nI (5 + 46 * c + 44) from by show nI 5 + nI 46 * nI c + nI 44 = _; rw [pk_mul, nI_add, nI_add], ck_nI (by omega) (by decide), nI_clamp (by omega)]
        rfl
      · refine (Rel.after kx (sameX.put (by omega)) (sameR.put (Or.inl rfl)) (G := updN G (5 + 46 * c + 44) x) (B := B) ?_).thrown
        have h8 := hd1.dp.put (x := x) hl
        rw [Nat.zero_add] at h8
        have h9 := h8.ds (fun i hi hv => ?_) (hd1.2.2.2.2.col hc8 (fun j hj => updN_n (by omega)) ?_)
        · rw [show (xS R1 1 (upd (R1.1 1) (5 + 46 * c + 44) (nI x))).1 1 = upd (R1.1 1) (5 + 46 * c + 44) (nI x) from xS_at]
          exact h9
        · exact Or.inl (vis_same (fun d hd => updN_n (by omega)) hv)
        · obtain ⟨a1, a2, a3, a4⟩ := hd1.2.2.2.2.2.1 c hc8
          refine ⟨by rw [updN_n (by omega)]; exact a1, fun r hr => by rw [updN_n (by omega)]; exact a2 r hr, by rw [updN_s]; exact hx2, fun j hj => ?_⟩
          rw [updN_n (by omega)] at hj
          rw [updN_n (by omega), updN_n (by omega), updN_n (by omega)]
          exact a4 j hj
    · refine Agr.no (E := "java/lang/IllegalArgumentException") (k := 2) (w := 0) h rfl (by decide) ?_ ?_
      · unfold F_X9_setLife; rw [e1, xbd_some, xth_inl, e3]; rfl
      · unfold F_X10_setLife; rw [e2, xbd_some, if_neg i1n, e4]; rfl
  · refine Agr.no (E := "java/lang/IndexOutOfBoundsException") (k := 1) (w := 0) h rfl (by decide) ?_ ?_
    · unfold F_X9_setLife; rw [e1]; rfl
    · unfold F_X10_setLife; rw [e2]; rfl
theorem o_8 {N : Nat} (hN : 12000 ≤ N) {v1 v2 v3 v4 v5 v6 : Int32} {M R : xM} (h : Rel M R) : ∃ q, zOp_8 N v1 v2 v3 v4 v5 v6 M R = some q ∧ Rel q.1 q.2 := by
  refine zAgr (hd := h2) ?_
  obtain ⟨⟨G, B, hd⟩, hx⟩ := id h
  obtain ⟨-, ⟨m1, r1⟩, -⟩ := hd.n0
  have hb := hd.2.2.2.2.1
  rcases zBas (N := N) (n := G 1) (by omega) (R := R) m1 v1 with ⟨c, hc, rfl, e1, e2⟩ | ⟨e1, e2⟩
  · rcases zRange (N := N) v2 0 99 M R with ⟨l1, l2, e3, e4⟩ | ⟨e3, e4⟩
    · obtain ⟨x, hx1, hx2, rfl⟩ := zNat (a := 0) (b := 99) rfl rfl l1 l2
      obtain ⟨M1, R1, k1, k2, kx, km, kr, ks⟩ := keep_ok hN h
      have hc6 : c < 6 := by omega
      have hd1 : DS M1 0 (R1.1 1) G B := hd.cong (fun k hk => (km _ (by omega)).1) (fun k hk => (km _ (by omega)).2) (fun i hi => by rw [kr 1 (by omega) (by omega)])
      have hl := (loc_b c hc6).2.2
      have hvv : vis G (373 + 6 * c + 4) := vis_hi (by omega)
      refine Or.inl ⟨xS M1 (45 + 2 * c) (upd (M1.1 (45 + 2 * c)) 2 (nI x)), xS (xS R1 1 (upd (R1.1 1) (373 + 6 * c + 4) (nI x))) 0 (upd ((xS R1 1 (upd (R1.1 1) (373 + 6 * c + 4) (nI x))).1 0) 0 0), nI (G (373 + 6 * c + 4)), ?_, ?_, xS_in, ?_⟩
      · unfold F_X9_setStock
        rw [e1, xbd_some, xth_inl, e3, xbd_some, xth_inl, k1, xbd_some, ck_nI (by omega) (by decide), nI_clamp (by omega)]
        simp only [Nat.zero_add]
        rw [hd1.m hl hvv (p := 45 + 2 * c) (by omega)]
        rfl
      · unfold F_X10_setStock
        rw [show R.1 1 (1 : Int32).toNatClampNeg = nI (G 1) from r1, e2, xbd_some, if_neg i1n, e4, xbd_some, if_neg i1n, k2, xbd_some, show F_X10_baseAt N (nI c) 4 R1 = _ from rdB (k := 4) hd1.2.2.1 hc6 (by omega), xbd_some, xl_v, show ((373 : Int32) + 6 * nI c) + 4 = nI (373 + 6 * c + 4) from by show nI 373 + nI 6 * nI c + nI 4 = _; rw [pk_mul, nI_add, nI_add], ck_nI (by omega) (by decide), nI_clamp (by omega)]
        rfl
      · refine (Rel.after kx (sameX.put (by omega)) (sameR.put (Or.inl rfl)) (G := updN G (373 + 6 * c + 4) x) (B := B) ?_).thrown
        have h8 := hd1.dp.put (x := x) hl
        rw [Nat.zero_add] at h8
        have h9 := h8.ds (fun i hi hv => ?_) (hd1.2.2.2.2.stock hc6 (fun j hj => updN_n hj) (by rw [updN_s]; exact hx2))
        · rw [show (xS R1 1 (upd (R1.1 1) (373 + 6 * c + 4) (nI x))).1 1 = upd (R1.1 1) (373 + 6 * c + 4) (nI x) from xS_at]
          exact h9
        · exact Or.inl (vis_same (fun d hd => updN_n (by omega)) hv)
    · refine Agr.no (E := "java/lang/IllegalArgumentException") (k := 2) (w := 0) h rfl (by decide) ?_ ?_
      · unfold F_X9_setStock; rw [e1, xbd_some, xth_inl, e3]; rfl
      · unfold F_X10_setStock; rw [show R.1 1 (1 : Int32).toNatClampNeg = nI (G 1) from r1, e2, xbd_some, if_neg i1n, e4]; rfl
  · refine Agr.no (E := "java/lang/IndexOutOfBoundsException") (k := 1) (w := 0) h rfl (by decide) ?_ ?_
    · unfold F_X9_setStock; rw [e1]; rfl
    · unfold F_X10_setStock; rw [show R.1 1 (1 : Int32).toNatClampNeg = nI (G 1) from r1, e2]; rfl
