/-! amount, lot -/
theorem a_14 {N : Nat} {v1 v2 w : Int32} {M R : xM} (h : Rel M R) : Agr hI (F_X9_amount N v1 v2 w M) (F_X10_amount N v1 v2 w R) := by
  obtain ⟨⟨G, B, hd⟩, hx⟩ := id h
  obtain ⟨⟨m0, r0⟩, -, ⟨m2, r2⟩, -⟩ := hd.n0
  have hb := hd.2.2.2.2.1
  rcases zFor (N := N) (n := G 2) (by omega) m2 r2 v1 with ⟨f, hf, rfl, e1, e2⟩ | ⟨e1, e2⟩
  · rcases zCol (N := N) (n := G 0) (by omega) m0 r0 v2 with ⟨c, hc, rfl, e3, e4⟩ | ⟨e3, e4⟩
    · have hl := (loc_f f (by omega)).2 c (by omega)
      by_cases hw : w = 0
      · refine Agr.ok (v := nI (G (409 + 17 * f + 1 + c))) h ?_ ?_
        · unfold F_X9_amount
          rw [e1, xbd_some, xth_inl, e3, xbd_some, xth_inl, ck_nI (by omega) (by decide), if_pos hw, ck_nI (by omega) (by decide), nI_clamp (by omega), nI_clamp (by omega), hd.m hl.1 (vis_hi (by omega)) (p := 0 + 57 + 3 * f + 1) (by omega)]
        · unfold F_X10_amount
          rw [e2, xbd_some, if_neg i1n, e4, xbd_some, if_neg i1n, if_pos hw, show (((409 : Int32) + 17 * nI f) + 1) + nI c = nI (409 + 17 * f + 1 + c) from by show nI 409 + nI 17 * nI f + nI 1 + nI c = _; rw [pk_mul, nI_add, nI_add, nI_add], ck_nI (by omega) (by decide), nI_clamp (by omega), show (R, (1 : Int32)).1.1 1 (409 + 17 * f + 1 + c) = _ from hd.2.2.1 _ (by omega)]
          rfl
      · refine Agr.ok (v := nI (G (409 + 17 * f + 9 + c))) h ?_ ?_
        · unfold F_X9_amount
          rw [e1, xbd_some, xth_inl, e3, xbd_some, xth_inl, ck_nI (by omega) (by decide), if_neg hw, ck_nI (by omega) (by decide), nI_clamp (by omega), nI_clamp (by omega), hd.m hl.2 (vis_hi (by omega)) (p := 0 + 57 + 3 * f + 2) (by omega)]
        · unfold F_X10_amount
          rw [e2, xbd_some, if_neg i1n, e4, xbd_some, if_neg i1n, if_neg hw, show (((409 : Int32) + 17 * nI f) + 9) + nI c = nI (409 + 17 * f + 9 + c) from by show nI 409 + nI 17 * nI f + nI 9 + nI c = _; rw [pk_mul, nI_add, nI_add, nI_add], ck_nI (by omega) (by decide), nI_clamp (by omega), show (R, (1 : Int32)).1.1 1 (409 + 17 * f + 9 + c) = _ from hd.2.2.1 _ (by omega)]
          rfl
    · refine Agr.no (E := "java/lang/IndexOutOfBoundsException") (k := 1) (w := 0) h rfl (by decide) ?_ ?_
      · unfold F_X9_amount; rw [e1, xbd_some, xth_inl, e3]; rfl
      · unfold F_X10_amount; rw [e2, xbd_some, if_neg i1n, e4]; rfl
  · refine Agr.no (E := "java/lang/IndexOutOfBoundsException") (k := 1) (w := 0) h rfl (by decide) ?_ ?_
    · unfold F_X9_amount; rw [e1]; rfl
    · unfold F_X10_amount; rw [e2]; rfl
theorem o_14 {N : Nat} {v1 v2 v3 v4 v5 v6 : Int32} {M R : xM} (h : Rel M R) : ∃ q, zOp_14 N v1 v2 v3 v4 v5 v6 M R = some q ∧ Rel q.1 q.2 := by
  unfold zOp_14
  by_cases hv : v3 = 0
  · simp only [if_pos hv]
    exact zAgr (hd := hI) (a_14 h)
  · simp only [if_neg hv]
    exact zAgr (hd := hI) (a_14 h)
