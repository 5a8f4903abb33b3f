/-! amount, lot -/
theorem a_14 {N : Nat} {v1 v2 w : Int32} {M R : xM} (h : Rel M R) : Agr hI (F_X9_amount N v1 v2 w M) (F_X10_amount N v1 v2 w R) := by
  obtain ⟨⟨G, B, hd⟩, hx⟩ := id h
  obtain ⟨⟨m0, r0⟩, -, ⟨m2, r2⟩, -⟩ := hd.n0
  have hb := hd.2.2.2.2.1
  rcases zFor (N := N) (n := G 2) (by omega) m2 r2 v1 with ⟨f, hf, rfl, e1, e2⟩ | ⟨e1, e2⟩
  · rcases zCol (N := N) (n := G 0) (by omega) m0 r0 v2 with ⟨c, hc, rfl, e3, e4⟩ | ⟨e3, e4⟩
    · have hl := (loc_f f (by omega)).2 c (by omega)
      by_cases hw : w = 0
      · refine Agr.ok (v := nI (G (409 + 17 * f + 1 + c))) h ?_ ?_
        · unfold F_X9_amount
          rw [e1, xbd_some, xth_inl, e3, xbd_some, xth_inl, ck_nI (by omega) (by decide), if_pos hw, ck_nI (by omega) (by decide), nI_clamp (by omega), nI_clamp (by omega), hd.m hl.1 (vis_hi (by omega)) (p := 0 + 57 + 3 * f + 1) (by omega)]
        · unfold F_X10_amount
          rw [e2, xbd_some, if_neg i1n, e4, xbd_some, if_neg i1n, if_pos hw, show (((409 : Int32) + 17 * nI f) + 1) + nI c = nI (409 + 17 * f + 1 + c) from by show nI 409 + nI 17 * nI f + nI 1 + nI c = _; rw [pk_mul, nI_add, nI_add, nI_add], ck_nI (by omega) (by decide), nI_clamp (by omega), show (R, (1 : Int32)).1.1 1 (409 + 17 * f + 1 + c) = _ from hd.2.2.1 _ (by omega)]
          rfl
      · refine Agr.ok (v := nI (G (409 + 17 * f + 9 + c))) h ?_ ?_
        · unfold F_X9_amount
          rw [e1, xbd_some, xth_inl, e3, xbd_some, xth_inl, ck_nI (by omega) (by decide), if_neg hw, ck_nI (by omega) (by decide), nI_clamp (by omega), nI_clamp (by omega), hd.m hl.2 (vis_hi (by omega)) (p := 0 + 57 + 3 * f + 2) (by omega)]
        · unfold F_X10_amount
          rw [e2, xbd_some, if_neg i1n, e4, xbd_some, if_neg i1n, if_neg hw, show (((409 : Int32) + 17 * nI f) + 9) + nI c = nI (409 + 17 * f + 9 + c) from by show nI 409 + nI 17 * nI f + nI 9 + nI c = _; rw [pk_mul, nI_add, nI_add, nI_add], ck_nI (by omega) (by decide), nI_clamp (by omega), show (R, (1 : Int32)).1.1 1 (409 + 17 * f + 9 + c) = _ from hd.2.2.1 _ (by omega)]
          rfl
    · refine Agr.no (E := "java/lang/IndexOutOfBoundsException") (k := 1) (w := 0) h rfl (by decide) ?_ ?_
      · unfold F_X9_amount; rw [e1, xbd_some, xth_inl, e3]; rfl
      · unfold F_X10_amount; rw [e2, xbd_some, if_neg i1n, e4]; rfl
  · refine Agr.no (E := "java/lang/IndexOutOfBoundsException") (k := 1) (w := 0) h rfl (by decide) ?_ ?_
    · unfold F_X9_amount; rw [e1]; rfl
    · unfold F_X10_amount; rw [e2]; rfl
theorem o_14 {N : Nat} {v1 v2 v3 v4 v5 v6 : Int32} {M R : xM} (h : Rel M R) : ∃ q, zOp_14 N v1 v2 v3 v4 v5 v6 M R = some q ∧ Rel q.1 q.2 := by
  unfold zOp_14
  by_cases hv : v3 = 0
  · simp only [if_pos hv]
    exact zAgr (hd := hI) (a_14 h)
  · simp only [if_neg hv]
    exact zAgr (hd := hI) (a_14 h)
abbrev hL : xM → String → Option xR := fun (M8 : xM) (E : String) => if E = "java/lang/IndexOutOfBoundsException" then some (M8, 1) else if E = "java/util/NoSuchElementException" then some (M8, 2) else if E = "java/lang/IllegalArgumentException" then some (M8, 3) else none
theorem o_5 {N : Nat} {v1 v2 v3 v4 v5 v6 : Int32} {M R : xM} (h : Rel M R) : ∃ q, zOp_5 N v1 v2 v3 v4 v5 v6 M R = some q ∧ Rel q.1 q.2 := by
  refine zAgr (hd := hL) ?_
  obtain ⟨⟨G, B, hd⟩, hx⟩ := id h
  obtain ⟨⟨m0, r0⟩, -⟩ := hd.n0
  have hb := hd.2.2.2.2.1
  rcases zCol (N := N) (n := G 0) (by omega) m0 r0 v1 with ⟨c, hc, rfl, e1, e2⟩ | ⟨e1, e2⟩
  · have hc8 : c < 8 := by omega
    have hn := (hd.2.2.2.2.2.1 c hc8).1
    have ml : M.1 (0 + 5 + 5 * c) 6 = nI (G (5 + 46 * c + 3)) := hd.m (loc_c c hc8).2.1 (vis_c hc8 (by omega) (by omega)) (by omega)
    have rl : F_X10_colorantAt N (nI c) 3 R = some (R, nI (G (5 + 46 * c + 3))) := rdC (k := 3) hd.2.2.1 hc8 (by omega)
    rcases zIn (N := N) (n := G (5 + 46 * c + 3)) (by omega) v2 R with ⟨j, hj, rfl, e5⟩ | ⟨hv, e5⟩
    · have ll := loc_l c hc8 j (by omega)
      rcases zRange (N := N) v3 0 2 M R with ⟨l1, l2, e3, e4⟩ | ⟨e3, e4⟩
      · obtain ⟨x, hx1, hx2, rfl⟩ := zNat (a := 0) (b := 2) rfl rfl l1 l2
        have fX : F_X9_lot N (nI c) (nI j) (nI x) M = xbd (F_X2_lotNumberFor N (0 + 5 + 5 * c) (nI j) (nI x) M) (fun (r10 : xR) => some (r10.1, Sum.inl r10.2)) := by
          unfold F_X9_lot
          rw [e1, xbd_some, xth_inl, ck_nI (by omega) (by decide), nI_clamp (by omega), ml, zReq1 (by omega) hj, e3, xbd_some, xth_inl]
        have fR : F_X10_lot N (nI c) (nI j) (nI x) R = (if nI x = 0 then L_X10_lot_75 N (nI j) 7 (nI c) R else (if nI x = (1 : Int32) then L_X10_lot_75 N (nI j) 19 (nI c) R else L_X10_lot_75 N (nI j) 31 (nI c) R)) := by
          unfold F_X10_lot
          rw [e2, xbd_some, if_neg i1n, rl, xbd_some, e5, xbd_some, if_neg i1n, e4, xbd_some, if_neg i1n]
        have hc3 : x = 0 ∨ x = 1 ∨ x = 2 := by omega
        rcases hc3 with rfl | rfl | rfl
        · refine Agr.ok (v := nI (G (5 + 46 * c + 7 + j))) h ?_ ?_
          · rw [fX]
            unfold F_X2_lotNumberFor
            rw [if_pos (by decide), ck_nI (by omega) (by decide), nI_clamp (by omega), hd.m ll.1 (vis_l hc8 (by omega) (by omega) hj) (p := 0 + 5 + 5 * c + 2) (by omega)]
            rfl
          · rw [fR, if_pos (by decide)]
            unfold L_X10_lot_75
            rw [show (7 : Int32) + nI j = nI (7 + j) from nI_add 7 j, rdC hd.2.2.1 hc8 (by omega), show 5 + 46 * c + (7 + j) = 5 + 46 * c + 7 + j by omega]
            rfl
        · refine Agr.ok (v := nI (G (5 + 46 * c + 19 + j))) h ?_ ?_
          · rw [fX]
            unfold F_X2_lotNumberFor
            rw [if_neg (by decide), if_pos (by decide), ck_nI (by omega) (by decide), nI_clamp (by omega), hd.m ll.2.1 (vis_l hc8 (by omega) (by omega) hj) (p := 0 + 5 + 5 * c + 3) (by omega)]
            rfl
          · rw [fR, if_neg (by decide), if_pos (by decide)]
            unfold L_X10_lot_75
            rw [show (19 : Int32) + nI j = nI (19 + j) from nI_add 19 j, rdC hd.2.2.1 hc8 (by omega), show 5 + 46 * c + (19 + j) = 5 + 46 * c + 19 + j by omega]
            rfl
        · refine Agr.ok (v := nI (G (5 + 46 * c + 31 + j))) h ?_ ?_
          · rw [fX]
            unfold F_X2_lotNumberFor
            rw [if_neg (by decide), if_neg (by decide), ck_nI (by omega) (by decide), nI_clamp (by omega), hd.m ll.2.2 (vis_l hc8 (by omega) (by omega) hj) (p := 0 + 5 + 5 * c + 4) (by omega)]
            rfl
          · rw [fR, if_neg (by decide), if_neg (by decide)]
            unfold L_X10_lot_75
            rw [show (31 : Int32) + nI j = nI (31 + j) from nI_add 31 j, rdC hd.2.2.1 hc8 (by omega), show 5 + 46 * c + (31 + j) = 5 + 46 * c + 31 + j by omega]
            rfl
      · refine Agr.no (E := "java/lang/IllegalArgumentException") (k := 3) (w := 0) h rfl (by decide) ?_ ?_
        · unfold F_X9_lot; rw [e1, xbd_some, xth_inl, ck_nI (by omega) (by decide), nI_clamp (by omega), ml, zReq1 (by omega) hj, e3]; rfl
        · unfold F_X10_lot; rw [e2, xbd_some, if_neg i1n, rl, xbd_some, e5, xbd_some, if_neg i1n, e4]; rfl
    · refine Agr.no (E := "java/util/NoSuchElementException") (k := 2) (w := 0) h rfl (by decide) ?_ ?_
      · unfold F_X9_lot; rw [e1, xbd_some, xth_inl, ck_nI (by omega) (by decide), nI_clamp (by omega), ml, zReq hv]; rfl
      · unfold F_X10_lot; rw [e2, xbd_some, if_neg i1n, rl, xbd_some, e5]; rfl
  · refine Agr.no (E := "java/lang/IndexOutOfBoundsException") (k := 1) (w := 0) h rfl (by decide) ?_ ?_
    · unfold F_X9_lot; rw [e1]; rfl
    · unfold F_X10_lot; rw [e2]; rfl
