/-! colorant -/
theorem o_4 {N : Nat} (hN : 12000 ≤ N) {v1 v2 v3 v4 v5 v6 : Int32} {M R : xM} (h : Rel M R) : ∃ q, zOp_4 N v1 v2 v3 v4 v5 v6 M R = some q ∧ Rel q.1 q.2 := by
  refine zAgr (hd := h2) ?_
  obtain ⟨⟨G, B, hd⟩, hx⟩ := id h
  obtain ⟨⟨m0, r0⟩, -⟩ := hd.n0
  have hb := hd.2.2.2.2.1
  rcases zCol (N := N) (n := G 0) (by omega) m0 r0 v1 with ⟨c, hc, rfl, e1, e2⟩ | ⟨e1, e2⟩
  · have hc8 : c < 8 := by omega
    have hn := (hd.2.2.2.2.2.1 c hc8).1
    have hl := loc_c c hc8
    have rd : ∀ k, k < 46 → F_X10_colorantAt N (nI c) (nI k) R = some (R, nI (G (5 + 46 * c + k))) := fun k hk => rdC hd.2.2.1 hc8 hk
    rcases zRange (N := N) v2 0 9 M R with ⟨l1, l2, e3, e4⟩ | ⟨e3, e4⟩
    · obtain ⟨x, hx1, hx2, rfl⟩ := zNat (a := 0) (b := 9) rfl rfl l1 l2
      have fX : F_X9_colorant N (nI c) (nI x) M = xbd (F_X2_numberFor N (0 + 5 + 5 * c) (nI x) M) (fun (r8 : xR) => some (r8.1, Sum.inl r8.2)) := by
        unfold F_X9_colorant
        rw [e1, xbd_some, xth_inl, e3, xbd_some, xth_inl, ck_nI (by omega) (by decide), nI_clamp (by omega)]
      have hc9 : x = 0 ∨ x = 1 ∨ x = 2 ∨ x = 3 ∨ x = 4 ∨ x = 5 ∨ x = 6 ∨ x = 7 ∨ x = 8 ∨ x = 9 := by omega
      rcases hc9 with rfl | rfl | rfl | rfl | rfl | rfl | rfl | rfl | rfl | rfl
      · refine Agr.ok (v := nI (G (5 + 46 * c + 0))) h ?_ ?_
        · rw [fX]
          unfold F_X2_numberFor
          rw [if_pos (by decide)]
          refine congrArg (fun z => some (M, Sum.inl z)) (hd.m (hl.1 0 (by omega)) (vis_c hc8 (by omega) (by omega)) (p := 0 + 5 + 5 * c + 1) (by omega))
        · unfold F_X10_colorant
          rw [e2, xbd_some, if_neg i1n, e4, xbd_some, if_neg i1n, if_pos (by decide), if_neg (by decide), show F_X10_colorantAt N (nI c) (nI 0) (R, (1 : Int32)).1 = _ from rd 0 (by omega)]
          rfl
      · refine Agr.ok (v := nI (G (5 + 46 * c + 1))) h ?_ ?_
        · rw [fX]
          unfold F_X2_numberFor
          rw [if_neg (by decide), if_pos (by decide)]
          refine congrArg (fun z => some (M, Sum.inl z)) (hd.m (hl.1 1 (by omega)) (vis_c hc8 (by omega) (by omega)) (p := 0 + 5 + 5 * c + 1) (by omega))
        · unfold F_X10_colorant
          rw [e2, xbd_some, if_neg i1n, e4, xbd_some, if_neg i1n, if_pos (by decide), if_neg (by decide), show F_X10_colorantAt N (nI c) (nI 1) (R, (1 : Int32)).1 = _ from rd 1 (by omega)]
          rfl
      · refine Agr.ok (v := nI (G (5 + 46 * c + 2))) h ?_ ?_
        · rw [fX]
          unfold F_X2_numberFor
          rw [if_neg (by decide), if_neg (by decide), if_pos (by decide)]
          refine congrArg (fun z => some (M, Sum.inl z)) (hd.m (hl.1 2 (by omega)) (vis_c hc8 (by omega) (by omega)) (p := 0 + 5 + 5 * c + 1) (by omega))
        · unfold F_X10_colorant
          rw [e2, xbd_some, if_neg i1n, e4, xbd_some, if_neg i1n, if_pos (by decide), if_neg (by decide), show F_X10_colorantAt N (nI c) (nI 2) (R, (1 : Int32)).1 = _ from rd 2 (by omega)]
          rfl
      · refine Agr.ok (v := nI (inC G c)) h ?_ ?_
        · rw [fX]
          unfold F_X2_numberFor
          rw [if_neg (by decide), if_neg (by decide), if_neg (by decide), if_pos (by decide), hd.steps (by omega) hc8 (p := 0 + 5 + 5 * c) (by omega)]
          rfl
        · unfold F_X10_colorant
          rw [e2, xbd_some, if_neg i1n, e4, xbd_some, if_neg i1n, if_pos (by decide), if_pos (by decide), if_pos (by decide), show F_X10_inCanister N (nI c) (R, (1 : Int32)).1 = _ from inCanister_ok (by omega) hd.2.2.1 hc8 hn]
          rfl
      · refine Agr.ok (v := nI (G (5 + 46 * c + 3))) h ?_ ?_
        · rw [fX]
          unfold F_X2_numberFor
          rw [if_neg (by decide), if_neg (by decide), if_neg (by decide), if_neg (by decide), if_pos (by decide)]
          refine congrArg (fun z => some (M, Sum.inl z)) (hd.m hl.2.1 (vis_c hc8 (by omega) (by omega)) (p := 0 + 5 + 5 * c) (by omega))
        · unfold F_X10_colorant
          rw [e2, xbd_some, if_neg i1n, e4, xbd_some, if_neg i1n, if_pos (by decide), if_pos (by decide), if_neg (by decide), show ((3 : Int32) + nI 4) - 4 = nI 3 from by decide, show F_X10_colorantAt N (nI c) (nI 3) (R, (1 : Int32)).1 = _ from rd 3 (by omega)]
          rfl
      · refine Agr.ok (v := nI (G (5 + 46 * c + 4))) h ?_ ?_
        · rw [fX]
          unfold F_X2_numberFor
          rw [if_neg (by decide), if_neg (by decide), if_neg (by decide), if_neg (by decide), if_neg (by decide), if_pos (by decide)]
          refine congrArg (fun z => some (M, Sum.inl z)) (hd.m hl.2.2.1 (vis_c hc8 (by omega) (by omega)) (p := 0 + 5 + 5 * c) (by omega))
        · unfold F_X10_colorant
          rw [e2, xbd_some, if_neg i1n, e4, xbd_some, if_neg i1n, if_pos (by decide), if_pos (by decide), if_neg (by decide), show ((3 : Int32) + nI 5) - 4 = nI 4 from by decide, show F_X10_colorantAt N (nI c) (nI 4) (R, (1 : Int32)).1 = _ from rd 4 (by omega)]
          rfl
      · refine Agr.ok (v := nI (G (5 + 46 * c + 5))) h ?_ ?_
        · rw [fX]
          unfold F_X2_numberFor
          rw [if_neg (by decide), if_neg (by decide), if_neg (by decide), if_neg (by decide), if_neg (by decide), if_neg (by decide), if_pos (by decide)]
          refine congrArg (fun z => some (M, Sum.inl z)) (hd.m hl.2.2.2.1 (vis_c hc8 (by omega) (by omega)) (p := 0 + 5 + 5 * c) (by omega))
        · unfold F_X10_colorant
          rw [e2, xbd_some, if_neg i1n, e4, xbd_some, if_neg i1n, if_pos (by decide), if_pos (by decide), if_neg (by decide), show ((3 : Int32) + nI 6) - 4 = nI 5 from by decide, show F_X10_colorantAt N (nI c) (nI 5) (R, (1 : Int32)).1 = _ from rd 5 (by omega)]
          rfl
      · refine Agr.ok (v := nI (G (5 + 46 * c + 6))) h ?_ ?_
        · rw [fX]
          unfold F_X2_numberFor
          rw [if_neg (by decide), if_neg (by decide), if_neg (by decide), if_neg (by decide), if_neg (by decide), if_neg (by decide), if_neg (by decide), if_pos (by decide)]
          refine congrArg (fun z => some (M, Sum.inl z)) (hd.m hl.2.2.2.2.1 (vis_c hc8 (by omega) (by omega)) (p := 0 + 5 + 5 * c) (by omega))
        · unfold F_X10_colorant
          rw [e2, xbd_some, if_neg i1n, e4, xbd_some, if_neg i1n, if_pos (by decide), if_pos (by decide), if_neg (by decide), show ((3 : Int32) + nI 7) - 4 = nI 6 from by decide, show F_X10_colorantAt N (nI c) (nI 6) (R, (1 : Int32)).1 = _ from rd 6 (by omega)]
          rfl
      · refine Agr.ok (v := nI (G (5 + 46 * c + 43))) h ?_ ?_
        · rw [fX]
          unfold F_X2_numberFor
          rw [if_neg (by decide), if_neg (by decide), if_neg (by decide), if_neg (by decide), if_neg (by decide), if_neg (by decide), if_neg (by decide), if_neg (by decide), if_pos (by decide)]
          refine congrArg (fun z => some (M, Sum.inl z)) (hd.m hl.2.2.2.2.2.1 (vis_c hc8 (by omega) (by omega)) (p := 0 + 5 + 5 * c) (by omega))
        · unfold F_X10_colorant
          rw [e2, xbd_some, if_neg i1n, e4, xbd_some, if_neg i1n, if_neg (by decide), if_pos (by decide), show F_X10_colorantAt N (nI c) 43 (R, (1 : Int32)).1 = _ from rd 43 (by omega)]
          rfl
      · refine Agr.ok (v := nI (G (5 + 46 * c + 44))) h ?_ ?_
        · rw [fX]
          unfold F_X2_numberFor
          rw [if_neg (by decide), if_neg (by decide), if_neg (by decide), if_neg (by decide), if_neg (by decide), if_neg (by decide), if_neg (by decide), if_neg (by decide), if_neg (by decide)]
          refine congrArg (fun z => some (M, Sum.inl z)) (hd.m hl.2.2.2.2.2.2 (vis_c hc8 (by omega) (by omega)) (p := 0 + 5 + 5 * c) (by omega))
        · unfold F_X10_colorant
          rw [e2, xbd_some, if_neg i1n, e4, xbd_some, if_neg i1n, if_neg (by decide), if_neg (by decide), show F_X10_colorantAt N (nI c) 44 (R, (1 : Int32)).1 = _ from rd 44 (by omega)]
          rfl
    · refine Agr.no (E := "java/lang/IllegalArgumentException") (k := 2) (w := 0) h rfl (by decide) ?_ ?_
      · unfold F_X9_colorant; rw [e1, xbd_some, xth_inl, e3]; rfl
      · unfold F_X10_colorant; rw [e2, xbd_some, if_neg i1n, e4]; rfl
  · refine Agr.no (E := "java/lang/IndexOutOfBoundsException") (k := 1) (w := 0) h rfl (by decide) ?_ ?_
    · unfold F_X9_colorant; rw [e1]; rfl
    · unfold F_X10_colorant; rw [e2]; rfl
