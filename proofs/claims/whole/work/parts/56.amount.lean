/-! a change in one formula's amounts and carries -/
theorem GI.form {G G1 : Nat → Nat} {B : Nat → Nat → Nat → Bool} {f0 : Nat} (h : GI G B) (hf0 : f0 < 10) (e : ∀ j, (j < 409 + 17 * f0 + 1 ∨ 409 + 17 * f0 + 17 ≤ j) → G1 j = G j) (h9 : ∀ c, c < 8 → G1 (409 + 17 * f0 + 1 + c) ≤ 9999 ∧ G1 (409 + 17 * f0 + 9 + c) ≤ 99 ∧ (f0 < G 2 ∧ c < G 0 ∨ G1 (409 + 17 * f0 + 1 + c) = 0 ∧ G1 (409 + 17 * f0 + 9 + c) = 0)) : GI G1 B := by
  obtain ⟨h0, h1, h2, h3, h4⟩ := h
  have eK : ∀ k, allK G1 k = allK G k := fun k => sumN_cong (fun c hc => e _ (by omega))
  refine ⟨by rw [e 0 (by omega), e 1 (by omega), e 2 (by omega), e 3 (by omega), e 4 (by omega)]; exact h0, fun d hd => ?_, fun b hb => ?_, fun f hf => ?_, fun k hk => ?_⟩
  · obtain ⟨a1, a2, a3, a4⟩ := h1 d hd
    refine ⟨by rw [e _ (by omega)]; exact a1, fun r hr => by rw [e _ (by omega)]; exact a2 r hr, by rw [e _ (by omega)]; exact a3, fun j hj => ?_⟩
    rw [e _ (by omega)] at hj
    rw [e _ (by omega), e _ (by omega), e _ (by omega)]
    exact a4 j hj
  · obtain ⟨a1, a2, a3, a4⟩ := h2 b hb
    refine ⟨fun r hr => by rw [e _ (by omega)]; exact a1 r hr, by rw [e _ (by omega)]; exact a2, by rw [e _ (by omega)]; exact a3, ?_⟩
    rw [e 3 (by omega), e _ (by omega), a4]
    exact cntN_cong (fun k hk => by rw [e _ (by omega)])
  · obtain ⟨a1, a2⟩ := h3 f hf
    refine ⟨by rw [e 2 (by omega), e _ (by omega), e 1 (by omega)]; exact a1, fun d hd => ?_⟩
    by_cases hff : f = f0
    · subst hff
      rw [e 2 (by omega), e 0 (by omega)]
      exact h9 d hd
    · rw [e _ (by omega), e _ (by omega), e 2 (by omega), e 0 (by omega)]
      exact a2 d hd
  · obtain ⟨a1, a2, a3, a4, a5⟩ := h4 k hk
    refine ⟨fun hk3 => ?_, fun d hd => ?_, by rw [e _ (by omega), e _ (by omega)]; exact a3, by rw [eK, e _ (by omega)]; exact a4, ?_⟩
    · rw [e 3 (by omega)] at hk3
      obtain ⟨b1, b2, b3, b4⟩ := a1 hk3
      rw [e (579 + 44 * k) (by omega), e (579 + 44 * k + 1) (by omega), eK, e 2 (by omega), e 1 (by omega), e (409 + 17 * G (579 + 44 * k)) (by omega), e (373 + 6 * G (579 + 44 * k + 1) + 3) (by omega)]
      exact ⟨b1, b2, b3, b4⟩
    · rw [e _ (by omega), e 0 (by omega)]
      exact a2 d hd
    · rw [e 3 (by omega), e _ (by omega), e _ (by omega)]
      rcases a5 with a5 | ⟨a5, a6⟩
      · exact Or.inl a5
      · exact Or.inr ⟨fun d hd => by rw [e _ (by omega)]; exact a5 d hd, a6⟩
theorem o_13 {N : Nat} (hN : 12000 ≤ N) {v1 v2 v3 v4 v5 v6 : Int32} {M R : xM} (h : Rel M R) : ∃ q, zOp_13 N v1 v2 v3 v4 v5 v6 M R = some q ∧ Rel q.1 q.2 := by
  refine zAgr (hd := h2) ?_
  obtain ⟨⟨G, B, hd⟩, hx⟩ := id h
  obtain ⟨⟨m0, r0⟩, -, ⟨m2, r2⟩, -⟩ := hd.n0
  have hb := hd.2.2.2.2.1
  rcases zFor (N := N) (n := G 2) (by omega) m2 r2 v1 with ⟨f, hf, rfl, e1, e2⟩ | ⟨e1, e2⟩
  · rcases zCol (N := N) (n := G 0) (by omega) m0 r0 v2 with ⟨c, hc, rfl, e5, e6⟩ | ⟨e5, e6⟩
    · rcases zRange (N := N) v3 0 9999 M R with ⟨l1, l2, e3, e4⟩ | ⟨e3, e4⟩
      · obtain ⟨x, hx1, hx2, rfl⟩ := zNat (a := 0) (b := 9999) rfl rfl l1 l2
        obtain ⟨M1, R1, k1, k2, kx, km, kr, ks⟩ := keep_ok hN h
        have hd1 : DS M1 0 (R1.1 1) G B := hd.cong (fun k hk => (km _ (by omega)).1) (fun k hk => (km _ (by omega)).2) (fun i hi => by rw [kr 1 (by omega) (by omega)])
        have hl := (loc_f f (by omega)).2 c (by omega)
        obtain ⟨M2, hM2⟩ : ∃ M2, M2 = xS M1 (58 + 3 * f) (upd (M1.1 (58 + 3 * f)) c (nI x)) := ⟨_, rfl⟩
        obtain ⟨R2, hR2⟩ : ∃ R2, R2 = xS R1 1 (upd (R1.1 1) (409 + 17 * f + 1 + c) (nI x)) := ⟨_, rfl⟩
        refine Or.inl ⟨xS M2 (59 + 3 * f) (upd (M2.1 (59 + 3 * f)) c (nI 0)), xS (xS R2 1 (upd (R2.1 1) (409 + 17 * f + 9 + c) (nI 0))) 0 (upd ((xS R2 1 (upd (R2.1 1) (409 + 17 * f + 9 + c) (nI 0))).1 0) 0 0), nI (G (409 + 17 * f + 1 + c)), ?_, ?_, xS_in, ?_⟩
        · unfold F_X9_setAmount
          rw [e1, xbd_some, xth_inl, e5, xbd_some, xth_inl, e3, xbd_some, xth_inl, k1, xbd_some, ck_nI (by omega) (by decide), ck_nI (by omega) (by decide), nI_clamp (by omega), nI_clamp (by omega), show 0 + 57 + 3 * f + 1 = 58 + 3 * f by omega, show 0 + 57 + 3 * f + 2 = 59 + 3 * f by omega]
          dsimp only
          rw [hd1.m hl.1 (vis_hi (by omega)) (p := 58 + 3 * f) (by omega), xl_v, ck_nI (by omega) (by decide), xl_v, ← hM2, ck_nI (by omega) (by decide), xl_v]
          rfl
        · unfold F_X10_setAmount
          rw [e2, xbd_some, if_neg i1n, e6, xbd_some, if_neg i1n, e4, xbd_some, if_neg i1n, k2, xbd_some, show (409 : Int32) + 17 * nI f = nI (409 + 17 * f) from by show nI 409 + nI 17 * nI f = _; rw [pk_mul, nI_add], xl_v, show nI (409 + 17 * f) + 1 + nI c = nI (409 + 17 * f + 1 + c) from by rw [nI_1, nI_add], show nI (409 + 17 * f) + 9 + nI c = nI (409 + 17 * f + 9 + c) from by show nI (409 + 17 * f) + nI 9 + nI c = _; rw [nI_add, nI_add], ck_nI (by omega) (by decide), nI_clamp (by omega), nI_clamp (by omega)]
          dsimp only
          rw [hd1.2.2.1 _ (by omega), xl_v, ck_nI (by omega) (by decide), xl_v, ← hR2, ck_nI (by omega) (by decide), xl_v]
          rfl
        · have h8 := hd1.dp.put (x := x) hl.1
          rw [Nat.zero_add, ← hM2, show upd (R1.1 1) (409 + 17 * f + 1 + c) (nI x) = R2.1 1 from by rw [hR2, xS_at]] at h8
          have h7 := h8.put (x := 0) hl.2
          rw [Nat.zero_add] at h7
          refine (Rel.after (M := M1) (R := R1) kx ?_ ?_ (G := updN (updN G (409 + 17 * f + 1 + c) x) (409 + 17 * f + 9 + c) 0) (B := B) ?_).thrown
          · exact (by rw [hM2]; exact sameX.put (by omega) : sameX M1 M2).tr (sameX.put (by omega))
          · exact (by rw [hR2]; exact sameR.put (Or.inl rfl) : sameR R1 R2).tr (sameR.put (Or.inl rfl))
          · rw [show (xS R2 1 (upd (R2.1 1) (409 + 17 * f + 9 + c) (nI 0))).1 1 = upd (R2.1 1) (409 + 17 * f + 9 + c) (nI 0) from xS_at]
            refine h7.ds (fun i hi hv => Or.inl (Or.inl (vis_same (fun d hd => ?_) hv))) (hd1.2.2.2.2.form (f0 := f) (by omega) (fun j hj => ?_) (fun d hd => ?_))
            · rw [updN_n (by omega), updN_n (by omega)]
            · rw [updN_n (by omega), updN_n (by omega)]
            · obtain ⟨b1, b2, b3⟩ := (hd1.2.2.2.2.2.2.2.1 f (by omega)).2 d hd
              by_cases hdc : d = c
              · subst hdc
                rw [updN_n (by omega), updN_s, updN_s]
                exact ⟨hx2, by omega, Or.inl ⟨hf, hc⟩⟩
              · rw [updN_n (by omega), updN_n (by omega), updN_n (by omega), updN_n (by omega)]
                exact ⟨b1, b2, b3⟩
      · refine Agr.no (E := "java/lang/IllegalArgumentException") (k := 2) (w := 0) h rfl (by decide) ?_ ?_
        · unfold F_X9_setAmount; rw [e1, xbd_some, xth_inl, e5, xbd_some, xth_inl, e3]; rfl
        · unfold F_X10_setAmount; rw [e2, xbd_some, if_neg i1n, e6, xbd_some, if_neg i1n, e4]; rfl
    · refine Agr.no (E := "java/lang/IndexOutOfBoundsException") (k := 1) (w := 0) h rfl (by decide) ?_ ?_
      · unfold F_X9_setAmount; rw [e1, xbd_some, xth_inl, e5]; rfl
      · unfold F_X10_setAmount; rw [e2, xbd_some, if_neg i1n, e6]; rfl
  · refine Agr.no (E := "java/lang/IndexOutOfBoundsException") (k := 1) (w := 0) h rfl (by decide) ?_ ?_
    · unfold F_X9_setAmount; rw [e1]; rfl
    · unfold F_X10_setAmount; rw [e2]; rfl
