/-! reads of cans and bases -/
theorem allSteps_ok {N p : Nat} {M : xM} {f : Nat → Nat} (hN : 20 ≤ N) (hf : ∀ j, j < 8 → M.1 (p + 1) j = nI (f j)) : F_X1_allSteps N p M = some (M, nI (sumN f 8)) := by
  have loop : ∀ n i, i ≤ 8 → 8 < n + i → L_X1_allSteps_4 N p n (nI (sumN f i)) (nI i) M = some (M, nI (sumN f 8)) := by
    intro n
    induction n with
    | zero => intro i a1 a2; omega
    | succ n ih =>
      intro i a1 a2
      rw [L_X1_allSteps_4]
      by_cases hi : i = 8
      · subst hi
        rw [if_pos (show (8 : Int32) ≤ nI 8 from by decide)]
      · rw [if_neg (show ¬ (8 : Int32) ≤ nI i from nI_ge (a := i) (b := 8) (by omega) (by omega)), ck_nI (by omega) (by decide), nI_clamp (by omega), hf i (by omega), nI_add, xl_v, nI_1, xl_v]
        exact ih (i + 1) (by omega) (by omega)
  exact loop N 0 (by omega) (by omega)
theorem allIn_ok {N k : Nat} {R : xM} {G : Nat → Nat} (hN : 20 ≤ N) (hR : ∀ i, i < 1460 → R.1 1 i = nI (G i)) (hk : k < 20) : F_X10_allIn N (nI k) R = some (R, nI (allK G k)) := by
  have loop : ∀ n i, i ≤ 8 → 8 < n + i → L_X10_allIn_4 N n (nI k) (nI (sumN (fun c => G (579 + 44 * k + 2 + c)) i)) (nI i) R = some (R, nI (allK G k)) := by
    intro n
    induction n with
    | zero => intro i a1 a2; omega
    | succ n ih =>
      intro i a1 a2
      rw [L_X10_allIn_4]
      by_cases hi : i = 8
      · subst hi
        rw [if_pos (show (8 : Int32) ≤ nI 8 from by decide)]
        rfl
      · rw [if_neg (show ¬ (8 : Int32) ≤ nI i from nI_ge (a := i) (b := 8) (by omega) (by omega)), show (2 : Int32) + nI i = nI (2 + i) from nI_add 2 i, rdK hR hk (by omega), xbd_some, show 579 + 44 * k + (2 + i) = 579 + 44 * k + 2 + i by omega, nI_add, xl_v, nI_1, xl_v]
        exact ih (i + 1) (by omega) (by omega)
  exact loop N 0 (by omega) (by omega)
def room (G : Nat → Nat) (k : Nat) : Nat := G (373 + 6 * G (579 + 44 * k + 1) + 3) - allK G k
theorem DS.allS {N k p : Nat} {M : xM} {r : Nat → Int32} {G : Nat → Nat} {B : Nat → Nat → Nat → Bool} (h : DS M 0 r G B) (hN : 20 ≤ N) (hk : k < 20) (hp : p = 87 + 3 * k) : F_X1_allSteps N p M = some (M, nI (allK G k)) := by
  subst hp
  exact allSteps_ok hN (fun j hj => h.m ((loc_k k hk).2.2.2.2 j hj) (vis_hi (by omega)) (by omega))
theorem DS.room {N k p : Nat} {M : xM} {r : Nat → Int32} {G : Nat → Nat} {B : Nat → Nat → Nat → Bool} (h : DS M 0 r G B) (hN : 20 ≤ N) (hk : k < G 3) (hp : p = 87 + 3 * k) : F_X3_roomIn N 0 p M = some (M, nI (room G k)) := by
  have hg := h.2.2.2.2
  have hk20 : k < 20 := by have := hg.1; omega
  obtain ⟨q1, q2, q3, q4⟩ := (hg.2.2.2.2 k hk20).1 hk
  have e1 : M.1 p 1 = nI (G (579 + 44 * k + 1)) := h.m (loc_k k hk20).2.1 (vis_hi (by omega)) (by omega)
  have hb6 : G (579 + 44 * k + 1) < 6 := by have := hg.1; omega
  unfold F_X3_roomIn
  rw [e1, ck_nI hb6 (by decide), h.allS hN hk20 hp, xbd_some, nI_clamp (by omega), h.m (loc_b _ hb6).2.1 (vis_hi (by omega)) (p := 0 + 45 + 2 * G (579 + 44 * k + 1)) (by omega)]
  exact congrArg (fun z => some (M, z)) (pk_sub q4)
theorem roomIn_ok {N k : Nat} {M : xM} {R : xM} {G : Nat → Nat} {B : Nat → Nat → Nat → Bool} (hN : 20 ≤ N) (h : DS M 0 (R.1 1) G B) (hk : k < G 3) : F_X10_roomIn N (nI k) R = some (R, nI (room G k)) := by
  have hg := h.2.2.2.2
  have hk20 : k < 20 := by have := hg.1; omega
  obtain ⟨q1, q2, q3, q4⟩ := (hg.2.2.2.2 k hk20).1 hk
  have hb6 : G (579 + 44 * k + 1) < 6 := by have := hg.1; omega
  unfold F_X10_roomIn
  rw [show F_X10_canAt N (nI k) 1 R = _ from rdK (k := 1) h.2.2.1 hk20 (by omega), xbd_some, show F_X10_baseAt N (R, nI (G (579 + 44 * k + 1))).2 3 (R, nI (G (579 + 44 * k + 1))).1 = _ from rdB (k := 3) h.2.2.1 hb6 (by omega), xbd_some, allIn_ok hN h.2.2.1 hk20, xbd_some]
  exact congrArg (fun z => some (R, z)) (pk_sub q4)
theorem o_22 {N : Nat} (hN : 12000 ≤ N) {v1 v2 v3 v4 v5 v6 : Int32} {M R : xM} (h : Rel M R) : ∃ q, zOp_22 N v1 v2 v3 v4 v5 v6 M R = some q ∧ Rel q.1 q.2 := by
  refine zAgr (hd := h2) ?_
  obtain ⟨⟨G, B, hd⟩, hx⟩ := id h
  obtain ⟨-, -, -, ⟨m3, r3⟩, -⟩ := hd.n0
  have hb := hd.2.2.2.2.1
  rcases zCan (N := N) (n := G 3) (by omega) m3 r3 v1 with ⟨k, hk, rfl, e1, e2⟩ | ⟨e1, e2⟩
  · have hk20 : k < 20 := by omega
    have hl := loc_k k hk20
    have rd : ∀ j, j < 44 → F_X10_canAt N (nI k) (nI j) R = some (R, nI (G (579 + 44 * k + j))) := fun j hj => rdK hd.2.2.1 hk20 hj
    rcases zRange (N := N) v2 0 5 M R with ⟨l1, l2, e3, e4⟩ | ⟨e3, e4⟩
    · obtain ⟨x, hx1, hx2, rfl⟩ := zNat (a := 0) (b := 5) rfl rfl l1 l2
      have fX : F_X9_can N (nI k) (nI x) M = xbd (F_X3_canNumberFor N 0 (0 + 87 + 3 * k) (nI x) M) (fun (r8 : xR) => some (r8.1, Sum.inl r8.2)) := by
        unfold F_X9_can
        rw [e1, xbd_some, xth_inl, e3, xbd_some, xth_inl, ck_nI (by omega) (by decide), nI_clamp (by omega)]
      have hc9 : x = 0 ∨ x = 1 ∨ x = 2 ∨ x = 3 ∨ x = 4 ∨ x = 5 := by omega
      rcases hc9 with rfl | rfl | rfl | rfl | rfl | rfl
      · refine Agr.ok (v := nI (G (579 + 44 * k))) h ?_ ?_
        · rw [fX]
          unfold F_X3_canNumberFor
          rw [if_pos (by decide)]
          refine congrArg (fun z => some (M, Sum.inl z)) (hd.m hl.1 (vis_hi (by omega)) (p := 0 + 87 + 3 * k) (by omega))
        · unfold F_X10_can
          rw [e2, xbd_some, if_neg i1n, e4, xbd_some, if_neg i1n, if_neg (by decide), if_neg (by decide), if_neg (by decide), if_neg (by decide), show F_X10_canAt N (nI k) (nI 0) (R, (1 : Int32)).1 = _ from rd 0 (by omega)]
          rfl
      · refine Agr.ok (v := nI (G (579 + 44 * k + 1))) h ?_ ?_
        · rw [fX]
          unfold F_X3_canNumberFor
          rw [if_neg (by decide), if_pos (by decide)]
          refine congrArg (fun z => some (M, Sum.inl z)) (hd.m hl.2.1 (vis_hi (by omega)) (p := 0 + 87 + 3 * k) (by omega))
        · unfold F_X10_can
          rw [e2, xbd_some, if_neg i1n, e4, xbd_some, if_neg i1n, if_neg (by decide), if_neg (by decide), if_neg (by decide), if_neg (by decide), show F_X10_canAt N (nI k) (nI 1) (R, (1 : Int32)).1 = _ from rd 1 (by omega)]
          rfl
      · refine Agr.ok (v := nI (allK G k)) h ?_ ?_
        · rw [fX]
          unfold F_X3_canNumberFor
          rw [if_neg (by decide), if_neg (by decide), if_pos (by decide), hd.allS (by omega) hk20 (p := 0 + 87 + 3 * k) (by omega)]
          rfl
        · unfold F_X10_can
          rw [e2, xbd_some, if_neg i1n, e4, xbd_some, if_neg i1n, if_pos (by decide), show F_X10_allIn N (nI k) (R, (1 : Int32)).1 = _ from allIn_ok (by omega) hd.2.2.1 hk20]
          rfl
      · refine Agr.ok (v := nI (G (579 + 44 * k + 10))) h ?_ ?_
        · rw [fX]
          unfold F_X3_canNumberFor
          rw [if_neg (by decide), if_neg (by decide), if_neg (by decide), if_pos (by decide)]
          refine congrArg (fun z => some (M, Sum.inl z)) (hd.m hl.2.2.1 (vis_hi (by omega)) (p := 0 + 87 + 3 * k) (by omega))
        · unfold F_X10_can
          rw [e2, xbd_some, if_neg i1n, e4, xbd_some, if_neg i1n, if_neg (by decide), if_pos (by decide), show F_X10_canAt N (nI k) 10 (R, (1 : Int32)).1 = _ from rd 10 (by omega)]
          rfl
      · refine Agr.ok (v := nI (G (579 + 44 * k + 11))) h ?_ ?_
        · rw [fX]
          unfold F_X3_canNumberFor
          rw [if_neg (by decide), if_neg (by decide), if_neg (by decide), if_neg (by decide), if_pos (by decide)]
          refine congrArg (fun z => some (M, Sum.inl z)) (hd.m hl.2.2.2.1 (vis_hi (by omega)) (p := 0 + 87 + 3 * k) (by omega))
        · unfold F_X10_can
          rw [e2, xbd_some, if_neg i1n, e4, xbd_some, if_neg i1n, if_neg (by decide), if_neg (by decide), if_pos (by decide), show F_X10_canAt N (nI k) 11 (R, (1 : Int32)).1 = _ from rd 11 (by omega)]
          rfl
      · refine Agr.ok (v := nI (room G k)) h ?_ ?_
        · rw [fX]
          unfold F_X3_canNumberFor
          rw [if_neg (by decide), if_neg (by decide), if_neg (by decide), if_neg (by decide), if_neg (by decide), hd.room (by omega) hk (p := 0 + 87 + 3 * k) (by omega)]
          rfl
        · unfold F_X10_can
          rw [e2, xbd_some, if_neg i1n, e4, xbd_some, if_neg i1n, if_neg (by decide), if_neg (by decide), if_neg (by decide), if_pos (by decide), show F_X10_roomIn N (nI k) (R, (1 : Int32)).1 = _ from roomIn_ok (by omega) hd hk]
          rfl
    · refine Agr.no (E := "java/lang/IllegalArgumentException") (k := 2) (w := 0) h rfl (by decide) ?_ ?_
      · unfold F_X9_can; rw [e1, xbd_some, xth_inl, e3]; rfl
      · unfold F_X10_can; rw [e2, xbd_some, if_neg i1n, e4]; rfl
  · refine Agr.no (E := "java/lang/IndexOutOfBoundsException") (k := 1) (w := 0) h rfl (by decide) ?_ ?_
    · unfold F_X9_can; rw [e1]; rfl
    · unfold F_X10_can; rw [e2]; rfl
