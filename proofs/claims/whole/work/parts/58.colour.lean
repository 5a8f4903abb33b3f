/-! colours of cans, bases -/
def colK (G : Nat → Nat) (k a : Nat) : Nat := G (373 + 6 * G (579 + 44 * k + 1) + a) + sumN (fun c => G (5 + 46 * c + a) * G (579 + 44 * k + 2 + c)) (G 0)
theorem DS.colour {N k p a : Nat} {M : xM} {r : Nat → Int32} {G : Nat → Nat} {B : Nat → Nat → Nat → Bool} (h : DS M 0 r G B) (hN : 20 ≤ N) (hk : k < G 3) (ha : a < 3) (hp : p = 87 + 3 * k) : F_X3_colourOf N 0 p (nI a) M = some (M, nI (colK G k a)) := by
  have hg := h.2.2.2.2
  have hk20 : k < 20 := by have := hg.1; omega
  obtain ⟨q1, q2, q3, q4⟩ := (hg.2.2.2.2 k hk20).1 hk
  have e1 : M.1 p 1 = nI (G (579 + 44 * k + 1)) := h.m (loc_k k hk20).2.1 (vis_hi (by omega)) (by omega)
  have hb6 : G (579 + 44 * k + 1) < 6 := by have := hg.1; omega
  have hg0 : G 0 ≤ 8 := hg.1.1
  have m0 := h.n0.1.1
  have loop : ∀ n i, i ≤ G 0 → G 0 < n + i → L_X3_colourOf_18 N 0 p n (nI a) (nI (G (373 + 6 * G (579 + 44 * k + 1) + a) + sumN (fun c => G (5 + 46 * c + a) * G (579 + 44 * k + 2 + c)) i)) (nI i) M = some (M, nI (colK G k a)) := by
    intro n
    induction n with
    | zero => intro i a1 a2; omega
    | succ n ih =>
      intro i a1 a2
      rw [L_X3_colourOf_18, m0]
      by_cases hi : i = G 0
      · rw [if_pos (nI_le (by omega) (by omega)), hi]
        rfl
      · rw [if_neg (nI_ge (a := i) (by omega) (by omega)), ck_nI (by omega) (by decide), ck_nI (by omega) (by decide), ck_nI (by omega) (by decide), nI_clamp (by omega), nI_clamp (by omega), h.m ((loc_c i (by omega)).1 a ha) (vis_c (by omega) (by omega) (by omega)) (p := 0 + 5 + 5 * i + 1) (by omega), h.m ((loc_k k hk20).2.2.2.2 i (by omega)) (vis_hi (by omega)) (p := p + 1) (by omega), pk_mul, nI_add, xl_v, nI_1, xl_v, Nat.add_assoc (G (373 + 6 * G (579 + 44 * k + 1) + a))]
        exact ih (i + 1) (by omega) (by omega)
  unfold F_X3_colourOf
  rw [e1, ck_nI hb6 (by decide), ck_nI ha (by decide), nI_clamp (by omega), nI_clamp (by omega), h.m ((loc_b _ hb6).1 a ha) (vis_hi (by omega)) (p := 0 + 45 + 2 * G (579 + 44 * k + 1) + 1) (by omega), xl_v]
  exact loop N 0 (by omega) (by omega)
theorem valueOf_ok {N k a : Nat} {M : xM} {R : xM} {G : Nat → Nat} {B : Nat → Nat → Nat → Bool} (hN : 20 ≤ N) (h : DS M 0 (R.1 1) G B) (hk : k < G 3) (ha : a < 3) : F_X10_valueOf N (nI k) (nI a) R = some (R, nI (colK G k a)) := by
  have hg := h.2.2.2.2
  have hk20 : k < 20 := by have := hg.1; omega
  obtain ⟨q1, q2, q3, q4⟩ := (hg.2.2.2.2 k hk20).1 hk
  have hb6 : G (579 + 44 * k + 1) < 6 := by have := hg.1; omega
  have hg0 : G 0 ≤ 8 := hg.1.1
  have r0 : R.1 1 (0 : Int32).toNatClampNeg = nI (G 0) := h.n0.1.2
  have loop : ∀ n i, i ≤ G 0 → G 0 < n + i → L_X10_valueOf_15 N n (nI k) (nI a) (nI (G (373 + 6 * G (579 + 44 * k + 1) + a) + sumN (fun c => G (5 + 46 * c + a) * G (579 + 44 * k + 2 + c)) i)) (nI i) R = some (R, nI (colK G k a)) := by
    intro n
    induction n with
    | zero => intro i a1 a2; omega
    | succ n ih =>
      intro i a1 a2
      rw [L_X10_valueOf_15, r0]
      by_cases hi : i = G 0
      · rw [if_pos (nI_le (by omega) (by omega)), hi]
        rfl
      · rw [if_neg (nI_ge (a := i) (by omega) (by omega)), rdC h.2.2.1 (by omega) (by omega), xbd_some, show (2 : Int32) + nI i = nI (2 + i) from nI_add 2 i, rdK h.2.2.1 hk20 (by omega), xbd_some, show 579 + 44 * k + (2 + i) = 579 + 44 * k + 2 + i by omega, pk_mul, nI_add, xl_v, nI_1, xl_v, Nat.add_assoc (G (373 + 6 * G (579 + 44 * k + 1) + a))]
        exact ih (i + 1) (by omega) (by omega)
  unfold F_X10_valueOf
  rw [show F_X10_canAt N (nI k) 1 R = _ from rdK (k := 1) h.2.2.1 hk20 (by omega), xbd_some, rdB h.2.2.1 hb6 (by omega), xbd_some, xl_v]
  exact loop N 0 (by omega) (by omega)
theorem o_23 {N : Nat} (hN : 12000 ≤ N) {v1 v2 v3 v4 v5 v6 : Int32} {M R : xM} (h : Rel M R) : ∃ q, zOp_23 N v1 v2 v3 v4 v5 v6 M R = some q ∧ Rel q.1 q.2 := by
  refine zAgr (hd := h2) ?_
  obtain ⟨⟨G, B, hd⟩, hx⟩ := id h
  obtain ⟨-, -, -, ⟨m3, r3⟩, -⟩ := hd.n0
  have hb := hd.2.2.2.2.1
  rcases zCan (N := N) (n := G 3) (by omega) m3 r3 v1 with ⟨k, hk, rfl, e1, e2⟩ | ⟨e1, e2⟩
  · have hk20 : k < 20 := by omega
    rcases zRange (N := N) v2 0 2 M R with ⟨l1, l2, e3, e4⟩ | ⟨e3, e4⟩
    · obtain ⟨x, hx1, hx2, rfl⟩ := zNat (a := 0) (b := 2) rfl rfl l1 l2
      refine Agr.ok (v := nI (colK G k x)) h ?_ ?_
      · unfold F_X9_colour
        rw [e1, xbd_some, xth_inl, e3, xbd_some, xth_inl, ck_nI (by omega) (by decide), nI_clamp (by omega), hd.colour (by omega) hk (by omega) (p := 0 + 87 + 3 * k) (by omega)]
        rfl
      · unfold F_X10_colour
        rw [e2, xbd_some, if_neg i1n, e4, xbd_some, if_neg i1n, show F_X10_valueOf N (nI k) (nI x) (R, (1 : Int32)).1 = _ from valueOf_ok (by omega) hd hk (by omega)]
        rfl
    · refine Agr.no (E := "java/lang/IllegalArgumentException") (k := 2) (w := 0) h rfl (by decide) ?_ ?_
      · unfold F_X9_colour; rw [e1, xbd_some, xth_inl, e3]; rfl
      · unfold F_X10_colour; rw [e2, xbd_some, if_neg i1n, e4]; rfl
  · refine Agr.no (E := "java/lang/IndexOutOfBoundsException") (k := 1) (w := 0) h rfl (by decide) ?_ ?_
    · unfold F_X9_colour; rw [e1]; rfl
    · unfold F_X10_colour; rw [e2]; rfl
theorem DS.mixed {N b : Nat} {M : xM} {r : Nat → Int32} {G : Nat → Nat} {B : Nat → Nat → Nat → Bool} (h : DS M 0 r G B) (hN : 30 ≤ N) (hb : b < 6) : F_X3_countCansOfBase N 0 (nI b) M = some (M, nI (G (373 + 6 * b + 5))) := by
  have hg := h.2.2.2.2
  have hg3 : G 3 ≤ 20 := hg.1.2.2.2.1
  have hg1 : G 1 ≤ 6 := hg.1.2.1
  have m3 := h.n0.2.2.2.1.1
  have loop : ∀ n i, i ≤ G 3 → G 3 < n + i → L_X3_countCansOfBase_4 N 0 n (nI b) (nI (cntN (fun k => decide (G (579 + 44 * k + 1) = b)) i)) (nI i) M = some (M, nI (cntN (fun k => decide (G (579 + 44 * k + 1) = b)) (G 3))) := by
    intro n
    induction n with
    | zero => intro i a1 a2; omega
    | succ n ih =>
      intro i a1 a2
      rw [L_X3_countCansOfBase_4, m3]
      by_cases hi : i = G 3
      · rw [if_pos (nI_le (by omega) (by omega)), hi]
      · have q := ((hg.2.2.2.2 i (by omega)).1 (by omega)).2.2.1
        have ec : cntN (fun k => decide (G (579 + 44 * k + 1) = b)) (i + 1) = cntN (fun k => decide (G (579 + 44 * k + 1) = b)) i + (if decide (G (579 + 44 * i + 1) = b) = true then 1 else 0) := rfl
        rw [if_neg (nI_ge (a := i) (by omega) (by omega)), ck_nI (by omega) (by decide), nI_clamp (by omega), h.m (loc_k i (by omega)).2.1 (vis_hi (by omega)) (p := 0 + 87 + 3 * i) (by omega)]
        have i2 := ih (i + 1) (by omega) (by omega)
        rw [ec] at i2
        by_cases hq : G (579 + 44 * i + 1) = b
        · rw [if_pos (congrArg nI hq), nI_1, xl_v]
          unfold L_X3_countCansOfBase_28
          rw [nI_1, xl_v]
          rw [if_pos (decide_eq_true hq)] at i2
          exact i2
        · rw [if_neg (fun e => hq ((nI_eq (by omega) (by omega)).mp e))]
          unfold L_X3_countCansOfBase_28
          rw [nI_1, xl_v]
          rw [if_neg (by rw [decide_eq_true_iff]; exact hq)] at i2
          exact i2
  unfold F_X3_countCansOfBase
  rw [(hg.2.2.1 b hb).2.2.2]
  exact loop N 0 (by omega) (by omega)
theorem o_9 {N : Nat} (hN : 12000 ≤ N) {v1 v2 v3 v4 v5 v6 : Int32} {M R : xM} (h : Rel M R) : ∃ q, zOp_9 N v1 v2 v3 v4 v5 v6 M R = some q ∧ Rel q.1 q.2 := by
  refine zAgr (hd := h2) ?_
  obtain ⟨⟨G, B, hd⟩, hx⟩ := id h
  obtain ⟨-, ⟨m1, r1⟩, -⟩ := hd.n0
  have hb := hd.2.2.2.2.1
  have r1' : R.1 1 (1 : Int32).toNatClampNeg = nI (G 1) := r1
  rcases zBas (N := N) (n := G 1) (by omega) (R := R) m1 v1 with ⟨b, hb1, rfl, e1, e2⟩ | ⟨e1, e2⟩
  · have hb6 : b < 6 := by omega
    have hl := loc_b b hb6
    rcases zRange (N := N) v2 0 5 M R with ⟨l1, l2, e3, e4⟩ | ⟨e3, e4⟩
    · obtain ⟨x, hx1, hx2, rfl⟩ := zNat (a := 0) (b := 5) rfl rfl l1 l2
      refine Agr.ok (v := nI (G (373 + 6 * b + x))) h ?_ ?_
      · unfold F_X9_base
        rw [e1, xbd_some, xth_inl, e3, xbd_some, xth_inl]
        unfold F_X3_baseNumberFor
        rw [ck_nI hb6 (by decide), nI_clamp (by omega)]
        have hc9 : x = 0 ∨ x = 1 ∨ x = 2 ∨ x = 3 ∨ x = 4 ∨ x = 5 := by omega
        rcases hc9 with rfl | rfl | rfl | rfl | rfl | rfl
        · rw [if_pos (by decide)]
          refine congrArg (fun z => some (M, Sum.inl z)) (hd.m (hl.1 0 (by omega)) (vis_hi (by omega)) (p := 0 + 45 + 2 * b + 1) (by omega))
        · rw [if_neg (by decide), if_pos (by decide)]
          refine congrArg (fun z => some (M, Sum.inl z)) (hd.m (hl.1 1 (by omega)) (vis_hi (by omega)) (p := 0 + 45 + 2 * b + 1) (by omega))
        · rw [if_neg (by decide), if_neg (by decide), if_pos (by decide)]
          refine congrArg (fun z => some (M, Sum.inl z)) (hd.m (hl.1 2 (by omega)) (vis_hi (by omega)) (p := 0 + 45 + 2 * b + 1) (by omega))
        · rw [if_neg (by decide), if_neg (by decide), if_neg (by decide), if_pos (by decide)]
          refine congrArg (fun z => some (M, Sum.inl z)) (hd.m hl.2.1 (vis_hi (by omega)) (p := 0 + 45 + 2 * b) (by omega))
        · rw [if_neg (by decide), if_neg (by decide), if_neg (by decide), if_neg (by decide), if_pos (by decide)]
          refine congrArg (fun z => some (M, Sum.inl z)) (hd.m hl.2.2 (vis_hi (by omega)) (p := 0 + 45 + 2 * b) (by omega))
        · rw [if_neg (by decide), if_neg (by decide), if_neg (by decide), if_neg (by decide), if_neg (by decide), hd.mixed (by omega) hb6]
          rfl
      · unfold F_X10_base
        rw [r1', e2, xbd_some, if_neg i1n, e4, xbd_some, if_neg i1n, show F_X10_baseAt N (nI b) (nI x) (R, (1 : Int32)).1 = _ from rdB hd.2.2.1 hb6 (by omega)]
        rfl
    · refine Agr.no (E := "java/lang/IllegalArgumentException") (k := 2) (w := 0) h rfl (by decide) ?_ ?_
      · unfold F_X9_base; rw [e1, xbd_some, xth_inl, e3]; rfl
      · unfold F_X10_base; rw [r1', e2, xbd_some, if_neg i1n, e4]; rfl
  · refine Agr.no (E := "java/lang/IndexOutOfBoundsException") (k := 1) (w := 0) h rfl (by decide) ?_ ?_
    · unfold F_X9_base; rw [e1]; rfl
    · unfold F_X10_base; rw [r1', e2]; rfl
