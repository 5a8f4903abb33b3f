/-! possible: the class counts, the reference tries -/
def PS (G G1 : Nat → Nat) (f m : Nat) : Prop := (G1 0 = G 0 ∧ G1 1 = G 1 ∧ G1 2 = G 2 ∧ G1 3 = G 3 + m) ∧ (G1 (409 + 17 * f) = G (409 + 17 * f) ∧ G1 (373 + 6 * G (409 + 17 * f) + 3) = G (373 + 6 * G (409 + 17 * f) + 3) ∧ G1 (373 + 6 * G (409 + 17 * f) + 4) + m = G (373 + 6 * G (409 + 17 * f) + 4)) ∧ ∀ c, c < G 0 → G1 (409 + 17 * f + 1 + c) = G (409 + 17 * f + 1 + c) ∧ G1 (409 + 17 * f + 9 + c) = (G (409 + 17 * f + 1 + c) * m + G (409 + 17 * f + 9 + c)) % 100 ∧ inC G1 c + SF G f m c = inC G c
theorem PS.st {G G1 : Nat → Nat} {f m c : Nat} (h : PS G G1 f m) (hc : c < G 0) : SF G f m c + stF G1 f c = SF G f (m + 1) c ∧ carF1 G1 f c = (G (409 + 17 * f + 1 + c) * (m + 1) + G (409 + 17 * f + 9 + c)) % 100 := by
  obtain ⟨a1, a2, -⟩ := h.2.2 c hc
  unfold SF stF carF1
  rw [a1, a2, Nat.mul_succ]
  omega
theorem PS.why {G G1 : Nat → Nat} {B B1 : Nat → Nat → Nat → Bool} {f m : Nat} (h : PS G G1 f m) (hg : GI G B) (hg1 : GI G1 B1) (hf : f < G 2) : (whyF G1 f = 0 ↔ (G 3 + m ≠ 20 ∧ G (373 + 6 * G (409 + 17 * f) + 4) ≠ m ∧ sumN (fun c => SF G f (m + 1) c - SF G f m c) (G 0) ≤ G (373 + 6 * G (409 + 17 * f) + 3) ∧ lackF G f (m + 1) = -1)) := by
  obtain ⟨⟨p0, p1, p2, p3⟩, ⟨b0, b3, b4⟩, pc⟩ := id h
  have e1 : sumN (stF G1 f) (G1 0) = sumN (fun c => SF G f (m + 1) c - SF G f m c) (G 0) := by
    rw [p0]
    refine sumN_cong (fun c hc => ?_)
    have := (h.st hc).1
    omega
  have e2 : lackF G1 f 1 = lackF G f (m + 1) := by
    unfold lackF
    rw [p0]
    refine low_cong (fun c hc => ?_)
    rw [SF_1]
    have t1 := (h.st hc).1
    have t2 := (pc c hc).2.2
    by_cases q : inC G1 c < stF G1 f c
    · rw [decide_eq_true q, decide_eq_true (show inC G c < SF G f (m + 1) c by omega)]
    · rw [decide_eq_false q, decide_eq_false (show ¬ inC G c < SF G f (m + 1) c by omega)]
  unfold whyF
  rw [b0, b3, e1, e2, p3]
  by_cases q1 : G 3 + m = 20
  · rw [if_pos q1]
    exact ⟨fun e => absurd e (by decide), fun e => absurd q1 e.1⟩
  · rw [if_neg q1]
    by_cases q2 : G1 (373 + 6 * G (409 + 17 * f) + 4) = 0
    · rw [if_pos q2]
      exact ⟨fun e => absurd e (by decide), fun e => absurd (by omega) e.2.1⟩
    · rw [if_neg q2]
      by_cases q3 : sumN (fun c => SF G f (m + 1) c - SF G f m c) (G 0) ≤ G (373 + 6 * G (409 + 17 * f) + 3)
      · rw [if_pos q3]
        by_cases q4 : lackF G f (m + 1) = -1
        · rw [if_pos q4]
          exact ⟨fun _ => ⟨q1, by omega, q3, q4⟩, fun _ => rfl⟩
        · rw [if_neg q4]
          exact ⟨fun e => absurd e (by decide), fun e => absurd e.2.2.2 q4⟩
      · rw [if_neg q3]
        exact ⟨fun e => absurd e (by decide), fun e => absurd e.2.2.1 q3⟩
/-- one more can -/
theorem PS.next {G G1 G2 : Nat → Nat} {B1 : Nat → Nat → Nat → Bool} {f m : Nat} {R : xM} (h : PS G G1 f m) (hR : ∀ i, i < 1460 → R.1 1 i = nI (G1 i)) (hg1 : GI G1 B1) (hf : f < G 2) (h3 : G1 3 < 20) (hs : ∀ c, c < G1 0 → stF G1 f c ≤ sumL (LG G1 c)) (hst : 1 ≤ G1 (373 + 6 * G1 (409 + 17 * f) + 4)) (hr : RG G1 G2 f (G1 3) (G1 (409 + 17 * f))) : PS G G2 f (m + 1) := by
  obtain ⟨⟨p0, p1, p2, p3⟩, ⟨b0, b3, b4⟩, pc⟩ := id h
  obtain ⟨e, ⟨y3, ys, ym, -⟩, q1, q2, q3⟩ := hr
  have hf10 : f < 10 := by have := hg1.1; omega
  have hb := (hg1.2.2.2.1 f hf10).1 (by omega)
  have hb6 : G1 (409 + 17 * f) < 6 := by have := hg1.1; omega
  have g8 := hg1.1.1
  rw [b0] at ys hst e hb6
  refine ⟨⟨?_, ?_, ?_, by omega⟩, ⟨?_, ?_, by omega⟩, fun c hc => ?_⟩
  · rw [e 0 (by unfold RA; omega)]; exact p0
  · rw [e 1 (by unfold RA; omega)]; exact p1
  · rw [e 2 (by unfold RA; omega)]; exact p2
  · rw [e _ (by unfold RA; omega)]; exact b0
  · rw [e _ (by unfold RA; omega)]; exact b3
  · obtain ⟨c1, c2, c3⟩ := pc c hc
    obtain ⟨t1, t2⟩ := h.st hc
    obtain ⟨s1, s2, s3, s4⟩ := q1 c (by omega)
    refine ⟨?_, ?_, ?_⟩
    · rw [e _ (by unfold RA; omega)]; exact c1
    · rw [s2, t2]
    · have h9 := hg1.2.1 c (by omega)
      have z1 := pumpL_sum (hs c (by omega))
      have z2 := inC_LG hR (by omega) h9
      omega
theorem o_18 {N : Nat} (hN : 12000 ≤ N) {v1 v2 v3 v4 v5 v6 : Int32} {M R : xM} (h : Rel M R) : ∃ q, zOp_18 N v1 v2 v3 v4 v5 v6 M R = some q ∧ Rel q.1 q.2 := by
  refine zAgr (hd := hI) ?_
  obtain ⟨⟨G, B, hd⟩, hx⟩ := id h
  obtain ⟨-, -, ⟨m2, r2⟩, ⟨m3, r3⟩, -⟩ := hd.n0
  have hg := hd.2.2.2.2
  have hb := hg.1
  rcases zFor (N := N) (n := G 2) (by omega) m2 r2 v1 with ⟨f, hf, rfl, e1, e2⟩ | ⟨e1, e2⟩
  · have hf10 : f < 10 := by omega
    have hbG := (hg.2.2.2.1 f hf10).1 hf
    have hb6 : G (409 + 17 * f) < 6 := by omega
    have hstk := (hg.2.2.1 _ hb6).2.2.1
    obtain ⟨most, hmost⟩ : ∃ most, most = (if 20 - G 3 < G (373 + 6 * G (409 + 17 * f) + 4) then 20 - G 3 else G (373 + 6 * G (409 + 17 * f) + 4)) := ⟨_, rfl⟩
    have hml : most ≤ 20 - G 3 ∧ most ≤ G (373 + 6 * G (409 + 17 * f) + 4) ∧ (most = 20 - G 3 ∨ most = G (373 + 6 * G (409 + 17 * f) + 4)) := by
      rw [hmost]
      split <;> omega
    obtain ⟨R1, c1, c2, c3, c4⟩ := rcopy (N := N) (k0 := 1) (n0 := 1460) (k2 := 4) (n2 := 1460) (o1 := 0) (o2 := 0) (R := R) (by omega) (by omega) (by omega) (by omega) (by omega) (by omega)
    have c4' : ∀ j, j < 1460 → R1.1 4 j = R.1 1 j := fun j hj => by
      rw [c4 j, if_pos (by omega)]
      exact congrArg (R.1 1) (by omega)
    have both : ∀ n m (R2 : xM), m ≤ most → most < n + m → (∃ G1 B1, (∀ i, i < 1460 → R2.1 1 i = nI (G1 i)) ∧ BG (R2.1 1) B1 ∧ GI G1 B1 ∧ PS G G1 f m) → (∀ p, p ≠ 0 → p ≠ 1 → R2.1 p = R1.1 p) → (∀ s, s ≠ 15 → R2.1 0 s = R1.1 0 s) → ∃ X R3, L_X3_cansPossible_25 N 0 (57 + 3 * f) n (nI most) (nI (m + 1)) M = some (M, nI X) ∧ L_X10_possible_29 N n (nI f) (nI m) R2 = some (xS R3 0 (upd (R3.1 0) 0 0), nI X) ∧ (∀ j, j < 1460 → R3.1 1 j = R.1 1 j) ∧ (∀ p, p ≠ 0 → p ≠ 1 → R3.1 p = R1.1 p) ∧ ∀ s, s ≠ 15 → R3.1 0 s = R1.1 0 s := by
      intro n
      induction n with
      | zero => intro m R2 a1 a2; omega
      | succ n ih =>
        intro m R2 a1 a2 a3 a4 a5
        obtain ⟨G1, B1, b1, b2, b3, b4⟩ := a3
        have hf1 : f < G1 2 := by rw [b4.1.2.2.1]; exact hf
        obtain ⟨Rh, g1, g2, g3, g4, -⟩ := hinders_ok (N := N) (by omega) b1 b3 hf1
        -- the reference's end
        have fin : ¬ whyF G1 f = 0 → ∃ R3, L_X10_possible_29 N (n + 1) (nI f) (nI m) R2 = some (xS R3 0 (upd (R3.1 0) 0 0), nI m) ∧ (∀ j, j < 1460 → R3.1 1 j = R.1 1 j) ∧ (∀ p, p ≠ 0 → p ≠ 1 → R3.1 p = R1.1 p) ∧ ∀ s, s ≠ 15 → R3.1 0 s = R1.1 0 s := fun hw => by
          obtain ⟨R3, d1, d2, d3, d4⟩ := rcopy (N := N) (k0 := 4) (n0 := 1460) (k2 := 1) (n2 := 1460) (o1 := 0) (o2 := 0) (R := Rh) (by omega) (by omega) (by omega) (by omega) (by omega) (by omega)
          have hwle : whyF G1 f < 2 ^ 31 := by
            have : whyF G1 f ≤ 5 := by
              unfold whyF
              split
              · omega
              · split
                · omega
                · split
                  · split <;> omega
                  · omega
            omega
          refine ⟨R3, ?_, fun j hj => ?_, fun p p0 p1 => ?_, fun s hs => ?_⟩
          · rw [L_X10_possible_29, g1, xbd_some, if_neg (show ¬ (Rh, nI (whyF G1 f)).2 = 0 from nI_ne0 (by omega) hwle), show F_X10_copy N 4 1460 1 1460 0 0 (Rh, nI (whyF G1 f)).1 = some (R3, 0) from d1, xbd_some]
            rfl
          · rw [d4 j, if_pos (by omega), g3 4 (by omega), a4 4 (by omega) (by omega)]
            rw [show 0 + (j - 0) = j by omega]
            exact c4' j hj
          · rw [d3 p p1, g3 p p0, a4 p p0 p1]
          · rw [d3 0 (by omega), g4 s hs, a5 s hs]
        have hw := b4.why hg b3 hf
        by_cases hm : m = most
        · have hw0 : ¬ whyF G1 f = 0 := fun e => by
            have := hw.mp e
            omega
          obtain ⟨R3, z1, z2, z3, z4⟩ := fin hw0
          refine ⟨m, R3, ?_, z1, z2, z3, z4⟩
          rw [L_X3_cansPossible_25, if_pos (nI_lt (by omega) (by omega)), hm]
        · have m100 : m + 1 ≤ 100 := by omega
          rw [L_X3_cansPossible_25, if_neg (nI_nlt (by omega) (by omega)), hd.stays (m := m) (by omega) hf m100 rfl, xbd_some]
          by_cases q3 : sumN (fun c => SF G f (m + 1) c - SF G f m c) (G 0) ≤ G (373 + 6 * G (409 + 17 * f) + 3)
          · rw [if_pos q3, if_neg (show ¬ (M, (1 : Int32)).2 = 0 from by show ¬ (1 : Int32) = 0; decide), show F_X3_firstLacking N 0 (57 + 3 * f) (nI (m + 1)) (M, (1 : Int32)).1 = _ from hd.lack (by omega) hf m100 rfl, xbd_some]
            by_cases q4 : lackF G f (m + 1) = -1
            · have hw0 : whyF G1 f = 0 := hw.mpr ⟨by omega, by omega, q3, q4⟩
              rw [if_pos (show (M, lackF G f (m + 1)).2 = (-1 : Int32) from q4), nI_1, xl_v]
              have gh : ∀ i, i < 1460 → Rh.1 1 i = nI (G1 i) := fun i hi => by rw [g3 1 (by omega)]; exact b1 i hi
              have bh : BG (Rh.1 1) B1 := by rw [g3 1 (by omega)]; exact b2
              rcases whyF_cases b1 b3 hf1 with ⟨-, w1, w2, w3, w4⟩ | w9
              · obtain ⟨R4, k1, k2⟩ := mixesR_ok (N := N) (R := Rh) (by omega) gh bh b3 hf1 w1 w4 w2
                have hb61 : G1 (409 + 17 * f) < 6 := by rw [b4.2.1.1]; exact hb6
                obtain ⟨G2, s1, s2⟩ := k2.rg gh b3 hf1 w1 hb61 w4
                have hgi2 := s2.gi (B1 := fun k2 d q => (B1 k2 d q || (decide (k2 = G1 3) && (decide (d < G1 0) && pumpN (LG G1 d) (stF G1 f d) q)))) b3 hf1 w1 w3 w2 (fun _ _ _ _ _ _ => rfl)
                obtain ⟨X, R3, z1, z2, z3, z4, z5⟩ := ih (m + 1) R4 (by omega) (by omega) ⟨G2, _, s1, fun k2' d q hk2 hd8 hq => k2.2.2.2.2.2.2 k2' d q hk2 hd8 hq, hgi2, b4.next gh b3 hf w1 w4 w2 s2⟩ (fun p p0 p1 => by rw [k2.2.2.2.2.2.1 p p1, g3 p p0, a4 p p0 p1]) (fun s hs => by rw [k2.2.2.2.2.2.1 0 (by omega), g4 s hs, a5 s hs])
                refine ⟨X, R3, z1, ?_, z3, z4, z5⟩
                rw [L_X10_possible_29, g1, xbd_some, if_pos (show (Rh, nI (whyF G1 f)).2 = 0 from by show nI (whyF G1 f) = 0; rw [hw0]; rfl), k1, xbd_some, xl_v, nI_1, xl_v]
                exact z2
              · omega
            · have hw0 : ¬ whyF G1 f = 0 := fun e => q4 (hw.mp e).2.2.2
              obtain ⟨R3, z1, z2, z3, z4⟩ := fin hw0
              rw [if_neg (show ¬ (M, lackF G f (m + 1)).2 = (-1 : Int32) from q4)]
              refine ⟨m, R3, ?_, z1, z2, z3, z4⟩
              rw [nI_pred]
          · have hw0 : ¬ whyF G1 f = 0 := fun e => q3 (hw.mp e).2.2.1
            obtain ⟨R3, z1, z2, z3, z4⟩ := fin hw0
            rw [if_neg q3, if_pos (show (M, (0 : Int32)).2 = 0 from rfl)]
            refine ⟨m, R3, ?_, z1, z2, z3, z4⟩
            rw [nI_pred]
    obtain ⟨X, R3, z1, z2, z3, z4, z5⟩ := both N 0 R1 (Nat.zero_le _) (by omega) ⟨G, B, fun i hi => by rw [c3 1 (by omega)]; exact hd.2.2.1 i hi, by rw [c3 1 (by omega)]; exact hd.2.2.2.1, hg, ⟨rfl, rfl, rfl, rfl⟩, ⟨rfl, rfl, rfl⟩, fun c hc => ⟨rfl, by
        obtain ⟨b1, b2, -⟩ := (hg.2.2.2.1 f hf10).2 c (by omega)
        rw [Nat.mul_zero, Nat.zero_add, Nat.mod_eq_of_lt (by omega)], by rw [SF_0 hg hf10 (by omega)]; rfl⟩⟩ (fun _ _ _ => rfl) (fun _ _ => rfl)
    refine Or.inl ⟨M, xS R3 0 (upd (R3.1 0) 0 0), nI X, ?_, ?_, xS_in, ?_⟩
    · unfold F_X9_possible F_X3_cansPossible
      rw [e1, xbd_some, xth_inl, ck_nI hf10 (by decide), nI_clamp (by omega), show (0 : Nat) + 57 + 3 * f = 57 + 3 * f by omega, hd.m (loc_f f hf10).1 (vis_hi (by omega)) (p := 57 + 3 * f) (by omega), ck_nI hb6 (by decide), nI_clamp (by omega), hd.m (loc_b _ hb6).2.2 (vis_hi (by omega)) (p := 0 + 45 + 2 * G (409 + 17 * f)) (by omega), m3, show (20 : Int32) - nI (G 3) = nI (20 - G 3) from pk_sub (a := 20) (by omega), show (if nI (20 - G 3) < nI (G (373 + 6 * G (409 + 17 * f) + 4)) then nI (20 - G 3) else nI (G (373 + 6 * G (409 + 17 * f) + 4))) = nI most from by
        rw [hmost]
        by_cases q : 20 - G 3 < G (373 + 6 * G (409 + 17 * f) + 4)
        · rw [if_pos q, if_pos (nI_lt q (by omega))]
        · rw [if_neg q, if_neg (nI_nlt (by omega) (by omega))], xl_v, show L_X3_cansPossible_25 N 0 (57 + 3 * f) N (nI most) 1 M = some (M, nI X) from z1]
      rfl
    · unfold F_X10_possible
      rw [e2, xbd_some, if_neg i1n, show F_X10_copy N 1 1460 4 1460 0 0 (R, (1 : Int32)).1 = some (R1, 0) from c1, xbd_some]
      exact z2
    · refine Rel.thrown ?_
      have zr : ∀ p, p ≠ 0 → p ≠ 1 → p ≠ 4 → R3.1 p = R.1 p := fun p p0 p1 p4 => by rw [z4 p p0 p1, c3 p p4]
      have zs : ∀ s, s ≠ 15 → R3.1 0 s = R.1 0 s := fun s hs => by rw [z5 s hs, c3 0 (by omega)]
      exact ⟨⟨G, B, hd.cong (fun k hk => rfl) (fun k hk => rfl) (fun i hi => z3 i hi)⟩, hx.cong sameX.rf ⟨zr 2 (by omega) (by omega) (by omega), zr 3 (by omega) (by omega) (by omega), zr 5 (by omega) (by omega) (by omega), zs 3 (by omega), zs 5 (by omega), zs 7 (by omega), zs 8 (by omega), zs 10 (by omega), zs 11 (by omega)⟩⟩
  · refine Agr.no (E := "java/lang/IndexOutOfBoundsException") (k := 1) (w := 0) h rfl (by decide) ?_ ?_
    · unfold F_X9_possible; rw [e1]; rfl
    · unfold F_X10_possible; rw [e2]; rfl
