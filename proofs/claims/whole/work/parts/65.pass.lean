/-! pass -/
theorem PQ.th {G : Nat → Nat} {R0 R : xM} {day : Nat} {th th2 : Nat → Nat} (h : PQ G R0 R day th) (e : ∀ c, c < G 0 → th2 c = th c) : PQ G R0 R day th2 := by
  obtain ⟨a1, a2, a3, a4, a5⟩ := h
  exact ⟨a1, fun c hc => by rw [e c hc]; exact a2 c hc, a3, a4, a5⟩
theorem gone_th {G : Nat → Nat} {th th2 : Nat → Nat} (e : ∀ c, c < G 0 → th2 c = th c) : gone G th2 = gone G th := sumN_cong (fun c hc => by rw [e c hc])
theorem pass_in {N : Nat} {G : Nat → Nat} {R0 : xM} {day : Nat} {v1 : Int32} {K : Int32 → Int32 → Int32 → xM → Option xR} {j : Nat} (hN : 30 ≤ N) (h0 : G 0 ≤ 8) (r00 : R0.1 1 0 = nI (G 0)) (hday : day ≤ 400) (hg : ∀ c, c < 8 → GIc G c) : ∀ n i (th : Nat → Nat) (R : xM), i ≤ G 0 → G 0 < n + i → (∀ c, th c ≤ day) → PQ G R0 R day th → ∃ R1, L_X10_pass_56 N K n v1 (nI (gone G th)) (nI j) (nI i) R = K v1 (nI (gone G (fun c => if i ≤ c then day else th c))) (nI (j + 1)) R1 ∧ PQ G R0 R1 day (fun c => if i ≤ c then day else th c) := by
  intro n
  induction n with
  | zero => intro i th R a1 a2; omega
  | succ n ih =>
    intro i th R a1 a2 a3 h
    have r0 : R.1 1 (0 : Int32).toNatClampNeg = nI (G 0) := (h.2.2.2.1 0 (by omega)).trans r00
    rw [L_X10_pass_56, r0]
    by_cases hi : i = G 0
    · rw [if_pos (nI_le (by omega) (by omega)), nI_1, xl_v]
      have e : ∀ c, c < G 0 → (if i ≤ c then day else th c) = th c := fun c hc => if_neg (by omega)
      refine ⟨R, ?_, h.th e⟩
      rw [gone_th (th := th) (th2 := fun c => if i ≤ c then day else th c) e]
    · rw [if_neg (nI_ge (a := i) (by omega) (by omega))]
      obtain ⟨R1, δ, w1, w2, w3⟩ := h.step (N := N) hN h0 (i := i) (by omega) (a3 i) hday hg
      rw [w1, xbd_some, nI_add, xl_v, nI_1, xl_v, ← w3]
      obtain ⟨R2, z1, z2⟩ := ih (i + 1) (fun c => if c = i then day else th c) R1 (by omega) (by omega) (fun c => by split; exact Nat.le_refl _; exact a3 c) w2
      have e : (fun c => if i + 1 ≤ c then day else (fun c => if c = i then day else th c) c) = fun c => if i ≤ c then day else th c := by
        funext c
        dsimp only
        by_cases q : c = i
        · rw [if_neg (by omega), if_pos q, if_pos (by omega)]
        · by_cases q2 : i + 1 ≤ c
          · rw [if_pos q2, if_pos (by omega)]
          · rw [if_neg q2, if_neg q, if_neg (by omega)]
      rw [e] at z1 z2
      exact ⟨R2, z1, z2⟩
abbrev thj (d j : Nat) : Nat → Nat := fun _ => if j = 0 then 0 else d + j
theorem pass_out {N : Nat} {G : Nat → Nat} {R0 : xM} {x : Nat} (hN : 200 ≤ N) (h0 : G 0 ≤ 8) (r00 : R0.1 1 0 = nI (G 0)) (hx : x ≤ 99) (hd : G 4 + x ≤ 400) (hg : ∀ c, c < 8 → GIc G c) : ∀ n j (R : xM), j ≤ x → x < n + j → PQ G R0 R (G 4 + j) (thj (G 4) j) → ∃ R1, L_X10_pass_38 N n (nI x) (nI (gone G (thj (G 4) j))) (nI j) R = some (xS R1 0 (upd (R1.1 0) 0 0), nI (gone G (thj (G 4) x))) ∧ PQ G R0 R1 (G 4 + x) (thj (G 4) x) := by
  intro n
  induction n with
  | zero => intro i R a1 a2; omega
  | succ n ih =>
    intro j R a1 a2 h
    rw [L_X10_pass_38]
    by_cases hj : j = x
    · subst hj
      rw [if_pos (nI_le (Nat.le_refl _) (by omega))]
      exact ⟨R, rfl, h⟩
    · rw [if_neg (nI_ge (a := j) (by omega) (by omega))]
      have r4 : R.1 1 (4 : Int32).toNatClampNeg = nI (G 4 + j) := h.1
      rw [r4, nI_1, xl_v]
      have h1 : PQ G R0 (xS R 1 (upd (R.1 1) (4 : Int32).toNatClampNeg (nI (G 4 + j + 1)))) (G 4 + j + 1) (thj (G 4) j) := by
        obtain ⟨b1, b2, b3, b4, b5⟩ := h
        have e : ∀ s, s ≠ 4 → (xS R 1 (upd (R.1 1) (4 : Int32).toNatClampNeg (nI (G 4 + j + 1)))).1 1 s = R.1 1 s := fun s hs => xS_f (s := 4) hs
        refine ⟨xS_in (s := 4), fun c hc => ⟨(b2 c hc).1.cong (((LG_ok (hg c (by omega))).filter _).1) (fun k q1 q2 => e k (by omega)), (e _ (by omega)).trans (b2 c hc).2⟩, fun c hc t ht => (e _ (by omega)).trans (b3 c hc t ht), fun k hk => ?_, fun k hk => (xS_ne hk).trans (b5 k hk)⟩
        by_cases k4 : k = 4
        · omega
        · exact (e k k4).trans (b4 k hk)
      obtain ⟨R1, w1, w2⟩ := pass_in (N := N) (K := L_X10_pass_38 N n) (v1 := nI x) (j := j) (by omega) h0 r00 (day := G 4 + j + 1) (by omega) hg N 0 _ _ (by omega) (by omega) (fun c => by show (if j = 0 then 0 else G 4 + j) ≤ G 4 + j + 1; split <;> omega) h1
      have e : ∀ c, c < G 0 → thj (G 4) (j + 1) c = (fun c => if 0 ≤ c then G 4 + j + 1 else thj (G 4) j c) c := fun c hc => by
        show (if j + 1 = 0 then 0 else G 4 + (j + 1)) = (if 0 ≤ c then G 4 + j + 1 else thj (G 4) j c)
        rw [if_neg (by omega), if_pos (by omega)]
        omega
      have w3 := w2.th e
      obtain ⟨R2, z1, z2⟩ := ih (j + 1) R1 (by omega) (by omega) w3
      refine ⟨R2, ?_, z2⟩
      rw [← gone_th (th := fun c => if 0 ≤ c then G 4 + j + 1 else thj (G 4) j c) (th2 := thj (G 4) (j + 1)) e] at w1
      exact w1.trans z1
/-- the class, at once -/
def QM (G : Nat → Nat) (M0 M : xM) (d i : Nat) : Prop := (∀ c, c < i → CM M (5 + 5 * c) (young (LG G c) d) ∧ M.1 (5 + 5 * c) 5 = nI (G (5 + 46 * c + 43) + sumL (old (LG G c) d)) ∧ (∀ s, s ≠ 6 → s ≠ 5 → M.1 (5 + 5 * c) s = M0.1 (5 + 5 * c) s) ∧ M.1 (6 + 5 * c) = M0.1 (6 + 5 * c)) ∧ (∀ k, (k < 5 ∨ 5 + 5 * i ≤ k) → M.1 k = M0.1 k) ∧ M.2 = M0.2
theorem goToDay_ok {N d : Nat} {M : xM} {r : Nat → Int32} {G : Nat → Nat} {B : Nat → Nat → Nat → Bool} (hN : 30 ≤ N) (h : DS M 0 r G B) (hd : d ≤ 400) : ∃ M1, F_X3_goToDay N 0 (nI d) M = some (M1, nI (gone G (fun _ => d))) ∧ QM G (xS M 0 (upd (M.1 0) 8 (nI d))) M1 d (G 0) := by
  obtain ⟨M0, hM0⟩ : ∃ M0, M0 = xS M 0 (upd (M.1 0) 8 (nI d)) := ⟨_, rfl⟩
  have hg := h.2.2.2.2
  have h0 : G 0 ≤ 8 := hg.1.1
  have n0 : M0.1 0 4 = nI (G 0) := by rw [hM0, xS_f (by omega)]; exact h.n0.1.1
  have n8 : M0.1 0 8 = nI d := by rw [hM0]; exact xS_in
  have np : ∀ k, k ≠ 0 → M0.1 k = M.1 k := fun k hk => by rw [hM0, xS_ne hk]
  have loop : ∀ n i (M2 : xM), i ≤ G 0 → G 0 < n + i → QM G M0 M2 d i → ∃ M1, L_X3_goToDay_9 N 0 n (nI (sumN (fun c => sumL (old (LG G c) d)) i)) (nI i) M2 = some (M1, nI (gone G (fun _ => d))) ∧ QM G M0 M1 d (G 0) := by
    intro n
    induction n with
    | zero => intro i M2 a1 a2; omega
    | succ n ih =>
      intro i M2 a1 a2 hq
      have m0 : M2.1 0 = M0.1 0 := hq.2.1 0 (by omega)
      rw [L_X3_goToDay_9, m0, n0, n8]
      by_cases hi : i = G 0
      · subst hi
        rw [if_pos (nI_le (Nat.le_refl _) (by omega))]
        exact ⟨M2, rfl, hq⟩
      · have ce := h.ce (c := i) (by omega)
        have lo := LG_ok (hg.2.1 i (by omega))
        have mi : ∀ k, 5 + 5 * i ≤ k → M2.1 k = M.1 k := fun k hk => (hq.2.1 k (Or.inr hk)).trans (np k (by omega))
        obtain ⟨M3, f1, f2, f3, f4, f5⟩ := waste_ok (N := N) (p := 5 + 5 * i) (q := d) hN (ce.1.cong (fun k q1 q2 => mi k q1)) lo (by omega)
        rw [if_neg (nI_ge (a := i) (by omega) (by omega)), ck_nI (by omega) (by decide), nI_clamp (by omega), show (0 : Nat) + 5 + 5 * i = 5 + 5 * i by omega, f1, xbd_some, nI_add, xl_v, nI_1, xl_v]
        obtain ⟨M4, hM4⟩ : ∃ M4, M4 = xS M3 (5 + 5 * i) (upd (M3.1 (5 + 5 * i)) 5 (M3.1 (5 + 5 * i) 5 + nI (sumL (old (LG G i) d)))) := ⟨_, rfl⟩
        have k4 : ∀ k, k < 5 + 5 * i ∨ 10 + 5 * i ≤ k ∨ k = 6 + 5 * i → M4.1 k = M2.1 k := fun k hk => by rw [hM4, xS_ne (by omega), f4 k (by omega) (by omega) (by omega) (by omega)]
        have hq4 : QM G M0 M4 d (i + 1) := by
          refine ⟨fun c hc => ?_, fun k hk => ?_, ?_⟩
          · by_cases e : c = i
            · subst e
              refine ⟨⟨?_, ?_⟩, ?_, fun s a b => ?_, ?_⟩
              · rw [hM4, xS_f (by omega)]; exact f2.1
              · rw [hM4, xS_ne (by omega), xS_ne (by omega), xS_ne (by omega)]; exact f2.2
              · rw [hM4, xS_in, f5 5 (by omega), mi _ (Nat.le_refl _), ce.2.2.2.2.2.2.1, h.2.2.1 _ (by omega), nI_add]
              · rw [hM4, xS_f b, f5 s a, mi _ (Nat.le_refl _), np _ (by omega)]
              · rw [k4 _ (by omega), mi _ (by omega), np _ (by omega)]
            · obtain ⟨b1, b2, b3, b4⟩ := hq.1 c (by omega)
              refine ⟨b1.cong (fun k q1 q2 => k4 k (by omega)), by rw [k4 _ (by omega)]; exact b2, fun s a b => by rw [k4 _ (by omega)]; exact b3 s a b, by rw [k4 _ (by omega)]; exact b4⟩
          · rw [k4 k (by omega)]; exact hq.2.1 k (by omega)
          · rw [hM4]; exact f3.trans hq.2.2
        have := ih (i + 1) M4 (by omega) (by omega) hq4
        rw [hM4] at this
        exact this
  obtain ⟨M1, z1, z2⟩ := loop N 0 M0 (by omega) (by omega) ⟨fun c hc => by omega, fun k _ => rfl, rfl⟩
  rw [← hM0]
  refine ⟨M1, ?_, z2⟩
  unfold F_X3_goToDay
  rw [← hM0, xl_v]
  exact z1
theorem o_6 {N : Nat} (hN : 12000 ≤ N) {v1 v2 v3 v4 v5 v6 : Int32} {M R : xM} (h : Rel M R) : ∃ q, zOp_6 N v1 v2 v3 v4 v5 v6 M R = some q ∧ Rel q.1 q.2 := by
  refine zAgr (hd := fun (M8 : xM) (E : String) => if E = "java/lang/IllegalArgumentException" then some (M8, 1) else none) ?_
  obtain ⟨⟨G, B, hd⟩, hx⟩ := id h
  obtain ⟨⟨m0, r0⟩, -, -, -, m4, r4⟩ := hd.n0
  have hb := hd.2.2.2.2.1
  rcases zRange (N := N) v1 1 99 M R with ⟨l1, l2, e3, e4⟩ | ⟨e3, e4⟩
  · obtain ⟨x, hx1, hx2, rfl⟩ := zNat (a := 1) (b := 99) rfl rfl l1 l2
    have r4' : R.1 1 (4 : Int32).toNatClampNeg = nI (G 4) := r4
    by_cases h4 : G 4 + x ≤ 400
    · have e5 : F_X9_requireRange N (nI (G 4 + x)) 0 400 M = some (M, Sum.inl 0) := by
        unfold F_X9_requireRange
        rw [if_neg (nI_pos (by omega)), if_pos (show nI (G 4 + x) ≤ (400 : Int32) from nI_le (b := 400) h4 (by omega))]
      obtain ⟨M1, R1, k1, k2, kx, km, kr, ks⟩ := keep_ok hN h
      have hd1 : DS M1 0 (R1.1 1) G B := hd.cong (fun k hk => (km _ (by omega)).1) (fun k hk => (km _ (by omega)).2) (fun i hi => by rw [kr 1 (by omega) (by omega)])
      have hg := hd1.2.2.2.2
      have hr := hd1.2.2.1
      have n4 : M1.1 0 8 = nI (G 4) := hd1.n0.2.2.2.2.1
      obtain ⟨M2, f1, f2, f3, f4⟩ := goToDay_ok (N := N) (d := G 4 + x) (by omega) hd1 h4
      obtain ⟨R2, g1, g2⟩ := pass_out (N := N) (G := G) (R0 := R1) (x := x) (by omega) hb.1 hd1.n0.1.2 hx2 h4 hg.2.1 N 0 R1 (by omega) (by omega) ⟨hd1.n0.2.2.2.2.2, fun c hc => by
          show CR (R1.1 1) (5 + 46 * c) (young (LG G c) 0) ∧ R1.1 1 (5 + 46 * c + 43) = nI (G (5 + 46 * c + 43) + sumL (old (LG G c) 0))
          rw [young_0, old_0]
          exact ⟨(hd1.ce (by omega)).2.1, hr _ (by omega)⟩, fun _ _ _ _ => rfl, fun _ _ => rfl, fun _ _ => rfl⟩
      have eth : thj (G 4) x = fun _ => G 4 + x := by funext c; exact if_neg (by omega)
      have ez : gone G (thj (G 4) 0) = 0 := by
        show sumN (fun c => sumL (old (LG G c) 0)) (G 0) = 0
        rw [sumN_cong (g := fun _ => 0) (fun c hc => by rw [old_0]; rfl)]
        exact sumN_0 _
      rw [eth] at g1 g2
      rw [ez] at g1
      obtain ⟨p1, p2, p3, p4, p5⟩ := g2
      refine Or.inl ⟨M2, xS R2 0 (upd (R2.1 0) 0 0), nI (gone G (fun _ => G 4 + x)), ?_, ?_, xS_in, ?_⟩
      · unfold F_X9_pass
        rw [e3, xbd_some, xth_inl, m4, nI_add, e5, xbd_some, xth_inl, k1, xbd_some]
        dsimp only
        rw [n4, nI_add, f1]
        rfl
      · unfold F_X10_pass
        rw [e4, xbd_some, if_neg i1n]
        dsimp only
        rw [r4', nI_add, if_pos (show nI (G 4 + x) ≤ (400 : Int32) from nI_le (b := 400) h4 (by omega)), k2, xbd_some]
        exact g1
      · obtain ⟨G1, hd6⟩ := hd1.cans (M1 := M2) (r1 := R2.1 1) (d := G 4 + x) (fun s a b => by rw [f3 0 (by omega)]; exact xS_f (by omega)) h4 (by rw [f3 0 (by omega)]; exact xS_in) p1 (fun j q1 q2 => p4 j (by omega)) (fun k q1 q2 => by rw [f3 k (by omega)]; exact xS_ne (by omega)) (fun k hk => by rw [f4]; rfl) (fun c hc => by
          have ce1 := hd1.ce hc
          have lo := LG_ok (hg.2.1 c hc)
          by_cases hc0 : c < G 0
          · obtain ⟨a1, a2, a3, a4⟩ := f2 c hc0
            obtain ⟨b1, b2⟩ := p2 c hc0
            have a3' : ∀ s, s ≠ 6 → s ≠ 5 → M2.1 (5 + 5 * c) s = M1.1 (5 + 5 * c) s := fun s q1 q2 => (a3 s q1 q2).trans (congrFun (xS_ne (by omega)) s)
            have a4' : M2.1 (6 + 5 * c) = M1.1 (6 + 5 * c) := a4.trans (xS_ne (by omega))
            have b3 := p3 c hc0
            refine ⟨young (LG G c) (G 4 + x), ⟨a1, b1, fun a ha => ?_, ?_, ?_, ?_, ?_, ?_⟩, lo.filter _, fun a ha => b3 a (by omega), G (5 + 46 * c + 44), (hg.2.1 c hc).2.2.1, ?_⟩
            · rw [a4', b3 a (by omega)]; exact ce1.2.2.1 a ha
            · rw [a3' _ (by omega) (by omega), b3 4 (by omega)]; exact ce1.2.2.2.1
            · rw [a3' _ (by omega) (by omega), b3 5 (by omega)]; exact ce1.2.2.2.2.1
            · rw [a3' _ (by omega) (by omega), b3 6 (by omega)]; exact ce1.2.2.2.2.2.1
            · rw [a2, b2]
            · rw [a3' _ (by omega) (by omega), b3 44 (by omega)]; exact ce1.2.2.2.2.2.2.2
            · rw [b3 44 (by omega)]; exact hr _ (by omega)
          · refine ⟨LG G c, ce1.cong lo.1 (fun k q1 q2 => by rw [f3 k (by omega)]; exact xS_ne (by omega)) (fun j q1 q2 => p4 j (by omega)), lo, fun a ha => p4 _ (by omega), G (5 + 46 * c + 44), (hg.2.1 c hc).2.2.1, by rw [p4 _ (by omega)]; exact hr _ (by omega)⟩)
        exact (Rel.after (M := M1) (R := R1) kx ⟨fun k q1 q2 => by rw [f3 k (by omega)]; exact xS_ne (by omega), fun k q1 q2 => by rw [f4]; rfl⟩ ⟨p5 2 (by omega), p5 3 (by omega), p5 5 (by omega), by rw [p5 0 (by omega)], by rw [p5 0 (by omega)], by rw [p5 0 (by omega)], by rw [p5 0 (by omega)], by rw [p5 0 (by omega)], by rw [p5 0 (by omega)]⟩ hd6).thrown
    · refine Agr.no (E := "java/lang/IllegalArgumentException") (k := 1) (w := 0) h rfl (by decide) ?_ ?_
      · unfold F_X9_pass
        rw [e3, xbd_some, xth_inl, m4, nI_add]
        unfold F_X9_requireRange
        rw [if_neg (nI_pos (by omega)), if_neg (show ¬ nI (G 4 + x) ≤ (400 : Int32) from nI_ge (a := 400) (by omega) (by omega))]
        rfl
      · unfold F_X10_pass
        rw [e4, xbd_some, if_neg i1n]
        dsimp only
        rw [r4', nI_add, if_neg (show ¬ nI (G 4 + x) ≤ (400 : Int32) from nI_ge (a := 400) (by omega) (by omega))]
        rfl
  · refine Agr.no (E := "java/lang/IllegalArgumentException") (k := 1) (w := 0) h rfl (by decide) ?_ ?_
    · unfold F_X9_pass; rw [e3]; rfl
    · unfold F_X10_pass; rw [e4]; rfl
