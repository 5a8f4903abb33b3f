/-! closest -/
def dist (a b : Nat) : Nat := if b ≤ a then a - b else b - a
theorem abs_ok {a b : Nat} (ha : a < 1073741824) (hb : b < 1073741824) : (if 0 ≤ nI a - nI b then nI a - nI b else 0 - (nI a - nI b)) = nI (dist a b) := by
  unfold dist
  by_cases h : b ≤ a
  · rw [pk_sub h, if_pos (nI_pos' (by omega)), if_pos h]
  · have e := pk_sub_toInt (a := a) (b := b) (by omega) (by omega)
    rw [if_neg (by rw [Int32.le_iff_toInt_le, e]; show ¬ (0 : Int) ≤ _; omega), if_neg h]
    refine Int32.toInt_inj.mp ?_
    rw [zSub (x := 0) (a := 0) rfl e (by omega) (by omega), nI_toInt (by omega)]
    omega
theorem sumN_mem {f : Nat → Nat} {i : Nat} : ∀ {n : Nat}, i < n → f i ≤ sumN f n
  | 0, h => absurd h (Nat.not_lt_zero _)
  | n + 1, h => by
    show f i ≤ sumN f n + f n
    by_cases e : i = n
    · rw [e]; omega
    · have := sumN_mem (f := f) (n := n) (i := i) (by omega)
      omega
theorem sumN_le {f : Nat → Nat} {b : Nat} : ∀ {n : Nat}, (∀ i, i < n → f i ≤ b) → sumN f n ≤ n * b
  | 0, _ => Nat.zero_le _
  | n + 1, h => by
    show sumN f n + f n ≤ (n + 1) * b
    have h1 := sumN_le (f := f) (n := n) (fun i hi => h i (by omega))
    have h2 := h n (by omega)
    rw [Nat.succ_mul]
    omega
def dF (G : Nat → Nat) (f k c : Nat) : Nat := dist (G (409 + 17 * f + 1 + c)) (100 * G (579 + 44 * k + 2 + c))
theorem GI.step200 {G : Nat → Nat} {B : Nat → Nat → Nat → Bool} (h : GI G B) {k c : Nat} (hk : k < G 3) (hc : c < 8) : G (579 + 44 * k + 2 + c) ≤ 200 ∧ allK G k ≤ 200 := by
  have hk20 : k < 20 := by have := h.1; omega
  obtain ⟨q1, q2, q3, q4⟩ := (h.2.2.2.2 k hk20).1 hk
  have hb6 : G (579 + 44 * k + 1) < 6 := by have := h.1; omega
  have h2 := (h.2.2.1 _ hb6).2.1
  have h3 : G (579 + 44 * k + 2 + c) ≤ allK G k := sumN_mem (f := fun c => G (579 + 44 * k + 2 + c)) hc
  omega
theorem dF_le {G : Nat → Nat} {B : Nat → Nat → Nat → Bool} (h : GI G B) {f k c : Nat} (hf : f < 10) (hk : k < G 3) (hc : c < 8) : dF G f k c ≤ 20000 := by
  have h1 := (h.step200 hk hc).1
  have h2 := ((h.2.2.2.1 f hf).2 c hc).1
  unfold dF dist
  split <;> omega
theorem DS.diff {N f k p p2 : Nat} {M : xM} {r : Nat → Int32} {G : Nat → Nat} {B : Nat → Nat → Nat → Bool} (h : DS M 0 r G B) (hN : 20 ≤ N) (hf : f < 10) (hk : k < G 3) (hp : p = 57 + 3 * f) (hp2 : p2 = 87 + 3 * k) : F_X4_differenceFrom N p p2 M = some (M, nI (sumN (dF G f k) 8)) := by
  have hg := h.2.2.2.2
  have hk20 : k < 20 := by have := hg.1; omega
  have loop : ∀ n i, i ≤ 8 → 8 < n + i → L_X4_differenceFrom_4 N p p2 n (nI (sumN (dF G f k) i)) (nI i) M = some (M, nI (sumN (dF G f k) 8)) := by
    intro n
    induction n with
    | zero => intro i a1 a2; omega
    | succ n ih =>
      intro i a1 a2
      rw [L_X4_differenceFrom_4]
      by_cases hi : i = 8
      · subst hi
        rw [if_pos (show (8 : Int32) ≤ nI 8 from by decide)]
      · have h1 := (hg.step200 hk (c := i) (by omega)).1
        have h2 := ((hg.2.2.2.1 f hf).2 i (by omega)).1
        rw [if_neg (show ¬ (8 : Int32) ≤ nI i from nI_ge (a := i) (b := 8) (by omega) (by omega)), ck_nI (by omega) (by decide), ck_nI (by omega) (by decide), nI_clamp (by omega), h.m ((loc_f f hf).2 i (by omega)).1 (vis_hi (by omega)) (p := p + 1) (by omega), h.m ((loc_k k hk20).2.2.2.2 i (by omega)) (vis_hi (by omega)) (p := p2 + 1) (by omega), show nI (G (579 + 44 * k + 2 + i)) * 100 = nI (100 * G (579 + 44 * k + 2 + i)) from (pk_mul _ 100).trans (congrArg nI (Nat.mul_comm _ _)), abs_ok (by omega) (by omega), nI_add, xl_v, nI_1, xl_v]
        exact ih (i + 1) (by omega) (by omega)
  exact loop N 0 (by omega) (by omega)
theorem closest_in {N f k : Nat} {M R : xM} {G : Nat → Nat} {B : Nat → Nat → Nat → Bool} (h : DS M 0 (R.1 1) G B) (hN : 20 ≤ N) (hf : f < G 2) (hk : k < G 3) {K : Int32 → Int32 → Int32 → Int32 → xM → Option xR} {v2 v3 : Int32} : L_X10_closest_38 N K N (nI k) v2 v3 (nI f) 0 0 R = (if G (409 + 17 * f) = G (579 + 44 * k + 1) then (if v2 = -1 then K (nI k) (nI f) (nI (sumN (dF G f k) 8)) (nI (f + 1)) R else (if v3 ≤ nI (sumN (dF G f k) 8) then K (nI k) v2 v3 (nI (f + 1)) R else K (nI k) (nI f) (nI (sumN (dF G f k) 8)) (nI (f + 1)) R)) else K (nI k) v2 v3 (nI (f + 1)) R) := by
  have hg := h.2.2.2.2
  have hR := h.2.2.1
  have hf10 : f < 10 := by have := hg.1; omega
  have hk20 : k < 20 := by have := hg.1; omega
  have hg0 : G 0 ≤ 8 := hg.1.1
  have r0 : R.1 1 (0 : Int32).toNatClampNeg = nI (G 0) := h.n0.1.2
  have e8 : sumN (dF G f k) 8 = sumN (dF G f k) (G 0) := sumN_ext hg0 (fun c a1 a2 => by
    have h1 := ((hg.2.2.2.1 f hf10).2 c a2).2.2
    have h2 := ((hg.2.2.2.2 k hk20).2.1 c a2).2
    unfold dF
    rw [show G (409 + 17 * f + 1 + c) = 0 by omega, show G (579 + 44 * k + 2 + c) = 0 by omega]
    rfl)
  obtain ⟨q1, q2, q3, q4⟩ := (hg.2.2.2.2 k hk20).1 hk
  have hb6 : G (579 + 44 * k + 1) < 6 := by have := hg.1; omega
  have hfb := (hg.2.2.2.1 f hf10).1 hf
  have hg1 : G 1 ≤ 6 := hg.1.2.1
  have loop : ∀ n i, i ≤ G 0 → G 0 < n + i → L_X10_closest_38 N K n (nI k) v2 v3 (nI f) (nI (sumN (dF G f k) i)) (nI i) R = (if G (409 + 17 * f) = G (579 + 44 * k + 1) then (if v2 = -1 then K (nI k) (nI f) (nI (sumN (dF G f k) 8)) (nI (f + 1)) R else (if v3 ≤ nI (sumN (dF G f k) 8) then K (nI k) v2 v3 (nI (f + 1)) R else K (nI k) (nI f) (nI (sumN (dF G f k) 8)) (nI (f + 1)) R)) else K (nI k) v2 v3 (nI (f + 1)) R) := by
    intro n
    induction n with
    | zero => intro i a1 a2; omega
    | succ n ih =>
      intro i a1 a2
      rw [L_X10_closest_38, r0]
      by_cases hi : i = G 0
      · rw [if_pos (nI_le (by omega) (by omega)), show (409 : Int32) + 17 * nI f = nI (409 + 17 * f) from by show nI 409 + nI 17 * nI f = _; rw [pk_mul, nI_add], ck_nI (by omega) (by decide), show F_X10_canAt N (nI k) 1 R = _ from rdK (k := 1) hR hk20 (by omega), xbd_some, nI_clamp (by omega), hR _ (by omega), hi, ← e8]
        dsimp only
        have e3 : ∀ (a b : Int32), L_X10_closest_147 N K (nI k) a b (nI f) R = K (nI k) a b (nI (f + 1)) R := fun a b => by
          unfold L_X10_closest_147
          rw [nI_1, xl_v]
        have e4 : L_X10_closest_141 N (L_X10_closest_147 N K) (nI k) (nI f) (nI (sumN (dF G f k) 8)) R = K (nI k) (nI f) (nI (sumN (dF G f k) 8)) (nI (f + 1)) R := e3 _ _
        rw [e4, e3]
        by_cases hq : G (409 + 17 * f) = G (579 + 44 * k + 1)
        · rw [if_pos (congrArg nI hq), if_pos hq]
        · rw [if_neg (fun e => hq ((nI_eq (by omega) (by omega)).mp e)), if_neg hq]
      · have h1 := (hg.step200 hk (c := i) (by omega)).1
        have h2 := ((hg.2.2.2.1 f hf10).2 i (by omega)).1
        rw [if_neg (nI_ge (a := i) (by omega) (by omega)), show (((409 : Int32) + 17 * nI f) + 1) + nI i = nI (409 + 17 * f + 1 + i) from by show nI 409 + nI 17 * nI f + nI 1 + nI i = _; rw [pk_mul, nI_add, nI_add, nI_add], ck_nI (by omega) (by decide), show (2 : Int32) + nI i = nI (2 + i) from nI_add 2 i, rdK hR hk20 (by omega), xbd_some, show 579 + 44 * k + (2 + i) = 579 + 44 * k + 2 + i by omega, nI_clamp (by omega), hR _ (by omega)]
        dsimp only
        rw [show 100 * nI (G (579 + 44 * k + 2 + i)) = nI (100 * G (579 + 44 * k + 2 + i)) from pk_mul 100 _, xl_v]
        have e := abs_ok (a := G (409 + 17 * f + 1 + i)) (b := 100 * G (579 + 44 * k + 2 + i)) (by omega) (by omega)
        have e5 : ∀ z, z = nI (dF G f k i) → L_X10_closest_98 N (L_X10_closest_38 N K n) (nI k) v2 v3 (nI f) (nI i) z (nI (sumN (dF G f k) i)) R = L_X10_closest_38 N K n (nI k) v2 v3 (nI f) (nI (sumN (dF G f k) (i + 1))) (nI (i + 1)) R := fun z hz => by
          unfold L_X10_closest_98
          rw [hz, nI_add, xl_v, nI_1, xl_v]
          rfl
        by_cases h0 : 0 ≤ nI (G (409 + 17 * f + 1 + i)) - nI (100 * G (579 + 44 * k + 2 + i))
        · rw [if_pos h0] at e ⊢
          rw [e5 _ e]
          exact ih (i + 1) (by omega) (by omega)
        · rw [if_neg h0] at e ⊢
          rw [e5 _ ((Int32.zero_sub _).symm.trans e)]
          exact ih (i + 1) (by omega) (by omega)
  exact loop N 0 (by omega) (by omega)
theorem o_16 {N : Nat} (hN : 12000 ≤ N) {v1 v2 v3 v4 v5 v6 : Int32} {M R : xM} (h : Rel M R) : ∃ q, zOp_16 N v1 v2 v3 v4 v5 v6 M R = some q ∧ Rel q.1 q.2 := by
  refine zAgr (hd := hI) ?_
  obtain ⟨⟨G, B, hd⟩, hx⟩ := id h
  obtain ⟨-, -, ⟨m2, r2⟩, ⟨m3, r3⟩, -⟩ := hd.n0
  have hg := hd.2.2.2.2
  have hb := hg.1
  have r2' : R.1 1 (2 : Int32).toNatClampNeg = nI (G 2) := r2
  rcases zCan (N := N) (n := G 3) (by omega) m3 r3 v1 with ⟨k, hk, rfl, e1, e2⟩ | ⟨e1, e2⟩
  · have hk20 : k < 20 := by omega
    obtain ⟨q1, q2, q3, q4⟩ := (hg.2.2.2.2 k hk20).1 hk
    obtain ⟨D, hD⟩ : ∃ D : Nat → Nat, D = fun f => sumN (dF G f k) 8 := ⟨_, rfl⟩
    have hDf : ∀ f, sumN (dF G f k) 8 = D f := fun f => by rw [hD]
    have hDl : ∀ f, f < 10 → D f ≤ 160000 := fun f hf => by
      rw [← hDf]
      exact sumN_le (f := dF G f k) (b := 20000) (n := 8) (fun i hi => dF_le hg hf hk hi)
    have hP : ∀ f, f < G 2 → G (409 + 17 * f) < 6 := fun f hf => by have := (hg.2.2.2.1 f (by omega)).1 hf; omega
    have hb6 : G (579 + 44 * k + 1) < 6 := by omega
    -- the class
    have clX : ∀ n m F, m ≤ G 2 → m < n → F < G 2 → G (409 + 17 * F) = G (579 + 44 * k + 1) → (∀ g, m ≤ g → g < G 2 → G (409 + 17 * g) = G (579 + 44 * k + 1) → D F < D g ∨ D F = D g ∧ F ≤ g) → ∃ E, E < G 2 ∧ L_X3_closestFormula_24 N 0 (0 + 87 + 3 * k) n (nI F) (nI (D F)) (nI m - 1) M = some (M, nI E) ∧ G (409 + 17 * E) = G (579 + 44 * k + 1) ∧ ∀ g, g < G 2 → G (409 + 17 * g) = G (579 + 44 * k + 1) → D E < D g ∨ D E = D g ∧ E ≤ g := by
      intro n
      induction n with
      | zero => intro m F a1 a2; omega
      | succ n ih =>
        intro m F a1 a2 a3 a4 a5
        rw [L_X3_closestFormula_24]
        cases m with
        | zero =>
          rw [if_pos (by decide)]
          exact ⟨F, a3, rfl, a4, fun g => a5 g (Nat.zero_le _)⟩
        | succ m =>
          rw [nI_pred, if_neg (nI_pos (by omega)), ck_nI (by omega) (by decide), nI_clamp (by omega), hd.diff (f := m) (k := k) (by omega) (by omega) hk (by omega) (by omega), xbd_some, hDf]
          dsimp only
          rw [xl_v, ck_nI (by omega) (by decide), hd.m (loc_f m (by omega)).1 (vis_hi (by omega)) (p := 0 + 57 + 3 * m) (by omega), hd.m (loc_k k hk20).2.1 (vis_hi (by omega)) (p := 0 + 87 + 3 * k) (by omega)]
          have e71 : ∀ a b, L_X3_closestFormula_71 N 0 (0 + 87 + 3 * k) (L_X3_closestFormula_24 N 0 (0 + 87 + 3 * k) n) a b (nI m) M = L_X3_closestFormula_24 N 0 (0 + 87 + 3 * k) n a b (nI m - 1) M := fun a b => by
            unfold L_X3_closestFormula_71
            rw [i_m1, xl_v]
          rw [e71, e71]
          by_cases hq : G (409 + 17 * m) = G (579 + 44 * k + 1)
          · rw [if_pos (congrArg nI hq)]
            have hl := hDl m (by omega)
            by_cases hc : D F < D m
            · rw [if_pos (nI_lt hc (by omega))]
              refine ih m F (by omega) (by omega) a3 a4 (fun g b1 b2 b3 => ?_)
              by_cases e : g = m
              · subst e; exact Or.inl hc
              · exact a5 g (by omega) b2 b3
            · rw [if_neg (nI_nlt (by omega) (by have := hDl F (by omega); omega))]
              refine ih m m (by omega) (by omega) (by omega) hq (fun g b1 b2 b3 => ?_)
              by_cases e : g = m
              · subst e; exact Or.inr ⟨rfl, Nat.le_refl _⟩
              · have := a5 g (by omega) b2 b3
                omega
          · rw [if_neg (fun e => hq ((nI_eq (by have := hP m (by omega); omega) (by omega)).mp e))]
            refine ih m F (by omega) (by omega) a3 a4 (fun g b1 b2 b3 => ?_)
            by_cases e : g = m
            · subst e; exact absurd b3 hq
            · exact a5 g (by omega) b2 b3
    -- the reference
    have clR : ∀ n m (w2 w3 : Int32), m ≤ G 2 → G 2 < n + m → ((w2 = -1 ∧ ∀ g, g < m → ¬ G (409 + 17 * g) = G (579 + 44 * k + 1)) ∨ ∃ F, F < m ∧ w2 = nI F ∧ w3 = nI (D F) ∧ G (409 + 17 * F) = G (579 + 44 * k + 1) ∧ ∀ g, g < m → G (409 + 17 * g) = G (579 + 44 * k + 1) → D F < D g ∨ D F = D g ∧ F ≤ g) → ∃ E, E < G 2 ∧ L_X10_closest_21 N n (nI k) w2 w3 (nI m) R = some (xS R 0 (upd (R.1 0) 0 0), nI E) ∧ G (409 + 17 * E) = G (579 + 44 * k + 1) ∧ ∀ g, g < G 2 → G (409 + 17 * g) = G (579 + 44 * k + 1) → D E < D g ∨ D E = D g ∧ E ≤ g := by
      intro n
      induction n with
      | zero => intro m w2 w3 a1 a2; omega
      | succ n ih =>
        intro m w2 w3 a1 a2 a3
        rw [L_X10_closest_21, r2']
        by_cases hm : m = G 2
        · subst hm
          rw [if_pos (nI_le (Nat.le_refl _) (by omega))]
          rcases a3 with ⟨b1, b2⟩ | ⟨F, b1, b2, b3, b4, b5⟩
          · exact absurd q2.symm (b2 _ q1)
          · rw [b2]
            exact ⟨F, b1, rfl, b4, b5⟩
        · rw [if_neg (nI_ge (a := m) (by omega) (by omega)), closest_in hd (by omega) (by omega) hk, hDf]
          by_cases hq : G (409 + 17 * m) = G (579 + 44 * k + 1)
          · rw [if_pos hq]
            rcases a3 with ⟨b1, b2⟩ | ⟨F, b1, b2, b3, b4, b5⟩
            · rw [if_pos b1]
              refine ih (m + 1) _ _ (by omega) (by omega) (Or.inr ⟨m, by omega, rfl, rfl, hq, fun g c1 c2 => ?_⟩)
              by_cases e : g = m
              · subst e; exact Or.inr ⟨rfl, Nat.le_refl _⟩
              · exact absurd c2 (b2 g (by omega))
            · have hl := hDl m (by omega)
              have hl2 := hDl F (by omega)
              rw [b2, b3, if_neg (fun e => by
                have t := congrArg Int32.toInt e
                rw [nI_toInt (by omega)] at t
                have : (-1 : Int32).toInt = -1 := rfl
                omega)]
              by_cases hc : D F ≤ D m
              · rw [if_pos (nI_le hc (by omega))]
                refine ih (m + 1) _ _ (by omega) (by omega) (Or.inr ⟨F, by omega, rfl, rfl, b4, fun g c1 c2 => ?_⟩)
                by_cases e : g = m
                · subst e; omega
                · exact b5 g (by omega) c2
              · rw [if_neg (nI_ge (by omega) (by omega))]
                refine ih (m + 1) _ _ (by omega) (by omega) (Or.inr ⟨m, by omega, rfl, rfl, hq, fun g c1 c2 => ?_⟩)
                by_cases e : g = m
                · subst e; exact Or.inr ⟨rfl, Nat.le_refl _⟩
                · have := b5 g (by omega) c2
                  omega
          · rw [if_neg hq]
            refine ih (m + 1) _ _ (by omega) (by omega) ?_
            rcases a3 with ⟨b1, b2⟩ | ⟨F, b1, b2, b3, b4, b5⟩
            · refine Or.inl ⟨b1, fun g c1 => ?_⟩
              by_cases e : g = m
              · subst e; exact hq
              · exact b2 g (by omega)
            · refine Or.inr ⟨F, by omega, b2, b3, b4, fun g c1 c2 => ?_⟩
              by_cases e : g = m
              · subst e; exact absurd c2 hq
              · exact b5 g (by omega) c2
    obtain ⟨E1, x1, x2, x3, x4⟩ := clX N (G 2) (G (579 + 44 * k)) (Nat.le_refl _) (by omega) q1 q2.symm (fun g b1 b2 => by omega)
    obtain ⟨E2, y1, y2, y3, y4⟩ := clR N 0 (-1) 0 (by omega) (by omega) (Or.inl ⟨rfl, fun g b => by omega⟩)
    have eE : E1 = E2 := by
      have s1 := x4 E2 y1 y3
      have s2 := y4 E1 x1 x3
      omega
    subst eE
    refine Agr.ok (v := nI E1) h ?_ ?_
    · unfold F_X9_closest F_X3_closestFormula
      rw [e1, xbd_some, xth_inl, ck_nI (by omega) (by decide), nI_clamp (by omega), hd.m (loc_k k hk20).1 (vis_hi (by omega)) (p := 0 + 87 + 3 * k) (by omega), xl_v, ck_nI (by omega) (by decide), nI_clamp (by omega), hd.diff (f := G (579 + 44 * k)) (k := k) (by omega) (by omega) hk (by omega) (by omega), xbd_some, hDf]
      dsimp only
      rw [xl_v, m2, xl_v, x2]
      rfl
    · unfold F_X10_closest
      rw [e2, xbd_some, if_neg i1n]
      exact y2
  · refine Agr.no (E := "java/lang/IndexOutOfBoundsException") (k := 1) (w := 0) h rfl (by decide) ?_ ?_
    · unfold F_X9_closest; rw [e1]; rfl
    · unfold F_X10_closest; rw [e2]; rfl
